/-! 88: range on both sides -/
theorem Fits_weightOf (N : Nat) (F : FE) (M : sw_M) (hF : HFE M F) (W : Nat → Int32) (hW : HWt M F W) (o : Nat) (ho : o < F.E.no) : f_Fits_weightOf N 42 (nI o) M = some (W o, M) := by
  have hH := hF.1
  have h6 := hF.2.2.2.2.2.2.2.2.1.2.2.2.1
  rw [f_Fits_weightOf, if_neg (nI_pos (by omega)), if_neg (show ¬ (6 : Int32) ≤ nI o from (nI_ge (by omega) (by omega) : ¬ nI 6 ≤ nI o)), ok_42 hH.1, gd_T, hr_f hH 42 2 43 rfl (by decide), ar_43 hH.1, ti_n (show o < 6 by omega) (by decide), gd_T, cl_n (by omega), hW.2.2.1 o ho]
theorem Fits_lightOf_4 (N : Nat) (F : FE) (M : sw_M) (hF : HFE M F) (W : Nat → Int32) (hW : HWt M F W) (c : Nat) (hc : c < 64) : ∀ (d t j : Nat), t + d = nu F → d < j → f_Fits_lightOf_4 N j 42 (nI c) (usS F (fun o => W o * SH F.E F.mass o c) t) (nI t) M = some (usS F (fun o => W o * SH F.E F.mass o c) (nu F), M)
  | 0, t, j, hd, hj => by
    obtain ⟨j, rfl⟩ : ∃ k, j = k + 1 := ⟨j - 1, by omega⟩
    obtain rfl : t = nu F := by omega
    have h6 := hF.2.2.2.2.2.2.2.2.1.2.2.2.1
    have hnu := nu_le F
    rw [f_Fits_lightOf_4, ok_42 hF.1.1, gd_T, hW.1, if_pos (nI_le (Nat.le_refl _) (by omega))]
  | d + 1, t, j, hd, hj => by
    obtain ⟨j, rfl⟩ : ∃ k, j = k + 1 := ⟨j - 1, by omega⟩
    have hH := hF.1
    have h6 := hF.2.2.2.2.2.2.2.2.1.2.2.2.1
    have hnu := nu_le F
    have hu := uu_lt F (show t < nu F by omega)
    obtain ⟨q1, q2, q3⟩ := hF.2.2.2.2.2.2.1 (uu F t) hu
    have hge := q2.ge
    rw [f_Fits_lightOf_4, ok_42 hH.1, gd_T, hW.1, if_neg (nI_ge (by omega) (by omega)), if_neg (show ¬ (6 : Int32) ≤ nI t from (nI_ge (by omega) (by omega) : ¬ nI 6 ≤ nI t)), hr_f hH 42 3 44 rfl (by decide), ar_44 hH.1, ti_n (show t < 6 by omega) (by decide), gd_T, hr_f hH 42 0 33 rfl (by decide), ok_33 hH.1, gd_T, cl_n (by omega), hW.2.1 t (by omega), Swarm_latest N M hH (uu F t) (by omega) q1, bn_S]
    show (if hob (uu F t) = 0 then _ else if nI c < 0 then _ else if (64 : Int32) ≤ nI c then _ else sw_gd [sw_ok M 42 1] (sw_gd [sw_ar M (rd_R M 42 3) 13 (nI t)] ((f_Fits_weightOf N 42 (rd_I M (rd_R M 42 3) t) M).bind _))) = _
    rw [if_neg (by omega), if_neg (nI_pos (by omega)), if_neg (show ¬ (64 : Int32) ≤ nI c from (nI_ge hc (by omega) : ¬ nI 64 ≤ nI c)), ok_42 hH.1, gd_T, hr_f hH 42 3 44 rfl (by decide), ar_44 hH.1, ti_n (show t < 6 by omega) (by decide), gd_T, hW.2.1 t (by omega), Fits_weightOf N F M hF W hW (uu F t) hu, bn_S]
    show sw_gd [sw_ok M (hob (uu F t)) 4] (sw_gd [sw_ar M (rd_R M (hob (uu F t)) 15) 13 (nI c)] (f_Fits_lightOf_69 N (f_Fits_lightOf_4 N j) 42 (nI c) (usS F (fun o => W o * SH F.E F.mass o c) t + W (uu F t) * rd_I M (rd_R M (hob (uu F t)) 15) (nI c).toNatClampNeg) (nI t) M)) = _
    rw [q2.ok, gd_T, q2.r15, q2.a7, ti_n hc (by decide), gd_T, cl_n (by omega), (q3.2.2.1 c hc).1, f_Fits_lightOf_69, nI_1]
    exact Fits_lightOf_4 N F M hF W hW c hc d (t + 1) j (by omega) (by omega)
theorem Fits_lightOf (N : Nat) (hN : 300 ≤ N) (F : FE) (M : sw_M) (hF : HFE M F) (W : Nat → Int32) (hW : HS M F W) (c : Nat) (hc : c < 64) : f_Fits_lightOf N 42 (nI c) M = some (lig F W c, M) := by
  have h6 := hF.2.2.2.2.2.2.2.2.1.2.2.2.1
  have hnu := nu_le F
  have := Fits_lightOf_4 N F M hF W hW.1 c hc (nu F) 0 N (by omega) (by omega)
  rw [lig_us F W hW.2.2] at this
  exact this
def bst (m b v : Int32) : Int32 := if b = -1 then v else if m = 0 then (if b ≤ v then b else v) else (if v ≤ b then b else v)
noncomputable def rF (F : FE) (val : (Nat → Int32) → Int32) (m : Int32) : Nat → Int32 → Option (Nat → Int32) → Int32
  | 0, b, _ => b
  | _ + 1, b, none => b
  | f + 1, b, some W => rF F val m f (bst m b (val W)) (NF F W)
/-- what range looks at: an ORBIT's weight, or the light of a CELL -/
noncomputable def rV (F : FE) (fl : Int32) (i : Nat) (W : Nat → Int32) : Int32 := if fl = 0 then lig F W i else W i
theorem House_range_93 (N : Nat) (hN : 200000 ≤ N) (F : FE) (hp : F.por.toInt ≤ 10) (h0 : 0 < nu F) (fl m : Int32) (x : Nat) (hx : (fl = 0 ∧ x < 64) ∨ (¬ fl = 0 ∧ x < F.E.no)) : ∀ (f i j : Nat) (b : Int32) (M : sw_M) (W : Nat → Int32), HFE M F → HS M F W → muW F W + 1 < f → f + 1 < j → i + f < 1000000 → ∃ Z, f_House_range_93 N j 1 (nI x) m fl b 1 (nI i) M = some (rF F (rV F fl x) m f b (some W), Z) ∧ Fr Awh M Z := by
  intro f
  induction f with
  | zero => intro i j b M W hF hW hf; omega
  | succ f ih =>
    intro i j b M W hF hW hf hj hi
    obtain ⟨j, rfl⟩ : ∃ k, j = k + 1 := ⟨j - 1, by omega⟩
    have hH := hF.1
    have key : ∃ Z, f_House_range_130 N (f_House_range_93 N j) 1 (nI x) m fl b (nI i) (rV F fl x W) M = some (rF F (rV F fl x) m (f + 1) b (some W), Z) ∧ Fr Awh M Z := by
      have e : f_House_range_130 N (f_House_range_93 N j) 1 (nI x) m fl b (nI i) (rV F fl x W) M = f_House_range_164 N (f_House_range_93 N j) 1 (nI x) m fl (bst m b (rV F fl x W)) (nI i) M := by
        unfold f_House_range_130 f_House_range_160 bst
        by_cases c1 : b = -1
        · rw [if_pos c1, if_pos c1]
        · rw [if_neg c1, if_neg c1]
          by_cases c2 : m = 0
          · rw [if_pos c2, if_pos c2]
            by_cases c3 : b ≤ rV F fl x W
            · rw [if_pos c3, if_pos c3]
            · rw [if_neg c3, if_neg c3]
          · rw [if_neg c2, if_neg c2]
            by_cases c3 : rV F fl x W ≤ b
            · rw [if_pos c3, if_pos c3]
            · rw [if_neg c3, if_neg c3]
      rw [e, f_House_range_164, ok_1 hH.1, gd_T, hr_f hH 1 8 42 rfl (by decide), ok_42 hH.1, gd_T, rF]
      rcases House_nx N hN F hp h0 M hF W hW with ⟨a1, Z, a2, a3⟩ | ⟨V, Z, a1, a2, a3, a4, a5⟩
      · rw [a1, a2, bn_S]
        obtain ⟨j, rfl⟩ : ∃ k, j = k + 1 := ⟨j - 1, by omega⟩
        obtain ⟨f, rfl⟩ : ∃ k, f = k + 1 := ⟨f - 1, by omega⟩
        refine ⟨Z, ?_, a3⟩
        show f_House_range_93 N (j + 1) 1 (nI x) m fl (bst m b (rV F fl x W)) 0 (nI i + 1) Z = _
        rw [f_House_range_93, nI_1, if_neg (show ¬ (1000000 : Int32) ≤ nI (i + 1) from (nI_ge (by omega) (by omega) : ¬ nI 1000000 ≤ nI (i + 1))), if_pos rfl]
        rfl
      · rw [a1, a2, bn_S]
        obtain ⟨Y, y1, y2⟩ := ih (i + 1) j (bst m b (rV F fl x W)) Z V (HFE_fr a3 hF) a4 (by omega) (by omega) (by omega)
        refine ⟨Y, ?_, a3.trans y2⟩
        show f_House_range_93 N j 1 (nI x) m fl (bst m b (rV F fl x W)) 1 (nI i + 1) Z = _
        rw [nI_1, y1]
    rw [f_House_range_93, if_neg (show ¬ (1000000 : Int32) ≤ nI i from (nI_ge (by omega) (by omega) : ¬ nI 1000000 ≤ nI i)), if_neg (by decide), ok_1 hH.1, gd_T, hr_f hH 1 8 42 rfl (by decide), ok_42 hH.1, gd_T, gd_T, gd_T]
    rcases hx with ⟨e, h⟩ | ⟨e, h⟩
    · rw [if_pos e, Fits_lightOf N (by omega) F M hF W hW x h, bn_S]
      rw [show rV F fl x W = lig F W x from if_pos e] at key
      exact key
    · rw [if_neg e, Fits_weightOf N F M hF W hW.1 x h, bn_S]
      rw [show rV F fl x W = W x from if_neg e] at key
      exact key
theorem Model_range_72 (N : Nat) (hN : 200000 ≤ N) (F : FE) (hp : F.por.toInt ≤ 10) (h0 : 0 < nu F) (fl wh m : Int32) (x : Nat) (hx : (fl = 0 ∧ ¬ wh = 0 ∧ x < 64) ∨ (¬ fl = 0 ∧ wh = 0 ∧ x < F.E.no)) : ∀ (f j : Nat) (b : Int32) (M : sw_M) (W : Nat → Int32), MFE M F → MSs M F W → muW F W + 1 < f → f + 1 < j → ∃ Z, f_Model_range_72 N j 80 wh (nI x) m b 1 M = some (rF F (rV F fl x) m f b (some W), Z) ∧ Fr Awt M Z := by
  intro f
  induction f with
  | zero => intro j b M W hF hW hf; omega
  | succ f ih =>
    intro j b M W hF hW hf hj
    obtain ⟨j, rfl⟩ : ∃ k, j = k + 1 := ⟨j - 1, by omega⟩
    have hM := hF.1
    have h6 := hF.2.2.1
    have key : ∃ Z, f_Model_range_95 N (f_Model_range_72 N j) 80 wh (nI x) m b (rV F fl x W) M = some (rF F (rV F fl x) m (f + 1) b (some W), Z) ∧ Fr Awt M Z := by
      have e : f_Model_range_95 N (f_Model_range_72 N j) 80 wh (nI x) m b (rV F fl x W) M = f_Model_range_130 N (f_Model_range_72 N j) 80 wh (nI x) m (bst m b (rV F fl x W)) M := by
        unfold f_Model_range_95 bst m_minI m_maxI
        by_cases c1 : b = -1
        · rw [if_pos c1, if_pos c1]
        · rw [if_neg c1, if_neg c1]
          by_cases c2 : m = 0
          · rw [if_pos c2, if_pos c2]
            by_cases c3 : b ≤ rV F fl x W
            · rw [if_neg (Int32.not_lt.mpr c3), if_pos c3]
            · rw [if_pos (Int32.not_le.mp c3), if_neg c3]
          · rw [if_neg c2, if_neg c2]
            by_cases c3 : rV F fl x W ≤ b
            · rw [if_neg (Int32.not_lt.mpr c3), if_pos c3]
            · rw [if_pos (Int32.not_le.mp c3), if_neg c3]
      rw [e, f_Model_range_130, ok_80 hM.1, gd_T, rF]
      rcases Model_nx N hN F hp h0 M hF W hW with ⟨a1, Z, a2, a3⟩ | ⟨V, Z, a1, a2, a3, a4, a5⟩
      · rw [a1, a2, bn_S]
        obtain ⟨j, rfl⟩ : ∃ k, j = k + 1 := ⟨j - 1, by omega⟩
        obtain ⟨f, rfl⟩ : ∃ k, f = k + 1 := ⟨f - 1, by omega⟩
        refine ⟨Z, ?_, a3⟩
        show f_Model_range_72 N (j + 1) 80 wh (nI x) m (bst m b (rV F fl x W)) 0 Z = _
        rw [f_Model_range_72, if_pos rfl]
        rfl
      · rw [a1, a2, bn_S]
        obtain ⟨Y, y1, y2⟩ := ih j (bst m b (rV F fl x W)) Z V (MFE_fr a3 hF) a4 (by omega) (by omega)
        exact ⟨Y, y1, a3.trans y2⟩
    rw [f_Model_range_72, if_neg (by decide), ok_80 hM.1, gd_T, gd_T]
    rcases hx with ⟨e, e2, h⟩ | ⟨e, e2, h⟩
    · rw [if_neg e2, Model_lightOf N (by omega) F M hF W hW.1 x h, bn_S]
      rw [show rV F fl x W = lig F W x from if_pos e] at key
      exact key
    · rw [if_pos e2, mr_84 hM, ar_120 hM.1, ti_n (show x < 6 by omega) (by decide), gd_T, cl_n (by omega), hW.1.2.2 x h]
      rw [show rV F fl x W = W x from if_neg e] at key
      exact key
