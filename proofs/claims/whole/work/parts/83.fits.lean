/-! 83: FITS on the reference's side -/
theorem nI_m2 (k : Nat) : nI (k + 1) - 2 = nI k - 1 := by
  rw [← nI_pred k, Int32.sub_sub]
  rfl
theorem Model_next_31 (N : Nat) (F : FE) (M : sw_M) (hF : MFE M F) (W : Nat → Int32) (hW : MWt M F W) (g : Nat) (hg : g + 1 < nu F) :
    ∃ Z, f_Model_nextWeights_31 N 80 (nI g) M = some (1, Z) ∧ Fr Awt M Z ∧ MWt Z F (upW (upW (upW W (uu F (nu F - 1)) 0) (uu F g) (W (uu F g) - 1)) (uu F (g + 1)) (W (uu F (nu F - 1)) + 1)) := by
  obtain ⟨w1, w2, w3⟩ := hW
  have hM := hF.1
  have h6 := hF.2.2.1
  have hnu := nu_le F
  have l0 := uu_lt F (show nu F - 1 < nu F by omega)
  have l1 := uu_lt F (show g < nu F by omega)
  have l2 := uu_lt F hg
  have n1 : ¬ uu F g = uu F (nu F - 1) := fun e => by have := uu_inj F g (nu F - 1) (by omega) (by omega) e; omega
  have e1 : nI (nu F) - 1 = nI (nu F - 1) := by
    obtain ⟨k, hk⟩ : ∃ k, nu F = k + 1 := ⟨nu F - 1, by omega⟩
    rw [hk]
    exact nI_pred k
  have u0 := w2 (nu F - 1) (by omega)
  have u1 := w2 g (by omega)
  have u2 := w2 (g + 1) hg
  have v0 := w3 (uu F (nu F - 1)) l0
  have v1 := w3 (uu F g) l1
  unfold f_Model_nextWeights_31
  rw [if_pos (nI_pos' (by omega))]
  simp only [f_Model_nextWeights_102, m_II, m_LL, m_RR, m_IL, m_IR, m_LI, m_LR, m_RI, m_RL, m_NI, m_NL, m_NR, m_okI, m_okL, m_okR, m_okaI, m_okaL, m_okaR, m_arI, m_arL, m_arR, gd_T, bn_S, Nat.reduceEqDiff, Nat.left_eq_add, Nat.add_eq_left, Nat.one_ne_zero, and_false, and_true, false_and, true_and, if_false, if_true, ok_80 hM.1, mr_84 hM, mr_85 hM, ar_120 hM.1, ar_121 hM.1, w1, e1, nI_1, ti_n (show nu F - 1 < 6 by omega) (by decide), cl_n (show nu F - 1 < 2 ^ 31 by omega), ti_n (show g < 6 by omega) (by decide), cl_n (show g < 2 ^ 31 by omega), ti_n (show g + 1 < 6 by omega) (by decide), cl_n (show g + 1 < 2 ^ 31 by omega), u0, u1, u2, ti_n (show uu F (nu F - 1) < 6 by omega) (by decide), cl_n (show uu F (nu F - 1) < 2 ^ 31 by omega), ti_n (show uu F g < 6 by omega) (by decide), cl_n (show uu F g < 2 ^ 31 by omega), ti_n (show uu F (g + 1) < 6 by omega) (by decide), cl_n (show uu F (g + 1) < 2 ^ 31 by omega), n1, v0, v1]
  refine ⟨_, rfl, (((Fr.refl _ M).wI _ _ _ (Or.inl rfl)).wI _ _ _ (Or.inl rfl)).wI _ _ _ (Or.inl rfl), ?_, fun i hi => ?_, fun p hp => ?_⟩
  · simp only [m_II, m_LL, m_RR, m_IL, m_IR, m_LI, m_LR, m_RI, m_RL, m_NI, m_NL, m_NR, m_okI, m_okL, m_okR, m_okaI, m_okaL, m_okaR, m_arI, m_arL, m_arR, gd_T, bn_S, Nat.reduceEqDiff, Nat.left_eq_add, Nat.add_eq_left, Nat.one_ne_zero, and_false, and_true, false_and, true_and, if_false, if_true]; exact w1
  · simp only [m_II, m_LL, m_RR, m_IL, m_IR, m_LI, m_LR, m_RI, m_RL, m_NI, m_NL, m_NR, m_okI, m_okL, m_okR, m_okaI, m_okaL, m_okaR, m_arI, m_arL, m_arR, gd_T, bn_S, Nat.reduceEqDiff, Nat.left_eq_add, Nat.add_eq_left, Nat.one_ne_zero, and_false, and_true, false_and, true_and, if_false, if_true]; exact w2 i hi
  · simp only [m_II, m_LL, m_RR, m_IL, m_IR, m_LI, m_LR, m_RI, m_RL, m_NI, m_NL, m_NR, m_okI, m_okL, m_okR, m_okaI, m_okaL, m_okaR, m_arI, m_arL, m_arR, gd_T, bn_S, Nat.reduceEqDiff, Nat.left_eq_add, Nat.add_eq_left, Nat.one_ne_zero, and_false, and_true, false_and, true_and, if_false, if_true]
    unfold upW
    by_cases c1 : p = uu F (g + 1)
    · simp only [c1, if_true]
    · simp only [c1, if_false]
      by_cases c2 : p = uu F g
      · simp only [c2, if_true]
      · simp only [c2, if_false]
        by_cases c3 : p = uu F (nu F - 1)
        · simp only [c3, if_true]
        · simp only [c3, if_false]
          exact w3 p hp
theorem Model_next_7 (N : Nat) (F : FE) (M : sw_M) (hF : MFE M F) (W : Nat → Int32) (hW : MWt M F W) : ∀ (i j : Nat), i < nu F → i < j → f_Model_nextWeights_7 N j 80 (nI i - 1) M = match gv (uu F) W i with
    | none => some (0, M)
    | some g => f_Model_nextWeights_31 N 80 (nI g) M
  | 0, j, hi, hj => by
    obtain ⟨j, rfl⟩ : ∃ k, j = k + 1 := ⟨j - 1, by omega⟩
    rw [f_Model_nextWeights_7, if_pos (by decide), f_Model_nextWeights_31, if_neg (by decide)]
    rfl
  | i + 1, j, hi, hj => by
    obtain ⟨j, rfl⟩ : ∃ k, j = k + 1 := ⟨j - 1, by omega⟩
    have hM := hF.1
    have h6 := hF.2.2.1
    have hnu := nu_le F
    have l1 := uu_lt F (show i < nu F by omega)
    rw [f_Model_nextWeights_7, nI_pred, if_neg (nI_pos (by omega)), ok_80 hM.1, gd_T, mr_85 hM, ar_121 hM.1, ti_n (show i < 6 by omega) (by decide), gd_T, cl_n (by omega), hW.2.1 i (by omega), mr_84 hM, ar_120 hM.1, ti_n (show uu F i < 6 by omega) (by decide), gd_T, cl_n (by omega), hW.2.2 _ l1, gv, nI_dn]
    by_cases c : W (uu F i) = 0
    · rw [if_pos c, if_pos c]
      exact Model_next_7 N F M hF W hW i j (by omega) (by omega)
    · rw [if_neg c, if_neg c]
theorem Model_nextWeights (N : Nat) (hN : 300 ≤ N) (F : FE) (M : sw_M) (hF : MFE M F) (W : Nat → Int32) (hW : MWt M F W) (h0 : 0 < nu F) :
    (nW (uu F) (nu F) W = none ∧ f_Model_nextWeights N 80 M = some (0, M)) ∨ ∃ V Z, nW (uu F) (nu F) W = some V ∧ f_Model_nextWeights N 80 M = some (1, Z) ∧ Fr Awt M Z ∧ MWt Z F V := by
  have h6 := hF.2.2.1
  have hnu := nu_le F
  have e1 : nI (nu F) - 2 = nI (nu F - 1) - 1 := by
    obtain ⟨k, hk⟩ : ∃ k, nu F = k + 1 := ⟨nu F - 1, by omega⟩
    rw [hk]
    exact nI_m2 k
  unfold f_Model_nextWeights nW
  rw [ok_80 hF.1.1, gd_T, hW.1, e1, Model_next_7 N F M hF W hW (nu F - 1) N (by omega) (by omega)]
  cases hg : gv (uu F) W (nu F - 1) with
  | none => exact Or.inl ⟨rfl, rfl⟩
  | some g =>
    have hg1 := (gv_s hg).1
    obtain ⟨Z, z1, z2, z3⟩ := Model_next_31 N F M hF W hW g (by omega)
    exact Or.inr ⟨_, Z, rfl, z1, z2, z3⟩
theorem Model_lightOf_4 (N : Nat) (F : FE) (M : sw_M) (hF : MFE M F) (W : Nat → Int32) (hW : MWt M F W) (c : Nat) (hc : c < 64) : ∀ (d o j : Nat), o + d = F.E.no → d < j → f_Model_lightOf_4 N j 80 (nI c) (lgS F W c o) (nI o) M = some (lig F W c, M)
  | 0, o, j, hd, hj => by
    obtain ⟨j, rfl⟩ : ∃ k, j = k + 1 := ⟨j - 1, by omega⟩
    obtain rfl : o = F.E.no := by omega
    have h6 := hF.2.2.1
    rw [f_Model_lightOf_4, ok_80 hF.1.1, gd_T, hF.2.1, if_pos (nI_le (Nat.le_refl _) (by omega))]
    rfl
  | d + 1, o, j, hd, hj => by
    obtain ⟨j, rfl⟩ : ∃ k, j = k + 1 := ⟨j - 1, by omega⟩
    have hM := hF.1
    have h6 := hF.2.2.1
    have hs := (hF.2.2.2.2.2.2.2.1.2 o (by omega) c hc).1
    rw [f_Model_lightOf_4, ok_80 hM.1, gd_T, hF.2.1, if_neg (nI_ge (by omega) (by omega)), mr_84 hM, ar_120 hM.1, ti_n (show o < 6 by omega) (by decide), gd_T, mr_73 hM, ix64, ar_112 hM.1, ti_n (show 64 * o + c < 384 by omega) (by decide), gd_T, cl_n (by omega), cl_n (by omega), hW.2.2 o (by omega), hs, nI_1]
    exact Model_lightOf_4 N F M hF W hW c hc d (o + 1) j (by omega) (by omega)
theorem Model_lightOf (N : Nat) (hN : 300 ≤ N) (F : FE) (M : sw_M) (hF : MFE M F) (W : Nat → Int32) (hW : MWt M F W) (c : Nat) (hc : c < 64) : f_Model_lightOf N 80 (nI c) M = some (lig F W c, M) := by
  have h6 := hF.2.2.1
  exact Model_lightOf_4 N F M hF W hW c hc F.E.no 0 N (by omega) (by omega)
theorem btw_ite {α : Type} (lo hi : Int32) (v s : Int64) (A B : α) : (if v < lo.toInt64 * s then A else if hi.toInt64 * s < v then A else B) = if btw lo hi v s = true then B else A := by
  unfold btw
  by_cases h1 : v < lo.toInt64 * s
  · rw [if_pos h1, if_neg (by simp; intro h; exact absurd h (Int64.not_le.mpr h1))]
  · rw [if_neg h1]
    by_cases h2 : hi.toInt64 * s < v
    · rw [if_pos h2, if_neg (by simp; intro _; exact h2)]
    · rw [if_neg h2, if_pos (by simp; exact ⟨Int64.not_lt.mp h1, Int64.not_lt.mp h2⟩)]
theorem Model_holds_84 (N : Nat) (F : FE) (M : sw_M) (hF : MFE M F) (W : Nat → Int32) (hW : MWt M F W) (i : Nat) (hi : i < F.B.m) (hs : F.B.str i = false) (li : Int64) : ∀ (d o j : Nat), o + d = F.E.no → d < j → f_Model_holds_84 N j 80 (nI i) li (glS F W (F.B.cell i) o) (nI o) M = some (bz (btw (F.B.lo i) (F.B.hi i) (glS F W (F.B.cell i) F.E.no) li), M)
  | 0, o, j, hd, hj => by
    obtain ⟨j, rfl⟩ : ∃ k, j = k + 1 := ⟨j - 1, by omega⟩
    obtain rfl : o = F.E.no := by omega
    have hM := hF.1
    have h6 := hF.2.2.1
    have hm := hF.2.2.2.2.2.1.1
    obtain ⟨b1, b2, b3, b4⟩ := hF.2.2.2.2.2.1.2.2.2 i hi
    obtain ⟨c1, c2, c3, c4, c5, c6, c7, c8, c9, c10, c11⟩ := b2 hs
    rw [f_Model_holds_84, ok_80 hM.1, gd_T, hF.2.1, if_pos (nI_le (Nat.le_refl _) (by omega)), mr_80 hM, ar_117 hM.1, ti_n (show i < 10 by omega) (by decide), gd_T, cl_n (by omega), c7, mr_81 hM, ar_118 hM.1, ti_n (show i < 10 by omega) (by decide), gd_T, c9, f_Model_holds_161, btw_ite]
    cases btw (F.B.lo i) (F.B.hi i) (glS F W (F.B.cell i) F.E.no) li <;> rfl
  | d + 1, o, j, hd, hj => by
    obtain ⟨j, rfl⟩ : ∃ k, j = k + 1 := ⟨j - 1, by omega⟩
    have hM := hF.1
    have h6 := hF.2.2.1
    have hm := hF.2.2.2.2.2.1.1
    obtain ⟨b1, b2, b3, b4⟩ := hF.2.2.2.2.2.1.2.2.2 i hi
    have hc := (b2 hs).2.2.2.2.1
    have hg := (hF.2.2.2.2.2.2.2.1.2 o (by omega) (F.B.cell i) hc).2
    rw [f_Model_holds_84, ok_80 hM.1, gd_T, hF.2.1, if_neg (nI_ge (by omega) (by omega)), mr_84 hM, ar_120 hM.1, ti_n (show o < 6 by omega) (by decide), gd_T, mr_79 hM, ar_116 hM.1, ti_n (show i < 10 by omega) (by decide), gd_T, mr_74 hM, cl_n (show i < 2 ^ 31 by omega), b3, ix64, ar_113 hM.1, ti_n (show 64 * o + F.B.cell i < 384 by omega) (by decide), gd_T, cl_n (show o < 2 ^ 31 by omega), cl_n (show 64 * o + F.B.cell i < 2 ^ 31 by omega), hW.2.2 o (by omega), hg, nI_1]
    exact Model_holds_84 N F M hF W hW i hi hs li d (o + 1) j (by omega) (by omega)
theorem Model_holds (N : Nat) (hN : 300 ≤ N) (F : FE) (M : sw_M) (hF : MFE M F) (W : Nat → Int32) (hW : MWt M F W) (i : Nat) (hi : i < F.B.m) (hs : F.B.str i = false) : f_Model_holds N 80 (nI i) M = some (bz (hld F W i), M) := by
  have hM := hF.1
  have h6 := hF.2.2.1
  have hm := hF.2.2.2.2.2.1.1
  obtain ⟨b1, b2, b3, b4⟩ := hF.2.2.2.2.2.1.2.2.2 i hi
  obtain ⟨c1, c2, c3, c4, c5, c6, c7, c8, c9, c10, c11⟩ := b2 hs
  unfold f_Model_holds hld
  rw [ok_80 hM.1, gd_T, mr_79 hM, ar_116 hM.1, ti_n (show i < 10 by omega) (by decide), gd_T, cl_n (by omega), b3, Model_lightOf N hN F M hF W hW _ c5, bn_S]
  show sw_gd [sw_ok M 80 12] (sw_gd [sw_ar M (rd_R M 80 78) 13 (nI i)] (if rd_I M (rd_R M 80 78) (i) = 0 then _ else _)) = _
  simp only [ok_80 hM.1, mr_78 hM, mr_80 hM, mr_81 hM, ar_115 hM.1, ar_117 hM.1, ar_118 hM.1, gd_T, ti_n (show i < 10 by omega) (by decide), c3, c7, c9, hF.2.2.2.2.1, hF.2.2.2.1, f_Model_holds_72, btw_ite]
  by_cases c : F.B.kind i = 0
  · rw [if_pos c, if_pos c]
    cases btw (F.B.lo i) (F.B.hi i) (1000 * (lig F W (F.B.cell i)).toInt64) (F.por.toInt64 * (nI F.E.L).toInt64) <;> rfl
  · rw [if_neg c, if_neg c]
    exact Model_holds_84 N F M hF W hW i hi hs _ F.E.no 0 N (by omega) (by omega)
theorem Model_holding_4 (N : Nat) (hN : 300 ≤ N) (F : FE) (M : sw_M) (hF : MFE M F) (W : Nat → Int32) (hW : MWt M F W) : ∀ (d i j : Nat), i + d = F.B.m → d < j → f_Model_holding_4 N j 80 (nI (bN (hoB F W) i)) (nI i) M = some (nI (bN (hoB F W) F.B.m), M)
  | 0, i, j, hd, hj => by
    obtain ⟨j, rfl⟩ : ∃ k, j = k + 1 := ⟨j - 1, by omega⟩
    obtain rfl : i = F.B.m := by omega
    have hm := hF.2.2.2.2.2.1.1
    rw [f_Model_holding_4, ok_80 hF.1.1, gd_T, hF.2.2.2.2.2.1.2.2.1, if_pos (nI_le (Nat.le_refl _) (by omega))]
  | d + 1, i, j, hd, hj => by
    obtain ⟨j, rfl⟩ : ∃ k, j = k + 1 := ⟨j - 1, by omega⟩
    have hM := hF.1
    have hm := hF.2.2.2.2.2.1.1
    have hn := hF.2.2.2.2.2.2.1
    have hb : ((nI (bN (sgt F.B F.n) F.n) >>> (nI i &&& 31)) &&& 1 = 1) ↔ sgt F.B F.n i = true := by
      rw [x_bit1 (bN_lt31 _ (by omega)) (by omega), bN_t]
      by_cases hin : i < F.n
      · simp [hin]
      · unfold sgt
        simp [hin]
    rw [f_Model_holding_4, ok_80 hM.1, gd_T, hF.2.2.2.2.2.1.2.2.1, if_neg (nI_ge (by omega) (by omega)), hF.2.2.2.2.2.2.2.2.1]
    have ih := Model_holding_4 N hN F M hF W hW d (i + 1) j (by omega) (by omega)
    rw [bN] at ih
    by_cases c : sgt F.B F.n i = true
    · have hs : F.B.str i = false := by
        unfold sgt at c
        simp at c
        exact c.2.1
      rw [if_pos (hb.mpr c), Model_holds N hN F M hF W hW i (by omega) hs, bn_S]
      show (if bz (hld F W i) = 0 then _ else _) = _
      rw [f_Model_holding_38, f_Model_holding_38, x_shl (show i < 31 by omega), x_or, nI_1]
      cases h : hld F W i
      · rw [if_pos (show bz false = 0 from rfl)]
        rw [if_neg (by unfold hoB; rw [h]; simp)] at ih
        exact ih
      · rw [if_neg (show ¬ bz true = 0 by decide)]
        rw [if_pos (by unfold hoB; rw [h, c]; rfl)] at ih
        exact ih
    · rw [if_neg (fun h => c (hb.mp h)), f_Model_holding_38, nI_1]
      rw [if_neg (by unfold hoB; simp [c])] at ih
      exact ih
theorem Model_holding (N : Nat) (hN : 300 ≤ N) (F : FE) (M : sw_M) (hF : MFE M F) (W : Nat → Int32) (hW : MWt M F W) : f_Model_holding N 80 M = some (nI (bN (hoB F W) F.B.m), M) := by
  have hm := hF.2.2.2.2.2.1.1
  exact Model_holding_4 N hN F M hF W hW F.B.m 0 N (by omega) (by omega)
theorem Model_fit (N : Nat) (hN : 300 ≤ N) (F : FE) (M : sw_M) (hF : MFE M F) (W : Nat → Int32) (hW : MWt M F W) : f_Model_fit N 80 M = some (bz (fitB F W), M) := by
  have hm := hF.2.2.2.2.2.1.1
  have hn := hF.2.2.2.2.2.2.1
  have h80 := ok_80 hF.1.1
  unfold f_Model_fit
  rw [h80, gd_T, Model_holding N hN F M hF W hW, bn_S]
  show sw_gd [sw_ok M 80 12] (if nI (bN (hoB F W) F.B.m) = rd_I M 80 83 then _ else _) = _
  rw [h80, gd_T, hF.2.2.2.2.2.2.2.2.1]
  have he : (nI (bN (hoB F W) F.B.m) = nI (bN (sgt F.B F.n) F.n)) ↔ fitB F W = true := by
    rw [nI_eq (bN_lt31 _ (by omega)) (bN_lt31 _ (by omega))]
    exact fit_bN F W hn
  cases h : fitB F W
  · rw [if_neg (fun e => by rw [he.mp e] at h; cases h)]; rfl
  · rw [if_pos (he.mpr h)]; rfl
/-- on to WEIGHTS that fit -/
noncomputable def sr (F : FE) : Nat → (Nat → Int32) → Option (Nat → Int32)
  | 0, _ => none
  | f + 1, W => if fitB F W = true then some W else match nW (uu F) (nu F) W with
    | none => none
    | some V => sr F f V
theorem Model_toFit_16 (N : Nat) (hN : 300 ≤ N) (F : FE) (hp : F.por.toInt ≤ 10) (h0 : 0 < nu F) : ∀ (f j : Nat) (M : sw_M) (W : Nat → Int32), MFE M F → MWt M F W → WK (uu F) (nu F) F.por.toInt W → hoW (uu F) W (nu F - 1) < f → f + 1 < j →
    (sr F f W = none ∧ ∃ Z, f_Model_toFit_16 N j 80 1 M = some (0, Z) ∧ Fr Awt M Z) ∨ ∃ V Z, sr F f W = some V ∧ f_Model_toFit_16 N j 80 1 M = some (1, Z) ∧ Fr Awt M Z ∧ MWt Z F V ∧ WK (uu F) (nu F) F.por.toInt V ∧ hoW (uu F) V (nu F - 1) ≤ hoW (uu F) W (nu F - 1) := by
  intro f
  induction f with
  | zero =>
    intro j M W hF hW hK hf hj
    have hb := hoW_b (U := uu F) (W := W) (n := nu F - 1) (fun i hi => ⟨hK.1 i (by omega), by have := (smW_le hK.1).2 i (by omega); have := hK.2; omega⟩)
    omega
  | succ f ih =>
    intro j M W hF hW hK hf hj
    obtain ⟨j, rfl⟩ : ∃ k, j = k + 1 := ⟨j - 1, by omega⟩
    have h80 := ok_80 hF.1.1
    rw [f_Model_toFit_16, if_neg (by decide), h80, gd_T, Model_fit N hN F M hF W hW, bn_S, sr]
    cases h : fitB F W
    · rw [if_neg (by decide)]
      show (_ ∧ ∃ Z, (if bz false = 0 then _ else _) = _ ∧ _) ∨ ∃ V Z, _ ∧ (if bz false = 0 then _ else _) = _ ∧ _
      rw [if_pos (show bz false = 0 from rfl)]
      simp only [h80, gd_T]
      rcases Model_nextWeights N hN F M hF W hW h0 with ⟨e1, e2⟩ | ⟨V, Z, e1, e2, e3, e4⟩
      · rw [e1, e2, bn_S]
        obtain ⟨j, rfl⟩ : ∃ k, j = k + 1 := ⟨j - 1, by omega⟩
        refine Or.inl ⟨rfl, M, ?_, Fr.refl _ _⟩
        show f_Model_toFit_16 N (j + 1) 80 0 M = _
        rw [f_Model_toFit_16, if_pos rfl]
        rfl
      · rw [e1, e2, bn_S]
        obtain ⟨k1, k2⟩ := nW_s (uu_inj F) hp hK e1
        rcases ih j Z V (MFE_fr e3 hF) e4 k1 (by omega) (by omega) with ⟨a1, Y, a2, a3⟩ | ⟨V', Y, a1, a2, a3, a4, a5, a6⟩
        · exact Or.inl ⟨a1, Y, a2, e3.trans a3⟩
        · exact Or.inr ⟨V', Y, a1, a2, e3.trans a3, a4, a5, by omega⟩
    · rw [if_pos rfl]
      show (_ ∧ ∃ Z, (if bz true = 0 then _ else _) = _ ∧ _) ∨ ∃ V Z, _ ∧ (if bz true = 0 then _ else _) = _ ∧ _
      rw [if_neg (show ¬ bz true = 0 by decide), show sw_bz (1 : Int32) = true from by decide, gd_T]
      exact Or.inr ⟨W, M, rfl, rfl, Fr.refl _ _, hW, hK, Int.le_refl _⟩
