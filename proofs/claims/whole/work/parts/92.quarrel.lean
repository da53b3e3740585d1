/-! 92: QUARREL on the other side -/
/-- the row of sets is cleared by a loop of the method's own; then it goes on -/
theorem few_2 (N : Nat) : ∀ (d j i : Nat) (M : sw_M), i + d = 1024 → d < j → HR M →
    ∃ W, f_Fits_fewestApart_2 N j 42 (nI i) M = (f_Fits_begin N 42 W).bind (fun u3 => if u3.1 = 0 then some ((0 : Int32), u3.2) else f_Fits_fewestApart_37 N N 42 u3.1 (0 : Int32) u3.2) ∧ Fr (fun a k => a = 67 ∧ i ≤ k ∧ k < 1024) M W ∧ ∀ k, i ≤ k → k < 1024 → rd_I W 67 k = 0
  | 0, j, i, M, hi, hj, hH => by
    obtain ⟨j, rfl⟩ : ∃ k, j = k + 1 := ⟨j - 1, by omega⟩
    refine ⟨M, ?_, Fr.refl _ _, fun k h1 h2 => by omega⟩
    rw [f_Fits_fewestApart_2, ok_42 hH.1, gd_T, hr_f hH 42 7 67 rfl (by decide), oa_67 hH.1, gd_T, ln_67, if_pos (nI_le (by omega) (by omega))]
  | d + 1, j, i, M, hi, hj, hH => by
    obtain ⟨j, rfl⟩ : ∃ k, j = k + 1 := ⟨j - 1, by omega⟩
    have fq : Fr (fun a k => a = 67 ∧ i ≤ k ∧ k < 1024) M (wr_I M 67 i 0) := (Fr.refl _ M).wI 67 i 0 ⟨rfl, by omega, by omega⟩
    obtain ⟨W, e1, e2, e3⟩ := few_2 N d j (i + 1) (wr_I M 67 i 0) (by omega) (by omega) (fq.hr hH)
    refine ⟨W, ?_, fq.trans (e2.mono (fun a k h => ⟨h.1, by omega, h.2.2⟩)), fun k h1 h2 => ?_⟩
    · rw [f_Fits_fewestApart_2, ok_42 hH.1, gd_T, hr_f hH 42 7 67 rfl (by decide), oa_67 hH.1, gd_T, ln_67, if_neg (nI_ge (by omega) (by omega)), an_67_14, Bool.false_and, Bool.false_or, ar_67 hH.1, ti_n (show i < 1024 by omega) (by decide), show sw_bz (0 : Int32) = true from by decide, Bool.true_and, gd_T, cl_n (by omega), nI_1]
      exact e1
    · by_cases hk : k = i
      · subst hk
        rw [e2.I 67 k (by omega), m_II, if_pos ⟨rfl, rfl⟩]
      · exact e3 k (by omega) h2
theorem Fits_holding_4 (N : Nat) (hN : 300 ≤ N) (F : FE) (hp : F.por.toInt ≤ 10) (M : sw_M) (hF : HFE M F) (W : Nat → Int32) (hW : HS M F W) : ∀ (d i j : Nat), i + d = F.B.m → d < j → f_Fits_holding_4 N j 42 (nI (bN (hoB F W) i)) (nI i) M = some (nI (bN (hoB F W) F.B.m), M)
  | 0, i, j, hd, hj => by
    obtain ⟨j, rfl⟩ : ∃ k, j = k + 1 := ⟨j - 1, by omega⟩
    obtain rfl : i = F.B.m := by omega
    have hH := hF.1
    have hm := hF.2.2.2.2.1.1
    rw [f_Fits_holding_4, ok_42 hH.1, gd_T, hr_f hH 42 1 36 rfl (by decide), ok_36 hH.1, gd_T, hF.2.2.2.2.1.2.1, if_pos (nI_le (Nat.le_refl _) (by omega))]
  | d + 1, i, j, hd, hj => by
    obtain ⟨j, rfl⟩ : ∃ k, j = k + 1 := ⟨j - 1, by omega⟩
    have hH := hF.1
    have hm := hF.2.2.2.2.1.1
    have ih := Fits_holding_4 N hN F hp M hF W hW d (i + 1) j (by omega) (by omega)
    rw [bN] at ih
    rw [f_Fits_holding_4, ok_42 hH.1, gd_T, hr_f hH 42 1 36 rfl (by decide), ok_36 hH.1, gd_T, hF.2.2.2.2.1.2.1, if_neg (nI_ge (by omega) (by omega)), if_neg (show ¬ (10 : Int32) ≤ nI i from (nI_ge (by omega) (by omega) : ¬ nI 10 ≤ nI i)), Notes_isSight N F M hF i (by omega), bn_S]
    show (if bz (sgt F.B F.n i) = 0 then _ else sw_gd [sw_ok M 42 1] ((f_Fits_holds N 42 (nI i) M).bind _)) = _
    cases hg : sgt F.B F.n i
    · rw [if_pos (show bz false = 0 from rfl), f_Fits_holding_46, nI_1]
      rw [if_neg (by unfold hoB; rw [hg]; simp)] at ih
      exact ih
    · rw [if_neg (show ¬ bz true = 0 by decide), ok_42 hH.1, gd_T, Fits_holds N hN F hp M hF W hW.1 hW.2.1 hW.2.2 i hg, bn_S]
      show (if bz (hld F W i) = 0 then _ else _) = _
      rw [f_Fits_holding_46, f_Fits_holding_46, x_shl (show i < 31 by omega), x_or, nI_1]
      cases h : hld F W i
      · rw [if_pos (show bz false = 0 from rfl)]
        rw [if_neg (by unfold hoB; rw [h]; simp)] at ih
        exact ih
      · rw [if_neg (show ¬ bz true = 0 by decide)]
        rw [if_pos (by unfold hoB; rw [h, hg]; rfl)] at ih
        exact ih
theorem Fits_holding (N : Nat) (hN : 300 ≤ N) (F : FE) (hp : F.por.toInt ≤ 10) (M : sw_M) (hF : HFE M F) (W : Nat → Int32) (hW : HS M F W) : f_Fits_holding N 42 M = some (nI (bN (hoB F W) F.B.m), M) := by
  have hm := hF.2.2.2.2.1.1
  exact Fits_holding_4 N hN F hp M hF W hW F.B.m 0 N (by omega) (by omega)
def Aqh (a k : Nat) : Prop := Awh a k ∨ a = 67
theorem HFE_fr2 {M W : sw_M} {F : FE} (h : Fr Aqh M W) (g : HFE M F) : HFE W F := by
  obtain ⟨g1, g2, g3, g4, g5, g6, g7, g8, g9, g10⟩ := g
  refine ⟨h.hr g1, (h.I _ _ (by unfold Aqh Awh; omega)).trans g2, (h.I _ _ (by unfold Aqh Awh; omega)).trans g3, (h.I _ _ (by unfold Aqh Awh; omega)).trans g4, NT_fr h (fun a k c d => by unfold Cnt at c; unfold Aqh Awh at d; omega) g5, g6, fun p hp => ?_, fun t ht => ?_, g9, g10⟩
  · obtain ⟨a1, a2, a3⟩ := g7 p hp
    exact ⟨(h.R _ _).trans a1, h.oq a2, HO_fr h (fun a k c d => by unfold Ao hob at c; unfold Aqh Awh at d; omega) a3⟩
  · rw [h.I 41 t (by unfold Aqh Awh; omega)]
    exact g8 t ht
theorem HWt_fr {A : Nat → Nat → Prop} {M Z : sw_M} {F : FE} {W : Nat → Int32} (h : Fr A M Z) (hA : ∀ a k, Awh a k → ¬ A a k) (g : HWt M F W) : HWt Z F W := by
  obtain ⟨g1, g2, g3, g4⟩ := g
  refine ⟨(h.I _ _ (hA _ _ (by unfold Awh; omega))).trans g1, fun i hi => (h.I _ _ (hA _ _ (by unfold Awh; omega))).trans (g2 i hi), fun o ho => (h.I _ _ (hA _ _ (by unfold Awh; omega))).trans (g3 o ho), fun t ht hst i hi => ?_⟩
  rw [h.I _ _ (hA _ _ (by unfold Awh; omega)), h.I _ _ (hA _ _ (by unfold Awh; omega))]
  exact g4 t ht hst i hi
/-- sets in this side's memory -/
def HT (M : sw_M) (T : Nat → Bool) : Prop := ∀ s, s < 1024 → rd_I M 67 s = bz (T s)
theorem HT_w {M : sw_M} {T : Nat → Bool} (h : HT M T) (k : Nat) : HT (wr_I M 67 k 1) (fun s => if s = k then true else T s) := fun s hs => by
  simp only [m_II, m_LL, m_RR, m_IL, m_IR, m_LI, m_LR, m_RI, m_RL, m_NI, m_NL, m_NR, m_okI, m_okL, m_okR, m_okaI, m_okaL, m_okaR, m_arI, m_arL, m_arR, gd_T, bn_S, Nat.reduceEqDiff, Nat.left_eq_add, Nat.add_eq_left, Nat.one_ne_zero, and_false, and_true, false_and, true_and, if_false, if_true]
  by_cases c : s = k
  · simp [c, bz]
  · simp only [c, if_false]
    exact h s hs
theorem few_37 (N : Nat) (hN : 300 ≤ N) (F : FE) (hp : F.por.toInt ≤ 10) (h0 : 0 < nu F) : ∀ (f i j : Nat) (M : sw_M) (W : Nat → Int32) (T : Nat → Bool), HFE M F → HS M F W → HT M T → muW F W + 1 < f → f + 1 < j → i + f < 1000000 → ∃ Z, f_Fits_fewestApart_37 N j 42 1 (nI i) M = f_Fits_fewestApart_68 N 42 Z ∧ Fr Aqh M Z ∧ HT Z (sn F f (some W) T) := by
  intro f
  induction f with
  | zero => intro i j M W T hF hW hT hf; omega
  | succ f ih =>
    intro i j M W T hF hW hT hf hj hi
    obtain ⟨j, rfl⟩ : ∃ k, j = k + 1 := ⟨j - 1, by omega⟩
    have hH := hF.1
    have h6 := hF.2.2.2.2.2.2.2.2.1.2.2.2.1
    have hm := hF.2.2.2.2.1.1
    have hl := ho_lt F W hm
    have hb := mu_b hp h6 hW.2
    have fq : Fr (fun a _ => a = 67) M (wr_I M 67 (bN (hoB F W) F.B.m) 1) := (Fr.refl _ M).wI _ _ _ rfl
    have fq' : Fr Aqh M (wr_I M 67 (bN (hoB F W) F.B.m) 1) := fq.mono (fun a k h => Or.inr h)
    have hFq := HFE_fr2 fq' hF
    rw [f_Fits_fewestApart_37, if_neg (show ¬ (1000000 : Int32) ≤ nI i from (nI_ge (by omega) (by omega) : ¬ nI 1000000 ≤ nI i)), if_neg (by decide), ok_42 hH.1, gd_T, Fits_holding N hN F hp M hF W hW, bn_S]
    show ∃ Z, sw_gd [(sw_ar M (rd_R M 42 7) 14 (nI (bN (hoB F W) F.B.m)) && decide ((1 : Int32).toInt8.toInt32 = (1 : Int32))) || (sw_ar M (rd_R M 42 7) 15 (nI (bN (hoB F W) F.B.m)) && sw_bz (1 : Int32))] (sw_gd [sw_ok (wr_I M (rd_R M 42 7) (nI (bN (hoB F W) F.B.m)).toNatClampNeg (1 : Int32)) 42 1] ((f_Fits_shift N 42 (wr_I M (rd_R M 42 7) (nI (bN (hoB F W) F.B.m)).toNatClampNeg (1 : Int32))).bind (fun u5 => f_Fits_fewestApart_37 N j 42 u5.1 (nI i + 1) u5.2))) = _ ∧ _
    rw [hr_f hH 42 7 67 rfl (by decide), an_67_14, Bool.false_and, Bool.false_or, ar_67 hH.1, ti_n hl (by decide), show sw_bz (1 : Int32) = true from by decide, Bool.true_and, gd_T, cl_n (by omega), m_okI, ok_42 hH.1, gd_T, nI_1]
    rcases Fits_shift N hN F (wr_I M 67 (bN (hoB F W) F.B.m) 1) hFq W (HWt_fr fq (fun a k c d => by unfold Awh at c; omega) hW.1) h0 with ⟨e1, e2⟩ | ⟨V, Z, e1, e2, e3, e4⟩
    · rw [e2, bn_S, sn, e1]
      obtain ⟨j, rfl⟩ : ∃ k, j = k + 1 := ⟨j - 1, by omega⟩
      obtain ⟨f, rfl⟩ : ∃ k, f = k + 1 := ⟨f - 1, by omega⟩
      refine ⟨wr_I M 67 (bN (hoB F W) F.B.m) 1, ?_, fq', HT_w hT _⟩
      show f_Fits_fewestApart_37 N (j + 1) 42 0 _ _ = _
      rw [f_Fits_fewestApart_37, if_neg (show ¬ (1000000 : Int32) ≤ nI (i + 1) from (nI_ge (by omega) (by omega) : ¬ nI 1000000 ≤ nI (i + 1))), if_pos rfl]
    · obtain ⟨k1, k2⟩ := nW_s (uu_inj F) hp hW.2.1 e1
      have kz := nW_z F hW.2.2 e1
      have hg : WG F V := ⟨k1, kz⟩
      have hbV := mu_b hp h6 hg
      rw [e2, bn_S, sn, e1]
      obtain ⟨Y, y1, y2, y3⟩ := ih (i + 1) j Z V _ (HFE_fr e3 hFq) ⟨e4, hg⟩ (fun s hs => by
        rw [e3.I 67 s (by unfold Awh; omega)]
        exact HT_w hT _ s hs) (by omega) (by omega) (by omega)
      exact ⟨Y, y1, fq'.trans ((e3.mono (fun _ _ h => Or.inl h)).trans y2), y3⟩
theorem mark_13 (N : Nat) (k2 : Nat → Int32 → sw_M → Option sw_M) (b : Nat) (hb : b < 10) (T : Nat → Bool) : ∀ (e k j : Nat) (M : sw_M), k + e = 1024 → e < j → HR M → HT M (mpk b T k) → ∃ Z, f_Fits_markParts_13 N k2 j 42 (nI (2 ^ b)) (nI k) M = k2 42 (nI (2 ^ (b + 1))) Z ∧ Fr (fun a _ => a = 67) M Z ∧ HT Z (mpk b T 1024) := by
  intro e
  induction e with
  | zero =>
    intro k j M hk hj hH hT
    obtain ⟨j, rfl⟩ : ∃ k, j = k + 1 := ⟨j - 1, by omega⟩
    obtain rfl : k = 1024 := by omega
    refine ⟨M, ?_, Fr.refl _ _, hT⟩
    have hp : (2 : Nat) ^ b * 2 ^ 1 < 2 ^ 32 := by
      have : (2 : Nat) ^ b ≤ 2 ^ 10 := Nat.pow_le_pow_right (by decide) (by omega)
      omega
    rw [f_Fits_markParts_13, ok_42 hH.1, gd_T, hr_f hH 42 7 67 rfl (by decide), oa_67 hH.1, gd_T, ln_67, if_pos (nI_le (Nat.le_refl _) (by omega)), pk_shlN ((1 : Int32) &&& 31) 1 (by decide) hp, ← Nat.pow_add]
  | succ e ih =>
    intro k j M hk hj hH hT
    obtain ⟨j, rfl⟩ : ∃ k, j = k + 1 := ⟨j - 1, by omega⟩
    have hl := clr_lt k b
    have h2 : (2 : Nat) ^ b < 2 ^ 31 := Nat.pow_lt_pow_right (by decide) (by omega)
    have hand : (nI k &&& nI (2 ^ b) = 0) ↔ k.testBit b = false := by
      rw [x_and, show (0 : Int32) = nI 0 from rfl, nI_eq (by have : k &&& 2 ^ b ≤ 2 ^ b := Nat.and_le_right; omega) (by omega), and_two]
    rw [f_Fits_markParts_13, ok_42 hH.1, gd_T, hr_f hH 42 7 67 rfl (by decide), oa_67 hH.1, gd_T, ln_67, if_neg (nI_ge (show k < 1024 by omega) (by omega))]
    have skip : ¬ (k.testBit b && mpk b T k k) = true → ∃ Z, f_Fits_markParts_46 N k2 (f_Fits_markParts_13 N k2 j) 42 (nI (2 ^ b)) (nI k) M = k2 42 (nI (2 ^ (b + 1))) Z ∧ Fr (fun a _ => a = 67) M Z ∧ HT Z (mpk b T 1024) := fun q => by
      rw [f_Fits_markParts_46, nI_1]
      exact ih (k + 1) j M (by omega) (by omega) hH (by rw [mpk, if_neg q]; exact hT)
    cases c1 : k.testBit b
    · rw [if_pos (hand.mpr c1)]
      exact skip (by rw [c1]; simp)
    · rw [if_neg (fun q => by rw [hand.mp q] at c1; cases c1), an_67_14, Bool.false_or, ar_67 hH.1, ti_n (show k < 1024 by omega) (by decide), gd_T, cl_n (by omega), hT k (by omega)]
      cases c2 : mpk b T k k
      · rw [if_pos (show bz false = 0 from rfl)]
        exact skip (by rw [c2]; simp)
      · rw [if_neg (show ¬ bz true = 0 by decide), x_xor, clr_xor (by omega) c1, an_67_14, Bool.false_and, Bool.false_or, ar_67 hH.1, ti_n hl (by decide), show sw_bz (1 : Int32) = true from by decide, Bool.true_and, gd_T, cl_n (by omega), f_Fits_markParts_46, nI_1]
        have hf : Fr (fun a _ => a = 67) M (wr_I M 67 (clr k b) 1) := (Fr.refl _ M).wI _ _ _ rfl
        obtain ⟨Z, z1, z2, z3⟩ := ih (k + 1) j (wr_I M 67 (clr k b) 1) (by omega) (by omega) hH (by rw [mpk, if_pos (by rw [c1, c2]; rfl)]; exact HT_w hT _)
        exact ⟨Z, z1, hf.trans z2, z3⟩
theorem mark_2 (N : Nat) (hN : 2000 ≤ N) (T : Nat → Bool) : ∀ (e b j : Nat) (M : sw_M), b + e = 10 → e < j → HR M → HT M (mpA T b) → ∃ Z, f_Fits_markParts_2 N j 42 (nI (2 ^ b)) M = some Z ∧ Fr (fun a _ => a = 67) M Z ∧ HT Z (mpA T 10) := by
  intro e
  induction e with
  | zero =>
    intro b j M hb hj hH hT
    obtain ⟨j, rfl⟩ : ∃ k, j = k + 1 := ⟨j - 1, by omega⟩
    obtain rfl : b = 10 := by omega
    refine ⟨M, ?_, Fr.refl _ _, hT⟩
    rw [f_Fits_markParts_2, ok_42 hH.1, gd_T, hr_f hH 42 7 67 rfl (by decide), oa_67 hH.1, gd_T, ln_67, if_pos (nI_le (by decide) (by decide))]
  | succ e ih =>
    intro b j M hb hj hH hT
    obtain ⟨j, rfl⟩ : ∃ k, j = k + 1 := ⟨j - 1, by omega⟩
    have h2 : (2 : Nat) ^ b < 2 ^ 10 := Nat.pow_lt_pow_right (by decide) (by omega)
    rw [f_Fits_markParts_2, ok_42 hH.1, gd_T, hr_f hH 42 7 67 rfl (by decide), oa_67 hH.1, gd_T, ln_67, if_neg (nI_ge (show 2 ^ b < 1024 by omega) (by omega))]
    obtain ⟨Z, z1, z2, z3⟩ := mark_13 N (f_Fits_markParts_2 N j) b (by omega) (mpA T b) 1024 0 N M (by omega) (by omega) hH hT
    obtain ⟨Y, y1, y2, y3⟩ := ih (b + 1) j Z (by omega) (by omega) (z2.hr hH) z3
    exact ⟨Y, z1.trans y1, z2.trans y2, y3⟩
theorem knownBits_4 (N : Nat) (F : FE) (M : sw_M) (hF : HFE M F) : ∀ (d i j : Nat), i + d = 10 → d < j → f_Fits_knownBits_4 N j 42 (nI (bN (sgt F.B F.n) i)) (nI i) M = some (nI (bN (sgt F.B F.n) 10), M)
  | 0, i, j, hd, hj => by
    obtain ⟨j, rfl⟩ : ∃ k, j = k + 1 := ⟨j - 1, by omega⟩
    obtain rfl : i = 10 := by omega
    rw [f_Fits_knownBits_4, if_pos (show (10 : Int32) ≤ nI 10 from by decide)]
  | d + 1, i, j, hd, hj => by
    obtain ⟨j, rfl⟩ : ∃ k, j = k + 1 := ⟨j - 1, by omega⟩
    have hH := hF.1
    have ih := knownBits_4 N F M hF d (i + 1) j (by omega) (by omega)
    rw [bN] at ih
    rw [f_Fits_knownBits_4, if_neg (show ¬ (10 : Int32) ≤ nI i from (nI_ge (by omega) (by omega) : ¬ nI 10 ≤ nI i)), ok_42 hH.1, gd_T, hr_f hH 42 1 36 rfl (by decide), ok_36 hH.1, gd_T, Notes_isSight N F M hF i (by omega), bn_S]
    show (if bz (sgt F.B F.n i) = 0 then _ else _) = _
    rw [f_Fits_knownBits_27, f_Fits_knownBits_27, x_shl (show i < 31 by omega), x_or, nI_1]
    cases h : sgt F.B F.n i
    · rw [if_pos (show bz false = 0 from rfl)]
      rw [if_neg (by rw [h]; simp)] at ih
      exact ih
    · rw [if_neg (show ¬ bz true = 0 by decide)]
      rw [if_pos h] at ih
      exact ih
theorem few_82 (N : Nat) (T : Nat → Bool) (c : Nat) : ∀ (e d j : Nat) (M : sw_M), d + e = 1023 → e < j → HR M → HT M T → f_Fits_fewestApart_82 N j 42 (nI (hbF (apt T c) d)) (nI c) (nI (d + 1)) M = some (nI (hbF (apt T c) 1023), M)
  | 0, d, j, M, hd, hj, hH, hT => by
    obtain ⟨j, rfl⟩ : ∃ k, j = k + 1 := ⟨j - 1, by omega⟩
    obtain rfl : d = 1023 := by omega
    rw [f_Fits_fewestApart_82, ok_42 hH.1, gd_T, hr_f hH 42 7 67 rfl (by decide), oa_67 hH.1, gd_T, ln_67, if_pos (nI_le (by decide) (by decide))]
  | e + 1, d, j, M, hd, hj, hH, hT => by
    obtain ⟨j, rfl⟩ : ∃ k, j = k + 1 := ⟨j - 1, by omega⟩
    have ih := few_82 N T c e (d + 1) j M (by omega) (by omega) hH hT
    rw [hbF] at ih
    obtain ⟨⟨h1, _⟩, _⟩ := hbF_s (apt T c) d
    have p1 := pc_le (d + 1)
    have p2 := pc_le (hbF (apt T c) d)
    rw [f_Fits_fewestApart_82, ok_42 hH.1, gd_T, hr_f hH 42 7 67 rfl (by decide), oa_67 hH.1, gd_T, ln_67, if_neg (nI_ge (show d + 1 < 1024 by omega) (by omega))]
    have skip : ¬ (apt T c (d + 1) = true ∧ (hbF (apt T c) d = 0 ∨ pc (d + 1) < pc (hbF (apt T c) d))) → f_Fits_fewestApart_142 N (f_Fits_fewestApart_82 N j) 42 (nI (hbF (apt T c) d)) (nI c) (nI (d + 1)) M = some (nI (hbF (apt T c) 1023), M) := fun q => by
      rw [if_neg q] at ih
      rw [f_Fits_fewestApart_142, nI_1]
      exact ih
    have take : (apt T c (d + 1) = true ∧ (hbF (apt T c) d = 0 ∨ pc (d + 1) < pc (hbF (apt T c) d))) → f_Fits_fewestApart_139 N (f_Fits_fewestApart_82 N j) 42 (nI c) (nI (d + 1)) M = some (nI (hbF (apt T c) 1023), M) := fun q => by
      rw [if_pos q] at ih
      rw [f_Fits_fewestApart_139, f_Fits_fewestApart_142, nI_1]
      exact ih
    have no : ¬ apt T c (d + 1) = true → f_Fits_fewestApart_115 N (f_Fits_fewestApart_82 N j) 42 (nI (hbF (apt T c) d)) (nI c) (nI (d + 1)) M = some (nI (hbF (apt T c) 1023), M) := fun q => by
      rw [f_Fits_fewestApart_115, f_Fits_fewestApart_116, if_pos rfl]
      exact skip (fun r => q r.1)
    by_cases c1 : nI (d + 1) &&& (nI c ^^^ (-1)) = 0
    · rw [if_pos c1, an_67_14, Bool.false_or, ar_67 hH.1, ti_n (show d + 1 < 1024 by omega) (by decide), gd_T, cl_n (by omega), hT (d + 1) (by omega)]
      cases hTd : T (d + 1)
      · have ha : apt T c (d + 1) = true := by unfold apt; rw [hTd, decide_eq_true c1]; rfl
        rw [if_pos (show bz false = 0 from rfl), f_Fits_fewestApart_116, if_neg (by decide)]
        by_cases c2 : hbF (apt T c) d = 0
        · rw [if_pos (by rw [c2]; rfl)]
          exact take ⟨ha, Or.inl c2⟩
        · rw [if_neg (nI_ne0 (by omega) (by omega)), Int_bitCount N M (show d + 1 < 1024 by omega), bn_S]
          show (f_Int_bitCount N (nI (hbF (apt T c) d)) M).bind _ = _
          rw [Int_bitCount N M (show hbF (apt T c) d < 1024 by omega), bn_S]
          show (if nI (pc (hbF (apt T c) d)) ≤ nI (pc (d + 1)) then _ else _) = _
          by_cases c3 : pc (hbF (apt T c) d) ≤ pc (d + 1)
          · rw [if_pos (nI_le c3 (by omega))]
            exact skip (fun q => by omega)
          · rw [if_neg (nI_ge (by omega) (by omega))]
            exact take ⟨ha, Or.inr (by omega)⟩
      · rw [if_neg (show ¬ bz true = 0 by decide)]
        exact no (by unfold apt; rw [hTd]; simp)
    · rw [if_neg c1]
      exact no (by unfold apt; rw [decide_eq_false c1]; simp)
/-- both ways to QUARREL come to the same -/
theorem qa_eq (F : FE) (hm : F.B.m ≤ 10) (hn : F.n ≤ F.B.m) (h0 : 0 < nu F) : nI (hbF (apt (mpA (TG F) 10) (bN (sgt F.B F.n) 10)) 1023) = qaM F := by
  have hq := qN_lt F hm hn
  have e1 : bN (sgt F.B F.n) 10 = qN F := by
    apply Nat.eq_of_testBit_eq
    intro i
    unfold qN
    rw [bN_t, bN_t]
    unfold sgt
    by_cases h : i < F.n
    · have h10 : i < 10 := by omega
      simp [h, h10]
    · simp [h]
  have e2 : ∀ s, s < 1024 → mpA (TG F) 10 s = dnA (TG F) 1023 s := fun s hs => by
    have h1 := mpA_clo (TG F) hs
    have h2 := dnA_clo (TG F) hs
    cases h3 : mpA (TG F) 10 s
    · cases h4 : dnA (TG F) 1023 s
      · rfl
      · rw [h1.mpr (h2.mp h4)] at h3; cases h3
    · rw [h2.mpr (h1.mp h3)]
  have e3 : hbF (apt (mpA (TG F) 10) (qN F)) 1023 = hbF (apt (dnA (TG F) 1023) (qN F)) 1023 := sel_cg _ _ (fun t ht => by unfold apt; rw [e2 t ht]) 1023 (Nat.le_refl _)
  have hsub : ∀ s, s < 1024 → nI s &&& (nI (qN F) ^^^ (-1)) = 0 → sub s (qN F) := fun s hs h i hi => by
    by_cases c : i < 32
    · exact (x_out (by omega)).mp h i c hi
    · have hp : (2 : Nat) ^ 10 ≤ 2 ^ i := Nat.pow_le_pow_right (by decide) (by omega)
      rw [Nat.testBit_lt_two_pow (Nat.lt_of_lt_of_le hs hp)] at hi
      cases hi
  rw [e1, e3]
  unfold qaM
  rw [if_neg (by omega)]
  cases hT : dnA (TG F) 1023 (qN F)
  · rw [if_neg (by decide)]
    rw [sel_eq (apt (dnA (TG F) 1023) (qN F)) (qN F) ?_ ?_ hq]
    · have : dnA (TG F) 1023 0 = true := (dnA_clo (TG F) (by omega)).mpr ⟨bN (hoB F (W0 F)) F.B.m, ho_lt F (W0 F) hm, by
        unfold TG
        rw [sn]
        apply sn_mono
        show (if _ then true else false) = true
        rw [if_pos rfl], fun i hi => by rw [Nat.zero_testBit] at hi; cases hi⟩
      unfold apt
      rw [this]
      simp
    · unfold apt
      rw [hT, decide_eq_true ((x_out (by omega)).mpr (fun _ _ h => h))]
      rfl
  · rw [if_pos rfl, sel_no]
    · rfl
    · intro t ht
      unfold apt
      by_cases c : nI t &&& (nI (qN F) ^^^ (-1)) = 0
      · obtain ⟨u, u1, u2, u3⟩ := (dnA_clo (TG F) hq).mp hT
        rw [(dnA_clo (TG F) ht).mpr ⟨u, u1, u2, sub_trans (hsub t ht c) u3⟩]
        simp
      · rw [decide_eq_false c]
        rfl
theorem Fits_fewestApart (N : Nat) (hN : 200000 ≤ N) (F : FE) (hp : 0 ≤ F.por.toInt ∧ F.por.toInt ≤ 10) (M : sw_M) (hF : HFE M F) : ∃ Z, f_Fits_fewestApart N 42 M = some (qaM F, Z) ∧ Fr Aqh M Z := by
  have hH := hF.1
  have h6 := hF.2.2.2.2.2.2.2.2.1.2.2.2.1
  have hm := hF.2.2.2.2.1.1
  have hn := hF.2.2.2.2.2.1
  have hH1 := hH.1
  obtain ⟨Z, z1, z2, z3⟩ := few_2 N 1024 N 0 M (by omega) (by omega) hH
  have fZ : Fr Aqh M Z := z2.mono (fun a k h => Or.inr h.1)
  have hFZ := HFE_fr2 fZ hF
  unfold f_Fits_fewestApart
  rw [show f_Fits_fewestApart_2 N N 42 (0 : Int32) M = _ from z1]
  obtain ⟨Y, f1, h⟩ := Fits_begin N (by omega) F Z hFZ
  have fY : Fr Aqh M Y := fZ.trans (f1.mono (fun _ _ h => Or.inl h))
  rcases h with ⟨e0, e1⟩ | ⟨e0, e1, e2⟩
  · rw [e1, bn_S]
    unfold qaM
    rw [if_pos e0]
    exact ⟨Y, rfl, fY⟩
  · have hg : WG F (W0 F) := ⟨W0_K F e0 hp.1, W0_z F e0⟩
    have hb := mu_b hp.2 h6 hg
    rw [e1, bn_S]
    show ∃ Z', (if (1 : Int32) = 0 then _ else f_Fits_fewestApart_37 N N 42 1 0 Y) = _ ∧ _
    rw [if_neg (by decide)]
    obtain ⟨X, x1, x2, x3⟩ := few_37 N (by omega) F hp.2 e0 161053 0 N Y (W0 F) (fun _ => false) (HFE_fr f1 hFZ) ⟨e2, hg⟩ (fun s hs => by rw [f1.I 67 s (by unfold Awh; omega)]; exact z3 s (by omega) hs) (by omega) (by omega) (by omega)
    have fX : Fr Aqh M X := fY.trans x2
    have hFX := HFE_fr2 fX hF
    have x1' : f_Fits_fewestApart_37 N N 42 1 0 Y = f_Fits_fewestApart_68 N 42 X := x1
    obtain ⟨V, v1, v2, v3⟩ := mark_2 N (by omega) (TG F) 10 0 N X (by omega) (by omega) hFX.1 x3
    have fV : Fr Aqh M V := fX.trans (v2.mono (fun _ _ h => Or.inr h))
    have hFV := HFE_fr2 fV hF
    have v1' : f_Fits_markParts N 42 X = some V := v1
    have kb : f_Fits_knownBits N 42 V = some (nI (bN (sgt F.B F.n) 10), V) := knownBits_4 N F V hFV 10 0 N (by omega) (by omega)
    refine ⟨V, ?_, fV⟩
    rw [x1', f_Fits_fewestApart_68, ok_42 hFX.1.1, gd_T, v1', bn_S, ok_42 hFV.1.1, gd_T, kb, bn_S, ← qa_eq F hm hn e0]
    exact few_82 N (mpA (TG F) 10) (bN (sgt F.B F.n) 10) 1023 0 N V (by omega) (by omega) hFV.1 v3
