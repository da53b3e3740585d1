/-! 96e: a STREAM's TRAIL, on the reference's side -/
def MFw (M : sw_M) (F : SQ) : Prop := rd_I M 124 0 = F.1.1 ∧ rd_I M 124 1 = F.1.2.1 ∧ rd_I M 124 2 = F.1.2.2.1 ∧ rd_I M 124 3 = F.1.2.2.2 ∧ rd_I M 124 4 = F.2.1.1 ∧ rd_I M 124 5 = F.2.1.2.1 ∧ rd_I M 124 6 = F.2.1.2.2.1 ∧ rd_I M 124 7 = F.2.1.2.2.2 ∧ rd_I M 124 8 = nI F.m ∧ rd_I M 124 9 = nI F.L
theorem MFw_fr {A : Nat → Nat → Prop} {M W : sw_M} (h : Fr A M W) (hA : ∀ k, ¬ A 124 k) {F : SQ} (g : MFw M F) : MFw W F := by
  unfold MFw
  rw [h.I 124 _ (hA _), h.I 124 _ (hA _), h.I 124 _ (hA _), h.I 124 _ (hA _), h.I 124 _ (hA _), h.I 124 _ (hA _), h.I 124 _ (hA _), h.I 124 _ (hA _), h.I 124 _ (hA _), h.I 124 _ (hA _)]
  exact g
/-- a star on its way, on the reference's side -/
def M4 (M : sw_M) (s : SS) : Prop := rd_L M 80 39 = s.x ∧ rd_L M 80 40 = s.y ∧ rd_L M 80 41 = s.u ∧ rd_L M 80 42 = s.v
theorem CfAw : ∀ a k, Cf a k → ¬ Aw a k := by intro a k h; unfold Cf at h; unfold Aw; omega
theorem Model_trailOf_106 (N : Nat) (hN : 40 ≤ N) (k5 : Nat → Int32 → Int64 → Int32 → sw_M → Option (Int64 × sw_M)) (P : Nat → PartS) (n : Nat) (mass : Int32) (T : Nat → SS) (L D : Nat) (hw : WS P n mass T L D) (b : Int64) (a4 : Int32) :
    ∀ (d j t : Nat) (M : sw_M), t + d = D → d < j → MR M → HR M → FR M n → mpart M = P → rd_I M 124 9 = nI L → M4 M (T t) →
    ∃ W, f_Model_trailOf_106 N k5 j 80 mass b a4 (nI t) M = f_Model_trailOf_138 N k5 80 mass b a4 W ∧ Fr Aw M W ∧ M4 W (T D)
  | 0, j, t, M, ht, hj, hM, hH, hF, hP, h9, hs => by
    obtain ⟨j, rfl⟩ : ∃ k, j = k + 1 := ⟨j - 1, by omega⟩
    obtain rfl : t = D := by omega
    obtain ⟨w0, w1, w2, w3, w4, w5, w6⟩ := hw
    obtain ⟨s1, s2, s3, s4⟩ := id hs
    refine ⟨M, ?_, Fr.refl _ _, hs⟩
    have i9 : (9 : Int32).toNatClampNeg = 9 := by decide
    have c9 : sw_ti (9 : Int32) 10 = true := by decide
    rw [f_Model_trailOf_106, ok_80 hM.1, gd_T, mr_90 hM, ar_124 hM.1, c9, gd_T, i9, h9]
    rcases Nat.lt_or_ge t L with c | c
    · rw [if_neg (nI_ge c (by omega)), Model_isGone N M hM, bn_S]
      have : (T t).g = 1 := by
        rcases w5 with e | e
        · omega
        · exact e
      show (if bz (bey (rd_L M 80 39) (rd_L M 80 40)) = 0 then _ else _) = _
      rw [s1, s2, ← w6 t (Nat.le_refl t), this, if_neg (by decide)]
    · rw [if_pos (nI_le c (by omega))]
  | d + 1, j, t, M, ht, hj, hM, hH, hF, hP, h9, hs => by
    obtain ⟨j, rfl⟩ : ∃ k, j = k + 1 := ⟨j - 1, by omega⟩
    obtain ⟨w0, w1, w2, w3, w4, w5, w6⟩ := id hw
    obtain ⟨g0, gx, gy⟩ := w4 t (by omega)
    have ht' := (w3 t (by omega)).1
    obtain ⟨s1, s2, s3, s4⟩ := id hs
    have i9 : (9 : Int32).toNatClampNeg = 9 := by decide
    have c9 : sw_ti (9 : Int32) 10 = true := by decide
    rw [f_Model_trailOf_106, ok_80 hM.1, gd_T, mr_90 hM, ar_124 hM.1, c9, gd_T, i9, h9, if_neg (nI_ge (by omega) (by omega)), Model_isGone N M hM, bn_S]
    obtain ⟨W, e1, e2, e3, e4, e5, e6⟩ := Model_steps N hN M hM n hF (nI t) mass (by rw [nI_toInt (by omega)]; omega) (T t).x (T t).y (T t).u (T t).v s1 s2 s3 s4 (nB_Bd gx (by omega)) (nB_Bd gy (by omega))
    rw [hP] at e3 e4 e5 e6
    obtain ⟨V, v1, v2, v3⟩ := Model_trailOf_106 N hN k5 P n mass T L D hw b a4 d j (t + 1) W (by omega) (by omega) (e2.mr hM) (e2.hr hH) (FR_fr e2 CfAw hH hF) ((mpart_fr e2 CfAw).trans hP) ((e2.I 124 9 (by unfold Aw; omega)).trans h9) (by
      unfold M4
      rw [w2, e3, e4, e5, e6, ← ht']
      exact ⟨rfl, rfl, rfl, rfl⟩)
    refine ⟨V, ?_, e2.trans v2, v3⟩
    show (if bz (bey (rd_L M 80 39) (rd_L M 80 40)) = 0 then _ else _) = _
    rw [s1, s2, ← w6 t (by omega), g0, if_pos rfl, ok_80 hM.1, gd_T, e1, bn_S, nI_1, v1]
theorem Model_trailOf_138 (N : Nat) (k5 : Nat → Int32 → Int64 → Int32 → sw_M → Option (Int64 × sw_M)) (g r mass : Int32) (hg : GB g r) (M : sw_M) (hM : MR M) (s : SS) (hs : M4 M s) (hb : s.g = bz (bey s.x s.y)) (h5 : rd_I M 80 71 = g) (h6 : rd_I M 80 72 = r) (b : Int64) (i : Nat) :
    f_Model_trailOf_138 N k5 80 mass b (nI i) M = k5 80 mass (bitS g r b s) (nI (i + 1)) M := by
  obtain ⟨s1, s2, s3, s4⟩ := hs
  unfold f_Model_trailOf_138 bitS
  rw [ok_80 hM.1, gd_T, Model_isGone N M hM, bn_S]
  show (if bz (bey (rd_L M 80 39) (rd_L M 80 40)) = 0 then _ else _) = _
  rw [s1, s2, ← hb]
  by_cases c : s.g = 0
  · rw [if_pos c, if_pos c, ok_80 hM.1, gd_T]
    show (f_Model_cellOf N 80 s.x s.y M).bind _ = _
    rw [Model_cellOf N M hM g r h5 h6 hg, bn_S]
    show f_Model_trailOf_161 N k5 80 mass b (nI i) (celI g r s.x s.y) M = _
    unfold f_Model_trailOf_161
    by_cases c2 : celI g r s.x s.y = -1
    · rw [if_pos c2, if_pos c2, f_Model_trailOf_176, nI_1]
    · rw [if_neg c2, if_neg c2, f_Model_trailOf_176, nI_1]
  · rw [if_neg c, if_neg c]
    unfold f_Model_trailOf_161
    rw [if_pos rfl, f_Model_trailOf_176, nI_1]
theorem Model_trailOf_5 (N : Nat) (hN : 300 ≤ N) (P : Nat → PartS) (n : Nat) (mass g r : Int32) (hg : GB g r) (hmb : mok mass) (F : SQ) (hG : SG F) :
    ∀ (d j i : Nat) (M : sw_M), i + d = F.m → d < j → MR M → HR M → FR M n → mpart M = P → rd_I M 80 71 = g → rd_I M 80 72 = r → MFw M F →
    ∃ W, f_Model_trailOf_5 N j 80 mass (tb P n mass g r F i) (nI i) M = some (tb P n mass g r F F.m, W) ∧ Fr Aw M W
  | 0, j, i, M, hi, hj, hM, hH, hF, hP, h5, h6, hs => by
    obtain ⟨j, rfl⟩ : ∃ k, j = k + 1 := ⟨j - 1, by omega⟩
    have hi' : i = F.m := by omega
    obtain ⟨q0, q1, q2, q3, q4, q5, q6, q7, q8, q9⟩ := hs
    have hb := hG.1
    have i8 : (8 : Int32).toNatClampNeg = 8 := by decide
    have c8 : sw_ti (8 : Int32) 10 = true := by decide
    refine ⟨M, ?_, Fr.refl _ _⟩
    rw [f_Model_trailOf_5, ok_80 hM.1, gd_T, mr_90 hM, ar_124 hM.1, c8, gd_T, i8, q8, if_pos (nI_le (by omega) (by omega)), hi']
  | d + 1, j, i, M, hi, hj, hM, hH, hF, hP, h5, h6, hs => by
    obtain ⟨j, rfl⟩ : ∃ k, j = k + 1 := ⟨j - 1, by omega⟩
    obtain ⟨q0, q1, q2, q3, q4, q5, q6, q7, q8, q9⟩ := id hs
    have hb := hG.1
    have hPp : ∀ p, p < n → POk (P p) := fun p hp => by rw [← hP]; exact (hF.2.2.2 p hp).1
    have hw := hG.w hF.1 hPp hmb (show i < F.m by omega)
    have i0 : (0 : Int32).toNatClampNeg = 0 := by decide
    have i1 : (1 : Int32).toNatClampNeg = 1 := by decide
    have i2 : (2 : Int32).toNatClampNeg = 2 := by decide
    have i3 : (3 : Int32).toNatClampNeg = 3 := by decide
    have i4 : (4 : Int32).toNatClampNeg = 4 := by decide
    have i5 : (5 : Int32).toNatClampNeg = 5 := by decide
    have i6 : (6 : Int32).toNatClampNeg = 6 := by decide
    have i7 : (7 : Int32).toNatClampNeg = 7 := by decide
    have i8 : (8 : Int32).toNatClampNeg = 8 := by decide
    have c0 : sw_ti (0 : Int32) 10 = true := by decide
    have c1 : sw_ti (1 : Int32) 10 = true := by decide
    have c2 : sw_ti (2 : Int32) 10 = true := by decide
    have c3 : sw_ti (3 : Int32) 10 = true := by decide
    have c4 : sw_ti (4 : Int32) 10 = true := by decide
    have c5 : sw_ti (5 : Int32) 10 = true := by decide
    have c6 : sw_ti (6 : Int32) 10 = true := by decide
    have c7 : sw_ti (7 : Int32) 10 = true := by decide
    have c8 : sw_ti (8 : Int32) 10 = true := by decide
    have cA : ∀ a k, Cf a k → ¬ Aw a k := CfAw
    have f1 : ∀ a b c d, Fr Aw M (wr_L (wr_L (wr_L (wr_L M 80 39 a) 80 40 b) 80 41 c) 80 42 d) := fun a b c d =>
      ((((Fr.refl Aw M).wL _ _ _ (by unfold Aw; omega)).wL _ _ _ (by unfold Aw; omega)).wL _ _ _ (by unfold Aw; omega)).wL _ _ _ (by unfold Aw; omega)
    obtain ⟨W, e1, e2, e3⟩ := Model_trailOf_106 N (by omega) (f_Model_trailOf_5 N j) P n mass (tr P n mass (F.at i)) F.L (dn P n mass F.L (F.at i)) hw (tb P n mass g r F i) (nI i) (dn P n mass F.L (F.at i)) N 0 _ (by omega) (by have := hw.1; have := hw.2.1; omega) ((f1 (F.1.1 + nI i * F.2.1.1).toInt64 (F.1.2.1 + nI i * F.2.1.2.1).toInt64 (F.1.2.2.1 + nI i * F.2.1.2.2.1).toInt64 (F.1.2.2.2 + nI i * F.2.1.2.2.2).toInt64).mr hM) ((f1 _ _ _ _).hr hH) (FR_fr (f1 _ _ _ _) cA hH hF) ((mpart_fr (f1 _ _ _ _) cA).trans hP) (((f1 _ _ _ _).I 124 9 (by unfold Aw; omega)).trans q9) (by
      unfold M4
      simp only [m_II, m_LL, m_RR, m_IL, m_IR, m_LI, m_LR, m_RI, m_RL, m_NI, m_NL, m_NR, m_okI, m_okL, m_okR, m_okaI, m_okaL, m_okaR, m_arI, m_arL, m_arR, gd_T, bn_S, Nat.reduceEqDiff, Nat.left_eq_add, Nat.add_eq_left, Nat.one_ne_zero, and_false, and_true, false_and, true_and, if_false, if_true]
      exact ⟨rfl, rfl, rfl, rfl⟩)
    have fW : Fr Aw M W := (f1 _ _ _ _).trans e2
    obtain ⟨V, v1, v2⟩ := Model_trailOf_5 N hN P n mass g r hg hmb F hG d j (i + 1) W (by omega) (by omega) (fW.mr hM) (fW.hr hH) (FR_fr fW cA hH hF) ((mpart_fr fW cA).trans hP) ((fW.I 80 71 (by unfold Aw; omega)).trans h5) ((fW.I 80 72 (by unfold Aw; omega)).trans h6) (MFw_fr fW (fun k => by unfold Aw; omega) hs)
    refine ⟨V, ?_, fW.trans v2⟩
    rw [f_Model_trailOf_5]
    unfold f_Model_trailOf_81
    simp only [m_II, m_LL, m_RR, m_IL, m_IR, m_LI, m_LR, m_RI, m_RL, m_NI, m_NL, m_NR, m_okI, m_okL, m_okR, m_okaI, m_okaL, m_okaR, m_arI, m_arL, m_arR, gd_T, bn_S, Nat.reduceEqDiff, Nat.left_eq_add, Nat.add_eq_left, Nat.one_ne_zero, and_false, and_true, false_and, true_and, if_false, if_true, ok_80 hM.1, mr_90 hM, ar_124 hM.1, c0, c1, c2, c3, c4, c5, c6, c7, c8, i0, i1, i2, i3, i4, i5, i6, i7, i8, q0, q1, q2, q3, q4, q5, q6, q7, q8, if_neg (nI_ge (show i < F.m by omega) (show F.m < 2 ^ 31 by omega))]
    refine Eq.trans e1 ?_
    rw [Model_trailOf_138 N _ g r mass hg W (fW.mr hM) _ e3 (hw.2.2.2.2.2.2 _ (Nat.le_refl _)) ((fW.I 80 71 (by unfold Aw; omega)).trans h5) ((fW.I 80 72 (by unfold Aw; omega)).trans h6)]
    exact v1
theorem Model_trailOf (N : Nat) (hN : 300 ≤ N) (M : sw_M) (hM : MR M) (hH : HR M) (n : Nat) (hF : FR M n) (mass g r : Int32) (hmb : mok mass) (hg : GB g r) (h5 : rd_I M 80 71 = g) (h6 : rd_I M 80 72 = r) (F : SQ) (hG : SG F) (hs : MFw M F) :
    ∃ W, f_Model_trailOf N 80 mass M = some (tb (mpart M) n mass g r F F.m, W) ∧ Fr Aw M W := by
  have := hG.1
  exact Model_trailOf_5 N hN (mpart M) n mass g r hg hmb F hG F.m N 0 M (by omega) (by omega) hM hH hF rfl h5 h6 hs
