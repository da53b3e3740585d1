/-! 97e: stream, trail -/
def Axf (a k : Nat) : Prop := (a = 3 ∧ (k = 6 ∨ k = 7)) ∨ a = 79 ∨ (a = 80 ∧ (k = 0 ∨ (37 ≤ k ∧ k ≤ 42)))
theorem CnAxf : ∀ a k, Cn a k → ¬ Axf a k := by intro a k h; unfold Cn Ci Chq Cmq Cf Cx Che Cnt at h; unfold Axf; omega
theorem AsAxf : ∀ a k, As 79 a k → Axf a k := by intro a k h; unfold As at h; unfold Axf; omega
theorem AwAxf : ∀ a k, Aw a k → Axf a k := by intro a k h; unfold Aw at h; unfold Axf; omega
theorem CfAxf : ∀ a k, Cf a k → ¬ Axf a k := by intro a k h; unfold Cf at h; unfold Axf; omega
theorem mok_of {c : Nat} {M : sw_M} {Q : QT} {mass : Int32} (g : IX c M Q mass) : mok mass := by
  obtain ⟨g1, g2, ⟨m1, m2, m3, m4⟩, g4⟩ := g
  obtain ⟨-, ⟨q1, q2, q3⟩, -⟩ := g1.2.2.2.2.2.2.2.2
  exact ⟨by omega, by omega⟩
theorem pr_trail (N : Nat) (hN : 300 ≤ N) (c : Nat) (M : sw_M) (g : Inv c M) : PR c M (f_House_trail N 1) (f_Model_trail N 80) := by
  obtain ⟨Q, mass, gx, g9, g10⟩ := id g
  obtain ⟨g1, g2, g3, g4, g5, g6, g7, g8, g8'⟩ := id gx
  obtain ⟨hH, hF, hE, hh, hB, hpo, hlo, hhi, hQB⟩ := id g1
  have hM := g2.1
  have hmb := mok_of gx
  have hg := hE.1.2.2.2.2.2
  rcases g5 with ⟨e1, e2⟩ | ⟨e1, F, e2, e3, e4, e5⟩
  · refine PR_0 0 g ?_ ?_
    · obtain ⟨j, hj⟩ : ∃ k, N = k + 1 := ⟨N - 1, by omega⟩
      unfold f_House_trail f_Stream_cellBits
      rw [show f_Stream_cellBits_5 N N = f_Stream_cellBits_5 N (j + 1) by rw [← hj]]
      simp only [f_Stream_cellBits_5, ok_1 hH.1, ok_78 hH.1, hr_f hH 1 10 78 rfl (by decide), m_II, m_LL, m_RR, m_IL, m_IR, m_LI, m_LR, m_RI, m_RL, m_NI, m_NL, m_NR, m_okI, m_okL, m_okR, m_okaI, m_okaL, m_okaR, m_arI, m_arL, m_arR, gd_T, bn_S, Nat.reduceEqDiff, Nat.left_eq_add, Nat.add_eq_left, Nat.one_ne_zero, and_false, and_true, false_and, true_and, if_false, if_true, e1]
      rfl
    · unfold f_Model_trail
      simp only [ok_80 hM.1, m_II, m_LL, m_RR, m_IL, m_IR, m_LI, m_LR, m_RI, m_RL, m_NI, m_NL, m_NR, m_okI, m_okL, m_okR, m_okaI, m_okaL, m_okaR, m_arI, m_arL, m_arR, gd_T, bn_S, Nat.reduceEqDiff, Nat.left_eq_add, Nat.add_eq_left, Nat.one_ne_zero, and_false, and_true, false_and, true_and, if_false, if_true, e2]
  · obtain ⟨W, w1, w2⟩ := Stream_cellBits N hN M hH Q.E.n hF mass Q.E.g Q.E.r g3.1 hmb hg hh.2.1 hh.2.2.1 F e3 e4
    have f1 : Fr Axf M W := w2.mono AsAxf
    have f2 : Fr Axf M (wr_I W 80 0 0) := f1.wI _ _ _ (by unfold Axf; omega)
    obtain ⟨Z, z1, z2⟩ := Model_trailOf N hN (wr_I W 80 0 0) (f2.mr hM) (f2.hr hH) Q.E.n (FR_fr f2 CfAxf hH hF) mass Q.E.g Q.E.r hmb hg ((f2.I 80 71 (by unfold Axf; omega)).trans hE.2.2.2.2.2.2.2.1) ((f2.I 80 72 (by unfold Axf; omega)).trans hE.2.2.2.2.2.2.2.2) F e3 (MFw_fr f2 (fun k => by unfold Axf; omega) e5)
    rw [mpart_fr f2 CfAxf] at z1
    refine ⟨tb (mpart M) Q.E.n mass Q.E.g Q.E.r F F.m, W, Z, ?_, f1.mr hM, ?_, Inv_fr (f2.trans (z2.mono AwAxf)) CnAxf g⟩
    · unfold f_House_trail
      rw [ok_1 hH.1, gd_T, hr_f hH 1 10 78 rfl (by decide), ok_78 hH.1, gd_T, hr_f hH 1 2 3 rfl (by decide), hr_f hH 1 6 33 rfl (by decide), w1, bn_S]
    · have b1 : rd_I W 80 89 = 1 := (f1.I 80 89 (by unfold Axf; omega)).trans e1
      have b2 : rd_I W 80 15 = mass := (f1.I 80 15 (by unfold Axf; omega)).trans g3.2.1
      unfold f_Model_trail
      simp only [f1.ok, ok_80 hM.1, m_II, m_LL, m_RR, m_IL, m_IR, m_LI, m_LR, m_RI, m_RL, m_NI, m_NL, m_NR, m_okI, m_okL, m_okR, m_okaI, m_okaL, m_okaR, m_arI, m_arL, m_arR, gd_T, bn_S, Nat.reduceEqDiff, Nat.left_eq_add, Nat.add_eq_left, Nat.one_ne_zero, and_false, and_true, false_and, true_and, if_false, if_true, b1, b2, show ¬ (1 : Int32) = 0 from by decide, z1]
/-- all is within: where it starts, how far apart, where it ends -/
def lin (x y u v a b e d m : Int32) : Bool := cs x y u v && (wi a 999 && wi b 999 && wi e 999 && wi d 999) && cs (x + (m - 1) * a) (y + (m - 1) * b) (u + (m - 1) * e) (v + (m - 1) * d)
theorem mid {x a : Int32} {m : Nat} {X : Int} (hX : X ≤ 9999) (h1 : 2 ≤ m ∧ m ≤ 16) (hx : -X ≤ x.toInt ∧ x.toInt ≤ X) (ha : -999 ≤ a.toInt ∧ a.toInt ≤ 999) (he : -X ≤ (x + (nI m - 1) * a).toInt ∧ (x + (nI m - 1) * a).toInt ≤ X) (i : Nat) (hi : i < m) : -X ≤ (x + nI i * a).toInt ∧ (x + nI i * a).toInt ≤ X := by
  have k : ∀ j, j < 16 → (x + nI j * a).toInt = x.toInt + (j : Int) * a.toInt := fun j hj => by
    have b1 : (j : Int) * a.toInt ≤ 15 * 999 := by
      rcases Int.le_total 0 a.toInt with h | h
      · calc (j : Int) * a.toInt ≤ 15 * a.toInt := Int.mul_le_mul_of_nonneg_right (by omega) h
          _ ≤ 15 * 999 := by omega
      · have := Int.mul_nonpos_of_nonneg_of_nonpos (show (0 : Int) ≤ j by omega) h
        omega
    have b2 : -(15 * 999) ≤ (j : Int) * a.toInt := by
      rcases Int.le_total 0 a.toInt with h | h
      · have := Int.mul_nonneg (show (0 : Int) ≤ j by omega) h
        omega
      · have := Int.mul_le_mul_of_nonpos_right (show (j : Int) ≤ 15 by omega) h
        omega
    have e : (nI j * a).toInt = (j : Int) * a.toInt := by
      rw [m32 (by rw [nI_toInt (by omega)]; omega) (by rw [nI_toInt (by omega)]; omega), nI_toInt (by omega)]
    rw [a32 (by rw [e]; omega) (by rw [e]; omega), e]
  have em : nI m - 1 = nI (m - 1) := by
    obtain ⟨q, rfl⟩ : ∃ q, m = q + 1 := ⟨m - 1, by omega⟩
    rw [Nat.add_sub_cancel, ← nI_m1 q, Int32.sub_eq_add_neg]
  rw [em, k (m - 1) (by omega)] at he
  rw [k i (by omega)]
  have hm : ((m - 1 : Nat) : Int) = (m : Int) - 1 := by omega
  rw [hm] at he
  rcases Int.le_total 0 a.toInt with h | h
  · have c1 := Int.mul_nonneg (show (0 : Int) ≤ i by omega) h
    have c2 := Int.mul_le_mul_of_nonneg_right (show (i : Int) ≤ (m : Int) - 1 by omega) h
    omega
  · have c1 := Int.mul_nonpos_of_nonneg_of_nonpos (show (0 : Int) ≤ i by omega) h
    have c2 := Int.mul_le_mul_of_nonpos_right (show (i : Int) ≤ (m : Int) - 1 by omega) h
    omega
theorem lin_SG {x y u v a b e d : Int32} {m L : Nat} (h : lin x y u v a b e d (nI m) = true) (hm : 2 ≤ m ∧ m ≤ 16) (hL : L ≤ 240) : SG ((x, y, u, v), (a, b, e, d), m, L) := by
  unfold lin at h
  simp only [Bool.and_eq_true] at h
  obtain ⟨⟨h1, ⟨⟨w1, w2⟩, w3⟩, w4⟩, h2⟩ := h
  obtain ⟨a1, a2, a3, a4⟩ := cs_SB h1
  obtain ⟨b1, b2, b3, b4⟩ := cs_SB h2
  have k : ∀ z, wi z 999 = true → -999 ≤ z.toInt ∧ z.toInt ≤ 999 := fun z hz => wi_b hz (by decide) (by decide) (by decide)
  exact ⟨hm.2, hL, fun i hi => ⟨mid (by omega) hm a1 (k _ w1) b1 i hi, mid (by omega) hm a2 (k _ w2) b2 i hi, mid (by omega) hm a3 (k _ w3) b3 i hi, mid (by omega) hm a4 (k _ w4) b4 i hi⟩⟩
theorem isLine (N : Nat) (x a m l : Int32) (M : sw_M) : f_Model_isLine N x a m l M = some (bz (wi x l && wi a 999 && wi (x + (m - 1) * a) l), M) := by
  unfold f_Model_isLine
  simp only [Model_isWithin, bn_S, bz_0]
  cases wi x l <;> cases wi a 999 <;> cases wi (x + (m - 1) * a) l <;> simp [bz]
