/-! 97s: feed -/
/-- the n-th byte of an int, from the highest -/
def byt (a : Int32) (n : Nat) : Nat := ((a >>> (nI (24 - 8 * n) &&& 31)) &&& 255).toInt.toNat
theorem byt_m (a : Int32) (n : Nat) (s : Int32) (hs : s = nI (24 - 8 * n) &&& 31) : (a >>> s) &&& 255 = nI (byt a n) ∧ byt a n < 256 := by
  have h0 : 0 ≤ ((a >>> s) &&& 255).toInt ∧ ((a >>> s) &&& 255).toInt < 256 := by
    have e : ((a >>> s) &&& 255).toBitVec.toNat < 256 := by
      show ((a >>> s).toBitVec &&& 255#32).toNat < 256
      rw [BitVec.toNat_and]
      have : (255#32).toNat = 255 := rfl
      rw [this]
      exact Nat.lt_of_le_of_lt Nat.and_le_right (by decide)
    have e2 : ((a >>> s) &&& 255).toInt = ((a >>> s) &&& 255).toBitVec.toInt := rfl
    rw [e2, BitVec.toInt_eq_toNat_cond]
    split <;> omega
  unfold byt
  rw [← hs]
  exact ⟨(nI_back _ h0.1).symm, by omega⟩
theorem t8_and (x : Int32) : (x &&& 255).toInt8 = x.toInt8 := by
  apply Int8.toBitVec_inj.1
  show (x.toBitVec &&& 255#32).signExtend 8 = x.toBitVec.signExtend 8
  rw [BitVec.signExtend_eq_setWidth_of_le _ (by decide), BitVec.signExtend_eq_setWidth_of_le _ (by decide)]
  apply BitVec.eq_of_getLsbD_eq
  intro i hi
  rw [BitVec.getLsbD_setWidth, BitVec.getLsbD_setWidth, BitVec.getLsbD_and]
  have : ∀ j, j < 8 → (255#32).getLsbD j = true := by decide
  rw [this i hi, Bool.and_true]
theorem hby (a : Int32) (n : Nat) (s : Int32) (hs : s = nI (24 - 8 * n) &&& 31) : (a >>> s).toInt8.toInt32 = (nI (byt a n)).toInt8.toInt32 := by
  rw [← (byt_m a n s hs).1, t8_and]
theorem t88 (x : Int32) : x.toInt8.toInt32.toInt8.toInt32 = x.toInt8.toInt32 := by
  rw [Int8.toInt8_toInt32]
def hb8 (a : Int32) (n : Nat) : Int32 := (nI (byt a n)).toInt8.toInt32
/-- four bytes more on the tape -/
def pb (M : sw_M) (p : Nat) (a : Int32) : sw_M := wr_I (wr_I (wr_I (wr_I (wr_I M 2 p (hb8 a 0)) 2 (p + 1) (hb8 a 1)) 2 (p + 2) (hb8 a 2)) 2 (p + 3) (hb8 a 3)) 1 1 (nI (p + 4))
theorem put1 (N : Nat) (M : sw_M) (hH : HR M) (p : Nat) (hp : p < 500) (h1 : rd_I M 1 1 = nI p) (a s : Int32) (n : Nat) (hs0 : ¬ s < 0) (hs : s &&& 31 = nI (24 - 8 * n) &&& 31) (j : Nat) : f_House_putBytes_3 N (j + 1) 1 a s M = f_House_putBytes_3 N j 1 a (s + (-8)) (wr_I (wr_I M 2 p (hb8 a n)) 1 1 (nI (p + 1))) := by
  rw [f_House_putBytes_3, if_neg hs0, ok_1 hH.1, gd_T, hr_f hH 1 0 2 rfl (by decide), oa_2 hH.1, gd_T, show sw_len 2 = 500 from rfl, h1, if_neg (nI_ge hp (by decide))]
  unfold f_House_putBytes_42
  rw [hby a n _ hs]
  have e8 : (nI (byt a n)).toInt8.toInt32.toInt8.toInt32 = (nI (byt a n)).toInt8.toInt32 := t88 _
  rw [e8, ar_2 hH.1, ti_n hp (by decide), an_2_15]
  simp only [decide_true, Bool.and_true, Bool.or_false, Bool.true_or, Bool.and_self, gd_T, cl_n (show p < 2 ^ 31 by omega), m_II, m_LL, m_RR, m_IL, m_IR, m_LI, m_LR, m_RI, m_RL, m_NI, m_NL, m_NR, m_okI, m_okL, m_okR, m_okaI, m_okaL, m_okaR, m_arI, m_arL, m_arR, gd_T, bn_S, Nat.reduceEqDiff, Nat.left_eq_add, Nat.add_eq_left, Nat.one_ne_zero, and_false, and_true, false_and, true_and, if_false, if_true, h1, nI_1]
  rfl
def Atp (p a k : Nat) : Prop := (a = 1 ∧ k = 1) ∨ (a = 2 ∧ p ≤ k)
theorem putBytes (N : Nat) (hN : 300 ≤ N) (M : sw_M) (hH : HR M) (p : Nat) (hp : p + 4 ≤ 500) (h1 : rd_I M 1 1 = nI p) (a : Int32) : ∃ W, f_House_putBytes N 1 a M = some W ∧ Fr (Atp p) M W ∧ rd_I W 1 1 = nI (p + 4) ∧ ∀ i, i < 4 → rd_I W 2 (p + i) = hb8 a i := by
  obtain ⟨j, hj⟩ : ∃ j, N = j + 5 := ⟨N - 5, by omega⟩
  have f1 : Fr (Atp p) M (wr_I (wr_I M 2 p (hb8 a 0)) 1 1 (nI (p + 1))) := ((Fr.refl _ M).wI _ _ _ (by unfold Atp; omega)).wI _ _ _ (by unfold Atp; omega)
  have f2 : Fr (Atp p) M (wr_I (wr_I (wr_I (wr_I M 2 p (hb8 a 0)) 1 1 (nI (p + 1))) 2 (p + 1) (hb8 a 1)) 1 1 (nI (p + 1 + 1))) := (f1.wI _ _ _ (by unfold Atp; omega)).wI _ _ _ (by unfold Atp; omega)
  have f3 : Fr (Atp p) M (wr_I (wr_I (wr_I (wr_I (wr_I (wr_I M 2 p (hb8 a 0)) 1 1 (nI (p + 1))) 2 (p + 1) (hb8 a 1)) 1 1 (nI (p + 1 + 1))) 2 (p + 1 + 1) (hb8 a 2)) 1 1 (nI (p + 1 + 1 + 1))) := (f2.wI _ _ _ (by unfold Atp; omega)).wI _ _ _ (by unfold Atp; omega)
  refine ⟨wr_I (wr_I (wr_I (wr_I (wr_I (wr_I (wr_I (wr_I M 2 p (hb8 a 0)) 1 1 (nI (p + 1))) 2 (p + 1) (hb8 a 1)) 1 1 (nI (p + 1 + 1))) 2 (p + 1 + 1) (hb8 a 2)) 1 1 (nI (p + 1 + 1 + 1))) 2 (p + 1 + 1 + 1) (hb8 a 3)) 1 1 (nI (p + 1 + 1 + 1 + 1)), ?_, (f3.wI _ _ _ (by unfold Atp; omega)).wI _ _ _ (by unfold Atp; omega), ?_, fun i hi => ?_⟩
  · unfold f_House_putBytes
    rw [show f_House_putBytes_3 N N = f_House_putBytes_3 N (j + 5) by rw [← hj]]
    rw [put1 N M hH p (by omega) h1 a 24 0 (by decide) (by decide), put1 N _ (f1.hr hH) (p + 1) (by omega) (by simp only [m_II, m_LL, m_RR, m_IL, m_IR, m_LI, m_LR, m_RI, m_RL, m_NI, m_NL, m_NR, m_okI, m_okL, m_okR, m_okaI, m_okaL, m_okaR, m_arI, m_arL, m_arR, gd_T, bn_S, Nat.reduceEqDiff, Nat.left_eq_add, Nat.add_eq_left, Nat.one_ne_zero, and_false, and_true, false_and, true_and, if_false, if_true]) a _ 1 (by decide) (by decide), put1 N _ (f2.hr hH) (p + 1 + 1) (by omega) (by simp only [m_II, m_LL, m_RR, m_IL, m_IR, m_LI, m_LR, m_RI, m_RL, m_NI, m_NL, m_NR, m_okI, m_okL, m_okR, m_okaI, m_okaL, m_okaR, m_arI, m_arL, m_arR, gd_T, bn_S, Nat.reduceEqDiff, Nat.left_eq_add, Nat.add_eq_left, Nat.one_ne_zero, and_false, and_true, false_and, true_and, if_false, if_true]) a _ 2 (by decide) (by decide), put1 N _ (f3.hr hH) (p + 1 + 1 + 1) (by omega) (by simp only [m_II, m_LL, m_RR, m_IL, m_IR, m_LI, m_LR, m_RI, m_RL, m_NI, m_NL, m_NR, m_okI, m_okL, m_okR, m_okaI, m_okaL, m_okaR, m_arI, m_arL, m_arR, gd_T, bn_S, Nat.reduceEqDiff, Nat.left_eq_add, Nat.add_eq_left, Nat.one_ne_zero, and_false, and_true, false_and, true_and, if_false, if_true]) a _ 3 (by decide) (by decide), f_House_putBytes_3, if_pos (by decide)]
  · simp only [m_II, m_LL, m_RR, m_IL, m_IR, m_LI, m_LR, m_RI, m_RL, m_NI, m_NL, m_NR, m_okI, m_okL, m_okR, m_okaI, m_okaL, m_okaR, m_arI, m_arL, m_arR, gd_T, bn_S, Nat.reduceEqDiff, Nat.left_eq_add, Nat.add_eq_left, Nat.one_ne_zero, and_false, and_true, false_and, true_and, if_false, if_true]
  · have : i = 0 ∨ i = 1 ∨ i = 2 ∨ i = 3 := by omega
    rcases this with e | e | e | e <;> subst e
    · simp only [m_II, m_LL, m_RR, m_IL, m_IR, m_LI, m_LR, m_RI, m_RL, m_NI, m_NL, m_NR, m_okI, m_okL, m_okR, m_okaI, m_okaL, m_okaR, m_arI, m_arL, m_arR, gd_T, bn_S, Nat.reduceEqDiff, Nat.left_eq_add, Nat.add_eq_left, Nat.one_ne_zero, and_false, and_true, false_and, true_and, if_false, if_true, Nat.add_zero, show ¬ p = p + 1 + 1 + 1 by omega, show ¬ p = p + 1 + 1 by omega, show ¬ p = p + 1 by omega]
    · simp only [m_II, m_LL, m_RR, m_IL, m_IR, m_LI, m_LR, m_RI, m_RL, m_NI, m_NL, m_NR, m_okI, m_okL, m_okR, m_okaI, m_okaL, m_okaR, m_arI, m_arL, m_arR, gd_T, bn_S, Nat.reduceEqDiff, Nat.left_eq_add, Nat.add_eq_left, Nat.one_ne_zero, and_false, and_true, false_and, true_and, if_false, if_true, show ¬ p + 1 = p + 1 + 1 + 1 by omega, show ¬ p + 1 = p + 1 + 1 by omega]
    · simp only [m_II, m_LL, m_RR, m_IL, m_IR, m_LI, m_LR, m_RI, m_RL, m_NI, m_NL, m_NR, m_okI, m_okL, m_okR, m_okaI, m_okaL, m_okaR, m_arI, m_arL, m_arR, gd_T, bn_S, Nat.reduceEqDiff, Nat.left_eq_add, Nat.add_eq_left, Nat.one_ne_zero, and_false, and_true, false_and, true_and, if_false, if_true, show p + 2 = p + 1 + 1 by omega, show ¬ p + 1 + 1 = p + 1 + 1 + 1 by omega]
    · simp only [m_II, m_LL, m_RR, m_IL, m_IR, m_LI, m_LR, m_RI, m_RL, m_NI, m_NL, m_NR, m_okI, m_okL, m_okR, m_okaI, m_okaL, m_okaR, m_arI, m_arL, m_arR, gd_T, bn_S, Nat.reduceEqDiff, Nat.left_eq_add, Nat.add_eq_left, Nat.one_ne_zero, and_false, and_true, false_and, true_and, if_false, if_true, show p + 3 = p + 1 + 1 + 1 by omega]
def Atm (p a k : Nat) : Prop := (a = 80 ∧ k = 23) ∨ (a = 92 ∧ p ≤ k)
theorem sft : ∀ t, t < 20 → ((24 : Int32) - (8 : Int32) * (nI t - nI t / (4 : Int32) * (4 : Int32))) &&& 31 = nI (24 - 8 * (t % 4)) &&& 31 := by decide
theorem selA {α : Type} (A : Nat → Int32) (X : Int32 → α) (t : Nat) (ht : t < 20) : (if (4 : Int32) ≤ nI t then if (8 : Int32) ≤ nI t then if (12 : Int32) ≤ nI t then if (16 : Int32) ≤ nI t then X (A 4) else X (A 3) else X (A 2) else X (A 1) else X (A 0)) = X (A (t / 4)) := by
  have hh : t / 4 = 0 ∨ t / 4 = 1 ∨ t / 4 = 2 ∨ t / 4 = 3 ∨ t / 4 = 4 := by omega
  have ge : ∀ k, k < 20 → k ≤ t → nI k ≤ nI t := fun k h1 h2 => nI_le h2 (by omega)
  have ng : ∀ k, k < 20 → t < k → ¬ nI k ≤ nI t := fun k h1 h2 => nI_ge h2 (by omega)
  rcases hh with e | e | e | e | e <;> rw [e]
  · rw [if_neg (show ¬ (4 : Int32) ≤ nI t from ng 4 (by omega) (by omega))]
  · rw [if_pos (show (4 : Int32) ≤ nI t from ge 4 (by omega) (by omega)), if_neg (show ¬ (8 : Int32) ≤ nI t from ng 8 (by omega) (by omega))]
  · rw [if_pos (show (4 : Int32) ≤ nI t from ge 4 (by omega) (by omega)), if_pos (show (8 : Int32) ≤ nI t from ge 8 (by omega) (by omega)), if_neg (show ¬ (12 : Int32) ≤ nI t from ng 12 (by omega) (by omega))]
  · rw [if_pos (show (4 : Int32) ≤ nI t from ge 4 (by omega) (by omega)), if_pos (show (8 : Int32) ≤ nI t from ge 8 (by omega) (by omega)), if_pos (show (12 : Int32) ≤ nI t from ge 12 (by omega) (by omega)), if_neg (show ¬ (16 : Int32) ≤ nI t from ng 16 (by omega) (by omega))]
  · rw [if_pos (show (4 : Int32) ≤ nI t from ge 4 (by omega) (by omega)), if_pos (show (8 : Int32) ≤ nI t from ge 8 (by omega) (by omega)), if_pos (show (12 : Int32) ≤ nI t from ge 12 (by omega) (by omega)), if_pos (show (16 : Int32) ≤ nI t from ge 16 (by omega) (by omega))]
theorem Model_feed_20 (N : Nat) (A : Nat → Int32) (p : Nat) (hp : p + 20 ≤ 500) : ∀ (d t j : Nat) (M : sw_M), t + d = 20 → d < j → MR M → rd_I M 80 23 = nI p →
    ∃ W, f_Model_feed_20 N j 80 (A 0) (A 1) (A 2) (A 3) (A 4) (nI t) M = some (nI (p + 20), W) ∧ Fr (Atm (p + t)) M W ∧ rd_I W 80 23 = nI (p + 20) ∧ ∀ i, t ≤ i → i < 20 → rd_I W 92 (p + i) = nI (byt (A (i / 4)) (i % 4))
  | 0, t, j, M, ht, hj, hM, h23 => by
    obtain ⟨j, rfl⟩ : ∃ k, j = k + 1 := ⟨j - 1, by omega⟩
    obtain rfl : t = 20 := by omega
    refine ⟨wr_I M 80 23 (nI (p + 20)), ?_, (Fr.refl _ M).wI _ _ _ (by unfold Atm; omega), by simp only [m_II, m_LL, m_RR, m_IL, m_IR, m_LI, m_LR, m_RI, m_RL, m_NI, m_NL, m_NR, m_okI, m_okL, m_okR, m_okaI, m_okaL, m_okaR, m_arI, m_arL, m_arR, gd_T, bn_S, Nat.reduceEqDiff, Nat.left_eq_add, Nat.add_eq_left, Nat.one_ne_zero, and_false, and_true, false_and, true_and, if_false, if_true], fun i h1 h2 => by omega⟩
    have e : nI p + 20 = nI (p + 20) := nI_add p 20
    rw [f_Model_feed_20, if_pos (by decide), ok_80 hM.1, gd_T, h23, e]
    simp only [m_II, m_LL, m_RR, m_IL, m_IR, m_LI, m_LR, m_RI, m_RL, m_NI, m_NL, m_NR, m_okI, m_okL, m_okR, m_okaI, m_okaL, m_okaR, m_arI, m_arL, m_arR, gd_T, bn_S, Nat.reduceEqDiff, Nat.left_eq_add, Nat.add_eq_left, Nat.one_ne_zero, and_false, and_true, false_and, true_and, if_false, if_true]
  | d + 1, t, j, M, ht, hj, hM, h23 => by
    obtain ⟨j, rfl⟩ : ∃ k, j = k + 1 := ⟨j - 1, by omega⟩
    obtain ⟨b1, b2⟩ := byt_m (A (t / 4)) (t % 4) _ (sft t (by omega))
    have e : nI p + nI t = nI (p + t) := nI_add p t
    have f1 : Fr (Atm (p + t)) M (wr_I M 92 (p + t) (nI (byt (A (t / 4)) (t % 4)))) := (Fr.refl _ M).wI _ _ _ (by unfold Atm; omega)
    obtain ⟨W, w1, w2, w3, w4⟩ := Model_feed_20 N A p hp d (t + 1) j _ (by omega) (by omega) (f1.mr hM) (by simp only [m_II, m_LL, m_RR, m_IL, m_IR, m_LI, m_LR, m_RI, m_RL, m_NI, m_NL, m_NR, m_okI, m_okL, m_okR, m_okaI, m_okaL, m_okaR, m_arI, m_arL, m_arR, gd_T, bn_S, Nat.reduceEqDiff, Nat.left_eq_add, Nat.add_eq_left, Nat.one_ne_zero, and_false, and_true, false_and, true_and, if_false, if_true]; exact h23)
    refine ⟨W, ?_, f1.trans (w2.mono (fun a k h => by unfold Atm at h ⊢; omega)), w3, fun i h1 h2 => ?_⟩
    · rw [f_Model_feed_20, if_neg (show ¬ (20 : Int32) ≤ nI t from (nI_ge (by omega) (by omega) : ¬ nI 20 ≤ nI t)), selA A (fun b => f_Model_feed_73 N (f_Model_feed_20 N j) 80 (A 0) (A 1) (A 2) (A 3) (A 4) (nI t) b M) t (by omega)]
      unfold f_Model_feed_73
      rw [ok_80 hM.1, gd_T, mr_22 hM, h23, e, ar_92 hM.1, ti_n (show p + t < 500 by omega) (by decide), gd_T, cl_n (show p + t < 2 ^ 31 by omega), b1, nI_1]
      exact w1
    · by_cases q : i = t
      · subst q
        rw [w2.I 92 (p + i) (by unfold Atm; omega)]
        simp only [m_II, m_LL, m_RR, m_IL, m_IR, m_LI, m_LR, m_RI, m_RL, m_NI, m_NL, m_NR, m_okI, m_okL, m_okR, m_okaI, m_okaL, m_okaR, m_arI, m_arL, m_arR, gd_T, bn_S, Nat.reduceEqDiff, Nat.left_eq_add, Nat.add_eq_left, Nat.one_ne_zero, and_false, and_true, false_and, true_and, if_false, if_true]
      · exact w4 i (by omega) h2
theorem pr_feed (N : Nat) (hN : 300 ≤ N) (c : Nat) (M : sw_M) (g : Inv c M) (a0 a1 a2 a3 a4 : Int32) : PR c M (f_House_feed N 1 a0 a1 a2 a3 a4) (f_Model_feed N 80 a0 a1 a2 a3 a4) := by
  obtain ⟨Q, mass, gx, g9, g10⟩ := id g
  obtain ⟨g1, g2, g3, g4, g5, ⟨n, n1, n2, n3, n4⟩, g7, g8, g8'⟩ := id gx
  have hH := g1.1
  have hM := g2.1
  have e20 : nI (20 * n) + 20 = nI (20 * n + 20) := nI_add (20 * n) 20
  by_cases q : n ≤ 24
  · obtain ⟨W1, u1, u2, u3, u4⟩ := putBytes N hN M hH (20 * n) (by omega) n2 a0
    obtain ⟨W2, v1, v2, v3, v4⟩ := putBytes N hN W1 (u2.hr hH) (20 * n + 4) (by omega) u3 a1
    obtain ⟨W3, x1, x2, x3, x4⟩ := putBytes N hN W2 (v2.hr (u2.hr hH)) (20 * n + 4 + 4) (by omega) v3 a2
    obtain ⟨W4, y1, y2, y3, y4⟩ := putBytes N hN W3 (x2.hr (v2.hr (u2.hr hH))) (20 * n + 4 + 4 + 4) (by omega) x3 a3
    obtain ⟨W5, z1, z2, z3, z4⟩ := putBytes N hN W4 (y2.hr (x2.hr (v2.hr (u2.hr hH)))) (20 * n + 4 + 4 + 4 + 4) (by omega) y3 a4
    have hH5 := z2.hr (y2.hr (x2.hr (v2.hr (u2.hr hH))))
    have mo : ∀ p, 20 * n ≤ p → ∀ a k, Atp p a k → Atp (20 * n) a k := fun p hp a k h => by unfold Atp at h ⊢; omega
    have f5 : Fr (Atp (20 * n)) M W5 := (((u2.trans (v2.mono (mo _ (by omega)))).trans (x2.mono (mo _ (by omega)))).trans (y2.mono (mo _ (by omega)))).trans (z2.mono (mo _ (by omega)))
    have c2 : ∀ i, i < 20 → rd_I W5 2 (20 * n + i) = hb8 (if i / 4 = 0 then a0 else if i / 4 = 1 then a1 else if i / 4 = 2 then a2 else if i / 4 = 3 then a3 else a4) (i % 4) := fun i hi => by
      have hh : i / 4 = 0 ∨ i / 4 = 1 ∨ i / 4 = 2 ∨ i / 4 = 3 ∨ i / 4 = 4 := by omega
      rcases hh with e | e | e | e | e <;> rw [e]
      · rw [z2.I 2 _ (by unfold Atp; omega), y2.I 2 _ (by unfold Atp; omega), x2.I 2 _ (by unfold Atp; omega), v2.I 2 _ (by unfold Atp; omega), show 20 * n + i = 20 * n + i % 4 by omega]
        exact u4 _ (by omega)
      · rw [z2.I 2 _ (by unfold Atp; omega), y2.I 2 _ (by unfold Atp; omega), x2.I 2 _ (by unfold Atp; omega), show 20 * n + i = 20 * n + 4 + i % 4 by omega]
        exact v4 _ (by omega)
      · rw [z2.I 2 _ (by unfold Atp; omega), y2.I 2 _ (by unfold Atp; omega), show 20 * n + i = 20 * n + 4 + 4 + i % 4 by omega]
        exact x4 _ (by omega)
      · rw [z2.I 2 _ (by unfold Atp; omega), show 20 * n + i = 20 * n + 4 + 4 + 4 + i % 4 by omega]
        exact y4 _ (by omega)
      · rw [show 20 * n + i = 20 * n + 4 + 4 + 4 + 4 + i % 4 by omega]
        exact z4 _ (by omega)
    have hM5 := f5.mr hM
    have r23 : rd_I (wr_I W5 80 0 0) 80 23 = nI (20 * n) := by
      simp only [m_II, m_LL, m_RR, m_IL, m_IR, m_LI, m_LR, m_RI, m_RL, m_NI, m_NL, m_NR, m_okI, m_okL, m_okR, m_okaI, m_okaL, m_okaR, m_arI, m_arL, m_arR, gd_T, bn_S, Nat.reduceEqDiff, Nat.left_eq_add, Nat.add_eq_left, Nat.one_ne_zero, and_false, and_true, false_and, true_and, if_false, if_true]
      exact (f5.I 80 23 (by unfold Atp; omega)).trans n3
    obtain ⟨Z, k1, k2, k3, k4⟩ := Model_feed_20 N (fun k => if k = 0 then a0 else if k = 1 then a1 else if k = 2 then a2 else if k = 3 then a3 else a4) (20 * n) (by omega) 20 0 N (wr_I W5 80 0 0) (by omega) (by omega) hM5 r23
    have f6 : Fr (fun a k => (a = 1 ∧ k = 1) ∨ (a = 2 ∧ 20 * n ≤ k) ∨ (a = 80 ∧ (k = 0 ∨ k = 23)) ∨ (a = 92 ∧ 20 * n ≤ k)) M Z := ((f5.mono (fun a k h => by unfold Atp at h; omega)).wI 80 0 0 (by omega)).trans (k2.mono (fun a k h => by unfold Atm at h; omega))
    have zI : ∀ a k, a = 1 ∨ a = 2 → rd_I Z a k = rd_I W5 a k := fun a k h => by
      rw [k2.I a k (by unfold Atm; omega), m_II, if_neg (by omega)]
    refine ⟨nI (20 * n + 20), W5, Z, ?_, hM5, ?_, Inv_part (f6.mono (fun a k h => by unfold Ax; omega)) gx g9 g10 (ISt_up (ISt_fr f6 (fun a k h => by unfold C1 at h; omega) g4)) (IFl_fr f6 (fun a k h => by unfold C2 at h; omega) g5) ⟨n + 1, by omega, ?_, ?_, fun i hi => ?_⟩ (IFa_fr f6 (fun a k h => by unfold C4 at h; omega) g7)⟩
    · unfold f_House_feed
      rw [ok_1 hH.1, gd_T, n2, e20, if_pos (show nI (20 * n + 20) ≤ (500 : Int32) from (nI_le (show 20 * n + 20 ≤ 500 by omega) (by omega) : nI (20 * n + 20) ≤ nI 500)), u1, bn_S, u2.ok, ok_1 hH.1, gd_T, v1, bn_S, v2.ok, u2.ok, ok_1 hH.1, gd_T, x1, bn_S, x2.ok, v2.ok, u2.ok, ok_1 hH.1, gd_T, y1, bn_S, y2.ok, x2.ok, v2.ok, u2.ok, ok_1 hH.1, gd_T, z1, bn_S, ok_1 hH5.1, gd_T, z3]
    · unfold f_Model_feed
      rw [ok_80 hM5.1, gd_T, r23, if_pos (show nI (20 * n) ≤ (480 : Int32) from (nI_le (show 20 * n ≤ 480 by omega) (by omega) : nI (20 * n) ≤ nI 480))]
      exact k1
    · rw [zI 1 1 (by omega), z3, show 20 * n + 4 + 4 + 4 + 4 + 4 = 20 * (n + 1) by omega]
    · rw [k3]; rfl
    · rw [zI 2 i (by omega)]
      by_cases h : i < 20 * n
      · rw [f6.I 92 i (by omega), f5.I 2 i (by unfold Atp; omega)]
        exact n4 i h
      · obtain ⟨t, rfl⟩ : ∃ t, i = 20 * n + t := ⟨i - 20 * n, by omega⟩
        exact ⟨_, (byt_m _ (t % 4) _ rfl).2, k4 t (by omega) (by omega), c2 t (by omega)⟩
  · refine PR_0 (-1) g ?_ ?_
    · unfold f_House_feed
      rw [ok_1 hH.1, gd_T, n2, e20, if_neg (show ¬ nI (20 * n + 20) ≤ (500 : Int32) from (nI_ge (show 500 < 20 * n + 20 by omega) (by omega) : ¬ nI (20 * n + 20) ≤ nI 500))]
    · unfold f_Model_feed
      have r23 : rd_I (wr_I M 80 0 0) 80 23 = nI (20 * n) := by simp only [m_II, m_LL, m_RR, m_IL, m_IR, m_LI, m_LR, m_RI, m_RL, m_NI, m_NL, m_NR, m_okI, m_okL, m_okR, m_okaI, m_okaL, m_okaR, m_arI, m_arL, m_arR, gd_T, bn_S, Nat.reduceEqDiff, Nat.left_eq_add, Nat.add_eq_left, Nat.one_ne_zero, and_false, and_true, false_and, true_and, if_false, if_true]; exact n3
      rw [ok_80 hM.1, gd_T, r23, if_neg (show ¬ nI (20 * n) ≤ (480 : Int32) from (nI_ge (show 480 < 20 * n by omega) (by omega) : ¬ nI (20 * n) ≤ nI 480))]
