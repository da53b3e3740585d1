/-! 97zza: what is read becomes THE FIELD, in the reference -/
theorem cp_1 (N j p : Nat) (hp : p < 8) {M : sw_M} (hM : MR M) : ∃ W, f_Model_field_123 N (j + 1) 80 (nI p) M = f_Model_field_123 N j 80 (nI (p + 1)) W ∧ Fr (fun a k => 81 ≤ a ∧ a ≤ 89 ∧ k = p) M W ∧ ∀ a, 81 ≤ a → a ≤ 89 → rd_I W a p = rd_I M a (8 + p) := by
  have e8 : (8 : Int32) + nI p = nI (8 + p) := nI_add 8 p
  have i1 : sw_ti (nI (8 + p)) 16 = true := ti_n (by omega) (by decide)
  have i2 : sw_ti (nI p) 16 = true := ti_n (by omega) (by decide)
  rw [f_Model_field_123, if_neg (show ¬ (8 : Int32) ≤ nI p from (nI_ge hp (by omega) : ¬ nI 8 ≤ nI p)), e8, cl_n (show 8 + p < 2 ^ 31 by omega), cl_n (show p < 2 ^ 31 by omega), ok_80 hM.1, gd_T, mr_1 hM, ar_81 hM.1, i1, gd_T, ar_81 hM.1, i2, gd_T]
  generalize h1 : wr_I M 81 p (rd_I M 81 (8 + p)) = M1
  have R1 : MR M1 := by rw [← h1]; exact mr_w hM _ _ _
  rw [mr_2 R1, ar_82 R1.1, i1, gd_T, ar_82 R1.1, i2, gd_T]
  generalize h2 : wr_I M1 82 p (rd_I M1 82 (8 + p)) = M2
  have R2 : MR M2 := by rw [← h2]; exact mr_w R1 _ _ _
  rw [mr_3 R2, ar_83 R2.1, i1, gd_T, ar_83 R2.1, i2, gd_T]
  generalize h3 : wr_I M2 83 p (rd_I M2 83 (8 + p)) = M3
  have R3 : MR M3 := by rw [← h3]; exact mr_w R2 _ _ _
  rw [mr_4 R3, ar_84 R3.1, i1, gd_T, ar_84 R3.1, i2, gd_T]
  generalize h4 : wr_I M3 84 p (rd_I M3 84 (8 + p)) = M4
  have R4 : MR M4 := by rw [← h4]; exact mr_w R3 _ _ _
  rw [mr_5 R4, ar_85 R4.1, i1, gd_T, ar_85 R4.1, i2, gd_T]
  generalize h5 : wr_I M4 85 p (rd_I M4 85 (8 + p)) = M5
  have R5 : MR M5 := by rw [← h5]; exact mr_w R4 _ _ _
  unfold f_Model_field_204
  rw [e8, cl_n (show 8 + p < 2 ^ 31 by omega), cl_n (show p < 2 ^ 31 by omega), ok_80 R5.1, gd_T, mr_6 R5, ar_86 R5.1, i1, gd_T, ar_86 R5.1, i2, gd_T]
  generalize h6 : wr_I M5 86 p (rd_I M5 86 (8 + p)) = M6
  have R6 : MR M6 := by rw [← h6]; exact mr_w R5 _ _ _
  rw [mr_7 R6, ar_87 R6.1, i1, gd_T, ar_87 R6.1, i2, gd_T]
  generalize h7 : wr_I M6 87 p (rd_I M6 87 (8 + p)) = M7
  have R7 : MR M7 := by rw [← h7]; exact mr_w R6 _ _ _
  rw [mr_8 R7, ar_88 R7.1, i1, gd_T, ar_88 R7.1, i2, gd_T]
  generalize h8 : wr_I M7 88 p (rd_I M7 88 (8 + p)) = M8
  have R8 : MR M8 := by rw [← h8]; exact mr_w R7 _ _ _
  rw [mr_9 R8, ar_89 R8.1, i1, gd_T, ar_89 R8.1, i2, gd_T, nI_1]
  have fr : ∀ (X Y : sw_M) (b : Nat), 81 ≤ b → b ≤ 89 → wr_I X b p (rd_I X b (8 + p)) = Y → (∀ a k, ¬ (a = b ∧ k = p) → rd_I Y a k = rd_I X a k) ∧ rd_I Y b p = rd_I X b (8 + p) ∧ Fr (fun a k => 81 ≤ a ∧ a ≤ 89 ∧ k = p) X Y := fun X Y b b1 b2 h => by
    subst h
    exact ⟨fun a k q => w_o q _ _, w_s _ _ _ _, (Fr.refl _ X).wI _ _ _ ⟨b1, b2, rfl⟩⟩
  obtain ⟨a1, b1, c1⟩ := fr M M1 81 (by omega) (by omega) h1
  obtain ⟨a2, b2, c2⟩ := fr M1 M2 82 (by omega) (by omega) h2
  obtain ⟨a3, b3, c3⟩ := fr M2 M3 83 (by omega) (by omega) h3
  obtain ⟨a4, b4, c4⟩ := fr M3 M4 84 (by omega) (by omega) h4
  obtain ⟨a5, b5, c5⟩ := fr M4 M5 85 (by omega) (by omega) h5
  obtain ⟨a6, b6, c6⟩ := fr M5 M6 86 (by omega) (by omega) h6
  obtain ⟨a7, b7, c7⟩ := fr M6 M7 87 (by omega) (by omega) h7
  obtain ⟨a8, b8, c8⟩ := fr M7 M8 88 (by omega) (by omega) h8
  obtain ⟨a9, b9, c9⟩ := fr M8 _ 89 (by omega) (by omega) rfl
  refine ⟨_, rfl, (((((((c1.trans c2).trans c3).trans c4).trans c5).trans c6).trans c7).trans c8).trans c9, fun a h1 h2 => ?_⟩
  rcases (by omega : a = 81 ∨ a = 82 ∨ a = 83 ∨ a = 84 ∨ a = 85 ∨ a = 86 ∨ a = 87 ∨ a = 88 ∨ a = 89) with rfl | rfl | rfl | rfl | rfl | rfl | rfl | rfl | rfl
  · rw [a9 81 p (by omega), a8 81 p (by omega), a7 81 p (by omega), a6 81 p (by omega), a5 81 p (by omega), a4 81 p (by omega), a3 81 p (by omega), a2 81 p (by omega), b1]
  · rw [a9 82 p (by omega), a8 82 p (by omega), a7 82 p (by omega), a6 82 p (by omega), a5 82 p (by omega), a4 82 p (by omega), a3 82 p (by omega), b2, a1 82 _ (by omega)]
  · rw [a9 83 p (by omega), a8 83 p (by omega), a7 83 p (by omega), a6 83 p (by omega), a5 83 p (by omega), a4 83 p (by omega), b3, a2 83 _ (by omega), a1 83 _ (by omega)]
  · rw [a9 84 p (by omega), a8 84 p (by omega), a7 84 p (by omega), a6 84 p (by omega), a5 84 p (by omega), b4, a3 84 _ (by omega), a2 84 _ (by omega), a1 84 _ (by omega)]
  · rw [a9 85 p (by omega), a8 85 p (by omega), a7 85 p (by omega), a6 85 p (by omega), b5, a4 85 _ (by omega), a3 85 _ (by omega), a2 85 _ (by omega), a1 85 _ (by omega)]
  · rw [a9 86 p (by omega), a8 86 p (by omega), a7 86 p (by omega), b6, a5 86 _ (by omega), a4 86 _ (by omega), a3 86 _ (by omega), a2 86 _ (by omega), a1 86 _ (by omega)]
  · rw [a9 87 p (by omega), a8 87 p (by omega), b7, a6 87 _ (by omega), a5 87 _ (by omega), a4 87 _ (by omega), a3 87 _ (by omega), a2 87 _ (by omega), a1 87 _ (by omega)]
  · rw [a9 88 p (by omega), b8, a7 88 _ (by omega), a6 88 _ (by omega), a5 88 _ (by omega), a4 88 _ (by omega), a3 88 _ (by omega), a2 88 _ (by omega), a1 88 _ (by omega)]
  · rw [b9, a8 89 _ (by omega), a7 89 _ (by omega), a6 89 _ (by omega), a5 89 _ (by omega), a4 89 _ (by omega), a3 89 _ (by omega), a2 89 _ (by omega), a1 89 _ (by omega)]
theorem cp_8 (N : Nat) : ∀ (d p j : Nat) (M : sw_M), p + d = 8 → d < j → MR M → ∃ W, f_Model_field_123 N j 80 (nI p) M = f_Model_field_272 N N 80 0 W ∧ Fr (fun a k => 81 ≤ a ∧ a ≤ 89 ∧ p ≤ k ∧ k < 8) M W ∧ ∀ a k, 81 ≤ a → a ≤ 89 → p ≤ k → k < 8 → rd_I W a k = rd_I M a (8 + k)
  | d, p, 0, M, hd, hj, hM => by omega
  | 0, p, j + 1, M, hd, hj, hM => by
    obtain rfl : p = 8 := by omega
    refine ⟨M, ?_, Fr.refl _ _, fun a k h1 h2 h3 h4 => by omega⟩
    rw [f_Model_field_123, if_pos (by decide)]
  | d + 1, p, j + 1, M, hd, hj, hM => by
    obtain ⟨V, v1, v2, v3⟩ := cp_1 N j p (by omega) hM
    obtain ⟨W, w1, w2, w3⟩ := cp_8 N d (p + 1) j V (by omega) (by omega) (v2.mr hM)
    refine ⟨W, v1.trans w1, (v2.mono (fun a k h => by omega)).trans (w2.mono (fun a k h => by omega)), fun a k h1 h2 h3 h4 => ?_⟩
    by_cases q : k = p
    · subst q
      rw [w2.I a k (by omega)]
      exact v3 a h1 h2
    · rw [w3 a k h1 h2 (by omega) h4, v2.I a (8 + k) (by omega)]
theorem cp_e (N j k n' : Nat) (hk : k ≤ 48) (hn : n' ≤ 8) {M : sw_M} (hM : MR M) (h11 : rd_I M 80 11 = nI n') (h19 : rd_I M 80 19 = nI k) (h21 : rd_I M 80 21 = 0 ∨ rd_I M 80 21 = 1) (h14 : rd_I M 80 14 = -1 ∨ ∃ i, i < 8 ∧ rd_I M 80 14 = nI i) : ∃ W, f_Model_field_272 N (j + 1) 80 (nI k) M = some (nI n', W) ∧ Fr (fun a k => a = 80 ∧ (k = 10 ∨ k = 13 ∨ k = 15 ∨ k = 18 ∨ k = 20)) M W ∧ rd_I W 80 10 = nI n' ∧ rd_I W 80 18 = nI k ∧ rd_I W 80 20 = rd_I M 80 21 ∧ rd_I W 80 13 = rd_I M 80 14 ∧ (rd_I M 80 14 = -1 → rd_I W 80 15 = 0) ∧ (∀ i, i < 8 → rd_I M 80 14 = nI i → rd_I W 80 15 = rd_I M 86 i) := by
  have bz21 : sw_bz (rd_I M 80 21) = true := by rcases h21 with e | e <;> rw [e] <;> rfl
  rcases h14 with h14 | ⟨i, hi, h14⟩
  · refine ⟨wr_I (wr_I (wr_I (wr_I (wr_I M 80 10 (nI n')) 80 18 (nI k)) 80 20 (rd_I M 80 21)) 80 13 (-1)) 80 15 0, ?_, ((((((Fr.refl _ M).wI _ _ _ (by omega)).wI _ _ _ (by omega)).wI _ _ _ (by omega)).wI _ _ _ (by omega)).wI _ _ _ (by omega)), ?_, ?_, ?_, ?_, fun _ => ?_, fun i hi e => ?_⟩
    · rw [f_Model_field_272]
      unfold f_Model_field_373
      simp only [m_II, m_LL, m_RR, m_IL, m_IR, m_LI, m_LR, m_RI, m_RL, m_NI, m_NL, m_NR, m_okI, m_okL, m_okR, m_okaI, m_okaL, m_okaR, m_arI, m_arL, m_arR, gd_T, bn_S, Nat.reduceEqDiff, Nat.left_eq_add, Nat.add_eq_left, Nat.one_ne_zero, and_false, and_true, false_and, true_and, if_false, if_true, ok_80 hM.1, h11, h19, h14, bz21, if_pos (nI_le (Nat.le_refl k) (show k < 2 ^ 31 by omega))]
    · simp only [m_II, m_LL, m_RR, m_IL, m_IR, m_LI, m_LR, m_RI, m_RL, m_NI, m_NL, m_NR, m_okI, m_okL, m_okR, m_okaI, m_okaL, m_okaR, m_arI, m_arL, m_arR, gd_T, bn_S, Nat.reduceEqDiff, Nat.left_eq_add, Nat.add_eq_left, Nat.one_ne_zero, and_false, and_true, false_and, true_and, if_false, if_true]
    · simp only [m_II, m_LL, m_RR, m_IL, m_IR, m_LI, m_LR, m_RI, m_RL, m_NI, m_NL, m_NR, m_okI, m_okL, m_okR, m_okaI, m_okaL, m_okaR, m_arI, m_arL, m_arR, gd_T, bn_S, Nat.reduceEqDiff, Nat.left_eq_add, Nat.add_eq_left, Nat.one_ne_zero, and_false, and_true, false_and, true_and, if_false, if_true]
    · simp only [m_II, m_LL, m_RR, m_IL, m_IR, m_LI, m_LR, m_RI, m_RL, m_NI, m_NL, m_NR, m_okI, m_okL, m_okR, m_okaI, m_okaL, m_okaR, m_arI, m_arL, m_arR, gd_T, bn_S, Nat.reduceEqDiff, Nat.left_eq_add, Nat.add_eq_left, Nat.one_ne_zero, and_false, and_true, false_and, true_and, if_false, if_true]
    · simp only [m_II, m_LL, m_RR, m_IL, m_IR, m_LI, m_LR, m_RI, m_RL, m_NI, m_NL, m_NR, m_okI, m_okL, m_okR, m_okaI, m_okaL, m_okaR, m_arI, m_arL, m_arR, gd_T, bn_S, Nat.reduceEqDiff, Nat.left_eq_add, Nat.add_eq_left, Nat.one_ne_zero, and_false, and_true, false_and, true_and, if_false, if_true]; exact h14.symm
    · simp only [m_II, m_LL, m_RR, m_IL, m_IR, m_LI, m_LR, m_RI, m_RL, m_NI, m_NL, m_NR, m_okI, m_okL, m_okR, m_okaI, m_okaL, m_okaR, m_arI, m_arL, m_arR, gd_T, bn_S, Nat.reduceEqDiff, Nat.left_eq_add, Nat.add_eq_left, Nat.one_ne_zero, and_false, and_true, false_and, true_and, if_false, if_true]
    · exfalso
      have h2 := h14.symm.trans e
      have := congrArg Int32.toInt h2
      rw [nI_toInt (by omega)] at this
      have h3 : ((-1 : Int32)).toInt = -1 := rfl
      omega
  · have ne : ¬ nI i = (-1 : Int32) := fun h => by
      have := congrArg Int32.toInt h
      rw [nI_toInt (by omega)] at this
      have h3 : ((-1 : Int32)).toInt = -1 := rfl
      omega
    refine ⟨wr_I (wr_I (wr_I (wr_I (wr_I M 80 10 (nI n')) 80 18 (nI k)) 80 20 (rd_I M 80 21)) 80 13 (nI i)) 80 15 (rd_I M 86 i), ?_, ((((((Fr.refl _ M).wI _ _ _ (by omega)).wI _ _ _ (by omega)).wI _ _ _ (by omega)).wI _ _ _ (by omega)).wI _ _ _ (by omega)), ?_, ?_, ?_, ?_, fun e => ?_, fun i' hi' e => ?_⟩
    · rw [f_Model_field_272]
      unfold f_Model_field_373
      simp only [m_II, m_LL, m_RR, m_IL, m_IR, m_LI, m_LR, m_RI, m_RL, m_NI, m_NL, m_NR, m_okI, m_okL, m_okR, m_okaI, m_okaL, m_okaR, m_arI, m_arL, m_arR, gd_T, bn_S, Nat.reduceEqDiff, Nat.left_eq_add, Nat.add_eq_left, Nat.one_ne_zero, and_false, and_true, false_and, true_and, if_false, if_true, ok_80 hM.1, mr_6 hM, ar_86 hM.1, h11, h19, h14, bz21, if_pos (nI_le (Nat.le_refl k) (show k < 2 ^ 31 by omega)), if_neg ne, ti_n (show i < 16 by omega) (by decide), cl_n (show i < 2 ^ 31 by omega)]
    · simp only [m_II, m_LL, m_RR, m_IL, m_IR, m_LI, m_LR, m_RI, m_RL, m_NI, m_NL, m_NR, m_okI, m_okL, m_okR, m_okaI, m_okaL, m_okaR, m_arI, m_arL, m_arR, gd_T, bn_S, Nat.reduceEqDiff, Nat.left_eq_add, Nat.add_eq_left, Nat.one_ne_zero, and_false, and_true, false_and, true_and, if_false, if_true]
    · simp only [m_II, m_LL, m_RR, m_IL, m_IR, m_LI, m_LR, m_RI, m_RL, m_NI, m_NL, m_NR, m_okI, m_okL, m_okR, m_okaI, m_okaL, m_okaR, m_arI, m_arL, m_arR, gd_T, bn_S, Nat.reduceEqDiff, Nat.left_eq_add, Nat.add_eq_left, Nat.one_ne_zero, and_false, and_true, false_and, true_and, if_false, if_true]
    · simp only [m_II, m_LL, m_RR, m_IL, m_IR, m_LI, m_LR, m_RI, m_RL, m_NI, m_NL, m_NR, m_okI, m_okL, m_okR, m_okaI, m_okaL, m_okaR, m_arI, m_arL, m_arR, gd_T, bn_S, Nat.reduceEqDiff, Nat.left_eq_add, Nat.add_eq_left, Nat.one_ne_zero, and_false, and_true, false_and, true_and, if_false, if_true]
    · simp only [m_II, m_LL, m_RR, m_IL, m_IR, m_LI, m_LR, m_RI, m_RL, m_NI, m_NL, m_NR, m_okI, m_okL, m_okR, m_okaI, m_okaL, m_okaR, m_arI, m_arL, m_arR, gd_T, bn_S, Nat.reduceEqDiff, Nat.left_eq_add, Nat.add_eq_left, Nat.one_ne_zero, and_false, and_true, false_and, true_and, if_false, if_true]; exact h14.symm
    · exact absurd (h14.symm.trans e) ne
    · simp only [m_II, m_LL, m_RR, m_IL, m_IR, m_LI, m_LR, m_RI, m_RL, m_NI, m_NL, m_NR, m_okI, m_okL, m_okR, m_okaI, m_okaL, m_okaR, m_arI, m_arL, m_arR, gd_T, bn_S, Nat.reduceEqDiff, Nat.left_eq_add, Nat.add_eq_left, Nat.one_ne_zero, and_false, and_true, false_and, true_and, if_false, if_true]
      have : i = i' := (nI_eq (by omega) (by omega)).1 (h14.symm.trans e)
      rw [this]
theorem cp_r (N k n' : Nat) (hk : k ≤ 48) (hn : n' ≤ 8) : ∀ (d t j : Nat) (M : sw_M), t + d = k → d < j → MR M → rd_I M 80 11 = nI n' → rd_I M 80 19 = nI k → (rd_I M 80 21 = 0 ∨ rd_I M 80 21 = 1) → (rd_I M 80 14 = -1 ∨ ∃ i, i < 8 ∧ rd_I M 80 14 = nI i) →
    ∃ W, f_Model_field_272 N j 80 (nI t) M = some (nI n', W) ∧ Fr (fun a k => (a = 80 ∧ (k = 10 ∨ k = 13 ∨ k = 15 ∨ k = 18 ∨ k = 20)) ∨ ((a = 90 ∨ a = 91) ∧ t ≤ k ∧ k < 48)) M W ∧ (∀ a s, (a = 90 ∨ a = 91) → t ≤ s → s < k → rd_I W a s = rd_I M a (48 + s)) ∧ rd_I W 80 10 = nI n' ∧ rd_I W 80 18 = nI k ∧ rd_I W 80 20 = rd_I M 80 21 ∧ rd_I W 80 13 = rd_I M 80 14 ∧ (rd_I M 80 14 = -1 → rd_I W 80 15 = 0) ∧ (∀ i, i < 8 → rd_I M 80 14 = nI i → rd_I W 80 15 = rd_I M 86 i)
  | d, t, 0, M, hd, hj, hM, h11, h19, h21, h14 => by omega
  | 0, t, j + 1, M, hd, hj, hM, h11, h19, h21, h14 => by
    obtain rfl : t = k := by omega
    obtain ⟨W, w1, w2, w3⟩ := cp_e N j t n' hk hn hM h11 h19 h21 h14
    exact ⟨W, w1, w2.mono (fun a k h => Or.inl h), fun a s h1 h2 h3 => by omega, w3⟩
  | d + 1, t, j + 1, M, hd, hj, hM, h11, h19, h21, h14 => by
    have e48 : (48 : Int32) + nI t = nI (48 + t) := nI_add 48 t
    have i1 : sw_ti (nI (48 + t)) 96 = true := ti_n (by omega) (by decide)
    have i2 : sw_ti (nI t) 96 = true := ti_n (by omega) (by decide)
    have fU : Fr (fun a k => (a = 90 ∨ a = 91) ∧ k = t) M (wr_I (wr_I M 90 t (rd_I M 90 (48 + t))) 91 t (rd_I M 91 (48 + t))) := ((Fr.refl _ M).wI _ _ _ (by omega)).wI _ _ _ (by omega)
    have u90 : rd_I (wr_I (wr_I M 90 t (rd_I M 90 (48 + t))) 91 t (rd_I M 91 (48 + t))) 90 t = rd_I M 90 (48 + t) := by rw [w_o (by omega), w_s]
    have u91 : rd_I (wr_I (wr_I M 90 t (rd_I M 90 (48 + t))) 91 t (rd_I M 91 (48 + t))) 91 t = rd_I M 91 (48 + t) := w_s _ _ _ _
    have st : f_Model_field_272 N (j + 1) 80 (nI t) M = f_Model_field_272 N j 80 (nI (t + 1)) (wr_I (wr_I M 90 t (rd_I M 90 (48 + t))) 91 t (rd_I M 91 (48 + t))) := by
      rw [f_Model_field_272, h19, if_neg (nI_ge (by omega) (by omega)), e48, cl_n (show 48 + t < 2 ^ 31 by omega), cl_n (show t < 2 ^ 31 by omega), ok_80 hM.1, gd_T, mr_16 hM, ar_90 hM.1, i1, gd_T, ar_90 hM.1, i2, gd_T]
      have R1 := mr_w hM 90 t (rd_I M 90 (48 + t))
      rw [mr_17 R1, ar_91 R1.1, i1, gd_T, ar_91 R1.1, i2, gd_T, nI_1, w_o (show ¬ (91 = 90 ∧ 48 + t = t) by omega)]
    rw [st]
    generalize wr_I (wr_I M 90 t (rd_I M 90 (48 + t))) 91 t (rd_I M 91 (48 + t)) = U at *
    have U80 : ∀ k, rd_I U 80 k = rd_I M 80 k := fun k => fU.I 80 k (by omega)
    obtain ⟨W, w1, w2, w3, w4, w5, w6, w7, w8, w9⟩ := cp_r N k n' hk hn d (t + 1) j U (by omega) (by omega) (fU.mr hM) ((U80 11).trans h11) ((U80 19).trans h19) (by rw [U80]; exact h21) (by rw [U80]; exact h14)
    rw [U80] at w6 w7 w8 w9
    refine ⟨W, w1, (fU.mono (fun a k h => by omega)).trans (w2.mono (fun a k h => by omega)), fun a s h1 h2 h3 => ?_, w4, w5, w6, w7, w8, fun i hi e => (w9 i hi e).trans (fU.I 86 i (by omega))⟩
    by_cases q : s = t
    · subst q
      rw [w2.I a s (by omega)]
      rcases h1 with rfl | rfl
      · exact u90
      · exact u91
    · rw [w3 a s h1 (by omega) h3, fU.I a (48 + s) (by omega)]
