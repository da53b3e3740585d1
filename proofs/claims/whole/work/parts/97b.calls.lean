/-! 97b: calls that only tell -/
theorem pr_fault (N : Nat) (c : Nat) (M : sw_M) (g : Inv c M) (a : Int32) : PR c M (f_House_fault N 1 a) (f_Model_fault N 80 a) := by
  obtain ⟨Q, mass, ⟨g1, g2, g3, g4, g5, g6, ⟨g7, g7'⟩, g8⟩, g9⟩ := id g
  have hH := g1.1
  have hM := g2.1
  unfold f_House_fault f_Model_fault
  have k17 := ok_17 hH.1
  by_cases c0 : a = 0
  · refine PR_0 (rd_I M 17 9) g ?_ ?_
    · simp only [c0, ok_1 hH.1, ok_17 hH.1, hr_f hH 1 3 17 rfl (by decide), m_II, m_LL, m_RR, m_IL, m_IR, m_LI, m_LR, m_RI, m_RL, m_NI, m_NL, m_NR, m_okI, m_okL, m_okR, m_okaI, m_okaL, m_okaR, m_arI, m_arL, m_arR, gd_T, bn_S, Nat.reduceEqDiff, Nat.left_eq_add, Nat.add_eq_left, Nat.one_ne_zero, and_false, and_true, false_and, true_and, if_false, if_true]
    · simp only [c0, ok_80 hM.1, m_II, m_LL, m_RR, m_IL, m_IR, m_LI, m_LR, m_RI, m_RL, m_NI, m_NL, m_NR, m_okI, m_okL, m_okR, m_okaI, m_okaL, m_okaR, m_arI, m_arL, m_arR, gd_T, bn_S, Nat.reduceEqDiff, Nat.left_eq_add, Nat.add_eq_left, Nat.one_ne_zero, and_false, and_true, false_and, true_and, if_false, if_true, g7]
  · by_cases c1 : a = 1
    · refine PR_0 (rd_I M 17 10) g ?_ ?_
      · simp only [if_neg c0, if_pos c1, ok_1 hH.1, ok_17 hH.1, hr_f hH 1 3 17 rfl (by decide), m_II, m_LL, m_RR, m_IL, m_IR, m_LI, m_LR, m_RI, m_RL, m_NI, m_NL, m_NR, m_okI, m_okL, m_okR, m_okaI, m_okaL, m_okaR, m_arI, m_arL, m_arR, gd_T, bn_S, Nat.reduceEqDiff, Nat.left_eq_add, Nat.add_eq_left, Nat.one_ne_zero, and_false, and_true, false_and, true_and, if_false, if_true]
      · simp only [if_neg c0, if_pos c1, ok_80 hM.1, m_II, m_LL, m_RR, m_IL, m_IR, m_LI, m_LR, m_RI, m_RL, m_NI, m_NL, m_NR, m_okI, m_okL, m_okR, m_okaI, m_okaL, m_okaR, m_arI, m_arL, m_arR, gd_T, bn_S, Nat.reduceEqDiff, Nat.left_eq_add, Nat.add_eq_left, Nat.one_ne_zero, and_false, and_true, false_and, true_and, if_false, if_true, g7']
    · refine PR_0 (-1) g ?_ ?_
      · simp only [if_neg c0, if_neg c1]
      · simp only [if_neg c0, if_neg c1, ok_80 hM.1, m_II, m_LL, m_RR, m_IL, m_IR, m_LI, m_LR, m_RI, m_RL, m_NI, m_NL, m_NR, m_okI, m_okL, m_okR, m_okaI, m_okaL, m_okaR, m_arI, m_arL, m_arR, gd_T, bn_S, Nat.reduceEqDiff, Nat.left_eq_add, Nat.add_eq_left, Nat.one_ne_zero, and_false, and_true, false_and, true_and, if_false, if_true]
theorem pr_starred (N : Nat) (c : Nat) (M : sw_M) (g : Inv c M) (a : Int32) : PR c M (f_House_starred N 1 a) (f_Model_starred N 80 a) := by
  obtain ⟨Q, mass, ⟨g1, g2, g3, ⟨g4, g4'⟩, g5⟩, g9⟩ := id g
  have hH := g1.1
  have hM := g2.1
  unfold f_House_starred f_Model_starred
  rcases g4' with e | ⟨e, s, ⟨a1, a2, a3, a4, a5, a6⟩, ⟨b1, b2, b3, b4, b5, b6⟩, -⟩
  · refine PR_0 (-2147483648) g ?_ ?_
    · simp only [ok_1 hH.1, m_II, m_LL, m_RR, m_IL, m_IR, m_LI, m_LR, m_RI, m_RL, m_NI, m_NL, m_NR, m_okI, m_okL, m_okR, m_okaI, m_okaL, m_okaR, m_arI, m_arL, m_arR, gd_T, bn_S, Nat.reduceEqDiff, Nat.left_eq_add, Nat.add_eq_left, Nat.one_ne_zero, and_false, and_true, false_and, true_and, if_false, if_true, e]
    · simp only [ok_80 hM.1, m_II, m_LL, m_RR, m_IL, m_IR, m_LI, m_LR, m_RI, m_RL, m_NI, m_NL, m_NR, m_okI, m_okL, m_okR, m_okaI, m_okaL, m_okaR, m_arI, m_arL, m_arR, gd_T, bn_S, Nat.reduceEqDiff, Nat.left_eq_add, Nat.add_eq_left, Nat.one_ne_zero, and_false, and_true, false_and, true_and, if_false, if_true, ← g4, e]
  · have n1 : ¬ (1 : Int32) = 0 := by decide
    by_cases c0 : a = 0
    · refine PR_0 s.x.toInt32 g ?_ ?_
      · simp only [c0, ok_1 hH.1, ok_32 hH.1, hr_f hH 1 4 32 rfl (by decide), m_II, m_LL, m_RR, m_IL, m_IR, m_LI, m_LR, m_RI, m_RL, m_NI, m_NL, m_NR, m_okI, m_okL, m_okR, m_okaI, m_okaL, m_okaR, m_arI, m_arL, m_arR, gd_T, bn_S, Nat.reduceEqDiff, Nat.left_eq_add, Nat.add_eq_left, Nat.one_ne_zero, and_false, and_true, false_and, true_and, if_false, if_true, e, if_neg n1, a1]
      · simp only [c0, ok_80 hM.1, m_II, m_LL, m_RR, m_IL, m_IR, m_LI, m_LR, m_RI, m_RL, m_NI, m_NL, m_NR, m_okI, m_okL, m_okR, m_okaI, m_okaL, m_okaR, m_arI, m_arL, m_arR, gd_T, bn_S, Nat.reduceEqDiff, Nat.left_eq_add, Nat.add_eq_left, Nat.one_ne_zero, and_false, and_true, false_and, true_and, if_false, if_true, ← g4, e, if_neg n1, b1]
    by_cases c1 : a = 1
    · refine PR_0 s.y.toInt32 g ?_ ?_
      · simp only [if_neg c0, if_pos c1, ok_1 hH.1, ok_32 hH.1, hr_f hH 1 4 32 rfl (by decide), m_II, m_LL, m_RR, m_IL, m_IR, m_LI, m_LR, m_RI, m_RL, m_NI, m_NL, m_NR, m_okI, m_okL, m_okR, m_okaI, m_okaL, m_okaR, m_arI, m_arL, m_arR, gd_T, bn_S, Nat.reduceEqDiff, Nat.left_eq_add, Nat.add_eq_left, Nat.one_ne_zero, and_false, and_true, false_and, true_and, if_false, if_true, e, if_neg n1, a2]
      · simp only [if_neg c0, if_pos c1, ok_80 hM.1, m_II, m_LL, m_RR, m_IL, m_IR, m_LI, m_LR, m_RI, m_RL, m_NI, m_NL, m_NR, m_okI, m_okL, m_okR, m_okaI, m_okaL, m_okaR, m_arI, m_arL, m_arR, gd_T, bn_S, Nat.reduceEqDiff, Nat.left_eq_add, Nat.add_eq_left, Nat.one_ne_zero, and_false, and_true, false_and, true_and, if_false, if_true, ← g4, e, if_neg n1, b2]
    by_cases c2 : a = 2
    · refine PR_0 s.u.toInt32 g ?_ ?_
      · simp only [if_neg c0, if_neg c1, if_pos c2, ok_1 hH.1, ok_32 hH.1, hr_f hH 1 4 32 rfl (by decide), m_II, m_LL, m_RR, m_IL, m_IR, m_LI, m_LR, m_RI, m_RL, m_NI, m_NL, m_NR, m_okI, m_okL, m_okR, m_okaI, m_okaL, m_okaR, m_arI, m_arL, m_arR, gd_T, bn_S, Nat.reduceEqDiff, Nat.left_eq_add, Nat.add_eq_left, Nat.one_ne_zero, and_false, and_true, false_and, true_and, if_false, if_true, e, if_neg n1, a3]
      · simp only [if_neg c0, if_neg c1, if_pos c2, ok_80 hM.1, m_II, m_LL, m_RR, m_IL, m_IR, m_LI, m_LR, m_RI, m_RL, m_NI, m_NL, m_NR, m_okI, m_okL, m_okR, m_okaI, m_okaL, m_okaR, m_arI, m_arL, m_arR, gd_T, bn_S, Nat.reduceEqDiff, Nat.left_eq_add, Nat.add_eq_left, Nat.one_ne_zero, and_false, and_true, false_and, true_and, if_false, if_true, ← g4, e, if_neg n1, b3]
    by_cases c3 : a = 3
    · refine PR_0 s.v.toInt32 g ?_ ?_
      · simp only [if_neg c0, if_neg c1, if_neg c2, if_pos c3, ok_1 hH.1, ok_32 hH.1, hr_f hH 1 4 32 rfl (by decide), m_II, m_LL, m_RR, m_IL, m_IR, m_LI, m_LR, m_RI, m_RL, m_NI, m_NL, m_NR, m_okI, m_okL, m_okR, m_okaI, m_okaL, m_okaR, m_arI, m_arL, m_arR, gd_T, bn_S, Nat.reduceEqDiff, Nat.left_eq_add, Nat.add_eq_left, Nat.one_ne_zero, and_false, and_true, false_and, true_and, if_false, if_true, e, if_neg n1, a4]
      · simp only [if_neg c0, if_neg c1, if_neg c2, if_pos c3, ok_80 hM.1, m_II, m_LL, m_RR, m_IL, m_IR, m_LI, m_LR, m_RI, m_RL, m_NI, m_NL, m_NR, m_okI, m_okL, m_okR, m_okaI, m_okaL, m_okaR, m_arI, m_arL, m_arR, gd_T, bn_S, Nat.reduceEqDiff, Nat.left_eq_add, Nat.add_eq_left, Nat.one_ne_zero, and_false, and_true, false_and, true_and, if_false, if_true, ← g4, e, if_neg n1, b4]
    by_cases c4 : a = 4
    · refine PR_0 s.t g ?_ ?_
      · simp only [if_neg c0, if_neg c1, if_neg c2, if_neg c3, if_pos c4, ok_1 hH.1, ok_32 hH.1, hr_f hH 1 4 32 rfl (by decide), m_II, m_LL, m_RR, m_IL, m_IR, m_LI, m_LR, m_RI, m_RL, m_NI, m_NL, m_NR, m_okI, m_okL, m_okR, m_okaI, m_okaL, m_okaR, m_arI, m_arL, m_arR, gd_T, bn_S, Nat.reduceEqDiff, Nat.left_eq_add, Nat.add_eq_left, Nat.one_ne_zero, and_false, and_true, false_and, true_and, if_false, if_true, e, if_neg n1, a5]
      · simp only [if_neg c0, if_neg c1, if_neg c2, if_neg c3, if_pos c4, ok_80 hM.1, m_II, m_LL, m_RR, m_IL, m_IR, m_LI, m_LR, m_RI, m_RL, m_NI, m_NL, m_NR, m_okI, m_okL, m_okR, m_okaI, m_okaL, m_okaR, m_arI, m_arL, m_arR, gd_T, bn_S, Nat.reduceEqDiff, Nat.left_eq_add, Nat.add_eq_left, Nat.one_ne_zero, and_false, and_true, false_and, true_and, if_false, if_true, ← g4, e, if_neg n1, b5]
    · refine PR_0 (-2147483648) g ?_ ?_
      · simp only [if_neg c0, if_neg c1, if_neg c2, if_neg c3, if_neg c4, ok_1 hH.1, m_II, m_LL, m_RR, m_IL, m_IR, m_LI, m_LR, m_RI, m_RL, m_NI, m_NL, m_NR, m_okI, m_okL, m_okR, m_okaI, m_okaL, m_okaR, m_arI, m_arL, m_arR, gd_T, bn_S, Nat.reduceEqDiff, Nat.left_eq_add, Nat.add_eq_left, Nat.one_ne_zero, and_false, and_true, false_and, true_and, if_false, if_true, e, if_neg n1]
      · simp only [if_neg c0, if_neg c1, if_neg c2, if_neg c3, if_neg c4, ok_80 hM.1, m_II, m_LL, m_RR, m_IL, m_IR, m_LI, m_LR, m_RI, m_RL, m_NI, m_NL, m_NR, m_okI, m_okL, m_okR, m_okaI, m_okaL, m_okaR, m_arI, m_arL, m_arR, gd_T, bn_S, Nat.reduceEqDiff, Nat.left_eq_add, Nat.add_eq_left, Nat.one_ne_zero, and_false, and_true, false_and, true_and, if_false, if_true, ← g4, e, if_neg n1]
theorem fr0 (M : sw_M) : Fr (fun a k => a = 80 ∧ k = 0) M (wr_I M 80 0 0) := (Fr.refl _ M).wI _ _ _ ⟨rfl, rfl⟩
theorem MQq_0 {M : sw_M} {Q : QT} (h : MQq M Q) : MQq (wr_I M 80 0 0) Q := MQq_fr (fr0 M) (fun a k e f => by unfold Cmq Cf Cx Cnt at e; omega) h
theorem lowOf (N : Nat) {M : sw_M} {Q : QT} (h : MQq M Q) : f_Model_spanLow N 80 M = some (Q.lo, M) := by
  obtain ⟨hM, hH, hF, hE, hB, hpo, hs, hQB⟩ := h
  exact Model_spanLow N M hM hs
theorem highOf (N : Nat) {M : sw_M} {Q : QT} (h : MQq M Q) : f_Model_spanHigh N 80 M = some (Q.hi, M) := by
  obtain ⟨hM, hH, hF, hE, hB, hpo, hs, hQB⟩ := h
  exact Model_spanHigh N M hM hs
theorem RQ_6 {M : sw_M} (h : HR M) : sw_ok M (rd_R M 3 1) 7 = true := by
  rcases rr_c h with e | e
  · rw [e]; exact ok_5 h.1
  · rw [e]; exact ok_20 h.1
theorem pr_count (N : Nat) (c : Nat) (M : sw_M) (g : Inv c M) (a : Int32) : PR c M (f_House_count N 1 a) (f_Model_count N 80 a) := by
  obtain ⟨Q, mass, ⟨g1, g2, ⟨g3, g3', -⟩, g4, g5, g6, g7, g8, g8'⟩, g9⟩ := id g
  obtain ⟨hH, hF, hE, hh, hB, hpo, hlo, hhi, hQB⟩ := id g1
  have hM := g2.1
  obtain ⟨e1, e2, e3, e4, e5, e6, e7, e8, e9⟩ := hE
  obtain ⟨h1, h2, h3, h4, h5, h6⟩ := hh
  have q75 := g2.2.2.2.2.2.1
  unfold f_House_count f_Model_count f_House_count_151
  by_cases c0 : a = 0
  · refine PR_0 (nI Q.E.n) g ?_ ?_
    · simp only [c0, ok_1 hH.1, ok_3 hH.1, hr_f hH 1 2 3 rfl (by decide), m_II, m_LL, m_RR, m_IL, m_IR, m_LI, m_LR, m_RI, m_RL, m_NI, m_NL, m_NR, m_okI, m_okL, m_okR, m_okaI, m_okaL, m_okaR, m_arI, m_arL, m_arR, gd_T, bn_S, Nat.reduceEqDiff, Nat.left_eq_add, Nat.add_eq_left, Nat.one_ne_zero, and_false, and_true, false_and, true_and, if_false, if_true, hF.2.2.1]
    · simp only [c0, ok_80 hM.1, m_II, m_LL, m_RR, m_IL, m_IR, m_LI, m_LR, m_RI, m_RL, m_NI, m_NL, m_NR, m_okI, m_okL, m_okR, m_okaI, m_okaL, m_okaR, m_arI, m_arL, m_arR, gd_T, bn_S, Nat.reduceEqDiff, Nat.left_eq_add, Nat.add_eq_left, Nat.one_ne_zero, and_false, and_true, false_and, true_and, if_false, if_true, e2]
  by_cases c1 : a = 1
  · refine PR_0 (nI Q.E.no) g ?_ ?_
    · simp only [if_neg c0, if_pos c1, ok_1 hH.1, ok_33 hH.1, hr_f hH 1 6 33 rfl (by decide), m_II, m_LL, m_RR, m_IL, m_IR, m_LI, m_LR, m_RI, m_RL, m_NI, m_NL, m_NR, m_okI, m_okL, m_okR, m_okaI, m_okaL, m_okaR, m_arI, m_arL, m_arR, gd_T, bn_S, Nat.reduceEqDiff, Nat.left_eq_add, Nat.add_eq_left, Nat.one_ne_zero, and_false, and_true, false_and, true_and, if_false, if_true, h4]
    · simp only [if_neg c0, if_pos c1, ok_80 hM.1, m_II, m_LL, m_RR, m_IL, m_IR, m_LI, m_LR, m_RI, m_RL, m_NI, m_NL, m_NR, m_okI, m_okL, m_okR, m_okaI, m_okaL, m_okaR, m_arI, m_arL, m_arR, gd_T, bn_S, Nat.reduceEqDiff, Nat.left_eq_add, Nat.add_eq_left, Nat.one_ne_zero, and_false, and_true, false_and, true_and, if_false, if_true, e6]
  by_cases c2 : a = 2
  · refine PR_0 (nI Q.B.m) g ?_ ?_
    · simp only [if_neg c0, if_neg c1, if_pos c2, ok_1 hH.1, ok_36 hH.1, hr_f hH 1 7 36 rfl (by decide), m_II, m_LL, m_RR, m_IL, m_IR, m_LI, m_LR, m_RI, m_RL, m_NI, m_NL, m_NR, m_okI, m_okL, m_okR, m_okaI, m_okaL, m_okaR, m_arI, m_arL, m_arR, gd_T, bn_S, Nat.reduceEqDiff, Nat.left_eq_add, Nat.add_eq_left, Nat.one_ne_zero, and_false, and_true, false_and, true_and, if_false, if_true, hB.2.1]
    · simp only [if_neg c0, if_neg c1, if_pos c2, ok_80 hM.1, m_II, m_LL, m_RR, m_IL, m_IR, m_LI, m_LR, m_RI, m_RL, m_NI, m_NL, m_NR, m_okI, m_okL, m_okR, m_okaI, m_okaL, m_okaR, m_arI, m_arL, m_arR, gd_T, bn_S, Nat.reduceEqDiff, Nat.left_eq_add, Nat.add_eq_left, Nat.one_ne_zero, and_false, and_true, false_and, true_and, if_false, if_true, hB.2.2.1]
  by_cases c3 : a = 3
  · refine PR_0 mass g ?_ ?_
    · simp only [if_neg c0, if_neg c1, if_neg c2, if_pos c3, ok_1 hH.1, ok_3 hH.1, hr_f hH 1 2 3 rfl (by decide), m_II, m_LL, m_RR, m_IL, m_IR, m_LI, m_LR, m_RI, m_RL, m_NI, m_NL, m_NR, m_okI, m_okL, m_okR, m_okaI, m_okaL, m_okaR, m_arI, m_arL, m_arR, gd_T, bn_S, Nat.reduceEqDiff, Nat.left_eq_add, Nat.add_eq_left, Nat.one_ne_zero, and_false, and_true, false_and, true_and, if_false, if_true, g3]
    · simp only [if_neg c0, if_neg c1, if_neg c2, if_pos c3, ok_80 hM.1, m_II, m_LL, m_RR, m_IL, m_IR, m_LI, m_LR, m_RI, m_RL, m_NI, m_NL, m_NR, m_okI, m_okL, m_okR, m_okaI, m_okaL, m_okaR, m_arI, m_arL, m_arR, gd_T, bn_S, Nat.reduceEqDiff, Nat.left_eq_add, Nat.add_eq_left, Nat.one_ne_zero, and_false, and_true, false_and, true_and, if_false, if_true, g3']
  by_cases c4 : a = 4
  · refine PR_0 Q.lo g ?_ ?_
    · simp only [if_neg c0, if_neg c1, if_neg c2, if_neg c3, if_pos c4, ok_1 hH.1, ok_3 hH.1, hr_f hH 1 2 3 rfl (by decide), m_II, m_LL, m_RR, m_IL, m_IR, m_LI, m_LR, m_RI, m_RL, m_NI, m_NL, m_NR, m_okI, m_okL, m_okR, m_okaI, m_okaL, m_okaR, m_arI, m_arL, m_arR, gd_T, bn_S, Nat.reduceEqDiff, Nat.left_eq_add, Nat.add_eq_left, Nat.one_ne_zero, and_false, and_true, false_and, true_and, if_false, if_true, hlo]
    · simp only [if_neg c0, if_neg c1, if_neg c2, if_neg c3, if_pos c4, ok_80 hM.1, gd_T, lowOf N (MQq_0 g2), bn_S]
  by_cases c5 : a = 5
  · refine PR_0 Q.hi g ?_ ?_
    · simp only [if_neg c0, if_neg c1, if_neg c2, if_neg c3, if_neg c4, if_pos c5, ok_1 hH.1, ok_3 hH.1, hr_f hH 1 2 3 rfl (by decide), m_II, m_LL, m_RR, m_IL, m_IR, m_LI, m_LR, m_RI, m_RL, m_NI, m_NL, m_NR, m_okI, m_okL, m_okR, m_okaI, m_okaL, m_okaR, m_arI, m_arL, m_arR, gd_T, bn_S, Nat.reduceEqDiff, Nat.left_eq_add, Nat.add_eq_left, Nat.one_ne_zero, and_false, and_true, false_and, true_and, if_false, if_true, hhi]
    · simp only [if_neg c0, if_neg c1, if_neg c2, if_neg c3, if_neg c4, if_pos c5, ok_80 hM.1, gd_T, highOf N (MQq_0 g2), bn_S]
  by_cases c6 : a = 6
  · refine PR_0 (nI Q.E.k) g ?_ ?_
    · simp only [if_neg c0, if_neg c1, if_neg c2, if_neg c3, if_neg c4, if_neg c5, if_pos c6, ok_1 hH.1, ok_3 hH.1, hr_f hH 1 2 3 rfl (by decide), m_II, m_LL, m_RR, m_IL, m_IR, m_LI, m_LR, m_RI, m_RL, m_NI, m_NL, m_NR, m_okI, m_okL, m_okR, m_okaI, m_okaL, m_okaR, m_arI, m_arL, m_arR, gd_T, bn_S, Nat.reduceEqDiff, Nat.left_eq_add, Nat.add_eq_left, Nat.one_ne_zero, and_false, and_true, false_and, true_and, if_false, if_true, RQ_6 hH, g8]
    · simp only [if_neg c0, if_neg c1, if_neg c2, if_neg c3, if_neg c4, if_neg c5, if_pos c6, ok_80 hM.1, m_II, m_LL, m_RR, m_IL, m_IR, m_LI, m_LR, m_RI, m_RL, m_NI, m_NL, m_NR, m_okI, m_okL, m_okR, m_okaI, m_okaL, m_okaR, m_arI, m_arL, m_arR, gd_T, bn_S, Nat.reduceEqDiff, Nat.left_eq_add, Nat.add_eq_left, Nat.one_ne_zero, and_false, and_true, false_and, true_and, if_false, if_true, e5.2.2.1]
  by_cases c7 : a = 7
  · refine PR_0 (nI Q.E.L) g ?_ ?_
    · simp only [if_neg c0, if_neg c1, if_neg c2, if_neg c3, if_neg c4, if_neg c5, if_neg c6, if_pos c7, ok_1 hH.1, ok_33 hH.1, hr_f hH 1 6 33 rfl (by decide), m_II, m_LL, m_RR, m_IL, m_IR, m_LI, m_LR, m_RI, m_RL, m_NI, m_NL, m_NR, m_okI, m_okL, m_okR, m_okaI, m_okaL, m_okaR, m_arI, m_arL, m_arR, gd_T, bn_S, Nat.reduceEqDiff, Nat.left_eq_add, Nat.add_eq_left, Nat.one_ne_zero, and_false, and_true, false_and, true_and, if_false, if_true, h1]
    · simp only [if_neg c0, if_neg c1, if_neg c2, if_neg c3, if_neg c4, if_neg c5, if_neg c6, if_pos c7, ok_80 hM.1, m_II, m_LL, m_RR, m_IL, m_IR, m_LI, m_LR, m_RI, m_RL, m_NI, m_NL, m_NR, m_okI, m_okL, m_okR, m_okaI, m_okaL, m_okaR, m_arI, m_arL, m_arR, gd_T, bn_S, Nat.reduceEqDiff, Nat.left_eq_add, Nat.add_eq_left, Nat.one_ne_zero, and_false, and_true, false_and, true_and, if_false, if_true, e4]
  by_cases c8 : a = 8
  · refine PR_0 Q.E.g g ?_ ?_
    · simp only [if_neg c0, if_neg c1, if_neg c2, if_neg c3, if_neg c4, if_neg c5, if_neg c6, if_neg c7, if_pos c8, ok_1 hH.1, ok_33 hH.1, hr_f hH 1 6 33 rfl (by decide), m_II, m_LL, m_RR, m_IL, m_IR, m_LI, m_LR, m_RI, m_RL, m_NI, m_NL, m_NR, m_okI, m_okL, m_okR, m_okaI, m_okaL, m_okaR, m_arI, m_arL, m_arR, gd_T, bn_S, Nat.reduceEqDiff, Nat.left_eq_add, Nat.add_eq_left, Nat.one_ne_zero, and_false, and_true, false_and, true_and, if_false, if_true, h2]
    · simp only [if_neg c0, if_neg c1, if_neg c2, if_neg c3, if_neg c4, if_neg c5, if_neg c6, if_neg c7, if_pos c8, ok_80 hM.1, m_II, m_LL, m_RR, m_IL, m_IR, m_LI, m_LR, m_RI, m_RL, m_NI, m_NL, m_NR, m_okI, m_okL, m_okR, m_okaI, m_okaL, m_okaR, m_arI, m_arL, m_arR, gd_T, bn_S, Nat.reduceEqDiff, Nat.left_eq_add, Nat.add_eq_left, Nat.one_ne_zero, and_false, and_true, false_and, true_and, if_false, if_true, e8]
  by_cases c9 : a = 9
  · refine PR_0 Q.E.r g ?_ ?_
    · simp only [if_neg c0, if_neg c1, if_neg c2, if_neg c3, if_neg c4, if_neg c5, if_neg c6, if_neg c7, if_neg c8, if_pos c9, ok_1 hH.1, ok_33 hH.1, hr_f hH 1 6 33 rfl (by decide), m_II, m_LL, m_RR, m_IL, m_IR, m_LI, m_LR, m_RI, m_RL, m_NI, m_NL, m_NR, m_okI, m_okL, m_okR, m_okaI, m_okaL, m_okaR, m_arI, m_arL, m_arR, gd_T, bn_S, Nat.reduceEqDiff, Nat.left_eq_add, Nat.add_eq_left, Nat.one_ne_zero, and_false, and_true, false_and, true_and, if_false, if_true, h3]
    · simp only [if_neg c0, if_neg c1, if_neg c2, if_neg c3, if_neg c4, if_neg c5, if_neg c6, if_neg c7, if_neg c8, if_pos c9, ok_80 hM.1, m_II, m_LL, m_RR, m_IL, m_IR, m_LI, m_LR, m_RI, m_RL, m_NI, m_NL, m_NR, m_okI, m_okL, m_okR, m_okaI, m_okaL, m_okaR, m_arI, m_arL, m_arR, gd_T, bn_S, Nat.reduceEqDiff, Nat.left_eq_add, Nat.add_eq_left, Nat.one_ne_zero, and_false, and_true, false_and, true_and, if_false, if_true, e9]
  by_cases c10 : a = 10
  · refine PR_0 Q.por g ?_ ?_
    · simp only [if_neg c0, if_neg c1, if_neg c2, if_neg c3, if_neg c4, if_neg c5, if_neg c6, if_neg c7, if_neg c8, if_neg c9, if_pos c10, ok_1 hH.1, ok_42 hH.1, hr_f hH 1 8 42 rfl (by decide), m_II, m_LL, m_RR, m_IL, m_IR, m_LI, m_LR, m_RI, m_RL, m_NI, m_NL, m_NR, m_okI, m_okL, m_okR, m_okaI, m_okaL, m_okaR, m_arI, m_arL, m_arR, gd_T, bn_S, Nat.reduceEqDiff, Nat.left_eq_add, Nat.add_eq_left, Nat.one_ne_zero, and_false, and_true, false_and, true_and, if_false, if_true, hpo]
    · simp only [if_neg c0, if_neg c1, if_neg c2, if_neg c3, if_neg c4, if_neg c5, if_neg c6, if_neg c7, if_neg c8, if_neg c9, if_pos c10, ok_80 hM.1, m_II, m_LL, m_RR, m_IL, m_IR, m_LI, m_LR, m_RI, m_RL, m_NI, m_NL, m_NR, m_okI, m_okL, m_okR, m_okaI, m_okaL, m_okaR, m_arI, m_arL, m_arR, gd_T, bn_S, Nat.reduceEqDiff, Nat.left_eq_add, Nat.add_eq_left, Nat.one_ne_zero, and_false, and_true, false_and, true_and, if_false, if_true, q75]
  · refine PR_0 (-1) g ?_ ?_
    · simp only [if_neg c0, if_neg c1, if_neg c2, if_neg c3, if_neg c4, if_neg c5, if_neg c6, if_neg c7, if_neg c8, if_neg c9, if_neg c10]
    · simp only [if_neg c0, if_neg c1, if_neg c2, if_neg c3, if_neg c4, if_neg c5, if_neg c6, if_neg c7, if_neg c8, if_neg c9, if_neg c10, ok_80 hM.1, m_II, m_LL, m_RR, m_IL, m_IR, m_LI, m_LR, m_RI, m_RL, m_NI, m_NL, m_NR, m_okI, m_okL, m_okR, m_okaI, m_okaL, m_okaR, m_arI, m_arL, m_arR, gd_T, bn_S, Nat.reduceEqDiff, Nat.left_eq_add, Nat.add_eq_left, Nat.one_ne_zero, and_false, and_true, false_and, true_and, if_false, if_true]
