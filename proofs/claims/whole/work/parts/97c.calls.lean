/-! 97c: calls that set -/
theorem nI_back (a : Int32) (h : 0 ≤ a.toInt) : nI a.toInt.toNat = a := by
  apply Int32.toInt_inj.1
  have := in32 a
  rw [nI_toInt (by omega)]
  omega
theorem pr_mass (N : Nat) (c : Nat) (M : sw_M) (g : Inv c M) (a : Int32) : PR c M (f_House_mass N 1 a) (f_Model_mass N 80 a) := by
  obtain ⟨Q, mass, gx, g9, g10⟩ := id g
  obtain ⟨g1, g2, g3, g4, g5, g6, g7, g8, g8'⟩ := id gx
  obtain ⟨hH, hF, hE, hh, hB, hpo, hlo, hhi, hQB⟩ := id g1
  have hM := g2.1
  have k80 : sw_ok (wr_I M 80 0 0) 80 12 = true := ok_80 hM.1
  by_cases c0 : a < Q.lo
  · refine PR_0 0 g ?_ ?_
    · unfold f_House_mass
      simp only [ok_1 hH.1, ok_3 hH.1, hr_f hH 1 2 3 rfl (by decide), m_II, m_LL, m_RR, m_IL, m_IR, m_LI, m_LR, m_RI, m_RL, m_NI, m_NL, m_NR, m_okI, m_okL, m_okR, m_okaI, m_okaL, m_okaR, m_arI, m_arL, m_arR, gd_T, bn_S, Nat.reduceEqDiff, Nat.left_eq_add, Nat.add_eq_left, Nat.one_ne_zero, and_false, and_true, false_and, true_and, if_false, if_true, hlo, if_pos c0]
    · unfold f_Model_mass
      rw [ok_80 hM.1, gd_T, lowOf N (MQq_0 g2), bn_S]
      show (if a < Q.lo then _ else _) = _
      rw [if_pos c0]
  by_cases c1 : a ≤ Q.hi
  · let A : Nat → Nat → Prop := fun a k => (a = 3 ∧ k = 5) ∨ (a = 80 ∧ (k = 0 ∨ k = 15))
    have f1 : Fr A M (wr_I M 3 5 a) := (Fr.refl _ M).wI _ _ _ (Or.inl ⟨rfl, rfl⟩)
    have f2 : Fr A M (wr_I (wr_I M 3 5 a) 80 0 0) := f1.wI _ _ _ (Or.inr ⟨rfl, Or.inl rfl⟩)
    have f3 : Fr A M (wr_I (wr_I (wr_I M 3 5 a) 80 0 0) 80 15 a) := f2.wI _ _ _ (Or.inr ⟨rfl, Or.inr rfl⟩)
    have cq : ∀ a k, Chq a k ∨ Cmq a k ∨ Cr a k ∨ 125 ≤ a ∨ (a = 33 ∧ (k = 7 ∨ k = 8)) ∨ (a = 68 ∧ 5 ≤ k ∧ k ≤ 9) ∨ (70 ≤ a ∧ a ≤ 77) → ¬ A a k := fun a k e f => by
      have f' : (a = 3 ∧ k = 5) ∨ (a = 80 ∧ (k = 0 ∨ k = 15)) := f
      unfold Chq Cmq Cf Cx Che Cnt Cr at e
      omega
    have q2 : MQq (wr_I (wr_I M 3 5 a) 80 0 0) Q := MQq_fr f2 (fun a k e => cq a k (Or.inr (Or.inl e))) g2
    refine ⟨1, wr_I M 3 5 a, _, ?_, f1.mr hM, ?_, Inv_set f3 (fun a k e => cq a k (Or.inr (Or.inr (Or.inl e)))) gx Q a (HQ_fr f3 (fun a k e => cq a k (Or.inl e)) g1) (MQq_fr f3 (fun a k e => cq a k (Or.inr (Or.inl e))) g2) ⟨?_, ?_, ?_, ?_⟩ rfl rfl (CH_fr f3 (fun a k e => cq a k (by omega)) g9) (CM_fr f3 (fun a k e => cq a k (by omega)) g10)⟩
    · unfold f_House_mass
      simp only [ok_1 hH.1, ok_3 hH.1, hr_f hH 1 2 3 rfl (by decide), m_II, m_LL, m_RR, m_IL, m_IR, m_LI, m_LR, m_RI, m_RL, m_NI, m_NL, m_NR, m_okI, m_okL, m_okR, m_okaI, m_okaL, m_okaR, m_arI, m_arL, m_arR, gd_T, bn_S, Nat.reduceEqDiff, Nat.left_eq_add, Nat.add_eq_left, Nat.one_ne_zero, and_false, and_true, false_and, true_and, if_false, if_true, hlo, hhi, if_neg c0, if_pos c1]
    · unfold f_Model_mass
      rw [f1.ok, ok_80 hM.1, gd_T, lowOf N q2, bn_S]
      show (if a < Q.lo then _ else _) = _
      rw [if_neg c0, q2.1.1 |> ok_80, gd_T, highOf N q2, bn_S]
      show (if a ≤ Q.hi then _ else _) = _
      rw [if_pos c1, q2.1.1 |> ok_80, gd_T]
    · simp only [m_II, m_LL, m_RR, m_IL, m_IR, m_LI, m_LR, m_RI, m_RL, m_NI, m_NL, m_NR, m_okI, m_okL, m_okR, m_okaI, m_okaL, m_okaR, m_arI, m_arL, m_arR, gd_T, bn_S, Nat.reduceEqDiff, Nat.left_eq_add, Nat.add_eq_left, Nat.one_ne_zero, and_false, and_true, false_and, true_and, if_false, if_true]
    · simp only [m_II, m_LL, m_RR, m_IL, m_IR, m_LI, m_LR, m_RI, m_RL, m_NI, m_NL, m_NR, m_okI, m_okL, m_okR, m_okaI, m_okaL, m_okaR, m_arI, m_arL, m_arR, gd_T, bn_S, Nat.reduceEqDiff, Nat.left_eq_add, Nat.add_eq_left, Nat.one_ne_zero, and_false, and_true, false_and, true_and, if_false, if_true]
    · have := Int32.not_lt.mp c0
      exact Int32.le_iff_toInt_le.mp this
    · exact Int32.le_iff_toInt_le.mp c1
  · refine PR_0 0 g ?_ ?_
    · unfold f_House_mass
      simp only [ok_1 hH.1, ok_3 hH.1, hr_f hH 1 2 3 rfl (by decide), m_II, m_LL, m_RR, m_IL, m_IR, m_LI, m_LR, m_RI, m_RL, m_NI, m_NL, m_NR, m_okI, m_okL, m_okR, m_okaI, m_okaL, m_okaR, m_arI, m_arL, m_arR, gd_T, bn_S, Nat.reduceEqDiff, Nat.left_eq_add, Nat.add_eq_left, Nat.one_ne_zero, and_false, and_true, false_and, true_and, if_false, if_true, hlo, hhi, if_neg c0, if_neg c1]
    · unfold f_Model_mass
      rw [ok_80 hM.1, gd_T, lowOf N (MQq_0 g2), bn_S]
      show (if a < Q.lo then _ else _) = _
      rw [if_neg c0, k80, gd_T, highOf N (MQq_0 g2), bn_S]
      show (if a ≤ Q.hi then _ else _) = _
      rw [if_neg c1]
theorem forget (N : Nat) (M : sw_M) (hH : HR M) : f_House_forgetOrbits N 1 M = some (wr_I (wr_I M 33 7 0) 68 5 0) := by
  unfold f_House_forgetOrbits
  simp only [ok_1 hH.1, ok_33 hH.1, ok_68 hH.1, hr_f hH 1 6 33 rfl (by decide), hr_f hH 1 9 68 rfl (by decide), m_II, m_LL, m_RR, m_IL, m_IR, m_LI, m_LR, m_RI, m_RL, m_NI, m_NL, m_NR, m_okI, m_okL, m_okR, m_okaI, m_okaL, m_okaR, m_arI, m_arL, m_arR, gd_T, bn_S, Nat.reduceEqDiff, Nat.left_eq_add, Nat.add_eq_left, Nat.one_ne_zero, and_false, and_true, false_and, true_and, if_false, if_true]
/-- of E, its LENGTH, its CELLS are set anew -/
def EN.set (E : EN) (L : Nat) (g r : Int32) : EN := (E.P, E.n, L, E.hu, E.w, E.k, E.no, E.st, g, r)
def Aset (a k : Nat) : Prop := (a = 33 ∧ 4 ≤ k ∧ k ≤ 7) ∨ (a = 68 ∧ k = 5) ∨ (a = 80 ∧ (k = 0 ∨ k = 51 ∨ k = 71 ∨ k = 72))
theorem Inv_E {M W : sw_M} {c : Nat} {Q : QT} {mass : Int32} (f : Fr Aset M W) (gx : IX c M Q mass) (L : Nat) (g r : Int32) (hL : L ≤ 240) (hg : GB g r) (a1 : rd_I W 33 4 = nI L) (a2 : rd_I W 33 5 = g) (a3 : rd_I W 33 6 = r) (b1 : rd_I W 80 51 = nI L) (b2 : rd_I W 80 71 = g) (b3 : rd_I W 80 72 = r) (h7 : rd_I W 33 7 = 0) (h5 : rd_I W 68 5 = 0) : Inv (c + 1) W := by
  obtain ⟨g1, g2, g3, g4, g5, g6, g7, g8, g8'⟩ := id gx
  obtain ⟨hH, hF, hE, hh, hB, hpo, hlo, hhi, hQB⟩ := id g1
  obtain ⟨hM, -, -, -, -, hpo', hsp, -⟩ := id g2
  obtain ⟨⟨e1, e1b, e1c, e1d, e1e, e1f⟩, e2, e3, e4, e5, e6, e7, e8, e9⟩ := hE
  obtain ⟨h1, h2, h3, h4, h5', h6⟩ := hh
  have cR : ∀ a k, Cr a k → ¬ Aset a k := fun a k e => by unfold Cr at e; unfold Aset; omega
  have cF : ∀ a k, Cf a k → ¬ Aset a k := fun a k e => by unfold Cf at e; unfold Aset; omega
  have cN : ∀ a k, Cnt a k → ¬ Aset a k := fun a k e => by unfold Cnt at e; unfold Aset; omega
  have kE : EK (Q.E.set L g r) := ⟨e1, e1b, hL, e1d, e1e, hg⟩
  have mE : ME W (Q.E.set L g r) := by
    refine ⟨kE, (f.I 80 10 (by unfold Aset; omega)).trans e2, (mpart_fr f cF).trans e3, b1, ?_, (f.I 80 50 (by unfold Aset; omega)).trans e6, fun p hp => ?_, b2, b3⟩
    · obtain ⟨r1, r2, r3, r4, r5, r6⟩ := e5
      refine ⟨r1, (f.I 80 20 (by unfold Aset; omega)).trans r2, (f.I 80 18 (by unfold Aset; omega)).trans r3, fun t ht => ?_, r5, r6⟩
      rw [f.I 90 t (by unfold Aset; omega), f.I 91 t (by unfold Aset; omega)]
      exact r4 t ht
    · rw [f.I 94 p (by unfold Aset; omega), f.I 95 p (by unfold Aset; omega), f.I 96 p (by unfold Aset; omega), f.I 97 p (by unfold Aset; omega)]
      exact e7 p hp
  have nO : ∀ p k, ¬ Aset (hob p) k := fun p k => by unfold Aset hob; omega
  have hE' : HE W (Q.E.set L g r) := by
    refine ⟨a1, a2, a3, (f.I 33 3 (by unfold Aset; omega)).trans h4, ?_, fun p hp => ?_⟩
    · obtain ⟨r1, r2, r3⟩ := h5'
      rw [f.R]
      refine ⟨?_, ?_, fun t ht => ?_⟩
      · rw [f.I _ _ (by unfold Aset; rcases rr_c hH with e | e <;> rw [e] <;> omega)]; exact r1
      · rw [f.I _ _ (by unfold Aset; rcases rr_c hH with e | e <;> rw [e] <;> omega)]; exact r2
      · rw [f.I _ _ (by unfold Aset; rcases rr_c hH with e | e <;> rw [e] <;> omega), f.I _ _ (by unfold Aset; rcases rr_c hH with e | e <;> rw [e] <;> omega)]
        exact r3 t ht
    · obtain ⟨o1, o2, o3, o4⟩ := h6 p hp
      rw [f.R, f.I _ _ (nO p 0), f.I _ _ (nO p 1), f.I _ _ (nO p 2), f.I _ _ (nO p 3)]
      exact ⟨o1, f.oq o2, o3, o4⟩
  have qB : QB ((Q.E.set L g r), Q.2) := ⟨kE, hQB.2⟩
  refine Inv_set f cR gx ((Q.E.set L g r), Q.2) mass ⟨f.hr hH, FR_fr f cF hH hF, mE, hE', NT_fr f cN hB, (f.I 42 8 (by unfold Aset; omega)).trans hpo, (f.I 3 3 (by unfold Aset; omega)).trans hlo, (f.I 3 4 (by unfold Aset; omega)).trans hhi, qB⟩ ⟨f.mr hM, f.hr hH, FR_fr f cF hH hF, mE, NT_fr f cN hB, (f.I 80 75 (by unfold Aset; omega)).trans hpo', ?_, qB⟩ (IMs_fr f (by unfold Aset; omega) (by unfold Aset; omega) g3) rfl rfl (Or.inl h7) (Or.inl h5)
  unfold SPM
  rw [f.I 80 13 (by unfold Aset; omega)]
  rcases hsp with q | ⟨p, q1, q2, q3, q4⟩
  · exact Or.inl q
  · exact Or.inr ⟨p, q1, q2, (f.I 86 p (by unfold Aset; omega)).trans q3, (f.I 87 p (by unfold Aset; omega)).trans q4⟩
theorem pr_length (N : Nat) (c : Nat) (M : sw_M) (g : Inv c M) (a : Int32) : PR c M (f_House_length N 1 a) (f_Model_length N 80 a) := by
  obtain ⟨Q, mass, gx, g9, g10⟩ := id g
  obtain ⟨g1, g2, g3, g4, g5, g6, g7, g8, g8'⟩ := id gx
  obtain ⟨hH, hF, hE, hh, hB, hpo, hlo, hhi, hQB⟩ := id g1
  have hM := g2.1
  by_cases c0 : a < 10
  · refine PR_0 0 g ?_ ?_
    · unfold f_House_length
      rw [if_pos c0]
    · unfold f_Model_length
      rw [ok_80 hM.1, gd_T, if_pos c0]
  by_cases c1 : a ≤ 240
  · have d0 : 10 ≤ a.toInt := Int32.le_iff_toInt_le.mp (Int32.not_lt.mp c0)
    have d1 : a.toInt ≤ 240 := Int32.le_iff_toInt_le.mp c1
    have hb : nI a.toInt.toNat = a := nI_back a (by omega)
    have f1 : Fr Aset M (wr_I (wr_I (wr_I M 33 4 a) 33 7 0) 68 5 0) := (((Fr.refl _ M).wI _ _ _ (by unfold Aset; omega)).wI _ _ _ (by unfold Aset; omega)).wI _ _ _ (by unfold Aset; omega)
    have f2 : Fr Aset M (wr_I (wr_I (wr_I (wr_I (wr_I M 33 4 a) 33 7 0) 68 5 0) 80 0 0) 80 51 a) := (f1.wI _ _ _ (by unfold Aset; omega)).wI _ _ _ (by unfold Aset; omega)
    refine ⟨1, _, _, ?_, f1.mr hM, ?_, Inv_E f2 gx a.toInt.toNat Q.E.g Q.E.r (by omega) hE.1.2.2.2.2.2 ?_ ?_ ?_ ?_ ?_ ?_ ?_ ?_⟩
    · unfold f_House_length
      rw [if_neg c0, if_pos c1, ok_1 hH.1, gd_T, hr_f hH 1 6 33 rfl (by decide), ok_33 hH.1, gd_T, forget N _ (((Fr.refl (fun _ _ => True) M).wI _ _ _ trivial).hr hH), bn_S]
    · unfold f_Model_length
      rw [f1.ok, ok_80 hM.1, gd_T, if_neg c0, if_pos c1]
    · simp only [m_II, m_LL, m_RR, m_IL, m_IR, m_LI, m_LR, m_RI, m_RL, m_NI, m_NL, m_NR, m_okI, m_okL, m_okR, m_okaI, m_okaL, m_okaR, m_arI, m_arL, m_arR, gd_T, bn_S, Nat.reduceEqDiff, Nat.left_eq_add, Nat.add_eq_left, Nat.one_ne_zero, and_false, and_true, false_and, true_and, if_false, if_true]; exact hb.symm
    · simp only [m_II, m_LL, m_RR, m_IL, m_IR, m_LI, m_LR, m_RI, m_RL, m_NI, m_NL, m_NR, m_okI, m_okL, m_okR, m_okaI, m_okaL, m_okaR, m_arI, m_arL, m_arR, gd_T, bn_S, Nat.reduceEqDiff, Nat.left_eq_add, Nat.add_eq_left, Nat.one_ne_zero, and_false, and_true, false_and, true_and, if_false, if_true]; exact hh.2.1
    · simp only [m_II, m_LL, m_RR, m_IL, m_IR, m_LI, m_LR, m_RI, m_RL, m_NI, m_NL, m_NR, m_okI, m_okL, m_okR, m_okaI, m_okaL, m_okaR, m_arI, m_arL, m_arR, gd_T, bn_S, Nat.reduceEqDiff, Nat.left_eq_add, Nat.add_eq_left, Nat.one_ne_zero, and_false, and_true, false_and, true_and, if_false, if_true]; exact hh.2.2.1
    · simp only [m_II, m_LL, m_RR, m_IL, m_IR, m_LI, m_LR, m_RI, m_RL, m_NI, m_NL, m_NR, m_okI, m_okL, m_okR, m_okaI, m_okaL, m_okaR, m_arI, m_arL, m_arR, gd_T, bn_S, Nat.reduceEqDiff, Nat.left_eq_add, Nat.add_eq_left, Nat.one_ne_zero, and_false, and_true, false_and, true_and, if_false, if_true]; exact hb.symm
    · simp only [m_II, m_LL, m_RR, m_IL, m_IR, m_LI, m_LR, m_RI, m_RL, m_NI, m_NL, m_NR, m_okI, m_okL, m_okR, m_okaI, m_okaL, m_okaR, m_arI, m_arL, m_arR, gd_T, bn_S, Nat.reduceEqDiff, Nat.left_eq_add, Nat.add_eq_left, Nat.one_ne_zero, and_false, and_true, false_and, true_and, if_false, if_true]; exact hE.2.2.2.2.2.2.2.1
    · simp only [m_II, m_LL, m_RR, m_IL, m_IR, m_LI, m_LR, m_RI, m_RL, m_NI, m_NL, m_NR, m_okI, m_okL, m_okR, m_okaI, m_okaL, m_okaR, m_arI, m_arL, m_arR, gd_T, bn_S, Nat.reduceEqDiff, Nat.left_eq_add, Nat.add_eq_left, Nat.one_ne_zero, and_false, and_true, false_and, true_and, if_false, if_true]; exact hE.2.2.2.2.2.2.2.2
    · simp only [m_II, m_LL, m_RR, m_IL, m_IR, m_LI, m_LR, m_RI, m_RL, m_NI, m_NL, m_NR, m_okI, m_okL, m_okR, m_okaI, m_okaL, m_okaR, m_arI, m_arL, m_arR, gd_T, bn_S, Nat.reduceEqDiff, Nat.left_eq_add, Nat.add_eq_left, Nat.one_ne_zero, and_false, and_true, false_and, true_and, if_false, if_true]
    · simp only [m_II, m_LL, m_RR, m_IL, m_IR, m_LI, m_LR, m_RI, m_RL, m_NI, m_NL, m_NR, m_okI, m_okL, m_okR, m_okaI, m_okaL, m_okaR, m_arI, m_arL, m_arR, gd_T, bn_S, Nat.reduceEqDiff, Nat.left_eq_add, Nat.add_eq_left, Nat.one_ne_zero, and_false, and_true, false_and, true_and, if_false, if_true]
  · refine PR_0 0 g ?_ ?_
    · unfold f_House_length
      rw [if_neg c0, if_neg c1]
    · unfold f_Model_length
      rw [ok_80 hM.1, gd_T, if_neg c0, if_neg c1]
theorem pr_cells (N : Nat) (c : Nat) (M : sw_M) (g : Inv c M) (a b : Int32) : PR c M (f_House_cells N 1 a b) (f_Model_cells N 80 a b) := by
  obtain ⟨Q, mass, gx, g9, g10⟩ := id g
  obtain ⟨g1, g2, g3, g4, g5, g6, g7, g8, g8'⟩ := id gx
  obtain ⟨hH, hF, hE, hh, hB, hpo, hlo, hhi, hQB⟩ := id g1
  have hM := g2.1
  by_cases c0 : a < 2
  · refine PR_0 0 g ?_ ?_
    · unfold f_House_cells
      rw [if_pos c0]
    · unfold f_Model_cells
      rw [ok_80 hM.1, gd_T, if_pos c0]
  by_cases c1 : 8 < a
  · refine PR_0 0 g ?_ ?_
    · unfold f_House_cells
      rw [if_neg c0, if_pos c1]
    · unfold f_Model_cells
      rw [ok_80 hM.1, gd_T, if_neg c0, if_pos c1]
  by_cases c2 : b < 8
  · refine PR_0 0 g ?_ ?_
    · unfold f_House_cells
      rw [if_neg c0, if_neg c1, if_pos c2]
    · unfold f_Model_cells
      rw [ok_80 hM.1, gd_T, if_neg c0, if_neg c1, if_pos c2]
  by_cases c3 : b ≤ 20000
  · have d0 : 2 ≤ a.toInt := Int32.le_iff_toInt_le.mp (Int32.not_lt.mp c0)
    have d1 : a.toInt ≤ 8 := Int32.le_iff_toInt_le.mp (Int32.not_lt.mp c1)
    have d2 : 8 ≤ b.toInt := Int32.le_iff_toInt_le.mp (Int32.not_lt.mp c2)
    have d3 : b.toInt ≤ 20000 := Int32.le_iff_toInt_le.mp c3
    have f1 : Fr Aset M (wr_I (wr_I (wr_I (wr_I M 33 5 a) 33 6 b) 33 7 0) 68 5 0) := ((((Fr.refl _ M).wI _ _ _ (by unfold Aset; omega)).wI _ _ _ (by unfold Aset; omega)).wI _ _ _ (by unfold Aset; omega)).wI _ _ _ (by unfold Aset; omega)
    have f2 : Fr Aset M (wr_I (wr_I (wr_I (wr_I (wr_I (wr_I (wr_I M 33 5 a) 33 6 b) 33 7 0) 68 5 0) 80 0 0) 80 71 a) 80 72 b) := ((f1.wI _ _ _ (by unfold Aset; omega)).wI _ _ _ (by unfold Aset; omega)).wI _ _ _ (by unfold Aset; omega)
    refine ⟨1, _, _, ?_, f1.mr hM, ?_, Inv_E f2 gx Q.E.L a b hE.1.2.2.1 ⟨⟨d0, d1⟩, ⟨d2, d3⟩⟩ ?_ ?_ ?_ ?_ ?_ ?_ ?_ ?_⟩
    · unfold f_House_cells
      rw [if_neg c0, if_neg c1, if_neg c2, if_pos c3]
      simp only [ok_1 hH.1, ok_33 hH.1, hr_f hH 1 6 33 rfl (by decide), m_II, m_LL, m_RR, m_IL, m_IR, m_LI, m_LR, m_RI, m_RL, m_NI, m_NL, m_NR, m_okI, m_okL, m_okR, m_okaI, m_okaL, m_okaR, m_arI, m_arL, m_arR, gd_T, bn_S, Nat.reduceEqDiff, Nat.left_eq_add, Nat.add_eq_left, Nat.one_ne_zero, and_false, and_true, false_and, true_and, if_false, if_true]
      rw [forget N _ ((((Fr.refl (fun _ _ => True) M).wI _ _ _ trivial).wI _ _ _ trivial).hr hH)]
      rfl
    · unfold f_Model_cells
      rw [f1.ok, ok_80 hM.1, gd_T, if_neg c0, if_neg c1, if_neg c2, if_pos c3]
    · simp only [m_II, m_LL, m_RR, m_IL, m_IR, m_LI, m_LR, m_RI, m_RL, m_NI, m_NL, m_NR, m_okI, m_okL, m_okR, m_okaI, m_okaL, m_okaR, m_arI, m_arL, m_arR, gd_T, bn_S, Nat.reduceEqDiff, Nat.left_eq_add, Nat.add_eq_left, Nat.one_ne_zero, and_false, and_true, false_and, true_and, if_false, if_true]; exact hh.1
    · simp only [m_II, m_LL, m_RR, m_IL, m_IR, m_LI, m_LR, m_RI, m_RL, m_NI, m_NL, m_NR, m_okI, m_okL, m_okR, m_okaI, m_okaL, m_okaR, m_arI, m_arL, m_arR, gd_T, bn_S, Nat.reduceEqDiff, Nat.left_eq_add, Nat.add_eq_left, Nat.one_ne_zero, and_false, and_true, false_and, true_and, if_false, if_true]
    · simp only [m_II, m_LL, m_RR, m_IL, m_IR, m_LI, m_LR, m_RI, m_RL, m_NI, m_NL, m_NR, m_okI, m_okL, m_okR, m_okaI, m_okaL, m_okaR, m_arI, m_arL, m_arR, gd_T, bn_S, Nat.reduceEqDiff, Nat.left_eq_add, Nat.add_eq_left, Nat.one_ne_zero, and_false, and_true, false_and, true_and, if_false, if_true]
    · simp only [m_II, m_LL, m_RR, m_IL, m_IR, m_LI, m_LR, m_RI, m_RL, m_NI, m_NL, m_NR, m_okI, m_okL, m_okR, m_okaI, m_okaL, m_okaR, m_arI, m_arL, m_arR, gd_T, bn_S, Nat.reduceEqDiff, Nat.left_eq_add, Nat.add_eq_left, Nat.one_ne_zero, and_false, and_true, false_and, true_and, if_false, if_true]; exact hE.2.2.2.1
    · simp only [m_II, m_LL, m_RR, m_IL, m_IR, m_LI, m_LR, m_RI, m_RL, m_NI, m_NL, m_NR, m_okI, m_okL, m_okR, m_okaI, m_okaL, m_okaR, m_arI, m_arL, m_arR, gd_T, bn_S, Nat.reduceEqDiff, Nat.left_eq_add, Nat.add_eq_left, Nat.one_ne_zero, and_false, and_true, false_and, true_and, if_false, if_true]
    · simp only [m_II, m_LL, m_RR, m_IL, m_IR, m_LI, m_LR, m_RI, m_RL, m_NI, m_NL, m_NR, m_okI, m_okL, m_okR, m_okaI, m_okaL, m_okaR, m_arI, m_arL, m_arR, gd_T, bn_S, Nat.reduceEqDiff, Nat.left_eq_add, Nat.add_eq_left, Nat.one_ne_zero, and_false, and_true, false_and, true_and, if_false, if_true]
    · simp only [m_II, m_LL, m_RR, m_IL, m_IR, m_LI, m_LR, m_RI, m_RL, m_NI, m_NL, m_NR, m_okI, m_okL, m_okR, m_okaI, m_okaL, m_okaR, m_arI, m_arL, m_arR, gd_T, bn_S, Nat.reduceEqDiff, Nat.left_eq_add, Nat.add_eq_left, Nat.one_ne_zero, and_false, and_true, false_and, true_and, if_false, if_true]
    · simp only [m_II, m_LL, m_RR, m_IL, m_IR, m_LI, m_LR, m_RI, m_RL, m_NI, m_NL, m_NR, m_okI, m_okL, m_okR, m_okaI, m_okaL, m_okaR, m_arI, m_arL, m_arR, gd_T, bn_S, Nat.reduceEqDiff, Nat.left_eq_add, Nat.add_eq_left, Nat.one_ne_zero, and_false, and_true, false_and, true_and, if_false, if_true]
  · refine PR_0 0 g ?_ ?_
    · unfold f_House_cells
      rw [if_neg c0, if_neg c1, if_neg c2, if_neg c3]
    · unfold f_Model_cells
      rw [ok_80 hM.1, gd_T, if_neg c0, if_neg c1, if_neg c2, if_neg c3]
theorem pr_portions (N : Nat) (c : Nat) (M : sw_M) (g : Inv c M) (a : Int32) : PR c M (f_House_portions N 1 a) (f_Model_portions N 80 a) := by
  obtain ⟨Q, mass, gx, g9, g10⟩ := id g
  obtain ⟨g1, g2, g3, g4, g5, g6, g7, g8, g8'⟩ := id gx
  obtain ⟨hH, hF, hE, hh, hB, hpo, hlo, hhi, hQB⟩ := id g1
  obtain ⟨hM, -, -, -, -, hpo', hsp, -⟩ := id g2
  by_cases c0 : a < 1
  · refine PR_0 0 g ?_ ?_
    · unfold f_House_portions
      rw [if_pos c0]
    · unfold f_Model_portions
      rw [ok_80 hM.1, gd_T, if_pos c0]
  by_cases c1 : a ≤ 10
  · let A : Nat → Nat → Prop := fun a k => (a = 42 ∧ k = 8) ∨ (a = 68 ∧ k = 5) ∨ (a = 80 ∧ (k = 0 ∨ k = 75))
    have d0 : 1 ≤ a.toInt := Int32.le_iff_toInt_le.mp (Int32.not_lt.mp c0)
    have d1 : a.toInt ≤ 10 := Int32.le_iff_toInt_le.mp c1
    have f1 : Fr A M (wr_I (wr_I M 42 8 a) 68 5 0) := ((Fr.refl _ M).wI _ _ _ (Or.inl ⟨rfl, rfl⟩)).wI _ _ _ (Or.inr (Or.inl ⟨rfl, rfl⟩))
    have f2 : Fr A M (wr_I (wr_I (wr_I (wr_I M 42 8 a) 68 5 0) 80 0 0) 80 75 a) := (f1.wI _ _ _ (Or.inr (Or.inr ⟨rfl, Or.inl rfl⟩))).wI _ _ _ (Or.inr (Or.inr ⟨rfl, Or.inr rfl⟩))
    have cq : ∀ a k, Cr a k ∨ Cf a k ∨ Cx a k ∨ Che a k ∨ Cnt a k ∨ 125 ≤ a ∨ (a = 33 ∧ (k = 7 ∨ k = 8)) ∨ (a = 3) ∨ (a = 80 ∧ k = 15) → ¬ A a k := fun a k e f => by
      have f' : (a = 42 ∧ k = 8) ∨ (a = 68 ∧ k = 5) ∨ (a = 80 ∧ (k = 0 ∨ k = 75)) := f
      unfold Cf Cx Che Cnt Cr at e
      omega
    have qB : QB (Q.E, Q.B, a, Q.lo, Q.hi, Q.pa) := ⟨hQB.1, hQB.2.1, hQB.2.2.1, ⟨d0, d1⟩, hQB.2.2.2.2⟩
    have mE : ME _ Q.E := ME_fr f2 (fun a k e => cq a k (Or.inr (Or.inr (Or.inl e)))) hE
    have nT : NT _ Q.B := NT_fr f2 (fun a k e => cq a k (Or.inr (Or.inr (Or.inr (Or.inr (Or.inl e)))))) hB
    have fR : FR _ Q.E.n := FR_fr f2 (fun a k e => cq a k (Or.inr (Or.inl e))) hH hF
    refine ⟨1, _, _, ?_, f1.mr hM, ?_, Inv_set f2 (fun a k e => cq a k (Or.inl e)) gx (Q.E, Q.B, a, Q.lo, Q.hi, Q.pa) mass ⟨f2.hr hH, fR, mE, HE_fr f2 (fun a k e => cq a k (Or.inr (Or.inr (Or.inr (Or.inl e))))) hH hh, nT, ?_, (f2.I 3 3 (cq _ _ (by omega))).trans hlo, (f2.I 3 4 (cq _ _ (by omega))).trans hhi, qB⟩ ⟨f2.mr hM, f2.hr hH, fR, mE, nT, ?_, SPM_fr f2 (fun a k e => cq a k (Or.inr (Or.inr (Or.inl e)))) hsp, qB⟩ (IMs_fr f2 (cq _ _ (by omega)) (cq _ _ (by omega)) g3) rfl rfl (CH_fr f2 (fun a k e => cq a k (by omega)) g9) (Or.inl ?_)⟩
    · unfold f_House_portions
      rw [if_neg c0, if_pos c1]
      simp only [ok_1 hH.1, ok_42 hH.1, ok_68 hH.1, hr_f hH 1 8 42 rfl (by decide), hr_f hH 1 9 68 rfl (by decide), m_II, m_LL, m_RR, m_IL, m_IR, m_LI, m_LR, m_RI, m_RL, m_NI, m_NL, m_NR, m_okI, m_okL, m_okR, m_okaI, m_okaL, m_okaR, m_arI, m_arL, m_arR, gd_T, bn_S, Nat.reduceEqDiff, Nat.left_eq_add, Nat.add_eq_left, Nat.one_ne_zero, and_false, and_true, false_and, true_and, if_false, if_true]
    · unfold f_Model_portions
      rw [f1.ok, ok_80 hM.1, gd_T, if_neg c0, if_pos c1]
    · simp only [m_II, m_LL, m_RR, m_IL, m_IR, m_LI, m_LR, m_RI, m_RL, m_NI, m_NL, m_NR, m_okI, m_okL, m_okR, m_okaI, m_okaL, m_okaR, m_arI, m_arL, m_arR, gd_T, bn_S, Nat.reduceEqDiff, Nat.left_eq_add, Nat.add_eq_left, Nat.one_ne_zero, and_false, and_true, false_and, true_and, if_false, if_true]; rfl
    · simp only [m_II, m_LL, m_RR, m_IL, m_IR, m_LI, m_LR, m_RI, m_RL, m_NI, m_NL, m_NR, m_okI, m_okL, m_okR, m_okaI, m_okaL, m_okaR, m_arI, m_arL, m_arR, gd_T, bn_S, Nat.reduceEqDiff, Nat.left_eq_add, Nat.add_eq_left, Nat.one_ne_zero, and_false, and_true, false_and, true_and, if_false, if_true]; rfl
    · simp only [m_II, m_LL, m_RR, m_IL, m_IR, m_LI, m_LR, m_RI, m_RL, m_NI, m_NL, m_NR, m_okI, m_okL, m_okR, m_okaI, m_okaL, m_okaR, m_arI, m_arL, m_arR, gd_T, bn_S, Nat.reduceEqDiff, Nat.left_eq_add, Nat.add_eq_left, Nat.one_ne_zero, and_false, and_true, false_and, true_and, if_false, if_true]
  · refine PR_0 0 g ?_ ?_
    · unfold f_House_portions
      rw [if_neg c0, if_neg c1]
    · unfold f_Model_portions
      rw [ok_80 hM.1, gd_T, if_neg c0, if_neg c1]
