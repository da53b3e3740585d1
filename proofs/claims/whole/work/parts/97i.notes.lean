/-! 97i: sight, strike -/
def NN.add (B : NN) (st : Bool) (kd : Int32) (ce : Nat) (lo hi : Int32) : NN := (B.m + 1, fun i => if i = B.m then st else B.str i, fun i => if i = B.m then kd else B.kind i, fun i => if i = B.m then ce else B.cell i, fun i => if i = B.m then lo else B.lo i, fun i => if i = B.m then hi else B.hi i)
def Ant (m a k : Nat) : Prop := (a = 36 ∧ k = 5) ∨ (a = 80 ∧ (k = 0 ∨ k = 76)) ∨ (a = 68 ∧ k = 5) ∨ (((37 ≤ a ∧ a ≤ 40) ∨ (114 ≤ a ∧ a ≤ 118)) ∧ k = m)
theorem NT_add {M W : sw_M} {B : NN} (g : NT M B) (hm : B.m < 10) (f : Fr (Ant B.m) M W) (st : Bool) (kd : Int32) (ce : Nat) (lo hi : Int32) (h1 : rd_I W 36 5 = nI (B.m + 1)) (h2 : rd_I W 80 76 = nI (B.m + 1))
    (hs : st = true → rd_I W 114 B.m = 1 ∧ rd_I W 37 B.m = 2 ∧ ce < B.m) (hn : st = false → rd_I W 114 B.m = 0 ∧ rd_I W 37 B.m = kd ∧ rd_I W 115 B.m = kd ∧ (kd = 0 ∨ kd = 1) ∧ ce < 64 ∧ rd_I W 39 B.m = lo ∧ rd_I W 117 B.m = lo ∧ rd_I W 40 B.m = hi ∧ rd_I W 118 B.m = hi ∧ b4 lo ∧ b4 hi) (h3 : rd_I W 116 B.m = nI ce) (h4 : rd_I W 38 B.m = nI ce) : NT W (B.add st kd ce lo hi) := by
  obtain ⟨g1, g2, g3, g4⟩ := g
  refine ⟨by show B.m + 1 ≤ 10; omega, h1, h2, fun i hi' => ?_⟩
  have hi2 : i < B.m + 1 := hi'
  show ((if i = B.m then st else B.str i) = true → rd_I W 114 i = 1 ∧ rd_I W 37 i = 2 ∧ (if i = B.m then ce else B.cell i) < i) ∧ ((if i = B.m then st else B.str i) = false → rd_I W 114 i = 0 ∧ rd_I W 37 i = (if i = B.m then kd else B.kind i) ∧ rd_I W 115 i = (if i = B.m then kd else B.kind i) ∧ ((if i = B.m then kd else B.kind i) = 0 ∨ (if i = B.m then kd else B.kind i) = 1) ∧ (if i = B.m then ce else B.cell i) < 64 ∧ rd_I W 39 i = (if i = B.m then lo else B.lo i) ∧ rd_I W 117 i = (if i = B.m then lo else B.lo i) ∧ rd_I W 40 i = (if i = B.m then hi else B.hi i) ∧ rd_I W 118 i = (if i = B.m then hi else B.hi i) ∧ b4 (if i = B.m then lo else B.lo i) ∧ b4 (if i = B.m then hi else B.hi i)) ∧ rd_I W 116 i = nI (if i = B.m then ce else B.cell i) ∧ rd_I W 38 i = nI (if i = B.m then ce else B.cell i)
  by_cases e : i = B.m
  · simp only [e, if_true]
    exact ⟨hs, hn, h3, h4⟩
  · simp only [if_neg e]
    have nA : ∀ a, ((37 ≤ a ∧ a ≤ 40) ∨ (114 ≤ a ∧ a ≤ 118)) → rd_I W a i = rd_I M a i := fun a h => f.I a i (by unfold Ant; omega)
    rw [nA 114 (by omega), nA 37 (by omega), nA 115 (by omega), nA 39 (by omega), nA 117 (by omega), nA 40 (by omega), nA 118 (by omega), nA 116 (by omega), nA 38 (by omega)]
    exact g4 i (by omega)
theorem n10 {m : Nat} (h : m < 10) : ¬ nI m = (10 : Int32) := fun e => by
  have e' : nI m = nI 10 := e
  have := (nI_eq (by omega) (by decide)).mp e'
  omega
theorem ite_c {α : Type} {p q : Prop} [Decidable p] [Decidable q] (h : p ↔ q) (a b : α) : (if p then a else b) = if q then a else b := by
  by_cases c : p
  · rw [if_pos c, if_pos (h.mp c)]
  · rw [if_neg c, if_neg (fun d => c (h.mpr d))]
def hnt (M : sw_M) (m : Nat) (k c l h : Int32) : sw_M := wr_I (wr_I (wr_I (wr_I (wr_I M 37 m k) 38 m c) 39 m l) 40 m h) 36 5 (nI (m + 1))
theorem nI_p1s (m : Nat) : nI (m + 1) - 1 = nI m := by
  rw [Int32.sub_eq_add_neg]
  exact nI_m1 m
theorem Notes_add (N : Nat) (M : sw_M) (hH : HR M) (m : Nat) (hm : m ≤ 10) (h5 : rd_I M 36 5 = nI m) (k c l h : Int32) : f_Notes_add N 36 k c l h M = if m < 10 then some (nI m, hnt M m k c l h) else some (-1, M) := by
  unfold f_Notes_add
  rw [ok_36 hH.1, gd_T, h5]
  by_cases q : m < 10
  · rw [if_pos q, if_pos (show nI m < (10 : Int32) from (nI_lt q (by omega) : nI m < nI 10))]
    simp only [hr_f hH 36 0 37 rfl (by decide), hr_f hH 36 1 38 rfl (by decide), hr_f hH 36 2 39 rfl (by decide), hr_f hH 36 3 40 rfl (by decide), ar_37 hH.1, ar_38 hH.1, ar_39 hH.1, ar_40 hH.1, ti_n q (show (10 : Nat) < 2 ^ 31 by decide), cl_n (show m < 2 ^ 31 by omega), m_II, m_LL, m_RR, m_IL, m_IR, m_LI, m_LR, m_RI, m_RL, m_NI, m_NL, m_NR, m_okI, m_okL, m_okR, m_okaI, m_okaL, m_okaR, m_arI, m_arL, m_arR, gd_T, bn_S, Nat.reduceEqDiff, Nat.left_eq_add, Nat.add_eq_left, Nat.one_ne_zero, and_false, and_true, false_and, true_and, if_false, if_true, h5, nI_1, nI_p1s]
    rfl
  · rw [if_neg q, if_neg (show ¬ nI m < (10 : Int32) from (nI_nlt (by omega) (by omega) : ¬ nI m < nI 10))]
/-- a NOTE is taken -/
theorem Inv_note {M W : sw_M} {c : Nat} {Q : QT} {mass : Int32} (gx : IX c M Q mass) (g9 : CH M Q.E) (hm : Q.B.m < 10) (f : Fr (Ant Q.B.m) M W) (st : Bool) (kd : Int32) (ce : Nat) (lo hi : Int32) (nT : NT W (Q.B.add st kd ce lo hi)) (h5 : rd_I W 68 5 = 0) : Inv (c + 1) W := by
  obtain ⟨g1, g2, g3, g4, g5, g6, g7, g8, g8'⟩ := id gx
  obtain ⟨hH, hF, hE, hh, hB, hpo, hlo, hhi, hQB⟩ := id g1
  obtain ⟨hM, -, -, -, -, hpo', hsp, -⟩ := id g2
  have cX : ∀ a k, Cx a k → ¬ Ant Q.B.m a k := fun a k e => by unfold Cx at e; unfold Ant; omega
  have cF : ∀ a k, Cf a k → ¬ Ant Q.B.m a k := fun a k e => by unfold Cf at e; unfold Ant; omega
  have cE : ∀ a k, Che a k → ¬ Ant Q.B.m a k := fun a k e => by unfold Che at e; unfold Ant; omega
  have qB : QB (Q.E, (Q.B.add st kd ce lo hi), Q.por, Q.lo, Q.hi, Q.pa) := ⟨hQB.1, hQB.2.1, hQB.2.2.1, hQB.2.2.2.1, nT.1⟩
  exact Inv_set f (fun a k e => by unfold Cr at e; unfold Ant; omega) gx (Q.E, (Q.B.add st kd ce lo hi), Q.por, Q.lo, Q.hi, Q.pa) mass ⟨f.hr hH, FR_fr f cF hH hF, ME_fr f cX hE, HE_fr f cE hH hh, nT, (f.I 42 8 (by unfold Ant; omega)).trans hpo, (f.I 3 3 (by unfold Ant; omega)).trans hlo, (f.I 3 4 (by unfold Ant; omega)).trans hhi, qB⟩ ⟨f.mr hM, f.hr hH, FR_fr f cF hH hF, ME_fr f cX hE, nT, (f.I 80 75 (by unfold Ant; omega)).trans hpo', SPM_fr f cX hsp, qB⟩ (IMs_fr f (by unfold Ant; omega) (by unfold Ant; omega) g3) rfl rfl (CH_fr f (fun a k e => by unfold Ant; omega) g9) (Or.inl h5)
/-- no NOTE is taken, MODELS are forgotten -/
theorem Inv_full {M : sw_M} {c : Nat} {Q : QT} {mass : Int32} (gx : IX c M Q mass) (g9 : CH M Q.E) : Inv (c + 1) (wr_I (wr_I M 68 5 0) 80 0 0) := by
  have f : Fr (fun a k => (a = 68 ∧ k = 5) ∨ (a = 80 ∧ k = 0)) M (wr_I (wr_I M 68 5 0) 80 0 0) := ((Fr.refl _ M).wI _ _ _ (Or.inl ⟨rfl, rfl⟩)).wI _ _ _ (Or.inr ⟨rfl, rfl⟩)
  exact ⟨Q, mass, IX_up (IX_fr f (fun a k e => by unfold Ci Chq Cmq Cf Cx Che Cnt at e; omega) gx), CH_fr f (fun a k e => by omega) g9, Or.inl (by simp only [m_II, m_LL, m_RR, m_IL, m_IR, m_LI, m_LR, m_RI, m_RL, m_NI, m_NL, m_NR, m_okI, m_okL, m_okR, m_okaI, m_okaL, m_okaR, m_arI, m_arL, m_arR, gd_T, bn_S, Nat.reduceEqDiff, Nat.left_eq_add, Nat.add_eq_left, Nat.one_ne_zero, and_false, and_true, false_and, true_and, if_false, if_true])⟩
/-- whether a SIGHT is one -/
def sib (a1 a2 a3 a4 : Int32) : Bool := decide (0 ≤ a2) && decide (a2 < 64) && decide (a3 ≤ a4) && ((decide (a1 = 0) && decide (0 ≤ a3) && decide (a4 ≤ 1000)) || (decide (a1 = 1) && decide (-9999 ≤ a3) && decide (a4 ≤ 9999)))
theorem House_sight (N : Nat) (M : sw_M) (hH : HR M) (m : Nat) (hm : m ≤ 10) (h5 : rd_I M 36 5 = nI m) (a1 a2 a3 a4 : Int32) : f_House_sight N 1 a1 a2 a3 a4 M = if sib a1 a2 a3 a4 = true then (if m < 10 then some (nI m, hnt (wr_I M 68 5 0) m a1 a2 a3 a4) else some (-1, wr_I M 68 5 0)) else some (-1, M) := by
  have e59 : f_House_sight_59 N 1 a1 a2 a3 a4 M = if m < 10 then some (nI m, hnt (wr_I M 68 5 0) m a1 a2 a3 a4) else some (-1, wr_I M 68 5 0) := by
    have fr : Fr (fun _ _ => True) M (wr_I M 68 5 0) := (Fr.refl _ M).wI _ _ _ trivial
    unfold f_House_sight_59
    rw [ok_1 hH.1, gd_T, hr_f hH 1 9 68 rfl (by decide), ok_68 hH.1, gd_T, hr_f (fr.hr hH) 1 7 36 rfl (by decide), fr.ok, ok_36 hH.1, gd_T, Notes_add N _ (fr.hr hH) m hm (by simp only [m_II, m_LL, m_RR, m_IL, m_IR, m_LI, m_LR, m_RI, m_RL, m_NI, m_NL, m_NR, m_okI, m_okL, m_okR, m_okaI, m_okaL, m_okaR, m_arI, m_arL, m_arR, gd_T, bn_S, Nat.reduceEqDiff, Nat.left_eq_add, Nat.add_eq_left, Nat.one_ne_zero, and_false, and_true, false_and, true_and, if_false, if_true]; exact h5)]
    split <;> rfl
  unfold f_House_sight sib
  rw [e59]
  by_cases c0 : a2 < 0
  · rw [if_pos c0, decide_eq_false (Int32.not_le.mpr c0)]; rfl
  rw [if_neg c0, decide_eq_true (Int32.not_lt.mp c0)]
  by_cases c1 : 64 ≤ a2
  · rw [if_pos c1, decide_eq_false (Int32.not_lt.mpr c1)]; rfl
  rw [if_neg c1, decide_eq_true (Int32.not_le.mp c1)]
  by_cases c2 : a3 ≤ a4
  · rw [if_pos c2, decide_eq_true c2]
    by_cases c3 : a1 = 0
    · rw [if_pos c3, decide_eq_true c3, decide_eq_false (show ¬ a1 = 1 by rw [c3]; decide)]
      by_cases c4 : a3 < 0
      · rw [if_pos c4, decide_eq_false (Int32.not_le.mpr c4)]; rfl
      rw [if_neg c4, decide_eq_true (Int32.not_lt.mp c4)]
      by_cases c5 : a4 ≤ 1000
      · rw [if_pos c5, decide_eq_true c5]; rfl
      · rw [if_neg c5, decide_eq_false c5]; rfl
    · rw [if_neg c3, decide_eq_false c3]
      by_cases c6 : a1 = 1
      · rw [if_pos c6, decide_eq_true c6]
        by_cases c4 : a3 < -9999
        · rw [if_pos c4, decide_eq_false (Int32.not_le.mpr c4)]; rfl
        rw [if_neg c4, decide_eq_true (Int32.not_lt.mp c4)]
        by_cases c5 : a4 ≤ 9999
        · rw [if_pos c5, decide_eq_true c5]; rfl
        · rw [if_neg c5, decide_eq_false c5]; rfl
      · rw [if_neg c6, decide_eq_false c6]; rfl
  · rw [if_neg c2, decide_eq_false c2]; rfl
def mnt (M : sw_M) (m : Nat) (k c l h : Int32) : sw_M := wr_I (wr_I (wr_I (wr_I (wr_I (wr_I (wr_I M 80 0 0) 114 m 0) 115 m k) 116 m c) 117 m l) 118 m h) 80 76 (nI (m + 1))
theorem Model_sight_31 (N : Nat) (M : sw_M) (hM : MR M) (m : Nat) (hm : m ≤ 10) (h5 : rd_I M 80 76 = nI m) (a1 a2 a3 a4 l u : Int32) : f_Model_sight_31 N 80 a1 a2 a3 a4 l u (wr_I M 80 0 0) = if (0 ≤ a1 ∧ a1 ≤ 1 ∧ 0 ≤ a2 ∧ a2 ≤ 63 ∧ l ≤ a3 ∧ a3 ≤ a4 ∧ a4 ≤ u) ∧ m < 10 then some (nI m, mnt M m a1 a2 a3 a4) else some (-1, wr_I M 80 0 0) := by
  unfold f_Model_sight_31
  by_cases c0 : a1 < 0
  · rw [if_pos c0, if_neg (fun h => Int32.not_le.mpr c0 h.1.1)]
  by_cases c1 : 1 < a1
  · rw [if_neg c0, if_pos c1, if_neg (fun h => Int32.not_le.mpr c1 h.1.2.1)]
  by_cases c2 : a2 < 0
  · rw [if_neg c0, if_neg c1, if_pos c2, if_neg (fun h => Int32.not_le.mpr c2 h.1.2.2.1)]
  by_cases c3 : 63 < a2
  · rw [if_neg c0, if_neg c1, if_neg c2, if_pos c3, if_neg (fun h => Int32.not_le.mpr c3 h.1.2.2.2.1)]
  by_cases c4 : a3 < l
  · rw [if_neg c0, if_neg c1, if_neg c2, if_neg c3, if_pos c4, if_neg (fun h => Int32.not_le.mpr c4 h.1.2.2.2.2.1)]
  by_cases c5 : a4 < a3
  · rw [if_neg c0, if_neg c1, if_neg c2, if_neg c3, if_neg c4, if_pos c5, if_neg (fun h => Int32.not_le.mpr c5 h.1.2.2.2.2.2.1)]
  by_cases c6 : u < a4
  · rw [if_neg c0, if_neg c1, if_neg c2, if_neg c3, if_neg c4, if_neg c5, if_pos c6, if_neg (fun h => Int32.not_le.mpr c6 h.1.2.2.2.2.2.2)]
  rw [if_neg c0, if_neg c1, if_neg c2, if_neg c3, if_neg c4, if_neg c5, if_neg c6]
  have k80 : sw_ok (wr_I M 80 0 0) 80 12 = true := ok_80 hM.1
  have h5' : rd_I (wr_I M 80 0 0) 80 76 = nI m := by simp only [m_II, m_LL, m_RR, m_IL, m_IR, m_LI, m_LR, m_RI, m_RL, m_NI, m_NL, m_NR, m_okI, m_okL, m_okR, m_okaI, m_okaL, m_okaR, m_arI, m_arL, m_arR, gd_T, bn_S, Nat.reduceEqDiff, Nat.left_eq_add, Nat.add_eq_left, Nat.one_ne_zero, and_false, and_true, false_and, true_and, if_false, if_true]; exact h5
  rw [k80, gd_T, h5']
  by_cases q : m < 10
  · rw [if_neg (show ¬ nI m = (10 : Int32) from n10 q), if_pos ⟨⟨Int32.not_lt.mp c0, Int32.not_lt.mp c1, Int32.not_lt.mp c2, Int32.not_lt.mp c3, Int32.not_lt.mp c4, Int32.not_lt.mp c5, Int32.not_lt.mp c6⟩, q⟩]
    unfold f_Model_sight_122
    simp only [ok_80 hM.1, mr_77 hM, mr_78 hM, mr_79 hM, mr_80 hM, mr_81 hM, ar_114 hM.1, ar_115 hM.1, ar_116 hM.1, ar_117 hM.1, ar_118 hM.1, an_114_14, Bool.false_and, Bool.false_or, show sw_bz (0 : Int32) = true from rfl, Bool.and_true, ti_n q (show (10 : Nat) < 2 ^ 31 by decide), cl_n (show m < 2 ^ 31 by omega), m_II, m_LL, m_RR, m_IL, m_IR, m_LI, m_LR, m_RI, m_RL, m_NI, m_NL, m_NR, m_okI, m_okL, m_okR, m_okaI, m_okaL, m_okaR, m_arI, m_arL, m_arR, gd_T, bn_S, Nat.reduceEqDiff, Nat.left_eq_add, Nat.add_eq_left, Nat.one_ne_zero, and_false, and_true, false_and, true_and, if_false, if_true, h5, nI_1, nI_p1s]
    rfl
  · rw [if_pos (show nI m = (10 : Int32) by rw [show m = 10 by omega]; rfl), if_neg (fun h => q h.2)]
theorem i32_3 {a : Int32} : a < 64 ↔ a ≤ 63 := by
  rw [Int32.lt_iff_toInt_lt, Int32.le_iff_toInt_le, show (64 : Int32).toInt = 64 from by decide, show (63 : Int32).toInt = 63 from by decide]
  omega
theorem Model_sight (N : Nat) (M : sw_M) (hM : MR M) (m : Nat) (hm : m ≤ 10) (h5 : rd_I M 80 76 = nI m) (a1 a2 a3 a4 : Int32) : f_Model_sight N 80 a1 a2 a3 a4 M = if sib a1 a2 a3 a4 = true ∧ m < 10 then some (nI m, mnt M m a1 a2 a3 a4) else some (-1, wr_I M 80 0 0) := by
  unfold f_Model_sight f_Model_sight_16 sib
  rw [ok_80 hM.1, gd_T]
  simp only [Model_sight_31 N M hM m hm h5, Bool.and_eq_true, Bool.or_eq_true, decide_eq_true_eq, i32_3]
  by_cases c3 : a1 = 0
  · subst c3
    rw [if_pos rfl, if_pos rfl]
    refine ite_c ?_ _ _
    have n1 : ¬ (0 : Int32) = 1 := by decide
    have n2 : (0 : Int32) ≤ 0 := by decide
    have n3 : (0 : Int32) ≤ 1 := by decide
    constructor
    · rintro ⟨⟨-, -, h1, h2, h3, h4, h5⟩, h6⟩
      exact ⟨⟨⟨⟨h1, h2⟩, h4⟩, Or.inl ⟨⟨rfl, h3⟩, h5⟩⟩, h6⟩
    · rintro ⟨⟨⟨⟨h1, h2⟩, h4⟩, h | h⟩, h6⟩
      · exact ⟨⟨n2, n3, h1, h2, h.1.2, h4, h.2⟩, h6⟩
      · exact absurd h.1.1 n1
  · rw [if_neg c3, if_neg c3]
    refine ite_c ?_ _ _
    constructor
    · rintro ⟨⟨h0, h0', h1, h2, h3, h4, h5⟩, h6⟩
      refine ⟨⟨⟨⟨h1, h2⟩, h4⟩, Or.inr ⟨⟨?_, h3⟩, h5⟩⟩, h6⟩
      have q0 := Int32.le_iff_toInt_le.mp h0
      have q1 := Int32.le_iff_toInt_le.mp h0'
      have q2 : ¬ a1.toInt = 0 := fun h => c3 (Int32.toInt_inj.1 h)
      apply Int32.toInt_inj.1
      have z0 : (0 : Int32).toInt = 0 := by decide
      have z1 : (1 : Int32).toInt = 1 := by decide
      omega
    · rintro ⟨⟨⟨⟨h1, h2⟩, h4⟩, h | h⟩, h6⟩
      · exact absurd h.1.1 c3
      · refine ⟨⟨?_, ?_, h1, h2, h.1.2, h4, h.2⟩, h6⟩
        · rw [h.1.1]; decide
        · rw [h.1.1]; decide
theorem pr_sight (N : Nat) (c : Nat) (M : sw_M) (g : Inv c M) (a1 a2 a3 a4 : Int32) : PR c M (f_House_sight N 1 a1 a2 a3 a4) (f_Model_sight N 80 a1 a2 a3 a4) := by
  obtain ⟨Q, mass, gx, g9, g10⟩ := id g
  obtain ⟨g1, g2, g3, g4, g5, g6, g7, g8, g8'⟩ := id gx
  obtain ⟨hH, hF, hE, hh, hB, hpo, hlo, hhi, hQB⟩ := id g1
  have hM := g2.1
  obtain ⟨b0, b1, b2, b3⟩ := id hB
  cases hs : sib a1 a2 a3 a4
  · refine PR_0 (-1) g ?_ ?_
    · rw [House_sight N M hH Q.B.m b0 b1, hs]; rfl
    · rw [Model_sight N M hM Q.B.m b0 b2, hs]; rfl
  by_cases q : Q.B.m < 10
  · have f1 : Fr (Ant Q.B.m) M (hnt (wr_I M 68 5 0) Q.B.m a1 a2 a3 a4) := by
      unfold hnt
      repeat' (first | exact Fr.refl _ _ | refine Fr.wI ?_ _ _ _ ?_)
      all_goals (unfold Ant; omega)
    have f2 : Fr (Ant Q.B.m) M (mnt (hnt (wr_I M 68 5 0) Q.B.m a1 a2 a3 a4) Q.B.m a1 a2 a3 a4) := by
      unfold mnt
      repeat' (first | exact f1 | refine Fr.wI ?_ _ _ _ ?_)
      all_goals (unfold Ant; omega)
    have hs' := hs
    unfold sib at hs'
    simp only [Bool.and_eq_true, Bool.or_eq_true, decide_eq_true_eq] at hs'
    obtain ⟨⟨⟨s1, s2⟩, s3⟩, s4⟩ := hs'
    have r0 : 0 ≤ a2.toInt := Int32.le_iff_toInt_le.mp s1
    have r1 : a2.toInt < 64 := Int32.lt_iff_toInt_lt.mp s2
    have r2 : a3.toInt ≤ a4.toInt := Int32.le_iff_toInt_le.mp s3
    have r3 : (a1 = 0 ∨ a1 = 1) ∧ b4 a3 ∧ b4 a4 := by
      rcases s4 with ⟨⟨h1, h2⟩, h3⟩ | ⟨⟨h1, h2⟩, h3⟩
      · have h2' : (0 : Int) ≤ a3.toInt := Int32.le_iff_toInt_le.mp h2
        have h3' : a4.toInt ≤ 1000 := Int32.le_iff_toInt_le.mp h3
        unfold b4
        exact ⟨Or.inl h1, by omega, by omega⟩
      · have h2' : (-9999 : Int) ≤ a3.toInt := Int32.le_iff_toInt_le.mp h2
        have h3' : a4.toInt ≤ 9999 := Int32.le_iff_toInt_le.mp h3
        unfold b4
        exact ⟨Or.inr h1, by omega, by omega⟩
    have hc := nI_back a2 r0
    refine ⟨nI Q.B.m, _, _, by rw [House_sight N M hH Q.B.m b0 b1, hs, if_pos rfl, if_pos q], f1.mr hM, by rw [Model_sight N _ (f1.mr hM) Q.B.m b0 (by unfold hnt; simp only [m_II, m_LL, m_RR, m_IL, m_IR, m_LI, m_LR, m_RI, m_RL, m_NI, m_NL, m_NR, m_okI, m_okL, m_okR, m_okaI, m_okaL, m_okaR, m_arI, m_arL, m_arR, gd_T, bn_S, Nat.reduceEqDiff, Nat.left_eq_add, Nat.add_eq_left, Nat.one_ne_zero, and_false, and_true, false_and, true_and, if_false, if_true]; exact b2), hs, if_pos ⟨rfl, q⟩], Inv_note gx g9 q f2 false a1 a2.toInt.toNat a3 a4 (NT_add hB q f2 false a1 a2.toInt.toNat a3 a4 ?_ ?_ (fun h => absurd h (by decide)) (fun _ => ⟨?_, ?_, ?_, r3.1, by omega, ?_, ?_, ?_, ?_, r3.2⟩) ?_ ?_) ?_⟩
    all_goals (unfold mnt hnt; simp only [m_II, m_LL, m_RR, m_IL, m_IR, m_LI, m_LR, m_RI, m_RL, m_NI, m_NL, m_NR, m_okI, m_okL, m_okR, m_okaI, m_okaL, m_okaR, m_arI, m_arL, m_arR, gd_T, bn_S, Nat.reduceEqDiff, Nat.left_eq_add, Nat.add_eq_left, Nat.one_ne_zero, and_false, and_true, false_and, true_and, if_false, if_true])
    · exact hc.symm
    · exact hc.symm
  · refine ⟨-1, wr_I M 68 5 0, wr_I (wr_I M 68 5 0) 80 0 0, by rw [House_sight N M hH Q.B.m b0 b1, hs, if_pos rfl, if_neg q], hM, ?_, Inv_full gx g9⟩
    rw [Model_sight N (wr_I M 68 5 0) hM Q.B.m b0 (by simp only [m_II, m_LL, m_RR, m_IL, m_IR, m_LI, m_LR, m_RI, m_RL, m_NI, m_NL, m_NR, m_okI, m_okL, m_okR, m_okaI, m_okaL, m_okaR, m_arI, m_arL, m_arR, gd_T, bn_S, Nat.reduceEqDiff, Nat.left_eq_add, Nat.add_eq_left, Nat.one_ne_zero, and_false, and_true, false_and, true_and, if_false, if_true]; exact b2), if_neg (fun h => q h.2)]
def mst (M : sw_M) (m : Nat) (c : Int32) : sw_M := wr_I (wr_I (wr_I (wr_I M 80 0 0) 114 m 1) 116 m c) 80 76 (nI (m + 1))
theorem Model_strike (N : Nat) (M : sw_M) (hM : MR M) (m : Nat) (hm : m ≤ 10) (h5 : rd_I M 80 76 = nI m) (a : Int32) : f_Model_strike N 80 a M = if (0 ≤ a.toInt ∧ a.toInt < m) ∧ m < 10 then some (nI m, mst M m a) else some (-1, wr_I M 80 0 0) := by
  unfold f_Model_strike
  have h5' : rd_I (wr_I M 80 0 0) 80 76 = nI m := by simp only [m_II, m_LL, m_RR, m_IL, m_IR, m_LI, m_LR, m_RI, m_RL, m_NI, m_NL, m_NR, m_okI, m_okL, m_okR, m_okaI, m_okaL, m_okaR, m_arI, m_arL, m_arR, gd_T, bn_S, Nat.reduceEqDiff, Nat.left_eq_add, Nat.add_eq_left, Nat.one_ne_zero, and_false, and_true, false_and, true_and, if_false, if_true]; exact h5
  rw [ok_80 hM.1, gd_T, h5']
  have z0 : (0 : Int32).toInt = 0 := by decide
  by_cases c0 : a < 0
  · have := Int32.lt_iff_toInt_lt.mp c0
    rw [if_pos c0, if_neg (by omega)]
  have d0 : 0 ≤ a.toInt := Int32.le_iff_toInt_le.mp (Int32.not_lt.mp c0)
  by_cases c1 : nI m ≤ a
  · have := Int32.le_iff_toInt_le.mp c1
    rw [nI_toInt (by omega)] at this
    rw [if_neg c0, if_pos c1, if_neg (by omega)]
  have d1 := Int32.lt_iff_toInt_lt.mp (Int32.not_le.mp c1)
  rw [nI_toInt (by omega)] at d1
  by_cases q : m < 10
  · rw [if_neg c0, if_neg c1, if_neg (show ¬ nI m = (10 : Int32) from n10 q), if_pos ⟨⟨d0, d1⟩, q⟩]
    simp only [ok_80 hM.1, mr_77 hM, mr_79 hM, ar_114 hM.1, ar_116 hM.1, an_114_14, Bool.false_and, Bool.false_or, show sw_bz (1 : Int32) = true from rfl, Bool.and_true, ti_n q (show (10 : Nat) < 2 ^ 31 by decide), cl_n (show m < 2 ^ 31 by omega), m_II, m_LL, m_RR, m_IL, m_IR, m_LI, m_LR, m_RI, m_RL, m_NI, m_NL, m_NR, m_okI, m_okL, m_okR, m_okaI, m_okaL, m_okaR, m_arI, m_arL, m_arR, gd_T, bn_S, Nat.reduceEqDiff, Nat.left_eq_add, Nat.add_eq_left, Nat.one_ne_zero, and_false, and_true, false_and, true_and, if_false, if_true, h5, nI_1, nI_p1s]
    rfl
  · rw [if_neg c0, if_neg c1, if_pos (show nI m = (10 : Int32) by rw [show m = 10 by omega]; rfl), if_neg (fun h => q h.2)]
theorem House_strike (N : Nat) (M : sw_M) (hH : HR M) (m : Nat) (hm : m ≤ 10) (h5 : rd_I M 36 5 = nI m) (a : Int32) : f_House_strike N 1 a M = if (0 ≤ a.toInt ∧ a.toInt < m) then (if m < 10 then some (nI m, hnt (wr_I M 68 5 0) m 2 a 0 0) else some (-1, wr_I M 68 5 0)) else some (-1, M) := by
  unfold f_House_strike
  have z0 : (0 : Int32).toInt = 0 := by decide
  by_cases c0 : a < 0
  · have := Int32.lt_iff_toInt_lt.mp c0
    rw [if_pos c0, if_neg (by omega)]
  have d0 : 0 ≤ a.toInt := Int32.le_iff_toInt_le.mp (Int32.not_lt.mp c0)
  rw [if_neg c0, ok_1 hH.1, gd_T, hr_f hH 1 7 36 rfl (by decide), ok_36 hH.1, gd_T, h5]
  by_cases c1 : a < nI m
  · have d1 := Int32.lt_iff_toInt_lt.mp c1
    rw [nI_toInt (by omega)] at d1
    have fr : Fr (fun _ _ => True) M (wr_I M 68 5 0) := (Fr.refl _ M).wI _ _ _ trivial
    rw [if_pos c1, if_pos ⟨d0, d1⟩, hr_f hH 1 9 68 rfl (by decide), ok_68 hH.1, gd_T, hr_f (fr.hr hH) 1 7 36 rfl (by decide), fr.ok, ok_36 hH.1, gd_T, Notes_add N _ (fr.hr hH) m hm (by simp only [m_II, m_LL, m_RR, m_IL, m_IR, m_LI, m_LR, m_RI, m_RL, m_NI, m_NL, m_NR, m_okI, m_okL, m_okR, m_okaI, m_okaL, m_okaR, m_arI, m_arL, m_arR, gd_T, bn_S, Nat.reduceEqDiff, Nat.left_eq_add, Nat.add_eq_left, Nat.one_ne_zero, and_false, and_true, false_and, true_and, if_false, if_true]; exact h5)]
    split <;> rfl
  · have d1 := Int32.le_iff_toInt_le.mp (Int32.not_lt.mp c1)
    rw [nI_toInt (by omega)] at d1
    rw [if_neg c1, if_neg (by omega)]
theorem pr_strike (N : Nat) (c : Nat) (M : sw_M) (g : Inv c M) (a : Int32) : PR c M (f_House_strike N 1 a) (f_Model_strike N 80 a) := by
  obtain ⟨Q, mass, gx, g9, g10⟩ := id g
  obtain ⟨g1, g2, g3, g4, g5, g6, g7, g8, g8'⟩ := id gx
  obtain ⟨hH, hF, hE, hh, hB, hpo, hlo, hhi, hQB⟩ := id g1
  have hM := g2.1
  obtain ⟨b0, b1, b2, b3⟩ := id hB
  by_cases hs : 0 ≤ a.toInt ∧ a.toInt < Q.B.m
  · by_cases q : Q.B.m < 10
    · have f1 : Fr (Ant Q.B.m) M (hnt (wr_I M 68 5 0) Q.B.m 2 a 0 0) := by
        unfold hnt
        repeat' (first | exact Fr.refl _ _ | refine Fr.wI ?_ _ _ _ ?_)
        all_goals (unfold Ant; omega)
      have f2 : Fr (Ant Q.B.m) M (mst (hnt (wr_I M 68 5 0) Q.B.m 2 a 0 0) Q.B.m a) := by
        unfold mst
        repeat' (first | exact f1 | refine Fr.wI ?_ _ _ _ ?_)
        all_goals (unfold Ant; omega)
      have hc := nI_back a hs.1
      refine ⟨nI Q.B.m, _, _, by rw [House_strike N M hH Q.B.m b0 b1, if_pos hs, if_pos q], f1.mr hM, by rw [Model_strike N _ (f1.mr hM) Q.B.m b0 (by unfold hnt; simp only [m_II, m_LL, m_RR, m_IL, m_IR, m_LI, m_LR, m_RI, m_RL, m_NI, m_NL, m_NR, m_okI, m_okL, m_okR, m_okaI, m_okaL, m_okaR, m_arI, m_arL, m_arR, gd_T, bn_S, Nat.reduceEqDiff, Nat.left_eq_add, Nat.add_eq_left, Nat.one_ne_zero, and_false, and_true, false_and, true_and, if_false, if_true]; exact b2), if_pos ⟨hs, q⟩], Inv_note gx g9 q f2 true 0 a.toInt.toNat 0 0 (NT_add hB q f2 true 0 a.toInt.toNat 0 0 ?_ ?_ (fun _ => ⟨?_, ?_, by omega⟩) (fun h => absurd h (by decide)) ?_ ?_) ?_⟩
      all_goals (unfold mst hnt; simp only [m_II, m_LL, m_RR, m_IL, m_IR, m_LI, m_LR, m_RI, m_RL, m_NI, m_NL, m_NR, m_okI, m_okL, m_okR, m_okaI, m_okaL, m_okaR, m_arI, m_arL, m_arR, gd_T, bn_S, Nat.reduceEqDiff, Nat.left_eq_add, Nat.add_eq_left, Nat.one_ne_zero, and_false, and_true, false_and, true_and, if_false, if_true])
      · exact hc.symm
      · exact hc.symm
    · refine ⟨-1, wr_I M 68 5 0, wr_I (wr_I M 68 5 0) 80 0 0, by rw [House_strike N M hH Q.B.m b0 b1, if_pos hs, if_neg q], hM, ?_, Inv_full gx g9⟩
      rw [Model_strike N (wr_I M 68 5 0) hM Q.B.m b0 (by simp only [m_II, m_LL, m_RR, m_IL, m_IR, m_LI, m_LR, m_RI, m_RL, m_NI, m_NL, m_NR, m_okI, m_okL, m_okR, m_okaI, m_okaL, m_okaR, m_arI, m_arL, m_arR, gd_T, bn_S, Nat.reduceEqDiff, Nat.left_eq_add, Nat.add_eq_left, Nat.one_ne_zero, and_false, and_true, false_and, true_and, if_false, if_true]; exact b2), if_neg (fun h => q h.2)]
  · refine PR_0 (-1) g ?_ ?_
    · rw [House_strike N M hH Q.B.m b0 b1, if_neg hs]
    · rw [Model_strike N M hM Q.B.m b0 b2, if_neg (fun h => hs h.1)]
