/-! 97f: stream is set -/
def Axg (a k : Nat) : Prop := Axf a k ∨ C2 a k
theorem AxgAx : ∀ a k, Axg a k → Ax a k := by intro a k h; unfold Axg Axf C2 at h; unfold Ax; omega
theorem Inv_flow {M W : sw_M} {c : Nat} {Q : QT} {mass : Int32} (h : Fr Axg M W) (g : IX c M Q mass) (h1 : CH M Q.E) (h2 : CM M Q.E Q.B Q.por Q.lo Q.hi) (i1 : IFl W) : Inv (c + 1) W := by
  obtain ⟨g1, g2, g3, g4, g5, g6, g7, g8, g9⟩ := id g
  exact Inv_part (h.mono AxgAx) g h1 h2 (ISt_up (ISt_fr h (fun a k e => by unfold C1 at e; unfold Axg Axf C2; omega) g4)) i1 (ITp_fr h (fun a k e => by unfold C3 at e; unfold Axg Axf C2; omega) g6) (IFa_fr h (fun a k e => by unfold C4 at e; unfold Axg Axf C2; omega) g7)
theorem CfAxg : ∀ a k, Cf a k → ¬ Axg a k := by intro a k h; unfold Cf at h; unfold Axg Axf C2; omega
/-- whether it is taken -/
def linb (x y u v a b e d m L : Int32) : Bool := decide (2 ≤ m) && decide (m ≤ 16) && decide (1 ≤ L) && decide (L ≤ 240) && lin x y u v a b e d m
def hfl (M : sw_M) (x y u v a b e d m L : Int32) : sw_M := wr_I (wr_I (wr_I (wr_I (wr_I (wr_I (wr_I (wr_I (wr_I (wr_I M 78 0 x) 78 1 y) 78 2 u) 78 3 v) 78 4 a) 78 5 b) 78 6 e) 78 7 d) 78 9 m) 78 10 L
def mfl (M : sw_M) (x y u v a b e d m L : Int32) : sw_M := wr_I (wr_I (wr_I (wr_I (wr_I (wr_I (wr_I (wr_I (wr_I (wr_I (wr_I (wr_I M 80 0 0) 80 89 1) 124 0 x) 124 1 y) 124 2 u) 124 3 v) 124 4 a) 124 5 b) 124 6 e) 124 7 d) 124 8 m) 124 9 L
theorem House_stream (N : Nat) (M : sw_M) (hH : HR M) (x y u v a b e d m L : Int32) : f_House_stream N 1 x y u v a b e d m L M = if linb x y u v a b e d m L = true then (f_Stream_cellBits N 78 3 33 (hfl M x y u v a b e d m L)).bind (fun u17 => (f_Lng_bitCount N u17.1 u17.2).bind (fun u18 => some (u18.1, u18.2))) else some (-1, M) := by
  unfold f_House_stream linb lin f_House_stream_127
  by_cases c0 : m < 2
  · rw [if_pos c0, decide_eq_false (Int32.not_le.mpr c0)]; rfl
  rw [if_neg c0, decide_eq_true (Int32.not_lt.mp c0)]
  by_cases c1 : 16 < m
  · rw [if_pos c1, decide_eq_false (Int32.not_le.mpr c1)]; rfl
  rw [if_neg c1, decide_eq_true (Int32.not_lt.mp c1)]
  by_cases c2 : L < 1
  · rw [if_pos c2, decide_eq_false (Int32.not_le.mpr c2)]; rfl
  rw [if_neg c2, decide_eq_true (Int32.not_lt.mp c2)]
  by_cases c3 : L ≤ 240
  · rw [if_pos c3, decide_eq_true c3]
    simp only [canStart, House_within, bn_S, bz_0, Bool.true_and]
    cases cs x y u v
    · rfl
    cases wi a 999
    · rfl
    cases wi b 999
    · rfl
    cases wi e 999
    · rfl
    cases wi d 999
    · rfl
    cases cs (x + (m - 1) * a) (y + (m - 1) * b) (u + (m - 1) * e) (v + (m - 1) * d)
    · rfl
    unfold f_Stream_begin f_Stream_apart
    simp only [ok_1 hH.1, ok_78 hH.1, hr_f hH 1 10 78 rfl (by decide), hr_f hH 1 2 3 rfl (by decide), hr_f hH 1 6 33 rfl (by decide), m_II, m_LL, m_RR, m_IL, m_IR, m_LI, m_LR, m_RI, m_RL, m_NI, m_NL, m_NR, m_okI, m_okL, m_okR, m_okaI, m_okaL, m_okaR, m_arI, m_arL, m_arR, gd_T, bn_S, Nat.reduceEqDiff, Nat.left_eq_add, Nat.add_eq_left, Nat.one_ne_zero, and_false, and_true, false_and, true_and, if_false, if_true, Bool.true_eq_false, Bool.and_self]
    rfl
  · rw [if_neg c3, decide_eq_false c3]; rfl
theorem Model_stream (N : Nat) (M : sw_M) (hM : MR M) (x y u v a b e d m L : Int32) : f_Model_stream N 80 x y u v a b e d m L M = if linb x y u v a b e d m L = true then (f_Model_trailOf N 80 (rd_I M 80 15) (mfl M x y u v a b e d m L)).bind (fun u11 => (f_Model_unlike N u11.1 (0 : Int64) u11.2).bind (fun u12 => some (u12.1, u12.2))) else some (-1, wr_I M 80 0 0) := by
  unfold f_Model_stream linb lin cs
  rw [ok_80 hM.1, gd_T]
  by_cases c0 : m < 2
  · rw [if_pos c0, decide_eq_false (Int32.not_le.mpr c0)]; rfl
  rw [if_neg c0, decide_eq_true (Int32.not_lt.mp c0)]
  by_cases c1 : 16 < m
  · rw [if_pos c1, decide_eq_false (Int32.not_le.mpr c1)]; rfl
  rw [if_neg c1, decide_eq_true (Int32.not_lt.mp c1)]
  by_cases c2 : L < 1
  · rw [if_pos c2, decide_eq_false (Int32.not_le.mpr c2)]; rfl
  rw [if_neg c2, decide_eq_true (Int32.not_lt.mp c2)]
  by_cases c3 : 240 < L
  · rw [if_pos c3, decide_eq_false (Int32.not_le.mpr c3)]; rfl
  rw [if_neg c3, decide_eq_true (Int32.not_lt.mp c3)]
  have i0 : (0 : Int32).toNatClampNeg = 0 := by decide
  have i1 : (1 : Int32).toNatClampNeg = 1 := by decide
  have i2 : (2 : Int32).toNatClampNeg = 2 := by decide
  have i3 : (3 : Int32).toNatClampNeg = 3 := by decide
  have i4 : (4 : Int32).toNatClampNeg = 4 := by decide
  have i5 : (5 : Int32).toNatClampNeg = 5 := by decide
  have i6 : (6 : Int32).toNatClampNeg = 6 := by decide
  have i7 : (7 : Int32).toNatClampNeg = 7 := by decide
  have i8 : (8 : Int32).toNatClampNeg = 8 := by decide
  have i9 : (9 : Int32).toNatClampNeg = 9 := by decide
  have t0 : sw_ti (0 : Int32) 10 = true := by decide
  have t1 : sw_ti (1 : Int32) 10 = true := by decide
  have t2 : sw_ti (2 : Int32) 10 = true := by decide
  have t3 : sw_ti (3 : Int32) 10 = true := by decide
  have t4 : sw_ti (4 : Int32) 10 = true := by decide
  have t5 : sw_ti (5 : Int32) 10 = true := by decide
  have t6 : sw_ti (6 : Int32) 10 = true := by decide
  have t7 : sw_ti (7 : Int32) 10 = true := by decide
  have t8 : sw_ti (8 : Int32) 10 = true := by decide
  have t9 : sw_ti (9 : Int32) 10 = true := by decide
  simp only [isLine, bn_S, bz_0, Bool.true_and]
  by_cases q1 : (wi x 9999 && wi a 999 && wi (x + (m - 1) * a) 9999) = true
  · by_cases q2 : (wi y 9999 && wi b 999 && wi (y + (m - 1) * b) 9999) = true
    · by_cases q3 : (wi u 999 && wi e 999 && wi (u + (m - 1) * e) 999) = true
      · by_cases q4 : (wi v 999 && wi d 999 && wi (v + (m - 1) * d) 999) = true
        · rw [if_neg (by rw [q1]; decide), if_neg (by rw [q2]; decide), if_neg (by rw [q3]; decide), if_neg (by rw [q4]; decide)]
          simp only [Bool.and_eq_true] at q1 q2 q3 q4
          rw [q1.1.1, q1.1.2, q1.2, q2.1.1, q2.1.2, q2.2, q3.1.1, q3.1.2, q3.2, q4.1.1, q4.1.2, q4.2]
          unfold f_Model_stream_103
          simp only [ok_80 hM.1, mr_90 hM, ar_124 hM.1, m_II, m_LL, m_RR, m_IL, m_IR, m_LI, m_LR, m_RI, m_RL, m_NI, m_NL, m_NR, m_okI, m_okL, m_okR, m_okaI, m_okaL, m_okaR, m_arI, m_arL, m_arR, gd_T, bn_S, Nat.reduceEqDiff, Nat.left_eq_add, Nat.add_eq_left, Nat.one_ne_zero, and_false, and_true, false_and, true_and, if_false, if_true, i0, i1, i2, i3, i4, i5, i6, i7, i8, i9, t0, t1, t2, t3, t4, t5, t6, t7, t8, t9, Bool.and_self]
          rfl
        · rw [if_neg (by rw [q1]; decide), if_neg (by rw [q2]; decide), if_neg (by rw [q3]; decide), if_pos (Bool.eq_false_iff.mpr q4), if_neg]
          intro h
          simp only [Bool.and_eq_true] at h q4
          exact q4 ⟨⟨h.1.1.2, h.1.2.2⟩, h.2.2⟩
      · rw [if_neg (by rw [q1]; decide), if_neg (by rw [q2]; decide), if_pos (Bool.eq_false_iff.mpr q3), if_neg]
        intro h
        simp only [Bool.and_eq_true] at h q3
        exact q3 ⟨⟨h.1.1.1.2, h.1.2.1.2⟩, h.2.1.2⟩
    · rw [if_neg (by rw [q1]; decide), if_pos (Bool.eq_false_iff.mpr q2), if_neg]
      intro h
      simp only [Bool.and_eq_true] at h q2
      exact q2 ⟨⟨h.1.1.1.1.2, h.1.2.1.1.2⟩, h.2.1.1.2⟩
  · rw [if_pos (Bool.eq_false_iff.mpr q1), if_neg]
    intro h
    simp only [Bool.and_eq_true] at h q1
    exact q1 ⟨⟨h.1.1.1.1.1, h.1.2.1.1.1⟩, h.2.1.1.1⟩
theorem pr_stream (N : Nat) (hN : 300 ≤ N) (c : Nat) (M : sw_M) (g : Inv c M) (x y u v a b e d m L : Int32) : PR c M (f_House_stream N 1 x y u v a b e d m L) (f_Model_stream N 80 x y u v a b e d m L) := by
  obtain ⟨Q, mass, gx, g9, g10⟩ := id g
  obtain ⟨g1, g2, g3, g4, g5, g6, g7, g8, g8'⟩ := id gx
  obtain ⟨hH, hF, hE, hh, hB, hpo, hlo, hhi, hQB⟩ := id g1
  have hM := g2.1
  have hmb := mok_of gx
  have hg := hE.1.2.2.2.2.2
  cases hl : linb x y u v a b e d m L
  · refine PR_0 (-1) g ?_ ?_
    · rw [House_stream N M hH, hl]; rfl
    · rw [Model_stream N M hM, hl]; rfl
  · have hl' := hl
    unfold linb at hl'
    simp only [Bool.and_eq_true, decide_eq_true_eq] at hl'
    obtain ⟨⟨⟨⟨l1, l2⟩, l3⟩, l4⟩, l5⟩ := hl'
    have d1 : 2 ≤ m.toInt := Int32.le_iff_toInt_le.mp l1
    have d2 : m.toInt ≤ 16 := Int32.le_iff_toInt_le.mp l2
    have d3 : 1 ≤ L.toInt := Int32.le_iff_toInt_le.mp l3
    have d4 : L.toInt ≤ 240 := Int32.le_iff_toInt_le.mp l4
    have hm := nI_back m (by omega)
    have hL := nI_back L (by omega)
    rw [← hm] at l5
    have hG := lin_SG l5 (show 2 ≤ m.toInt.toNat ∧ m.toInt.toNat ≤ 16 by omega) (show L.toInt.toNat ≤ 240 by omega)
    obtain ⟨F, hFd⟩ : ∃ F : SQ, (((x, y, u, v), (a, b, e, d), m.toInt.toNat, L.toInt.toNat) : SQ) = F := ⟨_, rfl⟩
    rw [hFd] at hG
    have f1 : Fr Axg M (hfl M x y u v a b e d m L) := by
      unfold hfl
      repeat' (first | exact Fr.refl _ _ | refine Fr.wI ?_ _ _ _ ?_)
      all_goals (unfold Axg C2; omega)
    have hs : HF (hfl M x y u v a b e d m L) F := by
      unfold HF hfl
      rw [← hFd]
      simp only [m_II, m_LL, m_RR, m_IL, m_IR, m_LI, m_LR, m_RI, m_RL, m_NI, m_NL, m_NR, m_okI, m_okL, m_okR, m_okaI, m_okaL, m_okaR, m_arI, m_arL, m_arR, gd_T, bn_S, Nat.reduceEqDiff, Nat.left_eq_add, Nat.add_eq_left, Nat.one_ne_zero, and_false, and_true, false_and, true_and, if_false, if_true]
      exact ⟨hm.symm, hL.symm⟩
    obtain ⟨W, w1, w2⟩ := Stream_cellBits N hN _ (f1.hr hH) Q.E.n (FR_fr f1 CfAxg hH hF) mass Q.E.g Q.E.r ((f1.I 3 5 (by unfold Axg Axf C2; omega)).trans g3.1) hmb hg ((f1.I 33 5 (by unfold Axg Axf C2; omega)).trans hh.2.1) ((f1.I 33 6 (by unfold Axg Axf C2; omega)).trans hh.2.2.1) F hG hs
    have f2 : Fr Axg M W := f1.trans (w2.mono (fun a k q => Or.inl (AsAxf a k q)))
    have f3 : Fr Axg M (mfl W x y u v a b e d m L) := by
      unfold mfl
      repeat' (first | exact f2 | refine Fr.wI ?_ _ _ _ ?_)
      all_goals (unfold Axg Axf C2; omega)
    have hs2 : MFw (mfl W x y u v a b e d m L) F := by
      unfold MFw mfl
      rw [← hFd]
      simp only [m_II, m_LL, m_RR, m_IL, m_IR, m_LI, m_LR, m_RI, m_RL, m_NI, m_NL, m_NR, m_okI, m_okL, m_okR, m_okaI, m_okaL, m_okaR, m_arI, m_arL, m_arR, gd_T, bn_S, Nat.reduceEqDiff, Nat.left_eq_add, Nat.add_eq_left, Nat.one_ne_zero, and_false, and_true, false_and, true_and, if_false, if_true]
      exact ⟨hm.symm, hL.symm⟩
    obtain ⟨Z, z1, z2⟩ := Model_trailOf N hN _ (f3.mr hM) (f3.hr hH) Q.E.n (FR_fr f3 CfAxg hH hF) mass Q.E.g Q.E.r hmb hg ((f3.I 80 71 (by unfold Axg Axf C2; omega)).trans hE.2.2.2.2.2.2.2.1) ((f3.I 80 72 (by unfold Axg Axf C2; omega)).trans hE.2.2.2.2.2.2.2.2) F hG hs2
    rw [mpart_fr f3 CfAxg] at z1
    rw [mpart_fr f1 CfAxg] at w1
    refine ⟨nI (pcK (v6 (tb (mpart M) Q.E.n mass Q.E.g Q.E.r F F.m)) 64), W, Z, ?_, f2.mr hM, ?_, Inv_flow (f3.trans (z2.mono (fun a k q => Or.inl (AwAxf a k q)))) gx g9 g10 (Or.inr ⟨?_, F, ?_, hG, ?_, MFw_fr z2 (fun k => by unfold Aw; omega) hs2⟩)⟩
    · rw [House_stream N M hH, hl, if_pos rfl, w1, bn_S]
      show (f_Lng_bitCount N _ W).bind _ = _
      rw [Lng_bitCount, bn_S]
    · rw [Model_stream N W (f2.mr hM), hl, if_pos rfl, f2.I 80 15 (by unfold Axg Axf C2; omega), g3.2.1, z1, bn_S]
      show (f_Model_unlike N _ 0 Z).bind _ = _
      rw [Model_unlike N hN, bn_S, Int64.xor_zero]
    · rw [z2.I 80 89 (by unfold Aw; omega)]
      unfold mfl
      simp only [m_II, m_LL, m_RR, m_IL, m_IR, m_LI, m_LR, m_RI, m_RL, m_NI, m_NL, m_NR, m_okI, m_okL, m_okR, m_okaI, m_okaL, m_okaR, m_arI, m_arL, m_arR, gd_T, bn_S, Nat.reduceEqDiff, Nat.left_eq_add, Nat.add_eq_left, Nat.one_ne_zero, and_false, and_true, false_and, true_and, if_false, if_true]
    · rw [← hFd]
      show 2 ≤ m.toInt.toNat
      omega
    · refine HF_fr z2 (fun k => by unfold Aw; omega) ?_
      have q : Fr (fun a k => a = 80 ∨ a = 124) W (mfl W x y u v a b e d m L) := by
        unfold mfl
        repeat' (first | exact Fr.refl _ _ | refine Fr.wI ?_ _ _ _ ?_)
        all_goals (first | exact Or.inl rfl | exact Or.inr rfl)
      exact HF_fr q (fun k => by omega) (HF_fr w2 (fun k => by unfold As; omega) hs)
