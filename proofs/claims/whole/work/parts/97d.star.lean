/-! 97d: star, go -/
def cs (a b c d : Int32) : Bool := wi a 9999 && wi b 9999 && wi c 999 && wi d 999
theorem canStart (N : Nat) (a b c d : Int32) (M : sw_M) : f_House_canStart N a b c d M = some (bz (cs a b c d), M) := by
  unfold f_House_canStart cs
  simp only [House_within, bn_S, bz_0]
  cases wi a 9999 <;> cases wi b 9999 <;> cases wi c 999 <;> cases wi d 999 <;> simp [bz]
theorem cs_SB {a b c d : Int32} (h : cs a b c d = true) : SB a b c d := by
  unfold cs at h
  simp only [Bool.and_eq_true] at h
  obtain ⟨⟨⟨h1, h2⟩, h3⟩, h4⟩ := h
  exact ⟨wi_b h1 (by decide) (by decide) (by decide), wi_b h2 (by decide) (by decide) (by decide), wi_b h3 (by decide) (by decide) (by decide), wi_b h4 (by decide) (by decide) (by decide)⟩
/-- star -/
def Axs (a k : Nat) : Prop := (a = 3 ∧ (k = 6 ∨ k = 7)) ∨ (a = 32 ∧ k ≤ 5) ∨ (a = 1 ∧ k = 5) ∨ (a = 80 ∧ (k = 0 ∨ (37 ≤ k ∧ k ≤ 49)))
theorem AxsAx : ∀ a k, Axs a k → Ax a k := by intro a k h; unfold Axs at h; unfold Ax; omega
theorem Inv_star {M W : sw_M} {c : Nat} {Q : QT} {mass : Int32} (h : Fr Axs M W) (g : IX c M Q mass) (h1 : CH M Q.E) (h2 : CM M Q.E Q.B Q.por Q.lo Q.hi) (i1 : ISt (c + 1) W) : Inv (c + 1) W := by
  obtain ⟨g1, g2, g3, g4, g5, g6, g7, g8, g9⟩ := id g
  exact Inv_part (h.mono AxsAx) g h1 h2 i1 (IFl_fr h (fun a k e => by unfold C2 at e; unfold Axs; omega) g5) (ITp_fr h (fun a k e => by unfold C3 at e; unfold Axs; omega) g6) (IFa_fr h (fun a k e => by unfold C4 at e; unfold Axs; omega) g7)
theorem pr_star (N : Nat) (c : Nat) (M : sw_M) (g : Inv c M) (x y u v t : Int32) : PR c M (f_House_star N 1 x y u v t) (f_Model_star N 80 x y u v t) := by
  obtain ⟨Q, mass, gx, g9, g10⟩ := id g
  obtain ⟨g1, g2, g3, g4, g5, g6, g7, g8, g8'⟩ := id gx
  have hH := g1.1
  have hM := g2.1
  have eh : f_House_star N 1 x y u v t M = if cs x y u v = true then (if t < 0 then some (0, M) else if t ≤ 240 then some (1, wr_I (wr_I (wr_I (wr_L (wr_L (wr_L (wr_L M 32 0 x.toInt64) 32 1 y.toInt64) 32 2 u.toInt64) 32 3 v.toInt64) 32 4 t) 32 5 0) 1 5 1) else some (0, M)) else some (0, M) := by
    unfold f_House_star f_Star_put
    rw [canStart, bn_S]
    simp only [bz_0]
    cases cs x y u v
    · simp
    · simp only [ok_1 hH.1, ok_32 hH.1, hr_f hH 1 4 32 rfl (by decide), m_II, m_LL, m_RR, m_IL, m_IR, m_LI, m_LR, m_RI, m_RL, m_NI, m_NL, m_NR, m_okI, m_okL, m_okR, m_okaI, m_okaL, m_okaR, m_arI, m_arL, m_arR, gd_T, bn_S, Nat.reduceEqDiff, Nat.left_eq_add, Nat.add_eq_left, Nat.one_ne_zero, and_false, and_true, false_and, true_and, if_false, if_true, Bool.true_eq_false]
  have em : ∀ W, MR W → f_Model_star N 80 x y u v t W = if cs x y u v = true then (if t < 0 then some (0, wr_I W 80 0 0) else if t ≤ 240 then some (1, wr_I (wr_I (wr_L (wr_L (wr_L (wr_L (wr_I (wr_I W 80 0 0) 80 43 1) 80 44 x.toInt64) 80 45 y.toInt64) 80 46 u.toInt64) 80 47 v.toInt64) 80 48 t) 80 49 0) else some (0, wr_I W 80 0 0)) else some (0, wr_I W 80 0 0) := fun W hW => by
    unfold f_Model_star f_Model_star_91
    unfold cs
    simp only [Model_isWithin, bz_0, m_II, m_LL, m_RR, m_IL, m_IR, m_LI, m_LR, m_RI, m_RL, m_NI, m_NL, m_NR, m_okI, m_okL, m_okR, m_okaI, m_okaL, m_okaR, m_arI, m_arL, m_arR, gd_T, bn_S, Nat.reduceEqDiff, Nat.left_eq_add, Nat.add_eq_left, Nat.one_ne_zero, and_false, and_true, false_and, true_and, if_false, if_true, ok_80 hW.1]
    cases wi x 9999 <;> cases wi y 9999 <;> cases wi u 999 <;> cases wi v 999 <;> simp
  cases hc : cs x y u v
  · exact PR_0 0 g (by rw [eh, hc]; rfl) (by rw [em M hM, hc]; rfl)
  by_cases c0 : t < 0
  · exact PR_0 0 g (by rw [eh, hc, if_pos rfl, if_pos c0]) (by rw [em M hM, hc, if_pos rfl, if_pos c0])
  by_cases c1 : t ≤ 240
  · obtain ⟨b1, b2, b3, b4⟩ := cs_SB hc
    have d0 : 0 ≤ t.toInt := Int32.le_iff_toInt_le.mp (Int32.not_lt.mp c0)
    have d1 : t.toInt ≤ 240 := Int32.le_iff_toInt_le.mp c1
    have f1 : Fr Axs M (wr_I (wr_I (wr_I (wr_L (wr_L (wr_L (wr_L M 32 0 x.toInt64) 32 1 y.toInt64) 32 2 u.toInt64) 32 3 v.toInt64) 32 4 t) 32 5 0) 1 5 1) := by
      repeat' (first | exact Fr.refl _ _ | refine Fr.wI ?_ _ _ _ ?_ | refine Fr.wL ?_ _ _ _ ?_)
      all_goals (unfold Axs; omega)
    refine ⟨1, _, _, by rw [eh, hc, if_pos rfl, if_neg c0, if_pos c1], f1.mr hM, by rw [em _ (f1.mr hM), hc, if_pos rfl, if_neg c0, if_pos c1], Inv_star (M := M) ?_ gx g9 g10 ⟨?_, Or.inr ⟨?_, (x.toInt64, y.toInt64, u.toInt64, v.toInt64, t, 0), ?_, ?_, ?_⟩⟩⟩
    · repeat' (first | exact f1 | refine Fr.wI ?_ _ _ _ ?_ | refine Fr.wL ?_ _ _ _ ?_)
      all_goals (unfold Axs; omega)
    · simp only [m_II, m_LL, m_RR, m_IL, m_IR, m_LI, m_LR, m_RI, m_RL, m_NI, m_NL, m_NR, m_okI, m_okL, m_okR, m_okaI, m_okaL, m_okaR, m_arI, m_arL, m_arR, gd_T, bn_S, Nat.reduceEqDiff, Nat.left_eq_add, Nat.add_eq_left, Nat.one_ne_zero, and_false, and_true, false_and, true_and, if_false, if_true]
    · simp only [m_II, m_LL, m_RR, m_IL, m_IR, m_LI, m_LR, m_RI, m_RL, m_NI, m_NL, m_NR, m_okI, m_okL, m_okR, m_okaI, m_okaL, m_okaR, m_arI, m_arL, m_arR, gd_T, bn_S, Nat.reduceEqDiff, Nat.left_eq_add, Nat.add_eq_left, Nat.one_ne_zero, and_false, and_true, false_and, true_and, if_false, if_true]
    · unfold StS St
      simp only [m_II, m_LL, m_RR, m_IL, m_IR, m_LI, m_LR, m_RI, m_RL, m_NI, m_NL, m_NR, m_okI, m_okL, m_okR, m_okaI, m_okaL, m_okaR, m_arI, m_arL, m_arR, gd_T, bn_S, Nat.reduceEqDiff, Nat.left_eq_add, Nat.add_eq_left, Nat.one_ne_zero, and_false, and_true, false_and, true_and, if_false, if_true]
      exact ⟨rfl, rfl, rfl, rfl, rfl, rfl⟩
    · unfold MSt
      simp only [m_II, m_LL, m_RR, m_IL, m_IR, m_LI, m_LR, m_RI, m_RL, m_NI, m_NL, m_NR, m_okI, m_okL, m_okR, m_okaI, m_okaL, m_okaR, m_arI, m_arL, m_arR, gd_T, bn_S, Nat.reduceEqDiff, Nat.left_eq_add, Nat.add_eq_left, Nat.one_ne_zero, and_false, and_true, false_and, true_and, if_false, if_true]
      exact ⟨rfl, rfl, rfl, rfl, rfl, rfl⟩
    · refine ⟨?_, ?_, ⟨d0, d1⟩, fun _ => ⟨?_, ?_⟩, fun h => absurd h (by show ¬ (0 : Int32) = 1; decide), fun h => absurd h (by show ¬ (0 : Int32) = -1; decide), Or.inl rfl⟩
      · show nB _ u.toInt64
        unfold nB; rw [t64]; omega
      · show nB _ v.toInt64
        unfold nB; rw [t64]; omega
      · show nB _ x.toInt64
        unfold nB; rw [t64]; omega
      · show nB _ y.toInt64
        unfold nB; rw [t64]; omega
  · exact PR_0 0 g (by rw [eh, hc, if_pos rfl, if_neg c0, if_neg c1]) (by rw [em M hM, hc, if_pos rfl, if_neg c0, if_neg c1])
theorem AsAxs : ∀ a k, As 32 a k → Axs a k := by intro a k h; unfold As at h; unfold Axs; omega
theorem AhAxs : ∀ a k, Ah a k → Axs a k := by intro a k h; unfold Ah at h; unfold Axs; omega
theorem pr_go (N : Nat) (hN : 300 ≤ N) (c : Nat) (hc : c < 512) (M : sw_M) (g : Inv c M) (a : Int32) : PR c M (f_House_go N 1 a) (f_Model_go N 80 a) := by
  obtain ⟨Q, mass, gx, g9, g10⟩ := id g
  obtain ⟨g1, g2, g3, g4, g5, g6, g7, g8, g8'⟩ := id gx
  obtain ⟨hH, hF, hE, hh, hB, hpo, hlo, hhi, hQB⟩ := id g1
  have hM := g2.1
  obtain ⟨m1, m2, m3, m4⟩ := g3
  obtain ⟨-, ⟨q1, q2, q3⟩, -⟩ := hQB
  have hmb : 0 ≤ mass.toInt ∧ mass.toInt ≤ 99999 := ⟨by omega, by omega⟩
  obtain ⟨s0', hs⟩ := g4
  rcases hs with e | ⟨e, s, s1, s2, s3⟩
  · have : ∃ r, f_House_go N 1 a M = some (r, M) ∧ f_Model_go N 80 a M = some (r, wr_I M 80 0 0) := by
      unfold f_House_go f_Model_go
      simp only [ok_1 hH.1, ok_80 hH.1, m_II, m_LL, m_RR, m_IL, m_IR, m_LI, m_LR, m_RI, m_RL, m_NI, m_NL, m_NR, m_okI, m_okL, m_okR, m_okaI, m_okaL, m_okaR, m_arI, m_arL, m_arR, gd_T, bn_S, Nat.reduceEqDiff, Nat.left_eq_add, Nat.add_eq_left, Nat.one_ne_zero, and_false, and_true, false_and, true_and, if_false, if_true, e, ← s0']
      exact ⟨_, rfl, rfl⟩
    obtain ⟨r, r1, r2⟩ := this
    exact PR_0 r g r1 r2
  · obtain ⟨W, w1, w2, w3⟩ := House_go N hN M hH Q.E.n hF mass m1 hmb a s e s1 (41000 + 1599984 * (c : Int)) (by omega) (by omega) s3
    have fW : Fr Axs M W := w2.mono AsAxs
    have sW : MSt W s := by
      obtain ⟨b1, b2, b3, b4, b5, b6⟩ := s2
      exact ⟨(w2.L 80 44 (by unfold As; omega)).trans b1, (w2.L 80 45 (by unfold As; omega)).trans b2, (w2.L 80 46 (by unfold As; omega)).trans b3, (w2.L 80 47 (by unfold As; omega)).trans b4, (w2.I 80 48 (by unfold As; omega)).trans b5, (w2.I 80 49 (by unfold As; omega)).trans b6⟩
    obtain ⟨Z, z1, z2, z3⟩ := Model_go N hN W (w2.mr hM) (w2.hr hH) Q.E.n (FR_fr w2 CfAs hH hF) mass ((w2.I 80 15 (by unfold As; omega)).trans m2) hmb a s ((w2.I 80 43 (by unfold As; omega)).trans (s0'.symm.trans e)) sW (41000 + 1599984 * (c : Int)) (by omega) (by omega) s3
    rw [mpart_fr w2 CfAs] at z1 z3
    refine ⟨_, W, Z, w1, w2.mr hM, z1, Inv_star (fW.trans (z2.mono AhAxs)) gx g9 g10 ⟨?_, Or.inr ⟨?_, _, ?_, z3, ?_⟩⟩⟩
    · rw [z2.I 1 5 (by unfold Ah; omega), w2.I 1 5 (by unfold As; omega), z2.I 80 43 (by unfold Ah; omega), w2.I 80 43 (by unfold As; omega)]
      exact s0'
    · rw [z2.I 1 5 (by unfold Ah; omega), w2.I 1 5 (by unfold As; omega)]
      exact e
    · obtain ⟨a0, a1, a2, a3, a4, a5⟩ := w3
      exact ⟨(z2.L 32 0 (by unfold Ah; omega)).trans a0, (z2.L 32 1 (by unfold Ah; omega)).trans a1, (z2.L 32 2 (by unfold Ah; omega)).trans a2, (z2.L 32 3 (by unfold Ah; omega)).trans a3, (z2.I 32 4 (by unfold Ah; omega)).trans a4, (z2.I 32 5 (by unfold Ah; omega)).trans a5⟩
    · have := goR_SI hF.1 (fun p hp => (hF.2.2.2 p hp).1) hmb (U := 41000 + 1599984 * (c : Int)) (by omega) (by omega) a s s3
      exact SI_mono this (by omega)
