/-! 97m: told, at, share -/
theorem AgaA2 : ∀ a k, Aga a k → A2q a k := fun a k h => by unfold A2q Akx Akt Asp; exact Or.inr (Or.inr (Or.inl (Or.inl (Or.inl (Or.inl h)))))
theorem AspA2 : ∀ a k, Asp a k → A2q a k := fun a k h => by unfold A2q Akx Akt; exact Or.inr (Or.inr (Or.inl (Or.inl (Or.inl h))))
/-- an ORBIT is asked for, of the house -/
theorem preO (N : Nat) (hN : 300 ≤ N) {c : Nat} {M : sw_M} {Q : QT} {mass : Int32} (gx : IX c M Q mass) (g9 : CH M Q.E) (g10 : CM M Q.E Q.B Q.por Q.lo Q.hi) (a : Int32) (v : 0 ≤ a.toInt ∧ a.toInt < Q.E.no) :
    ∃ W o, a = nI o ∧ o < 6 ∧ f_Swarm_known N 33 a M = some (hob o, W) ∧ OQ W (hob o) ∧ HO W Q.E mass o ∧ IX c W Q mass ∧ DD Q.E mass o ≤ 240 ∧ (∀ Z, Fr A2q W Z → Inv (c + 1) Z) ∧ o < Q.E.no := by
  rcases known_s N hN gx g9 a with ⟨n, -⟩ | ⟨-, W, w1, w2, w3, w4⟩
  · exact absurd v n
  have fW : Fr A1q M W := w2.mono (fun a k h => Or.inr h)
  have gW := IX_fr fW CiA1 gx
  have hE := gx.1.2.2.1
  have h6 := hE.1.2.2.2.1
  refine ⟨W, a.toInt.toNat, (nI_back a v.1).symm, by omega, w1, (gW.1.2.2.2.1.2.2.2.2.2 _ (by omega)).2.1, w4 _ (by omega), gW, Nat.le_trans (ways hE.1 (mok_of gx) (by omega)).1 hE.1.2.2.1, fun Z f => Inv_q gx g10 fW w3 f, by omega⟩
theorem preN (N : Nat) (hN : 300 ≤ N) {c : Nat} {M : sw_M} {Q : QT} {mass : Int32} (gx : IX c M Q mass) (g9 : CH M Q.E) (a : Int32) (v : ¬ (0 ≤ a.toInt ∧ a.toInt < Q.E.no)) : f_Swarm_known N 33 a M = some (0, M) ∧ f_Model_isOrbit N 80 a (wr_I M 80 0 0) = some (0, wr_I M 80 0 0) := by
  have hE := gx.1.2.2.1
  have hM := gx.2.1.1
  refine ⟨?_, ?_⟩
  · rcases known_s N hN gx g9 a with ⟨-, n⟩ | ⟨n, -⟩
    · exact n
    · exact absurd n v
  · rw [isOrbit N _ (show MR (wr_I M 80 0 0) from hM) Q.E.no hE.1.2.2.2.1 (by simp only [m_II, m_LL, m_RR, m_IL, m_IR, m_LI, m_LR, m_RI, m_RL, m_NI, m_NL, m_NR, m_okI, m_okL, m_okR, m_okaI, m_okaL, m_okaR, m_arI, m_arL, m_arR, gd_T, bn_S, Nat.reduceEqDiff, Nat.left_eq_add, Nat.add_eq_left, Nat.one_ne_zero, and_false, and_true, false_and, true_and, if_false, if_true]; exact hE.2.2.2.2.2.1), decide_eq_false v]
    rfl
/-- and of the reference -/
theorem preG (N : Nat) (hN : 300 ≤ N) {c : Nat} {M : sw_M} {Q : QT} {mass : Int32} (gx : IX c M Q mass) (o : Nat) (ho : o < Q.E.no) :
    f_Model_isOrbit N 80 (nI o) (wr_I M 80 0 0) = some (1, wr_I M 80 0 0) ∧ rd_I (wr_I M 80 0 0) 80 15 = mass ∧ sw_ok (wr_I M 80 0 0) 80 12 = true ∧ ∃ Z, f_Model_goAll N 80 mass (wr_I M 80 0 0) = some Z ∧ MR Z ∧ Fr A2q M Z ∧ MO Z Q.E mass o := by
  have f0 : Fr A2q M (wr_I M 80 0 0) := (Fr.refl _ M).wI _ _ _ (by unfold A2q; omega)
  have g0 := IX_fr f0 CiA2 gx
  have hmb := mok_of gx
  obtain ⟨g1, g2, g3, g4⟩ := id g0
  obtain ⟨hM, hH, hF, hE, hB, hpo, hsp, hQB⟩ := id g2
  have h6 := hE.1.2.2.2.1
  obtain ⟨W, w1, w2, w3⟩ := Model_goAll N hN Q.E mass hmb (wr_I M 80 0 0) hM hH hF hE
  refine ⟨?_, g3.2.1, ok_80 hM.1, W, w1, w2.mr hM, f0.trans (w2.mono AgaA2), w3 o ho⟩
  rw [isOrbit N _ hM Q.E.no h6 hE.2.2.2.2.2.1, decide_eq_true (by rw [nI_toInt (by omega)]; omega)]
  rfl
theorem pr_told (N : Nat) (hN : 300 ≤ N) (c : Nat) (M : sw_M) (g : Inv c M) (a w : Int32) : PR c M (f_House_told N 1 a w) (f_Model_told N 80 a w) := by
  obtain ⟨Q, mass, gx, g9, g10⟩ := id g
  have hH := gx.1.1
  have hM := gx.2.1.1
  by_cases v : 0 ≤ a.toInt ∧ a.toInt < Q.E.no
  · obtain ⟨W, o, rfl, o6, w1, w2, w3, w4, w5, w6, w7⟩ := preO N hN gx g9 g10 a v
    obtain ⟨z1, z2, z3, Z, z4, z5, z6, z7⟩ := preG N hN w4 o w7
    obtain ⟨⟨s1, s2, s3, s4, s5, s6, s7, s8, s9, s10⟩, h6, -, h17⟩ := w3
    obtain ⟨m1, m2, m3, m4, m5, ⟨m6, m7, m8, m9⟩, m10⟩ := z7
    have hMW := w4.2.1.1
    have eh : ∀ r, f_House_told N 1 (nI o) w M = r ↔ (if w = 0 then some ((nI (DD Q.E mass o)).toInt64, W) else if w = 1 then some (nrF (TT Q.E mass o) (DD Q.E mass o), W) else if w = 2 then some (frF (TT Q.E mass o) (DD Q.E mass o), W) else if w = 3 then some ((tuF (TT Q.E mass o) (DD Q.E mass o)).toInt64, W) else if w = 4 then some ((kd (gnF (TT Q.E mass o) (DD Q.E mass o)) (slF (TT Q.E mass o) (DD Q.E mass o)) (shF (TT Q.E mass o) (DD Q.E mass o))).toInt64, W) else if w = 5 then some (shF (TT Q.E mass o) (DD Q.E mass o) - slF (TT Q.E mass o) (DD Q.E mass o), W) else if w = 6 then some ((nI (rbF (TT Q.E mass o) (DD Q.E mass o))).toInt64, W) else if w = 7 then (if bz (UU Q.E mass o) = 0 then some (0, W) else some (1, W)) else some (-9223372036854775808, W)) = r := fun r => by
      unfold f_House_told f_House_told_121
      rw [ok_1 hH.1, gd_T, hr_f hH 1 6 33 rfl (by decide), ok_33 hH.1, gd_T, w1, bn_S]
      show (if hob o = 0 then _ else _) = r ↔ _
      rw [if_neg (hob_0 o)]
      simp only [w2.ok, gd_T, s1, s2, s3, s4, s6, s7, s8, h6, h17, Orbit_kind N W (hob o) w2.ok, bn_S]
    have em : ∀ r, f_Model_told N 80 (nI o) w W = r ↔ (if w = 0 then some ((nI (DD Q.E mass o)).toInt64, Z) else if w = 1 then some (nrF (TT Q.E mass o) (DD Q.E mass o), Z) else if w = 2 then some (frF (TT Q.E mass o) (DD Q.E mass o), Z) else if w = 3 then some ((tuF (TT Q.E mass o) (DD Q.E mass o)).toInt64, Z) else if w = 4 then some ((kd (gnF (TT Q.E mass o) (DD Q.E mass o)) (slF (TT Q.E mass o) (DD Q.E mass o)) (shF (TT Q.E mass o) (DD Q.E mass o))).toInt64, Z) else if w = 5 then some (shF (TT Q.E mass o) (DD Q.E mass o) - slF (TT Q.E mass o) (DD Q.E mass o), Z) else if w = 6 then some ((nI (rbF (TT Q.E mass o) (DD Q.E mass o))).toInt64, Z) else if w = 7 then (if bz (UU Q.E mass o) = 0 then some (0, Z) else some (1, Z)) else some (-9223372036854775808, Z)) = r := fun r => by
      unfold f_Model_told f_Model_told_117
      rw [ok_80 hMW.1, gd_T, z1, bn_S]
      show (if (1 : Int32) = 0 then _ else sw_gd [sw_ok (wr_I W 80 0 0) 80 12] ((f_Model_goAll N 80 (rd_I (wr_I W 80 0 0) 80 15) (wr_I W 80 0 0)).bind _)) = r ↔ _
      rw [if_neg (by decide), z3, gd_T, z2, z4, bn_S]
      simp only [ok_80 z5.1, mr_60 z5, mr_62 z5, mr_63 z5, mr_64 z5, mr_65 z5, mr_66 z5, mr_67 z5, mr_68 z5, ar_102 z5.1, ar_104 z5.1, ar_105 z5.1, ar_106 z5.1, ar_107 z5.1, ar_108 z5.1, ar_109 z5.1, ar_110 z5.1, an_110_14, Bool.false_or, gd_T, ti_n (show o < 6 by omega) (by decide), cl_n (show o < 2 ^ 31 by omega), m2, m4, m5, m6, m7, m8, m9, m10]
    by_cases c0 : w = 0
    · exact ⟨_, W, Z, (eh _).mpr (if_pos c0), hMW, (em _).mpr (if_pos c0), w6 Z z6⟩
    by_cases c1 : w = 1
    · exact ⟨_, W, Z, (eh _).mpr (by rw [if_neg c0, if_pos c1]), hMW, (em _).mpr (by rw [if_neg c0, if_pos c1]), w6 Z z6⟩
    by_cases c2 : w = 2
    · exact ⟨_, W, Z, (eh _).mpr (by rw [if_neg c0, if_neg c1, if_pos c2]), hMW, (em _).mpr (by rw [if_neg c0, if_neg c1, if_pos c2]), w6 Z z6⟩
    by_cases c3 : w = 3
    · exact ⟨_, W, Z, (eh _).mpr (by rw [if_neg c0, if_neg c1, if_neg c2, if_pos c3]), hMW, (em _).mpr (by rw [if_neg c0, if_neg c1, if_neg c2, if_pos c3]), w6 Z z6⟩
    by_cases c4 : w = 4
    · exact ⟨_, W, Z, (eh _).mpr (by rw [if_neg c0, if_neg c1, if_neg c2, if_neg c3, if_pos c4]), hMW, (em _).mpr (by rw [if_neg c0, if_neg c1, if_neg c2, if_neg c3, if_pos c4]), w6 Z z6⟩
    by_cases c5 : w = 5
    · exact ⟨_, W, Z, (eh _).mpr (by rw [if_neg c0, if_neg c1, if_neg c2, if_neg c3, if_neg c4, if_pos c5]), hMW, (em _).mpr (by rw [if_neg c0, if_neg c1, if_neg c2, if_neg c3, if_neg c4, if_pos c5]), w6 Z z6⟩
    by_cases c6 : w = 6
    · exact ⟨_, W, Z, (eh _).mpr (by rw [if_neg c0, if_neg c1, if_neg c2, if_neg c3, if_neg c4, if_neg c5, if_pos c6]), hMW, (em _).mpr (by rw [if_neg c0, if_neg c1, if_neg c2, if_neg c3, if_neg c4, if_neg c5, if_pos c6]), w6 Z z6⟩
    by_cases c7 : w = 7
    · by_cases d : bz (UU Q.E mass o) = 0
      · exact ⟨_, W, Z, (eh _).mpr (by rw [if_neg c0, if_neg c1, if_neg c2, if_neg c3, if_neg c4, if_neg c5, if_neg c6, if_pos c7, if_pos d]), hMW, (em _).mpr (by rw [if_neg c0, if_neg c1, if_neg c2, if_neg c3, if_neg c4, if_neg c5, if_neg c6, if_pos c7, if_pos d]), w6 Z z6⟩
      · exact ⟨_, W, Z, (eh _).mpr (by rw [if_neg c0, if_neg c1, if_neg c2, if_neg c3, if_neg c4, if_neg c5, if_neg c6, if_pos c7, if_neg d]), hMW, (em _).mpr (by rw [if_neg c0, if_neg c1, if_neg c2, if_neg c3, if_neg c4, if_neg c5, if_neg c6, if_pos c7, if_neg d]), w6 Z z6⟩
    · exact ⟨_, W, Z, (eh _).mpr (by rw [if_neg c0, if_neg c1, if_neg c2, if_neg c3, if_neg c4, if_neg c5, if_neg c6, if_neg c7]), hMW, (em _).mpr (by rw [if_neg c0, if_neg c1, if_neg c2, if_neg c3, if_neg c4, if_neg c5, if_neg c6, if_neg c7]), w6 Z z6⟩
  · obtain ⟨n1, n2⟩ := preN N hN gx g9 a v
    refine PR_0 (-9223372036854775808) g ?_ ?_
    · unfold f_House_told
      rw [ok_1 hH.1, gd_T, hr_f hH 1 6 33 rfl (by decide), ok_33 hH.1, gd_T, n1, bn_S]
      rfl
    · unfold f_Model_told
      rw [ok_80 hM.1, gd_T, n2, bn_S]
      rfl
