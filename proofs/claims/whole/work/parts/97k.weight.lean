/-! 97k: weight, range -/
theorem known_s (N : Nat) (hN : 300 ≤ N) {c : Nat} {M : sw_M} {Q : QT} {mass : Int32} (gx : IX c M Q mass) (g9 : CH M Q.E) (a : Int32) :
    (¬ (0 ≤ a.toInt ∧ a.toInt < Q.E.no) ∧ f_Swarm_known N 33 a M = some (0, M)) ∨ ((0 ≤ a.toInt ∧ a.toInt < Q.E.no) ∧ ∃ W, f_Swarm_known N 33 a M = some (hob a.toInt.toNat, W) ∧ Fr Arf M W ∧ CH W Q.E ∧ ∀ p, p < Q.E.no → HO W Q.E mass p) := by
  obtain ⟨g1, g2, g3, g4, g5, g6, g7, g8, g8'⟩ := id gx
  obtain ⟨hH, hF, hE, hh, hB, hpo, hlo, hhi, hQB⟩ := id g1
  have z0 : (0 : Int32).toInt = 0 := by decide
  have h6 := hE.1.2.2.2.1
  unfold f_Swarm_known
  by_cases c0 : a < 0
  · have := Int32.lt_iff_toInt_lt.mp c0
    exact Or.inl ⟨by omega, if_pos c0⟩
  have d0 : 0 ≤ a.toInt := Int32.le_iff_toInt_le.mp (Int32.not_lt.mp c0)
  rw [if_neg c0, ok_33 hH.1, gd_T, hh.2.2.2.1]
  by_cases c1 : a < nI Q.E.no
  · have d1 := Int32.lt_iff_toInt_lt.mp c1
    rw [nI_toInt (by omega)] at d1
    obtain ⟨W, w1, w2, w3, w4⟩ := prepR N hN gx g9
    refine Or.inr ⟨⟨d0, d1⟩, W, ?_, w2, w3, w4⟩
    rw [if_pos c1, w1, bn_S, w2.ok, ok_33 hH.1, gd_T]
    have hq := Swarm_latest N W (w2.hr hH) a.toInt.toNat (by omega) (by rw [w2.R]; exact (hh.2.2.2.2.2 _ (by omega)).1)
    rw [nI_back a d0] at hq
    rw [hq, bn_S]
  · have d1 := Int32.le_iff_toInt_le.mp (Int32.not_lt.mp c1)
    rw [nI_toInt (by omega)] at d1
    exact Or.inl ⟨by omega, if_neg c1⟩
theorem isOrbit (N : Nat) (M : sw_M) (hM : MR M) (m : Nat) (hm : m ≤ 6) (h : rd_I M 80 50 = nI m) (a : Int32) : f_Model_isOrbit N 80 a M = some (bz (decide (0 ≤ a.toInt ∧ a.toInt < m)), M) := by
  unfold f_Model_isOrbit
  have z0 : (0 : Int32).toInt = 0 := by decide
  by_cases c0 : a < 0
  · have := Int32.lt_iff_toInt_lt.mp c0
    rw [if_pos c0, decide_eq_false (by omega)]; rfl
  have d0 : 0 ≤ a.toInt := Int32.le_iff_toInt_le.mp (Int32.not_lt.mp c0)
  rw [if_neg c0, ok_80 hM.1, gd_T, h]
  by_cases c1 : nI m ≤ a
  · have := Int32.le_iff_toInt_le.mp c1
    rw [nI_toInt (by omega)] at this
    rw [if_pos c1, decide_eq_false (by omega)]; rfl
  · have := Int32.lt_iff_toInt_lt.mp (Int32.not_le.mp c1)
    rw [nI_toInt (by omega)] at this
    rw [if_neg c1, decide_eq_true (by omega)]; rfl
theorem hob_0 (p : Nat) : ¬ hob p = 0 := by unfold hob; omega
/-- past the last -/
theorem itW_none (N : Nat) (hN : 200000 ≤ N) (F : FE) (hp : F.por.toInt ≤ 10) (h0 : 0 < nu F) : ∀ (k : Nat) (M : sw_M) (W : Nat → Int32), MFE M F → MSs M F W → muW F W < k → itW F k (some W) = none
  | 0, M, W, hF, hW, h => by omega
  | k + 1, M, W, hF, hW, h => by
    rw [itW]
    rcases Model_nx N hN F hp h0 M hF W hW with ⟨e1, Z, e2, e3⟩ | ⟨V, Z, e1, e2, e3, e4, e5⟩
    · rw [e1]
      cases k <;> rfl
    · rw [e1]
      exact itW_none N hN F hp h0 k Z V (MFE_fr e3 hF) e4 (by omega)
theorem w47_0 (N : Nat) (hN : 300 ≤ N) (a o : Int32) (M : sw_M) : f_House_weight_47 N N 1 a o 0 0 M = some (-1, M) := by
  obtain ⟨j, hj⟩ : ∃ k, N = k + 1 := ⟨N - 1, by omega⟩
  rw [show f_House_weight_47 N N = f_House_weight_47 N (j + 1) by rw [← hj], f_House_weight_47]
  unfold f_House_weight_73
  split <;> rfl
theorem w50_0 (N : Nat) (hN : 300 ≤ N) (a o : Int32) (M : sw_M) : f_Model_weight_50 N N 80 a o 0 0 M = some (-1, M) := by
  obtain ⟨j, hj⟩ : ∃ k, N = k + 1 := ⟨N - 1, by omega⟩
  rw [show f_Model_weight_50 N N = f_Model_weight_50 N (j + 1) by rw [← hj], f_Model_weight_50]
  unfold f_Model_weight_74
  split <;> rfl
/-- the WEIGHT that is asked for -/
noncomputable def wAns (F : FE) (k o : Nat) : Int32 := match FF F with
  | none => -1
  | some W => match itW F k (some W) with
    | some V => V o
    | none => -1
theorem Model_weight_a (N : Nat) (hN : 200000 ≤ N) {c : Nat} {M : sw_M} {Q : QT} {mass : Int32} (gx : IX c M Q mass) (a k o : Int32) (q : 0 ≤ a.toInt ∧ a.toInt ≤ Q.B.m) (hk : 0 ≤ k.toInt) (ho : 0 ≤ o.toInt ∧ o.toInt < Q.E.no) :
    ∃ Z, f_Model_weight N 80 a k o M = some (wAns (FQ Q mass a.toInt.toNat) k.toInt.toNat o.toInt.toNat, Z) ∧ Fr A2q M Z ∧ (161051 < k.toInt → wAns (FQ Q mass a.toInt.toNat) k.toInt.toNat o.toInt.toNat = -1) := by
  have hMV := gx.2.1.1
  have ha := nI_back a q.1
  have hbk := nI_back k hk
  have hbo := nI_back o ho.1
  have hkb := in32 k
  obtain ⟨hB0, hB1, hB2, hB3⟩ := gx.2.1.2.2.2.2.1
  have hE := gx.2.1.2.2.2.1
  have hQB := gx.2.1.2.2.2.2.2.2.2
  have hp : 0 ≤ (FQ Q mass a.toInt.toNat).por.toInt ∧ (FQ Q mass a.toInt.toNat).por.toInt ≤ 10 := by
    have := hQB.2.2.2.1
    show 0 ≤ Q.por.toInt ∧ Q.por.toInt ≤ 10
    omega
  obtain ⟨S, Z, s1, s2, s3, s4, s5⟩ := prepM N (by omega) gx a.toInt.toNat (by omega)
  rw [ha] at s2
  have i15 : rd_I (wr_I M 80 0 0) 80 15 = mass := by simp only [m_II, m_LL, m_RR, m_IL, m_IR, m_LI, m_LR, m_RI, m_RL, m_NI, m_NL, m_NR, m_okI, m_okL, m_okR, m_okaI, m_okaL, m_okaR, m_arI, m_arL, m_arR, gd_T, bn_S, Nat.reduceEqDiff, Nat.left_eq_add, Nat.add_eq_left, Nat.one_ne_zero, and_false, and_true, false_and, true_and, if_false, if_true]; exact gx.2.2.1.2.1
  have e : f_Model_weight N 80 a k o M = (f_Model_toFit N 80 1 Z).bind (fun u10 => f_Model_weight_50 N N 80 k o u10.1 (0 : Int32) u10.2) := by
    unfold f_Model_weight
    rw [ok_80 hMV.1, gd_T, isKnown N _ (show MR (wr_I M 80 0 0) from hMV) Q.B.m hB0 (by simp only [m_II, m_LL, m_RR, m_IL, m_IR, m_LI, m_LR, m_RI, m_RL, m_NI, m_NL, m_NR, m_okI, m_okL, m_okR, m_okaI, m_okaL, m_okaR, m_arI, m_arL, m_arR, gd_T, bn_S, Nat.reduceEqDiff, Nat.left_eq_add, Nat.add_eq_left, Nat.one_ne_zero, and_false, and_true, false_and, true_and, if_false, if_true]; exact hB2), bn_S]
    show (if bz (decide (0 ≤ a.toInt ∧ a.toInt ≤ Q.B.m)) = 0 then _ else if k < 0 then _ else sw_gd [sw_ok (wr_I M 80 0 0) 80 12] ((f_Model_isOrbit N 80 o (wr_I M 80 0 0)).bind _)) = _
    rw [decide_eq_true q, if_neg (show ¬ bz true = 0 by decide), if_neg (show ¬ k < 0 from i32_nlt (by rw [show (0 : Int32).toInt = 0 from by decide]; exact hk)), show sw_ok (wr_I M 80 0 0) 80 12 = true from ok_80 hMV.1, gd_T, isOrbit N _ (show MR (wr_I M 80 0 0) from hMV) Q.E.no hE.1.2.2.2.1 (by simp only [m_II, m_LL, m_RR, m_IL, m_IR, m_LI, m_LR, m_RI, m_RL, m_NI, m_NL, m_NR, m_okI, m_okL, m_okR, m_okaI, m_okaL, m_okaR, m_arI, m_arL, m_arR, gd_T, bn_S, Nat.reduceEqDiff, Nat.left_eq_add, Nat.add_eq_left, Nat.one_ne_zero, and_false, and_true, false_and, true_and, if_false, if_true]; exact hE.2.2.2.2.2.1), bn_S, decide_eq_true ho]
    show (if bz true = 0 then _ else sw_gd [sw_ok (wr_I M 80 0 0) 80 12] ((f_Model_spread N 80 (rd_I (wr_I M 80 0 0) 80 15) (wr_I M 80 0 0)).bind _)) = _
    rw [if_neg (show ¬ bz true = 0 by decide), show sw_ok (wr_I M 80 0 0) 80 12 = true from ok_80 hMV.1, gd_T, i15, s1, bn_S, ok_80 s3.1, gd_T, s2, bn_S, ok_80 s5.1.1, gd_T]
  rw [e]
  rcases Model_ff N hN (FQ Q mass a.toInt.toNat) hp Z s5 with ⟨m1, X, x1, x2⟩ | ⟨V, X, m0, m1, x1, x2, x3⟩
  · have hw : wAns (FQ Q mass a.toInt.toNat) k.toInt.toNat o.toInt.toNat = -1 := by unfold wAns; rw [m1]
    refine ⟨X, ?_, s4.trans (x2.mono AwtA2), fun _ => hw⟩
    rw [x1, bn_S, hw]
    exact w50_0 N (by omega) k o X
  · have hmu := (mu_b hp.2 hE.1.2.2.2.1 x3.2).2
    obtain ⟨U, u1, u2⟩ := Model_weight_50 N hN (FQ Q mass a.toInt.toNat) hp.2 m0 o.toInt.toNat (by show o.toInt.toNat < Q.E.no; omega) 161053 k.toInt.toNat 0 N X V (MFE_fr x2 s5) x3 (by omega) (by omega) (by omega)
    rw [Nat.zero_add, hbk, hbo] at u1
    have hw : wAns (FQ Q mass a.toInt.toNat) k.toInt.toNat o.toInt.toNat = (match itW (FQ Q mass a.toInt.toNat) k.toInt.toNat (some V) with
      | some V => V o.toInt.toNat
      | none => -1) := by unfold wAns; rw [m1]
    refine ⟨U, ?_, (s4.trans (x2.mono AwtA2)).trans (u2.mono AwtA2), fun h => ?_⟩
    · rw [x1, bn_S, hw]
      exact u1
    · rw [hw, itW_none N hN _ hp.2 m0 k.toInt.toNat X V (MFE_fr x2 s5) x3 (by omega)]
theorem House_weight_a (N : Nat) (hN : 200000 ≤ N) {c : Nat} {M : sw_M} {Q : QT} {mass : Int32} (gx : IX c M Q mass) (g9 : CH M Q.E) (a k o : Int32) (q : 0 ≤ a.toInt ∧ a.toInt ≤ Q.B.m) (hk : 0 ≤ k.toInt ∧ k.toInt < 1000000) (ho : 0 ≤ o.toInt ∧ o.toInt < Q.E.no) :
    ∃ W Z, f_House_weight N 1 a k o M = some (wAns (FQ Q mass a.toInt.toNat) k.toInt.toNat o.toInt.toNat, Z) ∧ Fr A1q M W ∧ CH W Q.E ∧ Fr A2q W Z := by
  obtain ⟨g1, g2, g3, g4, g5, g6, g7, g8, g8'⟩ := id gx
  obtain ⟨hH, hF, hE, hh, hB, hpo, hlo, hhi, hQB⟩ := id g1
  have ha := nI_back a q.1
  have hbk := nI_back k hk.1
  have hbo := nI_back o ho.1
  have hp : 0 ≤ (FQ Q mass a.toInt.toNat).por.toInt ∧ (FQ Q mass a.toInt.toNat).por.toInt ≤ 10 := by
    have := hQB.2.2.2.1
    show 0 ≤ Q.por.toInt ∧ Q.por.toInt ≤ 10
    omega
  obtain ⟨K, k1, k2, k3⟩ := Notes_know N (by omega) M hH Q.B hB a.toInt.toNat (by omega)
  rw [ha] at k1
  have fK : Fr A1q M K := k2.mono (fun a k h => Or.inl h)
  have gK := IX_fr fK CiA1 gx
  have hHK := fK.hr hH
  rcases known_s N (by omega) gK (CH_fr k2 (fun a k e => by omega) g9) o with ⟨n, -⟩ | ⟨-, W, w1, w2, w3, w4⟩
  · exact absurd ho n
  have fW : Fr A1q M W := fK.trans (w2.mono (fun a k h => Or.inr h))
  have hHW := fW.hr hH
  have hFE : HFE W (FQ Q mass a.toInt.toNat) := hfe_of (IX_fr fW CiA1 gx) a.toInt.toNat (by omega) w4 (fun t ht => by rw [w2.I 41 t (by unfold Arf Arh; omega)]; exact k3 t ht)
  have e : f_House_weight N 1 a k o M = (f_Fits_first N 42 W).bind (fun u9 => f_House_weight_47 N N 1 k o u9.1 (0 : Int32) u9.2) := by
    unfold f_House_weight
    rw [ok_1 hH.1, gd_T, hr_f hH 1 7 36 rfl (by decide), ok_36 hH.1, gd_T, k1, bn_S]
    show (if (1 : Int32) = 0 then _ else if k < 0 then _ else if 1000000 ≤ k then _ else sw_gd [sw_ok K 1 11] (sw_gd [sw_ok K (rd_R K 1 6) 10] ((f_Swarm_known N (rd_R K 1 6) o K).bind _))) = _
    rw [if_neg (by decide), if_neg (show ¬ k < 0 from i32_nlt (by rw [show (0 : Int32).toInt = 0 from by decide]; exact hk.1)), if_neg (i32_nle (by rw [show (1000000 : Int32).toInt = 1000000 from by decide]; omega)), ok_1 hHK.1, gd_T, hr_f hHK 1 6 33 rfl (by decide), ok_33 hHK.1, gd_T, w1, bn_S]
    show (if hob o.toInt.toNat = 0 then _ else sw_gd [sw_ok W 1 11] (sw_gd [sw_ok W (rd_R W 1 8) 1] ((f_Fits_first N (rd_R W 1 8) W).bind _))) = _
    rw [if_neg (hob_0 _), ok_1 hHW.1, gd_T, hr_f hHW 1 8 42 rfl (by decide), ok_42 hHW.1, gd_T]
  rw [e]
  rcases House_ff N hN (FQ Q mass a.toInt.toNat) hp W hFE with ⟨n1, Y, y1, y2⟩ | ⟨V, Y, n0, n1, y1, y2, y3⟩
  · refine ⟨W, Y, ?_, fW, w3, y2.mono AwhA2⟩
    have hw : wAns (FQ Q mass a.toInt.toNat) k.toInt.toNat o.toInt.toNat = -1 := by unfold wAns; rw [n1]
    rw [y1, bn_S, hw]
    exact w47_0 N (by omega) k o Y
  · have hmu := (mu_b hp.2 hE.1.2.2.2.1 y3.2).2
    obtain ⟨U, u1, u2⟩ := House_weight_47 N hN (FQ Q mass a.toInt.toNat) hp.2 n0 o.toInt.toNat (by show o.toInt.toNat < Q.E.no; omega) 161053 k.toInt.toNat 0 N Y V (HFE_fr y2 hFE) y3 (by omega) (by omega) (by omega)
    rw [Nat.zero_add, hbk, hbo] at u1
    have hw : wAns (FQ Q mass a.toInt.toNat) k.toInt.toNat o.toInt.toNat = (match itW (FQ Q mass a.toInt.toNat) k.toInt.toNat (some V) with
      | some V => V o.toInt.toNat
      | none => -1) := by unfold wAns; rw [n1]
    refine ⟨W, U, ?_, fW, w3, (y2.mono AwhA2).trans (u2.mono AwhA2)⟩
    rw [y1, bn_S, hw]
    exact u1
theorem pr_weight (N : Nat) (hN : 200000 ≤ N) (c : Nat) (M : sw_M) (g : Inv c M) (a k o : Int32) : PR c M (f_House_weight N 1 a k o) (f_Model_weight N 80 a k o) := by
  obtain ⟨Q, mass, gx, g9, g10⟩ := id g
  obtain ⟨g1, g2, g3, g4, g5, g6, g7, g8, g8'⟩ := id gx
  obtain ⟨hH, hF, hE, hh, hB, hpo, hlo, hhi, hQB⟩ := id g1
  have hM := g2.1
  obtain ⟨b0, b1, b2, b3⟩ := id hB
  have z0 : (0 : Int32).toInt = 0 := by decide
  have zm : (1000000 : Int32).toInt = 1000000 := by decide
  by_cases q : 0 ≤ a.toInt ∧ a.toInt ≤ Q.B.m
  · have ha := nI_back a q.1
    by_cases hk : 0 ≤ k.toInt
    · by_cases ho : 0 ≤ o.toInt ∧ o.toInt < Q.E.no
      · by_cases hk2 : k.toInt < 1000000
        · obtain ⟨W, Y, y1, y2, y3, y4⟩ := House_weight_a N hN gx g9 a k o q ⟨hk, hk2⟩ ho
          have gY := IX_fr y4 CiA2 (IX_fr y2 CiA1 gx)
          obtain ⟨Z, z1, z2, z3⟩ := Model_weight_a N hN gY a k o q hk ho
          exact ⟨_, Y, Z, y1, gY.2.1.1, z1, Inv_q gx g10 y2 y3 (y4.trans z2)⟩
        · obtain ⟨K, k1, k2, k3⟩ := Notes_know N (by omega) M hH Q.B hB a.toInt.toNat (by omega)
          rw [ha] at k1
          have fK : Fr A1q M K := k2.mono (fun a k h => Or.inl h)
          have gK := IX_fr fK CiA1 gx
          obtain ⟨Z, z1, z2, z3⟩ := Model_weight_a N hN gK a k o q hk ho
          rw [z3 (by omega)] at z1
          refine ⟨-1, K, Z, ?_, gK.2.1.1, z1, Inv_q gx g10 fK (CH_fr k2 (fun a k e => by omega) g9) z2⟩
          unfold f_House_weight
          rw [ok_1 hH.1, gd_T, hr_f hH 1 7 36 rfl (by decide), ok_36 hH.1, gd_T, k1, bn_S]
          show (if (1 : Int32) = 0 then _ else if k < 0 then _ else if 1000000 ≤ k then some ((-1 : Int32), K) else _) = _
          rw [if_neg (by decide), if_neg (i32_nlt (by omega)), if_pos (i32_le (by omega))]
      · obtain ⟨K, k1, k2, k3⟩ := Notes_know N (by omega) M hH Q.B hB a.toInt.toNat (by omega)
        rw [ha] at k1
        have fK : Fr A1q M K := k2.mono (fun a k h => Or.inl h)
        have gK := IX_fr fK CiA1 gx
        have hHK := fK.hr hH
        have cK := CH_fr k2 (fun a k e => by omega) g9
        have hMK := gK.2.1.1
        refine ⟨-1, K, wr_I K 80 0 0, ?_, hMK, ?_, Inv_q gx g10 fK cK ((Fr.refl _ K).wI _ _ _ (by unfold A2q; omega))⟩
        · unfold f_House_weight
          rw [ok_1 hH.1, gd_T, hr_f hH 1 7 36 rfl (by decide), ok_36 hH.1, gd_T, k1, bn_S]
          show (if (1 : Int32) = 0 then _ else if k < 0 then _ else if 1000000 ≤ k then some ((-1 : Int32), K) else sw_gd [sw_ok K 1 11] (sw_gd [sw_ok K (rd_R K 1 6) 10] ((f_Swarm_known N (rd_R K 1 6) o K).bind _))) = _
          rw [if_neg (by decide), if_neg (i32_nlt (by omega))]
          by_cases hk2 : (1000000 : Int32) ≤ k
          · rw [if_pos hk2]
          · rw [if_neg hk2, ok_1 hHK.1, gd_T, hr_f hHK 1 6 33 rfl (by decide), ok_33 hHK.1, gd_T]
            rcases known_s N (by omega) gK cK o with ⟨-, n⟩ | ⟨n, -⟩
            · rw [n, bn_S]; rfl
            · exact absurd n ho
        · unfold f_Model_weight
          rw [ok_80 hMK.1, gd_T, isKnown N _ (show MR (wr_I K 80 0 0) from hMK) Q.B.m b0 (by simp only [m_II, m_LL, m_RR, m_IL, m_IR, m_LI, m_LR, m_RI, m_RL, m_NI, m_NL, m_NR, m_okI, m_okL, m_okR, m_okaI, m_okaL, m_okaR, m_arI, m_arL, m_arR, gd_T, bn_S, Nat.reduceEqDiff, Nat.left_eq_add, Nat.add_eq_left, Nat.one_ne_zero, and_false, and_true, false_and, true_and, if_false, if_true]; exact gK.2.1.2.2.2.2.1.2.2.1), bn_S]
          show (if bz (decide (0 ≤ a.toInt ∧ a.toInt ≤ Q.B.m)) = 0 then _ else if k < 0 then _ else sw_gd [sw_ok (wr_I K 80 0 0) 80 12] ((f_Model_isOrbit N 80 o (wr_I K 80 0 0)).bind _)) = _
          rw [decide_eq_true q, if_neg (show ¬ bz true = 0 by decide), if_neg (i32_nlt (by omega)), show sw_ok (wr_I K 80 0 0) 80 12 = true from ok_80 hMK.1, gd_T, isOrbit N _ (show MR (wr_I K 80 0 0) from hMK) Q.E.no hE.1.2.2.2.1 (by simp only [m_II, m_LL, m_RR, m_IL, m_IR, m_LI, m_LR, m_RI, m_RL, m_NI, m_NL, m_NR, m_okI, m_okL, m_okR, m_okaI, m_okaL, m_okaR, m_arI, m_arL, m_arR, gd_T, bn_S, Nat.reduceEqDiff, Nat.left_eq_add, Nat.add_eq_left, Nat.one_ne_zero, and_false, and_true, false_and, true_and, if_false, if_true]; exact gK.2.1.2.2.2.1.2.2.2.2.2.1), bn_S, decide_eq_false ho]
          rfl
    · obtain ⟨K, k1, k2, k3⟩ := Notes_know N (by omega) M hH Q.B hB a.toInt.toNat (by omega)
      rw [ha] at k1
      have fK : Fr A1q M K := k2.mono (fun a k h => Or.inl h)
      have gK := IX_fr fK CiA1 gx
      have cK := CH_fr k2 (fun a k e => by omega) g9
      have hMK := gK.2.1.1
      refine ⟨-1, K, wr_I K 80 0 0, ?_, hMK, ?_, Inv_q gx g10 fK cK ((Fr.refl _ K).wI _ _ _ (by unfold A2q; omega))⟩
      · unfold f_House_weight
        rw [ok_1 hH.1, gd_T, hr_f hH 1 7 36 rfl (by decide), ok_36 hH.1, gd_T, k1, bn_S]
        show (if (1 : Int32) = 0 then _ else if k < 0 then some ((-1 : Int32), K) else _) = _
        rw [if_neg (by decide), if_pos (i32_lt (by omega))]
      · unfold f_Model_weight
        rw [ok_80 hMK.1, gd_T, isKnown N _ (show MR (wr_I K 80 0 0) from hMK) Q.B.m b0 (by simp only [m_II, m_LL, m_RR, m_IL, m_IR, m_LI, m_LR, m_RI, m_RL, m_NI, m_NL, m_NR, m_okI, m_okL, m_okR, m_okaI, m_okaL, m_okaR, m_arI, m_arL, m_arR, gd_T, bn_S, Nat.reduceEqDiff, Nat.left_eq_add, Nat.add_eq_left, Nat.one_ne_zero, and_false, and_true, false_and, true_and, if_false, if_true]; exact gK.2.1.2.2.2.2.1.2.2.1), bn_S]
        show (if bz (decide (0 ≤ a.toInt ∧ a.toInt ≤ Q.B.m)) = 0 then _ else if k < 0 then some ((-1 : Int32), wr_I K 80 0 0) else _) = _
        rw [decide_eq_true q, if_neg (show ¬ bz true = 0 by decide), if_pos (i32_lt (by omega))]
  · refine PR_0 (-1) g ?_ ?_
    · unfold f_House_weight
      rw [ok_1 hH.1, gd_T, hr_f hH 1 7 36 rfl (by decide), ok_36 hH.1, gd_T, Notes_know_no N M hH Q.B hB a (by omega), bn_S]
      rfl
    · unfold f_Model_weight
      rw [ok_80 hM.1, gd_T, isKnown N _ (show MR (wr_I M 80 0 0) from hM) Q.B.m b0 (by simp only [m_II, m_LL, m_RR, m_IL, m_IR, m_LI, m_LR, m_RI, m_RL, m_NI, m_NL, m_NR, m_okI, m_okL, m_okR, m_okaI, m_okaL, m_okaR, m_arI, m_arL, m_arR, gd_T, bn_S, Nat.reduceEqDiff, Nat.left_eq_add, Nat.add_eq_left, Nat.one_ne_zero, and_false, and_true, false_and, true_and, if_false, if_true]; exact b2), bn_S, decide_eq_false q]
      rfl
