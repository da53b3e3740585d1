/-! 97v: orbit -/
theorem EK_plus {E : EN} (g : EK E) (hn : E.no < 6) {x y u v : Int32} (hs : SB x y u v) : EK (E.plus (s0 x y u v)) := by
  obtain ⟨g1, g2, g3, g4, g5, g6⟩ := g
  refine ⟨g1, g2, g3, hn, fun p hp => ?_, g6⟩
  show ∃ x' y' u' v', SB x' y' u' v' ∧ (if p = E.no then s0 x y u v else E.st p) = s0 x' y' u' v'
  have hp' : p < E.no + 1 := hp
  by_cases q : p = E.no
  · exact ⟨x, y, u, v, hs, if_pos q⟩
  · obtain ⟨a, b, c, d, k1, k2⟩ := g5 p (by omega)
    exact ⟨a, b, c, d, k1, by rw [if_neg q]; exact k2⟩
/-- the reference's side of orbit -/
theorem Model_orbit (N : Nat) (W : sw_M) (hM : MR W) (x y u v : Int32) (hc : cs x y u v = true) (m : Nat) (hm : m ≤ 6) (h50 : rd_I W 80 50 = nI m) : f_Model_orbit N 80 x y u v W = if m = 6 then some (-1, wr_I W 80 0 0) else some (nI m, wr_I (wr_I (wr_I (wr_I (wr_I (wr_I W 80 0 0) 94 m x) 95 m y) 96 m u) 97 m v) 80 50 (nI (m + 1))) := by
  unfold f_Model_orbit f_Model_orbit_98
  unfold cs at hc
  simp only [Bool.and_eq_true] at hc
  obtain ⟨⟨⟨c1, c2⟩, c3⟩, c4⟩ := hc
  simp only [Model_isWithin, c1, c2, c3, c4, bz_0, m_II, m_LL, m_RR, m_IL, m_IR, m_LI, m_LR, m_RI, m_RL, m_NI, m_NL, m_NR, m_okI, m_okL, m_okR, m_okaI, m_okaL, m_okaR, m_arI, m_arL, m_arR, gd_T, bn_S, Nat.reduceEqDiff, Nat.left_eq_add, Nat.add_eq_left, Nat.one_ne_zero, and_false, and_true, false_and, true_and, if_false, if_true, ok_80 hM.1, Bool.true_eq_false, h50]
  by_cases q : m = 6
  · subst q
    rw [if_pos rfl]
    rfl
  · have hm' : m < 6 := by omega
    have h6 : ¬ nI m = (6 : Int32) := fun h => q ((nI_eq (by omega) (by decide)).1 (h : nI m = nI 6))
    rw [if_neg h6, if_neg q]
    simp only [mr_52 hM, mr_53 hM, mr_54 hM, mr_55 hM, ar_94 hM.1, ar_95 hM.1, ar_96 hM.1, ar_97 hM.1, m_II, m_LL, m_RR, m_IL, m_IR, m_LI, m_LR, m_RI, m_RL, m_NI, m_NL, m_NR, m_okI, m_okL, m_okR, m_okaI, m_okaL, m_okaR, m_arI, m_arL, m_arR, gd_T, bn_S, Nat.reduceEqDiff, Nat.left_eq_add, Nat.add_eq_left, Nat.one_ne_zero, and_false, and_true, false_and, true_and, if_false, if_true, ti_n hm' (show (6 : Nat) < 2 ^ 31 by decide), cl_n (show m < 2 ^ 31 by omega), h50, nI_1, nI_pred]
theorem pr_orbit (N : Nat) (c : Nat) (M : sw_M) (g : Inv c M) (x y u v : Int32) : PR c M (f_House_orbit N 1 x y u v) (f_Model_orbit N 80 x y u v) := by
  obtain ⟨Q, mass, gx, g9, g10⟩ := id g
  obtain ⟨g1, g2, g3, g4, g5, g6, g7, g8, g8'⟩ := id gx
  obtain ⟨hH, hF, hE, hh, hB, hpo, hlo, hhi, hQB⟩ := id g1
  obtain ⟨hM, _, _, _, _, mpo, mspm, _⟩ := id g2
  obtain ⟨e1, e2, e3, e4, e5, e6, e7, e8, e9⟩ := id hE
  obtain ⟨i1, i2, i3, i4, i5, i6⟩ := id hh
  have hno := e1.2.2.2.1
  cases hc : cs x y u v
  · refine PR_0 (-1) g ?_ ?_
    · unfold f_House_orbit
      rw [canStart, bn_S, hc]
      rfl
    · unfold f_Model_orbit
      unfold cs at hc
      simp only [Model_isWithin, bz_0, m_II, m_LL, m_RR, m_IL, m_IR, m_LI, m_LR, m_RI, m_RL, m_NI, m_NL, m_NR, m_okI, m_okL, m_okR, m_okaI, m_okaL, m_okaR, m_arI, m_arL, m_arR, gd_T, bn_S, Nat.reduceEqDiff, Nat.left_eq_add, Nat.add_eq_left, Nat.one_ne_zero, and_false, and_true, false_and, true_and, if_false, if_true, ok_80 hM.1]
      revert hc
      cases wi x 9999 <;> cases wi y 9999 <;> cases wi u 999 <;> cases wi v 999 <;> simp
  · by_cases q : Q.E.no = 6
    · refine PR_0 (-1) g ?_ ?_
      · unfold f_House_orbit f_Swarm_add
        rw [canStart, bn_S, hc]
        simp only [ok_1 hH.1, ok_33 hH.1, hr_f hH 1 6 33 rfl (by decide), hr_f hH 33 1 34 rfl (by decide), m_II, m_LL, m_RR, m_IL, m_IR, m_LI, m_LR, m_RI, m_RL, m_NI, m_NL, m_NR, m_okI, m_okL, m_okR, m_okaI, m_okaL, m_okaR, m_arI, m_arL, m_arR, gd_T, bn_S, Nat.reduceEqDiff, Nat.left_eq_add, Nat.add_eq_left, Nat.one_ne_zero, and_false, and_true, false_and, true_and, if_false, if_true, oa_34 hH.1, i4, q]
        rfl
      · rw [Model_orbit N M hM x y u v hc 6 (by omega) (by rw [e6, q]), if_pos rfl]
    · have hm : Q.E.no < 6 := by omega
      obtain ⟨W, w1, w2, w3, w4, w5, w6, w7, w8, w9, w10⟩ := Swarm_add N M hH Q.E.no hm g8' i4 x y u v
      have hSB := cs_SB hc
      have hq : hob Q.E.no = 125 + 9 * Q.E.no := rfl
      have hN := hH.1
      let m := Q.E.no
      let V := wr_I (wr_I W 33 7 0) 68 5 0
      let Z := wr_I (wr_I (wr_I (wr_I (wr_I (wr_I V 80 0 0) 94 m x) 95 m y) 96 m u) 97 m v) 80 50 (nI (m + 1))
      have gV : Gw (Aoh m) m M V := ((w2.mono (B := Aoh m) (fun a k h => by unfold A33 at h; unfold Aoh; omega)).wI _ _ _ (Or.inl (by unfold Aoh; omega))).wI _ _ _ (Or.inl (by unfold Aoh; omega))
      have gZ : Gw (Aoh m) m M Z := (((((gV.wI _ _ _ (Or.inl (by unfold Aoh; omega))).wI _ _ _ (Or.inl (by unfold Aoh; omega))).wI _ _ _ (Or.inl (by unfold Aoh; omega))).wI _ _ _ (Or.inl (by unfold Aoh; omega))).wI _ _ _ (Or.inl (by unfold Aoh; omega))).wI _ _ _ (Or.inl (by unfold Aoh; omega))
      have hMV := gV.mr hM
      have hHZ := gZ.hr hH
      have hMZ := gZ.mr hM
      have z50 : rd_I V 80 50 = nI m := by
        show rd_I (wr_I (wr_I W 33 7 0) 68 5 0) 80 50 = nI m
        simp only [m_II, m_LL, m_RR, m_IL, m_IR, m_LI, m_LR, m_RI, m_RL, m_NI, m_NL, m_NR, m_okI, m_okL, m_okR, m_okaI, m_okaL, m_okaR, m_arI, m_arL, m_arR, gd_T, bn_S, Nat.reduceEqDiff, Nat.left_eq_add, Nat.add_eq_left, Nat.one_ne_zero, and_false, and_true, false_and, true_and, if_false, if_true]
        exact (w2.I 80 50 (by omega) (by unfold A33; omega)).trans e6
      let Q' : QT := (Q.E.plus (s0 x y u v), Q.B, Q.por, Q.lo, Q.hi, Q.pa)
      have eI : ∀ a k, a ≤ 124 → ¬ Aoh m a k → rd_I Z a k = rd_I M a k := fun a k h1 h2 => gZ.I a k (by omega) h2
      have kC : ∀ a k, Cf a k → ¬ Aoh m a k := fun a k h => by unfold Cf at h; unfold Aoh; omega
      have ek : EK Q'.E := EK_plus e1 hm hSB
      have kY : ∀ a k, Cy a k → ¬ Aoh m a k := fun a k h => by unfold Cy at h; unfold Aoh; omega
      have mp : mpart Z = mpart M := gZ.mp hN kY
      have r31 : rd_R Z 3 1 = rd_R M 3 1 := gZ.R 3 1 (by omega) (by omega)
      have rr := rr_c hH
      have ob : ∀ p, p < m → ∀ k, rd_I Z (hob p) k = rd_I M (hob p) k := fun p hp k => gZ.I _ _ (by unfold hob; omega) (by unfold Aoh hob; omega)
      have on : ∀ k, rd_I Z (hob m) k = rd_I W (hob m) k := fun k => by
        have h1 : hob m = 125 + 9 * m := rfl
        show rd_I (wr_I (wr_I (wr_I (wr_I (wr_I (wr_I (wr_I (wr_I W 33 7 0) 68 5 0) 80 0 0) 94 m x) 95 m y) 96 m u) 97 m v) 80 50 (nI (m + 1))) (hob m) k = _
        rw [m_II, if_neg (by omega), m_II, if_neg (by omega), m_II, if_neg (by omega), m_II, if_neg (by omega), m_II, if_neg (by omega), m_II, if_neg (by omega), m_II, if_neg (by omega), m_II, if_neg (by omega)]
      have fR : FR Z Q'.E.n := gZ.fr kC kY hH hF
      have nT : NT Z Q'.B := gZ.nt hN (fun a k h => by unfold Cnt at h; unfold Aoh; omega) hB
      have mE : ME Z Q'.E := by
        refine ⟨ek, (eI 80 10 (by omega) (by unfold Aoh; omega)).trans e2, mp.trans e3, (eI 80 51 (by omega) (by unfold Aoh; omega)).trans e4, gZ.ru hN kY e5, ?_, fun p hp => ?_, (eI 80 71 (by omega) (by unfold Aoh; omega)).trans e8, (eI 80 72 (by omega) (by unfold Aoh; omega)).trans e9⟩
        · show rd_I (wr_I _ 80 50 (nI (m + 1))) 80 50 = nI (m + 1)
          simp only [m_II, m_LL, m_RR, m_IL, m_IR, m_LI, m_LR, m_RI, m_RL, m_NI, m_NL, m_NR, m_okI, m_okL, m_okR, m_okaI, m_okaL, m_okaR, m_arI, m_arL, m_arR, gd_T, bn_S, Nat.reduceEqDiff, Nat.left_eq_add, Nat.add_eq_left, Nat.one_ne_zero, and_false, and_true, false_and, true_and, if_false, if_true]
        · have hp' : p < m + 1 := hp
          show s0 _ _ _ _ = if p = m then s0 x y u v else Q.E.st p
          by_cases qp : p = m
          · subst qp
            rw [if_pos rfl]
            show s0 (rd_I (wr_I (wr_I (wr_I (wr_I (wr_I (wr_I V 80 0 0) 94 m x) 95 m y) 96 m u) 97 m v) 80 50 (nI (m + 1))) 94 m) (rd_I (wr_I (wr_I (wr_I (wr_I (wr_I (wr_I V 80 0 0) 94 m x) 95 m y) 96 m u) 97 m v) 80 50 (nI (m + 1))) 95 m) (rd_I (wr_I (wr_I (wr_I (wr_I (wr_I (wr_I V 80 0 0) 94 m x) 95 m y) 96 m u) 97 m v) 80 50 (nI (m + 1))) 96 m) (rd_I (wr_I (wr_I (wr_I (wr_I (wr_I (wr_I V 80 0 0) 94 m x) 95 m y) 96 m u) 97 m v) 80 50 (nI (m + 1))) 97 m) = _
            simp only [m_II, m_LL, m_RR, m_IL, m_IR, m_LI, m_LR, m_RI, m_RL, m_NI, m_NL, m_NR, m_okI, m_okL, m_okR, m_okaI, m_okaL, m_okaR, m_arI, m_arL, m_arR, gd_T, bn_S, Nat.reduceEqDiff, Nat.left_eq_add, Nat.add_eq_left, Nat.one_ne_zero, and_false, and_true, false_and, true_and, if_false, if_true]
          · rw [if_neg qp, eI 94 p (by omega) (by unfold Aoh; omega), eI 95 p (by omega) (by unfold Aoh; omega), eI 96 p (by omega) (by unfold Aoh; omega), eI 97 p (by omega) (by unfold Aoh; omega)]
            exact e7 p (by omega)
      have hHE : HE Z Q'.E := by
        refine ⟨(eI 33 4 (by omega) (by unfold Aoh; omega)).trans i1, (eI 33 5 (by omega) (by unfold Aoh; omega)).trans i2, (eI 33 6 (by omega) (by unfold Aoh; omega)).trans i3, ?_, ?_, fun p hp => ?_⟩
        · show rd_I (wr_I (wr_I (wr_I (wr_I (wr_I (wr_I (wr_I (wr_I W 33 7 0) 68 5 0) 80 0 0) 94 m x) 95 m y) 96 m u) 97 m v) 80 50 (nI (m + 1))) 33 3 = nI (m + 1)
          simp only [m_II, m_LL, m_RR, m_IL, m_IR, m_LI, m_LR, m_RI, m_RL, m_NI, m_NL, m_NR, m_okI, m_okL, m_okR, m_okaI, m_okaL, m_okaR, m_arI, m_arL, m_arR, gd_T, bn_S, Nat.reduceEqDiff, Nat.left_eq_add, Nat.add_eq_left, Nat.one_ne_zero, and_false, and_true, false_and, true_and, if_false, if_true]
          exact w5
        · rw [r31]
          obtain ⟨r1, r2, r3⟩ := i5
          have ee : ∀ a k, a = 5 ∨ a = 6 ∨ a = 7 ∨ a = 20 ∨ a = 21 ∨ a = 22 → rd_I Z a k = rd_I M a k := fun a k h => eI a k (by omega) (by unfold Aoh; omega)
          refine ⟨(ee _ _ (by omega)).trans r1, (ee _ _ (by omega)).trans r2, fun t ht => ?_⟩
          rw [ee _ _ (by omega), ee _ _ (by omega)]
          exact r3 t ht
        · have hp' : p < m + 1 := hp
          show rd_R Z 34 p = hob p ∧ OQ Z (hob p) ∧ _ ∧ _ = if p = m then s0 x y u v else Q.E.st p
          by_cases qp : p = m
          · subst qp
            rw [if_pos rfl, on, on, on, on, w7, w8, w9, w10]
            refine ⟨w6, ?_, hSB, rfl⟩
            exact w4
          · obtain ⟨a1, a2, a3, a4⟩ := i6 p (by omega)
            rw [if_neg qp, ob p (by omega), ob p (by omega), ob p (by omega), ob p (by omega)]
            exact ⟨(gZ.R 34 p (by omega) (by omega)).trans a1, gZ.oq a2, a3, a4⟩
      have hQB' : QB Q' := ⟨ek, hQB.2⟩
      refine ⟨nI m, V, Z, ?_, hMV, ?_, Q', mass, ⟨⟨hHZ, fR, mE, hHE, nT, ?_, ?_, ?_, hQB'⟩, ⟨hMZ, hHZ, fR, mE, nT, ?_, gZ.spm hN kY mspm, hQB'⟩, ⟨?_, ?_, g3.2.2⟩, ISt_up (gZ.st hN (fun a k h => by unfold C1 at h; unfold Aoh; omega) g4), gZ.fl hN (fun a k h => by unfold C2 at h; unfold Aoh; omega) g5, gZ.tp hN (fun a k h => by unfold C3 at h; unfold Aoh; omega) g6, ?_, ?_, ?_⟩, Or.inl ?_, Or.inl ?_⟩
      · unfold f_House_orbit
        rw [canStart, bn_S, hc]
        have hHW := w2.hr hH
        have n1 : ¬ nI m = (-1 : Int32) := fun h => by
          have := congrArg Int32.toInt h
          rw [nI_toInt (show m < 2 ^ 31 by omega)] at this
          have h2 : ((-1 : Int32)).toInt = -1 := rfl
          omega
        show (if (bz true) = 0 then _ else _) = _
        rw [if_neg (by decide), ok_1 hH.1, gd_T, hr_f hH 1 6 33 rfl (by decide), ok_33 hH.1, gd_T, w1, bn_S]
        show (if nI m = -1 then _ else _) = _
        rw [if_neg n1, ok_1 hHW.1, gd_T, forget N W hHW, bn_S]
      · rw [Model_orbit N V hMV x y u v hc m (by omega) z50, if_neg q]
      · exact (eI 42 8 (by omega) (by unfold Aoh; omega)).trans hpo
      · exact (eI 3 3 (by omega) (by unfold Aoh; omega)).trans hlo
      · exact (eI 3 4 (by omega) (by unfold Aoh; omega)).trans hhi
      · exact (eI 80 75 (by omega) (by unfold Aoh; omega)).trans mpo
      · exact (eI 3 5 (by omega) (by unfold Aoh; omega)).trans g3.1
      · exact (eI 80 15 (by omega) (by unfold Aoh; omega)).trans g3.2.1
      · unfold IFa
        rw [eI 17 9 (by omega) (by unfold Aoh; omega), eI 17 10 (by omega) (by unfold Aoh; omega), eI 80 32 (by omega) (by unfold Aoh; omega), eI 80 33 (by omega) (by unfold Aoh; omega)]
        exact g7
      · rw [r31, eI _ _ (by omega) (by unfold Aoh; omega)]
        exact g8
      · show rd_N W = 124 + 9 * (m + 1)
        omega
      · show rd_I (wr_I (wr_I (wr_I (wr_I (wr_I (wr_I (wr_I (wr_I W 33 7 0) 68 5 0) 80 0 0) 94 m x) 95 m y) 96 m u) 97 m v) 80 50 (nI (m + 1))) 33 7 = 0
        simp only [m_II, m_LL, m_RR, m_IL, m_IR, m_LI, m_LR, m_RI, m_RL, m_NI, m_NL, m_NR, m_okI, m_okL, m_okR, m_okaI, m_okaL, m_okaR, m_arI, m_arL, m_arR, gd_T, bn_S, Nat.reduceEqDiff, Nat.left_eq_add, Nat.add_eq_left, Nat.one_ne_zero, and_false, and_true, false_and, true_and, if_false, if_true]
      · show rd_I (wr_I (wr_I (wr_I (wr_I (wr_I (wr_I (wr_I (wr_I W 33 7 0) 68 5 0) 80 0 0) 94 m x) 95 m y) 96 m u) 97 m v) 80 50 (nI (m + 1))) 68 5 = 0
        simp only [m_II, m_LL, m_RR, m_IL, m_IR, m_LI, m_LR, m_RI, m_RL, m_NI, m_NL, m_NR, m_okI, m_okL, m_okR, m_okaI, m_okaL, m_okaR, m_arI, m_arL, m_arR, gd_T, bn_S, Nat.reduceEqDiff, Nat.left_eq_add, Nat.add_eq_left, Nat.one_ne_zero, and_false, and_true, false_and, true_and, if_false, if_true]
