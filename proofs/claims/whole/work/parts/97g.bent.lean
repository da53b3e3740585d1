/-! 97g: bent -/
def bb (cnt : Nat → Nat) : Nat → Option (Nat × Nat)
  | 0 => none
  | k + 1 => match bb cnt k with
    | none => some (k, cnt k)
    | some (i, n) => if cnt k < n then some (k, cnt k) else some (i, n)
def bm (Q : QT) : Option (Nat × Nat) → Int32
  | none => -1
  | some (i, _) => mk Q i
def bl : Option (Nat × Nat) → Int32
  | none => 65
  | some (_, n) => nI n
def bl0 : Option (Nat × Nat) → Int32
  | none => 0
  | some (_, n) => nI n
theorem bb_ok (cnt : Nat → Nat) (hc : ∀ k, cnt k ≤ 64) : ∀ k i n, bb cnt k = some (i, n) → i < k ∧ n ≤ 64
  | 0, i, n, h => by rw [bb] at h; exact absurd h (by simp)
  | k + 1, i, n, h => by
    rw [bb] at h
    cases e : bb cnt k with
    | none =>
      rw [e] at h
      simp only [Option.some.injEq, Prod.mk.injEq] at h
      have := hc k
      omega
    | some p =>
      rw [e] at h
      have ih := bb_ok cnt hc k p.1 p.2 e
      have h' : (if cnt k < p.2 then some (k, cnt k) else some (p.1, p.2)) = some (i, n) := h
      have := hc k
      split at h' <;> simp only [Option.some.injEq, Prod.mk.injEq] at h' <;> omega
def Abt (a k : Nat) : Prop := Axf a k ∨ (a = 3 ∧ k = 5)
theorem CfAbt : ∀ a k, Cf a k → ¬ Abt a k := by intro a k h; unfold Cf at h; unfold Abt Axf; omega
noncomputable def cntB (P : Nat → PartS) (Q : QT) (F : SQ) (x : Int64) (k : Nat) : Nat := pcK (v6 (tb P Q.E.n (mk Q k) Q.E.g Q.E.r F F.m ^^^ x)) 64
theorem cntB_le (P : Nat → PartS) (Q : QT) (F : SQ) (x : Int64) (k : Nat) : cntB P Q F x k ≤ 64 := pcK_le _ 64
theorem House_bent_53 (N : Nat) (hN : 300 ≤ N) (Q : QT) (hQ : QB Q) (P : Nat → PartS) (F : SQ) (hG : SG F) (x : Int64) (mass : Int32) : ∀ (d j k : Nat) (M : sw_M), k + d = nm Q → d < j → HR M → FR M Q.E.n → mpart M = P → rd_I M 3 3 = Q.lo → rd_I M 33 5 = Q.E.g → rd_I M 33 6 = Q.E.r → HF M F →
    ∃ W, f_House_bent_53 N j 1 Q.pa x mass (bm Q (bb (cntB P Q F x) k)) (bl (bb (cntB P Q F x) k)) (nI (nm Q)) (nI k) M = some (bm Q (bb (cntB P Q F x) (nm Q)), wr_I W 3 5 mass) ∧ Fr Abt M W
  | 0, j, k, M, hk, hj, hH, hF, hP, h3, h5, h6, hs => by
    obtain ⟨j, rfl⟩ : ∃ i, j = i + 1 := ⟨j - 1, by omega⟩
    have hk' : k = nm Q := by omega
    have hb := nm_b hQ
    refine ⟨M, ?_, Fr.refl _ _⟩
    rw [f_House_bent_53, if_pos (nI_le (by omega) (by omega)), ok_1 hH.1, gd_T, hr_f hH 1 2 3 rfl (by decide), ok_3 hH.1, gd_T, hk']
  | d + 1, j, k, M, hk, hj, hH, hF, hP, h3, h5, h6, hs => by
    obtain ⟨j, rfl⟩ : ∃ i, j = i + 1 := ⟨j - 1, by omega⟩
    have hb := nm_b hQ
    have hm := (mk_i hQ (show k < nm Q by omega)).2
    have f1 : Fr Abt M (wr_I M 3 5 (mk Q k)) := (Fr.refl _ M).wI _ _ _ (Or.inr ⟨rfl, rfl⟩)
    obtain ⟨W, w1, w2⟩ := Stream_cellBits N hN (wr_I M 3 5 (mk Q k)) (f1.hr hH) Q.E.n (FR_fr f1 CfAbt hH hF) (mk Q k) Q.E.g Q.E.r (by simp only [m_II, m_LL, m_RR, m_IL, m_IR, m_LI, m_LR, m_RI, m_RL, m_NI, m_NL, m_NR, m_okI, m_okL, m_okR, m_okaI, m_okaL, m_okaR, m_arI, m_arL, m_arR, gd_T, bn_S, Nat.reduceEqDiff, Nat.left_eq_add, Nat.add_eq_left, Nat.one_ne_zero, and_false, and_true, false_and, true_and, if_false, if_true]) hm hQ.1.2.2.2.2.2 ((f1.I 33 5 (by unfold Abt Axf; omega)).trans h5) ((f1.I 33 6 (by unfold Abt Axf; omega)).trans h6) F hG (HF_fr f1 (fun k => by unfold Abt Axf; omega) hs)
    rw [mpart_fr f1 CfAbt, hP] at w1
    have f2 : Fr Abt M W := f1.trans (w2.mono (fun a k q => Or.inl (AsAxf a k q)))
    obtain ⟨Z, z1, z2⟩ := House_bent_53 N hN Q hQ P F hG x mass d j (k + 1) W (by omega) (by omega) (f2.hr hH) (FR_fr f2 CfAbt hH hF) ((mpart_fr f2 CfAbt).trans hP) ((f2.I 3 3 (by unfold Abt Axf; omega)).trans h3) ((f2.I 33 5 (by unfold Abt Axf; omega)).trans h5) ((f2.I 33 6 (by unfold Abt Axf; omega)).trans h6) (HF_fr f2 (fun k => by unfold Abt Axf; omega) hs)
    refine ⟨Z, ?_, f2.trans z2⟩
    rw [f_House_bent_53, if_neg (nI_ge (by omega) (by omega))]
    simp only [ok_1 hH.1, ok_3 hH.1, ok_78 hH.1, hr_f hH 1 2 3 rfl (by decide), hr_f hH 1 10 78 rfl (by decide), hr_f hH 1 6 33 rfl (by decide), m_II, m_LL, m_RR, m_IL, m_IR, m_LI, m_LR, m_RI, m_RL, m_NI, m_NL, m_NR, m_okI, m_okL, m_okR, m_okaI, m_okaL, m_okaR, m_arI, m_arL, m_arR, gd_T, bn_S, Nat.reduceEqDiff, Nat.left_eq_add, Nat.add_eq_left, Nat.one_ne_zero, and_false, and_true, false_and, true_and, if_false, if_true, h3]
    have e5 : Q.lo + nI k * Q.pa = mk Q k := rfl
    rw [e5, w1, bn_S]
    show (f_Lng_bitCount N (tb P Q.E.n (mk Q k) Q.E.g Q.E.r F F.m ^^^ x) W).bind _ = _
    rw [Lng_bitCount, bn_S]
    show (if bl (bb (cntB P Q F x) k) ≤ nI (cntB P Q F x k) then _ else _) = _
    have hHW := f2.hr hH
    have r5 : rd_I W 3 5 = mk Q k := by rw [w2.I 3 5 (by unfold As; omega)]; simp only [m_II, m_LL, m_RR, m_IL, m_IR, m_LI, m_LR, m_RI, m_RL, m_NI, m_NL, m_NR, m_okI, m_okL, m_okR, m_okaI, m_okaL, m_okaR, m_arI, m_arL, m_arR, gd_T, bn_S, Nat.reduceEqDiff, Nat.left_eq_add, Nat.add_eq_left, Nat.one_ne_zero, and_false, and_true, false_and, true_and, if_false, if_true]
    have hc := cntB_le P Q F x k
    unfold f_House_bent_121
    rw [nI_1]
    simp only [ok_1 hHW.1, ok_3 hHW.1, hr_f hHW 1 2 3 rfl (by decide), gd_T, r5]
    have key : (if bl (bb (cntB P Q F x) k) ≤ nI (cntB P Q F x k) then f_House_bent_53 N j 1 Q.pa x mass (bm Q (bb (cntB P Q F x) k)) (bl (bb (cntB P Q F x) k)) (nI (nm Q)) (nI (k + 1)) W else f_House_bent_53 N j 1 Q.pa x mass (mk Q k) (nI (cntB P Q F x k)) (nI (nm Q)) (nI (k + 1)) W) = f_House_bent_53 N j 1 Q.pa x mass (bm Q (bb (cntB P Q F x) (k + 1))) (bl (bb (cntB P Q F x) (k + 1))) (nI (nm Q)) (nI (k + 1)) W := by
      rw [bb]
      cases e : bb (cntB P Q F x) k with
      | none =>
        rw [if_neg (show ¬ bl none ≤ nI (cntB P Q F x k) from (nI_ge (by omega) (by omega) : ¬ nI 65 ≤ nI (cntB P Q F x k)))]
        rfl
      | some p =>
        have hb2 := bb_ok _ (cntB_le P Q F x) k p.1 p.2 e
        by_cases q : cntB P Q F x k < p.2
        · rw [if_neg (show ¬ bl (some p) ≤ nI (cntB P Q F x k) from nI_ge q (by omega))]
          show _ = f_House_bent_53 N j 1 Q.pa x mass (bm Q (if cntB P Q F x k < p.2 then some (k, cntB P Q F x k) else some (p.1, p.2))) (bl (if cntB P Q F x k < p.2 then some (k, cntB P Q F x k) else some (p.1, p.2))) (nI (nm Q)) (nI (k + 1)) W
          rw [if_pos q]
          rfl
        · rw [if_pos (show bl (some p) ≤ nI (cntB P Q F x k) from nI_le (by omega) (by omega))]
          show _ = f_House_bent_53 N j 1 Q.pa x mass (bm Q (if cntB P Q F x k < p.2 then some (k, cntB P Q F x k) else some (p.1, p.2))) (bl (if cntB P Q F x k < p.2 then some (k, cntB P Q F x k) else some (p.1, p.2))) (nI (nm Q)) (nI (k + 1)) W
          rw [if_neg q]
    exact key.trans z1
theorem mk_ne {Q : QT} (hQ : QB Q) {k : Nat} (hk : k < nm Q) : ¬ mk Q k = -1 := fun e => by
  have h := (mk_i hQ hk).2.1
  rw [e, show (-1 : Int32).toInt = -1 from by decide] at h
  omega
theorem Model_bent_34 (N : Nat) (hN : 300 ≤ N) (Q : QT) (hQ : QB Q) (P : Nat → PartS) (F : SQ) (hG : SG F) (x : Int64) : ∀ (d j k : Nat) (M : sw_M), k + d = nm Q → d < j → MR M → HR M → FR M Q.E.n → mpart M = P → SPM M Q.lo Q.hi → rd_I M 80 71 = Q.E.g → rd_I M 80 72 = Q.E.r → MFw M F →
    ∃ W, f_Model_bent_34 N j 80 Q.pa x (bm Q (bb (cntB P Q F x) k)) (bl0 (bb (cntB P Q F x) k)) (nI k) M = some (bm Q (bb (cntB P Q F x) (nm Q)), W) ∧ Fr Aw M W
  | 0, j, k, M, hk, hj, hM, hH, hF, hP, h3, h5, h6, hs => by
    obtain ⟨j, rfl⟩ : ∃ i, j = i + 1 := ⟨j - 1, by omega⟩
    have hk' : k = nm Q := by omega
    have hb := nm_b hQ
    refine ⟨M, ?_, Fr.refl _ _⟩
    rw [f_Model_bent_34, ok_80 hM.1, gd_T, Model_modelMany N hN Q hQ M hM h3, bn_S]
    show (if nI (nm Q) ≤ nI k then _ else _) = _
    rw [if_pos (nI_le (by omega) (by omega)), hk']
  | d + 1, j, k, M, hk, hj, hM, hH, hF, hP, h3, h5, h6, hs => by
    obtain ⟨j, rfl⟩ : ∃ i, j = i + 1 := ⟨j - 1, by omega⟩
    have hb := nm_b hQ
    have hm := (mk_i hQ (show k < nm Q by omega)).2
    obtain ⟨W, w1, w2⟩ := Model_trailOf N hN M hM hH Q.E.n hF (mk Q k) Q.E.g Q.E.r hm hQ.1.2.2.2.2.2 h5 h6 F hG hs
    rw [hP] at w1
    have h3W : SPM W Q.lo Q.hi := SPM_fr w2 (fun a k e => by unfold Cx at e; unfold Aw; omega) h3
    obtain ⟨Z, z1, z2⟩ := Model_bent_34 N hN Q hQ P F hG x d j (k + 1) W (by omega) (by omega) (w2.mr hM) (w2.hr hH) (FR_fr w2 CfAw hH hF) ((mpart_fr w2 CfAw).trans hP) h3W ((w2.I 80 71 (by unfold Aw; omega)).trans h5) ((w2.I 80 72 (by unfold Aw; omega)).trans h6) (MFw_fr w2 (fun k => by unfold Aw; omega) hs)
    refine ⟨Z, ?_, w2.trans z2⟩
    rw [f_Model_bent_34, ok_80 hM.1, gd_T, Model_modelMany N hN Q hQ M hM h3, bn_S]
    show (if nI (nm Q) ≤ nI k then _ else _) = _
    rw [if_neg (nI_ge (by omega) (by omega)), ok_80 hM.1, gd_T]
    show (f_Model_spanLow N 80 M).bind _ = _
    rw [Model_spanLow N M hM h3, bn_S, ok_80 hM.1, gd_T]
    show (f_Model_trailOf N 80 (mk Q k) M).bind _ = _
    rw [w1, bn_S]
    show (f_Model_unlike N (tb P Q.E.n (mk Q k) Q.E.g Q.E.r F F.m) x W).bind _ = _
    rw [Model_unlike N hN, bn_S]
    unfold f_Model_bent_79
    rw [ok_80 (w2.mr hM).1, gd_T, Model_spanLow N W (w2.mr hM) h3W, bn_S]
    unfold f_Model_bent_94
    rw [nI_1]
    show (if bm Q (bb (cntB P Q F x) k) = -1 then f_Model_bent_34 N j 80 Q.pa x (mk Q k) (nI (cntB P Q F x k)) (nI (k + 1)) W else if nI (cntB P Q F x k) < bl0 (bb (cntB P Q F x) k) then f_Model_bent_34 N j 80 Q.pa x (mk Q k) (nI (cntB P Q F x k)) (nI (k + 1)) W else f_Model_bent_34 N j 80 Q.pa x (bm Q (bb (cntB P Q F x) k)) (bl0 (bb (cntB P Q F x) k)) (nI (k + 1)) W) = _
    have hc := cntB_le P Q F x k
    refine Eq.trans ?_ z1
    rw [bb]
    cases e : bb (cntB P Q F x) k with
    | none =>
      rw [if_pos (show bm Q none = -1 from rfl)]
      rfl
    | some p =>
      have hb2 := bb_ok _ (cntB_le P Q F x) k p.1 p.2 e
      rw [if_neg (show ¬ bm Q (some p) = -1 from mk_ne hQ (by omega))]
      by_cases q : cntB P Q F x k < p.2
      · rw [if_pos (show nI (cntB P Q F x k) < bl0 (some p) from nI_lt q (by omega))]
        show _ = f_Model_bent_34 N j 80 Q.pa x (bm Q (if cntB P Q F x k < p.2 then some (k, cntB P Q F x k) else some (p.1, p.2))) (bl0 (if cntB P Q F x k < p.2 then some (k, cntB P Q F x k) else some (p.1, p.2))) (nI (k + 1)) W
        rw [if_pos q]
        rfl
      · rw [if_neg (show ¬ nI (cntB P Q F x k) < bl0 (some p) from nI_nlt (by omega) (by omega))]
        show _ = f_Model_bent_34 N j 80 Q.pa x (bm Q (if cntB P Q F x k < p.2 then some (k, cntB P Q F x k) else some (p.1, p.2))) (bl0 (if cntB P Q F x k < p.2 then some (k, cntB P Q F x k) else some (p.1, p.2))) (nI (k + 1)) W
        rw [if_neg q]
theorem pr_bent (N : Nat) (hN : 300 ≤ N) (c : Nat) (M : sw_M) (g : Inv c M) (a : Int32) (x : Int64) : PR c M (f_House_bent N 1 a x) (f_Model_bent N 80 a x) := by
  obtain ⟨Q, mass, gx, g9, g10⟩ := id g
  obtain ⟨g1, g2, g3, g4, g5, g6, g7, g8, g8'⟩ := id gx
  obtain ⟨hH, hF, hE, hh, hB, hpo, hlo, hhi, hQB⟩ := id g1
  obtain ⟨hM, -, -, -, -, hpo', hsp, -⟩ := id g2
  by_cases c0 : a < 1
  · refine PR_0 (-1) g ?_ ?_
    · unfold f_House_bent
      rw [if_pos c0]
    · unfold f_Model_bent
      rw [ok_80 hM.1, gd_T, if_pos c0]
  by_cases c1 : 99999 < a
  · refine PR_0 (-1) g ?_ ?_
    · unfold f_House_bent
      rw [if_neg c0, if_pos c1]
    · unfold f_Model_bent
      rw [ok_80 hM.1, gd_T, if_neg c0, if_pos c1]
  have d0 : 1 ≤ a.toInt := Int32.le_iff_toInt_le.mp (Int32.not_lt.mp c0)
  have d1 : a.toInt ≤ 99999 := Int32.le_iff_toInt_le.mp (Int32.not_lt.mp c1)
  rcases g5 with ⟨e1, e2⟩ | ⟨e1, F, e2, e3, e4, e5⟩
  · refine PR_0 (-1) g ?_ ?_
    · unfold f_House_bent
      simp only [if_neg c0, if_neg c1, ok_1 hH.1, ok_78 hH.1, hr_f hH 1 10 78 rfl (by decide), m_II, m_LL, m_RR, m_IL, m_IR, m_LI, m_LR, m_RI, m_RL, m_NI, m_NL, m_NR, m_okI, m_okL, m_okR, m_okaI, m_okaL, m_okaR, m_arI, m_arL, m_arR, gd_T, bn_S, Nat.reduceEqDiff, Nat.left_eq_add, Nat.add_eq_left, Nat.one_ne_zero, and_false, and_true, false_and, true_and, if_false, if_true, e1]
    · unfold f_Model_bent
      simp only [if_neg c0, if_neg c1, ok_80 hM.1, m_II, m_LL, m_RR, m_IL, m_IR, m_LI, m_LR, m_RI, m_RL, m_NI, m_NL, m_NR, m_okI, m_okL, m_okR, m_okaI, m_okaL, m_okaR, m_arI, m_arL, m_arR, gd_T, bn_S, Nat.reduceEqDiff, Nat.left_eq_add, Nat.add_eq_left, Nat.one_ne_zero, and_false, and_true, false_and, true_and, if_false, if_true, e2]
  · have qB : QB (Q.E, Q.B, Q.por, Q.lo, Q.hi, a) := ⟨hQB.1, hQB.2.1, ⟨d0, d1⟩, hQB.2.2.2⟩
    obtain ⟨R, hR⟩ : ∃ R : QT, R = (Q.E, Q.B, Q.por, Q.lo, Q.hi, a) := ⟨_, rfl⟩
    rw [← hR] at qB
    have rE : R.E = Q.E := by rw [hR]; rfl
    have rL : R.lo = Q.lo := by rw [hR]; rfl
    have rH : R.hi = Q.hi := by rw [hR]; rfl
    have rP : R.pa = a := by rw [hR]; rfl
    have hb := nm_b qB
    have hQR : HQ M R := by
      refine ⟨hH, ?_, ?_, ?_, ?_, ?_, ?_, ?_, qB⟩
      · rw [rE]; exact hF
      · rw [rE]; exact hE
      · rw [rE]; exact hh
      · rw [hR]; exact hB
      · rw [hR]; exact hpo
      · rw [rL]; exact hlo
      · rw [rH]; exact hhi
    obtain ⟨W, w1, w2⟩ := House_bent_53 N hN R qB (mpart M) F e3 x mass (nm R) N 0 M (by omega) (by omega) hH (by rw [rE]; exact hF) rfl (by rw [rL]; exact hlo) (by rw [rE]; exact hh.2.1) (by rw [rE]; exact hh.2.2.1) e4
    have f1 : Fr Abt M (wr_I W 3 5 mass) := w2.wI _ _ _ (Or.inr ⟨rfl, rfl⟩)
    have f2 : Fr Abt M (wr_I (wr_I W 3 5 mass) 80 0 0) := f1.wI _ _ _ (by unfold Abt Axf; omega)
    have cX : ∀ a k, Cx a k → ¬ Abt a k := fun a k e => by unfold Cx at e; unfold Abt Axf; omega
    obtain ⟨Z, z1, z2⟩ := Model_bent_34 N hN R qB (mpart M) F e3 x (nm R) N 0 (wr_I (wr_I W 3 5 mass) 80 0 0) (by omega) (by omega) (f2.mr hM) (f2.hr hH) (by rw [rE]; exact FR_fr f2 CfAbt hH hF) (mpart_fr f2 CfAbt) (by rw [rL, rH]; exact SPM_fr f2 cX hsp) (by rw [rE]; exact (f2.I 80 71 (by unfold Abt Axf; omega)).trans hE.2.2.2.2.2.2.2.1) (by rw [rE]; exact (f2.I 80 72 (by unfold Abt Axf; omega)).trans hE.2.2.2.2.2.2.2.2) (MFw_fr f2 (fun k => by unfold Abt Axf; omega) e5)
    have f3 : Fr Abt M Z := f2.trans (z2.mono (fun a k q => Or.inl (AwAxf a k q)))
    have r5 : rd_I Z 3 5 = mass := by
      rw [z2.I 3 5 (by unfold Aw; omega)]
      simp only [m_II, m_LL, m_RR, m_IL, m_IR, m_LI, m_LR, m_RI, m_RL, m_NI, m_NL, m_NR, m_okI, m_okL, m_okR, m_okaI, m_okaL, m_okaR, m_arI, m_arL, m_arR, gd_T, bn_S, Nat.reduceEqDiff, Nat.left_eq_add, Nat.add_eq_left, Nat.one_ne_zero, and_false, and_true, false_and, true_and, if_false, if_true]
    have iZ : Inv (c + 1) Z := Inv_set f3 (fun a k e => by unfold Cr at e; unfold Abt Axf; omega) gx Q mass (HQ_fr f3 (fun a k e => by unfold Chq Cf Cx Che Cnt at e; unfold Abt Axf; omega) g1) (MQq_fr f3 (fun a k e => by unfold Cmq Cf Cx Cnt at e; unfold Abt Axf; omega) g2) ⟨r5, (f3.I 80 15 (by unfold Abt Axf; omega)).trans g3.2.1, g3.2.2⟩ rfl rfl (CH_fr f3 (fun a k e => by unfold Abt Axf; omega) g9) (CM_fr f3 (fun a k e => by unfold Abt Axf; omega) g10)
    refine ⟨bm R (bb (cntB (mpart M) R F x) (nm R)), wr_I W 3 5 mass, Z, ?_, f1.mr hM, ?_, iZ⟩
    · have mb := massesBy N R M hQR
      rw [rP] at mb w1
      unfold f_House_bent
      rw [if_neg c0, if_neg c1, ok_1 hH.1, gd_T, hr_f hH 1 10 78 rfl (by decide), ok_78 hH.1, gd_T, e4.2.2.2.2.2.2.2.2.1, if_neg (nI_ne0 (by omega) (by have := e3.1; omega)), hr_f hH 1 2 3 rfl (by decide), ok_3 hH.1, gd_T, mb, bn_S, g3.1]
      exact w1
    · rw [rP] at z1
      have b1 : rd_I W 80 89 = 1 := (w2.I 80 89 (by unfold Abt Axf; omega)).trans e1
      unfold f_Model_bent
      simp only [if_neg c0, if_neg c1, f1.ok, ok_80 hM.1, m_II, m_LL, m_RR, m_IL, m_IR, m_LI, m_LR, m_RI, m_RL, m_NI, m_NL, m_NR, m_okI, m_okL, m_okR, m_okaI, m_okaL, m_okaR, m_arI, m_arL, m_arR, gd_T, bn_S, Nat.reduceEqDiff, Nat.left_eq_add, Nat.add_eq_left, Nat.one_ne_zero, and_false, and_true, false_and, true_and, if_false, if_true, b1, show ¬ (1 : Int32) = 0 from by decide]
      exact z1
