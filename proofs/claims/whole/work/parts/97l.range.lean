/-! 97l: range -/
noncomputable def rAns (F : FE) (fl : Int32) (x : Nat) (m : Int32) : Int32 := match FF F with
  | none => -1
  | some W => rF F (rV F fl x) m 161053 (-1) (some W)
theorem r93_0 (N : Nat) (hN : 300 ≤ N) (x m fl : Int32) (M : sw_M) : f_House_range_93 N N 1 x m fl (-1) 0 0 M = some (-1, M) := by
  obtain ⟨j, hj⟩ : ∃ k, N = k + 1 := ⟨N - 1, by omega⟩
  rw [show f_House_range_93 N N = f_House_range_93 N (j + 1) by rw [← hj], f_House_range_93]
  rfl
theorem r72_0 (N : Nat) (hN : 300 ≤ N) (w x m : Int32) (M : sw_M) : f_Model_range_72 N N 80 w x m (-1) 0 M = some (-1, M) := by
  obtain ⟨j, hj⟩ : ∃ k, N = k + 1 := ⟨N - 1, by omega⟩
  rw [show f_Model_range_72 N N = f_Model_range_72 N (j + 1) by rw [← hj], f_Model_range_72]
  rfl
theorem House_range_71 (N : Nat) (hN : 200000 ≤ N) {c : Nat} {K : sw_M} {Q : QT} {mass : Int32} (gK : IX c K Q mass) (g9 : CH K Q.E) (n : Nat) (hn : n ≤ Q.B.m) (hk : ∀ t, t < 10 → rd_I K 41 t = bz (decide (t < n) && !(skF Q.B n (fun _ => false) t))) (m fl : Int32) (x : Nat) (hx : (fl = 0 ∧ x < 64) ∨ (¬ fl = 0 ∧ x < Q.E.no)) :
    ∃ W Z, f_House_range_71 N 1 (nI x) m fl K = some (rAns (FQ Q mass n) fl x m, Z) ∧ Fr A1q K W ∧ CH W Q.E ∧ Fr A2q W Z := by
  have hH := gK.1.1
  have hQB := gK.1.2.2.2.2.2.2.2.2
  have hE := gK.1.2.2.1
  have hp : 0 ≤ (FQ Q mass n).por.toInt ∧ (FQ Q mass n).por.toInt ≤ 10 := by
    have := hQB.2.2.2.1
    show 0 ≤ Q.por.toInt ∧ Q.por.toInt ≤ 10
    omega
  obtain ⟨W, w1, w2, w3, w4⟩ := prepR N (by omega) gK g9
  have fW : Fr A1q K W := w2.mono (fun a k h => Or.inr h)
  have hHW := fW.hr hH
  have hFE : HFE W (FQ Q mass n) := hfe_of (IX_fr fW CiA1 gK) n hn w4 (fun t ht => by rw [w2.I 41 t (by unfold Arf Arh; omega)]; exact hk t ht)
  unfold f_House_range_71
  rw [ok_1 hH.1, gd_T, hr_f hH 1 6 33 rfl (by decide), ok_33 hH.1, gd_T, w1, bn_S, ok_1 hHW.1, gd_T, hr_f hHW 1 8 42 rfl (by decide), ok_42 hHW.1, gd_T]
  rcases House_ff N hN (FQ Q mass n) hp W hFE with ⟨n1, Y, y1, y2⟩ | ⟨V, Y, n0, n1, y1, y2, y3⟩
  · refine ⟨W, Y, ?_, fW, w3, y2.mono AwhA2⟩
    have hw : rAns (FQ Q mass n) fl x m = -1 := by unfold rAns; rw [n1]
    rw [y1, bn_S, hw]
    exact r93_0 N (by omega) _ _ _ Y
  · have hmu := (mu_b hp.2 hE.1.2.2.2.1 y3.2).2
    obtain ⟨U, u1, u2⟩ := House_range_93 N hN (FQ Q mass n) hp.2 n0 fl m x hx 161053 0 N (-1) Y V (HFE_fr y2 hFE) y3 (by omega) (by omega) (by omega)
    have hw : rAns (FQ Q mass n) fl x m = rF (FQ Q mass n) (rV (FQ Q mass n) fl x) m 161053 (-1) (some V) := by unfold rAns; rw [n1]
    refine ⟨W, U, ?_, fW, w3, (y2.mono AwhA2).trans (u2.mono AwhA2)⟩
    rw [y1, bn_S, hw]
    exact u1
theorem Model_range_49 (N : Nat) (hN : 200000 ≤ N) {c : Nat} {M : sw_M} {Q : QT} {mass : Int32} (gx : IX c M Q mass) (a : Int32) (q : 0 ≤ a.toInt ∧ a.toInt ≤ Q.B.m) (fl wh m : Int32) (x : Nat) (hx : (fl = 0 ∧ ¬ wh = 0 ∧ x < 64) ∨ (¬ fl = 0 ∧ wh = 0 ∧ x < Q.E.no)) :
    ∃ Z, f_Model_range_49 N 80 a wh (nI x) m (wr_I M 80 0 0) = some (rAns (FQ Q mass a.toInt.toNat) fl x m, Z) ∧ Fr A2q M Z := by
  have hMV := gx.2.1.1
  have ha := nI_back a q.1
  have hE := gx.2.1.2.2.2.1
  have hQB := gx.2.1.2.2.2.2.2.2.2
  have hp : 0 ≤ (FQ Q mass a.toInt.toNat).por.toInt ∧ (FQ Q mass a.toInt.toNat).por.toInt ≤ 10 := by
    have := hQB.2.2.2.1
    show 0 ≤ Q.por.toInt ∧ Q.por.toInt ≤ 10
    omega
  obtain ⟨S, Z, s1, s2, s3, s4, s5⟩ := prepM N (by omega) gx a.toInt.toNat (by omega)
  rw [ha] at s2
  have i15 : rd_I (wr_I M 80 0 0) 80 15 = mass := by simp only [m_II, m_LL, m_RR, m_IL, m_IR, m_LI, m_LR, m_RI, m_RL, m_NI, m_NL, m_NR, m_okI, m_okL, m_okR, m_okaI, m_okaL, m_okaR, m_arI, m_arL, m_arR, gd_T, bn_S, Nat.reduceEqDiff, Nat.left_eq_add, Nat.add_eq_left, Nat.one_ne_zero, and_false, and_true, false_and, true_and, if_false, if_true]; exact gx.2.2.1.2.1
  unfold f_Model_range_49
  rw [show sw_ok (wr_I M 80 0 0) 80 12 = true from ok_80 hMV.1, gd_T, i15, s1, bn_S, ok_80 s3.1, gd_T, s2, bn_S, ok_80 s5.1.1, gd_T]
  rcases Model_ff N hN (FQ Q mass a.toInt.toNat) hp Z s5 with ⟨m1, X, x1, x2⟩ | ⟨V, X, m0, m1, x1, x2, x3⟩
  · refine ⟨X, ?_, s4.trans (x2.mono AwtA2)⟩
    have hw : rAns (FQ Q mass a.toInt.toNat) fl x m = -1 := by unfold rAns; rw [m1]
    rw [x1, bn_S, hw]
    exact r72_0 N (by omega) _ _ _ X
  · have hmu := (mu_b hp.2 hE.1.2.2.2.1 x3.2).2
    obtain ⟨U, u1, u2⟩ := Model_range_72 N hN (FQ Q mass a.toInt.toNat) hp.2 m0 fl wh m x hx 161053 N (-1) X V (MFE_fr x2 s5) x3 (by omega) (by omega)
    have hw : rAns (FQ Q mass a.toInt.toNat) fl x m = rF (FQ Q mass a.toInt.toNat) (rV (FQ Q mass a.toInt.toNat) fl x) m 161053 (-1) (some V) := by unfold rAns; rw [m1]
    refine ⟨U, ?_, (s4.trans (x2.mono AwtA2)).trans (u2.mono AwtA2)⟩
    rw [x1, bn_S, hw]
    exact u1
/-- whether it is an ORBIT, a CELL -/
def okO (Q : QT) (w x : Int32) : Bool := decide (w = 0) && decide (0 ≤ x.toInt ∧ x.toInt < Q.E.no)
def okC (w x : Int32) : Bool := decide (w = 1) && decide (0 ≤ x.toInt ∧ x.toInt < 64)
theorem House_range_e (N : Nat) (M : sw_M) (hH : HR M) (Q : QT) (hn : Q.E.no ≤ 6) (h3 : rd_I M 33 3 = nI Q.E.no) (a w x m : Int32) : f_House_range N 1 a w x m M = f_House_range_46 N 1 a x m (bz (okO Q w x)) (bz (okC w x)) M := by
  have e24 : ∀ b, f_House_range_24 N 1 a w x m b M = f_House_range_46 N 1 a x m b (bz (okC w x)) M := fun b => by
    unfold f_House_range_24 f_House_range_45 okC
    by_cases c0 : w = 1
    · rw [if_pos c0, decide_eq_true c0]
      by_cases c1 : x < 0
      · have : x.toInt < 0 := Int32.lt_iff_toInt_lt.mp c1
        rw [if_pos c1, decide_eq_false (by omega)]; rfl
      have d1 : 0 ≤ x.toInt := Int32.le_iff_toInt_le.mp (Int32.not_lt.mp c1)
      by_cases c2 : 64 ≤ x
      · have : 64 ≤ x.toInt := Int32.le_iff_toInt_le.mp c2
        rw [if_neg c1, if_pos c2, decide_eq_false (by omega)]; rfl
      · have : x.toInt < 64 := Int32.lt_iff_toInt_lt.mp (Int32.not_le.mp c2)
        rw [if_neg c1, if_neg c2, decide_eq_true (by omega)]; rfl
    · rw [if_neg c0, decide_eq_false c0]; rfl
  unfold f_House_range f_House_range_23 okO
  simp only [e24]
  by_cases c0 : w = 0
  · rw [if_pos c0, decide_eq_true c0]
    by_cases c1 : x < 0
    · have : x.toInt < 0 := Int32.lt_iff_toInt_lt.mp c1
      rw [if_pos c1, decide_eq_false (by omega)]; rfl
    have d1 : 0 ≤ x.toInt := Int32.le_iff_toInt_le.mp (Int32.not_lt.mp c1)
    rw [if_neg c1, ok_1 hH.1, gd_T, hr_f hH 1 6 33 rfl (by decide), ok_33 hH.1, gd_T, h3]
    by_cases c2 : nI Q.E.no ≤ x
    · have := Int32.le_iff_toInt_le.mp c2
      rw [nI_toInt (by omega)] at this
      rw [if_pos c2, decide_eq_false (by omega)]; rfl
    · have := Int32.lt_iff_toInt_lt.mp (Int32.not_le.mp c2)
      rw [nI_toInt (by omega)] at this
      rw [if_neg c2, decide_eq_true (by omega)]; rfl
  · rw [if_neg c0, decide_eq_false c0]; rfl
theorem Model_range_e (N : Nat) (M : sw_M) (hM : MR M) (Q : QT) (hn : Q.E.no ≤ 6) (h5 : rd_I M 80 50 = nI Q.E.no) (hm : Q.B.m ≤ 10) (h7 : rd_I M 80 76 = nI Q.B.m) (a w x m : Int32) : f_Model_range N 80 a w x m M = if (0 ≤ a.toInt ∧ a.toInt ≤ Q.B.m) ∧ (okO Q w x = true ∨ okC w x = true) then f_Model_range_49 N 80 a w x m (wr_I M 80 0 0) else some (-1, wr_I M 80 0 0) := by
  unfold f_Model_range okO okC
  rw [ok_80 hM.1, gd_T, isKnown N _ (show MR (wr_I M 80 0 0) from hM) Q.B.m hm (by simp only [m_II, m_LL, m_RR, m_IL, m_IR, m_LI, m_LR, m_RI, m_RL, m_NI, m_NL, m_NR, m_okI, m_okL, m_okR, m_okaI, m_okaL, m_okaR, m_arI, m_arL, m_arR, gd_T, bn_S, Nat.reduceEqDiff, Nat.left_eq_add, Nat.add_eq_left, Nat.one_ne_zero, and_false, and_true, false_and, true_and, if_false, if_true]; exact h7), bn_S]
  show (if bz (decide (0 ≤ a.toInt ∧ a.toInt ≤ Q.B.m)) = 0 then some ((-1 : Int32), wr_I M 80 0 0) else if w < 0 then some ((-1 : Int32), wr_I M 80 0 0) else if 1 < w then some ((-1 : Int32), wr_I M 80 0 0) else if w = 0 then sw_gd [sw_ok (wr_I M 80 0 0) 80 12] ((f_Model_isOrbit N 80 x (wr_I M 80 0 0)).bind _) else if x < 0 then some ((-1 : Int32), wr_I M 80 0 0) else if x ≤ 63 then f_Model_range_49 N 80 a w x m (wr_I M 80 0 0) else some ((-1 : Int32), wr_I M 80 0 0)) = _
  by_cases q : 0 ≤ a.toInt ∧ a.toInt ≤ Q.B.m
  · rw [decide_eq_true q, if_neg (show ¬ bz true = 0 by decide)]
    by_cases c0 : w = 0
    · rw [c0, if_neg (by decide), if_neg (by decide), if_pos rfl, show sw_ok (wr_I M 80 0 0) 80 12 = true from ok_80 hM.1, gd_T, isOrbit N _ (show MR (wr_I M 80 0 0) from hM) Q.E.no hn (by simp only [m_II, m_LL, m_RR, m_IL, m_IR, m_LI, m_LR, m_RI, m_RL, m_NI, m_NL, m_NR, m_okI, m_okL, m_okR, m_okaI, m_okaL, m_okaR, m_arI, m_arL, m_arR, gd_T, bn_S, Nat.reduceEqDiff, Nat.left_eq_add, Nat.add_eq_left, Nat.one_ne_zero, and_false, and_true, false_and, true_and, if_false, if_true]; exact h5), bn_S]
      by_cases c1 : 0 ≤ x.toInt ∧ x.toInt < Q.E.no
      · rw [decide_eq_true c1]
        refine Eq.trans ?_ (if_pos ⟨q, Or.inl rfl⟩).symm
        rfl
      · rw [decide_eq_false c1]
        refine Eq.trans ?_ (if_neg ?_).symm
        · rfl
        · rintro ⟨-, h | h⟩
          · exact absurd h (by simp)
          · exact absurd h (by simp)
    · have w0 : (0 : Int32).toInt = 0 := by decide
      have w1 : (1 : Int32).toInt = 1 := by decide
      by_cases c1 : w = 1
      · rw [c1, if_neg (by decide), if_neg (by decide), if_neg (by decide)]
        by_cases c2 : x < 0
        · have : x.toInt < 0 := Int32.lt_iff_toInt_lt.mp c2
          rw [if_pos c2, decide_eq_false (show ¬ (0 ≤ x.toInt ∧ x.toInt < 64) by omega), if_neg (by rintro ⟨-, h | h⟩ <;> exact absurd h (by simp))]
        · have d2 : 0 ≤ x.toInt := Int32.le_iff_toInt_le.mp (Int32.not_lt.mp c2)
          by_cases c3 : x ≤ 63
          · have : x.toInt ≤ 63 := Int32.le_iff_toInt_le.mp c3
            rw [if_neg c2, if_pos c3, decide_eq_true (show (0 ≤ x.toInt ∧ x.toInt < 64) by omega), if_pos ⟨q, Or.inr rfl⟩]
          · have : 63 < x.toInt := Int32.lt_iff_toInt_lt.mp (Int32.not_le.mp c3)
            rw [if_neg c2, if_neg c3, decide_eq_false (show ¬ (0 ≤ x.toInt ∧ x.toInt < 64) by omega), if_neg (by rintro ⟨-, h | h⟩ <;> exact absurd h (by simp))]
      · rw [decide_eq_false c0, decide_eq_false c1, if_neg (show ¬ ((0 ≤ a.toInt ∧ a.toInt ≤ Q.B.m) ∧ ((false && decide (0 ≤ x.toInt ∧ x.toInt < Q.E.no)) = true ∨ (false && decide (0 ≤ x.toInt ∧ x.toInt < 64)) = true)) by simp)]
        by_cases c2 : w < 0
        · rw [if_pos c2]
        · have d2 := Int32.le_iff_toInt_le.mp (Int32.not_lt.mp c2)
          have d3 : ¬ w.toInt = 0 := fun h => c0 (Int32.toInt_inj.1 h)
          have d4 : ¬ w.toInt = 1 := fun h => c1 (Int32.toInt_inj.1 h)
          rw [if_neg c2, if_pos (i32_lt (by omega))]
  · rw [decide_eq_false q, if_pos (show bz false = 0 from rfl), if_neg (fun h => q h.1)]
theorem pr_range (N : Nat) (hN : 200000 ≤ N) (c : Nat) (M : sw_M) (g : Inv c M) (a w x m : Int32) : PR c M (f_House_range N 1 a w x m) (f_Model_range N 80 a w x m) := by
  obtain ⟨Q, mass, gx, g9, g10⟩ := id g
  obtain ⟨g1, g2, g3, g4, g5, g6, g7, g8, g8'⟩ := id gx
  obtain ⟨hH, hF, hE, hh, hB, hpo, hlo, hhi, hQB⟩ := id g1
  have hM := g2.1
  obtain ⟨b0, b1, b2, b3⟩ := id hB
  have h6 := hE.1.2.2.2.1
  have eh := House_range_e N M hH Q h6 hh.2.2.2.1 a w x m
  by_cases q : 0 ≤ a.toInt ∧ a.toInt ≤ Q.B.m
  · have ha := nI_back a q.1
    obtain ⟨K, k1, k2, k3⟩ := Notes_know N (by omega) M hH Q.B hB a.toInt.toNat (by omega)
    rw [ha] at k1
    have fK : Fr A1q M K := k2.mono (fun a k h => Or.inl h)
    have gK := IX_fr fK CiA1 gx
    have cK := CH_fr k2 (fun a k e => by omega) g9
    have hMK := gK.2.1.1
    have eh2 : f_House_range N 1 a w x m M = if bz (okO Q w x) = 0 then (if bz (okC w x) = 0 then some ((-1 : Int32), K) else f_House_range_71 N 1 x m (bz (okO Q w x)) K) else f_House_range_71 N 1 x m (bz (okO Q w x)) K := by
      rw [eh]
      unfold f_House_range_46
      rw [ok_1 hH.1, gd_T, hr_f hH 1 7 36 rfl (by decide), ok_36 hH.1, gd_T, k1, bn_S]
      show (if (1 : Int32) = 0 then _ else _) = _
      rw [if_neg (by decide)]
    by_cases v : okO Q w x = true ∨ okC w x = true
    · have hx0 : 0 ≤ x.toInt := by
        unfold okO okC at v
        simp only [Bool.and_eq_true, decide_eq_true_eq] at v
        omega
      have hbx := nI_back x hx0
      have hv1 : (bz (okO Q w x) = 0 ∧ x.toInt.toNat < 64) ∨ (¬ bz (okO Q w x) = 0 ∧ x.toInt.toNat < Q.E.no) := by
        cases e : okO Q w x
        · rw [e] at v
          have v' := v.resolve_left (by decide)
          unfold okC at v'
          simp only [Bool.and_eq_true, decide_eq_true_eq] at v'
          exact Or.inl ⟨rfl, by omega⟩
        · unfold okO at e
          simp only [Bool.and_eq_true, decide_eq_true_eq] at e
          exact Or.inr ⟨by decide, by omega⟩
      have hv2 : (bz (okO Q w x) = 0 ∧ ¬ w = 0 ∧ x.toInt.toNat < 64) ∨ (¬ bz (okO Q w x) = 0 ∧ w = 0 ∧ x.toInt.toNat < Q.E.no) := by
        cases e : okO Q w x
        · rw [e] at v
          have v' := v.resolve_left (by decide)
          unfold okC at v'
          simp only [Bool.and_eq_true, decide_eq_true_eq] at v'
          exact Or.inl ⟨rfl, by rw [v'.1]; decide, by omega⟩
        · unfold okO at e
          simp only [Bool.and_eq_true, decide_eq_true_eq] at e
          exact Or.inr ⟨by decide, e.1, by omega⟩
      obtain ⟨W, Y, y1, y2, y3, y4⟩ := House_range_71 N hN gK cK a.toInt.toNat (by omega) k3 m (bz (okO Q w x)) x.toInt.toNat hv1
      rw [hbx] at y1
      have gY := IX_fr y4 CiA2 (IX_fr y2 CiA1 gK)
      obtain ⟨Z, z1, z2⟩ := Model_range_49 N hN gY a q (bz (okO Q w x)) w m x.toInt.toNat hv2
      rw [hbx] at z1
      refine ⟨rAns (FQ Q mass a.toInt.toNat) (bz (okO Q w x)) x.toInt.toNat m, Y, Z, ?_, gY.2.1.1, ?_, Inv_q gx g10 (fK.trans y2) y3 (y4.trans z2)⟩
      · rw [eh2]
        cases e : okO Q w x
        · rw [e] at v y1
          have v' := v.resolve_left (by decide)
          rw [v', if_pos (show bz false = 0 from rfl), if_neg (show ¬ bz true = 0 by decide)]
          exact y1
        · rw [e] at y1
          rw [if_neg (show ¬ bz true = 0 by decide)]
          exact y1
      · rw [Model_range_e N Y gY.2.1.1 Q h6 gY.2.1.2.2.2.1.2.2.2.2.2.1 b0 gY.2.1.2.2.2.2.1.2.2.1, if_pos ⟨q, v⟩]
        exact z1
    · refine ⟨-1, K, wr_I K 80 0 0, ?_, hMK, ?_, Inv_q gx g10 fK cK ((Fr.refl _ K).wI _ _ _ (by unfold A2q; omega))⟩
      · rw [eh2, Bool.eq_false_iff.mpr (fun h => v (Or.inl h)), Bool.eq_false_iff.mpr (fun h => v (Or.inr h))]
        rfl
      · rw [Model_range_e N K hMK Q h6 gK.2.1.2.2.2.1.2.2.2.2.2.1 b0 gK.2.1.2.2.2.2.1.2.2.1, if_neg (fun h => v h.2)]
  · refine PR_0 (-1) g ?_ ?_
    · rw [eh]
      unfold f_House_range_46
      rw [ok_1 hH.1, gd_T, hr_f hH 1 7 36 rfl (by decide), ok_36 hH.1, gd_T, Notes_know_no N M hH Q.B hB a (by omega), bn_S]
      rfl
    · rw [Model_range_e N M hM Q h6 hE.2.2.2.2.2.1 b0 b2, if_neg (fun h => q h.1)]
