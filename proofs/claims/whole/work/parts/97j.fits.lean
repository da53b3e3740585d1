/-! 97j: fits, quarrel, models -/
def A1q (a k : Nat) : Prop := a = 41 ∨ Arf a k
def A2q (a k : Nat) : Prop := Awh a k ∨ a = 67 ∨ Akx a k ∨ a = 122 ∨ (a = 80 ∧ k = 0)
theorem CiA1 : ∀ a k, Ci a k → ¬ A1q a k := by intro a k h; unfold Ci Chq Cmq Cf Cx Che Cnt at h; unfold A1q Arf Arh; omega
theorem CiA2 : ∀ a k, Ci a k → ¬ A2q a k := by intro a k h; unfold Ci Chq Cmq Cf Cx Che Cnt at h; unfold A2q Awh Akx Akt Akn Asp Aga Aw Awk Awt; omega
theorem CmA1 : ∀ a k, ((a = 68 ∧ 5 ≤ k ∧ k ≤ 9) ∨ (70 ≤ a ∧ a ≤ 77)) → ¬ A1q a k := by intro a k h; unfold A1q Arf Arh; omega
theorem CmA2 : ∀ a k, ((a = 68 ∧ 5 ≤ k ∧ k ≤ 9) ∨ (70 ≤ a ∧ a ≤ 77)) → ¬ A2q a k := by intro a k h; unfold A2q Awh Akx Akt Akn Asp Aga Aw Awk Awt; omega
theorem ChA2 : ∀ a k, ((125 ≤ a) ∨ (a = 33 ∧ (k = 7 ∨ k = 8))) → ¬ A2q a k := by intro a k h; unfold A2q Awh Akx Akt Akn Asp Aga Aw Awk Awt; omega
def FQ (Q : QT) (mass : Int32) (n : Nat) : FE := (Q.E, mass, Q.B, n, Q.por)
theorem prepR (N : Nat) (hN : 300 ≤ N) {c : Nat} {M : sw_M} {Q : QT} {mass : Int32} (gx : IX c M Q mass) (g9 : CH M Q.E) :
    ∃ W, f_Swarm_refresh N 33 M = some W ∧ Fr Arf M W ∧ CH W Q.E ∧ ∀ p, p < Q.E.no → HO W Q.E mass p := by
  obtain ⟨g1, g2, g3, g4, g5, g6, g7, g8, g8'⟩ := id gx
  obtain ⟨hH, hF, hE, hh, hB, hpo, hlo, hhi, hQB⟩ := id g1
  obtain ⟨W, w1, w2, w3, w4, w5⟩ := Swarm_refresh N hN Q.E mass (mok_of gx) M hH hF hE hh g3.1 g9
  exact ⟨W, w1, w2, CH_of (mok_of gx) w3 w4 w5, w5⟩
theorem hfe_of {c : Nat} {M : sw_M} {Q : QT} {mass : Int32} (gx : IX c M Q mass) (n : Nat) (hn : n ≤ Q.B.m) (ho : ∀ p, p < Q.E.no → HO M Q.E mass p) (hk : ∀ t, t < 10 → rd_I M 41 t = bz (decide (t < n) && !(skF Q.B n (fun _ => false) t))) : HFE M (FQ Q mass n) := by
  have hmb := mok_of gx
  obtain ⟨g1, g2, g3, g4, g5, g6, g7, g8, g8'⟩ := id gx
  obtain ⟨hH, hF, hE, hh, hB, hpo, hlo, hhi, hQB⟩ := id g1
  exact ⟨hH, hh.2.2.2.1, hh.1, hpo, hB, hn, fun p hp => ⟨(hh.2.2.2.2.2 p hp).1, (hh.2.2.2.2.2 p hp).2.1, ho p hp⟩, hk, hE.1, hmb⟩
/-- what a call of fits and its like needs, of the house -/
theorem prepH (N : Nat) (hN : 300 ≤ N) {c : Nat} {M : sw_M} {Q : QT} {mass : Int32} (gx : IX c M Q mass) (g9 : CH M Q.E) (n : Nat) (hn : n ≤ Q.B.m) :
    ∃ K W, f_Notes_know N 36 (nI n) M = some (1, K) ∧ f_Swarm_refresh N 33 K = some W ∧ Fr A1q M K ∧ Fr A1q M W ∧ HFE W (FQ Q mass n) ∧ CH W Q.E := by
  obtain ⟨g1, g2, g3, g4, g5, g6, g7, g8, g8'⟩ := id gx
  obtain ⟨hH, hF, hE, hh, hB, hpo, hlo, hhi, hQB⟩ := id g1
  obtain ⟨K, k1, k2, k3⟩ := Notes_know N hN M hH Q.B hB n hn
  have fK : Fr A1q M K := k2.mono (fun a k h => Or.inl h)
  have gK := IX_fr fK CiA1 gx
  obtain ⟨W, w1, w2, w3, w4⟩ := prepR N hN gK (CH_fr k2 (fun a k e => by omega) g9)
  have fW : Fr A1q M W := fK.trans (w2.mono (fun a k h => Or.inr h))
  exact ⟨K, W, k1, w1, fK, fW, hfe_of (IX_fr fW CiA1 gx) n hn w4 (fun t ht => by rw [w2.I 41 t (by unfold Arf Arh; omega)]; exact k3 t ht), w3⟩
/-- and of the reference -/
theorem prepM (N : Nat) (hN : 400 ≤ N) {c : Nat} {M : sw_M} {Q : QT} {mass : Int32} (gx : IX c M Q mass) (n : Nat) (hn : n ≤ Q.B.m) :
    ∃ W Z, f_Model_spread N 80 mass (wr_I M 80 0 0) = some W ∧ f_Model_knows N 80 (nI n) W = some Z ∧ MR W ∧ Fr A2q M Z ∧ MFE Z (FQ Q mass n) := by
  have f0 : Fr A2q M (wr_I M 80 0 0) := (Fr.refl _ M).wI _ _ _ (by unfold A2q; omega)
  have g0 := IX_fr f0 CiA2 gx
  have hmb := mok_of gx
  obtain ⟨g1, g2, g3, g4⟩ := id g0
  obtain ⟨hM, hH, hF, hE, hB, hpo, hsp, hQB⟩ := id g2
  obtain ⟨W, w1, w2, w3⟩ := Model_spread N hN Q.E mass hmb (wr_I M 80 0 0) hM hH hF hE
  have fW : Fr A2q M W := f0.trans (w2.mono (fun a k h => by unfold A2q Akx Akt; exact Or.inr (Or.inr (Or.inl (Or.inl (Or.inl h))))))
  have gW := IX_fr fW CiA2 gx
  obtain ⟨Z, z1, z2, z3⟩ := Model_knows N (by omega) W gW.2.1.1 Q.B gW.2.1.2.2.2.2.1 n hn
  have fZ : Fr A2q M Z := fW.trans (z2.mono (fun a k h => by unfold A2q Akx; exact Or.inr (Or.inr (Or.inl (Or.inr h)))))
  have gZ := (IX_fr fZ CiA2 gx).2.1
  have hD : ∀ o, o < Q.E.no → DD Q.E mass o ≤ 240 := fun o ho => Nat.le_trans (ways hE.1 hmb ho).1 hE.1.2.2.1
  exact ⟨W, Z, w1, z1, gW.2.1.1, fZ, gZ.1, gZ.2.2.2.1.2.2.2.2.2.1, hE.1.2.2.2.1, gZ.2.2.2.1.2.2.2.1, gZ.2.2.2.2.2.1, gZ.2.2.2.2.1, hn, MG_fr z2 hD (fun a k h => by unfold Akn; omega) w3, z3, hD⟩
theorem isKnown (N : Nat) (M : sw_M) (hM : MR M) (m : Nat) (hm : m ≤ 10) (h : rd_I M 80 76 = nI m) (a : Int32) : f_Model_isKnown N 80 a M = some (bz (decide (0 ≤ a.toInt ∧ a.toInt ≤ m)), M) := by
  unfold f_Model_isKnown
  have z0 : (0 : Int32).toInt = 0 := by decide
  by_cases c0 : a < 0
  · have := Int32.lt_iff_toInt_lt.mp c0
    rw [if_pos c0, decide_eq_false (by omega)]; rfl
  have d0 : 0 ≤ a.toInt := Int32.le_iff_toInt_le.mp (Int32.not_lt.mp c0)
  rw [if_neg c0, ok_80 hM.1, gd_T, h]
  by_cases c1 : nI m < a
  · have := Int32.lt_iff_toInt_lt.mp c1
    rw [nI_toInt (by omega)] at this
    rw [if_pos c1, decide_eq_false (by omega)]; rfl
  · have := Int32.le_iff_toInt_le.mp (Int32.not_lt.mp c1)
    rw [nI_toInt (by omega)] at this
    rw [if_neg c1, decide_eq_true (by omega)]; rfl
theorem Inv_q {c : Nat} {M W Z : sw_M} {Q : QT} {mass : Int32} (gx : IX c M Q mass) (g10 : CM M Q.E Q.B Q.por Q.lo Q.hi) (f1 : Fr A1q M W) (hc : CH W Q.E) (f2 : Fr A2q W Z) : Inv (c + 1) Z :=
  ⟨Q, mass, IX_up (IX_fr f2 CiA2 (IX_fr f1 CiA1 gx)), CH_fr f2 ChA2 hc, CM_fr f2 CmA2 (CM_fr f1 CmA1 g10)⟩
theorem AwhA2 : ∀ a k, Awh a k → A2q a k := fun a k h => Or.inl h
theorem AwtA2 : ∀ a k, Awt a k → A2q a k := fun a k h => by unfold A2q Akx Akt; exact Or.inr (Or.inr (Or.inl (Or.inl (Or.inr (Or.inl h)))))
theorem pr_fits (N : Nat) (hN : 200000 ≤ N) (c : Nat) (M : sw_M) (g : Inv c M) (a : Int32) : PR c M (f_House_fits N 1 a) (f_Model_fits N 80 a) := by
  obtain ⟨Q, mass, gx, g9, g10⟩ := id g
  obtain ⟨g1, g2, g3, g4, g5, g6, g7, g8, g8'⟩ := id gx
  obtain ⟨hH, hF, hE, hh, hB, hpo, hlo, hhi, hQB⟩ := id g1
  have hM := g2.1
  obtain ⟨b0, b1, b2, b3⟩ := id hB
  by_cases q : 0 ≤ a.toInt ∧ a.toInt ≤ Q.B.m
  · have ha := nI_back a q.1
    obtain ⟨K, W, h1, h2, h3, h4, h5, h6⟩ := prepH N (by omega) gx g9 a.toInt.toNat (by omega)
    rw [ha] at h1
    have hp : 0 ≤ (FQ Q mass a.toInt.toNat).por.toInt ∧ (FQ Q mass a.toInt.toNat).por.toInt ≤ 10 := by
      have := hQB.2.2.2.1
      show 0 ≤ Q.por.toInt ∧ Q.por.toInt ≤ 10
      omega
    have hHK := h3.hr hH
    have hHW := h4.hr hH
    have eh : ∀ r, f_House_fits N 1 a M = r ↔ ((f_Fits_first N 42 W).bind (fun u9 => f_House_fits_33 N N 1 (0 : Int32) u9.1 (0 : Int32) u9.2)) = r := fun r => by
      unfold f_House_fits
      rw [ok_1 hH.1, gd_T, hr_f hH 1 7 36 rfl (by decide), ok_36 hH.1, gd_T, h1, bn_S]
      show (if (1 : Int32) = 0 then _ else sw_gd [sw_ok K 1 11] (sw_gd [sw_ok K (rd_R K 1 6) 10] ((f_Swarm_refresh N (rd_R K 1 6) K).bind _))) = _ ↔ _
      rw [if_neg (by decide), ok_1 hHK.1, gd_T, hr_f hHK 1 6 33 rfl (by decide), ok_33 hHK.1, gd_T, h2, bn_S]
      rw [ok_1 hHW.1, gd_T, hr_f hHW 1 8 42 rfl (by decide), ok_42 hHW.1, gd_T]
    have em : ∀ V, Fr A2q W V → ∃ Z, Fr A2q W Z ∧ MFE Z (FQ Q mass a.toInt.toNat) ∧ f_Model_fits N 80 a V = ((f_Model_toFit N 80 1 Z).bind (fun u8 => f_Model_fits_36 N N 80 (0 : Int32) u8.1 u8.2)) := fun V fV => by
      have gV := IX_fr fV CiA2 (IX_fr h4 CiA1 gx)
      obtain ⟨S, Z, s1, s2, s3, s4, s5⟩ := prepM N (by omega) gV a.toInt.toNat (by omega)
      refine ⟨Z, fV.trans s4, s5, ?_⟩
      rw [ha] at s2
      have hMV := gV.2.1.1
      have i15 : rd_I (wr_I V 80 0 0) 80 15 = mass := by simp only [m_II, m_LL, m_RR, m_IL, m_IR, m_LI, m_LR, m_RI, m_RL, m_NI, m_NL, m_NR, m_okI, m_okL, m_okR, m_okaI, m_okaL, m_okaR, m_arI, m_arL, m_arR, gd_T, bn_S, Nat.reduceEqDiff, Nat.left_eq_add, Nat.add_eq_left, Nat.one_ne_zero, and_false, and_true, false_and, true_and, if_false, if_true]; exact gV.2.2.1.2.1
      unfold f_Model_fits
      rw [ok_80 hMV.1, gd_T, isKnown N _ (show MR (wr_I V 80 0 0) from hMV) Q.B.m b0 (by simp only [m_II, m_LL, m_RR, m_IL, m_IR, m_LI, m_LR, m_RI, m_RL, m_NI, m_NL, m_NR, m_okI, m_okL, m_okR, m_okaI, m_okaL, m_okaR, m_arI, m_arL, m_arR, gd_T, bn_S, Nat.reduceEqDiff, Nat.left_eq_add, Nat.add_eq_left, Nat.one_ne_zero, and_false, and_true, false_and, true_and, if_false, if_true]; exact gV.2.1.2.2.2.2.1.2.2.1), bn_S]
      show (if bz (decide (0 ≤ a.toInt ∧ a.toInt ≤ Q.B.m)) = 0 then _ else sw_gd [sw_ok (wr_I V 80 0 0) 80 12] ((f_Model_spread N 80 (rd_I (wr_I V 80 0 0) 80 15) (wr_I V 80 0 0)).bind _)) = _
      rw [decide_eq_true q, if_neg (show ¬ bz true = 0 by decide), show sw_ok (wr_I V 80 0 0) 80 12 = true from ok_80 hMV.1, gd_T, i15, s1, bn_S, ok_80 s3.1, gd_T, s2, bn_S, ok_80 s5.1.1, gd_T]
    rcases House_ff N hN (FQ Q mass a.toInt.toNat) hp W h5 with ⟨n1, Y, y1, y2⟩ | ⟨V, Y, n0, n1, y1, y2, y3⟩
    · obtain ⟨Z, z1, z2, z3⟩ := em Y (y2.mono AwhA2)
      rcases Model_ff N hN (FQ Q mass a.toInt.toNat) hp Z z2 with ⟨m1, X, x1, x2⟩ | ⟨V', X, m0, m1, x1, x2, x3⟩
      · obtain ⟨j, hj⟩ : ∃ k, N = k + 1 := ⟨N - 1, by omega⟩
        refine ⟨0, Y, X, (eh _).mpr ?_, (y2.mono AwhA2).mr (h4.mr hM), ?_, Inv_q gx g10 h4 h6 (z1.trans (x2.mono AwtA2))⟩
        · rw [y1, bn_S, show f_House_fits_33 N N = f_House_fits_33 N (j + 1) by rw [← hj]]
          rfl
        · rw [z3, x1, bn_S, show f_Model_fits_36 N N = f_Model_fits_36 N (j + 1) by rw [← hj]]
          rfl
      · rw [n1] at m1
        exact absurd m1 (by simp)
    · have hmu := (mu_b hp.2 hE.1.2.2.2.1 y3.2).2
      obtain ⟨T, t1, t2⟩ := House_fits_33 N hN (FQ Q mass a.toInt.toNat) hp.2 n0 161053 0 0 N Y V (HFE_fr y2 h5) y3 (by omega) (by omega) (by omega)
      have fT : Fr A2q W T := (y2.mono AwhA2).trans (t2.mono AwhA2)
      obtain ⟨Z, z1, z2, z3⟩ := em T fT
      rcases Model_ff N hN (FQ Q mass a.toInt.toNat) hp Z z2 with ⟨m1, X, x1, x2⟩ | ⟨V', X, m0, m1, x1, x2, x3⟩
      · rw [n1] at m1
        exact absurd m1 (by simp)
      · rw [n1] at m1
        obtain rfl : V = V' := by simpa using m1
        obtain ⟨U, u1, u2⟩ := Model_fits_36 N hN (FQ Q mass a.toInt.toNat) hp.2 n0 161053 0 N X V (MFE_fr x2 z2) x3 (by omega) (by omega)
        refine ⟨nI (0 + cF (FQ Q mass a.toInt.toNat) 161053 (some V)), T, U, (eh _).mpr ?_, fT.mr (h4.mr hM), ?_, Inv_q gx g10 h4 h6 ((z1.trans (x2.mono AwtA2)).trans (u2.mono AwtA2))⟩
        · rw [y1, bn_S]
          exact t1
        · rw [z3, x1, bn_S]
          exact u1
  · refine PR_0 (-1) g ?_ ?_
    · unfold f_House_fits
      rw [ok_1 hH.1, gd_T, hr_f hH 1 7 36 rfl (by decide), ok_36 hH.1, gd_T, Notes_know_no N M hH Q.B hB a (by omega), bn_S]
      rfl
    · unfold f_Model_fits
      rw [ok_80 hM.1, gd_T, isKnown N _ (show MR (wr_I M 80 0 0) from hM) Q.B.m b0 (by simp only [m_II, m_LL, m_RR, m_IL, m_IR, m_LI, m_LR, m_RI, m_RL, m_NI, m_NL, m_NR, m_okI, m_okL, m_okR, m_okaI, m_okaL, m_okaR, m_arI, m_arL, m_arR, gd_T, bn_S, Nat.reduceEqDiff, Nat.left_eq_add, Nat.add_eq_left, Nat.one_ne_zero, and_false, and_true, false_and, true_and, if_false, if_true]; exact b2), bn_S, decide_eq_false q]
      rfl
theorem pr_quarrel (N : Nat) (hN : 200000 ≤ N) (c : Nat) (M : sw_M) (g : Inv c M) (a : Int32) : PR c M (f_House_quarrel N 1 a) (f_Model_quarrel N 80 a) := by
  obtain ⟨Q, mass, gx, g9, g10⟩ := id g
  obtain ⟨g1, g2, g3, g4, g5, g6, g7, g8, g8'⟩ := id gx
  obtain ⟨hH, hF, hE, hh, hB, hpo, hlo, hhi, hQB⟩ := id g1
  have hM := g2.1
  obtain ⟨b0, b1, b2, b3⟩ := id hB
  by_cases q : 0 ≤ a.toInt ∧ a.toInt ≤ Q.B.m
  · have ha := nI_back a q.1
    obtain ⟨K, W, h1, h2, h3, h4, h5, h6⟩ := prepH N (by omega) gx g9 a.toInt.toNat (by omega)
    rw [ha] at h1
    have hp : 0 ≤ (FQ Q mass a.toInt.toNat).por.toInt ∧ (FQ Q mass a.toInt.toNat).por.toInt ≤ 10 := by
      have := hQB.2.2.2.1
      show 0 ≤ Q.por.toInt ∧ Q.por.toInt ≤ 10
      omega
    have hHK := h3.hr hH
    have hHW := h4.hr hH
    obtain ⟨T, t1, t2⟩ := Fits_fewestApart N hN (FQ Q mass a.toInt.toNat) hp W h5
    have fT : Fr A2q W T := t2.mono (fun a k h => by unfold Aqh at h; unfold A2q; rcases h with h | h; exact Or.inl h; exact Or.inr (Or.inl h))
    have gT := IX_fr fT CiA2 (IX_fr h4 CiA1 gx)
    obtain ⟨S, Z, s1, s2, s3, s4, s5⟩ := prepM N (by omega) gT a.toInt.toNat (by omega)
    rw [ha] at s2
    obtain ⟨U, u1, u2⟩ := Model_quarrel_z N hN (FQ Q mass a.toInt.toNat) hp Z s5
    have hMT := gT.2.1.1
    have i15 : rd_I (wr_I T 80 0 0) 80 15 = mass := by simp only [m_II, m_LL, m_RR, m_IL, m_IR, m_LI, m_LR, m_RI, m_RL, m_NI, m_NL, m_NR, m_okI, m_okL, m_okR, m_okaI, m_okaL, m_okaR, m_arI, m_arL, m_arR, gd_T, bn_S, Nat.reduceEqDiff, Nat.left_eq_add, Nat.add_eq_left, Nat.one_ne_zero, and_false, and_true, false_and, true_and, if_false, if_true]; exact gT.2.2.1.2.1
    refine ⟨qaM (FQ Q mass a.toInt.toNat), T, U, ?_, hMT, ?_, Inv_q gx g10 h4 h6 ((fT.trans s4).trans (u2.mono (fun a k h => by unfold Aqr at h; rcases h with h | h; exact AwtA2 a k h; exact Or.inr (Or.inr (Or.inr (Or.inl h))))))⟩
    · unfold f_House_quarrel
      rw [ok_1 hH.1, gd_T, hr_f hH 1 7 36 rfl (by decide), ok_36 hH.1, gd_T, h1, bn_S]
      show (if (1 : Int32) = 0 then _ else sw_gd [sw_ok K 1 11] (sw_gd [sw_ok K (rd_R K 1 6) 10] ((f_Swarm_refresh N (rd_R K 1 6) K).bind _))) = _
      rw [if_neg (by decide), ok_1 hHK.1, gd_T, hr_f hHK 1 6 33 rfl (by decide), ok_33 hHK.1, gd_T, h2, bn_S]
      rw [ok_1 hHW.1, gd_T, hr_f hHW 1 8 42 rfl (by decide), ok_42 hHW.1, gd_T, t1, bn_S]
    · unfold f_Model_quarrel
      rw [ok_80 hMT.1, gd_T, isKnown N _ (show MR (wr_I T 80 0 0) from hMT) Q.B.m b0 (by simp only [m_II, m_LL, m_RR, m_IL, m_IR, m_LI, m_LR, m_RI, m_RL, m_NI, m_NL, m_NR, m_okI, m_okL, m_okR, m_okaI, m_okaL, m_okaR, m_arI, m_arL, m_arR, gd_T, bn_S, Nat.reduceEqDiff, Nat.left_eq_add, Nat.add_eq_left, Nat.one_ne_zero, and_false, and_true, false_and, true_and, if_false, if_true]; exact gT.2.1.2.2.2.2.1.2.2.1), bn_S]
      show (if bz (decide (0 ≤ a.toInt ∧ a.toInt ≤ Q.B.m)) = 0 then _ else sw_gd [sw_ok (wr_I T 80 0 0) 80 12] ((f_Model_spread N 80 (rd_I (wr_I T 80 0 0) 80 15) (wr_I T 80 0 0)).bind _)) = _
      rw [decide_eq_true q, if_neg (show ¬ bz true = 0 by decide), show sw_ok (wr_I T 80 0 0) 80 12 = true from ok_80 hMT.1, gd_T, i15, s1, bn_S, ok_80 s3.1, gd_T, s2, bn_S]
      exact u1
  · refine PR_0 (-1) g ?_ ?_
    · unfold f_House_quarrel
      rw [ok_1 hH.1, gd_T, hr_f hH 1 7 36 rfl (by decide), ok_36 hH.1, gd_T, Notes_know_no N M hH Q.B hB a (by omega), bn_S]
      rfl
    · unfold f_Model_quarrel
      rw [ok_80 hM.1, gd_T, isKnown N _ (show MR (wr_I M 80 0 0) from hM) Q.B.m b0 (by simp only [m_II, m_LL, m_RR, m_IL, m_IR, m_LI, m_LR, m_RI, m_RL, m_NI, m_NL, m_NR, m_okI, m_okL, m_okR, m_okaI, m_okaL, m_okaR, m_arI, m_arL, m_arR, gd_T, bn_S, Nat.reduceEqDiff, Nat.left_eq_add, Nat.add_eq_left, Nat.one_ne_zero, and_false, and_true, false_and, true_and, if_false, if_true]; exact b2), bn_S, decide_eq_false q]
      rfl
def A3q (a k : Nat) : Prop := Amk a k ∨ Amd a k
theorem pr_models (N : Nat) (hN : 200000 ≤ N) (c : Nat) (M : sw_M) (g : Inv c M) (pa what : Int32) : PR c M (f_House_models N 1 pa what) (f_Model_models N 80 pa what) := by
  obtain ⟨Q, mass, gx, g9, g10⟩ := id g
  obtain ⟨g1, g2, g3, g4, g5, g6, g7, g8, g8'⟩ := id gx
  obtain ⟨hH, hF, hE, hh, hB, hpo, hlo, hhi, hQB⟩ := id g1
  obtain ⟨hM, -, -, -, -, hpo', hsp, -⟩ := id g2
  by_cases q : ¬ pa < 1 ∧ ¬ 99999 < pa ∧ ¬ what < 0 ∧ what ≤ 7
  · obtain ⟨q1, q2, q3, q4⟩ := q
    have d0 : 1 ≤ pa.toInt := Int32.le_iff_toInt_le.mp (Int32.not_lt.mp q1)
    have d1 : pa.toInt ≤ 99999 := Int32.le_iff_toInt_le.mp (Int32.not_lt.mp q2)
    have qB : QB (Q.E, Q.B, Q.por, Q.lo, Q.hi, pa) := ⟨hQB.1, hQB.2.1, ⟨d0, d1⟩, hQB.2.2.2⟩
    obtain ⟨W, w1, w2, w3, w4, w5⟩ := House_models N hN (Q.E, Q.B, Q.por, Q.lo, Q.hi, pa) M ⟨hH, hF, hE, hh, hB, hpo, hlo, hhi, qB⟩ g9 g10 what q3 q4
    have hMW := w2.mr hM
    have mW : MQq W (Q.E, Q.B, Q.por, Q.lo, Q.hi, pa) := MQq_fr w2 (fun a k h => by unfold Cmq Cf Cx Cnt at h; unfold Amk Ami Arf Arh Awh; omega) ⟨hM, hH, hF, hE, hB, hpo', hsp, qB⟩
    obtain ⟨Z, z1, z2⟩ := Model_models N hN (Q.E, Q.B, Q.por, Q.lo, Q.hi, pa) W mW what q3 q4
    have f3 : Fr A3q M Z := (w2.mono (fun a k h => Or.inl h)).trans (z2.mono (fun a k h => Or.inr h))
    refine ⟨_, W, Z, w1, hMW, z1, Inv_set f3 ?_ gx Q mass (HQ_fr f3 ?_ g1) (MQq_fr f3 ?_ g2) ⟨?_, ?_, g3.2.2⟩ rfl rfl (CH_fr z2 ?_ w3) (CM_fr z2 ?_ w4)⟩
    · intro a k e; unfold Cr at e; unfold A3q Amk Ami Arf Arh Awh Amd Akx Akt Akn Asp Aga Aw Awk Awt; omega
    · intro a k e; unfold Chq Cf Cx Che Cnt at e; unfold A3q Amk Ami Arf Arh Awh Amd Akx Akt Akn Asp Aga Aw Awk Awt; omega
    · intro a k e; unfold Cmq Cf Cx Cnt at e; unfold A3q Amk Ami Arf Arh Awh Amd Akx Akt Akn Asp Aga Aw Awk Awt; omega
    · rw [z2.I 3 5 (by unfold Amd Akx Akt Akn Asp Aga Aw Awk Awt; omega), w5]; exact g3.1
    · rw [f3.I 80 15 (by unfold A3q Amk Ami Arf Arh Awh Amd Akx Akt Akn Asp Aga Aw Awk Awt; omega)]; exact g3.2.1
    · intro a k e; unfold Amd Akx Akt Akn Asp Aga Aw Awk Awt; omega
    · intro a k e; unfold Amd Akx Akt Akn Asp Aga Aw Awk Awt; omega
  · have n : ∃ r, f_House_models N 1 pa what M = some (r, M) ∧ f_Model_models N 80 pa what M = some (r, wr_I M 80 0 0) := by
      refine ⟨-1, ?_, ?_⟩
      · unfold f_House_models
        by_cases c1 : pa < 1
        · rw [if_pos c1]
        by_cases c2 : 99999 < pa
        · rw [if_neg c1, if_pos c2]
        by_cases c3 : what < 0
        · rw [if_neg c1, if_neg c2, if_pos c3]
        · rw [if_neg c1, if_neg c2, if_neg c3, if_neg (fun c4 => q ⟨c1, c2, c3, c4⟩)]
      · unfold f_Model_models
        rw [ok_80 hM.1, gd_T]
        by_cases c1 : pa < 1
        · rw [if_pos c1]
        by_cases c2 : 99999 < pa
        · rw [if_neg c1, if_pos c2]
        by_cases c3 : what < 0
        · rw [if_neg c1, if_neg c2, if_pos c3]
        · rw [if_neg c1, if_neg c2, if_neg c3, if_neg (fun c4 => q ⟨c1, c2, c3, c4⟩)]
    obtain ⟨r, r1, r2⟩ := n
    exact PR_0 r g r1 r2
