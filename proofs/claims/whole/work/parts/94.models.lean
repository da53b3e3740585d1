/-! 94: MODELS on the reference's side: which are kept -/
def SPM (M : sw_M) (lo hi : Int32) : Prop := (rd_I M 80 13 = -1 ∧ lo = 0 ∧ hi = 0) ∨ ∃ p, p < 8 ∧ rd_I M 80 13 = nI p ∧ rd_I M 86 p = lo ∧ rd_I M 87 p = hi
theorem SPM_fr {A : Nat → Nat → Prop} {M W : sw_M} (h : Fr A M W) (hA : ∀ a k, Cx a k → ¬ A a k) {lo hi : Int32} (g : SPM M lo hi) : SPM W lo hi := by
  unfold SPM
  rw [h.I 80 13 (hA _ _ (by unfold Cx; omega))]
  rcases g with g | ⟨p, g1, g2, g3, g4⟩
  · exact Or.inl g
  · exact Or.inr ⟨p, g1, g2, (h.I _ _ (hA _ _ (by unfold Cx; omega))).trans g3, (h.I _ _ (hA _ _ (by unfold Cx; omega))).trans g4⟩
theorem Model_spanLow (N : Nat) (M : sw_M) (hM : MR M) {lo hi : Int32} (h : SPM M lo hi) : f_Model_spanLow N 80 M = some (lo, M) := by
  unfold f_Model_spanLow
  rw [ok_80 hM.1, gd_T]
  rcases h with ⟨h1, h2, h3⟩ | ⟨p, g1, g2, g3, g4⟩
  · rw [if_pos h1, h2]
  · rw [g2, if_neg (fun e => by
      have := congrArg Int32.toInt e
      rw [nI_toInt (by omega), show (-1 : Int32).toInt = -1 from by decide] at this
      omega), mr_6 hM, ar_86 hM.1, ti_n (show p < 16 by omega) (by decide), gd_T, cl_n (by omega), g3]
theorem Model_spanHigh (N : Nat) (M : sw_M) (hM : MR M) {lo hi : Int32} (h : SPM M lo hi) : f_Model_spanHigh N 80 M = some (hi, M) := by
  unfold f_Model_spanHigh
  rw [ok_80 hM.1, gd_T]
  rcases h with ⟨h1, h2, h3⟩ | ⟨p, g1, g2, g3, g4⟩
  · rw [if_pos h1, h3]
  · rw [g2, if_neg (fun e => by
      have := congrArg Int32.toInt e
      rw [nI_toInt (by omega), show (-1 : Int32).toInt = -1 from by decide] at this
      omega), mr_7 hM, ar_87 hM.1, ti_n (show p < 16 by omega) (by decide), gd_T, cl_n (by omega), g4]
theorem Model_modelMany_2 (N : Nat) (Q : QT) (hQ : QB Q) (M : sw_M) (hM : MR M) (hs : SPM M Q.lo Q.hi) : ∀ (d i j : Nat), i + d = nm Q → 1 ≤ i → d < j → f_Model_modelMany_2 N j 80 Q.pa (nI i) M = some (nI (nm Q), M) := by
  have hb := nm_b hQ
  have hpa := hQ.2.2.1
  have hlo := hQ.2.1
  have key : ∀ i : Nat, i ≤ 8 → ((Q.hi.toInt64 < Q.lo.toInt64 + (nI i).toInt64 * Q.pa.toInt64) ↔ Q.hi.toInt < Q.lo.toInt + (i : Int) * Q.pa.toInt) := fun i hi => by
    have hp : 0 ≤ (i : Int) * Q.pa.toInt := Int.mul_nonneg (by omega) (by omega)
    have hp2 : (i : Int) * Q.pa.toInt ≤ 8 * 99999 := Int.mul_le_mul (by omega) hpa.2 (by omega) (by omega)
    have e1 : ((nI i).toInt64 * Q.pa.toInt64).toInt = (i : Int) * Q.pa.toInt := by
      rw [m64 (by rw [t64, t64, nI_toInt (by omega)]; omega) (by rw [t64, t64, nI_toInt (by omega)]; omega), t64, t64, nI_toInt (by omega)]
    rw [Int64.lt_iff_toInt_lt, a64 (by rw [e1, t64]; omega) (by rw [e1, t64]; omega), e1, t64, t64]
  intro d
  induction d with
  | zero =>
    intro i j hi h1 hj
    obtain ⟨j, rfl⟩ : ∃ k, j = k + 1 := ⟨j - 1, by omega⟩
    obtain rfl : i = nm Q := by omega
    rw [f_Model_modelMany_2]
    by_cases c : nm Q = 8
    · rw [if_pos (show (8 : Int32) ≤ nI (nm Q) from by rw [c]; decide)]
    · rw [if_neg (show ¬ (8 : Int32) ≤ nI (nm Q) from (nI_ge (by omega) (by omega) : ¬ nI 8 ≤ nI (nm Q))), ok_80 hM.1, gd_T, Model_spanLow N M hM hs, bn_S]
      show sw_gd [sw_ok M 80 12] ((f_Model_spanHigh N 80 M).bind _) = _
      rw [ok_80 hM.1, gd_T, Model_spanHigh N M hM hs, bn_S]
      show (if Q.hi.toInt64 < Q.lo.toInt64 + (nI (nm Q)).toInt64 * Q.pa.toInt64 then _ else _) = _
      have := nm_in hQ (nm Q)
      rw [if_pos ((key (nm Q) (by omega)).mpr (by omega))]
  | succ d ih =>
    intro i j hi h1 hj
    obtain ⟨j, rfl⟩ : ∃ k, j = k + 1 := ⟨j - 1, by omega⟩
    rw [f_Model_modelMany_2, if_neg (show ¬ (8 : Int32) ≤ nI i from (nI_ge (by omega) (by omega) : ¬ nI 8 ≤ nI i)), ok_80 hM.1, gd_T, Model_spanLow N M hM hs, bn_S]
    show sw_gd [sw_ok M 80 12] ((f_Model_spanHigh N 80 M).bind _) = _
    rw [ok_80 hM.1, gd_T, Model_spanHigh N M hM hs, bn_S]
    show (if Q.hi.toInt64 < Q.lo.toInt64 + (nI i).toInt64 * Q.pa.toInt64 then _ else f_Model_modelMany_2 N j 80 Q.pa (nI i + 1) M) = _
    have := nm_in hQ i
    rw [if_neg (fun q => by have := (key i (by omega)).mp q; omega), nI_1]
    exact ih (i + 1) j (by omega) (by omega) (by omega)
theorem Model_modelMany (N : Nat) (hN : 300 ≤ N) (Q : QT) (hQ : QB Q) (M : sw_M) (hM : MR M) (hs : SPM M Q.lo Q.hi) : f_Model_modelMany N 80 Q.pa M = some (nI (nm Q), M) := by
  have hb := nm_b hQ
  exact Model_modelMany_2 N Q hQ M hM hs (nm Q - 1) 1 N (by omega) (by omega) (by omega)
/-- what the reference needs for MODELS -/
def MQq (M : sw_M) (Q : QT) : Prop := MR M ∧ HR M ∧ FR M Q.E.n ∧ ME M Q.E ∧ NT M Q.B ∧ rd_I M 80 75 = Q.por ∧ SPM M Q.lo Q.hi ∧ QB Q
def Cmq (a k : Nat) : Prop := Cf a k ∨ Cx a k ∨ Cnt a k ∨ (a = 80 ∧ k = 75)
theorem MQq_fr {A : Nat → Nat → Prop} {M W : sw_M} (h : Fr A M W) (hA : ∀ a k, Cmq a k → ¬ A a k) {Q : QT} (g : MQq M Q) : MQq W Q := by
  obtain ⟨g1, g2, g3, g4, g5, g6, g7, g8⟩ := g
  exact ⟨h.mr g1, h.hr g2, FR_fr h (fun a k c => hA a k (Or.inl c)) g2 g3, ME_fr h (fun a k c => hA a k (Or.inr (Or.inl c))) g4, NT_fr h (fun a k c => hA a k (Or.inr (Or.inr (Or.inl c)))) g5, (h.I _ _ (hA _ _ (Or.inr (Or.inr (Or.inr ⟨rfl, rfl⟩))))).trans g6, SPM_fr h (fun a k c => hA a k (Or.inr (Or.inl c))) g7, g8⟩
def Akt (a k : Nat) : Prop := Asp a k ∨ Awt a k ∨ a = 123
theorem CmqAkt : ∀ a k, Cmq a k → ¬ Akt a k := by intro a k h; unfold Cmq Cf Cx Cnt at h; unfold Akt Asp Aga Aw Awk Awt; omega
theorem Model_keptOf_53 (N : Nat) (hN : 300 ≤ N) (k12 : Nat → Int32 → Int32 → Int32 → sw_M → Option (Int32 × sw_M)) (F : FE) (W : Nat → Int32) (pa kt : Int32) (i : Nat) (hi : i < 8) : ∀ (d c j : Nat) (M : sw_M), c + d = 64 → d < j → MFE M F → MWt M F W → (∀ t, t < c → rd_I M 123 (64 * i + t) = lig F W t) →
    ∃ Z, f_Model_keptOf_53 N k12 j 80 pa kt (nI i) (nI c) M = k12 80 pa kt (nI (i + 1)) Z ∧ Fr (fun a k => a = 123 ∧ 64 * i ≤ k ∧ k < 64 * i + 64) M Z ∧ ∀ t, t < 64 → rd_I Z 123 (64 * i + t) = lig F W t
  | 0, c, j, M, hd, hj, hF, hW, ht => by
    obtain ⟨j, rfl⟩ : ∃ k, j = k + 1 := ⟨j - 1, by omega⟩
    obtain rfl : c = 64 := by omega
    refine ⟨M, ?_, Fr.refl _ _, ht⟩
    rw [f_Model_keptOf_53, if_pos (show (64 : Int32) ≤ nI 64 from by decide), f_Model_keptOf_84, nI_1]
  | d + 1, c, j, M, hd, hj, hF, hW, ht => by
    obtain ⟨j, rfl⟩ : ∃ k, j = k + 1 := ⟨j - 1, by omega⟩
    have hM := hF.1
    rw [f_Model_keptOf_53, if_neg (show ¬ (64 : Int32) ≤ nI c from (nI_ge (by omega) (by omega) : ¬ nI 64 ≤ nI c)), ok_80 hM.1, gd_T, Model_lightOf N hN F M hF W hW c (by omega), bn_S]
    show ∃ Z, sw_gd [sw_ar M (rd_R M 80 88) 13 ((64 : Int32) * nI i + nI c)] (f_Model_keptOf_53 N k12 j 80 pa kt (nI i) (nI c + 1) (wr_I M (rd_R M 80 88) ((64 : Int32) * nI i + nI c).toNatClampNeg (lig F W c))) = _ ∧ _
    rw [mr_88 hM, ix64, ar_123 hM.1, ti_n (show 64 * i + c < 512 by omega) (by decide), gd_T, cl_n (by omega), nI_1]
    have hf : Fr (fun a k => a = 123 ∧ 64 * i ≤ k ∧ k < 64 * i + 64) M (wr_I M 123 (64 * i + c) (lig F W c)) := (Fr.refl _ M).wI _ _ _ ⟨rfl, by omega, by omega⟩
    have hF' : MFE (wr_I M 123 (64 * i + c) (lig F W c)) F := by
      obtain ⟨g1, g2, g3, g4, g5, g6, g7, g8, g9, g10⟩ := hF
      exact ⟨g1, (hf.I _ _ (by omega)).trans g2, g3, (hf.I _ _ (by omega)).trans g4, (hf.I _ _ (by omega)).trans g5, NT_fr hf (fun a k c d => by unfold Cnt at c; omega) g6, g7, MG_fr hf g10 (fun a k c d => by omega) g8, (hf.I _ _ (by omega)).trans g9, g10⟩
    obtain ⟨Z, z1, z2, z3⟩ := Model_keptOf_53 N hN k12 F W pa kt i hi d (c + 1) j _ (by omega) (by omega) hF' (MWt_fr hf (fun a k c d => by unfold Awt at c; omega) hW) (fun t h => by
      simp only [m_II, m_LL, m_RR, m_IL, m_IR, m_LI, m_LR, m_RI, m_RL, m_NI, m_NL, m_NR, m_okI, m_okL, m_okR, m_okaI, m_okaL, m_okaR, m_arI, m_arL, m_arR, gd_T, bn_S, Nat.reduceEqDiff, Nat.left_eq_add, Nat.add_eq_left, Nat.one_ne_zero, and_false, and_true, false_and, true_and, if_false, if_true, Nat.add_left_cancel_iff]
      by_cases e : t = c
      · simp [e]
      · simp only [e, if_false]
        exact ht t (by omega))
    exact ⟨Z, z1, hf.trans z2, z3⟩
/-- tells of the MODELS below k -/
noncomputable def MTe (M : sw_M) (Q : QT) (k : Nat) : Prop := ∀ i, i < k → kp Q i = true → ∀ c, c < 64 → rd_I M 123 (64 * i + c) = tel Q i c
theorem Model_keptOf_12 (N : Nat) (hN : 200000 ≤ N) (Q : QT) : ∀ (d k j : Nat) (M : sw_M), k + d = nm Q → d < j → MQq M Q → rd_I M 80 83 = nI (bN (sgt Q.B Q.B.m) Q.B.m) → MTe M Q k →
    ∃ Z, f_Model_keptOf_12 N j 80 Q.pa (nI (bN (kp Q) k)) (nI k) M = some (nI (KP Q), Z) ∧ Fr Akt M Z ∧ MTe Z Q (nm Q)
  | 0, k, j, M, hd, hj, hQ, h83, ht => by
    obtain ⟨j, rfl⟩ : ∃ k, j = k + 1 := ⟨j - 1, by omega⟩
    obtain rfl : k = nm Q := by omega
    obtain ⟨hM, hH, hF, hE, hB, hpo, hs, hQB⟩ := hQ
    have hb := nm_b hQB
    refine ⟨M, ?_, Fr.refl _ _, ht⟩
    rw [f_Model_keptOf_12, ok_80 hM.1, gd_T, Model_modelMany N (by omega) Q hQB M hM hs, bn_S]
    show (if nI (nm Q) ≤ nI (nm Q) then _ else _) = _
    rw [if_pos (nI_le (Nat.le_refl _) (by omega))]
    rfl
  | d + 1, k, j, M, hd, hj, hQ, h83, ht => by
    obtain ⟨j, rfl⟩ : ∃ k, j = k + 1 := ⟨j - 1, by omega⟩
    obtain ⟨hM, hH, hF, hE, hB, hpo, hs, hQB⟩ := id hQ
    have hb := nm_b hQB
    have hkn : k < nm Q := by omega
    obtain ⟨m1, m2⟩ := mk_i hQB hkn
    rw [f_Model_keptOf_12, ok_80 hM.1, gd_T, Model_modelMany N (by omega) Q hQB M hM hs, bn_S]
    show ∃ Z, (if nI (nm Q) ≤ nI k then _ else sw_gd [sw_ok M 80 12] ((f_Model_spanLow N 80 M).bind _)) = _ ∧ _
    rw [if_neg (nI_ge (by omega) (by omega)), ok_80 hM.1, gd_T, Model_spanLow N M hM hs, bn_S]
    show ∃ Z, sw_gd [sw_ok M 80 12] ((f_Model_spread N 80 (mk Q k) M).bind _) = _ ∧ _
    obtain ⟨W, w1, w2, w3⟩ := Model_spread N (by omega) Q.E (mk Q k) m2 M hM hH hF hE
    rw [ok_80 hM.1, gd_T, w1, bn_S]
    have fW : Fr Akt M W := w2.mono (fun _ _ h => Or.inl h)
    have hQW := MQq_fr fW CmqAkt hQ
    have hMW := hQW.1
    have hFE : MFE W (Fk Q k) := ⟨hMW, hQW.2.2.2.1.2.2.2.2.2.1, hE.1.2.2.2.1, hQW.2.2.2.1.2.2.2.1, hQW.2.2.2.2.2.1, hQW.2.2.2.2.1, Nat.le_refl _, w3, (w2.I 80 83 (by unfold Asp Aga Aw Awk; omega)).trans h83, fun o ho => Nat.le_trans (ways hE.1 m2 ho).1 hE.1.2.2.1⟩
    rw [ok_80 hMW.1, gd_T]
    have hpo2 : 0 ≤ (Fk Q k).por.toInt ∧ (Fk Q k).por.toInt ≤ 10 := ⟨by have := hQB.2.2.2.1.1; show 0 ≤ Q.por.toInt; omega, hQB.2.2.2.1.2⟩
    have bk : bN (kp Q) (k + 1) = if kp Q k = true then bN (kp Q) k ||| 2 ^ k else bN (kp Q) k := rfl
    rcases Model_ff N hN (Fk Q k) hpo2 W hFE with ⟨a1, Z, a2, a3⟩ | ⟨V, Z, a0, a1, a2, a3, a4⟩
    · have hk0 : kp Q k = false := by unfold kp; rw [a1]; simp
      rw [a2, bn_S]
      show ∃ Z', (if (0 : Int32) = 0 then f_Model_keptOf_84 N (f_Model_keptOf_12 N j) 80 Q.pa (nI (bN (kp Q) k)) (nI k) Z else _) = _ ∧ _
      rw [if_pos rfl, f_Model_keptOf_84, nI_1]
      have fZ : Fr Akt M Z := fW.trans (a3.mono (fun _ _ h => Or.inr (Or.inl h)))
      have t1 : MTe Z Q (k + 1) := fun i hi hki c hc => by
        by_cases e : i = k
        · rw [e, hk0] at hki; cases hki
        · rw [a3.I 123 _ (by unfold Awt; omega), w2.I 123 _ (by unfold Asp Aga Aw Awk; omega)]
          exact ht i (by omega) hki c hc
      obtain ⟨Y, y1, y2, y3⟩ := Model_keptOf_12 N hN Q d (k + 1) j Z (by omega) (by omega) (MQq_fr fZ CmqAkt hQ) ((a3.I 80 83 (by unfold Awt; omega)).trans ((w2.I 80 83 (by unfold Asp Aga Aw Awk; omega)).trans h83)) t1
      rw [bk, hk0, if_neg (by decide)] at y1
      exact ⟨Y, y1, fZ.trans y2, y3⟩
    · have hk1 : kp Q k = true := by unfold kp; rw [a1, decide_eq_true hkn]; rfl
      have ht1 : ∀ c, tel Q k c = lig (Fk Q k) V c := fun c => by unfold tel; rw [a1]
      rw [a2, bn_S]
      show ∃ Z', (if (1 : Int32) = 0 then _ else f_Model_keptOf_53 N (f_Model_keptOf_12 N j) N 80 Q.pa (nI (bN (kp Q) k) ||| ((1 : Int32) <<< (nI k &&& 31))) (nI k) 0 Z) = _ ∧ _
      rw [if_neg (by decide), x_shl (show k < 31 by omega), x_or]
      have fZ : Fr Akt M Z := fW.trans (a3.mono (fun _ _ h => Or.inr (Or.inl h)))
      obtain ⟨X, x1, x2, x3⟩ := Model_keptOf_53 N (by omega) (f_Model_keptOf_12 N j) (Fk Q k) V Q.pa (nI (bN (kp Q) k ||| 2 ^ k)) k (by omega) 64 0 N Z (by omega) (by omega) (MFE_fr a3 hFE) a4.1 (fun t h => absurd h (by omega))
      have fX : Fr Akt M X := fZ.trans (x2.mono (fun _ _ h => Or.inr (Or.inr h.1)))
      have t1 : MTe X Q (k + 1) := fun i hi hki c hc => by
        by_cases e : i = k
        · rw [e, ht1, x3 c hc]
        · rw [x2.I 123 _ (by omega), a3.I 123 _ (by unfold Awt; omega), w2.I 123 _ (by unfold Asp Aga Aw Awk; omega)]
          exact ht i (by omega) hki c hc
      obtain ⟨Y, y1, y2, y3⟩ := Model_keptOf_12 N hN Q d (k + 1) j X (by omega) (by omega) (MQq_fr fX CmqAkt hQ) ((x2.I 80 83 (by omega)).trans ((a3.I 80 83 (by unfold Awt; omega)).trans ((w2.I 80 83 (by unfold Asp Aga Aw Awk; omega)).trans h83))) t1
      rw [bk, hk1, if_pos rfl] at y1
      exact ⟨Y, x1.trans y1, fX.trans y2, y3⟩
def Akx (a k : Nat) : Prop := Akt a k ∨ Akn a k
theorem CmqAkx : ∀ a k, Cmq a k → ¬ Akx a k := by intro a k h; unfold Cmq Cf Cx Cnt at h; unfold Akx Akn Akt Asp Aga Aw Awk Awt; omega
theorem Model_keptOf (N : Nat) (hN : 200000 ≤ N) (Q : QT) (M : sw_M) (hQ : MQq M Q) : ∃ Z, f_Model_keptOf N 80 Q.pa M = some (nI (KP Q), Z) ∧ Fr Akx M Z ∧ MTe Z Q (nm Q) ∧ rd_I Z 80 83 = nI (bN (sgt Q.B Q.B.m) Q.B.m) := by
  obtain ⟨hM, hH, hF, hE, hB, hpo, hs, hQB⟩ := id hQ
  have hb := nm_b hQB
  obtain ⟨W, w1, w2, w3⟩ := Model_knows N (by omega) M hM Q.B hB Q.B.m (Nat.le_refl _)
  have fW : Fr Akx M W := w2.mono (fun _ _ h => Or.inr h)
  obtain ⟨Z, z1, z2, z3⟩ := Model_keptOf_12 N hN Q (nm Q) 0 N W (by omega) (by omega) (MQq_fr fW CmqAkx hQ) w3 (fun i hi => absurd hi (by omega))
  refine ⟨Z, ?_, fW.trans (z2.mono (fun _ _ h => Or.inl h)), z3, (z2.I 80 83 (by unfold Akt Asp Aga Aw Awk Awt; omega)).trans w3⟩
  unfold f_Model_keptOf
  rw [ok_80 hM.1, gd_T, hB.2.2.1, w1, bn_S]
  exact z1
