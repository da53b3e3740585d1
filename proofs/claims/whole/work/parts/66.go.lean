/-! 66: go on both sides, the whole of it -/
theorem Model_go_b (N : Nat) (hN : 40 ≤ N) (P : Nat → PartS) (n : Nat) (mass a1 : Int32) (hp : a1.toInt ≤ 0) : ∀ (d j i : Nat) (s : SS) (M : sw_M), MR M → HR M → FR M n → mpart M = P → rd_I M 80 15 = mass → MS M s → ok2 P n mass d s → d < j → (m_absI a1).toInt = ((i + d : Nat) : Int) → i + d ≤ 240 →
    ∃ W, f_Model_go_62 N j 80 a1 (nI i) M = f_Model_go_251 N 80 (nI (i + (go2 P n mass d s).1)) W ∧ Fr Ag M W ∧ MS W (go2 P n mass d s).2
  | 0, j, i, s, M, hM, hH, hF, hP, hm, hs, hk, hj, ha, hi => by
    obtain ⟨j, rfl⟩ : ∃ k, j = k + 1 := ⟨j - 1, by omega⟩
    refine ⟨M, ?_, Fr.refl _ _, hs⟩
    rw [f_Model_go_62, if_pos (i32_le (by rw [ha, nI_toInt (by omega)]; omega))]
    rfl
  | d + 1, j, i, s, M, hM, hH, hF, hP, hm, hs, hk, hj, ha, hi => by
    obtain ⟨j, rfl⟩ : ∃ k, j = k + 1 := ⟨j - 1, by omega⟩
    have z0 : (0 : Int32).toInt = 0 := by decide
    have h80 := ok_80 hM.1
    have hn0 : a1 ≤ 0 := i32_le (by rw [z0]; omega)
    obtain ⟨s1, s2, s3, s4, s5, s6⟩ := id hs
    rw [f_Model_go_62, if_neg (i32_nle (by rw [ha, nI_toInt (by omega)]; omega)), if_pos hn0, h80, gd_T, s5, s6]
    by_cases c : 0 < s.t ∧ s.g ≠ -1
    · obtain ⟨t1, bx, by', hk'⟩ := hk c
      have ht1 : 0 ≤ (s.t - 1).toInt ∧ (s.t - 1).toInt ≤ 240 := by rw [t_p t1]; omega
      have hmp : mpart (wr_L (wr_L (wr_I M 80 48 (s.t - 1)) 80 39 (s.x - s.u)) 80 40 (s.y - s.v)) = P := (mpart_wI (M := M) 80 48 (s.t - 1) (by unfold Cf; omega)).trans hP
      have hpu := Model_pulls N hN (wr_L (wr_L (wr_I M 80 48 (s.t - 1)) 80 39 (s.x - s.u)) 80 40 (s.y - s.v)) hM (s.x - s.u) (s.y - s.v) (s.t - 1) mass n hF.1 (by simp only [m_II, m_LL, m_RR, m_IL, m_IR, m_LI, m_LR, m_RI, m_RL, m_NI, m_NL, m_NR, m_okI, m_okL, m_okR, m_okaI, m_okaL, m_okaR, m_arI, m_arL, m_arR, gd_T, bn_S, Nat.reduceEqDiff, and_false, and_true, false_and, true_and, if_false, if_true]; exact hF.2.1) (fun p hp => by rw [hmp, ← hP]; exact (hF.2.2.2 p hp).1) bx by' ht1
      rw [hmp] at hpu
      rw [if_neg (Int32.not_le.mpr c.1), if_neg c.2, f_Model_go_110, if_pos hn0, h80, gd_T]
      simp only [m_II, m_LL, m_RR, m_IL, m_IR, m_LI, m_LR, m_RI, m_RL, m_NI, m_NL, m_NR, m_okI, m_okL, m_okR, m_okaI, m_okaL, m_okaR, m_arI, m_arL, m_arR, gd_T, bn_S, Nat.reduceEqDiff, and_false, and_true, false_and, true_and, if_false, if_true, s1, s2, s3, s4, s5, hm]
      rw [hpu, bn_S, f_Model_go_195, mP_ok, m_okL, m_okL, m_okI, h80, gd_T]
      have hfr : ∀ a b e f w, Fr Ag M (wr_I (wr_L (wr_L (mP (wr_L (wr_L (wr_I M 80 48 (s.t - 1)) 80 39 (s.x - s.u)) 80 40 (s.y - s.v)) a b) 80 41 e) 80 42 f) 80 49 w) := fun a b e f w =>
        ((((Fr_mP ((((Fr.refl Ag M).wI 80 48 _ (by unfold Ag; omega)).wL 80 39 _ (by unfold Ag; omega)).wL 80 40 _ (by unfold Ag; omega)) AwAg a b).wL 80 41 e (by unfold Ag; omega)).wL 80 42 f (by unfold Ag; omega)).wI 80 49 w (by unfold Ag; omega))
      rw [Model_go_221 N _ _ _ _ (show MR (wr_L (wr_L (mP (wr_L (wr_L (wr_I M 80 48 (s.t - 1)) 80 39 (s.x - s.u)) 80 40 (s.y - s.v)) _ _) 80 41 _) 80 42 _) from hM), if_pos hn0, nI_1]
      have hms : MS (wr_I (wr_L (wr_L (mP (wr_L (wr_L (wr_I M 80 48 (s.t - 1)) 80 39 (s.x - s.u)) 80 40 (s.y - s.v)) (pullN P mass (s.x - s.u) (s.y - s.v) (s.t - 1) n).1 (pullN P mass (s.x - s.u) (s.y - s.v) (s.t - 1) n).2) 80 41 (s.u - (pullN P mass (s.x - s.u) (s.y - s.v) (s.t - 1) n).1)) 80 42 (s.v - (pullN P mass (s.x - s.u) (s.y - s.v) (s.t - 1) n).2)) 80 49 (if bey (s.x - s.u) (s.y - s.v) = true then -1 else 0)) (bwd P n mass s) := by
        unfold MS mP
        simp only [m_II, m_LL, m_RR, m_IL, m_IR, m_LI, m_LR, m_RI, m_RL, m_NI, m_NL, m_NR, m_okI, m_okL, m_okR, m_okaI, m_okaL, m_okaR, m_arI, m_arL, m_arR, gd_T, bn_S, Nat.reduceEqDiff, and_false, and_true, false_and, true_and, if_false, if_true]
        refine ⟨rfl, rfl, rfl, rfl, rfl, rfl⟩
      obtain ⟨V, q1, q2, q3⟩ := Model_go_b N hN P n mass a1 hp d j (i + 1) (bwd P n mass s) _ ((hfr _ _ _ _ _).mr hM) ((hfr _ _ _ _ _).hr hH) (FR_fr (hfr _ _ _ _ _) CfAg hH hF) ((mpart_fr (hfr _ _ _ _ _) CfAg).trans hP) (((hfr _ _ _ _ _).I 80 15 (by unfold Ag; omega)).trans hm) hms hk' (by omega) (by rw [ha]; congr 1; omega) (by omega)
      refine ⟨V, ?_, (hfr _ _ _ _ _).trans q2, ?_⟩
      · rw [go2, if_pos c]
        refine Eq.trans ?_ (q1.trans ?_)
        · unfold mP
          simp only [m_II, m_LL, m_RR, m_IL, m_IR, m_LI, m_LR, m_RI, m_RL, m_NI, m_NL, m_NR, m_okI, m_okL, m_okR, m_okaI, m_okaL, m_okaR, m_arI, m_arL, m_arR, gd_T, bn_S, Nat.reduceEqDiff, and_false, and_true, false_and, true_and, if_false, if_true, s3, s4]
        · show f_Model_go_251 N 80 (nI (i + 1 + (go2 P n mass d (bwd P n mass s)).1)) V = f_Model_go_251 N 80 (nI (i + ((go2 P n mass d (bwd P n mass s)).1 + 1))) V
          rw [show i + 1 + (go2 P n mass d (bwd P n mass s)).1 = i + ((go2 P n mass d (bwd P n mass s)).1 + 1) by omega]
      · rw [go2, if_pos c]; exact q3
    · refine ⟨M, ?_, Fr.refl _ _, ?_⟩
      · rw [go2, if_neg c]
        by_cases h : s.t ≤ 0
        · rw [if_pos h]; rfl
        · rw [if_neg h, if_pos (by
            rcases Decidable.em (s.g = -1) with e | e
            · exact e
            · exact absurd ⟨Int32.not_le.mp h, e⟩ c)]
          rfl
      · rw [go2, if_neg c]; exact hs
def wi (v m : Int32) : Bool := decide (-m ≤ v) && decide (v ≤ m)
theorem House_within (N : Nat) (v m : Int32) (M : sw_M) : f_House_within N v m M = some (bz (wi v m), M) := by
  unfold f_House_within wi
  by_cases h1 : v < -m
  · rw [if_pos h1]; simp [Int32.not_le.mpr h1, bz]
  · rw [if_neg h1]
    by_cases h2 : m < v
    · rw [if_pos h2]; simp [Int32.not_le.mpr h2, bz]
    · rw [if_neg h2]; simp [Int32.not_lt.mp h1, Int32.not_lt.mp h2, bz]
theorem Model_isWithin (N : Nat) (v m : Int32) (M : sw_M) : f_Model_isWithin N v m M = some (bz (wi v m), M) := by
  unfold f_Model_isWithin wi
  by_cases h1 : v < -m
  · rw [if_pos h1]; simp [Int32.not_le.mpr h1, bz]
  · rw [if_neg h1]
    by_cases h2 : m < v
    · rw [if_pos h2]; simp [Int32.not_le.mpr h2, bz]
    · rw [if_neg h2]; simp [Int32.not_lt.mp h1, Int32.not_lt.mp h2, bz]
theorem wi_b {v m : Int32} {L : Int} (h : wi v m = true) (hm : m.toInt = L) (hL : L < 2147483648) (h0 : 0 ≤ L) : -L ≤ v.toInt ∧ v.toInt ≤ L := by
  unfold wi at h
  simp only [Bool.and_eq_true, decide_eq_true_eq, Int32.le_iff_toInt_le] at h
  have e : (-m).toInt = -L := by rw [Int32.toInt_neg, hm, bm32] <;> omega
  rw [e, hm] at h
  exact h
theorem wi_eq {v m : Int32} {L : Int} (hm : m.toInt = L) (hL : L < 2147483648) (h0 : 0 ≤ L) : wi v m = (decide (-L ≤ v.toInt) && decide (v.toInt ≤ L)) := by
  unfold wi
  simp only [Int32.le_iff_toInt_le]
  have e : (-m).toInt = -L := by rw [Int32.toInt_neg, hm, bm32] <;> omega
  rw [e, hm]
noncomputable def goR (P : Nat → PartS) (n : Nat) (mass : Int32) (a1 : Int32) (s : SS) : Int32 × SS :=
  if wi a1 240 = true then (if 0 < a1.toInt then (nI (go1 P n mass a1.toInt.toNat s).1, (go1 P n mass a1.toInt.toNat s).2) else (nI (go2 P n mass (-a1.toInt).toNat s).1, (go2 P n mass (-a1.toInt).toNat s).2)) else (-1, s)
theorem go1_le (P : Nat → PartS) (n : Nat) (mass : Int32) : ∀ d s, (go1 P n mass d s).1 ≤ d
  | 0, _ => Nat.le_refl 0
  | d + 1, s => by
    rw [go1]
    split
    · exact Nat.succ_le_succ (go1_le P n mass d _)
    · exact Nat.zero_le _
theorem neg32 {a : Int32} (h : -2147483648 < a.toInt) : (-a).toInt = -a.toInt := by
  have := in32 a
  rw [Int32.toInt_neg, bm32] <;> omega
theorem House_go (N : Nat) (hN : 300 ≤ N) (M : sw_M) (hH : HR M) (n : Nat) (hF : FR M n) (mass : Int32) (hm : rd_I M 3 5 = mass) (hmb : 0 ≤ mass.toInt ∧ mass.toInt ≤ 99999) (a1 : Int32) (s : SS) (h5 : rd_I M 1 5 = 1) (hs : StS M 32 s) (U : Int) (hU : 41000 ≤ U) (hU2 : U ≤ 900000000) (hI : SI U s) :
    ∃ W, f_House_go N 1 a1 M = some ((goR (mpart M) n mass a1 s).1, W) ∧ Fr (As 32) M W ∧ StS W 32 (goR (mpart M) n mass a1 s).2 := by
  unfold f_House_go goR
  rw [ok_1 hH.1, gd_T, h5, if_neg (by decide), House_within, bn_S]
  have z240 : (240 : Int32).toInt = 240 := by decide
  cases hw : wi a1 240
  · exact ⟨M, by simp [bz], Fr.refl _ _, by simpa using hs⟩
  · have hb := wi_b hw z240 (by decide) (by decide)
    have hPk := fun p hp => (hF.2.2.2 p hp).1
    simp only [bz_0, Bool.true_eq_false, if_false, if_true]
    by_cases hp : 0 < a1.toInt
    · obtain ⟨W, e1, e2, e3⟩ := House_go_f N (by omega) (mpart M) n mass a1 a1.toInt.toNat N 0 s M hH hF rfl hm hs (go1_I hF.1 hPk hmb hU hU2 _ s hI).1 (by omega) (by omega) (by omega)
      rw [if_pos hp]
      refine ⟨W, ?_, e2, e3⟩
      rw [show (0 : Int32) = nI 0 from rfl, e1]
      obtain ⟨j, hj⟩ : ∃ k, N = k + 1 := ⟨N - 1, by omega⟩
      have hle := go1_le (mpart M) n mass a1.toInt.toNat s
      rw [show f_House_go_46 N N = f_House_go_46 N (j + 1) by rw [← hj], f_House_go_46, if_pos (i32_le (by
        rw [neg32 (by omega), nI_toInt (by omega)]
        omega))]
      rw [Nat.zero_add]
    · obtain ⟨W, e1, e2, e3⟩ := House_go_b N (by omega) (mpart M) n mass a1 (-a1.toInt).toNat N 0 s M hH hF rfl hm hs (go2_I hF.1 hPk hmb hU hU2 _ s hI).1 (by omega) (by rw [neg32 (by omega)]; omega) (by omega)
      rw [if_neg hp]
      refine ⟨W, ?_, e2, e3⟩
      obtain ⟨j, hj⟩ : ∃ k, N = k + 1 := ⟨N - 1, by omega⟩
      rw [show f_House_go_21 N N = f_House_go_21 N (j + 1) by rw [← hj], f_House_go_21, if_pos (i32_le (by rw [show (0 : Int32).toInt = 0 from by decide]; omega)), show (0 : Int32) = nI 0 from rfl, e1, Nat.zero_add]
def MSt (M : sw_M) (s : SS) : Prop := rd_L M 80 44 = s.x ∧ rd_L M 80 45 = s.y ∧ rd_L M 80 46 = s.u ∧ rd_L M 80 47 = s.v ∧ rd_I M 80 48 = s.t ∧ rd_I M 80 49 = s.g
def Ah (a k : Nat) : Prop := a = 80 ∧ (k = 0 ∨ (37 ≤ k ∧ k ≤ 42) ∨ (44 ≤ k ∧ k ≤ 49))
theorem AgAh : ∀ a k, Ag a k → Ah a k := by intro a k h; unfold Ag at h; unfold Ah; omega
theorem CfAh : ∀ a k, Cf a k → ¬ Ah a k := by intro a k h; unfold Cf at h; unfold Ah; omega
theorem Model_go_251 (N : Nat) (r : Int32) (M : sw_M) (hM : MR M) (s : SS) (hs : MS M s) : ∃ W, f_Model_go_251 N 80 r M = some (r, W) ∧ Fr Ah M W ∧ MSt W s := by
  obtain ⟨s1, s2, s3, s4, s5, s6⟩ := hs
  unfold f_Model_go_251
  rw [ok_80 hM.1, gd_T]
  refine ⟨_, rfl, ?_, ?_⟩
  · exact ((((Fr.refl Ah M).wL _ _ _ (by unfold Ah; omega)).wL _ _ _ (by unfold Ah; omega)).wL _ _ _ (by unfold Ah; omega)).wL _ _ _ (by unfold Ah; omega)
  · unfold MSt
    simp only [m_II, m_LL, m_RR, m_IL, m_IR, m_LI, m_LR, m_RI, m_RL, m_NI, m_NL, m_NR, m_okI, m_okL, m_okR, m_okaI, m_okaL, m_okaR, m_arI, m_arL, m_arR, gd_T, bn_S, Nat.reduceEqDiff, and_false, and_true, false_and, true_and, if_false, if_true, s1, s2, s3, s4, s5, s6]
theorem Model_go (N : Nat) (hN : 300 ≤ N) (M : sw_M) (hM : MR M) (hH : HR M) (n : Nat) (hF : FR M n) (mass : Int32) (hm : rd_I M 80 15 = mass) (hmb : 0 ≤ mass.toInt ∧ mass.toInt ≤ 99999) (a1 : Int32) (s : SS) (h5 : rd_I M 80 43 = 1) (hs : MSt M s) (U : Int) (hU : 41000 ≤ U) (hU2 : U ≤ 900000000) (hI : SI U s) :
    ∃ W, f_Model_go N 80 a1 M = some ((goR (mpart M) n mass a1 s).1, W) ∧ Fr Ah M W ∧ MSt W (goR (mpart M) n mass a1 s).2 := by
  obtain ⟨s1, s2, s3, s4, s5, s6⟩ := id hs
  have z240 : (240 : Int32).toInt = 240 := by decide
  have z0 : (0 : Int32).toInt = 0 := by decide
  have zm : (-240 : Int32).toInt = -240 := by decide
  unfold f_Model_go goR
  rw [ok_80 hM.1, gd_T]
  simp only [m_II, m_LL, m_RR, m_IL, m_IR, m_LI, m_LR, m_RI, m_RL, m_NI, m_NL, m_NR, m_okI, m_okL, m_okR, m_okaI, m_okaL, m_okaR, m_arI, m_arL, m_arR, gd_T, bn_S, Nat.reduceEqDiff, and_false, and_true, false_and, true_and, if_false, if_true, h5, s1, s2, s3, s4]
  rw [if_neg (by decide), wi_eq z240 (by decide) (by decide)]
  by_cases h1 : a1 < -240
  · have h1' := Int32.lt_iff_toInt_lt.mp h1
    rw [zm] at h1'
    refine ⟨wr_I M 80 0 0, ?_, (Fr.refl Ah M).wI 80 0 0 (by unfold Ah; omega), ?_⟩
    · rw [if_pos h1, if_neg (by simp; omega)]
    · rw [if_neg (by simp; omega)]
      unfold MSt
      simp only [m_II, m_LL, m_RR, m_IL, m_IR, m_LI, m_LR, m_RI, m_RL, m_NI, m_NL, m_NR, m_okI, m_okL, m_okR, m_okaI, m_okaL, m_okaR, m_arI, m_arL, m_arR, gd_T, bn_S, Nat.reduceEqDiff, and_false, and_true, false_and, true_and, if_false, if_true]
      exact hs
  · have h1' := Int32.not_lt.mp h1
    have h1' := Int32.le_iff_toInt_le.mp h1'
    rw [zm] at h1'
    rw [if_neg h1]
    by_cases h2 : a1 ≤ 240
    · have h2' := Int32.le_iff_toInt_le.mp h2
      rw [z240] at h2'
      rw [if_pos h2, if_pos (by simp; omega)]
      have hf0 : Fr Ah M (wr_L (wr_L (wr_L (wr_L (wr_I M 80 0 0) 80 39 s.x) 80 40 s.y) 80 41 s.u) 80 42 s.v) := (((((Fr.refl Ah M).wI 80 0 0 (by unfold Ah; omega)).wL _ _ _ (by unfold Ah; omega)).wL _ _ _ (by unfold Ah; omega)).wL _ _ _ (by unfold Ah; omega)).wL _ _ _ (by unfold Ah; omega)
      have hms : MS (wr_L (wr_L (wr_L (wr_L (wr_I M 80 0 0) 80 39 s.x) 80 40 s.y) 80 41 s.u) 80 42 s.v) s := by
        unfold MS
        simp only [m_II, m_LL, m_RR, m_IL, m_IR, m_LI, m_LR, m_RI, m_RL, m_NI, m_NL, m_NR, m_okI, m_okL, m_okR, m_okaI, m_okaL, m_okaR, m_arI, m_arL, m_arR, gd_T, bn_S, Nat.reduceEqDiff, and_false, and_true, false_and, true_and, if_false, if_true, s5, s6]
      have hPk := fun p hp => (hF.2.2.2 p hp).1
      have hP0 := mpart_fr hf0 CfAh
      by_cases hp : 0 < a1.toInt
      · obtain ⟨W, e1, e2, e3⟩ := Model_go_f N (by omega) (mpart M) n mass a1 hp a1.toInt.toNat N 0 s _ (hf0.mr hM) (hf0.hr hH) (FR_fr hf0 CfAh hH hF) hP0 ((hf0.I 80 15 (by unfold Ah; omega)).trans hm) hms (go1_I hF.1 hPk hmb hU hU2 _ s hI).1 (by omega) (by omega) (by omega)
        rw [if_pos hp]
        obtain ⟨V, g1, g2, g3⟩ := Model_go_251 N (nI (0 + (go1 (mpart M) n mass a1.toInt.toNat s).1)) W (e2.mr (hf0.mr hM)) _ e3
        refine ⟨V, ?_, (hf0.trans (e2.mono AgAh)).trans g2, g3⟩
        rw [show (0 : Int32) = nI 0 from rfl] at *
        refine e1.trans (g1.trans ?_)
        rw [Nat.zero_add]
      · have hab : (m_absI a1).toInt = -a1.toInt := by
          unfold m_absI
          by_cases h0 : 0 ≤ a1
          · rw [if_pos h0]
            have := Int32.le_iff_toInt_le.mp h0
            rw [z0] at this
            omega
          · rw [if_neg h0, s32 (by rw [z0]; omega) (by rw [z0]; omega), z0]
            omega
        obtain ⟨W, e1, e2, e3⟩ := Model_go_b N (by omega) (mpart M) n mass a1 (by omega) (-a1.toInt).toNat N 0 s _ (hf0.mr hM) (hf0.hr hH) (FR_fr hf0 CfAh hH hF) hP0 ((hf0.I 80 15 (by unfold Ah; omega)).trans hm) hms (go2_I hF.1 hPk hmb hU hU2 _ s hI).1 (by omega) (by omega) (by omega)
        rw [if_neg hp]
        obtain ⟨V, g1, g2, g3⟩ := Model_go_251 N (nI (0 + (go2 (mpart M) n mass (-a1.toInt).toNat s).1)) W (e2.mr (hf0.mr hM)) _ e3
        refine ⟨V, ?_, (hf0.trans (e2.mono AgAh)).trans g2, g3⟩
        rw [show (0 : Int32) = nI 0 from rfl] at *
        refine e1.trans (g1.trans ?_)
        rw [Nat.zero_add]
    · have h2' := Int32.lt_iff_toInt_lt.mp (Int32.not_le.mp h2)
      rw [z240] at h2'
      refine ⟨wr_I M 80 0 0, ?_, (Fr.refl Ah M).wI 80 0 0 (by unfold Ah; omega), ?_⟩
      · rw [if_neg h2, if_neg (by simp; omega)]
      · rw [if_neg (by simp; omega)]
        unfold MSt
        simp only [m_II, m_LL, m_RR, m_IL, m_IR, m_LI, m_LR, m_RI, m_RL, m_NI, m_NL, m_NR, m_okI, m_okL, m_okR, m_okaI, m_okaL, m_okaR, m_arI, m_arL, m_arR, gd_T, bn_S, Nat.reduceEqDiff, and_false, and_true, false_and, true_and, if_false, if_true]
        exact hs
theorem goR_SI {P : Nat → PartS} {n : Nat} (hn : n ≤ 8) (hP : ∀ p, p < n → POk (P p)) {mass : Int32} (hm : 0 ≤ mass.toInt ∧ mass.toInt ≤ 99999) {U : Int} (hU : 41000 ≤ U) (hU2 : U ≤ 900000000) (a1 : Int32) (s : SS) (h : SI U s) : SI (U + 1599984) (goR P n mass a1 s).2 := by
  unfold goR
  split
  · split
    · exact (go1_I hn hP hm hU hU2 _ s h).2
    · exact (go2_I hn hP hm hU hU2 _ s h).2
  · exact SI_mono h (by omega)
