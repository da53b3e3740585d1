/-! 73: the rule on the reference's side -/
theorem Model_isput (N : Nat) (M : sw_M) (hM : MR M) (e : Nat) (he : e < 64) (h70 : rd_I M 80 70 = nI e) (v : Int32) : (f_Model_is N v M).bind (fun u1 => sw_gd [sw_ok u1.2 80 12] ((f_Model_puts N 80 u1.1 u1.2).bind (fun u3 => sw_gd [sw_bz u3.1] (some (u3.1, u3.2))))) = some (1, pW M e (bitL (decide (¬ v = 0)))) := by
  have h : f_Model_is N v M = some (bitL (decide (¬ v = 0)), M) := by
    unfold f_Model_is bitL
    by_cases c : v = 0
    · rw [if_pos c]; simp [c]
    · rw [if_neg c]; simp [c]
  rw [h, bn_S]
  show sw_gd [sw_ok M 80 12] ((f_Model_puts N 80 (bitL (decide (¬ v = 0))) M).bind _) = _
  rw [ok_80 hM.1, gd_T, Model_puts N M hM e he h70, bn_S, bitL_bnd]
  rfl
theorem Model_does2 (N : Nat) (M : sw_M) (hM : MR M) (e : Nat) (he : e + 2 ≤ 64) (h70 : rd_I M 80 70 = nI (e + 2)) (c : Int32) (hc : sg2 c) (a b : Int64) (ha : rd_L M 111 e = a) (hb : rd_L M 111 (e + 1) = b) (ba : bd a) (bb : bd b) :
    (∃ z, bop c a b = some z ∧ f_Model_does N 80 c M = some (1, pW (wr_I M 80 70 (nI e)) e z)) ∨ (bop c a b = none ∧ ∃ W, f_Model_does N 80 c M = some (0, W) ∧ Fr Awk M W) := by
  have h260 : ¬ c = 260 := fun h => by
    subst h
    exact absurd hc (by unfold sg2; decide)
  have hM1 : MR (wr_I M 80 70 (nI e)) := hM
  have e70 : rd_I (wr_I M 80 70 (nI e)) 80 70 = nI e := by simp only [m_II, m_LL, m_RR, m_IL, m_IR, m_LI, m_LR, m_RI, m_RL, m_NI, m_NL, m_NR, m_okI, m_okL, m_okR, m_okaI, m_okaL, m_okaR, m_arI, m_arL, m_arR, gd_T, bn_S, Nat.reduceEqDiff, Nat.left_eq_add, Nat.add_eq_left, Nat.one_ne_zero, and_false, and_true, false_and, true_and, if_false, if_true]
  have hip := fun v => Model_isput N (wr_I M 80 70 (nI e)) hM1 e (by omega) e70 v
  have hpu := fun v => Model_puts N (wr_I M 80 70 (nI e)) hM1 e (by omega) e70 v
  have f0 : Fr Awk M (wr_I M 80 70 (nI e)) := (Fr.refl _ M).wI _ _ _ (Or.inl ⟨rfl, rfl⟩)
  unfold f_Model_does
  rw [if_neg h260]
  simp only [m_II, m_LL, m_RR, m_IL, m_IR, m_LI, m_LR, m_RI, m_RL, m_NI, m_NL, m_NR, m_okI, m_okL, m_okR, m_okaI, m_okaL, m_okaR, m_arI, m_arL, m_arR, gd_T, bn_S, Nat.reduceEqDiff, Nat.left_eq_add, Nat.add_eq_left, Nat.one_ne_zero, and_false, and_true, false_and, true_and, if_false, if_true, ok_80 hM.1, mr_69 hM, ar_111 hM.1, h70, nI_s2, nI_1, ti_n (show e < 64 by omega) (by decide), ti_n (show e + 1 < 64 by omega) (by decide), cl_n (show e < 2 ^ 31 by omega), cl_n (show e + 1 < 2 ^ 31 by omega), ha, hb]
  unfold f_Model_does_389 f_Model_does_241 f_Model_does_281 f_Model_does_341 f_Model_does_261 f_Model_does_301 f_Model_does_321 f_Model_does_220 f_Model_does_221 f_Model_does_190 f_Model_does_195
  simp only [m_II, m_LL, m_RR, m_IL, m_IR, m_LI, m_LR, m_RI, m_RL, m_NI, m_NL, m_NR, m_okI, m_okL, m_okR, m_okaI, m_okaL, m_okaR, m_arI, m_arL, m_arR, gd_T, bn_S, Nat.reduceEqDiff, Nat.left_eq_add, Nat.add_eq_left, Nat.one_ne_zero, and_false, and_true, false_and, true_and, if_false, if_true, ok_80 hM.1, hip, hpu]
  unfold bop sg2 at *
  rcases hc with h | h | h | h | h | h | h | h | h | h | h | h <;> subst h <;> simp (decide := true) only [if_true, if_false]
  · by_cases c0 : a = 0
    · rw [if_pos c0, if_pos c0]
      refine Or.inl ⟨_, rfl, ?_⟩
      rw [show bnd (a * b) = true from bnd_bd.mpr (by rw [c0, Int64.zero_mul]; unfold bd; decide)]
      rfl
    · rw [if_neg c0, if_neg c0]
      rw [gd_d (p := ¬ m_absL a = 0) (fun h => by
        have := (absL_i ba).1
        rw [h] at this
        exact c0 (Int64.toInt_inj.mp (show a.toInt = (0 : Int64).toInt from by rw [show (0 : Int64).toInt = 0 from by decide] at *; omega)))]
      by_cases c1 : m_absL b ≤ 1000000000000000 / m_absL a
      · rw [if_pos c1, if_neg (Int64.not_lt.mpr c1)]
        refine Or.inl ⟨_, rfl, ?_⟩
        rw [show bnd (a * b) = true from bnd_bd.mpr (mul_bd ba bb c0 c1)]
        rfl
      · rw [if_neg c1, if_pos (Int64.not_le.mp c1)]
        exact Or.inr ⟨rfl, _, rfl, f0⟩
  · cases hb1 : bnd (a + b)
    · refine Or.inr ⟨by simp, _, rfl, pW_fr f0 (fun _ _ h => h) _ _⟩
    · refine Or.inl ⟨_, by simp, rfl⟩
  · cases hb1 : bnd (a - b)
    · refine Or.inr ⟨by simp, _, rfl, pW_fr f0 (fun _ _ h => h) _ _⟩
    · refine Or.inl ⟨_, by simp, rfl⟩
  · by_cases c0 : b = 0
    · rw [if_pos c0, if_pos c0]
      exact Or.inr ⟨rfl, _, rfl, f0⟩
    · rw [if_neg c0, if_neg c0, gd_d c0]
      refine Or.inl ⟨_, rfl, ?_⟩
      rw [show bnd (a / b) = true from bnd_bd.mpr (div_bd ba c0)]
      rfl
  · refine Or.inl ⟨_, rfl, ?_⟩
    by_cases q : b ≤ a
    · rw [if_pos q, decide_eq_false (Int64.not_lt.mpr q)]; rfl
    · rw [if_neg q, decide_eq_true (Int64.not_le.mp q)]; rfl
  · refine Or.inl ⟨_, rfl, ?_⟩
    by_cases q : a = b
    · rw [if_pos q, decide_eq_true q]; rfl
    · rw [if_neg q, decide_eq_false q]; rfl
  · refine Or.inl ⟨_, rfl, ?_⟩
    by_cases q : a ≤ b
    · rw [if_pos q, decide_eq_false (Int64.not_lt.mpr q)]; rfl
    · rw [if_neg q, decide_eq_true (Int64.not_le.mp q)]; rfl
  · refine Or.inl ⟨_, rfl, ?_⟩
    by_cases q : b < a
    · rw [if_pos q, decide_eq_false (Int64.not_le.mpr q)]; rfl
    · rw [if_neg q, decide_eq_true (Int64.not_lt.mp q)]; rfl
  · refine Or.inl ⟨_, rfl, ?_⟩
    by_cases q : a = b
    · rw [if_pos q, decide_eq_false (not_not_intro q)]; rfl
    · rw [if_neg q, decide_eq_true q]; rfl
  · refine Or.inl ⟨_, rfl, ?_⟩
    by_cases q : a < b
    · rw [if_pos q, decide_eq_false (Int64.not_le.mpr q)]; rfl
    · rw [if_neg q, decide_eq_true (Int64.not_lt.mp q)]; rfl
  · refine Or.inl ⟨_, rfl, ?_⟩
    by_cases q : a = 0
    · rw [if_pos q]; simp [q]
    · rw [if_neg q]
      by_cases q2 : b = 0
      · rw [if_pos q2]; simp [q2]
      · rw [if_neg q2]; simp [q, q2]
  · refine Or.inl ⟨_, rfl, ?_⟩
    by_cases q : a = 0
    · rw [if_pos q]
      by_cases q2 : b = 0
      · rw [if_pos q2]; simp [q, q2]
      · rw [if_neg q2]; simp [q, q2]
    · rw [if_neg q]; simp [q]
theorem Model_does1 (N : Nat) (M : sw_M) (hM : MR M) (e : Nat) (he : e < 64) (h70 : rd_I M 80 70 = nI (e + 1)) : f_Model_does N 80 260 M = some (1, wr_L M 111 e (bitL (decide (rd_L M 111 e = 0)))) := by
  unfold f_Model_does f_Model_does_38 f_Model_is
  rw [if_pos rfl]
  simp only [m_II, m_LL, m_RR, m_IL, m_IR, m_LI, m_LR, m_RI, m_RL, m_NI, m_NL, m_NR, m_okI, m_okL, m_okR, m_okaI, m_okaL, m_okaR, m_arI, m_arL, m_arR, gd_T, bn_S, Nat.reduceEqDiff, Nat.left_eq_add, Nat.add_eq_left, Nat.one_ne_zero, and_false, and_true, false_and, true_and, if_false, if_true, ok_80 hM.1, mr_69 hM, ar_111 hM.1, h70, nI_pred, ti_n he (by decide), cl_n (show e < 2 ^ 31 by omega)]
  by_cases c : rd_L M 111 e = 0
  · simp [c, bitL, gd_T, ar_111 hM.1, ti_n he (show 64 < 2 ^ 31 by decide)]
  · simp [c, bitL, gd_T, ar_111 hM.1, ti_n he (show 64 < 2 ^ 31 by decide)]
def nmv (v : Int32) : Prop := v = 0 ∨ v = 1 ∨ v = 2 ∨ v = 3 ∨ v = 4 ∨ v = 5
def EV (e : Int32 × Int32) : Prop := e.1 = 0 ∨ (e.1 = 1 ∧ nmv e.2) ∨ (e.1 = 2 ∧ (e.2 = 260 ∨ sg2 e.2))
theorem us81 (N : Nat) (k16 : Nat → Int32 → Int32 → sw_M → Option (Int32 × sw_M)) (a0 : Nat) (a1 a2 : Int32) (M : sw_M) : f_Model_isUsed_81 N k16 a0 a1 a2 1 M = k16 a0 a1 (a2 + 1) M := by
  rw [f_Model_isUsed_81, if_neg (by decide)]
theorem Model_isUsed_16 (N : Nat) (w : Nat → Int32 × Int32) (k : Nat) (hk : k ≤ 48) (o : Nat) (nm : Int32 → Int64) (hE : ∀ t, t < k → EV (w t)) : ∀ (f j i d : Nat) (M : sw_M) (S : Nat → Int64), i + f = k → f < j → MR M → rd_I M 80 18 = nI k → (∀ t, t < k → rd_I M 90 t = (w t).1 ∧ rd_I M 91 t = (w t).2) →
    (∀ M', Fr Awk M M' → ∀ v, nmv v → f_Model_nameOf N 80 v (nI o) M' = some (nm v, M')) → d ≤ i → rd_I M 80 70 = nI d → (∀ t, t < d → rd_L M 111 t = S t ∧ bd (S t)) → dpF w f i d = some 1 →
    ∃ W, f_Model_isUsed_16 N j 80 (nI o) (nI i) M = some (bz (usR (ev nm w f i d S)), W) ∧ Fr Awk M W
  | 0, j, i, d, M, S, hi, hj, hM, h18, hw, hn, hd, h70, hS, hp => by
    obtain ⟨j, rfl⟩ : ∃ k, j = k + 1 := ⟨j - 1, by omega⟩
    have : d = 1 := by simpa [dpF] using hp
    subst this
    refine ⟨M, ?_, Fr.refl _ _⟩
    rw [f_Model_isUsed_16, ok_80 hM.1, gd_T, h18, if_pos (nI_le (by omega) (by omega)), mr_69 hM, ar_111 hM.1, show sw_ti (0 : Int32) 64 = true from by decide, gd_T, cl_0, (hS 0 (by omega)).1]
    show _ = some (bz (decide (¬ S 0 = 0)), M)
    by_cases c : S 0 = 0
    · rw [if_pos c]; simp [c, bz]
    · rw [if_neg c]; simp [c, bz]
  | f + 1, j, i, d, M, S, hi, hj, hM, h18, hw, hn, hd, h70, hS, hp => by
    obtain ⟨j, rfl⟩ : ∃ k, j = k + 1 := ⟨j - 1, by omega⟩
    obtain ⟨w1, w2⟩ := hw i (by omega)
    rw [dpF] at hp
    rw [f_Model_isUsed_16, ok_80 hM.1, gd_T, h18, if_neg (nI_ge (by omega) (by omega)), mr_16 hM, ar_90 hM.1, ti_n (show i < 96 by omega) (by decide), gd_T, cl_n (by omega), w1, mr_17 hM, ar_91 hM.1, ti_n (show i < 96 by omega) (by decide), gd_T, gd_T, gd_T, w2, ev]
    have hwF : ∀ M', Fr Awk M M' → (∀ t, t < k → rd_I M' 90 t = (w t).1 ∧ rd_I M' 91 t = (w t).2) := fun M' h t ht => by
      rw [h.I 90 t (by unfold Awk; omega), h.I 91 t (by unfold Awk; omega)]
      exact hw t ht
    have push : ∀ v : Int64, bnd v = true → dpF w f (i + 1) (d + 1) = some 1 → ∃ W, f_Model_isUsed_81 N (f_Model_isUsed_16 N j) 80 (nI o) (nI i) (bz (bnd v)) (pW M d v) = some (bz (usR (ev nm w f (i + 1) (d + 1) (upS S d v))), W) ∧ Fr Awk M W := fun v hv hp' => by
      have hf : Fr Awk M (pW M d v) := pW_fr (Fr.refl _ M) (fun _ _ h => h) d v
      rw [hv, show bz true = 1 from rfl, us81, nI_1]
      obtain ⟨W, a1, a2⟩ := Model_isUsed_16 N w k hk o nm hE f j (i + 1) (d + 1) (pW M d v) (upS S d v) (by omega) (by omega) (hf.mr hM) ((hf.I 80 18 (by unfold Awk; omega)).trans h18) (hwF _ hf) (fun M' h v hv => hn M' (hf.trans h) v hv) (by omega) (by unfold pW; simp only [m_II, m_LL, m_RR, m_IL, m_IR, m_LI, m_LR, m_RI, m_RL, m_NI, m_NL, m_NR, m_okI, m_okL, m_okR, m_okaI, m_okaL, m_okaR, m_arI, m_arL, m_arR, gd_T, bn_S, Nat.reduceEqDiff, Nat.left_eq_add, Nat.add_eq_left, Nat.one_ne_zero, and_false, and_true, false_and, true_and, if_false, if_true]) (fun t ht => by
        unfold pW upS
        simp only [m_II, m_LL, m_RR, m_IL, m_IR, m_LI, m_LR, m_RI, m_RL, m_NI, m_NL, m_NR, m_okI, m_okL, m_okR, m_okaI, m_okaL, m_okaR, m_arI, m_arL, m_arR, gd_T, bn_S, Nat.reduceEqDiff, Nat.left_eq_add, Nat.add_eq_left, Nat.one_ne_zero, and_false, and_true, false_and, true_and, if_false, if_true]
        by_cases c : t = d
        · simp only [c, if_true]
          exact ⟨trivial, bnd_bd.mp hv⟩
        · simp only [c, if_false]
          exact hS t (by omega)) hp'
      exact ⟨W, a1, hf.trans a2⟩
    have pushN : ∀ v : Int64, ¬ bnd v = true → f_Model_isUsed_81 N (f_Model_isUsed_16 N j) 80 (nI o) (nI i) (bz (bnd v)) (pW M d v) = some (0, pW M d v) := fun v hv => by
      rw [f_Model_isUsed_81, Bool.not_eq_true] at *
      rw [hv]
      rfl
    have hpu := fun v => Model_puts N M hM d (show d < 64 by omega) h70 v
    rcases hE i (by omega) with h | ⟨h, hv⟩ | ⟨h, hv⟩
    · have h2 : ¬ (w i).1 = 2 := by rw [h]; decide
      rw [if_neg h2] at hp
      rw [if_neg h2, if_neg h2, if_pos h, f_Model_isUsed_78, ok_80 hM.1, gd_T, hpu, bn_S, show opv nm (w i) = (w i).2.toInt64 from if_pos h]
      by_cases c : bnd (w i).2.toInt64 = true
      · rw [if_pos c]
        exact push _ c hp
      · rw [if_neg c]
        exact ⟨_, pushN _ c, pW_fr (Fr.refl _ M) (fun _ _ h => h) _ _⟩
    · have h2 : ¬ (w i).1 = 2 := by rw [h]; decide
      have h0 : ¬ (w i).1 = 0 := by rw [h]; decide
      rw [if_neg h2] at hp
      rw [if_neg h2, if_neg h2, if_neg h0, hn M (Fr.refl _ M) _ hv, bn_S, f_Model_isUsed_78, ok_80 hM.1, gd_T, hpu, bn_S, show opv nm (w i) = nm (w i).2 from if_neg h0]
      by_cases c : bnd (nm (w i).2) = true
      · rw [if_pos c]
        exact push _ c hp
      · rw [if_neg c]
        exact ⟨_, pushN _ c, pW_fr (Fr.refl _ M) (fun _ _ h => h) _ _⟩
    · rw [if_pos h] at hp
      rw [if_pos h, if_pos h]
      rcases hv with hv | hv
      · rw [if_pos hv] at hp
        by_cases hd1 : 1 ≤ d
        · rw [if_pos hd1] at hp
          obtain ⟨e, rfl⟩ : ∃ e, d = e + 1 := ⟨d - 1, by omega⟩
          have hf : ∀ v, Fr Awk M (wr_L M 111 e v) := fun v => (Fr.refl _ M).wL _ _ _ (Or.inr rfl)
          rw [if_pos hv, hv, Model_does1 N M hM e (by omega) h70, bn_S, us81, nI_1, (hS e (by omega)).1, Nat.add_sub_cancel]
          obtain ⟨W, a1, a2⟩ := Model_isUsed_16 N w k hk o nm hE f j (i + 1) (e + 1) (wr_L M 111 e (bitL (decide (S e = 0)))) (upS S e (bitL (decide (S e = 0)))) (by omega) (by omega) hM h18 (hwF _ (hf _)) (fun M' h v hv => hn M' ((hf _).trans h) v hv) (by omega) h70 (fun t ht => by
            unfold upS
            simp only [m_II, m_LL, m_RR, m_IL, m_IR, m_LI, m_LR, m_RI, m_RL, m_NI, m_NL, m_NR, m_okI, m_okL, m_okR, m_okaI, m_okaL, m_okaR, m_arI, m_arL, m_arR, gd_T, bn_S, Nat.reduceEqDiff, Nat.left_eq_add, Nat.add_eq_left, Nat.one_ne_zero, and_false, and_true, false_and, true_and, if_false, if_true]
            by_cases c : t = e
            · simp only [c, if_true]
              exact ⟨trivial, bitL_bd _⟩
            · simp only [c, if_false]
              exact hS t (by omega)) hp
          exact ⟨W, a1, (hf _).trans a2⟩
        · rw [if_neg hd1] at hp
          cases hp
      · have h260 : ¬ (w i).2 = 260 := fun h => by
          rw [h] at hv
          exact absurd hv (by unfold sg2; decide)
        rw [if_neg h260] at hp
        by_cases hd2 : 2 ≤ d
        · rw [if_pos hd2] at hp
          obtain ⟨e, rfl⟩ : ∃ e, d = e + 2 := ⟨d - 2, by omega⟩
          rw [if_neg h260, show e + 2 - 2 = e by omega, show e + 2 - 1 = e + 1 by omega]
          rw [show e + 2 - 1 = e + 1 by omega] at hp
          have hf0 : Fr Awk M (wr_I M 80 70 (nI e)) := (Fr.refl _ M).wI _ _ _ (Or.inl ⟨rfl, rfl⟩)
          rcases Model_does2 N M hM e (by omega) h70 (w i).2 hv (S e) (S (e + 1)) (hS e (by omega)).1 (hS (e + 1) (by omega)).1 (hS e (by omega)).2 (hS (e + 1) (by omega)).2 with ⟨z, z1, z2⟩ | ⟨z1, W, z2, z3⟩
          · have hf : Fr Awk M (pW (wr_I M 80 70 (nI e)) e z) := pW_fr hf0 (fun _ _ h => h) e z
            rw [z2, bn_S, z1, us81, nI_1]
            obtain ⟨W, a1, a2⟩ := Model_isUsed_16 N w k hk o nm hE f j (i + 1) (e + 1) (pW (wr_I M 80 70 (nI e)) e z) (upS S e z) (by omega) (by omega) (hf.mr hM) ((hf.I 80 18 (by unfold Awk; omega)).trans h18) (hwF _ hf) (fun M' h v hv => hn M' (hf.trans h) v hv) (by omega) (by unfold pW; simp only [m_II, m_LL, m_RR, m_IL, m_IR, m_LI, m_LR, m_RI, m_RL, m_NI, m_NL, m_NR, m_okI, m_okL, m_okR, m_okaI, m_okaL, m_okaR, m_arI, m_arL, m_arR, gd_T, bn_S, Nat.reduceEqDiff, Nat.left_eq_add, Nat.add_eq_left, Nat.one_ne_zero, and_false, and_true, false_and, true_and, if_false, if_true]) (fun t ht => by
              unfold pW upS
              simp only [m_II, m_LL, m_RR, m_IL, m_IR, m_LI, m_LR, m_RI, m_RL, m_NI, m_NL, m_NR, m_okI, m_okL, m_okR, m_okaI, m_okaL, m_okaR, m_arI, m_arL, m_arR, gd_T, bn_S, Nat.reduceEqDiff, Nat.left_eq_add, Nat.add_eq_left, Nat.one_ne_zero, and_false, and_true, false_and, true_and, if_false, if_true]
              by_cases c : t = e
              · simp only [c, if_true]
                exact ⟨trivial, bop_bd (hS e (by omega)).2 (hS (e + 1) (by omega)).2 z1⟩
              · simp only [c, if_false]
                exact hS t (by omega)) hp
            exact ⟨W, a1, hf.trans a2⟩
          · rw [z2, bn_S, z1, f_Model_isUsed_81]
            exact ⟨W, rfl, z3⟩
        · rw [if_neg hd2] at hp
          cases hp
