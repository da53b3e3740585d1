/-! 97h: pull -/
def Apl (a k : Nat) : Prop := (a = 3 ∧ (k = 5 ∨ k = 6 ∨ k = 7)) ∨ (a = 80 ∧ (k = 0 ∨ (37 ≤ k ∧ k ≤ 42)))
theorem CfApl : ∀ a k, Cf a k → ¬ Apl a k := by intro a k h; unfold Cf at h; unfold Apl; omega
def cmp (b : Int32) (p : Int64 × Int64) : Int64 := if b = 0 then p.2 else p.1
theorem House_pulled (N : Nat) (hN : 40 ≤ N) (M : sw_M) (hH : HR M) (n : Nat) (hF : FR M n) (x y t mass b : Int32) (hm : rd_I M 3 5 = mass) (hx : Bd x.toInt64) (hy : Bd y.toInt64) (ht : 0 ≤ t.toInt ∧ t.toInt ≤ 240) :
    ∃ W, f_House_pulled N 1 x y t b M = some ((cmp b (pullN (mpart M) mass x.toInt64 y.toInt64 t n)).toInt32, W) ∧ Fr (fun a k => a = 3 ∧ (k = 6 ∨ k = 7)) M W := by
  refine ⟨hP M (pullN (mpart M) mass x.toInt64 y.toInt64 t n).1 (pullN (mpart M) mass x.toInt64 y.toInt64 t n).2, ?_, Fr_hP (Fr.refl _ M) ⟨⟨rfl, Or.inl rfl⟩, ⟨rfl, Or.inr rfl⟩⟩ _ _⟩
  unfold f_House_pulled cmp
  rw [ok_1 hH.1, gd_T, hr_f hH 1 2 3 rfl (by decide), ok_3 hH.1, gd_T, Field_pullAt N hN M hH x.toInt64 y.toInt64 t mass (mpart M) n hF.1 hF.2.2.1 hF.2.2.2 hm hx hy ht, bn_S, hP_ok, hP_ok, ok_1 hH.1, hP_R, hr_f hH 1 2 3 rfl (by decide), ok_3 hH.1, gd_T, gd_T, hP_a, hP_b]
  split <;> rfl
theorem m26 {z : Int64} (h : nB 799992 z) : z.toInt32.toInt = z.toInt := by
  have h1 : z.toInt32.toInt64 = z := fit (nB_mono h (by omega))
  rw [← t64, h1]
theorem minLI {a b : Int64} (ha : nB 799992 a) (hb : nB 799992 b) : m_minI a.toInt32 b.toInt32 = (m_minL a b).toInt32 := by
  unfold m_minI m_minL
  by_cases c : b < a
  · rw [if_pos c, if_pos (i32_lt (by rw [m26 ha, m26 hb]; exact Int64.lt_iff_toInt_lt.mp c))]
  · rw [if_neg c, if_neg (i32_nlt (by rw [m26 ha, m26 hb]; exact Int64.le_iff_toInt_le.mp (Int64.not_lt.mp c)))]
theorem maxLI {a b : Int64} (ha : nB 799992 a) (hb : nB 799992 b) : m_maxI a.toInt32 b.toInt32 = (m_maxL a b).toInt32 := by
  unfold m_maxI m_maxL
  by_cases c : b < a
  · rw [if_pos c, if_neg (i32_nlt (by have := Int64.lt_iff_toInt_lt.mp c; rw [m26 ha, m26 hb]; omega))]
  · rw [if_neg c]
    by_cases d : a.toInt32 < b.toInt32
    · rw [if_pos d]
    · rw [if_neg d]
      have h1 : a.toInt ≤ b.toInt := Int64.le_iff_toInt_le.mp (Int64.not_lt.mp c)
      have h2 : b.toInt32.toInt ≤ a.toInt32.toInt := Int32.le_iff_toInt_le.mp (Int32.not_lt.mp d)
      apply Int32.toInt_inj.1
      rw [m26 ha, m26 hb] at *
      omega
theorem cmp_nB {b : Int32} {p : Int64 × Int64} (h : nB 799992 p.1 ∧ nB 799992 p.2) : nB 799992 (cmp b p) := by
  unfold cmp
  split
  · exact h.2
  · exact h.1
theorem wcase {w : Int32} (h0 : 0 ≤ w.toInt) (h5 : w.toInt ≤ 5) : w = 0 ∨ w = 1 ∨ w = 2 ∨ w = 3 ∨ w = 4 ∨ w = 5 := by
  have e : ∀ k : Int32, w.toInt = k.toInt → w = k := fun k h => Int32.toInt_inj.1 h
  have : w.toInt = 0 ∨ w.toInt = 1 ∨ w.toInt = 2 ∨ w.toInt = 3 ∨ w.toInt = 4 ∨ w.toInt = 5 := by omega
  rcases this with h | h | h | h | h | h
  · exact Or.inl (e 0 h)
  · exact Or.inr (Or.inl (e 1 h))
  · exact Or.inr (Or.inr (Or.inl (e 2 h)))
  · exact Or.inr (Or.inr (Or.inr (Or.inl (e 3 h))))
  · exact Or.inr (Or.inr (Or.inr (Or.inr (Or.inl (e 4 h)))))
  · exact Or.inr (Or.inr (Or.inr (Or.inr (Or.inr (e 5 h)))))
/-- which: along, and whether one, the least or the greatest -/
def odd (w : Int32) : Int32 := if w = 0 ∨ w = 2 ∨ w = 4 then 1 else 0
theorem House_pull_57 (N : Nat) (hN : 40 ≤ N) (M : sw_M) (hH : HR M) (n : Nat) (hF : FR M n) (x y t mass lo hi w b : Int32) (hm : rd_I M 3 5 = mass) (hlo : rd_I M 3 3 = lo) (hhi : rd_I M 3 4 = hi) (hx : Bd x.toInt64) (hy : Bd y.toInt64) (ht : 0 ≤ t.toInt ∧ t.toInt ≤ 240) :
    ∃ W, f_House_pull_57 N 1 x y t w b M = some ((if 2 ≤ w then (if 4 ≤ w then m_maxI (cmp b (pullN (mpart M) lo x.toInt64 y.toInt64 t n)).toInt32 (cmp b (pullN (mpart M) hi x.toInt64 y.toInt64 t n)).toInt32 else m_minI (cmp b (pullN (mpart M) lo x.toInt64 y.toInt64 t n)).toInt32 (cmp b (pullN (mpart M) hi x.toInt64 y.toInt64 t n)).toInt32) else (cmp b (pullN (mpart M) mass x.toInt64 y.toInt64 t n)).toInt32), W) ∧ Fr Apl M W ∧ rd_I W 3 5 = mass := by
  have a1 : ∀ a k, (a = 3 ∧ (k = 6 ∨ k = 7)) → Apl a k := fun a k h => by unfold Apl; omega
  unfold f_House_pull_57
  by_cases c : 2 ≤ w
  · rw [if_pos c, if_pos c, ok_1 hH.1, gd_T, hr_f hH 1 2 3 rfl (by decide), ok_3 hH.1, gd_T, hlo]
    have f1 : Fr Apl M (wr_I M 3 5 lo) := (Fr.refl _ M).wI _ _ _ (by unfold Apl; omega)
    obtain ⟨W, w1, w2⟩ := House_pulled N hN (wr_I M 3 5 lo) (f1.hr hH) n (FR_fr f1 CfApl hH hF) x y t lo b (by simp only [m_II, m_LL, m_RR, m_IL, m_IR, m_LI, m_LR, m_RI, m_RL, m_NI, m_NL, m_NR, m_okI, m_okL, m_okR, m_okaI, m_okaL, m_okaR, m_arI, m_arL, m_arR, gd_T, bn_S, Nat.reduceEqDiff, Nat.left_eq_add, Nat.add_eq_left, Nat.one_ne_zero, and_false, and_true, false_and, true_and, if_false, if_true]) hx hy ht
    rw [mpart_fr f1 CfApl] at w1
    have f2 : Fr Apl M W := f1.trans (w2.mono a1)
    have hHW := f2.hr hH
    have f3 : Fr Apl M (wr_I W 3 5 hi) := f2.wI _ _ _ (by unfold Apl; omega)
    obtain ⟨Z, z1, z2⟩ := House_pulled N hN (wr_I W 3 5 hi) (f3.hr hH) n (FR_fr f3 CfApl hH hF) x y t hi b (by simp only [m_II, m_LL, m_RR, m_IL, m_IR, m_LI, m_LR, m_RI, m_RL, m_NI, m_NL, m_NR, m_okI, m_okL, m_okR, m_okaI, m_okaL, m_okaR, m_arI, m_arL, m_arR, gd_T, bn_S, Nat.reduceEqDiff, Nat.left_eq_add, Nat.add_eq_left, Nat.one_ne_zero, and_false, and_true, false_and, true_and, if_false, if_true]) hx hy ht
    rw [mpart_fr f3 CfApl] at z1
    have f4 : Fr Apl M Z := f3.trans (z2.mono a1)
    have hHZ := f4.hr hH
    refine ⟨wr_I Z 3 5 mass, ?_, f4.wI _ _ _ (by unfold Apl; omega), by simp only [m_II, m_LL, m_RR, m_IL, m_IR, m_LI, m_LR, m_RI, m_RL, m_NI, m_NL, m_NR, m_okI, m_okL, m_okR, m_okaI, m_okaL, m_okaR, m_arI, m_arL, m_arR, gd_T, bn_S, Nat.reduceEqDiff, Nat.left_eq_add, Nat.add_eq_left, Nat.one_ne_zero, and_false, and_true, false_and, true_and, if_false, if_true]⟩
    rw [w1, bn_S]
    show sw_gd [sw_ok W 1 11] (sw_gd [sw_ok W (rd_R W 1 2) 0] ((f_House_pulled N 1 x y t b (wr_I W (rd_R W 1 2) 5 (rd_I W (rd_R W 1 2) 4))).bind _)) = _
    rw [ok_1 hHW.1, gd_T, hr_f hHW 1 2 3 rfl (by decide), ok_3 hHW.1, gd_T, f2.I 3 4 (by unfold Apl; omega), hhi, z1, bn_S]
    show sw_gd [sw_ok Z 1 11] (sw_gd [sw_ok Z (rd_R Z 1 2) 0] (f_House_pull_143 N w _ _ (wr_I Z (rd_R Z 1 2) 5 (rd_I M 3 5)))) = _
    rw [ok_1 hHZ.1, gd_T, hr_f hHZ 1 2 3 rfl (by decide), ok_3 hHZ.1, gd_T, hm]
    unfold f_House_pull_143
    split <;> rfl
  · rw [if_neg c, if_neg c, ok_1 hH.1, gd_T]
    obtain ⟨W, w1, w2⟩ := House_pulled N hN M hH n hF x y t mass b hm hx hy ht
    refine ⟨W, ?_, w2.mono a1, (w2.I 3 5 (by omega)).trans hm⟩
    rw [w1, bn_S]
theorem pr_pull (N : Nat) (hN : 300 ≤ N) (c : Nat) (M : sw_M) (g : Inv c M) (x y t w : Int32) : PR c M (f_House_pull N 1 x y t w) (f_Model_pull N 80 x y t w) := by
  obtain ⟨Q, mass, gx, g9, g10⟩ := id g
  obtain ⟨g1, g2, g3, g4, g5, g6, g7, g8, g8'⟩ := id gx
  obtain ⟨hH, hF, hE, hh, hB, hpo, hlo, hhi, hQB⟩ := id g1
  obtain ⟨hM, -, -, -, -, hpo', hsp, -⟩ := id g2
  have hmb := mok_of gx
  by_cases q : wi x 20000 = true ∧ wi y 20000 = true ∧ ¬ t < 0 ∧ ¬ 240 < t ∧ ¬ w < 0 ∧ w ≤ 5
  · obtain ⟨q1, q2, q3, q4, q5, q6⟩ := q
    have bx := wi_b q1 (show (20000 : Int32).toInt = 20000 by decide) (by decide) (by decide)
    have by' := wi_b q2 (show (20000 : Int32).toInt = 20000 by decide) (by decide) (by decide)
    have hx : Bd x.toInt64 := by unfold Bd; rw [t64]; omega
    have hy : Bd y.toInt64 := by unfold Bd; rw [t64]; omega
    have t0 : 0 ≤ t.toInt := Int32.le_iff_toInt_le.mp (Int32.not_lt.mp q3)
    have t1 : t.toInt ≤ 240 := Int32.le_iff_toInt_le.mp (Int32.not_lt.mp q4)
    have w0 : 0 ≤ w.toInt := Int32.le_iff_toInt_le.mp (Int32.not_lt.mp q5)
    have w5 : w.toInt ≤ 5 := Int32.le_iff_toInt_le.mp q6
    have hPk : ∀ p, p < Q.E.n → POk (mpart M p) := fun p hp => (hF.2.2.2 p hp).1
    obtain ⟨W, w1, w2, w3⟩ := House_pull_57 N (by omega) M hH Q.E.n hF x y t mass Q.lo Q.hi w (odd w) g3.1 hlo hhi hx hy ⟨t0, t1⟩
    have f1 : Fr Apl M W := w2
    have f2 : Fr Apl M (wr_I W 80 0 0) := f1.wI _ _ _ (by unfold Apl; omega)
    have cX : ∀ a k, Cx a k → ¬ Apl a k := fun a k e => by unfold Cx at e; unfold Apl; omega
    -- the reference
    have pl : ∀ V, Fr Apl M V → ∀ m, f_Model_pulls N 80 x.toInt64 y.toInt64 t m V = some (mP V (pullN (mpart M) m x.toInt64 y.toInt64 t Q.E.n).1 (pullN (mpart M) m x.toInt64 y.toInt64 t Q.E.n).2) := fun V fV m => by
      have := Model_pulls N (by omega) V (fV.mr hM) x.toInt64 y.toInt64 t m Q.E.n hF.1 ((fV.I 80 10 (by unfold Apl; omega)).trans hF.2.1) (fun p hp => by rw [mpart_fr fV CfApl]; exact hPk p hp) hx hy ⟨t0, t1⟩
      rw [mpart_fr fV CfApl] at this
      exact this
    have fm : ∀ V, Fr Apl M V → ∀ a b, Fr Apl M (mP V a b) := fun V fV a b => Fr_mP fV (fun a k h => by unfold Aw at h; unfold Apl; omega) a b
    have lo : ∀ V, Fr Apl M V → f_Model_spanLow N 80 V = some (Q.lo, V) := fun V fV => Model_spanLow N V (fV.mr hM) (SPM_fr fV cX hsp)
    have hi : ∀ V, Fr Apl M V → f_Model_spanHigh N 80 V = some (Q.hi, V) := fun V fV => Model_spanHigh N V (fV.mr hM) (SPM_fr fV cX hsp)
    have k80 : ∀ V, Fr Apl M V → sw_ok V 80 12 = true := fun V fV => by rw [fV.ok]; exact ok_80 hM.1
    obtain ⟨Z, z1, z2, z3⟩ : ∃ Z, f_Model_pull N 80 x y t w W = some ((if 2 ≤ w then (if 4 ≤ w then (m_maxL (cmp (odd w) (pullN (mpart M) Q.lo x.toInt64 y.toInt64 t Q.E.n)) (cmp (odd w) (pullN (mpart M) Q.hi x.toInt64 y.toInt64 t Q.E.n))).toInt32 else (m_minL (cmp (odd w) (pullN (mpart M) Q.lo x.toInt64 y.toInt64 t Q.E.n)) (cmp (odd w) (pullN (mpart M) Q.hi x.toInt64 y.toInt64 t Q.E.n))).toInt32) else (cmp (odd w) (pullN (mpart M) mass x.toInt64 y.toInt64 t Q.E.n)).toInt32), Z) ∧ Fr Apl M Z ∧ rd_I Z 3 5 = rd_I W 3 5 := by
      unfold f_Model_pull f_Model_pull_101 f_Model_pull_119 f_Model_pull_152
      have i15 : rd_I (wr_I W 80 0 0) 80 15 = mass := (f2.I 80 15 (by unfold Apl; omega)).trans g3.2.1
      rw [k80 W f1, gd_T]
      simp only [Model_isWithin, bn_S, q1, q2, bz_0, Bool.true_eq_false, if_false, if_neg q3, if_neg q4, if_neg q5, if_pos q6]
      rcases wcase w0 w5 with e | e | e | e | e | e <;> subst e <;> simp (decide := true) only [if_true, if_false, k80 _ f2, gd_T, lo _ f2, hi _ f2, bn_S, pl _ f2, i15, k80 _ (fm _ f2 _ _), hi _ (fm _ f2 _ _), pl _ (fm _ f2 _ _), k80 _ (fm _ (fm _ f2 _ _) _ _), mP_a, mP_b, cmp, odd]
      all_goals refine ⟨_, rfl, ?_, rfl⟩
      · exact fm _ f2 _ _
      · exact fm _ f2 _ _
      all_goals exact fm _ (fm _ f2 _ _) _ _
    have nb : ∀ m, mok m → nB 799992 (cmp (odd w) (pullN (mpart M) m x.toInt64 y.toInt64 t Q.E.n)) := fun m hm => cmp_nB (pull_nB hF.1 hPk hm hx hy ⟨t0, t1⟩)
    obtain ⟨-, ⟨l1, l2, l3⟩, -⟩ := id hQB
    have n1 := nb Q.lo ⟨by omega, by omega⟩
    have n2 := nb Q.hi ⟨by omega, by omega⟩
    rw [← maxLI n1 n2, ← minLI n1 n2] at z1
    refine ⟨_, W, Z, ?_, f1.mr hM, z1, Inv_set z2 (fun a k e => by unfold Cr at e; unfold Apl; omega) gx Q mass (HQ_fr z2 (fun a k e => by unfold Chq Cf Cx Che Cnt at e; unfold Apl; omega) g1) (MQq_fr z2 (fun a k e => by unfold Cmq Cf Cx Cnt at e; unfold Apl; omega) g2) ⟨z3.trans w3, (z2.I 80 15 (by unfold Apl; omega)).trans g3.2.1, g3.2.2⟩ rfl rfl (CH_fr z2 (fun a k e => by unfold Apl; omega) g9) (CM_fr z2 (fun a k e => by unfold Apl; omega) g10)⟩
    unfold f_House_pull
    simp only [House_within, bn_S, q1, q2, bz_0, Bool.true_eq_false, if_false, if_neg q3, if_neg q4, if_neg q5, if_pos q6]
    refine Eq.trans ?_ w1
    rcases wcase w0 w5 with e | e | e | e | e | e <;> subst e <;> simp (decide := true) only [if_true, if_false, odd]
  · have n : ∃ r, f_House_pull N 1 x y t w M = some (r, M) ∧ f_Model_pull N 80 x y t w M = some (r, wr_I M 80 0 0) := by
      refine ⟨-2147483648, ?_, ?_⟩
      · unfold f_House_pull
        simp only [House_within, bn_S, bz_0]
        cases h1 : wi x 20000
        · rfl
        cases h2 : wi y 20000
        · rfl
        simp only [Bool.true_eq_false, if_false]
        by_cases c1 : t < 0
        · rw [if_pos c1]
        by_cases c2 : 240 < t
        · rw [if_neg c1, if_pos c2]
        by_cases c3 : w < 0
        · rw [if_neg c1, if_neg c2, if_pos c3]
        · rw [if_neg c1, if_neg c2, if_neg c3, if_neg (fun c4 => q ⟨h1, h2, c1, c2, c3, c4⟩)]
      · unfold f_Model_pull
        rw [ok_80 hM.1, gd_T]
        simp only [Model_isWithin, bn_S, bz_0]
        cases h1 : wi x 20000
        · rfl
        cases h2 : wi y 20000
        · rfl
        simp only [Bool.true_eq_false, if_false]
        by_cases c1 : t < 0
        · rw [if_pos c1]
        by_cases c2 : 240 < t
        · rw [if_neg c1, if_pos c2]
        by_cases c3 : w < 0
        · rw [if_neg c1, if_neg c2, if_pos c3]
        · rw [if_neg c1, if_neg c2, if_neg c3, if_neg (fun c4 => q ⟨h1, h2, c1, c2, c3, c4⟩)]
    obtain ⟨r, r1, r2⟩ := n
    exact PR_0 r g r1 r2
