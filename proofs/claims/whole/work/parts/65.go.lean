/-! 65: go on both sides -/
def StS (M : sw_M) (q : Nat) (s : SS) : Prop := St M q s.x s.y s.u s.v s.t s.g
theorem Star_stop (N : Nat) (M : sw_M) (q : Nat) (hq : sw_ok M q 8 = true) (s : SS) (hs : StS M q s) (h : ¬ (s.t < 240 ∧ s.g ≠ 1)) : f_Star_step N q 3 M = some (0, M) := by
  obtain ⟨s0, s1, s2, s3, s4, s5⟩ := hs
  unfold f_Star_step
  rw [hq, gd_T, s5, s4]
  by_cases hg : s.g = 1
  · rw [if_pos hg]
  · rw [if_neg hg, if_neg (fun c => h ⟨c, hg⟩)]
theorem Star_stopB (N : Nat) (M : sw_M) (q : Nat) (hq : sw_ok M q 8 = true) (s : SS) (hs : StS M q s) (h : ¬ (0 < s.t ∧ s.g ≠ -1)) : f_Star_stepBack N q 3 M = some (0, M) := by
  obtain ⟨s0, s1, s2, s3, s4, s5⟩ := hs
  unfold f_Star_stepBack
  rw [hq, gd_T, s5, s4]
  by_cases hg : s.g = -1
  · rw [if_pos hg]
  · rw [if_neg hg, if_neg (fun c => h ⟨c, hg⟩)]
theorem i32_le {a b : Int32} (h : a.toInt ≤ b.toInt) : a ≤ b := Int32.le_iff_toInt_le.mpr h
theorem i32_nle {a b : Int32} (h : b.toInt < a.toInt) : ¬ a ≤ b := fun c => by have := Int32.le_iff_toInt_le.mp c; omega
theorem i32_lt {a b : Int32} (h : a.toInt < b.toInt) : a < b := Int32.lt_iff_toInt_lt.mpr h
theorem i32_nlt {a b : Int32} (h : b.toInt ≤ a.toInt) : ¬ a < b := fun c => by have := Int32.lt_iff_toInt_lt.mp c; omega
theorem CfAs : ∀ a k, Cf a k → ¬ As 32 a k := by intro a k h; unfold Cf at h; unfold As; omega
theorem House_go_f (N : Nat) (hN : 40 ≤ N) (P : Nat → PartS) (n : Nat) (mass a1 : Int32) : ∀ (d j i : Nat) (s : SS) (M : sw_M), HR M → FR M n → mpart M = P → rd_I M 3 5 = mass → StS M 32 s → ok1 P n mass d s → d < j → a1.toInt = ((i + d : Nat) : Int) → i + d ≤ 240 →
    ∃ W, f_House_go_21 N j 1 a1 (nI i) M = f_House_go_46 N N 1 a1 (nI (i + (go1 P n mass d s).1)) W ∧ Fr (As 32) M W ∧ StS W 32 (go1 P n mass d s).2
  | 0, j, i, s, M, hH, hF, hP, hm, hs, hk, hj, ha, hi => by
    obtain ⟨j, rfl⟩ : ∃ k, j = k + 1 := ⟨j - 1, by omega⟩
    refine ⟨M, ?_, Fr.refl _ _, hs⟩
    rw [f_House_go_21, if_pos (i32_le (by rw [ha, nI_toInt (by omega)]; omega))]
    rfl
  | d + 1, j, i, s, M, hH, hF, hP, hm, hs, hk, hj, ha, hi => by
    obtain ⟨j, rfl⟩ : ∃ k, j = k + 1 := ⟨j - 1, by omega⟩
    have h32 := ok_32 hH.1
    rw [f_House_go_21, if_neg (i32_nle (by rw [ha, nI_toInt (by omega)]; omega)), ok_1 hH.1, gd_T, hr_f hH 1 4 32 rfl (by decide), h32, gd_T, hr_f hH 1 2 3 rfl (by decide)]
    by_cases c : s.t < 240 ∧ s.g ≠ 1
    · obtain ⟨t1, bx, by', hk'⟩ := hk c
      obtain ⟨W, e1, e2, e3⟩ := Star_step N hN M hH n hF 32 h32 (by decide) s.x s.y s.u s.v s.t s.g mass hm hs c.2 t1 bx by'
      rw [hP] at e3
      obtain ⟨V, g1, g2, g3⟩ := House_go_f N hN P n mass a1 d j (i + 1) (fwd P n mass s) W (e2.hr hH) (FR_fr e2 CfAs hH hF) ((mpart_fr e2 CfAs).trans hP) ((e2.I 3 5 (by unfold As; omega)).trans hm) e3 hk' (by omega) (by rw [ha]; congr 1; omega) (by omega)
      refine ⟨V, ?_, e2.trans g2, ?_⟩
      · rw [e1, bn_S]
        show (if (1 : Int32) = 0 then _ else _) = _
        rw [if_neg (by decide), nI_1, g1, go1, if_pos c]
        show f_House_go_46 N N 1 a1 (nI (i + 1 + (go1 P n mass d (fwd P n mass s)).1)) V = f_House_go_46 N N 1 a1 (nI (i + ((go1 P n mass d (fwd P n mass s)).1 + 1))) V
        rw [show i + 1 + (go1 P n mass d (fwd P n mass s)).1 = i + ((go1 P n mass d (fwd P n mass s)).1 + 1) by omega]
      · rw [go1, if_pos c]; exact g3
    · refine ⟨M, ?_, Fr.refl _ _, ?_⟩
      · rw [Star_stop N M 32 h32 s hs c, bn_S]
        show (if (0 : Int32) = 0 then _ else _) = _
        rw [if_pos rfl, go1, if_neg c]; rfl
      · rw [go1, if_neg c]; exact hs
theorem House_go_b (N : Nat) (hN : 40 ≤ N) (P : Nat → PartS) (n : Nat) (mass a1 : Int32) : ∀ (d j i : Nat) (s : SS) (M : sw_M), HR M → FR M n → mpart M = P → rd_I M 3 5 = mass → StS M 32 s → ok2 P n mass d s → d < j → (-a1).toInt = ((i + d : Nat) : Int) → i + d ≤ 240 →
    ∃ W, f_House_go_46 N j 1 a1 (nI i) M = some (nI (i + (go2 P n mass d s).1), W) ∧ Fr (As 32) M W ∧ StS W 32 (go2 P n mass d s).2
  | 0, j, i, s, M, hH, hF, hP, hm, hs, hk, hj, ha, hi => by
    obtain ⟨j, rfl⟩ : ∃ k, j = k + 1 := ⟨j - 1, by omega⟩
    refine ⟨M, ?_, Fr.refl _ _, hs⟩
    rw [f_House_go_46, if_pos (i32_le (by rw [ha, nI_toInt (by omega)]; omega))]
    rfl
  | d + 1, j, i, s, M, hH, hF, hP, hm, hs, hk, hj, ha, hi => by
    obtain ⟨j, rfl⟩ : ∃ k, j = k + 1 := ⟨j - 1, by omega⟩
    have h32 := ok_32 hH.1
    rw [f_House_go_46, if_neg (i32_nle (by rw [ha, nI_toInt (by omega)]; omega)), ok_1 hH.1, gd_T, hr_f hH 1 4 32 rfl (by decide), h32, gd_T, hr_f hH 1 2 3 rfl (by decide)]
    by_cases c : 0 < s.t ∧ s.g ≠ -1
    · obtain ⟨t1, bx, by', hk'⟩ := hk c
      obtain ⟨W, e1, e2, e3⟩ := Star_stepBack N hN M hH n hF 32 h32 (by intro k h; unfold Cf at h; omega) (by decide) s.x s.y s.u s.v s.t s.g mass hm hs c.2 t1 bx by'
      rw [hP] at e3
      obtain ⟨V, g1, g2, g3⟩ := House_go_b N hN P n mass a1 d j (i + 1) (bwd P n mass s) W (e2.hr hH) (FR_fr e2 CfAs hH hF) ((mpart_fr e2 CfAs).trans hP) ((e2.I 3 5 (by unfold As; omega)).trans hm) e3 hk' (by omega) (by rw [ha]; congr 1; omega) (by omega)
      refine ⟨V, ?_, e2.trans g2, ?_⟩
      · rw [e1, bn_S]
        show (if (1 : Int32) = 0 then _ else _) = _
        rw [if_neg (by decide), nI_1, g1, go2, if_pos c]
        show some (nI (i + 1 + (go2 P n mass d (bwd P n mass s)).1), V) = some (nI (i + ((go2 P n mass d (bwd P n mass s)).1 + 1)), V)
        rw [show i + 1 + (go2 P n mass d (bwd P n mass s)).1 = i + ((go2 P n mass d (bwd P n mass s)).1 + 1) by omega]
      · rw [go2, if_pos c]; exact g3
    · refine ⟨M, ?_, Fr.refl _ _, ?_⟩
      · rw [Star_stopB N M 32 h32 s hs c, bn_S]
        show (if (0 : Int32) = 0 then _ else _) = _
        rw [if_pos rfl, go2, if_neg c]; rfl
      · rw [go2, if_neg c]; exact hs
/-- the reference's star, gone -/
def MS (M : sw_M) (s : SS) : Prop := rd_L M 80 39 = s.x ∧ rd_L M 80 40 = s.y ∧ rd_L M 80 41 = s.u ∧ rd_L M 80 42 = s.v ∧ rd_I M 80 48 = s.t ∧ rd_I M 80 49 = s.g
def Ag (a k : Nat) : Prop := a = 80 ∧ ((37 ≤ k ∧ k ≤ 42) ∨ k = 48 ∨ k = 49)
theorem AwAg : ∀ a k, Aw a k → Ag a k := by intro a k h; unfold Aw at h; unfold Ag; omega
theorem CfAg : ∀ a k, Cf a k → ¬ Ag a k := by intro a k h; unfold Cf at h; unfold Ag; omega
theorem Model_go_221 (N : Nat) (k62 : Nat → Int32 → Int32 → sw_M → Option (Int32 × sw_M)) (a1 a2 : Int32) (M : sw_M) (hM : MR M) : f_Model_go_221 N k62 80 a1 a2 M = k62 80 a1 (a2 + 1) (wr_I M 80 49 (if bey (rd_L M 80 39) (rd_L M 80 40) = true then (if a1 ≤ 0 then -1 else 1) else 0)) := by
  unfold f_Model_go_221 f_Model_go_242
  rw [ok_80 hM.1, gd_T, Model_isGone N M hM, bn_S]
  simp only [bz_0, ok_80 hM.1, gd_T]
  cases bey (rd_L M 80 39) (rd_L M 80 40) <;> by_cases h : a1 ≤ 0 <;> simp [h]
theorem Model_go_f (N : Nat) (hN : 40 ≤ N) (P : Nat → PartS) (n : Nat) (mass a1 : Int32) (hp : 0 < a1.toInt) : ∀ (d j i : Nat) (s : SS) (M : sw_M), MR M → HR M → FR M n → mpart M = P → rd_I M 80 15 = mass → MS M s → ok1 P n mass d s → d < j → a1.toInt = ((i + d : Nat) : Int) → i + d ≤ 240 →
    ∃ W, f_Model_go_62 N j 80 a1 (nI i) M = f_Model_go_251 N 80 (nI (i + (go1 P n mass d s).1)) W ∧ Fr Ag M W ∧ MS W (go1 P n mass d s).2
  | 0, j, i, s, M, hM, hH, hF, hP, hm, hs, hk, hj, ha, hi => by
    obtain ⟨j, rfl⟩ : ∃ k, j = k + 1 := ⟨j - 1, by omega⟩
    refine ⟨M, ?_, Fr.refl _ _, hs⟩
    rw [f_Model_go_62, show m_absI a1 = a1 from if_pos (i32_le (by rw [show (0 : Int32).toInt = 0 from by decide]; omega)), if_pos (i32_le (by rw [ha, nI_toInt (by omega)]; omega))]
    rfl
  | d + 1, j, i, s, M, hM, hH, hF, hP, hm, hs, hk, hj, ha, hi => by
    obtain ⟨j, rfl⟩ : ∃ k, j = k + 1 := ⟨j - 1, by omega⟩
    have z0 : (0 : Int32).toInt = 0 := by decide
    have h80 := ok_80 hM.1
    have hn0 : ¬ a1 ≤ 0 := i32_nle (by rw [z0]; omega)
    obtain ⟨s1, s2, s3, s4, s5, s6⟩ := id hs
    rw [f_Model_go_62, show m_absI a1 = a1 from if_pos (i32_le (by rw [z0]; omega)), if_neg (i32_nle (by rw [ha, nI_toInt (by omega)]; omega)), if_neg hn0, h80, gd_T, s5, s6]
    by_cases c : s.t < 240 ∧ s.g ≠ 1
    · obtain ⟨t1, bx, by', hk'⟩ := hk c
      obtain ⟨W, e1, e2, g1, g2, g3, g4⟩ := Model_steps N hN M hM n hF s.t mass ⟨t1.1, by omega⟩ s.x s.y s.u s.v s1 s2 s3 s4 bx by'
      rw [if_neg (Int32.not_le.mpr c.1), if_neg c.2, f_Model_go_110, if_neg hn0, h80, gd_T, s5, hm, e1, bn_S, e2.ok, h80, gd_T, Model_go_221 N _ _ _ _ (show MR (wr_I W 80 48 _) from e2.mr hM), if_neg hn0, nI_1]
      rw [hP] at g1 g2 g3 g4
      have hfr : ∀ v w, Fr Ag M (wr_I (wr_I W 80 48 v) 80 49 w) := fun v w => ((e2.mono AwAg).wI 80 48 v (by unfold Ag; omega)).wI 80 49 w (by unfold Ag; omega)
      have hms : MS (wr_I (wr_I W 80 48 (rd_I W 80 48 + 1)) 80 49 (if bey (rd_L W 80 39) (rd_L W 80 40) = true then 1 else 0)) (fwd P n mass s) := by
        unfold MS
        simp only [m_II, m_LL, m_RR, m_IL, m_IR, m_LI, m_LR, m_RI, m_RL, m_NI, m_NL, m_NR, m_okI, m_okL, m_okR, m_okaI, m_okaL, m_okaR, m_arI, m_arL, m_arR, gd_T, bn_S, Nat.reduceEqDiff, and_false, and_true, false_and, true_and, if_false, if_true]
        rw [g1, g2, g3, g4, e2.I 80 48 (by unfold Aw; omega), s5]
        refine ⟨rfl, rfl, rfl, rfl, rfl, rfl⟩
      obtain ⟨V, q1, q2, q3⟩ := Model_go_f N hN P n mass a1 hp d j (i + 1) (fwd P n mass s) _ ((hfr _ _).mr hM) ((hfr _ _).hr hH) (FR_fr (hfr _ _) CfAg hH hF) ((mpart_fr (hfr _ _) CfAg).trans hP) (((hfr _ _).I 80 15 (by unfold Ag; omega)).trans hm) hms hk' (by omega) (by rw [ha]; congr 1; omega) (by omega)
      refine ⟨V, ?_, (hfr _ _).trans q2, ?_⟩
      · rw [go1, if_pos c]
        refine q1.trans ?_
        show f_Model_go_251 N 80 (nI (i + 1 + (go1 P n mass d (fwd P n mass s)).1)) V = f_Model_go_251 N 80 (nI (i + ((go1 P n mass d (fwd P n mass s)).1 + 1))) V
        rw [show i + 1 + (go1 P n mass d (fwd P n mass s)).1 = i + ((go1 P n mass d (fwd P n mass s)).1 + 1) by omega]
      · rw [go1, if_pos c]; exact q3
    · refine ⟨M, ?_, Fr.refl _ _, ?_⟩
      · rw [go1, if_neg c]
        by_cases h : (240 : Int32) ≤ s.t
        · rw [if_pos h]; rfl
        · rw [if_neg h, if_pos (by
            rcases Decidable.em (s.g = 1) with e | e
            · exact e
            · exact absurd ⟨Int32.not_le.mp h, e⟩ c)]
          rfl
      · rw [go1, if_neg c]; exact hs
