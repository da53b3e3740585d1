/-! 97p: tune -/
/-- the first BAR, or past the last PART -/
def fbd (P : Nat → PartS) : Nat → Nat → Nat
  | 0, p => p
  | d + 1, p => if (P p).kind = 3 then p else fbd P d (p + 1)
theorem fbd_s (P : Nat → PartS) : ∀ d p, p ≤ fbd P d p ∧ fbd P d p ≤ p + d ∧ (fbd P d p < p + d → (P (fbd P d p)).kind = 3)
  | 0, p => ⟨Nat.le_refl p, Nat.le_refl p, fun h => absurd h (Nat.lt_irrefl p)⟩
  | d + 1, p => by
    rw [fbd]
    by_cases c : (P p).kind = 3
    · rw [if_pos c]
      exact ⟨Nat.le_refl p, by omega, fun _ => c⟩
    · rw [if_neg c]
      obtain ⟨h1, h2, h3⟩ := fbd_s P d (p + 1)
      exact ⟨by omega, by omega, fun h => h3 (by omega)⟩
def fpT (P : Nat → PartS) (n : Nat) : Int32 := if fbd P n 0 = n then 0 else (P (fbd P n 0)).T
theorem k20 : ∀ k : Int32, (k = 0 ∨ k = 1 ∨ k = 2 ∨ k = 3 ∨ k = 4) → (k + 20 = 23 ↔ k = 3) := by
  intro k h
  rcases h with h | h | h | h | h <;> subst h <;> decide
theorem firstPeriod_2 (N : Nat) (M : sw_M) (hH : HR M) (n : Nat) (hF : FR M n) : ∀ (d p j : Nat), p + d = n → d < j → f_Field_firstPeriod_2 N j 3 (nI p) M = some (if fbd (mpart M) d p = n then 0 else (mpart M (fbd (mpart M) d p)).T, M)
  | 0, p, j, hp, hj => by
    obtain ⟨j, rfl⟩ : ∃ i, j = i + 1 := ⟨j - 1, by omega⟩
    have h8 := hF.1
    rw [f_Field_firstPeriod_2, ok_3 hH.1, gd_T, hF.2.2.1, if_pos (nI_le (by omega) (by omega)), fbd, if_pos (by omega)]
  | d + 1, p, j, hp, hj => by
    obtain ⟨j, rfl⟩ : ∃ i, j = i + 1 := ⟨j - 1, by omega⟩
    have h8 := hF.1
    have i8 : sw_ti (nI p) 8 = true := ti_n (by omega) (by decide)
    obtain ⟨pk, hp0, hp1, hp2, hp3, hp4, hp5, hp6, hp7, hp8⟩ := hF.2.2.2 p (by omega)
    have hl : sw_oka M (rd_R M 3 0) = true ∧ sw_len (rd_R M 3 0) = 8 ∧ (sw_ar M (rd_R M 3 0) 17 (nI p) || (sw_ar M (rd_R M 3 0) 18 (nI p) || sw_ar M (rd_R M 3 0) 19 (nI p))) = true ∧ ¬ hpa M p = 0 := by
      rcases hpa_in hH (show p < 8 by omega) with e | e <;> rw [e.1, e.2]
      · exact ⟨oa_4 hH.1, rfl, by rw [an_4_17, ar_4 hH.1, i8]; rfl, by omega⟩
      · exact ⟨oa_19 hH.1, rfl, by rw [an_19_17, ar_19 hH.1, i8]; rfl, by omega⟩
    rw [f_Field_firstPeriod_2, ok_3 hH.1, gd_T, hF.2.2.1, if_neg (nI_ge (by omega) (by omega)), hl.1, gd_T, hl.2.1, if_neg (nI_ge (by omega) (by omega)), hl.2.2.1, gd_T, cl_n (show p < 2 ^ 31 by omega)]
    rw [show rd_R M (rd_R M 3 0) p = hpa M p from rfl, if_neg hl.2.2.2, hpa_ok hH (show p < 8 by omega), gd_T, hp0]
    unfold f_Field_firstPeriod_44
    rw [nI_1, fbd]
    by_cases c : (mpart M p).kind = 3
    · rw [if_pos ((k20 _ pk.k).mpr c), if_pos c, if_neg (by omega), hp7 c]
    · rw [if_neg (fun h => c ((k20 _ pk.k).mp h)), if_neg c]
      exact firstPeriod_2 N M hH n hF d (p + 1) j (by omega) (by omega)
theorem Model_tune_8 (N : Nat) (M : sw_M) (hM : MR M) (n : Nat) (hn : n ≤ 8) (h10 : rd_I M 80 10 = nI n) (a b e : Int32) : ∀ (d p j : Nat), p + d = n → d < j → f_Model_tune_8 N j 80 a b e (nI p) M = f_Model_tune_34 N 80 a b e (nI (fbd (mpart M) d p)) M
  | 0, p, j, hp, hj => by
    obtain ⟨j, rfl⟩ : ∃ i, j = i + 1 := ⟨j - 1, by omega⟩
    rw [f_Model_tune_8, ok_80 hM.1, gd_T, h10, if_pos (nI_le (by omega) (by omega)), fbd]
  | d + 1, p, j, hp, hj => by
    obtain ⟨j, rfl⟩ : ∃ i, j = i + 1 := ⟨j - 1, by omega⟩
    rw [f_Model_tune_8, ok_80 hM.1, gd_T, h10, if_neg (nI_ge (by omega) (by omega)), mr_1 hM, ar_81 hM.1, ti_n (show p < 16 by omega) (by decide), gd_T, cl_n (show p < 2 ^ 31 by omega), nI_1, fbd]
    have ih := Model_tune_8 N M hM n hn h10 a b e d (p + 1) j (by omega) (by omega)
    have ek : (mpart M p).kind = rd_I M 81 p := rfl
    rw [ek]
    by_cases c : rd_I M 81 p = 3
    · rw [if_pos c, if_pos c]
    · rw [if_neg c, if_neg c]; exact ih
/-- whether it is in tune -/
def tnb (b e tu T L : Int32) : Bool := decide (m_absI (e * tu * 2 * T - b * L) ≤ e * 2 * T) || !decide (e * 2 * T < m_absI (e * tu * 2 * T + b * L))
theorem pr_tune (N : Nat) (hN : 300 ≤ N) (c : Nat) (M : sw_M) (g : Inv c M) (a b e : Int32) : PR c M (f_House_tune N 1 a b e) (f_Model_tune N 80 a b e) := by
  obtain ⟨Q, mass, gx, g9, g10⟩ := id g
  have hH := gx.1.1
  have hM := gx.2.1.1
  have hE := gx.1.2.2.1
  have hF := gx.1.2.1
  have h8 := hF.1
  have hPE : mpart M = Q.E.P := hE.2.2.1
  have fp : ∀ W, IX c W Q mass → f_Field_firstPeriod N 3 W = some (fpT Q.E.P Q.E.n, W) := fun W gW => by
    have hFW := gW.1.2.1
    have := firstPeriod_2 N W gW.1.1 Q.E.n hFW Q.E.n 0 N (by omega) (by have := hFW.1; omega)
    rw [gW.1.2.2.1.2.2.1] at this
    exact this
  have t8 : ∀ W, IX c W Q mass → f_Model_tune N 80 a b e W = f_Model_tune_34 N 80 a b e (nI (fbd Q.E.P Q.E.n 0)) (wr_I W 80 0 0) := fun W gW => by
    have f0 : Fr A2q W (wr_I W 80 0 0) := (Fr.refl _ W).wI _ _ _ (by unfold A2q; omega)
    have g0 := IX_fr f0 CiA2 gW
    unfold f_Model_tune
    rw [ok_80 gW.2.1.1.1, gd_T]
    have := Model_tune_8 N (wr_I W 80 0 0) g0.2.1.1 Q.E.n g0.1.2.1.1 g0.1.2.2.1.2.1 a b e Q.E.n 0 N (by omega) (by omega)
    rw [g0.1.2.2.1.2.2.1] at this
    exact this
  obtain ⟨b1, b2, b3⟩ := fbd_s Q.E.P Q.E.n 0
  have hfp : fbd Q.E.P Q.E.n 0 < Q.E.n → ¬ fpT Q.E.P Q.E.n = 0 ∧ fpT Q.E.P Q.E.n = (Q.E.P (fbd Q.E.P Q.E.n 0)).T := fun h => by
    unfold fpT
    rw [if_neg (by omega)]
    have hk := b3 (by omega)
    have := (hE.1.2.1 _ h).T hk
    refine ⟨fun q => ?_, rfl⟩
    rw [q, show (0 : Int32).toInt = 0 from by decide] at this
    omega
  by_cases v : 0 ≤ a.toInt ∧ a.toInt < Q.E.no
  · obtain ⟨W, o, rfl, o6, w1, w2, w3, w4, w5, w6, w7⟩ := preO N hN gx g9 g10 a v
    obtain ⟨z1, z2, z3, Z, z4, z5, z6, z7⟩ := preG N hN w4 o w7
    obtain ⟨⟨s1, s2, s3, s4, s5, s6, s7, s8, s9, s10⟩, h6, -, h17⟩ := w3
    obtain ⟨m1, m2, m3, m4, m5, ⟨m6, m7, m8, m9⟩, m10⟩ := z7
    have hMW := w4.2.1.1
    have hHW := w4.1.1
    have f0 : Fr A2q W (wr_I W 80 0 0) := (Fr.refl _ W).wI _ _ _ (by unfold A2q; omega)
    have eh : f_House_tune N 1 (nI o) b e M = if fpT Q.E.P Q.E.n = 0 then some (0, W) else if b < 1 then some (0, W) else if 9 < b then some (0, W) else if e < 1 then some (0, W) else if e ≤ 9 then some (bz (tnb b e (tuF (TT Q.E mass o) (DD Q.E mass o)) (fpT Q.E.P Q.E.n) (nI Q.E.L)), W) else some (0, W) := by
      unfold f_House_tune
      rw [ok_1 hH.1, gd_T, hr_f hH 1 6 33 rfl (by decide), ok_33 hH.1, gd_T, w1, bn_S]
      show sw_gd [sw_ok W 1 11] (sw_gd [sw_ok W (rd_R W 1 2) 0] ((f_Field_firstPeriod N (rd_R W 1 2) W).bind _)) = _
      rw [ok_1 hHW.1, gd_T, hr_f hHW 1 2 3 rfl (by decide), ok_3 hHW.1, gd_T, fp W w4, bn_S]
      show (if hob o = 0 then _ else _) = _
      rw [if_neg (hob_0 o)]
      unfold f_House_tune_86 f_House_tune_112 tnb
      simp only [w2.ok, gd_T, ok_1 hHW.1, ok_33 hHW.1, hr_f hHW 1 6 33 rfl (by decide), s4, w4.1.2.2.2.1.1]
      by_cases c1 : m_absI (e * tuF (TT Q.E mass o) (DD Q.E mass o) * 2 * fpT Q.E.P Q.E.n - b * nI Q.E.L) ≤ e * 2 * fpT Q.E.P Q.E.n
      · simp only [if_pos c1, decide_eq_true c1, Bool.true_or]
        rfl
      · by_cases c2 : e * 2 * fpT Q.E.P Q.E.n < m_absI (e * tuF (TT Q.E mass o) (DD Q.E mass o) * 2 * fpT Q.E.P Q.E.n + b * nI Q.E.L)
        · simp only [if_neg c1, if_pos c2, decide_eq_false c1, decide_eq_true c2, Bool.false_or, Bool.not_true]
          rfl
        · simp only [if_neg c1, if_neg c2, decide_eq_false c1, decide_eq_false c2, Bool.false_or, Bool.not_false]
          rfl
    have g0 := IX_fr f0 CiA2 w4
    have gZ := IX_fr z6 CiA2 w4
    have em : f_Model_tune N 80 (nI o) b e W = if b < 1 then some (0, wr_I W 80 0 0) else if 9 < b then some (0, wr_I W 80 0 0) else if e < 1 then some (0, wr_I W 80 0 0) else if 9 < e then some (0, wr_I W 80 0 0) else if nI (fbd Q.E.P Q.E.n 0) = nI Q.E.n then some (0, wr_I W 80 0 0) else some (bz (tnb b e (tuF (TT Q.E mass o) (DD Q.E mass o)) (fpT Q.E.P Q.E.n) (nI Q.E.L)), Z) := by
      rw [t8 W w4]
      unfold f_Model_tune_34
      rw [z3, gd_T, z1, bn_S]
      show (if (1 : Int32) = 0 then _ else _) = _
      rw [if_neg (by decide)]
      simp only [z3, gd_T, z2, z4, bn_S, g0.1.2.2.1.2.1]
      by_cases q : fbd Q.E.P Q.E.n 0 < Q.E.n
      · have e1 : rd_I Z 89 (fbd Q.E.P Q.E.n 0) = fpT Q.E.P Q.E.n := by
          rw [(hfp q).2, ← gZ.1.2.2.1.2.2.1]
          rfl
        unfold f_Model_tune_116 f_Model_tune_150
        simp only [ok_80 z5.1, mr_66 z5, mr_9 z5, ar_108 z5.1, ar_89 z5.1, ti_n (show o < 6 by omega) (by decide), cl_n (show o < 2 ^ 31 by omega), ti_n (show fbd Q.E.P Q.E.n 0 < 16 by omega) (by decide), cl_n (show fbd Q.E.P Q.E.n 0 < 2 ^ 31 by omega), gd_T, m8, e1, gZ.1.2.2.1.2.2.2.1]
        unfold tnb
        by_cases c1 : m_absI (e * tuF (TT Q.E mass o) (DD Q.E mass o) * 2 * fpT Q.E.P Q.E.n - b * nI Q.E.L) ≤ e * 2 * fpT Q.E.P Q.E.n
        · simp only [if_pos c1, decide_eq_true c1, Bool.true_or]
          rfl
        · by_cases c2 : e * 2 * fpT Q.E.P Q.E.n < m_absI (e * tuF (TT Q.E mass o) (DD Q.E mass o) * 2 * fpT Q.E.P Q.E.n + b * nI Q.E.L)
          · simp only [if_neg c1, if_pos c2, decide_eq_false c1, decide_eq_true c2, Bool.false_or, Bool.not_true]
            rfl
          · simp only [if_neg c1, if_neg c2, decide_eq_false c1, decide_eq_false c2, Bool.false_or, Bool.not_false]
            rfl
      · have q' : nI (fbd Q.E.P Q.E.n 0) = nI Q.E.n := by rw [show fbd Q.E.P Q.E.n 0 = Q.E.n by omega]
        simp only [if_pos q']
    by_cases q : fbd Q.E.P Q.E.n 0 < Q.E.n
    · have q' : ¬ nI (fbd Q.E.P Q.E.n 0) = nI Q.E.n := fun h => by have := (nI_eq (by omega) (by omega)).mp h; omega
      rw [if_neg (hfp q).1] at eh
      rw [if_neg q'] at em
      by_cases c1 : b < 1
      · exact ⟨0, W, _, by rw [eh, if_pos c1], hMW, by rw [em, if_pos c1], w6 _ f0⟩
      by_cases c2 : 9 < b
      · exact ⟨0, W, _, by rw [eh, if_neg c1, if_pos c2], hMW, by rw [em, if_neg c1, if_pos c2], w6 _ f0⟩
      by_cases c3 : e < 1
      · exact ⟨0, W, _, by rw [eh, if_neg c1, if_neg c2, if_pos c3], hMW, by rw [em, if_neg c1, if_neg c2, if_pos c3], w6 _ f0⟩
      by_cases c4 : e ≤ 9
      · exact ⟨_, W, Z, by rw [eh, if_neg c1, if_neg c2, if_neg c3, if_pos c4], hMW, by rw [em, if_neg c1, if_neg c2, if_neg c3, if_neg (Int32.not_lt.mpr c4)], w6 Z z6⟩
      · exact ⟨0, W, _, by rw [eh, if_neg c1, if_neg c2, if_neg c3, if_neg c4], hMW, by rw [em, if_neg c1, if_neg c2, if_neg c3, if_pos (Int32.not_le.mp c4)], w6 _ f0⟩
    · have q' : nI (fbd Q.E.P Q.E.n 0) = nI Q.E.n := by rw [show fbd Q.E.P Q.E.n 0 = Q.E.n by omega]
      have q0 : fpT Q.E.P Q.E.n = 0 := by unfold fpT; rw [if_pos (by omega)]
      rw [if_pos q0] at eh
      rw [if_pos q'] at em
      refine ⟨0, W, _, eh, hMW, ?_, w6 _ f0⟩
      rw [em]
      repeat' (first | rfl | split)
  · obtain ⟨n1, n2⟩ := preN N hN gx g9 a v
    refine PR_0 0 g ?_ ?_
    · unfold f_House_tune
      rw [ok_1 hH.1, gd_T, hr_f hH 1 6 33 rfl (by decide), ok_33 hH.1, gd_T, n1, bn_S]
      show sw_gd [sw_ok M 1 11] (sw_gd [sw_ok M (rd_R M 1 2) 0] ((f_Field_firstPeriod N (rd_R M 1 2) M).bind _)) = _
      rw [ok_1 hH.1, gd_T, hr_f hH 1 2 3 rfl (by decide), ok_3 hH.1, gd_T, fp M gx, bn_S]
      rfl
    · rw [t8 M gx]
      unfold f_Model_tune_34
      rw [show sw_ok (wr_I M 80 0 0) 80 12 = true from ok_80 hM.1, gd_T, n2, bn_S]
      rfl
