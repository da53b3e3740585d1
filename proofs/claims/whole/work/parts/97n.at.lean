/-! 97n: at, share, back -/
theorem n0_lt {a : Int32} (h : ¬ a < 0) : 0 ≤ a.toInt := Int32.le_iff_toInt_le.mp (Int32.not_lt.mp h)
theorem pr_at (N : Nat) (hN : 300 ≤ N) (c : Nat) (M : sw_M) (g : Inv c M) (a t w : Int32) : PR c M (f_House_at N 1 a t w) (f_Model_at N 80 a t w) := by
  obtain ⟨Q, mass, gx, g9, g10⟩ := id g
  have hH := gx.1.1
  have hM := gx.2.1.1
  by_cases v : 0 ≤ a.toInt ∧ a.toInt < Q.E.no
  · obtain ⟨W, o, rfl, o6, w1, w2, w3, w4, w5, w6, w7⟩ := preO N hN gx g9 g10 a v
    obtain ⟨z1, z2, z3, Z, z4, z5, z6, z7⟩ := preG N hN w4 o w7
    obtain ⟨⟨s1, s2, s3, s4, s5, s6, s7, s8, s9, s10⟩, h6, -, h17⟩ := w3
    obtain ⟨m1, m2, m3, m4, m5, ⟨m6, m7, m8, m9⟩, m10⟩ := z7
    have hMW := w4.2.1.1
    have eh : f_House_at N 1 (nI o) t w M = if t < 0 then some ((-2147483648 : Int32), W) else (if nI (DD Q.E mass o) < t then some ((-2147483648 : Int32), W) else if w < 0 then some ((-2147483648 : Int32), W) else if w ≤ 3 then sw_gd [sw_ar W (hob o + 1) 17 w || (sw_ar W (hob o + 1) 18 w || sw_ar W (hob o + 1) 19 w)] (sw_gd [sw_ar W (rd_R W (hob o + 1) w.toNatClampNeg) 13 t] (some (rd_I W (rd_R W (hob o + 1) w.toNatClampNeg) t.toNatClampNeg, W))) else some ((-2147483648 : Int32), W)) := by
      unfold f_House_at
      rw [ok_1 hH.1, gd_T, hr_f hH 1 6 33 rfl (by decide), ok_33 hH.1, gd_T, w1, bn_S]
      show (if hob o = 0 then _ else _) = _
      rw [if_neg (hob_0 o)]
      simp only [w2.ok, gd_T, s1, w2.r4]
    by_cases ct : t < 0
    · refine ⟨-2147483648, W, wr_I W 80 0 0, by rw [eh, if_pos ct], hMW, ?_, w6 _ ((Fr.refl _ W).wI _ _ _ (by unfold A2q; omega))⟩
      unfold f_Model_at
      rw [ok_80 hMW.1, gd_T, z1, bn_S]
      show (if (1 : Int32) = 0 then _ else if 0 ≤ t then _ else some ((-2147483648 : Int32), wr_I W 80 0 0)) = _
      rw [if_neg (by decide), if_neg (Int32.not_le.mpr ct)]
    · have t0 := n0_lt ct
      have ht := nI_back t t0
      have em : f_Model_at N 80 (nI o) t w W = if t ≤ nI (DD Q.E mass o) then (if w = 0 then sw_gd [sw_ar Z 98 13 (241 * nI o + t)] (some (rd_I Z 98 (241 * nI o + t).toNatClampNeg, Z)) else if w = 1 then sw_gd [sw_ar Z 99 13 (241 * nI o + t)] (some (rd_I Z 99 (241 * nI o + t).toNatClampNeg, Z)) else if w = 2 then sw_gd [sw_ar Z 100 13 (241 * nI o + t)] (some (rd_I Z 100 (241 * nI o + t).toNatClampNeg, Z)) else if w = 3 then sw_gd [sw_ar Z 101 13 (241 * nI o + t)] (some (rd_I Z 101 (241 * nI o + t).toNatClampNeg, Z)) else some ((-2147483648 : Int32), Z)) else some ((-2147483648 : Int32), Z) := by
        unfold f_Model_at f_Model_at_108
        rw [ok_80 hMW.1, gd_T, z1, bn_S]
        show (if (1 : Int32) = 0 then _ else if 0 ≤ t then sw_gd [sw_ok (wr_I W 80 0 0) 80 12] ((f_Model_goAll N 80 (rd_I (wr_I W 80 0 0) 80 15) (wr_I W 80 0 0)).bind _) else _) = _
        rw [if_neg (by decide), if_pos (Int32.not_lt.mp ct), z3, gd_T, z2, z4, bn_S]
        simp only [ok_80 z5.1, mr_60 z5, mr_56 z5, mr_57 z5, mr_58 z5, mr_59 z5, ar_102 z5.1, gd_T, ti_n (show o < 6 by omega) (by decide), cl_n (show o < 2 ^ 31 by omega), m2]
      by_cases cd : nI (DD Q.E mass o) < t
      · exact ⟨-2147483648, W, Z, by rw [eh, if_neg ct, if_pos cd], hMW, by rw [em, if_neg (Int32.not_le.mpr cd)], w6 Z z6⟩
      · have td := Int32.le_iff_toInt_le.mp (Int32.not_lt.mp cd)
        rw [nI_toInt (by omega)] at td
        obtain ⟨x1, x2, x3, x4⟩ := s9 t.toInt.toNat (by omega)
        obtain ⟨y1, y2, y3, y4⟩ := m1 t.toInt.toNat (by omega)
        have tl : t.toInt.toNat ≤ 240 := by omega
        rw [← ht] at eh em
        simp only [ix241, cl_n (show 241 * o + t.toInt.toNat < 2 ^ 31 by omega), ar_98 z5.1, ar_99 z5.1, ar_100 z5.1, ar_101 z5.1, ti_n (show 241 * o + t.toInt.toNat < 1446 by omega) (by decide), gd_T, y1, y2, y3, y4] at em
        rw [ht] at em eh
        rw [if_neg ct, if_neg cd] at eh
        rw [if_pos (Int32.not_lt.mp cd)] at em
        have hct : t.toNatClampNeg = t.toInt.toNat := by
          have := cl_n (show t.toInt.toNat < 2 ^ 31 by omega)
          rw [ht] at this
          exact this
        have hti : sw_ti t 241 = true := by
          have := ti_n (show t.toInt.toNat < 241 by omega) (by decide)
          rw [ht] at this
          exact this
        by_cases c0 : w = 0
        · subst c0
          refine ⟨_, W, Z, ?_, hMW, em.trans (if_pos rfl), w6 Z z6⟩
          rw [eh, if_neg (by decide), if_pos (by decide)]
          simp only [w2.n1, w2.n2, w2.a1, show sw_ti (0 : Int32) 4 = true from by decide, Bool.false_or, gd_T, show (0 : Int32).toNatClampNeg = 0 from by decide, w2.t0, w2.a2, hti, hct, x1]
        by_cases c1 : w = 1
        · subst c1
          refine ⟨_, W, Z, ?_, hMW, em.trans (by rw [if_neg c0, if_pos rfl]), w6 Z z6⟩
          rw [eh, if_neg (by decide), if_pos (by decide)]
          simp only [w2.n1, w2.n2, w2.a1, show sw_ti (1 : Int32) 4 = true from by decide, Bool.false_or, gd_T, show (1 : Int32).toNatClampNeg = 1 from by decide, w2.t1, w2.a3, hti, hct, x2]
        by_cases c2 : w = 2
        · subst c2
          refine ⟨_, W, Z, ?_, hMW, em.trans (by rw [if_neg c0, if_neg c1, if_pos rfl]), w6 Z z6⟩
          rw [eh, if_neg (by decide), if_pos (by decide)]
          simp only [w2.n1, w2.n2, w2.a1, show sw_ti (2 : Int32) 4 = true from by decide, Bool.false_or, gd_T, show (2 : Int32).toNatClampNeg = 2 from by decide, w2.t2, w2.a4, hti, hct, x3]
        by_cases c3 : w = 3
        · subst c3
          refine ⟨_, W, Z, ?_, hMW, em.trans (by rw [if_neg c0, if_neg c1, if_neg c2, if_pos rfl]), w6 Z z6⟩
          rw [eh, if_neg (by decide), if_pos (by decide)]
          simp only [w2.n1, w2.n2, w2.a1, show sw_ti (3 : Int32) 4 = true from by decide, Bool.false_or, gd_T, show (3 : Int32).toNatClampNeg = 3 from by decide, w2.t3, w2.a5, hti, hct, x4]
        · refine ⟨_, W, Z, ?_, hMW, em.trans (by rw [if_neg c0, if_neg c1, if_neg c2, if_neg c3]), w6 Z z6⟩
          rw [eh]
          by_cases d0 : w < 0
          · rw [if_pos d0]
          · rw [if_neg d0, if_neg]
            intro d1
            have e0 := n0_lt d0
            have e1 : w.toInt ≤ 3 := Int32.le_iff_toInt_le.mp d1
            have k : ∀ z : Int32, w.toInt = z.toInt → w = z := fun z h => Int32.toInt_inj.1 h
            have : w.toInt = 0 ∨ w.toInt = 1 ∨ w.toInt = 2 ∨ w.toInt = 3 := by omega
            rcases this with h | h | h | h
            · exact c0 (k 0 h)
            · exact c1 (k 1 h)
            · exact c2 (k 2 h)
            · exact c3 (k 3 h)
  · obtain ⟨n1, n2⟩ := preN N hN gx g9 a v
    refine PR_0 (-2147483648) g ?_ ?_
    · unfold f_House_at
      rw [ok_1 hH.1, gd_T, hr_f hH 1 6 33 rfl (by decide), ok_33 hH.1, gd_T, n1, bn_S]
      rfl
    · unfold f_Model_at
      rw [ok_80 hM.1, gd_T, n2, bn_S]
      rfl
