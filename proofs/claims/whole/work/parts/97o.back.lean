/-! 97o: back, share -/
theorem back_s (T : Nat → SS) (n t : Nat) (h : rbF T t ≤ n) : rbF T (t + 1) ≤ n + 1 ∧ (rbF T (t + 1) = n + 1 → crb T t = true ∧ rbF T t = n) := by
  rw [rbF]
  by_cases c : crb T t = true
  · rw [if_pos c]
    exact ⟨by omega, fun e => ⟨c, by omega⟩⟩
  · rw [if_neg c]
    exact ⟨by omega, fun e => by omega⟩
theorem nI_sub (a b : Nat) (h : b ≤ a) : nI a - nI b = nI (a - b) := by
  obtain ⟨d, rfl⟩ : ∃ d, a = d + b := ⟨a - b, by omega⟩
  rw [Nat.add_sub_cancel]
  show Int32.ofNat (d + b) - Int32.ofNat b = Int32.ofNat d
  rw [Int32.ofNat_add, Int32.add_sub_cancel]
theorem Model_backOf_5 (N : Nat) (T : Nat → SS) (D : Nat) (hD : D ≤ 240) (o : Nat) (ho : o < 6) (M : sw_M) (hM : MR M) (hr : MRow M o T D) (n : Nat) (hn : n < rbF T D) : ∀ (d j t : Nat), t + d = D → d < j → rbF T t ≤ n →
    ∃ k, k < D ∧ crb T k = true ∧ rbF T k = n ∧ f_Model_backOf_5 N j 80 (nI o) (nI (n - rbF T t)) (nI t) M = some ((T (k + 1)).x.toInt32, M)
  | 0, j, t, ht, hj, h => by
    exfalso
    have : t = D := by omega
    rw [this] at h
    omega
  | d + 1, j, t, ht, hj, h => by
    obtain ⟨j, rfl⟩ : ∃ k, j = k + 1 := ⟨j - 1, by omega⟩
    have hb := rbF_le T D
    obtain ⟨-, y0, -, -⟩ := hr t (by omega)
    obtain ⟨x1, y1, -, -⟩ := hr (t + 1) (by omega)
    have i1 : nI (241 * o + (t + 1)) - 1 = nI (241 * o + t) := by
      rw [show 241 * o + (t + 1) = 241 * o + t + 1 by omega, nI_p1s]
    rw [f_Model_backOf_5, if_neg (nI_pos (by omega)), ok_80 hM.1, gd_T]
    simp only [nI_1, i1, ix241, mr_57 hM, ar_99 hM.1, ti_n (show 241 * o + t < 1446 by omega) (by decide), ti_n (show 241 * o + (t + 1) < 1446 by omega) (by decide), cl_n (show 241 * o + t < 2 ^ 31 by omega), cl_n (show 241 * o + (t + 1) < 2 ^ 31 by omega), gd_T, y0, y1]
    have hrec : ¬ rbF T (t + 1) = n + 1 → rbF T (t + 1) ≤ n := fun q => by have := (back_s T n t h).1; omega
    by_cases c : crb T t = true
    · have c' := c
      unfold crb at c'
      simp only [Bool.and_eq_true, decide_eq_true_eq] at c'
      rw [if_neg (Int32.not_le.mpr c'.1), if_neg (Int32.not_lt.mpr c'.2)]
      by_cases e : rbF T t = n
      · refine ⟨t, by omega, c, e, ?_⟩
        rw [e, Nat.sub_self, show nI 0 + (-1 : Int32) = -1 from rfl]
        obtain ⟨j, rfl⟩ : ∃ k, j = k + 1 := ⟨j - 1, by omega⟩
        rw [f_Model_backOf_5, if_pos (by decide), ok_80 hM.1, gd_T]
        simp only [ix241, mr_56 hM, ar_98 hM.1, ti_n (show 241 * o + (t + 1) < 1446 by omega) (by decide), cl_n (show 241 * o + (t + 1) < 2 ^ 31 by omega), gd_T, x1]
      · have e2 : rbF T (t + 1) = rbF T t + 1 := by rw [rbF, if_pos c]
        obtain ⟨k, k1, k2, k3, k4⟩ := Model_backOf_5 N T D hD o ho M hM hr n hn d j (t + 1) (by omega) (by omega) (by omega)
        refine ⟨k, k1, k2, k3, ?_⟩
        rw [← k4, e2, show n - rbF T t = (n - (rbF T t + 1)) + 1 by omega, nI_m1]
    · have e2 : rbF T (t + 1) = rbF T t := by rw [rbF, if_neg c]
      obtain ⟨k, k1, k2, k3, k4⟩ := Model_backOf_5 N T D hD o ho M hM hr n hn d j (t + 1) (by omega) (by omega) (by omega)
      refine ⟨k, k1, k2, k3, ?_⟩
      rw [e2] at k4
      by_cases c1 : 0 ≤ (T t).y.toInt32
      · rw [if_pos c1]; exact k4
      · have c2 : (T (t + 1)).y.toInt32 < 0 := by
          rcases Decidable.em ((T (t + 1)).y.toInt32 < 0) with h | h
          · exact h
          · exfalso
            apply c
            unfold crb
            simp only [Bool.and_eq_true, decide_eq_true_eq]
            exact ⟨Int32.not_le.mp c1, Int32.not_lt.mp h⟩
        rw [if_neg c1, if_pos c2]; exact k4
theorem rbF_inj (T : Nat → SS) {k l : Nat} (h1 : crb T k = true) (h2 : crb T l = true) (h : rbF T k = rbF T l) : k = l := by
  rcases Nat.lt_trichotomy k l with c | c | c
  · have := rbF_lt T k l c h1; omega
  · exact c
  · have := rbF_lt T l k c h2; omega
theorem pr_back (N : Nat) (hN : 300 ≤ N) (c : Nat) (M : sw_M) (g : Inv c M) (a t : Int32) : PR c M (f_House_back N 1 a t) (f_Model_back N 80 a t) := by
  obtain ⟨Q, mass, gx, g9, g10⟩ := id g
  have hH := gx.1.1
  have hM := gx.2.1.1
  by_cases v : 0 ≤ a.toInt ∧ a.toInt < Q.E.no
  · obtain ⟨W, o, rfl, o6, w1, w2, w3, w4, w5, w6, w7⟩ := preO N hN gx g9 g10 a v
    obtain ⟨z1, z2, z3, Z, z4, z5, z6, z7⟩ := preG N hN w4 o w7
    obtain ⟨⟨s1, s2, s3, s4, s5, s6, s7, s8, s9, s10⟩, h6, -, h17⟩ := w3
    obtain ⟨m1, m2, m3, m4, m5, ⟨m6, m7, m8, m9⟩, m10⟩ := z7
    have hMW := w4.2.1.1
    have hb := rbF_le (TT Q.E mass o) (DD Q.E mass o)
    have eh : f_House_back N 1 (nI o) t M = if t < 0 then some ((-2147483648 : Int32), W) else if t < nI (rbF (TT Q.E mass o) (DD Q.E mass o)) then sw_gd [sw_ti t 240] (some (rd_I W (hob o + 6) t.toNatClampNeg, W)) else some ((-2147483648 : Int32), W) := by
      unfold f_House_back
      rw [ok_1 hH.1, gd_T, hr_f hH 1 6 33 rfl (by decide), ok_33 hH.1, gd_T, w1, bn_S]
      show (if hob o = 0 then _ else _) = _
      rw [if_neg (hob_0 o)]
      simp only [w2.ok, gd_T, s8, w2.r13, w2.a6]
    by_cases ct : t < 0
    · refine ⟨-2147483648, W, wr_I W 80 0 0, by rw [eh, if_pos ct], hMW, ?_, w6 _ ((Fr.refl _ W).wI _ _ _ (by unfold A2q; omega))⟩
      unfold f_Model_back
      rw [ok_80 hMW.1, gd_T, z1, bn_S]
      show (if (1 : Int32) = 0 then _ else if 0 ≤ t then _ else some ((-2147483648 : Int32), wr_I W 80 0 0)) = _
      rw [if_neg (by decide), if_neg (Int32.not_le.mpr ct)]
    · have t0 := n0_lt ct
      have ht := nI_back t t0
      have em : f_Model_back N 80 (nI o) t W = if nI (rbF (TT Q.E mass o) (DD Q.E mass o)) ≤ t then some ((-2147483648 : Int32), Z) else (f_Model_backOf N 80 (nI o) t Z).bind (fun u7 => some (u7.1, u7.2)) := by
        unfold f_Model_back
        rw [ok_80 hMW.1, gd_T, z1, bn_S]
        show (if (1 : Int32) = 0 then _ else if 0 ≤ t then sw_gd [sw_ok (wr_I W 80 0 0) 80 12] ((f_Model_goAll N 80 (rd_I (wr_I W 80 0 0) 80 15) (wr_I W 80 0 0)).bind _) else _) = _
        rw [if_neg (by decide), if_pos (Int32.not_lt.mp ct), z3, gd_T, z2, z4, bn_S]
        simp only [ok_80 z5.1, mr_67 z5, ar_109 z5.1, gd_T, ti_n (show o < 6 by omega) (by decide), cl_n (show o < 2 ^ 31 by omega), m9]
      by_cases cd : t < nI (rbF (TT Q.E mass o) (DD Q.E mass o))
      · have td := Int32.lt_iff_toInt_lt.mp cd
        rw [nI_toInt (by omega)] at td
        obtain ⟨k, k1, k2, k3, k4⟩ := Model_backOf_5 N (TT Q.E mass o) (DD Q.E mass o) w5 o o6 Z z5 m1 t.toInt.toNat (by omega) (DD Q.E mass o) N 0 (by omega) (by omega) (Nat.zero_le _)
        have k4' : f_Model_backOf N 80 (nI o) t Z = some ((TT Q.E mass o (k + 1)).x.toInt32, Z) := by
          have e0 : nI (t.toInt.toNat - rbF (TT Q.E mass o) 0) = t := by rw [rbF, Nat.sub_zero]; exact ht
          rw [e0] at k4
          exact k4
        have hx := s10 k k1 k2
        rw [k3] at hx
        have hct : t.toNatClampNeg = t.toInt.toNat := by
          have := cl_n (show t.toInt.toNat < 2 ^ 31 by omega)
          rw [ht] at this
          exact this
        have hti : sw_ti t 240 = true := by
          have := ti_n (show t.toInt.toNat < 240 by omega) (by decide)
          rw [ht] at this
          exact this
        refine ⟨(TT Q.E mass o (k + 1)).x.toInt32, W, Z, ?_, hMW, ?_, w6 Z z6⟩
        · rw [eh, if_neg ct, if_pos cd, hti, gd_T, hct, hx]
        · rw [em, if_neg (Int32.not_le.mpr cd), k4', bn_S]
      · exact ⟨-2147483648, W, Z, by rw [eh, if_neg ct, if_neg cd], hMW, by rw [em, if_pos (Int32.not_lt.mp cd)], w6 Z z6⟩
  · obtain ⟨n1, n2⟩ := preN N hN gx g9 a v
    refine PR_0 (-2147483648) g ?_ ?_
    · unfold f_House_back
      rw [ok_1 hH.1, gd_T, hr_f hH 1 6 33 rfl (by decide), ok_33 hH.1, gd_T, n1, bn_S]
      rfl
    · unfold f_Model_back
      rw [ok_80 hM.1, gd_T, n2, bn_S]
      rfl
theorem pr_share (N : Nat) (hN : 400 ≤ N) (c : Nat) (M : sw_M) (g : Inv c M) (a t w : Int32) : PR c M (f_House_share N 1 a t w) (f_Model_share N 80 a t w) := by
  obtain ⟨Q, mass, gx, g9, g10⟩ := id g
  have hH := gx.1.1
  have hM := gx.2.1.1
  by_cases v : 0 ≤ a.toInt ∧ a.toInt < Q.E.no
  · obtain ⟨W, o, rfl, o6, w1, w2, w3, w4, w5, w6, w7⟩ := preO N (by omega) gx g9 g10 a v
    obtain ⟨-, -, hc, -⟩ := w3
    have hMW := w4.2.1.1
    have f0 : Fr A2q W (wr_I W 80 0 0) := (Fr.refl _ W).wI _ _ _ (by unfold A2q; omega)
    obtain ⟨z1, z2, z3, -⟩ := preG N (by omega) w4 o w7
    have g0 := (IX_fr f0 CiA2 w4).2.1
    obtain ⟨Z, y1, y2, -, y4⟩ := Model_spread N hN Q.E mass (mok_of gx) (wr_I W 80 0 0) g0.1 g0.2.1 g0.2.2.1 g0.2.2.2.1
    have z5 := y2.mr g0.1
    have fZ : Fr A2q W Z := f0.trans (y2.mono AspA2)
    have eh : f_House_share N 1 (nI o) t w M = if t < 0 then some ((-2147483648 : Int32), W) else if t < 64 then (if w = 0 then sw_gd [sw_ti t 64] (some (rd_I W (hob o + 7) t.toNatClampNeg, W)) else if w = 1 then sw_gd [sw_ti t 64] (some (rd_I W (hob o + 8) t.toNatClampNeg, W)) else some ((-2147483648 : Int32), W)) else some ((-2147483648 : Int32), W) := by
      unfold f_House_share
      rw [ok_1 hH.1, gd_T, hr_f hH 1 6 33 rfl (by decide), ok_33 hH.1, gd_T, w1, bn_S]
      show (if hob o = 0 then _ else _) = _
      rw [if_neg (hob_0 o)]
      simp only [w2.ok, gd_T, w2.r15, w2.r16, w2.a7, w2.a8]
    have em : f_Model_share N 80 (nI o) t w W = if t < 0 then some ((-2147483648 : Int32), wr_I W 80 0 0) else if 63 < t then some ((-2147483648 : Int32), wr_I W 80 0 0) else if w < 0 then some ((-2147483648 : Int32), wr_I W 80 0 0) else if w ≤ 1 then (if w = 0 then sw_gd [sw_ar Z 112 13 (64 * nI o + t)] (some (rd_I Z 112 (64 * nI o + t).toNatClampNeg, Z)) else sw_gd [sw_ar Z 113 13 (64 * nI o + t)] (some (rd_I Z 113 (64 * nI o + t).toNatClampNeg, Z))) else some ((-2147483648 : Int32), wr_I W 80 0 0) := by
      unfold f_Model_share
      rw [ok_80 hMW.1, gd_T, z1, bn_S]
      show (if (1 : Int32) = 0 then _ else if t < 0 then some ((-2147483648 : Int32), wr_I W 80 0 0) else if 63 < t then some ((-2147483648 : Int32), wr_I W 80 0 0) else if w < 0 then some ((-2147483648 : Int32), wr_I W 80 0 0) else if w ≤ 1 then sw_gd [sw_ok (wr_I W 80 0 0) 80 12] ((f_Model_spread N 80 (rd_I (wr_I W 80 0 0) 80 15) (wr_I W 80 0 0)).bind _) else some ((-2147483648 : Int32), wr_I W 80 0 0)) = _
      rw [if_neg (by decide), z3, gd_T, z2, y1, bn_S]
      simp only [ok_80 z5.1, mr_73 z5, mr_74 z5, gd_T]
    by_cases ct : t < 0
    · exact ⟨-2147483648, W, _, by rw [eh, if_pos ct], hMW, by rw [em, if_pos ct], w6 _ f0⟩
    have t0 := n0_lt ct
    have ht := nI_back t t0
    by_cases cd : t < 64
    · have td : t.toInt < 64 := Int32.lt_iff_toInt_lt.mp cd
      obtain ⟨x1, x2⟩ := hc t.toInt.toNat (by omega)
      obtain ⟨q1, q2⟩ := y4 o w7 t.toInt.toNat (by omega)
      have hct : t.toNatClampNeg = t.toInt.toNat := by
        have := cl_n (show t.toInt.toNat < 2 ^ 31 by omega)
        rw [ht] at this
        exact this
      have hti : sw_ti t 64 = true := by
        have := ti_n (show t.toInt.toNat < 64 by omega) (by decide)
        rw [ht] at this
        exact this
      rw [← ht] at em
      simp only [ix64, cl_n (show 64 * o + t.toInt.toNat < 2 ^ 31 by omega), ar_112 z5.1, ar_113 z5.1, ti_n (show 64 * o + t.toInt.toNat < 384 by omega) (by decide), gd_T, q1, q2] at em
      rw [ht, if_neg ct, if_neg (show ¬ 63 < t from i32_nlt (by rw [show (63 : Int32).toInt = 63 from by decide]; omega))] at em
      rw [if_neg ct, if_pos cd, hti, gd_T, gd_T, hct, x1, x2] at eh
      by_cases c0 : w = 0
      · subst c0
        exact ⟨_, W, Z, eh.trans (if_pos rfl), hMW, em.trans (by rw [if_neg (by decide), if_pos (by decide), if_pos rfl]), w6 Z fZ⟩
      by_cases c1 : w = 1
      · subst c1
        exact ⟨_, W, Z, eh.trans (by rw [if_neg c0, if_pos rfl]), hMW, em.trans (by rw [if_neg (by decide), if_pos (by decide), if_neg c0]), w6 Z fZ⟩
      · refine ⟨-2147483648, W, wr_I W 80 0 0, eh.trans (by rw [if_neg c0, if_neg c1]), hMW, em.trans ?_, w6 _ f0⟩
        by_cases d0 : w < 0
        · rw [if_pos d0]
        · rw [if_neg d0, if_neg]
          intro d1
          have e0 := n0_lt d0
          have e1 : w.toInt ≤ 1 := Int32.le_iff_toInt_le.mp d1
          have k : ∀ z : Int32, w.toInt = z.toInt → w = z := fun z h => Int32.toInt_inj.1 h
          have : w.toInt = 0 ∨ w.toInt = 1 := by omega
          rcases this with h | h
          · exact c0 (k 0 h)
          · exact c1 (k 1 h)
    · have td : 64 ≤ t.toInt := Int32.le_iff_toInt_le.mp (Int32.not_lt.mp cd)
      exact ⟨-2147483648, W, _, by rw [eh, if_neg ct, if_neg cd], hMW, by rw [em, if_neg ct, if_pos (show 63 < t from i32_lt (by rw [show (63 : Int32).toInt = 63 from by decide]; omega))], w6 _ f0⟩
  · obtain ⟨n1, n2⟩ := preN N (by omega) gx g9 a v
    refine PR_0 (-2147483648) g ?_ ?_
    · unfold f_House_share
      rw [ok_1 hH.1, gd_T, hr_f hH 1 6 33 rfl (by decide), ok_33 hH.1, gd_T, n1, bn_S]
      rfl
    · unfold f_Model_share
      rw [ok_80 hM.1, gd_T, n2, bn_S]
      rfl
