/-! 70: an ORBIT is run, from its start; CELLS; arrays are filled -/
theorem minL_s (x : Int64) : m_minL x x = x := by unfold m_minL; split <;> rfl
theorem maxL_s (x : Int64) : m_maxL x x = x := by unfold m_maxL; split <;> rfl
theorem Orbit_run_a (N : Nat) (M : sw_M) (hH : HR M) (L : Int32) (q : Nat) (hq : OQ M q) (x y u v : Int32) (h0 : rd_I M q 0 = x) (h1 : rd_I M q 1 = y) (h2 : rd_I M q 2 = u) (h3 : rd_I M q 3 = v) :
    ∃ M1, f_Orbit_run N q 3 L 35 M = (f_Orbit_mark N q 35 M1).bind (fun u3 => f_Orbit_run_127 N N q 3 L 35 (0 : Int32) u3) ∧ Fr (At q) M M1 ∧ StS M1 35 (s0 x y u v) ∧ rd_I M1 q 5 = 0 ∧ rd_I M1 q 9 = 0 ∧ rd_I M1 q 14 = 0 ∧ rd_I M1 q 10 = qr x.toInt64 y.toInt64 0 ∧ rd_L M1 q 7 = sqS (s0 x y u v) ∧ rd_L M1 q 8 = sqS (s0 x y u v) ∧ rd_L M1 q 11 = spS (s0 x y u v) ∧ rd_L M1 q 12 = spS (s0 x y u v) := by
  have k35 := ok_35 hH.1
  have hge := hq.ge
  have n1 : ¬ 35 = q := by omega
  have n2 : ¬ q = 35 := by omega
  unfold f_Orbit_run f_Star_put f_Orbit_run_88
  simp only [hq.ok, k35, m_II, m_LL, m_RR, m_IL, m_IR, m_LI, m_LR, m_RI, m_RL, m_NI, m_NL, m_NR, m_okI, m_okL, m_okR, m_okaI, m_okaL, m_okaR, m_arI, m_arL, m_arR, gd_T, bn_S, Nat.reduceEqDiff, and_false, and_true, false_and, true_and, if_false, if_true, h0, h1, h2, h3, n1, n2, Orbit_quarterAt]
  refine ⟨_, rfl, ?_, ?_, ?_, ?_, ?_, ?_, ?_, ?_, ?_, ?_⟩
  · repeat' (first | exact Fr.refl _ _ | refine Fr.wI ?_ _ _ _ ?_ | refine Fr.wL ?_ _ _ _ ?_)
    all_goals (unfold At Ao As; omega)
  · unfold StS St
    simp only [m_II, m_LL, m_RR, m_IL, m_IR, m_LI, m_LR, m_RI, m_RL, m_NI, m_NL, m_NR, m_okI, m_okL, m_okR, m_okaI, m_okaL, m_okaR, m_arI, m_arL, m_arR, gd_T, bn_S, Nat.reduceEqDiff, and_false, and_true, false_and, true_and, if_false, if_true, n1, n2]
    exact ⟨rfl, rfl, rfl, rfl, rfl, rfl⟩
  all_goals simp only [m_II, m_LL, m_RR, m_IL, m_IR, m_LI, m_LR, m_RI, m_RL, m_NI, m_NL, m_NR, m_okI, m_okL, m_okR, m_okaI, m_okaL, m_okaR, m_arI, m_arL, m_arR, gd_T, bn_S, Nat.reduceEqDiff, and_false, and_true, false_and, true_and, if_false, if_true, n1, n2]
  all_goals rfl
theorem Orbit_run (N : Nat) (hN : 300 ≤ N) (M : sw_M) (hH : HR M) (n : Nat) (hF : FR M n) (mass : Int32) (hm : rd_I M 3 5 = mass) (hmb : 0 ≤ mass.toInt ∧ mass.toInt ≤ 99999) (L : Nat) (hL : L ≤ 240) (q : Nat) (hq : OQ M q) (x y u v : Int32) (h0 : rd_I M q 0 = x) (h1 : rd_I M q 1 = y) (h2 : rd_I M q 2 = u) (h3 : rd_I M q 3 = v) (hb : SB x y u v) :
    ∃ W, f_Orbit_run N q 3 (nI L) 35 M = some W ∧ Fr (At q) M W ∧ OS W q (tr (mpart M) n mass (s0 x y u v)) (dn (mpart M) n mass L (s0 x y u v)) ∧ rd_I W q 6 = (if (tr (mpart M) n mass (s0 x y u v) (dn (mpart M) n mass L (s0 x y u v))).g = 0 then 0 else 1) := by
  obtain ⟨M1, e1, f1, hs, r5, r9, r14, r10, r7, r8, r11, r12⟩ := Orbit_run_a N M hH (nI L) q hq x y u v h0 h1 h2 h3
  have hge := hq.ge
  rw [e1, Orbit_mark N M1 q (f1.oq hq) (by rw [f1.ok]; exact ok_35 hH.1) _ hs 0 (by omega) r5, bn_S]
  have f2 : Fr (At q) M (mkW M1 q 0 (s0 x y u v)) := mkW_fr _ _ _ _ _ f1 (fun _ _ h => Or.inl h)
  have hs2 : StS (mkW M1 q 0 (s0 x y u v)) 35 (s0 x y u v) := by
    obtain ⟨a0, a1, a2, a3, a4, a5⟩ := hs
    have n1 : ¬ 35 = q := by omega
    have n2 : ∀ k, ¬ 35 = q + k := by intro k; omega
    unfold StS St mkW
    simp only [m_II, m_LL, m_RR, m_IL, m_IR, m_LI, m_LR, m_RI, m_RL, m_NI, m_NL, m_NR, m_okI, m_okL, m_okR, m_okaI, m_okaL, m_okaR, m_arI, m_arL, m_arR, gd_T, bn_S, Nat.reduceEqDiff, and_false, and_true, false_and, true_and, if_false, if_true, n1, n2]
    exact ⟨a0, a1, a2, a3, a4, a5⟩
  have ho : OS (mkW M1 q 0 (s0 x y u v)) q (tr (mpart M) n mass (s0 x y u v)) 0 := by
    unfold OS
    refine ⟨?_, ?_, ?_, ?_, ?_, ?_, ?_, ?_, fun k hk => ?_, fun k hk => absurd hk (by omega)⟩
    · unfold mkW
      simp only [m_II, m_LL, m_RR, m_IL, m_IR, m_LI, m_LR, m_RI, m_RL, m_NI, m_NL, m_NR, m_okI, m_okL, m_okR, m_okaI, m_okaL, m_okaR, m_arI, m_arL, m_arR, gd_T, bn_S, Nat.reduceEqDiff, and_false, and_true, false_and, true_and, if_false, if_true, Nat.left_eq_add]
      exact r5
    · unfold mkW
      simp only [m_II, m_LL, m_RR, m_IL, m_IR, m_LI, m_LR, m_RI, m_RL, m_NI, m_NL, m_NR, m_okI, m_okL, m_okR, m_okaI, m_okaL, m_okaR, m_arI, m_arL, m_arR, gd_T, bn_S, Nat.reduceEqDiff, and_false, and_true, false_and, true_and, if_false, if_true, Nat.left_eq_add, r7, minL_s]
      rfl
    · unfold mkW
      simp only [m_II, m_LL, m_RR, m_IL, m_IR, m_LI, m_LR, m_RI, m_RL, m_NI, m_NL, m_NR, m_okI, m_okL, m_okR, m_okaI, m_okaL, m_okaR, m_arI, m_arL, m_arR, gd_T, bn_S, Nat.reduceEqDiff, and_false, and_true, false_and, true_and, if_false, if_true, Nat.left_eq_add, r8, maxL_s]
      rfl
    · unfold mkW
      simp only [m_II, m_LL, m_RR, m_IL, m_IR, m_LI, m_LR, m_RI, m_RL, m_NI, m_NL, m_NR, m_okI, m_okL, m_okR, m_okaI, m_okaL, m_okaR, m_arI, m_arL, m_arR, gd_T, bn_S, Nat.reduceEqDiff, and_false, and_true, false_and, true_and, if_false, if_true, Nat.left_eq_add]
      exact r9
    · unfold mkW
      simp only [m_II, m_LL, m_RR, m_IL, m_IR, m_LI, m_LR, m_RI, m_RL, m_NI, m_NL, m_NR, m_okI, m_okL, m_okR, m_okaI, m_okaL, m_okaR, m_arI, m_arL, m_arR, gd_T, bn_S, Nat.reduceEqDiff, and_false, and_true, false_and, true_and, if_false, if_true, Nat.left_eq_add]
      exact r10
    · unfold mkW
      simp only [m_II, m_LL, m_RR, m_IL, m_IR, m_LI, m_LR, m_RI, m_RL, m_NI, m_NL, m_NR, m_okI, m_okL, m_okR, m_okaI, m_okaL, m_okaR, m_arI, m_arL, m_arR, gd_T, bn_S, Nat.reduceEqDiff, and_false, and_true, false_and, true_and, if_false, if_true, Nat.left_eq_add, r11, minL_s]
      rfl
    · unfold mkW
      simp only [m_II, m_LL, m_RR, m_IL, m_IR, m_LI, m_LR, m_RI, m_RL, m_NI, m_NL, m_NR, m_okI, m_okL, m_okR, m_okaI, m_okaL, m_okaR, m_arI, m_arL, m_arR, gd_T, bn_S, Nat.reduceEqDiff, and_false, and_true, false_and, true_and, if_false, if_true, Nat.left_eq_add, r12, maxL_s]
      rfl
    · unfold mkW
      simp only [m_II, m_LL, m_RR, m_IL, m_IR, m_LI, m_LR, m_RI, m_RL, m_NI, m_NL, m_NR, m_okI, m_okL, m_okR, m_okaI, m_okaL, m_okaR, m_arI, m_arL, m_arR, gd_T, bn_S, Nat.reduceEqDiff, and_false, and_true, false_and, true_and, if_false, if_true, Nat.left_eq_add]
      exact r14
    · obtain rfl : k = 0 := by omega
      unfold mkW
      simp only [m_II, m_LL, m_RR, m_IL, m_IR, m_LI, m_LR, m_RI, m_RL, m_NI, m_NL, m_NR, m_okI, m_okL, m_okR, m_okaI, m_okaL, m_okaR, m_arI, m_arL, m_arR, gd_T, bn_S, Nat.reduceEqDiff, and_false, and_true, false_and, true_and, if_false, if_true, Nat.left_eq_add]
      exact ⟨rfl, rfl, rfl, rfl⟩
  have hPk := fun p hp => (hF.2.2.2 p hp).1
  obtain ⟨w1, w2, w3, w4, w5⟩ := walk hF.1 hPk hmb hb hL
  obtain ⟨W, g1, g2, g3, g4⟩ := Orbit_run_127 N (by omega) n L hL mass (mpart M) (tr (mpart M) n mass (s0 x y u v)) (dn (mpart M) n mass L (s0 x y u v)) w1 (fun _ => rfl) q (fun t ht => ⟨(w2 t ht).1, (w2 t ht).2.1, (w2 t ht).2.2.1⟩) (fun t ht => (w3 t ht).1) w4 (dn (mpart M) n mass L (s0 x y u v)) N 0 _ (by omega) (by omega) (f2.hr hH) (FR_fr f2 (CfAt hge) hH hF) (mpart_fr f2 (CfAt hge)) ((f2.I 3 5 (by unfold At Ao As; omega)).trans hm) (f2.oq hq) hs2 ho
  exact ⟨W, g1, f2.trans g2, g3, g4⟩
theorem d64 {a b : Int64} (ha : 0 ≤ a.toInt) (hb : 1 ≤ b.toInt) : (a / b).toInt = a.toInt / b.toInt := by
  have h1 := Int64.le_toInt a
  have h1' := Int64.toInt_lt a
  have h2 : 0 ≤ a.toInt / b.toInt := Int.ediv_nonneg ha (by omega)
  have h3 : a.toInt / b.toInt ≤ a.toInt := Int.ediv_le_self _ ha
  rw [Int64.toInt_div, Int.tdiv_eq_ediv_of_nonneg ha, bm64] <;> omega
def GB (g r : Int32) : Prop := (2 ≤ g.toInt ∧ g.toInt ≤ 8) ∧ (8 ≤ r.toInt ∧ r.toInt ≤ 20000)
def cq (g r z : Int) : Int := (z + r) * g / (2 * r)
theorem cq_in {g r z : Int} (hg : 2 ≤ g) (hr : 8 ≤ r) (h1 : -r ≤ z) (h2 : z < r) : 0 ≤ cq g r z ∧ cq g r z < g := by
  unfold cq
  have h3 : 0 ≤ (z + r) * g := Int.mul_nonneg (by omega) (by omega)
  have h4 : (z + r) * g < 2 * r * g := Int.mul_lt_mul_of_pos_right (by omega) (by omega)
  refine ⟨Int.ediv_nonneg h3 (by omega), Int.ediv_lt_of_lt_mul (by omega) ?_⟩
  rw [Int.mul_comm g (2 * r)]
  exact h4
theorem cq_64 {g r : Int32} (h : GB g r) {z D : Int64} (h1 : -r.toInt ≤ z.toInt) (h2 : z.toInt < r.toInt) (hD : D.toInt = 2 * r.toInt) : (((z + r.toInt64) * g.toInt64) / D).toInt = cq g.toInt r.toInt z.toInt := by
  obtain ⟨⟨g1, g2⟩, r1, r2⟩ := h
  have e1 : (z + r.toInt64).toInt = z.toInt + r.toInt := by rw [a64, t64] <;> rw [t64] <;> omega
  have h3 : 0 ≤ (z.toInt + r.toInt) * g.toInt := Int.mul_nonneg (by omega) (by omega)
  have h4 : (z.toInt + r.toInt) * g.toInt ≤ 40000 * 8 := Int.mul_le_mul (by omega) g2 (by omega) (by omega)
  have e2 : ((z + r.toInt64) * g.toInt64).toInt = (z.toInt + r.toInt) * g.toInt := by rw [m64, e1, t64] <;> rw [e1, t64] <;> omega
  rw [d64 (by rw [e2]; exact h3) (by omega), e2, hD]
  rfl
def inR (r : Int32) (x y : Int64) : Bool := decide (-r.toInt ≤ x.toInt) && (decide (x.toInt < r.toInt) && (decide (-r.toInt ≤ y.toInt) && decide (y.toInt < r.toInt)))
def celI (g r : Int32) (x y : Int64) : Int32 := if inR r x y = true then Int32.ofInt (cq g.toInt r.toInt y.toInt * g.toInt + cq g.toInt r.toInt x.toInt) else -1
theorem inR_ite {α : Type} {r : Int32} (hr : 8 ≤ r.toInt ∧ r.toInt ≤ 20000) (x y : Int64) (A B : α) : (if x < (-r).toInt64 then B else if r.toInt64 ≤ x then B else if y < (-r).toInt64 then B else if y < r.toInt64 then A else B) = if inR r x y = true then A else B := by
  have e : (-r).toInt64.toInt = -r.toInt := by rw [t64, neg32 (by omega)]
  simp only [Int64.lt_iff_toInt_lt, Int64.le_iff_toInt_le, e, t64]
  unfold inR
  by_cases h1 : x.toInt < -r.toInt
  · rw [if_pos h1, if_neg (by simp; omega)]
  · rw [if_neg h1]
    by_cases h2 : r.toInt ≤ x.toInt
    · rw [if_pos h2, if_neg (by simp; omega)]
    · rw [if_neg h2]
      by_cases h3 : y.toInt < -r.toInt
      · rw [if_pos h3, if_neg (by simp; omega)]
      · rw [if_neg h3]
        by_cases h4 : y.toInt < r.toInt
        · rw [if_pos h4, if_pos (by simp; omega)]
        · rw [if_neg h4, if_neg (by simp; omega)]
theorem inR_b {r : Int32} {x y : Int64} (h : inR r x y = true) : (-r.toInt ≤ x.toInt ∧ x.toInt < r.toInt) ∧ (-r.toInt ≤ y.toInt ∧ y.toInt < r.toInt) := by
  unfold inR at h
  simp at h
  omega
theorem of_i32 {z : Int} (h : 0 ≤ z ∧ z < 2147483648) : (Int32.ofInt z).toInt = z := by rw [Int32.toInt_ofInt, bm32] <;> omega
theorem celI_b {g r : Int32} (h : GB g r) {x y : Int64} (hc : inR r x y = true) : 0 ≤ cq g.toInt r.toInt y.toInt * g.toInt + cq g.toInt r.toInt x.toInt ∧ cq g.toInt r.toInt y.toInt * g.toInt + cq g.toInt r.toInt x.toInt < g.toInt * g.toInt ∧ g.toInt * g.toInt ≤ 64 := by
  obtain ⟨⟨g1, g2⟩, r1, r2⟩ := h
  obtain ⟨b1, b2⟩ := inR_b hc
  obtain ⟨a1, a2⟩ := cq_in g1 r1 b1.1 b1.2
  obtain ⟨a3, a4⟩ := cq_in g1 r1 b2.1 b2.2
  have h1 : 0 ≤ cq g.toInt r.toInt y.toInt * g.toInt := Int.mul_nonneg a3 (by omega)
  have h2 : cq g.toInt r.toInt y.toInt * g.toInt ≤ (g.toInt - 1) * g.toInt := Int.mul_le_mul_of_nonneg_right (by omega) (by omega)
  have h3 : (g.toInt - 1) * g.toInt = g.toInt * g.toInt - g.toInt := by rw [Int.sub_mul, Int.one_mul]
  have h4 : g.toInt * g.toInt ≤ 8 * 8 := Int.mul_le_mul g2 g2 (by omega) (by omega)
  omega
theorem Swarm_cellOf (N : Nat) (M : sw_M) (hH : HR M) (g r : Int32) (hg : rd_I M 33 5 = g) (hr : rd_I M 33 6 = r) (h : GB g r) (x y : Int64) : f_Swarm_cellOf N 33 x y M = some (celI g r x y, M) := by
  have h' := h
  obtain ⟨⟨g1, g2⟩, r1, r2⟩ := h'
  have e2 : ((2 : Int32) * r).toInt = 2 * r.toInt := by rw [m32, show (2 : Int32).toInt = 2 from by decide] <;> rw [show (2 : Int32).toInt = 2 from by decide] <;> omega
  have eD : ((2 : Int32) * r).toInt64.toInt = 2 * r.toInt := by rw [t64, e2]
  unfold f_Swarm_cellOf
  rw [ok_33 hH.1, gd_T, hg, hr, if_neg (i32_nlt (by rw [show (1 : Int32).toInt = 1 from by decide]; omega)), gd_d (ne0_of (by rw [eD]; omega)), inR_ite ⟨r1, r2⟩]
  unfold celI
  cases hc : inR r x y
  · rfl
  · simp only [if_true]
    obtain ⟨b1, b2⟩ := inR_b hc
    obtain ⟨c1, c2, c3⟩ := celI_b h hc
    congr 2
    apply Int32.toInt_inj.mp
    have a3 := (cq_in g1 r1 b2.1 b2.2)
    have a1 := (cq_in g1 r1 b1.1 b1.2)
    have m0 : 0 ≤ cq g.toInt r.toInt y.toInt * g.toInt := Int.mul_nonneg a3.1 (by omega)
    have m1 : (((y + r.toInt64) * g.toInt64) / ((2 : Int32) * r).toInt64 * g.toInt64).toInt = cq g.toInt r.toInt y.toInt * g.toInt := by rw [m64, cq_64 h b2.1 b2.2 eD, t64] <;> rw [cq_64 h b2.1 b2.2 eD, t64] <;> omega
    rw [of_i32 (by omega), Int64.toInt_toInt32, a64 (by rw [m1, cq_64 h b1.1 b1.2 eD]; omega) (by rw [m1, cq_64 h b1.1 b1.2 eD]; omega), m1, cq_64 h b1.1 b1.2 eD, bm32] <;> omega
theorem Model_cellOf (N : Nat) (M : sw_M) (hM : MR M) (g r : Int32) (hg : rd_I M 80 71 = g) (hr : rd_I M 80 72 = r) (h : GB g r) (x y : Int64) : f_Model_cellOf N 80 x y M = some (celI g r x y, M) := by
  have h' := h
  obtain ⟨⟨g1, g2⟩, r1, r2⟩ := h'
  have eD : ((2 : Int64) * r.toInt64).toInt = 2 * r.toInt := by rw [m64, t64, show (2 : Int64).toInt = 2 from by decide] <;> rw [t64, show (2 : Int64).toInt = 2 from by decide] <;> omega
  unfold f_Model_cellOf
  rw [ok_80 hM.1, gd_T, hg, hr, gd_d (ne0_of (by rw [eD]; omega)), inR_ite ⟨r1, r2⟩]
  unfold celI
  cases hc : inR r x y
  · rfl
  · simp only [if_true]
    obtain ⟨b1, b2⟩ := inR_b hc
    obtain ⟨c1, c2, c3⟩ := celI_b h hc
    congr 2
    apply Int32.toInt_inj.mp
    have a3 := (cq_in g1 r1 b2.1 b2.2)
    have a1 := (cq_in g1 r1 b1.1 b1.2)
    have m0 : 0 ≤ cq g.toInt r.toInt y.toInt * g.toInt := Int.mul_nonneg a3.1 (by omega)
    have y1 : ((((y + r.toInt64) * g.toInt64) / ((2 : Int64) * r.toInt64)).toInt32).toInt = cq g.toInt r.toInt y.toInt := by rw [Int64.toInt_toInt32, cq_64 h b2.1 b2.2 eD, bm32] <;> omega
    have x1 : ((((x + r.toInt64) * g.toInt64) / ((2 : Int64) * r.toInt64)).toInt32).toInt = cq g.toInt r.toInt x.toInt := by rw [Int64.toInt_toInt32, cq_64 h b1.1 b1.2 eD, bm32] <;> omega
    have m1 : (g * (((y + r.toInt64) * g.toInt64) / ((2 : Int64) * r.toInt64)).toInt32).toInt = cq g.toInt r.toInt y.toInt * g.toInt := by rw [m32, y1, Int.mul_comm] <;> rw [y1, Int.mul_comm] <;> omega
    rw [of_i32 (by omega), a32 (by rw [m1, x1]; omega) (by rw [m1, x1]; omega), m1, x1]
theorem celI_n {g r : Int32} (h : GB g r) (x y : Int64) : celI g r x y = -1 ∨ ∃ c : Nat, c < 64 ∧ (c : Int) < g.toInt * g.toInt ∧ celI g r x y = nI c := by
  unfold celI
  cases hc : inR r x y
  · exact Or.inl rfl
  · obtain ⟨c1, c2, c3⟩ := celI_b h hc
    refine Or.inr ⟨(cq g.toInt r.toInt y.toInt * g.toInt + cq g.toInt r.toInt x.toInt).toNat, by omega, by omega, ?_⟩
    simp only [if_true]
    apply Int32.toInt_inj.mp
    rw [of_i32 (by omega), nI_toInt (by omega)]
    omega
theorem Arr_fillI (N : Nat) (q n : Nat) (v : Int32) (hn : n < 2 ^ 31) (hs : sw_sh q = some (13, n)) : ∀ (d j i : Nat) (M : sw_M), i + d = n → d < j → q ≤ rd_N M →
    ∃ W, f_Arr_fill_aII_5 N j q v (nI i) (nI n) M = some W ∧ Fr (fun a k => a = q ∧ i ≤ k ∧ k < n) M W ∧ ∀ k, i ≤ k → k < n → rd_I W q k = v
  | 0, j, i, M, hi, hj, hq => by
    obtain ⟨j, rfl⟩ : ∃ k, j = k + 1 := ⟨j - 1, by omega⟩
    refine ⟨M, ?_, Fr.refl _ _, fun k h1 h2 => by omega⟩
    rw [f_Arr_fill_aII_5, if_pos (nI_le (by omega) (by omega))]
  | d + 1, j, i, M, hi, hj, hq => by
    obtain ⟨j, rfl⟩ : ∃ k, j = k + 1 := ⟨j - 1, by omega⟩
    obtain ⟨W, e1, e2, e3⟩ := Arr_fillI N q n v hn hs d j (i + 1) (wr_I M q i v) (by omega) (by omega) hq
    refine ⟨W, ?_, (((Fr.refl _ M).wI q i v ⟨rfl, by omega, by omega⟩).trans (e2.mono (fun a k h => ⟨h.1, by omega, h.2.2⟩))), fun k h1 h2 => ?_⟩
    · rw [f_Arr_fill_aII_5, if_neg (nI_ge (by omega) (by omega)), c_ar hs hq, ti_n (by omega) hn, gd_T, cl_n (by omega), nI_1]
      exact e1
    · by_cases hk : k = i
      · subst hk
        rw [e2.I q k (by omega), m_II, if_pos ⟨rfl, rfl⟩]
      · exact e3 k (by omega) h2
