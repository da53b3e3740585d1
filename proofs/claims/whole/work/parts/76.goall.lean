/-! 76: all ORBITS on the reference's side -/
def gnF (T : Nat → SS) (D : Nat) : Int32 := if (T D).g = 0 then 0 else 1
def kd (g : Int32) (lo hi : Int64) : Int32 := if g = 0 then (if 0 < lo then 0 else if 0 ≤ hi then (if lo = 0 then (if hi = 0 then 2 else 1) else 1) else 0) else 3
noncomputable def nmF (T : Nat → SS) (D : Nat) (v : Int32) : Int64 := if v = 0 then nrF T D else if v = 1 then frF T D else if v = 2 then (tuF T D).toInt64 else if v = 3 then (kd (gnF T D) (slF T D) (shF T D)).toInt64 else if v = 4 then (if gnF T D = 0 then 0 else (nI D).toInt64) else (nI (rbF T D)).toInt64
theorem i64_nn {z : Int32} : (0 : Int64) ≤ z.toInt64 ↔ 0 ≤ z := by
  rw [Int64.le_iff_toInt_le, Int32.le_iff_toInt_le, t64]
  exact Iff.rfl
def TL (M : sw_M) (o : Nat) (T : Nat → SS) (t : Nat) : Prop := rd_L M 106 o = nrF T t ∧ rd_L M 107 o = frF T t ∧ rd_I M 108 o = tuF T t ∧ rd_I M 109 o = nI (rbF T t)
theorem MRow_fr {A : Nat → Nat → Prop} {M W : sw_M} {o : Nat} {T : Nat → SS} {t : Nat} (h : Fr A M W) (ht : t ≤ 240) (hA : ∀ a k, Akp o a k → ¬ A a k) (g : MRow M o T t) : MRow W o T t := fun k hk => by
  rw [h.I _ _ (hA _ _ (by unfold Akp; omega)), h.I _ _ (hA _ _ (by unfold Akp; omega)), h.I _ _ (hA _ _ (by unfold Akp; omega)), h.I _ _ (hA _ _ (by unfold Akp; omega))]
  exact g k hk
theorem AkpAtl {o p : Nat} : ∀ a k, Akp o a k → ¬ Atl p a k := by intro a k h; unfold Akp at h; unfold Atl; omega
theorem Model_tells_25 (N : Nat) (T : Nat → SS) (D : Nat) (hD : D ≤ 240) (o : Nat) (ho : o < 6) (g : Int32) (hfit : ∀ t, t ≤ D → (T t).x.toInt32.toInt64 = (T t).x ∧ (T t).y.toInt32.toInt64 = (T t).y ∧ (T t).u.toInt32.toInt64 = (T t).u ∧ (T t).v.toInt32.toInt64 = (T t).v) :
    ∀ (d j t : Nat) (M : sw_M), t + d = D → d < j → MR M → MRow M o T D → rd_I M 102 o = nI D → rd_I M 103 o = g → TL M o T t →
    ∃ W, f_Model_tells_25 N j 80 (nI o) (slF T t) (shF T t) (quF T t) (nI (t + 1)) M = some W ∧ Fr (Atl o) M W ∧ TL W o T D ∧ rd_L W 105 o = shF T D - slF T D ∧ rd_I W 104 o = kd g (slF T D) (shF T D)
  | 0, j, t, M, ht, hj, hM, hr, h2, h3, htl => by
    obtain ⟨j, rfl⟩ : ∃ k, j = k + 1 := ⟨j - 1, by omega⟩
    obtain rfl : t = D := by omega
    have key : f_Model_tells_25 N (j + 1) 80 (nI o) (slF T t) (shF T t) (quF T t) (nI (t + 1)) M = some (wr_I (wr_L M 105 o (shF T t - slF T t)) 104 o (kd g (slF T t) (shF T t))) := by
      rw [f_Model_tells_25]
      unfold f_Model_tells_346
      simp only [m_II, m_LL, m_RR, m_IL, m_IR, m_LI, m_LR, m_RI, m_RL, m_NI, m_NL, m_NR, m_okI, m_okL, m_okR, m_okaI, m_okaL, m_okaR, m_arI, m_arL, m_arR, gd_T, bn_S, Nat.reduceEqDiff, Nat.left_eq_add, Nat.add_eq_left, Nat.one_ne_zero, and_false, and_true, false_and, true_and, if_false, if_true, ok_80 hM.1, mr_60 hM, mr_61 hM, mr_62 hM, mr_63 hM, ar_102 hM.1, ar_103 hM.1, ar_104 hM.1, ar_105 hM.1, an_103_14, Bool.false_or, ti_n (show o < 6 by omega) (by decide), cl_n (show o < 2 ^ 31 by omega), h2, h3]
      rw [if_pos (nI_lt (by omega) (by omega))]
      unfold kd
      by_cases c1 : g = 0
      · rw [if_pos c1, if_pos c1]
        by_cases c2 : 0 < slF T t
        · rw [if_pos c2, if_pos c2]
        · rw [if_neg c2, if_neg c2]
          by_cases c3 : 0 ≤ shF T t
          · rw [if_pos c3, if_pos c3]
            by_cases c4 : slF T t = 0
            · rw [if_pos c4, if_pos c4]
              by_cases c5 : shF T t = 0
              · rw [if_pos c5, if_pos c5]
              · rw [if_neg c5, if_neg c5]
            · rw [if_neg c4, if_neg c4]
          · rw [if_neg c3, if_neg c3]
      · rw [if_neg c1, if_neg c1]
    refine ⟨_, key, ((Fr.refl _ M).wL _ _ _ (by unfold Atl; omega)).wI _ _ _ (by unfold Atl; omega), ?_, ?_, ?_⟩
    · unfold TL
      simp only [m_II, m_LL, m_RR, m_IL, m_IR, m_LI, m_LR, m_RI, m_RL, m_NI, m_NL, m_NR, m_okI, m_okL, m_okR, m_okaI, m_okaL, m_okaR, m_arI, m_arL, m_arR, gd_T, bn_S, Nat.reduceEqDiff, Nat.left_eq_add, Nat.add_eq_left, Nat.one_ne_zero, and_false, and_true, false_and, true_and, if_false, if_true]
      exact htl
    · simp only [m_II, m_LL, m_RR, m_IL, m_IR, m_LI, m_LR, m_RI, m_RL, m_NI, m_NL, m_NR, m_okI, m_okL, m_okR, m_okaI, m_okaL, m_okaR, m_arI, m_arL, m_arR, gd_T, bn_S, Nat.reduceEqDiff, Nat.left_eq_add, Nat.add_eq_left, Nat.one_ne_zero, and_false, and_true, false_and, true_and, if_false, if_true]
    · simp only [m_II, m_LL, m_RR, m_IL, m_IR, m_LI, m_LR, m_RI, m_RL, m_NI, m_NL, m_NR, m_okI, m_okL, m_okR, m_okaI, m_okaL, m_okaR, m_arI, m_arL, m_arR, gd_T, bn_S, Nat.reduceEqDiff, Nat.left_eq_add, Nat.add_eq_left, Nat.one_ne_zero, and_false, and_true, false_and, true_and, if_false, if_true]
  | d + 1, j, t, M, ht, hj, hM, hr, h2, h3, htl => by
    obtain ⟨j, rfl⟩ : ∃ k, j = k + 1 := ⟨j - 1, by omega⟩
    obtain ⟨t1, t2, t3, t4⟩ := htl
    obtain ⟨r1, r2, r3, r4⟩ := hr (t + 1) (by omega)
    obtain ⟨q1, q2, q3, q4⟩ := hfit (t + 1) (by omega)
    have y0 := (hr t (by omega)).2.1
    rw [f_Model_tells_25]
    simp only [ok_80 hM.1, mr_60 hM, mr_56 hM, mr_57 hM, mr_58 hM, mr_59 hM, ar_102 hM.1, ar_98 hM.1, ar_99 hM.1, ar_100 hM.1, ar_101 hM.1, gd_T, ix241, ti_n (show o < 6 by omega) (by decide), cl_n (show o < 2 ^ 31 by omega), ti_n (show 241 * o + (t + 1) < 1446 by omega) (by decide), cl_n (show 241 * o + (t + 1) < 2 ^ 31 by omega), h2, r1, r2, r3, r4, q1, q2, q3, q4]
    rw [if_neg (nI_nlt (by omega) (by omega))]
    obtain ⟨W, e1, e2, e3, e4, e5, e6⟩ := tells_s N (f_Model_tells_25 N j) M hM o ho (slF T t) (shF T t) (quF T t) t (by omega) (T (t + 1)).x (T (t + 1)).y ((T (t + 1)).x * (T (t + 1)).x + (T (t + 1)).y * (T (t + 1)).y) ((T (t + 1)).x * (T (t + 1)).v - (T (t + 1)).y * (T (t + 1)).u)
    rw [e1]
    have hc : (rd_I M 99 (241 * o + t) < 0 ∧ 0 ≤ (T (t + 1)).y) ↔ crb T t = true := by
      unfold crb
      rw [y0, ← q2]
      simp [i64_nn]
    obtain ⟨Z, z1, z2, z3, z4, z5⟩ := Model_tells_25 N T D hD o ho g hfit d j (t + 1) W (by omega) (by omega) (e2.mr hM) (MRow_fr e2 hD AkpAtl hr) ((e2.I 102 o (by unfold Atl; omega)).trans h2) ((e2.I 103 o (by unfold Atl; omega)).trans h3) ⟨by rw [e3, t1]; rfl, by rw [e4, t2]; rfl, by rw [e5, t3]; rfl, by
      rw [e6, t4, rbF, nI_1]
      by_cases c : crb T t = true
      · rw [if_pos c, if_pos (hc.mpr c)]
      · rw [if_neg c, if_neg (fun h => c (hc.mp h))]⟩
    exact ⟨Z, z1, e2.trans z2, z3, z4, z5⟩
theorem Model_tells (N : Nat) (hN : 300 ≤ N) (T : Nat → SS) (D : Nat) (hD : D ≤ 240) (o : Nat) (ho : o < 6) (g : Int32) (hfit : ∀ t, t ≤ D → (T t).x.toInt32.toInt64 = (T t).x ∧ (T t).y.toInt32.toInt64 = (T t).y ∧ (T t).u.toInt32.toInt64 = (T t).u ∧ (T t).v.toInt32.toInt64 = (T t).v) (M : sw_M) (hM : MR M) (hr : MRow M o T D) (h2 : rd_I M 102 o = nI D) (h3 : rd_I M 103 o = g) :
    ∃ W, f_Model_tells N 80 (nI o) M = some W ∧ Fr (Atl o) M W ∧ TL W o T D ∧ rd_L W 105 o = shF T D - slF T D ∧ rd_I W 104 o = kd g (slF T D) (shF T D) := by
  obtain ⟨r1, r2, r3, r4⟩ := hr 0 (by omega)
  obtain ⟨q1, q2, q3, q4⟩ := hfit 0 (by omega)
  obtain ⟨j, hj⟩ : ∃ k, N = k + 1 := ⟨N - 1, by omega⟩
  have x0 : (241 : Int32) * nI o + 0 = nI (241 * o + 0) := ix241 o 0
  unfold f_Model_tells
  rw [show f_Model_tells_25 N N = f_Model_tells_25 N (j + 1) by rw [← hj]]
  simp only [f_Model_tells_25, m_II, m_LL, m_RR, m_IL, m_IR, m_LI, m_LR, m_RI, m_RL, m_NI, m_NL, m_NR, m_okI, m_okL, m_okR, m_okaI, m_okaL, m_okaR, m_arI, m_arL, m_arR, gd_T, bn_S, Nat.reduceEqDiff, Nat.left_eq_add, Nat.add_eq_left, Nat.one_ne_zero, and_false, and_true, false_and, true_and, if_false, if_true, ok_80 hM.1, mr_66 hM, mr_67 hM, mr_60 hM, mr_56 hM, mr_57 hM, mr_58 hM, mr_59 hM, ar_108 hM.1, ar_109 hM.1, ar_102 hM.1, ar_98 hM.1, ar_99 hM.1, ar_100 hM.1, ar_101 hM.1, x0, ti_n (show o < 6 by omega) (by decide), cl_n (show o < 2 ^ 31 by omega), ti_n (show 241 * o + 0 < 1446 by omega) (by decide), cl_n (show 241 * o + 0 < 2 ^ 31 by omega), h2, r1, r2, r3, r4, q1, q2, q3, q4]
  rw [if_neg (show ¬ nI D < 0 from nI_pos (by omega)), tells_0 N _ _ (show MR (wr_I (wr_I M 108 o 0) 109 o 0) from hM) o ho]
  have f0 : ∀ a b, Fr (Atl o) M (wr_L (wr_L (wr_I (wr_I M 108 o 0) 109 o 0) 106 o a) 107 o b) := fun a b => ((((Fr.refl _ M).wI _ _ _ (by unfold Atl; omega)).wI _ _ _ (by unfold Atl; omega)).wL _ _ _ (by unfold Atl; omega)).wL _ _ _ (by unfold Atl; omega)
  obtain ⟨Z, z1, z2, z3, z4, z5⟩ := Model_tells_25 N T D hD o ho g hfit D j 0 _ (by omega) (by omega) ((f0 (sqS (T 0)) (sqS (T 0))).mr hM) (MRow_fr (f0 _ _) hD AkpAtl hr) (((f0 _ _).I 102 o (by unfold Atl; omega)).trans h2) (((f0 _ _).I 103 o (by unfold Atl; omega)).trans h3) (by
    unfold TL
    simp only [m_II, m_LL, m_RR, m_IL, m_IR, m_LI, m_LR, m_RI, m_RL, m_NI, m_NL, m_NR, m_okI, m_okL, m_okR, m_okaI, m_okaL, m_okaR, m_arI, m_arL, m_arR, gd_T, bn_S, Nat.reduceEqDiff, Nat.left_eq_add, Nat.add_eq_left, Nat.one_ne_zero, and_false, and_true, false_and, true_and, if_false, if_true]
    exact ⟨rfl, rfl, rfl, rfl⟩)
  exact ⟨Z, z1, (f0 _ _).trans z2, z3, z4, z5⟩
/-- the rule, on the reference's side -/
def RU (M : sw_M) (hu : Int32) (w : Nat → Int32 × Int32) (k : Nat) : Prop := k ≤ 48 ∧ rd_I M 80 20 = hu ∧ rd_I M 80 18 = nI k ∧ (∀ t, t < k → rd_I M 90 t = (w t).1 ∧ rd_I M 91 t = (w t).2) ∧ (∀ t, t < k → EV (w t)) ∧ (hu ≠ 0 → dpF w k 0 0 = some 1)
def usd (hu : Int32) (nm : Int32 → Int64) (w : Nat → Int32 × Int32) (k : Nat) : Bool := if hu = 0 then true else usR (ev nm w k 0 0 (fun _ => 0))
theorem Model_isUsed (N : Nat) (hN : 300 ≤ N) (M : sw_M) (hM : MR M) (hu : Int32) (w : Nat → Int32 × Int32) (k : Nat) (hr : RU M hu w k) (o : Nat) (ho : o < 6) (T : Nat → SS) (D : Nat) (h1 : TL M o T D) (h2 : rd_I M 102 o = nI D) (h3 : rd_I M 103 o = gnF T D) (h4 : rd_I M 104 o = kd (gnF T D) (slF T D) (shF T D)) :
    ∃ W, f_Model_isUsed N 80 (nI o) M = some (bz (usd hu (nmF T D) w k), W) ∧ Fr Awk M W := by
  obtain ⟨k1, k2, k3, k4, k5, k6⟩ := hr
  unfold f_Model_isUsed usd
  rw [ok_80 hM.1, gd_T, k2]
  by_cases c : hu = 0
  · rw [if_pos c, if_pos c]
    exact ⟨M, rfl, Fr.refl _ _⟩
  · rw [if_neg c, if_neg c]
    have f0 : Fr Awk M (wr_I M 80 70 0) := (Fr.refl _ M).wI _ _ _ (Or.inl ⟨rfl, rfl⟩)
    have hn : ∀ M', Fr Awk M M' → ∀ v, nmv v → f_Model_nameOf N 80 v (nI o) M' = some (nmF T D v, M') := fun M' f v hv => by
      obtain ⟨t1, t2, t3, t4⟩ := h1
      have hM' := f.mr hM
      have e1 := (f.L 106 o (by unfold Awk; omega)).trans t1
      have e2 := (f.L 107 o (by unfold Awk; omega)).trans t2
      have e3 := (f.I 108 o (by unfold Awk; omega)).trans t3
      have e4 := (f.I 109 o (by unfold Awk; omega)).trans t4
      have e5 := (f.I 102 o (by unfold Awk; omega)).trans h2
      have e6 := (f.I 103 o (by unfold Awk; omega)).trans h3
      have e7 := (f.I 104 o (by unfold Awk; omega)).trans h4
      unfold f_Model_nameOf nmF
      simp only [ok_80 hM'.1, mr_60 hM', mr_61 hM', mr_62 hM', mr_64 hM', mr_65 hM', mr_66 hM', mr_67 hM', ar_102 hM'.1, ar_103 hM'.1, ar_104 hM'.1, ar_106 hM'.1, ar_107 hM'.1, ar_108 hM'.1, ar_109 hM'.1, an_103_14, Bool.false_or, gd_T, ti_n (show o < 6 by omega) (by decide), cl_n (show o < 2 ^ 31 by omega), e1, e2, e3, e4, e5, e6, e7]
      unfold nmv at hv
      rcases hv with h | h | h | h | h | h <;> subst h <;> simp (decide := true) only [if_true, if_false]
      split <;> rfl
    obtain ⟨W, a1, a2⟩ := Model_isUsed_16 N w k k1 o (nmF T D) k5 k N 0 0 (wr_I M 80 70 0) (fun _ => 0) (by omega) (by omega) hM ((f0.I 80 18 (by unfold Awk; omega)).trans k3) (fun t ht => by rw [f0.I _ _ (by unfold Awk; omega), f0.I _ _ (by unfold Awk; omega)]; exact k4 t ht) (fun M' f v hv => hn M' (f0.trans f) v hv) (by omega) (by simp only [m_II, m_LL, m_RR, m_IL, m_IR, m_LI, m_LR, m_RI, m_RL, m_NI, m_NL, m_NR, m_okI, m_okL, m_okR, m_okaI, m_okaL, m_okaR, m_arI, m_arL, m_arR, gd_T, bn_S, Nat.reduceEqDiff, Nat.left_eq_add, Nat.add_eq_left, Nat.one_ne_zero, and_false, and_true, false_and, true_and, if_false, if_true]; rfl) (fun t ht => absurd ht (by omega)) (k6 c)
    exact ⟨W, a1, f0.trans a2⟩
