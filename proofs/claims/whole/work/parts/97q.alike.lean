/-! 97q: alike -/
def anyN (p : Nat → Bool) : Nat → Nat → Bool
  | 0, _ => false
  | d + 1, t => p t || anyN p d (t + 1)
def cN (q : Nat → Bool) : Nat → Nat → Nat
  | 0, _ => 0
  | d + 1, i => (if q i = true then 1 else 0) + cN q d (i + 1)
theorem cN_le (q : Nat → Bool) : ∀ d i, cN q d i ≤ d
  | 0, i => Nat.le_refl 0
  | d + 1, i => by
    have := cN_le q d (i + 1)
    rw [cN]
    split <;> omega
def nea (x y : Int32) : Bool := decide (m_absI (x - y) ≤ 50)
def hlf (m c : Nat) : Bool := decide (0 < m) && decide (m ≤ 2 * c)
theorem hn_77 (N : Nat) (k4 : Nat → Nat → Int32 → Int32 → sw_M → Option (Int32 × sw_M)) (q1 q2 : Nat) (M : sw_M) (h1 : OQ M q1) (h2 : OQ M q2) (m2 : Nat) (hm2 : m2 ≤ 240) (e2 : rd_I M q2 14 = nI m2) (i : Nat) (hi : i < 240) (c : Nat) : ∀ (d t j : Nat), t + d = m2 → d < j →
    f_Orbit_mostlyReturnsNear_24 N k4 j q1 q2 (nI c) (nI i) (nI t) M = k4 q1 q2 (nI (c + if anyN (fun t => nea (rd_I M (q1 + 6) i) (rd_I M (q2 + 6) t)) d t = true then 1 else 0)) (nI (i + 1)) M
  | 0, t, j, ht, hj => by
    obtain ⟨j, rfl⟩ : ∃ k, j = k + 1 := ⟨j - 1, by omega⟩
    rw [f_Orbit_mostlyReturnsNear_24, h2.ok, gd_T, e2, if_pos (nI_le (by omega) (by omega)), f_Orbit_mostlyReturnsNear_77, nI_1]
    rfl
  | d + 1, t, j, ht, hj => by
    obtain ⟨j, rfl⟩ : ∃ k, j = k + 1 := ⟨j - 1, by omega⟩
    have ih := hn_77 N k4 q1 q2 M h1 h2 m2 hm2 e2 i hi c d (t + 1) j (by omega) (by omega)
    rw [f_Orbit_mostlyReturnsNear_24, h2.ok, gd_T, e2, if_neg (nI_ge (by omega) (by omega)), h2.r13, h2.o6, gd_T, h2.l6, if_neg (nI_ge (by omega) (by omega)), h1.ok, gd_T, h1.r13, h1.a6, ti_n hi (by decide), gd_T, h2.a6, ti_n (show t < 240 by omega) (by decide), gd_T, cl_n (show i < 2 ^ 31 by omega), cl_n (show t < 2 ^ 31 by omega), anyN]
    unfold nea at ih ⊢
    by_cases q : (50 : Int32) < m_absI (rd_I M (q1 + 6) i - rd_I M (q2 + 6) t)
    · rw [if_pos q, nI_1, ih, decide_eq_false (Int32.not_le.mpr q), Bool.false_or]
    · rw [if_neg q, decide_eq_true (Int32.not_lt.mp q), Bool.true_or, if_pos rfl, f_Orbit_mostlyReturnsNear_77, nI_1, nI_1]
theorem hn_4 (N : Nat) (hN : 300 ≤ N) (q1 q2 : Nat) (M : sw_M) (h1 : OQ M q1) (h2 : OQ M q2) (m1 m2 : Nat) (hm1 : m1 ≤ 240) (hm2 : m2 ≤ 240) (e1 : rd_I M q1 14 = nI m1) (e2 : rd_I M q2 14 = nI m2) : ∀ (d i c j : Nat), i + d = m1 → d < j → c ≤ i →
    f_Orbit_mostlyReturnsNear_4 N j q1 q2 (nI c) (nI i) M = some (bz (hlf m1 (c + cN (fun i => anyN (fun t => nea (rd_I M (q1 + 6) i) (rd_I M (q2 + 6) t)) m2 0) d i)), M)
  | 0, i, c, j, hi, hj, hc => by
    obtain ⟨j, rfl⟩ : ∃ k, j = k + 1 := ⟨j - 1, by omega⟩
    rw [f_Orbit_mostlyReturnsNear_4, h1.ok, gd_T, e1, if_pos (nI_le (by omega) (by omega))]
    unfold f_Orbit_mostlyReturnsNear_83 hlf
    rw [h1.ok, gd_T, e1, cN, Nat.add_zero, show (2 : Int32) * nI c = nI (2 * c) from nI_mul 2 c]
    by_cases q : nI c < (1 : Int32)
    · have hc0 : c = 0 := by
        rcases Nat.eq_zero_or_pos c with h | h
        · exact h
        · exact absurd q (show ¬ nI c < nI 1 from nI_nlt h (by omega))
      rw [if_pos q, hc0]
      cases m1 with
      | zero => rfl
      | succ m => rw [decide_eq_true (Nat.succ_pos m), decide_eq_false (show ¬ m + 1 ≤ 2 * 0 by omega)]; rfl
    · have hc1 : 1 ≤ c := by
        rcases Nat.eq_zero_or_pos c with h | h
        · rw [h] at q; exact absurd (by decide) q
        · exact h
      rw [if_neg q]
      by_cases r : nI (2 * c) < nI m1
      · have r' : 2 * c < m1 := by
          rcases Nat.lt_or_ge (2 * c) m1 with h | h
          · exact h
          · exact absurd r (nI_nlt h (by omega))
        rw [if_pos r, decide_eq_false (show ¬ m1 ≤ 2 * c by omega), Bool.and_false]
        rfl
      · have r' : m1 ≤ 2 * c := by
          rcases Nat.lt_or_ge (2 * c) m1 with h | h
          · exact absurd (nI_lt h (by omega)) r
          · exact h
        rw [if_neg r, decide_eq_true r', decide_eq_true (show 0 < m1 by omega)]
        rfl
  | d + 1, i, c, j, hi, hj, hc => by
    obtain ⟨j, rfl⟩ : ∃ k, j = k + 1 := ⟨j - 1, by omega⟩
    rw [f_Orbit_mostlyReturnsNear_4, h1.ok, gd_T, e1, if_neg (nI_ge (by omega) (by omega)), h1.r13, h1.o6, gd_T, h1.l6, if_neg (nI_ge (by omega) (by omega)), show (0 : Int32) = nI 0 from rfl, hn_77 N _ q1 q2 M h1 h2 m2 hm2 e2 i (by omega) c m2 0 N (by omega) (by omega), cN]
    have := hn_4 N hN q1 q2 M h1 h2 m1 m2 hm1 hm2 e1 e2 d (i + 1) (c + if anyN (fun t => nea (rd_I M (q1 + 6) i) (rd_I M (q2 + 6) t)) m2 0 = true then 1 else 0) j (by omega) (by omega) (by split <;> omega)
    rw [this, Nat.add_assoc]
theorem bz_or (a b : Bool) : bz a ||| bz b = bz (a || b) := by cases a <;> cases b <;> rfl
theorem absL_I {x y : Int32} (hx : -2500000 ≤ x.toInt ∧ x.toInt ≤ 2500000) (hy : -2500000 ≤ y.toInt ∧ y.toInt ≤ 2500000) : (50 : Int64) < m_absL (x.toInt64 - y.toInt64) ↔ (50 : Int32) < m_absI (x - y) := by
  have e1 : (x - y).toInt = x.toInt - y.toInt := by rw [Int32.toInt_sub, bm32 (by omega) (by omega)]
  have e2 : (x.toInt64 - y.toInt64).toInt = x.toInt - y.toInt := by rw [Int64.toInt_sub, t64, t64, bm64 (by omega) (by omega)]
  have z0 : (0 : Int32).toInt = 0 := by decide
  have z1 : (0 : Int64).toInt = 0 := by decide
  have y0 : (50 : Int32).toInt = 50 := by decide
  have y1 : (50 : Int64).toInt = 50 := by decide
  rw [Int64.lt_iff_toInt_lt, Int32.lt_iff_toInt_lt, y0, y1]
  unfold m_absL m_absI
  have hL : (if (0 : Int64) < x.toInt64 - y.toInt64 then x.toInt64 - y.toInt64 else -(x.toInt64 - y.toInt64)).toInt = ((x.toInt - y.toInt).natAbs : Int) := by
    by_cases c : 0 < x.toInt - y.toInt
    · rw [if_pos (Int64.lt_iff_toInt_lt.mpr (by omega)), e2]; omega
    · rw [if_neg (fun h => by have := Int64.lt_iff_toInt_lt.mp h; omega), Int64.toInt_neg, e2, bm64 (by omega) (by omega)]; omega
  have hI : (if (0 : Int32) ≤ x - y then x - y else 0 - (x - y)).toInt = ((x.toInt - y.toInt).natAbs : Int) := by
    by_cases c : 0 ≤ x.toInt - y.toInt
    · rw [if_pos (i32_le (by omega)), e1]; omega
    · rw [if_neg (i32_nle (by omega)), Int32.toInt_sub, e1, z0, bm32 (by omega) (by omega)]; omega
  rw [hL, hI]
/-- both see the same RETURNS -/
def RT (M : sw_M) (o m : Nat) : Prop := m ≤ 240 ∧ o < 6 ∧ rd_I M 109 o = nI m ∧ rd_I M (hob o) 14 = nI m ∧ ∀ n, n < m → (∀ N, 300 ≤ N → f_Model_backOf N 80 (nI o) (nI n) M = some (rd_I M (hob o + 6) n, M)) ∧ -2500000 ≤ (rd_I M (hob o + 6) n).toInt ∧ (rd_I M (hob o + 6) n).toInt ≤ 2500000
theorem mh_32 (N : Nat) (hN : 300 ≤ N) (k5 : Nat → Int32 → Int32 → Int32 → Int32 → sw_M → Option (Int32 × sw_M)) (M : sw_M) (hM : MR M) (o1 o2 m1 m2 : Nat) (h1 : RT M o1 m1) (h2 : RT M o2 m2) (i : Nat) (hi : i < m1) (c : Int32) : ∀ (d t j : Nat) (f : Bool), t + d = m2 → d < j →
    f_Model_hasHalf_32 N k5 j 80 (nI o1) (nI o2) c (nI i) (bz f) (rd_I M (hob o1 + 6) i).toInt64 (nI t) M = k5 80 (nI o1) (nI o2) (c + bz (f || anyN (fun t => nea (rd_I M (hob o1 + 6) i) (rd_I M (hob o2 + 6) t)) d t)) (nI (i + 1)) M
  | 0, t, j, f, ht, hj => by
    obtain ⟨j, rfl⟩ : ∃ k, j = k + 1 := ⟨j - 1, by omega⟩
    have hb := h2.1
    have ho := h2.2.1
    rw [f_Model_hasHalf_32, ok_80 hM.1, gd_T, mr_67 hM, ar_109 hM.1, ti_n ho (by decide), gd_T, cl_n (show o2 < 2 ^ 31 by omega), h2.2.2.1, if_pos (nI_le (by omega) (by omega))]
    unfold f_Model_hasHalf_91
    rw [nI_1, anyN, Bool.or_false]
    cases f <;> rfl
  | d + 1, t, j, f, ht, hj => by
    obtain ⟨j, rfl⟩ : ∃ k, j = k + 1 := ⟨j - 1, by omega⟩
    have hb := h2.1
    have ho := h2.2.1
    obtain ⟨r1, r2, r3⟩ := h1.2.2.2.2 i hi
    obtain ⟨s1, s2, s3⟩ := h2.2.2.2.2 t (by omega)
    rw [f_Model_hasHalf_32, ok_80 hM.1, gd_T, mr_67 hM, ar_109 hM.1, ti_n ho (by decide), gd_T, cl_n (show o2 < 2 ^ 31 by omega), h2.2.2.1, if_neg (nI_ge (by omega) (by omega)), s1 N hN, bn_S]
    unfold f_Model_hasHalf_71
    rw [nI_1]
    show (if (50 : Int64) < m_absL ((rd_I M (hob o1 + 6) i).toInt64 - (rd_I M (hob o2 + 6) t).toInt64) then f_Model_hasHalf_32 N k5 j 80 (nI o1) (nI o2) c (nI i) (bz f ||| bz false) (rd_I M (hob o1 + 6) i).toInt64 (nI (t + 1)) M else f_Model_hasHalf_32 N k5 j 80 (nI o1) (nI o2) c (nI i) (bz f ||| bz true) (rd_I M (hob o1 + 6) i).toInt64 (nI (t + 1)) M) = _
    rw [bz_or, bz_or, mh_32 N hN k5 M hM o1 o2 m1 m2 h1 h2 i hi c d (t + 1) j (f || false) (by omega) (by omega), mh_32 N hN k5 M hM o1 o2 m1 m2 h1 h2 i hi c d (t + 1) j (f || true) (by omega) (by omega), anyN]
    unfold nea
    by_cases q : (50 : Int32) < m_absI (rd_I M (hob o1 + 6) i - rd_I M (hob o2 + 6) t)
    · rw [if_pos ((absL_I ⟨r2, r3⟩ ⟨s2, s3⟩).mpr q), decide_eq_false (Int32.not_le.mpr q), Bool.or_false, Bool.false_or]
    · rw [if_neg (fun h => q ((absL_I ⟨r2, r3⟩ ⟨s2, s3⟩).mp h)), decide_eq_true (Int32.not_lt.mp q), Bool.or_true, Bool.true_or, Bool.or_true]
theorem mh_5 (N : Nat) (hN : 300 ≤ N) (M : sw_M) (hM : MR M) (o1 o2 m1 m2 : Nat) (h1 : RT M o1 m1) (h2 : RT M o2 m2) : ∀ (d i c j : Nat), i + d = m1 → d < j → c ≤ i →
    f_Model_hasHalf_5 N j 80 (nI o1) (nI o2) (nI c) (nI i) M = some (bz (hlf m1 (c + cN (fun i => anyN (fun t => nea (rd_I M (hob o1 + 6) i) (rd_I M (hob o2 + 6) t)) m2 0) d i)), M)
  | 0, i, c, j, hi, hj, hc => by
    obtain ⟨j, rfl⟩ : ∃ k, j = k + 1 := ⟨j - 1, by omega⟩
    have hb := h1.1
    have ho := h1.2.1
    rw [f_Model_hasHalf_5, ok_80 hM.1, gd_T, mr_67 hM, ar_109 hM.1, ti_n ho (by decide), gd_T, cl_n (show o1 < 2 ^ 31 by omega), h1.2.2.1, if_pos (nI_le (by omega) (by omega)), cN, Nat.add_zero, show (2 : Int32) * nI c = nI (2 * c) from nI_mul 2 c]
    unfold hlf
    by_cases q : m1 = 0
    · rw [q, if_pos (by decide)]; rfl
    · rw [if_neg (show ¬ nI m1 ≤ 0 from (nI_ge (show 0 < m1 by omega) (by omega) : ¬ nI m1 ≤ nI 0)), decide_eq_true (show 0 < m1 by omega)]
      by_cases r : 2 * c < m1
      · rw [if_pos (nI_lt r (by omega)), decide_eq_false (show ¬ m1 ≤ 2 * c by omega)]; rfl
      · rw [if_neg (nI_nlt (by omega) (by omega)), decide_eq_true (show m1 ≤ 2 * c by omega)]; rfl
  | d + 1, i, c, j, hi, hj, hc => by
    obtain ⟨j, rfl⟩ : ∃ k, j = k + 1 := ⟨j - 1, by omega⟩
    have hb := h1.1
    have hb2 := h2.1
    have ho := h1.2.1
    obtain ⟨r1, r2, r3⟩ := h1.2.2.2.2 i (by omega)
    rw [f_Model_hasHalf_5, ok_80 hM.1, gd_T, mr_67 hM, ar_109 hM.1, ti_n ho (by decide), gd_T, cl_n (show o1 < 2 ^ 31 by omega), h1.2.2.1, if_neg (nI_ge (by omega) (by omega)), r1 N hN, bn_S]
    have e := mh_32 N hN (f_Model_hasHalf_5 N j) M hM o1 o2 m1 m2 h1 h2 i (by omega) (nI c) m2 0 N false (by omega) (by omega)
    refine Eq.trans e ?_
    rw [Bool.false_or, cN]
    have ec : nI c + bz (anyN (fun t => nea (rd_I M (hob o1 + 6) i) (rd_I M (hob o2 + 6) t)) m2 0) = nI (c + if anyN (fun t => nea (rd_I M (hob o1 + 6) i) (rd_I M (hob o2 + 6) t)) m2 0 = true then 1 else 0) := by
      cases anyN (fun t => nea (rd_I M (hob o1 + 6) i) (rd_I M (hob o2 + 6) t)) m2 0
      · exact Int32.add_zero _
      · exact nI_1 c
    rw [ec, mh_5 N hN M hM o1 o2 m1 m2 h1 h2 d (i + 1) _ j (by omega) (by omega) (by split <;> omega), Nat.add_assoc]
