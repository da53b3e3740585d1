/-! 72: the rule behind use, by itself -/
def bnd (v : Int64) : Bool := decide (v ≤ 1000000000000000) && decide (-1000000000000000 ≤ v)
def bd (v : Int64) : Prop := -1000000000000000 ≤ v.toInt ∧ v.toInt ≤ 1000000000000000
theorem z15 : (1000000000000000 : Int64).toInt = 1000000000000000 := by decide
theorem zm15 : (-1000000000000000 : Int64).toInt = -1000000000000000 := by decide
theorem bnd_bd {v : Int64} : bnd v = true ↔ bd v := by
  unfold bnd bd
  simp only [Bool.and_eq_true, decide_eq_true_eq, Int64.le_iff_toInt_le, z15, zm15]
  omega
def bitL (b : Bool) : Int64 := if b = true then 1 else 0
theorem bitL_bd (b : Bool) : bd (bitL b) := by cases b <;> exact (by unfold bd; decide)
theorem bitL_bnd (b : Bool) : bnd (bitL b) = true := bnd_bd.mpr (bitL_bd b)
def bop (c : Int32) (a b : Int64) : Option Int64 :=
  if c = 42 then (if a = 0 then some (a * b) else if m_absL b ≤ 1000000000000000 / m_absL a then some (a * b) else none)
  else if c = 43 then (if bnd (a + b) = true then some (a + b) else none)
  else if c = 45 then (if bnd (a - b) = true then some (a - b) else none)
  else if c = 60 then some (bitL (decide (a < b)))
  else if c = 61 then some (bitL (decide (a = b)))
  else if c = 62 then some (bitL (decide (b < a)))
  else if c = 256 then some (bitL (decide (a ≤ b)))
  else if c = 257 then some (bitL (decide (¬ a = b)))
  else if c = 258 then some (bitL (decide (b ≤ a)))
  else if c = 261 then some (bitL (decide (¬ a = 0) && decide (¬ b = 0)))
  else if c = 262 then some (bitL (decide (¬ a = 0) || decide (¬ b = 0)))
  else (if b = 0 then none else some (a / b))
/-- the signs with two sides -/
def sg2 (c : Int32) : Prop := c = 42 ∨ c = 43 ∨ c = 45 ∨ c = 47 ∨ c = 60 ∨ c = 61 ∨ c = 62 ∨ c = 256 ∨ c = 257 ∨ c = 258 ∨ c = 261 ∨ c = 262
theorem absL_i {a : Int64} (h : bd a) : (m_absL a).toInt = a.toInt.natAbs ∧ 0 ≤ (m_absL a).toInt := by
  unfold m_absL
  unfold bd at h
  by_cases c : 0 < a
  · rw [if_pos c]
    have := Int64.lt_iff_toInt_lt.mp c
    rw [show (0 : Int64).toInt = 0 from by decide] at this
    omega
  · rw [if_neg c, neg64 (by omega)]
    have := Int64.le_iff_toInt_le.mp (Int64.not_lt.mp c)
    rw [show (0 : Int64).toInt = 0 from by decide] at this
    omega
theorem mul_bd {a b : Int64} (ha : bd a) (hb : bd b) (h0 : ¬ a = 0) (h : m_absL b ≤ 1000000000000000 / m_absL a) : bd (a * b) := by
  obtain ⟨a1, a2⟩ := absL_i ha
  obtain ⟨b1, b2⟩ := absL_i hb
  have an : 1 ≤ a.toInt.natAbs := by
    rcases Nat.eq_zero_or_pos a.toInt.natAbs with e | e
    · exact absurd (Int64.toInt_inj.mp (show a.toInt = (0 : Int64).toInt from by rw [show (0 : Int64).toInt = 0 from by decide]; omega)) h0
    · exact e
  have h1 := Int64.le_iff_toInt_le.mp h
  rw [d64 (by rw [z15]; omega) (by rw [a1]; omega), z15, a1, b1] at h1
  have h2 : (b.toInt.natAbs : Int) * (a.toInt.natAbs : Int) ≤ 1000000000000000 := by
    have h3 := Int.mul_le_mul_of_nonneg_right h1 (show (0 : Int) ≤ (a.toInt.natAbs : Int) by omega)
    have h4 := Int.ediv_mul_le 1000000000000000 (show (a.toInt.natAbs : Int) ≠ 0 by omega)
    omega
  have h5 : (a.toInt * b.toInt).natAbs ≤ 1000000000000000 := by
    rw [Int.natAbs_mul, Nat.mul_comm]
    rw [← Int.natCast_mul] at h2
    omega
  unfold bd
  have e : (a * b).toInt = a.toInt * b.toInt := m64 (by omega) (by omega)
  omega
theorem div_bd {a b : Int64} (ha : bd a) (h0 : ¬ b = 0) : bd (a / b) := by
  unfold bd at *
  have h1 : (a.toInt.tdiv b.toInt).natAbs = a.toInt.natAbs / b.toInt.natAbs := Int.natAbs_tdiv _ _
  have h2 : a.toInt.natAbs / b.toInt.natAbs ≤ a.toInt.natAbs := Nat.div_le_self _ _
  have e : (a / b).toInt = a.toInt.tdiv b.toInt := by rw [Int64.toInt_div, bm64] <;> omega
  omega
theorem bop_bd {c : Int32} {a b z : Int64} (ha : bd a) (hb : bd b) (h : bop c a b = some z) : bd z := by
  unfold bop at h
  by_cases c42 : c = 42
  · rw [if_pos c42] at h
    by_cases e0 : a = 0
    · rw [if_pos e0] at h
      cases h
      rw [e0, Int64.zero_mul]
      unfold bd
      decide
    · rw [if_neg e0] at h
      by_cases e1 : m_absL b ≤ 1000000000000000 / m_absL a
      · rw [if_pos e1] at h
        cases h
        exact mul_bd ha hb e0 e1
      · rw [if_neg e1] at h
        cases h
  rw [if_neg c42] at h
  by_cases c43 : c = 43
  · rw [if_pos c43] at h
    by_cases e : bnd (a + b) = true
    · rw [if_pos e] at h
      cases h
      exact bnd_bd.mp e
    · rw [if_neg e] at h
      cases h
  rw [if_neg c43] at h
  by_cases c45 : c = 45
  · rw [if_pos c45] at h
    by_cases e : bnd (a - b) = true
    · rw [if_pos e] at h
      cases h
      exact bnd_bd.mp e
    · rw [if_neg e] at h
      cases h
  rw [if_neg c45] at h
  by_cases c60 : c = 60
  · rw [if_pos c60] at h
    cases h
    exact bitL_bd _
  rw [if_neg c60] at h
  by_cases c61 : c = 61
  · rw [if_pos c61] at h
    cases h
    exact bitL_bd _
  rw [if_neg c61] at h
  by_cases c62 : c = 62
  · rw [if_pos c62] at h
    cases h
    exact bitL_bd _
  rw [if_neg c62] at h
  by_cases c256 : c = 256
  · rw [if_pos c256] at h
    cases h
    exact bitL_bd _
  rw [if_neg c256] at h
  by_cases c257 : c = 257
  · rw [if_pos c257] at h
    cases h
    exact bitL_bd _
  rw [if_neg c257] at h
  by_cases c258 : c = 258
  · rw [if_pos c258] at h
    cases h
    exact bitL_bd _
  rw [if_neg c258] at h
  by_cases c261 : c = 261
  · rw [if_pos c261] at h
    cases h
    exact bitL_bd _
  rw [if_neg c261] at h
  by_cases c262 : c = 262
  · rw [if_pos c262] at h
    cases h
    exact bitL_bd _
  rw [if_neg c262] at h
  by_cases e : b = 0
  · rw [if_pos e] at h
    cases h
  · rw [if_neg e] at h
    cases h
    exact div_bd ha e
def upS (S : Nat → Int64) (k : Nat) (v : Int64) : Nat → Int64 := fun i => if i = k then v else S i
def opv (nm : Int32 → Int64) (e : Int32 × Int32) : Int64 := if e.1 = 0 then e.2.toInt64 else nm e.2
def ev (nm : Int32 → Int64) (w : Nat → Int32 × Int32) : Nat → Nat → Nat → (Nat → Int64) → Option Int64
  | 0, _, _, S => some (S 0)
  | f + 1, i, d, S =>
    if (w i).1 = 2 then
      (if (w i).2 = 260 then ev nm w f (i + 1) d (upS S (d - 1) (bitL (decide (S (d - 1) = 0))))
      else match bop (w i).2 (S (d - 2)) (S (d - 1)) with
        | some z => ev nm w f (i + 1) (d - 1) (upS S (d - 2) z)
        | none => none)
    else if bnd (opv nm (w i)) = true then ev nm w f (i + 1) (d + 1) (upS S d (opv nm (w i))) else none
def dpF (w : Nat → Int32 × Int32) : Nat → Nat → Nat → Option Nat
  | 0, _, d => some d
  | f + 1, i, d =>
    if (w i).1 = 2 then (if (w i).2 = 260 then (if 1 ≤ d then dpF w f (i + 1) d else none) else (if 2 ≤ d then dpF w f (i + 1) (d - 1) else none))
    else dpF w f (i + 1) (d + 1)
theorem ev_congr (nm : Int32 → Int64) (w : Nat → Int32 × Int32) : ∀ (f i d : Nat) (S S' : Nat → Int64), (∀ t, t < d → S t = S' t) → dpF w f i d = some 1 → ev nm w f i d S = ev nm w f i d S'
  | 0, i, d, S, S', h, hd => by
    have : d = 1 := by simpa [dpF] using hd
    subst this
    show some (S 0) = some (S' 0)
    rw [h 0 (by omega)]
  | f + 1, i, d, S, S', h, hd => by
    rw [dpF] at hd
    rw [ev, ev]
    by_cases c1 : (w i).1 = 2
    · rw [if_pos c1] at hd ⊢
      rw [if_pos c1]
      by_cases c2 : (w i).2 = 260
      · rw [if_pos c2] at hd ⊢
        rw [if_pos c2]
        by_cases c3 : 1 ≤ d
        · rw [if_pos c3] at hd
          rw [h (d - 1) (by omega)]
          refine ev_congr nm w f (i + 1) d _ _ (fun t ht => ?_) hd
          unfold upS
          split
          · rfl
          · exact h t ht
        · rw [if_neg c3] at hd
          cases hd
      · rw [if_neg c2] at hd ⊢
        rw [if_neg c2]
        by_cases c3 : 2 ≤ d
        · rw [if_pos c3] at hd
          rw [h (d - 1) (by omega), h (d - 2) (by omega)]
          cases bop (w i).2 (S' (d - 2)) (S' (d - 1)) with
          | none => rfl
          | some z =>
            refine ev_congr nm w f (i + 1) (d - 1) _ _ (fun t ht => ?_) hd
            unfold upS
            split
            · rfl
            · exact h t (by omega)
        · rw [if_neg c3] at hd
          cases hd
    · rw [if_neg c1] at hd ⊢
      rw [if_neg c1]
      split
      · refine ev_congr nm w f (i + 1) (d + 1) _ _ (fun t ht => ?_) hd
        unfold upS
        split
        · rfl
        · exact h t (by omega)
      · rfl
def usR (o : Option Int64) : Bool := match o with
  | some z => decide (¬ z = 0)
  | none => false
theorem Model_isBounded (N : Nat) (v : Int64) (M : sw_M) : f_Model_isBounded N v M = some (bz (bnd v), M) := by
  unfold f_Model_isBounded bnd
  by_cases h1 : (1000000000000000 : Int64) < v
  · rw [if_pos h1]; simp [Int64.not_le.mpr h1, bz]
  · rw [if_neg h1]
    by_cases h2 : v < (-1000000000000000 : Int64)
    · rw [if_pos h2]; simp [Int64.not_le.mpr h2, bz]
    · rw [if_neg h2]; simp [Int64.not_lt.mp h1, Int64.not_lt.mp h2, bz]
theorem bz_ok (b : Bool) : sw_bz (bz b) = true := by cases b <;> decide
def pW (M : sw_M) (d : Nat) (v : Int64) : sw_M := wr_I (wr_L M 111 d v) 80 70 (nI (d + 1))
theorem Model_puts (N : Nat) (M : sw_M) (hM : MR M) (d : Nat) (hd : d < 64) (h70 : rd_I M 80 70 = nI d) (v : Int64) : f_Model_puts N 80 v M = some (bz (bnd v), pW M d v) := by
  unfold f_Model_puts pW
  simp only [m_II, m_LL, m_RR, m_IL, m_IR, m_LI, m_LR, m_RI, m_RL, m_NI, m_NL, m_NR, m_okI, m_okL, m_okR, m_okaI, m_okaL, m_okaR, m_arI, m_arL, m_arR, gd_T, bn_S, Nat.reduceEqDiff, Nat.left_eq_add, Nat.add_eq_left, Nat.one_ne_zero, and_false, and_true, false_and, true_and, if_false, if_true, ok_80 hM.1, mr_69 hM, ar_111 hM.1, h70, ti_n hd (by decide), cl_n (show d < 2 ^ 31 by omega), Model_isBounded, bz_ok, nI_1]
theorem nI_s2 (e : Nat) : nI (e + 2) - 2 = nI e := by
  rw [← nI_pred e, ← nI_pred (e + 1)]
  show nI (e + 1 + 1) - 2 = nI (e + 1 + 1) - 1 - 1
  rw [Int32.sub_sub]
  rfl
def Awk (a k : Nat) : Prop := (a = 80 ∧ k = 70) ∨ a = 111
theorem pW_fr {A : Nat → Nat → Prop} {M W : sw_M} (h : Fr A M W) (hA : ∀ a k, Awk a k → A a k) (d : Nat) (v : Int64) : Fr A M (pW W d v) := (h.wL _ _ _ (hA _ _ (Or.inr rfl))).wI _ _ _ (hA _ _ (Or.inl ⟨rfl, rfl⟩))
