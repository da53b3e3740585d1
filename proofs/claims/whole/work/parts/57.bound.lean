/-! 57: how great a PULL may be -/
theorem sq_ge (a : Int) : a ≤ a * a ∧ -a ≤ a * a ∧ 2 * a ≤ a * a + 1 ∧ -(2 * a) ≤ a * a + 1 := by
  have h1 : 0 ≤ (a - 1) * (a - 1) := (sq_in (B := (a - 1).natAbs) (by omega) (by omega)).1
  have h2 : 0 ≤ (a + 1) * (a + 1) := (sq_in (B := (a + 1).natAbs) (by omega) (by omega)).1
  have e1 : (a - 1) * (a - 1) = a * a - 2 * a + 1 := by rw [Int.sub_mul, Int.mul_sub]; omega
  have e2 : (a + 1) * (a + 1) = a * a + 2 * a + 1 := by rw [Int.add_mul, Int.mul_add]; omega
  have h3 : 0 ≤ a * a := (sq_in (B := a.natAbs) (by omega) (by omega)).1
  refine ⟨?_, ?_, by omega, by omega⟩ <;> omega
theorem D_val {x y s : Int64} (hx : -1100000000 ≤ x.toInt ∧ x.toInt ≤ 1100000000) (hy : -1100000000 ≤ y.toInt ∧ y.toInt ≤ 1100000000) (hs : 1 ≤ s.toInt ∧ s.toInt ≤ 9999) : (((x * x) + (y * y)) + (s * s)).toInt = x.toInt * x.toInt + y.toInt * y.toInt + s.toInt * s.toInt := by
  obtain ⟨x1, x2, x3⟩ := sq64 (B := 1100000000) hx.1 hx.2 (by decide)
  obtain ⟨y1, y2, y3⟩ := sq64 (B := 1100000000) hy.1 hy.2 (by decide)
  obtain ⟨s1, s2, s3⟩ := sq64 (B := 9999) (by omega) hs.2 (by decide)
  have e1 : ((x * x) + (y * y)).toInt = (x * x).toInt + (y * y).toInt := a64 (by omega) (by omega)
  rw [a64 (by omega) (by omega), e1, x1, y1, s1]
theorem D_valS {x y s : Int64} (hx : Bd x) (hy : Bd y) (hs : 1 ≤ s.toInt ∧ s.toInt ≤ 9999) : ((((x + y) * (x + y)) + ((y - x) * (y - x))) + (((2 : Int64) * s) * s)).toInt = (x.toInt + y.toInt) * (x.toInt + y.toInt) + (y.toInt - x.toInt) * (y.toInt - x.toInt) + 2 * (s.toInt * s.toInt) := by
  obtain ⟨hx1, hx2⟩ := hx
  obtain ⟨hy1, hy2⟩ := hy
  have u1 : (x + y).toInt = x.toInt + y.toInt := a64 (by omega) (by omega)
  have v1 : (y - x).toInt = y.toInt - x.toInt := s64 (by omega) (by omega)
  obtain ⟨u0, u2, u3⟩ := sq64 (a := x + y) (B := 2000000000) (by omega) (by omega) (by decide)
  obtain ⟨v0, v2, v3⟩ := sq64 (a := y - x) (B := 2000000000) (by omega) (by omega) (by decide)
  obtain ⟨s1, s2, s3⟩ := sq64 (B := 9999) (by omega) hs.2 (by decide)
  have t1 : (((2 : Int64) * s) * s) = (2 : Int64) * (s * s) := by rw [Int64.mul_assoc]
  have t2 : ((2 : Int64) * (s * s)).toInt = 2 * (s * s).toInt := m64 (by show -9223372036854775808 ≤ 2 * (s * s).toInt; omega) (by show 2 * (s * s).toInt < 9223372036854775808; omega)
  have e1 : (((x + y) * (x + y)) + ((y - x) * (y - x))).toInt = ((x + y) * (x + y)).toInt + ((y - x) * (y - x)).toInt := a64 (by omega) (by omega)
  rw [t1, a64 (by omega) (by omega), e1, t2, u0, v0, s1, u1, v1]
theorem neg64 {a : Int64} (h : a.toInt ≠ -9223372036854775808) : (-a).toInt = -a.toInt := by
  have h1 := Int64.le_toInt a
  have h2 := Int64.toInt_lt a
  rw [Int64.toInt_neg, bm64] <;> omega
theorem q_abs {a d : Int64} {K : Nat} (hd : 1 ≤ d.toInt) (h : a.toInt.natAbs ≤ K * d.toInt.natAbs) (hK : K < 4611686018427387904) : (a / d).toInt = a.toInt.tdiv d.toInt ∧ (-(a / d)).toInt = -(a.toInt.tdiv d.toInt) ∧ (a.toInt.tdiv d.toInt).natAbs = a.toInt.natAbs / d.toInt.natAbs ∧ (a.toInt.tdiv d.toInt).natAbs ≤ K := by
  have h1 : (a.toInt.tdiv d.toInt).natAbs = a.toInt.natAbs / d.toInt.natAbs := Int.natAbs_tdiv _ _
  have h2 : a.toInt.natAbs / d.toInt.natAbs ≤ K := by
    apply Nat.div_le_of_le_mul
    rw [Nat.mul_comm]
    exact h
  have e : (a / d).toInt = a.toInt.tdiv d.toInt := by rw [Int64.toInt_div, bm64] <;> omega
  refine ⟨e, ?_, h1, by omega⟩
  rw [neg64 (by omega), e]
def Pb (z : Int64) : Prop := z.toInt.natAbs ≤ 99999
theorem m_abs {m z : Int64} {A B : Nat} (hm : m.toInt.natAbs ≤ A) (hz : z.toInt.natAbs ≤ B) (hAB : A * B < 9223372036854775808) : (m * z).toInt = m.toInt * z.toInt ∧ (m * z).toInt.natAbs = m.toInt.natAbs * z.toInt.natAbs := by
  have h1 : (m.toInt * z.toInt).natAbs = m.toInt.natAbs * z.toInt.natAbs := Int.natAbs_mul _ _
  have h2 : m.toInt.natAbs * z.toInt.natAbs ≤ A * B := Nat.mul_le_mul hm hz
  have e : (m * z).toInt = m.toInt * z.toInt := m64 (by omega) (by omega)
  exact ⟨e, by rw [e, h1]⟩
theorem qm_b {m z d : Int64} (hm : m.toInt.natAbs ≤ 99999) (hz : z.toInt.natAbs ≤ 4000000000) (hd : 1 ≤ d.toInt) (h : z.toInt.natAbs ≤ d.toInt.natAbs) : Pb (-((m * z) / d)) := by
  obtain ⟨e1, e2⟩ := m_abs hm hz (by decide)
  have h1 : (m * z).toInt.natAbs ≤ 99999 * d.toInt.natAbs := by rw [e2]; exact Nat.mul_le_mul hm h
  obtain ⟨-, q2, -, q4⟩ := q_abs hd h1 (by decide)
  unfold Pb
  rw [q2]
  omega
theorem c_abs {c m z : Int64} (hc : c.toInt.natAbs ≤ 2) (hm : m.toInt.natAbs ≤ 99999) (hz : z.toInt.natAbs ≤ 4000000000) : ((c * m) * z).toInt.natAbs = m.toInt.natAbs * (c.toInt.natAbs * z.toInt.natAbs) := by
  obtain ⟨e1, e2⟩ := m_abs hc hm (by decide)
  have h1 : (c * m).toInt.natAbs ≤ 199998 := by rw [e2]; exact Nat.mul_le_mul hc hm
  obtain ⟨e3, e4⟩ := m_abs h1 hz (by decide)
  rw [e4, e2, Nat.mul_comm c.toInt.natAbs, Nat.mul_assoc]
theorem qc_b {c m z d : Int64} (hc : c.toInt.natAbs ≤ 2) (hm : m.toInt.natAbs ≤ 99999) (hz : z.toInt.natAbs ≤ 4000000000) (hd : 1 ≤ d.toInt) (h : 2 * z.toInt.natAbs ≤ d.toInt.natAbs) : Pb (-(((c * m) * z) / d)) := by
  have e2 := c_abs hc hm hz
  have h1 : ((c * m) * z).toInt.natAbs ≤ 99999 * d.toInt.natAbs := by
    rw [e2]
    refine Nat.mul_le_mul hm (Nat.le_trans ?_ h)
    exact Nat.mul_le_mul hc (Nat.le_refl _)
  obtain ⟨-, q2, -, q4⟩ := q_abs hd h1 (by decide)
  unfold Pb
  rw [q2]
  omega
/-- two quotients by one number, together -/
theorem qq_b {c e m u v d : Int64} (hc : c.toInt.natAbs ≤ 2) (he : e.toInt.natAbs ≤ 2) (hm : m.toInt.natAbs ≤ 99999) (hu : u.toInt.natAbs ≤ 4000000000) (hv : v.toInt.natAbs ≤ 4000000000) (hd : 1 ≤ d.toInt) (h : c.toInt.natAbs * u.toInt.natAbs + e.toInt.natAbs * v.toInt.natAbs ≤ d.toInt.natAbs) :
    Pb ((-(((c * m) * u) / d)) - (-(((e * m) * v) / d))) ∧ Pb ((-(((c * m) * u) / d)) + (-(((e * m) * v) / d))) := by
  have e1 := c_abs hc hm hu
  have e2 := c_abs he hm hv
  have g1 : ((c * m) * u).toInt.natAbs ≤ 99999 * d.toInt.natAbs := by rw [e1]; exact Nat.mul_le_mul hm (by omega)
  have g2 : ((e * m) * v).toInt.natAbs ≤ 99999 * d.toInt.natAbs := by rw [e2]; exact Nat.mul_le_mul hm (by omega)
  obtain ⟨-, p2, p3, p4⟩ := q_abs hd g1 (by decide)
  obtain ⟨-, q2, q3, q4⟩ := q_abs hd g2 (by decide)
  have hs : ((c * m) * u).toInt.natAbs / d.toInt.natAbs + ((e * m) * v).toInt.natAbs / d.toInt.natAbs ≤ 99999 := by
    have h1 : ((c * m) * u).toInt.natAbs / d.toInt.natAbs * d.toInt.natAbs ≤ ((c * m) * u).toInt.natAbs := Nat.div_mul_le_self _ _
    have h2 : ((e * m) * v).toInt.natAbs / d.toInt.natAbs * d.toInt.natAbs ≤ ((e * m) * v).toInt.natAbs := Nat.div_mul_le_self _ _
    have h3 : ((c * m) * u).toInt.natAbs + ((e * m) * v).toInt.natAbs ≤ 99999 * d.toInt.natAbs := by
      rw [e1, e2, ← Nat.mul_add]
      exact Nat.mul_le_mul hm h
    have h4 : (((c * m) * u).toInt.natAbs / d.toInt.natAbs + ((e * m) * v).toInt.natAbs / d.toInt.natAbs) * d.toInt.natAbs ≤ 99999 * d.toInt.natAbs := by rw [Nat.add_mul]; omega
    exact Nat.le_of_mul_le_mul_right h4 (by omega)
  unfold Pb
  constructor
  · rw [s64] <;> rw [p2, q2] <;> omega
  · rw [a64] <;> rw [p2, q2] <;> omega
