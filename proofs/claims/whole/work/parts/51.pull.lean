/-! 51: PULL: what both sides compute; the reference's side -/
theorem bm64 {x : Int} (h1 : -9223372036854775808 ≤ x) (h2 : x < 9223372036854775808) : x.bmod (2 ^ 64) = x := by
  rw [Int.bmod_eq_of_le] <;> omega
theorem a64 {a b : Int64} (h1 : -9223372036854775808 ≤ a.toInt + b.toInt) (h2 : a.toInt + b.toInt < 9223372036854775808) : (a + b).toInt = a.toInt + b.toInt := by rw [Int64.toInt_add, bm64 h1 h2]
theorem s64 {a b : Int64} (h1 : -9223372036854775808 ≤ a.toInt - b.toInt) (h2 : a.toInt - b.toInt < 9223372036854775808) : (a - b).toInt = a.toInt - b.toInt := by rw [Int64.toInt_sub, bm64 h1 h2]
theorem m64 {a b : Int64} (h1 : -9223372036854775808 ≤ a.toInt * b.toInt) (h2 : a.toInt * b.toInt < 9223372036854775808) : (a * b).toInt = a.toInt * b.toInt := by rw [Int64.toInt_mul, bm64 h1 h2]
/-- the bits of a root, the highest first -/
def bt (k : Nat) : Int64 := Int64.ofNat (2 ^ k)
def rt : Nat → Int64 → Int64 → Int64
  | 0, _, r => r
  | k + 1, n, r => rt k n (if n < (r + bt k) * (r + bt k) then r else r + bt k)
theorem bt_shr : ∀ k, k < 31 → bt (k + 1) >>> ((1 : Int32).toInt64 &&& 63) = bt k := by decide +kernel
theorem bt_0 : bt 0 >>> ((1 : Int32).toInt64 &&& 63) = 0 := by decide +kernel
theorem bt_pos : ∀ k, k < 31 → ¬ bt k ≤ 0 := by decide +kernel
theorem Model_root_loop (N : Nat) (n : Int64) (M : sw_M) : ∀ (k j : Nat) (r : Int64), k < 31 → k + 2 ≤ j → f_Model_root_7 N j n r (bt k) M = some (rt (k + 1) n r, M) := by
  intro k
  induction k with
  | zero =>
    intro j r _ hj
    obtain ⟨j, rfl⟩ : ∃ i, j = i + 2 := ⟨j - 2, by omega⟩
    rw [f_Model_root_7, if_neg (bt_pos 0 (by omega))]
    simp only [f_Model_root_33, bt_0, rt, f_Model_root_7]
    split <;> simp
  | succ k ih =>
    intro j r hk hj
    obtain ⟨j, rfl⟩ : ∃ i, j = i + 1 := ⟨j - 1, by omega⟩
    rw [f_Model_root_7, if_neg (bt_pos (k + 1) hk)]
    simp only [f_Model_root_33, bt_shr k (by omega)]
    rw [ih j r (by omega) (by omega), ih j (r + bt (k + 1)) (by omega) (by omega)]
    show _ = some (rt (k + 1) n (if n < (r + bt (k + 1)) * (r + bt (k + 1)) then r else r + bt (k + 1)), M)
    split <;> rfl
theorem s_root_ex (n : Int64) : ∃ r, r = rt 31 n 0 := ⟨_, rfl⟩
noncomputable def s_root (n : Int64) : Int64 := (s_root_ex n).choose
theorem s_root_eq (n : Int64) : s_root n = rt 31 n 0 := (s_root_ex n).choose_spec
theorem Model_root (N : Nat) (hN : 40 ≤ N) (n : Int64) (M : sw_M) : f_Model_root N n M = some (s_root n, M) := by
  rw [s_root_eq]
  exact Model_root_loop N n M 30 N 0 (by omega) (by omega)
theorem Part_root_loop (N : Nat) (n : Int64) (M : sw_M) : ∀ (k j : Nat) (r : Int64), k < 31 → k + 2 ≤ j → f_Part_root_21 N j n r (bt k) M = some (rt (k + 1) n r, M) := by
  intro k
  induction k with
  | zero =>
    intro j r _ hj
    obtain ⟨j, rfl⟩ : ∃ i, j = i + 2 := ⟨j - 2, by omega⟩
    rw [f_Part_root_21, if_neg (bt_pos 0 (by omega))]
    simp only [f_Part_root_47, bt_0, rt, f_Part_root_21]
    split <;> simp
  | succ k ih =>
    intro j r hk hj
    obtain ⟨j, rfl⟩ : ∃ i, j = i + 1 := ⟨j - 1, by omega⟩
    rw [f_Part_root_21, if_neg (bt_pos (k + 1) hk)]
    simp only [f_Part_root_47, bt_shr k (by omega)]
    rw [ih j r (by omega) (by omega), ih j (r + bt (k + 1)) (by omega) (by omega)]
    show _ = some (rt (k + 1) n (if n < (r + bt (k + 1)) * (r + bt (k + 1)) then r else r + bt (k + 1)), M)
    split <;> rfl
theorem bt_sq : ∀ k, 16 ≤ k → k < 31 → (4294967296 : Int64) ≤ (0 + bt k) * (0 + bt k) := by
  intro k h1 h2
  have h : ∀ k, k < 31 → 16 ≤ k → (4294967296 : Int64) ≤ (0 + bt k) * (0 + bt k) := by decide +kernel
  exact h k h2 h1
theorem rt_low (n : Int64) (hn : n < 4294967296) : ∀ k, k ≤ 15 → rt (16 + k) n 0 = rt 16 n 0
  | 0, _ => rfl
  | k + 1, h => by
    have h1 := bt_sq (16 + k) (by omega) (by omega)
    have h2 : n < (0 + bt (16 + k)) * (0 + bt (16 + k)) := Int64.lt_of_lt_of_le hn h1
    show rt (16 + k) n (if n < (0 + bt (16 + k)) * (0 + bt (16 + k)) then 0 else 0 + bt (16 + k)) = _
    rw [if_pos h2]
    exact rt_low n hn k (by omega)
theorem Part_root (N : Nat) (hN : 40 ≤ N) (n : Int64) (M : sw_M) : f_Part_root N n M = some (s_root n, M) := by
  rw [s_root_eq]
  unfold f_Part_root f_Part_root_19
  split
  · exact Part_root_loop N n M 30 N 0 (by omega) (by omega)
  · rename_i h
    have h1 := Part_root_loop N n M 15 N 0 (by omega) (by omega)
    have h2 := rt_low n (Int64.not_le.mp h) 15 (by omega)
    show f_Part_root_21 N N n 0 (bt 15) M = some (rt (16 + 15) n 0, M)
    rw [h1, h2]
theorem bt_i : ∀ k, k < 31 → (bt k).toInt = 2 ^ k := by decide +kernel
theorem rt_in (n : Int64) : ∀ (k : Nat) (r : Int64), k ≤ 31 → 0 ≤ r.toInt → r.toInt + 2 ^ k ≤ 2 ^ 31 → 0 ≤ (rt k n r).toInt ∧ (rt k n r).toInt < 2 ^ 31
  | 0, r, _, h0, h1 => ⟨h0, by show r.toInt < 2 ^ 31; omega⟩
  | k + 1, r, hk, h0, h1 => by
    have hb := bt_i k (by omega)
    have h2 : (2 : Int) ^ (k + 1) = 2 * 2 ^ k := by rw [Int.pow_succ]; omega
    have h3 : (0 : Int) < 2 ^ k := Int.pow_pos (by omega)
    have ha : (r + bt k).toInt = r.toInt + 2 ^ k := by rw [a64, hb] <;> rw [hb] <;> omega
    rw [show rt (k + 1) n r = rt k n (if n < (r + bt k) * (r + bt k) then r else r + bt k) from rfl]
    split
    · exact rt_in n k r (by omega) h0 (by omega)
    · exact rt_in n k (r + bt k) (by omega) (by omega) (by omega)
theorem s_root_in (n : Int64) : 0 ≤ (s_root n).toInt ∧ (s_root n).toInt < 2147483648 := by
  rw [s_root_eq]
  exact rt_in n 31 0 (by omega) (by decide) (by decide)
/-- what a flat PART adds: m, x, y, s as longs, the quarter of its turn -/
def dF (x y m s : Int64) (q : Int32) : Int64 × Int64 :=
  if (q - q / (2 : Int32) * (2 : Int32)) = 0 then (-((((if q = (2 : Int32) then (2 : Int64) else 1) * m) * x) / (((x * x) + (y * y)) + (s * s))), -((((if q = (2 : Int32) then (1 : Int64) else 2) * m) * y) / (((x * x) + (y * y)) + (s * s))))
  else ((-((((if q = (3 : Int32) then (2 : Int64) else 1) * m) * (x + y)) / ((((x + y) * (x + y)) + ((y - x) * (y - x))) + (((2 : Int64) * s) * s)))) - (-((((if q = (3 : Int32) then (1 : Int64) else 2) * m) * (y - x)) / ((((x + y) * (x + y)) + ((y - x) * (y - x))) + (((2 : Int64) * s) * s)))),
    (-((((if q = (3 : Int32) then (2 : Int64) else 1) * m) * (x + y)) / ((((x + y) * (x + y)) + ((y - x) * (y - x))) + (((2 : Int64) * s) * s)))) + (-((((if q = (3 : Int32) then (1 : Int64) else 2) * m) * (y - x)) / ((((x + y) * (x + y)) + ((y - x) * (y - x))) + (((2 : Int64) * s) * s)))))
/-- the two sums of the reference -/
def mP (M : sw_M) (a b : Int64) : sw_M := wr_L (wr_L M 80 37 a) 80 38 b
theorem up_22 {α : Type} (f : Nat → Nat → α) (q k : Nat) (v w : α) : up_2 (up_2 f q k v) q k w = up_2 f q k w := by
  funext a j
  unfold up_2
  split <;> (try split) <;> rfl
theorem up_2c {α : Type} (f : Nat → Nat → α) (q k q' k' : Nat) (v w : α) (h : q ≠ q' ∨ k ≠ k') : up_2 (up_2 f q k v) q' k' w = up_2 (up_2 f q' k' w) q k v := by
  funext a j
  unfold up_2
  by_cases h1 : a = q <;> by_cases h2 : a = q' <;> by_cases h3 : j = k <;> by_cases h4 : j = k' <;> simp [h1, h2, h3, h4] <;> grind
theorem mP_mP (M : sw_M) (a b c d : Int64) : mP (mP M a b) c d = mP M c d := by
  unfold mP wr_L
  simp only [Prod.mk.injEq, true_and, and_true]
  rw [up_2c (up_2 M.2.1 80 37 a) 80 38 80 37 b c (by decide), up_22, up_22]
theorem mP_a (M : sw_M) (a b : Int64) : rd_L (mP M a b) 80 37 = a := rfl
theorem mP_b (M : sw_M) (a b : Int64) : rd_L (mP M a b) 80 38 = b := rfl
/-- a PART's own numbers do not reach beyond a long: x, y up to a thousand million -/
def Bd (x : Int64) : Prop := -1000000000 ≤ x.toInt ∧ x.toInt ≤ 1000000000
theorem sq_in {a B : Int} (h1 : -B ≤ a) (h2 : a ≤ B) : 0 ≤ a * a ∧ a * a ≤ B * B := by
  refine ⟨?_, ?_⟩
  · rcases Int.le_total 0 a with h | h
    · exact Int.mul_nonneg h h
    · exact Int.mul_nonneg_of_nonpos_of_nonpos h h
  · rcases Int.le_total 0 a with h | h
    · exact Int.mul_le_mul h2 h2 h (by omega)
    · have e : a * a = (-a) * (-a) := by rw [Int.neg_mul_neg]
      rw [e]
      exact Int.mul_le_mul (by omega) (by omega) (by omega) (by omega)
theorem sq64 {a : Int64} {B : Int} (h1 : -B ≤ a.toInt) (h2 : a.toInt ≤ B) (hB : B * B < 9223372036854775808) : (a * a).toInt = a.toInt * a.toInt ∧ 0 ≤ (a * a).toInt ∧ (a * a).toInt ≤ B * B := by
  obtain ⟨h3, h4⟩ := sq_in h1 h2
  have e : (a * a).toInt = a.toInt * a.toInt := m64 (by omega) (by omega)
  exact ⟨e, by omega, by omega⟩
/-- D of a heap, a disc -/
theorem D_pos {x y s : Int64} (hx : -1100000000 ≤ x.toInt ∧ x.toInt ≤ 1100000000) (hy : -1100000000 ≤ y.toInt ∧ y.toInt ≤ 1100000000) (hs : 1 ≤ s.toInt ∧ s.toInt ≤ 9999) : 1 ≤ (((x * x) + (y * y)) + (s * s)).toInt := by
  obtain ⟨-, x2, x3⟩ := sq64 (B := 1100000000) hx.1 hx.2 (by decide)
  obtain ⟨-, y2, y3⟩ := sq64 (B := 1100000000) hy.1 hy.2 (by decide)
  obtain ⟨s1, s2, s3⟩ := sq64 (B := 9999) (by omega) hs.2 (by decide)
  have hs2 : 1 ≤ (s * s).toInt := by rw [s1]; exact Int.le_trans (by decide : (1 : Int) ≤ 1 * 1) (Int.mul_le_mul hs.1 hs.1 (by decide) (by omega))
  have e1 : ((x * x) + (y * y)).toInt = (x * x).toInt + (y * y).toInt := a64 (by omega) (by omega)
  have e2 : (((x * x) + (y * y)) + (s * s)).toInt = (x * x).toInt + (y * y).toInt + (s * s).toInt := by rw [a64 (by omega) (by omega), e1]
  omega
/-- D of a slanted bar -/
theorem D_posS {x y s : Int64} (hx : Bd x) (hy : Bd y) (hs : 1 ≤ s.toInt ∧ s.toInt ≤ 9999) : 1 ≤ ((((x + y) * (x + y)) + ((y - x) * (y - x))) + (((2 : Int64) * s) * s)).toInt := by
  obtain ⟨hx1, hx2⟩ := hx
  obtain ⟨hy1, hy2⟩ := hy
  have u1 : (x + y).toInt = x.toInt + y.toInt := a64 (by omega) (by omega)
  have v1 : (y - x).toInt = y.toInt - x.toInt := s64 (by omega) (by omega)
  obtain ⟨-, u2, u3⟩ := sq64 (a := x + y) (B := 2000000000) (by omega) (by omega) (by decide)
  obtain ⟨-, v2, v3⟩ := sq64 (a := y - x) (B := 2000000000) (by omega) (by omega) (by decide)
  obtain ⟨s1, s2, s3⟩ := sq64 (B := 9999) (by omega) hs.2 (by decide)
  have hs2 : 1 ≤ (s * s).toInt := by rw [s1]; exact Int.le_trans (by decide : (1 : Int) ≤ 1 * 1) (Int.mul_le_mul hs.1 hs.1 (by decide) (by omega))
  have t1 : (((2 : Int64) * s) * s) = (2 : Int64) * (s * s) := by rw [Int64.mul_assoc]
  have t2 : ((2 : Int64) * (s * s)).toInt = 2 * (s * s).toInt := m64 (by show -9223372036854775808 ≤ 2 * (s * s).toInt; omega) (by show 2 * (s * s).toInt < 9223372036854775808; omega)
  have e1 : (((x + y) * (x + y)) + ((y - x) * (y - x))).toInt = ((x + y) * (x + y)).toInt + ((y - x) * (y - x)).toInt := a64 (by omega) (by omega)
  rw [t1, a64 (by omega) (by omega), e1]
  omega
theorem ne0_of {d : Int64} (h : 1 ≤ d.toInt) : ¬ d = 0 := fun e => by rw [e] at h; exact absurd h (by decide)
theorem ge1_of {d : Int64} (h : 1 ≤ d.toInt) : (1 : Int64) ≤ d := Int64.le_iff_toInt_le.mpr h
