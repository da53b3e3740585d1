/-! 52: PULL: a PART as it is told; the sum over the PARTS, on both sides -/
def PartS : Type := Int32 × Int32 × Int32 × Int32 × Int32 × Int32 × Int32 × Int32 × Bool
def PartS.kind (P : PartS) : Int32 := P.1
def PartS.x (P : PartS) : Int32 := P.2.1
def PartS.y (P : PartS) : Int32 := P.2.2.1
def PartS.u (P : PartS) : Int32 := P.2.2.2.1
def PartS.v (P : PartS) : Int32 := P.2.2.2.2.1
def PartS.m (P : PartS) : Int32 := P.2.2.2.2.2.1
def PartS.s (P : PartS) : Int32 := P.2.2.2.2.2.2.1
def PartS.T (P : PartS) : Int32 := P.2.2.2.2.2.2.2.1
def PartS.sp (P : PartS) : Bool := P.2.2.2.2.2.2.2.2
def pm (P : PartS) (mass : Int32) : Int64 := if P.sp = true then mass.toInt64 else P.m.toInt64
def pdx (P : PartS) (x : Int64) (t : Int32) : Int64 := (x - P.x.toInt64) - (P.u.toInt64 * t.toInt64)
def pdy (P : PartS) (y : Int64) (t : Int32) : Int64 := (y - P.y.toInt64) - (P.v.toInt64 * t.toInt64)
def pqu (P : PartS) (t : Int32) : Int32 := if P.kind = 1 then 0 else (t / P.T) - (t / P.T) / (4 : Int32) * (4 : Int32)
noncomputable def prr (P : PartS) (x y : Int64) : Int64 := s_root ((x * x) + (y * y)) + P.s.toInt64
def pDD (P : PartS) (x y : Int64) (t : Int32) : Int64 := ((pdx P x t * pdx P x t) + (pdy P y t * pdy P y t)) + (P.s.toInt64 * P.s.toInt64)
/-- what one PART adds to PULL -/
noncomputable def pullOf (P : PartS) (mass : Int32) (x y : Int64) (t : Int32) : Int64 × Int64 :=
  if P.kind = 0 ∨ P.kind = 4 then (-((pm P mass * pdx P x t) / pDD P x y t), -((pm P mass * pdy P y t) / pDD P x y t))
  else if P.kind = 2 then (-((pm P mass * x) / (prr P x y * prr P x y)), -((pm P mass * y) / (prr P x y * prr P x y)))
  else dF x y (pm P mass) P.s.toInt64 (pqu P t)
def POk (P : PartS) : Prop :=
  (P.kind = 0 ∨ P.kind = 1 ∨ P.kind = 2 ∨ P.kind = 3 ∨ P.kind = 4) ∧
  (-9999 ≤ P.x.toInt ∧ P.x.toInt ≤ 9999) ∧
  (-9999 ≤ P.y.toInt ∧ P.y.toInt ≤ 9999) ∧
  (-99 ≤ P.u.toInt ∧ P.u.toInt ≤ 99) ∧
  (-99 ≤ P.v.toInt ∧ P.v.toInt ≤ 99) ∧
  (0 ≤ P.m.toInt ∧ P.m.toInt ≤ 99999) ∧
  (1 ≤ P.s.toInt ∧ P.s.toInt ≤ 9999) ∧
  (P.kind = 3 → 1 ≤ P.T.toInt ∧ P.T.toInt ≤ 99) ∧
  (P.sp = true → P.kind = 2)
theorem POk.k {P : PartS} (h : POk P) : P.kind = 0 ∨ P.kind = 1 ∨ P.kind = 2 ∨ P.kind = 3 ∨ P.kind = 4 := h.1
theorem POk.x {P : PartS} (h : POk P) : -9999 ≤ P.x.toInt ∧ P.x.toInt ≤ 9999 := h.2.1
theorem POk.y {P : PartS} (h : POk P) : -9999 ≤ P.y.toInt ∧ P.y.toInt ≤ 9999 := h.2.2.1
theorem POk.u {P : PartS} (h : POk P) : -99 ≤ P.u.toInt ∧ P.u.toInt ≤ 99 := h.2.2.2.1
theorem POk.v {P : PartS} (h : POk P) : -99 ≤ P.v.toInt ∧ P.v.toInt ≤ 99 := h.2.2.2.2.1
theorem POk.m {P : PartS} (h : POk P) : 0 ≤ P.m.toInt ∧ P.m.toInt ≤ 99999 := h.2.2.2.2.2.1
theorem POk.s {P : PartS} (h : POk P) : 1 ≤ P.s.toInt ∧ P.s.toInt ≤ 9999 := h.2.2.2.2.2.2.1
theorem POk.T {P : PartS} (h : POk P) : P.kind = 3 → 1 ≤ P.T.toInt ∧ P.T.toInt ≤ 99 := h.2.2.2.2.2.2.2.1
theorem POk.sp {P : PartS} (h : POk P) : P.sp = true → P.kind = 2 := h.2.2.2.2.2.2.2.2
noncomputable def pullN (P : Nat → PartS) (mass : Int32) (x y : Int64) (t : Int32) : Nat → Int64 × Int64
  | 0 => (0, 0)
  | n + 1 => ((pullN P mass x y t n).1 + (pullOf (P n) mass x y t).1, (pullN P mass x y t n).2 + (pullOf (P n) mass x y t).2)
theorem t64 (i : Int32) : i.toInt64.toInt = i.toInt := Int32.toInt_toInt64 i
theorem mul_b {a b A B : Int} (ha : -A ≤ a ∧ a ≤ A) (hb : -B ≤ b ∧ b ≤ B) : -(A * B) ≤ a * b ∧ a * b ≤ A * B := by
  have hA : 0 ≤ A := by omega
  have hB : 0 ≤ B := by omega
  have h1 : (a * b).natAbs ≤ (A * B).natAbs := by
    rw [Int.natAbs_mul, Int.natAbs_mul]
    exact Nat.mul_le_mul (by omega) (by omega)
  have h2 : 0 ≤ A * B := Int.mul_nonneg hA hB
  omega
theorem pdx_i {P : PartS} (h : POk P) {x : Int64} (hx : Bd x) {t : Int32} (ht : 0 ≤ t.toInt ∧ t.toInt ≤ 240) : (pdx P x t).toInt = x.toInt - P.x.toInt - P.u.toInt * t.toInt ∧ (-1100000000 ≤ (pdx P x t).toInt ∧ (pdx P x t).toInt ≤ 1100000000) := by
  have h1 := h.x
  have h2 := mul_b (A := 99) (B := 240) h.u (b := t.toInt) (by omega)
  obtain ⟨h3, h4⟩ := hx
  have e1 : (x - P.x.toInt64).toInt = x.toInt - P.x.toInt := by rw [s64] <;> rw [t64] <;> omega
  have e2 : (P.u.toInt64 * t.toInt64).toInt = P.u.toInt * t.toInt := by rw [m64] <;> rw [t64, t64] <;> omega
  have e3 : (pdx P x t).toInt = x.toInt - P.x.toInt - P.u.toInt * t.toInt := by
    unfold pdx
    rw [s64, e1, e2] <;> rw [e1, e2] <;> omega
  omega
theorem pdy_i {P : PartS} (h : POk P) {y : Int64} (hy : Bd y) {t : Int32} (ht : 0 ≤ t.toInt ∧ t.toInt ≤ 240) : (pdy P y t).toInt = y.toInt - P.y.toInt - P.v.toInt * t.toInt ∧ (-1100000000 ≤ (pdy P y t).toInt ∧ (pdy P y t).toInt ≤ 1100000000) := by
  have h1 := h.y
  have h2 := mul_b (A := 99) (B := 240) h.v (b := t.toInt) (by omega)
  obtain ⟨h3, h4⟩ := hy
  have e1 : (y - P.y.toInt64).toInt = y.toInt - P.y.toInt := by rw [s64] <;> rw [t64] <;> omega
  have e2 : (P.v.toInt64 * t.toInt64).toInt = P.v.toInt * t.toInt := by rw [m64] <;> rw [t64, t64] <;> omega
  have e3 : (pdy P y t).toInt = y.toInt - P.y.toInt - P.v.toInt * t.toInt := by
    unfold pdy
    rw [s64, e1, e2] <;> rw [e1, e2] <;> omega
  omega
theorem pDD_pos {P : PartS} (h : POk P) {x y : Int64} (hx : Bd x) (hy : Bd y) {t : Int32} (ht : 0 ≤ t.toInt ∧ t.toInt ≤ 240) : 1 ≤ (pDD P x y t).toInt :=
  D_pos (pdx_i h hx ht).2 (pdy_i h hy ht).2 (by rw [t64]; exact h.s)
theorem prr_in {P : PartS} (h : POk P) (x y : Int64) : 1 ≤ (prr P x y).toInt ∧ (prr P x y).toInt ≤ 2147493647 := by
  have h1 := s_root_in ((x * x) + (y * y))
  have h2 := h.s
  unfold prr
  rw [a64] <;> rw [t64] <;> omega
theorem prr_pos {P : PartS} (h : POk P) (x y : Int64) : 1 ≤ (prr P x y * prr P x y).toInt := by
  obtain ⟨h1, h2⟩ := prr_in h x y
  obtain ⟨e, -, -⟩ := sq64 (a := prr P x y) (B := 2147493647) (by omega) h2 (by decide)
  rw [e]
  exact Int.le_trans (by decide : (1 : Int) ≤ 1 * 1) (Int.mul_le_mul h1 h1 (by decide) (by omega))
