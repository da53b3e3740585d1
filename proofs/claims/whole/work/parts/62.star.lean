/-! 62: go, by itself -/
/-- x, y, u, v, time, gone -/
def SS : Type := Int64 × Int64 × Int64 × Int64 × Int32 × Int32
def SS.x (s : SS) : Int64 := s.1
def SS.y (s : SS) : Int64 := s.2.1
def SS.u (s : SS) : Int64 := s.2.2.1
def SS.v (s : SS) : Int64 := s.2.2.2.1
def SS.t (s : SS) : Int32 := s.2.2.2.2.1
def SS.g (s : SS) : Int32 := s.2.2.2.2.2
noncomputable def fwd (P : Nat → PartS) (n : Nat) (mass : Int32) (s : SS) : SS :=
  (s.x + su P n mass s.t s.x s.y s.u, s.y + sv P n mass s.t s.x s.y s.v, su P n mass s.t s.x s.y s.u, sv P n mass s.t s.x s.y s.v, s.t + 1, bz (bey (s.x + su P n mass s.t s.x s.y s.u) (s.y + sv P n mass s.t s.x s.y s.v)))
noncomputable def bwd (P : Nat → PartS) (n : Nat) (mass : Int32) (s : SS) : SS :=
  (s.x - s.u, s.y - s.v, s.u - (pullN P mass (s.x - s.u) (s.y - s.v) (s.t - 1) n).1, s.v - (pullN P mass (s.x - s.u) (s.y - s.v) (s.t - 1) n).2, s.t - 1, if bey (s.x - s.u) (s.y - s.v) = true then -1 else 0)
noncomputable def go1 (P : Nat → PartS) (n : Nat) (mass : Int32) : Nat → SS → Nat × SS
  | 0, s => (0, s)
  | d + 1, s => if s.t < 240 ∧ s.g ≠ 1 then ((go1 P n mass d (fwd P n mass s)).1 + 1, (go1 P n mass d (fwd P n mass s)).2) else (0, s)
noncomputable def go2 (P : Nat → PartS) (n : Nat) (mass : Int32) : Nat → SS → Nat × SS
  | 0, s => (0, s)
  | d + 1, s => if 0 < s.t ∧ s.g ≠ -1 then ((go2 P n mass d (bwd P n mass s)).1 + 1, (go2 P n mass d (bwd P n mass s)).2) else (0, s)
def ok1 (P : Nat → PartS) (n : Nat) (mass : Int32) : Nat → SS → Prop
  | 0, _ => True
  | d + 1, s => s.t < 240 ∧ s.g ≠ 1 → (0 ≤ s.t.toInt ∧ s.t.toInt < 240) ∧ Bd s.x ∧ Bd s.y ∧ ok1 P n mass d (fwd P n mass s)
def ok2 (P : Nat → PartS) (n : Nat) (mass : Int32) : Nat → SS → Prop
  | 0, _ => True
  | d + 1, s => 0 < s.t ∧ s.g ≠ -1 → (0 < s.t.toInt ∧ s.t.toInt ≤ 240) ∧ Bd (s.x - s.u) ∧ Bd (s.y - s.v) ∧ ok2 P n mass d (bwd P n mass s)
def nB (U : Int) (z : Int64) : Prop := -U ≤ z.toInt ∧ z.toInt ≤ U
/-- a star's bounds -/
def SI (U : Int) (s : SS) : Prop := nB U s.u ∧ nB U s.v ∧ (0 ≤ s.t.toInt ∧ s.t.toInt ≤ 240) ∧ (s.g = 0 → nB 20000 s.x ∧ nB 20000 s.y) ∧ (s.g = 1 → nB (20000 + U) (s.x - s.u) ∧ nB (20000 + U) (s.y - s.v)) ∧ (s.g = -1 → nB (20000 + U) s.x ∧ nB (20000 + U) s.y) ∧ (s.g = 0 ∨ s.g = 1 ∨ s.g = -1)
theorem nB_mono {U V : Int} {z : Int64} (h : nB U z) (hUV : U ≤ V) : nB V z := by unfold nB at h ⊢; omega
theorem SI_mono {U V : Int} {s : SS} (h : SI U s) (hUV : U ≤ V) : SI V s := by
  obtain ⟨h1, h2, h3, h4, h5, h6, h7⟩ := h
  exact ⟨nB_mono h1 hUV, nB_mono h2 hUV, h3, h4, fun e => ⟨nB_mono (h5 e).1 (by omega), nB_mono (h5 e).2 (by omega)⟩, fun e => ⟨nB_mono (h6 e).1 (by omega), nB_mono (h6 e).2 (by omega)⟩, h7⟩
theorem bey_f {x y : Int64} (h : bey x y = false) : nB 20000 x ∧ nB 20000 y := by
  unfold bey at h
  simp only [Bool.or_eq_false_iff, decide_eq_false_iff_not, Int64.lt_iff_toInt_lt] at h
  obtain ⟨h1, h2, h3, h4⟩ := h
  have e1 : (20000 : Int64).toInt = 20000 := by decide
  have e2 : (-20000 : Int64).toInt = -20000 := by decide
  rw [e1] at h1 h3
  rw [e2] at h2 h4
  unfold nB
  omega
theorem bey_t {x y : Int64} (hx : nB 20000 x) (hy : nB 20000 y) : bey x y = false := by
  unfold bey
  simp only [Bool.or_eq_false_iff, decide_eq_false_iff_not, Int64.lt_iff_toInt_lt]
  have e1 : (20000 : Int64).toInt = 20000 := by decide
  have e2 : (-20000 : Int64).toInt = -20000 := by decide
  unfold nB at hx hy
  rw [e1, e2]
  omega
