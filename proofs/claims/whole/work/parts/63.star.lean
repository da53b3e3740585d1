/-! 63: go, by itself: its bounds -/
theorem t_lt {t : Int32} (h : t < 240) : t.toInt < 240 := by
  have := Int32.lt_iff_toInt_lt.mp h
  rw [show (240 : Int32).toInt = 240 from by decide] at this
  exact this
theorem t_gt {t : Int32} (h : 0 < t) : 0 < t.toInt := by
  have := Int32.lt_iff_toInt_lt.mp h
  rw [show (0 : Int32).toInt = 0 from by decide] at this
  exact this
theorem t_s {t : Int32} (h : 0 ≤ t.toInt ∧ t.toInt < 240) : (t + 1).toInt = t.toInt + 1 := by
  have e : (1 : Int32).toInt = 1 := by decide
  rw [a32, e] <;> rw [e] <;> omega
theorem t_p {t : Int32} (h : 0 < t.toInt ∧ t.toInt ≤ 240) : (t - 1).toInt = t.toInt - 1 := by
  have e : (1 : Int32).toInt = 1 := by decide
  rw [s32, e] <;> rw [e] <;> omega
theorem nB_add {U V : Int} {a b : Int64} (ha : nB U a) (hb : nB V b) (h : U + V < 9000000000000000000) : nB (U + V) (a + b) ∧ (a + b).toInt = a.toInt + b.toInt := by
  unfold nB at *
  have e : (a + b).toInt = a.toInt + b.toInt := a64 (by omega) (by omega)
  omega
theorem nB_sub {U V : Int} {a b : Int64} (ha : nB U a) (hb : nB V b) (h : U + V < 9000000000000000000) : nB (U + V) (a - b) ∧ (a - b).toInt = a.toInt - b.toInt := by
  unfold nB at *
  have e : (a - b).toInt = a.toInt - b.toInt := s64 (by omega) (by omega)
  omega
theorem nB_Bd {U : Int} {z : Int64} (h : nB U z) (hU : U ≤ 1000000000) : Bd z := by unfold nB at h; unfold Bd; omega
theorem pull_nB {P : Nat → PartS} {n : Nat} (hn : n ≤ 8) (hP : ∀ p, p < n → POk (P p)) {mass : Int32} (hm : 0 ≤ mass.toInt ∧ mass.toInt ≤ 99999) {x y : Int64} (hx : Bd x) (hy : Bd y) {t : Int32} (ht : 0 ≤ t.toInt ∧ t.toInt ≤ 240) : nB 799992 (pullN P mass x y t n).1 ∧ nB 799992 (pullN P mass x y t n).2 := by
  obtain ⟨h1, h2⟩ := pullN_b (P := P) hm hx hy ht n hn hP
  unfold nB
  omega
theorem add_sub64 (a b : Int64) : a + b - b = a := Int64.add_sub_cancel a b
/-- one STEP: from a star that is not GONE by a STEP, its speed within V -/
theorem fwd_I {P : Nat → PartS} {n : Nat} (hn : n ≤ 8) (hP : ∀ p, p < n → POk (P p)) {mass : Int32} (hm : 0 ≤ mass.toInt ∧ mass.toInt ≤ 99999) {U V : Int} {s : SS} (hU : 41000 ≤ U) (hU2 : U ≤ 900000000) (hV : V + 799992 ≤ U + 1599984) (hx : nB (20000 + U) s.x) (hy : nB (20000 + U) s.y) (hu : nB V s.u) (hv : nB V s.v) (ht : 0 ≤ s.t.toInt ∧ s.t.toInt < 240)
    (hor : V ≤ U ∨ (nB 20000 s.x ∧ nB 20000 s.y)) :
    ((fwd P n mass s).g = 0 ∧ nB 20000 (fwd P n mass s).x ∧ nB 20000 (fwd P n mass s).y ∧ nB (U + 799992) (fwd P n mass s).u ∧ nB (U + 799992) (fwd P n mass s).v ∧ (0 ≤ (fwd P n mass s).t.toInt ∧ (fwd P n mass s).t.toInt ≤ 240)) ∨ ((fwd P n mass s).g = 1 ∧ SI (U + 1599984) (fwd P n mass s)) := by
  obtain ⟨p1, p2⟩ := pull_nB hn hP hm (nB_Bd hx (by omega)) (nB_Bd hy (by omega)) (t := s.t) (by omega)
  have u1 : nB (V + 799992) (su P n mass s.t s.x s.y s.u) := (nB_add hu p1 (by omega)).1
  have v1 : nB (V + 799992) (sv P n mass s.t s.x s.y s.v) := (nB_add hv p2 (by omega)).1
  have et : (fwd P n mass s).t.toInt = s.t.toInt + 1 := t_s ht
  have ex := (nB_add hx u1 (by omega)).2
  have ey := (nB_add hy v1 (by omega)).2
  cases hb : bey (s.x + su P n mass s.t s.x s.y s.u) (s.y + sv P n mass s.t s.x s.y s.v)
  · refine Or.inl ⟨?_, (bey_f hb).1, (bey_f hb).2, ?_, ?_, by omega⟩
    · show bz (bey _ _) = 0
      rw [hb]; rfl
    · show nB _ (su P n mass s.t s.x s.y s.u)
      have := (bey_f hb).1
      rcases hor with h | h
      · exact nB_mono u1 (by omega)
      · have h1 := h.1
        unfold nB at *
        omega
    · show nB _ (sv P n mass s.t s.x s.y s.v)
      have := (bey_f hb).2
      rcases hor with h | h
      · exact nB_mono v1 (by omega)
      · have h1 := h.2
        unfold nB at *
        omega
  · have hg : (fwd P n mass s).g = 1 := by
      show bz (bey _ _) = 1
      rw [hb]; rfl
    refine Or.inr ⟨hg, nB_mono u1 hV, nB_mono v1 hV, by omega, fun e => absurd (hg.symm.trans e) (by decide), fun _ => ?_, fun e => absurd (hg.symm.trans e) (by decide), Or.inr (Or.inl hg)⟩
    show nB _ (s.x + su P n mass s.t s.x s.y s.u - su P n mass s.t s.x s.y s.u) ∧ nB _ (s.y + sv P n mass s.t s.x s.y s.v - sv P n mass s.t s.x s.y s.v)
    rw [add_sub64, add_sub64]
    exact ⟨nB_mono hx (by omega), nB_mono hy (by omega)⟩
