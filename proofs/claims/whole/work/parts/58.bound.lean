/-! 58: how great a PULL may be -/
theorem rt_up (n : Int64) : ∀ (k : Nat) (r : Int64), k ≤ 31 → 0 ≤ r.toInt → r.toInt + 2 ^ k ≤ 2 ^ 31 → n.toInt < (r.toInt + 2 ^ k) * (r.toInt + 2 ^ k) → n.toInt < ((rt k n r).toInt + 1) * ((rt k n r).toInt + 1)
  | 0, r, _, _, _, h => h
  | k + 1, r, hk, h0, h1, h => by
    have hb := bt_i k (by omega)
    have h2 : (2 : Int) ^ (k + 1) = 2 * 2 ^ k := by rw [Int.pow_succ]; omega
    have h3 : (0 : Int) < 2 ^ k := Int.pow_pos (by omega)
    have ha : (r + bt k).toInt = r.toInt + 2 ^ k := by rw [a64, hb] <;> rw [hb] <;> omega
    obtain ⟨hs, -, -⟩ := sq64 (a := r + bt k) (B := 2147483648) (by omega) (by omega) (by decide)
    rw [show rt (k + 1) n r = rt k n (if n < (r + bt k) * (r + bt k) then r else r + bt k) from rfl]
    split
    · rename_i hc
      have hc := Int64.lt_iff_toInt_lt.mp hc
      rw [hs, ha] at hc
      exact rt_up n k r (by omega) h0 (by omega) hc
    · refine rt_up n k (r + bt k) (by omega) (by omega) (by omega) ?_
      rw [ha, show r.toInt + 2 ^ k + 2 ^ k = r.toInt + 2 ^ (k + 1) from by omega]
      exact h
theorem s_root_up (n : Int64) (h : n.toInt < 4611686018427387904) : n.toInt < ((s_root n).toInt + 1) * ((s_root n).toInt + 1) := by
  rw [s_root_eq]
  exact rt_up n 31 0 (by omega) (by decide) (by decide) h
theorem bd_abs {x : Int64} (h : Bd x) : x.toInt.natAbs ≤ 1000000000 := by unfold Bd at h; omega
theorem pm_abs {P : PartS} (h : POk P) {mass : Int32} (hm : 0 ≤ mass.toInt ∧ mass.toInt ≤ 99999) : (pm P mass).toInt.natAbs ≤ 99999 := by
  have h1 := h.m
  unfold pm
  split <;> rw [t64] <;> omega
theorem s_sq {s : Int64} (hs : 1 ≤ s.toInt ∧ s.toInt ≤ 9999) : 1 ≤ s.toInt * s.toInt := Int.le_trans (by decide : (1 : Int) ≤ 1 * 1) (Int.mul_le_mul hs.1 hs.1 (by decide) (by omega))
theorem dF_b {x y m s : Int64} (hx : Bd x) (hy : Bd y) (hm : m.toInt.natAbs ≤ 99999) (hs : 1 ≤ s.toInt ∧ s.toInt ≤ 9999) (q : Int32) : Pb (dF x y m s q).1 ∧ Pb (dF x y m s q).2 := by
  have e0 := D_pos (bd_b hx) (bd_b hy) hs
  have e1 := D_posS hx hy hs
  have v0 := D_val (bd_b hx) (bd_b hy) hs
  have v1 := D_valS hx hy hs
  have ss := s_sq hs
  have ax := bd_abs hx
  have ay := bd_abs hy
  have u1 : (x + y).toInt = x.toInt + y.toInt := a64 (by omega) (by omega)
  have w1 : (y - x).toInt = y.toInt - x.toInt := s64 (by omega) (by omega)
  have q1 := sq_ge x.toInt
  have q2 := sq_ge y.toInt
  have q3 := sq_ge (x.toInt + y.toInt)
  have q4 := sq_ge (y.toInt - x.toInt)
  have n1 : 0 ≤ x.toInt * x.toInt := by omega
  have n2 : 0 ≤ y.toInt * y.toInt := by omega
  have c1 : (1 : Int64).toInt.natAbs = 1 := by decide
  have c2 : (2 : Int64).toInt.natAbs = 2 := by decide
  unfold dF
  split
  · refine ⟨qc_b ?_ hm (by omega) e0 (by omega), qc_b ?_ hm (by omega) e0 (by omega)⟩ <;> split <;> omega
  · split
    · exact qq_b (by omega) (by omega) hm (by omega) (by omega) e1 (by rw [c1, c2]; omega)
    · exact qq_b (by omega) (by omega) hm (by omega) (by omega) e1 (by rw [c1, c2]; omega)
theorem pullOf_b {P : PartS} (h : POk P) {mass : Int32} (hm : 0 ≤ mass.toInt ∧ mass.toInt ≤ 99999) {x y : Int64} (hx : Bd x) (hy : Bd y) {t : Int32} (ht : 0 ≤ t.toInt ∧ t.toInt ≤ 240) : Pb (pullOf P mass x y t).1 ∧ Pb (pullOf P mass x y t).2 := by
  have hpm := pm_abs h hm
  unfold pullOf
  split
  · have dx := (pdx_i h hx ht).2
    have dy := (pdy_i h hy ht).2
    have e2 := pDD_pos h hx hy ht
    have v : (pDD P x y t).toInt = _ := D_val dx dy (s_in h)
    have ss := s_sq (s_in h)
    have q1 := sq_ge (pdx P x t).toInt
    have q2 := sq_ge (pdy P y t).toInt
    refine ⟨qm_b hpm (by omega) e2 ?_, qm_b hpm (by omega) e2 ?_⟩ <;> omega
  · split
    · have ax := bd_abs hx
      have ay := bd_abs hy
      obtain ⟨x1, x2, x3⟩ := sq64 (a := x) (B := 1000000000) (by omega) (by omega) (by decide)
      obtain ⟨y1, y2, y3⟩ := sq64 (a := y) (B := 1000000000) (by omega) (by omega) (by decide)
      have en : ((x * x) + (y * y)).toInt = x.toInt * x.toInt + y.toInt * y.toInt := by rw [a64, x1, y1] <;> omega
      have hr := s_root_up ((x * x) + (y * y)) (by omega)
      have hi := s_root_in ((x * x) + (y * y))
      have hs := h.s
      have hp := prr_in h x y
      have e3 := prr_pos h x y
      have ep : (prr P x y).toInt = (s_root ((x * x) + (y * y))).toInt + P.s.toInt := by
        unfold prr
        rw [a64] <;> rw [t64] <;> omega
      obtain ⟨p1, p2, p3⟩ := sq64 (a := prr P x y) (B := 2147493647) (by omega) hp.2 (by decide)
      have q1 := sq_ge (prr P x y).toInt
      generalize hR : s_root ((x * x) + (y * y)) = R at hr hi ep
      have key : ∀ z : Int, z * z ≤ ((x * x) + (y * y)).toInt → z.natAbs ≤ (prr P x y).toInt.natAbs := by
        intro z hz
        have hz2 : ((z.natAbs : Nat) : Int) * z.natAbs = z * z := Int.natAbs_mul_self
        rcases Nat.lt_or_ge z.natAbs (R.toInt.natAbs + 1) with hl | hl
        · omega
        · exfalso
          have h5 : (R.toInt + 1) * (R.toInt + 1) ≤ ((z.natAbs : Nat) : Int) * z.natAbs := Int.mul_le_mul (by omega) (by omega) (by omega) (by omega)
          omega
      have kx := key x.toInt (by omega)
      have ky := key y.toInt (by omega)
      refine ⟨qm_b hpm (by omega) e3 ?_, qm_b hpm (by omega) e3 ?_⟩ <;> omega
    · exact dF_b hx hy hpm (s_in h) _
theorem pullN_b {P : Nat → PartS} {mass : Int32} (hm : 0 ≤ mass.toInt ∧ mass.toInt ≤ 99999) {x y : Int64} (hx : Bd x) (hy : Bd y) {t : Int32} (ht : 0 ≤ t.toInt ∧ t.toInt ≤ 240) : ∀ n, n ≤ 8 → (∀ p, p < n → POk (P p)) → (pullN P mass x y t n).1.toInt.natAbs ≤ 99999 * n ∧ (pullN P mass x y t n).2.toInt.natAbs ≤ 99999 * n
  | 0, _, _ => ⟨Nat.zero_le _, Nat.zero_le _⟩
  | n + 1, hn, h => by
    obtain ⟨h1, h2⟩ := pullN_b hm hx hy ht n (by omega) (fun p hp => h p (by omega))
    obtain ⟨g1, g2⟩ := pullOf_b (h n (by omega)) hm hx hy ht
    unfold Pb at g1 g2
    unfold pullN
    constructor
    · show ((pullN P mass x y t n).1 + (pullOf (P n) mass x y t).1).toInt.natAbs ≤ _
      rw [a64] <;> omega
    · show ((pullN P mass x y t n).2 + (pullOf (P n) mass x y t).2).toInt.natAbs ≤ _
      rw [a64] <;> omega
