/-! 56: PULL on the other side: the bar, a PART, all PARTS -/
theorem bm32 {x : Int} (h1 : -2147483648 ≤ x) (h2 : x < 2147483648) : x.bmod (2 ^ 32) = x := by
  rw [Int.bmod_eq_of_le] <;> omega
theorem a32 {a b : Int32} (h1 : -2147483648 ≤ a.toInt + b.toInt) (h2 : a.toInt + b.toInt < 2147483648) : (a + b).toInt = a.toInt + b.toInt := by rw [Int32.toInt_add, bm32 h1 h2]
theorem s32 {a b : Int32} (h1 : -2147483648 ≤ a.toInt - b.toInt) (h2 : a.toInt - b.toInt < 2147483648) : (a - b).toInt = a.toInt - b.toInt := by rw [Int32.toInt_sub, bm32 h1 h2]
theorem m32 {a b : Int32} (h1 : -2147483648 ≤ a.toInt * b.toInt) (h2 : a.toInt * b.toInt < 2147483648) : (a * b).toInt = a.toInt * b.toInt := by rw [Int32.toInt_mul, bm32 h1 h2]
theorem in32 (a : Int32) : -2147483648 ≤ a.toInt ∧ a.toInt < 2147483648 := ⟨Int32.le_toInt a, Int32.toInt_lt a⟩
theorem d32 {a b : Int32} (ha : 0 ≤ a.toInt) (hb : 1 ≤ b.toInt) : (a / b).toInt = a.toInt / b.toInt := by
  have h1 := in32 a
  have h2 : 0 ≤ a.toInt / b.toInt := Int.ediv_nonneg ha (by omega)
  have h3 : a.toInt / b.toInt ≤ a.toInt := Int.ediv_le_self _ ha
  rw [Int32.toInt_div, Int.tdiv_eq_ediv_of_nonneg ha, bm32] <;> omega
theorem qu_in {t T : Int32} (ht : 0 ≤ t.toInt) (hT : 1 ≤ T.toInt) : 0 ≤ ((t / T) - (t / T) / (4 : Int32) * (4 : Int32)).toInt ∧ ((t / T) - (t / T) / (4 : Int32) * (4 : Int32)).toInt < 4 := by
  have e1 := d32 ht hT
  have h1 : 0 ≤ (t / T).toInt := by rw [e1]; exact Int.ediv_nonneg ht (by omega)
  have h2 := in32 (t / T)
  generalize t / T = w at h1 h2
  have e4 : (4 : Int32).toInt = 4 := by decide
  have e2 : (w / (4 : Int32)).toInt = w.toInt / 4 := by rw [d32 h1 (by decide), e4]
  have e3 : (w / (4 : Int32) * (4 : Int32)).toInt = w.toInt / 4 * 4 := by rw [m32, e2, e4] <;> rw [e2, e4] <;> omega
  rw [s32 (by rw [e3]; omega) (by rw [e3]; omega), e3]
  omega
theorem i32_4 {q : Int32} (h : 0 ≤ q.toInt ∧ q.toInt < 4) : q = 0 ∨ q = 1 ∨ q = 2 ∨ q = 3 := by
  have h0 : q.toInt = 0 ∨ q.toInt = 1 ∨ q.toInt = 2 ∨ q.toInt = 3 := by omega
  rcases h0 with e | e | e | e
  · exact Or.inl (Int32.toInt_inj.mp (e.trans (by decide)))
  · exact Or.inr (Or.inl (Int32.toInt_inj.mp (e.trans (by decide))))
  · exact Or.inr (Or.inr (Or.inl (Int32.toInt_inj.mp (e.trans (by decide)))))
  · exact Or.inr (Or.inr (Or.inr (Int32.toInt_inj.mp (e.trans (by decide)))))
theorem mul2_64 {m : Int32} (h : 0 ≤ m.toInt ∧ m.toInt ≤ 99999) : ((2 : Int32) * m).toInt64 = (2 : Int64) * m.toInt64 := by
  apply Int64.toInt_inj.mp
  have e2 : (2 : Int32).toInt = 2 := by decide
  have e3 : (2 : Int64).toInt = 2 := by decide
  rw [t64, m32, m64, t64, e2, e3] <;> (try rw [t64]) <;> (try rw [e2]) <;> (try rw [e3]) <;> omega
theorem mul1_64 (m : Int32) : ((1 : Int32) * m).toInt64 = (1 : Int64) * m.toInt64 := by rw [Int32.one_mul, Int64.one_mul]
theorem Part_addBar (N : Nat) (M : sw_M) (hM : HR M) (q : Nat) (hq : sw_ok M q 5 = true) (P : PartS) (hQ : HPart M q P) (h : POk P) (h3 : P.kind = 3) (a b x y : Int64) (hx : Bd x) (hy : Bd y) (t : Int32) (ht : 0 ≤ t.toInt) :
    f_Part_addBar N q 3 x y t (hP M a b) = some (hP M (a + (dF x y P.m.toInt64 P.s.toInt64 (pqu P t)).1) (b + (dF x y P.m.toInt64 P.s.toInt64 (pqu P t)).2)) := by
  obtain ⟨-, -, -, -, -, q5, q6, q7, -⟩ := hQ
  have hT := (h.T h3).1
  have q7 := q7 h3
  have eq : pqu P t = (t / P.T) - (t / P.T) / (4 : Int32) * (4 : Int32) := if_neg (by rw [h3]; decide)
  have hq4 := i32_4 (qu_in ht hT)
  have hT0 : ¬ P.T ≤ 0 := fun e => by have := Int32.le_iff_toInt_le.mp e; rw [show (0 : Int32).toInt = 0 from by decide] at this; omega
  have e0 := D_pos (bd_b hx) (bd_b hy) (s_in h)
  have e1 := D_posS hx hy (s_in h)
  have e0a := ge1_of e0
  have e1a := ge1_of e1
  have k3 := ok_3 hM.1
  have o64 : (1 : Int64) * P.s.toInt64 = P.s.toInt64 := Int64.one_mul _
  unfold f_Part_addBar
  rw [hP_ok, hq, gd_T, hP_I, q7, if_neg hT0, gd_d (ne0_32 hT), ← eq]
  rw [← eq] at hq4
  rcases hq4 with e | e | e | e <;> rw [e] <;> unfold f_Part_addBar_20
  · rw [if_neg (by decide)]
    simp only [f_Part_addBar_35, f_Part_addBar_50, f_Part_addBar_66, f_Part_addBar_91, if_true, hP_ok, hq, gd_T, hP_I, q6, o64, e0a, f_Part_addBar_125, f_Part_addBar_151, f_Part_addBar_186, gd_d (ne0_of e0), q5, m_okL, k3, hP_a, hP_r, hP_w, show ¬ (2 : Int32) ≤ 0 from by decide, if_false, mul1_64, mul2_64 h.m]
    rfl
  · rw [if_pos (by decide)]
    simp only [f_Part_addBar_35, f_Part_addBar_50, f_Part_addBar_66, f_Part_addBar_91, if_true, hP_ok, hq, gd_T, hP_I, q6, o64, e1a, f_Part_addBar_125, f_Part_addBar_151, f_Part_addBar_186, gd_d (ne0_of e1), q5, m_okL, k3, hP_a, hP_r, hP_w, show ¬ (2 : Int32) ≤ 1 from by decide, show ¬ (1 : Int32) = 0 from by decide, if_false, mul1_64, mul2_64 h.m]
    rfl
  · rw [if_neg (by decide)]
    simp only [f_Part_addBar_35, f_Part_addBar_50, f_Part_addBar_66, f_Part_addBar_91, if_true, hP_ok, hq, gd_T, hP_I, q6, o64, e0a, f_Part_addBar_125, f_Part_addBar_151, f_Part_addBar_186, gd_d (ne0_of e0), q5, m_okL, k3, hP_a, hP_r, hP_w, show (2 : Int32) ≤ 2 from by decide, if_false, mul1_64, mul2_64 h.m]
    rfl
  · rw [if_pos (by decide)]
    simp only [f_Part_addBar_35, f_Part_addBar_50, f_Part_addBar_66, f_Part_addBar_91, if_true, hP_ok, hq, gd_T, hP_I, q6, o64, e1a, f_Part_addBar_125, f_Part_addBar_151, f_Part_addBar_186, gd_d (ne0_of e1), q5, m_okL, k3, hP_a, hP_r, hP_w, show (2 : Int32) ≤ 3 from by decide, show ¬ (1 : Int32) = 0 from by decide, if_false, mul1_64, mul2_64 h.m]
    rfl
theorem Part_addPull (N : Nat) (hN : 40 ≤ N) (M : sw_M) (hM : HR M) (q : Nat) (hq : sw_ok M q 5 = true) (P : PartS) (hQ : HPart M q P) (h : POk P) (a b x y : Int64) (hx : Bd x) (hy : Bd y) (t mass : Int32) (hm : rd_I M 3 5 = mass) (ht : 0 ≤ t.toInt ∧ t.toInt ≤ 240) :
    f_Part_addPull N q 3 x y t (hP M a b) = some (hP M (a + (pullOf P mass x y t).1) (b + (pullOf P mass x y t).2)) := by
  have hQ0 := hQ
  obtain ⟨q0, q1, q2, q3, q4, q5, q6, q7, q8⟩ := hQ
  have k3 := ok_3 hM.1
  have e0 := D_pos (bd_b hx) (bd_b hy) (s_in h)
  have e2 := pDD_pos h hx hy ht
  have e3 := prr_pos h x y
  have hs : f_Part_addPull N q 3 x y t (hP M a b) = f_Part_addPull_20 N q 3 x y t (pm P mass) (hP M a b) := by
    unfold f_Part_addPull
    rw [hP_ok, hq, gd_T, hP_ok, k3, gd_T, hP_I, hP_I, hP_I, q8, q5, hm]
    unfold pm
    cases P.sp
    · rfl
    · rfl
  rw [hs]
  unfold f_Part_addPull_20
  rw [hP_ok, hq, gd_T]
  have ex : (x - P.x.toInt64) - (P.u.toInt64 * t.toInt64) = pdx P x t := rfl
  have ey : (y - P.y.toInt64) - (P.v.toInt64 * t.toInt64) = pdy P y t := rfl
  have eD : ((pdx P x t * pdx P x t) + (pdy P y t * pdy P y t)) + (P.s.toInt64 * P.s.toInt64) = pDD P x y t := rfl
  simp only [hP_I, q0, q1, q2, q3, q4, q6, ex, ey, eD]
  rcases h.k with e | e | e | e | e
  · rw [e, if_neg (by decide), if_neg (by decide), if_neg (by decide), Part_addDrawn N M hM a b _ _ _ e2, bn_S]
    unfold pullOf
    rw [if_pos (Or.inl e)]
  · rw [e, if_pos (by decide), Part_addDrawn N M hM a b _ _ _ e0, bn_S]
    unfold pullOf f_Part_addPull_131
    rw [if_neg (by rw [e]; decide), if_neg (by rw [e]; decide), show pqu P t = 0 from if_pos e]
    unfold dF
    rw [if_pos (by decide)]
    simp only [show ¬ (0 : Int32) = 2 from by decide, if_false, Int64.one_mul]
  · rw [e, if_neg (by decide), if_pos (by decide), Part_root N hN, bn_S]
    simp only [hP_ok, hq, gd_T, hP_I, q6]
    refine (congrArg (fun z => z.bind (fun u7 => some u7)) (Part_addDrawn N M hM a b (pm P mass * x) (pm P mass * y) (prr P x y * prr P x y) e3)).trans ?_
    rw [bn_S]
    unfold pullOf
    rw [if_neg (by rw [e]; decide), if_pos e]
  · have hsp : ¬ P.sp = true := fun c => by have := h.sp c; rw [e] at this; exact absurd this (by decide)
    rw [e, if_neg (by decide), if_neg (by decide), if_pos (by decide), Part_addBar N M hM q hq P hQ0 h e a b x y hx hy t ht.1, bn_S]
    unfold pullOf
    rw [if_neg (by rw [e]; decide), if_neg (by rw [e]; decide), show pm P mass = P.m.toInt64 from if_neg hsp]
  · rw [e, if_neg (by decide), if_neg (by decide), if_neg (by decide), Part_addDrawn N M hM a b _ _ _ e2, bn_S]
    unfold pullOf
    rw [if_pos (Or.inr e)]
theorem Field_pullAt_13 (N : Nat) (hN : 40 ≤ N) (M : sw_M) (hM : HR M) (x y : Int64) (t mass : Int32) (P : Nat → PartS) (n : Nat) (hn : n ≤ 8) (hn2 : rd_I M 3 2 = nI n) (h : ∀ p, p < n → POk (P p) ∧ HPart M (hpa M p) (P p))
    (hm : rd_I M 3 5 = mass) (hx : Bd x) (hy : Bd y) (ht : 0 ≤ t.toInt ∧ t.toInt ≤ 240) : ∀ (d p j : Nat), p + d = n → d < j →
    f_Field_pullAt_13 N j 3 x y t (nI p) (hP M (pullN P mass x y t p).1 (pullN P mass x y t p).2) = some (hP M (pullN P mass x y t n).1 (pullN P mass x y t n).2) := by
  have k3 := ok_3 hM.1
  intro d
  induction d with
  | zero =>
    intro p j hp hj
    obtain ⟨j, rfl⟩ : ∃ i, j = i + 1 := ⟨j - 1, by omega⟩
    obtain rfl : p = n := by omega
    simp only [f_Field_pullAt_13, hP_ok, k3, gd_T, hP_I, hn2, nI_leI (show p < 2 ^ 31 by omega) (show p < 2 ^ 31 by omega), Nat.le_refl, if_true]
  | succ d ih =>
    intro p j hp hj
    obtain ⟨j, rfl⟩ : ∃ i, j = i + 1 := ⟨j - 1, by omega⟩
    have h1 := ih (p + 1) j (by omega) (by omega)
    have h2 := Part_addPull N hN M hM (hpa M p) (hpa_ok hM (by omega)) (P p) (h p (by omega)).2 (h p (by omega)).1 (pullN P mass x y t p).1 (pullN P mass x y t p).2 x y hx hy t mass hm ht
    have i8 : sw_ti (nI p) 8 = true := ti_n (by omega) (by decide)
    have c1 : (nI p).toNatClampNeg = p := cl_n (by omega)
    have n1 : nI p + 1 = nI (p + 1) := nI_add p 1
    have hl : sw_oka M (rd_R M 3 0) = true ∧ sw_len (rd_R M 3 0) = 8 ∧ (sw_ar M (rd_R M 3 0) 17 (nI p) || (sw_ar M (rd_R M 3 0) 18 (nI p) || sw_ar M (rd_R M 3 0) 19 (nI p))) = true ∧ ¬ hpa M p = 0 := by
      rcases hpa_in hM (show p < 8 by omega) with e | e <;> rw [e.1, e.2]
      · exact ⟨oa_4 hM.1, rfl, by rw [an_4_17, ar_4 hM.1, i8]; rfl, by omega⟩
      · exact ⟨oa_19 hM.1, rfl, by rw [an_19_17, ar_19 hM.1, i8]; rfl, by omega⟩
    simp only [f_Field_pullAt_13, hP_ok, k3, gd_T, hP_I, hn2, nI_leI (show n < 2 ^ 31 by omega) (show p < 2 ^ 31 by omega), show ¬ n ≤ p from by omega, if_false, hP_R, hP_ar, hP_oka, hl.1, hl.2.1, nI_leI (show 8 < 2 ^ 31 by omega) (show p < 2 ^ 31 by omega), show ¬ 8 ≤ p from by omega, hl.2.2.1, c1]
    rw [show rd_R M (rd_R M 3 0) p = hpa M p from rfl, if_neg hl.2.2.2, hpa_ok hM (show p < 8 by omega), gd_T, h2, bn_S]
    unfold f_Field_pullAt_56
    rw [n1]
    exact h1
/-- PULL of THE FIELD -/
theorem Field_pullAt (N : Nat) (hN : 40 ≤ N) (M : sw_M) (hM : HR M) (x y : Int64) (t mass : Int32) (P : Nat → PartS) (n : Nat) (hn : n ≤ 8) (hn2 : rd_I M 3 2 = nI n) (h : ∀ p, p < n → POk (P p) ∧ HPart M (hpa M p) (P p))
    (hm : rd_I M 3 5 = mass) (hx : Bd x) (hy : Bd y) (ht : 0 ≤ t.toInt ∧ t.toInt ≤ 240) :
    f_Field_pullAt N 3 x y t M = some (hP M (pullN P mass x y t n).1 (pullN P mass x y t n).2) := by
  unfold f_Field_pullAt
  rw [ok_3 hM.1, gd_T]
  exact Field_pullAt_13 N hN M hM x y t mass P n hn hn2 h hm hx hy ht n 0 N (by omega) (by omega)
