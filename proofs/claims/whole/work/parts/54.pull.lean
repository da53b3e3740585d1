/-! 54: the reference's PULL: the loop -/
theorem s_in {P : PartS} (h : POk P) : 1 ≤ P.s.toInt64.toInt ∧ P.s.toInt64.toInt ≤ 9999 := by rw [t64]; exact h.s
theorem bd_b {x : Int64} (h : Bd x) : -1100000000 ≤ x.toInt ∧ x.toInt ≤ 1100000000 := by unfold Bd at h; omega
theorem ne0_32 {a : Int32} (h : 1 ≤ a.toInt) : ¬ a = 0 := fun e => by rw [e] at h; exact absurd h (by decide)
theorem Model_pulls_229 (N : Nat) (k13 : Nat → Int64 → Int64 → Int32 → Int32 → Int32 → sw_M → Option sw_M) (M : sw_M) (hM : MR M) (a b x y : Int64) (t mass i : Int32) (b0 r : Int64) (hr : ¬ r * r = 0) :
    sw_gd [sw_ok (mP M a b) 80 12] (sw_gd [decide (¬ (r * r) = 0)] (f_Model_pulls_229 N k13 80 x y t mass i b0 r (wr_L (mP M a b) 80 37 ((rd_L (mP M a b) 80 37) - ((b0 * x) / (r * r))))))
    = k13 80 x y t mass (i + 1) (mP M (a - (b0 * x) / (r * r)) (b - (b0 * y) / (r * r))) := by
  unfold f_Model_pulls_229 f_Model_pulls_288
  rw [m_okL, mP_ok, ok_80 hM.1, gd_T, gd_T, gd_d hr, gd_d hr, mP_a, mP_r, mP_w]
theorem Model_pulls_45 (N : Nat) (hN : 40 ≤ N) (k13 : Nat → Int64 → Int64 → Int32 → Int32 → Int32 → sw_M → Option sw_M) (M : sw_M) (hM : MR M) (a b x y : Int64) (t mass : Int32) (p : Nat) (hp : p < 8) (P : PartS) (hP : P = mpart M p) (h : POk P)
    (hx : Bd x) (hy : Bd y) (ht : 0 ≤ t.toInt ∧ t.toInt ≤ 240) (b0 : Int64) (hb : b0 = pm P mass) :
    f_Model_pulls_45 N k13 80 x y t mass (nI p) b0 (mP M a b) = k13 80 x y t mass (nI (p + 1)) (mP M (a + (pullOf P mass x y t).1) (b + (pullOf P mass x y t).2)) := by
  have k1 := ok_80 hM.1
  have i1 : ∀ n, 16 ≤ n → n < 2 ^ 31 → sw_ti (nI p) n = true := fun n h1 h2 => ti_n (by omega) h2
  have i16 := i1 16 (by decide) (by decide)
  have c1 : (nI p).toNatClampNeg = p := cl_n (by omega)
  have n1 : nI p + 1 = nI (p + 1) := nI_add p 1
  have a1 := ar_81 hM.1 (nI p)
  have a2 := ar_82 hM.1 (nI p)
  have a3 := ar_83 hM.1 (nI p)
  have a4 := ar_84 hM.1 (nI p)
  have a5 := ar_85 hM.1 (nI p)
  have a8 := ar_88 hM.1 (nI p)
  have a9 := ar_89 hM.1 (nI p)
  have q1 : rd_I M 81 p = P.kind := by rw [hP]; rfl
  have q2 : rd_I M 82 p = P.x := by rw [hP]; rfl
  have q3 : rd_I M 83 p = P.y := by rw [hP]; rfl
  have q4 : rd_I M 84 p = P.u := by rw [hP]; rfl
  have q5 : rd_I M 85 p = P.v := by rw [hP]; rfl
  have q8 : rd_I M 88 p = P.s := by rw [hP]; rfl
  have q9 : rd_I M 89 p = P.T := by rw [hP]; rfl
  unfold f_Model_pulls_45
  simp only [mP_ok, mP_R, mP_ar, mP_I, k1, mr_1 hM, mr_8 hM, a1, a8, i16, c1, q1, q8, gd_T]
  have ex : (x - P.x.toInt64) - (P.u.toInt64 * t.toInt64) = pdx P x t := rfl
  have ey : (y - P.y.toInt64) - (P.v.toInt64 * t.toInt64) = pdy P y t := rfl
  have eD : ((pdx P x t * pdx P x t) + (pdy P y t * pdy P y t)) + (P.s.toInt64 * P.s.toInt64) = pDD P x y t := rfl
  have er : s_root (x * x + y * y) + P.s.toInt64 = prr P x y := rfl
  have e0 := D_pos (bd_b hx) (bd_b hy) (s_in h)
  have e1 := D_posS hx hy (s_in h)
  have e2 := pDD_pos h hx hy ht
  have e3 := prr_pos h x y
  rcases h.k with e | e | e | e | e
  · simp only [e, if_true, f_Model_pulls_78, f_Model_pulls_147, f_Model_pulls_288, mP_ok, mP_R, mP_ar, mP_I, k1, mr_2 hM, mr_3 hM, mr_4 hM, mr_5 hM, a2, a3, a4, a5, i16, c1, q2, q3, q4, q5, gd_T, ex, ey, eD]
    rw [gd_d (ne0_of e2), mP_a, mP_r, mP_w, n1, sn64 a, sn64 b, hb]
    unfold pullOf
    rw [if_pos (Or.inl e)]
  · rw [e, if_neg (by decide), if_neg (by decide), if_neg (by decide), if_pos rfl]
    unfold f_Model_pulls_285 f_Model_pulls_288
    rw [mP_ok, k1, gd_T, Model_flat N M hM a b x y b0 P.s.toInt64 0 e0 e1, bn_S, n1]
    unfold pullOf
    rw [if_neg (by rw [e]; decide), if_neg (by rw [e]; decide), hb, show pqu P t = 0 from if_pos e]
  · rw [e, if_neg (by decide), if_neg (by decide), if_pos rfl, Model_root N hN, bn_S]
    refine (Model_pulls_229 N k13 M hM a b x y t mass (nI p) b0 (prr P x y) (ne0_of e3)).trans ?_
    rw [n1, sn64 a, sn64 b, hb]
    unfold pullOf
    rw [if_neg (by rw [e]; decide), if_pos e]
  · have hT := (h.T e).1
    rw [e, if_neg (by decide), if_neg (by decide), if_neg (by decide), if_neg (by decide)]
    simp only [mr_9 hM, a9, i16, c1, q9, gd_T]
    rw [gd_d (ne0_32 hT)]
    unfold f_Model_pulls_285 f_Model_pulls_288
    rw [mP_ok, k1, gd_T, Model_flat N M hM a b x y b0 P.s.toInt64 _ e0 e1, bn_S, n1]
    unfold pullOf
    rw [if_neg (by rw [e]; decide), if_neg (by rw [e]; decide), hb, show pqu P t = _ from if_neg (by rw [e]; decide)]
  · rw [e, if_neg (by decide), if_pos rfl]
    simp only [f_Model_pulls_78, f_Model_pulls_147, f_Model_pulls_288, mP_ok, mP_R, mP_ar, mP_I, k1, mr_2 hM, mr_3 hM, mr_4 hM, mr_5 hM, a2, a3, a4, a5, i16, c1, q2, q3, q4, q5, gd_T, ex, ey, eD]
    rw [gd_d (ne0_of e2), mP_a, mP_r, mP_w, n1, sn64 a, sn64 b, hb]
    unfold pullOf
    rw [if_pos (Or.inr e)]
theorem Model_pulls_13 (N : Nat) (hN : 40 ≤ N) (M : sw_M) (hM : MR M) (x y : Int64) (t mass : Int32) (n : Nat) (hn : n ≤ 8) (hn2 : rd_I M 80 10 = nI n) (h : ∀ p, p < n → POk (mpart M p))
    (hx : Bd x) (hy : Bd y) (ht : 0 ≤ t.toInt ∧ t.toInt ≤ 240) : ∀ (d p j : Nat), p + d = n → d < j →
    f_Model_pulls_13 N j 80 x y t mass (nI p) (mP M (pullN (mpart M) mass x y t p).1 (pullN (mpart M) mass x y t p).2) = some (mP M (pullN (mpart M) mass x y t n).1 (pullN (mpart M) mass x y t n).2) := by
  have k1 := ok_80 hM.1
  intro d
  induction d with
  | zero =>
    intro p j hp hj
    obtain ⟨j, rfl⟩ : ∃ i, j = i + 1 := ⟨j - 1, by omega⟩
    obtain rfl : p = n := by omega
    simp only [f_Model_pulls_13, mP_ok, k1, gd_T, mP_I, hn2, nI_leI (show p < 2 ^ 31 by omega) (show p < 2 ^ 31 by omega), Nat.le_refl, if_true]
  | succ d ih =>
    intro p j hp hj
    obtain ⟨j, rfl⟩ : ∃ i, j = i + 1 := ⟨j - 1, by omega⟩
    have h1 := ih (p + 1) j (by omega) (by omega)
    have h2 := fun b0 hb => Model_pulls_45 N hN (f_Model_pulls_13 N j) M hM (pullN (mpart M) mass x y t p).1 (pullN (mpart M) mass x y t p).2 x y t mass p (by omega) (mpart M p) rfl (h p (by omega)) hx hy ht b0 hb
    have i16 : sw_ti (nI p) 16 = true := ti_n (by omega) (by decide)
    have c1 : (nI p).toNatClampNeg = p := cl_n (by omega)
    simp only [f_Model_pulls_13, mP_ok, k1, gd_T, mP_I, hn2, nI_leI (show n < 2 ^ 31 by omega) (show p < 2 ^ 31 by omega), show ¬ n ≤ p from by omega, if_false, mP_R, mP_ar, mr_6 hM, ar_86 hM.1, i16, c1]
    split
    · rename_i e
      rw [h2 _ (by unfold pm; rw [if_pos (show (mpart M p).sp = true from decide_eq_true e)])]
      exact h1
    · rename_i e
      rw [h2 _ (by unfold pm; rw [if_neg (show ¬ (mpart M p).sp = true from by rw [show (mpart M p).sp = false from decide_eq_false e]; decide)]; rfl)]
      exact h1
/-- the reference's PULL -/
theorem Model_pulls (N : Nat) (hN : 40 ≤ N) (M : sw_M) (hM : MR M) (x y : Int64) (t mass : Int32) (n : Nat) (hn : n ≤ 8) (hn2 : rd_I M 80 10 = nI n) (h : ∀ p, p < n → POk (mpart M p))
    (hx : Bd x) (hy : Bd y) (ht : 0 ≤ t.toInt ∧ t.toInt ≤ 240) :
    f_Model_pulls N 80 x y t mass M = some (mP M (pullN (mpart M) mass x y t n).1 (pullN (mpart M) mass x y t n).2) := by
  unfold f_Model_pulls
  rw [ok_80 hM.1, gd_T]
  exact Model_pulls_13 N hN M hM x y t mass n hn hn2 h hx hy ht n 0 N (by omega) (by omega)
