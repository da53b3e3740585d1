/-! 61: a STEP back on both sides -/
theorem FR_wL {M : sw_M} {n : Nat} (q k : Nat) (v : Int64) (hF : FR M n) : FR (wr_L M q k v) n := hF
theorem FR_wI {M : sw_M} {n : Nat} (q k : Nat) (v : Int32) (hH : HR M) (hq : ¬ Cf q k) (hF : FR M n) : FR (wr_I M q k v) n :=
  FR_fr (A := fun a j => a = q ∧ j = k) ((Fr.refl _ M).wI q k v ⟨rfl, rfl⟩) (fun a j c e => hq (by rw [← e.1, ← e.2]; exact c)) hH hF
theorem mpart_wI {M : sw_M} (q k : Nat) (v : Int32) (hq : ¬ Cf q k) : mpart (wr_I M q k v) = mpart M :=
  mpart_fr (A := fun a j => a = q ∧ j = k) ((Fr.refl _ M).wI q k v ⟨rfl, rfl⟩) (fun a j c e => hq (by rw [← e.1, ← e.2]; exact c))
theorem Star_stepBack (N : Nat) (hN : 40 ≤ N) (M : sw_M) (hH : HR M) (n : Nat) (hF : FR M n) (q : Nat) (hq : sw_ok M q 8 = true) (hqf : ∀ k, ¬ Cf q k) (hq3 : q ≠ 3) (x y u v : Int64) (t g mass : Int32) (hm : rd_I M 3 5 = mass) (hs : St M q x y u v t g) (hg : g ≠ -1) (ht : 0 < t.toInt ∧ t.toInt ≤ 240) (hx : Bd (x - u)) (hy : Bd (y - v)) :
    ∃ W, f_Star_stepBack N q 3 M = some (1, W) ∧ Fr (As q) M W ∧ St W q (x - u) (y - v) (u - (pullN (mpart M) mass (x - u) (y - v) (t - 1) n).1) (v - (pullN (mpart M) mass (x - u) (y - v) (t - 1) n).2) (t - 1) (if bey (x - u) (y - v) = true then -1 else 0) := by
  obtain ⟨s0, s1, s2, s3, s4, s5⟩ := hs
  have k3 := ok_3 hH.1
  have htl : 0 < t := Int32.lt_iff_toInt_lt.mpr (by rw [show (0 : Int32).toInt = 0 from by decide]; omega)
  have ht1 : 0 ≤ (t - 1).toInt ∧ (t - 1).toInt ≤ 240 := by
    have e : (1 : Int32).toInt = 1 := by decide
    rw [s32] <;> rw [e] <;> omega
  unfold f_Star_stepBack
  rw [hq, gd_T, s5, if_neg hg, s4, if_pos htl]
  simp only [s0, s1, s2, s3, s4, m_LL, m_IL, m_II, m_LI, Nat.reduceEqDiff, and_false, and_true, false_and, if_false, if_true, m_okI, m_okL, k3, gd_T]
  have hF1 : FR (wr_I (wr_L (wr_L M q 0 (x - u)) q 1 (y - v)) q 4 (t - 1)) n := FR_wI (M := wr_L (wr_L M q 0 (x - u)) q 1 (y - v)) q 4 (t - 1) hH (hqf 4) (FR_wL q 1 _ (FR_wL q 0 _ hF))
  have hmp : mpart (wr_I (wr_L (wr_L M q 0 (x - u)) q 1 (y - v)) q 4 (t - 1)) = mpart M := mpart_wI (M := wr_L (wr_L M q 0 (x - u)) q 1 (y - v)) q 4 (t - 1) (hqf 4)
  have hm1 : rd_I (wr_I (wr_L (wr_L M q 0 (x - u)) q 1 (y - v)) q 4 (t - 1)) 3 5 = mass := by rw [m_II, if_neg (fun e => hq3 e.1.symm)]; exact hm
  have hpu := Field_pullAt N hN (wr_I (wr_L (wr_L M q 0 (x - u)) q 1 (y - v)) q 4 (t - 1)) hH (x - u) (y - v) (t - 1) mass (mpart M) n hF1.1 hF1.2.2.1 (by have := hF1.2.2.2; rw [hmp] at this; exact this) hm1 hx hy ht1
  rw [hpu, bn_S]
  simp only [hP_ok, m_okI, m_okL, hq, k3, gd_T, hP_L _ _ _ q _ hq3, hP_a, hP_b, m_LL, m_LI, s2, s3, show ¬ 3 = q from fun e => hq3 e.symm, Nat.reduceEqDiff, and_false, and_true, false_and, if_false, if_true]
  unfold f_Star_stepBack_95
  simp only [m_okL, m_okI, hP_ok, hq, gd_T]
  rw [Star_isBeyond N _ q (by simp only [m_okL, m_okI, hP_ok, hq]), bn_S]
  simp only [hP_L _ _ _ q _ hq3, m_LI, m_LL, m_okI, m_okL, hP_ok, hq, gd_T, Nat.reduceEqDiff, and_false, and_true, false_and, if_false, if_true, bz_0]
  have hfr : ∀ a b c d e f i j, Fr (As q) M (wr_I (wr_L (wr_L (hP (wr_I (wr_L (wr_L M q 0 c) q 1 d) q 4 i) a b) q 2 e) q 3 f) q 5 j) := fun a b c d e f i j =>
    (((Fr_hP ((((Fr.refl (As q) M).wL _ _ _ (by unfold As; omega)).wL _ _ _ (by unfold As; omega)).wI _ _ _ (by unfold As; omega)) ⟨by unfold As; omega, by unfold As; omega⟩ a b).wL _ _ _ (by unfold As; omega)).wL _ _ _ (by unfold As; omega)).wI _ _ _ (by unfold As; omega)
  have hb : ∀ b : Bool, ∀ A B : Option (Int32 × sw_M), (if b = false then A else B) = if b = true then B else A := fun b A B => by cases b <;> rfl
  rw [hb]
  cases hbe : bey (x - u) (y - v)
  · refine ⟨_, if_neg (by decide), hfr _ _ _ _ _ _ _ _, ?_⟩
    unfold St
    simp only [hP_L _ _ _ q _ hq3, hP_I, m_LI, m_LL, m_II, m_IL, Nat.reduceEqDiff, and_false, and_true, false_and, if_false, if_true]
    refine ⟨?_, ?_, ?_, ?_, ?_, ?_⟩ <;> first | rfl | trivial
  · refine ⟨_, if_pos rfl, hfr _ _ _ _ _ _ _ _, ?_⟩
    unfold St
    simp only [hP_L _ _ _ q _ hq3, hP_I, m_LI, m_LL, m_II, m_IL, Nat.reduceEqDiff, and_false, and_true, false_and, if_false, if_true]
