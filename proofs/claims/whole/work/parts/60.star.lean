/-! 60: STEPS on both sides -/
noncomputable def su (P : Nat → PartS) (n : Nat) (mass : Int32) (t : Int32) (x y u : Int64) : Int64 := u + (pullN P mass x y t n).1
noncomputable def sv (P : Nat → PartS) (n : Nat) (mass : Int32) (t : Int32) (x y v : Int64) : Int64 := v + (pullN P mass x y t n).2
/-- the cells of the reference's walk -/
def Aw (a k : Nat) : Prop := a = 80 ∧ 37 ≤ k ∧ k ≤ 42
theorem Fr_mP {A : Nat → Nat → Prop} {M W : sw_M} (h : Fr A M W) (hA : ∀ a k, Aw a k → A a k) (a b : Int64) : Fr A M (mP W a b) :=
  (h.wL 80 37 a (hA _ _ (by unfold Aw; omega))).wL 80 38 b (hA _ _ (by unfold Aw; omega))
theorem Model_steps (N : Nat) (hN : 40 ≤ N) (M : sw_M) (hM : MR M) (n : Nat) (hF : FR M n) (t mass : Int32) (ht : 0 ≤ t.toInt ∧ t.toInt ≤ 240) (x y u v : Int64) (h1 : rd_L M 80 39 = x) (h2 : rd_L M 80 40 = y) (h3 : rd_L M 80 41 = u) (h4 : rd_L M 80 42 = v) (hx : Bd x) (hy : Bd y) :
    ∃ W, f_Model_steps N 80 t mass M = some W ∧ Fr Aw M W ∧ rd_L W 80 39 = x + su (mpart M) n mass t x y u ∧ rd_L W 80 40 = y + sv (mpart M) n mass t x y v ∧ rd_L W 80 41 = su (mpart M) n mass t x y u ∧ rd_L W 80 42 = sv (mpart M) n mass t x y v := by
  unfold f_Model_steps
  have k1 := ok_80 hM.1
  rw [k1, gd_T, h1, h2, Model_pulls N hN M hM x y t mass n hF.1 hF.2.1 (fun p hp => (hF.2.2.2 p hp).1) hx hy ht, bn_S, mP_ok, k1, gd_T]
  have e3 : rd_L (mP M (pullN (mpart M) mass x y t n).1 (pullN (mpart M) mass x y t n).2) 80 41 = u := h3
  have e4 : rd_L M 80 42 = v := h4
  refine ⟨_, rfl, ?_, ?_, ?_, ?_, ?_⟩
  · exact ((((Fr_mP (Fr.refl Aw M) (fun _ _ c => c) _ _).wL _ _ _ (by unfold Aw; omega)).wL _ _ _ (by unfold Aw; omega)).wL _ _ _ (by unfold Aw; omega)).wL _ _ _ (by unfold Aw; omega)
  · show rd_L M 80 39 + (rd_L M 80 41 + _) = _
    rw [h1, h3]; rfl
  · show rd_L M 80 40 + (rd_L M 80 42 + _) = _
    rw [h2, h4]; rfl
  · show (rd_L M 80 41 + _) = _
    rw [h3]; rfl
  · show (rd_L M 80 42 + _) = _
    rw [h4]; rfl
/-- the cells of a star at q -/
def As (q a k : Nat) : Prop := (a = 3 ∧ (k = 6 ∨ k = 7)) ∨ (a = q ∧ k ≤ 5)
def St (M : sw_M) (q : Nat) (x y u v : Int64) (t g : Int32) : Prop := rd_L M q 0 = x ∧ rd_L M q 1 = y ∧ rd_L M q 2 = u ∧ rd_L M q 3 = v ∧ rd_I M q 4 = t ∧ rd_I M q 5 = g
theorem Fr_hP {A : Nat → Nat → Prop} {M W : sw_M} (h : Fr A M W) (hA : A 3 6 ∧ A 3 7) (a b : Int64) : Fr A M (hP W a b) := (h.wL 3 6 a hA.1).wL 3 7 b hA.2
theorem hP_L (M : sw_M) (a b : Int64) (q k : Nat) (hq : q ≠ 3) : rd_L (hP M a b) q k = rd_L M q k := by
  unfold hP
  rw [m_LL, if_neg (fun e => hq e.1), m_LL, if_neg (fun e => hq e.1)]
theorem Star_step (N : Nat) (hN : 40 ≤ N) (M : sw_M) (hH : HR M) (n : Nat) (hF : FR M n) (q : Nat) (hq : sw_ok M q 8 = true) (hq3 : q ≠ 3) (x y u v : Int64) (t g mass : Int32) (hm : rd_I M 3 5 = mass) (hs : St M q x y u v t g) (hg : g ≠ 1) (ht : 0 ≤ t.toInt ∧ t.toInt < 240) (hx : Bd x) (hy : Bd y) :
    ∃ W, f_Star_step N q 3 M = some (1, W) ∧ Fr (As q) M W ∧ St W q (x + su (mpart M) n mass t x y u) (y + sv (mpart M) n mass t x y v) (su (mpart M) n mass t x y u) (sv (mpart M) n mass t x y v) (t + 1) (bz (bey (x + su (mpart M) n mass t x y u) (y + sv (mpart M) n mass t x y v))) := by
  obtain ⟨s0, s1, s2, s3, s4, s5⟩ := hs
  have k3 := ok_3 hH.1
  have htl : t < (240 : Int32) := Int32.lt_iff_toInt_lt.mpr (by rw [show (240 : Int32).toInt = 240 from by decide]; omega)
  unfold f_Star_step
  rw [hq, gd_T, s5, if_neg hg, s4, if_pos htl, k3, gd_T, s0, s1, Field_pullAt N hN M hH x y t mass (mpart M) n hF.1 hF.2.2.1 hF.2.2.2 hm hx hy (by omega), bn_S, hP_ok, hq, gd_T, hP_ok, k3, gd_T]
  simp only [hP_L _ _ _ q _ hq3, s0, s1, s2, s3, m_LL, hP_a, hP_b, show ¬ 3 = q from fun e => hq3 e.symm, Nat.reduceEqDiff, and_false, and_true, false_and, if_false, if_true]
  unfold f_Star_step_88
  simp only [m_okL, hP_ok, hq, gd_T]
  rw [Star_isBeyond N _ q (by simp only [m_okL, m_okI, hP_ok, hq]), bn_S]
  simp only [m_LI, m_LL, m_II, m_IL, m_okI, m_okL, hP_I, hP_ok, hq, gd_T, s4, Nat.reduceEqDiff, and_false, and_true, false_and, if_false, if_true, bz_0]
  have hfr : ∀ a b c d e f i j, Fr (As q) M (wr_I (wr_I (wr_L (wr_L (wr_L (wr_L (hP M a b) q 2 c) q 3 d) q 0 e) q 1 f) q 4 i) q 5 j) := fun a b c d e f i j =>
    ((((((Fr_hP (Fr.refl (As q) M) ⟨by unfold As; omega, by unfold As; omega⟩ a b).wL _ _ _ (by unfold As; omega)).wL _ _ _ (by unfold As; omega)).wL _ _ _ (by unfold As; omega)).wL _ _ _ (by unfold As; omega)).wI _ _ _ (by unfold As; omega)).wI _ _ _ (by unfold As; omega)
  have hb : ∀ b : Bool, ∀ A B : Option (Int32 × sw_M), (if b = false then A else B) = if b = true then B else A := fun b A B => by cases b <;> rfl
  rw [hb]
  show ∃ W, (if bey (x + su (mpart M) n mass t x y u) (y + sv (mpart M) n mass t x y v) = true then _ else _) = some (1, W) ∧ _
  cases hbe : bey (x + su (mpart M) n mass t x y u) (y + sv (mpart M) n mass t x y v)
  · refine ⟨_, if_neg (by decide), hfr _ _ _ _ _ _ _ _, ?_⟩
    unfold St
    simp only [m_LI, m_LL, m_II, m_IL, Nat.reduceEqDiff, and_false, and_true, false_and, if_false, if_true]
    refine ⟨?_, ?_, ?_, ?_, ?_, ?_⟩ <;> first | rfl | trivial
  · refine ⟨_, if_pos rfl, hfr _ _ _ _ _ _ _ _, ?_⟩
    unfold St
    simp only [m_LI, m_LL, m_II, m_IL, Nat.reduceEqDiff, and_false, and_true, false_and, if_false, if_true]
    refine ⟨?_, ?_, ?_, ?_, ?_, ?_⟩ <;> first | rfl | trivial
