/-! 59: what stays as it was; STEPS on both sides -/
def Fr (A : Nat → Nat → Prop) (M W : sw_M) : Prop := (∀ a k, ¬ A a k → rd_I W a k = rd_I M a k ∧ rd_L W a k = rd_L M a k) ∧ W.2.2 = M.2.2
theorem Fr.refl (A : Nat → Nat → Prop) (M : sw_M) : Fr A M M := ⟨fun _ _ _ => ⟨rfl, rfl⟩, rfl⟩
theorem Fr.trans {A : Nat → Nat → Prop} {M W V : sw_M} (h : Fr A M W) (g : Fr A W V) : Fr A M V :=
  ⟨fun a k c => ⟨(g.1 a k c).1.trans (h.1 a k c).1, (g.1 a k c).2.trans (h.1 a k c).2⟩, g.2.trans h.2⟩
theorem Fr.mono {A B : Nat → Nat → Prop} {M W : sw_M} (h : Fr A M W) (hAB : ∀ a k, A a k → B a k) : Fr B M W :=
  ⟨fun a k c => h.1 a k (fun d => c (hAB a k d)), h.2⟩
theorem Fr.wI {A : Nat → Nat → Prop} {M W : sw_M} (h : Fr A M W) (q k : Nat) (v : Int32) (hA : A q k) : Fr A M (wr_I W q k v) := by
  refine ⟨fun a j c => ⟨?_, (h.1 a j c).2⟩, h.2⟩
  rw [m_II, if_neg (fun e => c (by rw [e.1, e.2]; exact hA))]
  exact (h.1 a j c).1
theorem Fr.wL {A : Nat → Nat → Prop} {M W : sw_M} (h : Fr A M W) (q k : Nat) (v : Int64) (hA : A q k) : Fr A M (wr_L W q k v) := by
  refine ⟨fun a j c => ⟨(h.1 a j c).1, ?_⟩, h.2⟩
  rw [m_LL, if_neg (fun e => c (by rw [e.1, e.2]; exact hA))]
  exact (h.1 a j c).2
theorem Fr.I {A : Nat → Nat → Prop} {M W : sw_M} (h : Fr A M W) (a k : Nat) (c : ¬ A a k) : rd_I W a k = rd_I M a k := (h.1 a k c).1
theorem Fr.L {A : Nat → Nat → Prop} {M W : sw_M} (h : Fr A M W) (a k : Nat) (c : ¬ A a k) : rd_L W a k = rd_L M a k := (h.1 a k c).2
theorem Fr.R {A : Nat → Nat → Prop} {M W : sw_M} (h : Fr A M W) (a k : Nat) : rd_R W a k = rd_R M a k := by unfold rd_R; rw [h.2]
theorem Fr.N {A : Nat → Nat → Prop} {M W : sw_M} (h : Fr A M W) : rd_N W = rd_N M := by unfold rd_N; rw [h.2]
theorem Fr.ok {A : Nat → Nat → Prop} {M W : sw_M} (h : Fr A M W) (q kd : Nat) : sw_ok W q kd = sw_ok M q kd := by unfold sw_ok; rw [h.N]
theorem Fr.oka {A : Nat → Nat → Prop} {M W : sw_M} (h : Fr A M W) (q : Nat) : sw_oka W q = sw_oka M q := by unfold sw_oka; rw [h.N]
theorem Fr.ar {A : Nat → Nat → Prop} {M W : sw_M} (h : Fr A M W) (q kd : Nat) (i : Int32) : sw_ar W q kd i = sw_ar M q kd i := by unfold sw_ar; rw [h.N]
theorem Fr.mr {A : Nat → Nat → Prop} {M W : sw_M} (h : Fr A M W) (g : MR M) : MR W := ⟨by rw [h.N]; exact g.1, fun k hk => by rw [h.R]; exact g.2 k hk⟩
theorem Fr.hr {A : Nat → Nat → Prop} {M W : sw_M} (h : Fr A M W) (g : HR M) : HR W := by
  unfold HR
  simp only [h.R, h.N]
  exact g
def bey (x y : Int64) : Bool := decide ((20000 : Int64) < x) || (decide (x < (-20000 : Int64)) || (decide ((20000 : Int64) < y) || decide (y < (-20000 : Int64))))
theorem bey_ite {α : Type} (x y : Int64) (A B : α) : (if (20000 : Int64) < x then A else if x < (-20000 : Int64) then A else if (20000 : Int64) < y then A else if (-20000 : Int64) ≤ y then B else A) = if bey x y = true then A else B := by
  unfold bey
  by_cases h1 : (20000 : Int64) < x
  · rw [if_pos h1]; simp [h1]
  · rw [if_neg h1]
    by_cases h2 : x < (-20000 : Int64)
    · rw [if_pos h2]; simp [h2]
    · rw [if_neg h2]
      by_cases h3 : (20000 : Int64) < y
      · rw [if_pos h3]; simp [h3]
      · rw [if_neg h3]
        by_cases h4 : (-20000 : Int64) ≤ y
        · rw [if_pos h4]; simp [h1, h2, h3, Int64.not_lt.mpr h4]
        · rw [if_neg h4]; simp [Int64.not_le.mp h4]
def bz (b : Bool) : Int32 := if b = true then 1 else 0
theorem bz_0 (b : Bool) : (bz b = 0) = (b = false) := by cases b <;> simp [bz]
theorem Model_isGone (N : Nat) (M : sw_M) (hM : MR M) : f_Model_isGone N 80 M = some (bz (bey (rd_L M 80 39) (rd_L M 80 40)), M) := by
  unfold f_Model_isGone f_Model_isGone_44
  rw [ok_80 hM.1, gd_T, bey_ite]
  cases bey (rd_L M 80 39) (rd_L M 80 40) <;> rfl
theorem Star_isBeyond (N : Nat) (M : sw_M) (q : Nat) (hq : sw_ok M q 8 = true) : f_Star_isBeyond N q M = some (bz (bey (rd_L M q 0) (rd_L M q 1)), M) := by
  unfold f_Star_isBeyond f_Star_isBeyond_44
  rw [hq, gd_T, bey_ite]
  cases bey (rd_L M q 0) (rd_L M q 1) <;> rfl
/-- THE FIELD of both sides: n PARTS -/
def FR (M : sw_M) (n : Nat) : Prop := n ≤ 8 ∧ rd_I M 80 10 = nI n ∧ rd_I M 3 2 = nI n ∧ (∀ p, p < n → POk (mpart M p) ∧ HPart M (hpa M p) (mpart M p))
/-- cells of THE FIELD -/
def Cf (a k : Nat) : Prop := (a = 80 ∧ (k = 10 ∨ k = 13)) ∨ (a = 3 ∧ k = 2) ∨ (9 ≤ a ∧ a ≤ 16) ∨ (24 ≤ a ∧ a ≤ 31) ∨ (81 ≤ a ∧ a ≤ 89)
theorem mpart_fr {A : Nat → Nat → Prop} {M W : sw_M} (h : Fr A M W) (hA : ∀ a k, Cf a k → ¬ A a k) : mpart W = mpart M := by
  funext p
  have g : ∀ a k, Cf a k → rd_I W a k = rd_I M a k := fun a k c => h.I a k (hA a k c)
  unfold mpart
  rw [g 81 p (by unfold Cf; omega), g 82 p (by unfold Cf; omega), g 83 p (by unfold Cf; omega), g 84 p (by unfold Cf; omega), g 85 p (by unfold Cf; omega), g 86 p (by unfold Cf; omega), g 88 p (by unfold Cf; omega), g 89 p (by unfold Cf; omega), g 80 13 (by unfold Cf; omega)]
theorem hpa_fr {A : Nat → Nat → Prop} {M W : sw_M} (h : Fr A M W) : hpa W = hpa M := by
  funext i
  unfold hpa
  rw [h.R, h.R]
theorem FR_fr {A : Nat → Nat → Prop} {M W : sw_M} {n : Nat} (h : Fr A M W) (hA : ∀ a k, Cf a k → ¬ A a k) (hM : HR M) (g : FR M n) : FR W n := by
  have e : ∀ a k, Cf a k → rd_I W a k = rd_I M a k := fun a k c => h.I a k (hA a k c)
  obtain ⟨g1, g2, g3, g4⟩ := g
  refine ⟨g1, (e 80 10 (by unfold Cf; omega)).trans g2, (e 3 2 (by unfold Cf; omega)).trans g3, fun p hp => ?_⟩
  rw [mpart_fr h hA, hpa_fr h]
  refine ⟨(g4 p hp).1, ?_⟩
  have hc : ∀ k, Cf (hpa M p) k := fun k => by
    rcases hpa_in hM (show p < 8 by omega) with c | c <;> rw [c.2] <;> unfold Cf <;> omega
  unfold HPart
  simp only [e _ _ (hc _)]
  exact (g4 p hp).2
