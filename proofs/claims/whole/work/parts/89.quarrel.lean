/-! 89: QUARREL, by itself -/
theorem x_and (a b : Nat) : nI a &&& nI b = nI (a &&& b) := by
  apply Int32.toBitVec_inj.1
  show BitVec.ofNat 32 a &&& BitVec.ofNat 32 b = BitVec.ofNat 32 (a &&& b)
  apply BitVec.eq_of_getLsbD_eq
  intro i hi
  simp [hi]
theorem x_xor (a b : Nat) : nI a ^^^ nI b = nI (a ^^^ b) := by
  apply Int32.toBitVec_inj.1
  show BitVec.ofNat 32 a ^^^ BitVec.ofNat 32 b = BitVec.ofNat 32 (a ^^^ b)
  apply BitVec.eq_of_getLsbD_eq
  intro i hi
  simp [hi]
theorem x_m1 : (-1 : Int32).toBitVec = BitVec.allOnes 32 := by decide
/-- what of s is not in c -/
theorem x_out {s c : Nat} (hs : s < 2 ^ 31) : (nI s &&& (nI c ^^^ (-1)) = 0) ↔ ∀ i, i < 32 → s.testBit i = true → c.testBit i = true := by
  rw [← Int32.toBitVec_inj]
  have e : (nI s &&& (nI c ^^^ (-1))).toBitVec = BitVec.ofNat 32 s &&& (BitVec.ofNat 32 c ^^^ BitVec.allOnes 32) := by
    rw [← x_m1]
    rfl
  rw [e, show (0 : Int32).toBitVec = 0#32 from rfl]
  constructor
  · intro h i hi hsi
    have h1 := congrArg (fun x => x.getLsbD i) h
    simp only [BitVec.getLsbD_and, BitVec.getLsbD_ofNat, BitVec.getLsbD_xor, BitVec.getLsbD_allOnes, hi, hsi, decide_true, Bool.true_and, BitVec.getLsbD_zero, Nat.zero_testBit] at h1
    cases hc : c.testBit i
    · rw [hc] at h1
      cases h1
    · rfl
  · intro h
    apply BitVec.eq_of_getLsbD_eq
    intro i hi
    simp only [BitVec.getLsbD_and, BitVec.getLsbD_ofNat, BitVec.getLsbD_xor, BitVec.getLsbD_allOnes, hi, decide_true, Bool.true_and, BitVec.getLsbD_zero, Nat.zero_testBit]
    cases hsi : s.testBit i
    · rfl
    · rw [h i hi hsi]
      rfl
/-- a set without one of its members -/
def clr (s k : Nat) : Nat := bN (fun i => s.testBit i && !(decide (i = k))) 10
theorem clr_t (s k i : Nat) (hs : s < 1024) : (clr s k).testBit i = (s.testBit i && !(decide (i = k))) := by
  unfold clr
  rw [bN_t]
  by_cases h : i < 10
  · simp [h]
  · have : s.testBit i = false := Nat.testBit_lt_two_pow (Nat.lt_of_lt_of_le hs (Nat.pow_le_pow_right (by decide) (by omega) : 2 ^ 10 ≤ 2 ^ i))
    simp [h, this]
theorem clr_lt (s k : Nat) : clr s k < 1024 := bN_lt _ 10
theorem x_clr {s k : Nat} (hs : s < 1024) (hk : k < 10) : nI s &&& (((1 : Int32) <<< (nI k &&& 31)) ^^^ (-1)) = nI (clr s k) := by
  rw [x_shl (by omega)]
  apply Int32.toBitVec_inj.1
  have e : (nI s &&& (nI (2 ^ k) ^^^ (-1))).toBitVec = BitVec.ofNat 32 s &&& (BitVec.ofNat 32 (2 ^ k) ^^^ BitVec.allOnes 32) := by
    rw [← x_m1]
    rfl
  rw [e]
  show _ = BitVec.ofNat 32 (clr s k)
  apply BitVec.eq_of_getLsbD_eq
  intro i hi
  simp only [BitVec.getLsbD_and, BitVec.getLsbD_ofNat, BitVec.getLsbD_xor, BitVec.getLsbD_allOnes, hi, decide_true, Bool.true_and, clr_t s k i hs, Nat.testBit_two_pow]
  by_cases h : i = k
  · simp [h]
  · have : ¬ k = i := fun e => h e.symm
    simp [h, this]
theorem clr_xor {s b : Nat} (hs : s < 1024) (hb : s.testBit b = true) : s ^^^ 2 ^ b = clr s b := by
  apply Nat.eq_of_testBit_eq
  intro i
  rw [Nat.testBit_xor, Nat.testBit_two_pow, clr_t s b i hs]
  by_cases h : i = b
  · subst h
    simp [hb]
  · have : ¬ b = i := fun e => h e.symm
    simp [h, this]
theorem and_two {s b : Nat} : (s &&& 2 ^ b = 0) ↔ s.testBit b = false := by
  constructor
  · intro h
    have h1 := congrArg (fun x => x.testBit b) h
    simp only [Nat.testBit_and, Nat.testBit_two_pow, Nat.zero_testBit] at h1
    simpa using h1
  · intro h
    apply Nat.eq_of_testBit_eq
    intro i
    rw [Nat.testBit_and, Nat.testBit_two_pow, Nat.zero_testBit]
    by_cases e : b = i
    · subst e
      simp [h]
    · simp [e]
def sub (s t : Nat) : Prop := ∀ i, s.testBit i = true → t.testBit i = true
theorem sub_refl (s : Nat) : sub s s := fun _ h => h
theorem sub_trans {a b c : Nat} (h : sub a b) (g : sub b c) : sub a c := fun i hi => g i (h i hi)
theorem clr_sub {s k : Nat} (hs : s < 1024) : sub (clr s k) s := fun i h => by
  rw [clr_t s k i hs] at h
  simp at h
  exact h.1
/-- all that holds together, and what holds without some of it -/
def clo (T : Nat → Bool) (s : Nat) : Prop := ∃ t, t < 1024 ∧ T t = true ∧ sub s t
/-- one pass of the one way -/
def mpk (b : Nat) (T : Nat → Bool) : Nat → (Nat → Bool)
  | 0 => T
  | k + 1 => if (k.testBit b && mpk b T k k) = true then (fun s => if s = clr k b then true else mpk b T k s) else mpk b T k
theorem mpk_s (b : Nat) (T : Nat → Bool) : ∀ k, k ≤ 1024 → ∀ s, (mpk b T k s = true) ↔ (T s = true ∨ ∃ t, t < k ∧ t.testBit b = true ∧ T t = true ∧ s = clr t b)
  | 0, _, s => by
    show T s = true ↔ _
    constructor
    · exact Or.inl
    · intro h
      rcases h with h | ⟨t, h, _⟩
      · exact h
      · omega
  | k + 1, hk, s => by
    have ih := mpk_s b T k (by omega)
    have hself : k.testBit b = true → (mpk b T k k = true ↔ T k = true) := fun hb => by
      rw [ih k]
      constructor
      · intro h
        rcases h with h | ⟨t, h1, h2, h3, h4⟩
        · exact h
        · exfalso
          have := congrArg (fun x => x.testBit b) h4
          simp only [clr_t t b b (by omega)] at this
          rw [hb] at this
          simp at this
      · exact Or.inl
    rw [mpk]
    by_cases c : (k.testBit b && mpk b T k k) = true
    · rw [if_pos c]
      rw [Bool.and_eq_true] at c
      by_cases e : s = clr k b
      · rw [if_pos e]
        exact ⟨fun _ => Or.inr ⟨k, by omega, c.1, (hself c.1).mp c.2, e⟩, fun _ => rfl⟩
      · rw [if_neg e, ih s]
        constructor
        · intro h
          rcases h with h | ⟨t, h1, h2⟩
          · exact Or.inl h
          · exact Or.inr ⟨t, by omega, h2⟩
        · intro h
          rcases h with h | ⟨t, h1, h2, h3, h4⟩
          · exact Or.inl h
          · by_cases et : t = k
            · rw [et] at h4
              exact absurd h4 e
            · exact Or.inr ⟨t, by omega, h2, h3, h4⟩
    · rw [if_neg c, ih s]
      constructor
      · intro h
        rcases h with h | ⟨t, h1, h2⟩
        · exact Or.inl h
        · exact Or.inr ⟨t, by omega, h2⟩
      · intro h
        rcases h with h | ⟨t, h1, h2, h3, h4⟩
        · exact Or.inl h
        · by_cases et : t = k
          · subst et
            exfalso
            apply c
            rw [Bool.and_eq_true]
            exact ⟨h2, (hself h2).mpr h3⟩
          · exact Or.inr ⟨t, by omega, h2, h3, h4⟩
/-- all passes -/
def mpA (T : Nat → Bool) : Nat → (Nat → Bool)
  | 0 => T
  | b + 1 => mpk b (mpA T b) 1024
theorem mpA_s (T : Nat → Bool) : ∀ b, b ≤ 10 → ∀ s, s < 1024 → ((mpA T b s = true) ↔ ∃ t, t < 1024 ∧ T t = true ∧ sub s t ∧ ∀ i, b ≤ i → s.testBit i = t.testBit i)
  | 0, _, s, hs => by
    show T s = true ↔ _
    constructor
    · exact fun h => ⟨s, hs, h, sub_refl s, fun _ _ => rfl⟩
    · rintro ⟨t, h1, h2, h3, h4⟩
      rw [show s = t from Nat.eq_of_testBit_eq (fun i => h4 i (by omega))]
      exact h2
  | b + 1, hb, s, hs => by
    have ih := mpA_s T b (by omega)
    show mpk b (mpA T b) 1024 s = true ↔ _
    rw [mpk_s b (mpA T b) 1024 (Nat.le_refl _) s]
    constructor
    · intro h
      rcases h with h | ⟨u, h1, h2, h3, h4⟩
      · obtain ⟨t, a1, a2, a3, a4⟩ := (ih s hs).mp h
        exact ⟨t, a1, a2, a3, fun i hi => a4 i (by omega)⟩
      · obtain ⟨t, a1, a2, a3, a4⟩ := (ih u h1).mp h3
        refine ⟨t, a1, a2, sub_trans (by rw [h4]; exact clr_sub h1) a3, fun i hi => ?_⟩
        rw [← a4 i (by omega), h4, clr_t u b i h1]
        have : ¬ i = b := by omega
        simp [this]
    · rintro ⟨t, a1, a2, a3, a4⟩
      by_cases c : s.testBit b = t.testBit b
      · refine Or.inl ((ih s hs).mpr ⟨t, a1, a2, a3, fun i hi => ?_⟩)
        by_cases e : i = b
        · rw [e]; exact c
        · exact a4 i (by omega)
      · have tb : t.testBit b = true := by
          cases h1 : t.testBit b
          · cases h2 : s.testBit b
            · rw [h1, h2] at c; exact absurd rfl c
            · have := a3 b h2; rw [h1] at this; cases this
          · rfl
        have sb : s.testBit b = false := by
          cases h2 : s.testBit b
          · rfl
          · rw [h2, tb] at c; exact absurd rfl c
        have hu : s ||| 2 ^ b < 2 ^ 10 := Nat.or_lt_two_pow hs (Nat.pow_lt_pow_right (by decide) (by omega))
        have hut : ∀ i, (s ||| 2 ^ b).testBit i = (s.testBit i || decide (b = i)) := fun i => by rw [Nat.testBit_or, Nat.testBit_two_pow]
        refine Or.inr ⟨s ||| 2 ^ b, hu, by rw [hut]; simp, (ih _ hu).mpr ⟨t, a1, a2, fun i hi => ?_, fun i hi => ?_⟩, ?_⟩
        · rw [hut] at hi
          by_cases e : b = i
          · rw [← e]; exact tb
          · simp [e] at hi
            exact a3 i hi
        · rw [hut]
          by_cases e : b = i
          · subst e
            simp [tb]
          · simp [e]
            exact a4 i (by omega)
        · apply Nat.eq_of_testBit_eq
          intro i
          rw [clr_t _ b i hu, hut]
          by_cases e : b = i
          · subst e
            simp [sb]
          · have : ¬ i = b := fun h => e h.symm
            simp [e, this]
theorem mpA_clo (T : Nat → Bool) {s : Nat} (hs : s < 1024) : (mpA T 10 s = true) ↔ clo T s := by
  rw [mpA_s T 10 (Nat.le_refl _) s hs]
  constructor
  · rintro ⟨t, h1, h2, h3, _⟩
    exact ⟨t, h1, h2, h3⟩
  · rintro ⟨t, h1, h2, h3⟩
    refine ⟨t, h1, h2, h3, fun i hi => ?_⟩
    have hp : (2 : Nat) ^ 10 ≤ 2 ^ i := Nat.pow_le_pow_right (by decide) hi
    rw [Nat.testBit_lt_two_pow (Nat.lt_of_lt_of_le hs hp), Nat.testBit_lt_two_pow (Nat.lt_of_lt_of_le h1 hp)]
/-- the other way: from the greatest set down -/
def dnk (s : Nat) (T : Nat → Bool) : Nat → (Nat → Bool)
  | 0 => T
  | k + 1 => fun u => if u = clr s k then true else dnk s T k u
def dnA (T : Nat → Bool) : Nat → (Nat → Bool)
  | 0 => T
  | d + 1 => if dnA T d (1023 - d) = true then dnk (1023 - d) (dnA T d) 10 else dnA T d
theorem dnk_s (s : Nat) (T : Nat → Bool) : ∀ k u, (dnk s T k u = true) ↔ (T u = true ∨ ∃ i, i < k ∧ u = clr s i)
  | 0, u => by
    show T u = true ↔ _
    constructor
    · exact Or.inl
    · intro h
      rcases h with h | ⟨i, h, _⟩
      · exact h
      · omega
  | k + 1, u => by
    show (if u = clr s k then true else dnk s T k u) = true ↔ _
    by_cases e : u = clr s k
    · rw [if_pos e]
      exact ⟨fun _ => Or.inr ⟨k, by omega, e⟩, fun _ => rfl⟩
    · rw [if_neg e, dnk_s s T k u]
      constructor
      · intro h
        rcases h with h | ⟨i, h1, h2⟩
        · exact Or.inl h
        · exact Or.inr ⟨i, by omega, h2⟩
      · intro h
        rcases h with h | ⟨i, h1, h2⟩
        · exact Or.inl h
        · by_cases ei : i = k
          · rw [ei] at h2; exact absurd h2 e
          · exact Or.inr ⟨i, by omega, h2⟩
theorem clr_le {s k : Nat} (hs : s < 1024) : clr s k ≤ s := by
  apply Nat.le_of_testBit
  intro i hi
  exact clr_sub hs i hi
theorem dnA_mono (T : Nat → Bool) (d u : Nat) (h : dnA T d u = true) : dnA T (d + 1) u = true := by
  rw [dnA]
  split
  · rw [dnk_s]
    exact Or.inl h
  · exact h
theorem dnA_mono' (T : Nat → Bool) (d u : Nat) : ∀ e, dnA T d u = true → dnA T (d + e) u = true
  | 0, h => h
  | e + 1, h => dnA_mono T (d + e) u (dnA_mono' T d u e h)
/-- a set that has been looked at stays as it is -/
theorem dnA_fix (T : Nat → Bool) (d u : Nat) (hd : d < 1024) (hu : 1023 - d < u) : (dnA T (d + 1) u = true) ↔ (dnA T d u = true) := by
  rw [dnA]
  split
  · rw [dnk_s]
    constructor
    · intro h
      rcases h with h | ⟨i, h1, h2⟩
      · exact h
      · have := clr_le (s := 1023 - d) (k := i) (by omega)
        omega
    · exact Or.inl
  · exact Iff.rfl
theorem dnA_fix' (T : Nat → Bool) (d u : Nat) (hu : 1023 - d < u) : ∀ e, d + e ≤ 1024 → ((dnA T (d + e) u = true) ↔ (dnA T d u = true))
  | 0, _ => Iff.rfl
  | e + 1, h => (dnA_fix T (d + e) u (by omega) (by omega)).trans (dnA_fix' T d u hu e (by omega))
theorem dnA_snd (T : Nat → Bool) : ∀ d, d ≤ 1023 → ∀ u, u < 1024 → dnA T d u = true → clo T u
  | 0, _, u, hu, h => ⟨u, hu, h, sub_refl u⟩
  | d + 1, hd, u, hu, h => by
    rw [dnA] at h
    by_cases c : dnA T d (1023 - d) = true
    · rw [if_pos c, dnk_s] at h
      rcases h with h | ⟨i, h1, h2⟩
      · exact dnA_snd T d (by omega) u hu h
      · obtain ⟨t, t1, t2, t3⟩ := dnA_snd T d (by omega) (1023 - d) (by omega) c
        exact ⟨t, t1, t2, sub_trans (by rw [h2]; exact clr_sub (by omega)) t3⟩
    · rw [if_neg c] at h
      exact dnA_snd T d (by omega) u hu h
theorem dnA_one (T : Nat → Bool) {t i : Nat} (h0 : 0 < t) (ht : t < 1024) (hi : i < 10) (h : dnA T 1023 t = true) : dnA T 1023 (clr t i) = true := by
  have e1 : dnA T (1023 - t) t = true := by
    by_cases c : t = 1023
    · subst c
      have := (dnA_fix' T 1 1023 (by omega) 1022 (by omega)).mp (by rw [show 1 + 1022 = 1023 by omega]; exact h)
      rw [dnA] at this
      by_cases c' : dnA T 0 (1023 - 0) = true
      · exact c'
      · rw [if_neg c'] at this
        exact this
    · have := (dnA_fix' T (1023 - t + 1) t (by omega) (t - 1) (by omega)).mp (by rw [show 1023 - t + 1 + (t - 1) = 1023 by omega]; exact h)
      rw [dnA, show 1023 - (1023 - t) = t by omega] at this
      by_cases c' : dnA T (1023 - t) t = true
      · exact c'
      · rw [if_neg c'] at this
        exact this
  have e2 : dnA T (1023 - t + 1) (clr t i) = true := by
    rw [dnA, show 1023 - (1023 - t) = t by omega, if_pos e1, dnk_s]
    exact Or.inr ⟨i, hi, rfl⟩
  have := dnA_mono' T (1023 - t + 1) (clr t i) (t - 1) e2
  rw [show 1023 - t + 1 + (t - 1) = 1023 by omega] at this
  exact this
theorem sub_all (D : Nat → Bool) (hone : ∀ t i, 0 < t → t < 1024 → i < 10 → D t = true → D (clr t i) = true) : ∀ (n : Nat) (s t : Nat), t - s ≤ n → s < 1024 → t < 1024 → sub s t → D t = true → D s = true
  | 0, s, t, hn, hs, ht, hst, h => by
    have hle : s ≤ t := Nat.le_of_testBit (fun i hi => hst i hi)
    rw [show s = t by omega]
    exact h
  | n + 1, s, t, hn, hs, ht, hst, h => by
    have hle : s ≤ t := Nat.le_of_testBit (fun i hi => hst i hi)
    by_cases e : s = t
    · rw [e]; exact h
    · have hx : ∃ i, s.testBit i = false ∧ t.testBit i = true := by
        apply Classical.byContradiction
        intro hn
        apply e
        apply Nat.eq_of_testBit_eq
        intro i
        cases h1 : s.testBit i
        · cases h2 : t.testBit i
          · rfl
          · exact absurd ⟨i, h1, h2⟩ hn
        · rw [hst i h1]
      obtain ⟨i, h1, h2⟩ := hx
      have hi : i < 10 := by
        apply Classical.byContradiction
        intro hi
        have hp : (2 : Nat) ^ 10 ≤ 2 ^ i := Nat.pow_le_pow_right (by decide) (by omega)
        rw [Nat.testBit_lt_two_pow (Nat.lt_of_lt_of_le ht hp)] at h2
        cases h2
      have hc := hone t i (show 0 < t by omega) ht hi h
      have hlt : clr t i < t := by
        rcases Nat.lt_or_eq_of_le (clr_le (s := t) (k := i) ht) with q | q
        · exact q
        · exfalso
          have := congrArg (fun x => x.testBit i) q
          simp only [clr_t t i i ht] at this
          rw [h2] at this
          simp at this
      exact sub_all D hone n s (clr t i) (by omega) hs (clr_lt t i) (fun k hk => by
        rw [clr_t t i k ht, hst k hk]
        have : ¬ k = i := fun q => by rw [q, h1] at hk; cases hk
        simp [this]) hc
theorem dnA_clo (T : Nat → Bool) {s : Nat} (hs : s < 1024) : (dnA T 1023 s = true) ↔ clo T s := by
  constructor
  · exact dnA_snd T 1023 (Nat.le_refl _) s hs
  · rintro ⟨t, h1, h2, h3⟩
    have : dnA T 1023 t = true := by
      have := dnA_mono' T 0 t 1023 h2
      rw [Nat.zero_add] at this
      exact this
    exact sub_all (dnA T 1023) (fun t i a b c d => dnA_one T a b c d) 1024 s t (by omega) hs h1 h3 this
