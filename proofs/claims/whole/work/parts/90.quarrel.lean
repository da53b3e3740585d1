/-! 90: QUARREL, by itself: which it is -/
def pcK (s : Nat) : Nat → Nat
  | 0 => 0
  | k + 1 => pcK s k + s / 2 ^ k % 2
def pc (s : Nat) : Nat := pcK s 10
def hbF (ap : Nat → Bool) : Nat → Nat
  | 0 => 0
  | d + 1 => if ap (d + 1) = true ∧ (hbF ap d = 0 ∨ pc (d + 1) < pc (hbF ap d)) then d + 1 else hbF ap d
def mbF (ap : Nat → Bool) (c : Nat) : Nat → Nat
  | 0 => c
  | d + 1 => if ap d = true ∧ (pc d < pc (mbF ap c d) ∨ (pc d = pc (mbF ap c d) ∧ d < mbF ap c d)) then d else mbF ap c d
def lex (a b : Nat) : Prop := pc a < pc b ∨ (pc a = pc b ∧ a ≤ b)
theorem hbF_s (ap : Nat → Bool) : ∀ d, (hbF ap d ≤ d ∧ (¬ hbF ap d = 0 → ap (hbF ap d) = true)) ∧ ∀ t, 1 ≤ t → t ≤ d → ap t = true → ¬ hbF ap d = 0 ∧ lex (hbF ap d) t
  | 0 => ⟨⟨Nat.le_refl 0, fun h => absurd rfl h⟩, fun t h1 h2 => by omega⟩
  | d + 1 => by
    obtain ⟨⟨i1, i2⟩, i3⟩ := hbF_s ap d
    rw [hbF]
    by_cases c : ap (d + 1) = true ∧ (hbF ap d = 0 ∨ pc (d + 1) < pc (hbF ap d))
    · rw [if_pos c]
      refine ⟨⟨Nat.le_refl _, fun _ => c.1⟩, fun t h1 h2 h3 => ⟨by omega, ?_⟩⟩
      by_cases e : t = d + 1
      · rw [e]; exact Or.inr ⟨rfl, Nat.le_refl _⟩
      · obtain ⟨j1, j2⟩ := i3 t h1 (by omega) h3
        have := c.2.resolve_left j1
        unfold lex at *
        omega
    · rw [if_neg c]
      refine ⟨⟨by omega, i2⟩, fun t h1 h2 h3 => ?_⟩
      by_cases e : t = d + 1
      · rw [e] at h3 ⊢
        have h4 : ¬ (hbF ap d = 0 ∨ pc (d + 1) < pc (hbF ap d)) := fun q => c ⟨h3, q⟩
        refine ⟨fun q => h4 (Or.inl q), ?_⟩
        have : ¬ pc (d + 1) < pc (hbF ap d) := fun q => h4 (Or.inr q)
        unfold lex
        omega
      · exact i3 t h1 (by omega) h3
theorem mbF_s (ap : Nat → Bool) (c : Nat) (hc : ap c = true) (hc2 : c < 1024) : ∀ d, d ≤ 1024 → (ap (mbF ap c d) = true ∧ mbF ap c d < 1024) ∧ ∀ t, t < d → ap t = true → lex (mbF ap c d) t
  | 0, _ => ⟨⟨hc, hc2⟩, fun t h => by omega⟩
  | d + 1, hd => by
    obtain ⟨⟨i1, i2⟩, i3⟩ := mbF_s ap c hc hc2 d (by omega)
    rw [mbF]
    by_cases q : ap d = true ∧ (pc d < pc (mbF ap c d) ∨ (pc d = pc (mbF ap c d) ∧ d < mbF ap c d))
    · rw [if_pos q]
      refine ⟨⟨q.1, by omega⟩, fun t h1 h2 => ?_⟩
      by_cases e : t = d
      · rw [e]; exact Or.inr ⟨rfl, Nat.le_refl _⟩
      · have := i3 t (by omega) h2
        have := q.2
        unfold lex at *
        omega
    · rw [if_neg q]
      refine ⟨⟨i1, i2⟩, fun t h1 h2 => ?_⟩
      by_cases e : t = d
      · rw [e] at h2 ⊢
        have h4 : ¬ (pc d < pc (mbF ap c d) ∨ (pc d = pc (mbF ap c d) ∧ d < mbF ap c d)) := fun r => q ⟨h2, r⟩
        unfold lex
        omega
      · exact i3 t (by omega) h2
theorem sel_eq (ap : Nat → Bool) (c : Nat) (h0 : ap 0 = false) (hc : ap c = true) (hc2 : c < 1024) : hbF ap 1023 = mbF ap c 1024 := by
  obtain ⟨⟨h1, h2⟩, h3⟩ := hbF_s ap 1023
  obtain ⟨⟨m1, m2⟩, m3⟩ := mbF_s ap c hc hc2 1024 (Nat.le_refl _)
  have mp : 1 ≤ mbF ap c 1024 := by
    rcases Nat.eq_zero_or_pos (mbF ap c 1024) with e | e
    · rw [e, h0] at m1; cases m1
    · exact e
  obtain ⟨a1, a2⟩ := h3 _ mp (by omega) m1
  have b := m3 (hbF ap 1023) (by omega) (h2 a1)
  unfold lex at *
  omega
theorem sel_no (ap : Nat → Bool) (h : ∀ t, t < 1024 → ap t = false) : hbF ap 1023 = 0 := by
  obtain ⟨⟨h1, h2⟩, h3⟩ := hbF_s ap 1023
  rcases Nat.eq_zero_or_pos (hbF ap 1023) with e | e
  · exact e
  · have := h2 (by omega)
    rw [h _ (by omega)] at this
    cases this
theorem sel_cg (ap aq : Nat → Bool) (h : ∀ t, t < 1024 → ap t = aq t) : ∀ d, d ≤ 1023 → hbF ap d = hbF aq d
  | 0, _ => rfl
  | d + 1, hd => by rw [hbF, hbF, h (d + 1) (by omega), sel_cg ap aq h d (by omega)]
theorem bc_ok : ∀ s, s < 1024 → ((f_Int_bitCount 0 (nI s) sw_M0).map (fun u => u.1)) = some (nI (pc s)) := by decide +kernel
theorem Int_bitCount (N : Nat) (M : sw_M) {s : Nat} (hs : s < 1024) : f_Int_bitCount N (nI s) M = some (nI (pc s), M) := by
  have h := bc_ok s hs
  have e : f_Int_bitCount N (nI s) M = (f_Int_bitCount 0 (nI s) sw_M0).map (fun u => (u.1, M)) := rfl
  rw [e]
  cases hx : f_Int_bitCount 0 (nI s) sw_M0 with
  | none => rw [hx] at h; cases h
  | some u =>
    rw [hx] at h
    injection h with h
    have h' : u.1 = nI (pc s) := h
    show some (u.1, M) = _
    rw [h']
theorem pcK_le (s : Nat) : ∀ k, pcK s k ≤ k
  | 0 => Nat.le_refl 0
  | k + 1 => by
    have := pcK_le s k
    have : s / 2 ^ k % 2 < 2 := Nat.mod_lt _ (by decide)
    rw [pcK]
    omega
theorem pc_le (s : Nat) : pc s ≤ 10 := pcK_le s 10
theorem Model_many_4 (N : Nat) (M : sw_M) (s : Nat) (hs : s < 1024) : ∀ (d k j : Nat), k + d = 10 → d < j → f_Model_many_4 N j (nI s) (nI (pcK s k)) (nI k) M = some (nI (pc s), M)
  | 0, k, j, hd, hj => by
    obtain ⟨j, rfl⟩ : ∃ k, j = k + 1 := ⟨j - 1, by omega⟩
    obtain rfl : k = 10 := by omega
    rw [f_Model_many_4, if_pos (show (10 : Int32) ≤ nI 10 from by decide)]
    rfl
  | d + 1, k, j, hd, hj => by
    obtain ⟨j, rfl⟩ : ∃ k, j = k + 1 := ⟨j - 1, by omega⟩
    rw [f_Model_many_4, if_neg (show ¬ (10 : Int32) ≤ nI k from (nI_ge (by omega) (by omega) : ¬ nI 10 ≤ nI k)), x_bit (show s < 2 ^ 31 by omega) (by omega), nI_add, nI_1]
    exact Model_many_4 N M s hs d (k + 1) j (by omega) (by omega)
theorem Model_many (N : Nat) (hN : 300 ≤ N) (M : sw_M) (s : Nat) (hs : s < 1024) : f_Model_many N (nI s) M = some (nI (pc s), M) :=
  Model_many_4 N M s hs 10 0 N (by omega) (by omega)
/-- what holds together by some WEIGHTS -/
noncomputable def sn (F : FE) : Nat → Option (Nat → Int32) → (Nat → Bool) → (Nat → Bool)
  | 0, _, S => S
  | _ + 1, none, S => S
  | f + 1, some W, S => sn F f (nW (uu F) (nu F) W) (fun s => if s = bN (hoB F W) F.B.m then true else S s)
theorem sn_mono (F : FE) : ∀ (f : Nat) (o : Option (Nat → Int32)) (S : Nat → Bool) (s : Nat), S s = true → sn F f o S s = true
  | 0, _, _, _, h => h
  | _ + 1, none, _, _, h => h
  | f + 1, some W, S, s, h => by
    rw [sn]
    apply sn_mono F f
    show (if _ then true else S s) = true
    split
    · rfl
    · exact h
