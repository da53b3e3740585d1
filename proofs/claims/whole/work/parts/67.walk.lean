/-! 67: an ORBIT's way, by itself -/
noncomputable def tr (P : Nat → PartS) (n : Nat) (mass : Int32) (s : SS) : Nat → SS
  | 0 => s
  | t + 1 => fwd P n mass (tr P n mass s t)
theorem tr_s (P : Nat → PartS) (n : Nat) (mass : Int32) : ∀ (t : Nat) (s : SS), tr P n mass (fwd P n mass s) t = tr P n mass s (t + 1)
  | 0, _ => rfl
  | t + 1, s => by
    show fwd P n mass (tr P n mass (fwd P n mass s) t) = fwd P n mass (tr P n mass s (t + 1))
    rw [tr_s P n mass t s]
theorem go1_tr (P : Nat → PartS) (n : Nat) (mass : Int32) : ∀ (d : Nat) (s : SS), (go1 P n mass d s).2 = tr P n mass s (go1 P n mass d s).1 ∧ (∀ t, t < (go1 P n mass d s).1 → (tr P n mass s t).t < 240 ∧ (tr P n mass s t).g ≠ 1) ∧ ((go1 P n mass d s).1 = d ∨ ¬ ((tr P n mass s (go1 P n mass d s).1).t < 240 ∧ (tr P n mass s (go1 P n mass d s).1).g ≠ 1))
  | 0, s => ⟨rfl, fun t h => absurd h (Nat.not_lt_zero t), Or.inl rfl⟩
  | d + 1, s => by
    rw [go1]
    by_cases c : s.t < 240 ∧ s.g ≠ 1
    · rw [if_pos c]
      obtain ⟨h1, h2, h3⟩ := go1_tr P n mass d (fwd P n mass s)
      rw [tr_s] at h1 h3
      refine ⟨h1, fun t ht => ?_, ?_⟩
      · cases t with
        | zero => exact c
        | succ t =>
          have := h2 t (Nat.lt_of_succ_lt_succ ht)
          rw [tr_s] at this
          exact this
      · rcases h3 with h | h
        · exact Or.inl (congrArg (· + 1) h)
        · exact Or.inr h
    · rw [if_neg c]
      exact ⟨rfl, fun t h => absurd h (Nat.not_lt_zero t), Or.inr c⟩
/-- where an ORBIT starts -/
def s0 (x y u v : Int32) : SS := (x.toInt64, y.toInt64, u.toInt64, v.toInt64, 0, 0)
def SB (x y u v : Int32) : Prop := (-9999 ≤ x.toInt ∧ x.toInt ≤ 9999) ∧ (-9999 ≤ y.toInt ∧ y.toInt ≤ 9999) ∧ (-999 ≤ u.toInt ∧ u.toInt ≤ 999) ∧ (-999 ≤ v.toInt ∧ v.toInt ≤ 999)
/-- how many STEPS an ORBIT does -/
noncomputable def dn (P : Nat → PartS) (n : Nat) (mass : Int32) (L : Nat) (s : SS) : Nat := (go1 P n mass L s).1
theorem tr_mid {P : Nat → PartS} {n : Nat} (hn : n ≤ 8) (hP : ∀ p, p < n → POk (P p)) {mass : Int32} (hm : 0 ≤ mass.toInt ∧ mass.toInt ≤ 99999) {x y u v : Int32} (hs : SB x y u v) :
    ∀ t, t ≤ 240 → (∀ k, k < t → (tr P n mass (s0 x y u v) k).g ≠ 1) → (tr P n mass (s0 x y u v) t).t = nI t ∧ (Mid 41000 (tr P n mass (s0 x y u v) t) ∨ ((tr P n mass (s0 x y u v) t).g = 1 ∧ SI (41000 + 1599984) (tr P n mass (s0 x y u v) t)))
  | 0, _, _ => by
    obtain ⟨h1, h2, h3, h4⟩ := hs
    refine ⟨rfl, Or.inl ⟨rfl, ?_, ?_, ?_, ?_, (by decide : 0 ≤ (0 : Int32).toInt ∧ (0 : Int32).toInt ≤ 240)⟩⟩
    · show nB 20000 x.toInt64
      unfold nB; rw [t64]; omega
    · show nB 20000 y.toInt64
      unfold nB; rw [t64]; omega
    · show nB (41000 + 799992) u.toInt64
      unfold nB; rw [t64]; omega
    · show nB (41000 + 799992) v.toInt64
      unfold nB; rw [t64]; omega
  | t + 1, ht, hk => by
    obtain ⟨e, h⟩ := tr_mid hn hP hm hs t (by omega) (fun k hk' => hk k (by omega))
    have hti : (tr P n mass (s0 x y u v) t).t.toInt = (t : Int) := by rw [e, nI_toInt (by omega)]
    rcases h with ⟨h1, h2, h3, h4, h5, h6⟩ | h
    · refine ⟨?_, fwd_I hn hP hm (U := 41000) (V := 41000 + 799992) (by omega) (by omega) (by omega) (nB_mono h2 (by omega)) (nB_mono h3 (by omega)) h4 h5 ⟨by omega, by omega⟩ (Or.inr ⟨h2, h3⟩)⟩
      show (tr P n mass (s0 x y u v) t).t + 1 = nI (t + 1)
      rw [e, nI_1]
    · exact absurd h.1 (hk t (by omega))
/-- all that is used of an ORBIT's way -/
theorem walk {P : Nat → PartS} {n : Nat} (hn : n ≤ 8) (hP : ∀ p, p < n → POk (P p)) {mass : Int32} (hm : 0 ≤ mass.toInt ∧ mass.toInt ≤ 99999) {x y u v : Int32} (hs : SB x y u v) {L : Nat} (hL : L ≤ 240) :
    dn P n mass L (s0 x y u v) ≤ L ∧ (∀ t, t ≤ dn P n mass L (s0 x y u v) → (tr P n mass (s0 x y u v) t).t = nI t ∧ nB 2500000 (tr P n mass (s0 x y u v) t).x ∧ nB 2500000 (tr P n mass (s0 x y u v) t).y ∧ nB 2500000 (tr P n mass (s0 x y u v) t).u ∧ nB 2500000 (tr P n mass (s0 x y u v) t).v) ∧
    (∀ t, t < dn P n mass L (s0 x y u v) → (tr P n mass (s0 x y u v) t).g = 0 ∧ nB 20000 (tr P n mass (s0 x y u v) t).x ∧ nB 20000 (tr P n mass (s0 x y u v) t).y) ∧
    (dn P n mass L (s0 x y u v) = L ∨ (tr P n mass (s0 x y u v) (dn P n mass L (s0 x y u v))).g = 1) ∧ (∀ t, t ≤ dn P n mass L (s0 x y u v) → (tr P n mass (s0 x y u v) t).g = bz (bey (tr P n mass (s0 x y u v) t).x (tr P n mass (s0 x y u v) t).y)) := by
  obtain ⟨h1, h2, h3⟩ := go1_tr P n mass L (s0 x y u v)
  have hle := go1_le P n mass L (s0 x y u v)
  unfold dn
  generalize (go1 P n mass L (s0 x y u v)).1 = D at *
  have hmid := fun t (ht : t ≤ D) => tr_mid hn hP hm hs t (by omega) (fun k hk => (h2 k (by omega)).2)
  refine ⟨hle, fun t ht => ?_, fun t ht => ?_, ?_, fun t ht => ?_⟩
  · obtain ⟨e, h⟩ := hmid t ht
    refine ⟨e, ?_⟩
    rcases h with ⟨g1, g2, g3, g4, g5, g6⟩ | h
    · exact ⟨nB_mono g2 (by omega), nB_mono g3 (by omega), nB_mono g4 (by omega), nB_mono g5 (by omega)⟩
    · cases t with
      | zero => exact absurd h.1 (by decide : ¬ (0 : Int32) = 1)
      | succ t =>
        obtain ⟨g1, g2, g3, g4, g5, g6, g7⟩ := h.2
        obtain ⟨a1, a2⟩ := g5 h.1
        refine ⟨?_, ?_, nB_mono g1 (by omega), nB_mono g2 (by omega)⟩
        · obtain ⟨e', h'⟩ := hmid t (by omega)
          rcases h' with ⟨k1, k2, k3, k4, k5, k6⟩ | h'
          · exact nB_mono (nB_add k2 g1 (by omega)).1 (by omega)
          · exact absurd h'.1 (h2 t (by omega)).2
        · obtain ⟨e', h'⟩ := hmid t (by omega)
          rcases h' with ⟨k1, k2, k3, k4, k5, k6⟩ | h'
          · exact nB_mono (nB_add k3 g2 (by omega)).1 (by omega)
          · exact absurd h'.1 (h2 t (by omega)).2
  · obtain ⟨e, h⟩ := hmid t (by omega)
    rcases h with ⟨g1, g2, g3, g4, g5, g6⟩ | h
    · exact ⟨g1, g2, g3⟩
    · exact absurd h.1 (h2 t ht).2
  · rcases h3 with h | h
    · exact Or.inl h
    · obtain ⟨e, h'⟩ := hmid D (Nat.le_refl D)
      rcases h' with ⟨g1, g2, g3, g4, g5, g6⟩ | h'
      · by_cases hD : D = L
        · exact Or.inl hD
        · exfalso
          refine h ⟨?_, by rw [g1]; decide⟩
          rw [e]
          exact i32_lt (by rw [nI_toInt (by omega), show (240 : Int32).toInt = 240 from by decide]; omega)
      · exact Or.inr h'.1
  · cases t with
    | zero =>
      show (0 : Int32) = bz (bey x.toInt64 y.toInt64)
      obtain ⟨b1, b2, b3, b4⟩ := hs
      rw [bey_t (by unfold nB; rw [t64]; omega) (by unfold nB; rw [t64]; omega)]
      rfl
    | succ t => rfl
