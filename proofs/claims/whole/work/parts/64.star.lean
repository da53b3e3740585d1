/-! 64: go, by itself: its bounds, both ways -/
/-- in the midst of a go: not GONE -/
def Mid (U : Int) (s : SS) : Prop := s.g = 0 ∧ nB 20000 s.x ∧ nB 20000 s.y ∧ nB (U + 799992) s.u ∧ nB (U + 799992) s.v ∧ (0 ≤ s.t.toInt ∧ s.t.toInt ≤ 240)
theorem Mid_SI {U : Int} {s : SS} (h : Mid U s) : SI (U + 1599984) s := by
  obtain ⟨h1, h2, h3, h4, h5, h6⟩ := h
  exact ⟨nB_mono h4 (by omega), nB_mono h5 (by omega), h6, fun _ => ⟨h2, h3⟩, fun e => absurd (h1.symm.trans e) (by decide), fun e => absurd (h1.symm.trans e) (by decide), Or.inl h1⟩
theorem go1_mid {P : Nat → PartS} {n : Nat} (hn : n ≤ 8) (hP : ∀ p, p < n → POk (P p)) {mass : Int32} (hm : 0 ≤ mass.toInt ∧ mass.toInt ≤ 99999) {U : Int} (hU : 41000 ≤ U) (hU2 : U ≤ 900000000) :
    ∀ (d : Nat) (s : SS), (Mid U s ∨ (s.g = 1 ∧ SI (U + 1599984) s)) → ok1 P n mass d s ∧ SI (U + 1599984) (go1 P n mass d s).2
  | 0, s, h => ⟨trivial, by
      rcases h with h | h
      · exact Mid_SI h
      · exact h.2⟩
  | d + 1, s, h => by
    unfold ok1 go1
    rcases h with h | h
    · by_cases c : s.t < 240 ∧ s.g ≠ 1
      · obtain ⟨h1, h2, h3, h4, h5, h6⟩ := h
        have ht := t_lt c.1
        have hf := fwd_I hn hP hm (U := U) (V := U + 799992) hU hU2 (by omega) (nB_mono h2 (by omega)) (nB_mono h3 (by omega)) h4 h5 ⟨h6.1, ht⟩ (Or.inr ⟨h2, h3⟩)
        obtain ⟨g1, g2⟩ := go1_mid hn hP hm hU hU2 d (fwd P n mass s) hf
        rw [if_pos c]
        exact ⟨fun _ => ⟨⟨h6.1, ht⟩, nB_Bd h2 (by omega), nB_Bd h3 (by omega), g1⟩, g2⟩
      · rw [if_neg c]
        exact ⟨fun e => absurd e c, Mid_SI h⟩
    · have c : ¬ (s.t < 240 ∧ s.g ≠ 1) := fun e => e.2 h.1
      rw [if_neg c]
      exact ⟨fun e => absurd e c, h.2⟩
theorem go1_I {P : Nat → PartS} {n : Nat} (hn : n ≤ 8) (hP : ∀ p, p < n → POk (P p)) {mass : Int32} (hm : 0 ≤ mass.toInt ∧ mass.toInt ≤ 99999) {U : Int} (hU : 41000 ≤ U) (hU2 : U ≤ 900000000)
    (d : Nat) (s : SS) (h : SI U s) : ok1 P n mass d s ∧ SI (U + 1599984) (go1 P n mass d s).2 := by
  cases d with
  | zero => exact ⟨trivial, SI_mono h (by omega)⟩
  | succ d =>
    unfold ok1 go1
    by_cases c : s.t < 240 ∧ s.g ≠ 1
    · obtain ⟨h1, h2, h3, h4, h5, h6, h7⟩ := h
      have ht := t_lt c.1
      have hxy : nB (20000 + U) s.x ∧ nB (20000 + U) s.y := by
        rcases h7 with e | e | e
        · exact ⟨nB_mono (h4 e).1 (by omega), nB_mono (h4 e).2 (by omega)⟩
        · exact absurd e c.2
        · exact h6 e
      have hf := fwd_I hn hP hm (U := U) (V := U) hU hU2 (by omega) hxy.1 hxy.2 h1 h2 ⟨h3.1, ht⟩ (Or.inl (by omega))
      obtain ⟨g1, g2⟩ := go1_mid hn hP hm hU hU2 d (fwd P n mass s) hf
      rw [if_pos c]
      exact ⟨fun _ => ⟨⟨h3.1, ht⟩, nB_Bd hxy.1 (by omega), nB_Bd hxy.2 (by omega), g1⟩, g2⟩
    · rw [if_neg c]
      exact ⟨fun e => absurd e c, SI_mono h (by omega)⟩
/-- one STEP back -/
theorem bwd_I {P : Nat → PartS} {n : Nat} (hn : n ≤ 8) (hP : ∀ p, p < n → POk (P p)) {mass : Int32} (hm : 0 ≤ mass.toInt ∧ mass.toInt ≤ 99999) {U V : Int} {s : SS} (hU : 41000 ≤ U) (hU2 : U ≤ 900000000) (hV : V + 799992 ≤ U + 1599984) (hx : nB (20000 + U + 799992) (s.x - s.u)) (hy : nB (20000 + U + 799992) (s.y - s.v)) (hu : nB V s.u) (hv : nB V s.v) (ht : 0 < s.t.toInt ∧ s.t.toInt ≤ 240)
    (hor : V ≤ U ∨ (nB 20000 s.x ∧ nB 20000 s.y)) :
    Mid U (bwd P n mass s) ∨ ((bwd P n mass s).g = -1 ∧ SI (U + 1599984) (bwd P n mass s)) := by
  have et : (bwd P n mass s).t.toInt = s.t.toInt - 1 := t_p ht
  obtain ⟨p1, p2⟩ := pull_nB hn hP hm (nB_Bd hx (by omega)) (nB_Bd hy (by omega)) (t := s.t - 1) (by rw [t_p ht]; omega)
  have u1 := (nB_sub hu p1 (by omega)).1
  have v1 := (nB_sub hv p2 (by omega)).1
  cases hb : bey (s.x - s.u) (s.y - s.v)
  · refine Or.inl ⟨?_, (bey_f hb).1, (bey_f hb).2, ?_, ?_, by omega⟩
    · show (if bey _ _ = true then (-1 : Int32) else 0) = 0
      rw [hb]; rfl
    · show nB _ (s.u - _)
      have h0 := (bey_f hb).1
      rcases hor with h | h
      · exact nB_mono u1 (by omega)
      · have hu40 : nB 40000 s.u := by
          have e2 := (nB_sub h.1 hu (by omega)).2
          have h1 := h.1
          unfold nB at h0 h1 ⊢
          omega
        exact nB_mono (nB_sub hu40 p1 (by omega)).1 (by omega)
    · show nB _ (s.v - _)
      have h0 := (bey_f hb).2
      rcases hor with h | h
      · exact nB_mono v1 (by omega)
      · have hu40 : nB 40000 s.v := by
          have e2 := (nB_sub h.2 hv (by omega)).2
          have h1 := h.2
          unfold nB at h0 h1 ⊢
          omega
        exact nB_mono (nB_sub hu40 p2 (by omega)).1 (by omega)
  · have hg : (bwd P n mass s).g = -1 := by
      show (if bey _ _ = true then (-1 : Int32) else 0) = -1
      rw [hb]; rfl
    refine Or.inr ⟨hg, nB_mono u1 hV, nB_mono v1 hV, by omega, fun e => absurd (hg.symm.trans e) (by decide), fun e => absurd (hg.symm.trans e) (by decide), fun _ => ⟨nB_mono hx (by omega), nB_mono hy (by omega)⟩, Or.inr (Or.inr hg)⟩
theorem go2_mid {P : Nat → PartS} {n : Nat} (hn : n ≤ 8) (hP : ∀ p, p < n → POk (P p)) {mass : Int32} (hm : 0 ≤ mass.toInt ∧ mass.toInt ≤ 99999) {U : Int} (hU : 41000 ≤ U) (hU2 : U ≤ 900000000) :
    ∀ (d : Nat) (s : SS), (Mid U s ∨ (s.g = -1 ∧ SI (U + 1599984) s)) → ok2 P n mass d s ∧ SI (U + 1599984) (go2 P n mass d s).2
  | 0, s, h => ⟨trivial, by
      rcases h with h | h
      · exact Mid_SI h
      · exact h.2⟩
  | d + 1, s, h => by
    unfold ok2 go2
    rcases h with h | h
    · by_cases c : 0 < s.t ∧ s.g ≠ -1
      · obtain ⟨h1, h2, h3, h4, h5, h6⟩ := h
        have ht := t_gt c.1
        have hx := nB_mono (nB_sub h2 h4 (by omega)).1 (show 20000 + (U + 799992) ≤ 20000 + U + 799992 by omega)
        have hy := nB_mono (nB_sub h3 h5 (by omega)).1 (show 20000 + (U + 799992) ≤ 20000 + U + 799992 by omega)
        have hf := bwd_I hn hP hm (U := U) (V := U + 799992) hU hU2 (by omega) hx hy h4 h5 ⟨ht, h6.2⟩ (Or.inr ⟨h2, h3⟩)
        obtain ⟨g1, g2⟩ := go2_mid hn hP hm hU hU2 d (bwd P n mass s) hf
        rw [if_pos c]
        exact ⟨fun _ => ⟨⟨ht, h6.2⟩, nB_Bd hx (by omega), nB_Bd hy (by omega), g1⟩, g2⟩
      · rw [if_neg c]
        exact ⟨fun e => absurd e c, Mid_SI h⟩
    · have c : ¬ (0 < s.t ∧ s.g ≠ -1) := fun e => e.2 h.1
      rw [if_neg c]
      exact ⟨fun e => absurd e c, h.2⟩
theorem go2_I {P : Nat → PartS} {n : Nat} (hn : n ≤ 8) (hP : ∀ p, p < n → POk (P p)) {mass : Int32} (hm : 0 ≤ mass.toInt ∧ mass.toInt ≤ 99999) {U : Int} (hU : 41000 ≤ U) (hU2 : U ≤ 900000000)
    (d : Nat) (s : SS) (h : SI U s) : ok2 P n mass d s ∧ SI (U + 1599984) (go2 P n mass d s).2 := by
  cases d with
  | zero => exact ⟨trivial, SI_mono h (by omega)⟩
  | succ d =>
    unfold ok2 go2
    by_cases c : 0 < s.t ∧ s.g ≠ -1
    · obtain ⟨h1, h2, h3, h4, h5, h6, h7⟩ := h
      have ht := t_gt c.1
      have hxy : nB (20000 + U + 799992) (s.x - s.u) ∧ nB (20000 + U + 799992) (s.y - s.v) := by
        rcases h7 with e | e | e
        · exact ⟨nB_mono (nB_sub (h4 e).1 h1 (by omega)).1 (by omega), nB_mono (nB_sub (h4 e).2 h2 (by omega)).1 (by omega)⟩
        · exact ⟨nB_mono (h5 e).1 (by omega), nB_mono (h5 e).2 (by omega)⟩
        · exact absurd e c.2
      have hf := bwd_I hn hP hm (U := U) (V := U) hU hU2 (by omega) hxy.1 hxy.2 h1 h2 ⟨ht, h3.2⟩ (Or.inl (by omega))
      obtain ⟨g1, g2⟩ := go2_mid hn hP hm hU hU2 d (bwd P n mass s) hf
      rw [if_pos c]
      exact ⟨fun _ => ⟨⟨ht, h3.2⟩, nB_Bd hxy.1 (by omega), nB_Bd hxy.2 (by omega), g1⟩, g2⟩
    · rw [if_neg c]
      exact ⟨fun e => absurd e c, SI_mono h (by omega)⟩
