/-! 97zt: a line goes on -/
theorem nuq_p {T : Nat → Nat} {n lo hi b b' : Nat} {v : Int32} (hn : n ≤ 500) (hb : b ≤ n) (h : nuq T n lo hi b = Sum.inr (v, b')) : b < b' ∧ b' ≤ n := by
  obtain ⟨w, h1, h2, h3, h4, h5⟩ := nuq_v h
  have := nd_b T n b hn hb
  have := this.2 (by omega)
  omega
theorem suq_p {T : Nat → Nat} {n hi b b' : Nat} {v : Int32} (hn : n ≤ 500) (hb : b ≤ n) (h : suq T n hi b = Sum.inr (v, b')) : b < b' ∧ b' ≤ n := by
  unfold suq at h
  by_cases c : kk T n b = 8
  · rw [if_pos c] at h
    obtain ⟨u, b1, h1, h2⟩ := pbn_r h
    have q := nd_b T n b hn hb
    have q2 := q.2 (by omega)
    have hu := nuq_p hn q.1 h1
    have e := congrArg Prod.snd (Sum.inr.inj h2)
    have e' : b1 = b' := e
    omega
  · rw [if_neg c] at h
    exact nuq_p hn hb h
theorem prs_p {T : Nat → Nat} {n hi b b' : Nat} {v : Int32 × Int32} (hn : n ≤ 500) (hb : b ≤ n) (h : prs T n hi b = Sum.inr (v, b')) : b < b' ∧ b' ≤ n := by
  unfold prs at h
  obtain ⟨u, b1, h1, h2⟩ := pbn_r h
  obtain ⟨w, b2, h3, h4⟩ := pbn_r h2
  have k1 := suq_p hn hb h1
  have k2 := suq_p hn k1.2 h3
  have e : b2 = b' := congrArg Prod.snd (Sum.inr.inj h4)
  omega
theorem p1_p {T : Nat → Nat} {n kd b b' : Nat} {v : Int32 × Int32} (hn : n ≤ 500) (hb : b ≤ n) (h : p1 T n kd b = Sum.inr (v, b')) : b < b' ∧ b' ≤ n := by
  unfold p1 at h
  obtain ⟨u, b1, h1, h2⟩ := pbn_r h
  have k1 := nuq_p hn hb h1
  by_cases c : kd = 3
  · rw [if_pos c] at h2
    obtain ⟨w, b2, h3, h4⟩ := pbn_r h2
    have k2 := nuq_p hn k1.2 h3
    have e : b2 = b' := congrArg Prod.snd (Sum.inr.inj h4)
    omega
  · rw [if_neg c] at h2
    have e : b1 = b' := congrArg Prod.snd (Sum.inr.inj h2)
    omega
theorem p2_p {T : Nat → Nat} {n kd b b' : Nat} {sp : Bool} {v : Int32 × Option Int32 × Int32 × Int32} (hn : n ≤ 500) (hb : b ≤ n) (h : p2 T n kd sp b = Sum.inr (v, b')) : b < b' ∧ b' ≤ n := by
  unfold p2 at h
  obtain ⟨m, b1, h1, h2⟩ := pbn_r h
  have k1 := nuq_p hn hb h1
  by_cases c : kd = 2 ∧ kk T n b1 = 4
  · rw [if_pos c] at h2
    cases sp with
    | true => rw [if_pos rfl] at h2; exact absurd h2 (by intro h; cases h)
    | false =>
      rw [if_neg (by decide)] at h2
      obtain ⟨hh, b2, h3, h4⟩ := pbn_r h2
      obtain ⟨st, b3, h5, h6⟩ := pbn_r h4
      have q := nd_b T n b1 hn k1.2
      have q2 := q.2 (by omega)
      have k2 := nuq_p hn q.1 h3
      have k3 := p1_p hn k2.2 h5
      have e : b3 = b' := congrArg Prod.snd (Sum.inr.inj h6)
      omega
  · rw [if_neg c] at h2
    obtain ⟨st, b3, h5, h6⟩ := pbn_r h2
    have k3 := p1_p hn k1.2 h5
    have e : b3 = b' := congrArg Prod.snd (Sum.inr.inj h6)
    omega
theorem p3_p {T : Nat → Nat} {n kd b b' : Nat} {sp : Bool} {v : Int32 × Int32 × Int32 × Option Int32 × Int32 × Int32} (hn : n ≤ 500) (hb : b ≤ n) (h : p3 T n kd sp b = Sum.inr (v, b')) : b < b' ∧ b' ≤ n := by
  unfold p3 at h
  by_cases c : kd = 4
  · rw [if_pos c] at h
    obtain ⟨uv, b1, h1, h2⟩ := pbn_r h
    obtain ⟨q, b2, h3, h4⟩ := pbn_r h2
    have k1 := prs_p hn hb h1
    have k2 := p2_p hn k1.2 h3
    have e : b2 = b' := congrArg Prod.snd (Sum.inr.inj h4)
    omega
  · rw [if_neg c] at h
    obtain ⟨q, b2, h3, h4⟩ := pbn_r h
    have k2 := p2_p hn hb h3
    have e : b2 = b' := congrArg Prod.snd (Sum.inr.inj h4)
    omega
theorem p4_p {T : Nat → Nat} {n kd b b' : Nat} {sp : Bool} {v : PT} (hn : n ≤ 500) (hb : b ≤ n) (h : p4 T n kd sp b = Sum.inr (v, b')) : b < b' ∧ b' ≤ n := by
  unfold p4 at h
  by_cases c : kd = 0 ∨ kd = 4
  · rw [if_pos c] at h
    obtain ⟨uv, b1, h1, h2⟩ := pbn_r h
    obtain ⟨q, b2, h3, h4⟩ := pbn_r h2
    have k1 := prs_p hn hb h1
    have k2 := p3_p hn k1.2 h3
    have e : b2 = b' := congrArg Prod.snd (Sum.inr.inj h4)
    omega
  · rw [if_neg c] at h
    obtain ⟨q, b2, h3, h4⟩ := pbn_r h
    have k2 := p3_p hn hb h3
    have e : b2 = b' := congrArg Prod.snd (Sum.inr.inj h4)
    omega
theorem sy_p (T : Nat → Nat) (n : Nat) (hn : n ≤ 500) : ∀ (j : Nat) (t : Bool) (b k : Nat) (o : List (Nat × Nat)) (P : List Nat) (b1 k1 : Nat) (o1 : List (Nat × Nat)), b ≤ n → sy T n j t b k o P = some (Sum.inr (b1, k1, o1)) → b ≤ b1 ∧ b1 ≤ n
  | 0, t, b, k, o, P, b1, k1, o1, hb, h => by rw [sy] at h; exact absurd h (by intro h; cases h)
  | j + 1, false, b, k, o, P, b1, k1, o1, hb, h => by
    have q := nd_b T n b hn hb
    have go : ∀ (t : Bool) (k : Nat) (o : List (Nat × Nat)) (P : List Nat), ¬ kk T n b = 0 → sy T n j t (nd T n b) k o P = some (Sum.inr (b1, k1, o1)) → b ≤ b1 ∧ b1 ≤ n := fun t k o P hz h => by
      have := sy_p T n hn j t (nd T n b) k o P b1 k1 o1 q.1 h
      have := q.2 hz
      omega
    have no : ∀ e : Nat × Nat, ¬ (some (Sum.inl e) : Option RR) = some (Sum.inr (b1, k1, o1)) := fun e h => by cases h
    rw [sy] at h
    by_cases c2 : kk T n b = 2
    · rw [if_pos c2] at h
      by_cases a : 99999 < vm T n b
      · rw [if_pos a] at h; exact absurd h (no _)
      rw [if_neg a] at h
      by_cases a2 : k = 48
      · rw [if_pos a2] at h; exact absurd h (no _)
      rw [if_neg a2] at h
      exact go _ _ _ _ (by omega) h
    rw [if_neg c2] at h
    by_cases c29 : 29 ≤ kk T n b
    · rw [if_pos c29] at h
      by_cases a2 : k = 48
      · rw [if_pos a2] at h; exact absurd h (no _)
      rw [if_neg a2] at h
      exact go _ _ _ _ (by omega) h
    rw [if_neg c29] at h
    by_cases c5 : kk T n b = 5
    · rw [if_pos c5] at h
      by_cases a2 : op P = 8
      · rw [if_pos a2] at h; exact absurd h (no _)
      rw [if_neg a2] at h
      exact go _ _ _ _ (by omega) h
    rw [if_neg c5] at h
    by_cases c28 : kk T n b = 28 ∧ tq P < 4
    · rw [if_pos c28] at h
      by_cases a2 : k = 48
      · rw [if_pos a2] at h; exact absurd h (no _)
      rw [if_neg a2] at h
      exact go _ _ _ _ (by omega) h
    rw [if_neg c28] at h
    exact absurd h (no _)
  | j + 1, true, b, k, o, P, b1, k1, o1, hb, h => by
    have q := nd_b T n b hn hb
    have go : ∀ (t : Bool) (k : Nat) (o : List (Nat × Nat)) (P : List Nat), ¬ kk T n b = 0 → sy T n j t (nd T n b) k o P = some (Sum.inr (b1, k1, o1)) → b ≤ b1 ∧ b1 ≤ n := fun t k o P hz h => by
      have := sy_p T n hn j t (nd T n b) k o P b1 k1 o1 q.1 h
      have := q.2 hz
      omega
    have no : ∀ e : Nat × Nat, ¬ (some (Sum.inl e) : Option RR) = some (Sum.inr (b1, k1, o1)) := fun e h => by cases h
    rw [sy] at h
    by_cases c0 : ob (kk T n b) = 0
    · rw [if_pos c0] at h
      by_cases a : kk T n b = 6 ∧ 0 < op P
      · rw [if_pos a] at h
        exact go _ _ _ _ (by omega) h
      rw [if_neg a] at h
      by_cases a2 : 0 < op P
      · rw [if_pos a2] at h; exact absurd h (no _)
      rw [if_neg a2] at h
      have e := Sum.inr.inj (Option.some.inj h)
      have e1 : b = b1 := congrArg Prod.fst e
      omega
    have kz : ¬ kk T n b = 0 := fun h => c0 (by rw [h]; decide)
    rw [if_neg c0] at h
    by_cases c4 : ob (kk T n b) = 4
    · rw [if_pos c4] at h
      by_cases a : tq (pr 5 P o).1 = 4
      · rw [if_pos a] at h; exact absurd h (no _)
      rw [if_neg a] at h
      by_cases a2 : k = 48
      · rw [if_pos a2] at h; exact absurd h (no _)
      rw [if_neg a2] at h
      exact go _ _ _ _ kz h
    rw [if_neg c4] at h
    by_cases a2 : k = 48
    · rw [if_pos a2] at h; exact absurd h (no _)
    rw [if_neg a2] at h
    exact go _ _ _ _ kz h
theorem semi_p {T : Nat → Nat} {n b : Nat} {s : List (Nat × PT) × Option (List (Nat × Nat))} {x : RS} (hn : n ≤ 500) (hb : b ≤ n) (h : semi T n b s = Sum.inr x) : b < x.1 ∧ x.1 ≤ n := by
  unfold semi at h
  by_cases c : kk T n b = 3
  · rw [if_pos c] at h
    have q := nd_b T n b hn hb
    have q2 := q.2 (by omega)
    have e : nd T n b = x.1 := congrArg Prod.fst (Sum.inr.inj h)
    omega
  · rw [if_neg c] at h
    exact absurd h (by intro h; cases h)
theorem stp_p {T : Nat → Nat} {n b : Nat} {ps : List (Nat × PT)} {ru : Option (List (Nat × Nat))} {x : RS} (hn : n ≤ 500) (hb : b ≤ n) (h : stp T n b ps ru = Sum.inr x) : b < x.1 ∧ x.1 ≤ n := by
  have q := nd_b T n b hn hb
  unfold stp at h
  by_cases c : 20 ≤ kk T n b ∧ kk T n b ≤ 24
  · rw [if_pos c] at h
    cases hr : pt T n (kk T n b - 20) ps.length (spn ps).isSome b with
    | inl e => rw [hr] at h; exact absurd h (by intro h; cases h)
    | inr e =>
      rw [hr] at h
      obtain ⟨r, b1⟩ := e
      unfold pt at hr
      by_cases c8 : ps.length = 8
      · rw [if_pos c8] at hr; exact absurd hr (by intro h; cases h)
      rw [if_neg c8] at hr
      have k1 := p4_p hn q.1 hr
      have k2 := semi_p hn k1.2 h
      have := q.2 (by omega)
      omega
  rw [if_neg c] at h
  by_cases c25 : kk T n b = 25
  · rw [if_pos c25] at h
    cases ru with
    | some o => exact absurd h (by intro h; cases h)
    | none =>
      cases hs : sy T n 600 false (nd T n b) 0 [] [] with
      | none => rw [hs] at h; exact absurd h (by intro h; cases h)
      | some r =>
        rw [hs] at h
        rcases r with e | ⟨b1, k1, o1⟩
        · exact absurd h (by intro h; cases h)
        · have k1 := sy_p T n hn 600 false (nd T n b) 0 [] [] b1 k1 o1 q.1 hs
          have k2 := semi_p hn k1.2 h
          omega
  rw [if_neg c25] at h
  exact absurd h (by intro h; cases h)
