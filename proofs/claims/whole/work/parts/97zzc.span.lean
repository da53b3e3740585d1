/-! 97zzc: the PARTS of a list, one by one; one span at most -/
theorem p2_n {T : Nat → Nat} {n kd b b' : Nat} {v : Int32 × Option Int32 × Int32 × Int32} (h : p2 T n kd true b = Sum.inr (v, b')) : v.2.1 = none := by
  unfold p2 at h
  obtain ⟨m, b1, h1, h2⟩ := pbn_r h
  by_cases c : kd = 2 ∧ kk T n b1 = 4
  · rw [if_pos c, if_pos rfl] at h2
    exact absurd h2 (by intro h; cases h)
  · rw [if_neg c] at h2
    obtain ⟨st, b3, h5, h6⟩ := pbn_r h2
    have e' : (m, none, st.1, st.2) = v := congrArg Prod.fst (Sum.inr.inj h6)
    subst e'
    rfl
theorem p4_n {T : Nat → Nat} {n kd b b' : Nat} {r : PT} (h : p4 T n kd true b = Sum.inr (r, b')) : r.2.2.2.2.2.1 = none := by
  have h3 : ∀ {b b' : Nat} {v : Int32 × Int32 × Int32 × Option Int32 × Int32 × Int32}, p3 T n kd true b = Sum.inr (v, b') → v.2.2.2.1 = none := by
    intro b b' v h
    unfold p3 at h
    by_cases c : kd = 4
    · rw [if_pos c] at h
      obtain ⟨uv, b1, h1, h2⟩ := pbn_r h
      obtain ⟨q, b2, h3, h4⟩ := pbn_r h2
      have e' : (uv.1, uv.2, q) = v := congrArg Prod.fst (Sum.inr.inj h4)
      subst e'
      exact p2_n h3
    · rw [if_neg c] at h
      obtain ⟨q, b2, h3, h4⟩ := pbn_r h
      have e' : ((0 : Int32), (0 : Int32), q) = v := congrArg Prod.fst (Sum.inr.inj h4)
      subst e'
      exact p2_n h3
  unfold p4 at h
  by_cases c : kd = 0 ∨ kd = 4
  · rw [if_pos c] at h
    obtain ⟨xy, b1, h1, h2⟩ := pbn_r h
    obtain ⟨q, b2, h5, h4⟩ := pbn_r h2
    have e' : (xy.1, xy.2, q) = r := congrArg Prod.fst (Sum.inr.inj h4)
    subst e'
    exact h3 h5
  · rw [if_neg c] at h
    obtain ⟨q, b2, h5, h4⟩ := pbn_r h
    have e' : (((0 : Int32), (0 : Int32), q) : PT) = r := congrArg Prod.fst (Sum.inr.inj h4)
    subst e'
    exact h3 h5
def UQ : List (Nat × PT) → Prop
  | [] => True
  | e :: ps => (∀ h, e.2.2.2.2.2.2.1 = some h → spn ps = none) ∧ UQ ps
theorem semi_r {T : Nat → Nat} {n b : Nat} {s : List (Nat × PT) × Option (List (Nat × Nat))} {r : RS} (h : semi T n b s = Sum.inr r) : r.2 = s := by
  unfold semi at h
  by_cases c : kk T n b = 3
  · rw [if_pos c] at h
    have e := Sum.inr.inj h
    subst e
    rfl
  · rw [if_neg c] at h
    exact absurd h (by intro h; cases h)
theorem stp_u {T : Nat → Nat} {n b : Nat} {ps : List (Nat × PT)} {ru : Option (List (Nat × Nat))} {r : RS} (g : UQ ps) (h : stp T n b ps ru = Sum.inr r) : UQ r.2.1 := by
  unfold stp at h
  by_cases c : 20 ≤ kk T n b ∧ kk T n b ≤ 24
  · rw [if_pos c] at h
    cases hp : pt T n (kk T n b - 20) ps.length (spn ps).isSome b with
    | inl e => rw [hp] at h; exact absurd h (by intro h; cases h)
    | inr e =>
      obtain ⟨v, b1⟩ := e
      rw [hp] at h
      have e2 := semi_r h
      rw [e2]
      refine ⟨fun x hx => ?_, g⟩
      cases hs : spn ps with
      | none => rfl
      | some y =>
        rw [hs] at hp
        unfold pt at hp
        by_cases q : ps.length = 8
        · rw [if_pos q] at hp; exact absurd hp (by intro h; cases h)
        · rw [if_neg q] at hp
          have e3 : v.2.2.2.2.2.1 = none := p4_n hp
          have e4 : v.2.2.2.2.2.1 = some x := hx
          rw [e3] at e4
          cases e4
  · rw [if_neg c] at h
    by_cases c2 : kk T n b = 25
    · rw [if_pos c2] at h
      cases ru with
      | some o => exact absurd h (by intro h; cases h)
      | none =>
        cases hs : sy T n 600 false (nd T n b) 0 [] [] with
        | none =>
          have h' : (match sy T n 600 false (nd T n b) 0 [] [] with | none => (Sum.inl (1, 0) : (Nat × Nat) ⊕ RS) | some (Sum.inl e) => Sum.inl e | some (Sum.inr (b1, _, o)) => semi T n b1 (ps, some o)) = Sum.inr r := h
          rw [hs] at h'
          exact absurd h' (by intro h; cases h)
        | some y =>
          have h' : (match sy T n 600 false (nd T n b) 0 [] [] with | none => (Sum.inl (1, 0) : (Nat × Nat) ⊕ RS) | some (Sum.inl e) => Sum.inl e | some (Sum.inr (b1, _, o)) => semi T n b1 (ps, some o)) = Sum.inr r := h
          rw [hs] at h'
          rcases y with e | ⟨b1, k1, o⟩
          · exact absurd h' (by intro h; cases h)
          · have e2 := semi_r h'
            rw [e2]
            exact g
    · rw [if_neg c2] at h
      exact absurd h (by intro h; cases h)
theorem rl_u {T : Nat → Nat} {n : Nat} : ∀ {j b : Nat} {ps : List (Nat × PT)} {ru : Option (List (Nat × Nat))} {r : RS}, UQ ps → rl T n j b ps ru = some (Sum.inr r) → UQ r.2.1
  | 0, b, ps, ru, r, g, h => by rw [rl] at h; cases h
  | j + 1, b, ps, ru, r, g, h => by
    rw [rl] at h
    by_cases c : kk T n b = 0
    · rw [if_pos c] at h
      have e := Sum.inr.inj (Option.some.inj h)
      rw [← e]
      exact g
    · rw [if_neg c] at h
      cases hs : stp T n b ps ru with
      | inl e => rw [hs] at h; exact absurd h (by intro h; cases h)
      | inr s =>
        rw [hs] at h
        exact rl_u (stp_u g hs) h
def el : List (Nat × PT) → Nat → Nat × PT
  | [], _ => (0, 0, 0, 0, 0, 0, none, 0, 0)
  | e :: ps, p => if p = ps.length then e else el ps p
theorem el_h {M : sw_M} {d : Nat} : ∀ {ps : List (Nat × PT)}, HPs M d ps → ∀ p, p < ps.length → PHr M (d + 5 + p) (el ps p).1 (el ps p).2
  | [], _, p, hp => by exact absurd hp (Nat.not_lt_zero p)
  | e :: ps, g, p, hp => by
    rw [List.length_cons] at hp
    rw [el]
    by_cases q : p = ps.length
    · rw [if_pos q, q]
      exact g.1
    · rw [if_neg q]
      exact el_h g.2 p (by omega)
theorem el_m {M : sw_M} : ∀ {ps : List (Nat × PT)}, MPs M ps → ∀ p, p < ps.length → MPr M (8 + p) (el ps p).1 (el ps p).2
  | [], _, p, hp => by exact absurd hp (Nat.not_lt_zero p)
  | e :: ps, g, p, hp => by
    rw [List.length_cons] at hp
    rw [el]
    by_cases q : p = ps.length
    · rw [if_pos q, q]
      exact g.1
    · rw [if_neg q]
      exact el_m g.2 p (by omega)
theorem el_g : ∀ {ps : List (Nat × PT)}, GDl ps → ∀ p, p < ps.length → pok (el ps p).1 (el ps p).2
  | [], _, p, hp => by exact absurd hp (Nat.not_lt_zero p)
  | e :: ps, g, p, hp => by
    rw [List.length_cons] at hp
    rw [el]
    by_cases q : p = ps.length
    · rw [if_pos q]
      exact g.1
    · rw [if_neg q]
      exact el_g g.2 p (by omega)
theorem spn_b : ∀ {ps : List (Nat × PT)} {i : Nat} {lo hi : Int32}, spn ps = some (i, lo, hi) → i < ps.length
  | [], i, lo, hi, h => by cases h
  | (kd, x, y, u, v, m, so, s, t) :: ps, i, lo, hi, h => by
    rw [List.length_cons]
    cases so with
    | none =>
      have := spn_b (ps := ps) h
      omega
    | some z =>
      have e1 : (ps.length, m, z) = (i, lo, hi) := Option.some.inj h
      have : ps.length = i := congrArg Prod.fst e1
      omega
theorem el_s : ∀ {ps : List (Nat × PT)}, UQ ps → ∀ p, p < ps.length → (∀ h, (el ps p).2.2.2.2.2.2.1 = some h → spn ps = some (p, (el ps p).2.2.2.2.2.1, h)) ∧ ((el ps p).2.2.2.2.2.2.1 = none → ∀ i lo hi, spn ps = some (i, lo, hi) → ¬ i = p)
  | [], _, p, hp => by exact absurd hp (Nat.not_lt_zero p)
  | (kd, x, y, u, v, m, so, s, t) :: ps, g, p, hp => by
    rw [List.length_cons] at hp
    rw [el]
    by_cases q : p = ps.length
    · rw [if_pos q]
      refine ⟨fun h hh => ?_, fun hh i lo hi hs => ?_⟩
      · have hh' : so = some h := hh
        subst hh'
        rw [q]
        rfl
      · have hh' : so = none := hh
        subst hh'
        have := spn_b (ps := ps) hs
        omega
    · rw [if_neg q]
      have ih := el_s g.2 p (by omega)
      cases so with
      | none => exact ih
      | some z =>
        have hn : spn ps = none := g.1 z rfl
        refine ⟨fun h hh => ?_, fun hh i lo hi hs => ?_⟩
        · have := ih.1 h hh
          rw [hn] at this
          cases this
        · have e1 : (ps.length, m, z) = (i, lo, hi) := Option.some.inj hs
          have : ps.length = i := congrArg Prod.fst e1
          omega
theorem el_i {ps : List (Nat × PT)} (g : UQ ps) {i : Nat} {lo hi : Int32} (h : spn ps = some (i, lo, hi)) : (el ps i).2.2.2.2.2.1 = lo ∧ (el ps i).2.2.2.2.2.2.1 = some hi := by
  have hb := spn_b h
  obtain ⟨h1, h2⟩ := el_s g i hb
  cases hs : (el ps i).2.2.2.2.2.2.1 with
  | none => exact absurd rfl (h2 hs i lo hi h)
  | some x =>
    have e := h1 x hs
    rw [h] at e
    have e1 : (i, lo, hi) = (i, (el ps i).2.2.2.2.2.1, x) := Option.some.inj e
    have e2 := congrArg Prod.snd e1
    exact ⟨(congrArg Prod.fst e2).symm, by rw [show hi = x from congrArg Prod.snd e2]⟩
/-- a rule or none -/
def hu (ru : Option (List (Nat × Nat))) : Int32 := match ru with
  | none => 0
  | some _ => 1
def oo (ru : Option (List (Nat × Nat))) : List (Nat × Nat) := match ru with
  | none => []
  | some o => o
theorem ru_h {M : sw_M} {q : Nat} {ru : Option (List (Nat × Nat))} (g : RUh M q ru) : rd_I M q 5 = hu ru ∧ rd_I M q 6 = nI (oo ru).length ∧ rd_I M q 3 = nI (oo ru).length ∧ HOl M q (oo ru) := by
  cases ru with
  | none => exact ⟨g.1, g.2.1, g.2.2, trivial⟩
  | some o => exact g
theorem ru_m {M : sw_M} {ru : Option (List (Nat × Nat))} (g : RUm M ru) : rd_I M 80 21 = hu ru ∧ rd_I M 80 19 = nI (oo ru).length ∧ OM M (oo ru) := by
  cases ru with
  | none => exact ⟨g.1, g.2.1, trivial⟩
  | some o => exact g
theorem ru_g {ru : Option (List (Nat × Nat))} (g : GDr ru) : eos (oo ru) ∧ (oo ru).length ≤ 48 ∧ (hu ru ≠ 0 → dl (oo ru) = some 1) ∧ (hu ru = 0 ∨ hu ru = 1) := by
  cases ru with
  | none => exact ⟨trivial, Nat.zero_le _, fun h => absurd rfl h, Or.inl rfl⟩
  | some o =>
    have := g o rfl
    exact ⟨this.1.2, this.2, fun _ => this.1.1, Or.inr rfl⟩
