/-! 97zr: the lines, pure -/
def spn : List (Nat × PT) → Option (Nat × Int32 × Int32)
  | [] => none
  | e :: ps => match e.2.2.2.2.2.2.1 with
    | some h => some (ps.length, e.2.2.2.2.2.1, h)
    | none => spn ps
abbrev RS : Type := Nat × List (Nat × PT) × Option (List (Nat × Nat))
def semi (T : Nat → Nat) (n b : Nat) (s : List (Nat × PT) × Option (List (Nat × Nat))) : (Nat × Nat) ⊕ RS := if kk T n b = 3 then Sum.inr (nd T n b, s) else Sum.inl (1, pl T n b)
def stp (T : Nat → Nat) (n b : Nat) (ps : List (Nat × PT)) (ru : Option (List (Nat × Nat))) : (Nat × Nat) ⊕ RS :=
  if 20 ≤ kk T n b ∧ kk T n b ≤ 24 then (match pt T n (kk T n b - 20) ps.length (spn ps).isSome b with
    | Sum.inl e => Sum.inl e
    | Sum.inr (r, b1) => semi T n b1 ((kk T n b - 20, r) :: ps, ru))
  else if kk T n b = 25 then (match ru with
    | some _ => Sum.inl (3, pl T n b)
    | none => match sy T n 600 false (nd T n b) 0 [] [] with
      | none => Sum.inl (1, 0)
      | some (Sum.inl e) => Sum.inl e
      | some (Sum.inr (b1, _, o)) => semi T n b1 (ps, some o))
  else Sum.inl (1, pl T n b)
def rl (T : Nat → Nat) (n : Nat) : Nat → Nat → List (Nat × PT) → Option (List (Nat × Nat)) → Option ((Nat × Nat) ⊕ RS)
  | 0, _, _, _ => none
  | j + 1, b, ps, ru => if kk T n b = 0 then some (Sum.inr (b, ps, ru)) else match stp T n b ps ru with
    | Sum.inl e => some (Sum.inl e)
    | Sum.inr s => rl T n j s.1 s.2.1 s.2.2
/-- what may stand in a PART -/
def pok (kd : Nat) (r : PT) : Prop := kd < 5 ∧ (-9999 ≤ r.1.toInt ∧ r.1.toInt ≤ 9999) ∧ (-9999 ≤ r.2.1.toInt ∧ r.2.1.toInt ≤ 9999) ∧ (-99 ≤ r.2.2.1.toInt ∧ r.2.2.1.toInt ≤ 99) ∧ (-99 ≤ r.2.2.2.1.toInt ∧ r.2.2.2.1.toInt ≤ 99) ∧ (0 ≤ r.2.2.2.2.1.toInt ∧ r.2.2.2.2.1.toInt ≤ 99999) ∧ (1 ≤ r.2.2.2.2.2.2.1.toInt ∧ r.2.2.2.2.2.2.1.toInt ≤ 9999) ∧ (kd = 3 → 1 ≤ r.2.2.2.2.2.2.2.toInt ∧ r.2.2.2.2.2.2.2.toInt ≤ 99) ∧ (∀ h, r.2.2.2.2.2.1 = some h → kd = 2 ∧ r.2.2.2.2.1.toInt ≤ h.toInt ∧ h.toInt ≤ 99999)
theorem pbn_r {α β : Type} {r : PE α} {k : α → Nat → PE β} {v : β} {b : Nat} (h : pbn r k = Sum.inr (v, b)) : ∃ u b1, r = Sum.inr (u, b1) ∧ k u b1 = Sum.inr (v, b) := by
  rcases r with e | ⟨u, b1⟩
  · exact absurd h (by intro h; cases h)
  · exact ⟨u, b1, rfl, h⟩
theorem nuq_i {T : Nat → Nat} {n lo hi b b' : Nat} {v : Int32} (hh : hi ≤ 99999) (h : nuq T n lo hi b = Sum.inr (v, b')) : (lo : Int) ≤ v.toInt ∧ v.toInt ≤ (hi : Int) := by
  obtain ⟨w, h1, h2, h3, h4, h5⟩ := nuq_v h
  rw [h1, nI_toInt (by omega)]
  omega
theorem suq_i {T : Nat → Nat} {n hi b b' : Nat} {v : Int32} (hh : hi ≤ 99999) (h : suq T n hi b = Sum.inr (v, b')) : -(hi : Int) ≤ v.toInt ∧ v.toInt ≤ (hi : Int) := by
  unfold suq at h
  by_cases c : kk T n b = 8
  · rw [if_pos c] at h
    obtain ⟨u, b1, h1, h2⟩ := pbn_r h
    have hu := nuq_i hh h1
    have e := congrArg Prod.fst (Sum.inr.inj h2)
    have e' : -u = v := e
    have : v.toInt = -u.toInt := by
      rw [← e', Int32.toInt_neg]
      refine Int.bmod_eq_of_le ?_ ?_ <;> omega
    omega
  · rw [if_neg c] at h
    have hu := nuq_i hh h
    omega
theorem prs_i {T : Nat → Nat} {n hi b b' : Nat} {v : Int32 × Int32} (hh : hi ≤ 99999) (h : prs T n hi b = Sum.inr (v, b')) : (-(hi : Int) ≤ v.1.toInt ∧ v.1.toInt ≤ (hi : Int)) ∧ (-(hi : Int) ≤ v.2.toInt ∧ v.2.toInt ≤ (hi : Int)) := by
  unfold prs at h
  obtain ⟨u, b1, h1, h2⟩ := pbn_r h
  obtain ⟨w, b2, h3, h4⟩ := pbn_r h2
  have e := congrArg Prod.fst (Sum.inr.inj h4)
  have e' : (u, w) = v := e
  subst e'
  exact ⟨suq_i hh h1, suq_i hh h3⟩
theorem p1_i {T : Nat → Nat} {n kd b b' : Nat} {v : Int32 × Int32} (h : p1 T n kd b = Sum.inr (v, b')) : (1 ≤ v.1.toInt ∧ v.1.toInt ≤ 9999) ∧ (kd = 3 → 1 ≤ v.2.toInt ∧ v.2.toInt ≤ 99) := by
  unfold p1 at h
  obtain ⟨u, b1, h1, h2⟩ := pbn_r h
  have hu := nuq_i (by omega) h1
  by_cases c : kd = 3
  · rw [if_pos c] at h2
    obtain ⟨w, b2, h3, h4⟩ := pbn_r h2
    have hw := nuq_i (by omega) h3
    have e := congrArg Prod.fst (Sum.inr.inj h4)
    have e' : (u, w) = v := e
    subst e'
    exact ⟨hu, fun _ => hw⟩
  · rw [if_neg c] at h2
    have e := congrArg Prod.fst (Sum.inr.inj h2)
    have e' : (u, 1) = v := e
    subst e'
    exact ⟨hu, fun h => absurd h c⟩
theorem p2_i {T : Nat → Nat} {n kd b b' : Nat} {sp : Bool} {v : Int32 × Option Int32 × Int32 × Int32} (h : p2 T n kd sp b = Sum.inr (v, b')) : (0 ≤ v.1.toInt ∧ v.1.toInt ≤ 99999) ∧ (1 ≤ v.2.2.1.toInt ∧ v.2.2.1.toInt ≤ 9999) ∧ (kd = 3 → 1 ≤ v.2.2.2.toInt ∧ v.2.2.2.toInt ≤ 99) ∧ (∀ h, v.2.1 = some h → kd = 2 ∧ v.1.toInt ≤ h.toInt ∧ h.toInt ≤ 99999) := by
  unfold p2 at h
  obtain ⟨m, b1, h1, h2⟩ := pbn_r h
  have hm := nuq_i (by omega) h1
  obtain ⟨w, w1, w2, w3, w4, w5⟩ := nuq_v h1
  by_cases c : kd = 2 ∧ kk T n b1 = 4
  · rw [if_pos c] at h2
    cases sp with
    | true => rw [if_pos rfl] at h2; exact absurd h2 (by intro h; cases h)
    | false =>
      rw [if_neg (by decide)] at h2
      obtain ⟨hh, b2, h3, h4⟩ := pbn_r h2
      obtain ⟨st, b3, h5, h6⟩ := pbn_r h4
      have hx := nuq_i (by omega) h3
      have hs := p1_i h5
      have e := congrArg Prod.fst (Sum.inr.inj h6)
      have e' : (m, some hh, st.1, st.2) = v := e
      subst e'
      refine ⟨hm, hs.1, hs.2, fun x hx' => ?_⟩
      have : hh = x := Option.some.inj hx'
      subst this
      rw [w1, cl_n (show w < 2 ^ 31 by omega)] at hx
      refine ⟨c.1, ?_, hx.2⟩
      show m.toInt ≤ _
      rw [w1, nI_toInt (by omega)]
      exact hx.1
  · rw [if_neg c] at h2
    obtain ⟨st, b3, h5, h6⟩ := pbn_r h2
    have hs := p1_i h5
    have e := congrArg Prod.fst (Sum.inr.inj h6)
    have e' : (m, none, st.1, st.2) = v := e
    subst e'
    exact ⟨hm, hs.1, hs.2, fun x hx' => by cases hx'⟩
theorem p4_i {T : Nat → Nat} {n kd b b' : Nat} {sp : Bool} {r : PT} (hk : kd < 5) (h : p4 T n kd sp b = Sum.inr (r, b')) : pok kd r := by
  have h3 : ∀ {b b' : Nat} {v : Int32 × Int32 × Int32 × Option Int32 × Int32 × Int32}, p3 T n kd sp b = Sum.inr (v, b') → (-99 ≤ v.1.toInt ∧ v.1.toInt ≤ 99) ∧ (-99 ≤ v.2.1.toInt ∧ v.2.1.toInt ≤ 99) ∧ (0 ≤ v.2.2.1.toInt ∧ v.2.2.1.toInt ≤ 99999) ∧ (1 ≤ v.2.2.2.2.1.toInt ∧ v.2.2.2.2.1.toInt ≤ 9999) ∧ (kd = 3 → 1 ≤ v.2.2.2.2.2.toInt ∧ v.2.2.2.2.2.toInt ≤ 99) ∧ (∀ h, v.2.2.2.1 = some h → kd = 2 ∧ v.2.2.1.toInt ≤ h.toInt ∧ h.toInt ≤ 99999) := by
    intro b b' v h
    unfold p3 at h
    by_cases c : kd = 4
    · rw [if_pos c] at h
      obtain ⟨uv, b1, h1, h2⟩ := pbn_r h
      obtain ⟨q, b2, h3, h4⟩ := pbn_r h2
      have hu := prs_i (by omega) h1
      have hq := p2_i h3
      have e := congrArg Prod.fst (Sum.inr.inj h4)
      have e' : (uv.1, uv.2, q) = v := e
      subst e'
      exact ⟨hu.1, hu.2, hq⟩
    · rw [if_neg c] at h
      obtain ⟨q, b2, h3, h4⟩ := pbn_r h
      have hq := p2_i h3
      have e := congrArg Prod.fst (Sum.inr.inj h4)
      have e' : ((0 : Int32), (0 : Int32), q) = v := e
      subst e'
      exact ⟨⟨by show (-99 : Int) ≤ 0; omega, by show (0 : Int) ≤ 99; omega⟩, ⟨by show (-99 : Int) ≤ 0; omega, by show (0 : Int) ≤ 99; omega⟩, hq⟩
  unfold p4 at h
  by_cases c : kd = 0 ∨ kd = 4
  · rw [if_pos c] at h
    obtain ⟨xy, b1, h1, h2⟩ := pbn_r h
    obtain ⟨q, b2, h5, h4⟩ := pbn_r h2
    have hu := prs_i (by omega) h1
    have hq := h3 h5
    have e := congrArg Prod.fst (Sum.inr.inj h4)
    have e' : (xy.1, xy.2, q) = r := e
    subst e'
    exact ⟨hk, hu.1, hu.2, hq⟩
  · rw [if_neg c] at h
    obtain ⟨q, b2, h5, h4⟩ := pbn_r h
    have hq := h3 h5
    have e := congrArg Prod.fst (Sum.inr.inj h4)
    have e' : (((0 : Int32), (0 : Int32), q) : PT) = r := e
    subst e'
    exact ⟨hk, ⟨by show (-9999 : Int) ≤ 0; omega, by show (0 : Int) ≤ 9999; omega⟩, ⟨by show (-9999 : Int) ≤ 0; omega, by show (0 : Int) ≤ 9999; omega⟩, hq⟩
