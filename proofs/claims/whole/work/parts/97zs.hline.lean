/-! 97zs: the lines in the house -/
def so8 (so : Option Int32) : Int32 := match so with
  | none => 0
  | some _ => 1
def PHr (M : sw_M) (q kd : Nat) (r : PT) : Prop := rd_I M q 0 = nI (20 + kd) ∧ rd_I M q 1 = r.1 ∧ rd_I M q 2 = r.2.1 ∧ rd_I M q 3 = r.2.2.1 ∧ rd_I M q 4 = r.2.2.2.1 ∧ rd_I M q 5 = r.2.2.2.2.1 ∧ rd_I M q 6 = r.2.2.2.2.2.2.1 ∧ (kd = 3 → rd_I M q 7 = r.2.2.2.2.2.2.2) ∧ rd_I M q 8 = so8 r.2.2.2.2.2.1
def HPs (M : sw_M) (d : Nat) : List (Nat × PT) → Prop
  | [] => True
  | e :: ps => PHr M (d + 5 + ps.length) e.1 e.2 ∧ HPs M d ps
def SPn (M : sw_M) (ps : List (Nat × PT)) : Prop := match spn ps with
  | none => rd_I M 17 2 = 0 ∧ rd_I M 18 3 = 0 ∧ rd_I M 18 4 = 0 ∧ rd_I M 18 5 = 0
  | some (_, lo, hi) => rd_I M 17 2 = 1 ∧ rd_I M 18 3 = lo ∧ rd_I M 18 4 = hi ∧ rd_I M 18 5 = lo
def RUh (M : sw_M) (q : Nat) (ru : Option (List (Nat × Nat))) : Prop := match ru with
  | none => rd_I M q 5 = 0 ∧ rd_I M q 6 = 0 ∧ rd_I M q 3 = 0
  | some o => rd_I M q 5 = 1 ∧ rd_I M q 6 = nI o.length ∧ rd_I M q 3 = nI o.length ∧ HOl M q o
def HL (M : sw_M) (T : Nat → Nat) (n d b : Nat) (ps : List (Nat × PT)) (ru : Option (List (Nat × Nat))) : Prop := HB M T n b ∧ (d = 4 ∨ d = 19) ∧ rd_R M 18 0 = d ∧ rd_R M 18 1 = d + 1 ∧ rd_I M 18 2 = nI ps.length ∧ ps.length ≤ 8 ∧ HPs M d ps ∧ SPn M ps ∧ RUh M (d + 1) ru
def GDl : List (Nat × PT) → Prop
  | [] => True
  | e :: ps => pok e.1 e.2 ∧ GDl ps
def GDr (ru : Option (List (Nat × Nat))) : Prop := ∀ o, ru = some o → WF o 1 ∧ o.length ≤ 48
def ARh (d a k : Nat) : Prop := (a = 17 ∧ (k = 2 ∨ (4 ≤ k ∧ k ≤ 10))) ∨ (a = 18 ∧ 2 ≤ k ∧ k ≤ 5) ∨ (a = d + 1 ∧ (k = 3 ∨ k = 5 ∨ k = 6)) ∨ a = d + 2 ∨ a = d + 3 ∨ (d + 5 ≤ a ∧ a ≤ d + 12)
theorem HPs_fr {A : Nat → Nat → Prop} {M W : sw_M} {d m : Nat} (h : Fr A M W) (hA : ∀ a k, d + 5 ≤ a → a < d + 5 + m → ¬ A a k) : ∀ {ps : List (Nat × PT)}, ps.length ≤ m → HPs M d ps → HPs W d ps
  | [], _, _ => trivial
  | e :: ps, hl, g => by
    rw [List.length_cons] at hl
    have i : ∀ k, rd_I W (d + 5 + ps.length) k = rd_I M (d + 5 + ps.length) k := fun k => h.I _ k (hA _ k (by omega) (by omega))
    obtain ⟨⟨a0, a1, a2, a3, a4, a5, a6, a7, a8⟩, g2⟩ := g
    exact ⟨⟨(i 0).trans a0, (i 1).trans a1, (i 2).trans a2, (i 3).trans a3, (i 4).trans a4, (i 5).trans a5, (i 6).trans a6, fun c => (i 7).trans (a7 c), (i 8).trans a8⟩, HPs_fr h hA (by omega) g2⟩
theorem SPn_e {M W : sw_M} {ps : List (Nat × PT)} (h1 : rd_I W 17 2 = rd_I M 17 2) (h3 : ∀ k, 3 ≤ k → k ≤ 5 → rd_I W 18 k = rd_I M 18 k) (g : SPn M ps) : SPn W ps := by
  unfold SPn at *
  cases hs : spn ps with
  | none =>
    rw [hs] at g
    exact ⟨h1.trans g.1, (h3 3 (by omega) (by omega)).trans g.2.1, (h3 4 (by omega) (by omega)).trans g.2.2.1, (h3 5 (by omega) (by omega)).trans g.2.2.2⟩
  | some e =>
    rw [hs] at g
    exact ⟨h1.trans g.1, (h3 3 (by omega) (by omega)).trans g.2.1, (h3 4 (by omega) (by omega)).trans g.2.2.1, (h3 5 (by omega) (by omega)).trans g.2.2.2⟩
theorem RUh_fr {A : Nat → Nat → Prop} {M W : sw_M} {q : Nat} {ru : Option (List (Nat × Nat))} (h : Fr A M W) (h0 : ¬ A q 3) (h5 : ¬ A q 5) (h6 : ¬ A q 6) (h1 : ∀ k, ¬ A (q + 1) k) (h2 : ∀ k, ¬ A (q + 2) k) (g : RUh M q ru) : RUh W q ru := by
  cases ru with
  | none => exact ⟨(h.I _ _ h5).trans g.1, (h.I _ _ h6).trans g.2.1, (h.I _ _ h0).trans g.2.2⟩
  | some o => exact ⟨(h.I _ _ h5).trans g.1, (h.I _ _ h6).trans g.2.1, (h.I _ _ h0).trans g.2.2.1, HOl_fr h h1 h2 g.2.2.2⟩
theorem HB.expect {M : sw_M} {T : Nat → Nat} {n b : Nat} (g : HB M T n b) (N : Nat) (hN : 1000 ≤ N) (t : Nat) (ht : t < 35) :
    (kk T n b = t ∧ ∃ W, f_Reader_expect N 17 (nI t) M = some (1, W) ∧ Fr A17 M W ∧ HB W T n (nd T n b)) ∨ (¬ kk T n b = t ∧ ∃ W, f_Reader_expect N 17 (nI t) M = some (0, W) ∧ Fr A8 M W ∧ FH W 1 (pl T n b)) := by
  have hH := g.1.1
  have h6 := g.2.2.2.2.1
  have kc := kk_c T n b
  by_cases c : kk T n b = t
  · left
    obtain ⟨W, w1, w2, w3⟩ := g.adv N hN
    refine ⟨c, W, ?_, w2, w3⟩
    unfold f_Reader_expect
    rw [ok_17 hH.1, gd_T, h6, if_pos (by rw [c]), w1, bn_S]
  · right
    obtain ⟨W, w1, w2, w3⟩ := g.wrong N 1 (by omega) (by omega)
    refine ⟨c, W, ?_, w2, w3⟩
    unfold f_Reader_expect
    rw [ok_17 hH.1, gd_T, h6, if_neg (fun h => c ((nI_eq (by omega) (by omega)).1 h)), show (1 : Int32) = nI 1 from rfl]
    exact w1
/-- a line's end -/
theorem hsemi (N : Nat) (hN : 1000 ≤ N) (k46 : Nat → Int32 → sw_M → Option sw_M) {M : sw_M} {T : Nat → Nat} {n d b i : Nat} {ps : List (Nat × PT)} {ru : Option (List (Nat × Nat))} (g : HL M T n d b ps ru) :
    ∃ W, f_Reader_read_128 N k46 17 (nI i) 1 M = k46 17 (nI (i + 1)) W ∧ Fr (ARh d) M W ∧ match semi T n b (ps, ru) with
      | Sum.inl (f, p) => FH W f p
      | Sum.inr (b', ps', ru') => HL W T n d b' ps' ru' ∧ ps' = ps ∧ ru' = ru ∧ b' = nd T n b ∧ kk T n b = 3 := by
  obtain ⟨g1, g2, g3, g4, g5, g6, g7, g8, g9⟩ := g
  unfold f_Reader_read_128 f_Reader_read_141 semi
  rw [if_neg (by decide), ok_17 g1.1.1.1, gd_T]
  rcases g1.expect N hN 3 (by omega) with ⟨c, W, w1, w2, w3⟩ | ⟨c, W, w1, w2, w3⟩
  · refine ⟨W, ?_, w2.mono (fun a k h => by unfold A17 at h; unfold ARh; omega), ?_⟩
    · rw [show (3 : Int32) = nI 3 from rfl, w1, bn_S, nI_1]
    · rw [if_pos c]
      refine ⟨⟨w3, g2, (w2.R _ _).trans g3, (w2.R _ _).trans g4, (w2.I 18 2 (by unfold A17; omega)).trans g5, g6, HPs_fr w2 (m := 8) (fun a k h1 h2 => by unfold A17; omega) g6 g7, SPn_e (w2.I 17 2 (by unfold A17; omega)) (fun k _ _ => w2.I 18 k (by unfold A17; omega)) g8, RUh_fr w2 (by unfold A17; omega) (by unfold A17; omega) (by unfold A17; omega) (fun k => by unfold A17; omega) (fun k => by unfold A17; omega) g9⟩, rfl, rfl, rfl, c⟩
  · refine ⟨W, ?_, w2.mono (fun a k h => by unfold A8 at h; unfold ARh; omega), ?_⟩
    · rw [show (3 : Int32) = nI 3 from rfl, w1, bn_S, nI_1]
    · rw [if_neg c]
      exact w3
theorem SPn_sp {M : sw_M} {ps : List (Nat × PT)} (g : SPn M ps) : rd_I M 17 2 = spI (spn ps).isSome := by
  unfold SPn at g
  cases hs : spn ps with
  | none => rw [hs] at g; exact g.1
  | some e => rw [hs] at g; exact g.1
theorem hl_part (N : Nat) (hN : 1000 ≤ N) (k46 : Nat → Int32 → sw_M → Option sw_M) {M : sw_M} {T : Nat → Nat} {n d b i : Nat} {ps : List (Nat × PT)} {ru : Option (List (Nat × Nat))} (g : HL M T n d b ps ru) (c1 : 20 ≤ kk T n b) (c2 : kk T n b ≤ 24) :
    ∃ W, f_Reader_read_91 N k46 17 (nI i) 1 M = k46 17 (nI (i + 1)) W ∧ Fr (ARh d) M W ∧ match stp T n b ps ru with
      | Sum.inl (f, p) => FH W f p
      | Sum.inr (b', ps', ru') => HL W T n d b' ps' ru' ∧ (GDl ps → GDl ps') ∧ ru' = ru := by
  obtain ⟨g1, g2, g3, g4, g5, g6, g7, g8, g9⟩ := g
  have hH := g1.1.1
  have h6 := g1.2.2.2.2.1
  unfold f_Reader_read_91 stp
  rw [if_neg (by decide), if_pos ⟨c1, c2⟩, ok_17 hH.1, gd_T, h6]
  have dq : ps.length < 8 → d + 5 + min ps.length 7 = dpa M ps.length := fun h => by
    rcases dpa_in hH h with e | e <;> rw [e.2] <;> rw [g3] at e <;> omega
  have hp := hpart N hN (kd := kk T n b - 20) (cnt := ps.length) (q := d + 5 + min ps.length 7) (sp := (spn ps).isSome) g1 (by omega) g6 g5 (SPn_sp g8) dq
  rw [show 20 + (kk T n b - 20) = kk T n b by omega] at hp
  have hpok : ∀ r b1, pt T n (kk T n b - 20) ps.length (spn ps).isSome b = Sum.inr (r, b1) → ps.length < 8 ∧ pok (kk T n b - 20) r := fun r b1 h => by
    unfold pt at h
    by_cases q : ps.length = 8
    · rw [if_pos q] at h; exact absurd h (by intro h; cases h)
    · rw [if_neg q] at h
      exact ⟨by omega, p4_i (by omega) h⟩
  cases hr : pt T n (kk T n b - 20) ps.length (spn ps).isSome b with
  | inl e =>
    rw [hr] at hp
    obtain ⟨f, p⟩ := e
    obtain ⟨W, w1, w2, w3⟩ := hp
    refine ⟨W, ?_, w2.mono (fun a k h => by unfold A5h A4h A3h A2h A1h A8 at h; unfold ARh; omega), w3⟩
    rw [w1, bn_S]
    unfold f_Reader_read_128 f_Reader_read_141
    rw [if_pos rfl, nI_1]
  | inr e =>
    rw [hr] at hp
    obtain ⟨r, b1⟩ := e
    obtain ⟨W, w1, w2, w3, w4, w5⟩ := hp
    obtain ⟨l8, po⟩ := hpok r b1 hr
    rw [show min ps.length 7 = ps.length by omega] at w2 w5
    obtain ⟨p0, p1', p2', p3', p4', p5, p6, p7, p8⟩ := w5
    have frA : ∀ a k, A5h (d + 5 + ps.length) a k → ARh d a k := fun a k h => by unfold A5h A4h A3h A2h A1h A8 at h; unfold ARh; omega
    have e8 : rd_I W (d + 5 + ps.length) 8 = so8 r.2.2.2.2.2.1 := by
      obtain ⟨x, y, u, v, m, so, s, t⟩ := r
      cases so with
      | none => exact p8.1
      | some h => exact p8.1
    have spW : SPn W ((kk T n b - 20, r) :: ps) := by
      obtain ⟨x, y, u, v, m, so, s, t⟩ := r
      cases so with
      | none =>
        have := SPn_e (ps := ps) p8.2.1 (fun k h1 h2 => by
          rcases (by omega : k = 3 ∨ k = 4 ∨ k = 5) with rfl | rfl | rfl
          · exact p8.2.2.1
          · exact p8.2.2.2.1
          · exact p8.2.2.2.2) g8
        exact this
      | some h => exact ⟨p8.2.1, p8.2.2.1, p8.2.2.2.1, p8.2.2.2.2⟩
    have hl : HL W T n d b1 ((kk T n b - 20, r) :: ps) ru := by
      refine ⟨w3, g2, (w2.R _ _).trans g3, (w2.R _ _).trans g4, by rw [List.length_cons]; exact w4, by rw [List.length_cons]; omega, ⟨⟨p0, p1', p2', p3', p4', p5, p6, p7, e8⟩, HPs_fr w2 (m := ps.length) (fun a k h1 h2 => by unfold A5h A4h A3h A2h A1h A8; omega) (Nat.le_refl _) g7⟩, spW, RUh_fr w2 (by unfold A5h A4h A3h A2h A1h A8; omega) (by unfold A5h A4h A3h A2h A1h A8; omega) (by unfold A5h A4h A3h A2h A1h A8; omega) (fun k => by unfold A5h A4h A3h A2h A1h A8; omega) (fun k => by unfold A5h A4h A3h A2h A1h A8; omega) g9⟩
    obtain ⟨Z, z1, z2, z3⟩ := hsemi N hN k46 (i := i) hl
    refine ⟨Z, ?_, (w2.mono frA).trans z2, ?_⟩
    · rw [w1, bn_S]
      exact z1
    · show match semi T n b1 ((kk T n b - 20, r) :: ps, ru) with | Sum.inl (f, p) => FH Z f p | Sum.inr (b', ps', ru') => HL Z T n d b' ps' ru' ∧ (GDl ps → GDl ps') ∧ ru' = ru
      revert z3
      cases semi T n b1 ((kk T n b - 20, r) :: ps, ru) with
      | inl e => exact fun z3 => z3
      | inr e => exact fun z3 => ⟨z3.1, fun h => by rw [z3.2.1]; exact ⟨po, h⟩, z3.2.2.1⟩
