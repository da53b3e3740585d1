/-! 97zv: the lines in the reference -/
def MPr (M : sw_M) (i kd : Nat) (r : PT) : Prop := rd_I M 81 i = nI kd ∧ rd_I M 82 i = r.1 ∧ rd_I M 83 i = r.2.1 ∧ rd_I M 84 i = r.2.2.1 ∧ rd_I M 85 i = r.2.2.2.1 ∧ rd_I M 86 i = r.2.2.2.2.1 ∧ rd_I M 87 i = r.2.2.2.2.2.1.getD r.2.2.2.2.1 ∧ rd_I M 88 i = r.2.2.2.2.2.2.1 ∧ (kd = 3 → rd_I M 89 i = r.2.2.2.2.2.2.2)
def MPs (M : sw_M) : List (Nat × PT) → Prop
  | [] => True
  | e :: ps => MPr M (8 + ps.length) e.1 e.2 ∧ MPs M ps
def spi (x : Option (Nat × Int32 × Int32)) : Int32 := match x with
  | none => -1
  | some (i, _, _) => nI i
def RUm (M : sw_M) (ru : Option (List (Nat × Nat))) : Prop := match ru with
  | none => rd_I M 80 21 = 0 ∧ rd_I M 80 19 = 0 ∧ rd_I M 80 36 = 0
  | some o => rd_I M 80 21 = 1 ∧ rd_I M 80 19 = nI o.length ∧ OM M o
def ML (M : sw_M) (T : Nat → Nat) (n b : Nat) (ps : List (Nat × PT)) (ru : Option (List (Nat × Nat))) : Prop := MB M T n b ∧ rd_I M 80 30 = 0 ∧ rd_I M 80 11 = nI ps.length ∧ ps.length ≤ 8 ∧ MPs M ps ∧ rd_I M 80 14 = spi (spn ps) ∧ RUm M ru
def ARm (a k : Nat) : Prop := (a = 80 ∧ (k = 11 ∨ k = 14 ∨ k = 19 ∨ k = 21 ∨ (25 ≤ k ∧ k ≤ 31) ∨ k = 35 ∨ k = 36)) ∨ (81 ≤ a ∧ a ≤ 89 ∧ 8 ≤ k) ∨ ((a = 90 ∨ a = 91) ∧ 48 ≤ k) ∨ a = 93
theorem MPs_fr {A : Nat → Nat → Prop} {M W : sw_M} {m : Nat} (h : Fr A M W) (hA : ∀ a k, 81 ≤ a → a ≤ 89 → 8 ≤ k → k < 8 + m → ¬ A a k) : ∀ {ps : List (Nat × PT)}, ps.length ≤ m → MPs M ps → MPs W ps
  | [], _, _ => trivial
  | e :: ps, hl, g => by
    rw [List.length_cons] at hl
    have i : ∀ a, 81 ≤ a → a ≤ 89 → rd_I W a (8 + ps.length) = rd_I M a (8 + ps.length) := fun a h1 h2 => h.I a _ (hA a _ h1 h2 (by omega) (by omega))
    obtain ⟨⟨a0, a1, a2, a3, a4, a5, a6, a7, a8⟩, g2⟩ := g
    exact ⟨⟨(i 81 (by omega) (by omega)).trans a0, (i 82 (by omega) (by omega)).trans a1, (i 83 (by omega) (by omega)).trans a2, (i 84 (by omega) (by omega)).trans a3, (i 85 (by omega) (by omega)).trans a4, (i 86 (by omega) (by omega)).trans a5, (i 87 (by omega) (by omega)).trans a6, (i 88 (by omega) (by omega)).trans a7, fun c => (i 89 (by omega) (by omega)).trans (a8 c)⟩, MPs_fr h hA (by omega) g2⟩
theorem RUm_fr {A : Nat → Nat → Prop} {M W : sw_M} {ru : Option (List (Nat × Nat))} (h : Fr A M W) (h1 : ¬ A 80 21) (h2 : ¬ A 80 19) (h3 : ¬ A 80 36) (h4 : ∀ k, ¬ A 90 k) (h5 : ∀ k, ¬ A 91 k) (g : RUm M ru) : RUm W ru := by
  cases ru with
  | none => exact ⟨(h.I _ _ h1).trans g.1, (h.I _ _ h2).trans g.2.1, (h.I _ _ h3).trans g.2.2⟩
  | some o =>
    refine ⟨(h.I _ _ h1).trans g.1, (h.I _ _ h2).trans g.2.1, OM_w (m := o.length) (fun a k ha _ _ => ?_) (Nat.le_refl _) g.2.2⟩
    rcases ha with rfl | rfl
    · exact h.I _ _ (h4 k)
    · exact h.I _ _ (h5 k)
/-- what a line of the reference does -/
def LNm (T : Nat → Nat) (n : Nat) (M : sw_M) (x : Option sw_M) (r : (Nat × Nat) ⊕ RS) : Prop := ∃ W, x = some W ∧ Fr ARm M W ∧ match r with
  | Sum.inl (f, p) => FM W T n f p
  | Sum.inr (b', ps', ru') => ML W T n b' ps' ru'
theorem m96_f (N : Nat) {M : sw_M} {T : Nat → Nat} {n f p : Nat} (g : FM M T n f p) : f_Model_line_96 N 80 M = some M := by
  unfold f_Model_line_96
  rw [ok_80 g.1.1.1, gd_T, g.2.1, if_neg (nf0 g.2.2.2.1 g.2.2.2.2)]
theorem m96 (N : Nat) (hN : 1000 ≤ N) {M : sw_M} {T : Nat → Nat} {n b : Nat} {ps : List (Nat × PT)} {ru : Option (List (Nat × Nat))} (g : ML M T n b ps ru) : LNm T n M (f_Model_line_96 N 80 M) (semi T n b (ps, ru)) := by
  obtain ⟨g1, g2, g3, g4, g5, g6, g7⟩ := g
  have hM := g1.1.1
  unfold f_Model_line_96 semi
  rw [ok_80 hM.1, gd_T, g2, if_pos rfl, show (59 : Int32) = nI 59 from rfl, misSign N g1 59 3 (by omega) (by omega) (by decide +kernel), bn_S]
  by_cases c : kk T n b = 3
  · rw [decide_eq_true c, if_pos c]
    obtain ⟨W, w1, w2, w3⟩ := g1.nx N hN
    show LNm T n M (sw_gd [sw_ok M 80 12] ((f_Model_next N 80 M).bind (fun u4 => some u4))) _
    rw [ok_80 hM.1, gd_T, w1, bn_S]
    refine ⟨W, rfl, w2.mono (fun a k h => by unfold A80 at h; unfold ARm; omega), w3, (w2.I 80 30 (by unfold A80; omega)).trans g2, (w2.I 80 11 (by unfold A80; omega)).trans g3, g4, MPs_fr w2 (m := 8) (fun a k h1 h2 h3 h4 => by unfold A80; omega) g4 g5, (w2.I 80 14 (by unfold A80; omega)).trans g6, RUm_fr w2 (by unfold A80; omega) (by unfold A80; omega) (by unfold A80; omega) (fun k => by unfold A80; omega) (fun k => by unfold A80; omega) g7⟩
  · rw [decide_eq_false c, if_neg c]
    obtain ⟨W, w1, w2, w3, w4⟩ := mwrong N g1 g2 1 (by omega) (by omega)
    show LNm T n M (sw_gd [sw_ok M 80 12] ((f_Model_wrong N 80 (nI 1) M).bind (fun u6 => some u6))) _
    rw [ok_80 hM.1, gd_T, w1, bn_S]
    exact ⟨W, rfl, w2.mono (fun a k h => by unfold ARm; omega), w3⟩
theorem spi_sp {M : sw_M} {ps : List (Nat × PT)} (h : rd_I M 80 14 = spi (spn ps)) (hl : ps.length ≤ 8) : (spn ps).isSome = !(decide (rd_I M 80 14 = -1)) := by
  have hb : ∀ (ps : List (Nat × PT)) i lo hi, spn ps = some (i, lo, hi) → i < ps.length := by
    intro ps
    induction ps with
    | nil => intro i lo hi h; cases h
    | cons e ps ih =>
      intro i lo hi h
      rw [List.length_cons]
      obtain ⟨kd, x, y, u, v, m, so, s, t⟩ := e
      cases so with
      | none =>
        have := ih i lo hi h
        omega
      | some z =>
        have e1 : (ps.length, m, z) = (i, lo, hi) := Option.some.inj h
        have : ps.length = i := congrArg Prod.fst e1
        omega
  rw [h]
  cases hs : spn ps with
  | none => decide
  | some e =>
    obtain ⟨i, lo, hi⟩ := e
    have := hb ps i lo hi hs
    show true = !(decide (nI i = -1))
    rw [decide_eq_false]
    · rfl
    · intro h
      have := congrArg Int32.toInt h
      rw [nI_toInt (by omega)] at this
      have h2 : ((-1 : Int32)).toInt = -1 := rfl
      omega
theorem ml_part (N : Nat) (hN : 1000 ≤ N) {M : sw_M} {T : Nat → Nat} {n b : Nat} {ps : List (Nat × PT)} {ru : Option (List (Nat × Nat))} (g : ML M T n b ps ru) (c1 : 20 ≤ kk T n b) (c2 : kk T n b ≤ 24) : LNm T n M (f_Model_line N 80 M) (stp T n b ps ru) := by
  obtain ⟨g1, g2, g3, g4, g5, g6, g7⟩ := g
  have hM := g1.1.1
  have kc := kk_c T n b
  have h27 := g1.2.2.2.2.1
  have h28 := g1.2.2.2.2.2.2.1 (by omega)
  have ms := (show ∀ c, c < 35 → 20 ≤ c → msr c = 0 ∧ mvl c = c - 20 by decide +kernel) _ kc c1
  unfold f_Model_line stp
  rw [if_pos (show 20 ≤ kk T n b ∧ kk T n b ≤ 24 from ⟨c1, c2⟩), ok_80 hM.1, gd_T, h27, ms.1, if_pos rfl, h28, ms.2, if_pos (show nI (kk T n b - 20) ≤ (5 : Int32) from (nI_le (by omega) (by omega) : nI _ ≤ nI 5)), if_neg (show ¬ nI (kk T n b - 20) = (5 : Int32) from fun h => by have h2 : kk T n b - 20 = 5 := (nI_eq (by omega) (by decide)).1 (h : nI _ = nI 5); omega)]
  have k5 : ¬ nI (kk T n b - 20) = (5 : Int32) := fun h => by have h2 : kk T n b - 20 = 5 := (nI_eq (by omega) (by decide)).1 (h : nI _ = nI 5); omega
  unfold f_Model_line_43 pt
  rw [if_neg k5, ok_80 hM.1, gd_T, g3]
  by_cases c8 : ps.length = 8
  · rw [if_pos c8, if_pos (show nI ps.length = (8 : Int32) by rw [c8]; rfl)]
    obtain ⟨W, w1, w2, w3, w4⟩ := mwrong N g1 g2 2 (by omega) (by omega)
    rw [show (2 : Int32) = nI 2 from rfl, w1, bn_S]
    unfold f_Model_line_62
    rw [ok_80 w4.1.1.1, gd_T, w3.2.1, if_neg (nf0 (by omega) (by omega))]
    exact ⟨W, rfl, w2.mono (fun a k h => by unfold ARm; omega), w3⟩
  rw [if_neg c8, if_neg (show ¬ nI ps.length = (8 : Int32) from fun h => c8 ((nI_eq (by omega) (by decide)).1 (h : nI _ = nI 8)))]
  unfold f_Model_line_62
  obtain ⟨V, v1, v2, v3⟩ := g1.nx N hN
  rw [ok_80 hM.1, gd_T, g2, if_pos rfl, v1, bn_S, if_neg k5, ok_80 v3.1.1.1, gd_T]
  have vo : ∀ k, ¬ (25 ≤ k ∧ k ≤ 28) → rd_I V 80 k = rd_I M 80 k := fun k h => v2.I 80 k (by unfold A80; omega)
  have hp := mpartl N hN (kd := kk T n b - 20) (cnt := ps.length) (sp := (spn ps).isSome) v3 ((vo 30 (by omega)).trans g2) (by omega) (by omega) ((vo 11 (by omega)).trans g3) (by rw [vo 14 (by omega)]; exact spi_sp g6 g4)
  have fV : Fr ARm M V := v2.mono (fun a k h => by unfold A80 at h; unfold ARm; omega)
  have frA : ∀ a k, Amq 81 (8 + ps.length) a k → ARm a k := fun a k h => by unfold Amq A31 at h; unfold ARm; omega
  cases hr : p4 T n (kk T n b - 20) (spn ps).isSome (nd T n b) with
  | inl e =>
    rw [hr] at hp
    obtain ⟨f, p⟩ := e
    obtain ⟨W, w1, w2, w3⟩ := hp
    rw [w1, bn_S, m96_f N w3]
    exact ⟨W, rfl, fV.trans (w2.mono frA), w3⟩
  | inr e =>
    rw [hr] at hp
    obtain ⟨r, b1⟩ := e
    obtain ⟨W, w1, w2, w3, w4, w81, w82, w83, w84, w85, w11, w86, w88, w89, wsp⟩ := hp
    rw [w1, bn_S]
    have wo : ∀ k, ¬ (25 ≤ k ∧ k ≤ 31) → ¬ k = 11 → ¬ k = 14 → rd_I W 80 k = rd_I M 80 k := fun k h h1 h2 => (w2.I 80 k (by unfold Amq A31; omega)).trans (vo k (by omega))
    have e14 : rd_I W 80 14 = spi (spn ((kk T n b - 20, r) :: ps)) ∧ rd_I W 87 (8 + ps.length) = r.2.2.2.2.2.1.getD r.2.2.2.2.1 := by
      obtain ⟨x, y, u, v, m, so, s, t⟩ := r
      cases so with
      | none => exact ⟨(wsp.1.trans (vo 14 (by omega))).trans g6, wsp.2⟩
      | some h => exact ⟨wsp.1, wsp.2⟩
    have ml : ML W T n b1 ((kk T n b - 20, r) :: ps) ru := by
      refine ⟨w3, w4, by rw [List.length_cons]; exact w11, by rw [List.length_cons]; omega, ⟨⟨w81, w82, w83, w84, w85, w86, e14.2, w88, w89⟩, ?_⟩, e14.1, ?_⟩
      · exact MPs_fr w2 (m := ps.length) (fun a k h1 h2 h3 h4 => by unfold Amq A31; omega) (Nat.le_refl _) (MPs_fr v2 (m := ps.length) (fun a k h1 h2 h3 h4 => by unfold A80; omega) (Nat.le_refl _) g5)
      · exact RUm_fr w2 (by unfold Amq A31; omega) (by unfold Amq A31; omega) (by unfold Amq A31; omega) (fun k => by unfold Amq A31; omega) (fun k => by unfold Amq A31; omega) (RUm_fr v2 (by unfold A80; omega) (by unfold A80; omega) (by unfold A80; omega) (fun k => by unfold A80; omega) (fun k => by unfold A80; omega) g7)
    obtain ⟨Z, z1, z2, z3⟩ := m96 N hN ml
    exact ⟨Z, z1, (fV.trans (w2.mono frA)).trans z2, z3⟩
