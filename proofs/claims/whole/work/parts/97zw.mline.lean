/-! 97zw: the lines in the reference, all -/
theorem sy_s (T : Nat → Nat) (n : Nat) (hn : n ≤ 500) : ∀ (j : Nat) (t : Bool) (b k : Nat) (o : List (Nat × Nat)) (P : List Nat), b ≤ n → n < b + j → ∃ r, sy T n j t b k o P = some r
  | 0, t, b, k, o, P, hb, hj => by omega
  | j + 1, false, b, k, o, P, hb, hj => by
    have q := nd_b T n b hn hb
    have go : ∀ (t : Bool) (k : Nat) (o : List (Nat × Nat)) (P : List Nat), ¬ kk T n b = 0 → ∃ r, sy T n j t (nd T n b) k o P = some r := fun t k o P hz => by
      have := q.2 hz
      exact sy_s T n hn j t (nd T n b) k o P q.1 (by omega)
    rw [sy]
    by_cases c2 : kk T n b = 2
    · rw [if_pos c2]
      by_cases a : 99999 < vm T n b
      · rw [if_pos a]; exact ⟨_, rfl⟩
      rw [if_neg a]
      by_cases a2 : k = 48
      · rw [if_pos a2]; exact ⟨_, rfl⟩
      rw [if_neg a2]
      exact go _ _ _ _ (by omega)
    rw [if_neg c2]
    by_cases c29 : 29 ≤ kk T n b
    · rw [if_pos c29]
      by_cases a2 : k = 48
      · rw [if_pos a2]; exact ⟨_, rfl⟩
      rw [if_neg a2]
      exact go _ _ _ _ (by omega)
    rw [if_neg c29]
    by_cases c5 : kk T n b = 5
    · rw [if_pos c5]
      by_cases a2 : op P = 8
      · rw [if_pos a2]; exact ⟨_, rfl⟩
      rw [if_neg a2]
      exact go _ _ _ _ (by omega)
    rw [if_neg c5]
    by_cases c28 : kk T n b = 28 ∧ tq P < 4
    · rw [if_pos c28]
      by_cases a2 : k = 48
      · rw [if_pos a2]; exact ⟨_, rfl⟩
      rw [if_neg a2]
      exact go _ _ _ _ (by omega)
    rw [if_neg c28]
    exact ⟨_, rfl⟩
  | j + 1, true, b, k, o, P, hb, hj => by
    have q := nd_b T n b hn hb
    have go : ∀ (t : Bool) (k : Nat) (o : List (Nat × Nat)) (P : List Nat), ¬ kk T n b = 0 → ∃ r, sy T n j t (nd T n b) k o P = some r := fun t k o P hz => by
      have := q.2 hz
      exact sy_s T n hn j t (nd T n b) k o P q.1 (by omega)
    rw [sy]
    by_cases c0 : ob (kk T n b) = 0
    · rw [if_pos c0]
      by_cases a : kk T n b = 6 ∧ 0 < op P
      · rw [if_pos a]
        exact go _ _ _ _ (by omega)
      rw [if_neg a]
      by_cases a2 : 0 < op P
      · rw [if_pos a2]; exact ⟨_, rfl⟩
      rw [if_neg a2]; exact ⟨_, rfl⟩
    have kz : ¬ kk T n b = 0 := fun h => c0 (by rw [h]; decide)
    rw [if_neg c0]
    by_cases c4 : ob (kk T n b) = 4
    · rw [if_pos c4]
      by_cases a : tq (pr 5 P o).1 = 4
      · rw [if_pos a]; exact ⟨_, rfl⟩
      rw [if_neg a]
      by_cases a2 : k = 48
      · rw [if_pos a2]; exact ⟨_, rfl⟩
      rw [if_neg a2]
      exact go _ _ _ _ kz
    rw [if_neg c4]
    by_cases a2 : k = 48
    · rw [if_pos a2]; exact ⟨_, rfl⟩
    rw [if_neg a2]
    exact go _ _ _ _ kz
theorem AM_ARm {M W : sw_M} (h : Fr AM M W) : Fr ARm M W := h.mono (fun a k h => by unfold AM at h; unfold ARm; omega)
theorem ml_use (N : Nat) (hN : 1000 ≤ N) {M : sw_M} {T : Nat → Nat} {n b : Nat} {ps : List (Nat × PT)} {ru : Option (List (Nat × Nat))} (g : ML M T n b ps ru) (c : kk T n b = 25) : LNm T n M (f_Model_line N 80 M) (stp T n b ps ru) := by
  obtain ⟨g1, g2, g3, g4, g5, g6, g7⟩ := g
  have hM := g1.1.1
  have hn := g1.1.2.1
  have nb := nd_b T n b hn g1.2.1
  have h27 := g1.2.2.2.2.1
  have h28 := g1.2.2.2.2.2.2.1 (by omega)
  rw [c] at h27 h28
  unfold f_Model_line stp
  rw [if_neg (show ¬ (20 ≤ kk T n b ∧ kk T n b ≤ 24) by omega), if_pos c, ok_80 hM.1, gd_T, h27, if_pos (show msr 25 = 0 from rfl), h28, if_pos (show nI (mvl 25) ≤ (5 : Int32) by decide), if_pos (show nI (mvl 25) = (5 : Int32) from rfl)]
  have e43 : ∀ V : sw_M, f_Model_line_43 N 80 (nI (mvl 25)) V = f_Model_line_62 N 80 5 V := fun V => rfl
  rw [e43]
  cases ru with
  | some o =>
    rw [g7.1, if_neg (by decide)]
    obtain ⟨W, w1, w2, w3, w4⟩ := mwrong N g1 g2 3 (by omega) (by omega)
    rw [show (3 : Int32) = nI 3 from rfl, w1, bn_S, e43]
    unfold f_Model_line_62
    rw [ok_80 w4.1.1.1, gd_T, w3.2.1, if_neg (nf0 (by omega) (by omega))]
    exact ⟨W, rfl, w2.mono (fun a k h => by unfold ARm; omega), w3⟩
  | none =>
    rw [g7.1, if_pos rfl]
    unfold f_Model_line_62
    obtain ⟨V, v1, v2, v3⟩ := g1.nx N hN
    rw [ok_80 hM.1, gd_T, g2, if_pos rfl, v1, bn_S, if_pos rfl, ok_80 v3.1.1.1, gd_T]
    have vo : ∀ k, ¬ (25 ≤ k ∧ k ≤ 28) → rd_I V 80 k = rd_I M 80 k := fun k h => v2.I 80 k (by unfold A80; omega)
    have fU : Fr (fun a k => a = 80 ∧ (k = 21 ∨ k = 35 ∨ k = 29)) V (wr_I (wr_I (wr_I V 80 21 1) 80 35 0) 80 29 0) := (((Fr.refl _ V).wI _ _ _ (by omega)).wI _ _ _ (by omega)).wI _ _ _ (by omega)
    have gU : MB (wr_I (wr_I (wr_I V 80 21 1) 80 35 0) 80 29 0) T n (nd T n b) := v3.fr fU (fun k h1 h2 => by omega) (fun k => by omega)
    have u21 : rd_I (wr_I (wr_I (wr_I V 80 21 1) 80 35 0) 80 29 0) 80 21 = 1 := by simp only [m_II, m_LL, m_RR, m_IL, m_IR, m_LI, m_LR, m_RI, m_RL, m_NI, m_NL, m_NR, m_okI, m_okL, m_okR, m_okaI, m_okaL, m_okaR, m_arI, m_arL, m_arR, gd_T, bn_S, Nat.reduceEqDiff, Nat.left_eq_add, Nat.add_eq_left, Nat.one_ne_zero, and_false, and_true, false_and, true_and, if_false, if_true]
    have u35 : rd_I (wr_I (wr_I (wr_I V 80 21 1) 80 35 0) 80 29 0) 80 35 = 0 := by simp only [m_II, m_LL, m_RR, m_IL, m_IR, m_LI, m_LR, m_RI, m_RL, m_NI, m_NL, m_NR, m_okI, m_okL, m_okR, m_okaI, m_okaL, m_okaR, m_arI, m_arL, m_arR, gd_T, bn_S, Nat.reduceEqDiff, Nat.left_eq_add, Nat.add_eq_left, Nat.one_ne_zero, and_false, and_true, false_and, true_and, if_false, if_true]
    have u29 : rd_I (wr_I (wr_I (wr_I V 80 21 1) 80 35 0) 80 29 0) 80 29 = 0 := by simp only [m_II, m_LL, m_RR, m_IL, m_IR, m_LI, m_LR, m_RI, m_RL, m_NI, m_NL, m_NR, m_okI, m_okL, m_okR, m_okaI, m_okaL, m_okaR, m_arI, m_arL, m_arR, gd_T, bn_S, Nat.reduceEqDiff, Nat.left_eq_add, Nat.add_eq_left, Nat.one_ne_zero, and_false, and_true, false_and, true_and, if_false, if_true]
    have hE : f_Model_expression N 80 (wr_I V 80 21 1) = f_Model_expression_14 N N 80 0 1 (wr_I (wr_I (wr_I V 80 21 1) 80 35 0) 80 29 0) := by
      unfold f_Model_expression
      rw [m_okI, ok_80 v3.1.1.1, gd_T]
    rw [hE]
    generalize wr_I (wr_I (wr_I V 80 21 1) 80 35 0) 80 29 0 = U at *
    have uo : ∀ k, ¬ (25 ≤ k ∧ k ≤ 28) → ¬ (k = 21 ∨ k = 35 ∨ k = 29) → rd_I U 80 k = rd_I M 80 k := fun k h h' => (fU.I 80 k (by omega)).trans (vo k h)
    have yU : MY U 0 [] [] := ⟨(uo 36 (by omega) (by omega)).trans g7.2.2, ⟨(uo 19 (by omega) (by omega)).trans g7.2.1, trivial, u35, trivial⟩, u29, (uo 30 (by omega) (by omega)).trans g2⟩
    obtain ⟨r, hr⟩ := sy_s T n hn 600 false (nd T n b) 0 [] [] nb.1 (by omega)
    obtain ⟨W, w1, w2, w3⟩ := ex_14 N hN T n 600 N false U (nd T n b) 0 [] [] r gU yU ⟨rfl, by omega, by decide, trivial⟩ hr (by omega)
    have w1' : f_Model_expression_14 N N 80 0 1 U = some W := w1
    rw [w1', bn_S]
    have fW : Fr ARm M W := ((v2.mono (fun a k h => by unfold A80 at h; unfold ARm; omega)).trans (fU.mono (fun a k h => by unfold ARm; omega))).trans (AM_ARm w2)
    show LNm T n M (f_Model_line_96 N 80 W) (match sy T n 600 false (nd T n b) 0 [] [] with | none => Sum.inl (1, 0) | some (Sum.inl e) => Sum.inl e | some (Sum.inr (b1, _, o)) => semi T n b1 (ps, some o))
    rw [hr]
    rcases r with ⟨f, p⟩ | ⟨b1, k1, o1⟩
    · have w3' : FM W T n f p := w3
      rw [m96_f N w3']
      exact ⟨W, rfl, fW, w3'⟩
    · obtain ⟨x1, x2, x3, x4⟩ := w3
      have wo : ∀ k, ¬ (25 ≤ k ∧ k ≤ 31) → ¬ (k = 21 ∨ k = 35 ∨ k = 36 ∨ k = 19) → rd_I W 80 k = rd_I M 80 k := fun k h h' => (w2.I 80 k (by unfold AM; omega)).trans (uo k (by omega) (by omega))
      have ml : ML W T n b1 ps (some o1) := by
        refine ⟨x1, x2.2.2.2, (wo 11 (by omega) (by omega)).trans g3, g4, ?_, (wo 14 (by omega) (by omega)).trans g6, (w2.I 80 21 (by unfold AM; omega)).trans u21, x2.2.1.1, x2.2.1.2.1⟩
        exact MPs_fr w2 (m := 8) (fun a k h1 h2 h3 h4 => by unfold AM; omega) g4 (MPs_fr fU (m := 8) (fun a k h1 h2 h3 h4 => by omega) g4 (MPs_fr v2 (m := 8) (fun a k h1 h2 h3 h4 => by unfold A80; omega) g4 g5))
      obtain ⟨Z, z1, z2, z3⟩ := m96 N hN ml
      exact ⟨Z, z1, fW.trans z2, z3⟩
theorem ml_else (N : Nat) {M : sw_M} {T : Nat → Nat} {n b : Nat} {ps : List (Nat × PT)} {ru : Option (List (Nat × Nat))} (g : ML M T n b ps ru) (c1 : ¬ (20 ≤ kk T n b ∧ kk T n b ≤ 24)) (c : ¬ kk T n b = 25) : LNm T n M (f_Model_line N 80 M) (stp T n b ps ru) := by
  have g1 := g.1
  have hM := g1.1.1
  have kc := kk_c T n b
  have h27 := g1.2.2.2.2.1
  unfold f_Model_line stp
  rw [if_neg c1, if_neg c, ok_80 hM.1, gd_T, h27]
  have e15 : LNm T n M (f_Model_line_15 N 80 M) (Sum.inl (1, pl T n b)) := by
    unfold f_Model_line_15
    obtain ⟨W, w1, w2, w3, w4⟩ := mwrong N g1 g.2.1 1 (by omega) (by omega)
    rw [ok_80 hM.1, gd_T, show (1 : Int32) = nI 1 from rfl, w1, bn_S]
    exact ⟨W, rfl, w2.mono (fun a k h => by unfold ARm; omega), w3⟩
  by_cases c20 : 20 ≤ kk T n b
  · have h28 := g1.2.2.2.2.2.2.1 (by omega)
    have ms := (show ∀ c, c < 35 → 20 ≤ c → msr c = 0 ∧ mvl c = c - 20 by decide +kernel) _ kc c20
    rw [ms.1, if_pos rfl, h28, ms.2, if_neg (show ¬ nI (kk T n b - 20) ≤ (5 : Int32) from (nI_ge (by omega) (by omega) : ¬ nI _ ≤ nI 5))]
    exact e15
  · rw [if_neg ((show ∀ c, c < 20 → ¬ msr c = 0 by decide +kernel) _ (by omega))]
    exact e15
theorem mloop (N : Nat) (hN : 1000 ≤ N) (T : Nat → Nat) (n : Nat) : ∀ (j J : Nat) (M : sw_M) (b : Nat) (ps : List (Nat × PT)) (ru : Option (List (Nat × Nat))) (r : (Nat × Nat) ⊕ RS), ML M T n b ps ru → n + 1 < b + j → rl T n J b ps ru = some r →
    ∃ W, f_Model_field_74 N j 80 M = f_Model_field_96 N 80 W ∧ Fr ARm M W ∧ match r with
      | Sum.inl (f, p) => FM W T n f p
      | Sum.inr (b', ps', ru') => ML W T n b' ps' ru'
  | 0, J, M, b, ps, ru, r, g, hj, h => by have := g.1.2.1; omega
  | j + 1, 0, M, b, ps, ru, r, g, hj, h => by rw [rl] at h; cases h
  | j + 1, J + 1, M, b, ps, ru, r, g, hj, h => by
    have g1 := g.1
    have hM := g1.1.1
    have hn := g1.1.2.1
    have bn := g1.2.1
    have kc := kk_c T n b
    have h27 := g1.2.2.2.2.1
    rw [f_Model_field_74, ok_80 hM.1, gd_T, g.2.1, if_pos rfl, h27]
    rw [rl] at h
    by_cases k0 : kk T n b = 0
    · rw [if_pos k0] at h
      obtain rfl := Option.some.inj h
      rw [if_pos (by rw [k0]; rfl)]
      exact ⟨M, rfl, Fr.refl _ _, g⟩
    rw [if_neg k0] at h
    rw [if_neg ((show ∀ c, c < 35 → ¬ c = 0 → ¬ msr c = 3 by decide +kernel) _ kc k0)]
    have ln : LNm T n M (f_Model_line N 80 M) (stp T n b ps ru) := by
      by_cases c1 : 20 ≤ kk T n b ∧ kk T n b ≤ 24
      · exact ml_part N hN g c1.1 c1.2
      by_cases c25 : kk T n b = 25
      · exact ml_use N hN g c25
      · exact ml_else N g c1 c25
    obtain ⟨W, w1, w2, w3⟩ := ln
    rw [w1, bn_S]
    cases hs : stp T n b ps ru with
    | inl e =>
      rw [hs] at h w3
      obtain ⟨f, p⟩ := e
      obtain rfl := Option.some.inj h
      obtain ⟨j', rfl⟩ : ∃ j', j = j' + 1 := ⟨j - 1, by omega⟩
      have w3' : FM W T n f p := w3
      refine ⟨W, ?_, w2, w3'⟩
      rw [f_Model_field_74, ok_80 w3'.1.1.1, gd_T, w3'.2.1, if_neg (nf0 w3'.2.2.2.1 w3'.2.2.2.2)]
    | inr s =>
      rw [hs] at h w3
      obtain ⟨b', ps', ru'⟩ := s
      have sp := stp_p hn bn hs
      have sp1 : b < b' := sp.1
      obtain ⟨Z, z1, z2, z3⟩ := mloop N hN T n j J W b' ps' ru' r w3 (by omega) h
      exact ⟨Z, z1, w2.trans z2, z3⟩
