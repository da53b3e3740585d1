/-! 97zu: the lines in the house, all -/
theorem hl_use (N : Nat) (hN : 1000 ≤ N) (k46 : Nat → Int32 → sw_M → Option sw_M) {M : sw_M} {T : Nat → Nat} {n d b i : Nat} {ps : List (Nat × PT)} {ru : Option (List (Nat × Nat))} (g : HL M T n d b ps ru) (c : kk T n b = 25) :
    ∃ W, f_Reader_read_91 N k46 17 (nI i) 0 M = k46 17 (nI (i + 1)) W ∧ Fr (ARh d) M W ∧ match stp T n b ps ru with
      | Sum.inl (f, p) => FH W f p
      | Sum.inr (b', ps', ru') => HL W T n d b' ps' ru' ∧ ps' = ps ∧ GDr ru' := by
  obtain ⟨g1, g2, g3, g4, g5, g6, g7, g8, g9⟩ := g
  have hH := g1.1.1
  have h6 := g1.2.2.2.2.1
  have hn := g1.1.2.1
  have hq : RQ M (d + 1) := by have := hH.rq.2; rw [g4] at this; exact this
  have nb := nd_b T n b hn g1.2.1
  have nb2 := nb.2 (by omega)
  unfold f_Reader_read_91 stp
  rw [if_neg (show ¬ (20 ≤ kk T n b ∧ kk T n b ≤ 24) by omega), if_pos c, if_pos rfl, ok_17 hH.1, gd_T, h6, if_pos (show nI (kk T n b) = (25 : Int32) by rw [c]; rfl)]
  have r0 : ∀ V : sw_M, f_Reader_read_128 N k46 17 (nI i) 0 V = k46 17 (nI (i + 1)) V := fun V => by
    unfold f_Reader_read_128 f_Reader_read_141
    rw [if_pos rfl, nI_1]
  unfold f_Reader_use
  rw [ok_17 hH.1, gd_T, hr_f hH 17 1 18 rfl (by decide), ok_18 hH.1, gd_T, g4, hq.ok, gd_T]
  cases ru with
  | some o =>
    rw [g9.1, if_neg (by decide)]
    obtain ⟨W, w1, w2, w3⟩ := g1.wrong N 3 (by omega) (by omega)
    rw [show (3 : Int32) = nI 3 from rfl, w1, bn_S]
    exact ⟨W, r0 W, w2.mono (fun a k h => by unfold A8 at h; unfold ARh; omega), w3⟩
  | none =>
    rw [g9.1, if_pos rfl]
    have f1 : Fr (fun a k => a = d + 1 ∧ k = 5) M (wr_I M (d + 1) 5 1) := (Fr.refl _ M).wI _ _ _ ⟨rfl, rfl⟩
    have u1 : HB (wr_I M (d + 1) 5 1) T n b := g1.fr f1 (fun k h1 h2 => by omega) (fun k => by omega)
    have u5 : rd_I (wr_I M (d + 1) 5 1) (d + 1) 5 = 1 := w_s _ _ _ _
    have uo : ∀ a k, ¬ (a = d + 1 ∧ k = 5) → rd_I (wr_I M (d + 1) 5 1) a k = rd_I M a k := fun a k h => w_o h _ _
    have uR : ∀ a k, rd_R (wr_I M (d + 1) 5 1) a k = rd_R M a k := fun a k => rfl
    generalize wr_I M (d + 1) 5 1 = U at *
    obtain ⟨V, v1, v2, v3⟩ := u1.adv N hN
    have vo : ∀ a k, ¬ (a = d + 1 ∧ k = 5) → ¬ A17 a k → rd_I V a k = rd_I M a k := fun a k h h' => (v2.I a k h').trans (uo a k h)
    have vz : HZ V T n (d + 1) (nd T n b) 0 [] := ⟨v3.1, ((v2.R _ _).trans (uR _ _)).trans g4, nb.1, v3.hk, ⟨(vo (d + 1) 6 (by omega) (by unfold A17; omega)).trans g9.2.1, v3.2.2.2.2.2.2.1, v3.2.2.2.2.2.2.2⟩, (vo (d + 1) 3 (by omega) (by unfold A17; omega)).trans g9.2.2, trivial⟩
    rw [v1, bn_S, ok_17 v3.1.1.1, gd_T]
    have fV : Fr (ARh d) M V := (f1.mono (fun a k h => by unfold ARh; omega)).trans (v2.mono (fun a k h => by unfold A17 at h; unfold ARh; omega))
    have frA : ∀ a k, AH (d + 1) a k → ARh d a k := fun a k h => by unfold AH at h; unfold ARh; omega
    rcases lv_R T n (d + 1) N hN 12 0 (by omega) (by omega) V (nd T n b) 0 [] [] vz (by decide) rfl rfl (by omega) (fun h => by omega) with ⟨W, w1, b', k', o', P2, o2, m, a1, a2, a3, a4, a5, a6, a7, a8, a9, a10⟩ | ⟨W, w1, f, p, m, x1, x2, x3, x4, x5, x6⟩
    · have w1' : f_Reader_eitherR N 12 17 0 V = some (1, W) := w1
      rw [w1', bn_S]
      have bn := a2.2.2.1
      have gW : HB W T n b' := ⟨a2.1, bn, a2.2.2.2.1.1, a2.2.2.2.1.2.1, a2.2.2.2.1.2.2.1, a2.2.2.2.1.2.2.2, a2.2.2.2.2.1.2.1, a2.2.2.2.2.1.2.2⟩
      have e0 : nn [] = 0 := rfl
      have ko : o'.length = k' := by omega
      have wo : ∀ a k, ¬ (a = d + 1 ∧ k = 5) → ¬ A17 a k → ¬ AH (d + 1) a k → rd_I W a k = rd_I M a k := fun a k h h' h'' => (a1.I a k h'').trans (vo a k h h')
      have w5 : rd_I W (d + 1) 5 = 1 := (a1.I (d + 1) 5 (by unfold AH; omega)).trans ((v2.I (d + 1) 5 (by unfold A17; omega)).trans u5)
      have hl : HL W T n d b' ps (some o') := by
        refine ⟨gW, g2, ((a1.R _ _).trans ((v2.R _ _).trans (uR _ _))).trans g3, a2.2.1, (wo 18 2 (by omega) (by unfold A17; omega) (by unfold AH; omega)).trans g5, g6, ?_, ?_, ⟨w5, by rw [ko]; exact a2.2.2.2.2.1.1, a2.2.2.2.2.2.1, a2.2.2.2.2.2.2⟩⟩
        · exact HPs_fr a1 (m := 8) (fun a k h1 h2 => by unfold AH; omega) g6 (HPs_fr v2 (m := 8) (fun a k h1 h2 => by unfold A17; omega) g6 (HPs_fr f1 (m := 8) (fun a k h1 h2 => by omega) g6 g7))
        · exact SPn_e (wo 17 2 (by omega) (by unfold A17; omega) (by unfold AH; omega)) (fun k _ _ => wo 18 k (by omega) (by unfold A17; omega) (by unfold AH; omega)) g8
      show ∃ Z, f_Reader_read_128 N k46 17 (nI i) 1 W = _ ∧ _
      obtain ⟨Z, z1, z2, z3⟩ := hsemi N hN k46 (i := i) hl
      refine ⟨Z, z1, (fV.trans (a1.mono frA)).trans z2, ?_⟩
      have st := a7 (600 - m - 1 + 1)
      rw [show 600 - m - 1 + 1 + m = 600 by omega] at st
      have po : op P2 = 0 := by
        have h := pr_op 1 (by omega) P2 o2
        rw [a8] at h
        exact h.symm
      show match (match sy T n 600 false (nd T n b) 0 [] [] with | none => (Sum.inl (1, 0) : (Nat × Nat) ⊕ RS) | some (Sum.inl e) => Sum.inl e | some (Sum.inr (b1, _, o)) => semi T n b1 (ps, some o)) with | Sum.inl (f, p) => FH Z f p | Sum.inr (b', ps', ru') => HL Z T n d b' ps' ru' ∧ ps' = ps ∧ GDr ru'
      rw [st, sy]
      by_cases o0 : ob (kk T n b') = 0
      · rw [if_pos o0, if_neg (show ¬ (kk T n b' = 6 ∧ 0 < op P2) by omega), if_neg (show ¬ 0 < op P2 by omega), a8]
        show match semi T n b' (ps, some o') with | Sum.inl (f, p) => FH Z f p | Sum.inr (b', ps', ru') => HL Z T n d b' ps' ru' ∧ ps' = ps ∧ GDr ru'
        have hw : GDr (some o') := fun x hx => by
          have : o' = x := Option.some.inj hx
          subst this
          exact ⟨a10 0 ⟨rfl, trivial⟩, by omega⟩
        revert z3
        cases semi T n b' (ps, some o') with
        | inl e => exact fun z3 => z3
        | inr e => exact fun z3 => ⟨z3.1, z3.2.1, by rw [z3.2.2.1]; exact hw⟩
      · obtain ⟨h4, h5⟩ := a9.resolve_left (by omega)
        rw [if_neg o0, if_pos h4, if_pos h5]
        have k3 : ¬ kk T n b' = 3 := fun h => o0 (by rw [h]; decide)
        unfold semi at z3
        rw [if_neg k3] at z3
        exact z3
    · have w1' : f_Reader_eitherR N 12 17 0 V = some (0, W) := w1
      rw [w1', bn_S]
      have hs := x6 (600 - m)
      rw [show 600 - m + m = 600 by omega] at hs
      refine ⟨W, r0 W, fV.trans (x1.mono frA), ?_⟩
      show match (match sy T n 600 false (nd T n b) 0 [] [] with | none => (Sum.inl (1, 0) : (Nat × Nat) ⊕ RS) | some (Sum.inl e) => Sum.inl e | some (Sum.inr (b1, _, o)) => semi T n b1 (ps, some o)) with | Sum.inl (f, p) => FH W f p | Sum.inr (b', ps', ru') => HL W T n d b' ps' ru' ∧ ps' = ps ∧ GDr ru'
      rw [hs]
      exact ⟨x2.1, x2.2.2.1, x2.2.2.2.1, x3, x4⟩
theorem hl_else (N : Nat) (hN : 1000 ≤ N) (k46 : Nat → Int32 → sw_M → Option sw_M) {M : sw_M} {T : Nat → Nat} {n d b i : Nat} {ps : List (Nat × PT)} {ru : Option (List (Nat × Nat))} (g : HL M T n d b ps ru) (c1 : ¬ (20 ≤ kk T n b ∧ kk T n b ≤ 24)) (c : ¬ kk T n b = 25) :
    ∃ W, f_Reader_read_91 N k46 17 (nI i) 0 M = k46 17 (nI (i + 1)) W ∧ Fr (ARh d) M W ∧ FH W 1 (pl T n b) := by
  have g1 := g.1
  have hH := g1.1.1
  have h6 := g1.2.2.2.2.1
  have kc := kk_c T n b
  unfold f_Reader_read_91
  rw [if_pos rfl, ok_17 hH.1, gd_T, h6, if_neg (show ¬ nI (kk T n b) = (25 : Int32) from fun h => c ((nI_eq (by omega) (by decide)).1 (h : nI _ = nI 25))), show (1 : Int32) = nI 1 from rfl, hwrong N hH, bn_S]
  have fr : Fr A8 M (wr_I (wr_I M 17 9 (nI 1)) 17 10 (rd_I M 17 4)) := ((Fr.refl _ M).wI _ _ _ (by unfold A8; omega)).wI _ _ _ (by unfold A8; omega)
  refine ⟨wr_I (wr_I M 17 9 (nI 1)) 17 10 (rd_I M 17 4), ?_, fr.mono (fun a k h => by unfold A8 at h; unfold ARh; omega), fr.hr hH, ?_, ?_, by omega, by omega⟩
  · unfold f_Reader_read_128 f_Reader_read_141
    rw [if_pos rfl, nI_1]
  · simp only [m_II, m_LL, m_RR, m_IL, m_IR, m_LI, m_LR, m_RI, m_RL, m_NI, m_NL, m_NR, m_okI, m_okL, m_okR, m_okaI, m_okaL, m_okaR, m_arI, m_arL, m_arR, gd_T, bn_S, Nat.reduceEqDiff, Nat.left_eq_add, Nat.add_eq_left, Nat.one_ne_zero, and_false, and_true, false_and, true_and, if_false, if_true]
  · simp only [m_II, m_LL, m_RR, m_IL, m_IR, m_LI, m_LR, m_RI, m_RL, m_NI, m_NL, m_NR, m_okI, m_okL, m_okR, m_okaI, m_okaL, m_okaR, m_arI, m_arL, m_arR, gd_T, bn_S, Nat.reduceEqDiff, Nat.left_eq_add, Nat.add_eq_left, Nat.one_ne_zero, and_false, and_true, false_and, true_and, if_false, if_true]; exact g1.2.2.1
theorem hl_stop (N j : Nat) {W : sw_M} {f p : Nat} (a2 : Int32) (g : FH W f p) : f_Reader_read_46 N (j + 1) 17 a2 W = some W := by
  rw [f_Reader_read_46, ok_17 g.1.1, gd_T, g.2.1, if_neg (nf0 g.2.2.2.1 g.2.2.2.2)]
  by_cases c : rd_I W 17 3 < a2
  · rw [if_pos c]
  · rw [if_neg c]
theorem hloop (N : Nat) (hN : 1000 ≤ N) (T : Nat → Nat) (n d : Nat) : ∀ (j i J : Nat) (M : sw_M) (b : Nat) (ps : List (Nat × PT)) (ru : Option (List (Nat × Nat))), HL M T n d b ps ru → GDl ps → GDr ru → i ≤ b → n + 1 < b + j → n + 1 < b + J →
    ∃ W r, f_Reader_read_46 N j 17 (nI i) M = some W ∧ Fr (ARh d) M W ∧ rl T n J b ps ru = some r ∧ match r with
      | Sum.inl (f, p) => FH W f p
      | Sum.inr (b', ps', ru') => HL W T n d b' ps' ru' ∧ GDl ps' ∧ GDr ru'
  | 0, i, J, M, b, ps, ru, g, gd, gr, hi, hj, hJ => by have := g.1.2.1; omega
  | j + 1, i, 0, M, b, ps, ru, g, gd, gr, hi, hj, hJ => by have := g.1.2.1; omega
  | j + 1, i, J + 1, M, b, ps, ru, g, gd, gr, hi, hj, hJ => by
    have g1 := g.1
    have hH := g1.1.1
    have hn := g1.1.2.1
    have bn := g1.2.1
    have h6 := g1.2.2.2.2.1
    have kc := kk_c T n b
    rw [f_Reader_read_46, ok_17 hH.1, gd_T, g1.1.2.2.1, if_neg (nI_nlt (by omega) (by omega)), g1.2.2.2.2.2.2.1, if_pos rfl, h6, rl]
    by_cases k0 : kk T n b = 0
    · rw [if_pos (by rw [k0]; rfl), if_pos k0]
      exact ⟨M, _, rfl, Fr.refl _ _, rfl, g, gd, gr⟩
    rw [if_neg (show ¬ nI (kk T n b) = 0 from fun h => k0 ((nI_eq (by omega) (by decide)).1 (h : nI _ = nI 0))), if_neg k0]
    have go : ∀ (x : Option sw_M) (W : sw_M), x = f_Reader_read_46 N j 17 (nI (i + 1)) W → Fr (ARh d) M W → (match stp T n b ps ru with
      | Sum.inl (f, p) => FH W f p
      | Sum.inr (b', ps', ru') => HL W T n d b' ps' ru' ∧ GDl ps' ∧ GDr ru') → ∃ W r, x = some W ∧ Fr (ARh d) M W ∧ (match stp T n b ps ru with
      | Sum.inl e => some (Sum.inl e)
      | Sum.inr s => rl T n J s.1 s.2.1 s.2.2) = some r ∧ match r with
      | Sum.inl (f, p) => FH W f p
      | Sum.inr (b', ps', ru') => HL W T n d b' ps' ru' ∧ GDl ps' ∧ GDr ru' := fun x W hx fW hW => by
      cases hs : stp T n b ps ru with
      | inl e =>
        rw [hs] at hW
        obtain ⟨f, p⟩ := e
        obtain ⟨j', rfl⟩ : ∃ j', j = j' + 1 := ⟨j - 1, by omega⟩
        exact ⟨W, Sum.inl (f, p), by rw [hx, hl_stop N j' _ hW], fW, rfl, hW⟩
      | inr s =>
        rw [hs] at hW
        obtain ⟨b', ps', ru'⟩ := s
        have sp := stp_p hn bn hs
        have sp1 : b < b' := sp.1
        obtain ⟨Z, r, z1, z2, z3, z4⟩ := hloop N hN T n d j (i + 1) J W b' ps' ru' hW.1 hW.2.1 hW.2.2 (by omega) (by omega) (by omega)
        exact ⟨Z, r, by rw [hx, z1], fW.trans z2, z3, z4⟩
    by_cases c1 : 20 ≤ kk T n b ∧ kk T n b ≤ 24
    · rw [if_neg (show ¬ nI (kk T n b) < (20 : Int32) from (nI_nlt c1.1 (by omega) : ¬ nI _ < nI 20)), if_neg (show ¬ (24 : Int32) < nI (kk T n b) from (nI_nlt c1.2 (by omega) : ¬ nI 24 < nI _))]
      obtain ⟨W, w1, w2, w3⟩ := hl_part N hN (f_Reader_read_46 N j) (i := i) g c1.1 c1.2
      refine go _ W w1 w2 ?_
      revert w3
      cases stp T n b ps ru with
      | inl e => exact fun w3 => w3
      | inr e => exact fun w3 => ⟨w3.1, w3.2.1 gd, by rw [w3.2.2]; exact gr⟩
    · have e90 : (if nI (kk T n b) < (20 : Int32) then f_Reader_read_90 N (f_Reader_read_46 N j) 17 (nI i) M else if (24 : Int32) < nI (kk T n b) then f_Reader_read_90 N (f_Reader_read_46 N j) 17 (nI i) M else f_Reader_read_91 N (f_Reader_read_46 N j) 17 (nI i) 1 M) = f_Reader_read_91 N (f_Reader_read_46 N j) 17 (nI i) 0 M := by
        by_cases q : kk T n b < 20
        · rw [if_pos (show nI (kk T n b) < (20 : Int32) from (nI_lt q (by omega) : nI _ < nI 20))]
          rfl
        · rw [if_neg (show ¬ nI (kk T n b) < (20 : Int32) from (nI_nlt (by omega) (by omega) : ¬ nI _ < nI 20)), if_pos (show (24 : Int32) < nI (kk T n b) from (nI_lt (by omega) (by omega) : nI 24 < nI _))]
          rfl
      rw [e90]
      by_cases c25 : kk T n b = 25
      · obtain ⟨W, w1, w2, w3⟩ := hl_use N hN (f_Reader_read_46 N j) (i := i) g c25
        refine go _ W w1 w2 ?_
        revert w3
        cases stp T n b ps ru with
        | inl e => exact fun w3 => w3
        | inr e => exact fun w3 => ⟨w3.1, by rw [w3.2.1]; exact gd, w3.2.2⟩
      · obtain ⟨W, w1, w2, w3⟩ := hl_else N hN (f_Reader_read_46 N j) (i := i) g c1 c25
        refine go _ W w1 w2 ?_
        unfold stp
        rw [if_neg c1, if_neg c25]
        exact w3
