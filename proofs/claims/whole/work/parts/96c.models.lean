/-! 96c: models on the other side -/
/-- what the answers of models rest on -/
noncomputable def HA (M : sw_M) (Q : QT) : Prop := HR M ∧ QB Q ∧ HD M Q ∧ rd_I M 3 3 = Q.lo ∧ rd_I M 33 5 = Q.E.g
theorem HA_t {M : sw_M} {Q : QT} (h : HA M Q) {i : Nat} (hk : kp Q i = true) {c : Nat} (hc : c < 64) : rd_I M (70 + i) c = tel Q i c ∧ i < 8 ∧ rd_R M 69 i = 70 + i ∧ sw_ar M (70 + i) 13 (nI c) = true := by
  have hi : i < nm Q := by
    unfold kp at hk
    simp at hk
    exact hk.1
  have hb := nm_b h.2.1
  have hH1 := h.1.1
  refine ⟨h.2.2.1.2.2.2.2.2 i hi hk c hc, by omega, hr_f h.1 69 i _ (if_pos (show i < 8 by omega)) (by omega), ?_⟩
  rw [c_ar (sh_tel i (by omega)) (by omega), ti_n hc (by decide)]
theorem isKept2 (N : Nat) (Q : QT) (M : sw_M) (h : HA M Q) (k : Nat) (hk : k < 32) : f_Models_isKept N 68 (nI k) M = some (bz (kp Q k), M) := by
  unfold f_Models_isKept
  rw [ok_68 h.1.1, gd_T, h.2.2.1.2.2.1]
  cases c : kp Q k
  · rw [if_neg (fun q => by rw [(KP_bit h.2.1 hk).mp q] at c; cases c)]; rfl
  · rw [if_pos ((KP_bit h.2.1 hk).mpr c)]; rfl
theorem massOf2 (N : Nat) (Q : QT) (M : sw_M) (h : HA M Q) (k : Nat) : f_Models_massOf N 68 (nI k) M = some (mk Q k, M) := by
  unfold f_Models_massOf
  rw [ok_68 h.1.1, gd_T, hr_f h.1 68 0 3 rfl (by decide), ok_3 h.1.1, gd_T, h.2.2.2.1, h.2.2.1.1]
  rfl
theorem leastMass_2 (N : Nat) (Q : QT) (M : sw_M) (h : HA M Q) : ∀ (d i j : Nat), i + d = nm Q → d < j → f_Models_leastMass_2 N j 68 (nI i) M = some ((match s2 (kp Q) d i with
    | some k => mk Q k
    | none => -1), M)
  | 0, i, j, hd, hj => by
    obtain ⟨j, rfl⟩ : ∃ k, j = k + 1 := ⟨j - 1, by omega⟩
    have hb := nm_b h.2.1
    rw [f_Models_leastMass_2, ok_68 h.1.1, gd_T, h.2.2.1.2.1, if_pos (nI_le (by omega) (by omega))]
    rfl
  | d + 1, i, j, hd, hj => by
    obtain ⟨j, rfl⟩ : ∃ k, j = k + 1 := ⟨j - 1, by omega⟩
    have hb := nm_b h.2.1
    rw [f_Models_leastMass_2, ok_68 h.1.1, gd_T, h.2.2.1.2.1, if_neg (nI_ge (by omega) (by omega)), isKept2 N Q M h i (by omega), bn_S, s2]
    show (if bz (kp Q i) = 0 then f_Models_leastMass_2 N j 68 (nI i + 1) M else sw_gd [sw_ok M 68 2] ((f_Models_massOf N 68 (nI i) M).bind _)) = _
    cases c : kp Q i
    · rw [if_pos (show bz false = 0 from rfl), if_neg (by decide), nI_1]
      exact leastMass_2 N Q M h d (i + 1) j (by omega) (by omega)
    · rw [if_neg (show ¬ bz true = 0 by decide), if_pos rfl, ok_68 h.1.1, gd_T, massOf2 N Q M h, bn_S]
theorem greatestMass_7 (N : Nat) (Q : QT) (M : sw_M) (h : HA M Q) : ∀ (d i j : Nat), i + d = nm Q → d < j → f_Models_greatestMass_7 N j 68 (nI (nm Q - i) - 1) M = some ((match s2 (fun i => kp Q (nm Q - 1 - i)) d i with
    | some i => mk Q (nm Q - 1 - i)
    | none => -1), M)
  | 0, i, j, hd, hj => by
    obtain ⟨j, rfl⟩ : ∃ k, j = k + 1 := ⟨j - 1, by omega⟩
    rw [show nm Q - i = 0 by omega, f_Models_greatestMass_7, if_pos (by decide)]
    rfl
  | d + 1, i, j, hd, hj => by
    obtain ⟨j, rfl⟩ : ∃ k, j = k + 1 := ⟨j - 1, by omega⟩
    have hb := nm_b h.2.1
    have e1 : nI (nm Q - i) - 1 = nI (nm Q - 1 - i) := by
      rw [show nm Q - i = (nm Q - 1 - i) + 1 by omega, nI_pred]
    rw [f_Models_greatestMass_7, e1, if_neg (nI_pos (by omega)), ok_68 h.1.1, gd_T, isKept2 N Q M h _ (by omega), bn_S, s2]
    show (if bz (kp Q (nm Q - 1 - i)) = 0 then f_Models_greatestMass_7 N j 68 (nI (nm Q - 1 - i) + (-1)) M else sw_gd [sw_ok M 68 2] ((f_Models_massOf N 68 (nI (nm Q - 1 - i)) M).bind _)) = _
    cases c : kp Q (nm Q - 1 - i)
    · rw [if_pos (show bz false = 0 from rfl), if_neg (by decide), nI_dn, show nm Q - 1 - i = nm Q - (i + 1) by omega]
      exact greatestMass_7 N Q M h d (i + 1) j (by omega) (by omega)
    · rw [if_neg (show ¬ bz true = 0 by decide), if_pos rfl, ok_68 h.1.1, gd_T, massOf2 N Q M h, bn_S]
theorem mostAlike_24 (N : Nat) (k4 : Nat → Int32 → Int32 → Int32 → sw_M → Option (Int32 × sw_M)) (Q : QT) (M : sw_M) (h : HA M Q) (c a x : Nat) (hc : c < 64) (ha : a < 8) (hx : x ≤ 8) : ∀ (d b j : Nat), b + d = nm Q → d < j → f_Models_mostAlike_24 N k4 j 68 (nI c) (nI x) (nI a) (nI (smA Q c a b)) (nI b) M = k4 68 (nI c) (nI (max x (smA Q c a (nm Q)))) (nI (a + 1)) M
  | 0, b, j, hd, hj => by
    obtain ⟨j, rfl⟩ : ∃ k, j = k + 1 := ⟨j - 1, by omega⟩
    obtain rfl : b = nm Q := by omega
    have hb := nm_b h.2.1
    have hs := smA_le Q c a (nm Q)
    rw [f_Models_mostAlike_24, ok_68 h.1.1, gd_T, h.2.2.1.2.1, if_pos (nI_le (Nat.le_refl _) (by omega)), f_Models_mostAlike_86, max_nI _ _ (by omega) (by omega), nI_1]
  | d + 1, b, j, hd, hj => by
    obtain ⟨j, rfl⟩ : ∃ k, j = k + 1 := ⟨j - 1, by omega⟩
    have hb := nm_b h.2.1
    have hH := h.1
    have ih := mostAlike_24 N k4 Q M h c a x hc ha hx d (b + 1) j (by omega) (by omega)
    rw [smA] at ih
    have z : ¬ (kp Q a && (kp Q b && decide (tel Q a c = tel Q b c))) = true → f_Models_mostAlike_80 N k4 (f_Models_mostAlike_24 N k4 j) 68 (nI c) (nI x) (nI a) (nI (smA Q c a b)) (nI b) M = k4 68 (nI c) (nI (max x (smA Q c a (nm Q)))) (nI (a + 1)) M := fun q => by
      rw [if_neg q, Nat.add_zero] at ih
      rw [f_Models_mostAlike_80, nI_1]
      exact ih
    rw [f_Models_mostAlike_24, ok_68 hH.1, gd_T, h.2.2.1.2.1, if_neg (nI_ge (by omega) (by omega)), if_neg (show ¬ (8 : Int32) ≤ nI b from (nI_ge (by omega) (by omega) : ¬ nI 8 ≤ nI b)), isKept2 N Q M h a (by omega), bn_S]
    show (if bz (kp Q a) = 0 then _ else sw_gd [sw_ok M 68 2] ((f_Models_isKept N 68 (nI b) M).bind _)) = _
    cases ka : kp Q a
    · rw [if_pos (show bz false = 0 from rfl)]
      exact z (by rw [ka]; simp)
    · rw [if_neg (show ¬ bz true = 0 by decide), ok_68 hH.1, gd_T, isKept2 N Q M h b (by omega), bn_S]
      show (if bz (kp Q b) = 0 then _ else _) = _
      cases kb : kp Q b
      · rw [if_pos (show bz false = 0 from rfl)]
        exact z (by rw [kb]; simp)
      · obtain ⟨ta, la, ra, aa⟩ := HA_t h ka hc
        obtain ⟨tb, lb, rb, ab⟩ := HA_t h kb hc
        rw [if_neg (show ¬ bz true = 0 by decide)]
        simp only [m_II, m_LL, m_RR, m_IL, m_IR, m_LI, m_LR, m_RI, m_RL, m_NI, m_NL, m_NR, m_okI, m_okL, m_okR, m_okaI, m_okaL, m_okaR, m_arI, m_arL, m_arR, gd_T, bn_S, Nat.reduceEqDiff, Nat.left_eq_add, Nat.add_eq_left, Nat.one_ne_zero, and_false, and_true, false_and, true_and, if_false, if_true, ok_68 hH.1, hr_f hH 68 4 69 rfl (by decide), ar_69 hH.1, an_69_17, an_69_18, Bool.false_or, ti_n (show a < 8 by omega) (by decide), ti_n (show b < 8 by omega) (by decide), cl_n (show a < 2 ^ 31 by omega), cl_n (show b < 2 ^ 31 by omega), ra, rb, aa, ab, cl_n (show c < 2 ^ 31 by omega), ta, tb]
        by_cases e : tel Q a c = tel Q b c
        · rw [if_pos (by rw [ka, kb, decide_eq_true e]; rfl)] at ih
          rw [if_pos e, f_Models_mostAlike_80, nI_1, nI_1]
          exact ih
        · rw [if_neg e]
          exact z (by rw [decide_eq_false e]; simp)
theorem mostAlike_4 (N : Nat) (hN : 300 ≤ N) (Q : QT) (M : sw_M) (h : HA M Q) (c : Nat) (hc : c < 64) : ∀ (d a j : Nat), a + d = nm Q → d < j → f_Models_mostAlike_4 N j 68 (nI c) (nI (mxA Q c (nm Q) a)) (nI a) M = some (nI (ms Q c), M)
  | 0, a, j, hd, hj => by
    obtain ⟨j, rfl⟩ : ∃ k, j = k + 1 := ⟨j - 1, by omega⟩
    obtain rfl : a = nm Q := by omega
    have hb := nm_b h.2.1
    rw [f_Models_mostAlike_4, ok_68 h.1.1, gd_T, h.2.2.1.2.1, if_pos (nI_le (Nat.le_refl _) (by omega))]
    rfl
  | d + 1, a, j, hd, hj => by
    obtain ⟨j, rfl⟩ : ∃ k, j = k + 1 := ⟨j - 1, by omega⟩
    have hb := nm_b h.2.1
    have hml := mxA_le Q c (nm Q) a
    have ih := mostAlike_4 N hN Q M h c hc d (a + 1) j (by omega) (by omega)
    rw [mxA] at ih
    rw [f_Models_mostAlike_4, ok_68 h.1.1, gd_T, h.2.2.1.2.1, if_neg (nI_ge (by omega) (by omega)), if_neg (show ¬ (8 : Int32) ≤ nI a from (nI_ge (by omega) (by omega) : ¬ nI 8 ≤ nI a))]
    exact (mostAlike_24 N (f_Models_mostAlike_4 N j) Q M h c a (mxA Q c (nm Q) a) hc (by omega) (by omega) (nm Q) 0 N (by omega) (by omega)).trans ih
theorem mostAlike (N : Nat) (hN : 300 ≤ N) (Q : QT) (M : sw_M) (h : HA M Q) (c : Nat) (hc : c < 64) : f_Models_mostAlike N 68 (nI c) M = some (nI (ms Q c), M) := by
  have hb := nm_b h.2.1
  exact mostAlike_4 N hN Q M h c hc (nm Q) 0 N (by omega) (by omega)
theorem look_21 (N : Nat) (hN : 300 ≤ N) (Q : QT) (M : sw_M) (h : HA M Q) : ∀ (d c j : Nat) (r : Int32 × Nat) (f : Nat), c + d = gg Q → d < j → ((r.1 = -1 ∧ f = 9) ∨ (¬ r.1 = -1 ∧ f = r.2 ∧ f ≤ 8)) → f_Models_look_21 N j 68 (nI (gg Q)) r.1 (nI f) (nI c) M = some ((lkF Q d c r).1, M)
  | 0, c, j, r, f, hd, hj, hr => by
    obtain ⟨j, rfl⟩ : ∃ k, j = k + 1 := ⟨j - 1, by omega⟩
    obtain ⟨g1, g2, g3⟩ := gg_b h.2.1
    rw [f_Models_look_21, if_pos (nI_le (by omega) (by omega))]
    rfl
  | d + 1, c, j, r, f, hd, hj, hr => by
    obtain ⟨j, rfl⟩ : ∃ k, j = k + 1 := ⟨j - 1, by omega⟩
    obtain ⟨g1, g2, g3⟩ := gg_b h.2.1
    have hb := nm_b h.2.1
    have hms : ms Q c ≤ 8 := Nat.le_trans (mxA_le Q c (nm Q) (nm Q)) hb.2
    rw [f_Models_look_21, if_neg (nI_ge (by omega) (by omega)), if_neg (show ¬ (64 : Int32) ≤ nI c from (nI_ge (by omega) (by omega) : ¬ nI 64 ≤ nI c)), ok_68 h.1.1, gd_T, mostAlike N hN Q M h c (by omega), bn_S, lkF]
    show (if nI f ≤ nI (ms Q c) then f_Models_look_54 N (f_Models_look_21 N j) 68 (nI (gg Q)) r.1 (nI f) (nI c) M else f_Models_look_54 N (f_Models_look_21 N j) 68 (nI (gg Q)) (nI c) (nI (ms Q c)) (nI c) M) = _
    rw [f_Models_look_54, f_Models_look_54, nI_1]
    have hcm : ¬ nI c = -1 := fun e => by
      have := congrArg Int32.toInt e
      rw [nI_toInt (by omega), show (-1 : Int32).toInt = -1 from by decide] at this
      omega
    rcases hr with ⟨r1, r2⟩ | ⟨r1, r2, r3⟩
    · rw [if_neg (nI_ge (by omega) (by omega)), if_pos (Or.inl r1)]
      exact look_21 N hN Q M h d (c + 1) j (nI c, ms Q c) (ms Q c) (by omega) (by omega) (Or.inr ⟨hcm, rfl, hms⟩)
    · by_cases q : f ≤ ms Q c
      · rw [if_pos (nI_le q (by omega)), if_neg (fun z => z.elim r1 (fun z => by omega))]
        exact look_21 N hN Q M h d (c + 1) j r f (by omega) (by omega) (Or.inr ⟨r1, r2, r3⟩)
      · rw [if_neg (nI_ge (by omega) (by omega)), if_pos (Or.inr (by omega))]
        exact look_21 N hN Q M h d (c + 1) j (nI c, ms Q c) (ms Q c) (by omega) (by omega) (Or.inr ⟨hcm, rfl, hms⟩)
theorem Models_look (N : Nat) (hN : 300 ≤ N) (Q : QT) (M : sw_M) (h : HA M Q) : f_Models_look N 68 (nI (gg Q)) M = some (look Q, M) := by
  have hk := KP_lt h.2.1
  have hp := pc_le (KP Q)
  obtain ⟨g1, g2, g3⟩ := gg_b h.2.1
  unfold f_Models_look look
  rw [ok_68 h.1.1, gd_T, h.2.2.1.2.2.1, Int_bitCount N M (show KP Q < 1024 by omega), bn_S]
  show (if (2 : Int32) ≤ nI (pc (KP Q)) then f_Models_look_21 N N 68 (nI (gg Q)) (-1) 9 0 M else _) = _
  by_cases c : 2 ≤ pc (KP Q)
  · rw [if_pos (show (2 : Int32) ≤ nI (pc (KP Q)) from (nI_le c (by omega) : nI 2 ≤ nI (pc (KP Q)))), if_pos c]
    exact look_21 N hN Q M h (gg Q) 0 N (-1, 0) 9 (by omega) (by omega) (Or.inl ⟨rfl, rfl⟩)
  · rw [if_neg (show ¬ (2 : Int32) ≤ nI (pc (KP Q)) from (nI_ge (by omega) (by omega) : ¬ nI 2 ≤ nI (pc (KP Q)))), if_neg c]
theorem parting_18 (N : Nat) (Q : QT) (M : sw_M) (h : HA M Q) (r : Nat × Nat) (ht : tws Q = some r) : ∀ (d c j : Nat), c + d = 64 → d < j → f_Models_partingCell_18 N j 68 (nI c) M = some ((match s2 (fun c => decide (¬ tel Q r.1 c = tel Q r.2 c)) d c with
    | some x => nI x
    | none => -1), M)
  | 0, c, j, hd, hj => by
    obtain ⟨j, rfl⟩ : ∃ k, j = k + 1 := ⟨j - 1, by omega⟩
    obtain rfl : c = 64 := by omega
    rw [f_Models_partingCell_18, if_pos (show (64 : Int32) ≤ nI 64 from by decide)]
    rfl
  | d + 1, c, j, hd, hj => by
    obtain ⟨j, rfl⟩ : ∃ k, j = k + 1 := ⟨j - 1, by omega⟩
    have hH := h.1
    obtain ⟨b1, b2, b3, b4⟩ := tws_b h.2.1 ht
    obtain ⟨ta, la, ra, aa⟩ := HA_t h b3 (show c < 64 by omega)
    obtain ⟨tb, lb, rb, ab⟩ := HA_t h b4 (show c < 64 by omega)
    have e8 : rd_I M 68 8 = nI r.1 := by rw [h.2.2.1.2.2.2.1]; unfold tw8; rw [ht]
    have e9 : rd_I M 68 9 = nI r.2 := by rw [h.2.2.1.2.2.2.2.1]; unfold tw9; rw [ht]
    have ih := parting_18 N Q M h r ht d (c + 1) j (by omega) (by omega)
    rw [f_Models_partingCell_18, if_neg (show ¬ (64 : Int32) ≤ nI c from (nI_ge (by omega) (by omega) : ¬ nI 64 ≤ nI c))]
    simp only [m_II, m_LL, m_RR, m_IL, m_IR, m_LI, m_LR, m_RI, m_RL, m_NI, m_NL, m_NR, m_okI, m_okL, m_okR, m_okaI, m_okaL, m_okaR, m_arI, m_arL, m_arR, gd_T, bn_S, Nat.reduceEqDiff, Nat.left_eq_add, Nat.add_eq_left, Nat.one_ne_zero, and_false, and_true, false_and, true_and, if_false, if_true, ok_68 hH.1, hr_f hH 68 4 69 rfl (by decide), ar_69 hH.1, an_69_17, an_69_18, Bool.false_or, e8, e9, ti_n b1 (by decide), ti_n b2 (by decide), cl_n (show r.1 < 2 ^ 31 by omega), cl_n (show r.2 < 2 ^ 31 by omega), ra, rb, aa, ab, cl_n (show c < 2 ^ 31 by omega), ta, tb, nI_1]
    rw [s2]
    by_cases e : tel Q r.1 c = tel Q r.2 c
    · rw [if_pos e, if_neg (by simp [e])]
      exact ih
    · rw [if_neg e, if_pos (by simp [e])]
theorem Models_partingCell (N : Nat) (hN : 300 ≤ N) (Q : QT) (M : sw_M) (h : HA M Q) : f_Models_partingCell N 68 M = some ((match tws Q with
    | some r => (match prt Q r.1 r.2 with
      | some c => nI c
      | none => -1)
    | none => -1), M) := by
  unfold f_Models_partingCell
  rw [ok_68 h.1.1, gd_T, h.2.2.1.2.2.2.1, h.2.2.1.2.2.2.2.1]
  unfold tw8 tw9
  cases ht : tws Q with
  | none => rfl
  | some r =>
    obtain ⟨b1, b2, b3, b4⟩ := tws_b h.2.1 ht
    show (if nI r.1 < 0 then _ else if 0 ≤ nI r.2 then _ else _) = _
    rw [if_neg (nI_pos (by omega)), if_pos (nI_pos' (by omega)), show (0 : Int32) = nI 0 from rfl, parting_18 N Q M h r ht 64 0 N (by omega) (by omega), prt_64 h.2.1]
/-- what the house keeps of MODELS: nothing, or those of a pace -/
noncomputable def CM (M : sw_M) (E : EN) (B : NN) (por lo hi : Int32) : Prop := rd_I M 68 5 = 0 ∨ ∃ pa, QB (E, B, por, lo, hi, pa) ∧ HD M (E, B, por, lo, hi, pa)
theorem House_models (N : Nat) (hN : 200000 ≤ N) (Q : QT) (M : sw_M) (hQ : HQ M Q) (hc : CH M Q.E) (hcm : CM M Q.E Q.B Q.por Q.lo Q.hi) (what : Int32) (hw0 : ¬ what < 0) (hw7 : what ≤ 7) : ∃ Z, f_House_models N 1 Q.pa what M = some (mAns Q what, Z) ∧ Fr Amk M Z ∧ CH Z Q.E ∧ CM Z Q.E Q.B Q.por Q.lo Q.hi ∧ rd_I Z 3 5 = rd_I M 3 5 := by
  have hQB := hQ.2.2.2.2.2.2.2.2
  have hpa := hQB.2.2.1
  have hb := nm_b hQB
  have hH := hQ.1
  have eQ : (Q.E, Q.B, Q.por, Q.lo, Q.hi, Q.pa) = Q := rfl
  have hmk : ∃ Z, f_Models_make N 68 Q.pa M = some Z ∧ Fr Amk M Z ∧ CH Z Q.E ∧ HD Z Q ∧ rd_I Z 3 5 = rd_I M 3 5 := by
    by_cases c : rd_I M 68 5 = Q.pa
    · refine ⟨M, ?_, Fr.refl _ _, hc, ?_, rfl⟩
      · unfold f_Models_make
        rw [ok_68 hH.1, gd_T, if_pos c]
      · rcases hcm with h | ⟨pa, h1, h2⟩
        · exfalso
          rw [h] at c
          rw [← c, show (0 : Int32).toInt = 0 from by decide] at hpa
          omega
        · have : pa = Q.pa := h2.1.symm.trans c
          rw [this] at h2
          exact h2
    · exact Models_make N hN Q M hQ hc c
  obtain ⟨Z, z1, z2, z3, z4, z5⟩ := hmk
  have hQZ := HQ_fr z2 ChqAmk hQ
  have hHZ := hQZ.1
  have hA : HA Z Q := ⟨hHZ, hQB, z4, hQZ.2.2.2.2.2.2.1, hQZ.2.2.2.1.2.1⟩
  refine ⟨Z, ?_, z2, z3, Or.inr ⟨Q.pa, hQB, z4⟩, z5⟩
  obtain ⟨g1, g2, g3⟩ := gg_b hQB
  have hg : (rd_I Z 33 5) * (rd_I Z 33 5) = nI (gg Q) := by rw [hA.2.2.2.2]; exact g3
  have l2 : f_Models_leastMass N 68 Z = _ := leastMass_2 N Q Z hA (nm Q) 0 N (by omega) (by omega)
  have l3 : f_Models_greatestMass N 68 Z = some ((match s2 (fun i => kp Q (nm Q - 1 - i)) (nm Q) 0 with
    | some i => mk Q (nm Q - 1 - i)
    | none => -1), Z) := by
    unfold f_Models_greatestMass
    rw [ok_68 hHZ.1, gd_T, z4.2.1]
    exact greatestMass_7 N Q Z hA (nm Q) 0 N (by omega) (by omega)
  unfold f_House_models mAns
  rw [if_neg (i32_nlt (by rw [show (1 : Int32).toInt = 1 from by decide]; omega)), if_neg (i32_nlt (by rw [show (99999 : Int32).toInt = 99999 from by decide]; omega)), if_neg hw0, if_pos hw7, ok_1 hH.1, gd_T, hr_f hH 1 9 68 rfl (by decide), ok_68 hH.1, gd_T, z1, bn_S]
  unfold f_House_models_131
  simp only [ok_1 hHZ.1, ok_68 hHZ.1, ok_33 hHZ.1, hr_f hHZ 1 9 68 rfl (by decide), hr_f hHZ 1 6 33 rfl (by decide), gd_T, bn_S, l2, l3, hg, Models_look N (by omega) Q Z hA, Models_partingCell N (by omega) Q Z hA, z4.2.1, z4.2.2.1, z4.2.2.2.1, z4.2.2.2.2.1]
  rcases what7 hw0 hw7 with e | e | e | e | e | e | e | e <;> subst e <;> simp (decide := true) only [if_true, if_false] <;> rfl
