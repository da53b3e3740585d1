/-! 95: MODELS on the reference's side: TWINS, where to look, the answer -/
/-- what is told of MODELS there */ -/
noncomputable def MTl (M : sw_M) (Q : QT) : Prop := MQq M Q ∧ MTe M Q (nm Q) ∧ rd_I M 80 83 = nI (bN (sgt Q.B Q.B.m) Q.B.m)
theorem MTl_t {M : sw_M} {Q : QT} (h : MTl M Q) {i : Nat} (hk : kp Q i = true) {c : Nat} (hc : c < 64) : rd_I M 123 (64 * i + c) = tel Q i c ∧ i < 8 := by
  have hi : i < nm Q := by
    unfold kp at hk
    simp at hk
    exact hk.1
  have hb := nm_b h.1.2.2.2.2.2.2.2
  exact ⟨h.2.1 i hi hk c hc, by omega⟩
theorem Model_areTwins_2 (N : Nat) (Q : QT) (M : sw_M) (h : MTl M Q) (a b : Nat) (ha : kp Q a = true) (hb : kp Q b = true) : ∀ (d i j : Nat), i + d = Q.B.m → d < j → f_Model_areTwins_2 N j 80 (nI a) (nI b) (nI i) M = some (bz ((List.range' i d).all (fun i => !(sgt Q.B Q.B.m i) || decide (tel Q a (Q.B.cell i) = tel Q b (Q.B.cell i)))), M)
  | 0, i, j, hd, hj => by
    obtain ⟨j, rfl⟩ : ∃ k, j = k + 1 := ⟨j - 1, by omega⟩
    obtain rfl : i = Q.B.m := by omega
    have hM := h.1.1
    have hB := h.1.2.2.2.2.1
    have hm := hB.1
    rw [f_Model_areTwins_2, ok_80 hM.1, gd_T, hB.2.2.1, if_pos (nI_le (Nat.le_refl _) (by omega))]
    rfl
  | d + 1, i, j, hd, hj => by
    obtain ⟨j, rfl⟩ : ∃ k, j = k + 1 := ⟨j - 1, by omega⟩
    have hM := h.1.1
    have hB := h.1.2.2.2.2.1
    have hm := hB.1
    have ih := Model_areTwins_2 N Q M h a b ha hb d (i + 1) j (by omega) (by omega)
    have hbit : ((nI (bN (sgt Q.B Q.B.m) Q.B.m) >>> (nI i &&& 31)) &&& 1 = 1) ↔ sgt Q.B Q.B.m i = true := by
      rw [x_bit1 (bN_lt31 _ (by omega)) (by omega), bN_t, decide_eq_true (show i < Q.B.m by omega), Bool.true_and]
    obtain ⟨b1, b2, b3, b4⟩ := hB.2.2.2 i (by omega)
    rw [f_Model_areTwins_2, ok_80 hM.1, gd_T, hB.2.2.1, if_neg (nI_ge (by omega) (by omega)), mr_79 hM, ar_116 hM.1, ti_n (show i < 10 by omega) (by decide), gd_T, h.2.2, List.range'_succ, List.all_cons]
    cases hs : sgt Q.B Q.B.m i
    · rw [if_neg (fun q => by rw [hbit.mp q] at hs; cases hs), f_Model_areTwins_59, nI_1, Bool.not_false, Bool.true_or, Bool.true_and]
      exact ih
    · have hc : Q.B.cell i < 64 := by
        have : Q.B.str i = false := by
          unfold sgt at hs
          simp at hs
          exact hs.2.1
        exact (b2 this).2.2.2.2.1
      obtain ⟨ta, la⟩ := MTl_t h ha hc
      obtain ⟨tb, lb⟩ := MTl_t h hb hc
      rw [if_pos (hbit.mpr hs), cl_n (show i < 2 ^ 31 by omega), b3, mr_88 hM, ix64, ix64, ar_123 hM.1, ti_n (show 64 * a + Q.B.cell i < 512 by omega) (by decide), gd_T, ar_123 hM.1, ti_n (show 64 * b + Q.B.cell i < 512 by omega) (by decide), gd_T, cl_n (by omega), cl_n (by omega), ta, tb, f_Model_areTwins_59, nI_1]
      by_cases e : tel Q a (Q.B.cell i) = tel Q b (Q.B.cell i)
      · rw [if_pos e, decide_eq_true e, Bool.or_true, Bool.true_and]
        exact ih
      · rw [if_neg e, decide_eq_false e]
        rfl
theorem Model_areTwins (N : Nat) (hN : 300 ≤ N) (Q : QT) (M : sw_M) (h : MTl M Q) (a b : Nat) (ha : kp Q a = true) (hb : kp Q b = true) : f_Model_areTwins N 80 (nI a) (nI b) M = some (bz (twn Q a b), M) := by
  have hm := h.1.2.2.2.2.1.1
  have := Model_areTwins_2 N Q M h a b ha hb Q.B.m 0 N (by omega) (by omega)
  unfold twn
  rw [List.range_eq_range']
  exact this
theorem Model_twinsOf_12 (N : Nat) (hN : 300 ≤ N) (k2 : Nat → Int32 → Int32 → sw_M → Option (Int32 × sw_M)) (Q : QT) (M : sw_M) (h : MTl M Q) (a : Nat) (ha : a < 8) : ∀ (d b j : Nat), b + d = 8 → d < j → f_Model_twinsOf_12 N k2 j 80 (nI (KP Q)) (nI a) (nI b) M = match s2 (pp Q a) d b with
    | some x => some (nI (8 * a + x), M)
    | none => k2 80 (nI (KP Q)) (nI (a + 1)) M
  | 0, b, j, hd, hj => by
    obtain ⟨j, rfl⟩ : ∃ k, j = k + 1 := ⟨j - 1, by omega⟩
    obtain rfl : b = 8 := by omega
    rw [f_Model_twinsOf_12, if_pos (show (8 : Int32) ≤ nI 8 from by decide), nI_1]
    rfl
  | d + 1, b, j, hd, hj => by
    obtain ⟨j, rfl⟩ : ∃ k, j = k + 1 := ⟨j - 1, by omega⟩
    have hM := h.1.1
    have hQB := h.1.2.2.2.2.2.2.2
    have ih := Model_twinsOf_12 N hN k2 Q M h a ha d (b + 1) j (by omega) (by omega)
    have skip : pp Q a b = false → f_Model_twinsOf_52 N k2 (f_Model_twinsOf_12 N k2 j) 80 (nI (KP Q)) (nI a) (nI b) M = match s2 (pp Q a) (d + 1) b with
        | some x => some (nI (8 * a + x), M)
        | none => k2 80 (nI (KP Q)) (nI (a + 1)) M := fun q => by
      rw [f_Model_twinsOf_52, nI_1, s2, if_neg (by rw [q]; decide)]
      exact ih
    rw [f_Model_twinsOf_12, if_neg (show ¬ (8 : Int32) ≤ nI b from (nI_ge (by omega) (by omega) : ¬ nI 8 ≤ nI b))]
    cases ka : kp Q a
    · rw [if_neg (fun q => by rw [(KP_bit hQB (by omega)).mp q] at ka; cases ka)]
      exact skip (by unfold pp; rw [ka]; rfl)
    · rw [if_pos ((KP_bit hQB (by omega)).mpr ka)]
      cases kb : kp Q b
      · rw [if_neg (fun q => by rw [(KP_bit hQB (by omega)).mp q] at kb; cases kb)]
        exact skip (by unfold pp; rw [ka, kb]; rfl)
      · rw [if_pos ((KP_bit hQB (by omega)).mpr kb), ok_80 hM.1, gd_T, Model_areTwins N hN Q M h a b ka kb, bn_S]
        show (if bz (twn Q a b) = 0 then _ else _) = _
        cases ht : twn Q a b
        · rw [if_pos (show bz false = 0 from rfl)]
          exact skip (by unfold pp; rw [ka, kb, ht]; rfl)
        · rw [if_neg (show ¬ bz true = 0 by decide), s2, if_pos (by unfold pp; rw [ka, kb, ht]; rfl), show (8 : Int32) = nI 8 from rfl, nI_mul, nI_add]
theorem Model_twinsOf_2 (N : Nat) (hN : 300 ≤ N) (Q : QT) (M : sw_M) (h : MTl M Q) : ∀ (d a j : Nat), a + d = 8 → d < j → f_Model_twinsOf_2 N j 80 (nI (KP Q)) (nI a) M = some ((match s1 (pp Q) 8 d a with
    | some r => nI (8 * r.1 + r.2)
    | none => -1), M)
  | 0, a, j, hd, hj => by
    obtain ⟨j, rfl⟩ : ∃ k, j = k + 1 := ⟨j - 1, by omega⟩
    obtain rfl : a = 8 := by omega
    rw [f_Model_twinsOf_2, if_pos (show (8 : Int32) ≤ nI 8 from by decide)]
    rfl
  | d + 1, a, j, hd, hj => by
    obtain ⟨j, rfl⟩ : ∃ k, j = k + 1 := ⟨j - 1, by omega⟩
    rw [f_Model_twinsOf_2, if_neg (show ¬ (8 : Int32) ≤ nI a from (nI_ge (by omega) (by omega) : ¬ nI 8 ≤ nI a)), nI_1, Model_twinsOf_12 N hN _ Q M h a (by omega) (8 - (a + 1)) (a + 1) N (by omega) (by omega), s1]
    cases s2 (pp Q a) (8 - (a + 1)) (a + 1) with
    | some x => rfl
    | none => exact Model_twinsOf_2 N hN Q M h d (a + 1) j (by omega) (by omega)
noncomputable def twI (Q : QT) : Int32 := match tws Q with
  | some r => nI (8 * r.1 + r.2)
  | none => -1
theorem Model_twinsOf (N : Nat) (hN : 300 ≤ N) (Q : QT) (M : sw_M) (h : MTl M Q) : f_Model_twinsOf N 80 (nI (KP Q)) M = some (twI Q, M) := by
  have := Model_twinsOf_2 N hN Q M h 8 0 N (by omega) (by omega)
  unfold twI
  rw [tws_8 h.1.2.2.2.2.2.2.2] at this
  exact this
theorem tw_div : ∀ a, a < 8 → ∀ b, b < 8 → nI (8 * a + b) / 8 = nI a ∧ nI (8 * a + b) - nI (8 * a + b) / 8 * 8 = nI b ∧ ¬ nI (8 * a + b) = -1 := by decide +kernel
theorem tws_b {Q : QT} (h : QB Q) {r : Nat × Nat} (e : tws Q = some r) : r.1 < 8 ∧ r.2 < 8 ∧ kp Q r.1 = true ∧ kp Q r.2 = true := by
  have hb := nm_b h
  obtain ⟨a1, a2, a3⟩ := s1_s (pp Q) (nm Q) (nm Q) 0 r (by omega) e
  unfold pp at a3
  rw [Bool.and_eq_true, Bool.and_eq_true] at a3
  exact ⟨by omega, by omega, a3.1, a3.2.1⟩
theorem max_nI (x y : Nat) (hx : x < 2 ^ 31) (hy : y < 2 ^ 31) : m_maxI (nI x) (nI y) = nI (max x y) := by
  unfold m_maxI
  by_cases c : x < y
  · rw [if_pos (nI_lt c hy), Nat.max_eq_right (by omega)]
  · rw [if_neg (nI_nlt (by omega) hx), Nat.max_eq_left (by omega)]
theorem Model_lookOf_50 (N : Nat) (k17 : Nat → Int32 → Int32 → Int32 → Int32 → sw_M → Option (Int32 × sw_M)) (k37 : Nat → Int32 → Int32 → Int32 → Int32 → Int32 → Int32 → sw_M → Option (Int32 × sw_M)) (Q : QT) (M : sw_M) (h : MTl M Q) (a2 a3 : Int32) (c a x : Nat) (hc : c < 64) (ha : a < 8) (hx : x ≤ 8) : ∀ (d b j : Nat), b + d = 8 → d < j → f_Model_lookOf_50 N k17 k37 j 80 (nI (KP Q)) a2 a3 (nI c) (nI x) (nI a) (nI (smA Q c a b)) (nI b) M = k37 80 (nI (KP Q)) a2 a3 (nI c) (nI (max x (smA Q c a 8))) (nI (a + 1)) M
  | 0, b, j, hd, hj => by
    obtain ⟨j, rfl⟩ : ∃ k, j = k + 1 := ⟨j - 1, by omega⟩
    obtain rfl : b = 8 := by omega
    have hs := smA_le Q c a 8
    rw [f_Model_lookOf_50, if_pos (show (8 : Int32) ≤ nI 8 from by decide), max_nI _ _ (by omega) (by omega), nI_1]
  | d + 1, b, j, hd, hj => by
    obtain ⟨j, rfl⟩ : ∃ k, j = k + 1 := ⟨j - 1, by omega⟩
    have hM := h.1.1
    have hQB := h.1.2.2.2.2.2.2.2
    have ih := Model_lookOf_50 N k17 k37 Q M h a2 a3 c a x hc ha hx d (b + 1) j (by omega) (by omega)
    rw [smA] at ih
    have z : ¬ (kp Q a && (kp Q b && decide (tel Q a c = tel Q b c))) = true → f_Model_lookOf_112 N k17 k37 (f_Model_lookOf_50 N k17 k37 j) 80 (nI (KP Q)) a2 a3 (nI c) (nI x) (nI a) (nI b) (nI (smA Q c a b)) M = k37 80 (nI (KP Q)) a2 a3 (nI c) (nI (max x (smA Q c a 8))) (nI (a + 1)) M := fun q => by
      rw [if_neg q] at ih
      rw [f_Model_lookOf_112, f_Model_lookOf_113, nI_1, show (0 : Int32) = nI 0 from rfl, nI_add]
      exact ih
    rw [f_Model_lookOf_50, if_neg (show ¬ (8 : Int32) ≤ nI b from (nI_ge (by omega) (by omega) : ¬ nI 8 ≤ nI b))]
    cases ka : kp Q a
    · rw [if_neg (fun q => by rw [(KP_bit hQB (by omega)).mp q] at ka; cases ka)]
      exact z (by rw [ka]; simp)
    · rw [if_pos ((KP_bit hQB (by omega)).mpr ka)]
      cases kb : kp Q b
      · rw [if_neg (fun q => by rw [(KP_bit hQB (by omega)).mp q] at kb; cases kb)]
        exact z (by rw [kb]; simp)
      · obtain ⟨ta, la⟩ := MTl_t h ka hc
        obtain ⟨tb, lb⟩ := MTl_t h kb hc
        rw [if_pos ((KP_bit hQB (by omega)).mpr kb), ok_80 hM.1, gd_T, mr_88 hM, ix64, ix64, ar_123 hM.1, ti_n (show 64 * a + c < 512 by omega) (by decide), gd_T, ar_123 hM.1, ti_n (show 64 * b + c < 512 by omega) (by decide), gd_T, cl_n (by omega), cl_n (by omega), ta, tb]
        by_cases e : tel Q a c = tel Q b c
        · rw [if_pos (by rw [ka, kb, decide_eq_true e]; rfl)] at ih
          rw [if_pos e, f_Model_lookOf_113, nI_1, nI_1]
          exact ih
        · rw [if_neg e]
          exact z (by rw [decide_eq_false e]; simp)
theorem Model_lookOf_37 (N : Nat) (hN : 300 ≤ N) (k17 : Nat → Int32 → Int32 → Int32 → Int32 → sw_M → Option (Int32 × sw_M)) (Q : QT) (M : sw_M) (h : MTl M Q) (b : Int32) (l c : Nat) (hl : l ≤ 8) (hc : c < 64) : ∀ (d a j : Nat), a + d = 8 → d < j → f_Model_lookOf_37 N k17 j 80 (nI (KP Q)) b (nI l) (nI c) (nI (mxA Q c 8 a)) (nI a) M = k17 80 (nI (KP Q)) (if b = -1 ∨ ms Q c < l then (nI c, ms Q c) else (b, l)).1 (nI (if b = -1 ∨ ms Q c < l then (nI c, ms Q c) else (b, l)).2) (nI (c + 1)) M
  | 0, a, j, hd, hj => by
    obtain ⟨j, rfl⟩ : ∃ k, j = k + 1 := ⟨j - 1, by omega⟩
    obtain rfl : a = 8 := by omega
    have hQB := h.1.2.2.2.2.2.2.2
    have hml := mxA_le Q c 8 8
    have hme : ms Q c = mxA Q c 8 8 := (mxA_8 hQB c).symm
    rw [f_Model_lookOf_37, if_pos (show (8 : Int32) ≤ nI 8 from by decide), f_Model_lookOf_151, f_Model_lookOf_157, f_Model_lookOf_157, nI_1, hme]
    by_cases c1 : b = -1
    · rw [if_pos c1, if_pos (Or.inl c1)]
    · rw [if_neg c1]
      by_cases c2 : mxA Q c 8 8 < l
      · rw [if_pos (nI_lt c2 (by omega)), if_pos (Or.inr c2)]
      · rw [if_neg (nI_nlt (by omega) (by omega)), if_neg (fun q => q.elim c1 c2)]
  | d + 1, a, j, hd, hj => by
    obtain ⟨j, rfl⟩ : ∃ k, j = k + 1 := ⟨j - 1, by omega⟩
    have hml := mxA_le Q c 8 a
    have ih := Model_lookOf_37 N hN k17 Q M h b l c hl hc d (a + 1) j (by omega) (by omega)
    rw [mxA] at ih
    rw [f_Model_lookOf_37, if_neg (show ¬ (8 : Int32) ≤ nI a from (nI_ge (by omega) (by omega) : ¬ nI 8 ≤ nI a))]
    exact (Model_lookOf_50 N k17 (f_Model_lookOf_37 N k17 j) Q M h b (nI l) c a (mxA Q c 8 a) hc (by omega) hml 8 0 N (by omega) (by omega)).trans ih
theorem Model_lookOf_17 (N : Nat) (hN : 300 ≤ N) (Q : QT) (M : sw_M) (h : MTl M Q) : ∀ (d c j : Nat) (r : Int32 × Nat), c + d = gg Q → d < j → r.2 ≤ 8 → f_Model_lookOf_17 N j 80 (nI (KP Q)) r.1 (nI r.2) (nI c) M = some ((lkF Q d c r).1, M)
  | 0, c, j, r, hd, hj, hr => by
    obtain ⟨j, rfl⟩ : ∃ k, j = k + 1 := ⟨j - 1, by omega⟩
    have hM := h.1.1
    have hQB := h.1.2.2.2.2.2.2.2
    obtain ⟨g1, g2, g3⟩ := gg_b hQB
    rw [f_Model_lookOf_17, ok_80 hM.1, gd_T, h.1.2.2.2.1.2.2.2.2.2.2.2.1, g3, if_pos (nI_le (by omega) (by omega))]
    rfl
  | d + 1, c, j, r, hd, hj, hr => by
    obtain ⟨j, rfl⟩ : ∃ k, j = k + 1 := ⟨j - 1, by omega⟩
    have hM := h.1.1
    have hQB := h.1.2.2.2.2.2.2.2
    obtain ⟨g1, g2, g3⟩ := gg_b hQB
    have hb := nm_b hQB
    have hms : ms Q c ≤ 8 := Nat.le_trans (mxA_le Q c (nm Q) (nm Q)) hb.2
    rw [f_Model_lookOf_17, ok_80 hM.1, gd_T, h.1.2.2.2.1.2.2.2.2.2.2.2.1, g3, if_neg (nI_ge (by omega) (by omega))]
    refine (Model_lookOf_37 N hN (f_Model_lookOf_17 N j) Q M h r.1 r.2 c hr (by omega) 8 0 N (by omega) (by omega)).trans ?_
    rw [lkF]
    exact Model_lookOf_17 N hN Q M h d (c + 1) j (if r.1 = -1 ∨ ms Q c < r.2 then (nI c, ms Q c) else r) (by omega) (by omega) (by split; exact hms; exact hr)
theorem Model_lookOf (N : Nat) (hN : 300 ≤ N) (Q : QT) (M : sw_M) (h : MTl M Q) : f_Model_lookOf N 80 (nI (KP Q)) M = some (look Q, M) := by
  have hQB := h.1.2.2.2.2.2.2.2
  have hk := KP_lt hQB
  have hp := pc_le (KP Q)
  obtain ⟨g1, g2, g3⟩ := gg_b hQB
  unfold f_Model_lookOf look
  rw [Model_many N hN M (KP Q) (by omega), bn_S]
  show (if (2 : Int32) ≤ nI (pc (KP Q)) then f_Model_lookOf_17 N N 80 (nI (KP Q)) (-1) 0 0 M else _) = _
  by_cases c : 2 ≤ pc (KP Q)
  · rw [if_pos (show (2 : Int32) ≤ nI (pc (KP Q)) from (nI_le c (by omega) : nI 2 ≤ nI (pc (KP Q)))), if_pos c]
    exact Model_lookOf_17 N hN Q M h (gg Q) 0 N (-1, 0) (by omega) (by omega) (by omega)
  · rw [if_neg (show ¬ (2 : Int32) ≤ nI (pc (KP Q)) from (nI_ge (by omega) (by omega) : ¬ nI 2 ≤ nI (pc (KP Q)))), if_neg c]
theorem Model_parting_2 (N : Nat) (Q : QT) (M : sw_M) (h : MTl M Q) (a b : Nat) (ha : kp Q a = true) (hb : kp Q b = true) : ∀ (d c j : Nat), c + d = gg Q → d < j → f_Model_parting_2 N j 80 (nI a) (nI b) (nI c) M = some ((match s2 (fun c => decide (¬ tel Q a c = tel Q b c)) d c with
    | some x => nI x
    | none => -1), M)
  | 0, c, j, hd, hj => by
    obtain ⟨j, rfl⟩ : ∃ k, j = k + 1 := ⟨j - 1, by omega⟩
    have hM := h.1.1
    have hQB := h.1.2.2.2.2.2.2.2
    obtain ⟨g1, g2, g3⟩ := gg_b hQB
    rw [f_Model_parting_2, ok_80 hM.1, gd_T, h.1.2.2.2.1.2.2.2.2.2.2.2.1, g3, if_pos (nI_le (by omega) (by omega))]
    rfl
  | d + 1, c, j, hd, hj => by
    obtain ⟨j, rfl⟩ : ∃ k, j = k + 1 := ⟨j - 1, by omega⟩
    have hM := h.1.1
    have hQB := h.1.2.2.2.2.2.2.2
    obtain ⟨g1, g2, g3⟩ := gg_b hQB
    obtain ⟨ta, la⟩ := MTl_t h ha (show c < 64 by omega)
    obtain ⟨tb, lb⟩ := MTl_t h hb (show c < 64 by omega)
    rw [f_Model_parting_2, ok_80 hM.1, gd_T, h.1.2.2.2.1.2.2.2.2.2.2.2.1, g3, if_neg (nI_ge (by omega) (by omega)), mr_88 hM, ix64, ix64, ar_123 hM.1, ti_n (show 64 * a + c < 512 by omega) (by decide), gd_T, ar_123 hM.1, ti_n (show 64 * b + c < 512 by omega) (by decide), gd_T, cl_n (by omega), cl_n (by omega), ta, tb, s2, nI_1]
    by_cases e : tel Q a c = tel Q b c
    · rw [if_pos e, if_neg (by simp [e])]
      exact Model_parting_2 N Q M h a b ha hb d (c + 1) j (by omega) (by omega)
    · rw [if_neg e, if_pos (by simp [e])]
