/-! 96b: MODELS on the other side: TWINS; all that is kept of them -/
/-- what is told of MODELS on this side -/
noncomputable def HTl (M : sw_M) (Q : QT) : Prop := HR M ∧ NT M Q.B ∧ kno M Q.B ∧ QB Q ∧ rd_I M 68 6 = nI (nm Q) ∧ rd_I M 68 7 = nI (KP Q) ∧ HTe M Q (nm Q)
theorem HTl_fr {A : Nat → Nat → Prop} {M W : sw_M} (h : Fr A M W) (hA : ∀ a k, (Cnt a k ∨ a = 41 ∨ (a = 68 ∧ (k = 6 ∨ k = 7)) ∨ (70 ≤ a ∧ a ≤ 77)) → ¬ A a k) {Q : QT} (g : HTl M Q) : HTl W Q := by
  obtain ⟨g1, g2, g3, g4, g5, g6, g7⟩ := g
  have hb := nm_b g4
  refine ⟨h.hr g1, NT_fr h (fun a k c => hA a k (Or.inl c)) g2, fun t ht => ?_, g4, (h.I _ _ (hA _ _ (by omega))).trans g5, (h.I _ _ (hA _ _ (by omega))).trans g6, fun i hi hk c hc => ?_⟩
  · rw [h.I 41 t (hA _ _ (by omega))]; exact g3 t ht
  · rw [h.I _ _ (hA _ _ (by omega))]; exact g7 i hi hk c hc
theorem HTl_t {M : sw_M} {Q : QT} (h : HTl M Q) {i : Nat} (hk : kp Q i = true) {c : Nat} (hc : c < 64) : rd_I M (70 + i) c = tel Q i c ∧ i < 8 ∧ rd_R M 69 i = 70 + i ∧ sw_ar M (70 + i) 13 (nI c) = true := by
  have hi : i < nm Q := by
    unfold kp at hk
    simp at hk
    exact hk.1
  have hb := nm_b h.2.2.2.1
  have hH1 := h.1.1
  refine ⟨h.2.2.2.2.2.2 i hi hk c hc, by omega, hr_f h.1 69 i _ (if_pos (show i < 8 by omega)) (by omega), ?_⟩
  rw [c_ar (sh_tel i (by omega)) (by omega), ti_n hc (by decide)]
theorem Models_isKept (N : Nat) (Q : QT) (M : sw_M) (h : HTl M Q) (k : Nat) (hk : k < 32) : f_Models_isKept N 68 (nI k) M = some (bz (kp Q k), M) := by
  unfold f_Models_isKept
  rw [ok_68 h.1.1, gd_T, h.2.2.2.2.2.1]
  cases c : kp Q k
  · rw [if_neg (fun q => by rw [(KP_bit h.2.2.2.1 hk).mp q] at c; cases c)]; rfl
  · rw [if_pos ((KP_bit h.2.2.2.1 hk).mpr c)]; rfl
theorem Models_seenAlike_2 (N : Nat) (Q : QT) (M : sw_M) (h : HTl M Q) (a b : Nat) (ha : kp Q a = true) (hb : kp Q b = true) : ∀ (d i j : Nat), i + d = Q.B.m → d < j → f_Models_seenAlike_2 N j 68 (nI a) (nI b) (nI i) M = some (bz ((List.range' i d).all (fun i => !(sgt Q.B Q.B.m i) || decide (tel Q a (Q.B.cell i) = tel Q b (Q.B.cell i)))), M)
  | 0, i, j, hd, hj => by
    obtain ⟨j, rfl⟩ : ∃ k, j = k + 1 := ⟨j - 1, by omega⟩
    obtain rfl : i = Q.B.m := by omega
    have hH := h.1
    have hB := h.2.1
    have hm := hB.1
    rw [f_Models_seenAlike_2, ok_68 hH.1, gd_T, hr_f hH 68 2 36 rfl (by decide), ok_36 hH.1, gd_T, hB.2.1, if_pos (nI_le (Nat.le_refl _) (by omega))]
    rfl
  | d + 1, i, j, hd, hj => by
    obtain ⟨j, rfl⟩ : ∃ k, j = k + 1 := ⟨j - 1, by omega⟩
    have hH := h.1
    have hB := h.2.1
    have hm := hB.1
    have ih := Models_seenAlike_2 N Q M h a b ha hb d (i + 1) j (by omega) (by omega)
    obtain ⟨b1, b2, b3, b4⟩ := hB.2.2.2 i (by omega)
    rw [f_Models_seenAlike_2, ok_68 hH.1, gd_T, hr_f hH 68 2 36 rfl (by decide), ok_36 hH.1, gd_T, hB.2.1, if_neg (nI_ge (by omega) (by omega)), if_neg (show ¬ (10 : Int32) ≤ nI i from (nI_ge (by omega) (by omega) : ¬ nI 10 ≤ nI i)), hr_f hH 36 1 38 rfl (by decide), ar_38 hH.1, ti_n (show i < 10 by omega) (by decide), gd_T, Notes_isSight2 N M hH Q.B hB h.2.2.1 i (by omega), bn_S, List.range'_succ, List.all_cons]
    show (if bz (sgt Q.B Q.B.m i) = 0 then _ else _) = _
    cases hs : sgt Q.B Q.B.m i
    · rw [if_pos (show bz false = 0 from rfl), f_Models_seenAlike_76, nI_1, Bool.not_false, Bool.true_or, Bool.true_and]
      exact ih
    · have hc : Q.B.cell i < 64 := by
        have : Q.B.str i = false := by
          unfold sgt at hs
          simp at hs
          exact hs.2.1
        exact (b2 this).2.2.2.2.1
      obtain ⟨ta, la, ra, aa⟩ := HTl_t h ha hc
      obtain ⟨tb, lb, rb, ab⟩ := HTl_t h hb hc
      rw [if_neg (show ¬ bz true = 0 by decide), cl_n (show i < 2 ^ 31 by omega), b4, if_neg (nI_pos (by omega)), if_neg (show ¬ (64 : Int32) ≤ nI (Q.B.cell i) from (nI_ge hc (by omega) : ¬ nI 64 ≤ nI (Q.B.cell i)))]
      simp only [f_Models_seenAlike_76, m_II, m_LL, m_RR, m_IL, m_IR, m_LI, m_LR, m_RI, m_RL, m_NI, m_NL, m_NR, m_okI, m_okL, m_okR, m_okaI, m_okaL, m_okaR, m_arI, m_arL, m_arR, gd_T, bn_S, Nat.reduceEqDiff, Nat.left_eq_add, Nat.add_eq_left, Nat.one_ne_zero, and_false, and_true, false_and, true_and, if_false, if_true, ok_68 hH.1, hr_f hH 68 4 69 rfl (by decide), ar_69 hH.1, an_69_17, an_69_18, Bool.false_or, ti_n (show a < 8 by omega) (by decide), ti_n (show b < 8 by omega) (by decide), cl_n (show a < 2 ^ 31 by omega), cl_n (show b < 2 ^ 31 by omega), ra, rb, aa, ab, cl_n (show Q.B.cell i < 2 ^ 31 by omega), ta, tb, nI_1]
      by_cases e : tel Q a (Q.B.cell i) = tel Q b (Q.B.cell i)
      · rw [if_pos e, decide_eq_true e, Bool.or_true, Bool.true_and]
        exact ih
      · rw [if_neg e, decide_eq_false e]
        rfl
theorem Models_seenAlike (N : Nat) (hN : 300 ≤ N) (Q : QT) (M : sw_M) (h : HTl M Q) (a b : Nat) (ha : kp Q a = true) (hb : kp Q b = true) : f_Models_seenAlike N 68 (nI a) (nI b) M = some (bz (twn Q a b), M) := by
  have hm := h.2.1.1
  have := Models_seenAlike_2 N Q M h a b ha hb Q.B.m 0 N (by omega) (by omega)
  unfold twn
  rw [List.range_eq_range']
  exact this
/-- TWINS have been found: nothing more is looked at -/
theorem find_30_y (N : Nat) (k12 : Nat → Int32 → sw_M → Option sw_M) (Q : QT) (M : sw_M) (h : HTl M Q) (h8 : ¬ rd_I M 68 8 = -1) (a : Nat) : ∀ (d b j : Nat), b + d = nm Q → d < j → f_Models_findTwins_30 N k12 j 68 (nI a) (nI b) M = k12 68 (nI (a + 1)) M
  | 0, b, j, hd, hj => by
    obtain ⟨j, rfl⟩ : ∃ k, j = k + 1 := ⟨j - 1, by omega⟩
    have hb := nm_b h.2.2.2.1
    rw [f_Models_findTwins_30, ok_68 h.1.1, gd_T, h.2.2.2.2.1, if_pos (nI_le (by omega) (by omega)), f_Models_findTwins_93, nI_1]
  | d + 1, b, j, hd, hj => by
    obtain ⟨j, rfl⟩ : ∃ k, j = k + 1 := ⟨j - 1, by omega⟩
    have hb := nm_b h.2.2.2.1
    rw [f_Models_findTwins_30, ok_68 h.1.1, gd_T, h.2.2.2.2.1, if_neg (nI_ge (by omega) (by omega)), if_neg (show ¬ (8 : Int32) ≤ nI b from (nI_ge (by omega) (by omega) : ¬ nI 8 ≤ nI b)), if_neg h8, f_Models_findTwins_87, nI_1]
    exact find_30_y N k12 Q M h h8 a d (b + 1) j (by omega) (by omega)
theorem find_30_n (N : Nat) (hN : 300 ≤ N) (k12 : Nat → Int32 → sw_M → Option sw_M) (Q : QT) (M : sw_M) (h : HTl M Q) (h8 : rd_I M 68 8 = -1) (a : Nat) (ha : a < nm Q) : ∀ (d b j : Nat), b + d = nm Q → d < j → f_Models_findTwins_30 N k12 j 68 (nI a) (nI b) M = match s2 (pp Q a) d b with
    | some x => k12 68 (nI (a + 1)) (wr_I (wr_I M 68 8 (nI a)) 68 9 (nI x))
    | none => k12 68 (nI (a + 1)) M
  | 0, b, j, hd, hj => by
    obtain ⟨j, rfl⟩ : ∃ k, j = k + 1 := ⟨j - 1, by omega⟩
    have hb := nm_b h.2.2.2.1
    rw [f_Models_findTwins_30, ok_68 h.1.1, gd_T, h.2.2.2.2.1, if_pos (nI_le (by omega) (by omega)), f_Models_findTwins_93, nI_1]
    rfl
  | d + 1, b, j, hd, hj => by
    obtain ⟨j, rfl⟩ : ∃ k, j = k + 1 := ⟨j - 1, by omega⟩
    have hb := nm_b h.2.2.2.1
    have ih := find_30_n N hN k12 Q M h h8 a ha d (b + 1) j (by omega) (by omega)
    have skip : pp Q a b = false → f_Models_findTwins_87 N k12 (f_Models_findTwins_30 N k12 j) 68 (nI a) (nI b) M = match s2 (pp Q a) (d + 1) b with
        | some x => k12 68 (nI (a + 1)) (wr_I (wr_I M 68 8 (nI a)) 68 9 (nI x))
        | none => k12 68 (nI (a + 1)) M := fun q => by
      rw [f_Models_findTwins_87, nI_1, s2, if_neg (by rw [q]; decide)]
      exact ih
    rw [f_Models_findTwins_30, ok_68 h.1.1, gd_T, h.2.2.2.2.1, if_neg (nI_ge (by omega) (by omega)), if_neg (show ¬ (8 : Int32) ≤ nI b from (nI_ge (by omega) (by omega) : ¬ nI 8 ≤ nI b)), if_pos h8, Models_isKept N Q M h a (by omega), bn_S]
    show (if bz (kp Q a) = 0 then _ else sw_gd [sw_ok M 68 2] ((f_Models_isKept N 68 (nI b) M).bind _)) = _
    cases ka : kp Q a
    · rw [if_pos (show bz false = 0 from rfl)]
      exact skip (by unfold pp; rw [ka]; rfl)
    · rw [if_neg (show ¬ bz true = 0 by decide), ok_68 h.1.1, gd_T, Models_isKept N Q M h b (by omega), bn_S]
      show (if bz (kp Q b) = 0 then _ else sw_gd [sw_ok M 68 2] ((f_Models_seenAlike N 68 (nI a) (nI b) M).bind _)) = _
      cases kb : kp Q b
      · rw [if_pos (show bz false = 0 from rfl)]
        exact skip (by unfold pp; rw [ka, kb]; rfl)
      · rw [if_neg (show ¬ bz true = 0 by decide), ok_68 h.1.1, gd_T, Models_seenAlike N hN Q M h a b ka kb, bn_S]
        show (if bz (twn Q a b) = 0 then _ else sw_gd [sw_ok M 68 2] (f_Models_findTwins_87 N k12 (f_Models_findTwins_30 N k12 j) 68 (nI a) (nI b) (wr_I (wr_I M 68 8 (nI a)) 68 9 (nI b)))) = _
        cases ht : twn Q a b
        · rw [if_pos (show bz false = 0 from rfl)]
          exact skip (by unfold pp; rw [ka, kb, ht]; rfl)
        · have hf : Fr (fun a k => a = 68 ∧ (k = 8 ∨ k = 9)) M (wr_I (wr_I M 68 8 (nI a)) 68 9 (nI b)) := ((Fr.refl _ M).wI _ _ _ ⟨rfl, Or.inl rfl⟩).wI _ _ _ ⟨rfl, Or.inr rfl⟩
          rw [if_neg (show ¬ bz true = 0 by decide), ok_68 h.1.1, gd_T, s2, if_pos (by unfold pp; rw [ka, kb, ht]; rfl), f_Models_findTwins_87, nI_1]
          exact find_30_y N k12 Q _ (HTl_fr hf (fun a k c d => by unfold Cnt at c; omega) h) (by
            simp only [m_II, m_LL, m_RR, m_IL, m_IR, m_LI, m_LR, m_RI, m_RL, m_NI, m_NL, m_NR, m_okI, m_okL, m_okR, m_okaI, m_okaL, m_okaR, m_arI, m_arL, m_arR, gd_T, bn_S, Nat.reduceEqDiff, Nat.left_eq_add, Nat.add_eq_left, Nat.one_ne_zero, and_false, and_true, false_and, true_and, if_false, if_true]
            intro e
            have := congrArg Int32.toInt e
            rw [nI_toInt (by omega), show (-1 : Int32).toInt = -1 from by decide] at this
            omega) a d (b + 1) j (by omega) (by omega)
theorem find_12_y (N : Nat) (hN : 300 ≤ N) (Q : QT) (M : sw_M) (h : HTl M Q) (h8 : ¬ rd_I M 68 8 = -1) : ∀ (d a j : Nat), a + d = nm Q → d < j → f_Models_findTwins_12 N j 68 (nI a) M = some M
  | 0, a, j, hd, hj => by
    obtain ⟨j, rfl⟩ : ∃ k, j = k + 1 := ⟨j - 1, by omega⟩
    have hb := nm_b h.2.2.2.1
    rw [f_Models_findTwins_12, ok_68 h.1.1, gd_T, h.2.2.2.2.1, if_pos (nI_le (by omega) (by omega))]
  | d + 1, a, j, hd, hj => by
    obtain ⟨j, rfl⟩ : ∃ k, j = k + 1 := ⟨j - 1, by omega⟩
    have hb := nm_b h.2.2.2.1
    rw [f_Models_findTwins_12, ok_68 h.1.1, gd_T, h.2.2.2.2.1, if_neg (nI_ge (by omega) (by omega)), if_neg (show ¬ (8 : Int32) ≤ nI a from (nI_ge (by omega) (by omega) : ¬ nI 8 ≤ nI a)), nI_1, find_30_y N _ Q M h h8 a (nm Q - (a + 1)) (a + 1) N (by omega) (by omega)]
    exact find_12_y N hN Q M h h8 d (a + 1) j (by omega) (by omega)
theorem find_12_n (N : Nat) (hN : 300 ≤ N) (Q : QT) (M : sw_M) (h : HTl M Q) (h8 : rd_I M 68 8 = -1) : ∀ (d a j : Nat), a + d = nm Q → d < j → f_Models_findTwins_12 N j 68 (nI a) M = match s1 (pp Q) (nm Q) d a with
    | some r => some (wr_I (wr_I M 68 8 (nI r.1)) 68 9 (nI r.2))
    | none => some M
  | 0, a, j, hd, hj => by
    obtain ⟨j, rfl⟩ : ∃ k, j = k + 1 := ⟨j - 1, by omega⟩
    have hb := nm_b h.2.2.2.1
    rw [f_Models_findTwins_12, ok_68 h.1.1, gd_T, h.2.2.2.2.1, if_pos (nI_le (by omega) (by omega))]
    rfl
  | d + 1, a, j, hd, hj => by
    obtain ⟨j, rfl⟩ : ∃ k, j = k + 1 := ⟨j - 1, by omega⟩
    have hb := nm_b h.2.2.2.1
    rw [f_Models_findTwins_12, ok_68 h.1.1, gd_T, h.2.2.2.2.1, if_neg (nI_ge (by omega) (by omega)), if_neg (show ¬ (8 : Int32) ≤ nI a from (nI_ge (by omega) (by omega) : ¬ nI 8 ≤ nI a)), nI_1, find_30_n N hN _ Q M h h8 a (by omega) (nm Q - (a + 1)) (a + 1) N (by omega) (by omega), s1]
    cases hs : s2 (pp Q a) (nm Q - (a + 1)) (a + 1) with
    | none => exact find_12_n N hN Q M h h8 d (a + 1) j (by omega) (by omega)
    | some x =>
      have hf : Fr (fun a k => a = 68 ∧ (k = 8 ∨ k = 9)) M (wr_I (wr_I M 68 8 (nI a)) 68 9 (nI x)) := ((Fr.refl _ M).wI _ _ _ ⟨rfl, Or.inl rfl⟩).wI _ _ _ ⟨rfl, Or.inr rfl⟩
      exact find_12_y N hN Q _ (HTl_fr hf (fun a k c d => by unfold Cnt at c; omega) h) (by
        simp only [m_II, m_LL, m_RR, m_IL, m_IR, m_LI, m_LR, m_RI, m_RL, m_NI, m_NL, m_NR, m_okI, m_okL, m_okR, m_okaI, m_okaL, m_okaR, m_arI, m_arL, m_arR, gd_T, bn_S, Nat.reduceEqDiff, Nat.left_eq_add, Nat.add_eq_left, Nat.one_ne_zero, and_false, and_true, false_and, true_and, if_false, if_true]
        intro e
        have := congrArg Int32.toInt e
        rw [nI_toInt (by omega), show (-1 : Int32).toInt = -1 from by decide] at this
        omega) d (a + 1) j (by omega) (by omega)
noncomputable def tw8 (Q : QT) : Int32 := match tws Q with
  | some r => nI r.1
  | none => -1
noncomputable def tw9 (Q : QT) : Int32 := match tws Q with
  | some r => nI r.2
  | none => -1
theorem Models_findTwins (N : Nat) (hN : 300 ≤ N) (Q : QT) (M : sw_M) (h : HTl M Q) : ∃ Z, f_Models_findTwins N 68 M = some Z ∧ Fr (fun a k => a = 68 ∧ (k = 8 ∨ k = 9)) M Z ∧ rd_I Z 68 8 = tw8 Q ∧ rd_I Z 68 9 = tw9 Q := by
  have hb := nm_b h.2.2.2.1
  have hf : Fr (fun a k => a = 68 ∧ (k = 8 ∨ k = 9)) M (wr_I (wr_I M 68 8 (-1)) 68 9 (-1)) := ((Fr.refl _ M).wI _ _ _ ⟨rfl, Or.inl rfl⟩).wI _ _ _ ⟨rfl, Or.inr rfl⟩
  have h1 := HTl_fr hf (fun a k c d => by unfold Cnt at c; omega) h
  have := find_12_n N hN Q _ h1 (by simp only [m_II, m_LL, m_RR, m_IL, m_IR, m_LI, m_LR, m_RI, m_RL, m_NI, m_NL, m_NR, m_okI, m_okL, m_okR, m_okaI, m_okaL, m_okaR, m_arI, m_arL, m_arR, gd_T, bn_S, Nat.reduceEqDiff, Nat.left_eq_add, Nat.add_eq_left, Nat.one_ne_zero, and_false, and_true, false_and, true_and, if_false, if_true]) (nm Q) 0 N (by omega) (by omega)
  have e : f_Models_findTwins N 68 M = match tws Q with
      | some r => some (wr_I (wr_I (wr_I (wr_I M 68 8 (-1)) 68 9 (-1)) 68 8 (nI r.1)) 68 9 (nI r.2))
      | none => some (wr_I (wr_I M 68 8 (-1)) 68 9 (-1)) := by
    unfold f_Models_findTwins
    rw [ok_68 h.1.1, gd_T]
    exact this
  rw [e]
  unfold tw8 tw9
  cases tws Q with
  | none => exact ⟨_, rfl, hf, by simp only [m_II, m_LL, m_RR, m_IL, m_IR, m_LI, m_LR, m_RI, m_RL, m_NI, m_NL, m_NR, m_okI, m_okL, m_okR, m_okaI, m_okaL, m_okaR, m_arI, m_arL, m_arR, gd_T, bn_S, Nat.reduceEqDiff, Nat.left_eq_add, Nat.add_eq_left, Nat.one_ne_zero, and_false, and_true, false_and, true_and, if_false, if_true], by simp only [m_II, m_LL, m_RR, m_IL, m_IR, m_LI, m_LR, m_RI, m_RL, m_NI, m_NL, m_NR, m_okI, m_okL, m_okR, m_okaI, m_okaL, m_okaR, m_arI, m_arL, m_arR, gd_T, bn_S, Nat.reduceEqDiff, Nat.left_eq_add, Nat.add_eq_left, Nat.one_ne_zero, and_false, and_true, false_and, true_and, if_false, if_true]⟩
  | some r => exact ⟨_, rfl, (hf.wI _ _ _ ⟨rfl, Or.inl rfl⟩).wI _ _ _ ⟨rfl, Or.inr rfl⟩, by simp only [m_II, m_LL, m_RR, m_IL, m_IR, m_LI, m_LR, m_RI, m_RL, m_NI, m_NL, m_NR, m_okI, m_okL, m_okR, m_okaI, m_okaL, m_okaR, m_arI, m_arL, m_arR, gd_T, bn_S, Nat.reduceEqDiff, Nat.left_eq_add, Nat.add_eq_left, Nat.one_ne_zero, and_false, and_true, false_and, true_and, if_false, if_true], by simp only [m_II, m_LL, m_RR, m_IL, m_IR, m_LI, m_LR, m_RI, m_RL, m_NI, m_NL, m_NR, m_okI, m_okL, m_okR, m_okaI, m_okaL, m_okaR, m_arI, m_arL, m_arR, gd_T, bn_S, Nat.reduceEqDiff, Nat.left_eq_add, Nat.add_eq_left, Nat.one_ne_zero, and_false, and_true, false_and, true_and, if_false, if_true]⟩
/-- MODELS as they are kept -/
noncomputable def HD (M : sw_M) (Q : QT) : Prop := rd_I M 68 5 = Q.pa ∧ rd_I M 68 6 = nI (nm Q) ∧ rd_I M 68 7 = nI (KP Q) ∧ rd_I M 68 8 = tw8 Q ∧ rd_I M 68 9 = tw9 Q ∧ HTe M Q (nm Q)
def Amk (a k : Nat) : Prop := Ami a k ∨ a = 41 ∨ (a = 68 ∧ 5 ≤ k)
theorem ChqAmk : ∀ a k, Chq a k → ¬ Amk a k := by intro a k h; unfold Chq Cf Cx Che Cnt at h; unfold Amk Ami Arf Arh Awh; omega
theorem massesBy (N : Nat) (Q : QT) (M : sw_M) (hQ : HQ M Q) : f_Field_massesBy N 3 Q.pa M = some (nI (nm Q), M) := by
  obtain ⟨hH, hF, hE, hh, hB, hpo, hlo, hhi, hQB⟩ := hQ
  obtain ⟨h1, ⟨h2, h3, h4⟩, ⟨h5, h6⟩, h7, h8⟩ := id hQB
  have e1 : (Q.hi - Q.lo).toInt = Q.hi.toInt - Q.lo.toInt := s32 (by omega) (by omega)
  have e2 : ((Q.hi - Q.lo) / Q.pa).toInt = (Q.hi.toInt - Q.lo.toInt) / Q.pa.toInt := by rw [d32 (by omega) (by omega), e1]
  have d0 : 0 ≤ (Q.hi.toInt - Q.lo.toInt) / Q.pa.toInt := Int.ediv_nonneg (by omega) (by omega)
  have d1 : (Q.hi.toInt - Q.lo.toInt) / Q.pa.toInt ≤ Q.hi.toInt - Q.lo.toInt := Int.ediv_le_self _ (by omega)
  have e3 : ((Q.hi - Q.lo) / Q.pa + 1).toInt = (Q.hi.toInt - Q.lo.toInt) / Q.pa.toInt + 1 := by
    rw [a32 (by rw [e2, show (1 : Int32).toInt = 1 from by decide]; omega) (by rw [e2, show (1 : Int32).toInt = 1 from by decide]; omega), e2, show (1 : Int32).toInt = 1 from by decide]
  unfold f_Field_massesBy
  rw [if_pos (i32_le (by rw [show (1 : Int32).toInt = 1 from by decide]; omega)), ok_3 hH.1, gd_T, gd_d (ne0_32 (by omega)), hlo, hhi]
  congr 2
  apply Int32.toInt_inj.mp
  have hb := nm_b hQB
  rw [nI_toInt (by omega)]
  unfold m_minI
  unfold nm
  by_cases c : (Q.hi - Q.lo) / Q.pa + 1 < 8
  · rw [if_pos c, e3]
    have := Int32.lt_iff_toInt_lt.mp c
    rw [e3, show (8 : Int32).toInt = 8 from by decide] at this
    omega
  · rw [if_neg c, show (8 : Int32).toInt = 8 from by decide]
    have := Int32.le_iff_toInt_le.mp (Int32.not_lt.mp c)
    rw [e3, show (8 : Int32).toInt = 8 from by decide] at this
    omega
theorem Models_make (N : Nat) (hN : 200000 ≤ N) (Q : QT) (M : sw_M) (hQ : HQ M Q) (hc : CH M Q.E) (hn : ¬ rd_I M 68 5 = Q.pa) : ∃ Z, f_Models_make N 68 Q.pa M = some Z ∧ Fr Amk M Z ∧ CH Z Q.E ∧ HD Z Q ∧ rd_I Z 3 5 = rd_I M 3 5 := by
  obtain ⟨hH, hF, hE, hh, hB, hpo, hlo, hhi, hQB⟩ := id hQ
  have hb := nm_b hQB
  have f0 : Fr (fun a k => a = 68 ∧ (k = 5 ∨ k = 6 ∨ k = 7)) M (wr_I (wr_I (wr_I M 68 5 Q.pa) 68 6 (nI (nm Q))) 68 7 0) := (((Fr.refl _ M).wI _ _ _ ⟨rfl, Or.inl rfl⟩).wI _ _ _ ⟨rfl, Or.inr (Or.inl rfl)⟩).wI _ _ _ ⟨rfl, Or.inr (Or.inr rfl)⟩
  have f0' : Fr Amk M (wr_I (wr_I (wr_I M 68 5 Q.pa) 68 6 (nI (nm Q))) 68 7 0) := f0.mono (fun a k h => by unfold Amk; omega)
  have f00 : Fr Amk M (wr_I M 68 5 Q.pa) := (Fr.refl _ M).wI _ _ _ (by unfold Amk; omega)
  have hQ0 := HQ_fr f0' ChqAmk hQ
  obtain ⟨W, w1, w2, w3⟩ := Notes_know N (by omega) (wr_I (wr_I (wr_I M 68 5 Q.pa) 68 6 (nI (nm Q))) 68 7 0) hQ0.1 Q.B hQ0.2.2.2.2.1 Q.B.m (Nat.le_refl _)
  have fW : Fr Amk M W := f0'.trans (w2.mono (fun a k h => by unfold Amk; omega))
  have hQW := HQ_fr fW ChqAmk hQ
  have hcW : CH W Q.E := CH_fr (f0.mono (B := fun a k => a = 68 ∨ a = 41) (fun a k h => Or.inl h.1) |>.trans (w2.mono (fun a k h => Or.inr h))) (fun a k c d => by omega) hc
  have w5 : rd_I W 3 5 = rd_I M 3 5 := by rw [w2.I 3 5 (by omega), f0.I 3 5 (by omega)]
  obtain ⟨X, x1, x2, x3, x4, x5⟩ := Models_make_56 N hN Q (rd_I M 3 5) (nm Q) 0 N W (by omega) (by omega) hQW hcW w3 (by rw [w2.I 68 5 (by omega)]; simp only [m_II, m_LL, m_RR, m_IL, m_IR, m_LI, m_LR, m_RI, m_RL, m_NI, m_NL, m_NR, m_okI, m_okL, m_okR, m_okaI, m_okaL, m_okaR, m_arI, m_arL, m_arR, gd_T, bn_S, Nat.reduceEqDiff, Nat.left_eq_add, Nat.add_eq_left, Nat.one_ne_zero, and_false, and_true, false_and, true_and, if_false, if_true]) (by rw [w2.I 68 6 (by omega)]; simp only [m_II, m_LL, m_RR, m_IL, m_IR, m_LI, m_LR, m_RI, m_RL, m_NI, m_NL, m_NR, m_okI, m_okL, m_okR, m_okaI, m_okaL, m_okaR, m_arI, m_arL, m_arR, gd_T, bn_S, Nat.reduceEqDiff, Nat.left_eq_add, Nat.add_eq_left, Nat.one_ne_zero, and_false, and_true, false_and, true_and, if_false, if_true]) (by rw [w2.I 68 7 (by omega)]; simp only [m_II, m_LL, m_RR, m_IL, m_IR, m_LI, m_LR, m_RI, m_RL, m_NI, m_NL, m_NR, m_okI, m_okL, m_okR, m_okaI, m_okaL, m_okaR, m_arI, m_arL, m_arR, gd_T, bn_S, Nat.reduceEqDiff, Nat.left_eq_add, Nat.add_eq_left, Nat.one_ne_zero, and_false, and_true, false_and, true_and, if_false, if_true]; rfl) (fun i hi => absurd hi (by omega))
  have fX : Fr Amk M X := fW.trans (x2.mono (fun _ _ h => Or.inl h))
  have hQX := HQ_fr fX ChqAmk hQ
  have f3 : Fr (fun a k => a = 3 ∧ k = 5) X (wr_I X 3 5 (rd_I M 3 5)) := (Fr.refl _ X).wI _ _ _ ⟨rfl, rfl⟩
  have x6 : rd_I X 68 6 = nI (nm Q) := by rw [x2.I 68 6 (by unfold Ami Arf Arh Awh; omega), w2.I 68 6 (by omega)]; simp only [m_II, m_LL, m_RR, m_IL, m_IR, m_LI, m_LR, m_RI, m_RL, m_NI, m_NL, m_NR, m_okI, m_okL, m_okR, m_okaI, m_okaL, m_okaR, m_arI, m_arL, m_arR, gd_T, bn_S, Nat.reduceEqDiff, Nat.left_eq_add, Nat.add_eq_left, Nat.one_ne_zero, and_false, and_true, false_and, true_and, if_false, if_true]
  have x55 : rd_I X 68 5 = Q.pa := by rw [x2.I 68 5 (by unfold Ami Arf Arh Awh; omega), w2.I 68 5 (by omega)]; simp only [m_II, m_LL, m_RR, m_IL, m_IR, m_LI, m_LR, m_RI, m_RL, m_NI, m_NL, m_NR, m_okI, m_okL, m_okR, m_okaI, m_okaL, m_okaR, m_arI, m_arL, m_arR, gd_T, bn_S, Nat.reduceEqDiff, Nat.left_eq_add, Nat.add_eq_left, Nat.one_ne_zero, and_false, and_true, false_and, true_and, if_false, if_true]
  have hTX : HTl X Q := ⟨hQX.1, hQX.2.2.2.2.1, fun t ht => by rw [x2.I 41 t (by unfold Ami Arf Arh Awh; omega)]; exact w3 t ht, hQB, x6, x4, x5⟩
  obtain ⟨Z, z1, z2, z3, z4⟩ := Models_findTwins N (by omega) Q _ (HTl_fr f3 (fun a k c d => by unfold Cnt at c; omega) hTX)
  have g : ∀ a k, ¬ (a = 68 ∧ (k = 8 ∨ k = 9)) → ¬ (a = 3 ∧ k = 5) → rd_I Z a k = rd_I X a k := fun a k c d => by rw [z2.I a k c, f3.I a k d]
  refine ⟨Z, ?_, ?_, ?_, ?_, ?_⟩
  · unfold f_Models_make
    have hmb := massesBy N Q (wr_I M 68 5 Q.pa) (HQ_fr f00 ChqAmk hQ)
    rw [ok_68 hH.1, gd_T, if_neg hn]
    simp only [m_II, m_LL, m_RR, m_IL, m_IR, m_LI, m_LR, m_RI, m_RL, m_NI, m_NL, m_NR, m_okI, m_okL, m_okR, m_okaI, m_okaL, m_okaR, m_arI, m_arL, m_arR, gd_T, bn_S, Nat.reduceEqDiff, Nat.left_eq_add, Nat.add_eq_left, Nat.one_ne_zero, and_false, and_true, false_and, true_and, if_false, if_true, ok_68 hH.1, ok_3 hH.1, ok_36 hH.1, hr_f hH 68 0 3 rfl (by decide), hr_f hH 68 2 36 rfl (by decide), hmb, hB.2.1, w1, ok_68 hQW.1.1, ok_3 hQW.1.1, hr_f hQW.1 68 0 3 rfl (by decide), w5]
    refine Eq.trans x1 ?_
    unfold f_Models_make_122
    rw [ok_68 hQX.1.1, gd_T, hr_f hQX.1 68 0 3 rfl (by decide), ok_3 hQX.1.1, gd_T, z1, bn_S]
  · exact (fX.trans (f3.mono (fun a k h => by unfold Amk Ami; omega))).trans (z2.mono (fun a k h => by unfold Amk; omega))
  · exact CH_fr ((f3.mono (B := fun a k => (a = 3 ∧ k = 5) ∨ a = 68) (fun a k h => Or.inl h)).trans (z2.mono (fun a k h => Or.inr h.1))) (fun a k c d => by omega) x3
  · refine ⟨(g _ _ (by omega) (by omega)).trans x55, (g _ _ (by omega) (by omega)).trans x6, (g _ _ (by omega) (by omega)).trans x4, z3, z4, fun i hi hk c hc => ?_⟩
    rw [g _ _ (by omega) (by omega)]
    exact x5 i hi hk c hc
  · rw [z2.I 3 5 (by omega)]; simp only [m_II, m_LL, m_RR, m_IL, m_IR, m_LI, m_LR, m_RI, m_RL, m_NI, m_NL, m_NR, m_okI, m_okL, m_okR, m_okaI, m_okaL, m_okaR, m_arI, m_arL, m_arR, gd_T, bn_S, Nat.reduceEqDiff, Nat.left_eq_add, Nat.add_eq_left, Nat.one_ne_zero, and_false, and_true, false_and, true_and, if_false, if_true]
