/-! 86: FITS on the other side -/
theorem Fits_summed_4 (N : Nat) (F : FE) (M : sw_M) (hF : HFE M F) (W : Nat → Int32) (hW : HWt M F W) (q : Nat) (hq : sw_sh q = some (13, 6)) (hqn : q ≤ rd_N M) (G : Nat → Int32) (hG : ∀ i, i < nu F → rd_I M q (uu F i) = G (uu F i)) : ∀ (d t j : Nat), t + d = nu F → d < j → f_Fits_summed_4 N j 42 q (usS F (fun o => W o * G o) t) (nI t) M = some (usS F (fun o => W o * G o) (nu F), M)
  | 0, t, j, hd, hj => by
    obtain ⟨j, rfl⟩ : ∃ k, j = k + 1 := ⟨j - 1, by omega⟩
    obtain rfl : t = nu F := by omega
    have h6 := hF.2.2.2.2.2.2.2.2.1.2.2.2.1
    have hnu := nu_le F
    rw [f_Fits_summed_4, ok_42 hF.1.1, gd_T, hW.1, if_pos (nI_le (Nat.le_refl _) (by omega))]
  | d + 1, t, j, hd, hj => by
    obtain ⟨j, rfl⟩ : ∃ k, j = k + 1 := ⟨j - 1, by omega⟩
    have hH := hF.1
    have h6 := hF.2.2.2.2.2.2.2.2.1.2.2.2.1
    have hnu := nu_le F
    have hu := uu_lt F (show t < nu F by omega)
    rw [f_Fits_summed_4, ok_42 hH.1, gd_T, hW.1, if_neg (nI_ge (by omega) (by omega)), if_neg (show ¬ (6 : Int32) ≤ nI t from (nI_ge (by omega) (by omega) : ¬ nI 6 ≤ nI t)), hr_f hH 42 3 44 rfl (by decide), ar_44 hH.1, ti_n (show t < 6 by omega) (by decide), gd_T, cl_n (by omega), hW.2.1 t (by omega), hr_f hH 42 2 43 rfl (by decide), ar_43 hH.1, ti_n (show uu F t < 6 by omega) (by decide), gd_T, c_ar hq hqn, ti_n (show uu F t < 6 by omega) (by decide), gd_T, cl_n (by omega), hW.2.2.1 _ hu, hG t (by omega), nI_1]
    exact Fits_summed_4 N F M hF W hW q hq hqn G hG d (t + 1) j (by omega) (by omega)
theorem Fits_summed (N : Nat) (hN : 300 ≤ N) (F : FE) (M : sw_M) (hF : HFE M F) (W : Nat → Int32) (hW : HWt M F W) (q : Nat) (hq : sw_sh q = some (13, 6)) (hqn : q ≤ rd_N M) (G : Nat → Int32) (hG : ∀ i, i < nu F → rd_I M q (uu F i) = G (uu F i)) : f_Fits_summed N 42 q M = some (usS F (fun o => W o * G o) (nu F), M) := by
  have h6 := hF.2.2.2.2.2.2.2.2.1.2.2.2.1
  have hnu := nu_le F
  exact Fits_summed_4 N F M hF W hW q hq hqn G hG (nu F) 0 N (by omega) (by omega)
theorem Fits_holds_93 (N : Nat) (F : FE) (M : sw_M) (hF : HFE M F) (i : Nat) (hi : i < F.B.m) (hs : F.B.str i = false) (v s : Int64) : f_Fits_holds_93 N 42 (nI i) v s M = some (bz (btw (F.B.lo i) (F.B.hi i) v s), M) := by
  have hH := hF.1
  have hm := hF.2.2.2.2.1.1
  obtain ⟨b1, b2, b3, b4⟩ := hF.2.2.2.2.1.2.2.2 i hi
  obtain ⟨c1, c2, c3, c4, c5, c6, c7, c8, c9, c10, c11⟩ := b2 hs
  unfold f_Fits_holds_93
  rw [ok_42 hH.1, gd_T, hr_f hH 42 1 36 rfl (by decide), ok_36 hH.1, gd_T, hr_f hH 36 2 39 rfl (by decide), ar_39 hH.1, ti_n (show i < 10 by omega) (by decide), gd_T, cl_n (by omega), c6, hr_f hH 36 3 40 rfl (by decide), ar_40 hH.1, ti_n (show i < 10 by omega) (by decide), gd_T, c8, btw_ite]
  cases btw (F.B.lo i) (F.B.hi i) v s <;> rfl
theorem Fits_holds (N : Nat) (hN : 300 ≤ N) (F : FE) (hp : F.por.toInt ≤ 10) (M : sw_M) (hF : HFE M F) (W : Nat → Int32) (hW : HWt M F W) (hK : WK (uu F) (nu F) F.por.toInt W) (hz : WZ F W) (i : Nat) (hg : sgt F.B F.n i = true) : f_Fits_holds N 42 (nI i) M = some (bz (hld F W i), M) := by
  obtain ⟨m1, m2, m3⟩ := sgt_s hF.2.2.2.2.1 hF.2.2.2.2.2.1 hg
  have hH := hF.1
  have hm := hF.2.2.2.2.1.1
  have hEK := hF.2.2.2.2.2.2.2.2.1
  have hmo := hF.2.2.2.2.2.2.2.2.2
  have hH1 := hH.1
  obtain ⟨b1, b2, b3, b4⟩ := hF.2.2.2.2.1.2.2.2 i m1
  obtain ⟨c1, c2, c3, c4, c5, c6, c7, c8, c9, c10, c11⟩ := b2 m2
  have hr1 : rd_R M 45 i = 46 + i := hr_f hH 45 i _ (if_pos (show i < 10 by omega)) (by omega)
  have hr2 : rd_R M 56 i = 57 + i := hr_f hH 56 i _ (if_pos (show i < 10 by omega)) (by omega)
  have sL := Fits_summed N hN F M hF W hW (46 + i) (sh_row i (by omega)).1 (by omega) (fun o => SH F.E F.mass o (F.B.cell i)) (fun t ht => (hW.2.2.2 i (by omega) hg t ht).1)
  have sG := Fits_summed N hN F M hF W hW (57 + i) (sh_row i (by omega)).2 (by omega) (fun o => GO F.E F.mass o (F.B.cell i)) (fun t ht => (hW.2.2.2 i (by omega) hg t ht).2)
  rw [lig_us F W hz] at sL
  have gU := go_us hEK hmo (fun o ho => W_b F hK hz hp ho) hz m3
  unfold f_Fits_holds
  rw [if_neg (nI_pos (by omega)), if_pos (show nI i < (10 : Int32) from (nI_lt (by omega) (by omega) : nI i < nI 10)), ok_42 hH.1, gd_T, hr_f hH 42 5 45 rfl (by decide), an_45_17, an_45_18, Bool.false_or, Bool.false_or, ar_45 hH.1, ti_n (show i < 10 by omega) (by decide), gd_T, cl_n (by omega), hr1, sL, bn_S]
  show sw_gd [sw_ok M 42 1] (sw_gd [sw_ok M (rd_R M 42 1) 3] (sw_gd [sw_ar M (rd_R M (rd_R M 42 1) 0) 13 (nI i)] (if rd_I M (rd_R M (rd_R M 42 1) 0) i = 1 then _ else _))) = _
  rw [ok_42 hH.1, gd_T, hr_f hH 42 1 36 rfl (by decide), ok_36 hH.1, gd_T, hr_f hH 36 0 37 rfl (by decide), ar_37 hH.1, ti_n (show i < 10 by omega) (by decide), gd_T, c2]
  unfold hld
  rcases c4 with e | e
  · rw [if_neg (by rw [e]; decide), if_pos e]
    show f_Fits_holds_42 N 42 (nI i) (lig F W (F.B.cell i)).toInt64 0 M = _
    rw [f_Fits_holds_42, if_pos rfl, f_Fits_holds_68, if_pos rfl, ok_42 hH.1, gd_T, hr_f hH 42 0 33 rfl (by decide), ok_33 hH.1, gd_T, hF.2.2.2.1, hF.2.2.1]
    exact Fits_holds_93 N F M hF i m1 m2 _ _
  · rw [if_pos e, if_neg (by rw [e]; decide)]
    show f_Fits_holds_42 N 42 (nI i) (lig F W (F.B.cell i)).toInt64 1 M = _
    rw [f_Fits_holds_42, if_neg (by decide), ok_42 hH.1, gd_T, hr_f hH 42 6 56 rfl (by decide), an_56_17, an_56_18, Bool.false_or, Bool.false_or, ar_56 hH.1, ti_n (show i < 10 by omega) (by decide), gd_T, cl_n (by omega), hr2, sG, bn_S, gU, f_Fits_holds_68, if_neg (by decide)]
    exact Fits_holds_93 N F M hF i m1 m2 _ _
theorem Fits_allHold_2 (N : Nat) (hN : 300 ≤ N) (F : FE) (hp : F.por.toInt ≤ 10) (M : sw_M) (hF : HFE M F) (W : Nat → Int32) (hW : HWt M F W) (hK : WK (uu F) (nu F) F.por.toInt W) (hz : WZ F W) : ∀ (d i j : Nat), i + d = F.B.m → d < j → f_Fits_allHold_2 N j 42 (nI i) M = some (bz ((List.range' i d).all (fun i => !(sgt F.B F.n i) || hld F W i)), M)
  | 0, i, j, hd, hj => by
    obtain ⟨j, rfl⟩ : ∃ k, j = k + 1 := ⟨j - 1, by omega⟩
    obtain rfl : i = F.B.m := by omega
    have hH := hF.1
    have hm := hF.2.2.2.2.1.1
    rw [f_Fits_allHold_2, ok_42 hH.1, gd_T, hr_f hH 42 1 36 rfl (by decide), ok_36 hH.1, gd_T, hF.2.2.2.2.1.2.1, if_pos (nI_le (Nat.le_refl _) (by omega))]
    rfl
  | d + 1, i, j, hd, hj => by
    obtain ⟨j, rfl⟩ : ∃ k, j = k + 1 := ⟨j - 1, by omega⟩
    have hH := hF.1
    have hm := hF.2.2.2.2.1.1
    have ih := Fits_allHold_2 N hN F hp M hF W hW hK hz d (i + 1) j (by omega) (by omega)
    rw [f_Fits_allHold_2, ok_42 hH.1, gd_T, hr_f hH 42 1 36 rfl (by decide), ok_36 hH.1, gd_T, hF.2.2.2.2.1.2.1, if_neg (nI_ge (by omega) (by omega)), Notes_isSight N F M hF i (by omega), bn_S, List.range'_succ, List.all_cons]
    show (if bz (sgt F.B F.n i) = 0 then _ else _) = _
    cases hg : sgt F.B F.n i
    · rw [if_pos (show bz false = 0 from rfl), f_Fits_allHold_34, nI_1, Bool.not_false, Bool.true_or, Bool.true_and]
      exact ih
    · rw [if_neg (show ¬ bz true = 0 by decide), ok_42 hH.1, gd_T, Fits_holds N hN F hp M hF W hW hK hz i hg, bn_S]
      show (if bz (hld F W i) = 0 then _ else _) = _
      cases hh : hld F W i
      · rw [if_pos (show bz false = 0 from rfl)]
        rfl
      · rw [if_neg (show ¬ bz true = 0 by decide), f_Fits_allHold_34, nI_1, Bool.or_true, Bool.true_and]
        exact ih
theorem Fits_allHold (N : Nat) (hN : 300 ≤ N) (F : FE) (hp : F.por.toInt ≤ 10) (M : sw_M) (hF : HFE M F) (W : Nat → Int32) (hW : HWt M F W) (hK : WK (uu F) (nu F) F.por.toInt W) (hz : WZ F W) : f_Fits_allHold N 42 M = some (bz (fitB F W), M) := by
  have hm := hF.2.2.2.2.1.1
  have := Fits_allHold_2 N hN F hp M hF W hW hK hz F.B.m 0 N (by omega) (by omega)
  unfold fitB
  rw [List.range_eq_range']
  exact this
theorem Fits_shift_31 (N : Nat) (F : FE) (M : sw_M) (hF : HFE M F) (W : Nat → Int32) (hW : HWt M F W) (g : Nat) (hg : g + 1 < nu F) :
    ∃ Z, f_Fits_shift_31 N 42 (nI g) M = some (1, Z) ∧ Fr Awh M Z ∧ HWt Z F (upW (upW (upW W (uu F (nu F - 1)) 0) (uu F g) (W (uu F g) - 1)) (uu F (g + 1)) (W (uu F (nu F - 1)) + 1)) := by
  obtain ⟨w1, w2, w3, w4⟩ := hW
  have hH := hF.1
  have h6 := hF.2.2.2.2.2.2.2.2.1.2.2.2.1
  have hnu := nu_le F
  have l0 := uu_lt F (show nu F - 1 < nu F by omega)
  have l1 := uu_lt F (show g < nu F by omega)
  have l2 := uu_lt F hg
  have n1 : ¬ uu F g = uu F (nu F - 1) := fun e => by have := uu_inj F g (nu F - 1) (by omega) (by omega) e; omega
  have e1 : nI (nu F) - 1 = nI (nu F - 1) := by
    obtain ⟨k, hk⟩ : ∃ k, nu F = k + 1 := ⟨nu F - 1, by omega⟩
    rw [hk]
    exact nI_pred k
  have u0 := w2 (nu F - 1) (by omega)
  have u1 := w2 g (by omega)
  have u2 := w2 (g + 1) hg
  have v0 := w3 (uu F (nu F - 1)) l0
  have v1 := w3 (uu F g) l1
  unfold f_Fits_shift_31
  rw [if_pos (nI_pos' (by omega))]
  simp only [f_Fits_shift_94, m_II, m_LL, m_RR, m_IL, m_IR, m_LI, m_LR, m_RI, m_RL, m_NI, m_NL, m_NR, m_okI, m_okL, m_okR, m_okaI, m_okaL, m_okaR, m_arI, m_arL, m_arR, gd_T, bn_S, Nat.reduceEqDiff, Nat.left_eq_add, Nat.add_eq_left, Nat.one_ne_zero, and_false, and_true, false_and, true_and, if_false, if_true, ok_42 hH.1, hr_f hH 42 2 43 rfl (by decide), hr_f hH 42 3 44 rfl (by decide), ar_43 hH.1, ar_44 hH.1, w1, e1, nI_1, ti_n (show nu F - 1 < 6 by omega) (by decide), cl_n (show nu F - 1 < 2 ^ 31 by omega), ti_n (show g < 6 by omega) (by decide), cl_n (show g < 2 ^ 31 by omega), ti_n (show g + 1 < 6 by omega) (by decide), cl_n (show g + 1 < 2 ^ 31 by omega), u0, u1, u2, ti_n (show uu F (nu F - 1) < 6 by omega) (by decide), cl_n (show uu F (nu F - 1) < 2 ^ 31 by omega), ti_n (show uu F g < 6 by omega) (by decide), cl_n (show uu F g < 2 ^ 31 by omega), ti_n (show uu F (g + 1) < 6 by omega) (by decide), cl_n (show uu F (g + 1) < 2 ^ 31 by omega), n1, v0, v1]
  refine ⟨_, rfl, (((Fr.refl _ M).wI _ _ _ (by unfold Awh; omega)).wI _ _ _ (by unfold Awh; omega)).wI _ _ _ (by unfold Awh; omega), ?_, fun i hi => ?_, fun p hp => ?_, fun t ht hst i hi => ?_⟩
  · simp only [m_II, m_LL, m_RR, m_IL, m_IR, m_LI, m_LR, m_RI, m_RL, m_NI, m_NL, m_NR, m_okI, m_okL, m_okR, m_okaI, m_okaL, m_okaR, m_arI, m_arL, m_arR, gd_T, bn_S, Nat.reduceEqDiff, Nat.left_eq_add, Nat.add_eq_left, Nat.one_ne_zero, and_false, and_true, false_and, true_and, if_false, if_true]; exact w1
  · simp only [m_II, m_LL, m_RR, m_IL, m_IR, m_LI, m_LR, m_RI, m_RL, m_NI, m_NL, m_NR, m_okI, m_okL, m_okR, m_okaI, m_okaL, m_okaR, m_arI, m_arL, m_arR, gd_T, bn_S, Nat.reduceEqDiff, Nat.left_eq_add, Nat.add_eq_left, Nat.one_ne_zero, and_false, and_true, false_and, true_and, if_false, if_true]; exact w2 i hi
  · simp only [m_II, m_LL, m_RR, m_IL, m_IR, m_LI, m_LR, m_RI, m_RL, m_NI, m_NL, m_NR, m_okI, m_okL, m_okR, m_okaI, m_okaL, m_okaR, m_arI, m_arL, m_arR, gd_T, bn_S, Nat.reduceEqDiff, Nat.left_eq_add, Nat.add_eq_left, Nat.one_ne_zero, and_false, and_true, false_and, true_and, if_false, if_true]
    unfold upW
    by_cases c1 : p = uu F (g + 1)
    · simp only [c1, if_true]
    · simp only [c1, if_false]
      by_cases c2 : p = uu F g
      · simp only [c2, if_true]
      · simp only [c2, if_false]
        by_cases c3 : p = uu F (nu F - 1)
        · simp only [c3, if_true]
        · simp only [c3, if_false]
          exact w3 p hp
  · simp only [m_II]
    rw [if_neg (by omega), if_neg (by omega), if_neg (by omega), if_neg (by omega), if_neg (by omega), if_neg (by omega)]
    exact w4 t ht hst i hi
theorem Fits_shift_7 (N : Nat) (F : FE) (M : sw_M) (hF : HFE M F) (W : Nat → Int32) (hW : HWt M F W) : ∀ (i j : Nat), i < nu F → i < j → f_Fits_shift_7 N j 42 (nI i - 1) M = match gv (uu F) W i with
    | none => some (0, M)
    | some g => f_Fits_shift_31 N 42 (nI g) M
  | 0, j, hi, hj => by
    obtain ⟨j, rfl⟩ : ∃ k, j = k + 1 := ⟨j - 1, by omega⟩
    rw [f_Fits_shift_7, if_pos (by decide), f_Fits_shift_31, if_neg (by decide)]
    rfl
  | i + 1, j, hi, hj => by
    obtain ⟨j, rfl⟩ : ∃ k, j = k + 1 := ⟨j - 1, by omega⟩
    have hH := hF.1
    have h6 := hF.2.2.2.2.2.2.2.2.1.2.2.2.1
    have hnu := nu_le F
    have l1 := uu_lt F (show i < nu F by omega)
    rw [f_Fits_shift_7, nI_pred, if_neg (nI_pos (by omega)), ok_42 hH.1, gd_T, hr_f hH 42 3 44 rfl (by decide), ar_44 hH.1, ti_n (show i < 6 by omega) (by decide), gd_T, cl_n (by omega), hW.2.1 i (by omega), hr_f hH 42 2 43 rfl (by decide), ar_43 hH.1, ti_n (show uu F i < 6 by omega) (by decide), gd_T, cl_n (by omega), hW.2.2.1 _ l1, gv, nI_dn]
    by_cases c : W (uu F i) = 0
    · rw [if_pos c, if_pos c]
      exact Fits_shift_7 N F M hF W hW i j (by omega) (by omega)
    · rw [if_neg c, if_neg c]
theorem Fits_shift (N : Nat) (hN : 300 ≤ N) (F : FE) (M : sw_M) (hF : HFE M F) (W : Nat → Int32) (hW : HWt M F W) (h0 : 0 < nu F) :
    (nW (uu F) (nu F) W = none ∧ f_Fits_shift N 42 M = some (0, M)) ∨ ∃ V Z, nW (uu F) (nu F) W = some V ∧ f_Fits_shift N 42 M = some (1, Z) ∧ Fr Awh M Z ∧ HWt Z F V := by
  have h6 := hF.2.2.2.2.2.2.2.2.1.2.2.2.1
  have hnu := nu_le F
  have e1 : nI (nu F) - 2 = nI (nu F - 1) - 1 := by
    obtain ⟨k, hk⟩ : ∃ k, nu F = k + 1 := ⟨nu F - 1, by omega⟩
    rw [hk]
    exact nI_m2 k
  unfold f_Fits_shift nW
  rw [ok_42 hF.1.1, gd_T, hW.1, e1, Fits_shift_7 N F M hF W hW (nu F - 1) N (by omega) (by omega)]
  cases hg : gv (uu F) W (nu F - 1) with
  | none => exact Or.inl ⟨rfl, rfl⟩
  | some g =>
    have hg1 := (gv_s hg).1
    obtain ⟨Z, z1, z2, z3⟩ := Fits_shift_31 N F M hF W hW g (by omega)
    exact Or.inr ⟨_, Z, rfl, z1, z2, z3⟩
/-- the next that fit -/
noncomputable def nx (F : FE) (f : Nat) (W : Nat → Int32) : Option (Nat → Int32) := match nW (uu F) (nu F) W with
  | none => none
  | some V => sr F f V
theorem Fits_next_2 (N : Nat) (hN : 300 ≤ N) (F : FE) (hp : F.por.toInt ≤ 10) (h0 : 0 < nu F) : ∀ (f i j : Nat) (M : sw_M) (W : Nat → Int32), HFE M F → HWt M F W → WK (uu F) (nu F) F.por.toInt W → WZ F W → hoW (uu F) W (nu F - 1) ≤ f → f + 1 < j → i + f < 1000000 →
    (nx F f W = none ∧ ∃ Z, f_Fits_next_2 N j 42 (nI i) M = some (0, Z) ∧ Fr Awh M Z) ∨ ∃ V Z, nx F f W = some V ∧ f_Fits_next_2 N j 42 (nI i) M = some (1, Z) ∧ Fr Awh M Z ∧ HWt Z F V ∧ WK (uu F) (nu F) F.por.toInt V ∧ WZ F V ∧ hoW (uu F) V (nu F - 1) < hoW (uu F) W (nu F - 1) := by
  intro f
  induction f with
  | zero =>
    intro i j M W hF hW hK hz hf hj hi
    obtain ⟨j, rfl⟩ : ∃ k, j = k + 1 := ⟨j - 1, by omega⟩
    have hH := hF.1
    rw [f_Fits_next_2, if_neg (show ¬ (1000000 : Int32) ≤ nI i from (nI_ge (by omega) (by omega) : ¬ nI 1000000 ≤ nI i)), ok_42 hH.1, gd_T]
    unfold nx
    rcases Fits_shift N hN F M hF W hW h0 with ⟨e1, e2⟩ | ⟨V, Z, e1, e2, e3, e4⟩
    · rw [e1, e2, bn_S]
      exact Or.inl ⟨rfl, M, rfl, Fr.refl _ _⟩
    · obtain ⟨k1, k2⟩ := nW_s (uu_inj F) hp hK e1
      have hb := hoW_b (U := uu F) (W := V) (n := nu F - 1) (fun i hi => ⟨k1.1 i (by omega), by have := (smW_le k1.1).2 i (by omega); have := k1.2; omega⟩)
      omega
  | succ f ih =>
    intro i j M W hF hW hK hz hf hj hi
    obtain ⟨j, rfl⟩ : ∃ k, j = k + 1 := ⟨j - 1, by omega⟩
    have hH := hF.1
    rw [f_Fits_next_2, if_neg (show ¬ (1000000 : Int32) ≤ nI i from (nI_ge (by omega) (by omega) : ¬ nI 1000000 ≤ nI i)), ok_42 hH.1, gd_T]
    unfold nx
    rcases Fits_shift N hN F M hF W hW h0 with ⟨e1, e2⟩ | ⟨V, Z, e1, e2, e3, e4⟩
    · rw [e1, e2, bn_S]
      exact Or.inl ⟨rfl, M, rfl, Fr.refl _ _⟩
    · obtain ⟨k1, k2⟩ := nW_s (uu_inj F) hp hK e1
      have kz := nW_z F hz e1
      have hFZ := HFE_fr e3 hF
      rw [e1, e2, bn_S]
      show (sr F (f + 1) V = none ∧ ∃ Z', (if (1 : Int32) = 0 then _ else sw_gd [sw_ok Z 42 1] ((f_Fits_allHold N 42 Z).bind _)) = _ ∧ _) ∨ ∃ V' Z', sr F (f + 1) V = some V' ∧ (if (1 : Int32) = 0 then _ else sw_gd [sw_ok Z 42 1] ((f_Fits_allHold N 42 Z).bind _)) = _ ∧ _
      rw [if_neg (by decide), ok_42 hFZ.1.1, gd_T, Fits_allHold N hN F hp Z hFZ V e4 k1 kz, bn_S, sr]
      show (_ ∧ ∃ Z', (if bz (fitB F V) = 0 then f_Fits_next_2 N j 42 (nI i + 1) Z else _) = _ ∧ _) ∨ ∃ V' Z', _ ∧ (if bz (fitB F V) = 0 then f_Fits_next_2 N j 42 (nI i + 1) Z else _) = _ ∧ _
      cases hb : fitB F V
      · rw [if_neg (by decide), if_pos (show bz false = 0 from rfl), nI_1]
        rcases ih (i + 1) j Z V hFZ e4 k1 kz (by omega) (by omega) (by omega) with ⟨a1, Y, a2, a3⟩ | ⟨V', Y, a1, a2, a3, a4, a5, a6, a7⟩
        · exact Or.inl ⟨a1, Y, a2, e3.trans a3⟩
        · exact Or.inr ⟨V', Y, a1, a2, e3.trans a3, a4, a5, a6, by omega⟩
      · rw [if_pos rfl, if_neg (show ¬ bz true = 0 by decide)]
        exact Or.inr ⟨V, Z, rfl, rfl, e3, e4, k1, kz, k2⟩
