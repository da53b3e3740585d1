/-! 85: FITS on the other side: what they rest on -/
theorem sh_row : ∀ i, i < 10 → sw_sh (46 + i) = some (13, 6) ∧ sw_sh (57 + i) = some (13, 6) := by decide
/-- what this side needs for FITS -/
noncomputable def HFE (M : sw_M) (F : FE) : Prop := HR M ∧ rd_I M 33 3 = nI F.E.no ∧ rd_I M 33 4 = nI F.E.L ∧ rd_I M 42 8 = F.por ∧ NT M F.B ∧ F.n ≤ F.B.m ∧ (∀ p, p < F.E.no → rd_R M 34 p = hob p ∧ OQ M (hob p) ∧ HO M F.E F.mass p) ∧ (∀ t, t < 10 → rd_I M 41 t = bz (decide (t < F.n) && !(skF F.B F.n (fun _ => false) t))) ∧ EK F.E ∧ mok F.mass
def Awh (a k : Nat) : Prop := (a = 42 ∧ k = 4) ∨ a = 43 ∨ a = 44 ∨ (46 ≤ a ∧ a ≤ 55) ∨ (57 ≤ a ∧ a ≤ 66)
theorem HFE_fr {M W : sw_M} {F : FE} (h : Fr Awh M W) (g : HFE M F) : HFE W F := by
  obtain ⟨g1, g2, g3, g4, g5, g6, g7, g8, g9, g10⟩ := g
  refine ⟨h.hr g1, (h.I _ _ (by unfold Awh; omega)).trans g2, (h.I _ _ (by unfold Awh; omega)).trans g3, (h.I _ _ (by unfold Awh; omega)).trans g4, NT_fr h (fun a k c d => by unfold Cnt at c; unfold Awh at d; omega) g5, g6, fun p hp => ?_, fun t ht => ?_, g9, g10⟩
  · obtain ⟨a1, a2, a3⟩ := g7 p hp
    exact ⟨(h.R _ _).trans a1, h.oq a2, HO_fr h (fun a k c d => by unfold Ao hob at c; unfold Awh at d; omega) a3⟩
  · rw [h.I 41 t (by unfold Awh; omega)]
    exact g8 t ht
theorem Notes_isSight (N : Nat) (F : FE) (M : sw_M) (hF : HFE M F) (i : Nat) (hi : i < 10) : f_Notes_isSight N 36 (nI i) M = some (bz (sgt F.B F.n i), M) := by
  obtain ⟨hH, g2, g3, g4, g5, g6, g7, g8, g9, g10⟩ := hF
  unfold f_Notes_isSight
  rw [if_neg (nI_pos (by omega)), if_neg (show ¬ (10 : Int32) ≤ nI i from (nI_ge (by omega) (by omega) : ¬ nI 10 ≤ nI i)), ok_36 hH.1, gd_T, hr_f hH 36 4 41 rfl (by decide), an_41_14, Bool.false_or, ar_41 hH.1, ti_n hi (by decide), gd_T, cl_n (by omega), g8 i hi, hr_f hH 36 0 37 rfl (by decide), ar_37 hH.1, ti_n hi (by decide), gd_T]
  unfold sgt
  by_cases c : i < F.n
  · obtain ⟨b1, b2, b3, b4⟩ := g5.2.2.2 i (by omega)
    rw [decide_eq_true c, Bool.true_and, Bool.true_and]
    cases hS : skF F.B F.n (fun _ => false) i
    · rw [Bool.not_false, Bool.and_true, show bz true = 1 from rfl, if_neg (by decide)]
      cases hst : F.B.str i
      · obtain ⟨c1, c2, c3, c4, _⟩ := b2 hst
        rw [c2, if_neg (by rcases c4 with e | e <;> rw [e] <;> decide)]
        rfl
      · rw [(b1 hst).2.1, if_pos rfl]
        rfl
    · rw [Bool.not_true, Bool.and_false]
      rfl
  · rw [decide_eq_false c, Bool.false_and, Bool.false_and]
    rfl
theorem sgt_s {F : FE} {M : sw_M} (hB : NT M F.B) (hn : F.n ≤ F.B.m) {i : Nat} (h : sgt F.B F.n i = true) : i < F.B.m ∧ F.B.str i = false ∧ F.B.cell i < 64 := by
  unfold sgt at h
  simp at h
  have hi : i < F.B.m := by omega
  exact ⟨hi, h.2.1, ((hB.2.2.2 i hi).2.1 h.2.1).2.2.2.2.1⟩
/-- rows of what an ORBIT gives */ -/
def Agr (o a k : Nat) : Prop := ((46 ≤ a ∧ a ≤ 55) ∨ (57 ≤ a ∧ a ≤ 66)) ∧ k = o
theorem Fits_gather_2 (N : Nat) (F : FE) (o : Nat) (ho : o < F.E.no) : ∀ (d i j : Nat) (M : sw_M), i + d = 10 → d < j → HFE M F → (∀ t, t < i → sgt F.B F.n t = true → rd_I M (46 + t) o = SH F.E F.mass o (F.B.cell t) ∧ rd_I M (57 + t) o = GO F.E F.mass o (F.B.cell t)) →
    ∃ W, f_Fits_gather_2 N j 42 (hob o) (nI o) (nI i) M = some W ∧ Fr (Agr o) M W ∧ ∀ t, t < 10 → sgt F.B F.n t = true → rd_I W (46 + t) o = SH F.E F.mass o (F.B.cell t) ∧ rd_I W (57 + t) o = GO F.E F.mass o (F.B.cell t)
  | 0, i, j, M, hd, hj, hF, hs => by
    obtain ⟨j, rfl⟩ : ∃ k, j = k + 1 := ⟨j - 1, by omega⟩
    obtain rfl : i = 10 := by omega
    refine ⟨M, ?_, Fr.refl _ _, hs⟩
    rw [f_Fits_gather_2, if_pos (show (10 : Int32) ≤ nI 10 from by decide)]
  | d + 1, i, j, M, hd, hj, hF, hs => by
    obtain ⟨j, rfl⟩ : ∃ k, j = k + 1 := ⟨j - 1, by omega⟩
    have hH := hF.1
    have h6 := hF.2.2.2.2.2.2.2.2.1.2.2.2.1
    obtain ⟨q1, q2, q3⟩ := hF.2.2.2.2.2.2.1 o ho
    rw [f_Fits_gather_2, if_neg (show ¬ (10 : Int32) ≤ nI i from (nI_ge (by omega) (by omega) : ¬ nI 10 ≤ nI i)), ok_42 hH.1, gd_T, hr_f hH 42 1 36 rfl (by decide), ok_36 hH.1, gd_T, hr_f hH 36 1 38 rfl (by decide), ar_38 hH.1, ti_n (show i < 10 by omega) (by decide), gd_T, Notes_isSight N F M hF i (by omega), bn_S]
    show ∃ W, (if bz (sgt F.B F.n i) = 0 then _ else _) = _ ∧ _
    have skip : sgt F.B F.n i = false → ∃ W, f_Fits_gather_72 N (f_Fits_gather_2 N j) 42 (hob o) (nI o) (nI i) M = some W ∧ Fr (Agr o) M W ∧ ∀ t, t < 10 → sgt F.B F.n t = true → rd_I W (46 + t) o = SH F.E F.mass o (F.B.cell t) ∧ rd_I W (57 + t) o = GO F.E F.mass o (F.B.cell t) := fun h => by
      rw [f_Fits_gather_72, nI_1]
      exact Fits_gather_2 N F o ho d (i + 1) j M (by omega) (by omega) hF (fun t ht hst => by
        by_cases c : t = i
        · rw [c, h] at hst
          cases hst
        · exact hs t (by omega) hst)
    cases hg : sgt F.B F.n i
    · rw [if_pos (show bz false = 0 from rfl)]
      exact skip hg
    · obtain ⟨m1, m2, m3⟩ := sgt_s hF.2.2.2.2.1 hF.2.2.2.2.2.1 hg
      obtain ⟨b1, b2, b3, b4⟩ := hF.2.2.2.2.1.2.2.2 i m1
      have hr1 : rd_R M 45 i = 46 + i := hr_f hH 45 i _ (if_pos (show i < 10 by omega)) (by omega)
      have hr2 : rd_R M 56 i = 57 + i := hr_f hH 56 i _ (if_pos (show i < 10 by omega)) (by omega)
      have hH1 := hH.1
      have ha1 : sw_ar M (46 + i) 13 (nI o) = true := by rw [c_ar (sh_row i (by omega)).1 (by omega), ti_n (by omega) (by decide)]
      have ha2 : sw_ar M (57 + i) 13 (nI o) = true := by rw [c_ar (sh_row i (by omega)).2 (by omega), ti_n (by omega) (by decide)]
      obtain ⟨s1, s2⟩ := q3.2.2.1 (F.B.cell i) m3
      have n1 : ¬ hob o + 8 = 46 + i := by unfold hob; omega
      rw [if_neg (show ¬ bz true = 0 by decide), cl_n (show i < 2 ^ 31 by omega), b4, if_neg (nI_pos (by omega)), if_neg (show ¬ (64 : Int32) ≤ nI (F.B.cell i) from (nI_ge m3 (by omega) : ¬ nI 64 ≤ nI (F.B.cell i)))]
      simp only [f_Fits_gather_72, m_II, m_LL, m_RR, m_IL, m_IR, m_LI, m_LR, m_RI, m_RL, m_NI, m_NL, m_NR, m_okI, m_okL, m_okR, m_okaI, m_okaL, m_okaR, m_arI, m_arL, m_arR, gd_T, bn_S, Nat.reduceEqDiff, Nat.left_eq_add, Nat.add_eq_left, Nat.one_ne_zero, and_false, and_true, false_and, true_and, if_false, if_true, ok_42 hH.1, hr_f hH 42 5 45 rfl (by decide), hr_f hH 42 6 56 rfl (by decide), ar_45 hH.1, ar_56 hH.1, an_45_17, an_45_18, an_56_17, an_56_18, Bool.false_or, ti_n (show i < 10 by omega) (by decide), cl_n (show i < 2 ^ 31 by omega), hr1, hr2, q2.ok, q2.r15, q2.r16, q2.a7, q2.a8, ti_n m3 (by decide), cl_n (show F.B.cell i < 2 ^ 31 by omega), cl_n (show o < 2 ^ 31 by omega), ha1, ha2, s1, s2, n1, nI_1]
      have hfr : Fr (Agr o) M (wr_I (wr_I M (46 + i) o (SH F.E F.mass o (F.B.cell i))) (57 + i) o (GO F.E F.mass o (F.B.cell i))) := ((Fr.refl _ M).wI _ _ _ (by unfold Agr; omega)).wI _ _ _ (by unfold Agr; omega)
      obtain ⟨W, w1, w2, w3⟩ := Fits_gather_2 N F o ho d (i + 1) j _ (by omega) (by omega) (HFE_fr (hfr.mono (fun a k c => by unfold Agr at c; unfold Awh; omega)) hF) (fun t ht hst => by
        rw [m_II, m_II, m_II, m_II]
        by_cases c : t = i
        · subst c
          rw [if_neg (by omega), if_pos ⟨rfl, rfl⟩, if_pos ⟨rfl, rfl⟩]
          exact ⟨rfl, rfl⟩
        · rw [if_neg (by omega), if_neg (by omega), if_neg (by omega), if_neg (by omega)]
          exact hs t (by omega) hst)
      exact ⟨W, w1, hfr.trans w2, w3⟩
/-- WEIGHTS in this side's memory -/
noncomputable def HWt (M : sw_M) (F : FE) (W : Nat → Int32) : Prop := rd_I M 42 4 = nI (nu F) ∧ (∀ i, i < nu F → rd_I M 44 i = nI (uu F i)) ∧ (∀ o, o < F.E.no → rd_I M 43 o = W o) ∧ ∀ t, t < 10 → sgt F.B F.n t = true → ∀ i, i < nu F → rd_I M (46 + t) (uu F i) = SH F.E F.mass (uu F i) (F.B.cell t) ∧ rd_I M (57 + t) (uu F i) = GO F.E F.mass (uu F i) (F.B.cell t)
theorem Swarm_latest (N : Nat) (M : sw_M) (hH : HR M) (o : Nat) (ho : o < 6) (h34 : rd_R M 34 o = hob o) : f_Swarm_latest N 33 (nI o) M = some (hob o, M) := by
  unfold f_Swarm_latest
  rw [if_neg (nI_pos (by omega)), ok_33 hH.1, gd_T, hr_f hH 33 1 34 rfl (by decide), oa_34 hH.1, gd_T, ln_34, if_pos (nI_lt ho (by omega)), ar_34 hH.1, ti_n ho (by decide), Bool.true_or, gd_T, cl_n (by omega), h34]
theorem Fits_begin_15 (N : Nat) (hN : 300 ≤ N) (F : FE) : ∀ (d o j : Nat) (M : sw_M), o + d = F.E.no → d < j → HFE M F → rd_I M 42 4 = nI (ulT F o).length → (∀ i, i < (ulT F o).length → rd_I M 44 i = nI ((ulT F o).getD i 0)) → (∀ p, p < F.E.no → rd_I M 43 p = 0) →
    (∀ t, t < 10 → sgt F.B F.n t = true → ∀ p, p < o → UU F.E F.mass p = true → rd_I M (46 + t) p = SH F.E F.mass p (F.B.cell t) ∧ rd_I M (57 + t) p = GO F.E F.mass p (F.B.cell t)) →
    ∃ W, Fr Awh M W ∧ ((nu F = 0 ∧ f_Fits_begin_15 N j 42 (nI o) M = some (0, W)) ∨ (0 < nu F ∧ f_Fits_begin_15 N j 42 (nI o) M = some (1, W) ∧ HWt W F (W0 F)))
  | 0, o, j, M, hd, hj, hF, h4, hu, hw, hg => by
    obtain ⟨j, rfl⟩ : ∃ k, j = k + 1 := ⟨j - 1, by omega⟩
    obtain rfl : o = F.E.no := by omega
    have hH := hF.1
    have h6 := hF.2.2.2.2.2.2.2.2.1.2.2.2.1
    have hnu := nu_le F
    have e4 : rd_I M 42 4 = nI (nu F) := h4
    rw [f_Fits_begin_15, f_Fits_begin_84, ok_42 hH.1, gd_T, hr_f hH 42 0 33 rfl (by decide), ok_33 hH.1, gd_T, hF.2.1, if_pos (nI_le (Nat.le_refl _) (by omega)), gd_T, e4]
    by_cases c : nu F = 0
    · rw [if_neg (by rw [c]; decide)]
      exact ⟨M, Fr.refl _ _, Or.inl ⟨c, rfl⟩⟩
    · have u0 := uu_lt F (show 0 < nu F by omega)
      have h0 : rd_I M 44 0 = nI (uu F 0) := hu 0 (show 0 < nu F by omega)
      rw [if_pos (show (1 : Int32) ≤ nI (nu F) from (nI_le (by omega) (by omega) : nI 1 ≤ nI (nu F))), hr_f hH 42 3 44 rfl (by decide), ar_44 hH.1, show sw_ti (0 : Int32) 6 = true from by decide, gd_T, cl_0, h0, hr_f hH 42 2 43 rfl (by decide), ar_43 hH.1, ti_n (show uu F 0 < 6 by omega) (by decide), gd_T, cl_n (by omega), hF.2.2.2.1]
      refine ⟨_, (Fr.refl _ M).wI 43 _ _ (by unfold Awh; omega), Or.inr ⟨by omega, rfl, ?_, fun i hi => ?_, fun p hp => ?_, fun t ht hst i hi => ?_⟩⟩
      · simp only [m_II, m_LL, m_RR, m_IL, m_IR, m_LI, m_LR, m_RI, m_RL, m_NI, m_NL, m_NR, m_okI, m_okL, m_okR, m_okaI, m_okaL, m_okaR, m_arI, m_arL, m_arR, gd_T, bn_S, Nat.reduceEqDiff, Nat.left_eq_add, Nat.add_eq_left, Nat.one_ne_zero, and_false, and_true, false_and, true_and, if_false, if_true]; exact e4
      · simp only [m_II, m_LL, m_RR, m_IL, m_IR, m_LI, m_LR, m_RI, m_RL, m_NI, m_NL, m_NR, m_okI, m_okL, m_okR, m_okaI, m_okaL, m_okaR, m_arI, m_arL, m_arR, gd_T, bn_S, Nat.reduceEqDiff, Nat.left_eq_add, Nat.add_eq_left, Nat.one_ne_zero, and_false, and_true, false_and, true_and, if_false, if_true]; exact hu i hi
      · simp only [m_II, m_LL, m_RR, m_IL, m_IR, m_LI, m_LR, m_RI, m_RL, m_NI, m_NL, m_NR, m_okI, m_okL, m_okR, m_okaI, m_okaL, m_okaR, m_arI, m_arL, m_arR, gd_T, bn_S, Nat.reduceEqDiff, Nat.left_eq_add, Nat.add_eq_left, Nat.one_ne_zero, and_false, and_true, false_and, true_and, if_false, if_true]
        unfold W0 upW
        by_cases e : p = uu F 0
        · simp only [e, if_true]
        · simp only [e, if_false]
          exact hw p hp
      · rw [m_II, m_II, if_neg (by omega), if_neg (by omega)]
        exact hg t ht hst (uu F i) (uu_lt F hi) (uu_us F hi)
  | d + 1, o, j, M, hd, hj, hF, h4, hu, hw, hg => by
    obtain ⟨j, rfl⟩ : ∃ k, j = k + 1 := ⟨j - 1, by omega⟩
    have hH := hF.1
    have h6 := hF.2.2.2.2.2.2.2.2.1.2.2.2.1
    have hlen := ulT_len F o
    obtain ⟨q1, q2, q3⟩ := hF.2.2.2.2.2.2.1 o (by omega)
    have hge := q2.ge
    have h17 := q3.2.2.2
    rw [f_Fits_begin_15, ok_42 hH.1, gd_T, hr_f hH 42 0 33 rfl (by decide), ok_33 hH.1, gd_T, hF.2.1, if_neg (nI_ge (by omega) (by omega)), if_neg (show ¬ (6 : Int32) ≤ nI o from (nI_ge (by omega) (by omega) : ¬ nI 6 ≤ nI o)), Swarm_latest N M hH o (by omega) q1, bn_S]
    show ∃ W, Fr Awh M W ∧ ((_ ∧ (if hob o = 0 then _ else sw_gd [sw_ok M (hob o) 4] (if rd_I M (hob o) 17 = 0 then _ else _)) = _) ∨ (_ ∧ (if hob o = 0 then _ else sw_gd [sw_ok M (hob o) 4] (if rd_I M (hob o) 17 = 0 then _ else _)) = _ ∧ _))
    rw [if_neg (show ¬ hob o = 0 by omega), q2.ok, gd_T, h17]
    have hs := ulT_s F o
    cases hU : UU F.E F.mass o
    · rw [if_pos (show bz false = 0 from rfl), f_Fits_begin_78, nI_1]
      rw [hU, if_neg (by decide)] at hs
      exact Fits_begin_15 N hN F d (o + 1) j M (by omega) (by omega) hF (by rw [hs]; exact h4) (by rw [hs]; exact hu) hw (fun t ht hst p hp hpu => by
        by_cases c : p = o
        · rw [c, hU] at hpu
          cases hpu
        · exact hg t ht hst p (by omega) hpu)
    · rw [if_neg (show ¬ bz true = 0 by decide), ok_42 hH.1, gd_T, hr_f hH 42 3 44 rfl (by decide), h4, ar_44 hH.1, ti_n (show (ulT F o).length < 6 by omega) (by decide), gd_T, cl_n (by omega)]
      rw [hU, if_pos rfl] at hs
      have hf : Fr Awh M (wr_I (wr_I M 44 (ulT F o).length (nI o)) 42 4 (nI ((ulT F o).length + 1))) := ((Fr.refl _ M).wI _ _ _ (by unfold Awh; omega)).wI _ _ _ (by unfold Awh; omega)
      have e42 : rd_I (wr_I M 44 (ulT F o).length (nI o)) 42 4 + 1 = nI ((ulT F o).length + 1) := by
        simp only [m_II, m_LL, m_RR, m_IL, m_IR, m_LI, m_LR, m_RI, m_RL, m_NI, m_NL, m_NR, m_okI, m_okL, m_okR, m_okaI, m_okaL, m_okaR, m_arI, m_arL, m_arR, gd_T, bn_S, Nat.reduceEqDiff, Nat.left_eq_add, Nat.add_eq_left, Nat.one_ne_zero, and_false, and_true, false_and, true_and, if_false, if_true]
        rw [h4, nI_1]
      rw [e42]
      obtain ⟨V, v1, v2, v3⟩ := Fits_gather_2 N F o (by omega) 10 0 N (wr_I (wr_I M 44 (ulT F o).length (nI o)) 42 4 (nI ((ulT F o).length + 1))) (by omega) (by omega) (HFE_fr hf hF) (fun t ht => absurd ht (by omega))
      have v1' : f_Fits_gather N 42 (hob o) (nI o) (wr_I (wr_I M 44 (ulT F o).length (nI o)) 42 4 (nI ((ulT F o).length + 1))) = some V := v1
      rw [v1', bn_S, f_Fits_begin_78, nI_1]
      have hfV : Fr Awh M V := hf.trans (v2.mono (fun a k c => by unfold Agr at c; unfold Awh; omega))
      obtain ⟨W, w1, w2⟩ := Fits_begin_15 N hN F d (o + 1) j V (by omega) (by omega) (HFE_fr hfV hF) (by
        rw [hs, v2.I 42 4 (by unfold Agr; omega)]
        simp only [m_II, m_LL, m_RR, m_IL, m_IR, m_LI, m_LR, m_RI, m_RL, m_NI, m_NL, m_NR, m_okI, m_okL, m_okR, m_okaI, m_okaL, m_okaR, m_arI, m_arL, m_arR, gd_T, bn_S, Nat.reduceEqDiff, Nat.left_eq_add, Nat.add_eq_left, Nat.one_ne_zero, and_false, and_true, false_and, true_and, if_false, if_true]
        simp) (by
        rw [hs]
        intro i hi
        rw [v2.I 44 i (by unfold Agr; omega)]
        simp only [m_II, m_LL, m_RR, m_IL, m_IR, m_LI, m_LR, m_RI, m_RL, m_NI, m_NL, m_NR, m_okI, m_okL, m_okR, m_okaI, m_okaL, m_okaR, m_arI, m_arL, m_arR, gd_T, bn_S, Nat.reduceEqDiff, Nat.left_eq_add, Nat.add_eq_left, Nat.one_ne_zero, and_false, and_true, false_and, true_and, if_false, if_true]
        rw [List.length_append] at hi
        simp at hi
        by_cases c : i = (ulT F o).length
        · subst c
          simp
        · rw [if_neg c, List.getD_eq_getElem?_getD, List.getElem?_append_left (by omega), ← List.getD_eq_getElem?_getD]
          exact hu i (by omega)) (fun p hp => by
        rw [v2.I 43 p (by unfold Agr; omega)]
        simp only [m_II, m_LL, m_RR, m_IL, m_IR, m_LI, m_LR, m_RI, m_RL, m_NI, m_NL, m_NR, m_okI, m_okL, m_okR, m_okaI, m_okaL, m_okaR, m_arI, m_arL, m_arR, gd_T, bn_S, Nat.reduceEqDiff, Nat.left_eq_add, Nat.add_eq_left, Nat.one_ne_zero, and_false, and_true, false_and, true_and, if_false, if_true]
        exact hw p hp) (fun t ht hst p hp hpu => by
        by_cases c : p = o
        · subst c
          exact v3 t ht hst
        · rw [v2.I _ p (by unfold Agr; omega), v2.I _ p (by unfold Agr; omega), m_II, m_II, m_II, m_II, if_neg (by omega), if_neg (by omega), if_neg (by omega), if_neg (by omega)]
          exact hg t ht hst p (by omega) hpu)
      exact ⟨W, hfV.trans w1, w2⟩
theorem Fits_begin (N : Nat) (hN : 300 ≤ N) (F : FE) (M : sw_M) (hF : HFE M F) : ∃ W, Fr Awh M W ∧ ((nu F = 0 ∧ f_Fits_begin N 42 M = some (0, W)) ∨ (0 < nu F ∧ f_Fits_begin N 42 M = some (1, W) ∧ HWt W F (W0 F))) := by
  have hH := hF.1
  have h6 := hF.2.2.2.2.2.2.2.2.1.2.2.2.1
  have hf : Fr Awh M (wr_I M 42 4 0) := (Fr.refl _ M).wI _ _ _ (by unfold Awh; omega)
  have hH1 := hH.1
  obtain ⟨V, v1, v2, v3⟩ := Arr_fillI N 43 6 0 (by omega) rfl 6 N 0 (wr_I M 42 4 0) (by omega) (by omega) (show 43 ≤ rd_N M by omega)
  have v1' : f_Arr_fill_aII_5 N N 43 0 0 (nI 6) (wr_I M 42 4 0) = some V := v1
  have fV : Fr Awh M V := hf.trans (v2.mono (fun a k c => by unfold Awh; omega))
  unfold f_Fits_begin f_Arr_fill_aII
  simp only [m_II, m_LL, m_RR, m_IL, m_IR, m_LI, m_LR, m_RI, m_RL, m_NI, m_NL, m_NR, m_okI, m_okL, m_okR, m_okaI, m_okaL, m_okaR, m_arI, m_arL, m_arR, gd_T, bn_S, Nat.reduceEqDiff, Nat.left_eq_add, Nat.add_eq_left, Nat.one_ne_zero, and_false, and_true, false_and, true_and, if_false, if_true, ok_42 hH.1, hr_f hH 42 2 43 rfl (by decide), oa_43 hH.1, ln_43, v1']
  obtain ⟨W, w1, w2⟩ := Fits_begin_15 N hN F F.E.no 0 N V (by omega) (by omega) (HFE_fr fV hF) (by rw [v2.I 42 4 (by omega)]; simp only [m_II, m_LL, m_RR, m_IL, m_IR, m_LI, m_LR, m_RI, m_RL, m_NI, m_NL, m_NR, m_okI, m_okL, m_okR, m_okaI, m_okaL, m_okaR, m_arI, m_arL, m_arR, gd_T, bn_S, Nat.reduceEqDiff, Nat.left_eq_add, Nat.add_eq_left, Nat.one_ne_zero, and_false, and_true, false_and, true_and, if_false, if_true]; rfl) (fun i hi => absurd hi (by simp [ulT])) (fun p hp => v3 p (by omega) (by omega)) (fun t _ _ p hp => absurd hp (by omega))
  exact ⟨W, fV.trans w1, w2⟩
