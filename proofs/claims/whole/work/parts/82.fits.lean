/-! 82: FITS by themselves; WEIGHTS on the reference's side -/
/-- ORBITS and field, the mass, NOTES, how many are known, PORTIONS -/
def FE : Type := EN × Int32 × NN × Nat × Int32
def FE.E (F : FE) : EN := F.1
def FE.mass (F : FE) : Int32 := F.2.1
def FE.B (F : FE) : NN := F.2.2.1
def FE.n (F : FE) : Nat := F.2.2.2.1
def FE.por (F : FE) : Int32 := F.2.2.2.2
noncomputable def ulT (F : FE) (k : Nat) : List Nat := (List.range k).filter (fun o => UU F.E F.mass o)
noncomputable def ul (F : FE) : List Nat := ulT F F.E.no
noncomputable def uu (F : FE) (i : Nat) : Nat := (ul F).getD i 0
noncomputable def nu (F : FE) : Nat := (ul F).length
theorem ulT_s (F : FE) (k : Nat) : ulT F (k + 1) = if UU F.E F.mass k = true then ulT F k ++ [k] else ulT F k := by
  unfold ulT
  rw [List.range_succ, List.filter_append]
  by_cases h : UU F.E F.mass k = true
  · rw [if_pos h]; simp [h]
  · rw [if_neg h]; simp [h]
theorem ulT_len (F : FE) : ∀ k, (ulT F k).length ≤ k
  | 0 => by simp [ulT]
  | k + 1 => by
    have := ulT_len F k
    rw [ulT_s]
    split
    · simp; omega
    · omega
theorem nu_le (F : FE) : nu F ≤ F.E.no := ulT_len F F.E.no
theorem uu_mem (F : FE) {i : Nat} (h : i < nu F) : uu F i ∈ ul F := by
  unfold uu
  rw [List.getD_eq_getElem?_getD, List.getElem?_eq_getElem h]
  exact List.getElem_mem h
theorem uu_lt (F : FE) {i : Nat} (h : i < nu F) : uu F i < F.E.no := by
  have := uu_mem F h
  unfold ul ulT at this
  rw [List.mem_filter, List.mem_range] at this
  exact this.1
theorem uu_us (F : FE) {i : Nat} (h : i < nu F) : UU F.E F.mass (uu F i) = true := by
  have := uu_mem F h
  unfold ul ulT at this
  rw [List.mem_filter] at this
  exact this.2
theorem ul_pw (F : FE) : (ul F).Pairwise (· < ·) := List.Pairwise.filter _ List.pairwise_lt_range
theorem uu_inj (F : FE) : injU (uu F) (nu F) := by
  intro i j hi hj h
  have key : ∀ a b, a < b → b < nu F → uu F a < uu F b := fun a b hab hb => by
    have ha : a < nu F := by omega
    unfold uu
    rw [List.getD_eq_getElem?_getD, List.getD_eq_getElem?_getD, List.getElem?_eq_getElem ha, List.getElem?_eq_getElem hb]
    exact List.pairwise_iff_getElem.mp (ul_pw F) a b ha hb hab
  rcases Nat.lt_trichotomy i j with h1 | h1 | h1
  · have := key i j h1 hj
    omega
  · exact h1
  · have := key j i h1 hi
    omega
noncomputable def lgS (F : FE) (W : Nat → Int32) (c : Nat) : Nat → Int32
  | 0 => 0
  | k + 1 => lgS F W c k + W k * SH F.E F.mass k c
noncomputable def glS (F : FE) (W : Nat → Int32) (c : Nat) : Nat → Int64
  | 0 => 0
  | k + 1 => glS F W c k + (W k).toInt64 * (GO F.E F.mass k c).toInt64
noncomputable def lig (F : FE) (W : Nat → Int32) (c : Nat) : Int32 := lgS F W c F.E.no
noncomputable def btw (lo hi : Int32) (v s : Int64) : Bool := decide (lo.toInt64 * s ≤ v) && decide (v ≤ hi.toInt64 * s)
noncomputable def hld (F : FE) (W : Nat → Int32) (i : Nat) : Bool :=
  if F.B.kind i = 0 then btw (F.B.lo i) (F.B.hi i) (1000 * (lig F W (F.B.cell i)).toInt64) (F.por.toInt64 * (nI F.E.L).toInt64)
  else btw (F.B.lo i) (F.B.hi i) (glS F W (F.B.cell i) F.E.no) (lig F W (F.B.cell i)).toInt64
noncomputable def fitB (F : FE) (W : Nat → Int32) : Bool := (List.range F.B.m).all (fun i => !(sgt F.B F.n i) || hld F W i)
noncomputable def hoB (F : FE) (W : Nat → Int32) (i : Nat) : Bool := sgt F.B F.n i && hld F W i
theorem fit_bN (F : FE) (W : Nat → Int32) (hn : F.n ≤ F.B.m) : (bN (hoB F W) F.B.m = bN (sgt F.B F.n) F.n) ↔ fitB F W = true := by
  unfold fitB
  rw [List.all_eq_true]
  constructor
  · intro h i hi
    have h1 := congrArg (fun x => x.testBit i) h
    simp only [bN_t] at h1
    rw [List.mem_range] at hi
    unfold hoB at h1
    cases hs : sgt F.B F.n i
    · rfl
    · have hin : i < F.n := by
        unfold sgt at hs
        simp at hs
        exact hs.1
      rw [hs, decide_eq_true hi, decide_eq_true hin] at h1
      simpa using h1
  · intro h
    apply Nat.eq_of_testBit_eq
    intro i
    rw [bN_t, bN_t]
    unfold hoB
    by_cases hin : i < F.n
    · have := h i (List.mem_range.mpr (by omega))
      rw [decide_eq_true (show i < F.B.m by omega), decide_eq_true hin]
      cases hs : sgt F.B F.n i
      · rfl
      · rw [hs] at this
        simpa using this
    · have hs : sgt F.B F.n i = false := by unfold sgt; simp [hin]
      rw [hs]
      simp
/-- what the reference needs for FITS -/
noncomputable def MFE (M : sw_M) (F : FE) : Prop := MR M ∧ rd_I M 80 50 = nI F.E.no ∧ F.E.no ≤ 6 ∧ rd_I M 80 51 = nI F.E.L ∧ rd_I M 80 75 = F.por ∧ NT M F.B ∧ F.n ≤ F.B.m ∧ MG M F.E F.mass ∧ rd_I M 80 83 = nI (bN (sgt F.B F.n) F.n) ∧ (∀ o, o < F.E.no → DD F.E F.mass o ≤ 240)
def Awt (a k : Nat) : Prop := a = 120 ∨ a = 121 ∨ (a = 80 ∧ k = 86)
theorem MG_fr {A : Nat → Nat → Prop} {M W : sw_M} {E : EN} {mass : Int32} (h : Fr A M W) (hD : ∀ o, o < E.no → DD E mass o ≤ 240) (hA : ∀ a k, (98 ≤ a ∧ a ≤ 113 ∧ a ≠ 111) → ¬ A a k) (g : MG M E mass) : MG W E mass := by
  refine ⟨fun p hp => MO_fr h (hD p hp) (fun a k c => hA a k (by unfold Cmo Akp at c; omega)) (g.1 p hp), fun p hp c hc => ?_⟩
  rw [h.I 112 _ (hA _ _ (by omega)), h.I 113 _ (hA _ _ (by omega))]
  exact g.2 p hp c hc
theorem MFE_fr {M W : sw_M} {F : FE} (h : Fr Awt M W) (g : MFE M F) : MFE W F := by
  obtain ⟨g1, g2, g3, g4, g5, g6, g7, g8, g9, g10⟩ := g
  exact ⟨h.mr g1, (h.I _ _ (by unfold Awt; omega)).trans g2, g3, (h.I _ _ (by unfold Awt; omega)).trans g4, (h.I _ _ (by unfold Awt; omega)).trans g5, NT_fr h (fun a k c d => by unfold Cnt at c; unfold Awt at d; omega) g6, g7, MG_fr h g10 (fun a k c d => by unfold Awt at d; omega) g8, (h.I _ _ (by unfold Awt; omega)).trans g9, g10⟩
/-- WEIGHTS in the reference's memory -/
noncomputable def MWt (M : sw_M) (F : FE) (W : Nat → Int32) : Prop := rd_I M 80 86 = nI (nu F) ∧ (∀ i, i < nu F → rd_I M 121 i = nI (uu F i)) ∧ ∀ o, o < F.E.no → rd_I M 120 o = W o
theorem Model_firstWeights_7 (N : Nat) (F : FE) : ∀ (d o j : Nat) (M : sw_M), o + d = F.E.no → d < j → MFE M F → rd_I M 80 86 = nI (ulT F o).length → (∀ i, i < (ulT F o).length → rd_I M 121 i = nI ((ulT F o).getD i 0)) → (∀ p, p < o → rd_I M 120 p = 0) →
    ∃ W, Fr Awt M W ∧ ((nu F = 0 ∧ f_Model_firstWeights_7 N j 80 (nI o) M = some (0, W)) ∨ (0 < nu F ∧ f_Model_firstWeights_7 N j 80 (nI o) M = some (1, W) ∧ MWt W F (upW (fun _ => 0) (uu F 0) F.por)))
  | 0, o, j, M, hd, hj, hF, h86, hu, hw => by
    obtain ⟨j, rfl⟩ : ∃ k, j = k + 1 := ⟨j - 1, by omega⟩
    obtain rfl : o = F.E.no := by omega
    have hM := hF.1
    have h6 := hF.2.2.1
    have hnu := nu_le F
    have e86 : rd_I M 80 86 = nI (nu F) := h86
    rw [f_Model_firstWeights_7, ok_80 hM.1, gd_T, hF.2.1, if_pos (nI_le (Nat.le_refl _) (by omega)), e86]
    by_cases c : nu F = 0
    · rw [if_pos (by rw [c]; rfl)]
      exact ⟨M, Fr.refl _ _, Or.inl ⟨c, rfl⟩⟩
    · have u0 := uu_lt F (show 0 < nu F by omega)
      have h0 : rd_I M 121 0 = nI (uu F 0) := hu 0 (show 0 < nu F by omega)
      rw [if_neg (nI_ne0 (by omega) (by omega)), mr_85 hM, ar_121 hM.1, show sw_ti (0 : Int32) 6 = true from by decide, gd_T, cl_0, h0, mr_84 hM, ar_120 hM.1, ti_n (show uu F 0 < 6 by omega) (by decide), gd_T, cl_n (by omega), hF.2.2.2.2.1]
      refine ⟨_, (Fr.refl _ M).wI 120 _ _ (Or.inl rfl), Or.inr ⟨by omega, rfl, ?_, fun i hi => ?_, fun p hp => ?_⟩⟩
      · simp only [m_II, m_LL, m_RR, m_IL, m_IR, m_LI, m_LR, m_RI, m_RL, m_NI, m_NL, m_NR, m_okI, m_okL, m_okR, m_okaI, m_okaL, m_okaR, m_arI, m_arL, m_arR, gd_T, bn_S, Nat.reduceEqDiff, Nat.left_eq_add, Nat.add_eq_left, Nat.one_ne_zero, and_false, and_true, false_and, true_and, if_false, if_true]; exact e86
      · simp only [m_II, m_LL, m_RR, m_IL, m_IR, m_LI, m_LR, m_RI, m_RL, m_NI, m_NL, m_NR, m_okI, m_okL, m_okR, m_okaI, m_okaL, m_okaR, m_arI, m_arL, m_arR, gd_T, bn_S, Nat.reduceEqDiff, Nat.left_eq_add, Nat.add_eq_left, Nat.one_ne_zero, and_false, and_true, false_and, true_and, if_false, if_true]; exact hu i hi
      · simp only [m_II, m_LL, m_RR, m_IL, m_IR, m_LI, m_LR, m_RI, m_RL, m_NI, m_NL, m_NR, m_okI, m_okL, m_okR, m_okaI, m_okaL, m_okaR, m_arI, m_arL, m_arR, gd_T, bn_S, Nat.reduceEqDiff, Nat.left_eq_add, Nat.add_eq_left, Nat.one_ne_zero, and_false, and_true, false_and, true_and, if_false, if_true]
        unfold upW
        by_cases e : p = uu F 0
        · simp only [e, if_true]
        · simp only [e, if_false]
          exact hw p hp
  | d + 1, o, j, M, hd, hj, hF, h86, hu, hw => by
    obtain ⟨j, rfl⟩ : ∃ k, j = k + 1 := ⟨j - 1, by omega⟩
    have hM := hF.1
    have h6 := hF.2.2.1
    have hlen := ulT_len F o
    have h110 := (hF.2.2.2.2.2.2.2.1.1 o (by omega)).2.2.2.2.2.2
    rw [f_Model_firstWeights_7, ok_80 hM.1, gd_T, hF.2.1, if_neg (nI_ge (by omega) (by omega))]
    simp only [f_Model_firstWeights_54, m_II, m_LL, m_RR, m_IL, m_IR, m_LI, m_LR, m_RI, m_RL, m_NI, m_NL, m_NR, m_okI, m_okL, m_okR, m_okaI, m_okaL, m_okaR, m_arI, m_arL, m_arR, gd_T, bn_S, Nat.reduceEqDiff, Nat.left_eq_add, Nat.add_eq_left, Nat.one_ne_zero, and_false, and_true, false_and, true_and, if_false, if_true, mr_84 hM, mr_85 hM, mr_68 hM, ar_120 hM.1, ar_121 hM.1, ar_110 hM.1, an_110_14, Bool.false_or, ti_n (show o < 6 by omega) (by decide), cl_n (show o < 2 ^ 31 by omega), h110, bz_0, h86, ti_n (show (ulT F o).length < 6 by omega) (by decide), cl_n (show (ulT F o).length < 2 ^ 31 by omega), nI_1]
    have hs := ulT_s F o
    cases hU : UU F.E F.mass o
    · rw [if_pos rfl]
      rw [hU, if_neg (by decide)] at hs
      have hf : Fr Awt M (wr_I M 120 o 0) := (Fr.refl _ M).wI _ _ _ (Or.inl rfl)
      obtain ⟨W, w1, w2⟩ := Model_firstWeights_7 N F d (o + 1) j (wr_I M 120 o 0) (by omega) (by omega) (MFE_fr hf hF) (by rw [hs]; simp only [m_II, m_LL, m_RR, m_IL, m_IR, m_LI, m_LR, m_RI, m_RL, m_NI, m_NL, m_NR, m_okI, m_okL, m_okR, m_okaI, m_okaL, m_okaR, m_arI, m_arL, m_arR, gd_T, bn_S, Nat.reduceEqDiff, Nat.left_eq_add, Nat.add_eq_left, Nat.one_ne_zero, and_false, and_true, false_and, true_and, if_false, if_true]; exact h86) (by rw [hs]; intro i hi; simp only [m_II, m_LL, m_RR, m_IL, m_IR, m_LI, m_LR, m_RI, m_RL, m_NI, m_NL, m_NR, m_okI, m_okL, m_okR, m_okaI, m_okaL, m_okaR, m_arI, m_arL, m_arR, gd_T, bn_S, Nat.reduceEqDiff, Nat.left_eq_add, Nat.add_eq_left, Nat.one_ne_zero, and_false, and_true, false_and, true_and, if_false, if_true]; exact hu i hi) (fun p hp => by
        simp only [m_II, m_LL, m_RR, m_IL, m_IR, m_LI, m_LR, m_RI, m_RL, m_NI, m_NL, m_NR, m_okI, m_okL, m_okR, m_okaI, m_okaL, m_okaR, m_arI, m_arL, m_arR, gd_T, bn_S, Nat.reduceEqDiff, Nat.left_eq_add, Nat.add_eq_left, Nat.one_ne_zero, and_false, and_true, false_and, true_and, if_false, if_true]
        by_cases c : p = o
        · simp [c]
        · simp only [c, if_false]
          exact hw p (by omega))
      exact ⟨W, hf.trans w1, w2⟩
    · rw [if_neg (by decide)]
      rw [hU, if_pos rfl] at hs
      have hf : Fr Awt M (wr_I (wr_I (wr_I M 120 o 0) 121 (ulT F o).length (nI o)) 80 86 (nI ((ulT F o).length + 1))) := (((Fr.refl _ M).wI _ _ _ (Or.inl rfl)).wI _ _ _ (Or.inr (Or.inl rfl))).wI _ _ _ (Or.inr (Or.inr ⟨rfl, rfl⟩))
      obtain ⟨W, w1, w2⟩ := Model_firstWeights_7 N F d (o + 1) j _ (by omega) (by omega) (MFE_fr hf hF) (by rw [hs]; simp only [m_II, m_LL, m_RR, m_IL, m_IR, m_LI, m_LR, m_RI, m_RL, m_NI, m_NL, m_NR, m_okI, m_okL, m_okR, m_okaI, m_okaL, m_okaR, m_arI, m_arL, m_arR, gd_T, bn_S, Nat.reduceEqDiff, Nat.left_eq_add, Nat.add_eq_left, Nat.one_ne_zero, and_false, and_true, false_and, true_and, if_false, if_true]; simp) (by
        rw [hs]
        intro i hi
        simp only [m_II, m_LL, m_RR, m_IL, m_IR, m_LI, m_LR, m_RI, m_RL, m_NI, m_NL, m_NR, m_okI, m_okL, m_okR, m_okaI, m_okaL, m_okaR, m_arI, m_arL, m_arR, gd_T, bn_S, Nat.reduceEqDiff, Nat.left_eq_add, Nat.add_eq_left, Nat.one_ne_zero, and_false, and_true, false_and, true_and, if_false, if_true]
        rw [List.length_append] at hi
        simp at hi
        by_cases c : i = (ulT F o).length
        · subst c
          simp
        · rw [if_neg c, List.getD_eq_getElem?_getD, List.getElem?_append_left (by omega), ← List.getD_eq_getElem?_getD]
          exact hu i (by omega)) (fun p hp => by
        simp only [m_II, m_LL, m_RR, m_IL, m_IR, m_LI, m_LR, m_RI, m_RL, m_NI, m_NL, m_NR, m_okI, m_okL, m_okR, m_okaI, m_okaL, m_okaR, m_arI, m_arL, m_arR, gd_T, bn_S, Nat.reduceEqDiff, Nat.left_eq_add, Nat.add_eq_left, Nat.one_ne_zero, and_false, and_true, false_and, true_and, if_false, if_true]
        by_cases c : p = o
        · simp [c]
        · simp only [c, if_false]
          exact hw p (by omega))
      exact ⟨W, hf.trans w1, w2⟩
noncomputable def W0 (F : FE) : Nat → Int32 := upW (fun _ => 0) (uu F 0) F.por
theorem Model_firstWeights (N : Nat) (hN : 300 ≤ N) (F : FE) (M : sw_M) (hF : MFE M F) : ∃ W, Fr Awt M W ∧ ((nu F = 0 ∧ f_Model_firstWeights N 80 M = some (0, W)) ∨ (0 < nu F ∧ f_Model_firstWeights N 80 M = some (1, W) ∧ MWt W F (W0 F))) := by
  have hf : Fr Awt M (wr_I M 80 86 0) := (Fr.refl _ M).wI _ _ _ (Or.inr (Or.inr ⟨rfl, rfl⟩))
  have h6 := hF.2.2.1
  unfold f_Model_firstWeights
  rw [ok_80 hF.1.1, gd_T]
  obtain ⟨W, w1, w2⟩ := Model_firstWeights_7 N F F.E.no 0 N (wr_I M 80 86 0) (by omega) (by omega) (MFE_fr hf hF) (by simp only [m_II, m_LL, m_RR, m_IL, m_IR, m_LI, m_LR, m_RI, m_RL, m_NI, m_NL, m_NR, m_okI, m_okL, m_okR, m_okaI, m_okaL, m_okaR, m_arI, m_arL, m_arR, gd_T, bn_S, Nat.reduceEqDiff, Nat.left_eq_add, Nat.add_eq_left, Nat.one_ne_zero, and_false, and_true, false_and, true_and, if_false, if_true]; rfl) (fun i hi => absurd hi (by simp [ulT])) (fun p hp => absurd hp (by omega))
  exact ⟨W, hf.trans w1, w2⟩
theorem W0_K (F : FE) (h : 0 < nu F) (hp : 0 ≤ F.por.toInt) : WK (uu F) (nu F) F.por.toInt (W0 F) := by
  have z0 : (0 : Int32).toInt = 0 := by decide
  have e0 : W0 F (uu F 0) = F.por := by unfold W0 upW; rw [if_pos rfl]
  have e1 : ∀ i, 0 < i → i < nu F → W0 F (uu F i) = 0 := fun i h1 h2 => by
    unfold W0 upW
    rw [if_neg (fun e => by have := uu_inj F i 0 h2 h e; omega)]
  refine ⟨fun i hi => ?_, ?_⟩
  · by_cases c : i = 0
    · rw [c, e0]; exact hp
    · rw [e1 i (by omega) hi, z0]
      exact Int.le_refl _
  · have := smW_z (U := uu F) (W := W0 F) (g := 1) (d := nu F - 1) (fun i h1 h2 => e1 i (by omega) (by omega))
    rw [show 1 + (nu F - 1) = nu F by omega] at this
    rw [this]
    show 0 + (W0 F (uu F 0)).toInt = _
    rw [e0, Int.zero_add]
