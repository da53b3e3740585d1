/-! 87: the first that fit, the next that fit: both sides -/
noncomputable def muW (F : FE) (W : Nat → Int32) : Nat := (hoW (uu F) W (nu F - 1)).toNat
noncomputable def WG (F : FE) (W : Nat → Int32) : Prop := WK (uu F) (nu F) F.por.toInt W ∧ WZ F W
theorem mu_b {F : FE} (hp : F.por.toInt ≤ 10) (h6 : F.E.no ≤ 6) {W : Nat → Int32} (h : WG F W) : hoW (uu F) W (nu F - 1) = (muW F W : Int) ∧ muW F W < 161051 := by
  have hb := hoW_b (U := uu F) (W := W) (n := nu F - 1) (fun i hi => ⟨h.1.1 i (by omega), by have := (smW_le h.1.1).2 i (by omega); have := h.1.2; omega⟩)
  have hn := nu_le F
  have h2 : (11 : Int) ^ (nu F - 1) ≤ 11 ^ 5 := by
    have h5 : nu F - 1 ≤ 5 := by omega
    generalize nu F - 1 = m at h5
    have : m = 0 ∨ m = 1 ∨ m = 2 ∨ m = 3 ∨ m = 4 ∨ m = 5 := by omega
    rcases this with e | e | e | e | e | e <;> subst e <;> decide
  have h3 : (11 : Int) ^ 5 = 161051 := by decide
  unfold muW
  omega
theorem sr_g {F : FE} (hp : F.por.toInt ≤ 10) : ∀ (f : Nat) (W V : Nat → Int32), WG F W → sr F f W = some V → WG F V
  | 0, W, V, h, e => by cases e
  | f + 1, W, V, h, e => by
    rw [sr] at e
    by_cases c : fitB F W = true
    · rw [if_pos c] at e
      cases e
      exact h
    · rw [if_neg c] at e
      cases hn : nW (uu F) (nu F) W with
      | none => rw [hn] at e; cases e
      | some W' =>
        rw [hn] at e
        exact sr_g hp f W' V ⟨(nW_s (uu_inj F) hp h.1 hn).1, nW_z F h.2 hn⟩ e
theorem sr_ind {F : FE} (hp : F.por.toInt ≤ 10) (h6 : F.E.no ≤ 6) : ∀ (f f' : Nat) (W : Nat → Int32), WG F W → muW F W < f → muW F W < f' → sr F f W = sr F f' W
  | 0, f', W, h, h1, h2 => by omega
  | f + 1, 0, W, h, h1, h2 => by omega
  | f + 1, f' + 1, W, h, h1, h2 => by
    rw [sr, sr]
    by_cases c : fitB F W = true
    · rw [if_pos c, if_pos c]
    · rw [if_neg c, if_neg c]
      cases hn : nW (uu F) (nu F) W with
      | none => rfl
      | some V =>
        obtain ⟨k1, k2⟩ := nW_s (uu_inj F) hp h.1 hn
        have hV : WG F V := ⟨k1, nW_z F h.2 hn⟩
        have b1 := mu_b hp h6 h
        have b2 := mu_b hp h6 hV
        exact sr_ind hp h6 f f' V hV (by omega) (by omega)
noncomputable def NF (F : FE) (W : Nat → Int32) : Option (Nat → Int32) := nx F 161051 W
noncomputable def FF (F : FE) : Option (Nat → Int32) := if 0 < nu F then sr F 161052 (W0 F) else none
noncomputable def HS (M : sw_M) (F : FE) (W : Nat → Int32) : Prop := HWt M F W ∧ WG F W
noncomputable def MSs (M : sw_M) (F : FE) (W : Nat → Int32) : Prop := MWt M F W ∧ WG F W
theorem House_nx (N : Nat) (hN : 200000 ≤ N) (F : FE) (hp : F.por.toInt ≤ 10) (h0 : 0 < nu F) (M : sw_M) (hF : HFE M F) (W : Nat → Int32) (hW : HS M F W) :
    (NF F W = none ∧ ∃ Z, f_Fits_next N 42 M = some (0, Z) ∧ Fr Awh M Z) ∨ ∃ V Z, NF F W = some V ∧ f_Fits_next N 42 M = some (1, Z) ∧ Fr Awh M Z ∧ HS Z F V ∧ muW F V < muW F W := by
  have h6 := hF.2.2.2.2.2.2.2.2.1.2.2.2.1
  have hb := mu_b hp h6 hW.2
  rcases Fits_next_2 N (by omega) F hp h0 161051 0 N M W hF hW.1 hW.2.1 hW.2.2 (by omega) (by omega) (by omega) with ⟨a1, Z, a2, a3⟩ | ⟨V, Z, a1, a2, a3, a4, a5, a6, a7⟩
  · exact Or.inl ⟨a1, Z, a2, a3⟩
  · have hb' := mu_b hp h6 (show WG F V from ⟨a5, a6⟩)
    exact Or.inr ⟨V, Z, a1, a2, a3, ⟨a4, a5, a6⟩, by omega⟩
theorem Model_nx (N : Nat) (hN : 200000 ≤ N) (F : FE) (hp : F.por.toInt ≤ 10) (h0 : 0 < nu F) (M : sw_M) (hF : MFE M F) (W : Nat → Int32) (hW : MSs M F W) :
    (NF F W = none ∧ ∃ Z, f_Model_toFit N 80 0 M = some (0, Z) ∧ Fr Awt M Z) ∨ ∃ V Z, NF F W = some V ∧ f_Model_toFit N 80 0 M = some (1, Z) ∧ Fr Awt M Z ∧ MSs Z F V ∧ muW F V < muW F W := by
  have h6 := hF.2.2.1
  have hb := mu_b hp h6 hW.2
  unfold f_Model_toFit NF nx
  rw [if_pos rfl, ok_80 hF.1.1, gd_T]
  rcases Model_nextWeights N (by omega) F M hF W hW.1 h0 with ⟨e1, e2⟩ | ⟨V, Z, e1, e2, e3, e4⟩
  · rw [e1, e2, bn_S]
    obtain ⟨j, hj⟩ : ∃ k, N = k + 1 := ⟨N - 1, by omega⟩
    refine Or.inl ⟨rfl, M, ?_, Fr.refl _ _⟩
    show f_Model_toFit_15 N 80 0 M = _
    rw [f_Model_toFit_15, show f_Model_toFit_16 N N = f_Model_toFit_16 N (j + 1) by rw [← hj], f_Model_toFit_16, if_pos rfl]
    rfl
  · obtain ⟨k1, k2⟩ := nW_s (uu_inj F) hp hW.2.1 e1
    have kz := nW_z F hW.2.2 e1
    have hbV := mu_b hp h6 (show WG F V from ⟨k1, kz⟩)
    rw [e1, e2, bn_S]
    rcases Model_toFit_16 N (by omega) F hp h0 161051 N Z V (MFE_fr e3 hF) e4 k1 (by omega) (by omega) with ⟨a1, Y, a2, a3⟩ | ⟨V', Y, a1, a2, a3, a4, a5, a6⟩
    · exact Or.inl ⟨a1, Y, a2, e3.trans a3⟩
    · have hg := sr_g hp _ _ _ (show WG F V from ⟨k1, kz⟩) a1
      have hb' := mu_b hp h6 hg
      exact Or.inr ⟨V', Y, a1, a2, e3.trans a3, ⟨a4, hg⟩, by omega⟩
theorem House_ff (N : Nat) (hN : 200000 ≤ N) (F : FE) (hp : 0 ≤ F.por.toInt ∧ F.por.toInt ≤ 10) (M : sw_M) (hF : HFE M F) :
    (FF F = none ∧ ∃ Z, f_Fits_first N 42 M = some (0, Z) ∧ Fr Awh M Z) ∨ ∃ V Z, 0 < nu F ∧ FF F = some V ∧ f_Fits_first N 42 M = some (1, Z) ∧ Fr Awh M Z ∧ HS Z F V := by
  have h6 := hF.2.2.2.2.2.2.2.2.1.2.2.2.1
  have hH := hF.1
  unfold f_Fits_first FF
  rw [ok_42 hH.1, gd_T]
  obtain ⟨Z, f1, h⟩ := Fits_begin N (by omega) F M hF
  rcases h with ⟨e0, e1⟩ | ⟨e0, e1, e2⟩
  · rw [e1, bn_S, if_neg (by omega)]
    exact Or.inl ⟨rfl, Z, rfl, f1⟩
  · have hg : WG F (W0 F) := ⟨W0_K F e0 hp.1, W0_z F e0⟩
    have hFZ := HFE_fr f1 hF
    rw [e1, bn_S, if_pos e0]
    show (_ ∧ ∃ Z', (if (1 : Int32) = 0 then _ else sw_gd [sw_ok Z 42 1] ((f_Fits_allHold N 42 Z).bind _)) = _ ∧ _) ∨ ∃ V Z', _ ∧ _ ∧ (if (1 : Int32) = 0 then _ else sw_gd [sw_ok Z 42 1] ((f_Fits_allHold N 42 Z).bind _)) = _ ∧ _
    rw [if_neg (by decide), ok_42 hFZ.1.1, gd_T, Fits_allHold N (by omega) F hp.2 Z hFZ (W0 F) e2 hg.1 hg.2, bn_S, sr]
    show (_ ∧ ∃ Z', (if bz (fitB F (W0 F)) = 0 then sw_gd [sw_ok Z 42 1] ((f_Fits_next N 42 Z).bind _) else _) = _ ∧ _) ∨ ∃ V Z', _ ∧ _ ∧ (if bz (fitB F (W0 F)) = 0 then sw_gd [sw_ok Z 42 1] ((f_Fits_next N 42 Z).bind _) else _) = _ ∧ _
    cases hb : fitB F (W0 F)
    · rw [if_neg (by decide), if_pos (show bz false = 0 from rfl), ok_42 hFZ.1.1, gd_T]
      rcases House_nx N hN F hp.2 e0 Z hFZ (W0 F) ⟨e2, hg⟩ with ⟨a1, Y, a2, a3⟩ | ⟨V, Y, a1, a2, a3, a4, a5⟩
      · rw [a2, bn_S]
        exact Or.inl ⟨a1, Y, rfl, f1.trans a3⟩
      · rw [a2, bn_S]
        exact Or.inr ⟨V, Y, e0, a1, rfl, f1.trans a3, a4⟩
    · rw [if_pos rfl, if_neg (show ¬ bz true = 0 by decide)]
      exact Or.inr ⟨W0 F, Z, e0, rfl, rfl, f1, e2, hg⟩
theorem Model_ff (N : Nat) (hN : 200000 ≤ N) (F : FE) (hp : 0 ≤ F.por.toInt ∧ F.por.toInt ≤ 10) (M : sw_M) (hF : MFE M F) :
    (FF F = none ∧ ∃ Z, f_Model_toFit N 80 1 M = some (0, Z) ∧ Fr Awt M Z) ∨ ∃ V Z, 0 < nu F ∧ FF F = some V ∧ f_Model_toFit N 80 1 M = some (1, Z) ∧ Fr Awt M Z ∧ MSs Z F V := by
  have h6 := hF.2.2.1
  unfold f_Model_toFit FF
  rw [if_neg (show ¬ (1 : Int32) = 0 by decide), ok_80 hF.1.1, gd_T]
  obtain ⟨Z, f1, h⟩ := Model_firstWeights N (by omega) F M hF
  rcases h with ⟨e0, e1⟩ | ⟨e0, e1, e2⟩
  · rw [e1, bn_S, if_neg (by omega)]
    obtain ⟨j, hj⟩ : ∃ k, N = k + 1 := ⟨N - 1, by omega⟩
    refine Or.inl ⟨rfl, Z, ?_, f1⟩
    show f_Model_toFit_15 N 80 0 Z = _
    rw [f_Model_toFit_15, show f_Model_toFit_16 N N = f_Model_toFit_16 N (j + 1) by rw [← hj], f_Model_toFit_16, if_pos rfl]
    rfl
  · have hg : WG F (W0 F) := ⟨W0_K F e0 hp.1, W0_z F e0⟩
    have hb := mu_b hp.2 h6 hg
    rw [e1, bn_S, if_pos e0]
    rcases Model_toFit_16 N (by omega) F hp.2 e0 161052 N Z (W0 F) (MFE_fr f1 hF) e2 hg.1 (by omega) (by omega) with ⟨a1, Y, a2, a3⟩ | ⟨V', Y, a1, a2, a3, a4, a5, a6⟩
    · exact Or.inl ⟨a1, Y, a2, f1.trans a3⟩
    · exact Or.inr ⟨V', Y, e0, a1, a2, f1.trans a3, a4, sr_g hp.2 _ _ _ hg a1⟩
/-- how many fit -/
noncomputable def cF (F : FE) : Nat → Option (Nat → Int32) → Nat
  | 0, _ => 0
  | _ + 1, none => 0
  | f + 1, some W => cF F f (NF F W) + 1
theorem House_fits_33 (N : Nat) (hN : 200000 ≤ N) (F : FE) (hp : F.por.toInt ≤ 10) (h0 : 0 < nu F) : ∀ (f i c j : Nat) (M : sw_M) (W : Nat → Int32), HFE M F → HS M F W → muW F W + 1 < f → f + 1 < j → i + f < 1000000 → ∃ Z, f_House_fits_33 N j 1 (nI c) 1 (nI i) M = some (nI (c + cF F f (some W)), Z) ∧ Fr Awh M Z := by
  intro f
  induction f with
  | zero => intro i c j M W hF hW hf; omega
  | succ f ih =>
    intro i c j M W hF hW hf hj hi
    obtain ⟨j, rfl⟩ : ∃ k, j = k + 1 := ⟨j - 1, by omega⟩
    have hH := hF.1
    rw [f_House_fits_33, if_neg (show ¬ (1000000 : Int32) ≤ nI i from (nI_ge (by omega) (by omega) : ¬ nI 1000000 ≤ nI i)), if_neg (by decide), ok_1 hH.1, gd_T, hr_f hH 1 8 42 rfl (by decide), ok_42 hH.1, gd_T, cF]
    rcases House_nx N hN F hp h0 M hF W hW with ⟨a1, Z, a2, a3⟩ | ⟨V, Z, a1, a2, a3, a4, a5⟩
    · rw [a1, a2, bn_S]
      obtain ⟨j, rfl⟩ : ∃ k, j = k + 1 := ⟨j - 1, by omega⟩
      obtain ⟨f, rfl⟩ : ∃ k, f = k + 1 := ⟨f - 1, by omega⟩
      refine ⟨Z, ?_, a3⟩
      show f_House_fits_33 N (j + 1) 1 (nI c + 1) 0 (nI i + 1) Z = _
      rw [nI_1, nI_1, f_House_fits_33, if_neg (show ¬ (1000000 : Int32) ≤ nI (i + 1) from (nI_ge (by omega) (by omega) : ¬ nI 1000000 ≤ nI (i + 1))), if_pos rfl]
      rfl
    · rw [a1, a2, bn_S]
      obtain ⟨Y, y1, y2⟩ := ih (i + 1) (c + 1) j Z V (HFE_fr a3 hF) a4 (by omega) (by omega) (by omega)
      refine ⟨Y, ?_, a3.trans y2⟩
      show f_House_fits_33 N j 1 (nI c + 1) 1 (nI i + 1) Z = _
      rw [nI_1, nI_1, y1, show c + 1 + cF F f (some V) = c + (cF F f (some V) + 1) by omega]
theorem Model_fits_36 (N : Nat) (hN : 200000 ≤ N) (F : FE) (hp : F.por.toInt ≤ 10) (h0 : 0 < nu F) : ∀ (f c j : Nat) (M : sw_M) (W : Nat → Int32), MFE M F → MSs M F W → muW F W + 1 < f → f + 1 < j → ∃ Z, f_Model_fits_36 N j 80 (nI c) 1 M = some (nI (c + cF F f (some W)), Z) ∧ Fr Awt M Z := by
  intro f
  induction f with
  | zero => intro c j M W hF hW hf; omega
  | succ f ih =>
    intro c j M W hF hW hf hj
    obtain ⟨j, rfl⟩ : ∃ k, j = k + 1 := ⟨j - 1, by omega⟩
    rw [f_Model_fits_36, if_neg (by decide), ok_80 hF.1.1, gd_T, cF]
    rcases Model_nx N hN F hp h0 M hF W hW with ⟨a1, Z, a2, a3⟩ | ⟨V, Z, a1, a2, a3, a4, a5⟩
    · rw [a1, a2, bn_S]
      obtain ⟨j, rfl⟩ : ∃ k, j = k + 1 := ⟨j - 1, by omega⟩
      obtain ⟨f, rfl⟩ : ∃ k, f = k + 1 := ⟨f - 1, by omega⟩
      refine ⟨Z, ?_, a3⟩
      show f_Model_fits_36 N (j + 1) 80 (nI c + 1) 0 Z = _
      rw [nI_1, f_Model_fits_36, if_pos rfl]
      rfl
    · rw [a1, a2, bn_S]
      obtain ⟨Y, y1, y2⟩ := ih (c + 1) j Z V (MFE_fr a3 hF) a4 (by omega) (by omega)
      refine ⟨Y, ?_, a3.trans y2⟩
      show f_Model_fits_36 N j 80 (nI c + 1) 1 Z = _
      rw [nI_1, y1, show c + 1 + cF F f (some V) = c + (cF F f (some V) + 1) by omega]
/-- the k-th that fit -/
noncomputable def itW (F : FE) : Nat → Option (Nat → Int32) → Option (Nat → Int32)
  | 0, o => o
  | _ + 1, none => none
  | k + 1, some W => itW F k (NF F W)
theorem House_weight_47 (N : Nat) (hN : 200000 ≤ N) (F : FE) (hp : F.por.toInt ≤ 10) (h0 : 0 < nu F) (o : Nat) (ho : o < F.E.no) : ∀ (f k i j : Nat) (M : sw_M) (W : Nat → Int32), HFE M F → HS M F W → muW F W + 1 < f → f + 1 < j → i + k < 2 ^ 31 → ∃ Z, f_House_weight_47 N j 1 (nI (i + k)) (nI o) 1 (nI i) M = some ((match itW F k (some W) with
      | some V => V o
      | none => -1), Z) ∧ Fr Awh M Z := by
  intro f
  induction f with
  | zero => intro k i j M W hF hW hf; omega
  | succ f ih =>
    intro k i j M W hF hW hf hj hi
    obtain ⟨j, rfl⟩ : ∃ k, j = k + 1 := ⟨j - 1, by omega⟩
    have hH := hF.1
    have h6 := hF.2.2.2.2.2.2.2.2.1.2.2.2.1
    cases k with
    | zero =>
      refine ⟨M, ?_, Fr.refl _ _⟩
      rw [f_House_weight_47, if_pos (nI_le (by omega) (by omega)), f_House_weight_73, if_neg (by decide), ok_1 hH.1, gd_T, hr_f hH 1 8 42 rfl (by decide), ok_42 hH.1, gd_T, f_Fits_weightOf, if_neg (nI_pos (by omega)), if_neg (show ¬ (6 : Int32) ≤ nI o from (nI_ge (by omega) (by omega) : ¬ nI 6 ≤ nI o)), ok_42 hH.1, gd_T, hr_f hH 42 2 43 rfl (by decide), ar_43 hH.1, ti_n (show o < 6 by omega) (by decide), gd_T, cl_n (by omega), hW.1.2.2.1 o ho, bn_S]
      rfl
    | succ k =>
      rw [f_House_weight_47, if_neg (nI_ge (by omega) (by omega)), if_neg (by decide), ok_1 hH.1, gd_T, hr_f hH 1 8 42 rfl (by decide), ok_42 hH.1, gd_T, itW]
      rcases House_nx N hN F hp h0 M hF W hW with ⟨a1, Z, a2, a3⟩ | ⟨V, Z, a1, a2, a3, a4, a5⟩
      · rw [a1, a2, bn_S]
        obtain ⟨j, rfl⟩ : ∃ k, j = k + 1 := ⟨j - 1, by omega⟩
        refine ⟨Z, ?_, a3⟩
        show f_House_weight_47 N (j + 1) 1 (nI (i + (k + 1))) (nI o) 0 (nI i + 1) Z = _
        rw [f_House_weight_47, f_House_weight_73, if_pos rfl, if_pos rfl]
        cases k <;> simp [itW]
      · rw [a1, a2, bn_S]
        obtain ⟨Y, y1, y2⟩ := ih k (i + 1) j Z V (HFE_fr a3 hF) a4 (by omega) (by omega) (by omega)
        refine ⟨Y, ?_, a3.trans y2⟩
        show f_House_weight_47 N j 1 (nI (i + (k + 1))) (nI o) 1 (nI i + 1) Z = _
        rw [nI_1, show i + (k + 1) = i + 1 + k by omega, y1]
theorem Model_weight_50 (N : Nat) (hN : 200000 ≤ N) (F : FE) (hp : F.por.toInt ≤ 10) (h0 : 0 < nu F) (o : Nat) (ho : o < F.E.no) : ∀ (f k i j : Nat) (M : sw_M) (W : Nat → Int32), MFE M F → MSs M F W → muW F W + 1 < f → f + 1 < j → i + k < 2 ^ 31 → ∃ Z, f_Model_weight_50 N j 80 (nI (i + k)) (nI o) 1 (nI i) M = some ((match itW F k (some W) with
      | some V => V o
      | none => -1), Z) ∧ Fr Awt M Z := by
  intro f
  induction f with
  | zero => intro k i j M W hF hW hf; omega
  | succ f ih =>
    intro k i j M W hF hW hf hj hi
    obtain ⟨j, rfl⟩ : ∃ k, j = k + 1 := ⟨j - 1, by omega⟩
    have hM := hF.1
    have h6 := hF.2.2.1
    cases k with
    | zero =>
      refine ⟨M, ?_, Fr.refl _ _⟩
      rw [f_Model_weight_50, if_pos (nI_le (by omega) (by omega)), f_Model_weight_74, if_neg (by decide), ok_80 hM.1, gd_T, mr_84 hM, ar_120 hM.1, ti_n (show o < 6 by omega) (by decide), gd_T, cl_n (by omega), hW.1.2.2 o ho]
      rfl
    | succ k =>
      rw [f_Model_weight_50, if_neg (nI_ge (by omega) (by omega)), if_neg (by decide), ok_80 hM.1, gd_T, itW]
      rcases Model_nx N hN F hp h0 M hF W hW with ⟨a1, Z, a2, a3⟩ | ⟨V, Z, a1, a2, a3, a4, a5⟩
      · rw [a1, a2, bn_S]
        obtain ⟨j, rfl⟩ : ∃ k, j = k + 1 := ⟨j - 1, by omega⟩
        refine ⟨Z, ?_, a3⟩
        show f_Model_weight_50 N (j + 1) 80 (nI (i + (k + 1))) (nI o) 0 (nI i + 1) Z = _
        rw [f_Model_weight_50, f_Model_weight_74, if_pos rfl, if_pos rfl]
        cases k <;> simp [itW]
      · rw [a1, a2, bn_S]
        obtain ⟨Y, y1, y2⟩ := ih k (i + 1) j Z V (MFE_fr a3 hF) a4 (by omega) (by omega) (by omega)
        refine ⟨Y, ?_, a3.trans y2⟩
        show f_Model_weight_50 N j 80 (nI (i + (k + 1))) (nI o) 1 (nI i + 1) Z = _
        rw [nI_1, show i + (k + 1) = i + 1 + k by omega, y1]
