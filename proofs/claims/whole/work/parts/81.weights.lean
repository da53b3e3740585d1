/-! 81: NOTES on the reference's side; WEIGHTS by themselves -/
def Akn (a k : Nat) : Prop := a = 119 ∨ (a = 80 ∧ k = 83)
theorem CntAkn : ∀ a k, Cnt a k → ¬ Akn a k := by intro a k h; unfold Cnt at h; unfold Akn; omega
theorem Model_knows_71 (N : Nat) (B : NN) (n : Nat) (hn : n ≤ B.m) (S : Nat → Bool) : ∀ (d i j : Nat) (M : sw_M), i + d = n → d < j → MR M → NT M B → (∀ t, t < n → rd_I M 119 t = bz (S t)) → rd_I M 80 83 = nI (bN (fun t => !(B.str t) && !(S t)) i) →
    ∃ W, f_Model_knows_71 N j 80 (nI n) (nI i) M = some W ∧ Fr Akn M W ∧ rd_I W 80 83 = nI (bN (fun t => !(B.str t) && !(S t)) n)
  | 0, i, j, M, hi, hj, hM, hB, hS, hc => by
    obtain ⟨j, rfl⟩ : ∃ k, j = k + 1 := ⟨j - 1, by omega⟩
    obtain rfl : i = n := by omega
    have hm := hB.1
    refine ⟨M, ?_, Fr.refl _ _, hc⟩
    rw [f_Model_knows_71, if_pos (nI_le (Nat.le_refl _) (by omega))]
  | d + 1, i, j, M, hi, hj, hM, hB, hS, hc => by
    obtain ⟨j, rfl⟩ : ∃ k, j = k + 1 := ⟨j - 1, by omega⟩
    have hm := hB.1
    obtain ⟨b1, b2, b3, b4⟩ := hB.2.2.2 i (by omega)
    have h14 : rd_I M 114 i = bz (B.str i) := by
      cases h : B.str i
      · exact (b2 h).1
      · exact (b1 h).1
    rw [f_Model_knows_71, if_neg (nI_ge (by omega) (by omega)), ok_80 hM.1, gd_T, mr_77 hM, an_114_14, Bool.false_or, ar_114 hM.1, ti_n (show i < 10 by omega) (by decide), gd_T, cl_n (by omega), h14, mr_82 hM, an_119_14, Bool.false_or, ar_119 hM.1, ti_n (show i < 10 by omega) (by decide), gd_T, hS i (by omega)]
    simp only [bz_0, f_Model_knows_106, nI_1]
    have skip : bN (fun t => !(B.str t) && !(S t)) (i + 1) = bN (fun t => !(B.str t) && !(S t)) i → ∃ W, f_Model_knows_71 N j 80 (nI n) (nI (i + 1)) M = some W ∧ Fr Akn M W ∧ rd_I W 80 83 = nI (bN (fun t => !(B.str t) && !(S t)) n) := fun e => Model_knows_71 N B n hn S d (i + 1) j M (by omega) (by omega) hM hB hS (by rw [e]; exact hc)
    cases h1 : B.str i
    · rw [if_pos rfl]
      cases h2 : S i
      · rw [if_pos rfl, hc, x_shl (show i < 31 by omega), x_or]
        have hf : ∀ v, Fr Akn M (wr_I M 80 83 v) := fun v => (Fr.refl _ M).wI _ _ _ (Or.inr ⟨rfl, rfl⟩)
        obtain ⟨W, w1, w2, w3⟩ := Model_knows_71 N B n hn S d (i + 1) j (wr_I M 80 83 (nI (bN (fun t => !(B.str t) && !(S t)) i ||| 2 ^ i))) (by omega) (by omega) hM (NT_fr (hf _) CntAkn hB) (fun t ht => by simp only [m_II, m_LL, m_RR, m_IL, m_IR, m_LI, m_LR, m_RI, m_RL, m_NI, m_NL, m_NR, m_okI, m_okL, m_okR, m_okaI, m_okaL, m_okaR, m_arI, m_arL, m_arR, gd_T, bn_S, Nat.reduceEqDiff, Nat.left_eq_add, Nat.add_eq_left, Nat.one_ne_zero, and_false, and_true, false_and, true_and, if_false, if_true]; exact hS t ht) (by
          simp only [m_II, m_LL, m_RR, m_IL, m_IR, m_LI, m_LR, m_RI, m_RL, m_NI, m_NL, m_NR, m_okI, m_okL, m_okR, m_okaI, m_okaL, m_okaR, m_arI, m_arL, m_arR, gd_T, bn_S, Nat.reduceEqDiff, Nat.left_eq_add, Nat.add_eq_left, Nat.one_ne_zero, and_false, and_true, false_and, true_and, if_false, if_true]
          rw [bN, if_pos (by simp [h1, h2])])
        exact ⟨W, w1, (hf _).trans w2, w3⟩
      · rw [if_neg (by decide)]
        exact skip (by rw [bN, if_neg (by simp [h1, h2])])
    · rw [if_neg (by decide)]
      exact skip (by rw [bN, if_neg (by simp [h1])])
theorem Model_knows_29 (N : Nat) (B : NN) (n : Nat) (hn : n ≤ B.m) : ∀ (i j : Nat) (M : sw_M) (S : Nat → Bool), i ≤ n → i < j → MR M → NT M B → (∀ t, t < n → rd_I M 119 t = bz (S t)) →
    ∃ W, f_Model_knows_29 N j 80 (nI n) (nI i - 1) M = f_Model_knows_71 N N 80 (nI n) 0 W ∧ Fr (fun a _ => a = 119) M W ∧ ∀ t, t < n → rd_I W 119 t = bz (skF B i S t)
  | 0, j, M, S, hi, hj, hM, hB, hS => by
    obtain ⟨j, rfl⟩ : ∃ k, j = k + 1 := ⟨j - 1, by omega⟩
    refine ⟨M, ?_, Fr.refl _ _, hS⟩
    rw [f_Model_knows_29, if_pos (by decide)]
  | i + 1, j, M, S, hi, hj, hM, hB, hS => by
    obtain ⟨j, rfl⟩ : ∃ k, j = k + 1 := ⟨j - 1, by omega⟩
    have hm := hB.1
    obtain ⟨b1, b2, b3, b4⟩ := hB.2.2.2 i (by omega)
    have h14 : rd_I M 114 i = bz (B.str i) := by
      cases h : B.str i
      · exact (b2 h).1
      · exact (b1 h).1
    rw [f_Model_knows_29, nI_pred, if_neg (nI_pos (by omega)), ok_80 hM.1, gd_T, mr_77 hM, an_114_14, Bool.false_or, ar_114 hM.1, ti_n (show i < 10 by omega) (by decide), gd_T, cl_n (by omega), h14, mr_82 hM, an_119_14, Bool.false_or, ar_119 hM.1, ti_n (show i < 10 by omega) (by decide), gd_T, hS i (by omega), mr_79 hM, ar_116 hM.1, ti_n (show i < 10 by omega) (by decide), gd_T, b3]
    simp only [bz_0, f_Model_knows_63, nI_dn]
    rw [skF]
    have skip : ∀ S', S' = S → ∃ W, f_Model_knows_29 N j 80 (nI n) (nI i - 1) M = f_Model_knows_71 N N 80 (nI n) 0 W ∧ Fr (fun a _ => a = 119) M W ∧ ∀ t, t < n → rd_I W 119 t = bz (skF B i S' t) := fun S' e => by
      rw [e]
      exact Model_knows_29 N B n hn i j M S (by omega) (by omega) hM hB hS
    cases h1 : B.str i
    · rw [if_pos rfl]
      exact skip _ (by simp)
    · rw [if_neg (by decide)]
      cases h2 : S i
      · have hcl := (b1 h1).2.2
        rw [if_pos rfl, an_119_14, Bool.false_and, Bool.false_or, ar_119 hM.1, ti_n (show B.cell i < 10 by omega) (by decide), show sw_bz (1 : Int32) = true from by decide, Bool.true_and, gd_T, cl_n (by omega)]
        have hf : Fr (fun a _ => a = 119) M (wr_I M 119 (B.cell i) 1) := (Fr.refl _ M).wI _ _ _ rfl
        obtain ⟨W, w1, w2, w3⟩ := Model_knows_29 N B n hn i j (wr_I M 119 (B.cell i) 1) (fun t => if t = B.cell i then true else S t) (by omega) (by omega) hM (NT_fr hf (fun a k h c => by unfold Cnt at h; omega) hB) (fun t ht => by
          simp only [m_II, m_LL, m_RR, m_IL, m_IR, m_LI, m_LR, m_RI, m_RL, m_NI, m_NL, m_NR, m_okI, m_okL, m_okR, m_okaI, m_okaL, m_okaR, m_arI, m_arL, m_arR, gd_T, bn_S, Nat.reduceEqDiff, Nat.left_eq_add, Nat.add_eq_left, Nat.one_ne_zero, and_false, and_true, false_and, true_and, if_false, if_true]
          by_cases c : t = B.cell i
          · simp [c, bz]
          · simp only [c, if_false]
            exact hS t ht)
        refine ⟨W, w1, hf.trans w2, ?_⟩
        simpa using w3
      · rw [if_neg (by decide)]
        exact skip _ (by simp)
theorem Model_knows_7 (N : Nat) (n : Nat) (hn : n ≤ 10) : ∀ (d i j : Nat) (M : sw_M), i + d = n → d < j → MR M → (∀ t, t < i → rd_I M 119 t = 0) →
    ∃ W, f_Model_knows_7 N j 80 (nI n) (nI i) M = f_Model_knows_29 N N 80 (nI n) (nI n - 1) W ∧ Fr (fun a _ => a = 119) M W ∧ ∀ t, t < n → rd_I W 119 t = 0
  | 0, i, j, M, hi, hj, hM, hS => by
    obtain ⟨j, rfl⟩ : ∃ k, j = k + 1 := ⟨j - 1, by omega⟩
    obtain rfl : i = n := by omega
    refine ⟨M, ?_, Fr.refl _ _, hS⟩
    rw [f_Model_knows_7, if_pos (nI_le (Nat.le_refl _) (by omega))]
  | d + 1, i, j, M, hi, hj, hM, hS => by
    obtain ⟨j, rfl⟩ : ∃ k, j = k + 1 := ⟨j - 1, by omega⟩
    have hf : Fr (fun a _ => a = 119) M (wr_I M 119 i 0) := (Fr.refl _ M).wI _ _ _ rfl
    rw [f_Model_knows_7, if_neg (nI_ge (by omega) (by omega)), ok_80 hM.1, gd_T, mr_82 hM, an_119_14, Bool.false_and, Bool.false_or, ar_119 hM.1, ti_n (show i < 10 by omega) (by decide), show sw_bz (0 : Int32) = true from by decide, Bool.true_and, gd_T, cl_n (by omega), nI_1]
    obtain ⟨W, w1, w2, w3⟩ := Model_knows_7 N n hn d (i + 1) j (wr_I M 119 i 0) (by omega) (by omega) hM (fun t ht => by
      simp only [m_II, m_LL, m_RR, m_IL, m_IR, m_LI, m_LR, m_RI, m_RL, m_NI, m_NL, m_NR, m_okI, m_okL, m_okR, m_okaI, m_okaL, m_okaR, m_arI, m_arL, m_arR, gd_T, bn_S, Nat.reduceEqDiff, Nat.left_eq_add, Nat.add_eq_left, Nat.one_ne_zero, and_false, and_true, false_and, true_and, if_false, if_true]
      by_cases c : t = i
      · simp [c]
      · simp only [c, if_false]
        exact hS t (by omega))
    exact ⟨W, w1, hf.trans w2, w3⟩
theorem bN_congr {f g : Nat → Bool} : ∀ {K : Nat}, (∀ i, i < K → f i = g i) → bN f K = bN g K
  | 0, _ => rfl
  | K + 1, h => by rw [bN, bN, h K (by omega), bN_congr (K := K) (fun i hi => h i (by omega))]
theorem Model_knows (N : Nat) (hN : 300 ≤ N) (M : sw_M) (hM : MR M) (B : NN) (hB : NT M B) (n : Nat) (hn : n ≤ B.m) :
    ∃ W, f_Model_knows N 80 (nI n) M = some W ∧ Fr Akn M W ∧ rd_I W 80 83 = nI (bN (sgt B n) n) := by
  have hm := hB.1
  unfold f_Model_knows
  rw [ok_80 hM.1, gd_T]
  have f0 : Fr Akn M (wr_I M 80 83 0) := (Fr.refl _ M).wI _ _ _ (Or.inr ⟨rfl, rfl⟩)
  obtain ⟨W, w1, w2, w3⟩ := Model_knows_7 N n (by omega) n 0 N (wr_I M 80 83 0) (by omega) (by omega) hM (fun t ht => absurd ht (by omega))
  have w1' : f_Model_knows_7 N N 80 (nI n) 0 (wr_I M 80 83 0) = f_Model_knows_29 N N 80 (nI n) (nI n - 1) W := w1
  have m119 : ∀ a k, (a = 119) → Akn a k := fun a k h => Or.inl h
  obtain ⟨V, v1, v2, v3⟩ := Model_knows_29 N B n hn n N W (fun _ => false) (by omega) (by omega) (w2.mr hM) (NT_fr (f0.trans (w2.mono m119)) CntAkn hB) (fun t ht => by rw [w3 t ht]; rfl)
  have f2 : Fr Akn M V := (f0.trans (w2.mono m119)).trans (v2.mono m119)
  obtain ⟨Z, z1, z2, z3⟩ := Model_knows_71 N B n hn (skF B n (fun _ => false)) n 0 N V (by omega) (by omega) (f2.mr hM) (NT_fr f2 CntAkn hB) v3 (by
    rw [v2.I 80 83 (by omega), w2.I 80 83 (by omega)]
    simp only [m_II, m_LL, m_RR, m_IL, m_IR, m_LI, m_LR, m_RI, m_RL, m_NI, m_NL, m_NR, m_okI, m_okL, m_okR, m_okaI, m_okaL, m_okaR, m_arI, m_arL, m_arR, gd_T, bn_S, Nat.reduceEqDiff, Nat.left_eq_add, Nat.add_eq_left, Nat.one_ne_zero, and_false, and_true, false_and, true_and, if_false, if_true]
    rfl)
  refine ⟨Z, ?_, f2.trans z2, ?_⟩
  · rw [w1', v1]
    exact z1
  · rw [z3]
    congr 1
    apply bN_congr
    intro i hi
    unfold sgt
    simp [hi]
/-- WEIGHTS: the ORBITS that are USED, in their order -/
def upW (W : Nat → Int32) (k : Nat) (v : Int32) : Nat → Int32 := fun i => if i = k then v else W i
def gv (U : Nat → Nat) (W : Nat → Int32) : Nat → Option Nat
  | 0 => none
  | i + 1 => if W (U i) = 0 then gv U W i else some i
def nW (U : Nat → Nat) (nu : Nat) (W : Nat → Int32) : Option (Nat → Int32) := match gv U W (nu - 1) with
  | none => none
  | some g => some (upW (upW (upW W (U (nu - 1)) 0) (U g) (W (U g) - 1)) (U (g + 1)) (W (U (nu - 1)) + 1))
def smW (U : Nat → Nat) (W : Nat → Int32) : Nat → Int
  | 0 => 0
  | i + 1 => smW U W i + (W (U i)).toInt
def hoW (U : Nat → Nat) (W : Nat → Int32) : Nat → Int
  | 0 => 0
  | i + 1 => 11 * hoW U W i + (W (U i)).toInt
def injU (U : Nat → Nat) (nu : Nat) : Prop := ∀ i j, i < nu → j < nu → U i = U j → i = j
/-- WEIGHTS by a number of PORTIONS -/
def WK (U : Nat → Nat) (nu : Nat) (por : Int) (W : Nat → Int32) : Prop := (∀ i, i < nu → 0 ≤ (W (U i)).toInt) ∧ smW U W nu = por
theorem gv_s {U : Nat → Nat} {W : Nat → Int32} : ∀ {i g : Nat}, gv U W i = some g → g < i ∧ ¬ W (U g) = 0 ∧ ∀ t, g < t → t < i → W (U t) = 0
  | 0, g, h => by cases h
  | i + 1, g, h => by
    rw [gv] at h
    by_cases c : W (U i) = 0
    · rw [if_pos c] at h
      obtain ⟨h1, h2, h3⟩ := gv_s h
      refine ⟨by omega, h2, fun t ht1 ht2 => ?_⟩
      by_cases e : t = i
      · rw [e]; exact c
      · exact h3 t ht1 (by omega)
    · rw [if_neg c] at h
      cases h
      exact ⟨by omega, c, fun t h1 h2 => by omega⟩
theorem smW_le {U : Nat → Nat} {W : Nat → Int32} : ∀ {n : Nat}, (∀ i, i < n → 0 ≤ (W (U i)).toInt) → 0 ≤ smW U W n ∧ ∀ i, i < n → (W (U i)).toInt ≤ smW U W n
  | 0, _ => ⟨Int.le_refl _, fun i h => by omega⟩
  | n + 1, h => by
    obtain ⟨h1, h2⟩ := smW_le (n := n) (fun i hi => h i (by omega))
    have h3 := h n (by omega)
    rw [smW]
    refine ⟨by omega, fun i hi => ?_⟩
    by_cases e : i = n
    · rw [e]; omega
    · have := h2 i (by omega)
      omega
theorem smW_2 {U : Nat → Nat} {W : Nat → Int32} : ∀ {n : Nat}, (∀ i, i < n → 0 ≤ (W (U i)).toInt) → ∀ i j, i < j → j < n → (W (U i)).toInt + (W (U j)).toInt ≤ smW U W n
  | 0, _ => fun i j _ h => by omega
  | n + 1, h => fun i j hij hj => by
    have h3 := h n (by omega)
    have h0 := smW_le (n := n) (U := U) (W := W) (fun i hi => h i (by omega))
    rw [smW]
    by_cases e : j = n
    · have := h0.2 i (by omega)
      rw [e]
      omega
    · have := smW_2 (n := n) (fun i hi => h i (by omega)) i j hij (by omega)
      omega
theorem smW_congr {U : Nat → Nat} {W V : Nat → Int32} : ∀ {n : Nat}, (∀ i, i < n → W (U i) = V (U i)) → smW U W n = smW U V n
  | 0, _ => rfl
  | n + 1, h => by rw [smW, smW, h n (by omega), smW_congr (n := n) (fun i hi => h i (by omega))]
theorem smW_z {U : Nat → Nat} {W : Nat → Int32} {g : Nat} : ∀ {d : Nat}, (∀ i, g ≤ i → i < g + d → W (U i) = 0) → smW U W (g + d) = smW U W g
  | 0, _ => rfl
  | d + 1, h => by
    rw [← Nat.add_assoc, smW, h (g + d) (by omega) (by omega), smW_z (d := d) (fun i h1 h2 => h i h1 (by omega))]
    exact Int.add_zero _
theorem hoW_b {U : Nat → Nat} {W : Nat → Int32} : ∀ {n : Nat}, (∀ i, i < n → 0 ≤ (W (U i)).toInt ∧ (W (U i)).toInt ≤ 10) → 0 ≤ hoW U W n ∧ hoW U W n < 11 ^ n
  | 0, _ => ⟨Int.le_refl _, (by decide : (0 : Int) < 11 ^ 0)⟩
  | n + 1, h => by
    obtain ⟨h1, h2⟩ := hoW_b (n := n) (fun i hi => h i (by omega))
    have h3 := h n (by omega)
    rw [hoW, Int.pow_succ]
    omega
theorem hoW_congr {U : Nat → Nat} {W V : Nat → Int32} : ∀ {n : Nat}, (∀ i, i < n → W (U i) = V (U i)) → hoW U W n = hoW U V n
  | 0, _ => rfl
  | n + 1, h => by rw [hoW, hoW, h n (by omega), hoW_congr (n := n) (fun i hi => h i (by omega))]
/-- the next WEIGHTS: they are WEIGHTS, and come down -/
theorem nW_s {U : Nat → Nat} {nu : Nat} (hU : injU U nu) {por : Int} (hp : por ≤ 10) {W V : Nat → Int32} (hW : WK U nu por W) (h : nW U nu W = some V) : WK U nu por V ∧ hoW U V (nu - 1) < hoW U W (nu - 1) := by
  unfold nW at h
  cases hg : gv U W (nu - 1) with
  | none => rw [hg] at h; cases h
  | some g =>
    rw [hg] at h
    obtain ⟨g1, g2, g3⟩ := gv_s hg
    obtain ⟨w1, w2⟩ := hW
    injection h with h
    have hlt : g + 1 < nu := by omega
    have inj : ∀ i j, i < nu → j < nu → ¬ i = j → ¬ U i = U j := fun i j hi hj hn e => hn (hU i j hi hj e)
    have tail := smW_2 w1 g (nu - 1) (by omega) (by omega)
    have gpos : 1 ≤ (W (U g)).toInt := by
      have h0 := w1 g (by omega)
      rcases Int.lt_or_eq_of_le h0 with h | h
      · omega
      · exact absurd (Int32.toInt_inj.mp (show (W (U g)).toInt = (0 : Int32).toInt from by rw [show (0 : Int32).toInt = 0 from by decide]; omega)) g2
    have t0 := w1 (nu - 1) (by omega)
    have e1 : (1 : Int32).toInt = 1 := by decide
    have vg : (W (U g) - 1).toInt = (W (U g)).toInt - 1 := by rw [s32, e1] <;> rw [e1] <;> omega
    have vt : (W (U (nu - 1)) + 1).toInt = (W (U (nu - 1))).toInt + 1 := by rw [a32, e1] <;> rw [e1] <;> omega
    have V1 : ∀ i, i < g → V (U i) = W (U i) := fun i hi => by
      rw [← h]
      unfold upW
      rw [if_neg (inj i (g + 1) (by omega) (by omega) (by omega)), if_neg (inj i g (by omega) (by omega) (by omega)), if_neg (inj i (nu - 1) (by omega) (by omega) (by omega))]
    have V2 : V (U g) = W (U g) - 1 := by
      rw [← h]
      unfold upW
      rw [if_neg (inj g (g + 1) (by omega) (by omega) (by omega)), if_pos rfl]
    have V3 : V (U (g + 1)) = W (U (nu - 1)) + 1 := by
      rw [← h]
      unfold upW
      rw [if_pos rfl]
    have V4 : ∀ i, g + 1 < i → i < nu → V (U i) = 0 := fun i hi1 hi2 => by
      rw [← h]
      unfold upW
      rw [if_neg (inj i (g + 1) (by omega) (by omega) (by omega)), if_neg (inj i g (by omega) (by omega) (by omega))]
      by_cases e : i = nu - 1
      · rw [e, if_pos rfl]
      · rw [if_neg (inj i (nu - 1) (by omega) (by omega) e)]
        exact g3 i (by omega) (by omega)
    have z0 : (0 : Int32).toInt = 0 := by decide
    refine ⟨⟨fun i hi => ?_, ?_⟩, ?_⟩
    · by_cases c1 : i < g
      · rw [V1 i c1]; exact w1 i hi
      · by_cases c2 : i = g
        · rw [c2, V2, vg]; omega
        · by_cases c3 : i = g + 1
          · rw [c3, V3, vt]; omega
          · rw [V4 i (by omega) hi, z0]
            exact Int.le_refl _
    · have sV : smW U V nu = smW U V (g + 2) := by
        have := smW_z (U := U) (W := V) (g := g + 2) (d := nu - (g + 2)) (fun i h1 h2 => V4 i (by omega) (by omega))
        rw [show g + 2 + (nu - (g + 2)) = nu by omega] at this
        exact this
      have sW : smW U W nu = smW U W (g + 1) + (W (U (nu - 1))).toInt := by
        have h5 := smW_z (U := U) (W := W) (g := g + 1) (d := nu - 1 - (g + 1)) (fun i h1 h2 => g3 i (by omega) (by omega))
        rw [show g + 1 + (nu - 1 - (g + 1)) = nu - 1 by omega] at h5
        rw [← h5]
        obtain ⟨k, hk⟩ : ∃ k, nu = k + 1 := ⟨nu - 1, by omega⟩
        rw [hk]
        rfl
      rw [sV, smW, smW, V2, V3, vg, vt, smW_congr V1]
      rw [sW, smW] at w2
      omega
    · have key : ∀ d, g + 1 + d ≤ nu - 1 → hoW U V (g + 1 + d) < hoW U W (g + 1 + d) := by
        intro d
        induction d with
        | zero =>
          intro _
          show hoW U V (g + 1) < hoW U W (g + 1)
          rw [hoW, hoW, V2, vg, hoW_congr V1]
          omega
        | succ d ih =>
          intro hd
          have ih := ih (by omega)
          have wz : W (U (g + 1 + d)) = 0 := g3 (g + 1 + d) (by omega) (by omega)
          rw [← Nat.add_assoc, hoW, hoW, wz, z0]
          have vb : (V (U (g + 1 + d))).toInt ≤ 10 := by
            by_cases c : d = 0
            · rw [c]
              show (V (U (g + 1))).toInt ≤ 10
              rw [V3, vt]
              omega
            · rw [V4 (g + 1 + d) (by omega) (by omega), z0]
              omega
          omega
      have := key (nu - 1 - (g + 1)) (by omega)
      rw [show g + 1 + (nu - 1 - (g + 1)) = nu - 1 by omega] at this
      exact this
