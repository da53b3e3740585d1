/-! 97zh: the reference's rule: an operand -/
def MB (M : sw_M) (T : Nat → Nat) (n b : Nat) : Prop := MTx M T n ∧ b ≤ n ∧ rd_I M 80 26 = nI (pl T n b) ∧ rd_I M 80 25 = nI (nd T n b) ∧ rd_I M 80 27 = msr (kk T n b) ∧ (kk T n b = 2 → rd_I M 80 28 = nI (vm T n b)) ∧ (3 ≤ kk T n b → rd_I M 80 28 = nI (mvl (kk T n b))) ∧ (rd_I M 80 30 = 0 → rd_I M 80 31 = -1)
def MY (M : sw_M) (k : Nat) (o : List (Nat × Nat)) (P : List Nat) : Prop := rd_I M 80 36 = nI k ∧ MP M o P ∧ rd_I M 80 29 = nI (op P) ∧ rd_I M 80 30 = 0
def IV (k : Nat) (o : List (Nat × Nat)) (P : List Nat) : Prop := o.length + nn P = k ∧ k ≤ 48 ∧ op P ≤ 8 ∧ PV P
def FM (W : sw_M) (T : Nat → Nat) (n f p : Nat) : Prop := MTx W T n ∧ rd_I W 80 30 = nI f ∧ rd_I W 80 31 = nI p ∧ 1 ≤ f ∧ f ≤ 3
theorem nf0 {f : Nat} (h1 : 1 ≤ f) (h2 : f ≤ 3) : ¬ nI f = 0 := (show ∀ f, f < 4 → 1 ≤ f → ¬ nI f = 0 by decide +kernel) f (by omega) h1
theorem MY.f80 {M W : sw_M} {k : Nat} {o : List (Nat × Nat)} {P : List Nat} (g : MY M k o P) (h : Fr A80 M W) : MY W k o P := by
  obtain ⟨g1, g2, g3, g4⟩ := g
  exact ⟨(h.I 80 36 (by unfold A80; omega)).trans g1, g2.fr h (by unfold A80; omega) (by unfold A80; omega) (fun k => by unfold A80; omega) (fun k => by unfold A80; omega) (fun k => by unfold A80; omega), (h.I 80 29 (by unfold A80; omega)).trans g3, (h.I 80 30 (by unfold A80; omega)).trans g4⟩
theorem MB.nx {M : sw_M} {T : Nat → Nat} {n b : Nat} (g : MB M T n b) (N : Nat) (hN : 1000 ≤ N) : ∃ W, f_Model_next N 80 M = some W ∧ Fr A80 M W ∧ MB W T n (nd T n b) := by
  have nb := (nd_b T n b g.1.2.1 g.2.1).1
  obtain ⟨W, w1, w2, w3⟩ := Model_next N hN T n (nd T n b) M g.1 nb g.2.2.2.1
  exact ⟨W, w1, w2, g.1.f80 w2, nb, w3.1, w3.2.1, w3.2.2.1, w3.2.2.2.1, w3.2.2.2.2, fun h => (w2.I 80 31 (by unfold A80; omega)).trans (g.2.2.2.2.2.2.2 ((w2.I 80 30 (by unfold A80; omega)).symm.trans h))⟩
theorem MB.fr0 {A : Nat → Nat → Prop} {M W : sw_M} {T : Nat → Nat} {n b : Nat} (g : MB M T n b) (h : Fr A M W) (h1 : ∀ k, 24 ≤ k → k ≤ 28 → ¬ A 80 k) (h2 : ∀ k, ¬ A 92 k) (h3 : rd_I W 80 30 = 0 → rd_I W 80 31 = -1) : MB W T n b := by
  obtain ⟨g1, g2, a1, a2, a3, a4, a5, a6⟩ := g
  have i : ∀ k, 24 ≤ k → k ≤ 28 → rd_I W 80 k = rd_I M 80 k := fun k k1 k2 => h.I 80 k (h1 k k1 k2)
  exact ⟨g1.fr h (h1 24 (by omega) (by omega)) h2, g2, (i 26 (by omega) (by omega)).trans a1, (i 25 (by omega) (by omega)).trans a2, (i 27 (by omega) (by omega)).trans a3, fun c => (i 28 (by omega) (by omega)).trans (a4 c), fun c => (i 28 (by omega) (by omega)).trans (a5 c), h3⟩
theorem MB.fr {A : Nat → Nat → Prop} {M W : sw_M} {T : Nat → Nat} {n b : Nat} (g : MB M T n b) (h : Fr A M W) (h1 : ∀ k, 24 ≤ k → (k ≤ 28 ∨ k = 30 ∨ k = 31) → ¬ A 80 k) (h2 : ∀ k, ¬ A 92 k) : MB W T n b :=
  g.fr0 h (fun k k1 k2 => h1 k k1 (Or.inl k2)) h2 (fun e => (h.I 80 31 (h1 31 (by omega) (by omega))).trans (g.2.2.2.2.2.2.2 ((h.I 80 30 (h1 30 (by omega) (by omega))).symm.trans e)))
theorem mwrong (N : Nat) {M : sw_M} {T : Nat → Nat} {n b : Nat} (g : MB M T n b) (h30 : rd_I M 80 30 = 0) (f : Nat) (f1 : 1 ≤ f) (f2 : f ≤ 3) : ∃ W, f_Model_wrong N 80 (nI f) M = some W ∧ Fr (fun a k => a = 80 ∧ (k = 30 ∨ k = 31)) M W ∧ FM W T n f (pl T n b) ∧ MB W T n b := by
  have hM := g.1.1
  have f1' : Fr (fun a k => a = 80 ∧ (k = 30 ∨ k = 31)) M (wr_I (wr_I M 80 30 (nI f)) 80 31 (rd_I M 80 26)) := ((Fr.refl _ M).wI _ _ _ (by omega)).wI _ _ _ (by omega)
  have e30 : rd_I (wr_I (wr_I M 80 30 (nI f)) 80 31 (rd_I M 80 26)) 80 30 = nI f := by simp only [m_II, m_LL, m_RR, m_IL, m_IR, m_LI, m_LR, m_RI, m_RL, m_NI, m_NL, m_NR, m_okI, m_okL, m_okR, m_okaI, m_okaL, m_okaR, m_arI, m_arL, m_arR, gd_T, bn_S, Nat.reduceEqDiff, Nat.left_eq_add, Nat.add_eq_left, Nat.one_ne_zero, and_false, and_true, false_and, true_and, if_false, if_true]
  have g' := g.fr0 f1' (fun k h1 h2 => by omega) (fun k => by omega) (fun e => absurd (e30.symm.trans e) (nf0 f1 f2))
  refine ⟨_, ?_, f1', ⟨g'.1, ?_, ?_, f1, f2⟩, g'⟩
  · unfold f_Model_wrong
    have : rd_I (wr_I M 80 30 (nI f)) 80 26 = rd_I M 80 26 := by simp only [m_II, m_LL, m_RR, m_IL, m_IR, m_LI, m_LR, m_RI, m_RL, m_NI, m_NL, m_NR, m_okI, m_okL, m_okR, m_okaI, m_okaL, m_okaR, m_arI, m_arL, m_arR, gd_T, bn_S, Nat.reduceEqDiff, Nat.left_eq_add, Nat.add_eq_left, Nat.one_ne_zero, and_false, and_true, false_and, true_and, if_false, if_true]
    rw [ok_80 hM.1, gd_T, h30, if_pos rfl, this]
  · simp only [m_II, m_LL, m_RR, m_IL, m_IR, m_LI, m_LR, m_RI, m_RL, m_NI, m_NL, m_NR, m_okI, m_okL, m_okR, m_okaI, m_okaL, m_okaR, m_arI, m_arL, m_arR, gd_T, bn_S, Nat.reduceEqDiff, Nat.left_eq_add, Nat.add_eq_left, Nat.one_ne_zero, and_false, and_true, false_and, true_and, if_false, if_true]
  · simp only [m_II, m_LL, m_RR, m_IL, m_IR, m_LI, m_LR, m_RI, m_RL, m_NI, m_NL, m_NR, m_okI, m_okL, m_okR, m_okaI, m_okaL, m_okaR, m_arI, m_arL, m_arR, gd_T, bn_S, Nat.reduceEqDiff, Nat.left_eq_add, Nat.add_eq_left, Nat.one_ne_zero, and_false, and_true, false_and, true_and, if_false, if_true]; exact g.2.2.1
theorem f31_AM {M W : sw_M} (h : Fr (fun a k => a = 80 ∧ (k = 30 ∨ k = 31)) M W) : Fr AM M W := h.mono (fun a k h => by unfold AM; omega)
theorem mknot (N : Nat) {M : sw_M} {T : Nat → Nat} {n b k : Nat} {o : List (Nat × Nat)} {P : List Nat} (g : MB M T n b) (y : MY M k o P) (hk : k ≤ 48) :
    (k < 48 ∧ ∃ W, f_Model_knot N 80 M = some W ∧ Fr AM M W ∧ MB W T n b ∧ MY W (k + 1) o P) ∨ (k = 48 ∧ ∃ W, f_Model_knot N 80 M = some W ∧ Fr AM M W ∧ FM W T n 2 (pl T n b)) := by
  have hM := g.1.1
  obtain ⟨y1, y2, y3, y4⟩ := y
  unfold f_Model_knot
  rw [ok_80 hM.1, gd_T, y1]
  rcases Nat.lt_or_ge k 48 with c | c
  · left
    have f1 : Fr (fun a k => a = 80 ∧ k = 36) M (wr_I M 80 36 (nI (k + 1))) := (Fr.refl _ M).wI _ _ _ (by omega)
    refine ⟨c, _, by rw [if_neg (show ¬ nI k = (48 : Int32) from fun h => by have h2 : k = 48 := (nI_eq (by omega) (by decide)).1 (h : nI _ = nI 48); omega), nI_1], f1.mono (fun a k h => by unfold AM; omega), g.fr f1 (fun k h1 h2 => by omega) (fun k => by omega), ?_, y2.fr f1 (by omega) (by omega) (fun k => by omega) (fun k => by omega) (fun k => by omega), ?_, ?_⟩
    · simp only [m_II, m_LL, m_RR, m_IL, m_IR, m_LI, m_LR, m_RI, m_RL, m_NI, m_NL, m_NR, m_okI, m_okL, m_okR, m_okaI, m_okaL, m_okaR, m_arI, m_arL, m_arR, gd_T, bn_S, Nat.reduceEqDiff, Nat.left_eq_add, Nat.add_eq_left, Nat.one_ne_zero, and_false, and_true, false_and, true_and, if_false, if_true]
    · simp only [m_II, m_LL, m_RR, m_IL, m_IR, m_LI, m_LR, m_RI, m_RL, m_NI, m_NL, m_NR, m_okI, m_okL, m_okR, m_okaI, m_okaL, m_okaR, m_arI, m_arL, m_arR, gd_T, bn_S, Nat.reduceEqDiff, Nat.left_eq_add, Nat.add_eq_left, Nat.one_ne_zero, and_false, and_true, false_and, true_and, if_false, if_true]; exact y3
    · simp only [m_II, m_LL, m_RR, m_IL, m_IR, m_LI, m_LR, m_RI, m_RL, m_NI, m_NL, m_NR, m_okI, m_okL, m_okR, m_okaI, m_okaL, m_okaR, m_arI, m_arL, m_arR, gd_T, bn_S, Nat.reduceEqDiff, Nat.left_eq_add, Nat.add_eq_left, Nat.one_ne_zero, and_false, and_true, false_and, true_and, if_false, if_true]; exact y4
  · right
    obtain rfl : k = 48 := by omega
    obtain ⟨W, w1, w2, w3, w4⟩ := mwrong N g y4 2 (by omega) (by omega)
    refine ⟨rfl, W, ?_, f31_AM w2, w3⟩
    rw [if_pos (by rfl), show (2 : Int32) = nI 2 from rfl, w1, bn_S]
theorem mwaits (N : Nat) (hN : 1000 ≤ N) {M : sw_M} {T : Nat → Nat} {n b : Nat} {o : List (Nat × Nat)} {P : List Nat} (g : MB M T n b) (y : MP M o P) (hP : P.length < 64) (v : Nat) :
    ∃ W, f_Model_waits N 80 (nI v) M = some W ∧ Fr (fun a k => A80 a k ∨ (a = 80 ∧ k = 35) ∨ a = 93) M W ∧ MB W T n (nd T n b) ∧ MP W o (v :: P) := by
  have hM := g.1.1
  obtain ⟨y1, y2, y3, y4⟩ := y
  have f1 : Fr (fun a k => (a = 80 ∧ k = 35) ∨ a = 93) M (wr_I (wr_I M 93 P.length (nI v)) 80 35 (nI (P.length + 1))) := ((Fr.refl _ M).wI _ _ _ (by omega)).wI _ _ _ (by omega)
  have g1 := g.fr f1 (fun k h1 h2 => by omega) (fun k => by omega)
  have m1 : MP (wr_I (wr_I M 93 P.length (nI v)) 80 35 (nI (P.length + 1))) o (v :: P) := by
    refine ⟨?_, OM_w (m := o.length) (fun a k ha _ _ => ?_) (Nat.le_refl _) y2, ?_, ?_, PM_w (m := P.length) (fun k hk => ?_) (Nat.le_refl _) y4⟩
    · simp only [m_II, m_LL, m_RR, m_IL, m_IR, m_LI, m_LR, m_RI, m_RL, m_NI, m_NL, m_NR, m_okI, m_okL, m_okR, m_okaI, m_okaL, m_okaR, m_arI, m_arL, m_arR, gd_T, bn_S, Nat.reduceEqDiff, Nat.left_eq_add, Nat.add_eq_left, Nat.one_ne_zero, and_false, and_true, false_and, true_and, if_false, if_true]; exact y1
    · rcases ha with rfl | rfl <;> simp only [m_II, m_LL, m_RR, m_IL, m_IR, m_LI, m_LR, m_RI, m_RL, m_NI, m_NL, m_NR, m_okI, m_okL, m_okR, m_okaI, m_okaL, m_okaR, m_arI, m_arL, m_arR, gd_T, bn_S, Nat.reduceEqDiff, Nat.left_eq_add, Nat.add_eq_left, Nat.one_ne_zero, and_false, and_true, false_and, true_and, if_false, if_true]
    · rw [List.length_cons]; simp only [m_II, m_LL, m_RR, m_IL, m_IR, m_LI, m_LR, m_RI, m_RL, m_NI, m_NL, m_NR, m_okI, m_okL, m_okR, m_okaI, m_okaL, m_okaR, m_arI, m_arL, m_arR, gd_T, bn_S, Nat.reduceEqDiff, Nat.left_eq_add, Nat.add_eq_left, Nat.one_ne_zero, and_false, and_true, false_and, true_and, if_false, if_true]
    · simp only [m_II, m_LL, m_RR, m_IL, m_IR, m_LI, m_LR, m_RI, m_RL, m_NI, m_NL, m_NR, m_okI, m_okL, m_okR, m_okaI, m_okaL, m_okaR, m_arI, m_arL, m_arR, gd_T, bn_S, Nat.reduceEqDiff, Nat.left_eq_add, Nat.add_eq_left, Nat.one_ne_zero, and_false, and_true, false_and, true_and, if_false, if_true]
    · have : ¬ k = P.length := by omega
      simp [m_II, m_LL, m_RR, m_IL, m_IR, m_LI, m_LR, m_RI, m_RL, m_NI, m_NL, m_NR, m_okI, m_okL, m_okR, m_okaI, m_okaL, m_okaR, m_arI, m_arL, m_arR, gd_T, bn_S, Nat.reduceEqDiff, Nat.left_eq_add, Nat.add_eq_left, Nat.one_ne_zero, and_false, and_true, false_and, true_and, if_false, if_true, this]
  obtain ⟨W, w1, w2, w3⟩ := g1.nx N hN
  refine ⟨W, ?_, (f1.mono (fun a k h => Or.inr h)).trans (w2.mono (fun a k h => Or.inl h)), w3, m1.fr w2 (by unfold A80; omega) (by unfold A80; omega) (fun k => by unfold A80; omega) (fun k => by unfold A80; omega) (fun k => by unfold A80; omega)⟩
  unfold f_Model_waits
  have e1 : rd_I (wr_I M 93 P.length (nI v)) 80 35 = nI P.length := by simp only [m_II, m_LL, m_RR, m_IL, m_IR, m_LI, m_LR, m_RI, m_RL, m_NI, m_NL, m_NR, m_okI, m_okL, m_okR, m_okaI, m_okaL, m_okaR, m_arI, m_arL, m_arR, gd_T, bn_S, Nat.reduceEqDiff, Nat.left_eq_add, Nat.add_eq_left, Nat.one_ne_zero, and_false, and_true, false_and, true_and, if_false, if_true]; exact y3
  rw [ok_80 hM.1, gd_T, mr_34 hM, y3, ar_93 hM.1, ti_n hP (by decide), gd_T, cl_n (show P.length < 2 ^ 31 by omega), e1, nI_1, w1, bn_S]
theorem misSign (N : Nat) {M : sw_M} {T : Nat → Nat} {n b : Nat} (g : MB M T n b) (v t : Nat) (hv : v < 300) (ht : 3 ≤ t) (hd : ∀ c, c < 35 → 3 ≤ c → ((msr c = 2 ∧ mvl c = v) ↔ c = t)) : f_Model_isSign N 80 (nI v) M = some (bz (decide (kk T n b = t)), M) := by
  have hM := g.1.1
  have kc := kk_c T n b
  unfold f_Model_isSign
  rw [ok_80 hM.1, gd_T, g.2.2.2.2.1]
  by_cases c3 : 3 ≤ kk T n b
  · have h28 := g.2.2.2.2.2.2.1 c3
    have h := hd _ kc c3
    have m3 := (show ∀ c, c < 35 → mvl c < 300 by decide +kernel) _ kc
    rw [h28]
    by_cases c : kk T n b = t
    · have h2 := h.2 c
      rw [if_pos h2.1, if_pos (by rw [h2.2]), decide_eq_true c]
      rfl
    · rw [decide_eq_false c]
      by_cases c2 : msr (kk T n b) = 2
      · rw [if_pos c2, if_neg (fun e => c (h.1 ⟨c2, (nI_eq (by omega) (by omega)).1 e⟩))]
        rfl
      · rw [if_neg c2]
        rfl
  · rw [decide_eq_false (show ¬ kk T n b = t by omega), if_neg ((show ∀ c, c < 3 → ¬ msr c = 2 by decide +kernel) _ (by omega))]
    rfl
theorem op205 (N : Nat) {M : sw_M} {T : Nat → Nat} {n b : Nat} (g : MB M T n b) (h30 : rd_I M 80 30 = 0) : ∃ W, f_Model_operand_205 N 80 M = some (0, W) ∧ Fr AM M W ∧ FM W T n 1 (pl T n b) := by
  obtain ⟨W, w1, w2, w3, w4⟩ := mwrong N g h30 1 (by omega) (by omega)
  refine ⟨W, ?_, f31_AM w2, w3⟩
  unfold f_Model_operand_205
  rw [ok_80 g.1.1.1, gd_T, show (1 : Int32) = nI 1 from rfl, w1, bn_S]
/-- what one step of the reading does, on the reference's side -/
def STo (T : Nat → Nat) (n b k : Nat) (o : List (Nat × Nat)) (P : List Nat) (M : sw_M) (x : Option (Int32 × sw_M)) : Prop :=
  (∃ W t b' k' o' P', x = some (bz t, W) ∧ Fr AM M W ∧ MB W T n b' ∧ MY W k' o' P' ∧ IV k' o' P' ∧ ∀ j, sy T n (j + 1) false b k o P = sy T n j t b' k' o' P') ∨ (∃ W f p, x = some (0, W) ∧ Fr AM M W ∧ FM W T n f p ∧ ∀ j, sy T n (j + 1) false b k o P = some (Sum.inl (f, p)))
theorem op33_f (N : Nat) {M : sw_M} {T : Nat → Nat} {n f p : Nat} (g : FM M T n f p) : f_Model_operand_33 N 80 M = some (0, M) := by
  unfold f_Model_operand_33
  rw [ok_80 g.1.1.1, gd_T, g.2.1, if_neg (nf0 g.2.2.2.1 g.2.2.2.2)]
theorem mo_num (N : Nat) (hN : 1000 ≤ N) {M : sw_M} {T : Nat → Nat} {n b k : Nat} {o : List (Nat × Nat)} {P : List Nat} (g : MB M T n b) (y : MY M k o P) (iv : IV k o P) (c : kk T n b = 2) : STo T n b k o P M (f_Model_operand N 80 M) := by
  have hM := g.1.1
  have h27 := g.2.2.2.2.1
  have h28 := g.2.2.2.2.2.1 c
  have vv := vhm T n b g.2.1
  obtain ⟨i1, i2, i3, i4⟩ := iv
  unfold f_Model_operand
  rw [ok_80 hM.1, gd_T, h27, if_pos (by rw [c]; rfl), h28]
  by_cases v9 : vm T n b ≤ 99999
  · rw [if_pos (show nI (vm T n b) ≤ (99999 : Int32) from (nI_le v9 (by omega) : nI _ ≤ nI 99999))]
    unfold f_Model_operand_22
    rw [ok_80 hM.1, gd_T, y.2.2.2, if_pos rfl]
    rcases mknot N g y i2 with ⟨k1, V, v1, v2, v3, v4⟩ | ⟨k1, V, v1, v2, v3⟩
    · rw [v1, bn_S]
      left
      have w28 := v3.2.2.2.2.2.1 c
      obtain ⟨X, x1, x2, x3⟩ := mout N v3.1.1 v4.2.1 (show o.length < 48 by omega) (0, vm T n b)
      have gX := v3.fr x2 (fun k h1 h2 => by omega) (fun k => by omega)
      have yX : MY X (k + 1) ((0, vm T n b) :: o) P := ⟨(x2.I 80 36 (by omega)).trans v4.1, x3, (x2.I 80 29 (by omega)).trans v4.2.2.1, (x2.I 80 30 (by omega)).trans v4.2.2.2⟩
      obtain ⟨W, w1, w2, w3⟩ := gX.nx N hN
      refine ⟨W, true, nd T n b, k + 1, (0, vm T n b) :: o, P, ?_, (v2.trans (x2.mono (fun a k h => by unfold AM; omega))).trans (A80_AM w2), w3, yX.f80 w2, ⟨by rw [List.length_cons]; omega, by omega, i3, i4⟩, fun j => ?_⟩
      · unfold f_Model_operand_33
        rw [ok_80 v3.1.1.1, gd_T, v4.2.2.2, if_pos rfl, w28]
        show (f_Model_out N 80 (nI 0) (nI (vm T n b)) V).bind _ = _
        have x1' : f_Model_out N 80 (nI 0) (nI (vm T n b)) V = some X := x1
        rw [x1', bn_S, ok_80 gX.1.1.1, gd_T, w1, bn_S]
        rfl
      · rw [sy, if_pos c, if_neg (by omega), if_neg (by omega)]
    · rw [v1, bn_S, op33_f N v3]
      exact Or.inr ⟨V, 2, pl T n b, rfl, v2, v3, fun j => by rw [sy, if_pos c, if_neg (by omega), if_pos k1]⟩
  · rw [if_neg (show ¬ nI (vm T n b) ≤ (99999 : Int32) from (nI_ge (by omega) (by omega) : ¬ nI _ ≤ nI 99999))]
    obtain ⟨W, w1, w2, w3, w4⟩ := mwrong N g y.2.2.2 2 (by omega) (by omega)
    rw [show (2 : Int32) = nI 2 from rfl, w1, bn_S]
    unfold f_Model_operand_22
    rw [ok_80 w4.1.1.1, gd_T, w3.2.1, if_neg (nf0 (by omega) (by omega)), op33_f N w3]
    exact Or.inr ⟨W, 2, pl T n b, rfl, f31_AM w2, w3, fun j => by rw [sy, if_pos c, if_pos (by omega)]⟩
theorem mo_nam (N : Nat) (hN : 1000 ≤ N) {M : sw_M} {T : Nat → Nat} {n b k : Nat} {o : List (Nat × Nat)} {P : List Nat} (g : MB M T n b) (y : MY M k o P) (iv : IV k o P) (c : 29 ≤ kk T n b) : STo T n b k o P M (f_Model_operand N 80 M) := by
  have hM := g.1.1
  have kc := kk_c T n b
  have h27 := g.2.2.2.2.1
  have h28 := g.2.2.2.2.2.2.1 (by omega)
  have ms := (show ∀ c, c < 35 → 29 ≤ c → msr c = 0 ∧ mvl c = 9 + (c - 29) by decide +kernel) _ kc c
  obtain ⟨i1, i2, i3, i4⟩ := iv
  unfold f_Model_operand
  rw [ok_80 hM.1, gd_T, h27, ms.1, if_neg (by decide), if_pos rfl, h28, ms.2, if_neg (show ¬ nI (9 + (kk T n b - 29)) < (9 : Int32) from (nI_nlt (by omega) (by omega) : ¬ nI _ < nI 9))]
  rcases mknot N g y i2 with ⟨k1, V, v1, v2, v3, v4⟩ | ⟨k1, V, v1, v2, v3⟩
  · rw [v1, bn_S]
    left
    have w28 := v3.2.2.2.2.2.2.1 (by omega)
    rw [ms.2] at w28
    obtain ⟨X, x1, x2, x3⟩ := mout N v3.1.1 v4.2.1 (show o.length < 48 by omega) (1, kk T n b - 29)
    have gX := v3.fr x2 (fun k h1 h2 => by omega) (fun k => by omega)
    have yX : MY X (k + 1) ((1, kk T n b - 29) :: o) P := ⟨(x2.I 80 36 (by omega)).trans v4.1, x3, (x2.I 80 29 (by omega)).trans v4.2.2.1, (x2.I 80 30 (by omega)).trans v4.2.2.2⟩
    obtain ⟨W, w1, w2, w3⟩ := gX.nx N hN
    refine ⟨W, true, nd T n b, k + 1, (1, kk T n b - 29) :: o, P, ?_, (v2.trans (x2.mono (fun a k h => by unfold AM; omega))).trans (A80_AM w2), w3, yX.f80 w2, ⟨by rw [List.length_cons]; omega, by omega, i3, i4⟩, fun j => ?_⟩
    · rw [ok_80 v3.1.1.1, gd_T, v4.2.2.2, if_pos rfl, w28]
      have es : nI (9 + (kk T n b - 29)) - 9 = nI (kk T n b - 29) := (nI_sub _ 9 (by omega)).trans (by rw [Nat.add_sub_cancel_left])
      rw [es]
      show (f_Model_out N 80 (nI 1) (nI (kk T n b - 29)) V).bind _ = _
      have x1' : f_Model_out N 80 (nI 1) (nI (kk T n b - 29)) V = some X := x1
      rw [x1', bn_S, ok_80 gX.1.1.1, gd_T, w1, bn_S]
      rfl
    · rw [sy, if_neg (by omega), if_pos c, if_neg (by omega)]
  · rw [v1, bn_S, ok_80 v3.1.1.1, gd_T, v3.2.1, if_neg (nf0 (by omega) (by omega))]
    exact Or.inr ⟨V, 2, pl T n b, rfl, v2, v3, fun j => by rw [sy, if_neg (by omega), if_pos c, if_pos k1]⟩
