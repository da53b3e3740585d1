/-! 97zg: the reference's rule, its pieces -/
theorem mbind (N v : Nat) (hv : v < 300) (M : sw_M) : f_Model_bind N (nI v) M = some (nI (bq v), M) := by
  have ne : ∀ m, m < 300 → ¬ v = m → ¬ nI v = nI m := fun m hm h e => h ((nI_eq (by omega) (by omega)).1 e)
  by_cases q42 : v = 42
  · subst q42; rfl
  by_cases q43 : v = 43
  · subst q43; rfl
  by_cases q45 : v = 45
  · subst q45; rfl
  by_cases q47 : v = 47
  · subst q47; rfl
  by_cases q60 : v = 60
  · subst q60; rfl
  by_cases q61 : v = 61
  · subst q61; rfl
  by_cases q62 : v = 62
  · subst q62; rfl
  by_cases q256 : v = 256
  · subst q256; rfl
  by_cases q257 : v = 257
  · subst q257; rfl
  by_cases q258 : v = 258
  · subst q258; rfl
  by_cases q260 : v = 260
  · subst q260; rfl
  by_cases q261 : v = 261
  · subst q261; rfl
  by_cases q262 : v = 262
  · subst q262; rfl
  unfold f_Model_bind bq
  rw [if_neg (show ¬ nI v = (42 : Int32) from ne 42 (by decide) q42), if_neg (show ¬ nI v = (43 : Int32) from ne 43 (by decide) q43), if_neg (show ¬ nI v = (45 : Int32) from ne 45 (by decide) q45), if_neg (show ¬ nI v = (47 : Int32) from ne 47 (by decide) q47), if_neg (show ¬ nI v = (60 : Int32) from ne 60 (by decide) q60), if_neg (show ¬ nI v = (61 : Int32) from ne 61 (by decide) q61), if_neg (show ¬ nI v = (62 : Int32) from ne 62 (by decide) q62), if_neg (show ¬ nI v = (256 : Int32) from ne 256 (by decide) q256), if_neg (show ¬ nI v = (257 : Int32) from ne 257 (by decide) q257), if_neg (show ¬ nI v = (258 : Int32) from ne 258 (by decide) q258), if_neg (show ¬ nI v = (260 : Int32) from ne 260 (by decide) q260), if_neg (show ¬ nI v = (261 : Int32) from ne 261 (by decide) q261), if_neg (show ¬ nI v = (262 : Int32) from ne 262 (by decide) q262), if_neg q42, if_neg q43, if_neg q45, if_neg q47, if_neg q60, if_neg q61, if_neg q62, if_neg q256, if_neg q257, if_neg q258, if_neg q260, if_neg q261, if_neg q262]
  rfl
def OM (M : sw_M) : List (Nat × Nat) → Prop
  | [] => True
  | e :: o => rd_I M 90 (48 + o.length) = nI e.1 ∧ rd_I M 91 (48 + o.length) = nI e.2 ∧ OM M o
def PM (M : sw_M) : List Nat → Prop
  | [] => True
  | v :: P => rd_I M 93 P.length = nI v ∧ PM M P
def MP (M : sw_M) (o : List (Nat × Nat)) (P : List Nat) : Prop := rd_I M 80 19 = nI o.length ∧ OM M o ∧ rd_I M 80 35 = nI P.length ∧ PM M P
def AO (a k : Nat) : Prop := (a = 80 ∧ (k = 19 ∨ k = 35)) ∨ ((a = 90 ∨ a = 91) ∧ 48 ≤ k)
def AM (a k : Nat) : Prop := (a = 80 ∧ (k = 19 ∨ (25 ≤ k ∧ k ≤ 31) ∨ k = 35 ∨ k = 36)) ∨ ((a = 90 ∨ a = 91) ∧ 48 ≤ k) ∨ a = 93
theorem AO_AM {M W : sw_M} (h : Fr AO M W) : Fr AM M W := h.mono (fun a k h => by unfold AO at h; unfold AM; omega)
theorem A80_AM {M W : sw_M} (h : Fr A80 M W) : Fr AM M W := h.mono (fun a k h => by unfold A80 at h; unfold AM; omega)
theorem OM_w {M W : sw_M} {m : Nat} (h : ∀ a k, (a = 90 ∨ a = 91) → 48 ≤ k → k < 48 + m → rd_I W a k = rd_I M a k) : ∀ {o : List (Nat × Nat)}, o.length ≤ m → OM M o → OM W o
  | [], _, _ => trivial
  | e :: o, hl, g => by
    rw [List.length_cons] at hl
    obtain ⟨g1, g2, g3⟩ := g
    exact ⟨by rw [h _ _ (Or.inl rfl) (by omega) (by omega)]; exact g1, by rw [h _ _ (Or.inr rfl) (by omega) (by omega)]; exact g2, OM_w h (by omega) g3⟩
theorem PM_w {M W : sw_M} {m : Nat} (h : ∀ k, k < m → rd_I W 93 k = rd_I M 93 k) : ∀ {P : List Nat}, P.length ≤ m → PM M P → PM W P
  | [], _, _ => trivial
  | v :: P, hl, g => by
    rw [List.length_cons] at hl
    obtain ⟨g1, g3⟩ := g
    exact ⟨by rw [h _ (by omega)]; exact g1, PM_w h (by omega) g3⟩
theorem MP.fr {A : Nat → Nat → Prop} {M W : sw_M} {o : List (Nat × Nat)} {P : List Nat} (g : MP M o P) (h : Fr A M W) (h1 : ¬ A 80 19) (h2 : ¬ A 80 35) (h3 : ∀ k, ¬ A 90 k) (h4 : ∀ k, ¬ A 91 k) (h5 : ∀ k, ¬ A 93 k) : MP W o P := by
  obtain ⟨g1, g2, g3, g4⟩ := g
  refine ⟨(h.I _ _ h1).trans g1, OM_w (m := o.length) (fun a k ha _ _ => ?_) (Nat.le_refl _) g2, (h.I _ _ h2).trans g3, PM_w (m := P.length) (fun k _ => h.I _ _ (h5 k)) (Nat.le_refl _) g4⟩
  rcases ha with rfl | rfl
  · exact h.I _ _ (h3 k)
  · exact h.I _ _ (h4 k)
theorem mout (N : Nat) {M : sw_M} (hM : MR M) {o : List (Nat × Nat)} {P : List Nat} (g : MP M o P) (ho : o.length < 48) (e : Nat × Nat) : ∃ W, f_Model_out N 80 (nI e.1) (nI e.2) M = some W ∧ Fr (fun a k => (a = 80 ∧ k = 19) ∨ ((a = 90 ∨ a = 91) ∧ 48 ≤ k)) M W ∧ MP W (e :: o) P := by
  obtain ⟨g1, g2, g3, g4⟩ := g
  have e48 : (48 : Int32) + nI o.length = nI (48 + o.length) := nI_add 48 _
  refine ⟨wr_I (wr_I (wr_I M 90 (48 + o.length) (nI e.1)) 91 (48 + o.length) (nI e.2)) 80 19 (nI (o.length + 1)), ?_, (((Fr.refl _ M).wI _ _ _ (by omega)).wI _ _ _ (by omega)).wI _ _ _ (by omega), ?_, ⟨?_, ?_, ?_⟩, ?_, ?_⟩
  · unfold f_Model_out
    simp only [m_II, m_LL, m_RR, m_IL, m_IR, m_LI, m_LR, m_RI, m_RL, m_NI, m_NL, m_NR, m_okI, m_okL, m_okR, m_okaI, m_okaL, m_okaR, m_arI, m_arL, m_arR, gd_T, bn_S, Nat.reduceEqDiff, Nat.left_eq_add, Nat.add_eq_left, Nat.one_ne_zero, and_false, and_true, false_and, true_and, if_false, if_true, ok_80 hM.1, gd_T, mr_16 hM, mr_17 hM, ar_90 hM.1, ar_91 hM.1, g1, e48, ti_n (show 48 + o.length < 96 by omega) (by decide), cl_n (show 48 + o.length < 2 ^ 31 by omega), nI_1]
  · rw [List.length_cons]; simp only [m_II, m_LL, m_RR, m_IL, m_IR, m_LI, m_LR, m_RI, m_RL, m_NI, m_NL, m_NR, m_okI, m_okL, m_okR, m_okaI, m_okaL, m_okaR, m_arI, m_arL, m_arR, gd_T, bn_S, Nat.reduceEqDiff, Nat.left_eq_add, Nat.add_eq_left, Nat.one_ne_zero, and_false, and_true, false_and, true_and, if_false, if_true]
  · simp only [m_II, m_LL, m_RR, m_IL, m_IR, m_LI, m_LR, m_RI, m_RL, m_NI, m_NL, m_NR, m_okI, m_okL, m_okR, m_okaI, m_okaL, m_okaR, m_arI, m_arL, m_arR, gd_T, bn_S, Nat.reduceEqDiff, Nat.left_eq_add, Nat.add_eq_left, Nat.one_ne_zero, and_false, and_true, false_and, true_and, if_false, if_true]
  · simp only [m_II, m_LL, m_RR, m_IL, m_IR, m_LI, m_LR, m_RI, m_RL, m_NI, m_NL, m_NR, m_okI, m_okL, m_okR, m_okaI, m_okaL, m_okaR, m_arI, m_arL, m_arR, gd_T, bn_S, Nat.reduceEqDiff, Nat.left_eq_add, Nat.add_eq_left, Nat.one_ne_zero, and_false, and_true, false_and, true_and, if_false, if_true]
  · refine OM_w (m := o.length) (fun a k ha h1 h2 => ?_) (Nat.le_refl _) g2
    have hk : ¬ k = 48 + o.length := by omega
    rcases ha with rfl | rfl <;> simp [m_II, m_LL, m_RR, m_IL, m_IR, m_LI, m_LR, m_RI, m_RL, m_NI, m_NL, m_NR, m_okI, m_okL, m_okR, m_okaI, m_okaL, m_okaR, m_arI, m_arL, m_arR, gd_T, bn_S, Nat.reduceEqDiff, Nat.left_eq_add, Nat.add_eq_left, Nat.one_ne_zero, and_false, and_true, false_and, true_and, if_false, if_true, hk]
  · simp only [m_II, m_LL, m_RR, m_IL, m_IR, m_LI, m_LR, m_RI, m_RL, m_NI, m_NL, m_NR, m_okI, m_okL, m_okR, m_okaI, m_okaL, m_okaR, m_arI, m_arL, m_arR, gd_T, bn_S, Nat.reduceEqDiff, Nat.left_eq_add, Nat.add_eq_left, Nat.one_ne_zero, and_false, and_true, false_and, true_and, if_false, if_true]; exact g3
  · exact PM_w (m := P.length) (fun k _ => by simp only [m_II, m_LL, m_RR, m_IL, m_IR, m_LI, m_LR, m_RI, m_RL, m_NI, m_NL, m_NR, m_okI, m_okL, m_okR, m_okaI, m_okaL, m_okaR, m_arI, m_arL, m_arR, gd_T, bn_S, Nat.reduceEqDiff, Nat.left_eq_add, Nat.add_eq_left, Nat.one_ne_zero, and_false, and_true, false_and, true_and, if_false, if_true]) (Nat.le_refl _) g4
def PV : List Nat → Prop
  | [] => True
  | v :: P => (v = 40 ∨ v = 260 ∨ ∃ c, c < 35 ∧ ¬ ob c = 0 ∧ v = oc c) ∧ PV P
theorem PV_b {v : Nat} {P : List Nat} (h : PV (v :: P)) : v < 300 ∧ (v = 40 ∨ 1 ≤ bq v) := by
  rcases h.1 with rfl | rfl | ⟨c, h1, h2, rfl⟩
  · exact ⟨by decide, Or.inl rfl⟩
  · exact ⟨by decide, Or.inr (by decide)⟩
  · have := (show ∀ c, c < 35 → ¬ ob c = 0 → oc c < 300 ∧ 1 ≤ bq (oc c) by decide +kernel) c h1 h2
    exact ⟨this.1, Or.inr this.2⟩
theorem PV_pr (L : Nat) : ∀ (P : List Nat) (o : List (Nat × Nat)), PV P → PV (pr L P o).1
  | [], o, h => trivial
  | v :: P, o, h => by
    rw [pr]
    by_cases c : bq v < L
    · rw [if_pos c]; exact h
    · rw [if_neg c]; exact PV_pr L P _ h.2
theorem PV_1 : ∀ (P : List Nat) (o : List (Nat × Nat)), PV P → op P = 0 → (pr 1 P o).1 = []
  | [], o, h, _ => rfl
  | v :: P, o, h, h0 => by
    rw [op] at h0
    have hv : ¬ v = 40 := by rintro rfl; rw [if_pos rfl] at h0; omega
    have := (PV_b h).2
    rw [pr_1 (by omega)]
    exact PV_1 P _ h.2 (by omega)
theorem PV_40 : ∀ (P : List Nat) (o : List (Nat × Nat)), PV P → 0 < op P → ∃ Q, (pr 1 P o).1 = 40 :: Q
  | [], o, h, h0 => by exact absurd h0 (by decide)
  | v :: P, o, h, h0 => by
    by_cases hv : v = 40
    · subst hv
      rw [pr_0 (show tq (40 :: P) < 1 by show 0 < 1; omega)]
      exact ⟨P, rfl⟩
    · have := (PV_b h).2
      rw [op, if_neg hv] at h0
      rw [pr_1 (by omega)]
      exact PV_40 P _ h.2 (by omega)
theorem mpour (N L : Nat) (hL : 1 ≤ L) (hL6 : L ≤ 6) : ∀ (P : List Nat) (o : List (Nat × Nat)) (j : Nat) (M : sw_M), MR M → MP M o P → PV P → o.length + nn P ≤ 48 → P.length ≤ 60 → P.length < j →
    ∃ W, f_Model_pour_0 N j 80 (nI L) M = some W ∧ Fr AO M W ∧ MP W (pr L P o).2 (pr L P o).1
  | P, o, 0, M, hM, g, hv, hk, hp, hj => by omega
  | [], o, j + 1, M, hM, g, hv, hk, hp, hj => by
    refine ⟨M, ?_, Fr.refl _ _, g⟩
    rw [f_Model_pour_0, ok_80 hM.1, gd_T, g.2.2.1, if_pos (by decide)]
  | v :: P, o, j + 1, M, hM, g, hv, hk, hp, hj => by
    rw [List.length_cons] at hp hj
    have g3 : rd_I M 80 35 = nI (P.length + 1) := g.2.2.1
    have g4 : rd_I M 93 P.length = nI v := g.2.2.2.1
    have es : nI (P.length + 1) - 1 = nI P.length := (nI_sub _ 1 (by omega)).trans (by rw [Nat.add_sub_cancel])
    have b6 := (show ∀ v, v < 300 → bq v ≤ 6 by decide +kernel) v (PV_b hv).1
    rw [f_Model_pour_0, ok_80 hM.1, gd_T, g3, if_neg (show ¬ nI (P.length + 1) ≤ 0 from (nI_ge (by omega) (by omega) : ¬ nI _ ≤ nI 0)), es, mr_34 hM, ar_93 hM.1, ti_n (show P.length < 64 by omega) (by decide), gd_T, cl_n (show P.length < 2 ^ 31 by omega), g4, mbind N v (PV_b hv).1, bn_S, pr]
    by_cases c : bq v < L
    · refine ⟨M, ?_, Fr.refl _ _, by rw [if_pos c]; exact g⟩
      show (if nI (bq v) < nI L then some M else _) = _
      rw [if_pos (nI_lt c (by omega))]
    · have hv40 : ¬ v = 40 := by rintro rfl; rw [bq_40] at c; omega
      rw [nn, if_neg hv40] at hk
      have f1 : Fr AO M (wr_I M 80 35 (nI P.length)) := (Fr.refl _ M).wI _ _ _ (by unfold AO; omega)
      have g5 : MP (wr_I M 80 35 (nI P.length)) o P := by
        refine ⟨?_, OM_w (m := o.length) (fun a k ha _ _ => ?_) (Nat.le_refl _) g.2.1, ?_, PM_w (m := P.length) (fun k _ => ?_) (Nat.le_refl _) g.2.2.2.2⟩
        · simp only [m_II, m_LL, m_RR, m_IL, m_IR, m_LI, m_LR, m_RI, m_RL, m_NI, m_NL, m_NR, m_okI, m_okL, m_okR, m_okaI, m_okaL, m_okaR, m_arI, m_arL, m_arR, gd_T, bn_S, Nat.reduceEqDiff, Nat.left_eq_add, Nat.add_eq_left, Nat.one_ne_zero, and_false, and_true, false_and, true_and, if_false, if_true]; exact g.1
        · rcases ha with rfl | rfl <;> simp only [m_II, m_LL, m_RR, m_IL, m_IR, m_LI, m_LR, m_RI, m_RL, m_NI, m_NL, m_NR, m_okI, m_okL, m_okR, m_okaI, m_okaL, m_okaR, m_arI, m_arL, m_arR, gd_T, bn_S, Nat.reduceEqDiff, Nat.left_eq_add, Nat.add_eq_left, Nat.one_ne_zero, and_false, and_true, false_and, true_and, if_false, if_true]
        · simp only [m_II, m_LL, m_RR, m_IL, m_IR, m_LI, m_LR, m_RI, m_RL, m_NI, m_NL, m_NR, m_okI, m_okL, m_okR, m_okaI, m_okaL, m_okaR, m_arI, m_arL, m_arR, gd_T, bn_S, Nat.reduceEqDiff, Nat.left_eq_add, Nat.add_eq_left, Nat.one_ne_zero, and_false, and_true, false_and, true_and, if_false, if_true]
        · simp only [m_II, m_LL, m_RR, m_IL, m_IR, m_LI, m_LR, m_RI, m_RL, m_NI, m_NL, m_NR, m_okI, m_okL, m_okR, m_okaI, m_okaL, m_okaR, m_arI, m_arL, m_arR, gd_T, bn_S, Nat.reduceEqDiff, Nat.left_eq_add, Nat.add_eq_left, Nat.one_ne_zero, and_false, and_true, false_and, true_and, if_false, if_true]
      obtain ⟨X, x1, x2, x3⟩ := mout N (f1.mr hM) g5 (by omega) (2, v)
      obtain ⟨W, w1, w2, w3⟩ := mpour N L hL hL6 P ((2, v) :: o) j X (x2.mr (f1.mr hM)) x3 hv.2 (by rw [List.length_cons]; omega) (by omega) (by omega)
      refine ⟨W, ?_, (f1.trans (x2.mono (fun a k h => by unfold AO; omega))).trans w2, by rw [if_neg c]; exact w3⟩
      show (if nI (bq v) < nI L then some M else sw_gd [sw_ok M 80 12] _) = _
      have q1 : rd_I (wr_I M 80 35 (nI P.length)) 80 35 = nI P.length := by simp only [m_II, m_LL, m_RR, m_IL, m_IR, m_LI, m_LR, m_RI, m_RL, m_NI, m_NL, m_NR, m_okI, m_okL, m_okR, m_okaI, m_okaL, m_okaR, m_arI, m_arL, m_arR, gd_T, bn_S, Nat.reduceEqDiff, Nat.left_eq_add, Nat.add_eq_left, Nat.one_ne_zero, and_false, and_true, false_and, true_and, if_false, if_true]
      have q2 : rd_I (wr_I M 80 35 (nI P.length)) 93 P.length = nI v := by simp only [m_II, m_LL, m_RR, m_IL, m_IR, m_LI, m_LR, m_RI, m_RL, m_NI, m_NL, m_NR, m_okI, m_okL, m_okR, m_okaI, m_okaL, m_okaR, m_arI, m_arL, m_arR, gd_T, bn_S, Nat.reduceEqDiff, Nat.left_eq_add, Nat.add_eq_left, Nat.one_ne_zero, and_false, and_true, false_and, true_and, if_false, if_true]; exact g4
      rw [if_neg (nI_nlt (by omega) (by omega)), ok_80 hM.1, gd_T]
      show sw_gd [sw_ar (wr_I M 80 35 (rd_I M 80 35 - 1)) (rd_R (wr_I M 80 35 (rd_I M 80 35 - 1)) 80 34) 13 (rd_I (wr_I M 80 35 (rd_I M 80 35 - 1)) 80 35)] _ = _
      rw [g3, es, mr_34 (f1.mr hM), ar_93 (f1.mr hM).1, q1, ti_n (show P.length < 64 by omega) (by decide), gd_T, cl_n (show P.length < 2 ^ 31 by omega), q2]
      show (f_Model_out N 80 (nI 2) (nI v) _).bind _ = _
      rw [x1, bn_S]
      exact w1
