/-! 97zi: the reference's rule: an operand, end; a sign between -/
theorem op184 (N : Nat) (hN : 1000 ≤ N) {M : sw_M} {T : Nat → Nat} {n b k : Nat} {o : List (Nat × Nat)} {P : List Nat} (g : MB M T n b) (y : MY M k o P) (iv : IV k o P) (c2 : ¬ kk T n b = 2) (c29 : ¬ 29 ≤ kk T n b) (c5 : ¬ kk T n b = 5) (t : Int32) (h0 : 4 ≤ tq P → t = 0) (h1 : tq P < 4 → t = 1) : STo T n b k o P M (f_Model_operand_184 N 80 t M) := by
  have hM := g.1.1
  have kc := kk_c T n b
  have h27 := g.2.2.2.2.1
  obtain ⟨i1, i2, i3, i4⟩ := iv
  have w205 : (¬ (kk T n b = 28 ∧ tq P < 4)) → STo T n b k o P M (f_Model_operand_205 N 80 M) := fun h => by
    obtain ⟨W, w1, w2, w3⟩ := op205 N g y.2.2.2
    exact Or.inr ⟨W, 1, pl T n b, w1, w2, w3, fun j => by rw [sy, if_neg c2, if_neg c29, if_neg c5, if_neg h]⟩
  unfold f_Model_operand_184
  rw [ok_80 hM.1, gd_T, h27]
  by_cases c20 : 20 ≤ kk T n b
  · have h28 := g.2.2.2.2.2.2.1 (by omega)
    have ms := (show ∀ c, c < 35 → 20 ≤ c → msr c = 0 ∧ mvl c = c - 20 by decide +kernel) _ kc c20
    rw [ms.1, if_pos rfl, h28, ms.2]
    by_cases c28 : kk T n b = 28
    · rw [if_pos (by rw [c28]; rfl)]
      by_cases q : tq P < 4
      · rw [h1 q, if_neg (by decide)]
        rcases mknot N g y i2 with ⟨k1, V, v1, v2, v3, v4⟩ | ⟨k1, V, v1, v2, v3⟩
        · rw [v1, bn_S, ok_80 v3.1.1.1, gd_T, v4.2.2.2, if_pos rfl]
          have pl := op_nn P
          obtain ⟨W, w1, w2, w3, w4⟩ := mwaits N hN v3 v4.2.1 (show P.length < 64 by omega) 260
          rw [show (260 : Int32) = nI 260 from rfl, w1, bn_S]
          left
          refine ⟨W, false, nd T n b, k + 1, o, 260 :: P, rfl, v2.trans (w2.mono (fun a k h => by unfold A80 at h; unfold AM; omega)), w3, ⟨(w2.I 80 36 (by unfold A80; omega)).trans v4.1, w4, ?_, (w2.I 80 30 (by unfold A80; omega)).trans v4.2.2.2⟩, ⟨?_, by omega, ?_, Or.inr (Or.inl rfl), i4⟩, fun j => ?_⟩
          · rw [w2.I 80 29 (by unfold A80; omega), v4.2.2.1, op, if_neg (by decide), Nat.zero_add]
          · rw [nn, if_neg (by decide)]; omega
          · rw [op, if_neg (by decide)]; omega
          · rw [sy, if_neg c2, if_neg c29, if_neg c5, if_pos ⟨c28, q⟩, if_neg (by omega)]
        · rw [v1, bn_S, ok_80 v3.1.1.1, gd_T, v3.2.1, if_neg (nf0 (by omega) (by omega))]
          exact Or.inr ⟨V, 2, pl T n b, rfl, v2, v3, fun j => by rw [sy, if_neg c2, if_neg c29, if_neg c5, if_pos ⟨c28, q⟩, if_pos k1]⟩
      · rw [h0 (by omega), if_pos rfl]
        exact w205 (fun h => q h.2)
    · rw [if_neg (show ¬ nI (kk T n b - 20) = (8 : Int32) from fun h => by have h2 : kk T n b - 20 = 8 := (nI_eq (by omega) (by decide)).1 (h : nI _ = nI 8); omega)]
      exact w205 (fun h => c28 h.1)
  · rw [if_neg ((show ∀ c, c < 20 → ¬ msr c = 0 by decide +kernel) _ (by omega))]
    exact w205 (fun h => by omega)
theorem op104 (N : Nat) (hN : 1000 ≤ N) {M : sw_M} {T : Nat → Nat} {n b k : Nat} {o : List (Nat × Nat)} {P : List Nat} (g : MB M T n b) (y : MY M k o P) (iv : IV k o P) (c2 : ¬ kk T n b = 2) (c29 : ¬ 29 ≤ kk T n b) : STo T n b k o P M (f_Model_operand_104 N 80 M) := by
  have hM := g.1.1
  have kc := kk_c T n b
  have iv0 := iv
  obtain ⟨i1, i2, i3, i4⟩ := iv
  have pl0 := op_nn P
  unfold f_Model_operand_104
  rw [ok_80 hM.1, gd_T, show (40 : Int32) = nI 40 from rfl, misSign N g 40 5 (by omega) (by omega) (by decide +kernel), bn_S]
  by_cases c5 : kk T n b = 5
  · rw [decide_eq_true c5]
    show STo T n b k o P M (sw_gd [sw_ok M 80 12] (if rd_I M 80 29 = (8 : Int32) then (f_Model_wrong N 80 (2 : Int32) M).bind (fun u7 => f_Model_operand_127 N 80 u7) else f_Model_operand_127 N 80 M))
    rw [ok_80 hM.1, gd_T, y.2.2.1]
    by_cases q : op P = 8
    · rw [if_pos (by rw [q]; rfl)]
      obtain ⟨W, w1, w2, w3, w4⟩ := mwrong N g y.2.2.2 2 (by omega) (by omega)
      rw [show (2 : Int32) = nI 2 from rfl, w1, bn_S]
      unfold f_Model_operand_127
      rw [ok_80 w4.1.1.1, gd_T, w3.2.1, if_neg (nf0 (by omega) (by omega))]
      exact Or.inr ⟨W, 2, pl T n b, rfl, f31_AM w2, w3, fun j => by rw [sy, if_neg c2, if_neg c29, if_pos c5, if_pos q]⟩
    · rw [if_neg (show ¬ nI (op P) = (8 : Int32) from fun h => q ((nI_eq (by omega) (by decide)).1 (h : nI _ = nI 8)))]
      unfold f_Model_operand_127
      rw [ok_80 hM.1, gd_T, y.2.2.2, if_pos rfl, y.2.2.1, nI_1]
      have f1 : Fr (fun a k => a = 80 ∧ k = 29) M (wr_I M 80 29 (nI (op P + 1))) := (Fr.refl _ M).wI _ _ _ (by omega)
      have g1 := g.fr f1 (fun k h1 h2 => by omega) (fun k => by omega)
      have y1 := y.2.1.fr f1 (by omega) (by omega) (fun k => by omega) (fun k => by omega) (fun k => by omega)
      obtain ⟨W, w1, w2, w3, w4⟩ := mwaits N hN g1 y1 (show P.length < 64 by omega) 40
      rw [show (40 : Int32) = nI 40 from rfl, w1, bn_S]
      left
      refine ⟨W, false, nd T n b, k, o, 40 :: P, rfl, (f1.mono (fun a k h => by unfold AM; omega)).trans (w2.mono (fun a k h => by unfold A80 at h; unfold AM; omega)), w3, ⟨?_, w4, ?_, ?_⟩, ⟨?_, i2, ?_, Or.inl rfl, i4⟩, fun j => ?_⟩
      · rw [w2.I 80 36 (by unfold A80; omega)]; simp only [m_II, m_LL, m_RR, m_IL, m_IR, m_LI, m_LR, m_RI, m_RL, m_NI, m_NL, m_NR, m_okI, m_okL, m_okR, m_okaI, m_okaL, m_okaR, m_arI, m_arL, m_arR, gd_T, bn_S, Nat.reduceEqDiff, Nat.left_eq_add, Nat.add_eq_left, Nat.one_ne_zero, and_false, and_true, false_and, true_and, if_false, if_true]; exact y.1
      · rw [w2.I 80 29 (by unfold A80; omega)]; simp only [m_II, m_LL, m_RR, m_IL, m_IR, m_LI, m_LR, m_RI, m_RL, m_NI, m_NL, m_NR, m_okI, m_okL, m_okR, m_okaI, m_okaL, m_okaR, m_arI, m_arL, m_arR, gd_T, bn_S, Nat.reduceEqDiff, Nat.left_eq_add, Nat.add_eq_left, Nat.one_ne_zero, and_false, and_true, false_and, true_and, if_false, if_true]; rw [op, if_pos rfl, Nat.add_comm]
      · rw [w2.I 80 30 (by unfold A80; omega)]; simp only [m_II, m_LL, m_RR, m_IL, m_IR, m_LI, m_LR, m_RI, m_RL, m_NI, m_NL, m_NR, m_okI, m_okL, m_okR, m_okaI, m_okaL, m_okaR, m_arI, m_arL, m_arR, gd_T, bn_S, Nat.reduceEqDiff, Nat.left_eq_add, Nat.add_eq_left, Nat.one_ne_zero, and_false, and_true, false_and, true_and, if_false, if_true]; exact y.2.2.2
      · rw [nn, if_pos rfl]; omega
      · rw [op, if_pos rfl]; omega
      · rw [sy, if_neg c2, if_neg c29, if_pos c5, if_neg q]
  · rw [decide_eq_false c5]
    show STo T n b k o P M (sw_gd [sw_ok M 80 12] (if rd_I M 80 35 = 0 then f_Model_operand_179 N 80 M else sw_gd [sw_ar M (rd_R M 80 34) 13 (rd_I M 80 35 - 1)] ((f_Model_bind N (rd_I M (rd_R M 80 34) (rd_I M 80 35 - 1).toNatClampNeg) M).bind _)))
    rw [ok_80 hM.1, gd_T]
    have y3 := y.2.1.2.2.1
    have y4 := y.2.1.2.2.2
    cases P with
    | nil =>
      rw [show rd_I M 80 35 = 0 from y3, if_pos rfl]
      exact op184 N hN g y iv0 c2 c29 c5 1 (fun h => by have h2 : 4 ≤ 0 := h; omega) (fun _ => rfl)
    | cons v P =>
      have e35 : rd_I M 80 35 = nI (P.length + 1) := y3
      have es : nI (P.length + 1) - 1 = nI P.length := (nI_sub _ 1 (by omega)).trans (by rw [Nat.add_sub_cancel])
      have e93 : rd_I M 93 P.length = nI v := y4.1
      rw [List.length_cons] at pl0
      have vb := PV_b i4
      have b6 := (show ∀ v, v < 300 → bq v ≤ 6 by decide +kernel) v vb.1
      rw [e35, if_neg (show ¬ nI (P.length + 1) = 0 from fun h => by have h2 : P.length + 1 = 0 := (nI_eq (by omega) (by decide)).1 (h : nI _ = nI 0); omega), es, mr_34 hM, ar_93 hM.1, ti_n (show P.length < 64 by omega) (by decide), gd_T, cl_n (show P.length < 2 ^ 31 by omega), e93, mbind N v vb.1, bn_S]
      show STo T n b k o (v :: P) M (if (4 : Int32) ≤ nI (bq v) then f_Model_operand_184 N 80 0 M else f_Model_operand_179 N 80 M)
      by_cases q : 4 ≤ bq v
      · rw [if_pos (show (4 : Int32) ≤ nI (bq v) from (nI_le q (by omega) : nI 4 ≤ nI _))]
        exact op184 N hN g y iv0 c2 c29 c5 0 (fun _ => rfl) (fun h => by have h2 : bq v < 4 := h; omega)
      · rw [if_neg (show ¬ (4 : Int32) ≤ nI (bq v) from (nI_ge (by omega) (by omega) : ¬ nI 4 ≤ nI _))]
        exact op184 N hN g y iv0 c2 c29 c5 1 (fun h => by have h2 : 4 ≤ bq v := h; omega) (fun _ => rfl)
theorem moperand (N : Nat) (hN : 1000 ≤ N) {M : sw_M} {T : Nat → Nat} {n b k : Nat} {o : List (Nat × Nat)} {P : List Nat} (g : MB M T n b) (y : MY M k o P) (iv : IV k o P) : STo T n b k o P M (f_Model_operand N 80 M) := by
  by_cases c2 : kk T n b = 2
  · exact mo_num N hN g y iv c2
  by_cases c29 : 29 ≤ kk T n b
  · exact mo_nam N hN g y iv c29
  have hM := g.1.1
  have kc := kk_c T n b
  have h27 := g.2.2.2.2.1
  have e : f_Model_operand N 80 M = f_Model_operand_104 N 80 M := by
    unfold f_Model_operand
    rw [ok_80 hM.1, gd_T, h27, if_neg ((show ∀ c, c < 35 → ¬ c = 2 → ¬ msr c = 1 by decide +kernel) _ kc c2)]
    by_cases c20 : 20 ≤ kk T n b
    · have h28 := g.2.2.2.2.2.2.1 (by omega)
      have ms := (show ∀ c, c < 35 → 20 ≤ c → msr c = 0 ∧ mvl c = c - 20 by decide +kernel) _ kc c20
      rw [ms.1, if_pos rfl, h28, ms.2, if_pos (show nI (kk T n b - 20) < (9 : Int32) from (nI_lt (by omega) (by omega) : nI _ < nI 9))]
    · rw [if_neg ((show ∀ c, c < 20 → ¬ msr c = 0 by decide +kernel) _ (by omega))]
  rw [e]
  exact op104 N hN g y iv c2 c29
theorem mbetw (N : Nat) {M : sw_M} {T : Nat → Nat} {n b : Nat} (g : MB M T n b) : f_Model_between N 80 M = some (if ob (kk T n b) = 0 then 0 else nI (oc (kk T n b)), M) := by
  have hM := g.1.1
  have kc := kk_c T n b
  have h27 := g.2.2.2.2.1
  unfold f_Model_between
  rw [ok_80 hM.1, gd_T, h27]
  by_cases c3 : kk T n b < 3
  · have := (show ∀ c, c < 3 → ¬ msr c = 0 ∧ ¬ msr c = 2 ∧ ob c = 0 by decide +kernel) _ c3
    rw [if_neg this.1, if_neg this.2.1, if_pos this.2.2]
  have h28 := g.2.2.2.2.2.2.1 (by omega)
  rw [h28]
  by_cases c20 : 20 ≤ kk T n b
  · have ms := (show ∀ c, c < 35 → 20 ≤ c → msr c = 0 ∧ (c = 26 ∨ nI (mvl c) ≠ 6) ∧ (c = 27 ∨ nI (mvl c) ≠ 7) ∧ (c = 26 ∨ c = 27 ∨ ob c = 0) by decide +kernel) _ kc c20
    rw [ms.1, if_pos rfl]
    by_cases c26 : kk T n b = 26
    · rw [c26]; rfl
    rw [if_neg (ms.2.1.resolve_left c26)]
    by_cases c27 : kk T n b = 27
    · rw [c27]; rfl
    rw [if_neg (ms.2.2.1.resolve_left c27), if_pos ((ms.2.2.2.resolve_left c26).resolve_left c27)]
  · have ms := (show ∀ c, c < 20 → 3 ≤ c → ¬ msr c = 0 ∧ msr c = 2 ∧ mvl c < 300 ∧ (c = 5 ∨ nI (mvl c) ≠ 40) ∧ (c = 6 ∨ nI (mvl c) ≠ 41) ∧ (c = 5 ∨ c = 6 ∨ bq (mvl c) = ob c) ∧ (ob c = 0 ∨ oc c = mvl c) ∧ ob c < 7 by decide +kernel) (kk T n b) (by omega) (by omega)
    rw [if_neg ms.1, if_pos ms.2.1]
    by_cases c5 : kk T n b = 5
    · rw [c5]; rfl
    rw [if_neg (ms.2.2.2.1.resolve_left c5)]
    by_cases c6 : kk T n b = 6
    · rw [c6]; rfl
    rw [if_neg (ms.2.2.2.2.1.resolve_left c6), mbind N _ ms.2.2.1, bn_S, (ms.2.2.2.2.2.1.resolve_left c5).resolve_left c6]
    show (if nI (ob (kk T n b)) ≤ 0 then some ((0 : Int32), M) else sw_gd [sw_ok M 80 12] (some (rd_I M 80 28, M))) = _
    by_cases q : ob (kk T n b) = 0
    · rw [q, if_pos (by decide), if_pos rfl]
    · rw [if_neg (show ¬ nI (ob (kk T n b)) ≤ 0 from (nI_ge (by omega) (by omega) : ¬ nI _ ≤ nI 0)), ok_80 hM.1, gd_T, h28, if_neg q, ms.2.2.2.2.2.2.1.resolve_left q]
