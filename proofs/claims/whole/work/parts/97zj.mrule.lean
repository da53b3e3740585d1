/-! 97zj: the reference's rule, all of it -/
theorem MP.ao {M W : sw_M} {k : Nat} {o : List (Nat × Nat)} {P : List Nat} {o' : List (Nat × Nat)} {P' : List Nat} (y : MY M k o P) (h : Fr AO M W) (p : MP W o' P') (e : op P' = op P) : MY W k o' P' :=
  ⟨(h.I 80 36 (by unfold AO; omega)).trans y.1, p, by rw [h.I 80 29 (by unfold AO; omega), y.2.2.1, e], (h.I 80 30 (by unfold AO; omega)).trans y.2.2.2⟩
theorem MB.ao {M W : sw_M} {T : Nat → Nat} {n b : Nat} (g : MB M T n b) (h : Fr AO M W) : MB W T n b := g.fr h (fun k h1 h2 => by unfold AO; omega) (fun k => by unfold AO; omega)
def STs (T : Nat → Nat) (n b k : Nat) (o : List (Nat × Nat)) (P : List Nat) (M : sw_M) (x : Option sw_M) : Prop :=
  (∃ W b' k' o' P', x = some W ∧ Fr AM M W ∧ MB W T n b' ∧ MY W k' o' P' ∧ IV k' o' P' ∧ ∀ j, sy T n (j + 1) true b k o P = sy T n j false b' k' o' P') ∨ (∃ W f p, x = some W ∧ Fr AM M W ∧ FM W T n f p ∧ ∀ j, sy T n (j + 1) true b k o P = some (Sum.inl (f, p)))
theorem sg54 (N : Nat) (hN : 1000 ≤ N) {M0 M : sw_M} {T : Nat → Nat} {n b k : Nat} {o o1 : List (Nat × Nat)} {P P1 : List Nat} (hF : Fr AM M0 M) (g : MB M T n b) (y : MY M k o1 P1) (iv : IV k o1 P1) (c0 : ¬ ob (kk T n b) = 0)
    (st : ∀ j, sy T n (j + 1) true b k o P = if k = 48 then some (Sum.inl (2, pl T n b)) else sy T n j false (nd T n b) (k + 1) o1 (oc (kk T n b) :: P1)) : STs T n b k o P M0 (f_Model_sign_54 N 80 (nI (oc (kk T n b))) M) := by
  have hM := g.1.1
  have kc := kk_c T n b
  have oo := oc_40 _ kc c0
  have pl0 := op_nn P1
  obtain ⟨i1, i2, i3, i4⟩ := iv
  unfold f_Model_sign_54
  rw [ok_80 hM.1, gd_T, y.2.2.2, if_pos rfl]
  rcases mknot N g y i2 with ⟨k1, V, v1, v2, v3, v4⟩ | ⟨k1, V, v1, v2, v3⟩
  · rw [v1, bn_S]
    unfold f_Model_sign_65
    obtain ⟨W, w1, w2, w3, w4⟩ := mwaits N hN v3 v4.2.1 (show P1.length < 64 by omega) (oc (kk T n b))
    rw [ok_80 v3.1.1.1, gd_T, v4.2.2.2, if_pos rfl, w1, bn_S]
    left
    refine ⟨W, nd T n b, k + 1, o1, oc (kk T n b) :: P1, rfl, (hF.trans v2).trans (w2.mono (fun a k h => by unfold A80 at h; unfold AM; omega)), w3, ⟨(w2.I 80 36 (by unfold A80; omega)).trans v4.1, w4, ?_, (w2.I 80 30 (by unfold A80; omega)).trans v4.2.2.2⟩, ⟨?_, by omega, ?_, Or.inr (Or.inr ⟨_, kc, c0, rfl⟩), i4⟩, fun j => ?_⟩
    · rw [w2.I 80 29 (by unfold A80; omega), v4.2.2.1, op, if_neg oo.1, Nat.zero_add]
    · rw [nn, if_neg oo.1]; omega
    · rw [op, if_neg oo.1]; omega
    · rw [st, if_neg (by omega)]
  · rw [v1, bn_S]
    unfold f_Model_sign_65
    rw [ok_80 v3.1.1.1, gd_T, v3.2.1, if_neg (nf0 (by omega) (by omega))]
    exact Or.inr ⟨V, 2, pl T n b, rfl, hF.trans v2, v3, fun j => by rw [st, if_pos k1]⟩
theorem IV_pr {L k : Nat} {o : List (Nat × Nat)} {P : List Nat} (hL : 1 ≤ L) (iv : IV k o P) : IV k (pr L P o).2 (pr L P o).1 := by
  obtain ⟨i1, i2, i3, i4⟩ := iv
  have := pr_nn L hL P o
  have := pr_op L hL P o
  exact ⟨by omega, i2, by omega, PV_pr L P o i4⟩
theorem msign (N : Nat) (hN : 1000 ≤ N) {M : sw_M} {T : Nat → Nat} {n b k : Nat} {o : List (Nat × Nat)} {P : List Nat} (g : MB M T n b) (y : MY M k o P) (iv : IV k o P) (c0 : ¬ ob (kk T n b) = 0) : STs T n b k o P M (f_Model_sign N 80 (nI (oc (kk T n b))) M) := by
  have hM := g.1.1
  have kc := kk_c T n b
  have oo := oc_40 _ kc c0
  have o3 := (show ∀ c, c < 35 → oc c < 300 by decide +kernel) _ kc
  have o6 := ob_le (kk T n b)
  have pl0 := op_nn P
  have iv0 := iv
  obtain ⟨i1, i2, i3, i4⟩ := iv
  unfold f_Model_sign
  rw [mbind N _ o3, bn_S, oo.2]
  show STs T n b k o P M (if nI (ob (kk T n b)) = (4 : Int32) then sw_gd [sw_ok M 80 12] ((f_Model_pour N 80 (nI 5) M).bind _) else (f_Model_bind N (nI (oc (kk T n b))) M).bind _)
  by_cases c4 : ob (kk T n b) = 4
  · rw [if_pos (by rw [c4]; rfl), ok_80 hM.1, gd_T]
    obtain ⟨X, x1, x2, x3⟩ := mpour N 5 (by omega) (by omega) P o N M hM y.2.1 i4 (by omega) (by omega) (by omega)
    have x1' : f_Model_pour N 80 (nI 5) M = some X := x1
    have gX := g.ao x2
    have yX := MP.ao y x2 x3 (pr_op 5 (by omega) P o)
    have iX := IV_pr (show 1 ≤ 5 by omega) iv0
    have hX := gX.1.1
    have st : ∀ j, sy T n (j + 1) true b k o P = if tq (pr 5 P o).1 = 4 then some (Sum.inl (1, pl T n b)) else if k = 48 then some (Sum.inl (2, pl T n b)) else sy T n j false (nd T n b) (k + 1) (pr 5 P o).2 (oc (kk T n b) :: (pr 5 P o).1) := fun j => by
      rw [sy, if_neg c0, if_pos c4]
    rw [x1', bn_S, ok_80 hX.1, gd_T]
    have y3 := x3.2.2.1
    have y4 := x3.2.2.2
    have go := fun st' => sg54 N hN (o := o) (P := P) (AO_AM x2) gX yX iX c0 st'
    have pl1 := op_nn (pr 5 P o).1
    have iq := iX
    generalize pr 5 P o = R at *
    obtain ⟨Q, o1⟩ := R
    cases Q with
    | nil =>
      rw [show rd_I X 80 35 = 0 from y3, if_pos (by decide)]
      exact go (fun j => by rw [st, if_neg (show ¬ tq [] = 4 by decide)])
    | cons v Q =>
      have e35 : rd_I X 80 35 = nI (Q.length + 1) := y3
      have es : nI (Q.length + 1) - 1 = nI Q.length := (nI_sub _ 1 (by omega)).trans (by rw [Nat.add_sub_cancel])
      have e93 : rd_I X 93 Q.length = nI v := y4.1
      have pl2 : Q.length + 1 = op (v :: Q) + nn (v :: Q) := pl1
      have q1 : o1.length + nn (v :: Q) = k := iq.1
      have q3 : op (v :: Q) ≤ 8 := iq.2.2.1
      have vb := PV_b iq.2.2.2
      have b6 := (show ∀ v, v < 300 → bq v ≤ 6 by decide +kernel) v vb.1
      rw [e35, if_neg (show ¬ nI (Q.length + 1) ≤ 0 from (nI_ge (by omega) (by omega) : ¬ nI _ ≤ nI 0)), es, mr_34 hX, ar_93 hX.1, ti_n (show Q.length < 64 by omega) (by decide), gd_T, cl_n (show Q.length < 2 ^ 31 by omega), e93, mbind N v vb.1, bn_S]
      show STs T n b k o P M (if nI (bq v) = (4 : Int32) then sw_gd [sw_ok X 80 12] ((f_Model_wrong N 80 (nI 1) X).bind _) else f_Model_sign_54 N 80 (nI (oc (kk T n b))) X)
      by_cases q : bq v = 4
      · rw [if_pos (by rw [q]; rfl), ok_80 hX.1, gd_T]
        obtain ⟨W, w1, w2, w3, w4⟩ := mwrong N gX yX.2.2.2 1 (by omega) (by omega)
        rw [w1, bn_S]
        unfold f_Model_sign_54 f_Model_sign_65
        rw [ok_80 w4.1.1.1, gd_T, w3.2.1, if_neg (nf0 (by omega) (by omega)), gd_T, if_neg (nf0 (by omega) (by omega))]
        exact Or.inr ⟨W, 1, pl T n b, rfl, (AO_AM x2).trans (f31_AM w2), w3, fun j => by rw [st, if_pos (show tq (v :: Q) = 4 from q)]⟩
      · rw [if_neg (show ¬ nI (bq v) = (4 : Int32) from fun h => q ((nI_eq (by omega) (by decide)).1 (h : nI _ = nI 4)))]
        exact go (fun j => by rw [st, if_neg (show ¬ tq (v :: Q) = 4 from q)])
  · rw [if_neg (show ¬ nI (ob (kk T n b)) = (4 : Int32) from fun h => c4 ((nI_eq (by omega) (by decide)).1 (h : nI _ = nI 4))), mbind N _ o3, bn_S, oo.2]
    show STs T n b k o P M (sw_gd [sw_ok M 80 12] ((f_Model_pour N 80 (nI (ob (kk T n b))) M).bind _))
    rw [ok_80 hM.1, gd_T]
    obtain ⟨X, x1, x2, x3⟩ := mpour N (ob (kk T n b)) (by omega) o6 P o N M hM y.2.1 i4 (by omega) (by omega) (by omega)
    have x1' : f_Model_pour N 80 (nI (ob (kk T n b))) M = some X := x1
    rw [x1', bn_S]
    refine sg54 N hN (AO_AM x2) (g.ao x2) (MP.ao y x2 x3 (pr_op _ (by omega) P o)) (IV_pr (by omega) iv0) c0 (fun j => ?_)
    rw [sy, if_neg c0, if_neg c4]
/-- the end of the reading -/
def STe (T : Nat → Nat) (n : Nat) (M : sw_M) (x : Option sw_M) (r : RR) : Prop := ∃ W, x = some W ∧ Fr AM M W ∧ match r with
  | Sum.inl (f, p) => FM W T n f p
  | Sum.inr (b', k', o') => MB W T n b' ∧ MY W k' o' [] ∧ o'.length = k' ∧ k' ≤ 48
theorem ex_fl (N j : Nat) (a1 a2 : Int32) {M : sw_M} {T : Nat → Nat} {n f p : Nat} (g : FM M T n f p) : f_Model_expression_14 N (j + 1) 80 a1 a2 M = some M := by
  rw [f_Model_expression_14, ok_80 g.1.1.1, gd_T, g.2.1, if_neg (nf0 g.2.2.2.1 g.2.2.2.2)]
  unfold f_Model_expression_109
  rw [ok_80 g.1.1.1, gd_T, g.2.1, if_neg (nf0 g.2.2.2.1 g.2.2.2.2)]
theorem ex_14 (N : Nat) (hN : 1000 ≤ N) (T : Nat → Nat) (n : Nat) : ∀ (j J : Nat) (t : Bool) (M : sw_M) (b k : Nat) (o : List (Nat × Nat)) (P : List Nat) (r : RR), MB M T n b → MY M k o P → IV k o P → sy T n j t b k o P = some r → j + 1 ≤ J → STe T n M (f_Model_expression_14 N J 80 (bz t) 1 M) r
  | 0, J, t, M, b, k, o, P, r, g, y, iv, h, hJ => by rw [sy] at h; exact absurd h (by simp)
  | j + 1, 0, t, M, b, k, o, P, r, g, y, iv, h, hJ => by omega
  | j + 1, 1, t, M, b, k, o, P, r, g, y, iv, h, hJ => by omega
  | j + 1, J + 2, false, M, b, k, o, P, r, g, y, iv, h, hJ => by
    have hM := g.1.1
    rw [f_Model_expression_14, ok_80 hM.1, gd_T, y.2.2.2, if_pos rfl, if_neg (by decide), if_pos (by rfl)]
    rcases moperand N hN g y iv with ⟨W, t', b', k', o', P', w1, w2, w3, w4, w5, w6⟩ | ⟨W, f, p, w1, w2, w3, w4⟩
    · rw [w1, bn_S]
      obtain ⟨Z, z1, z2, z3⟩ := ex_14 N hN T n j (J + 1) t' W b' k' o' P' r w3 w4 w5 (by rw [← w6]; exact h) (by omega)
      exact ⟨Z, z1, w2.trans z2, z3⟩
    · rw [w1, bn_S]
      rw [w4] at h
      obtain rfl := Option.some.inj h
      exact ⟨W, ex_fl N J 0 1 w3, w2, w3⟩
  | j + 1, J + 2, true, M, b, k, o, P, r, g, y, iv, h, hJ => by
    have hM := g.1.1
    rw [f_Model_expression_14, ok_80 hM.1, gd_T, y.2.2.2, if_pos rfl, if_neg (by decide), if_neg (by decide), mbetw N g, bn_S]
    have iv0 := iv
    obtain ⟨i1, i2, i3, i4⟩ := iv
    have pl0 := op_nn P
    by_cases c0 : ob (kk T n b) = 0
    · rw [if_pos c0]
      show STe T n M (sw_gd [sw_ok M 80 12] ((f_Model_isSign N 80 (nI 41) M).bind _)) r
      rw [ok_80 hM.1, gd_T, misSign N g 41 6 (by omega) (by omega) (by decide +kernel), bn_S]
      have e109 : ¬ (kk T n b = 6 ∧ 0 < op P) → STe T n M (f_Model_expression_104 N (f_Model_expression_14 N (J + 1)) 80 1 M) r := fun hn => by
        rw [sy, if_pos c0, if_neg hn] at h
        unfold f_Model_expression_104 f_Model_expression_106
        rw [f_Model_expression_14, ok_80 hM.1, gd_T, y.2.2.2, if_pos rfl, if_pos rfl]
        unfold f_Model_expression_109
        rw [ok_80 hM.1, gd_T, y.2.2.2, if_pos rfl, y.2.2.1]
        by_cases q : 0 < op P
        · rw [if_pos q] at h
          obtain rfl := Option.some.inj h
          rw [if_neg (show ¬ nI (op P) ≤ 0 from (nI_ge (by omega) (by omega) : ¬ nI _ ≤ nI 0))]
          obtain ⟨W, w1, w2, w3, w4⟩ := mwrong N g y.2.2.2 1 (by omega) (by omega)
          rw [show (1 : Int32) = nI 1 from rfl, w1, bn_S]
          obtain ⟨X, x1, x2, x3⟩ := mpour N 1 (by omega) (by omega) P o N W w4.1.1 (y.2.1.fr w2 (by omega) (by omega) (fun k => by omega) (fun k => by omega) (fun k => by omega)) i4 (by omega) (by omega) (by omega)
          unfold f_Model_expression_129
          rw [ok_80 w4.1.1.1, gd_T]
          have x1' : f_Model_pour N 80 1 W = some X := x1
          refine ⟨X, by rw [x1', bn_S], (f31_AM w2).trans (AO_AM x2), ?_⟩
          exact ⟨(w4.ao x2).1, (x2.I 80 30 (by unfold AO; omega)).trans w3.2.1, (x2.I 80 31 (by unfold AO; omega)).trans w3.2.2.1, by omega, by omega⟩
        · rw [if_neg q] at h
          obtain rfl := Option.some.inj h
          rw [if_pos (show nI (op P) ≤ 0 from (nI_le (by omega) (by omega) : nI _ ≤ nI 0))]
          obtain ⟨X, x1, x2, x3⟩ := mpour N 1 (by omega) (by omega) P o N M hM y.2.1 i4 (by omega) (by omega) (by omega)
          unfold f_Model_expression_129
          rw [ok_80 hM.1, gd_T]
          have x1' : f_Model_pour N 80 1 M = some X := x1
          have pn := PV_1 P o i4 (by omega)
          have yX := MP.ao y x2 x3 (pr_op 1 (by omega) P o)
          have iX := IV_pr (show 1 ≤ 1 by omega) iv0
          rw [pn] at yX iX
          refine ⟨X, by rw [x1', bn_S], AO_AM x2, g.ao x2, yX, ?_, i2⟩
          have := iX.1
          have e0 : nn [] = 0 := rfl
          omega
      by_cases c6 : kk T n b = 6
      · rw [decide_eq_true c6]
        show STe T n M (sw_gd [sw_ok M 80 12] (if rd_I M 80 29 ≤ 0 then f_Model_expression_104 N (f_Model_expression_14 N (J + 1)) 80 1 M else (f_Model_pour N 80 1 M).bind _)) r
        rw [ok_80 hM.1, gd_T, y.2.2.1]
        by_cases q : 0 < op P
        · rw [if_neg (show ¬ nI (op P) ≤ 0 from (nI_ge (by omega) (by omega) : ¬ nI _ ≤ nI 0))]
          rw [sy, if_pos c0, if_pos ⟨c6, q⟩] at h
          obtain ⟨X, x1, x2, x3⟩ := mpour N 1 (by omega) (by omega) P o N M hM y.2.1 i4 (by omega) (by omega) (by omega)
          have x1' : f_Model_pour N 80 1 M = some X := x1
          obtain ⟨Q, hQ⟩ := PV_40 P o i4 q
          have yX := MP.ao y x2 x3 (pr_op 1 (by omega) P o)
          have iX := IV_pr (show 1 ≤ 1 by omega) iv0
          have gX := g.ao x2
          rw [hQ] at yX iX h
          have hX := gX.1.1
          obtain ⟨j1, j2, j3, j4⟩ := iX
          rw [nn, if_pos rfl] at j1
          rw [op, if_pos rfl] at j3
          have y29 := yX.2.2.1
          rw [op, if_pos rfl] at y29
          have e35 : rd_I X 80 35 = nI (Q.length + 1) := yX.2.1.2.2.1
          have es : nI (Q.length + 1) - 1 = nI Q.length := (nI_sub _ 1 (by omega)).trans (by rw [Nat.add_sub_cancel])
          have eo' : nI (1 + op Q) - 1 = nI (op Q) := (nI_sub _ 1 (by omega)).trans (by rw [Nat.add_sub_cancel_left])
          have f1 : Fr (fun a k => a = 80 ∧ (k = 35 ∨ k = 29)) X (wr_I (wr_I X 80 35 (nI Q.length)) 80 29 (nI (op Q))) := ((Fr.refl _ X).wI _ _ _ (by omega)).wI _ _ _ (by omega)
          have gY := gX.fr f1 (fun k h1 h2 => by omega) (fun k => by omega)
          have yY : MY (wr_I (wr_I X 80 35 (nI Q.length)) 80 29 (nI (op Q))) k (pr 1 P o).2 Q := by
            refine ⟨?_, ⟨?_, OM_w (m := (pr 1 P o).2.length) (fun a k ha _ _ => ?_) (Nat.le_refl _) yX.2.1.2.1, ?_, PM_w (m := Q.length) (fun k _ => ?_) (Nat.le_refl _) yX.2.1.2.2.2.2⟩, ?_, ?_⟩
            · simp only [m_II, m_LL, m_RR, m_IL, m_IR, m_LI, m_LR, m_RI, m_RL, m_NI, m_NL, m_NR, m_okI, m_okL, m_okR, m_okaI, m_okaL, m_okaR, m_arI, m_arL, m_arR, gd_T, bn_S, Nat.reduceEqDiff, Nat.left_eq_add, Nat.add_eq_left, Nat.one_ne_zero, and_false, and_true, false_and, true_and, if_false, if_true]; exact yX.1
            · simp only [m_II, m_LL, m_RR, m_IL, m_IR, m_LI, m_LR, m_RI, m_RL, m_NI, m_NL, m_NR, m_okI, m_okL, m_okR, m_okaI, m_okaL, m_okaR, m_arI, m_arL, m_arR, gd_T, bn_S, Nat.reduceEqDiff, Nat.left_eq_add, Nat.add_eq_left, Nat.one_ne_zero, and_false, and_true, false_and, true_and, if_false, if_true]; exact yX.2.1.1
            · rcases ha with rfl | rfl <;> simp only [m_II, m_LL, m_RR, m_IL, m_IR, m_LI, m_LR, m_RI, m_RL, m_NI, m_NL, m_NR, m_okI, m_okL, m_okR, m_okaI, m_okaL, m_okaR, m_arI, m_arL, m_arR, gd_T, bn_S, Nat.reduceEqDiff, Nat.left_eq_add, Nat.add_eq_left, Nat.one_ne_zero, and_false, and_true, false_and, true_and, if_false, if_true]
            · simp only [m_II, m_LL, m_RR, m_IL, m_IR, m_LI, m_LR, m_RI, m_RL, m_NI, m_NL, m_NR, m_okI, m_okL, m_okR, m_okaI, m_okaL, m_okaR, m_arI, m_arL, m_arR, gd_T, bn_S, Nat.reduceEqDiff, Nat.left_eq_add, Nat.add_eq_left, Nat.one_ne_zero, and_false, and_true, false_and, true_and, if_false, if_true]
            · simp only [m_II, m_LL, m_RR, m_IL, m_IR, m_LI, m_LR, m_RI, m_RL, m_NI, m_NL, m_NR, m_okI, m_okL, m_okR, m_okaI, m_okaL, m_okaR, m_arI, m_arL, m_arR, gd_T, bn_S, Nat.reduceEqDiff, Nat.left_eq_add, Nat.add_eq_left, Nat.one_ne_zero, and_false, and_true, false_and, true_and, if_false, if_true]
            · simp only [m_II, m_LL, m_RR, m_IL, m_IR, m_LI, m_LR, m_RI, m_RL, m_NI, m_NL, m_NR, m_okI, m_okL, m_okR, m_okaI, m_okaL, m_okaR, m_arI, m_arL, m_arR, gd_T, bn_S, Nat.reduceEqDiff, Nat.left_eq_add, Nat.add_eq_left, Nat.one_ne_zero, and_false, and_true, false_and, true_and, if_false, if_true]
            · simp only [m_II, m_LL, m_RR, m_IL, m_IR, m_LI, m_LR, m_RI, m_RL, m_NI, m_NL, m_NR, m_okI, m_okL, m_okR, m_okaI, m_okaL, m_okaR, m_arI, m_arL, m_arR, gd_T, bn_S, Nat.reduceEqDiff, Nat.left_eq_add, Nat.add_eq_left, Nat.one_ne_zero, and_false, and_true, false_and, true_and, if_false, if_true]; exact yX.2.2.2
          obtain ⟨Y, y1, y2, y3⟩ := gY.nx N hN
          obtain ⟨Z, z1, z2, z3⟩ := ex_14 N hN T n j (J + 1) true Y (nd T n b) k (pr 1 P o).2 Q r y3 (yY.f80 y2) ⟨by omega, j2, by omega, j4.2⟩ h (by omega)
          refine ⟨Z, ?_, (((AO_AM x2).trans (f1.mono (fun a k h => by unfold AM; omega))).trans (A80_AM y2)).trans z2, z3⟩
          rw [x1', bn_S, ok_80 hX.1, gd_T]
          have e29 : rd_I (wr_I X 80 35 (nI Q.length)) 80 29 = nI (1 + op Q) := by simp only [m_II, m_LL, m_RR, m_IL, m_IR, m_LI, m_LR, m_RI, m_RL, m_NI, m_NL, m_NR, m_okI, m_okL, m_okR, m_okaI, m_okaL, m_okaR, m_arI, m_arL, m_arR, gd_T, bn_S, Nat.reduceEqDiff, Nat.left_eq_add, Nat.add_eq_left, Nat.one_ne_zero, and_false, and_true, false_and, true_and, if_false, if_true]; exact y29
          rw [e35, es, e29, eo', y1, bn_S]
          exact z1
        · rw [if_pos (show nI (op P) ≤ 0 from (nI_le (by omega) (by omega) : nI _ ≤ nI 0))]
          exact e109 (fun h => q h.2)
      · rw [decide_eq_false c6]
        exact e109 (fun h => c6 h.1)
    · rw [if_neg c0]
      have kc := kk_c T n b
      have on := (show ∀ c, c < 35 → ¬ ob c = 0 → ¬ nI (oc c) = 0 by decide +kernel) _ kc c0
      show STe T n M (if nI (oc (kk T n b)) = 0 then _ else sw_gd [sw_ok M 80 12] ((f_Model_sign N 80 (nI (oc (kk T n b))) M).bind _)) r
      rw [if_neg on, ok_80 hM.1, gd_T]
      rcases msign N hN g y iv0 c0 with ⟨W, b', k', o', P', w1, w2, w3, w4, w5, w6⟩ | ⟨W, f, p, w1, w2, w3, w4⟩
      · rw [w1, bn_S]
        obtain ⟨Z, z1, z2, z3⟩ := ex_14 N hN T n j (J + 1) false W b' k' o' P' r w3 w4 w5 (by rw [← w6]; exact h) (by omega)
        exact ⟨Z, z1, w2.trans z2, z3⟩
      · rw [w1, bn_S]
        rw [w4] at h
        obtain rfl := Option.some.inj h
        exact ⟨W, ex_fl N J 0 1 w3, w2, w3⟩
