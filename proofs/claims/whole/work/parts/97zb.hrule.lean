/-! 97zb: the rule's reading in the house: what is put, counted, refused -/
def he (e : Nat × Nat) : Int32 := hst (nI e.1, nI e.2)
theorem he_0 (v : Nat) : he (0, v) = nI 2 := rfl
theorem he_1 (v : Nat) (h : v < 6) : he (1, v) = nI (29 + v) := (show ∀ v, v < 6 → he (1, v) = nI (29 + v) by decide +kernel) v h
theorem he_2 (c : Nat) (hc : c < 35) (h : ¬ ob c = 0) : he (2, oc c) = nI c := (show ∀ c, c < 35 → ¬ ob c = 0 → he (2, oc c) = nI c by decide +kernel) c hc h
theorem he_n : he (2, 260) = nI 28 := by decide +kernel
def HOl (M : sw_M) (q : Nat) : List (Nat × Nat) → Prop
  | [] => True
  | e :: o => rd_I M (q + 1) o.length = he e ∧ (e.1 = 0 → rd_I M (q + 2) o.length = nI e.2) ∧ HOl M q o
def AH (q a k : Nat) : Prop := (a = 17 ∧ 4 ≤ k ∧ k ≤ 10) ∨ (a = q ∧ (k = 3 ∨ k = 6)) ∨ a = q + 1 ∨ a = q + 2
def AP (q a k : Nat) : Prop := (a = q ∧ k = 3) ∨ a = q + 1 ∨ a = q + 2
theorem HOl_w {M W : sw_M} {q m : Nat} (h : ∀ a k, (a = q + 1 ∨ a = q + 2) → k < m → rd_I W a k = rd_I M a k) : ∀ {o : List (Nat × Nat)}, o.length ≤ m → HOl M q o → HOl W q o
  | [], _, _ => trivial
  | e :: o, hl, g => by
    rw [List.length_cons] at hl
    obtain ⟨g1, g2, g3⟩ := g
    exact ⟨by rw [h _ _ (Or.inl rfl) (by omega)]; exact g1, fun e0 => by rw [h _ _ (Or.inr rfl) (by omega)]; exact g2 e0, HOl_w h (by omega) g3⟩
theorem HOl_fr {A : Nat → Nat → Prop} {M W : sw_M} {q : Nat} (h : Fr A M W) (h1 : ∀ k, ¬ A (q + 1) k) (h2 : ∀ k, ¬ A (q + 2) k) {o : List (Nat × Nat)} (g : HOl M q o) : HOl W q o :=
  HOl_w (m := o.length) (fun a k ha _ => by
    rcases ha with rfl | rfl
    · exact h.I _ _ (h1 k)
    · exact h.I _ _ (h2 k)) (Nat.le_refl _) g
/-- the house, a TOKEN in hand, a rule half told -/
def HZ (M : sw_M) (T : Nat → Nat) (n q b k : Nat) (o : List (Nat × Nat)) : Prop := HTx M T n ∧ rd_R M 18 1 = q ∧ b ≤ n ∧ HK M T n b ∧ (rd_I M q 6 = nI k ∧ rd_I M 17 9 = 0 ∧ rd_I M 17 10 = -1) ∧ rd_I M q 3 = nI o.length ∧ HOl M q o
theorem HZ.q {M : sw_M} {T : Nat → Nat} {n q b k : Nat} {o : List (Nat × Nat)} (g : HZ M T n q b k o) : RQ M q ∧ (q = 5 ∨ q = 20) := by
  have := g.1.1.rq.2
  rw [g.2.1] at this
  exact ⟨this, this.1⟩
theorem put_s (N : Nat) {M : sw_M} {q : Nat} (hq : RQ M q) (s : Nat) (hs : s < 48) (h3 : rd_I M q 3 = nI s) (t v : Int32) :
    f_Rule_put N q t v M = some (wr_I (wr_I (wr_I M (q + 1) s t) (q + 2) s v) q 3 (nI (s + 1))) := by
  have qq := hq.1
  unfold f_Rule_put
  rw [hq.ok, gd_T, hq.r0, hq.o1, gd_T, hq.l1, h3, if_neg (nI_ge hs (by omega)), hq.a1, ti_n hs (by decide), gd_T, cl_n (show s < 2 ^ 31 by omega)]
  have e1 : rd_R (wr_I M (q + 1) s t) q 1 = q + 2 := by rw [← hq.r1]; rfl
  have e2 : rd_I (wr_I M (q + 1) s t) q 3 = nI s := by
    rw [← h3]
    rcases qq with rfl | rfl <;> simp only [m_II, m_LL, m_RR, m_IL, m_IR, m_LI, m_LR, m_RI, m_RL, m_NI, m_NL, m_NR, m_okI, m_okL, m_okR, m_okaI, m_okaL, m_okaR, m_arI, m_arL, m_arR, gd_T, bn_S, Nat.reduceEqDiff, Nat.left_eq_add, Nat.add_eq_left, Nat.one_ne_zero, and_false, and_true, false_and, true_and, if_false, if_true]
  have e3 : RQ (wr_I M (q + 1) s t) q := ((Fr.refl (fun a k => a = q + 1) M).wI _ _ _ rfl).rq hq
  rw [e1, e2, e3.a2, ti_n hs (by decide), gd_T, cl_n (show s < 2 ^ 31 by omega)]
  have e4 : rd_I (wr_I (wr_I M (q + 1) s t) (q + 2) s v) q 3 = nI s := by
    rw [← h3]
    rcases qq with rfl | rfl <;> simp only [m_II, m_LL, m_RR, m_IL, m_IR, m_LI, m_LR, m_RI, m_RL, m_NI, m_NL, m_NR, m_okI, m_okL, m_okR, m_okaI, m_okaL, m_okaR, m_arI, m_arL, m_arR, gd_T, bn_S, Nat.reduceEqDiff, Nat.left_eq_add, Nat.add_eq_left, Nat.one_ne_zero, and_false, and_true, false_and, true_and, if_false, if_true]
  rw [e4, nI_1]
theorem put_f (N : Nat) {M : sw_M} {q : Nat} (hq : RQ M q) (s : Nat) (hs : s ≤ 48) (h3 : rd_I M q 3 = nI s) (t v : Int32) :
    ∃ W, f_Rule_put N q t v M = some W ∧ Fr (AP q) M W ∧ ∃ s, s ≤ 48 ∧ rd_I W q 3 = nI s := by
  by_cases c : s < 48
  · refine ⟨_, put_s N hq s c h3 t v, (((Fr.refl _ M).wI _ _ _ (Or.inr (Or.inl rfl))).wI _ _ _ (Or.inr (Or.inr rfl))).wI _ _ _ (Or.inl ⟨rfl, rfl⟩), s + 1, by omega, ?_⟩
    rcases hq.1 with rfl | rfl <;> simp only [m_II, m_LL, m_RR, m_IL, m_IR, m_LI, m_LR, m_RI, m_RL, m_NI, m_NL, m_NR, m_okI, m_okL, m_okR, m_okaI, m_okaL, m_okaR, m_arI, m_arL, m_arR, gd_T, bn_S, Nat.reduceEqDiff, Nat.left_eq_add, Nat.add_eq_left, Nat.one_ne_zero, and_false, and_true, false_and, true_and, if_false, if_true]
  · obtain rfl : s = 48 := by omega
    refine ⟨M, ?_, Fr.refl _ _, 48, by omega, h3⟩
    unfold f_Rule_put
    rw [hq.ok, gd_T, hq.r0, hq.o1, gd_T, hq.l1, h3, if_pos (nI_le (Nat.le_refl _) (by omega))]
theorem put_o (N : Nat) {M : sw_M} {q : Nat} (hq : RQ M q) {o : List (Nat × Nat)} (ho : o.length < 48) (h3 : rd_I M q 3 = nI o.length) (g : HOl M q o) (e : Nat × Nat) (v : Int32) (hv : e.1 = 0 → v = nI e.2) :
    ∃ W, f_Rule_put N q (he e) v M = some W ∧ Fr (AP q) M W ∧ rd_I W q 3 = nI (e :: o).length ∧ HOl W q (e :: o) := by
  refine ⟨_, put_s N hq o.length ho h3 (he e) v, (((Fr.refl _ M).wI _ _ _ (Or.inr (Or.inl rfl))).wI _ _ _ (Or.inr (Or.inr rfl))).wI _ _ _ (Or.inl ⟨rfl, rfl⟩), ?_, ?_, ?_, ?_⟩
  · rw [List.length_cons]
    rcases hq.1 with rfl | rfl <;> simp only [m_II, m_LL, m_RR, m_IL, m_IR, m_LI, m_LR, m_RI, m_RL, m_NI, m_NL, m_NR, m_okI, m_okL, m_okR, m_okaI, m_okaL, m_okaR, m_arI, m_arL, m_arR, gd_T, bn_S, Nat.reduceEqDiff, Nat.left_eq_add, Nat.add_eq_left, Nat.one_ne_zero, and_false, and_true, false_and, true_and, if_false, if_true]
  · rcases hq.1 with rfl | rfl <;> simp only [m_II, m_LL, m_RR, m_IL, m_IR, m_LI, m_LR, m_RI, m_RL, m_NI, m_NL, m_NR, m_okI, m_okL, m_okR, m_okaI, m_okaL, m_okaR, m_arI, m_arL, m_arR, gd_T, bn_S, Nat.reduceEqDiff, Nat.left_eq_add, Nat.add_eq_left, Nat.one_ne_zero, and_false, and_true, false_and, true_and, if_false, if_true]
  · intro e0
    rw [← hv e0]
    rcases hq.1 with rfl | rfl <;> simp only [m_II, m_LL, m_RR, m_IL, m_IR, m_LI, m_LR, m_RI, m_RL, m_NI, m_NL, m_NR, m_okI, m_okL, m_okR, m_okaI, m_okaL, m_okaR, m_arI, m_arL, m_arR, gd_T, bn_S, Nat.reduceEqDiff, Nat.left_eq_add, Nat.add_eq_left, Nat.one_ne_zero, and_false, and_true, false_and, true_and, if_false, if_true]
  · refine HOl_w (m := o.length) (fun a k ha hk => ?_) (Nat.le_refl _) g
    have hk' : ¬ k = o.length := by omega
    rcases hq.1 with rfl | rfl <;> rcases ha with rfl | rfl <;> simp [m_II, m_LL, m_RR, m_IL, m_IR, m_LI, m_LR, m_RI, m_RL, m_NI, m_NL, m_NR, m_okI, m_okL, m_okR, m_okaI, m_okaL, m_okaR, m_arI, m_arL, m_arR, gd_T, bn_S, Nat.reduceEqDiff, Nat.left_eq_add, Nat.add_eq_left, Nat.one_ne_zero, and_false, and_true, false_and, true_and, if_false, if_true, hk']
theorem hwrong (N : Nat) {M : sw_M} (hH : HR M) (f : Int32) : f_Reader_wrong N 17 f M = some (0, wr_I (wr_I M 17 9 f) 17 10 (rd_I M 17 4)) := by
  unfold f_Reader_wrong
  rw [ok_17 hH.1, gd_T]
  have : rd_I (wr_I M 17 9 f) 17 4 = rd_I M 17 4 := by simp only [m_II, m_LL, m_RR, m_IL, m_IR, m_LI, m_LR, m_RI, m_RL, m_NI, m_NL, m_NR, m_okI, m_okL, m_okR, m_okaI, m_okaL, m_okaR, m_arI, m_arL, m_arR, gd_T, bn_S, Nat.reduceEqDiff, Nat.left_eq_add, Nat.add_eq_left, Nat.one_ne_zero, and_false, and_true, false_and, true_and, if_false, if_true]
  rw [this]
/-- the house has met a FAULT -/
def FZ (W : sw_M) (q f p : Nat) : Prop := HR W ∧ rd_R W 18 1 = q ∧ rd_I W 17 9 = nI f ∧ rd_I W 17 10 = nI p ∧ ∃ s, s ≤ 48 ∧ rd_I W q 3 = nI s
theorem FZ.put {W : sw_M} {q f p : Nat} (g : FZ W q f p) (N : Nat) (t v : Int32) : ∃ V, f_Rule_put N q t v W = some V ∧ Fr (AP q) W V ∧ FZ V q f p := by
  obtain ⟨g1, g2, g3, g4, s, s1, s2⟩ := g
  have hq := g1.rq.2
  rw [g2] at hq
  obtain ⟨V, v1, v2, v3⟩ := put_f N hq s s1 s2 t v
  refine ⟨V, v1, v2, v2.hr g1, (v2.R _ _).trans g2, ?_, ?_, v3⟩
  · rw [v2.I 17 9 (by unfold AP; rcases hq.1 with rfl | rfl <;> omega)]; exact g3
  · rw [v2.I 17 10 (by unfold AP; rcases hq.1 with rfl | rfl <;> omega)]; exact g4
theorem HZ.wrong {M : sw_M} {T : Nat → Nat} {n q b k : Nat} {o : List (Nat × Nat)} (g : HZ M T n q b k o) (N : Nat) (ho : o.length ≤ 48) (f : Nat) : ∃ W, f_Reader_wrong N 17 (nI f) M = some (0, W) ∧ Fr (AH q) M W ∧ FZ W q f (pl T n b) := by
  obtain ⟨qr, qq⟩ := g.q
  obtain ⟨g1, g2, g3, g4, g5, g6, g7⟩ := g
  refine ⟨_, hwrong N g1.1 _, ((Fr.refl _ M).wI _ _ _ (by unfold AH; omega)).wI _ _ _ (by unfold AH; omega), ?_, ?_, ?_, ?_, o.length, ho, ?_⟩
  · exact (((Fr.refl (AH q) M).wI 17 9 (nI f) (by unfold AH; omega)).wI 17 10 (rd_I M 17 4) (by unfold AH; omega)).hr g1.1
  · exact g2
  · simp only [m_II, m_LL, m_RR, m_IL, m_IR, m_LI, m_LR, m_RI, m_RL, m_NI, m_NL, m_NR, m_okI, m_okL, m_okR, m_okaI, m_okaL, m_okaR, m_arI, m_arL, m_arR, gd_T, bn_S, Nat.reduceEqDiff, Nat.left_eq_add, Nat.add_eq_left, Nat.one_ne_zero, and_false, and_true, false_and, true_and, if_false, if_true]
  · simp only [m_II, m_LL, m_RR, m_IL, m_IR, m_LI, m_LR, m_RI, m_RL, m_NI, m_NL, m_NR, m_okI, m_okL, m_okR, m_okaI, m_okaL, m_okaR, m_arI, m_arL, m_arR, gd_T, bn_S, Nat.reduceEqDiff, Nat.left_eq_add, Nat.add_eq_left, Nat.one_ne_zero, and_false, and_true, false_and, true_and, if_false, if_true]; exact g4.1
  · rw [← g6]
    rcases qq with rfl | rfl <;> simp only [m_II, m_LL, m_RR, m_IL, m_IR, m_LI, m_LR, m_RI, m_RL, m_NI, m_NL, m_NR, m_okI, m_okL, m_okR, m_okaI, m_okaL, m_okaR, m_arI, m_arL, m_arR, gd_T, bn_S, Nat.reduceEqDiff, Nat.left_eq_add, Nat.add_eq_left, Nat.one_ne_zero, and_false, and_true, false_and, true_and, if_false, if_true]
theorem HZ.adv {M : sw_M} {T : Nat → Nat} {n q b k : Nat} {o : List (Nat × Nat)} (g : HZ M T n q b k o) (N : Nat) (hN : 1000 ≤ N) : ∃ W, f_Reader_advance N 17 M = some W ∧ Fr (AH q) M W ∧ HZ W T n q (nd T n b) k o := by
  obtain ⟨qr, qq⟩ := g.q
  obtain ⟨g1, g2, g3, g4, g5, g6, g7⟩ := g
  have nb := (nd_b T n b g1.2.1 g3).1
  obtain ⟨W, w1, w2, w3⟩ := Reader_advance N hN T n (nd T n b) M g1 nb g4.2.1
  refine ⟨W, w1, w2.mono (fun a k h => by unfold A17 at h; unfold AH; omega), g1.f17 w2, (w2.R _ _).trans g2, nb, w3, ?_, ?_, ?_⟩
  · exact ⟨(w2.I q 6 (by unfold A17; omega)).trans g5.1, (w2.I 17 9 (by unfold A17; omega)).trans g5.2.1, (w2.I 17 10 (by unfold A17; omega)).trans g5.2.2⟩
  · rw [w2.I q 3 (by unfold A17; omega)]; exact g6
  · exact HOl_fr w2 (fun k => by unfold A17; omega) (fun k => by unfold A17; omega) g7
theorem HZ.fr3 {M W : sw_M} {T : Nat → Nat} {n q b k : Nat} {o o' : List (Nat × Nat)} (g : HZ M T n q b k o) (h : Fr (AP q) M W) (h3 : rd_I W q 3 = nI o'.length) (ho : HOl W q o') : HZ W T n q b k o' := by
  obtain ⟨qr, qq⟩ := g.q
  obtain ⟨g1, g2, g3, ⟨a1, a2, a3, a4⟩, g5, g6, g7⟩ := g
  have i17 : ∀ k, rd_I W 17 k = rd_I M 17 k := fun k => h.I 17 k (by unfold AP; omega)
  refine ⟨g1.fr h (by unfold AP; omega) (fun k => by unfold AP; omega), (h.R _ _).trans g2, g3, ⟨(i17 4).trans a1, (i17 5).trans a2, (i17 6).trans a3, fun c => (i17 7).trans (a4 c)⟩, ?_, h3, ho⟩
  exact ⟨(h.I q 6 (by unfold AP; omega)).trans g5.1, (i17 9).trans g5.2.1, (i17 10).trans g5.2.2⟩
theorem HZ.knot {M : sw_M} {T : Nat → Nat} {n q b k : Nat} {o : List (Nat × Nat)} (g : HZ M T n q b k o) (N : Nat) (hN : 1000 ≤ N) (ho : o.length ≤ 48) (hk : k ≤ 48) :
    (k < 48 ∧ ∃ W, f_Reader_knot N 17 M = some (1, W) ∧ Fr (AH q) M W ∧ HZ W T n q (nd T n b) (k + 1) o) ∨ (k = 48 ∧ ∃ W, f_Reader_knot N 17 M = some (0, W) ∧ Fr (AH q) M W ∧ FZ W q 2 (pl T n b)) := by
  have g0 := g
  obtain ⟨qr, qq⟩ := g.q
  obtain ⟨g1, g2, g3, g4, g5, g6, g7⟩ := g
  have hH := g1.1
  have e : ∀ X, f_Reader_knot N 17 M = X ↔ (if nI k < (48 : Int32) then (f_Reader_advance N 17 (wr_I M q 6 (nI (k + 1)))).bind (fun u4 => some ((1 : Int32), u4)) else (f_Reader_wrong N 17 (2 : Int32) M).bind (fun u5 => sw_gd [sw_bz u5.1] (some (u5.1, u5.2)))) = X := fun X => by
    unfold f_Reader_knot
    rw [ok_17 hH.1, gd_T, hr_f hH 17 1 18 rfl (by decide), ok_18 hH.1, gd_T, g2, qr.ok, gd_T, g5.1, nI_1]
  rcases Nat.lt_or_ge k 48 with c | c
  · left
    refine ⟨c, ?_⟩
    have f1 : Fr (AH q) M (wr_I M q 6 (nI (k + 1))) := (Fr.refl _ M).wI _ _ _ (by unfold AH; omega)
    have z : HZ (wr_I M q 6 (nI (k + 1))) T n q b (k + 1) o := by
      have i17 : ∀ j, rd_I (wr_I M q 6 (nI (k + 1))) 17 j = rd_I M 17 j := fun j => by rcases qq with rfl | rfl <;> simp only [m_II, m_LL, m_RR, m_IL, m_IR, m_LI, m_LR, m_RI, m_RL, m_NI, m_NL, m_NR, m_okI, m_okL, m_okR, m_okaI, m_okaL, m_okaR, m_arI, m_arL, m_arR, gd_T, bn_S, Nat.reduceEqDiff, Nat.left_eq_add, Nat.add_eq_left, Nat.one_ne_zero, and_false, and_true, false_and, true_and, if_false, if_true]
      refine ⟨g1.fr (A := fun a k => a = q ∧ k = 6) ((Fr.refl _ M).wI _ _ _ ⟨rfl, rfl⟩) (by omega) (fun k => by omega), g2, g3, ⟨(i17 4).trans g4.1, (i17 5).trans g4.2.1, (i17 6).trans g4.2.2.1, fun c => (i17 7).trans (g4.2.2.2 c)⟩, ⟨?_, (i17 9).trans g5.2.1, (i17 10).trans g5.2.2⟩, ?_, ?_⟩
      · rcases qq with rfl | rfl <;> simp only [m_II, m_LL, m_RR, m_IL, m_IR, m_LI, m_LR, m_RI, m_RL, m_NI, m_NL, m_NR, m_okI, m_okL, m_okR, m_okaI, m_okaL, m_okaR, m_arI, m_arL, m_arR, gd_T, bn_S, Nat.reduceEqDiff, Nat.left_eq_add, Nat.add_eq_left, Nat.one_ne_zero, and_false, and_true, false_and, true_and, if_false, if_true]
      · rw [← g6]
        rcases qq with rfl | rfl <;> simp only [m_II, m_LL, m_RR, m_IL, m_IR, m_LI, m_LR, m_RI, m_RL, m_NI, m_NL, m_NR, m_okI, m_okL, m_okR, m_okaI, m_okaL, m_okaR, m_arI, m_arL, m_arR, gd_T, bn_S, Nat.reduceEqDiff, Nat.left_eq_add, Nat.add_eq_left, Nat.one_ne_zero, and_false, and_true, false_and, true_and, if_false, if_true]
      · exact HOl_fr (A := fun a k => a = q ∧ k = 6) ((Fr.refl _ M).wI _ _ _ ⟨rfl, rfl⟩) (fun k => by omega) (fun k => by omega) g7
    obtain ⟨W, w1, w2, w3⟩ := z.adv N hN
    refine ⟨W, ?_, f1.trans w2, w3⟩
    rw [e, if_pos (show nI k < (48 : Int32) from (nI_lt c (by omega) : nI k < nI 48)), w1, bn_S]
  · right
    obtain rfl : k = 48 := by omega
    refine ⟨rfl, ?_⟩
    obtain ⟨W, w1, w2, w3⟩ := g0.wrong N (by omega) 2
    refine ⟨W, ?_, w2, w3⟩
    rw [e, if_neg (by decide), show (2 : Int32) = nI 2 from rfl, w1, bn_S]
    rfl
theorem HZ.expect {M : sw_M} {T : Nat → Nat} {n q b k : Nat} {o : List (Nat × Nat)} (g : HZ M T n q b k o) (N : Nat) (hN : 1000 ≤ N) (ho : o.length ≤ 48) (t : Nat) (ht : t < 35) :
    (kk T n b = t ∧ ∃ W, f_Reader_expect N 17 (nI t) M = some (1, W) ∧ Fr (AH q) M W ∧ HZ W T n q (nd T n b) k o) ∨ (¬ kk T n b = t ∧ ∃ W, f_Reader_expect N 17 (nI t) M = some (0, W) ∧ Fr (AH q) M W ∧ FZ W q 1 (pl T n b)) := by
  have hH := g.1.1
  have h6 := g.2.2.2.1.2.2.1
  have kc := kk_c T n b
  by_cases c : kk T n b = t
  · left
    obtain ⟨W, w1, w2, w3⟩ := g.adv N hN
    refine ⟨c, W, ?_, w2, w3⟩
    unfold f_Reader_expect
    rw [ok_17 hH.1, gd_T, h6, if_pos (by rw [c]), w1, bn_S]
  · right
    obtain ⟨W, w1, w2, w3⟩ := g.wrong N ho 1
    refine ⟨c, W, ?_, w2, w3⟩
    unfold f_Reader_expect
    rw [ok_17 hH.1, gd_T, h6, if_neg (fun h => c ((nI_eq (by omega) (by omega)).1 h)), show (1 : Int32) = nI 1 from rfl, w1, bn_S]
    rfl
