/-! 97zk: numbers, on both sides -/
abbrev PE (α : Type) : Type := (Nat × Nat) ⊕ (α × Nat)
def pbn {α β : Type} (r : PE α) (k : α → Nat → PE β) : PE β := match r with
  | Sum.inl e => Sum.inl e
  | Sum.inr (v, b) => k v b
def nuq (T : Nat → Nat) (n lo hi b : Nat) : PE Int32 := if kk T n b = 2 then (if vm T n b < lo ∨ hi < vm T n b then Sum.inl (2, pl T n b) else Sum.inr (nI (vm T n b), nd T n b)) else Sum.inl (1, pl T n b)
def suq (T : Nat → Nat) (n hi b : Nat) : PE Int32 := if kk T n b = 8 then pbn (nuq T n 0 hi (nd T n b)) (fun v b' => Sum.inr (-v, b')) else nuq T n 0 hi b
def HB (M : sw_M) (T : Nat → Nat) (n b : Nat) : Prop := HTx M T n ∧ b ≤ n ∧ rd_I M 17 4 = nI (pl T n b) ∧ rd_I M 17 5 = nI (nd T n b) ∧ rd_I M 17 6 = nI (kk T n b) ∧ (kk T n b = 2 → rd_I M 17 7 = nI (vh T n b)) ∧ rd_I M 17 9 = 0 ∧ rd_I M 17 10 = -1
def FH (W : sw_M) (f p : Nat) : Prop := HR W ∧ rd_I W 17 9 = nI f ∧ rd_I W 17 10 = nI p ∧ 1 ≤ f ∧ f ≤ 3
def HSp {α : Type} (T : Nat → Nat) (n : Nat) (A : Nat → Nat → Prop) (M : sw_M) (x : Option (Int32 × sw_M)) (r : PE α) (post : α → sw_M → Prop) : Prop := match r with
  | Sum.inl (f, p) => ∃ W, x = some (0, W) ∧ Fr A M W ∧ FH W f p
  | Sum.inr (v, b') => ∃ W, x = some (1, W) ∧ Fr A M W ∧ HB W T n b' ∧ post v W
def MNp (T : Nat → Nat) (n : Nat) (A : Nat → Nat → Prop) (M : sw_M) (x : Option (Int32 × sw_M)) (r : PE Int32) : Prop := match r with
  | Sum.inl (f, p) => ∃ W, x = some (0, W) ∧ Fr A M W ∧ FM W T n f p
  | Sum.inr (v, b') => ∃ W, x = some (v, W) ∧ Fr A M W ∧ MB W T n b' ∧ rd_I W 80 30 = 0
def MSp {α : Type} (T : Nat → Nat) (n : Nat) (A : Nat → Nat → Prop) (M : sw_M) (x : Option sw_M) (r : PE α) (post : α → sw_M → Prop) : Prop := match r with
  | Sum.inl (f, p) => ∃ W, x = some W ∧ Fr A M W ∧ FM W T n f p
  | Sum.inr (v, b') => ∃ W, x = some W ∧ Fr A M W ∧ MB W T n b' ∧ rd_I W 80 30 = 0 ∧ post v W
theorem HSp.mono {α : Type} {T : Nat → Nat} {n : Nat} {A B : Nat → Nat → Prop} {M0 M : sw_M} {x : Option (Int32 × sw_M)} {r : PE α} {post post' : α → sw_M → Prop} (h : HSp T n A M x r post) (h0 : Fr B M0 M) (hAB : ∀ a k, A a k → B a k) (hp : ∀ v Z, Fr A M Z → post v Z → post' v Z) : HSp T n B M0 x r post' := by
  rcases r with ⟨f, p⟩ | ⟨v, b'⟩
  · obtain ⟨W, w1, w2, w3⟩ := h
    exact ⟨W, w1, h0.trans (w2.mono hAB), w3⟩
  · obtain ⟨W, w1, w2, w3, w4⟩ := h
    exact ⟨W, w1, h0.trans (w2.mono hAB), w3, hp v W w2 w4⟩
theorem MSp.mono {α : Type} {T : Nat → Nat} {n : Nat} {A B : Nat → Nat → Prop} {M0 M : sw_M} {x : Option sw_M} {r : PE α} {post post' : α → sw_M → Prop} (h : MSp T n A M x r post) (h0 : Fr B M0 M) (hAB : ∀ a k, A a k → B a k) (hp : ∀ v Z, Fr A M Z → post v Z → post' v Z) : MSp T n B M0 x r post' := by
  rcases r with ⟨f, p⟩ | ⟨v, b'⟩
  · obtain ⟨W, w1, w2, w3⟩ := h
    exact ⟨W, w1, h0.trans (w2.mono hAB), w3⟩
  · obtain ⟨W, w1, w2, w3, w4, w5⟩ := h
    exact ⟨W, w1, h0.trans (w2.mono hAB), w3, w4, hp v W w2 w5⟩
theorem HSp.bind {α β : Type} {T : Nat → Nat} {n : Nat} {A B : Nat → Nat → Prop} {M : sw_M} {x : Option (Int32 × sw_M)} {r : PE α} {post : α → sw_M → Prop} {K : sw_M → Option (Int32 × sw_M)} {k : α → Nat → PE β} {post2 : β → sw_M → Prop} (h : HSp T n A M x r post) (hAB : ∀ a k, A a k → B a k) (hK : ∀ v b' W, Fr A M W → HB W T n b' → post v W → HSp T n B W (K W) (k v b') post2) : HSp T n B M (x.bind (fun u => if u.1 = 0 then some ((0 : Int32), u.2) else K u.2)) (pbn r k) post2 := by
  rcases r with ⟨f, p⟩ | ⟨v, b'⟩
  · obtain ⟨W, w1, w2, w3⟩ := h
    refine ⟨W, ?_, w2.mono hAB, w3⟩
    rw [w1, bn_S]
    rfl
  · obtain ⟨W, w1, w2, w3, w4⟩ := h
    have := (hK v b' W w2 w3 w4).mono (w2.mono hAB) (fun a k h => h) (fun v Z _ h => h)
    rw [w1, bn_S]
    exact this
theorem MNp.bind {β : Type} {T : Nat → Nat} {n : Nat} {A B : Nat → Nat → Prop} {M : sw_M} {x : Option (Int32 × sw_M)} {r : PE Int32} {K : Int32 → sw_M → Option sw_M} {k : Int32 → Nat → PE β} {post2 : β → sw_M → Prop} (h : MNp T n A M x r) (hAB : ∀ a k, A a k → B a k) (hF : ∀ f p W, FM W T n f p → ∃ Z, K 0 W = some Z ∧ Fr B W Z ∧ FM Z T n f p) (hK : ∀ v b' W, Fr A M W → MB W T n b' → rd_I W 80 30 = 0 → MSp T n B W (K v W) (k v b') post2) : MSp T n B M (x.bind (fun u => K u.1 u.2)) (pbn r k) post2 := by
  rcases r with ⟨f, p⟩ | ⟨v, b'⟩
  · obtain ⟨W, w1, w2, w3⟩ := h
    obtain ⟨Z, z1, z2, z3⟩ := hF f p W w3
    refine ⟨Z, ?_, (w2.mono hAB).trans z2, z3⟩
    rw [w1, bn_S]
    exact z1
  · obtain ⟨W, w1, w2, w3, w4⟩ := h
    have := (hK v b' W w2 w3 w4).mono (w2.mono hAB) (fun a k h => h) (fun v Z _ h => h)
    rw [w1, bn_S]
    exact this
theorem HB.fr {A : Nat → Nat → Prop} {M W : sw_M} {T : Nat → Nat} {n b : Nat} (g : HB M T n b) (h : Fr A M W) (h1 : ∀ k, 3 ≤ k → (k ≤ 7 ∨ k = 9 ∨ k = 10) → ¬ A 17 k) (h2 : ∀ k, ¬ A 2 k) : HB W T n b := by
  obtain ⟨g1, g2, a1, a2, a3, a4, a5⟩ := g
  have i : ∀ k, 3 ≤ k → (k ≤ 7 ∨ k = 9 ∨ k = 10) → rd_I W 17 k = rd_I M 17 k := fun k k1 k2 => h.I 17 k (h1 k k1 k2)
  exact ⟨g1.fr h (h1 3 (by omega) (by omega)) h2, g2, (i 4 (by omega) (by omega)).trans a1, (i 5 (by omega) (by omega)).trans a2, (i 6 (by omega) (by omega)).trans a3, fun c => (i 7 (by omega) (by omega)).trans (a4 c), (i 9 (by omega) (by omega)).trans a5.1, (i 10 (by omega) (by omega)).trans a5.2⟩
theorem HB.hk {M : sw_M} {T : Nat → Nat} {n b : Nat} (g : HB M T n b) : HK M T n b := ⟨g.2.2.1, g.2.2.2.1, g.2.2.2.2.1, g.2.2.2.2.2.1⟩
theorem HB.adv {M : sw_M} {T : Nat → Nat} {n b : Nat} (g : HB M T n b) (N : Nat) (hN : 1000 ≤ N) : ∃ W, f_Reader_advance N 17 M = some W ∧ Fr A17 M W ∧ HB W T n (nd T n b) := by
  have nb := (nd_b T n b g.1.2.1 g.2.1).1
  obtain ⟨W, w1, w2, w3⟩ := Reader_advance N hN T n (nd T n b) M g.1 nb g.2.2.2.1
  exact ⟨W, w1, w2, g.1.f17 w2, nb, w3.1, w3.2.1, w3.2.2.1, w3.2.2.2, (w2.I 17 9 (by unfold A17; omega)).trans g.2.2.2.2.2.2.1, (w2.I 17 10 (by unfold A17; omega)).trans g.2.2.2.2.2.2.2⟩
def A8 (a k : Nat) : Prop := a = 17 ∧ 4 ≤ k ∧ k ≤ 10
theorem HB.wrong {M : sw_M} {T : Nat → Nat} {n b : Nat} (g : HB M T n b) (N f : Nat) (f1 : 1 ≤ f) (f2 : f ≤ 3) : ∃ W, (f_Reader_wrong N 17 (nI f) M).bind (fun u => sw_gd [sw_bz u.1] (some (u.1, u.2))) = some (0, W) ∧ Fr A8 M W ∧ FH W f (pl T n b) := by
  have fr : Fr A8 M (wr_I (wr_I M 17 9 (nI f)) 17 10 (rd_I M 17 4)) := ((Fr.refl _ M).wI _ _ _ (by unfold A8; omega)).wI _ _ _ (by unfold A8; omega)
  refine ⟨wr_I (wr_I M 17 9 (nI f)) 17 10 (rd_I M 17 4), ?_, fr, fr.hr g.1.1, ?_, ?_, f1, f2⟩
  · rw [hwrong N g.1.1, bn_S]
    rfl
  · simp only [m_II, m_LL, m_RR, m_IL, m_IR, m_LI, m_LR, m_RI, m_RL, m_NI, m_NL, m_NR, m_okI, m_okL, m_okR, m_okaI, m_okaL, m_okaR, m_arI, m_arL, m_arR, gd_T, bn_S, Nat.reduceEqDiff, Nat.left_eq_add, Nat.add_eq_left, Nat.one_ne_zero, and_false, and_true, false_and, true_and, if_false, if_true]
  · simp only [m_II, m_LL, m_RR, m_IL, m_IR, m_LI, m_LR, m_RI, m_RL, m_NI, m_NL, m_NR, m_okI, m_okL, m_okR, m_okaI, m_okaL, m_okaR, m_arI, m_arL, m_arR, gd_T, bn_S, Nat.reduceEqDiff, Nat.left_eq_add, Nat.add_eq_left, Nat.one_ne_zero, and_false, and_true, false_and, true_and, if_false, if_true]; exact g.2.2.1
theorem hnum (N : Nat) (hN : 1000 ≤ N) {M : sw_M} {T : Nat → Nat} {n b : Nat} (g : HB M T n b) (lo hi : Nat) (hl : lo ≤ 99999) (hh : hi ≤ 99999) : HSp T n A8 M (f_Reader_number N 17 (nI lo) (nI hi) M) (nuq T n lo hi b) (fun v W => rd_I W 17 8 = v) := by
  have hH := g.1.1
  have kc := kk_c T n b
  have h6 := g.2.2.2.2.1
  unfold f_Reader_number nuq
  rw [ok_17 hH.1, gd_T, h6]
  by_cases c : kk T n b = 2
  · have h7 := g.2.2.2.2.2.1 c
    have vv := vhm T n b g.2.1
    have w30 : HSp T n A8 M (f_Reader_number_30 N 17 M) (Sum.inl (2, pl T n b) : PE Int32) (fun v W => rd_I W 17 8 = v) := by
      obtain ⟨W, w1, w2, w3⟩ := g.wrong N 2 (by omega) (by omega)
      refine ⟨W, ?_, w2, w3⟩
      unfold f_Reader_number_30
      rw [ok_17 hH.1, gd_T]
      exact w1
    rw [if_pos (by rw [c]; rfl), if_pos c, h7]
    by_cases q1 : vh T n b < lo
    · rw [if_pos (nI_lt q1 (by omega)), if_pos (by omega)]
      exact w30
    rw [if_neg (nI_nlt (by omega) (by omega))]
    by_cases q2 : vh T n b ≤ hi
    · rw [if_pos (nI_le q2 (by omega)), if_neg (by omega)]
      have f1 : Fr A8 M (wr_I M 17 8 (nI (vh T n b))) := (Fr.refl _ M).wI _ _ _ (by unfold A8; omega)
      obtain ⟨W, w1, w2, w3⟩ := (g.fr (A := fun a k => a = 17 ∧ k = 8) ((Fr.refl _ M).wI 17 8 (nI (vh T n b)) ⟨rfl, rfl⟩) (fun k h1 h2 => by omega) (fun k => by omega)).adv N hN
      refine ⟨W, by rw [w1, bn_S], f1.trans (w2.mono (fun a k h => by unfold A17 at h; unfold A8; omega)), w3, ?_⟩
      show rd_I W 17 8 = nI (vm T n b)
      rw [w2.I 17 8 (by unfold A17; omega)]
      simp only [m_II, m_LL, m_RR, m_IL, m_IR, m_LI, m_LR, m_RI, m_RL, m_NI, m_NL, m_NR, m_okI, m_okL, m_okR, m_okaI, m_okaL, m_okaR, m_arI, m_arL, m_arR, gd_T, bn_S, Nat.reduceEqDiff, Nat.left_eq_add, Nat.add_eq_left, Nat.one_ne_zero, and_false, and_true, false_and, true_and, if_false, if_true]
      rw [show vh T n b = vm T n b by omega]
    · rw [if_neg (nI_ge (by omega) (by omega)), if_pos (by omega)]
      exact w30
  · rw [if_neg (show ¬ nI (kk T n b) = (2 : Int32) from fun h => c ((nI_eq (by omega) (by decide)).1 (h : nI _ = nI 2))), if_neg c]
    obtain ⟨W, w1, w2, w3⟩ := g.wrong N 1 (by omega) (by omega)
    exact ⟨W, w1, w2, w3⟩
theorem hsig (N : Nat) (hN : 1000 ≤ N) {M : sw_M} {T : Nat → Nat} {n b : Nat} (g : HB M T n b) (hi : Nat) (hh : hi ≤ 99999) : HSp T n A8 M (f_Reader_signed N 17 (nI hi) M) (suq T n hi b) (fun v W => rd_I W 17 8 = v) := by
  have hH := g.1.1
  have kc := kk_c T n b
  have h6 := g.2.2.2.2.1
  have s23 : ∀ (X : sw_M) (b1 : Nat) (a2 : Int32), HB X T n b1 → (a2 = 0 ∨ a2 = 1) → HSp T n A8 X (f_Reader_signed_23 N 17 (nI hi) a2 X) (pbn (nuq T n 0 hi b1) (fun v b' => Sum.inr (if a2 = 0 then v else -v, b'))) (fun v W => rd_I W 17 8 = v) := fun X b1 a2 gX ha => by
    unfold f_Reader_signed_23
    rw [ok_17 gX.1.1.1, gd_T]
    refine HSp.bind (K := fun V => if a2 = 0 then sw_gd [sw_ok V 17 6] (some ((1 : Int32), (wr_I V 17 8 (rd_I V 17 8)))) else sw_gd [sw_ok V 17 6] (some ((1 : Int32), (wr_I V 17 8 (-(rd_I V 17 8)))))) (hnum N hN gX 0 hi (by omega) hh) (fun a k h => h) (fun v b' W w1 w2 w3 => ?_)
    have fr : ∀ z, Fr A8 W (wr_I W 17 8 z) := fun z => (Fr.refl _ W).wI _ _ _ (by unfold A8; omega)
    have gg : ∀ z, HB (wr_I W 17 8 z) T n b' := fun z => w2.fr (A := fun a k => a = 17 ∧ k = 8) ((Fr.refl _ W).wI 17 8 z ⟨rfl, rfl⟩) (fun k h1 h2 => by omega) (fun k => by omega)
    rcases ha with rfl | rfl
    · refine ⟨wr_I W 17 8 (rd_I W 17 8), ?_, fr _, gg _, ?_⟩
      · show (if (0 : Int32) = 0 then _ else _) = _
        rw [if_pos rfl, ok_17 w2.1.1.1, gd_T]
      · show rd_I (wr_I W 17 8 (rd_I W 17 8)) 17 8 = if (0 : Int32) = 0 then v else -v
        rw [if_pos rfl]
        simp only [m_II, m_LL, m_RR, m_IL, m_IR, m_LI, m_LR, m_RI, m_RL, m_NI, m_NL, m_NR, m_okI, m_okL, m_okR, m_okaI, m_okaL, m_okaR, m_arI, m_arL, m_arR, gd_T, bn_S, Nat.reduceEqDiff, Nat.left_eq_add, Nat.add_eq_left, Nat.one_ne_zero, and_false, and_true, false_and, true_and, if_false, if_true]; exact w3
    · refine ⟨wr_I W 17 8 (-(rd_I W 17 8)), ?_, fr _, gg _, ?_⟩
      · show (if (1 : Int32) = 0 then _ else _) = _
        rw [if_neg (by decide), ok_17 w2.1.1.1, gd_T]
      · show rd_I (wr_I W 17 8 (-(rd_I W 17 8))) 17 8 = if (1 : Int32) = 0 then v else -v
        rw [if_neg (by decide)]
        simp only [m_II, m_LL, m_RR, m_IL, m_IR, m_LI, m_LR, m_RI, m_RL, m_NI, m_NL, m_NR, m_okI, m_okL, m_okR, m_okaI, m_okaL, m_okaR, m_arI, m_arL, m_arR, gd_T, bn_S, Nat.reduceEqDiff, Nat.left_eq_add, Nat.add_eq_left, Nat.one_ne_zero, and_false, and_true, false_and, true_and, if_false, if_true]; rw [w3]
  unfold f_Reader_signed suq
  rw [ok_17 hH.1, gd_T, h6]
  by_cases c : kk T n b = 8
  · rw [if_pos (by rw [c]; rfl), if_pos c]
    unfold f_Reader_signed_14
    obtain ⟨W, w1, w2, w3⟩ := g.adv N hN
    rw [if_neg (by decide), ok_17 hH.1, gd_T, w1, bn_S]
    exact (s23 W (nd T n b) 1 w3 (Or.inr rfl)).mono (w2.mono (fun a k h => by unfold A17 at h; unfold A8; omega)) (fun a k h => h) (fun v Z _ h => h)
  · rw [if_neg (show ¬ nI (kk T n b) = (8 : Int32) from fun h => c ((nI_eq (by omega) (by decide)).1 (h : nI _ = nI 8))), if_neg c]
    unfold f_Reader_signed_14
    rw [if_pos rfl]
    have := s23 M b 0 g (Or.inl rfl)
    have e : pbn (nuq T n 0 hi b) (fun v b' => Sum.inr (if (0 : Int32) = 0 then v else -v, b')) = nuq T n 0 hi b := by
      cases nuq T n 0 hi b with
      | inl e => rfl
      | inr v => rfl
    rw [e] at this
    exact this
def A31 (a k : Nat) : Prop := a = 80 ∧ 25 ≤ k ∧ k ≤ 31
theorem mnum_f (N : Nat) {M : sw_M} {T : Nat → Nat} {n f p : Nat} (g : FM M T n f p) (lo hi : Int32) : f_Model_number N 80 lo hi M = some (0, M) := by
  unfold f_Model_number
  rw [ok_80 g.1.1.1, gd_T, g.2.1, if_neg (nf0 g.2.2.2.1 g.2.2.2.2)]
theorem msig_f (N : Nat) {M : sw_M} {T : Nat → Nat} {n f p : Nat} (g : FM M T n f p) (hi : Int32) : f_Model_signed N 80 hi M = some (0, M) := by
  have hM := g.1.1
  unfold f_Model_signed f_Model_isSign
  have k : ∀ z : Int32, f_Model_signed_22 N 80 hi z M = some (0, M) := fun z => by
    unfold f_Model_signed_22
    rw [ok_80 hM.1, gd_T, mnum_f N g, bn_S]
    by_cases q : z = 0
    · rw [if_pos q]
    · rw [if_neg q]
      show some (-(0 : Int32), M) = some (0, M)
      rw [show -(0 : Int32) = 0 by decide]
  have z : ∀ z : Int32, sw_gd [sw_ok M 80 12] (if rd_I M 80 30 = 0 then if z = 0 then f_Model_signed_22 N 80 hi z M else (f_Model_next N 80 M).bind (fun u4 => f_Model_signed_22 N 80 hi z u4) else f_Model_signed_22 N 80 hi z M) = some (0, M) := fun z => by
    rw [ok_80 hM.1, gd_T, g.2.1, if_neg (nf0 g.2.2.2.1 g.2.2.2.2), k]
  rw [ok_80 hM.1, gd_T, gd_T]
  by_cases q : rd_I M 80 27 = 2
  · rw [if_pos q]
    by_cases q2 : rd_I M 80 28 = 45
    · rw [if_pos q2, bn_S]; exact z 1
    · rw [if_neg q2, bn_S]; exact z 0
  · rw [if_neg q, bn_S]; exact z 0
theorem mnum (N : Nat) (hN : 1000 ≤ N) {M : sw_M} {T : Nat → Nat} {n b : Nat} (g : MB M T n b) (h30 : rd_I M 80 30 = 0) (lo hi : Nat) (hl : lo ≤ 99999) (hh : hi ≤ 99999) : MNp T n A31 M (f_Model_number N 80 (nI lo) (nI hi) M) (nuq T n lo hi b) := by
  have hM := g.1.1
  have kc := kk_c T n b
  have h27 := g.2.2.2.2.1
  have w46 : ∀ f, 1 ≤ f → f ≤ 3 → ∃ W, (f_Model_wrong N 80 (nI f) M).bind (fun u2 => f_Model_number_46 N 80 u2) = some (0, W) ∧ Fr A31 M W ∧ FM W T n f (pl T n b) := fun f f1 f2 => by
    obtain ⟨W, w1, w2, w3, w4⟩ := mwrong N g h30 f f1 f2
    refine ⟨W, ?_, w2.mono (fun a k h => by unfold A31; omega), w3⟩
    unfold f_Model_number_46
    rw [w1, bn_S, ok_80 w4.1.1.1, gd_T, w3.2.1, if_neg (nf0 f1 f2)]
  have w41 : ∃ W, f_Model_number_41 N 80 M = some (0, W) ∧ Fr A31 M W ∧ FM W T n 2 (pl T n b) := by
    unfold f_Model_number_41
    rw [ok_80 hM.1, gd_T]
    exact w46 2 (by omega) (by omega)
  unfold f_Model_number nuq
  rw [ok_80 hM.1, gd_T, h30, if_pos rfl, h27]
  by_cases c : kk T n b = 2
  · have h28 := g.2.2.2.2.2.1 c
    have vv := vhm T n b g.2.1
    rw [if_pos (by rw [c]; rfl), if_pos c, h28]
    by_cases q1 : vm T n b < lo
    · rw [if_pos (nI_lt q1 (by omega)), if_pos (Or.inl q1)]
      exact w41
    rw [if_neg (nI_nlt (by omega) (by omega))]
    by_cases q2 : vm T n b ≤ hi
    · rw [if_pos (nI_le q2 (by omega)), if_neg (by omega)]
      obtain ⟨W, w1, w2, w3⟩ := g.nx N hN
      unfold f_Model_number_46
      rw [ok_80 hM.1, gd_T, h30, if_pos rfl, w1, bn_S, h28]
      exact ⟨W, rfl, w2.mono (fun a k h => by unfold A80 at h; unfold A31; omega), w3, (w2.I 80 30 (by unfold A80; omega)).trans h30⟩
    · rw [if_neg (nI_ge (by omega) (by omega)), if_pos (by omega)]
      exact w41
  · rw [if_neg ((show ∀ c, c < 35 → ¬ c = 2 → ¬ msr c = 1 by decide +kernel) _ kc c), if_neg c]
    exact w46 1 (by omega) (by omega)
theorem msig (N : Nat) (hN : 1000 ≤ N) {M : sw_M} {T : Nat → Nat} {n b : Nat} (g : MB M T n b) (h30 : rd_I M 80 30 = 0) (hi : Nat) (hh : hi ≤ 99999) : MNp T n A31 M (f_Model_signed N 80 (nI hi) M) (suq T n hi b) := by
  have hM := g.1.1
  unfold f_Model_signed suq
  rw [ok_80 hM.1, gd_T, show (45 : Int32) = nI 45 from rfl, misSign N g 45 8 (by omega) (by omega) (by decide +kernel), bn_S]
  by_cases c : kk T n b = 8
  · rw [decide_eq_true c, if_pos c]
    show MNp T n A31 M (sw_gd [sw_ok M 80 12] (if rd_I M 80 30 = 0 then (f_Model_next N 80 M).bind (fun u4 => f_Model_signed_22 N 80 (nI hi) 1 u4) else _)) _
    obtain ⟨W, w1, w2, w3⟩ := g.nx N hN
    have w30 := (w2.I 80 30 (by unfold A80; omega)).trans h30
    have fr : Fr A31 M W := w2.mono (fun a k h => by unfold A80 at h; unfold A31; omega)
    rw [ok_80 hM.1, gd_T, h30, if_pos rfl, w1, bn_S]
    unfold f_Model_signed_22
    rw [ok_80 w3.1.1.1, gd_T]
    have h := mnum N hN w3 w30 0 hi (by omega) hh
    cases hr : nuq T n 0 hi (nd T n b) with
    | inl e =>
      rw [hr] at h
      obtain ⟨f, p⟩ := e
      obtain ⟨Z, z1, z2, z3⟩ := h
      refine ⟨Z, ?_, fr.trans z2, z3⟩
      have z1' : f_Model_number N 80 0 (nI hi) W = some (0, Z) := z1
      rw [z1', bn_S, if_neg (by decide)]
      show some (-(0 : Int32), Z) = some (0, Z)
      rw [show -(0 : Int32) = 0 by decide]
    | inr e =>
      rw [hr] at h
      obtain ⟨v, b'⟩ := e
      obtain ⟨Z, z1, z2, z3, z4⟩ := h
      refine ⟨Z, ?_, fr.trans z2, z3, z4⟩
      have z1' : f_Model_number N 80 0 (nI hi) W = some (v, Z) := z1
      rw [z1', bn_S, if_neg (by decide)]
  · rw [decide_eq_false c, if_neg c]
    show MNp T n A31 M (sw_gd [sw_ok M 80 12] (if rd_I M 80 30 = 0 then f_Model_signed_22 N 80 (nI hi) 0 M else _)) _
    rw [ok_80 hM.1, gd_T, h30, if_pos rfl]
    unfold f_Model_signed_22
    rw [ok_80 hM.1, gd_T]
    have h := mnum N hN g h30 0 hi (by omega) hh
    cases hr : nuq T n 0 hi b with
    | inl e =>
      rw [hr] at h
      obtain ⟨f, p⟩ := e
      obtain ⟨Z, z1, z2, z3⟩ := h
      refine ⟨Z, ?_, z2, z3⟩
      have z1' : f_Model_number N 80 0 (nI hi) M = some (0, Z) := z1
      rw [z1', bn_S, if_pos rfl]
    | inr e =>
      rw [hr] at h
      obtain ⟨v, b'⟩ := e
      obtain ⟨Z, z1, z2, z3, z4⟩ := h
      refine ⟨Z, ?_, z2, z3, z4⟩
      have z1' : f_Model_number N 80 0 (nI hi) M = some (v, Z) := z1
      rw [z1', bn_S, if_pos rfl]
