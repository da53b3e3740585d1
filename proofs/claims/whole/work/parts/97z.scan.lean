/-! 97z: the reference's TOKENS, end -/
theorem n62 (N : Nat) (hN : 1000 ≤ N) (T : Nat → Nat) (n p : Nat) : ∀ (d i j : Nat) (M : sw_M), MTx M T n → p < i ∨ sm T n i = true → p ≤ i → i ≤ n → (∀ k, p ≤ k → k < i → ¬ T k = 32) → rd_I M 80 26 = nI p → rd_I M 80 25 = nI i → d < j → sm T n (wh (sm T n) d i) = false →
    ∃ W, f_Model_next_62 N j 80 M = some W ∧ Fr A80 M W ∧ rd_I W 80 26 = nI p ∧ rd_I W 80 25 = nI (wh (sm T n) d i) ∧ rd_I W 80 27 = (if wx T p (wh (sm T n) d i) < 15 then 0 else 4) ∧ (wx T p (wh (sm T n) d i) < 15 → rd_I W 80 28 = nI (wx T p (wh (sm T n) d i)))
  | d, i, 0, M, g, hp, hpi, hi, hl, h26, h25, hj, he => by omega
  | d, i, j + 1, M, g, hp, hpi, hi, hl, h26, h25, hj, he => by
    have hM := g.1
    have hn := g.2.1
    rw [f_Model_next_62, ok_80 hM.1, gd_T, here N g hi h25, bn_S]
    show ∃ W, (f_Model_isSmall N (ch T n i) M).bind _ = some W ∧ _
    rw [chS N (fun h => (g.2.2.2 i h).1) M, bn_S]
    by_cases c : sm T n i = true
    · cases d with
      | zero => rw [show wh (sm T n) 0 i = i from rfl, c] at he; exact absurd he (by decide)
      | succ d =>
        rw [wh_s c] at he ⊢
        have f1 : Fr A80 M (wr_I M 80 25 (nI (i + 1))) := (Fr.refl _ M).wI _ _ _ (by unfold A80; omega)
        have c' := sm_t.1 c
        obtain ⟨W, w1, w2, w3⟩ := n62 N hN T n p d (i + 1) j _ (g.f80 f1) (Or.inl (by omega)) (by omega) (by omega) (fun k k1 k2 => by
          by_cases q : k = i
          · rw [q]; omega
          · exact hl k k1 (by omega)) (by simp only [m_II, m_LL, m_RR, m_IL, m_IR, m_LI, m_LR, m_RI, m_RL, m_NI, m_NL, m_NR, m_okI, m_okL, m_okR, m_okaI, m_okaL, m_okaR, m_arI, m_arL, m_arR, gd_T, bn_S, Nat.reduceEqDiff, Nat.left_eq_add, Nat.add_eq_left, Nat.one_ne_zero, and_false, and_true, false_and, true_and, if_false, if_true]; exact h26) (by simp only [m_II, m_LL, m_RR, m_IL, m_IR, m_LI, m_LR, m_RI, m_RL, m_NI, m_NL, m_NR, m_okI, m_okL, m_okR, m_okaI, m_okaL, m_okaR, m_arI, m_arL, m_arR, gd_T, bn_S, Nat.reduceEqDiff, Nat.left_eq_add, Nat.add_eq_left, Nat.one_ne_zero, and_false, and_true, false_and, true_and, if_false, if_true]) (by omega) he
        refine ⟨W, ?_, f1.trans w2, w3⟩
        show (if bz (sm T n i) = 0 then _ else _) = _
        rw [c, if_neg (by decide)]
        show sw_gd [sw_ok M 80 12] _ = _
        rw [ok_80 hM.1, gd_T]
        show f_Model_next_62 N j 80 (wr_I M 80 25 (rd_I M 80 25 + 1)) = _
        rw [h25, nI_1]
        exact w1
    · have c0 : sm T n i = false := Bool.eq_false_iff.2 c
      rw [wh_0 c0]
      have hpi' : p < i := by
        rcases hp with h | h
        · exact h
        · exact absurd h c
      show ∃ W, (if bz (sm T n i) = 0 then _ else _) = some W ∧ _
      rw [c0, if_pos (by rfl)]
      show ∃ W, sw_gd [sw_ok M 80 12] _ = some W ∧ _
      rw [ok_80 hM.1, gd_T]
      show ∃ W, (f_Model_word N 80 M).bind _ = some W ∧ _
      rw [Model_word N hN T n p i hpi' hi hl M g h26 h25, bn_S]
      show ∃ W, sw_gd [sw_ok M 80 12] _ = some W ∧ _
      rw [ok_80 hM.1, gd_T]
      have wb : wx T p i ≤ 15 := by have := (wh_b (fun w => !(mt T p i w)) 15 0).2; exact Nat.le_trans this (by omega)
      by_cases w : wx T p i < 15
      · rw [if_pos w, if_pos w]
        show ∃ W, (if rd_I (wr_I M 80 28 (nI (wx T p i))) 80 28 = -1 then _ else _) = some W ∧ _
        have e : ¬ rd_I (wr_I M 80 28 (nI (wx T p i))) 80 28 = -1 := by
          simp only [m_II, m_LL, m_RR, m_IL, m_IR, m_LI, m_LR, m_RI, m_RL, m_NI, m_NL, m_NR, m_okI, m_okL, m_okR, m_okaI, m_okaL, m_okaR, m_arI, m_arL, m_arR, gd_T, bn_S, Nat.reduceEqDiff, Nat.left_eq_add, Nat.add_eq_left, Nat.one_ne_zero, and_false, and_true, false_and, true_and, if_false, if_true]
          intro h
          have := congrArg Int32.toInt h
          rw [nI_toInt (by omega)] at this
          have h2 : ((-1 : Int32)).toInt = -1 := rfl
          omega
        rw [if_neg e]
        refine ⟨_, rfl, ((Fr.refl _ M).wI _ _ _ (by unfold A80; omega)).wI _ _ _ (by unfold A80; omega), ?_, ?_, ?_, fun _ => ?_⟩
        · simp only [m_II, m_LL, m_RR, m_IL, m_IR, m_LI, m_LR, m_RI, m_RL, m_NI, m_NL, m_NR, m_okI, m_okL, m_okR, m_okaI, m_okaL, m_okaR, m_arI, m_arL, m_arR, gd_T, bn_S, Nat.reduceEqDiff, Nat.left_eq_add, Nat.add_eq_left, Nat.one_ne_zero, and_false, and_true, false_and, true_and, if_false, if_true]; exact h26
        · simp only [m_II, m_LL, m_RR, m_IL, m_IR, m_LI, m_LR, m_RI, m_RL, m_NI, m_NL, m_NR, m_okI, m_okL, m_okR, m_okaI, m_okaL, m_okaR, m_arI, m_arL, m_arR, gd_T, bn_S, Nat.reduceEqDiff, Nat.left_eq_add, Nat.add_eq_left, Nat.one_ne_zero, and_false, and_true, false_and, true_and, if_false, if_true]; exact h25
        · simp only [m_II, m_LL, m_RR, m_IL, m_IR, m_LI, m_LR, m_RI, m_RL, m_NI, m_NL, m_NR, m_okI, m_okL, m_okR, m_okaI, m_okaL, m_okaR, m_arI, m_arL, m_arR, gd_T, bn_S, Nat.reduceEqDiff, Nat.left_eq_add, Nat.add_eq_left, Nat.one_ne_zero, and_false, and_true, false_and, true_and, if_false, if_true]
        · simp only [m_II, m_LL, m_RR, m_IL, m_IR, m_LI, m_LR, m_RI, m_RL, m_NI, m_NL, m_NR, m_okI, m_okL, m_okR, m_okaI, m_okaL, m_okaR, m_arI, m_arL, m_arR, gd_T, bn_S, Nat.reduceEqDiff, Nat.left_eq_add, Nat.add_eq_left, Nat.one_ne_zero, and_false, and_true, false_and, true_and, if_false, if_true]
      · rw [if_neg w, if_neg w]
        show ∃ W, (if rd_I (wr_I M 80 28 (-1)) 80 28 = -1 then _ else _) = some W ∧ _
        rw [if_pos (by simp only [m_II, m_LL, m_RR, m_IL, m_IR, m_LI, m_LR, m_RI, m_RL, m_NI, m_NL, m_NR, m_okI, m_okL, m_okR, m_okaI, m_okaL, m_okaR, m_arI, m_arL, m_arR, gd_T, bn_S, Nat.reduceEqDiff, Nat.left_eq_add, Nat.add_eq_left, Nat.one_ne_zero, and_false, and_true, false_and, true_and, if_false, if_true])]
        refine ⟨_, rfl, ((Fr.refl _ M).wI _ _ _ (by unfold A80; omega)).wI _ _ _ (by unfold A80; omega), ?_, ?_, ?_, fun h => absurd h w⟩
        · simp only [m_II, m_LL, m_RR, m_IL, m_IR, m_LI, m_LR, m_RI, m_RL, m_NI, m_NL, m_NR, m_okI, m_okL, m_okR, m_okaI, m_okaL, m_okaR, m_arI, m_arL, m_arR, gd_T, bn_S, Nat.reduceEqDiff, Nat.left_eq_add, Nat.add_eq_left, Nat.one_ne_zero, and_false, and_true, false_and, true_and, if_false, if_true]; exact h26
        · simp only [m_II, m_LL, m_RR, m_IL, m_IR, m_LI, m_LR, m_RI, m_RL, m_NI, m_NL, m_NR, m_okI, m_okL, m_okR, m_okaI, m_okaL, m_okaR, m_arI, m_arL, m_arR, gd_T, bn_S, Nat.reduceEqDiff, Nat.left_eq_add, Nat.add_eq_left, Nat.one_ne_zero, and_false, and_true, false_and, true_and, if_false, if_true]; exact h25
        · simp only [m_II, m_LL, m_RR, m_IL, m_IR, m_LI, m_LR, m_RI, m_RL, m_NI, m_NL, m_NR, m_okI, m_okL, m_okR, m_okaI, m_okaL, m_okaR, m_arI, m_arL, m_arR, gd_T, bn_S, Nat.reduceEqDiff, Nat.left_eq_add, Nat.add_eq_left, Nat.one_ne_zero, and_false, and_true, false_and, true_and, if_false, if_true]
theorem n128 (N : Nat) (T : Nat → Nat) (n : Nat) : ∀ (d i a j : Nat) (M : sw_M), MTx M T n → i + d ≤ n → (∀ k, i ≤ k → k < i + d → dg T n k = true) → dg T n (i + d) = false → rd_I M 80 25 = nI i → rd_I M 80 28 = nI a → a ≤ 999999 → d < j →
    ∃ W, f_Model_next_128 N j 80 M = some W ∧ Fr (fun a k => a = 80 ∧ (k = 25 ∨ k = 28)) M W ∧ rd_I W 80 25 = nI (i + d) ∧ rd_I W 80 28 = nI (mv T d i a)
  | d, i, a, 0, M, g, hi, hd, he, h5, h7, ha, hj => by omega
  | 0, i, a, j + 1, M, g, hi, hd, he, h5, h7, ha, hj => by
    have hM := g.1
    rw [f_Model_next_128, ok_80 hM.1, gd_T, here N g (by omega) h5, bn_S]
    show ∃ W, (f_Model_isDigit N (ch T n i) M).bind _ = some W ∧ _
    rw [chD N (fun h => (g.2.2.2 i h).1) M, bn_S]
    show ∃ W, (if bz (dg T n i) = 0 then _ else _) = some W ∧ _
    rw [show dg T n i = false from he, if_pos (by rfl)]
    exact ⟨M, rfl, Fr.refl _ _, h5, h7⟩
  | d + 1, i, a, j + 1, M, g, hi, hd, he, h5, h7, ha, hj => by
    have hM := g.1
    have hn := g.2.1
    have c := hd i (by omega) (by omega)
    obtain ⟨c0, c1, c2⟩ := dg_t.1 c
    rw [f_Model_next_128, ok_80 hM.1, gd_T, here N g (by omega) h5, bn_S]
    show ∃ W, (f_Model_isDigit N (ch T n i) M).bind _ = some W ∧ _
    rw [chD N (fun h => (g.2.2.2 i h).1) M, bn_S]
    show ∃ W, (if bz (dg T n i) = 0 then _ else _) = some W ∧ _
    rw [c, if_neg (by decide)]
    show ∃ W, sw_gd [sw_ok M 80 12] (if rd_I M 80 28 ≤ 99999 then (f_Model_here N 80 M).bind _ else f_Model_next_170 N (f_Model_next_128 N j) 80 (rd_I M 80 28) 80 M) = some W ∧ _
    rw [ok_80 hM.1, gd_T, h7, here N g (by omega) h5, bn_S]
    have go : ∀ v, f_Model_next_170 N (f_Model_next_128 N j) 80 v 80 M = f_Model_next_128 N j 80 (wr_I (wr_I M 80 28 v) 80 25 (nI (i + 1))) := fun v => by
      unfold f_Model_next_170
      rw [ok_80 hM.1, gd_T, ok_80 (show 124 ≤ rd_N (wr_I M 80 28 v) by simp only [m_II, m_LL, m_RR, m_IL, m_IR, m_LI, m_LR, m_RI, m_RL, m_NI, m_NL, m_NR, m_okI, m_okL, m_okR, m_okaI, m_okaL, m_okaR, m_arI, m_arL, m_arR, gd_T, bn_S, Nat.reduceEqDiff, Nat.left_eq_add, Nat.add_eq_left, Nat.one_ne_zero, and_false, and_true, false_and, true_and, if_false, if_true]; exact hM.1), gd_T]
      have : rd_I (wr_I M 80 28 v) 80 25 = nI i := by simp only [m_II, m_LL, m_RR, m_IL, m_IR, m_LI, m_LR, m_RI, m_RL, m_NI, m_NL, m_NR, m_okI, m_okL, m_okR, m_okaI, m_okaL, m_okaR, m_arI, m_arL, m_arR, gd_T, bn_S, Nat.reduceEqDiff, Nat.left_eq_add, Nat.add_eq_left, Nat.one_ne_zero, and_false, and_true, false_and, true_and, if_false, if_true]; exact h5
      rw [this, nI_1]
    have fin : ∀ v w, v = nI w → w = (if 99999 < a then a else 10 * a + T i - 48) → w ≤ 999999 → ∃ W, f_Model_next_128 N j 80 (wr_I (wr_I M 80 28 v) 80 25 (nI (i + 1))) = some W ∧ Fr (fun a k => a = 80 ∧ (k = 25 ∨ k = 28)) M W ∧ rd_I W 80 25 = nI (i + (d + 1)) ∧ rd_I W 80 28 = nI (mv T (d + 1) i a) := fun v w e1 e2 e3 => by
      have f1 : Fr (fun a k => a = 80 ∧ (k = 25 ∨ k = 28)) M (wr_I (wr_I M 80 28 v) 80 25 (nI (i + 1))) := ((Fr.refl _ M).wI _ _ _ (by omega)).wI _ _ _ (by omega)
      obtain ⟨W, w1, w2, w3, w4⟩ := n128 N T n d (i + 1) w j _ (g.f80 (f1.mono (fun a k h => by unfold A80; omega))) (by omega) (fun k k1 k2 => hd k (by omega) (by omega)) (by rw [show i + 1 + d = i + (d + 1) by omega]; exact he) (by simp only [m_II, m_LL, m_RR, m_IL, m_IR, m_LI, m_LR, m_RI, m_RL, m_NI, m_NL, m_NR, m_okI, m_okL, m_okR, m_okaI, m_okaL, m_okaR, m_arI, m_arL, m_arR, gd_T, bn_S, Nat.reduceEqDiff, Nat.left_eq_add, Nat.add_eq_left, Nat.one_ne_zero, and_false, and_true, false_and, true_and, if_false, if_true]) (by simp only [m_II, m_LL, m_RR, m_IL, m_IR, m_LI, m_LR, m_RI, m_RL, m_NI, m_NL, m_NR, m_okI, m_okL, m_okR, m_okaI, m_okaL, m_okaR, m_arI, m_arL, m_arR, gd_T, bn_S, Nat.reduceEqDiff, Nat.left_eq_add, Nat.add_eq_left, Nat.one_ne_zero, and_false, and_true, false_and, true_and, if_false, if_true]; exact e1) e3 (by omega)
      refine ⟨W, w1, f1.trans w2, ?_, ?_⟩
      · rw [w3, show i + 1 + d = i + (d + 1) by omega]
      · rw [w4, mv, e2]
    by_cases q : 99999 < a
    · rw [if_neg (show ¬ nI a ≤ (99999 : Int32) from (nI_ge q (by omega) : ¬ nI a ≤ nI 99999)), go]
      exact fin _ a rfl (by rw [if_pos q]) (by omega)
    · rw [if_pos (show nI a ≤ (99999 : Int32) from (nI_le (by omega) (by omega) : nI a ≤ nI 99999))]
      show ∃ W, f_Model_next_170 N (f_Model_next_128 N j) 80 (10 * nI a + ch T n i - 48) 80 M = some W ∧ _
      rw [go]
      refine fin _ (10 * a + T i - 48) ?_ (by rw [if_neg q]) (by omega)
      unfold ch
      rw [if_pos c0, show (10 : Int32) * nI a = nI (10 * a) from (nI_mul 10 a), nI_add, show (48 : Int32) = nI 48 from rfl, nI_sub _ _ (by omega)]
theorem chN {T : Nat → Nat} {n p : Nat} (ht : p + 1 < n → T (p + 1) < 256) (k : Int32) (m : Nat) (hm : m < 256) (h0 : 0 < m) (e : k = nI m) : ch T n (p + 1) = k ↔ nc T n p = m := by
  rw [chE ht k m (by omega) e]
  unfold nc
  by_cases q : p + 1 < n
  · rw [if_pos q]; exact ⟨fun h => h.2, fun h => ⟨q, h⟩⟩
  · rw [if_neg q]; exact ⟨fun h => absurd h.1 q, fun h => by omega⟩
def tl (N c : Nat) (M : sw_M) : Option sw_M := if nI c = 60 then (f_Model_here N 80 M).bind (fun u10 => if u10.1 = (61 : Int32) then sw_gd [sw_ok u10.2 80 12] (f_Model_next_304 N 80 (nI c) (wr_I u10.2 80 28 (256 : Int32))) else f_Model_next_232 N 80 (nI c) u10.2) else f_Model_next_232 N 80 (nI c) M
theorem t304 (N c : Nat) (M : sw_M) (hM : MR M) (v p : Nat) (hc : ¬ nI v = nI c) (h25 : rd_I M 80 25 = nI p) : f_Model_next_304 N 80 (nI c) (wr_I M 80 28 (nI v)) = some (wr_I (wr_I M 80 28 (nI v)) 80 25 (nI (p + 1))) := by
  unfold f_Model_next_304
  have e1 : rd_I (wr_I M 80 28 (nI v)) 80 28 = nI v := by simp only [m_II, m_LL, m_RR, m_IL, m_IR, m_LI, m_LR, m_RI, m_RL, m_NI, m_NL, m_NR, m_okI, m_okL, m_okR, m_okaI, m_okaL, m_okaR, m_arI, m_arL, m_arR, gd_T, bn_S, Nat.reduceEqDiff, Nat.left_eq_add, Nat.add_eq_left, Nat.one_ne_zero, and_false, and_true, false_and, true_and, if_false, if_true]
  have e2 : rd_I (wr_I M 80 28 (nI v)) 80 25 = nI p := by simp only [m_II, m_LL, m_RR, m_IL, m_IR, m_LI, m_LR, m_RI, m_RL, m_NI, m_NL, m_NR, m_okI, m_okL, m_okR, m_okaI, m_okaL, m_okaR, m_arI, m_arL, m_arR, gd_T, bn_S, Nat.reduceEqDiff, Nat.left_eq_add, Nat.add_eq_left, Nat.one_ne_zero, and_false, and_true, false_and, true_and, if_false, if_true]; exact h25
  rw [ok_80 (show 124 ≤ rd_N (wr_I M 80 28 (nI v)) by simp only [m_II, m_LL, m_RR, m_IL, m_IR, m_LI, m_LR, m_RI, m_RL, m_NI, m_NL, m_NR, m_okI, m_okL, m_okR, m_okaI, m_okaL, m_okaR, m_arI, m_arL, m_arR, gd_T, bn_S, Nat.reduceEqDiff, Nat.left_eq_add, Nat.add_eq_left, Nat.one_ne_zero, and_false, and_true, false_and, true_and, if_false, if_true]; exact hM.1), gd_T, e1, if_neg hc, e2, nI_1]
theorem t304s (N c : Nat) (M : sw_M) (hM : MR M) (h28 : rd_I M 80 28 = nI c) (hs : f_Model_next_304 N 80 (nI c) M = f_Model_next_304 N 80 (nI c) M) : f_Model_next_304 N 80 (nI c) M = (if nI c = (59 : Int32) then some M
  else if nI c = (45 : Int32) then some M
  else if nI c = (43 : Int32) then some M
  else if nI c = (42 : Int32) then some M
  else if nI c = (47 : Int32) then some M
  else if nI c = (40 : Int32) then some M
  else if nI c = (41 : Int32) then some M
  else if nI c = (60 : Int32) then some M
  else if nI c = (61 : Int32) then some M
  else if nI c = (62 : Int32) then some M
  else some (wr_I M 80 27 (4 : Int32))) := by
  unfold f_Model_next_304
  rw [ok_80 hM.1, gd_T, h28, if_pos rfl]
def SGn (W M : sw_M) (p c d : Nat) : Prop := Fr A80 M W ∧ rd_I W 80 26 = rd_I M 80 26 ∧ rd_I W 80 25 = nI (p + sgw c d) ∧ rd_I W 80 27 = msr (sgk c d) ∧ (3 ≤ sgk c d → rd_I W 80 28 = nI (mvl (sgk c d)))
theorem SGn_1 {M : sw_M} {p c d : Nat} (h25 : rd_I M 80 25 = nI (p + 1)) (h27 : rd_I M 80 27 = 2) (h28 : rd_I M 80 28 = nI c) (w : sgw c d = 1) (km : msr (sgk c d) = 2) (v : mvl (sgk c d) = c) : SGn M M p c d :=
  ⟨Fr.refl _ _, rfl, by rw [w]; exact h25, by rw [km]; exact h27, fun _ => by rw [v]; exact h28⟩
theorem SGn_2 {M : sw_M} {p c d v : Nat} (h27 : rd_I M 80 27 = 2) (w : sgw c d = 2) (km : msr (sgk c d) = 2) (hv : mvl (sgk c d) = v) : SGn (wr_I (wr_I M 80 28 (nI v)) 80 25 (nI (p + 1 + 1))) M p c d := by
  refine ⟨((Fr.refl _ M).wI _ _ _ (by unfold A80; omega)).wI _ _ _ (by unfold A80; omega), ?_, ?_, ?_, fun _ => ?_⟩
  · simp only [m_II, m_LL, m_RR, m_IL, m_IR, m_LI, m_LR, m_RI, m_RL, m_NI, m_NL, m_NR, m_okI, m_okL, m_okR, m_okaI, m_okaL, m_okaR, m_arI, m_arL, m_arR, gd_T, bn_S, Nat.reduceEqDiff, Nat.left_eq_add, Nat.add_eq_left, Nat.one_ne_zero, and_false, and_true, false_and, true_and, if_false, if_true]
  · simp only [m_II, m_LL, m_RR, m_IL, m_IR, m_LI, m_LR, m_RI, m_RL, m_NI, m_NL, m_NR, m_okI, m_okL, m_okR, m_okaI, m_okaL, m_okaR, m_arI, m_arL, m_arR, gd_T, bn_S, Nat.reduceEqDiff, Nat.left_eq_add, Nat.add_eq_left, Nat.one_ne_zero, and_false, and_true, false_and, true_and, if_false, if_true]; rw [w]
  · simp only [m_II, m_LL, m_RR, m_IL, m_IR, m_LI, m_LR, m_RI, m_RL, m_NI, m_NL, m_NR, m_okI, m_okL, m_okR, m_okaI, m_okaL, m_okaR, m_arI, m_arL, m_arR, gd_T, bn_S, Nat.reduceEqDiff, Nat.left_eq_add, Nat.add_eq_left, Nat.one_ne_zero, and_false, and_true, false_and, true_and, if_false, if_true]; rw [km]; exact h27
  · simp only [m_II, m_LL, m_RR, m_IL, m_IR, m_LI, m_LR, m_RI, m_RL, m_NI, m_NL, m_NR, m_okI, m_okL, m_okR, m_okaI, m_okaL, m_okaR, m_arI, m_arL, m_arR, gd_T, bn_S, Nat.reduceEqDiff, Nat.left_eq_add, Nat.add_eq_left, Nat.one_ne_zero, and_false, and_true, false_and, true_and, if_false, if_true]; rw [hv]
theorem SGn_4 {M : sw_M} {p c d : Nat} (h25 : rd_I M 80 25 = nI (p + 1)) (w : sgw c d = 1) (k : sgk c d = 1) : SGn (wr_I M 80 27 4) M p c d := by
  refine ⟨(Fr.refl _ M).wI _ _ _ (by unfold A80; omega), ?_, ?_, ?_, fun h => by omega⟩
  · simp only [m_II, m_LL, m_RR, m_IL, m_IR, m_LI, m_LR, m_RI, m_RL, m_NI, m_NL, m_NR, m_okI, m_okL, m_okR, m_okaI, m_okaL, m_okaR, m_arI, m_arL, m_arR, gd_T, bn_S, Nat.reduceEqDiff, Nat.left_eq_add, Nat.add_eq_left, Nat.one_ne_zero, and_false, and_true, false_and, true_and, if_false, if_true]
  · simp only [m_II, m_LL, m_RR, m_IL, m_IR, m_LI, m_LR, m_RI, m_RL, m_NI, m_NL, m_NR, m_okI, m_okL, m_okR, m_okaI, m_okaL, m_okaR, m_arI, m_arL, m_arR, gd_T, bn_S, Nat.reduceEqDiff, Nat.left_eq_add, Nat.add_eq_left, Nat.one_ne_zero, and_false, and_true, false_and, true_and, if_false, if_true]; rw [w]; exact h25
  · simp only [m_II, m_LL, m_RR, m_IL, m_IR, m_LI, m_LR, m_RI, m_RL, m_NI, m_NL, m_NR, m_okI, m_okL, m_okR, m_okaI, m_okaL, m_okaR, m_arI, m_arL, m_arR, gd_T, bn_S, Nat.reduceEqDiff, Nat.left_eq_add, Nat.add_eq_left, Nat.one_ne_zero, and_false, and_true, false_and, true_and, if_false, if_true]; rw [k]; rfl
theorem tl_o (N : Nat) (T : Nat → Nat) (n p c : Nat) (M : sw_M) (g : MTx M T n) (hp : p < n) (hc : c < 256) (h25 : rd_I M 80 25 = nI (p + 1)) (h27 : rd_I M 80 27 = 2) (h28 : rd_I M 80 28 = nI c) : ∃ W, tl N c M = some W ∧ SGn W M p c (nc T n p) := by
  have hM := g.1
  have hn := g.2.1
  have hh := here N g (show p + 1 ≤ n by omega) h25
  have cn := fun (k : Int32) (m : Nat) (hm : m < 256) (h0 : 0 < m) (e : k = nI m) => @chN T n p (fun h => (g.2.2.2 (p + 1) h).1) k m hm h0 e
  have ne : ∀ m, m < 256 → ¬ c = m → ¬ nI c = nI m := fun m hm h e => h ((nI_eq (by omega) (by omega)).1 e)
  have s1 := t304s N c M hM h28 rfl
  by_cases q60 : c = 60
  · subst q60
    unfold tl
    rw [if_pos (by rfl), hh, bn_S]
    show ∃ W, (if ch T n (p + 1) = 61 then sw_gd [sw_ok M 80 12] (f_Model_next_304 N 80 (nI 60) (wr_I M 80 28 (nI 256))) else f_Model_next_232 N 80 (nI 60) M) = some W ∧ _
    rw [ok_80 hM.1, gd_T]
    by_cases r : nc T n p = 61
    · rw [if_pos ((cn 61 61 (by decide) (by decide) rfl).2 r), t304 N 60 M hM 256 (p + 1) (by decide) h25, r]
      exact ⟨_, rfl, SGn_2 h27 rfl rfl rfl⟩
    rw [if_neg (fun h => r ((cn 61 61 (by decide) (by decide) rfl).1 h))]
    unfold f_Model_next_232
    rw [if_pos (by rfl), ok_80 hM.1, gd_T, hh, bn_S]
    show ∃ W, (if ch T n (p + 1) = 62 then sw_gd [sw_ok M 80 12] (f_Model_next_304 N 80 (nI 60) (wr_I M 80 28 (nI 257))) else f_Model_next_257 N 80 (nI 60) M) = some W ∧ _
    rw [ok_80 hM.1, gd_T]
    by_cases r2 : nc T n p = 62
    · rw [if_pos ((cn 62 62 (by decide) (by decide) rfl).2 r2), t304 N 60 M hM 257 (p + 1) (by decide) h25, r2]
      exact ⟨_, rfl, SGn_2 h27 rfl rfl rfl⟩
    rw [if_neg (fun h => r2 ((cn 62 62 (by decide) (by decide) rfl).1 h))]
    unfold f_Model_next_257 f_Model_next_282
    rw [if_neg (by decide), if_neg (by decide), s1]
    have k1 : sgk 60 (nc T n p) = 11 := by show (if nc T n p = 61 then 12 else if nc T n p = 62 then 14 else 11) = 11; rw [if_neg r, if_neg r2]
    have k2 : sgw 60 (nc T n p) = 1 := by show (if nc T n p = 61 then 2 else if nc T n p = 62 then 2 else 1) = 1; rw [if_neg r, if_neg r2]
    exact ⟨M, rfl, SGn_1 h25 h27 h28 k2 (by rw [k1]; rfl) (by rw [k1]; rfl)⟩
  unfold tl f_Model_next_232
  rw [if_neg (show ¬ nI c = (60 : Int32) from ne 60 (by decide) q60), if_neg (show ¬ nI c = (60 : Int32) from ne 60 (by decide) q60)]
  by_cases q62 : c = 62
  · subst q62
    unfold f_Model_next_257
    rw [if_pos (by rfl), ok_80 hM.1, gd_T, hh, bn_S]
    show ∃ W, (if ch T n (p + 1) = 61 then sw_gd [sw_ok M 80 12] (f_Model_next_304 N 80 (nI 62) (wr_I M 80 28 (nI 258))) else f_Model_next_282 N 80 (nI 62) M) = some W ∧ _
    rw [ok_80 hM.1, gd_T]
    by_cases r : nc T n p = 61
    · rw [if_pos ((cn 61 61 (by decide) (by decide) rfl).2 r), t304 N 62 M hM 258 (p + 1) (by decide) h25, r]
      exact ⟨_, rfl, SGn_2 h27 rfl rfl rfl⟩
    rw [if_neg (fun h => r ((cn 61 61 (by decide) (by decide) rfl).1 h))]
    unfold f_Model_next_282
    rw [if_neg (by decide), s1]
    have k1 : sgk 62 (nc T n p) = 16 := by show (if nc T n p = 61 then 15 else 16) = 16; rw [if_neg r]
    have k2 : sgw 62 (nc T n p) = 1 := by show (if nc T n p = 61 then 2 else 1) = 1; rw [if_neg r]
    exact ⟨M, rfl, SGn_1 h25 h27 h28 k2 (by rw [k1]; rfl) (by rw [k1]; rfl)⟩
  unfold f_Model_next_257
  rw [if_neg (show ¬ nI c = (62 : Int32) from ne 62 (by decide) q62)]
  by_cases q46 : c = 46
  · subst q46
    unfold f_Model_next_282
    rw [if_pos (by rfl), ok_80 hM.1, gd_T, hh, bn_S]
    show ∃ W, (if ch T n (p + 1) = 46 then sw_gd [sw_ok M 80 12] (f_Model_next_304 N 80 (nI 46) (wr_I M 80 28 (nI 259))) else f_Model_next_304 N 80 (nI 46) M) = some W ∧ _
    rw [ok_80 hM.1, gd_T]
    by_cases r : nc T n p = 46
    · rw [if_pos ((cn 46 46 (by decide) (by decide) rfl).2 r), t304 N 46 M hM 259 (p + 1) (by decide) h25, r]
      exact ⟨_, rfl, SGn_2 h27 rfl rfl rfl⟩
    rw [if_neg (fun h => r ((cn 46 46 (by decide) (by decide) rfl).1 h)), s1]
    have k1 : sgk 46 (nc T n p) = 1 := by show (if nc T n p = 46 then 4 else 1) = 1; rw [if_neg r]
    have k2 : sgw 46 (nc T n p) = 1 := by show (if nc T n p = 46 then 2 else 1) = 1; rw [if_neg r]
    exact ⟨_, rfl, SGn_4 h25 k2 k1⟩
  unfold f_Model_next_282
  rw [if_neg (show ¬ nI c = (46 : Int32) from ne 46 (by decide) q46), s1]
  by_cases q59 : c = 59
  · subst q59; exact ⟨M, rfl, SGn_1 h25 h27 h28 rfl rfl rfl⟩
  by_cases q45 : c = 45
  · subst q45; exact ⟨M, rfl, SGn_1 h25 h27 h28 rfl rfl rfl⟩
  by_cases q43 : c = 43
  · subst q43; exact ⟨M, rfl, SGn_1 h25 h27 h28 rfl rfl rfl⟩
  by_cases q42 : c = 42
  · subst q42; exact ⟨M, rfl, SGn_1 h25 h27 h28 rfl rfl rfl⟩
  by_cases q47 : c = 47
  · subst q47; exact ⟨M, rfl, SGn_1 h25 h27 h28 rfl rfl rfl⟩
  by_cases q40 : c = 40
  · subst q40; exact ⟨M, rfl, SGn_1 h25 h27 h28 rfl rfl rfl⟩
  by_cases q41 : c = 41
  · subst q41; exact ⟨M, rfl, SGn_1 h25 h27 h28 rfl rfl rfl⟩
  by_cases q61 : c = 61
  · subst q61; exact ⟨M, rfl, SGn_1 h25 h27 h28 rfl rfl rfl⟩
  rw [if_neg (show ¬ nI c = (59 : Int32) from ne 59 (by decide) q59), if_neg (show ¬ nI c = (45 : Int32) from ne 45 (by decide) q45), if_neg (show ¬ nI c = (43 : Int32) from ne 43 (by decide) q43), if_neg (show ¬ nI c = (42 : Int32) from ne 42 (by decide) q42), if_neg (show ¬ nI c = (47 : Int32) from ne 47 (by decide) q47), if_neg (show ¬ nI c = (40 : Int32) from ne 40 (by decide) q40), if_neg (show ¬ nI c = (41 : Int32) from ne 41 (by decide) q41), if_neg (show ¬ nI c = (60 : Int32) from ne 60 (by decide) q60), if_neg (show ¬ nI c = (61 : Int32) from ne 61 (by decide) q61), if_neg (show ¬ nI c = (62 : Int32) from ne 62 (by decide) q62)]
  refine ⟨_, rfl, SGn_4 h25 ?_ ?_⟩
  · unfold sgw
    rw [if_neg q60, if_neg q62, if_neg q46]
  · unfold sgk
    rw [if_neg q59, if_neg q40, if_neg q41, if_neg q43, if_neg q45, if_neg q42, if_neg q47, if_neg q61, if_neg q60, if_neg q62, if_neg q46]
/-- the TOKEN, where no blank is before it -/
theorem next_t (N : Nat) (hN : 1000 ≤ N) (T : Nat → Nat) (n b j : Nat) (M : sw_M) (g : MTx M T n) (hb : b ≤ n) (h25 : rd_I M 80 25 = nI (pl T n b)) :
    ∃ W, f_Model_next_0 N (j + 1) 80 M = some W ∧ Fr A80 M W ∧ MK W T n b := by
  have hM := g.1
  have hn := g.2.1
  have pb := pl_b T n b hb
  have nb : bk T n (pl T n b) = false := wh_e (bk T n) n hn (bk_n T n) b hb
  have nb' : ¬ (pl T n b < n ∧ (T (pl T n b) = 10 ∨ T (pl T n b) = 32)) := fun h => by have := bk_t.2 h; rw [nb] at this; exact absurd this (by decide)
  have ht : pl T n b < n → T (pl T n b) < 256 := fun h => (g.2.2.2 _ h).1
  have hh := here N g pb.2 h25
  rw [f_Model_next_0, ok_80 hM.1, gd_T, hh, bn_S]
  show ∃ W, (if ch T n (pl T n b) = 10 then f_Model_next_18 N (f_Model_next_0 N j) 80 M else sw_gd [sw_ok M 80 12] ((f_Model_here N 80 M).bind _)) = some W ∧ _
  rw [if_neg (fun h => by have := (chE ht 10 10 (by decide) rfl).1 h; exact nb' ⟨this.1, Or.inl this.2⟩), ok_80 hM.1, gd_T, hh, bn_S]
  show ∃ W, (if ch T n (pl T n b) = 32 then f_Model_next_18 N (f_Model_next_0 N j) 80 M else sw_gd [sw_ok M 80 12] ((f_Model_here N 80 (wr_I M 80 26 (rd_I M 80 25))).bind _)) = some W ∧ _
  rw [if_neg (fun h => by have := (chE ht 32 32 (by decide) rfl).1 h; exact nb' ⟨this.1, Or.inr this.2⟩), ok_80 hM.1, gd_T]
  have fU : Fr A80 M (wr_I M 80 26 (rd_I M 80 25)) := (Fr.refl _ M).wI _ _ _ (by unfold A80; omega)
  have gU := g.f80 fU
  have u25 : rd_I (wr_I M 80 26 (rd_I M 80 25)) 80 25 = nI (pl T n b) := by simp only [m_II, m_LL, m_RR, m_IL, m_IR, m_LI, m_LR, m_RI, m_RL, m_NI, m_NL, m_NR, m_okI, m_okL, m_okR, m_okaI, m_okaL, m_okaR, m_arI, m_arL, m_arR, gd_T, bn_S, Nat.reduceEqDiff, Nat.left_eq_add, Nat.add_eq_left, Nat.one_ne_zero, and_false, and_true, false_and, true_and, if_false, if_true]; exact h25
  have u26 : rd_I (wr_I M 80 26 (rd_I M 80 25)) 80 26 = nI (pl T n b) := by simp only [m_II, m_LL, m_RR, m_IL, m_IR, m_LI, m_LR, m_RI, m_RL, m_NI, m_NL, m_NR, m_okI, m_okL, m_okR, m_okaI, m_okaL, m_okaR, m_arI, m_arL, m_arR, gd_T, bn_S, Nat.reduceEqDiff, Nat.left_eq_add, Nat.add_eq_left, Nat.one_ne_zero, and_false, and_true, false_and, true_and, if_false, if_true]; exact h25
  generalize wr_I M 80 26 (rd_I M 80 25) = U at *
  have hU := gU.1
  rw [here N gU pb.2 u25, bn_S]
  unfold MK kk nd
  by_cases q : n ≤ pl T n b
  · have e : ch T n (pl T n b) = -1 := by unfold ch; rw [if_neg (by omega)]
    show ∃ W, (if ch T n (pl T n b) = -1 then sw_gd [sw_ok U 80 12] (some (wr_I U 80 27 3)) else _) = some W ∧ _
    rw [if_pos e, ok_80 hU.1, gd_T, if_pos q, if_pos q]
    refine ⟨_, rfl, fU.wI _ _ _ (by unfold A80; omega), ?_, ?_, ?_, fun h => absurd h (by decide), fun h => absurd h (by decide)⟩
    · simp only [m_II, m_LL, m_RR, m_IL, m_IR, m_LI, m_LR, m_RI, m_RL, m_NI, m_NL, m_NR, m_okI, m_okL, m_okR, m_okaI, m_okaL, m_okaR, m_arI, m_arL, m_arR, gd_T, bn_S, Nat.reduceEqDiff, Nat.left_eq_add, Nat.add_eq_left, Nat.one_ne_zero, and_false, and_true, false_and, true_and, if_false, if_true]; exact u26
    · simp only [m_II, m_LL, m_RR, m_IL, m_IR, m_LI, m_LR, m_RI, m_RL, m_NI, m_NL, m_NR, m_okI, m_okL, m_okR, m_okaI, m_okaL, m_okaR, m_arI, m_arL, m_arR, gd_T, bn_S, Nat.reduceEqDiff, Nat.left_eq_add, Nat.add_eq_left, Nat.one_ne_zero, and_false, and_true, false_and, true_and, if_false, if_true]; exact u25
    · simp only [m_II, m_LL, m_RR, m_IL, m_IR, m_LI, m_LR, m_RI, m_RL, m_NI, m_NL, m_NR, m_okI, m_okL, m_okR, m_okaI, m_okaL, m_okaR, m_arI, m_arL, m_arR, gd_T, bn_S, Nat.reduceEqDiff, Nat.left_eq_add, Nat.add_eq_left, Nat.one_ne_zero, and_false, and_true, false_and, true_and, if_false, if_true]; rfl
  have hp : pl T n b < n := by omega
  have tb := ht hp
  have ec : ch T n (pl T n b) = nI (T (pl T n b)) := by unfold ch; rw [if_pos hp]
  show ∃ W, (if ch T n (pl T n b) = -1 then _ else (f_Model_isSmall N (ch T n (pl T n b)) U).bind _) = some W ∧ _
  rw [if_neg (fun h => by
    rw [ec] at h
    have := congrArg Int32.toInt h
    rw [nI_toInt (by omega)] at this
    have h2 : ((-1 : Int32)).toInt = -1 := rfl
    omega), chS N ht U, bn_S, if_neg q, if_neg q]
  by_cases c : sm T n (pl T n b) = true
  · show ∃ W, (if bz (sm T n (pl T n b)) = 0 then _ else f_Model_next_62 N N 80 U) = some W ∧ _
    rw [c, if_neg (by decide), if_pos rfl, if_pos rfl]
    obtain ⟨W, w1, w2, w3, w4, w5, w6⟩ := n62 N hN T n (pl T n b) 501 (pl T n b) N U gU (Or.inr c) (Nat.le_refl _) pb.2 (fun k k1 k2 => by omega) u26 u25 (by omega) (wh_e (sm T n) n hn (sm_n T n) _ pb.2)
    have w5' : rd_I W 80 27 = (if wx T (pl T n b) (we T n b) < 15 then 0 else 4) := w5
    have w6' : wx T (pl T n b) (we T n b) < 15 → rd_I W 80 28 = nI (wx T (pl T n b) (we T n b)) := w6
    refine ⟨W, w1, fU.trans w2, w3, w4, ?_, ?_, ?_⟩
    · rw [w5']
      by_cases z : wx T (pl T n b) (we T n b) < 15
      · rw [if_pos z, if_pos z]
        unfold msr
        rw [if_neg (by omega), if_neg (by omega), if_neg (by omega), if_pos (by omega)]
      · rw [if_neg z, if_neg z]; rfl
    · intro h; split at h <;> omega
    · by_cases z : wx T (pl T n b) (we T n b) < 15
      · rw [if_pos z]
        intro _
        rw [w6' z]
        unfold mvl
        rw [if_pos (by omega), show 20 + wx T (pl T n b) (we T n b) - 20 = wx T (pl T n b) (we T n b) by omega]
      · rw [if_neg z]
        intro h; omega
  have c0 : sm T n (pl T n b) = false := Bool.eq_false_iff.2 c
  show ∃ W, (if bz (sm T n (pl T n b)) = 0 then (f_Model_isDigit N (ch T n (pl T n b)) U).bind _ else f_Model_next_62 N N 80 U) = some W ∧ _
  rw [c0, if_pos (by rfl), chD N ht U, bn_S, if_neg (show ¬ false = true by decide), if_neg (show ¬ false = true by decide)]
  by_cases d : dg T n (pl T n b) = true
  · show ∃ W, (if bz (dg T n (pl T n b)) = 0 then _ else sw_gd [sw_ok U 80 12] (f_Model_next_128 N N 80 (wr_I (wr_I U 80 27 1) 80 28 0))) = some W ∧ _
    rw [d, if_neg (by decide), ok_80 hU.1, gd_T, if_pos rfl, if_pos rfl]
    have hde : de T n b ≤ n := wh_n _ n (dg_n T n) 501 _ pb.2
    have hge : pl T n b ≤ de T n b := (wh_b (dg T n) 501 (pl T n b)).1
    have f6 : Fr A80 U (wr_I (wr_I U 80 27 1) 80 28 0) := ((Fr.refl _ U).wI _ _ _ (by unfold A80; omega)).wI _ _ _ (by unfold A80; omega)
    obtain ⟨X, x1, x2, x3, x4⟩ := n128 N T n (de T n b - pl T n b) (pl T n b) 0 N (wr_I (wr_I U 80 27 1) 80 28 0) (gU.f80 f6) (by omega) (fun k h1 h2 => wh_in (dg T n) 501 (pl T n b) k h1 (by show k < de T n b; omega)) (by rw [show pl T n b + (de T n b - pl T n b) = de T n b by omega]; exact wh_e (dg T n) n hn (dg_n T n) _ pb.2) (by simp only [m_II, m_LL, m_RR, m_IL, m_IR, m_LI, m_LR, m_RI, m_RL, m_NI, m_NL, m_NR, m_okI, m_okL, m_okR, m_okaI, m_okaL, m_okaR, m_arI, m_arL, m_arR, gd_T, bn_S, Nat.reduceEqDiff, Nat.left_eq_add, Nat.add_eq_left, Nat.one_ne_zero, and_false, and_true, false_and, true_and, if_false, if_true]; exact u25) (by simp only [m_II, m_LL, m_RR, m_IL, m_IR, m_LI, m_LR, m_RI, m_RL, m_NI, m_NL, m_NR, m_okI, m_okL, m_okR, m_okaI, m_okaL, m_okaR, m_arI, m_arL, m_arR, gd_T, bn_S, Nat.reduceEqDiff, Nat.left_eq_add, Nat.add_eq_left, Nat.one_ne_zero, and_false, and_true, false_and, true_and, if_false, if_true]; rfl) (by omega) (by omega)
    have x2' : Fr A80 (wr_I (wr_I U 80 27 1) 80 28 0) X := x2.mono (fun a k h => by unfold A80; omega)
    refine ⟨X, x1, (fU.trans f6).trans x2', ?_, ?_, ?_, fun _ => x4, fun h => absurd h (by decide)⟩
    · rw [x2.I 80 26 (by omega)]; simp only [m_II, m_LL, m_RR, m_IL, m_IR, m_LI, m_LR, m_RI, m_RL, m_NI, m_NL, m_NR, m_okI, m_okL, m_okR, m_okaI, m_okaL, m_okaR, m_arI, m_arL, m_arR, gd_T, bn_S, Nat.reduceEqDiff, Nat.left_eq_add, Nat.add_eq_left, Nat.one_ne_zero, and_false, and_true, false_and, true_and, if_false, if_true]; exact u26
    · rw [x3, show pl T n b + (de T n b - pl T n b) = de T n b by omega]
    · rw [x2.I 80 27 (by omega)]; simp only [m_II, m_LL, m_RR, m_IL, m_IR, m_LI, m_LR, m_RI, m_RL, m_NI, m_NL, m_NR, m_okI, m_okL, m_okR, m_okaI, m_okaL, m_okaR, m_arI, m_arL, m_arR, gd_T, bn_S, Nat.reduceEqDiff, Nat.left_eq_add, Nat.add_eq_left, Nat.one_ne_zero, and_false, and_true, false_and, true_and, if_false, if_true]; rfl
  have d0 : dg T n (pl T n b) = false := Bool.eq_false_iff.2 d
  rw [d0, if_neg (show ¬ false = true by decide), if_neg (show ¬ false = true by decide)]
  show ∃ W, (if bz false = 0 then sw_gd [sw_ok U 80 12] (if ch T n (pl T n b) = 60 then (f_Model_here N 80 (wr_I (wr_I (wr_I U 80 25 (rd_I U 80 25 + 1)) 80 27 2) 80 28 (ch T n (pl T n b)))).bind (fun u10 => if u10.1 = (61 : Int32) then sw_gd [sw_ok u10.2 80 12] (f_Model_next_304 N 80 (ch T n (pl T n b)) (wr_I u10.2 80 28 (256 : Int32))) else f_Model_next_232 N 80 (ch T n (pl T n b)) u10.2) else f_Model_next_232 N 80 (ch T n (pl T n b)) (wr_I (wr_I (wr_I U 80 25 (rd_I U 80 25 + 1)) 80 27 2) 80 28 (ch T n (pl T n b)))) else _) = some W ∧ _
  rw [if_pos (by rfl), ok_80 hU.1, gd_T, ec, u25, nI_1]
  have fS : Fr A80 M (wr_I (wr_I (wr_I U 80 25 (nI (pl T n b + 1))) 80 27 2) 80 28 (nI (T (pl T n b)))) := ((fU.wI _ _ _ (by unfold A80; omega)).wI _ _ _ (by unfold A80; omega)).wI _ _ _ (by unfold A80; omega)
  have e25 : rd_I (wr_I (wr_I (wr_I U 80 25 (nI (pl T n b + 1))) 80 27 2) 80 28 (nI (T (pl T n b)))) 80 25 = nI (pl T n b + 1) := by simp only [m_II, m_LL, m_RR, m_IL, m_IR, m_LI, m_LR, m_RI, m_RL, m_NI, m_NL, m_NR, m_okI, m_okL, m_okR, m_okaI, m_okaL, m_okaR, m_arI, m_arL, m_arR, gd_T, bn_S, Nat.reduceEqDiff, Nat.left_eq_add, Nat.add_eq_left, Nat.one_ne_zero, and_false, and_true, false_and, true_and, if_false, if_true]
  have e26 : rd_I (wr_I (wr_I (wr_I U 80 25 (nI (pl T n b + 1))) 80 27 2) 80 28 (nI (T (pl T n b)))) 80 26 = nI (pl T n b) := by simp only [m_II, m_LL, m_RR, m_IL, m_IR, m_LI, m_LR, m_RI, m_RL, m_NI, m_NL, m_NR, m_okI, m_okL, m_okR, m_okaI, m_okaL, m_okaR, m_arI, m_arL, m_arR, gd_T, bn_S, Nat.reduceEqDiff, Nat.left_eq_add, Nat.add_eq_left, Nat.one_ne_zero, and_false, and_true, false_and, true_and, if_false, if_true]; exact u26
  have e27 : rd_I (wr_I (wr_I (wr_I U 80 25 (nI (pl T n b + 1))) 80 27 2) 80 28 (nI (T (pl T n b)))) 80 27 = 2 := by simp only [m_II, m_LL, m_RR, m_IL, m_IR, m_LI, m_LR, m_RI, m_RL, m_NI, m_NL, m_NR, m_okI, m_okL, m_okR, m_okaI, m_okaL, m_okaR, m_arI, m_arL, m_arR, gd_T, bn_S, Nat.reduceEqDiff, Nat.left_eq_add, Nat.add_eq_left, Nat.one_ne_zero, and_false, and_true, false_and, true_and, if_false, if_true]
  have e28 : rd_I (wr_I (wr_I (wr_I U 80 25 (nI (pl T n b + 1))) 80 27 2) 80 28 (nI (T (pl T n b)))) 80 28 = nI (T (pl T n b)) := by simp only [m_II, m_LL, m_RR, m_IL, m_IR, m_LI, m_LR, m_RI, m_RL, m_NI, m_NL, m_NR, m_okI, m_okL, m_okR, m_okaI, m_okaL, m_okaR, m_arI, m_arL, m_arR, gd_T, bn_S, Nat.reduceEqDiff, Nat.left_eq_add, Nat.add_eq_left, Nat.one_ne_zero, and_false, and_true, false_and, true_and, if_false, if_true]
  generalize wr_I (wr_I (wr_I U 80 25 (nI (pl T n b + 1))) 80 27 2) 80 28 (nI (T (pl T n b))) = S at *
  obtain ⟨W, w1, w2, w3, w4, w5, w6⟩ := tl_o N T n (pl T n b) (T (pl T n b)) S (g.f80 fS) hp tb e25 e27 e28
  exact ⟨W, w1, fS.trans w2, w3.trans e26, w4, w5, fun h => absurd h (sgk_b _ _).2.2, w6⟩
theorem next_0 (N : Nat) (hN : 1000 ≤ N) (T : Nat → Nat) (n b : Nat) (hb : b ≤ n) : ∀ (d i j : Nat) (M : sw_M), MTx M T n → i ≤ n → wh (bk T n) d i = pl T n b → bk T n (wh (bk T n) d i) = false → rd_I M 80 25 = nI i → d < j →
    ∃ W, f_Model_next_0 N j 80 M = some W ∧ Fr A80 M W ∧ MK W T n b
  | d, i, 0, M, g, hi, hw, he, h25, hj => by omega
  | d, i, j + 1, M, g, hi, hw, he, h25, hj => by
    by_cases c : bk T n i = true
    · cases d with
      | zero => rw [show wh (bk T n) 0 i = i from rfl, c] at he; exact absurd he (by decide)
      | succ d =>
        have hM := g.1
        have hn := g.2.1
        rw [wh_s c] at he hw
        have c' := bk_t.1 c
        have ht : i < n → T i < 256 := fun h => (g.2.2.2 _ h).1
        have f1 : Fr A80 M (wr_I M 80 25 (nI (i + 1))) := (Fr.refl _ M).wI _ _ _ (by unfold A80; omega)
        obtain ⟨W, w1, w2, w3⟩ := next_0 N hN T n b hb d (i + 1) j _ (g.f80 f1) (by omega) hw he (by simp only [m_II, m_LL, m_RR, m_IL, m_IR, m_LI, m_LR, m_RI, m_RL, m_NI, m_NL, m_NR, m_okI, m_okL, m_okR, m_okaI, m_okaL, m_okaR, m_arI, m_arL, m_arR, gd_T, bn_S, Nat.reduceEqDiff, Nat.left_eq_add, Nat.add_eq_left, Nat.one_ne_zero, and_false, and_true, false_and, true_and, if_false, if_true]) (by omega)
        refine ⟨W, ?_, f1.trans w2, w3⟩
        have e : f_Model_next_18 N (f_Model_next_0 N j) 80 M = some W := by
          unfold f_Model_next_18
          rw [ok_80 hM.1, gd_T, h25, nI_1]
          exact w1
        have hh := here N g hi h25
        rw [f_Model_next_0, ok_80 hM.1, gd_T, hh, bn_S]
        show (if ch T n i = 10 then f_Model_next_18 N (f_Model_next_0 N j) 80 M else sw_gd [sw_ok M 80 12] ((f_Model_here N 80 M).bind _)) = some W
        rw [e]
        rcases c'.2 with k | k
        · rw [if_pos ((chE ht 10 10 (by decide) rfl).2 ⟨c'.1, k⟩)]
        · rw [if_neg (fun h => by have := ((chE ht 10 10 (by decide) rfl).1 h).2; omega), ok_80 hM.1, gd_T, hh, bn_S]
          show (if ch T n i = 32 then f_Model_next_18 N (f_Model_next_0 N j) 80 M else _) = some W
          rw [e, if_pos ((chE ht 32 32 (by decide) rfl).2 ⟨c'.1, k⟩)]
    · rw [wh_0 (Bool.eq_false_iff.2 c)] at hw
      exact next_t N hN T n b j M g hb (by rw [← hw]; exact h25)
theorem Model_next (N : Nat) (hN : 1000 ≤ N) (T : Nat → Nat) (n b : Nat) (M : sw_M) (g : MTx M T n) (hb : b ≤ n) (h25 : rd_I M 80 25 = nI b) :
    ∃ W, f_Model_next N 80 M = some W ∧ Fr A80 M W ∧ MK W T n b :=
  next_0 N hN T n b hb 501 b N M g hb rfl (wh_e (bk T n) n g.2.1 (bk_n T n) b hb) h25 (by omega)
