/-! 97x: the house's TOKENS -/
def sb (c : Nat) : Int32 := (nI c).toInt8.toInt32
theorem sb_I : ∀ c, c < 256 → (sb c).toInt = if c < 128 then (c : Int) else (c : Int) - 256 := by decide +kernel
theorem sb_n {c : Nat} (h : c < 128) : sb c = nI c := by
  apply Int32.toInt_inj.1
  rw [sb_I c (by omega), if_pos h, nI_toInt (by omega)]
theorem sbE {c : Nat} (hc : c < 256) (k : Int32) (m : Nat) (hm : m < 128) (e : k = nI m) : sb c = k ↔ c = m := by
  rw [e]
  constructor
  · intro h
    have := congrArg Int32.toInt h
    rw [sb_I c hc, nI_toInt (by omega)] at this
    split at this <;> omega
  · rintro rfl
    exact sb_n hm
theorem sbL {c : Nat} (hc : c < 256) (k : Int32) (m : Nat) (hm : m < 128) (e : k = nI m) : sb c < k ↔ (c < m ∨ 128 ≤ c) := by
  rw [e, Int32.lt_iff_toInt_lt, sb_I c hc, nI_toInt (by omega)]
  split <;> omega
theorem sbG {c : Nat} (hc : c < 256) (k : Int32) (m : Nat) (hm : m < 128) (e : k = nI m) : k < sb c ↔ (m < c ∧ c < 128) := by
  rw [e, Int32.lt_iff_toInt_lt, sb_I c hc, nI_toInt (by omega)]
  split <;> omega
theorem wh_0 {P : Nat → Bool} {i : Nat} (h : P i = false) (d : Nat) : wh P d i = i := by
  cases d with
  | zero => rfl
  | succ d => unfold wh; rw [if_neg (by rw [h]; decide)]
theorem wh_s {P : Nat → Bool} {i : Nat} (h : P i = true) (d : Nat) : wh P (d + 1) i = wh P d (i + 1) := by
  rw [wh, if_pos h]
/-- the text on the house's side -/
def HTx (M : sw_M) (T : Nat → Nat) (n : Nat) : Prop := HR M ∧ n ≤ 500 ∧ rd_I M 17 3 = nI n ∧ ∀ i, i < n → T i < 256 ∧ rd_I M 2 i = sb (T i)
def A17 (a k : Nat) : Prop := a = 17 ∧ 4 ≤ k ∧ k ≤ 7
theorem HTx.fr {A : Nat → Nat → Prop} {M W : sw_M} {T : Nat → Nat} {n : Nat} (g : HTx M T n) (h : Fr A M W) (h3 : ¬ A 17 3) (h2 : ∀ k, ¬ A 2 k) : HTx W T n := by
  obtain ⟨g1, g2, g3, g4⟩ := g
  refine ⟨h.hr g1, g2, (h.I 17 3 h3).trans g3, fun i hi => ?_⟩
  rw [h.I 2 i (h2 i)]
  exact g4 i hi
theorem HTx.f17 {M W : sw_M} {T : Nat → Nat} {n : Nat} (g : HTx M T n) (h : Fr A17 M W) : HTx W T n := g.fr h (by unfold A17; omega) (fun k => by unfold A17; omega)
theorem HTx.rd {M : sw_M} {T : Nat → Nat} {n : Nat} (g : HTx M T n) {i : Nat} (hi : i < n) : (sw_ar M 2 14 (nI i) || sw_ar M 2 15 (nI i)) = true ∧ rd_I M 2 (nI i).toNatClampNeg = sb (T i) := by
  obtain ⟨g1, g2, g3, g4⟩ := g
  rw [cl_n (show i < 2 ^ 31 by omega), ar_2 g1.1, ti_n (show i < 500 by omega) (by decide)]
  exact ⟨rfl, (g4 i hi).2⟩
/-- the TOKEN that the house looks at -/
def HK (W : sw_M) (T : Nat → Nat) (n b : Nat) : Prop := rd_I W 17 4 = nI (pl T n b) ∧ rd_I W 17 5 = nI (nd T n b) ∧ rd_I W 17 6 = nI (kk T n b) ∧ (kk T n b = 2 → rd_I W 17 7 = nI (vh T n b))
theorem adv_8 (N : Nat) (T : Nat → Nat) (n : Nat) : ∀ (d i j : Nat) (M : sw_M), HTx M T n → i ≤ n → rd_I M 17 4 = nI i → d < j → bk T n (wh (bk T n) d i) = false →
    ∃ W, f_Reader_advance_8 N j 17 M = f_Reader_advance_60 N 17 W ∧ Fr A17 M W ∧ rd_I W 17 4 = nI (wh (bk T n) d i)
  | d, i, 0, M, g, hi, h4, hj, he => by omega
  | d, i, j + 1, M, g, hi, h4, hj, he => by
    have hH := g.1
    have hn := g.2.1
    rw [f_Reader_advance_8, ok_17 hH.1, gd_T, hr_f hH 17 0 2 rfl (by decide), g.2.2.1, h4]
    by_cases q : n ≤ i
    · rw [if_pos (nI_le q (by omega)), wh_0 (bk_n T n i q)]
      exact ⟨M, rfl, Fr.refl _ _, h4⟩
    obtain ⟨r1, r2⟩ := g.rd (show i < n by omega)
    have ht := (g.2.2.2 i (by omega)).1
    rw [if_neg (nI_ge (by omega) (by omega)), r1, gd_T, r2]
    by_cases c : bk T n i = true
    · cases d with
      | zero => rw [show wh (bk T n) 0 i = i from rfl, c] at he; exact absurd he (by decide)
      | succ d =>
        rw [wh_s c] at he ⊢
        have f1 : Fr A17 M (wr_I M 17 4 (nI (i + 1))) := (Fr.refl _ M).wI _ _ _ (by unfold A17; omega)
        obtain ⟨W, w1, w2, w3⟩ := adv_8 N T n d (i + 1) j _ (g.f17 f1) (by omega) (by simp only [m_II, m_LL, m_RR, m_IL, m_IR, m_LI, m_LR, m_RI, m_RL, m_NI, m_NL, m_NR, m_okI, m_okL, m_okR, m_okaI, m_okaL, m_okaR, m_arI, m_arL, m_arR, gd_T, bn_S, Nat.reduceEqDiff, Nat.left_eq_add, Nat.add_eq_left, Nat.one_ne_zero, and_false, and_true, false_and, true_and, if_false, if_true]) (by omega) he
        refine ⟨W, ?_, f1.trans w2, w3⟩
        have e : f_Reader_advance_47 N (f_Reader_advance_8 N j) 17 M = f_Reader_advance_60 N 17 W := by
          unfold f_Reader_advance_47
          rw [ok_17 hH.1, gd_T, h4, nI_1]
          exact w1
        rw [e]
        rcases (bk_t.1 c).2 with k | k
        · rw [if_pos ((sbE ht 10 10 (by decide) rfl).2 k)]
        · rw [if_neg (fun h => by have := (sbE ht 10 10 (by decide) rfl).1 h; omega), if_pos ((sbE ht 32 32 (by decide) rfl).2 k)]
    · have c' : ¬ (T i = 10 ∨ T i = 32) := fun h => c (bk_t.2 ⟨by omega, h⟩)
      rw [if_neg (fun h => c' (Or.inl ((sbE ht 10 10 (by decide) rfl).1 h))), if_neg (fun h => c' (Or.inr ((sbE ht 32 32 (by decide) rfl).1 h))), wh_0 (Bool.eq_false_iff.2 c)]
      exact ⟨M, rfl, Fr.refl _ _, h4⟩
theorem word_0 (N : Nat) (T : Nat → Nat) (n : Nat) : ∀ (d i j : Nat) (M : sw_M), HTx M T n → i ≤ n → rd_I M 17 5 = nI i → d < j → sm T n (wh (sm T n) d i) = false →
    ∃ W, f_Reader_scanWord_0 N j 17 M = f_Reader_scanWord_52 N 17 W ∧ Fr (fun a k => a = 17 ∧ k = 5) M W ∧ rd_I W 17 5 = nI (wh (sm T n) d i)
  | d, i, 0, M, g, hi, h4, hj, he => by omega
  | d, i, j + 1, M, g, hi, h4, hj, he => by
    have hH := g.1
    have hn := g.2.1
    rw [f_Reader_scanWord_0, ok_17 hH.1, gd_T, hr_f hH 17 0 2 rfl (by decide), g.2.2.1, h4]
    by_cases q : n ≤ i
    · rw [if_pos (nI_le q (by omega)), wh_0 (sm_n T n i q)]
      exact ⟨M, rfl, Fr.refl _ _, h4⟩
    obtain ⟨r1, r2⟩ := g.rd (show i < n by omega)
    have ht := (g.2.2.2 i (by omega)).1
    rw [if_neg (nI_ge (by omega) (by omega)), r1, gd_T, r2]
    by_cases c : sm T n i = true
    · obtain ⟨c0, c1, c2⟩ := sm_t.1 c
      cases d with
      | zero => rw [show wh (sm T n) 0 i = i from rfl, c] at he; exact absurd he (by decide)
      | succ d =>
        rw [wh_s c] at he ⊢
        have f1 : Fr (fun a k => a = 17 ∧ k = 5) M (wr_I M 17 5 (nI (i + 1))) := (Fr.refl _ M).wI _ _ _ ⟨rfl, rfl⟩
        obtain ⟨W, w1, w2, w3⟩ := word_0 N T n d (i + 1) j _ (g.f17 (f1.mono (fun a k h => by unfold A17; omega))) (by omega) (by simp only [m_II, m_LL, m_RR, m_IL, m_IR, m_LI, m_LR, m_RI, m_RL, m_NI, m_NL, m_NR, m_okI, m_okL, m_okR, m_okaI, m_okaL, m_okaR, m_arI, m_arL, m_arR, gd_T, bn_S, Nat.reduceEqDiff, Nat.left_eq_add, Nat.add_eq_left, Nat.one_ne_zero, and_false, and_true, false_and, true_and, if_false, if_true]) (by omega) he
        refine ⟨W, ?_, f1.trans w2, w3⟩
        rw [if_neg (fun h => by have := (sbL ht 97 97 (by decide) rfl).1 h; omega), if_neg (fun h => by have := (sbG ht 122 122 (by decide) rfl).1 h; omega), nI_1]
        exact w1
    · rw [wh_0 (Bool.eq_false_iff.2 c)]
      refine ⟨M, ?_, Fr.refl _ _, h4⟩
      by_cases k : sb (T i) < 97
      · rw [if_pos k]
      · have k1 : ¬ (T i < 97 ∨ 128 ≤ T i) := fun h => k ((sbL ht 97 97 (by decide) rfl).2 h)
        rw [if_neg k, if_pos ((sbG ht 122 122 (by decide) rfl).2 ⟨by
          rcases Nat.lt_or_ge 122 (T i) with h | h
          · exact h
          · exact absurd (sm_t.2 ⟨by omega, by omega, h⟩) c, by omega⟩)]
theorem word_73 (N : Nat) (T : Nat → Nat) (n : Nat) (k59 : Nat → Int32 → sw_M → Option (sw_M)) (w : Nat) (hw : w < 15) (p e : Nat) (hp : p < e) (he : e ≤ n) (M : sw_M) (g : HTx M T n) (h4 : rd_I M 17 4 = nI p) (h5 : rd_I M 17 5 = nI e) : ∀ (d i j : Nat), i + d = 8 → d < j →
    f_Reader_scanWord_73 N k59 j 17 (nI (8 * w)) (nI i) M = f_Reader_scanWord_120 N k59 17 (nI (8 * w)) (nI (wh (fun i => decide (p + i < e) && decide (T (p + i) = lc w i)) d i)) M
  | d, i, 0, hi, hj => by omega
  | 0, i, j + 1, hi, hj => by
    obtain rfl : i = 8 := by omega
    rw [f_Reader_scanWord_73, if_pos (by decide)]
    rfl
  | d + 1, i, j + 1, hi, hj => by
    have hH := g.1
    have hn := g.2.1
    have a1 : nI p + nI i = nI (p + i) := nI_add p i
    have a2 : nI (8 * w) + nI i = nI (8 * w + i) := nI_add _ i
    rw [f_Reader_scanWord_73, if_neg (show ¬ (8 : Int32) ≤ nI i from (nI_ge (by omega) (by omega) : ¬ nI 8 ≤ nI i)), ok_17 hH.1, gd_T, h4, h5, a1, a2]
    by_cases c : p + i < e
    · obtain ⟨r1, r2⟩ := g.rd (show p + i < n by omega)
      have ht := (g.2.2.2 (p + i) (by omega)).1
      rw [if_neg (nI_ge c (by omega)), hr_f hH 17 0 2 rfl (by decide), r1, gd_T, ti_n (show 8 * w + i < 120 by omega) (by decide), gd_T, r2, lc_0 w hw i (by omega), nI_1]
      by_cases q : T (p + i) = lc w i
      · rw [if_pos ((sbE ht _ (lc w i) (lc_b w hw i) rfl).2 q), wh_s (by rw [decide_eq_true c, decide_eq_true q]; rfl)]
        exact word_73 N T n k59 w hw p e hp he M g h4 h5 d (i + 1) j (by omega) (by omega)
      · rw [if_neg (fun h => q ((sbE ht _ (lc w i) (lc_b w hw i) rfl).1 h)), wh_0 (by rw [decide_eq_false q, Bool.and_false])]
    · rw [if_pos (nI_le (by omega) (by omega)), wh_0 (by rw [decide_eq_false c, Bool.false_and])]
theorem tok20 : ∀ w, w < 15 → (20 : Int32) + nI (8 * w) / 8 = nI (20 + w) := by decide +kernel
theorem wx_m {T : Nat → Nat} {p e w : Nat} (hp : p < e) (hl : ∀ i, p ≤ i → i < e → ¬ T i = 32) (hw : w < 15) : mt T p e w = true ↔ wx T p e = w := by
  constructor
  · intro h
    have h1 : wx T p e ≤ w := by
      rcases Nat.lt_or_ge w (wx T p e) with q | q
      · have := wh_in (fun w => !(mt T p e w)) 15 0 w (by omega) q
        simp only [h] at this
        exact absurd this (by decide)
      · exact q
    have h2 := wh_out (fun w => !(mt T p e w)) 15 0 (by show wx T p e < 0 + 15; omega)
    have h3 : mt T p e (wx T p e) = true := by
      have h4 : (!(mt T p e (wx T p e))) = false := h2
      revert h4
      cases mt T p e (wx T p e) <;> simp
    exact mt_u hp hl (by omega) hw h3 h
  · intro h
    have h2 := wh_out (fun w => !(mt T p e w)) 15 0 (by show wx T p e < 0 + 15; omega)
    have h4 : (!(mt T p e (wx T p e))) = false := h2
    rw [h] at h4
    revert h4
    cases mt T p e w <;> simp
theorem word_59 (N : Nat) (hN : 1000 ≤ N) (T : Nat → Nat) (n p e : Nat) (hp : p < e) (he : e ≤ n) (hl : ∀ i, p ≤ i → i < e → ¬ T i = 32) : ∀ (d w j : Nat) (M : sw_M), w + d = 15 → d < j → HTx M T n → rd_I M 17 4 = nI p → rd_I M 17 5 = nI e → rd_I M 17 6 = nI (if wx T p e < w then 20 + wx T p e else 1) →
    ∃ W, f_Reader_scanWord_59 N j 17 (nI (8 * w)) M = some W ∧ Fr (fun a k => a = 17 ∧ k = 6) M W ∧ rd_I W 17 6 = nI (if wx T p e < 15 then 20 + wx T p e else 1)
  | d, w, 0, M, hd, hj, g, h4, h5, h6 => by omega
  | 0, w, j + 1, M, hd, hj, g, h4, h5, h6 => by
    obtain rfl : w = 15 := by omega
    rw [f_Reader_scanWord_59, if_pos (by decide)]
    exact ⟨M, rfl, Fr.refl _ _, h6⟩
  | d + 1, w, j + 1, M, hd, hj, g, h4, h5, h6 => by
    have hH := g.1
    have hn := g.2.1
    have e8 : nI (8 * w) + 8 = nI (8 * (w + 1)) := (nI_add (8 * w) 8).trans (by rw [show 8 * w + 8 = 8 * (w + 1) by omega])
    have s8 : sa T p e w ≤ 8 := by have := (wh_b (fun i => decide (p + i < e) && decide (T (p + i) = lc w i)) 8 0).2; exact Nat.le_trans this (by omega)
    have go : f_Reader_scanWord_59 N (j + 1) 17 (nI (8 * w)) M = f_Reader_scanWord_59 N j 17 (nI (8 * (w + 1))) (if mt T p e w = true then wr_I M 17 6 (nI (20 + w)) else M) := by
      rw [f_Reader_scanWord_59, e8, if_neg (show ¬ (120 : Int32) < nI (8 * (w + 1)) from (nI_nlt (by omega) (by omega) : ¬ nI 120 < nI (8 * (w + 1)))), show (0 : Int32) = nI 0 from rfl, word_73 N T n _ w (by omega) p e hp he M g h4 h5 8 0 N (by omega) (by omega)]
      show f_Reader_scanWord_120 N _ 17 (nI (8 * w)) (nI (sa T p e w)) M = _
      have a1 : nI p + nI (sa T p e w) = nI (p + sa T p e w) := nI_add p _
      have a2 : nI (8 * w) + nI (sa T p e w) = nI (8 * w + sa T p e w) := nI_add _ _
      have k163 : ∀ V, f_Reader_scanWord_163 N (f_Reader_scanWord_59 N j) 17 (nI (8 * w)) V = f_Reader_scanWord_59 N j 17 (nI (8 * (w + 1))) V := fun V => by
        unfold f_Reader_scanWord_163
        rw [e8]
      unfold f_Reader_scanWord_120
      rw [h4, h5, a1, a2, ok_17 hH.1, gd_T, tok20 w (by omega), k163, k163]
      by_cases q8 : sa T p e w < 8
      · rw [if_neg (show ¬ (8 : Int32) ≤ nI (sa T p e w) from (nI_ge q8 (by omega) : ¬ nI 8 ≤ nI (sa T p e w))), ti_n (show 8 * w + sa T p e w < 120 by omega) (by decide), gd_T, lc_0 w (by omega) _ q8]
        unfold mt
        by_cases c1 : p + sa T p e w = e
        · rw [if_pos (by rw [c1])]
          by_cases c2 : lc w (sa T p e w) = 32
          · rw [if_pos (by rw [c2]; rfl), if_pos (by rw [decide_eq_true c1, decide_eq_true c2]; rfl)]
          · have := lc_b w (show w < 15 by omega) (sa T p e w)
            rw [if_neg (show ¬ nI (lc w (sa T p e w)) = (32 : Int32) from fun h => c2 ((nI_eq (by omega) (by decide)).1 (h : nI _ = nI 32))), if_neg (by rw [decide_eq_false c2, Bool.and_false]; decide)]
        · rw [if_neg (fun h => c1 ((nI_eq (by omega) (by omega)).1 h)), if_neg (by rw [decide_eq_false c1, Bool.false_and]; decide)]
      · have s9 : sa T p e w = 8 := by omega
        have : mt T p e w = false := by
          unfold mt
          rw [s9, decide_eq_false (show ¬ lc w 8 = 32 by unfold lc; rw [if_neg (by omega)]; omega), Bool.and_false]
        rw [if_pos (show (8 : Int32) ≤ nI (sa T p e w) by rw [s9]; decide), this, if_neg (by decide)]
    rw [go]
    by_cases c : mt T p e w = true
    · have cw := (wx_m hp hl (show w < 15 by omega)).1 c
      rw [if_pos c]
      have f1 : Fr (fun a k => a = 17 ∧ k = 6) M (wr_I M 17 6 (nI (20 + w))) := (Fr.refl _ M).wI _ _ _ ⟨rfl, rfl⟩
      obtain ⟨W, w1, w2, w3⟩ := word_59 N hN T n p e hp he hl d (w + 1) j _ (by omega) (by omega) (g.f17 (f1.mono (fun a k h => by unfold A17; omega))) (by simp only [m_II, m_LL, m_RR, m_IL, m_IR, m_LI, m_LR, m_RI, m_RL, m_NI, m_NL, m_NR, m_okI, m_okL, m_okR, m_okaI, m_okaL, m_okaR, m_arI, m_arL, m_arR, gd_T, bn_S, Nat.reduceEqDiff, Nat.left_eq_add, Nat.add_eq_left, Nat.one_ne_zero, and_false, and_true, false_and, true_and, if_false, if_true]; exact h4) (by simp only [m_II, m_LL, m_RR, m_IL, m_IR, m_LI, m_LR, m_RI, m_RL, m_NI, m_NL, m_NR, m_okI, m_okL, m_okR, m_okaI, m_okaL, m_okaR, m_arI, m_arL, m_arR, gd_T, bn_S, Nat.reduceEqDiff, Nat.left_eq_add, Nat.add_eq_left, Nat.one_ne_zero, and_false, and_true, false_and, true_and, if_false, if_true]; exact h5) (by simp only [m_II, m_LL, m_RR, m_IL, m_IR, m_LI, m_LR, m_RI, m_RL, m_NI, m_NL, m_NR, m_okI, m_okL, m_okR, m_okaI, m_okaL, m_okaR, m_arI, m_arL, m_arR, gd_T, bn_S, Nat.reduceEqDiff, Nat.left_eq_add, Nat.add_eq_left, Nat.one_ne_zero, and_false, and_true, false_and, true_and, if_false, if_true]; rw [if_pos (by omega), cw])
      exact ⟨W, w1, f1.trans w2, w3⟩
    · have cw : ¬ wx T p e = w := fun h => c ((wx_m hp hl (show w < 15 by omega)).2 h)
      rw [if_neg c]
      refine word_59 N hN T n p e hp he hl d (w + 1) j M (by omega) (by omega) g h4 h5 ?_
      rw [h6]
      by_cases k : wx T p e < w
      · rw [if_pos k, if_pos (by omega)]
      · rw [if_neg k, if_neg (by omega)]
theorem num_10 (N : Nat) (T : Nat → Nat) (n : Nat) : ∀ (d i a j : Nat) (M : sw_M), HTx M T n → i + d ≤ n → (∀ k, i ≤ k → k < i + d → dg T n k = true) → dg T n (i + d) = false → rd_I M 17 5 = nI i → rd_I M 17 7 = nI a → a ≤ 1000000 → d < j →
    ∃ W, f_Reader_scanNumber_10 N j 17 M = some W ∧ Fr (fun a k => a = 17 ∧ (k = 5 ∨ k = 7)) M W ∧ rd_I W 17 5 = nI (i + d) ∧ rd_I W 17 7 = nI (hv T d i a)
  | d, i, a, 0, M, g, hi, hd, he, h5, h7, ha, hj => by omega
  | 0, i, a, j + 1, M, g, hi, hd, he, h5, h7, ha, hj => by
    have hH := g.1
    have hn := g.2.1
    refine ⟨M, ?_, Fr.refl _ _, h5, h7⟩
    rw [f_Reader_scanNumber_10, ok_17 hH.1, gd_T, hr_f hH 17 0 2 rfl (by decide), g.2.2.1, h5]
    by_cases q : n ≤ i
    · rw [if_pos (nI_le q (by omega))]
    obtain ⟨r1, r2⟩ := g.rd (show i < n by omega)
    have ht := (g.2.2.2 i (by omega)).1
    rw [if_neg (nI_ge (by omega) (by omega)), r1, gd_T, r2]
    have c : ¬ (i < n ∧ 48 ≤ T i ∧ T i ≤ 57) := fun h => by
      have := dg_t.2 h
      rw [Nat.add_zero] at he
      rw [he] at this
      exact absurd this (by decide)
    by_cases k : sb (T i) < 48
    · rw [if_pos k]
    · have k1 : ¬ (T i < 48 ∨ 128 ≤ T i) := fun h => k ((sbL ht 48 48 (by decide) rfl).2 h)
      rw [if_neg k, if_pos ((sbG ht 57 57 (by decide) rfl).2 ⟨by omega, by omega⟩)]
  | d + 1, i, a, j + 1, M, g, hi, hd, he, h5, h7, ha, hj => by
    have hH := g.1
    have hn := g.2.1
    obtain ⟨r1, r2⟩ := g.rd (show i < n by omega)
    have ht := (g.2.2.2 i (by omega)).1
    obtain ⟨c0, c1, c2⟩ := dg_t.1 (hd i (by omega) (by omega))
    have e1 : m_minI (nI a * 10 + nI (T i) - 48) 1000000 = nI (min (a * 10 + T i - 48) 1000000) := by
      have b1 : nI a * 10 = nI (a * 10) := nI_mul a 10
      have b2 : nI (a * 10) + nI (T i) = nI (a * 10 + T i) := nI_add _ _
      have b3 : nI (a * 10 + T i) - 48 = nI (a * 10 + T i - 48) := nI_sub _ 48 (by omega)
      rw [b1, b2, b3]
      unfold m_minI
      by_cases q : 1000000 < a * 10 + T i - 48
      · rw [if_pos (show (1000000 : Int32) < _ from (nI_lt q (by omega) : nI 1000000 < _)), Nat.min_eq_right (by omega)]
        rfl
      · rw [if_neg (show ¬ (1000000 : Int32) < _ from (nI_nlt (by omega) (by omega) : ¬ nI 1000000 < _)), Nat.min_eq_left (by omega)]
    have f1 : Fr (fun a k => a = 17 ∧ (k = 5 ∨ k = 7)) M (wr_I (wr_I M 17 7 (nI (min (a * 10 + T i - 48) 1000000))) 17 5 (nI (i + 1))) := ((Fr.refl _ M).wI _ _ _ ⟨rfl, Or.inr rfl⟩).wI _ _ _ ⟨rfl, Or.inl rfl⟩
    obtain ⟨W, w1, w2, w3, w4⟩ := num_10 N T n d (i + 1) (min (a * 10 + T i - 48) 1000000) j _ (g.f17 (f1.mono (fun a k h => by unfold A17; omega))) (by omega) (fun k h1 h2 => hd k (by omega) (by omega)) (by rw [show i + 1 + d = i + (d + 1) by omega]; exact he) (by simp only [m_II, m_LL, m_RR, m_IL, m_IR, m_LI, m_LR, m_RI, m_RL, m_NI, m_NL, m_NR, m_okI, m_okL, m_okR, m_okaI, m_okaL, m_okaR, m_arI, m_arL, m_arR, gd_T, bn_S, Nat.reduceEqDiff, Nat.left_eq_add, Nat.add_eq_left, Nat.one_ne_zero, and_false, and_true, false_and, true_and, if_false, if_true]) (by simp only [m_II, m_LL, m_RR, m_IL, m_IR, m_LI, m_LR, m_RI, m_RL, m_NI, m_NL, m_NR, m_okI, m_okL, m_okR, m_okaI, m_okaL, m_okaR, m_arI, m_arL, m_arR, gd_T, bn_S, Nat.reduceEqDiff, Nat.left_eq_add, Nat.add_eq_left, Nat.one_ne_zero, and_false, and_true, false_and, true_and, if_false, if_true]) (by omega) (by omega)
    refine ⟨W, ?_, f1.trans w2, by rw [w3, show i + 1 + d = i + (d + 1) by omega], w4⟩
    rw [f_Reader_scanNumber_10, ok_17 hH.1, gd_T, hr_f hH 17 0 2 rfl (by decide), g.2.2.1, h5, if_neg (nI_ge (by omega) (by omega)), r1, gd_T, r2, if_neg (fun h => by have := (sbL ht 48 48 (by decide) rfl).1 h; omega), if_neg (fun h => by have := (sbG ht 57 57 (by decide) rfl).1 h; omega), h7, sb_n (show T i < 128 by omega), e1, m_II, if_neg (by omega), h5, nI_1]
    exact w1
theorem scanSign (N : Nat) (M : sw_M) (hH : HR M) (c d : Nat) (hc : c < 256) (hd : d < 256) (p : Nat) (h4 : rd_I M 17 4 = nI p) : f_Reader_scanSign N 17 (sb c) (sb d) M = some (wr_I (wr_I M 17 6 (nI (sgk c d))) 17 5 (nI (p + sgw c d))) := by
  have ok : sw_ok M 17 6 = true := ok_17 hH.1
  have e1 : nI p + 1 = nI (p + 1) := nI_1 p
  have e2 : nI p + 2 = nI (p + 2) := nI_add p 2
  have z : ∀ (t w : Int32), f_Reader_scanSign_296 N 17 w (wr_I M 17 6 t) = some (wr_I (wr_I M 17 6 t) 17 5 (nI p + w)) := fun t w => by
    unfold f_Reader_scanSign_296
    simp only [m_II, m_LL, m_RR, m_IL, m_IR, m_LI, m_LR, m_RI, m_RL, m_NI, m_NL, m_NR, m_okI, m_okL, m_okR, m_okaI, m_okaL, m_okaR, m_arI, m_arL, m_arR, gd_T, bn_S, Nat.reduceEqDiff, Nat.left_eq_add, Nat.add_eq_left, Nat.one_ne_zero, and_false, and_true, false_and, true_and, if_false, if_true, ok, h4]
  have zb : f_Reader_scanSign_291 N 17 1 M = some (wr_I (wr_I M 17 6 1) 17 5 (nI p + 1)) := by
    unfold f_Reader_scanSign_291
    rw [ok, gd_T, z]
  by_cases q40 : c = 40
  · subst q40
    show sw_gd [sw_ok M 17 6] (f_Reader_scanSign_296 N 17 1 (wr_I M 17 6 5)) = _
    rw [ok, gd_T, z, e1]
    rfl
  by_cases q41 : c = 41
  · subst q41
    show sw_gd [sw_ok M 17 6] (f_Reader_scanSign_296 N 17 1 (wr_I M 17 6 6)) = _
    rw [ok, gd_T, z, e1]
    rfl
  by_cases q42 : c = 42
  · subst q42
    show sw_gd [sw_ok M 17 6] (f_Reader_scanSign_296 N 17 1 (wr_I M 17 6 9)) = _
    rw [ok, gd_T, z, e1]
    rfl
  by_cases q43 : c = 43
  · subst q43
    show sw_gd [sw_ok M 17 6] (f_Reader_scanSign_296 N 17 1 (wr_I M 17 6 7)) = _
    rw [ok, gd_T, z, e1]
    rfl
  by_cases q44 : c = 44
  · subst q44
    show f_Reader_scanSign_291 N 17 1 M = _
    rw [zb, e1]
    rfl
  by_cases q45 : c = 45
  · subst q45
    show sw_gd [sw_ok M 17 6] (f_Reader_scanSign_296 N 17 1 (wr_I M 17 6 8)) = _
    rw [ok, gd_T, z, e1]
    rfl
  by_cases q46 : c = 46
  · subst q46
    by_cases r : d = 46
    · subst r
      show f_Reader_scanSign_271 N 17 4 17 M = _
      unfold f_Reader_scanSign_271 f_Reader_scanSign_287
      simp only [m_II, m_LL, m_RR, m_IL, m_IR, m_LI, m_LR, m_RI, m_RL, m_NI, m_NL, m_NR, m_okI, m_okL, m_okR, m_okaI, m_okaL, m_okaR, m_arI, m_arL, m_arR, gd_T, bn_S, Nat.reduceEqDiff, Nat.left_eq_add, Nat.add_eq_left, Nat.one_ne_zero, and_false, and_true, false_and, true_and, if_false, if_true, ok, z, e2]
      rfl
    · show (if sb d = 46 then f_Reader_scanSign_271 N 17 4 17 M else f_Reader_scanSign_271 N 17 1 17 M) = _
      rw [if_neg (fun h => r ((sbE hd 46 46 (by decide) rfl).1 h))]
      unfold f_Reader_scanSign_271 f_Reader_scanSign_287
      simp only [m_II, m_LL, m_RR, m_IL, m_IR, m_LI, m_LR, m_RI, m_RL, m_NI, m_NL, m_NR, m_okI, m_okL, m_okR, m_okaI, m_okaL, m_okaR, m_arI, m_arL, m_arR, gd_T, bn_S, Nat.reduceEqDiff, Nat.left_eq_add, Nat.add_eq_left, Nat.one_ne_zero, and_false, and_true, false_and, true_and, if_false, if_true, ok, z, e1, show ¬ (1 : Int32) = 4 by decide]
      show _ = some (wr_I (wr_I M 17 6 (nI (if d = 46 then 4 else 1))) 17 5 (nI (p + (if d = 46 then 2 else 1))))
      rw [if_neg r, if_neg r]
      rfl
  by_cases q47 : c = 47
  · subst q47
    show sw_gd [sw_ok M 17 6] (f_Reader_scanSign_296 N 17 1 (wr_I M 17 6 10)) = _
    rw [ok, gd_T, z, e1]
    rfl
  by_cases q48 : c = 48
  · subst q48
    show f_Reader_scanSign_291 N 17 1 M = _
    rw [zb, e1]
    rfl
  by_cases q49 : c = 49
  · subst q49
    show f_Reader_scanSign_291 N 17 1 M = _
    rw [zb, e1]
    rfl
  by_cases q50 : c = 50
  · subst q50
    show f_Reader_scanSign_291 N 17 1 M = _
    rw [zb, e1]
    rfl
  by_cases q51 : c = 51
  · subst q51
    show f_Reader_scanSign_291 N 17 1 M = _
    rw [zb, e1]
    rfl
  by_cases q52 : c = 52
  · subst q52
    show f_Reader_scanSign_291 N 17 1 M = _
    rw [zb, e1]
    rfl
  by_cases q53 : c = 53
  · subst q53
    show f_Reader_scanSign_291 N 17 1 M = _
    rw [zb, e1]
    rfl
  by_cases q54 : c = 54
  · subst q54
    show f_Reader_scanSign_291 N 17 1 M = _
    rw [zb, e1]
    rfl
  by_cases q55 : c = 55
  · subst q55
    show f_Reader_scanSign_291 N 17 1 M = _
    rw [zb, e1]
    rfl
  by_cases q56 : c = 56
  · subst q56
    show f_Reader_scanSign_291 N 17 1 M = _
    rw [zb, e1]
    rfl
  by_cases q57 : c = 57
  · subst q57
    show f_Reader_scanSign_291 N 17 1 M = _
    rw [zb, e1]
    rfl
  by_cases q58 : c = 58
  · subst q58
    show f_Reader_scanSign_291 N 17 1 M = _
    rw [zb, e1]
    rfl
  by_cases q59 : c = 59
  · subst q59
    show sw_gd [sw_ok M 17 6] (f_Reader_scanSign_296 N 17 1 (wr_I M 17 6 3)) = _
    rw [ok, gd_T, z, e1]
    rfl
  by_cases q60 : c = 60
  · subst q60
    by_cases r : d = 61
    · subst r
      show f_Reader_scanSign_203 N 17 12 17 M = _
      unfold f_Reader_scanSign_203 f_Reader_scanSign_220
      simp only [m_II, m_LL, m_RR, m_IL, m_IR, m_LI, m_LR, m_RI, m_RL, m_NI, m_NL, m_NR, m_okI, m_okL, m_okR, m_okaI, m_okaL, m_okaR, m_arI, m_arL, m_arR, gd_T, bn_S, Nat.reduceEqDiff, Nat.left_eq_add, Nat.add_eq_left, Nat.one_ne_zero, and_false, and_true, false_and, true_and, if_false, if_true, ok, z, e2, show ¬ (12 : Int32) = 11 by decide]
      rfl
    · by_cases r2 : d = 62
      · subst r2
        show f_Reader_scanSign_203 N 17 14 17 M = _
        unfold f_Reader_scanSign_203 f_Reader_scanSign_220
        simp only [m_II, m_LL, m_RR, m_IL, m_IR, m_LI, m_LR, m_RI, m_RL, m_NI, m_NL, m_NR, m_okI, m_okL, m_okR, m_okaI, m_okaL, m_okaR, m_arI, m_arL, m_arR, gd_T, bn_S, Nat.reduceEqDiff, Nat.left_eq_add, Nat.add_eq_left, Nat.one_ne_zero, and_false, and_true, false_and, true_and, if_false, if_true, ok, z, e2, show ¬ (14 : Int32) = 11 by decide]
        rfl
      · show (if sb d = 61 then f_Reader_scanSign_203 N 17 12 17 M else if sb d = 62 then f_Reader_scanSign_203 N 17 14 17 M else f_Reader_scanSign_203 N 17 11 17 M) = _
        rw [if_neg (fun h => r ((sbE hd 61 61 (by decide) rfl).1 h)), if_neg (fun h => r2 ((sbE hd 62 62 (by decide) rfl).1 h))]
        unfold f_Reader_scanSign_203 f_Reader_scanSign_220
        simp only [m_II, m_LL, m_RR, m_IL, m_IR, m_LI, m_LR, m_RI, m_RL, m_NI, m_NL, m_NR, m_okI, m_okL, m_okR, m_okaI, m_okaL, m_okaR, m_arI, m_arL, m_arR, gd_T, bn_S, Nat.reduceEqDiff, Nat.left_eq_add, Nat.add_eq_left, Nat.one_ne_zero, and_false, and_true, false_and, true_and, if_false, if_true, ok, z, e1]
        show _ = some (wr_I (wr_I M 17 6 (nI (if d = 61 then 12 else if d = 62 then 14 else 11))) 17 5 (nI (p + (if d = 61 then 2 else if d = 62 then 2 else 1))))
        rw [if_neg r, if_neg r, if_neg r2, if_neg r2]
        rfl
  by_cases q61 : c = 61
  · subst q61
    show sw_gd [sw_ok M 17 6] (f_Reader_scanSign_296 N 17 1 (wr_I M 17 6 13)) = _
    rw [ok, gd_T, z, e1]
    rfl
  by_cases q62 : c = 62
  · subst q62
    by_cases r : d = 61
    · subst r
      show f_Reader_scanSign_238 N 17 15 17 M = _
      unfold f_Reader_scanSign_238 f_Reader_scanSign_255
      simp only [m_II, m_LL, m_RR, m_IL, m_IR, m_LI, m_LR, m_RI, m_RL, m_NI, m_NL, m_NR, m_okI, m_okL, m_okR, m_okaI, m_okaL, m_okaR, m_arI, m_arL, m_arR, gd_T, bn_S, Nat.reduceEqDiff, Nat.left_eq_add, Nat.add_eq_left, Nat.one_ne_zero, and_false, and_true, false_and, true_and, if_false, if_true, ok, z, e2, show ¬ (15 : Int32) = 16 by decide]
      rfl
    · show (if sb d = 61 then f_Reader_scanSign_238 N 17 15 17 M else f_Reader_scanSign_238 N 17 16 17 M) = _
      rw [if_neg (fun h => r ((sbE hd 61 61 (by decide) rfl).1 h))]
      unfold f_Reader_scanSign_238 f_Reader_scanSign_255
      simp only [m_II, m_LL, m_RR, m_IL, m_IR, m_LI, m_LR, m_RI, m_RL, m_NI, m_NL, m_NR, m_okI, m_okL, m_okR, m_okaI, m_okaL, m_okaR, m_arI, m_arL, m_arR, gd_T, bn_S, Nat.reduceEqDiff, Nat.left_eq_add, Nat.add_eq_left, Nat.one_ne_zero, and_false, and_true, false_and, true_and, if_false, if_true, ok, z, e1]
      show _ = some (wr_I (wr_I M 17 6 (nI (if d = 61 then 15 else 16))) 17 5 (nI (p + (if d = 61 then 2 else 1))))
      rw [if_neg r, if_neg r]
      rfl
  unfold f_Reader_scanSign
  rw [if_neg (fun h => q40 ((sbE hc 40 40 (by decide) rfl).1 h)), if_neg (fun h => q41 ((sbE hc 41 41 (by decide) rfl).1 h)), if_neg (fun h => q42 ((sbE hc 42 42 (by decide) rfl).1 h)), if_neg (fun h => q43 ((sbE hc 43 43 (by decide) rfl).1 h)), if_neg (fun h => q44 ((sbE hc 44 44 (by decide) rfl).1 h)), if_neg (fun h => q45 ((sbE hc 45 45 (by decide) rfl).1 h)), if_neg (fun h => q46 ((sbE hc 46 46 (by decide) rfl).1 h)), if_neg (fun h => q47 ((sbE hc 47 47 (by decide) rfl).1 h)), if_neg (fun h => q48 ((sbE hc 48 48 (by decide) rfl).1 h)), if_neg (fun h => q49 ((sbE hc 49 49 (by decide) rfl).1 h)), if_neg (fun h => q50 ((sbE hc 50 50 (by decide) rfl).1 h)), if_neg (fun h => q51 ((sbE hc 51 51 (by decide) rfl).1 h)), if_neg (fun h => q52 ((sbE hc 52 52 (by decide) rfl).1 h)), if_neg (fun h => q53 ((sbE hc 53 53 (by decide) rfl).1 h)), if_neg (fun h => q54 ((sbE hc 54 54 (by decide) rfl).1 h)), if_neg (fun h => q55 ((sbE hc 55 55 (by decide) rfl).1 h)), if_neg (fun h => q56 ((sbE hc 56 56 (by decide) rfl).1 h)), if_neg (fun h => q57 ((sbE hc 57 57 (by decide) rfl).1 h)), if_neg (fun h => q58 ((sbE hc 58 58 (by decide) rfl).1 h)), if_neg (fun h => q59 ((sbE hc 59 59 (by decide) rfl).1 h)), if_neg (fun h => q60 ((sbE hc 60 60 (by decide) rfl).1 h)), if_neg (fun h => q61 ((sbE hc 61 61 (by decide) rfl).1 h)), if_neg (fun h => q62 ((sbE hc 62 62 (by decide) rfl).1 h)), zb, e1]
  have s1 : sgk c d = 1 := by
    unfold sgk
    rw [if_neg q59, if_neg q40, if_neg q41, if_neg q43, if_neg q45, if_neg q42, if_neg q47, if_neg q61, if_neg q60, if_neg q62, if_neg q46]
  have s2 : sgw c d = 1 := by
    unfold sgw
    rw [if_neg q60, if_neg q62, if_neg q46]
  rw [s1, s2]
  rfl
theorem sgk_b (c d : Nat) : 1 ≤ sgk c d ∧ sgk c d ≤ 16 ∧ ¬ sgk c d = 2 := by
  unfold sgk
  repeat' split
  all_goals decide
theorem Reader_advance (N : Nat) (hN : 1000 ≤ N) (T : Nat → Nat) (n b : Nat) (M : sw_M) (g : HTx M T n) (hb : b ≤ n) (h5 : rd_I M 17 5 = nI b) :
    ∃ W, f_Reader_advance N 17 M = some W ∧ Fr A17 M W ∧ HK W T n b := by
  have hH := g.1
  have hn := g.2.1
  have pb := pl_b T n b hb
  have f0 : Fr A17 M (wr_I M 17 4 (nI b)) := (Fr.refl _ M).wI _ _ _ (by unfold A17; omega)
  obtain ⟨V, v1, v2, v3⟩ := adv_8 N T n 501 b N _ (g.f17 f0) hb (by simp only [m_II, m_LL, m_RR, m_IL, m_IR, m_LI, m_LR, m_RI, m_RL, m_NI, m_NL, m_NR, m_okI, m_okL, m_okR, m_okaI, m_okaL, m_okaR, m_arI, m_arL, m_arR, gd_T, bn_S, Nat.reduceEqDiff, Nat.left_eq_add, Nat.add_eq_left, Nat.one_ne_zero, and_false, and_true, false_and, true_and, if_false, if_true]) (by omega) (wh_e (bk T n) n hn (bk_n T n) b hb)
  have v3' : rd_I V 17 4 = nI (pl T n b) := v3
  have f1 := f0.trans v2
  have e0 : f_Reader_advance N 17 M = f_Reader_advance_60 N 17 V := by
    unfold f_Reader_advance
    rw [ok_17 hH.1, gd_T, h5]
    exact v1
  rw [e0]
  have gV := g.f17 f1
  have hHV := gV.1
  have fU : Fr A17 M (wr_I V 17 5 (nI (pl T n b))) := f1.wI _ _ _ (by unfold A17; omega)
  have gU := g.f17 fU
  have hHU := gU.1
  have u4 : rd_I (wr_I V 17 5 (nI (pl T n b))) 17 4 = nI (pl T n b) := by simp only [m_II, m_LL, m_RR, m_IL, m_IR, m_LI, m_LR, m_RI, m_RL, m_NI, m_NL, m_NR, m_okI, m_okL, m_okR, m_okaI, m_okaL, m_okaR, m_arI, m_arL, m_arR, gd_T, bn_S, Nat.reduceEqDiff, Nat.left_eq_add, Nat.add_eq_left, Nat.one_ne_zero, and_false, and_true, false_and, true_and, if_false, if_true]; exact v3'
  have u5 : rd_I (wr_I V 17 5 (nI (pl T n b))) 17 5 = nI (pl T n b) := by simp only [m_II, m_LL, m_RR, m_IL, m_IR, m_LI, m_LR, m_RI, m_RL, m_NI, m_NL, m_NR, m_okI, m_okL, m_okR, m_okaI, m_okaL, m_okaR, m_arI, m_arL, m_arR, gd_T, bn_S, Nat.reduceEqDiff, Nat.left_eq_add, Nat.add_eq_left, Nat.one_ne_zero, and_false, and_true, false_and, true_and, if_false, if_true]
  unfold f_Reader_advance_60
  rw [ok_17 hHV.1, gd_T, v3', u4, gU.2.2.1, hr_f hHU 17 0 2 rfl (by decide)]
  generalize hU : wr_I V 17 5 (nI (pl T n b)) = U at *
  unfold HK kk nd
  by_cases q : n ≤ pl T n b
  · rw [if_neg (nI_nlt q (by omega)), if_pos q, if_pos q]
    refine ⟨_, rfl, fU.wI _ _ _ (by unfold A17; omega), ?_, ?_, ?_, fun h => by omega⟩
    · simp only [m_II, m_LL, m_RR, m_IL, m_IR, m_LI, m_LR, m_RI, m_RL, m_NI, m_NL, m_NR, m_okI, m_okL, m_okR, m_okaI, m_okaL, m_okaR, m_arI, m_arL, m_arR, gd_T, bn_S, Nat.reduceEqDiff, Nat.left_eq_add, Nat.add_eq_left, Nat.one_ne_zero, and_false, and_true, false_and, true_and, if_false, if_true]; exact u4
    · simp only [m_II, m_LL, m_RR, m_IL, m_IR, m_LI, m_LR, m_RI, m_RL, m_NI, m_NL, m_NR, m_okI, m_okL, m_okR, m_okaI, m_okaL, m_okaR, m_arI, m_arL, m_arR, gd_T, bn_S, Nat.reduceEqDiff, Nat.left_eq_add, Nat.add_eq_left, Nat.one_ne_zero, and_false, and_true, false_and, true_and, if_false, if_true]; exact u5
    · simp only [m_II, m_LL, m_RR, m_IL, m_IR, m_LI, m_LR, m_RI, m_RL, m_NI, m_NL, m_NR, m_okI, m_okL, m_okR, m_okaI, m_okaL, m_okaR, m_arI, m_arL, m_arR, gd_T, bn_S, Nat.reduceEqDiff, Nat.left_eq_add, Nat.add_eq_left, Nat.one_ne_zero, and_false, and_true, false_and, true_and, if_false, if_true]; rfl
  obtain ⟨r1, r2⟩ := gU.rd (show pl T n b < n by omega)
  have ht := (gU.2.2.2 (pl T n b) (by omega)).1
  rw [if_pos (nI_lt (by omega) (by omega)), r1, gd_T, r2, if_neg q, if_neg q]
  by_cases c : sm T n (pl T n b) = true
  · obtain ⟨c0, c1, c2⟩ := sm_t.1 c
    rw [if_neg (fun h => by have := (sbL ht 97 97 (by decide) rfl).1 h; omega), if_neg (fun h => by have := (sbG ht 122 122 (by decide) rfl).1 h; omega), if_pos c, if_pos c]
    obtain ⟨Y, y1, y2, y3⟩ := word_0 N T n 501 (pl T n b) N U gU pb.2 u5 (by omega) (wh_e (sm T n) n hn (sm_n T n) _ pb.2)
    have y3' : rd_I Y 17 5 = nI (we T n b) := y3
    have y4 : rd_I Y 17 4 = nI (pl T n b) := (y2.I 17 4 (by omega)).trans u4
    have y2' : Fr A17 U Y := y2.mono (fun a k h => by unfold A17; omega)
    have hlt : pl T n b < we T n b := by
      unfold we wh
      rw [if_pos c]
      exact Nat.lt_of_lt_of_le (Nat.lt_succ_self _) (wh_b (sm T n) 500 (pl T n b + 1)).1
    have hwe : we T n b ≤ n := wh_n _ n (sm_n T n) 501 _ pb.2
    have f6 : Fr A17 Y (wr_I Y 17 6 1) := (Fr.refl _ Y).wI _ _ _ (by unfold A17; omega)
    obtain ⟨X, x1, x2, x3⟩ := word_59 N hN T n (pl T n b) (we T n b) hlt hwe (fun i h1 h2 => by have := (sm_t.1 (wh_in (sm T n) 501 (pl T n b) i h1 h2)).2; omega) 15 0 N (wr_I Y 17 6 1) (by omega) (by omega) ((gU.f17 y2').f17 f6) (by simp only [m_II, m_LL, m_RR, m_IL, m_IR, m_LI, m_LR, m_RI, m_RL, m_NI, m_NL, m_NR, m_okI, m_okL, m_okR, m_okaI, m_okaL, m_okaR, m_arI, m_arL, m_arR, gd_T, bn_S, Nat.reduceEqDiff, Nat.left_eq_add, Nat.add_eq_left, Nat.one_ne_zero, and_false, and_true, false_and, true_and, if_false, if_true]; exact y4) (by simp only [m_II, m_LL, m_RR, m_IL, m_IR, m_LI, m_LR, m_RI, m_RL, m_NI, m_NL, m_NR, m_okI, m_okL, m_okR, m_okaI, m_okaL, m_okaR, m_arI, m_arL, m_arR, gd_T, bn_S, Nat.reduceEqDiff, Nat.left_eq_add, Nat.add_eq_left, Nat.one_ne_zero, and_false, and_true, false_and, true_and, if_false, if_true]; exact y3') (by simp only [m_II, m_LL, m_RR, m_IL, m_IR, m_LI, m_LR, m_RI, m_RL, m_NI, m_NL, m_NR, m_okI, m_okL, m_okR, m_okaI, m_okaL, m_okaR, m_arI, m_arL, m_arR, gd_T, bn_S, Nat.reduceEqDiff, Nat.left_eq_add, Nat.add_eq_left, Nat.one_ne_zero, and_false, and_true, false_and, true_and, if_false, if_true]; rw [if_neg (by omega)]; rfl)
    have x2' : Fr A17 (wr_I Y 17 6 1) X := x2.mono (fun a k h => by unfold A17; omega)
    refine ⟨X, ?_, ((fU.trans y2').trans f6).trans x2', ?_, ?_, x3, fun h => by split at h <;> omega⟩
    · unfold f_Reader_scanWord
      rw [y1]
      unfold f_Reader_scanWord_52
      rw [ok_17 (gU.f17 y2').1.1, gd_T]
      have x1' : f_Reader_scanWord_59 N N 17 0 (wr_I Y 17 6 1) = some X := x1
      rw [x1', bn_S]
    · rw [x2.I 17 4 (by omega)]; simp only [m_II, m_LL, m_RR, m_IL, m_IR, m_LI, m_LR, m_RI, m_RL, m_NI, m_NL, m_NR, m_okI, m_okL, m_okR, m_okaI, m_okaL, m_okaR, m_arI, m_arL, m_arR, gd_T, bn_S, Nat.reduceEqDiff, Nat.left_eq_add, Nat.add_eq_left, Nat.one_ne_zero, and_false, and_true, false_and, true_and, if_false, if_true]; exact y4
    · rw [x2.I 17 5 (by omega)]; simp only [m_II, m_LL, m_RR, m_IL, m_IR, m_LI, m_LR, m_RI, m_RL, m_NI, m_NL, m_NR, m_okI, m_okL, m_okR, m_okaI, m_okaL, m_okaR, m_arI, m_arL, m_arR, gd_T, bn_S, Nat.reduceEqDiff, Nat.left_eq_add, Nat.add_eq_left, Nat.one_ne_zero, and_false, and_true, false_and, true_and, if_false, if_true]; exact y3'
  have adv : (if sb (T (pl T n b)) < 97 then f_Reader_advance_122 N 17 U else if 122 < sb (T (pl T n b)) then f_Reader_advance_122 N 17 U else (f_Reader_scanWord N 17 U).bind (fun u3 => some u3)) = f_Reader_advance_122 N 17 U := by
    by_cases k : sb (T (pl T n b)) < 97
    · rw [if_pos k]
    · have k1 : ¬ (T (pl T n b) < 97 ∨ 128 ≤ T (pl T n b)) := fun h => k ((sbL ht 97 97 (by decide) rfl).2 h)
      rw [if_neg k, if_pos ((sbG ht 122 122 (by decide) rfl).2 ⟨by
          rcases Nat.lt_or_ge 122 (T (pl T n b)) with h | h
          · exact h
          · exact absurd (sm_t.2 ⟨by omega, by omega, h⟩) c, by omega⟩)]
  rw [adv, if_neg c, if_neg c]
  unfold f_Reader_advance_122
  rw [ok_17 hHU.1, gd_T, hr_f hHU 17 0 2 rfl (by decide), u4, r1, gd_T, r2]
  by_cases d : dg T n (pl T n b) = true
  · obtain ⟨c0, c1, c2⟩ := dg_t.1 d
    rw [if_neg (fun h => by have := (sbL ht 48 48 (by decide) rfl).1 h; omega), if_neg (fun h => by have := (sbG ht 57 57 (by decide) rfl).1 h; omega), if_pos d, if_pos d]
    have hde : de T n b ≤ n := wh_n _ n (dg_n T n) 501 _ pb.2
    have hge : pl T n b ≤ de T n b := (wh_b (dg T n) 501 (pl T n b)).1
    have f6 : Fr A17 U (wr_I (wr_I U 17 6 2) 17 7 0) := ((Fr.refl _ U).wI _ _ _ (by unfold A17; omega)).wI _ _ _ (by unfold A17; omega)
    obtain ⟨X, x1, x2, x3, x4⟩ := num_10 N T n (de T n b - pl T n b) (pl T n b) 0 N (wr_I (wr_I U 17 6 2) 17 7 0) (gU.f17 f6) (by omega) (fun k h1 h2 => wh_in (dg T n) 501 (pl T n b) k h1 (by show k < de T n b; omega)) (by rw [show pl T n b + (de T n b - pl T n b) = de T n b by omega]; exact wh_e (dg T n) n hn (dg_n T n) _ pb.2) (by simp only [m_II, m_LL, m_RR, m_IL, m_IR, m_LI, m_LR, m_RI, m_RL, m_NI, m_NL, m_NR, m_okI, m_okL, m_okR, m_okaI, m_okaL, m_okaR, m_arI, m_arL, m_arR, gd_T, bn_S, Nat.reduceEqDiff, Nat.left_eq_add, Nat.add_eq_left, Nat.one_ne_zero, and_false, and_true, false_and, true_and, if_false, if_true]; exact u5) (by simp only [m_II, m_LL, m_RR, m_IL, m_IR, m_LI, m_LR, m_RI, m_RL, m_NI, m_NL, m_NR, m_okI, m_okL, m_okR, m_okaI, m_okaL, m_okaR, m_arI, m_arL, m_arR, gd_T, bn_S, Nat.reduceEqDiff, Nat.left_eq_add, Nat.add_eq_left, Nat.one_ne_zero, and_false, and_true, false_and, true_and, if_false, if_true]; rfl) (by omega) (by omega)
    have x2' : Fr A17 (wr_I (wr_I U 17 6 2) 17 7 0) X := x2.mono (fun a k h => by unfold A17; omega)
    refine ⟨X, ?_, (fU.trans f6).trans x2', ?_, ?_, ?_, fun _ => x4⟩
    · unfold f_Reader_scanNumber
      rw [ok_17 hHU.1, gd_T, x1, bn_S]
    · rw [x2.I 17 4 (by omega)]; simp only [m_II, m_LL, m_RR, m_IL, m_IR, m_LI, m_LR, m_RI, m_RL, m_NI, m_NL, m_NR, m_okI, m_okL, m_okR, m_okaI, m_okaL, m_okaR, m_arI, m_arL, m_arR, gd_T, bn_S, Nat.reduceEqDiff, Nat.left_eq_add, Nat.add_eq_left, Nat.one_ne_zero, and_false, and_true, false_and, true_and, if_false, if_true]; exact u4
    · rw [x3, show pl T n b + (de T n b - pl T n b) = de T n b by omega]
    · rw [x2.I 17 6 (by omega)]; simp only [m_II, m_LL, m_RR, m_IL, m_IR, m_LI, m_LR, m_RI, m_RL, m_NI, m_NL, m_NR, m_okI, m_okL, m_okR, m_okaI, m_okaL, m_okaR, m_arI, m_arL, m_arR, gd_T, bn_S, Nat.reduceEqDiff, Nat.left_eq_add, Nat.add_eq_left, Nat.one_ne_zero, and_false, and_true, false_and, true_and, if_false, if_true]; rfl
  have adw : (if sb (T (pl T n b)) < 48 then f_Reader_advance_157 N 17 U else if 57 < sb (T (pl T n b)) then f_Reader_advance_157 N 17 U else (f_Reader_scanNumber N 17 U).bind (fun u3 => some u3)) = f_Reader_advance_157 N 17 U := by
    by_cases k : sb (T (pl T n b)) < 48
    · rw [if_pos k]
    · have k1 : ¬ (T (pl T n b) < 48 ∨ 128 ≤ T (pl T n b)) := fun h => k ((sbL ht 48 48 (by decide) rfl).2 h)
      rw [if_neg k, if_pos ((sbG ht 57 57 (by decide) rfl).2 ⟨by
          rcases Nat.lt_or_ge 57 (T (pl T n b)) with h | h
          · exact h
          · exact absurd (dg_t.2 ⟨by omega, by omega, h⟩) d, by omega⟩)]
  rw [adw, if_neg d, if_neg d]
  have hnc : nc T n (pl T n b) < 256 := by
    unfold nc
    split
    · exact (gU.2.2.2 _ (by assumption)).1
    · omega
  have sg := scanSign N U hHU (T (pl T n b)) (nc T n (pl T n b)) ht hnc (pl T n b) u4
  have e157 : f_Reader_advance_157 N 17 U = some (wr_I (wr_I U 17 6 (nI (sgk (T (pl T n b)) (nc T n (pl T n b))))) 17 5 (nI (pl T n b + sgw (T (pl T n b)) (nc T n (pl T n b))))) := by
    unfold f_Reader_advance_157 f_Reader_advance_195
    rw [ok_17 hHU.1, gd_T, hr_f hHU 17 0 2 rfl (by decide), u4, r1, gd_T, r2, gU.2.2.1, nI_1]
    by_cases k : pl T n b + 1 < n
    · obtain ⟨s1, s2⟩ := gU.rd k
      have en : nc T n (pl T n b) = T (pl T n b + 1) := by unfold nc; rw [if_pos k]
      rw [if_neg (nI_ge k (by omega)), s1, gd_T, s2, gd_T, ← en, sg, bn_S]
    · have en : nc T n (pl T n b) = 0 := by unfold nc; rw [if_neg k]
      rw [if_pos (nI_le (by omega) (by omega)), gd_T]
      rw [en] at sg ⊢
      have sg' : f_Reader_scanSign N 17 (sb (T (pl T n b))) 0 U = _ := sg
      rw [sg', bn_S]
  rw [e157]
  refine ⟨_, rfl, (fU.wI _ _ _ (by unfold A17; omega)).wI _ _ _ (by unfold A17; omega), ?_, ?_, ?_, fun h => ?_⟩
  · simp only [m_II, m_LL, m_RR, m_IL, m_IR, m_LI, m_LR, m_RI, m_RL, m_NI, m_NL, m_NR, m_okI, m_okL, m_okR, m_okaI, m_okaL, m_okaR, m_arI, m_arL, m_arR, gd_T, bn_S, Nat.reduceEqDiff, Nat.left_eq_add, Nat.add_eq_left, Nat.one_ne_zero, and_false, and_true, false_and, true_and, if_false, if_true]; exact u4
  · simp only [m_II, m_LL, m_RR, m_IL, m_IR, m_LI, m_LR, m_RI, m_RL, m_NI, m_NL, m_NR, m_okI, m_okL, m_okR, m_okaI, m_okaL, m_okaR, m_arI, m_arL, m_arR, gd_T, bn_S, Nat.reduceEqDiff, Nat.left_eq_add, Nat.add_eq_left, Nat.one_ne_zero, and_false, and_true, false_and, true_and, if_false, if_true]
  · simp only [m_II, m_LL, m_RR, m_IL, m_IR, m_LI, m_LR, m_RI, m_RL, m_NI, m_NL, m_NR, m_okI, m_okL, m_okR, m_okaI, m_okaL, m_okaR, m_arI, m_arL, m_arR, gd_T, bn_S, Nat.reduceEqDiff, Nat.left_eq_add, Nat.add_eq_left, Nat.one_ne_zero, and_false, and_true, false_and, true_and, if_false, if_true]
  · exact absurd h (sgk_b _ _).2.2
