/-! 97y: the reference's TOKENS -/
def MTx (M : sw_M) (T : Nat → Nat) (n : Nat) : Prop := MR M ∧ n ≤ 500 ∧ rd_I M 80 24 = nI n ∧ ∀ i, i < n → T i < 256 ∧ rd_I M 92 i = nI (T i)
def A80 (a k : Nat) : Prop := a = 80 ∧ 25 ≤ k ∧ k ≤ 28
theorem MTx.fr {A : Nat → Nat → Prop} {M W : sw_M} {T : Nat → Nat} {n : Nat} (g : MTx M T n) (h : Fr A M W) (h3 : ¬ A 80 24) (h2 : ∀ k, ¬ A 92 k) : MTx W T n := by
  obtain ⟨g1, g2, g3, g4⟩ := g
  refine ⟨h.mr g1, g2, (h.I 80 24 h3).trans g3, fun i hi => ?_⟩
  rw [h.I 92 i (h2 i)]
  exact g4 i hi
theorem MTx.f80 {M W : sw_M} {T : Nat → Nat} {n : Nat} (g : MTx M T n) (h : Fr A80 M W) : MTx W T n := g.fr h (by unfold A80; omega) (fun k => by unfold A80; omega)
def ch (T : Nat → Nat) (n i : Nat) : Int32 := if i < n then nI (T i) else -1
theorem here (N : Nat) {M : sw_M} {T : Nat → Nat} {n : Nat} (g : MTx M T n) {i : Nat} (hi : i ≤ n) (h25 : rd_I M 80 25 = nI i) : f_Model_here N 80 M = some (ch T n i, M) := by
  obtain ⟨g1, g2, g3, g4⟩ := g
  unfold f_Model_here ch
  rw [ok_80 g1.1, gd_T, g3, h25, mr_22 g1, ar_92 g1.1, cl_n (show i < 2 ^ 31 by omega)]
  by_cases q : i < n
  · rw [if_neg (nI_ge q (by omega)), ti_n (show i < 500 by omega) (by decide), gd_T, if_pos q, (g4 i q).2]
  · rw [if_pos (nI_le (by omega) (by omega)), if_neg q]
theorem chE {T : Nat → Nat} {n i : Nat} (ht : i < n → T i < 256) (k : Int32) (m : Nat) (hm : m < 2 ^ 31) (e : k = nI m) : ch T n i = k ↔ (i < n ∧ T i = m) := by
  rw [e]
  unfold ch
  by_cases q : i < n
  · have := ht q
    rw [if_pos q, nI_eq (by omega) hm]
    exact ⟨fun h => ⟨q, h⟩, fun h => h.2⟩
  · rw [if_neg q]
    constructor
    · intro h
      have := congrArg Int32.toInt h
      rw [nI_toInt hm] at this
      have h2 : ((-1 : Int32)).toInt = -1 := rfl
      omega
    · exact fun h => absurd h.1 q
theorem chS (N : Nat) {T : Nat → Nat} {n i : Nat} (ht : i < n → T i < 256) (M : sw_M) : f_Model_isSmall N (ch T n i) M = some (bz (sm T n i), M) := by
  unfold f_Model_isSmall ch sm
  by_cases q : i < n
  · have := ht q
    rw [if_pos q, decide_eq_true q]
    by_cases a : T i < 97
    · rw [if_pos (show nI (T i) < (97 : Int32) from (nI_lt a (by omega) : nI (T i) < nI 97)), decide_eq_false (show ¬ 97 ≤ T i by omega)]
      rfl
    · rw [if_neg (show ¬ nI (T i) < (97 : Int32) from (nI_nlt (by omega) (by omega) : ¬ nI (T i) < nI 97)), decide_eq_true (show 97 ≤ T i by omega)]
      by_cases b : T i ≤ 122
      · rw [if_neg (show ¬ (122 : Int32) < nI (T i) from (nI_nlt b (by omega) : ¬ nI 122 < nI (T i))), decide_eq_true b]
        rfl
      · rw [if_pos (show (122 : Int32) < nI (T i) from (nI_lt (by omega) (by omega) : nI 122 < nI (T i))), decide_eq_false b]
        rfl
  · rw [if_neg q, decide_eq_false q, if_pos (by decide)]
    rfl
theorem chD (N : Nat) {T : Nat → Nat} {n i : Nat} (ht : i < n → T i < 256) (M : sw_M) : f_Model_isDigit N (ch T n i) M = some (bz (dg T n i), M) := by
  unfold f_Model_isDigit ch dg
  by_cases q : i < n
  · have := ht q
    rw [if_pos q, decide_eq_true q]
    by_cases a : T i < 48
    · rw [if_pos (show nI (T i) < (48 : Int32) from (nI_lt a (by omega) : nI (T i) < nI 48)), decide_eq_false (show ¬ 48 ≤ T i by omega)]
      rfl
    · rw [if_neg (show ¬ nI (T i) < (48 : Int32) from (nI_nlt (by omega) (by omega) : ¬ nI (T i) < nI 48)), decide_eq_true (show 48 ≤ T i by omega)]
      by_cases b : T i ≤ 57
      · rw [if_neg (show ¬ (57 : Int32) < nI (T i) from (nI_nlt b (by omega) : ¬ nI 57 < nI (T i))), decide_eq_true b]
        rfl
      · rw [if_pos (show (57 : Int32) < nI (T i) from (nI_lt (by omega) (by omega) : nI 57 < nI (T i))), decide_eq_false b]
        rfl
  · rw [if_neg q, decide_eq_false q, if_pos (by decide)]
    rfl
/-- sort and value of a TOKEN there -/
def msr (k : Nat) : Int32 := if k = 0 then 3 else if k = 1 then 4 else if k = 2 then 1 else if 20 ≤ k then 0 else 2
def mvl (k : Nat) : Nat := if 20 ≤ k then k - 20 else [0, 0, 0, 59, 259, 40, 41, 43, 45, 42, 47, 60, 256, 61, 257, 258, 62].getD k 0
def MK (W : sw_M) (T : Nat → Nat) (n b : Nat) : Prop := rd_I W 80 26 = nI (pl T n b) ∧ rd_I W 80 25 = nI (nd T n b) ∧ rd_I W 80 27 = msr (kk T n b) ∧ (kk T n b = 2 → rd_I W 80 28 = nI (vm T n b)) ∧ (3 ≤ kk T n b → rd_I W 80 28 = nI (mvl (kk T n b)))
theorem mw_97 (N : Nat) (k4 : Nat → Int32 → Int32 → sw_M → Option (Int32 × sw_M)) (w : Nat) (hw : w < 15) (M : sw_M) : ∀ (d i j : Nat), i + d = wl w → d < j → f_Model_word_97 N k4 j 80 (nI w) (nI (ks w + i)) M = k4 80 (nI (w + 1)) (nI (ks (w + 1))) M
  | d, i, 0, hi, hj => by omega
  | d, i, j + 1, hi, hj => by
    obtain ⟨l1, l2, l3, l4, l5⟩ := lc_l w hw
    rw [f_Model_word_97, ti_n (show ks w + i < 73 by omega) (by decide), gd_T, lc_1 w hw i (by omega)]
    cases d with
    | zero =>
      obtain rfl : i = wl w := by omega
      rw [if_pos (by rw [l3]; rfl), nI_1, nI_1, l4]
    | succ d =>
      have lb := lc_b w hw i
      rw [if_neg (show ¬ nI (lc w i) = (32 : Int32) from fun h => l2 i (by omega) ((nI_eq (by omega) (by decide)).1 (h : nI _ = nI 32))), nI_1]
      exact mw_97 N k4 w hw M d (i + 1) j (by omega) (by omega)
theorem mw_15 (N : Nat) (T : Nat → Nat) (n : Nat) (k4 : Nat → Int32 → Int32 → sw_M → Option (Int32 × sw_M)) (w : Nat) (hw : w < 15) (p e : Nat) (hp : p < e) (he : e ≤ n) (hl : ∀ i, p ≤ i → i < e → ¬ T i = 32) (M : sw_M) (g : MTx M T n) (h4 : rd_I M 80 26 = nI p) (h5 : rd_I M 80 25 = nI e) : ∀ (d i j : Nat), i + d = 8 → i ≤ wl w → d < j →
    ∃ s, s = wh (fun i => decide (p + i < e) && decide (T (p + i) = lc w i)) d i ∧ s ≤ wl w ∧ f_Model_word_15 N k4 j 80 (nI w) (nI (ks w)) (nI i) M = f_Model_word_69 N k4 80 (nI w) (nI (ks w)) (nI s) M
  | d, i, 0, hi, hk, hj => by omega
  | 0, i, j + 1, hi, hk, hj => by
    have := (lc_l w hw).1
    omega
  | d + 1, i, j + 1, hi, hk, hj => by
    obtain ⟨l1, l2, l3, l4, l5⟩ := lc_l w hw
    have hM := g.1
    have hn := g.2.1
    have lb := lc_b w hw i
    have a1 : nI p + nI i = nI (p + i) := nI_add p i
    have a2 : nI (ks w) + nI i = nI (ks w + i) := nI_add _ i
    rw [f_Model_word_15, a2, ti_n (show ks w + i < 73 by omega) (by decide), gd_T, lc_1 w hw i (by omega)]
    by_cases c0 : lc w i = 32
    · refine ⟨i, ?_, hk, by rw [if_pos (by rw [c0]; rfl)]⟩
      rw [wh_0]
      by_cases c1 : p + i < e
      · rw [decide_eq_false (show ¬ T (p + i) = lc w i by rw [c0]; exact hl _ (by omega) c1), Bool.and_false]
      · rw [decide_eq_false c1, Bool.false_and]
    · have hlt : i < wl w := by
        rcases Nat.lt_or_ge i (wl w) with h | h
        · exact h
        · exact absurd ((show i = wl w by omega) ▸ l3) c0
      rw [if_neg (show ¬ nI (lc w i) = (32 : Int32) from fun h => c0 ((nI_eq (by omega) (by decide)).1 (h : nI _ = nI 32))), ok_80 hM.1, gd_T, h4, h5, a1]
      by_cases c : p + i < e
      · have ht := (g.2.2.2 (p + i) (by omega)).1
        rw [if_neg (nI_ge c (by omega)), mr_22 hM, ar_92 hM.1, ti_n (show p + i < 500 by omega) (by decide), gd_T, cl_n (show p + i < 2 ^ 31 by omega), (g.2.2.2 (p + i) (by omega)).2, nI_1]
        by_cases q : T (p + i) = lc w i
        · rw [if_pos (by rw [q])]
          obtain ⟨s, s1, s2, s3⟩ := mw_15 N T n k4 w hw p e hp he hl M g h4 h5 d (i + 1) j (by omega) (by omega) (by omega)
          exact ⟨s, by rw [wh_s (by rw [decide_eq_true c, decide_eq_true q]; rfl)]; exact s1, s2, s3⟩
        · rw [if_neg (fun h => q ((nI_eq (by omega) (by omega)).1 h))]
          exact ⟨i, by rw [wh_0 (by rw [decide_eq_false q, Bool.and_false])], hk, rfl⟩
      · rw [if_pos (nI_le (by omega) (by omega))]
        exact ⟨i, by rw [wh_0 (by rw [decide_eq_false c, Bool.false_and])], hk, rfl⟩
theorem mw_4 (N : Nat) (hN : 1000 ≤ N) (T : Nat → Nat) (n p e : Nat) (hp : p < e) (he : e ≤ n) (hl : ∀ i, p ≤ i → i < e → ¬ T i = 32) (M : sw_M) (g : MTx M T n) (h4 : rd_I M 80 26 = nI p) (h5 : rd_I M 80 25 = nI e) : ∀ (d w j : Nat), w + d = 15 → d < j → w ≤ wx T p e →
    f_Model_word_4 N j 80 (nI w) (nI (ks w)) M = some (if wx T p e < 15 then nI (wx T p e) else -1, M)
  | d, w, 0, hd, hj, hx => by omega
  | 0, w, j + 1, hd, hj, hx => by
    obtain rfl : w = 15 := by omega
    rw [f_Model_word_4, if_pos (by decide), if_neg (by omega)]
  | d + 1, w, j + 1, hd, hj, hx => by
    have hw : w < 15 := by omega
    obtain ⟨l1, l2, l3, l4, l5⟩ := lc_l w hw
    have hM := g.1
    have hn := g.2.1
    obtain ⟨s, s1, s2, s3⟩ := mw_15 N T n (f_Model_word_4 N j) w hw p e hp he hl M g h4 h5 8 0 N (by omega) (by omega) (by omega)
    have s1' : s = sa T p e w := s1
    have s3' : f_Model_word_15 N (f_Model_word_4 N j) N 80 (nI w) (nI (ks w)) 0 M = _ := s3
    have a1 : nI p + nI s = nI (p + s) := nI_add p _
    have a2 : nI (ks w) + nI s = nI (ks w + s) := nI_add _ _
    have lb := lc_b w hw s
    have k97 : f_Model_word_97 N (f_Model_word_4 N j) N 80 (nI w) (nI (ks w)) M = f_Model_word_4 N j 80 (nI (w + 1)) (nI (ks (w + 1))) M := mw_97 N (f_Model_word_4 N j) w hw M (wl w) 0 N (by omega) (by omega)
    rw [f_Model_word_4, if_neg (show ¬ (73 : Int32) ≤ nI (ks w) from (nI_ge (by omega) (by omega) : ¬ nI 73 ≤ nI (ks w))), s3']
    unfold f_Model_word_69
    rw [a2, ti_n (show ks w + s < 73 by omega) (by decide), gd_T, lc_1 w hw s (by omega), ok_80 hM.1, gd_T, h4, h5, a1, k97]
    by_cases c : mt T p e w = true
    · have cw := (wx_m hp hl hw).1 c
      unfold mt at c
      simp only [Bool.and_eq_true, decide_eq_true_eq, ← s1'] at c
      rw [if_pos (by rw [c.2]; rfl), if_pos (by rw [c.1]), cw, if_pos hw]
    · have cw : ¬ wx T p e = w := fun h => c ((wx_m hp hl hw).2 h)
      have ih := mw_4 N hN T n p e hp he hl M g h4 h5 d (w + 1) j (by omega) (by omega) (by omega)
      rw [ih]
      by_cases c2 : lc w s = 32
      · by_cases c1 : p + s = e
        · exfalso
          apply c
          unfold mt
          rw [← s1', decide_eq_true c1, decide_eq_true c2]
          rfl
        · rw [if_pos (by rw [c2]; rfl), if_neg (fun h => c1 ((nI_eq (by omega) (by omega)).1 h))]
      · rw [if_neg (show ¬ nI (lc w s) = (32 : Int32) from fun h => c2 ((nI_eq (by omega) (by decide)).1 (h : nI _ = nI 32)))]
theorem Model_word (N : Nat) (hN : 1000 ≤ N) (T : Nat → Nat) (n p e : Nat) (hp : p < e) (he : e ≤ n) (hl : ∀ i, p ≤ i → i < e → ¬ T i = 32) (M : sw_M) (g : MTx M T n) (h4 : rd_I M 80 26 = nI p) (h5 : rd_I M 80 25 = nI e) : f_Model_word N 80 M = some (if wx T p e < 15 then nI (wx T p e) else -1, M) :=
  mw_4 N hN T n p e hp he hl M g h4 h5 15 0 N (by omega) (by omega) (by omega)
