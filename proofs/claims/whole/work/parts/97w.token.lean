/-! 97w: TOKENS, pure -/
def wh (P : Nat → Bool) : Nat → Nat → Nat
  | 0, i => i
  | d + 1, i => if P i = true then wh P d (i + 1) else i
theorem wh_b (P : Nat → Bool) : ∀ d i, i ≤ wh P d i ∧ wh P d i ≤ i + d
  | 0, i => ⟨Nat.le_refl _, Nat.le_refl _⟩
  | d + 1, i => by
    unfold wh
    split
    · have := wh_b P d (i + 1); omega
    · omega
theorem wh_in (P : Nat → Bool) : ∀ d i k, i ≤ k → k < wh P d i → P k = true
  | 0, i, k, h1, h2 => by unfold wh at h2; omega
  | d + 1, i, k, h1, h2 => by
    unfold wh at h2
    by_cases c : P i = true
    · rw [if_pos c] at h2
      by_cases q : k = i
      · rw [q]; exact c
      · exact wh_in P d (i + 1) k (by omega) h2
    · rw [if_neg c] at h2; omega
theorem wh_out (P : Nat → Bool) : ∀ d i, wh P d i < i + d → P (wh P d i) = false
  | 0, i, h => by unfold wh at h; omega
  | d + 1, i, h => by
    unfold wh at h ⊢
    by_cases c : P i = true
    · rw [if_pos c] at h ⊢
      exact wh_out P d (i + 1) (by omega)
    · rw [if_neg c]
      exact Bool.eq_false_iff.2 c
/-- where a run ends that can't go beyond n -/
theorem wh_n (P : Nat → Bool) (n : Nat) (hP : ∀ i, n ≤ i → P i = false) (d i : Nat) (hi : i ≤ n) : wh P d i ≤ n := by
  rcases Nat.lt_or_ge n (wh P d i) with h | h
  · have := wh_in P d i n hi h
    rw [hP n (Nat.le_refl n)] at this
    exact absurd this (by decide)
  · exact h
theorem wh_e (P : Nat → Bool) (n : Nat) (hn : n ≤ 500) (hP : ∀ i, n ≤ i → P i = false) (i : Nat) (hi : i ≤ n) : P (wh P 501 i) = false := wh_out P 501 i (by have := wh_n P n hP 501 i hi; omega)
def bk (T : Nat → Nat) (n i : Nat) : Bool := decide (i < n) && (decide (T i = 10) || decide (T i = 32))
def sm (T : Nat → Nat) (n i : Nat) : Bool := decide (i < n) && (decide (97 ≤ T i) && decide (T i ≤ 122))
def dg (T : Nat → Nat) (n i : Nat) : Bool := decide (i < n) && (decide (48 ≤ T i) && decide (T i ≤ 57))
theorem bk_n (T : Nat → Nat) (n i : Nat) (h : n ≤ i) : bk T n i = false := by unfold bk; rw [decide_eq_false (by omega)]; rfl
theorem sm_n (T : Nat → Nat) (n i : Nat) (h : n ≤ i) : sm T n i = false := by unfold sm; rw [decide_eq_false (by omega)]; rfl
theorem dg_n (T : Nat → Nat) (n i : Nat) (h : n ≤ i) : dg T n i = false := by unfold dg; rw [decide_eq_false (by omega)]; rfl
theorem sm_t {T : Nat → Nat} {n i : Nat} : sm T n i = true ↔ i < n ∧ 97 ≤ T i ∧ T i ≤ 122 := by unfold sm; simp
theorem dg_t {T : Nat → Nat} {n i : Nat} : dg T n i = true ↔ i < n ∧ 48 ≤ T i ∧ T i ≤ 57 := by unfold dg; simp
theorem bk_t {T : Nat → Nat} {n i : Nat} : bk T n i = true ↔ i < n ∧ (T i = 10 ∨ T i = 32) := by unfold bk; simp
/-- the place of the TOKEN behind b -/
def pl (T : Nat → Nat) (n b : Nat) : Nat := wh (bk T n) 501 b
def we (T : Nat → Nat) (n b : Nat) : Nat := wh (sm T n) 501 (pl T n b)
def de (T : Nat → Nat) (n b : Nat) : Nat := wh (dg T n) 501 (pl T n b)
/-- the words, a sign each -/
def lcs : List Nat := [104, 101, 97, 112, 32, 32, 32, 32, 100, 105, 115, 99, 32, 32, 32, 32, 104, 97, 108, 111, 32, 32, 32, 32, 98, 97, 114, 32, 32, 32, 32, 32, 103, 117, 101, 115, 116, 32, 32, 32, 117, 115, 101, 32, 32, 32, 32, 32, 111, 114, 32, 32, 32, 32, 32, 32, 97, 110, 100, 32, 32, 32, 32, 32, 110, 111, 116, 32, 32, 32, 32, 32, 110, 101, 97, 114, 32, 32, 32, 32, 102, 97, 114, 32, 32, 32, 32, 32, 116, 117, 114, 110, 115, 32, 32, 32, 115, 111, 114, 116, 32, 32, 32, 32, 103, 111, 110, 101, 32, 32, 32, 32, 114, 101, 116, 117, 114, 110, 115, 32]
def lc (w i : Nat) : Nat := if i < 8 then lcs.getD (8 * w + i) 0 else 0
/-- a word's length -/
def wl (w : Nat) : Nat := [4, 4, 4, 3, 5, 3, 2, 3, 3, 4, 3, 5, 4, 4, 7].getD w 0
/-- where it begins in the reference's row -/
def ks (w : Nat) : Nat := [0, 5, 10, 15, 19, 25, 29, 32, 36, 40, 45, 49, 55, 60, 65, 73].getD w 0
theorem lc_0 : ∀ w, w < 15 → ∀ i, i < 8 → tx_0 (nI (8 * w + i)) = nI (lc w i) := by decide +kernel
theorem lc_1 : ∀ w, w < 15 → ∀ i, i < wl w + 1 → tx_1 (nI (ks w + i)) = nI (lc w i) := by decide +kernel
theorem lc_l : ∀ w, w < 15 → wl w < 8 ∧ (∀ i, i < wl w → ¬ lc w i = 32) ∧ lc w (wl w) = 32 ∧ ks (w + 1) = ks w + wl w + 1 ∧ ks w + wl w < 73 := by decide +kernel
def lq (w v s : Nat) : Bool := decide (∀ i, i < s → lc w i = lc v i) && (decide (lc w s = 32) && (decide (lc v s = 32) && !(decide (lc w 0 = 32))))
theorem lc_q : ∀ w, w < 15 → ∀ v, v < 15 → ∀ s, s < 8 → (lq w v s = true → w = v) := by decide +kernel
theorem lc_u (w : Nat) (hw : w < 15) (v : Nat) (hv : v < 15) (s : Nat) (hs : s < 8) (h : (∀ i, i < s → lc w i = lc v i) ∧ lc w s = 32 ∧ lc v s = 32 ∧ ¬ lc w 0 = 32) : w = v := lc_q w hw v hv s hs (by unfold lq; rw [decide_eq_true h.1, decide_eq_true h.2.1, decide_eq_true h.2.2.1, decide_eq_false h.2.2.2]; rfl)
theorem lc_b : ∀ w, w < 15 → ∀ i, lc w i < 128 := by
  have : ∀ w, w < 15 → ∀ i, i < 8 → lc w i < 128 := by decide +kernel
  intro w hw i
  by_cases h : i < 8
  · exact this w hw i h
  · unfold lc; rw [if_neg h]; omega
/-- how far the text is like a word -/
def sa (T : Nat → Nat) (p e w : Nat) : Nat := wh (fun i => decide (p + i < e) && decide (T (p + i) = lc w i)) 8 0
def mt (T : Nat → Nat) (p e w : Nat) : Bool := decide (p + sa T p e w = e) && decide (lc w (sa T p e w) = 32)
def wx (T : Nat → Nat) (p e : Nat) : Nat := wh (fun w => !(mt T p e w)) 15 0
theorem mt_u {T : Nat → Nat} {p e w v : Nat} (hp : p < e) (hl : ∀ i, p ≤ i → i < e → ¬ T i = 32) (hw : w < 15) (hv : v < 15) (h1 : mt T p e w = true) (h2 : mt T p e v = true) : w = v := by
  unfold mt at h1 h2
  simp only [Bool.and_eq_true, decide_eq_true_eq] at h1 h2
  obtain ⟨a1, a2⟩ := h1
  obtain ⟨b1, b2⟩ := h2
  have es : sa T p e v = sa T p e w := by omega
  rw [es] at b2
  have s8 : sa T p e w < 8 := by
    rcases Nat.lt_or_ge (sa T p e w) 8 with h | h
    · exact h
    · exfalso
      unfold lc at a2
      rw [if_neg (by omega)] at a2
      omega
  have k1 : ∀ i, i < sa T p e w → T (p + i) = lc w i := fun i hi => by
    have := wh_in (fun i => decide (p + i < e) && decide (T (p + i) = lc w i)) 8 0 i (by omega) hi
    simp only [Bool.and_eq_true, decide_eq_true_eq] at this
    exact this.2
  have k2 : ∀ i, i < sa T p e w → T (p + i) = lc v i := fun i hi => by
    have := wh_in (fun i => decide (p + i < e) && decide (T (p + i) = lc v i)) 8 0 i (by omega) (by show i < sa T p e v; omega)
    simp only [Bool.and_eq_true, decide_eq_true_eq] at this
    exact this.2
  refine lc_u w hw v hv _ s8 ⟨fun i hi => (k1 i hi).symm.trans (k2 i hi), a2, b2, ?_⟩
  rw [← k1 0 (by omega)]
  exact hl _ (by omega) (by omega)
/-- a sign's TOKEN -/
def sgk (c d : Nat) : Nat := if c = 59 then 3 else if c = 40 then 5 else if c = 41 then 6 else if c = 43 then 7 else if c = 45 then 8 else if c = 42 then 9 else if c = 47 then 10 else if c = 61 then 13 else if c = 60 then (if d = 61 then 12 else if d = 62 then 14 else 11) else if c = 62 then (if d = 61 then 15 else 16) else if c = 46 then (if d = 46 then 4 else 1) else 1
def sgw (c d : Nat) : Nat := if c = 60 then (if d = 61 then 2 else if d = 62 then 2 else 1) else if c = 62 then (if d = 61 then 2 else 1) else if c = 46 then (if d = 46 then 2 else 1) else 1
/-- the sign behind -/
def nc (T : Nat → Nat) (n p : Nat) : Nat := if p + 1 < n then T (p + 1) else 0
/-- the TOKEN at b -/
def kk (T : Nat → Nat) (n b : Nat) : Nat := if n ≤ pl T n b then 0 else if sm T n (pl T n b) = true then (if wx T (pl T n b) (we T n b) < 15 then 20 + wx T (pl T n b) (we T n b) else 1) else if dg T n (pl T n b) = true then 2 else sgk (T (pl T n b)) (nc T n (pl T n b))
def nd (T : Nat → Nat) (n b : Nat) : Nat := if n ≤ pl T n b then pl T n b else if sm T n (pl T n b) = true then we T n b else if dg T n (pl T n b) = true then de T n b else pl T n b + sgw (T (pl T n b)) (nc T n (pl T n b))
def hv (T : Nat → Nat) : Nat → Nat → Nat → Nat
  | 0, _, a => a
  | d + 1, i, a => hv T d (i + 1) (min (a * 10 + T i - 48) 1000000)
def mv (T : Nat → Nat) : Nat → Nat → Nat → Nat
  | 0, _, a => a
  | d + 1, i, a => mv T d (i + 1) (if 99999 < a then a else 10 * a + T i - 48)
/-- a number, as each side holds it -/
def vh (T : Nat → Nat) (n b : Nat) : Nat := hv T (de T n b - pl T n b) (pl T n b) 0
def vm (T : Nat → Nat) (n b : Nat) : Nat := mv T (de T n b - pl T n b) (pl T n b) 0
theorem hmv (T : Nat → Nat) : ∀ d i a b, (∀ k, i ≤ k → k < i + d → 48 ≤ T k ∧ T k ≤ 57) → ((a = b ∧ a ≤ 99999) ∨ (99999 < a ∧ a ≤ 1000000 ∧ 99999 < b ∧ b ≤ 999999)) → ((hv T d i a = mv T d i b ∧ hv T d i a ≤ 99999) ∨ (99999 < hv T d i a ∧ hv T d i a ≤ 1000000 ∧ 99999 < mv T d i b ∧ mv T d i b ≤ 999999))
  | 0, i, a, b, h, g => g
  | d + 1, i, a, b, h, g => by
    have h0 := h i (by omega) (by omega)
    unfold hv mv
    refine hmv T d (i + 1) _ _ (fun k h1 h2 => h k (by omega) (by omega)) ?_
    rcases g with ⟨rfl, g⟩ | ⟨g1, g2, g3, g4⟩
    · rw [if_neg (by omega)]
      rcases Nat.lt_or_ge 99999 (10 * a + T i - 48) with q | q
      · right; omega
      · left; omega
    · rw [if_pos g3]
      right; omega
theorem pl_b (T : Nat → Nat) (n b : Nat) (hb : b ≤ n) : b ≤ pl T n b ∧ pl T n b ≤ n := ⟨(wh_b _ 501 b).1, wh_n _ n (bk_n T n) 501 b hb⟩
theorem vhm (T : Nat → Nat) (n b : Nat) (hb : b ≤ n) : (vh T n b = vm T n b ∧ vh T n b ≤ 99999) ∨ (99999 < vh T n b ∧ vh T n b ≤ 1000000 ∧ 99999 < vm T n b ∧ vm T n b ≤ 999999) := by
  refine hmv T _ _ 0 0 (fun k h1 h2 => ?_) (Or.inl ⟨rfl, by omega⟩)
  have := wh_in (dg T n) 501 (pl T n b) k h1 (by show k < de T n b; omega)
  exact (dg_t.1 this).2
theorem sgw_b (c d : Nat) : 1 ≤ sgw c d ∧ sgw c d ≤ 2 := by
  unfold sgw
  repeat' split
  all_goals omega
/-- the next place: behind this one, but at the end -/
theorem nd_b (T : Nat → Nat) (n b : Nat) (hn : n ≤ 500) (hb : b ≤ n) : nd T n b ≤ n ∧ (¬ kk T n b = 0 → b < nd T n b) := by
  have h1 := pl_b T n b hb
  unfold nd kk
  by_cases q : n ≤ pl T n b
  · rw [if_pos q, if_pos q]
    exact ⟨h1.2, fun h => absurd rfl h⟩
  rw [if_neg q, if_neg q]
  by_cases c : sm T n (pl T n b) = true
  · rw [if_pos c, if_pos c]
    have h2 : we T n b ≤ n := wh_n _ n (sm_n T n) 501 _ h1.2
    refine ⟨h2, fun _ => ?_⟩
    have : pl T n b < we T n b := by
      unfold we wh
      rw [if_pos c]
      exact Nat.lt_of_lt_of_le (Nat.lt_succ_self _) (wh_b (sm T n) 500 (pl T n b + 1)).1
    omega
  rw [if_neg c, if_neg c]
  by_cases d : dg T n (pl T n b) = true
  · rw [if_pos d, if_pos d]
    have h2 : de T n b ≤ n := wh_n _ n (dg_n T n) 501 _ h1.2
    refine ⟨h2, fun _ => ?_⟩
    have : pl T n b < de T n b := by
      unfold de wh
      rw [if_pos d]
      exact Nat.lt_of_lt_of_le (Nat.lt_succ_self _) (wh_b (dg T n) 500 (pl T n b + 1)).1
    omega
  rw [if_neg d, if_neg d]
  have h3 := sgw_b (T (pl T n b)) (nc T n (pl T n b))
  refine ⟨?_, fun _ => by omega⟩
  by_cases e : pl T n b + 1 < n
  · omega
  · have : nc T n (pl T n b) = 0 := by unfold nc; rw [if_neg e]
    rw [this]
    have : sgw (T (pl T n b)) 0 = 1 := by
      unfold sgw
      simp
    omega
