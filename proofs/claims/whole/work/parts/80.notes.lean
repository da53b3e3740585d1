/-! 80: bits; NOTES that are known -/
theorem x_or (a b : Nat) : nI a ||| nI b = nI (a ||| b) := by
  apply Int32.toBitVec_inj.1
  show BitVec.ofNat 32 a ||| BitVec.ofNat 32 b = BitVec.ofNat 32 (a ||| b)
  apply BitVec.eq_of_getLsbD_eq
  intro i hi
  simp [hi]
theorem x_sl : ∀ n, n < 32 → ((nI n &&& 31).toBitVec.smod 32).toNat = n := by decide +kernel
theorem x_shl {k : Nat} (hk : k < 31) : (1 : Int32) <<< (nI k &&& 31) = nI (2 ^ k) := by
  have h : (2 : Nat) ^ k < 2 ^ 31 := Nat.pow_lt_pow_right (by decide) hk
  have := pk_shlN (n := 1) (nI k &&& 31) k (x_sl k (by omega)) (by omega)
  rw [Nat.one_mul] at this
  exact this
theorem x_bit {n k : Nat} (hn : n < 2 ^ 31) (hk : k < 32) : (nI n >>> (nI k &&& 31)) &&& 1 = nI (n / 2 ^ k % 2) := by
  have h1 : n / 2 ^ k ≤ n := Nat.div_le_self _ _
  rw [pk_shrN hn (nI k &&& 31) k (x_sl k hk), pk_andN (by omega) 1 (by decide)]
theorem x_bit1 {n k : Nat} (hn : n < 2 ^ 31) (hk : k < 32) : ((nI n >>> (nI k &&& 31)) &&& 1 = 1) ↔ n.testBit k = true := by
  have h2 : n / 2 ^ k % 2 < 2 := Nat.mod_lt _ (by decide)
  rw [x_bit hn hk, show (1 : Int32) = nI 1 from rfl, nI_eq (by omega) (by omega), Nat.testBit_eq_decide_div_mod_eq]
  simp
/-- bits of what holds below K -/
def bN (f : Nat → Bool) : Nat → Nat
  | 0 => 0
  | k + 1 => if f k = true then bN f k ||| 2 ^ k else bN f k
theorem bN_t (f : Nat → Bool) : ∀ K i, (bN f K).testBit i = (decide (i < K) && f i)
  | 0, i => by simp [bN]
  | K + 1, i => by
    rw [bN]
    by_cases c : f K = true
    · rw [if_pos c, Nat.testBit_or, bN_t f K i, Nat.testBit_two_pow]
      by_cases h : K = i
      · subst h
        simp [c]
      · rw [decide_eq_false h, Bool.or_false, show decide (i < K + 1) = decide (i < K) from by simp; omega]
    · rw [if_neg c, bN_t f K i]
      by_cases h : K = i
      · subst h
        simp [c]
      · rw [show decide (i < K + 1) = decide (i < K) from by simp; omega]
theorem bN_lt (f : Nat → Bool) : ∀ K, bN f K < 2 ^ K
  | 0 => by simp [bN]
  | K + 1 => by
    have h := bN_lt f K
    rw [bN, Nat.pow_succ]
    split
    · have : bN f K ||| 2 ^ K < 2 ^ (K + 1) := Nat.or_lt_two_pow (by rw [Nat.pow_succ]; omega) (by rw [Nat.pow_succ]; omega)
      rw [Nat.pow_succ] at this
      exact this
    · omega
theorem bN_lt31 (f : Nat → Bool) {K : Nat} (h : K ≤ 30) : bN f K < 2 ^ 31 := by
  have h1 := bN_lt f K
  have h2 : (2 : Nat) ^ K ≤ 2 ^ 30 := Nat.pow_le_pow_right (by decide) h
  omega
/-- NOTES: how many; is it a STRIKE; kind, CELL or the NOTE that is struck, ends -/
def NN : Type := Nat × (Nat → Bool) × (Nat → Int32) × (Nat → Nat) × (Nat → Int32) × (Nat → Int32)
def NN.m (B : NN) : Nat := B.1
def NN.str (B : NN) : Nat → Bool := B.2.1
def NN.kind (B : NN) : Nat → Int32 := B.2.2.1
def NN.cell (B : NN) : Nat → Nat := B.2.2.2.1
def NN.lo (B : NN) : Nat → Int32 := B.2.2.2.2.1
def NN.hi (B : NN) : Nat → Int32 := B.2.2.2.2.2
def b4 (v : Int32) : Prop := -9999 ≤ v.toInt ∧ v.toInt ≤ 9999
def NT (M : sw_M) (B : NN) : Prop := B.m ≤ 10 ∧ rd_I M 36 5 = nI B.m ∧ rd_I M 80 76 = nI B.m ∧ ∀ i, i < B.m →
  (B.str i = true → rd_I M 114 i = 1 ∧ rd_I M 37 i = 2 ∧ B.cell i < i) ∧
  (B.str i = false → rd_I M 114 i = 0 ∧ rd_I M 37 i = B.kind i ∧ rd_I M 115 i = B.kind i ∧ (B.kind i = 0 ∨ B.kind i = 1) ∧ B.cell i < 64 ∧ rd_I M 39 i = B.lo i ∧ rd_I M 117 i = B.lo i ∧ rd_I M 40 i = B.hi i ∧ rd_I M 118 i = B.hi i ∧ b4 (B.lo i) ∧ b4 (B.hi i)) ∧
  rd_I M 116 i = nI (B.cell i) ∧ rd_I M 38 i = nI (B.cell i)
def Cnt (a k : Nat) : Prop := (a = 36 ∧ k = 5) ∨ (a = 80 ∧ k = 76) ∨ (37 ≤ a ∧ a ≤ 40) ∨ (114 ≤ a ∧ a ≤ 118)
theorem NT_fr {A : Nat → Nat → Prop} {M W : sw_M} (h : Fr A M W) (hA : ∀ a k, Cnt a k → ¬ A a k) {B : NN} (g : NT M B) : NT W B := by
  obtain ⟨g1, g2, g3, g4⟩ := g
  have e : ∀ a k, Cnt a k → rd_I W a k = rd_I M a k := fun a k c => h.I a k (hA a k c)
  refine ⟨g1, (e _ _ (by unfold Cnt; omega)).trans g2, (e _ _ (by unfold Cnt; omega)).trans g3, fun i hi => ?_⟩
  rw [e 114 i (by unfold Cnt; omega), e 37 i (by unfold Cnt; omega), e 115 i (by unfold Cnt; omega), e 39 i (by unfold Cnt; omega), e 117 i (by unfold Cnt; omega), e 40 i (by unfold Cnt; omega), e 118 i (by unfold Cnt; omega), e 116 i (by unfold Cnt; omega), e 38 i (by unfold Cnt; omega)]
  exact g4 i hi
def skF (B : NN) : Nat → (Nat → Bool) → (Nat → Bool)
  | 0, S => S
  | i + 1, S => skF B i (if (B.str i && !(S i)) = true then (fun j => if j = B.cell i then true else S j) else S)
/-- the SIGHTS that count, by n */ -/
def sgt (B : NN) (n i : Nat) : Bool := decide (i < n) && (!(B.str i) && !(skF B n (fun _ => false) i))
theorem ti_bz (b : Bool) (hb : sw_bz (bz b) = true) : True := trivial
theorem nI_dn (i : Nat) : nI i + (-1) = nI i - 1 := (Int32.sub_eq_add_neg (nI i) 1).symm
theorem Notes_know_53 (N : Nat) (B : NN) (n : Nat) (hn : n ≤ B.m) : ∀ (i j : Nat) (M : sw_M) (S : Nat → Bool), i ≤ n → i < j → HR M → NT M B → (∀ t, t < 10 → rd_I M 41 t = bz (decide (t < n) && !(S t))) →
    ∃ W, f_Notes_know_53 N j 36 (nI i - 1) M = some (1, W) ∧ Fr (fun a _ => a = 41) M W ∧ ∀ t, t < 10 → rd_I W 41 t = bz (decide (t < n) && !(skF B i S t))
  | 0, j, M, S, hi, hj, hH, hB, hS => by
    obtain ⟨j, rfl⟩ : ∃ k, j = k + 1 := ⟨j - 1, by omega⟩
    refine ⟨M, ?_, Fr.refl _ _, hS⟩
    rw [f_Notes_know_53, if_pos (by decide)]
  | i + 1, j, M, S, hi, hj, hH, hB, hS => by
    obtain ⟨j, rfl⟩ : ∃ k, j = k + 1 := ⟨j - 1, by omega⟩
    have hm := hB.1
    have h41 := hS i (by omega)
    rw [decide_eq_true (show i < n by omega), Bool.true_and] at h41
    obtain ⟨b1, b2, b3, b4⟩ := hB.2.2.2 i (by omega)
    rw [f_Notes_know_53, nI_pred, if_neg (nI_pos (by omega)), ok_36 hH.1, gd_T, hr_f hH 36 4 41 rfl (by decide), an_41_14, Bool.false_or, ar_41 hH.1, ti_n (show i < 10 by omega) (by decide), gd_T, cl_n (by omega), h41, hr_f hH 36 0 37 rfl (by decide), ar_37 hH.1, ti_n (show i < 10 by omega) (by decide), gd_T, hr_f hH 36 1 38 rfl (by decide), ar_38 hH.1, ti_n (show i < 10 by omega) (by decide), gd_T]
    rw [skF]
    have skip : ∀ S', S' = S → ∃ W, f_Notes_know_108 N (f_Notes_know_53 N j) 36 (nI i) M = some (1, W) ∧ Fr (fun a _ => a = 41) M W ∧ ∀ t, t < 10 → rd_I W 41 t = bz (decide (t < n) && !(skF B i S' t)) := fun S' e => by
      rw [f_Notes_know_108, nI_dn, e]
      exact Notes_know_53 N B n hn i j M S (by omega) (by omega) hH hB hS
    cases hSi : S i
    · rw [Bool.not_false, show bz true = 1 from rfl, if_neg (by decide)]
      cases hst : B.str i
      · obtain ⟨c1, c2, c3, c4, _⟩ := b2 hst
        rw [c2, if_neg (by rcases c4 with e | e <;> rw [e] <;> decide)]
        exact skip _ (by simp)
      · obtain ⟨c1, c2, c3⟩ := b1 hst
        rw [c2, if_pos rfl, b4, if_neg (nI_pos (by omega)), if_neg (show ¬ (10 : Int32) ≤ nI (B.cell i) from (nI_ge (by omega) (by omega) : ¬ nI 10 ≤ nI (B.cell i))), an_41_14, Bool.false_and, Bool.false_or, ar_41 hH.1, ti_n (show B.cell i < 10 by omega) (by decide), show sw_bz (0 : Int32) = true from by decide, Bool.true_and, gd_T, cl_n (by omega), f_Notes_know_108, nI_dn]
        have hf : Fr (fun a _ => a = 41) M (wr_I M 41 (B.cell i) 0) := (Fr.refl _ M).wI _ _ _ rfl
        obtain ⟨W, w1, w2, w3⟩ := Notes_know_53 N B n hn i j (wr_I M 41 (B.cell i) 0) (fun t => if t = B.cell i then true else S t) (by omega) (by omega) hH (NT_fr hf (fun a k h c => by unfold Cnt at h; omega) hB) (fun t ht => by
          simp only [m_II, m_LL, m_RR, m_IL, m_IR, m_LI, m_LR, m_RI, m_RL, m_NI, m_NL, m_NR, m_okI, m_okL, m_okR, m_okaI, m_okaL, m_okaR, m_arI, m_arL, m_arR, gd_T, bn_S, Nat.reduceEqDiff, Nat.left_eq_add, Nat.add_eq_left, Nat.one_ne_zero, and_false, and_true, false_and, true_and, if_false, if_true]
          by_cases c : t = B.cell i
          · simp [c, bz]
          · simp only [c, if_false]
            exact hS t ht)
        refine ⟨W, w1, hf.trans w2, ?_⟩
        simpa using w3
    · rw [Bool.not_true, show bz false = 0 from rfl, if_pos rfl]
      exact skip _ (by simp)
theorem Notes_know_16 (N : Nat) (n : Nat) (hn : n ≤ 10) : ∀ (d i j : Nat) (M : sw_M), i + d = 10 → d < j → HR M → (∀ t, t < i → rd_I M 41 t = bz (decide (t < n))) →
    ∃ W, f_Notes_know_16 N j 36 (nI n) (nI i) M = f_Notes_know_53 N N 36 (nI n - 1) W ∧ Fr (fun a _ => a = 41) M W ∧ ∀ t, t < 10 → rd_I W 41 t = bz (decide (t < n))
  | 0, i, j, M, hi, hj, hH, hS => by
    obtain ⟨j, rfl⟩ : ∃ k, j = k + 1 := ⟨j - 1, by omega⟩
    obtain rfl : i = 10 := by omega
    refine ⟨M, ?_, Fr.refl _ _, hS⟩
    rw [f_Notes_know_16, if_pos (show (10 : Int32) ≤ nI 10 from by decide), show m_minI (nI n) 10 = nI n from by
      unfold m_minI
      rw [if_neg (show ¬ (10 : Int32) < nI n from (nI_nlt hn (by omega) : ¬ nI 10 < nI n))]]
  | d + 1, i, j, M, hi, hj, hH, hS => by
    obtain ⟨j, rfl⟩ : ∃ k, j = k + 1 := ⟨j - 1, by omega⟩
    have hb : ∀ v : Bool, f_Notes_know_37 N (f_Notes_know_16 N j) 36 (nI n) (nI i) (bz v) (nI i) 41 M = f_Notes_know_16 N j 36 (nI n) (nI (i + 1)) (wr_I M 41 i (bz v)) := fun v => by
      rw [f_Notes_know_37, an_41_14, Bool.false_and, Bool.false_or, ar_41 hH.1, ti_n (show i < 10 by omega) (by decide), bz_ok, Bool.true_and, gd_T, cl_n (by omega), nI_1]
    rw [f_Notes_know_16, if_neg (show ¬ (10 : Int32) ≤ nI i from (nI_ge (by omega) (by omega) : ¬ nI 10 ≤ nI i)), ok_36 hH.1, gd_T, hr_f hH 36 4 41 rfl (by decide), show (0 : Int32) = bz false from rfl, show (1 : Int32) = bz true from rfl, hb, hb]
    have hf : ∀ v, Fr (fun a _ => a = 41) M (wr_I M 41 i v) := fun v => (Fr.refl _ M).wI _ _ _ rfl
    have e : (if nI n ≤ nI i then f_Notes_know_16 N j 36 (nI n) (nI (i + 1)) (wr_I M 41 i (bz false)) else f_Notes_know_16 N j 36 (nI n) (nI (i + 1)) (wr_I M 41 i (bz true))) = f_Notes_know_16 N j 36 (nI n) (nI (i + 1)) (wr_I M 41 i (bz (decide (i < n)))) := by
      by_cases c : n ≤ i
      · rw [if_pos (nI_le c (by omega)), decide_eq_false (by omega)]
      · rw [if_neg (nI_ge (by omega) (by omega)), decide_eq_true (by omega)]
    rw [e]
    obtain ⟨W, w1, w2, w3⟩ := Notes_know_16 N n hn d (i + 1) j (wr_I M 41 i (bz (decide (i < n)))) (by omega) (by omega) hH (fun t ht => by
      simp only [m_II, m_LL, m_RR, m_IL, m_IR, m_LI, m_LR, m_RI, m_RL, m_NI, m_NL, m_NR, m_okI, m_okL, m_okR, m_okaI, m_okaL, m_okaR, m_arI, m_arL, m_arR, gd_T, bn_S, Nat.reduceEqDiff, Nat.left_eq_add, Nat.add_eq_left, Nat.one_ne_zero, and_false, and_true, false_and, true_and, if_false, if_true]
      by_cases c : t = i
      · simp [c]
      · simp only [c, if_false]
        exact hS t (by omega))
    exact ⟨W, w1, (hf _).trans w2, w3⟩
theorem Notes_know (N : Nat) (hN : 300 ≤ N) (M : sw_M) (hH : HR M) (B : NN) (hB : NT M B) (n : Nat) (hn : n ≤ B.m) :
    ∃ W, f_Notes_know N 36 (nI n) M = some (1, W) ∧ Fr (fun a _ => a = 41) M W ∧ ∀ t, t < 10 → rd_I W 41 t = bz (decide (t < n) && !(skF B n (fun _ => false) t)) := by
  have hm := hB.1
  unfold f_Notes_know
  rw [if_neg (nI_pos (by omega)), ok_36 hH.1, gd_T, hB.2.1, if_pos (nI_le hn (by omega))]
  obtain ⟨W, w1, w2, w3⟩ := Notes_know_16 N n (by omega) 10 0 N M (by omega) (by omega) hH (fun t ht => absurd ht (by omega))
  have w1' : f_Notes_know_16 N N 36 (nI n) 0 M = f_Notes_know_53 N N 36 (nI n - 1) W := w1
  rw [w1']
  obtain ⟨V, v1, v2, v3⟩ := Notes_know_53 N B n hn n N W (fun _ => false) (by omega) (by omega) (w2.hr hH) (NT_fr w2 (fun a k h c => by unfold Cnt at h; omega) hB) (fun t ht => by rw [w3 t ht]; simp)
  exact ⟨V, v1, w2.trans v2, v3⟩
theorem Notes_know_no (N : Nat) (M : sw_M) (hH : HR M) (B : NN) (hB : NT M B) (a : Int32) (h : a.toInt < 0 ∨ (B.m : Int) < a.toInt) : f_Notes_know N 36 a M = some (0, M) := by
  have hm := hB.1
  unfold f_Notes_know
  by_cases c : a < 0
  · rw [if_pos c]
  · have := Int32.le_iff_toInt_le.mp (Int32.not_lt.mp c)
    rw [show (0 : Int32).toInt = 0 from by decide] at this
    rw [if_neg c, ok_36 hH.1, gd_T, hB.2.1, if_neg (i32_nle (by rw [nI_toInt (by omega)]; omega))]
