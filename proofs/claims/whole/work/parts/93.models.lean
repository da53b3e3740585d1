/-! 93: MODELS by themselves -/
/-- ORBITS and field, NOTES, PORTIONS, the SPAN's ends, the pace -/
def QT : Type := EN × NN × Int32 × Int32 × Int32 × Int32
def QT.E (Q : QT) : EN := Q.1
def QT.B (Q : QT) : NN := Q.2.1
def QT.por (Q : QT) : Int32 := Q.2.2.1
def QT.lo (Q : QT) : Int32 := Q.2.2.2.1
def QT.hi (Q : QT) : Int32 := Q.2.2.2.2.1
def QT.pa (Q : QT) : Int32 := Q.2.2.2.2.2
def QB (Q : QT) : Prop := EK Q.E ∧ (0 ≤ Q.lo.toInt ∧ Q.lo.toInt ≤ Q.hi.toInt ∧ Q.hi.toInt ≤ 99999) ∧ (1 ≤ Q.pa.toInt ∧ Q.pa.toInt ≤ 99999) ∧ (1 ≤ Q.por.toInt ∧ Q.por.toInt ≤ 10) ∧ Q.B.m ≤ 10
def mk (Q : QT) (k : Nat) : Int32 := Q.lo + nI k * Q.pa
def Fk (Q : QT) (k : Nat) : FE := (Q.E, mk Q k, Q.B, Q.B.m, Q.por)
/-- how many MODELS -/
def nm (Q : QT) : Nat := min 8 (((Q.hi.toInt - Q.lo.toInt) / Q.pa.toInt).toNat + 1)
theorem nm_b {Q : QT} (h : QB Q) : 1 ≤ nm Q ∧ nm Q ≤ 8 := by unfold nm; omega
theorem nm_in {Q : QT} (h : QB Q) (k : Nat) : (k < nm Q) ↔ (k < 8 ∧ Q.lo.toInt + (k : Int) * Q.pa.toInt ≤ Q.hi.toInt) := by
  obtain ⟨h1, ⟨h2, h3, h4⟩, ⟨h5, h6⟩, h7, h8⟩ := h
  have d0 : 0 ≤ (Q.hi.toInt - Q.lo.toInt) / Q.pa.toInt := Int.ediv_nonneg (by omega) (by omega)
  have key : ((k : Int) ≤ (Q.hi.toInt - Q.lo.toInt) / Q.pa.toInt) ↔ (k : Int) * Q.pa.toInt ≤ Q.hi.toInt - Q.lo.toInt := Int.le_ediv_iff_mul_le (by omega)
  unfold nm
  omega
theorem mk_i {Q : QT} (h : QB Q) {k : Nat} (hk : k < nm Q) : (mk Q k).toInt = Q.lo.toInt + (k : Int) * Q.pa.toInt ∧ mok (mk Q k) := by
  have hn := nm_in h k
  obtain ⟨h1, ⟨h2, h3, h4⟩, ⟨h5, h6⟩, h7, h8⟩ := h
  obtain ⟨a1, a2⟩ := hn.mp hk
  have hp : 0 ≤ (k : Int) * Q.pa.toInt := Int.mul_nonneg (by omega) (by omega)
  have e1 : (nI k * Q.pa).toInt = (k : Int) * Q.pa.toInt := by rw [m32, nI_toInt (by omega)] <;> rw [nI_toInt (by omega)] <;> omega
  have e2 : (mk Q k).toInt = Q.lo.toInt + (k : Int) * Q.pa.toInt := by
    unfold mk
    rw [a32, e1] <;> rw [e1] <;> omega
  refine ⟨e2, ?_⟩
  unfold mok
  omega
noncomputable def kp (Q : QT) (k : Nat) : Bool := decide (k < nm Q) && (FF (Fk Q k)).isSome
noncomputable def tel (Q : QT) (k c : Nat) : Int32 := match FF (Fk Q k) with
  | some V => lig (Fk Q k) V c
  | none => 0
noncomputable def KP (Q : QT) : Nat := bN (kp Q) (nm Q)
theorem KP_t (Q : QT) (k : Nat) : (KP Q).testBit k = kp Q k := by
  unfold KP
  rw [bN_t]
  by_cases h : k < nm Q
  · simp [h]
  · unfold kp
    simp [h]
theorem KP_lt {Q : QT} (h : QB Q) : KP Q < 256 := by
  have h1 := bN_lt (kp Q) (nm Q)
  have h2 : (2 : Nat) ^ nm Q ≤ 2 ^ 8 := Nat.pow_le_pow_right (by decide) (nm_b h).2
  unfold KP
  omega
theorem KP_bit {Q : QT} (h : QB Q) {k : Nat} (hk : k < 32) : (((nI (KP Q)) >>> (nI k &&& 31)) &&& 1 = 1) ↔ kp Q k = true := by
  have := KP_lt h
  rw [x_bit1 (by omega) hk, KP_t]
theorem KP_bit0 {Q : QT} (h : QB Q) {k : Nat} (hk : k < 32) : (((nI (KP Q)) >>> (nI k &&& 31)) &&& 1 = 0) ↔ kp Q k = false := by
  have hl := KP_lt h
  have h2 : KP Q / 2 ^ k % 2 < 2 := Nat.mod_lt _ (by decide)
  rw [x_bit (by omega) hk, show (0 : Int32) = nI 0 from rfl, nI_eq (by omega) (by omega), ← KP_t, Nat.testBit_eq_decide_div_mod_eq]
  simp
theorem KP_0 {Q : QT} (h : QB Q) : (nI (KP Q) = 0) ↔ ∀ k, kp Q k = false := by
  have hl := KP_lt h
  rw [show (0 : Int32) = nI 0 from rfl, nI_eq (by omega) (by omega)]
  constructor
  · intro e k
    rw [← KP_t, e, Nat.zero_testBit]
  · intro hk
    apply Nat.eq_of_testBit_eq
    intro i
    rw [KP_t, hk i, Nat.zero_testBit]
noncomputable def twn (Q : QT) (a b : Nat) : Bool := (List.range Q.B.m).all (fun i => !(sgt Q.B Q.B.m i) || decide (tel Q a (Q.B.cell i) = tel Q b (Q.B.cell i)))
noncomputable def pp (Q : QT) (a b : Nat) : Bool := kp Q a && (kp Q b && twn Q a b)
def s2 (p : Nat → Bool) : Nat → Nat → Option Nat
  | 0, _ => none
  | f + 1, b => if p b = true then some b else s2 p f (b + 1)
theorem s2_no (p : Nat → Bool) : ∀ f b, (∀ x, b ≤ x → x < b + f → p x = false) → s2 p f b = none
  | 0, _, _ => rfl
  | f + 1, b, h => by
    rw [s2, if_neg (by rw [h b (by omega) (by omega)]; decide)]
    exact s2_no p f (b + 1) (fun x h1 h2 => h x (by omega) (by omega))
theorem s2_ext (p : Nat → Bool) (e : Nat) : ∀ f b, (∀ x, b + f ≤ x → x < b + f + e → p x = false) → s2 p (f + e) b = s2 p f b
  | 0, b, h => by
    rw [Nat.zero_add]
    exact s2_no p e b (fun x h1 h2 => h x (by omega) (by omega))
  | f + 1, b, h => by
    rw [show f + 1 + e = f + e + 1 by omega, s2, s2]
    split
    · rfl
    · exact s2_ext p e f (b + 1) (fun x h1 h2 => h x (by omega) (by omega))
theorem s2_s (p : Nat → Bool) : ∀ f b x, s2 p f b = some x → b ≤ x ∧ x < b + f ∧ p x = true
  | 0, _, _, h => by cases h
  | f + 1, b, x, h => by
    rw [s2] at h
    by_cases c : p b = true
    · rw [if_pos c] at h
      cases h
      exact ⟨by omega, by omega, c⟩
    · rw [if_neg c] at h
      have := s2_s p f (b + 1) x h
      exact ⟨by omega, by omega, this.2.2⟩
def s1 (p : Nat → Nat → Bool) (lim : Nat) : Nat → Nat → Option (Nat × Nat)
  | 0, _ => none
  | f + 1, a => match s2 (p a) (lim - (a + 1)) (a + 1) with
    | some b => some (a, b)
    | none => s1 p lim f (a + 1)
theorem s1_no (p : Nat → Nat → Bool) (lim : Nat) : ∀ f a, (∀ x y, a ≤ x → x < a + f → p x y = false) → s1 p lim f a = none
  | 0, _, _ => rfl
  | f + 1, a, h => by
    rw [s1, s2_no _ _ _ (fun x _ _ => h a x (by omega) (by omega))]
    exact s1_no p lim f (a + 1) (fun x y h1 h2 => h x y (by omega) (by omega))
theorem s1_eq (p : Nat → Nat → Bool) (n : Nat) (hn : n ≤ 8) (h : ∀ a b, n ≤ a ∨ n ≤ b → p a b = false) : ∀ f a, a + f = n → s1 p 8 (f + (8 - n)) a = s1 p n f a
  | 0, a, e => by
    rw [Nat.zero_add]
    exact s1_no p 8 (8 - n) a (fun x y h1 h2 => h x y (Or.inl (by omega)))
  | f + 1, a, e => by
    rw [show f + 1 + (8 - n) = f + (8 - n) + 1 by omega, s1, s1]
    have e2 := s2_ext (p a) (8 - n) (n - (a + 1)) (a + 1) (fun x h1 h2 => h a x (Or.inr (by omega)))
    rw [show n - (a + 1) + (8 - n) = 8 - (a + 1) by omega] at e2
    rw [e2, s1_eq p n hn h f (a + 1) (by omega)]
theorem s1_s (p : Nat → Nat → Bool) (lim : Nat) : ∀ f a r, a + f ≤ lim → s1 p lim f a = some r → r.1 < r.2 ∧ r.2 < lim ∧ p r.1 r.2 = true
  | 0, _, _, _, h => by cases h
  | f + 1, a, r, hf, h => by
    rw [s1] at h
    cases hs : s2 (p a) (lim - (a + 1)) (a + 1) with
    | none => rw [hs] at h; exact s1_s p lim f (a + 1) r (by omega) h
    | some b =>
      rw [hs] at h
      cases h
      have := s2_s _ _ _ _ hs
      refine ⟨by omega, by omega, this.2.2⟩
/-- TWINS -/
noncomputable def tws (Q : QT) : Option (Nat × Nat) := s1 (pp Q) (nm Q) (nm Q) 0
theorem tws_8 {Q : QT} (h : QB Q) : s1 (pp Q) 8 8 0 = tws Q := by
  have hb := nm_b h
  have := s1_eq (pp Q) (nm Q) hb.2 (fun a b hab => by
    unfold pp kp
    rcases hab with c | c
    · rw [decide_eq_false (show ¬ a < nm Q by omega)]; rfl
    · rw [decide_eq_false (show ¬ b < nm Q by omega)]; simp) (nm Q) 0 (by omega)
  rw [show nm Q + (8 - nm Q) = 8 by omega] at this
  exact this
/-- light beyond the CELLS -/
theorem sa_z {E : EN} (h : GB E.g E.r) (T : Nat → SS) {c : Nat} (hc : E.g.toInt * E.g.toInt ≤ (c : Int)) (hc2 : c < 2 ^ 31) : ∀ t, saF E.g E.r T c t = 0
  | 0 => rfl
  | t + 1 => by
    rw [saF, if_neg, sa_z h T hc hc2 t]
    intro e
    rcases celI_n h (T (t + 1)).x.toInt32.toInt64 (T (t + 1)).y.toInt32.toInt64 with q | ⟨d, d1, d2, q⟩
    · have e' : celI E.g E.r (T (t + 1)).x.toInt32.toInt64 (T (t + 1)).y.toInt32.toInt64 = nI c := e
      rw [q] at e'
      have := congrArg Int32.toInt e'
      rw [nI_toInt hc2, show (-1 : Int32).toInt = -1 from by decide] at this
      omega
    · have e' : celI E.g E.r (T (t + 1)).x.toInt32.toInt64 (T (t + 1)).y.toInt32.toInt64 = nI c := e
      rw [q] at e'
      have := (nI_eq (by omega) hc2).mp e'
      omega
theorem lig_z {F : FE} (h : GB F.E.g F.E.r) (W : Nat → Int32) {c : Nat} (hc : F.E.g.toInt * F.E.g.toInt ≤ (c : Int)) (hc2 : c < 2 ^ 31) : lig F W c = 0 := by
  unfold lig
  have : ∀ k, lgS F W c k = 0 := by
    intro k
    induction k with
    | zero => rfl
    | succ k ih =>
      rw [lgS, ih]
      unfold SH
      rw [sa_z h _ hc hc2, Int32.mul_zero]
      rfl
  exact this _
theorem tel_z {Q : QT} (h : QB Q) (k : Nat) {c : Nat} (hc : Q.E.g.toInt * Q.E.g.toInt ≤ (c : Int)) (hc2 : c < 2 ^ 31) : tel Q k c = 0 := by
  unfold tel
  cases FF (Fk Q k) with
  | none => rfl
  | some V => exact lig_z (F := Fk Q k) h.1.2.2.2.2.2 V hc hc2
noncomputable def gg (Q : QT) : Nat := (Q.E.g.toInt * Q.E.g.toInt).toNat
theorem gg_b {Q : QT} (h : QB Q) : gg Q ≤ 64 ∧ (gg Q : Int) = Q.E.g.toInt * Q.E.g.toInt ∧ Q.E.g * Q.E.g = nI (gg Q) := by
  obtain ⟨g1, g2⟩ := h.1.2.2.2.2.2.1
  have h4 : Q.E.g.toInt * Q.E.g.toInt ≤ 8 * 8 := Int.mul_le_mul g2 g2 (by omega) (by omega)
  have h5 : 0 ≤ Q.E.g.toInt * Q.E.g.toInt := Int.mul_nonneg (by omega) (by omega)
  have e : (gg Q : Int) = Q.E.g.toInt * Q.E.g.toInt := by unfold gg; omega
  refine ⟨by omega, e, ?_⟩
  apply Int32.toInt_inj.mp
  rw [m32 (by omega) (by omega), nI_toInt (by omega), e]
/-- where TWINS part -/
noncomputable def prt (Q : QT) (a b : Nat) : Option Nat := s2 (fun c => decide (¬ tel Q a c = tel Q b c)) (gg Q) 0
theorem prt_64 {Q : QT} (h : QB Q) (a b : Nat) : s2 (fun c => decide (¬ tel Q a c = tel Q b c)) 64 0 = prt Q a b := by
  obtain ⟨g1, g2, g3⟩ := gg_b h
  have := s2_ext (fun c => decide (¬ tel Q a c = tel Q b c)) (64 - gg Q) (gg Q) 0 (fun x h1 h2 => by
    rw [tel_z h a (by omega) (by omega), tel_z h b (by omega) (by omega)]
    simp)
  rw [show gg Q + (64 - gg Q) = 64 by omega] at this
  exact this
/-- MODELS that tell a CELL alike -/
noncomputable def smA (Q : QT) (c a : Nat) : Nat → Nat
  | 0 => 0
  | b + 1 => smA Q c a b + (if (kp Q a && (kp Q b && decide (tel Q a c = tel Q b c))) = true then 1 else 0)
theorem smA_le (Q : QT) (c a : Nat) : ∀ b, smA Q c a b ≤ b
  | 0 => Nat.le_refl 0
  | b + 1 => by
    have := smA_le Q c a b
    rw [smA]
    split <;> omega
noncomputable def mxA (Q : QT) (c lim : Nat) : Nat → Nat
  | 0 => 0
  | a + 1 => max (mxA Q c lim a) (smA Q c a lim)
theorem mxA_le (Q : QT) (c lim : Nat) : ∀ a, mxA Q c lim a ≤ lim
  | 0 => Nat.zero_le _
  | a + 1 => by
    have h1 := mxA_le Q c lim a
    have h2 := smA_le Q c a lim
    rw [mxA]
    omega
theorem smA_ext {Q : QT} (c a : Nat) : ∀ e, smA Q c a (nm Q + e) = smA Q c a (nm Q)
  | 0 => rfl
  | e + 1 => by
    rw [← Nat.add_assoc, smA, smA_ext c a e, if_neg]
    · rfl
    · have hk : kp Q (nm Q + e) = false := by unfold kp; rw [decide_eq_false (by omega)]; rfl
      rw [hk]
      simp
theorem smA_z {Q : QT} (c : Nat) {a : Nat} (h : nm Q ≤ a) : ∀ b, smA Q c a b = 0
  | 0 => rfl
  | b + 1 => by
    have hk : kp Q a = false := by
      unfold kp
      have : ¬ a < nm Q := by omega
      simp [this]
    rw [smA, smA_z c h b, if_neg (by rw [hk]; simp)]
theorem mxA_8 {Q : QT} (h : QB Q) (c : Nat) : mxA Q c 8 8 = mxA Q c (nm Q) (nm Q) := by
  have hb := nm_b h
  have e1 : ∀ a, smA Q c a 8 = smA Q c a (nm Q) := fun a => by
    have := smA_ext (Q := Q) c a (8 - nm Q)
    rw [show nm Q + (8 - nm Q) = 8 by omega] at this
    exact this
  have e2 : ∀ k, mxA Q c 8 k = mxA Q c (nm Q) k := by
    intro k
    induction k with
    | zero => rfl
    | succ k ih => rw [mxA, mxA, ih, e1]
  have e3 : ∀ e, mxA Q c (nm Q) (nm Q + e) = mxA Q c (nm Q) (nm Q) := by
    intro e
    induction e with
    | zero => rfl
    | succ e ih =>
      rw [← Nat.add_assoc, mxA, ih, smA_z c (by omega)]
      omega
  have := e3 (8 - nm Q)
  rw [show nm Q + (8 - nm Q) = 8 by omega] at this
  rw [e2, this]
noncomputable def ms (Q : QT) (c : Nat) : Nat := mxA Q c (nm Q) (nm Q)
/-- where to look: the best so far, and how many tell it alike -/
noncomputable def lkF (Q : QT) : Nat → Nat → Int32 × Nat → Int32 × Nat
  | 0, _, r => r
  | f + 1, c, r => lkF Q f (c + 1) (if r.1 = -1 ∨ ms Q c < r.2 then (nI c, ms Q c) else r)
noncomputable def look (Q : QT) : Int32 := if 2 ≤ pc (KP Q) then (lkF Q (gg Q) 0 (-1, 0)).1 else -1
/-- the answer of models -/
noncomputable def mAns (Q : QT) (what : Int32) : Int32 :=
  if what = 0 then nI (nm Q)
  else if what = 1 then nI (KP Q)
  else if what = 2 then (match s2 (kp Q) (nm Q) 0 with
    | some k => mk Q k
    | none => -1)
  else if what = 3 then (match s2 (fun i => kp Q (nm Q - 1 - i)) (nm Q) 0 with
    | some i => mk Q (nm Q - 1 - i)
    | none => -1)
  else if what = 4 then look Q
  else if what = 5 then (match tws Q with
    | some r => nI r.1
    | none => -1)
  else if what = 6 then (match tws Q with
    | some r => nI r.2
    | none => -1)
  else (match tws Q with
    | some r => (match prt Q r.1 r.2 with
      | some c => nI c
      | none => -1)
    | none => -1)
