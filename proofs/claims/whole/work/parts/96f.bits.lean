/-! 96f: bits of a long, counted -/
def v6 (a : Int64) : Nat := a.toBitVec.toNat
theorem v6_lt (a : Int64) : v6 a < 2 ^ 64 := a.toBitVec.isLt
theorem v6_and (a b : Int64) : v6 (a &&& b) = v6 a &&& v6 b := by
  show (a.toBitVec &&& b.toBitVec).toNat = _
  rw [BitVec.toNat_and]; rfl
theorem v6_xor (a b : Int64) : v6 (a ^^^ b) = v6 a ^^^ v6 b := by
  show (a.toBitVec ^^^ b.toBitVec).toNat = _
  rw [BitVec.toNat_xor]; rfl
theorem v6_add {a b : Int64} (h : v6 a + v6 b < 2 ^ 64) : v6 (a + b) = v6 a + v6 b := by
  show (a.toBitVec + b.toBitVec).toNat = _
  rw [BitVec.toNat_add]
  exact Nat.mod_eq_of_lt h
theorem v6_sub {a b : Int64} (h : v6 b ≤ v6 a) : v6 (a - b) = v6 a - v6 b := by
  show (a.toBitVec - b.toBitVec).toNat = _
  rw [BitVec.toNat_sub]
  have h1 : a.toBitVec.toNat < 2 ^ 64 := a.toBitVec.isLt
  have h2 : b.toBitVec.toNat ≤ a.toBitVec.toNat := h
  show (2 ^ 64 - b.toBitVec.toNat + a.toBitVec.toNat) % 2 ^ 64 = a.toBitVec.toNat - b.toBitVec.toNat
  omega
def sh6 (a : Int64) (k : Int32) : Int64 := (a.toUInt64 >>> (k.toInt64.toUInt64 &&& Int64.toUInt64 63)).toInt64
theorem v6_sh (a : Int64) (k : Int32) (n : Nat) (h : (k.toInt64.toUInt64 &&& Int64.toUInt64 63).toNat % 64 = n) : v6 (sh6 a k) = v6 a / 2 ^ n := by
  have : v6 (sh6 a k) = (a.toUInt64 >>> (k.toInt64.toUInt64 &&& Int64.toUInt64 63)).toNat := rfl
  rw [this, UInt64.toNat_shiftRight, h, Nat.shiftRight_eq_div_pow]
  rfl
def bq1 (a : Int64) : Int64 := a - (sh6 a 1 &&& 6148914691236517205)
def bq2 (a : Int64) : Int64 := (a &&& 3689348814741910323) + (sh6 a 2 &&& 3689348814741910323)
def bq3 (a : Int64) : Int64 := (a + sh6 a 4) &&& 1085102592571150095
def bq4 (a : Int64) : Int64 := a + sh6 a 8
def bq5 (a : Int64) : Int64 := a + sh6 a 16
def bq6 (a : Int64) : Int64 := a + sh6 a 32
theorem Lng_e (N : Nat) (a : Int64) (M : sw_M) : f_Lng_bitCount N a M = some ((bq6 (bq5 (bq4 (bq3 (bq2 (bq1 a)))))).toInt32 &&& 127, M) := by
  unfold f_Lng_bitCount bq6 bq5 bq4 bq3 bq2 bq1 sh6
  rfl
/-- bytes: the lowest is apart -/
theorem and_b {a c p q : Nat} (ha : a < 256) (hp : p < 256) : (a + 256 * c) &&& (p + 256 * q) = (a &&& p) + 256 * (c &&& q) := by
  have h1 : ((a + 256 * c) &&& (p + 256 * q)) % 2 ^ 8 = (a &&& p) := by
    rw [Nat.and_mod_two_pow, show (2 : Nat) ^ 8 = 256 from rfl, Nat.add_mul_mod_self_left, Nat.add_mul_mod_self_left, Nat.mod_eq_of_lt ha, Nat.mod_eq_of_lt hp]
  have h2 : ((a + 256 * c) &&& (p + 256 * q)) / 2 ^ 8 = (c &&& q) := by
    rw [Nat.and_div_two_pow, show (2 : Nat) ^ 8 = 256 from rfl, Nat.add_mul_div_left _ _ (by decide), Nat.add_mul_div_left _ _ (by decide), Nat.div_eq_of_lt ha, Nat.div_eq_of_lt hp, Nat.zero_add, Nat.zero_add]
  have h3 := Nat.div_add_mod ((a + 256 * c) &&& (p + 256 * q)) (2 ^ 8)
  rw [h1, h2] at h3
  omega
def rep (b : Nat) : Nat → Nat
  | 0 => 0
  | k + 1 => b + 256 * rep b k
def stq1 (k x : Nat) : Nat := x - ((x / 2) &&& rep 0x55 k)
def stq2 (k x : Nat) : Nat := (x &&& rep 0x33 k) + ((x / 4) &&& rep 0x33 k)
def stq3 (k x : Nat) : Nat := (x + x / 16) &&& rep 0x0f k
def e1 (b : Nat) : Nat := b - ((b / 2) &&& 0x55)
def e2 (b : Nat) : Nat := (b &&& 0x33) + ((b / 4) &&& 0x33)
def e3 (b : Nat) : Nat := (b + b / 16) &&& 0x0f
theorem e1_m : ∀ b, b < 256 → ∀ h, h < 2 → ((b / 2 + 128 * h) % 256) &&& 0x55 = (b / 2) &&& 0x55 := by decide +kernel
theorem e1_l : ∀ b, b < 256 → (b / 2 &&& 0x55) ≤ b ∧ e1 b < 256 := by decide +kernel
theorem e2_m : ∀ b, b < 256 → ∀ h, h < 4 → ((b / 4 + 64 * h) % 256) &&& 0x33 = (b / 4) &&& 0x33 := by decide +kernel
theorem e2_l : ∀ b, b < 256 → e2 (e1 b) < 256 ∧ e2 (e1 b) % 16 ≤ 4 ∧ e2 (e1 b) / 16 ≤ 4 := by decide +kernel
theorem e3_m : ∀ b, b < 70 → ∀ h, h < 5 → b % 16 ≤ 4 → b / 16 ≤ 4 → (b + b / 16 + 16 * h) &&& 0x0f = e3 b := by decide +kernel
theorem e3_v : ∀ b, b < 256 → e3 (e2 (e1 b)) = pcK b 8 := by decide +kernel
theorem pc8 : ∀ b, b < 256 → pcK b 8 ≤ 8 := by decide +kernel
theorem sgq1 (k b y : Nat) (hb : b < 256) : stq1 (k + 1) (b + 256 * y) = e1 b + 256 * stq1 k y := by
  unfold stq1 e1
  rw [show rep 0x55 (k + 1) = 0x55 + 256 * rep 0x55 k from rfl]
  have h0 : (b + 256 * y) / 2 = (b / 2 + 128 * (y % 2)) % 256 + 256 * (y / 2) := by omega
  have h1 := e1_m b hb (y % 2) (by omega)
  have h2 := (e1_l b hb).1
  have h3 : (y / 2 &&& rep 85 k) ≤ y / 2 := Nat.and_le_left
  rw [h0, and_b (Nat.mod_lt _ (by decide)) (by decide), h1]
  omega
theorem sgq2 (k b y : Nat) (hb : b < 256) : stq2 (k + 1) (b + 256 * y) = e2 b + 256 * stq2 k y := by
  unfold stq2 e2
  rw [show rep 0x33 (k + 1) = 0x33 + 256 * rep 0x33 k from rfl]
  have h0 : (b + 256 * y) / 4 = (b / 4 + 64 * (y % 4)) % 256 + 256 * (y / 4) := by omega
  have h1 := e2_m b hb (y % 4) (by omega)
  rw [h0, and_b (Nat.mod_lt _ (by decide)) (by decide), and_b hb (by decide), h1]
  omega
theorem sgq3 (k b y : Nat) (hb : b < 70) (h4 : b % 16 ≤ 4) (h5 : b / 16 ≤ 4) (hy : y % 16 ≤ 4) : stq3 (k + 1) (b + 256 * y) = e3 b + 256 * stq3 k y := by
  unfold stq3
  rw [show rep 0x0f (k + 1) = 0x0f + 256 * rep 0x0f k from rfl]
  have h0 : b + 256 * y + (b + 256 * y) / 16 = (b + b / 16 + 16 * (y % 16)) + 256 * (y + y / 16) := by omega
  rw [h0, and_b (by omega) (by decide), e3_m b hb (y % 16) (by omega) h4 h5]
def val (b : Nat → Nat) : Nat → Nat
  | 0 => 0
  | k + 1 => b 0 + 256 * val (fun i => b (i + 1)) k
theorem val1 : ∀ (k : Nat) (b : Nat → Nat), (∀ i, b i < 256) → stq1 k (val b k) = val (fun i => e1 (b i)) k
  | 0, b, h => by simp [stq1, val, rep]
  | k + 1, b, h => by
    rw [val, sgq1 k _ _ (h 0), val1 k _ (fun i => h (i + 1)), val]
theorem val2 : ∀ (k : Nat) (b : Nat → Nat), (∀ i, b i < 256) → stq2 k (val b k) = val (fun i => e2 (b i)) k
  | 0, b, h => by simp [stq2, val, rep]
  | k + 1, b, h => by
    rw [val, sgq2 k _ _ (h 0), val2 k _ (fun i => h (i + 1)), val]
theorem val_16 : ∀ (k : Nat) (b : Nat → Nat), (∀ i, b i % 16 ≤ 4) → val b k % 16 ≤ 4
  | 0, b, h => by rw [val]; omega
  | k + 1, b, h => by
    have := h 0
    rw [val]; omega
theorem val3 : ∀ (k : Nat) (b : Nat → Nat), (∀ i, b i < 70 ∧ b i % 16 ≤ 4 ∧ b i / 16 ≤ 4) → stq3 k (val b k) = val (fun i => e3 (b i)) k
  | 0, b, h => by simp [stq3, val, rep]
  | k + 1, b, h => by
    rw [val, sgq3 k _ _ (h 0).1 (h 0).2.1 (h 0).2.2 (val_16 k _ (fun i => (h (i + 1)).2.1)), val3 k _ (fun i => h (i + 1)), val]
theorem val_lt : ∀ (k : Nat) (b : Nat → Nat), (∀ i, b i < 256) → val b k < 256 ^ k
  | 0, b, h => by rw [val]; decide
  | k + 1, b, h => by
    have h1 := h 0
    have h2 := val_lt k _ (fun i => h (i + 1))
    rw [val, Nat.pow_succ]; omega
theorem val_of : ∀ (k x : Nat), val (fun i => x / 256 ^ i % 256) k = x % 256 ^ k
  | 0, x => by rw [val, Nat.pow_zero, Nat.mod_one]
  | k + 1, x => by
    have e : (fun i => x / 256 ^ (i + 1) % 256) = (fun i => (x / 256) / 256 ^ i % 256) := by
      funext i
      rw [Nat.div_div_eq_div_mul, Nat.pow_succ, Nat.mul_comm (256 ^ i)]
    rw [val, e, val_of k (x / 256), Nat.pow_zero, Nat.div_one, Nat.pow_succ, Nat.mul_comm (256 ^ k), Nat.mod_mul]
theorem pcK_a (x a : Nat) : ∀ b, pcK x (a + b) = pcK x a + pcK (x / 2 ^ a) b
  | 0 => rfl
  | b + 1 => by
    rw [← Nat.add_assoc, pcK, pcK_a x a b, pcK, Nat.div_div_eq_div_mul, Nat.pow_add]
    omega
theorem pcK_8 (x : Nat) : pcK x 8 = pcK (x % 256) 8 := by
  simp only [pcK]
  omega
theorem pcK_64 (x : Nat) : pcK x 64 = pcK (x / 256 ^ 0 % 256) 8 + pcK (x / 256 ^ 1 % 256) 8 + pcK (x / 256 ^ 2 % 256) 8 + pcK (x / 256 ^ 3 % 256) 8 + pcK (x / 256 ^ 4 % 256) 8 + pcK (x / 256 ^ 5 % 256) 8 + pcK (x / 256 ^ 6 % 256) 8 + pcK (x / 256 ^ 7 % 256) 8 := by
  rw [show (64 : Nat) = 56 + 8 from rfl, pcK_a, show (56 : Nat) = 48 + 8 from rfl, pcK_a, show (48 : Nat) = 40 + 8 from rfl, pcK_a, show (40 : Nat) = 32 + 8 from rfl, pcK_a, show (32 : Nat) = 24 + 8 from rfl, pcK_a, show (24 : Nat) = 16 + 8 from rfl, pcK_a, show (16 : Nat) = 8 + 8 from rfl, pcK_a,
    pcK_8 x, pcK_8 (x / 2 ^ 8), pcK_8 (x / 2 ^ (8 + 8)), pcK_8 (x / 2 ^ (8 + 8 + 8)), pcK_8 (x / 2 ^ (8 + 8 + 8 + 8)), pcK_8 (x / 2 ^ (8 + 8 + 8 + 8 + 8)), pcK_8 (x / 2 ^ (8 + 8 + 8 + 8 + 8 + 8)), pcK_8 (x / 2 ^ (8 + 8 + 8 + 8 + 8 + 8 + 8))]
  rw [Nat.pow_zero, Nat.div_one]
theorem fold (p : Nat → Nat) (h : ∀ i, p i ≤ 8) (x y z w : Nat) (hx : x = val p 8) (hy : y = x + x / 256) (hz : z = y + y / 65536) (hw : w = z + z / 4294967296) : y < 2 ^ 64 ∧ z < 2 ^ 64 ∧ w < 2 ^ 64 ∧ w % 128 = p 0 + p 1 + p 2 + p 3 + p 4 + p 5 + p 6 + p 7 := by
  have h0 := h 0; have h1 := h 1; have h2 := h 2; have h3 := h 3; have h4 := h 4; have h5 := h 5; have h6 := h 6; have h7 := h 7
  simp only [val, Nat.zero_add, Nat.reduceAdd] at hx
  have y1 : y = (p 0 + p 1) + 256 * ((p 1 + p 2) + 256 * ((p 2 + p 3) + 256 * ((p 3 + p 4) + 256 * ((p 4 + p 5) + 256 * ((p 5 + p 6) + 256 * ((p 6 + p 7) + 256 * p 7)))))) := by omega
  have z1 : z = (p 0 + p 1 + p 2 + p 3) + 256 * ((p 1 + p 2 + p 3 + p 4) + 256 * ((p 2 + p 3 + p 4 + p 5) + 256 * ((p 3 + p 4 + p 5 + p 6) + 256 * ((p 4 + p 5 + p 6 + p 7) + 256 * ((p 5 + p 6 + p 7) + 256 * ((p 6 + p 7) + 256 * p 7)))))) := by omega
  have q1 : z / 4294967296 = (p 4 + p 5 + p 6 + p 7) + 256 * ((p 5 + p 6 + p 7) + 256 * ((p 6 + p 7) + 256 * p 7)) := by omega
  rw [q1] at hw
  refine ⟨by omega, by omega, by omega, ?_⟩
  clear hx hy hz q1 y1
  omega
theorem low7 : ∀ w : Nat, w < 2 ^ 64 → ∀ a : Int64, v6 a = w → a.toInt32 &&& 127 = nI (w % 128) := by
  intro w hw a ha
  apply Int32.toBitVec_inj.1
  show a.toBitVec.signExtend 32 &&& 127#32 = BitVec.ofNat 32 (w % 128)
  rw [BitVec.signExtend_eq_setWidth_of_le _ (by decide)]
  apply BitVec.eq_of_toNat_eq
  rw [BitVec.toNat_and, BitVec.toNat_setWidth, BitVec.toNat_ofNat, BitVec.toNat_ofNat]
  have e : a.toBitVec.toNat = w := ha
  rw [e, show 127 % 2 ^ 32 = 2 ^ 7 - 1 from by decide, Nat.and_two_pow_sub_one_eq_mod]
  omega
/-- bits of a long, counted -/
theorem Lng_bitCount (N : Nat) (a : Int64) (M : sw_M) : f_Lng_bitCount N a M = some (nI (pcK (v6 a) 64), M) := by
  rw [Lng_e]
  have hb : ∀ i, v6 a / 256 ^ i % 256 < 256 := fun i => Nat.mod_lt _ (by decide)
  have hv : v6 a = val (fun i => v6 a / 256 ^ i % 256) 8 := by
    rw [val_of, Nat.mod_eq_of_lt (show v6 a < 256 ^ 8 from v6_lt a)]
  generalize hB : (fun i => v6 a / 256 ^ i % 256) = B at hv
  have hB' : ∀ i, B i < 256 := fun i => by rw [← hB]; exact hb i
  have c5 : v6 6148914691236517205 = rep 0x55 8 := by decide
  have c3 : v6 3689348814741910323 = rep 0x33 8 := by decide
  have cf : v6 1085102592571150095 = rep 0x0f 8 := by decide
  have s1 : v6 (bq1 a) = val (fun i => e1 (B i)) 8 := by
    have h1 : v6 (sh6 a 1 &&& 6148914691236517205) = v6 a / 2 &&& rep 0x55 8 := by rw [v6_and, v6_sh a 1 1 (by decide), c5]
    have h2 : v6 a / 2 &&& rep 0x55 8 ≤ v6 a / 2 := Nat.and_le_left
    unfold bq1
    rw [v6_sub (by rw [h1]; omega), h1, ← val1 8 B hB', ← hv]
    rfl
  have s2 : v6 (bq2 (bq1 a)) = val (fun i => e2 (e1 (B i))) 8 := by
    have h1 : v6 (sh6 (bq1 a) 2 &&& 3689348814741910323) = v6 (bq1 a) / 4 &&& rep 0x33 8 := by rw [v6_and, v6_sh _ 2 2 (by decide), c3]
    have h2 : v6 (bq1 a &&& 3689348814741910323) = v6 (bq1 a) &&& rep 0x33 8 := by rw [v6_and, c3]
    have h3 : (v6 (bq1 a) &&& rep 0x33 8) ≤ rep 0x33 8 := Nat.and_le_right
    have h4 : (v6 (bq1 a) / 4 &&& rep 0x33 8) ≤ rep 0x33 8 := Nat.and_le_right
    have h5 : rep 0x33 8 = 3689348814741910323 := by decide
    unfold bq2
    rw [v6_add (by rw [h1, h2]; omega), h1, h2, ← val2 8 (fun i => e1 (B i)) (fun i => (e1_l _ (hB' i)).2), ← s1]
    rfl
  have hE : ∀ i, e2 (e1 (B i)) < 70 ∧ e2 (e1 (B i)) % 16 ≤ 4 ∧ e2 (e1 (B i)) / 16 ≤ 4 := fun i => by
    have := e2_l _ (hB' i)
    omega
  have s3 : v6 (bq3 (bq2 (bq1 a))) = val (fun i => pcK (B i) 8) 8 := by
    have h1 : v6 (sh6 (bq2 (bq1 a)) 4) = v6 (bq2 (bq1 a)) / 16 := by rw [v6_sh _ 4 4 (by decide)]
    have h2 : v6 (bq2 (bq1 a)) < 70 * 256 ^ 7 + 256 ^ 7 := by
      rw [s2]
      have q : ∀ i, (fun i => e2 (e1 (B i))) i < 70 := fun i => (hE i).1
      simp only [val, Nat.zero_add, Nat.reduceAdd]
      have := (hE 0).1; have := (hE 1).1; have := (hE 2).1; have := (hE 3).1; have := (hE 4).1; have := (hE 5).1; have := (hE 6).1; have := (hE 7).1
      omega
    unfold bq3
    rw [v6_and, v6_add (by rw [h1]; omega), h1, cf]
    have := val3 8 _ hE
    rw [← s2] at this
    have e : (fun i => e3 (e2 (e1 (B i)))) = (fun i => pcK (B i) 8) := funext (fun i => e3_v _ (hB' i))
    rw [e] at this
    exact this
  have hp : ∀ i, (fun i => pcK (B i) 8) i ≤ 8 := fun i => pc8 _ (hB' i)
  obtain ⟨f1, f2, f3, f4⟩ := fold (fun i => pcK (B i) 8) hp _ _ _ _ s3 rfl rfl rfl
  have s4 : v6 (bq4 (bq3 (bq2 (bq1 a)))) = v6 (bq3 (bq2 (bq1 a))) + v6 (bq3 (bq2 (bq1 a))) / 256 := by
    have h1 : v6 (sh6 (bq3 (bq2 (bq1 a))) 8) = v6 (bq3 (bq2 (bq1 a))) / 256 := by rw [v6_sh _ 8 8 (by decide)]
    unfold bq4
    rw [v6_add (by rw [h1]; exact f1), h1]
  rw [← s4] at f2 f3 f4
  have s5 : v6 (bq5 (bq4 (bq3 (bq2 (bq1 a))))) = v6 (bq4 (bq3 (bq2 (bq1 a)))) + v6 (bq4 (bq3 (bq2 (bq1 a)))) / 65536 := by
    have h1 : v6 (sh6 (bq4 (bq3 (bq2 (bq1 a)))) 16) = v6 (bq4 (bq3 (bq2 (bq1 a)))) / 65536 := by rw [v6_sh _ 16 16 (by decide)]
    unfold bq5
    rw [v6_add (by rw [h1]; exact f2), h1]
  rw [← s5] at f3 f4
  have s6 : v6 (bq6 (bq5 (bq4 (bq3 (bq2 (bq1 a)))))) = v6 (bq5 (bq4 (bq3 (bq2 (bq1 a))))) + v6 (bq5 (bq4 (bq3 (bq2 (bq1 a))))) / 4294967296 := by
    have h1 : v6 (sh6 (bq5 (bq4 (bq3 (bq2 (bq1 a))))) 32) = v6 (bq5 (bq4 (bq3 (bq2 (bq1 a))))) / 4294967296 := by rw [v6_sh _ 32 32 (by decide)]
    unfold bq6
    rw [v6_add (by rw [h1]; exact f3), h1]
  rw [← s6] at f3 f4
  rw [low7 _ f3 _ rfl, f4, pcK_64]
  rw [← hB]
/-- bits that differ -/
theorem q64 : ∀ n, n < 64 → (((nI n).toInt64 &&& 63).toBitVec.smod 64).toNat = n := by decide +kernel
theorem bit6 (a : Int64) {i : Nat} (hi : i < 64) : (a >>> ((nI i).toInt64 &&& 63)) &&& 1 = if (v6 a).testBit i = true then 1 else 0 := by
  apply Int64.toBitVec_inj.1
  have e : ((a >>> ((nI i).toInt64 &&& 63)) &&& 1).toBitVec = (a.toBitVec.sshiftRight (((nI i).toInt64 &&& 63).toBitVec.smod 64).toNat) &&& 1#64 := rfl
  rw [e, q64 i hi]
  have t : ∀ b : Bool, (if b = true then (1 : Int64) else 0).toBitVec = if b = true then 1#64 else 0#64 := by decide
  rw [t]
  apply BitVec.eq_of_getLsbD_eq
  intro j hj
  rw [BitVec.getLsbD_and, BitVec.getLsbD_sshiftRight]
  by_cases c : j = 0
  · subst c
    have : (v6 a).testBit i = a.toBitVec.getLsbD i := rfl
    rw [this]
    cases h : a.toBitVec.getLsbD i <;> simp [hi, h]
  · have : (1#64).getLsbD j = false := by simp [c]
    rw [this, Bool.and_false]
    split
    · exact this.symm
    · simp
theorem Model_unlike_6 (N : Nat) (a b : Int64) (M : sw_M) : ∀ (d j i : Nat), i + d = 64 → d < j → f_Model_unlike_6 N j a b (nI (pcK (v6 (a ^^^ b)) i)) (nI i) M = some (nI (pcK (v6 (a ^^^ b)) 64), M)
  | 0, j, i, hi, hj => by
    obtain ⟨j, rfl⟩ : ∃ k, j = k + 1 := ⟨j - 1, by omega⟩
    obtain rfl : i = 64 := by omega
    rw [f_Model_unlike_6, if_pos (show (64 : Int32) ≤ nI 64 by decide)]
  | d + 1, j, i, hi, hj => by
    obtain ⟨j, rfl⟩ : ∃ k, j = k + 1 := ⟨j - 1, by omega⟩
    have ih := Model_unlike_6 N a b M d j (i + 1) (by omega) (by omega)
    rw [pcK] at ih
    rw [f_Model_unlike_6, if_neg (show ¬ (64 : Int32) ≤ nI i from (nI_ge (by omega) (by omega) : ¬ nI 64 ≤ nI i)), bit6 a (by omega), bit6 b (by omega)]
    unfold f_Model_unlike_36
    have hx : (v6 (a ^^^ b)).testBit i = ((v6 a).testBit i ^^ (v6 b).testBit i) := by rw [v6_xor, Nat.testBit_xor]
    rw [Nat.testBit_eq_decide_div_mod_eq] at hx
    have h2 : v6 (a ^^^ b) / 2 ^ i % 2 < 2 := Nat.mod_lt _ (by decide)
    have key : (if (if (v6 a).testBit i = true then (1 : Int64) else 0) = (if (v6 b).testBit i = true then (1 : Int64) else 0) then f_Model_unlike_6 N j a b (nI (pcK (v6 (a ^^^ b)) i) + 0) (nI i + 1) M else f_Model_unlike_6 N j a b (nI (pcK (v6 (a ^^^ b)) i) + 1) (nI i + 1) M) = f_Model_unlike_6 N j a b (nI (pcK (v6 (a ^^^ b)) i + v6 (a ^^^ b) / 2 ^ i % 2)) (nI (i + 1)) M := by
      rw [nI_1, nI_1]
      cases ha : (v6 a).testBit i <;> cases hb : (v6 b).testBit i <;> rw [ha, hb] at hx <;> simp at hx <;> simp (decide := true) only [if_true, if_false, Bool.false_eq_true]
      · rw [show v6 (a ^^^ b) / 2 ^ i % 2 = 0 by omega]; rw [Int32.add_zero]; rfl
      · rw [hx]
      · rw [hx]
      · rw [show v6 (a ^^^ b) / 2 ^ i % 2 = 0 by omega]; rw [Int32.add_zero]; rfl
    exact key.trans ih
theorem Model_unlike (N : Nat) (hN : 300 ≤ N) (a b : Int64) (M : sw_M) : f_Model_unlike N a b M = some (nI (pcK (v6 (a ^^^ b)) 64), M) := Model_unlike_6 N a b M 64 N 0 (by omega) (by omega)
