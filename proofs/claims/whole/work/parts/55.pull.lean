/-! 55: PULL on the other side -/
def hrf : Nat → Nat → Nat
  | 1, 0 => 2
  | 1, 2 => 3
  | 1, 3 => 17
  | 1, 4 => 32
  | 1, 6 => 33
  | 1, 7 => 36
  | 1, 8 => 42
  | 1, 9 => 68
  | 1, 10 => 78
  | 17, 0 => 2
  | 17, 1 => 18
  | 33, 0 => 3
  | 33, 1 => 34
  | 33, 2 => 35
  | 36, 0 => 37
  | 36, 1 => 38
  | 36, 2 => 39
  | 36, 3 => 40
  | 36, 4 => 41
  | 42, 0 => 33
  | 42, 1 => 36
  | 42, 2 => 43
  | 42, 3 => 44
  | 42, 5 => 45
  | 42, 6 => 56
  | 42, 7 => 67
  | 45, i => if i < 10 then 46 + i else 0
  | 56, i => if i < 10 then 57 + i else 0
  | 68, 0 => 3
  | 68, 1 => 33
  | 68, 2 => 36
  | 68, 3 => 42
  | 68, 4 => 69
  | 69, i => if i < 8 then 70 + i else 0
  | 78, 8 => 79
  | 5, 0 => 6
  | 5, 1 => 7
  | 5, 2 => 8
  | 20, 0 => 21
  | 20, 1 => 22
  | 20, 2 => 23
  | 4, i => if i < 8 then 9 + i else 0
  | 19, i => if i < 8 then 24 + i else 0
  | _, _ => 0
def HR (M : sw_M) : Prop := 124 ≤ rd_N M ∧ ((rd_R M 3 0 = 4 ∧ rd_R M 3 1 = 5 ∧ rd_R M 18 0 = 19 ∧ rd_R M 18 1 = 20) ∨ (rd_R M 3 0 = 19 ∧ rd_R M 3 1 = 20 ∧ rd_R M 18 0 = 4 ∧ rd_R M 18 1 = 5)) ∧ ∀ a k, hrf a k ≠ 0 → rd_R M a k = hrf a k
theorem hr_f {M : sw_M} (h : HR M) (a k c : Nat) (e : hrf a k = c) (hc : c ≠ 0) : rd_R M a k = c := by rw [← e]; exact h.2.2 a k (by rw [e]; exact hc)
/-- the cell of a PART of THE FIELD -/
def hpa (M : sw_M) (i : Nat) : Nat := rd_R M (rd_R M 3 0) i
theorem hpa_in {M : sw_M} (h : HR M) {i : Nat} (hi : i < 8) : (rd_R M 3 0 = 4 ∧ hpa M i = 9 + i) ∨ (rd_R M 3 0 = 19 ∧ hpa M i = 24 + i) := by
  rcases h.2.1 with e | e
  · refine Or.inl ⟨e.1, ?_⟩
    unfold hpa
    rw [e.1]
    exact hr_f h 4 i _ (if_pos hi) (by omega)
  · refine Or.inr ⟨e.1, ?_⟩
    unfold hpa
    rw [e.1]
    exact hr_f h 19 i _ (if_pos hi) (by omega)
theorem sh_part : ∀ i, i < 8 → sw_sh (9 + i) = some (5, 0) ∧ sw_sh (24 + i) = some (5, 0) := by decide
theorem hpa_ok {M : sw_M} (h : HR M) {i : Nat} (hi : i < 8) : sw_ok M (hpa M i) 5 = true := by
  have h1 := h.1
  rcases hpa_in h hi with e | e <;> rw [e.2]
  · exact c_ok (sh_part i hi).1 (by omega)
  · exact c_ok (sh_part i hi).2 (by omega)
def HPart (M : sw_M) (q : Nat) (P : PartS) : Prop := rd_I M q 0 = P.kind + 20 ∧ rd_I M q 1 = P.x ∧ rd_I M q 2 = P.y ∧ rd_I M q 3 = P.u ∧ rd_I M q 4 = P.v ∧ rd_I M q 5 = P.m ∧ rd_I M q 6 = P.s ∧ (P.kind = 3 → rd_I M q 7 = P.T) ∧ rd_I M q 8 = (if P.sp = true then 1 else 0)
def hP (M : sw_M) (a b : Int64) : sw_M := wr_L (wr_L M 3 6 a) 3 7 b
theorem hP_hP (M : sw_M) (a b c d : Int64) : hP (hP M a b) c d = hP M c d := by
  unfold hP wr_L
  simp only [Prod.mk.injEq, true_and, and_true]
  rw [up_2c (up_2 M.2.1 3 6 a) 3 7 3 6 b c (by decide), up_22, up_22]
theorem hP_a (M : sw_M) (a b : Int64) : rd_L (hP M a b) 3 6 = a := rfl
theorem hP_b (M : sw_M) (a b : Int64) : rd_L (hP M a b) 3 7 = b := rfl
theorem hP_I (M : sw_M) (a b : Int64) (q k : Nat) : rd_I (hP M a b) q k = rd_I M q k := rfl
theorem hP_R (M : sw_M) (a b : Int64) (q k : Nat) : rd_R (hP M a b) q k = rd_R M q k := rfl
theorem hP_ok (M : sw_M) (a b : Int64) (q k : Nat) : sw_ok (hP M a b) q k = sw_ok M q k := rfl
theorem hP_oka (M : sw_M) (a b : Int64) (q : Nat) : sw_oka (hP M a b) q = sw_oka M q := rfl
theorem hP_ar (M : sw_M) (a b : Int64) (q k : Nat) (i : Int32) : sw_ar (hP M a b) q k i = sw_ar M q k i := rfl
theorem hP_w (M : sw_M) (a b c d : Int64) : wr_L (wr_L (hP M a b) 3 6 c) 3 7 d = hP M c d := hP_hP M a b c d
theorem hP_r (M : sw_M) (a b c : Int64) : rd_L (wr_L (hP M a b) 3 6 c) 3 7 = b := rfl
theorem Part_addDrawn (N : Nat) (M : sw_M) (hM : HR M) (a b c e d : Int64) (hd : 1 ≤ d.toInt) : f_Part_addDrawn N 3 c e d (hP M a b) = some (hP M (a + -(c / d)) (b + -(e / d))) := by
  unfold f_Part_addDrawn
  rw [if_pos (ge1_of hd), hP_ok, ok_3 hM.1, gd_T, gd_d (ne0_of hd), hP_a, hP_r, hP_w, sn64, sn64]
