/-! 53: the reference's PULL -/
def mrf : Nat → Nat
  | 1 => 81
  | 2 => 82
  | 3 => 83
  | 4 => 84
  | 5 => 85
  | 6 => 86
  | 7 => 87
  | 8 => 88
  | 9 => 89
  | 16 => 90
  | 17 => 91
  | 22 => 92
  | 34 => 93
  | 52 => 94
  | 53 => 95
  | 54 => 96
  | 55 => 97
  | 56 => 98
  | 57 => 99
  | 58 => 100
  | 59 => 101
  | 60 => 102
  | 61 => 103
  | 62 => 104
  | 63 => 105
  | 64 => 106
  | 65 => 107
  | 66 => 108
  | 67 => 109
  | 68 => 110
  | 69 => 111
  | 73 => 112
  | 74 => 113
  | 77 => 114
  | 78 => 115
  | 79 => 116
  | 80 => 117
  | 81 => 118
  | 82 => 119
  | 84 => 120
  | 85 => 121
  | 87 => 122
  | 88 => 123
  | 90 => 124
  | _ => 0
def MR (M : sw_M) : Prop := 124 ≤ rd_N M ∧ ∀ k, k < 91 → rd_R M 80 k = mrf k
theorem mr_1 {M : sw_M} (h : MR M) : rd_R M 80 1 = 81 := h.2 1 (by decide)
theorem mr_2 {M : sw_M} (h : MR M) : rd_R M 80 2 = 82 := h.2 2 (by decide)
theorem mr_3 {M : sw_M} (h : MR M) : rd_R M 80 3 = 83 := h.2 3 (by decide)
theorem mr_4 {M : sw_M} (h : MR M) : rd_R M 80 4 = 84 := h.2 4 (by decide)
theorem mr_5 {M : sw_M} (h : MR M) : rd_R M 80 5 = 85 := h.2 5 (by decide)
theorem mr_6 {M : sw_M} (h : MR M) : rd_R M 80 6 = 86 := h.2 6 (by decide)
theorem mr_7 {M : sw_M} (h : MR M) : rd_R M 80 7 = 87 := h.2 7 (by decide)
theorem mr_8 {M : sw_M} (h : MR M) : rd_R M 80 8 = 88 := h.2 8 (by decide)
theorem mr_9 {M : sw_M} (h : MR M) : rd_R M 80 9 = 89 := h.2 9 (by decide)
theorem mr_16 {M : sw_M} (h : MR M) : rd_R M 80 16 = 90 := h.2 16 (by decide)
theorem mr_17 {M : sw_M} (h : MR M) : rd_R M 80 17 = 91 := h.2 17 (by decide)
theorem mr_22 {M : sw_M} (h : MR M) : rd_R M 80 22 = 92 := h.2 22 (by decide)
theorem mr_34 {M : sw_M} (h : MR M) : rd_R M 80 34 = 93 := h.2 34 (by decide)
theorem mr_52 {M : sw_M} (h : MR M) : rd_R M 80 52 = 94 := h.2 52 (by decide)
theorem mr_53 {M : sw_M} (h : MR M) : rd_R M 80 53 = 95 := h.2 53 (by decide)
theorem mr_54 {M : sw_M} (h : MR M) : rd_R M 80 54 = 96 := h.2 54 (by decide)
theorem mr_55 {M : sw_M} (h : MR M) : rd_R M 80 55 = 97 := h.2 55 (by decide)
theorem mr_56 {M : sw_M} (h : MR M) : rd_R M 80 56 = 98 := h.2 56 (by decide)
theorem mr_57 {M : sw_M} (h : MR M) : rd_R M 80 57 = 99 := h.2 57 (by decide)
theorem mr_58 {M : sw_M} (h : MR M) : rd_R M 80 58 = 100 := h.2 58 (by decide)
theorem mr_59 {M : sw_M} (h : MR M) : rd_R M 80 59 = 101 := h.2 59 (by decide)
theorem mr_60 {M : sw_M} (h : MR M) : rd_R M 80 60 = 102 := h.2 60 (by decide)
theorem mr_61 {M : sw_M} (h : MR M) : rd_R M 80 61 = 103 := h.2 61 (by decide)
theorem mr_62 {M : sw_M} (h : MR M) : rd_R M 80 62 = 104 := h.2 62 (by decide)
theorem mr_63 {M : sw_M} (h : MR M) : rd_R M 80 63 = 105 := h.2 63 (by decide)
theorem mr_64 {M : sw_M} (h : MR M) : rd_R M 80 64 = 106 := h.2 64 (by decide)
theorem mr_65 {M : sw_M} (h : MR M) : rd_R M 80 65 = 107 := h.2 65 (by decide)
theorem mr_66 {M : sw_M} (h : MR M) : rd_R M 80 66 = 108 := h.2 66 (by decide)
theorem mr_67 {M : sw_M} (h : MR M) : rd_R M 80 67 = 109 := h.2 67 (by decide)
theorem mr_68 {M : sw_M} (h : MR M) : rd_R M 80 68 = 110 := h.2 68 (by decide)
theorem mr_69 {M : sw_M} (h : MR M) : rd_R M 80 69 = 111 := h.2 69 (by decide)
theorem mr_73 {M : sw_M} (h : MR M) : rd_R M 80 73 = 112 := h.2 73 (by decide)
theorem mr_74 {M : sw_M} (h : MR M) : rd_R M 80 74 = 113 := h.2 74 (by decide)
theorem mr_77 {M : sw_M} (h : MR M) : rd_R M 80 77 = 114 := h.2 77 (by decide)
theorem mr_78 {M : sw_M} (h : MR M) : rd_R M 80 78 = 115 := h.2 78 (by decide)
theorem mr_79 {M : sw_M} (h : MR M) : rd_R M 80 79 = 116 := h.2 79 (by decide)
theorem mr_80 {M : sw_M} (h : MR M) : rd_R M 80 80 = 117 := h.2 80 (by decide)
theorem mr_81 {M : sw_M} (h : MR M) : rd_R M 80 81 = 118 := h.2 81 (by decide)
theorem mr_82 {M : sw_M} (h : MR M) : rd_R M 80 82 = 119 := h.2 82 (by decide)
theorem mr_84 {M : sw_M} (h : MR M) : rd_R M 80 84 = 120 := h.2 84 (by decide)
theorem mr_85 {M : sw_M} (h : MR M) : rd_R M 80 85 = 121 := h.2 85 (by decide)
theorem mr_87 {M : sw_M} (h : MR M) : rd_R M 80 87 = 122 := h.2 87 (by decide)
theorem mr_88 {M : sw_M} (h : MR M) : rd_R M 80 88 = 123 := h.2 88 (by decide)
theorem mr_90 {M : sw_M} (h : MR M) : rd_R M 80 90 = 124 := h.2 90 (by decide)
def mpart (M : sw_M) (p : Nat) : PartS := (rd_I M 81 p, rd_I M 82 p, rd_I M 83 p, rd_I M 84 p, rd_I M 85 p, rd_I M 86 p, rd_I M 88 p, rd_I M 89 p, decide (nI p = rd_I M 80 13))
theorem mP_I (M : sw_M) (a b : Int64) (q k : Nat) : rd_I (mP M a b) q k = rd_I M q k := rfl
theorem mP_R (M : sw_M) (a b : Int64) (q k : Nat) : rd_R (mP M a b) q k = rd_R M q k := rfl
theorem mP_ok (M : sw_M) (a b : Int64) (q k : Nat) : sw_ok (mP M a b) q k = sw_ok M q k := rfl
theorem mP_ar (M : sw_M) (a b : Int64) (q k : Nat) (i : Int32) : sw_ar (mP M a b) q k i = sw_ar M q k i := rfl
theorem mP_w (M : sw_M) (a b c d : Int64) : wr_L (wr_L (mP M a b) 80 37 c) 80 38 d = mP M c d := mP_mP M a b c d
theorem mP_r (M : sw_M) (a b c : Int64) : rd_L (wr_L (mP M a b) 80 37 c) 80 38 = b := rfl
theorem sn64 (a b : Int64) : a - b = a + -b := Int64.sub_eq_add_neg a b
theorem gd_d {α : Type} {p : Prop} [Decidable p] (h : p) (A : Option α) : sw_gd [decide p] A = A := by rw [decide_eq_true h]; rfl
theorem Model_flat (N : Nat) (M : sw_M) (hM : MR M) (a b x y m s : Int64) (q : Int32) (h0 : 1 ≤ (((x * x) + (y * y)) + (s * s)).toInt) (h1 : 1 ≤ ((((x + y) * (x + y)) + ((y - x) * (y - x))) + (((2 : Int64) * s) * s)).toInt) :
    f_Model_flat N 80 x y m s q (mP M a b) = some (mP M (a + (dF x y m s q).1) (b + (dF x y m s q).2)) := by
  have k1 := ok_80 hM.1
  have d0 := ne0_of h0
  have d1 := ne0_of h1
  unfold f_Model_flat dF
  by_cases c0 : (q - q / (2 : Int32) * (2 : Int32)) = 0
  · rw [if_pos c0, if_pos c0]
    by_cases c2 : q = (2 : Int32)
    · simp only [c2, if_true, f_Model_flat_40, f_Model_flat_70, mP_ok, m_okL, k1, gd_T, gd_d d0, mP_a, mP_r, mP_w, sn64]
    · simp only [c2, if_false, f_Model_flat_40, f_Model_flat_70, mP_ok, m_okL, k1, gd_T, gd_d d0, mP_a, mP_r, mP_w, sn64]
  · rw [if_neg c0, if_neg c0]
    by_cases c2 : q = (3 : Int32)
    · simp only [c2, if_true, f_Model_flat_129, f_Model_flat_154, mP_ok, m_okL, k1, gd_T, gd_d d1, mP_a, mP_r, mP_w]
    · simp only [c2, if_false, f_Model_flat_129, f_Model_flat_154, mP_ok, m_okL, k1, gd_T, gd_d d1, mP_a, mP_r, mP_w]

