/-! 50: what is read behind what was written; the fixed cells -/
theorem m_II (M : sw_M) (q k a j : Nat) (v : Int32) : rd_I (wr_I M q k v) a j = if a = q ∧ j = k then v else rd_I M a j := by
  show (if a = q then (if j = k then v else M.1 a j) else M.1 a j) = _
  by_cases h1 : a = q <;> by_cases h2 : j = k <;> simp [h1, h2, rd_I]
theorem m_LL (M : sw_M) (q k a j : Nat) (v : Int64) : rd_L (wr_L M q k v) a j = if a = q ∧ j = k then v else rd_L M a j := by
  show (if a = q then (if j = k then v else M.2.1 a j) else M.2.1 a j) = _
  by_cases h1 : a = q <;> by_cases h2 : j = k <;> simp [h1, h2, rd_L]
theorem m_RR (M : sw_M) (q k a j : Nat) (v : Nat) : rd_R (wr_R M q k v) a j = if a = q ∧ j = k then v else rd_R M a j := by
  show (if a = q then (if j = k then v else M.2.2.1 a j) else M.2.2.1 a j) = _
  by_cases h1 : a = q <;> by_cases h2 : j = k <;> simp [h1, h2, rd_R]
theorem m_IL (M : sw_M) (q k a j : Nat) (v : Int64) : rd_I (wr_L M q k v) a j = rd_I M a j := rfl
theorem m_IR (M : sw_M) (q k a j : Nat) (v : Nat) : rd_I (wr_R M q k v) a j = rd_I M a j := rfl
theorem m_LI (M : sw_M) (q k a j : Nat) (v : Int32) : rd_L (wr_I M q k v) a j = rd_L M a j := rfl
theorem m_LR (M : sw_M) (q k a j : Nat) (v : Nat) : rd_L (wr_R M q k v) a j = rd_L M a j := rfl
theorem m_RI (M : sw_M) (q k a j : Nat) (v : Int32) : rd_R (wr_I M q k v) a j = rd_R M a j := rfl
theorem m_RL (M : sw_M) (q k a j : Nat) (v : Int64) : rd_R (wr_L M q k v) a j = rd_R M a j := rfl
theorem m_NI (M : sw_M) (q k : Nat) (v : Int32) : rd_N (wr_I M q k v) = rd_N M := rfl
theorem m_okI (M : sw_M) (q k : Nat) (v : Int32) (a kd : Nat) : sw_ok (wr_I M q k v) a kd = sw_ok M a kd := rfl
theorem m_okaI (M : sw_M) (q k : Nat) (v : Int32) (a : Nat) : sw_oka (wr_I M q k v) a = sw_oka M a := rfl
theorem m_arI (M : sw_M) (q k : Nat) (v : Int32) (a kd : Nat) (i : Int32) : sw_ar (wr_I M q k v) a kd i = sw_ar M a kd i := rfl
theorem m_NL (M : sw_M) (q k : Nat) (v : Int64) : rd_N (wr_L M q k v) = rd_N M := rfl
theorem m_okL (M : sw_M) (q k : Nat) (v : Int64) (a kd : Nat) : sw_ok (wr_L M q k v) a kd = sw_ok M a kd := rfl
theorem m_okaL (M : sw_M) (q k : Nat) (v : Int64) (a : Nat) : sw_oka (wr_L M q k v) a = sw_oka M a := rfl
theorem m_arL (M : sw_M) (q k : Nat) (v : Int64) (a kd : Nat) (i : Int32) : sw_ar (wr_L M q k v) a kd i = sw_ar M a kd i := rfl
theorem m_NR (M : sw_M) (q k : Nat) (v : Nat) : rd_N (wr_R M q k v) = rd_N M := rfl
theorem m_okR (M : sw_M) (q k : Nat) (v : Nat) (a kd : Nat) : sw_ok (wr_R M q k v) a kd = sw_ok M a kd := rfl
theorem m_okaR (M : sw_M) (q k : Nat) (v : Nat) (a : Nat) : sw_oka (wr_R M q k v) a = sw_oka M a := rfl
theorem m_arR (M : sw_M) (q k : Nat) (v : Nat) (a kd : Nat) (i : Int32) : sw_ar (wr_R M q k v) a kd i = sw_ar M a kd i := rfl
theorem gd_T {α : Type} (A : Option α) : sw_gd [true] A = A := rfl
theorem bn_S {α β : Type} (a : α) (F : α → Option β) : (some a).bind F = F a := rfl
theorem lt_n (n : Nat) : (OfNat.ofNat n : Int32) = nI n := rfl
theorem c_ok {M : sw_M} {q kd n : Nat} (hs : sw_sh q = some (kd, n)) (hn : q ≤ rd_N M) : sw_ok M q kd = true := by
  unfold sw_ok
  rw [hs]
  simp [hn]
theorem c_oka {M : sw_M} {q kd n : Nat} (hs : sw_sh q = some (kd, n)) (h13 : 13 ≤ kd) (hn : q ≤ rd_N M) : sw_oka M q = true := by
  unfold sw_oka
  rw [hs]
  simp [hn, h13]
theorem c_ar {M : sw_M} {q kd n : Nat} (hs : sw_sh q = some (kd, n)) (hn : q ≤ rd_N M) (i : Int32) : sw_ar M q kd i = sw_ti i n := by
  unfold sw_ar sw_ti
  rw [hs]
  simp [hn]
theorem c_arn {M : sw_M} {q kd n kd' : Nat} (hs : sw_sh q = some (kd, n)) (hk : Nat.beq kd kd' = false) (i : Int32) : sw_ar M q kd' i = false := by
  unfold sw_ar
  rw [hs]
  simp only [hk, Bool.false_and]
theorem c_len {q kd n : Nat} (hs : sw_sh q = some (kd, n)) : sw_len q = n := by
  unfold sw_len
  rw [hs]
theorem ti_n {n N : Nat} (h : n < N) (hN : N < 2 ^ 31) : sw_ti (nI n) N = true := decide_eq_true (nI_in h hN)
theorem cl_n {n : Nat} (h : n < 2 ^ 31) : (nI n).toNatClampNeg = n := nI_clamp h
theorem ok_1 {M : sw_M} (h : 124 ≤ rd_N M) : sw_ok M 1 11 = true := c_ok rfl (Nat.le_trans (by decide) h)
theorem ar_2 {M : sw_M} (h : 124 ≤ rd_N M) (i : Int32) : sw_ar M 2 14 i = sw_ti i 500 := c_ar rfl (Nat.le_trans (by decide) h) i
theorem oa_2 {M : sw_M} (h : 124 ≤ rd_N M) : sw_oka M 2 = true := c_oka rfl (by decide) (Nat.le_trans (by decide) h)
theorem ln_2 : sw_len 2 = 500 := rfl
theorem an_2_15 (M : sw_M) (i : Int32) : sw_ar M 2 15 i = false := c_arn rfl rfl i
theorem ok_3 {M : sw_M} (h : 124 ≤ rd_N M) : sw_ok M 3 0 = true := c_ok rfl (Nat.le_trans (by decide) h)
theorem ar_4 {M : sw_M} (h : 124 ≤ rd_N M) (i : Int32) : sw_ar M 4 18 i = sw_ti i 8 := c_ar rfl (Nat.le_trans (by decide) h) i
theorem oa_4 {M : sw_M} (h : 124 ≤ rd_N M) : sw_oka M 4 = true := c_oka rfl (by decide) (Nat.le_trans (by decide) h)
theorem ln_4 : sw_len 4 = 8 := rfl
theorem an_4_17 (M : sw_M) (i : Int32) : sw_ar M 4 17 i = false := c_arn rfl rfl i
theorem an_4_19 (M : sw_M) (i : Int32) : sw_ar M 4 19 i = false := c_arn rfl rfl i
theorem ok_5 {M : sw_M} (h : 124 ≤ rd_N M) : sw_ok M 5 7 = true := c_ok rfl (Nat.le_trans (by decide) h)
theorem ar_6 {M : sw_M} (h : 124 ≤ rd_N M) (i : Int32) : sw_ar M 6 13 i = sw_ti i 48 := c_ar rfl (Nat.le_trans (by decide) h) i
theorem oa_6 {M : sw_M} (h : 124 ≤ rd_N M) : sw_oka M 6 = true := c_oka rfl (by decide) (Nat.le_trans (by decide) h)
theorem ln_6 : sw_len 6 = 48 := rfl
theorem ar_7 {M : sw_M} (h : 124 ≤ rd_N M) (i : Int32) : sw_ar M 7 13 i = sw_ti i 48 := c_ar rfl (Nat.le_trans (by decide) h) i
theorem oa_7 {M : sw_M} (h : 124 ≤ rd_N M) : sw_oka M 7 = true := c_oka rfl (by decide) (Nat.le_trans (by decide) h)
theorem ln_7 : sw_len 7 = 48 := rfl
theorem ar_8 {M : sw_M} (h : 124 ≤ rd_N M) (i : Int32) : sw_ar M 8 16 i = sw_ti i 48 := c_ar rfl (Nat.le_trans (by decide) h) i
theorem oa_8 {M : sw_M} (h : 124 ≤ rd_N M) : sw_oka M 8 = true := c_oka rfl (by decide) (Nat.le_trans (by decide) h)
theorem ln_8 : sw_len 8 = 48 := rfl
theorem ok_9 {M : sw_M} (h : 124 ≤ rd_N M) : sw_ok M 9 5 = true := c_ok rfl (Nat.le_trans (by decide) h)
theorem ok_10 {M : sw_M} (h : 124 ≤ rd_N M) : sw_ok M 10 5 = true := c_ok rfl (Nat.le_trans (by decide) h)
theorem ok_11 {M : sw_M} (h : 124 ≤ rd_N M) : sw_ok M 11 5 = true := c_ok rfl (Nat.le_trans (by decide) h)
theorem ok_12 {M : sw_M} (h : 124 ≤ rd_N M) : sw_ok M 12 5 = true := c_ok rfl (Nat.le_trans (by decide) h)
theorem ok_13 {M : sw_M} (h : 124 ≤ rd_N M) : sw_ok M 13 5 = true := c_ok rfl (Nat.le_trans (by decide) h)
theorem ok_14 {M : sw_M} (h : 124 ≤ rd_N M) : sw_ok M 14 5 = true := c_ok rfl (Nat.le_trans (by decide) h)
theorem ok_15 {M : sw_M} (h : 124 ≤ rd_N M) : sw_ok M 15 5 = true := c_ok rfl (Nat.le_trans (by decide) h)
theorem ok_16 {M : sw_M} (h : 124 ≤ rd_N M) : sw_ok M 16 5 = true := c_ok rfl (Nat.le_trans (by decide) h)
theorem ok_17 {M : sw_M} (h : 124 ≤ rd_N M) : sw_ok M 17 6 = true := c_ok rfl (Nat.le_trans (by decide) h)
theorem ok_18 {M : sw_M} (h : 124 ≤ rd_N M) : sw_ok M 18 0 = true := c_ok rfl (Nat.le_trans (by decide) h)
theorem ar_19 {M : sw_M} (h : 124 ≤ rd_N M) (i : Int32) : sw_ar M 19 18 i = sw_ti i 8 := c_ar rfl (Nat.le_trans (by decide) h) i
theorem oa_19 {M : sw_M} (h : 124 ≤ rd_N M) : sw_oka M 19 = true := c_oka rfl (by decide) (Nat.le_trans (by decide) h)
theorem ln_19 : sw_len 19 = 8 := rfl
theorem an_19_17 (M : sw_M) (i : Int32) : sw_ar M 19 17 i = false := c_arn rfl rfl i
theorem an_19_19 (M : sw_M) (i : Int32) : sw_ar M 19 19 i = false := c_arn rfl rfl i
theorem ok_20 {M : sw_M} (h : 124 ≤ rd_N M) : sw_ok M 20 7 = true := c_ok rfl (Nat.le_trans (by decide) h)
theorem ar_21 {M : sw_M} (h : 124 ≤ rd_N M) (i : Int32) : sw_ar M 21 13 i = sw_ti i 48 := c_ar rfl (Nat.le_trans (by decide) h) i
theorem oa_21 {M : sw_M} (h : 124 ≤ rd_N M) : sw_oka M 21 = true := c_oka rfl (by decide) (Nat.le_trans (by decide) h)
theorem ln_21 : sw_len 21 = 48 := rfl
theorem ar_22 {M : sw_M} (h : 124 ≤ rd_N M) (i : Int32) : sw_ar M 22 13 i = sw_ti i 48 := c_ar rfl (Nat.le_trans (by decide) h) i
theorem oa_22 {M : sw_M} (h : 124 ≤ rd_N M) : sw_oka M 22 = true := c_oka rfl (by decide) (Nat.le_trans (by decide) h)
theorem ln_22 : sw_len 22 = 48 := rfl
theorem ar_23 {M : sw_M} (h : 124 ≤ rd_N M) (i : Int32) : sw_ar M 23 16 i = sw_ti i 48 := c_ar rfl (Nat.le_trans (by decide) h) i
theorem oa_23 {M : sw_M} (h : 124 ≤ rd_N M) : sw_oka M 23 = true := c_oka rfl (by decide) (Nat.le_trans (by decide) h)
theorem ln_23 : sw_len 23 = 48 := rfl
theorem ok_24 {M : sw_M} (h : 124 ≤ rd_N M) : sw_ok M 24 5 = true := c_ok rfl (Nat.le_trans (by decide) h)
theorem ok_25 {M : sw_M} (h : 124 ≤ rd_N M) : sw_ok M 25 5 = true := c_ok rfl (Nat.le_trans (by decide) h)
theorem ok_26 {M : sw_M} (h : 124 ≤ rd_N M) : sw_ok M 26 5 = true := c_ok rfl (Nat.le_trans (by decide) h)
theorem ok_27 {M : sw_M} (h : 124 ≤ rd_N M) : sw_ok M 27 5 = true := c_ok rfl (Nat.le_trans (by decide) h)
theorem ok_28 {M : sw_M} (h : 124 ≤ rd_N M) : sw_ok M 28 5 = true := c_ok rfl (Nat.le_trans (by decide) h)
theorem ok_29 {M : sw_M} (h : 124 ≤ rd_N M) : sw_ok M 29 5 = true := c_ok rfl (Nat.le_trans (by decide) h)
theorem ok_30 {M : sw_M} (h : 124 ≤ rd_N M) : sw_ok M 30 5 = true := c_ok rfl (Nat.le_trans (by decide) h)
theorem ok_31 {M : sw_M} (h : 124 ≤ rd_N M) : sw_ok M 31 5 = true := c_ok rfl (Nat.le_trans (by decide) h)
theorem ok_32 {M : sw_M} (h : 124 ≤ rd_N M) : sw_ok M 32 8 = true := c_ok rfl (Nat.le_trans (by decide) h)
theorem ok_33 {M : sw_M} (h : 124 ≤ rd_N M) : sw_ok M 33 10 = true := c_ok rfl (Nat.le_trans (by decide) h)
theorem ar_34 {M : sw_M} (h : 124 ≤ rd_N M) (i : Int32) : sw_ar M 34 17 i = sw_ti i 6 := c_ar rfl (Nat.le_trans (by decide) h) i
theorem oa_34 {M : sw_M} (h : 124 ≤ rd_N M) : sw_oka M 34 = true := c_oka rfl (by decide) (Nat.le_trans (by decide) h)
theorem ln_34 : sw_len 34 = 6 := rfl
theorem an_34_18 (M : sw_M) (i : Int32) : sw_ar M 34 18 i = false := c_arn rfl rfl i
theorem an_34_19 (M : sw_M) (i : Int32) : sw_ar M 34 19 i = false := c_arn rfl rfl i
theorem ok_35 {M : sw_M} (h : 124 ≤ rd_N M) : sw_ok M 35 8 = true := c_ok rfl (Nat.le_trans (by decide) h)
theorem ok_36 {M : sw_M} (h : 124 ≤ rd_N M) : sw_ok M 36 3 = true := c_ok rfl (Nat.le_trans (by decide) h)
theorem ar_37 {M : sw_M} (h : 124 ≤ rd_N M) (i : Int32) : sw_ar M 37 13 i = sw_ti i 10 := c_ar rfl (Nat.le_trans (by decide) h) i
theorem oa_37 {M : sw_M} (h : 124 ≤ rd_N M) : sw_oka M 37 = true := c_oka rfl (by decide) (Nat.le_trans (by decide) h)
theorem ln_37 : sw_len 37 = 10 := rfl
theorem ar_38 {M : sw_M} (h : 124 ≤ rd_N M) (i : Int32) : sw_ar M 38 13 i = sw_ti i 10 := c_ar rfl (Nat.le_trans (by decide) h) i
theorem oa_38 {M : sw_M} (h : 124 ≤ rd_N M) : sw_oka M 38 = true := c_oka rfl (by decide) (Nat.le_trans (by decide) h)
theorem ln_38 : sw_len 38 = 10 := rfl
theorem ar_39 {M : sw_M} (h : 124 ≤ rd_N M) (i : Int32) : sw_ar M 39 13 i = sw_ti i 10 := c_ar rfl (Nat.le_trans (by decide) h) i
theorem oa_39 {M : sw_M} (h : 124 ≤ rd_N M) : sw_oka M 39 = true := c_oka rfl (by decide) (Nat.le_trans (by decide) h)
theorem ln_39 : sw_len 39 = 10 := rfl
theorem ar_40 {M : sw_M} (h : 124 ≤ rd_N M) (i : Int32) : sw_ar M 40 13 i = sw_ti i 10 := c_ar rfl (Nat.le_trans (by decide) h) i
theorem oa_40 {M : sw_M} (h : 124 ≤ rd_N M) : sw_oka M 40 = true := c_oka rfl (by decide) (Nat.le_trans (by decide) h)
theorem ln_40 : sw_len 40 = 10 := rfl
theorem ar_41 {M : sw_M} (h : 124 ≤ rd_N M) (i : Int32) : sw_ar M 41 15 i = sw_ti i 10 := c_ar rfl (Nat.le_trans (by decide) h) i
theorem oa_41 {M : sw_M} (h : 124 ≤ rd_N M) : sw_oka M 41 = true := c_oka rfl (by decide) (Nat.le_trans (by decide) h)
theorem ln_41 : sw_len 41 = 10 := rfl
theorem an_41_14 (M : sw_M) (i : Int32) : sw_ar M 41 14 i = false := c_arn rfl rfl i
theorem ok_42 {M : sw_M} (h : 124 ≤ rd_N M) : sw_ok M 42 1 = true := c_ok rfl (Nat.le_trans (by decide) h)
theorem ar_43 {M : sw_M} (h : 124 ≤ rd_N M) (i : Int32) : sw_ar M 43 13 i = sw_ti i 6 := c_ar rfl (Nat.le_trans (by decide) h) i
theorem oa_43 {M : sw_M} (h : 124 ≤ rd_N M) : sw_oka M 43 = true := c_oka rfl (by decide) (Nat.le_trans (by decide) h)
theorem ln_43 : sw_len 43 = 6 := rfl
theorem ar_44 {M : sw_M} (h : 124 ≤ rd_N M) (i : Int32) : sw_ar M 44 13 i = sw_ti i 6 := c_ar rfl (Nat.le_trans (by decide) h) i
theorem oa_44 {M : sw_M} (h : 124 ≤ rd_N M) : sw_oka M 44 = true := c_oka rfl (by decide) (Nat.le_trans (by decide) h)
theorem ln_44 : sw_len 44 = 6 := rfl
theorem ar_45 {M : sw_M} (h : 124 ≤ rd_N M) (i : Int32) : sw_ar M 45 19 i = sw_ti i 10 := c_ar rfl (Nat.le_trans (by decide) h) i
theorem oa_45 {M : sw_M} (h : 124 ≤ rd_N M) : sw_oka M 45 = true := c_oka rfl (by decide) (Nat.le_trans (by decide) h)
theorem ln_45 : sw_len 45 = 10 := rfl
theorem an_45_17 (M : sw_M) (i : Int32) : sw_ar M 45 17 i = false := c_arn rfl rfl i
theorem an_45_18 (M : sw_M) (i : Int32) : sw_ar M 45 18 i = false := c_arn rfl rfl i
theorem ar_46 {M : sw_M} (h : 124 ≤ rd_N M) (i : Int32) : sw_ar M 46 13 i = sw_ti i 6 := c_ar rfl (Nat.le_trans (by decide) h) i
theorem oa_46 {M : sw_M} (h : 124 ≤ rd_N M) : sw_oka M 46 = true := c_oka rfl (by decide) (Nat.le_trans (by decide) h)
theorem ln_46 : sw_len 46 = 6 := rfl
theorem ar_47 {M : sw_M} (h : 124 ≤ rd_N M) (i : Int32) : sw_ar M 47 13 i = sw_ti i 6 := c_ar rfl (Nat.le_trans (by decide) h) i
theorem oa_47 {M : sw_M} (h : 124 ≤ rd_N M) : sw_oka M 47 = true := c_oka rfl (by decide) (Nat.le_trans (by decide) h)
theorem ln_47 : sw_len 47 = 6 := rfl
theorem ar_48 {M : sw_M} (h : 124 ≤ rd_N M) (i : Int32) : sw_ar M 48 13 i = sw_ti i 6 := c_ar rfl (Nat.le_trans (by decide) h) i
theorem oa_48 {M : sw_M} (h : 124 ≤ rd_N M) : sw_oka M 48 = true := c_oka rfl (by decide) (Nat.le_trans (by decide) h)
theorem ln_48 : sw_len 48 = 6 := rfl
theorem ar_49 {M : sw_M} (h : 124 ≤ rd_N M) (i : Int32) : sw_ar M 49 13 i = sw_ti i 6 := c_ar rfl (Nat.le_trans (by decide) h) i
theorem oa_49 {M : sw_M} (h : 124 ≤ rd_N M) : sw_oka M 49 = true := c_oka rfl (by decide) (Nat.le_trans (by decide) h)
theorem ln_49 : sw_len 49 = 6 := rfl
theorem ar_50 {M : sw_M} (h : 124 ≤ rd_N M) (i : Int32) : sw_ar M 50 13 i = sw_ti i 6 := c_ar rfl (Nat.le_trans (by decide) h) i
theorem oa_50 {M : sw_M} (h : 124 ≤ rd_N M) : sw_oka M 50 = true := c_oka rfl (by decide) (Nat.le_trans (by decide) h)
theorem ln_50 : sw_len 50 = 6 := rfl
theorem ar_51 {M : sw_M} (h : 124 ≤ rd_N M) (i : Int32) : sw_ar M 51 13 i = sw_ti i 6 := c_ar rfl (Nat.le_trans (by decide) h) i
theorem oa_51 {M : sw_M} (h : 124 ≤ rd_N M) : sw_oka M 51 = true := c_oka rfl (by decide) (Nat.le_trans (by decide) h)
theorem ln_51 : sw_len 51 = 6 := rfl
theorem ar_52 {M : sw_M} (h : 124 ≤ rd_N M) (i : Int32) : sw_ar M 52 13 i = sw_ti i 6 := c_ar rfl (Nat.le_trans (by decide) h) i
theorem oa_52 {M : sw_M} (h : 124 ≤ rd_N M) : sw_oka M 52 = true := c_oka rfl (by decide) (Nat.le_trans (by decide) h)
theorem ln_52 : sw_len 52 = 6 := rfl
theorem ar_53 {M : sw_M} (h : 124 ≤ rd_N M) (i : Int32) : sw_ar M 53 13 i = sw_ti i 6 := c_ar rfl (Nat.le_trans (by decide) h) i
theorem oa_53 {M : sw_M} (h : 124 ≤ rd_N M) : sw_oka M 53 = true := c_oka rfl (by decide) (Nat.le_trans (by decide) h)
theorem ln_53 : sw_len 53 = 6 := rfl
theorem ar_54 {M : sw_M} (h : 124 ≤ rd_N M) (i : Int32) : sw_ar M 54 13 i = sw_ti i 6 := c_ar rfl (Nat.le_trans (by decide) h) i
theorem oa_54 {M : sw_M} (h : 124 ≤ rd_N M) : sw_oka M 54 = true := c_oka rfl (by decide) (Nat.le_trans (by decide) h)
theorem ln_54 : sw_len 54 = 6 := rfl
theorem ar_55 {M : sw_M} (h : 124 ≤ rd_N M) (i : Int32) : sw_ar M 55 13 i = sw_ti i 6 := c_ar rfl (Nat.le_trans (by decide) h) i
theorem oa_55 {M : sw_M} (h : 124 ≤ rd_N M) : sw_oka M 55 = true := c_oka rfl (by decide) (Nat.le_trans (by decide) h)
theorem ln_55 : sw_len 55 = 6 := rfl
theorem ar_56 {M : sw_M} (h : 124 ≤ rd_N M) (i : Int32) : sw_ar M 56 19 i = sw_ti i 10 := c_ar rfl (Nat.le_trans (by decide) h) i
theorem oa_56 {M : sw_M} (h : 124 ≤ rd_N M) : sw_oka M 56 = true := c_oka rfl (by decide) (Nat.le_trans (by decide) h)
theorem ln_56 : sw_len 56 = 10 := rfl
theorem an_56_17 (M : sw_M) (i : Int32) : sw_ar M 56 17 i = false := c_arn rfl rfl i
theorem an_56_18 (M : sw_M) (i : Int32) : sw_ar M 56 18 i = false := c_arn rfl rfl i
theorem ar_57 {M : sw_M} (h : 124 ≤ rd_N M) (i : Int32) : sw_ar M 57 13 i = sw_ti i 6 := c_ar rfl (Nat.le_trans (by decide) h) i
theorem oa_57 {M : sw_M} (h : 124 ≤ rd_N M) : sw_oka M 57 = true := c_oka rfl (by decide) (Nat.le_trans (by decide) h)
theorem ln_57 : sw_len 57 = 6 := rfl
theorem ar_58 {M : sw_M} (h : 124 ≤ rd_N M) (i : Int32) : sw_ar M 58 13 i = sw_ti i 6 := c_ar rfl (Nat.le_trans (by decide) h) i
theorem oa_58 {M : sw_M} (h : 124 ≤ rd_N M) : sw_oka M 58 = true := c_oka rfl (by decide) (Nat.le_trans (by decide) h)
theorem ln_58 : sw_len 58 = 6 := rfl
theorem ar_59 {M : sw_M} (h : 124 ≤ rd_N M) (i : Int32) : sw_ar M 59 13 i = sw_ti i 6 := c_ar rfl (Nat.le_trans (by decide) h) i
theorem oa_59 {M : sw_M} (h : 124 ≤ rd_N M) : sw_oka M 59 = true := c_oka rfl (by decide) (Nat.le_trans (by decide) h)
theorem ln_59 : sw_len 59 = 6 := rfl
theorem ar_60 {M : sw_M} (h : 124 ≤ rd_N M) (i : Int32) : sw_ar M 60 13 i = sw_ti i 6 := c_ar rfl (Nat.le_trans (by decide) h) i
theorem oa_60 {M : sw_M} (h : 124 ≤ rd_N M) : sw_oka M 60 = true := c_oka rfl (by decide) (Nat.le_trans (by decide) h)
theorem ln_60 : sw_len 60 = 6 := rfl
theorem ar_61 {M : sw_M} (h : 124 ≤ rd_N M) (i : Int32) : sw_ar M 61 13 i = sw_ti i 6 := c_ar rfl (Nat.le_trans (by decide) h) i
theorem oa_61 {M : sw_M} (h : 124 ≤ rd_N M) : sw_oka M 61 = true := c_oka rfl (by decide) (Nat.le_trans (by decide) h)
theorem ln_61 : sw_len 61 = 6 := rfl
theorem ar_62 {M : sw_M} (h : 124 ≤ rd_N M) (i : Int32) : sw_ar M 62 13 i = sw_ti i 6 := c_ar rfl (Nat.le_trans (by decide) h) i
theorem oa_62 {M : sw_M} (h : 124 ≤ rd_N M) : sw_oka M 62 = true := c_oka rfl (by decide) (Nat.le_trans (by decide) h)
theorem ln_62 : sw_len 62 = 6 := rfl
theorem ar_63 {M : sw_M} (h : 124 ≤ rd_N M) (i : Int32) : sw_ar M 63 13 i = sw_ti i 6 := c_ar rfl (Nat.le_trans (by decide) h) i
theorem oa_63 {M : sw_M} (h : 124 ≤ rd_N M) : sw_oka M 63 = true := c_oka rfl (by decide) (Nat.le_trans (by decide) h)
theorem ln_63 : sw_len 63 = 6 := rfl
theorem ar_64 {M : sw_M} (h : 124 ≤ rd_N M) (i : Int32) : sw_ar M 64 13 i = sw_ti i 6 := c_ar rfl (Nat.le_trans (by decide) h) i
theorem oa_64 {M : sw_M} (h : 124 ≤ rd_N M) : sw_oka M 64 = true := c_oka rfl (by decide) (Nat.le_trans (by decide) h)
theorem ln_64 : sw_len 64 = 6 := rfl
theorem ar_65 {M : sw_M} (h : 124 ≤ rd_N M) (i : Int32) : sw_ar M 65 13 i = sw_ti i 6 := c_ar rfl (Nat.le_trans (by decide) h) i
theorem oa_65 {M : sw_M} (h : 124 ≤ rd_N M) : sw_oka M 65 = true := c_oka rfl (by decide) (Nat.le_trans (by decide) h)
theorem ln_65 : sw_len 65 = 6 := rfl
theorem ar_66 {M : sw_M} (h : 124 ≤ rd_N M) (i : Int32) : sw_ar M 66 13 i = sw_ti i 6 := c_ar rfl (Nat.le_trans (by decide) h) i
theorem oa_66 {M : sw_M} (h : 124 ≤ rd_N M) : sw_oka M 66 = true := c_oka rfl (by decide) (Nat.le_trans (by decide) h)
theorem ln_66 : sw_len 66 = 6 := rfl
theorem ar_67 {M : sw_M} (h : 124 ≤ rd_N M) (i : Int32) : sw_ar M 67 15 i = sw_ti i 1024 := c_ar rfl (Nat.le_trans (by decide) h) i
theorem oa_67 {M : sw_M} (h : 124 ≤ rd_N M) : sw_oka M 67 = true := c_oka rfl (by decide) (Nat.le_trans (by decide) h)
theorem ln_67 : sw_len 67 = 1024 := rfl
theorem an_67_14 (M : sw_M) (i : Int32) : sw_ar M 67 14 i = false := c_arn rfl rfl i
theorem ok_68 {M : sw_M} (h : 124 ≤ rd_N M) : sw_ok M 68 2 = true := c_ok rfl (Nat.le_trans (by decide) h)
theorem ar_69 {M : sw_M} (h : 124 ≤ rd_N M) (i : Int32) : sw_ar M 69 19 i = sw_ti i 8 := c_ar rfl (Nat.le_trans (by decide) h) i
theorem oa_69 {M : sw_M} (h : 124 ≤ rd_N M) : sw_oka M 69 = true := c_oka rfl (by decide) (Nat.le_trans (by decide) h)
theorem ln_69 : sw_len 69 = 8 := rfl
theorem an_69_17 (M : sw_M) (i : Int32) : sw_ar M 69 17 i = false := c_arn rfl rfl i
theorem an_69_18 (M : sw_M) (i : Int32) : sw_ar M 69 18 i = false := c_arn rfl rfl i
theorem ar_70 {M : sw_M} (h : 124 ≤ rd_N M) (i : Int32) : sw_ar M 70 13 i = sw_ti i 64 := c_ar rfl (Nat.le_trans (by decide) h) i
theorem oa_70 {M : sw_M} (h : 124 ≤ rd_N M) : sw_oka M 70 = true := c_oka rfl (by decide) (Nat.le_trans (by decide) h)
theorem ln_70 : sw_len 70 = 64 := rfl
theorem ar_71 {M : sw_M} (h : 124 ≤ rd_N M) (i : Int32) : sw_ar M 71 13 i = sw_ti i 64 := c_ar rfl (Nat.le_trans (by decide) h) i
theorem oa_71 {M : sw_M} (h : 124 ≤ rd_N M) : sw_oka M 71 = true := c_oka rfl (by decide) (Nat.le_trans (by decide) h)
theorem ln_71 : sw_len 71 = 64 := rfl
theorem ar_72 {M : sw_M} (h : 124 ≤ rd_N M) (i : Int32) : sw_ar M 72 13 i = sw_ti i 64 := c_ar rfl (Nat.le_trans (by decide) h) i
theorem oa_72 {M : sw_M} (h : 124 ≤ rd_N M) : sw_oka M 72 = true := c_oka rfl (by decide) (Nat.le_trans (by decide) h)
theorem ln_72 : sw_len 72 = 64 := rfl
theorem ar_73 {M : sw_M} (h : 124 ≤ rd_N M) (i : Int32) : sw_ar M 73 13 i = sw_ti i 64 := c_ar rfl (Nat.le_trans (by decide) h) i
theorem oa_73 {M : sw_M} (h : 124 ≤ rd_N M) : sw_oka M 73 = true := c_oka rfl (by decide) (Nat.le_trans (by decide) h)
theorem ln_73 : sw_len 73 = 64 := rfl
theorem ar_74 {M : sw_M} (h : 124 ≤ rd_N M) (i : Int32) : sw_ar M 74 13 i = sw_ti i 64 := c_ar rfl (Nat.le_trans (by decide) h) i
theorem oa_74 {M : sw_M} (h : 124 ≤ rd_N M) : sw_oka M 74 = true := c_oka rfl (by decide) (Nat.le_trans (by decide) h)
theorem ln_74 : sw_len 74 = 64 := rfl
theorem ar_75 {M : sw_M} (h : 124 ≤ rd_N M) (i : Int32) : sw_ar M 75 13 i = sw_ti i 64 := c_ar rfl (Nat.le_trans (by decide) h) i
theorem oa_75 {M : sw_M} (h : 124 ≤ rd_N M) : sw_oka M 75 = true := c_oka rfl (by decide) (Nat.le_trans (by decide) h)
theorem ln_75 : sw_len 75 = 64 := rfl
theorem ar_76 {M : sw_M} (h : 124 ≤ rd_N M) (i : Int32) : sw_ar M 76 13 i = sw_ti i 64 := c_ar rfl (Nat.le_trans (by decide) h) i
theorem oa_76 {M : sw_M} (h : 124 ≤ rd_N M) : sw_oka M 76 = true := c_oka rfl (by decide) (Nat.le_trans (by decide) h)
theorem ln_76 : sw_len 76 = 64 := rfl
theorem ar_77 {M : sw_M} (h : 124 ≤ rd_N M) (i : Int32) : sw_ar M 77 13 i = sw_ti i 64 := c_ar rfl (Nat.le_trans (by decide) h) i
theorem oa_77 {M : sw_M} (h : 124 ≤ rd_N M) : sw_oka M 77 = true := c_oka rfl (by decide) (Nat.le_trans (by decide) h)
theorem ln_77 : sw_len 77 = 64 := rfl
theorem ok_78 {M : sw_M} (h : 124 ≤ rd_N M) : sw_ok M 78 9 = true := c_ok rfl (Nat.le_trans (by decide) h)
theorem ok_79 {M : sw_M} (h : 124 ≤ rd_N M) : sw_ok M 79 8 = true := c_ok rfl (Nat.le_trans (by decide) h)
theorem ok_80 {M : sw_M} (h : 124 ≤ rd_N M) : sw_ok M 80 12 = true := c_ok rfl (Nat.le_trans (by decide) h)
theorem ar_81 {M : sw_M} (h : 124 ≤ rd_N M) (i : Int32) : sw_ar M 81 13 i = sw_ti i 16 := c_ar rfl (Nat.le_trans (by decide) h) i
theorem oa_81 {M : sw_M} (h : 124 ≤ rd_N M) : sw_oka M 81 = true := c_oka rfl (by decide) (Nat.le_trans (by decide) h)
theorem ln_81 : sw_len 81 = 16 := rfl
theorem ar_82 {M : sw_M} (h : 124 ≤ rd_N M) (i : Int32) : sw_ar M 82 13 i = sw_ti i 16 := c_ar rfl (Nat.le_trans (by decide) h) i
theorem oa_82 {M : sw_M} (h : 124 ≤ rd_N M) : sw_oka M 82 = true := c_oka rfl (by decide) (Nat.le_trans (by decide) h)
theorem ln_82 : sw_len 82 = 16 := rfl
theorem ar_83 {M : sw_M} (h : 124 ≤ rd_N M) (i : Int32) : sw_ar M 83 13 i = sw_ti i 16 := c_ar rfl (Nat.le_trans (by decide) h) i
theorem oa_83 {M : sw_M} (h : 124 ≤ rd_N M) : sw_oka M 83 = true := c_oka rfl (by decide) (Nat.le_trans (by decide) h)
theorem ln_83 : sw_len 83 = 16 := rfl
theorem ar_84 {M : sw_M} (h : 124 ≤ rd_N M) (i : Int32) : sw_ar M 84 13 i = sw_ti i 16 := c_ar rfl (Nat.le_trans (by decide) h) i
theorem oa_84 {M : sw_M} (h : 124 ≤ rd_N M) : sw_oka M 84 = true := c_oka rfl (by decide) (Nat.le_trans (by decide) h)
theorem ln_84 : sw_len 84 = 16 := rfl
theorem ar_85 {M : sw_M} (h : 124 ≤ rd_N M) (i : Int32) : sw_ar M 85 13 i = sw_ti i 16 := c_ar rfl (Nat.le_trans (by decide) h) i
theorem oa_85 {M : sw_M} (h : 124 ≤ rd_N M) : sw_oka M 85 = true := c_oka rfl (by decide) (Nat.le_trans (by decide) h)
theorem ln_85 : sw_len 85 = 16 := rfl
theorem ar_86 {M : sw_M} (h : 124 ≤ rd_N M) (i : Int32) : sw_ar M 86 13 i = sw_ti i 16 := c_ar rfl (Nat.le_trans (by decide) h) i
theorem oa_86 {M : sw_M} (h : 124 ≤ rd_N M) : sw_oka M 86 = true := c_oka rfl (by decide) (Nat.le_trans (by decide) h)
theorem ln_86 : sw_len 86 = 16 := rfl
theorem ar_87 {M : sw_M} (h : 124 ≤ rd_N M) (i : Int32) : sw_ar M 87 13 i = sw_ti i 16 := c_ar rfl (Nat.le_trans (by decide) h) i
theorem oa_87 {M : sw_M} (h : 124 ≤ rd_N M) : sw_oka M 87 = true := c_oka rfl (by decide) (Nat.le_trans (by decide) h)
theorem ln_87 : sw_len 87 = 16 := rfl
theorem ar_88 {M : sw_M} (h : 124 ≤ rd_N M) (i : Int32) : sw_ar M 88 13 i = sw_ti i 16 := c_ar rfl (Nat.le_trans (by decide) h) i
theorem oa_88 {M : sw_M} (h : 124 ≤ rd_N M) : sw_oka M 88 = true := c_oka rfl (by decide) (Nat.le_trans (by decide) h)
theorem ln_88 : sw_len 88 = 16 := rfl
theorem ar_89 {M : sw_M} (h : 124 ≤ rd_N M) (i : Int32) : sw_ar M 89 13 i = sw_ti i 16 := c_ar rfl (Nat.le_trans (by decide) h) i
theorem oa_89 {M : sw_M} (h : 124 ≤ rd_N M) : sw_oka M 89 = true := c_oka rfl (by decide) (Nat.le_trans (by decide) h)
theorem ln_89 : sw_len 89 = 16 := rfl
theorem ar_90 {M : sw_M} (h : 124 ≤ rd_N M) (i : Int32) : sw_ar M 90 13 i = sw_ti i 96 := c_ar rfl (Nat.le_trans (by decide) h) i
theorem oa_90 {M : sw_M} (h : 124 ≤ rd_N M) : sw_oka M 90 = true := c_oka rfl (by decide) (Nat.le_trans (by decide) h)
theorem ln_90 : sw_len 90 = 96 := rfl
theorem ar_91 {M : sw_M} (h : 124 ≤ rd_N M) (i : Int32) : sw_ar M 91 13 i = sw_ti i 96 := c_ar rfl (Nat.le_trans (by decide) h) i
theorem oa_91 {M : sw_M} (h : 124 ≤ rd_N M) : sw_oka M 91 = true := c_oka rfl (by decide) (Nat.le_trans (by decide) h)
theorem ln_91 : sw_len 91 = 96 := rfl
theorem ar_92 {M : sw_M} (h : 124 ≤ rd_N M) (i : Int32) : sw_ar M 92 13 i = sw_ti i 500 := c_ar rfl (Nat.le_trans (by decide) h) i
theorem oa_92 {M : sw_M} (h : 124 ≤ rd_N M) : sw_oka M 92 = true := c_oka rfl (by decide) (Nat.le_trans (by decide) h)
theorem ln_92 : sw_len 92 = 500 := rfl
theorem ar_93 {M : sw_M} (h : 124 ≤ rd_N M) (i : Int32) : sw_ar M 93 13 i = sw_ti i 64 := c_ar rfl (Nat.le_trans (by decide) h) i
theorem oa_93 {M : sw_M} (h : 124 ≤ rd_N M) : sw_oka M 93 = true := c_oka rfl (by decide) (Nat.le_trans (by decide) h)
theorem ln_93 : sw_len 93 = 64 := rfl
theorem ar_94 {M : sw_M} (h : 124 ≤ rd_N M) (i : Int32) : sw_ar M 94 13 i = sw_ti i 6 := c_ar rfl (Nat.le_trans (by decide) h) i
theorem oa_94 {M : sw_M} (h : 124 ≤ rd_N M) : sw_oka M 94 = true := c_oka rfl (by decide) (Nat.le_trans (by decide) h)
theorem ln_94 : sw_len 94 = 6 := rfl
theorem ar_95 {M : sw_M} (h : 124 ≤ rd_N M) (i : Int32) : sw_ar M 95 13 i = sw_ti i 6 := c_ar rfl (Nat.le_trans (by decide) h) i
theorem oa_95 {M : sw_M} (h : 124 ≤ rd_N M) : sw_oka M 95 = true := c_oka rfl (by decide) (Nat.le_trans (by decide) h)
theorem ln_95 : sw_len 95 = 6 := rfl
theorem ar_96 {M : sw_M} (h : 124 ≤ rd_N M) (i : Int32) : sw_ar M 96 13 i = sw_ti i 6 := c_ar rfl (Nat.le_trans (by decide) h) i
theorem oa_96 {M : sw_M} (h : 124 ≤ rd_N M) : sw_oka M 96 = true := c_oka rfl (by decide) (Nat.le_trans (by decide) h)
theorem ln_96 : sw_len 96 = 6 := rfl
theorem ar_97 {M : sw_M} (h : 124 ≤ rd_N M) (i : Int32) : sw_ar M 97 13 i = sw_ti i 6 := c_ar rfl (Nat.le_trans (by decide) h) i
theorem oa_97 {M : sw_M} (h : 124 ≤ rd_N M) : sw_oka M 97 = true := c_oka rfl (by decide) (Nat.le_trans (by decide) h)
theorem ln_97 : sw_len 97 = 6 := rfl
theorem ar_98 {M : sw_M} (h : 124 ≤ rd_N M) (i : Int32) : sw_ar M 98 13 i = sw_ti i 1446 := c_ar rfl (Nat.le_trans (by decide) h) i
theorem oa_98 {M : sw_M} (h : 124 ≤ rd_N M) : sw_oka M 98 = true := c_oka rfl (by decide) (Nat.le_trans (by decide) h)
theorem ln_98 : sw_len 98 = 1446 := rfl
theorem ar_99 {M : sw_M} (h : 124 ≤ rd_N M) (i : Int32) : sw_ar M 99 13 i = sw_ti i 1446 := c_ar rfl (Nat.le_trans (by decide) h) i
theorem oa_99 {M : sw_M} (h : 124 ≤ rd_N M) : sw_oka M 99 = true := c_oka rfl (by decide) (Nat.le_trans (by decide) h)
theorem ln_99 : sw_len 99 = 1446 := rfl
theorem ar_100 {M : sw_M} (h : 124 ≤ rd_N M) (i : Int32) : sw_ar M 100 13 i = sw_ti i 1446 := c_ar rfl (Nat.le_trans (by decide) h) i
theorem oa_100 {M : sw_M} (h : 124 ≤ rd_N M) : sw_oka M 100 = true := c_oka rfl (by decide) (Nat.le_trans (by decide) h)
theorem ln_100 : sw_len 100 = 1446 := rfl
theorem ar_101 {M : sw_M} (h : 124 ≤ rd_N M) (i : Int32) : sw_ar M 101 13 i = sw_ti i 1446 := c_ar rfl (Nat.le_trans (by decide) h) i
theorem oa_101 {M : sw_M} (h : 124 ≤ rd_N M) : sw_oka M 101 = true := c_oka rfl (by decide) (Nat.le_trans (by decide) h)
theorem ln_101 : sw_len 101 = 1446 := rfl
theorem ar_102 {M : sw_M} (h : 124 ≤ rd_N M) (i : Int32) : sw_ar M 102 13 i = sw_ti i 6 := c_ar rfl (Nat.le_trans (by decide) h) i
theorem oa_102 {M : sw_M} (h : 124 ≤ rd_N M) : sw_oka M 102 = true := c_oka rfl (by decide) (Nat.le_trans (by decide) h)
theorem ln_102 : sw_len 102 = 6 := rfl
theorem ar_103 {M : sw_M} (h : 124 ≤ rd_N M) (i : Int32) : sw_ar M 103 15 i = sw_ti i 6 := c_ar rfl (Nat.le_trans (by decide) h) i
theorem oa_103 {M : sw_M} (h : 124 ≤ rd_N M) : sw_oka M 103 = true := c_oka rfl (by decide) (Nat.le_trans (by decide) h)
theorem ln_103 : sw_len 103 = 6 := rfl
theorem an_103_14 (M : sw_M) (i : Int32) : sw_ar M 103 14 i = false := c_arn rfl rfl i
theorem ar_104 {M : sw_M} (h : 124 ≤ rd_N M) (i : Int32) : sw_ar M 104 13 i = sw_ti i 6 := c_ar rfl (Nat.le_trans (by decide) h) i
theorem oa_104 {M : sw_M} (h : 124 ≤ rd_N M) : sw_oka M 104 = true := c_oka rfl (by decide) (Nat.le_trans (by decide) h)
theorem ln_104 : sw_len 104 = 6 := rfl
theorem ar_105 {M : sw_M} (h : 124 ≤ rd_N M) (i : Int32) : sw_ar M 105 16 i = sw_ti i 6 := c_ar rfl (Nat.le_trans (by decide) h) i
theorem oa_105 {M : sw_M} (h : 124 ≤ rd_N M) : sw_oka M 105 = true := c_oka rfl (by decide) (Nat.le_trans (by decide) h)
theorem ln_105 : sw_len 105 = 6 := rfl
theorem ar_106 {M : sw_M} (h : 124 ≤ rd_N M) (i : Int32) : sw_ar M 106 16 i = sw_ti i 6 := c_ar rfl (Nat.le_trans (by decide) h) i
theorem oa_106 {M : sw_M} (h : 124 ≤ rd_N M) : sw_oka M 106 = true := c_oka rfl (by decide) (Nat.le_trans (by decide) h)
theorem ln_106 : sw_len 106 = 6 := rfl
theorem ar_107 {M : sw_M} (h : 124 ≤ rd_N M) (i : Int32) : sw_ar M 107 16 i = sw_ti i 6 := c_ar rfl (Nat.le_trans (by decide) h) i
theorem oa_107 {M : sw_M} (h : 124 ≤ rd_N M) : sw_oka M 107 = true := c_oka rfl (by decide) (Nat.le_trans (by decide) h)
theorem ln_107 : sw_len 107 = 6 := rfl
theorem ar_108 {M : sw_M} (h : 124 ≤ rd_N M) (i : Int32) : sw_ar M 108 13 i = sw_ti i 6 := c_ar rfl (Nat.le_trans (by decide) h) i
theorem oa_108 {M : sw_M} (h : 124 ≤ rd_N M) : sw_oka M 108 = true := c_oka rfl (by decide) (Nat.le_trans (by decide) h)
theorem ln_108 : sw_len 108 = 6 := rfl
theorem ar_109 {M : sw_M} (h : 124 ≤ rd_N M) (i : Int32) : sw_ar M 109 13 i = sw_ti i 6 := c_ar rfl (Nat.le_trans (by decide) h) i
theorem oa_109 {M : sw_M} (h : 124 ≤ rd_N M) : sw_oka M 109 = true := c_oka rfl (by decide) (Nat.le_trans (by decide) h)
theorem ln_109 : sw_len 109 = 6 := rfl
theorem ar_110 {M : sw_M} (h : 124 ≤ rd_N M) (i : Int32) : sw_ar M 110 15 i = sw_ti i 6 := c_ar rfl (Nat.le_trans (by decide) h) i
theorem oa_110 {M : sw_M} (h : 124 ≤ rd_N M) : sw_oka M 110 = true := c_oka rfl (by decide) (Nat.le_trans (by decide) h)
theorem ln_110 : sw_len 110 = 6 := rfl
theorem an_110_14 (M : sw_M) (i : Int32) : sw_ar M 110 14 i = false := c_arn rfl rfl i
theorem ar_111 {M : sw_M} (h : 124 ≤ rd_N M) (i : Int32) : sw_ar M 111 16 i = sw_ti i 64 := c_ar rfl (Nat.le_trans (by decide) h) i
theorem oa_111 {M : sw_M} (h : 124 ≤ rd_N M) : sw_oka M 111 = true := c_oka rfl (by decide) (Nat.le_trans (by decide) h)
theorem ln_111 : sw_len 111 = 64 := rfl
theorem ar_112 {M : sw_M} (h : 124 ≤ rd_N M) (i : Int32) : sw_ar M 112 13 i = sw_ti i 384 := c_ar rfl (Nat.le_trans (by decide) h) i
theorem oa_112 {M : sw_M} (h : 124 ≤ rd_N M) : sw_oka M 112 = true := c_oka rfl (by decide) (Nat.le_trans (by decide) h)
theorem ln_112 : sw_len 112 = 384 := rfl
theorem ar_113 {M : sw_M} (h : 124 ≤ rd_N M) (i : Int32) : sw_ar M 113 13 i = sw_ti i 384 := c_ar rfl (Nat.le_trans (by decide) h) i
theorem oa_113 {M : sw_M} (h : 124 ≤ rd_N M) : sw_oka M 113 = true := c_oka rfl (by decide) (Nat.le_trans (by decide) h)
theorem ln_113 : sw_len 113 = 384 := rfl
theorem ar_114 {M : sw_M} (h : 124 ≤ rd_N M) (i : Int32) : sw_ar M 114 15 i = sw_ti i 10 := c_ar rfl (Nat.le_trans (by decide) h) i
theorem oa_114 {M : sw_M} (h : 124 ≤ rd_N M) : sw_oka M 114 = true := c_oka rfl (by decide) (Nat.le_trans (by decide) h)
theorem ln_114 : sw_len 114 = 10 := rfl
theorem an_114_14 (M : sw_M) (i : Int32) : sw_ar M 114 14 i = false := c_arn rfl rfl i
theorem ar_115 {M : sw_M} (h : 124 ≤ rd_N M) (i : Int32) : sw_ar M 115 13 i = sw_ti i 10 := c_ar rfl (Nat.le_trans (by decide) h) i
theorem oa_115 {M : sw_M} (h : 124 ≤ rd_N M) : sw_oka M 115 = true := c_oka rfl (by decide) (Nat.le_trans (by decide) h)
theorem ln_115 : sw_len 115 = 10 := rfl
theorem ar_116 {M : sw_M} (h : 124 ≤ rd_N M) (i : Int32) : sw_ar M 116 13 i = sw_ti i 10 := c_ar rfl (Nat.le_trans (by decide) h) i
theorem oa_116 {M : sw_M} (h : 124 ≤ rd_N M) : sw_oka M 116 = true := c_oka rfl (by decide) (Nat.le_trans (by decide) h)
theorem ln_116 : sw_len 116 = 10 := rfl
theorem ar_117 {M : sw_M} (h : 124 ≤ rd_N M) (i : Int32) : sw_ar M 117 13 i = sw_ti i 10 := c_ar rfl (Nat.le_trans (by decide) h) i
theorem oa_117 {M : sw_M} (h : 124 ≤ rd_N M) : sw_oka M 117 = true := c_oka rfl (by decide) (Nat.le_trans (by decide) h)
theorem ln_117 : sw_len 117 = 10 := rfl
theorem ar_118 {M : sw_M} (h : 124 ≤ rd_N M) (i : Int32) : sw_ar M 118 13 i = sw_ti i 10 := c_ar rfl (Nat.le_trans (by decide) h) i
theorem oa_118 {M : sw_M} (h : 124 ≤ rd_N M) : sw_oka M 118 = true := c_oka rfl (by decide) (Nat.le_trans (by decide) h)
theorem ln_118 : sw_len 118 = 10 := rfl
theorem ar_119 {M : sw_M} (h : 124 ≤ rd_N M) (i : Int32) : sw_ar M 119 15 i = sw_ti i 10 := c_ar rfl (Nat.le_trans (by decide) h) i
theorem oa_119 {M : sw_M} (h : 124 ≤ rd_N M) : sw_oka M 119 = true := c_oka rfl (by decide) (Nat.le_trans (by decide) h)
theorem ln_119 : sw_len 119 = 10 := rfl
theorem an_119_14 (M : sw_M) (i : Int32) : sw_ar M 119 14 i = false := c_arn rfl rfl i
theorem ar_120 {M : sw_M} (h : 124 ≤ rd_N M) (i : Int32) : sw_ar M 120 13 i = sw_ti i 6 := c_ar rfl (Nat.le_trans (by decide) h) i
theorem oa_120 {M : sw_M} (h : 124 ≤ rd_N M) : sw_oka M 120 = true := c_oka rfl (by decide) (Nat.le_trans (by decide) h)
theorem ln_120 : sw_len 120 = 6 := rfl
theorem ar_121 {M : sw_M} (h : 124 ≤ rd_N M) (i : Int32) : sw_ar M 121 13 i = sw_ti i 6 := c_ar rfl (Nat.le_trans (by decide) h) i
theorem oa_121 {M : sw_M} (h : 124 ≤ rd_N M) : sw_oka M 121 = true := c_oka rfl (by decide) (Nat.le_trans (by decide) h)
theorem ln_121 : sw_len 121 = 6 := rfl
theorem ar_122 {M : sw_M} (h : 124 ≤ rd_N M) (i : Int32) : sw_ar M 122 15 i = sw_ti i 1024 := c_ar rfl (Nat.le_trans (by decide) h) i
theorem oa_122 {M : sw_M} (h : 124 ≤ rd_N M) : sw_oka M 122 = true := c_oka rfl (by decide) (Nat.le_trans (by decide) h)
theorem ln_122 : sw_len 122 = 1024 := rfl
theorem an_122_14 (M : sw_M) (i : Int32) : sw_ar M 122 14 i = false := c_arn rfl rfl i
theorem ar_123 {M : sw_M} (h : 124 ≤ rd_N M) (i : Int32) : sw_ar M 123 13 i = sw_ti i 512 := c_ar rfl (Nat.le_trans (by decide) h) i
theorem oa_123 {M : sw_M} (h : 124 ≤ rd_N M) : sw_oka M 123 = true := c_oka rfl (by decide) (Nat.le_trans (by decide) h)
theorem ln_123 : sw_len 123 = 512 := rfl
theorem ar_124 {M : sw_M} (h : 124 ≤ rd_N M) (i : Int32) : sw_ar M 124 13 i = sw_ti i 10 := c_ar rfl (Nat.le_trans (by decide) h) i
theorem oa_124 {M : sw_M} (h : 124 ≤ rd_N M) : sw_oka M 124 = true := c_oka rfl (by decide) (Nat.le_trans (by decide) h)
theorem ln_124 : sw_len 124 = 10 := rfl
