/-! printed by program: functions of methods, and that the bytes compute them -/
def f_Model_tells_346 (N : Nat) (b0 : Int32) (b1 : Nat) (M : sw_M) : Option (sw_M) :=
  sw_gd [sw_ar M b1 13 b0] (some (wr_I M b1 b0.toNatClampNeg (0 : Int32)))
set_option maxRecDepth 10000 in
theorem t_Model_tells_346 {g : sw_G} {d n0 : Nat} (hd : 2 ≤ d) {r : sw_M} {N : Nat} {b0 : Int32} {b1 : Nat} {M : sw_M} (hf : f_Model_tells_346 N b0 b1 M = some r) : sw_F g k_Model_tells d n0 none r 346 [] [.int b0, .ref b1] M := by
  unfold f_Model_tells_346 at hf
  refine sf_blk [(.iconst (0), 0, 0, .int (0 : Int32))] (lv' := []) (st' := [.int (0 : Int32), .int b0, .ref b1]) (M1 := M) (ob := []) (pc' := 347) (by decide +kernel) rfl rfl sw_a0 ?_
  refine sf_goto (off := 21) (tgt := 368) (by decide +kernel) (by decide) ?_
  obtain ⟨h1, hf⟩ := sw_gd_1 hf
  refine sf_blk [(.iastore, 0, 0, .null)] (lv' := []) (st' := []) (M1 := (wr_I M b1 b0.toNatClampNeg (0 : Int32))) (ob := [sw_ar M b1 13 b0]) (pc' := 369) (by decide +kernel) rfl rfl (sw_a1 h1 sw_a0) ?_
  cases hf
  exact sf_void rfl (by decide +kernel)
def f_Model_tells_295 (N : Nat) (k25 : Nat → Int32 → Int64 → Int64 → Int32 → Int32 → sw_M → Option (sw_M)) (a0 : Nat) (a1 : Int32) (a2 : Int64) (a4 : Int64) (a7 : Int32) (a17 : Int32) (M : sw_M) : Option (sw_M) :=
  k25 a0 a1 a2 a4 a17 (a7 + (1 : Int32)) M
set_option maxRecDepth 10000 in
theorem t_Model_tells_295 {g : sw_G} {d n0 : Nat} (hd : 2 ≤ d) {r : sw_M} (k25 : Nat → Int32 → Int64 → Int64 → Int32 → Int32 → sw_M → Option (sw_M)) (hk25 : ∀ (a0 : Nat) (a1 : Int32) (a2 : Int64) (a4 : Int64) (a6 : Int32) (a7 : Int32) (M : sw_M), k25 a0 a1 a2 a4 a6 a7 M = some r → sw_F g k_Model_tells d n0 none r 25 [(0, .ref a0), (1, .int a1), (2, .long a2), (4, .long a4), (6, .int a6), (7, .int a7)] [] M) {N : Nat} {a0 : Nat} {a1 : Int32} {a2 : Int64} {a4 : Int64} {a7 : Int32} {a17 : Int32} {M : sw_M} (hf : f_Model_tells_295 N k25 a0 a1 a2 a4 a7 a17 M = some r) : sw_F g k_Model_tells d n0 none r 295 [(0, .ref a0), (1, .int a1), (2, .long a2), (4, .long a4), (7, .int a7), (17, .int a17)] [] M := by
  unfold f_Model_tells_295 at hf
  refine sf_blk [(.iload 17, 0, 0, .null), (.istore 6, 0, 0, .null), (.iinc 7 (1), 0, 0, .int (1 : Int32))] (lv' := [(7, .int (a7 + (1 : Int32))), (6, .int a17), (0, .ref a0), (1, .int a1), (2, .long a2), (4, .long a4), (17, .int a17)]) (st' := []) (M1 := M) (ob := []) (pc' := 302) (by decide +kernel) rfl rfl sw_a0 ?_
  refine sf_goto (off := -277) (tgt := 25) (by decide +kernel) (by decide) ?_
  exact sf_weak [2, 3, 4, 5, 1, 0] rfl (hk25 _ _ _ _ _ _ _ hf)
def f_Model_tells_261 (N : Nat) (k25 : Nat → Int32 → Int64 → Int64 → Int32 → Int32 → sw_M → Option (sw_M)) (a0 : Nat) (a1 : Int32) (a2 : Int64) (a4 : Int64) (a7 : Int32) (a8 : Int32) (a11 : Int64) (a17 : Int32) (M : sw_M) : Option (sw_M) :=
  if a7 ≤ 0 then f_Model_tells_295 N k25 a0 a1 a2 a4 a7 a17 M
  else sw_gd [sw_ok M a0 12] (sw_gd [sw_ar M (rd_R M a0 57) 13 (a8 - (1 : Int32))] (if 0 ≤ (rd_I M (rd_R M a0 57) (a8 - (1 : Int32)).toNatClampNeg) then f_Model_tells_295 N k25 a0 a1 a2 a4 a7 a17 M
  else if a11 < (0 : Int64) then f_Model_tells_295 N k25 a0 a1 a2 a4 a7 a17 M
  else sw_gd [sw_ar M (rd_R M a0 67) 13 a1] (f_Model_tells_295 N k25 a0 a1 a2 a4 a7 a17 (wr_I M (rd_R M a0 67) a1.toNatClampNeg ((rd_I M (rd_R M a0 67) a1.toNatClampNeg) + (1 : Int32))))))
set_option maxRecDepth 10000 in
theorem t_Model_tells_261 {g : sw_G} {d n0 : Nat} (hd : 2 ≤ d) {r : sw_M} (k25 : Nat → Int32 → Int64 → Int64 → Int32 → Int32 → sw_M → Option (sw_M)) (hk25 : ∀ (a0 : Nat) (a1 : Int32) (a2 : Int64) (a4 : Int64) (a6 : Int32) (a7 : Int32) (M : sw_M), k25 a0 a1 a2 a4 a6 a7 M = some r → sw_F g k_Model_tells d n0 none r 25 [(0, .ref a0), (1, .int a1), (2, .long a2), (4, .long a4), (6, .int a6), (7, .int a7)] [] M) {N : Nat} {a0 : Nat} {a1 : Int32} {a2 : Int64} {a4 : Int64} {a7 : Int32} {a8 : Int32} {a11 : Int64} {a17 : Int32} {M : sw_M} (hf : f_Model_tells_261 N k25 a0 a1 a2 a4 a7 a8 a11 a17 M = some r) : sw_F g k_Model_tells d n0 none r 261 [(0, .ref a0), (1, .int a1), (2, .long a2), (4, .long a4), (7, .int a7), (8, .int a8), (11, .long a11), (17, .int a17)] [] M := by
  unfold f_Model_tells_261 at hf
  refine sf_blk [(.iload 7, 0, 0, .null)] (lv' := [(0, .ref a0), (1, .int a1), (2, .long a2), (4, .long a4), (7, .int a7), (8, .int a8), (11, .long a11), (17, .int a17)]) (st' := [.int a7]) (M1 := M) (ob := []) (pc' := 263) (by decide +kernel) rfl rfl sw_a0 ?_
  refine sf_z_le (off := 32) (tgt := 295) (by decide +kernel) (by decide) hf (fun hc hf => ?_) (fun hc hf => ?_)
  · exact sf_weak [0, 1, 2, 3, 4, 7] rfl (t_Model_tells_295 hd _ hk25 hf)
  · obtain ⟨h1, hf⟩ := sw_gd_1 hf
    obtain ⟨h2, hf⟩ := sw_gd_1 hf
    refine sf_blk [(.aload_n 0, 0, 0, .null), (.getfield 74, 12, 57, .null), (.iload 8, 0, 0, .null), (.iconst (1), 0, 0, .int (1 : Int32)), (.isub, 0, 0, .null), (.iaload, 0, 0, .null)] (lv' := [(0, .ref a0), (1, .int a1), (2, .long a2), (4, .long a4), (7, .int a7), (8, .int a8), (11, .long a11), (17, .int a17)]) (st' := [.int (rd_I M (rd_R M a0 57) (a8 - (1 : Int32)).toNatClampNeg)]) (M1 := M) (ob := [sw_ok M a0 12, sw_ar M (rd_R M a0 57) 13 (a8 - (1 : Int32))]) (pc' := 275) (by decide +kernel) rfl rfl (sw_a1 h1 (sw_a1 h2 sw_a0)) ?_
    refine sf_z_ge (off := 20) (tgt := 295) (by decide +kernel) (by decide) hf (fun hc hf => ?_) (fun hc hf => ?_)
    · exact sf_weak [0, 1, 2, 3, 4, 7] rfl (t_Model_tells_295 hd _ hk25 hf)
    · refine sf_blk [(.lload 11, 0, 0, .null), (.lconst 0, 0, 0, .long (0 : Int64)), (.lcmp, 0, 0, .null)] (lv' := [(0, .ref a0), (1, .int a1), (2, .long a2), (4, .long a4), (7, .int a7), (8, .int a8), (11, .long a11), (17, .int a17)]) (st' := [.int (lg_cmp a11 (0 : Int64))]) (M1 := M) (ob := []) (pc' := 282) (by decide +kernel) rfl rfl sw_a0 ?_
      refine sf_l_lt (off := 13) (tgt := 295) (by decide +kernel) (by decide) hf (fun hc hf => ?_) (fun hc hf => ?_)
      · exact sf_weak [0, 1, 2, 3, 4, 7] rfl (t_Model_tells_295 hd _ hk25 hf)
      · obtain ⟨h3, hf⟩ := sw_gd_1 hf
        refine sf_blk [(.aload_n 0, 0, 0, .null), (.getfield 106, 12, 67, .null), (.iload_n 1, 0, 0, .null), (.dup2, 0, 0, .null), (.iaload, 0, 0, .null), (.iconst (1), 0, 0, .int (1 : Int32)), (.iadd, 0, 0, .null), (.iastore, 0, 0, .null)] (lv' := [(0, .ref a0), (1, .int a1), (2, .long a2), (4, .long a4), (7, .int a7), (8, .int a8), (11, .long a11), (17, .int a17)]) (st' := []) (M1 := (wr_I M (rd_R M a0 67) a1.toNatClampNeg ((rd_I M (rd_R M a0 67) a1.toNatClampNeg) + (1 : Int32)))) (ob := [sw_ok M a0 12, sw_ar M (rd_R M a0 67) 13 a1, sw_ar M (rd_R M a0 67) 13 a1]) (pc' := 295) (by decide +kernel) rfl rfl (sw_a1 h1 (sw_a1 h3 (sw_a1 h3 sw_a0))) ?_
        exact sf_weak [0, 1, 2, 3, 4, 7] rfl (t_Model_tells_295 hd _ hk25 hf)
def f_Model_tells_233 (N : Nat) (k25 : Nat → Int32 → Int64 → Int64 → Int32 → Int32 → sw_M → Option (sw_M)) (a0 : Nat) (a1 : Int32) (a2 : Int64) (a4 : Int64) (a6 : Int32) (a7 : Int32) (a8 : Int32) (a11 : Int64) (a17 : Int32) (M : sw_M) : Option (sw_M) :=
  if a7 ≤ 0 then f_Model_tells_261 N k25 a0 a1 a2 a4 a7 a8 a11 a17 M
  else if (((a17 - a6) + (4 : Int32)) - ((a17 - a6) + (4 : Int32)) / (4 : Int32) * (4 : Int32)) = (3 : Int32) then sw_gd [sw_ok M a0 12] (sw_gd [sw_ar M (rd_R M a0 66) 13 a1] (f_Model_tells_261 N k25 a0 a1 a2 a4 a7 a8 a11 a17 (wr_I M (rd_R M a0 66) a1.toNatClampNeg ((rd_I M (rd_R M a0 66) a1.toNatClampNeg) - (1 : Int32)))))
  else f_Model_tells_261 N k25 a0 a1 a2 a4 a7 a8 a11 a17 M
set_option maxRecDepth 10000 in
theorem t_Model_tells_233 {g : sw_G} {d n0 : Nat} (hd : 2 ≤ d) {r : sw_M} (k25 : Nat → Int32 → Int64 → Int64 → Int32 → Int32 → sw_M → Option (sw_M)) (hk25 : ∀ (a0 : Nat) (a1 : Int32) (a2 : Int64) (a4 : Int64) (a6 : Int32) (a7 : Int32) (M : sw_M), k25 a0 a1 a2 a4 a6 a7 M = some r → sw_F g k_Model_tells d n0 none r 25 [(0, .ref a0), (1, .int a1), (2, .long a2), (4, .long a4), (6, .int a6), (7, .int a7)] [] M) {N : Nat} {a0 : Nat} {a1 : Int32} {a2 : Int64} {a4 : Int64} {a6 : Int32} {a7 : Int32} {a8 : Int32} {a11 : Int64} {a17 : Int32} {M : sw_M} (hf : f_Model_tells_233 N k25 a0 a1 a2 a4 a6 a7 a8 a11 a17 M = some r) : sw_F g k_Model_tells d n0 none r 233 [(0, .ref a0), (1, .int a1), (2, .long a2), (4, .long a4), (6, .int a6), (7, .int a7), (8, .int a8), (11, .long a11), (17, .int a17)] [] M := by
  unfold f_Model_tells_233 at hf
  refine sf_blk [(.iload 7, 0, 0, .null)] (lv' := [(0, .ref a0), (1, .int a1), (2, .long a2), (4, .long a4), (6, .int a6), (7, .int a7), (8, .int a8), (11, .long a11), (17, .int a17)]) (st' := [.int a7]) (M1 := M) (ob := []) (pc' := 235) (by decide +kernel) rfl rfl sw_a0 ?_
  refine sf_z_le (off := 26) (tgt := 261) (by decide +kernel) (by decide) hf (fun hc hf => ?_) (fun hc hf => ?_)
  · exact sf_weak [0, 1, 2, 3, 5, 6, 7, 8] rfl (t_Model_tells_261 hd _ hk25 hf)
  · refine sf_blk [(.iload 17, 0, 0, .null), (.iload 6, 0, 0, .null), (.isub, 0, 0, .null), (.iconst (4), 0, 0, .int (4 : Int32)), (.iadd, 0, 0, .null), (.iconst (4), 0, 0, .int (4 : Int32)), (.irem, 0, 0, .null), (.iconst (3), 0, 0, .int (3 : Int32))] (lv' := [(0, .ref a0), (1, .int a1), (2, .long a2), (4, .long a4), (6, .int a6), (7, .int a7), (8, .int a8), (11, .long a11), (17, .int a17)]) (st' := [.int (3 : Int32), .int (((a17 - a6) + (4 : Int32)) - ((a17 - a6) + (4 : Int32)) / (4 : Int32) * (4 : Int32))]) (M1 := M) (ob := [decide (¬ (4 : Int32) = 0)]) (pc' := 248) (by decide +kernel) rfl rfl (sw_a1 (by decide) sw_a0) ?_
    refine sf_j_ne (off := 13) (tgt := 261) (by decide +kernel) (by decide) hf (fun hc hf => ?_) (fun hc hf => ?_)
    · exact sf_weak [0, 1, 2, 3, 5, 6, 7, 8] rfl (t_Model_tells_261 hd _ hk25 hf)
    · obtain ⟨h1, hf⟩ := sw_gd_1 hf
      obtain ⟨h2, hf⟩ := sw_gd_1 hf
      refine sf_blk [(.aload_n 0, 0, 0, .null), (.getfield 103, 12, 66, .null), (.iload_n 1, 0, 0, .null), (.dup2, 0, 0, .null), (.iaload, 0, 0, .null), (.iconst (1), 0, 0, .int (1 : Int32)), (.isub, 0, 0, .null), (.iastore, 0, 0, .null)] (lv' := [(0, .ref a0), (1, .int a1), (2, .long a2), (4, .long a4), (6, .int a6), (7, .int a7), (8, .int a8), (11, .long a11), (17, .int a17)]) (st' := []) (M1 := (wr_I M (rd_R M a0 66) a1.toNatClampNeg ((rd_I M (rd_R M a0 66) a1.toNatClampNeg) - (1 : Int32)))) (ob := [sw_ok M a0 12, sw_ar M (rd_R M a0 66) 13 a1, sw_ar M (rd_R M a0 66) 13 a1]) (pc' := 261) (by decide +kernel) rfl rfl (sw_a1 h1 (sw_a1 h2 (sw_a1 h2 sw_a0))) ?_
      exact sf_weak [0, 1, 2, 3, 5, 6, 7, 8] rfl (t_Model_tells_261 hd _ hk25 hf)
def f_Model_tells_192 (N : Nat) (k25 : Nat → Int32 → Int64 → Int64 → Int32 → Int32 → sw_M → Option (sw_M)) (a0 : Nat) (a1 : Int32) (a2 : Int64) (a6 : Int32) (a7 : Int32) (a8 : Int32) (a9 : Int64) (a11 : Int64) (b0 : Int64) (M : sw_M) : Option (sw_M) :=
  (f_Model_quarter N a9 a11 a6 M).bind (fun u1 => if a7 ≤ 0 then f_Model_tells_233 N k25 a0 a1 a2 b0 a6 a7 a8 a11 u1.1 u1.2
  else if (((u1.1 - a6) + (4 : Int32)) - ((u1.1 - a6) + (4 : Int32)) / (4 : Int32) * (4 : Int32)) = (1 : Int32) then sw_gd [sw_ok u1.2 a0 12] (sw_gd [sw_ar u1.2 (rd_R u1.2 a0 66) 13 a1] (f_Model_tells_233 N k25 a0 a1 a2 b0 a6 a7 a8 a11 u1.1 (wr_I u1.2 (rd_R u1.2 a0 66) a1.toNatClampNeg ((rd_I u1.2 (rd_R u1.2 a0 66) a1.toNatClampNeg) + (1 : Int32)))))
  else f_Model_tells_233 N k25 a0 a1 a2 b0 a6 a7 a8 a11 u1.1 u1.2)
set_option maxRecDepth 10000 in
theorem t_Model_tells_192 {g : sw_G} {d n0 : Nat} (hd : 2 ≤ d) {r : sw_M} (k25 : Nat → Int32 → Int64 → Int64 → Int32 → Int32 → sw_M → Option (sw_M)) (hk25 : ∀ (a0 : Nat) (a1 : Int32) (a2 : Int64) (a4 : Int64) (a6 : Int32) (a7 : Int32) (M : sw_M), k25 a0 a1 a2 a4 a6 a7 M = some r → sw_F g k_Model_tells d n0 none r 25 [(0, .ref a0), (1, .int a1), (2, .long a2), (4, .long a4), (6, .int a6), (7, .int a7)] [] M) {N : Nat} {a0 : Nat} {a1 : Int32} {a2 : Int64} {a6 : Int32} {a7 : Int32} {a8 : Int32} {a9 : Int64} {a11 : Int64} {b0 : Int64} {M : sw_M} (hf : f_Model_tells_192 N k25 a0 a1 a2 a6 a7 a8 a9 a11 b0 M = some r) : sw_F g k_Model_tells d n0 none r 192 [(0, .ref a0), (1, .int a1), (2, .long a2), (6, .int a6), (7, .int a7), (8, .int a8), (9, .long a9), (11, .long a11)] [.long b0] M := by
  unfold f_Model_tells_192 at hf
  refine sf_blk [(.lstore 4, 0, 0, .null), (.lload 9, 0, 0, .null), (.lload 11, 0, 0, .null), (.iload 6, 0, 0, .null)] (lv' := [(4, .long b0), (0, .ref a0), (1, .int a1), (2, .long a2), (6, .int a6), (7, .int a7), (8, .int a8), (9, .long a9), (11, .long a11)]) (st' := [.int a6, .long a11, .long a9]) (M1 := M) (ob := []) (pc' := 200) (by decide +kernel) rfl rfl sw_a0 ?_
  obtain ⟨u1, hu1, hf⟩ := sw_bnd hf
  refine sf_callS (i := 408) (k2 := k_Model_quarter) (d2 := d - 1) (As := [.long a9, .long a11, .int a6]) (st := []) mf_Model_quarter mi_Model_quarter (sw_m7 199 (by decide +kernel)) (by decide +kernel) rfl (Nat.le_of_ble_eq_true rfl) (by omega) (o_Model_quarter g (d := d - 1) (by omega) hu1) ?_
  show sw_F _ _ _ _ _ _ 203 [(4, .long b0), (0, .ref a0), (1, .int a1), (2, .long a2), (6, .int a6), (7, .int a7), (8, .int a8), (9, .long a9), (11, .long a11)] [.int u1.1] u1.2
  refine sf_blk [(.istore 17, 0, 0, .null), (.iload 7, 0, 0, .null)] (lv' := [(17, .int u1.1), (4, .long b0), (0, .ref a0), (1, .int a1), (2, .long a2), (6, .int a6), (7, .int a7), (8, .int a8), (9, .long a9), (11, .long a11)]) (st' := [.int a7]) (M1 := u1.2) (ob := []) (pc' := 207) (by decide +kernel) rfl rfl sw_a0 ?_
  refine sf_z_le (off := 26) (tgt := 233) (by decide +kernel) (by decide) hf (fun hc hf => ?_) (fun hc hf => ?_)
  · exact sf_weak [2, 3, 4, 1, 5, 6, 7, 9, 0] rfl (t_Model_tells_233 hd _ hk25 hf)
  · refine sf_blk [(.iload 17, 0, 0, .null), (.iload 6, 0, 0, .null), (.isub, 0, 0, .null), (.iconst (4), 0, 0, .int (4 : Int32)), (.iadd, 0, 0, .null), (.iconst (4), 0, 0, .int (4 : Int32)), (.irem, 0, 0, .null), (.iconst (1), 0, 0, .int (1 : Int32))] (lv' := [(17, .int u1.1), (4, .long b0), (0, .ref a0), (1, .int a1), (2, .long a2), (6, .int a6), (7, .int a7), (8, .int a8), (9, .long a9), (11, .long a11)]) (st' := [.int (1 : Int32), .int (((u1.1 - a6) + (4 : Int32)) - ((u1.1 - a6) + (4 : Int32)) / (4 : Int32) * (4 : Int32))]) (M1 := u1.2) (ob := [decide (¬ (4 : Int32) = 0)]) (pc' := 220) (by decide +kernel) rfl rfl (sw_a1 (by decide) sw_a0) ?_
    refine sf_j_ne (off := 13) (tgt := 233) (by decide +kernel) (by decide) hf (fun hc hf => ?_) (fun hc hf => ?_)
    · exact sf_weak [2, 3, 4, 1, 5, 6, 7, 9, 0] rfl (t_Model_tells_233 hd _ hk25 hf)
    · obtain ⟨h2, hf⟩ := sw_gd_1 hf
      obtain ⟨h3, hf⟩ := sw_gd_1 hf
      refine sf_blk [(.aload_n 0, 0, 0, .null), (.getfield 103, 12, 66, .null), (.iload_n 1, 0, 0, .null), (.dup2, 0, 0, .null), (.iaload, 0, 0, .null), (.iconst (1), 0, 0, .int (1 : Int32)), (.iadd, 0, 0, .null), (.iastore, 0, 0, .null)] (lv' := [(17, .int u1.1), (4, .long b0), (0, .ref a0), (1, .int a1), (2, .long a2), (6, .int a6), (7, .int a7), (8, .int a8), (9, .long a9), (11, .long a11)]) (st' := []) (M1 := (wr_I u1.2 (rd_R u1.2 a0 66) a1.toNatClampNeg ((rd_I u1.2 (rd_R u1.2 a0 66) a1.toNatClampNeg) + (1 : Int32)))) (ob := [sw_ok u1.2 a0 12, sw_ar u1.2 (rd_R u1.2 a0 66) 13 a1, sw_ar u1.2 (rd_R u1.2 a0 66) 13 a1]) (pc' := 233) (by decide +kernel) rfl rfl (sw_a1 h2 (sw_a1 h3 (sw_a1 h3 sw_a0))) ?_
      exact sf_weak [2, 3, 4, 1, 5, 6, 7, 9, 0] rfl (t_Model_tells_233 hd _ hk25 hf)
def f_Model_tells_174 (N : Nat) (k25 : Nat → Int32 → Int64 → Int64 → Int32 → Int32 → sw_M → Option (sw_M)) (a0 : Nat) (a1 : Int32) (a4 : Int64) (a6 : Int32) (a7 : Int32) (a8 : Int32) (a9 : Int64) (a11 : Int64) (a15 : Int64) (b0 : Int64) (M : sw_M) : Option (sw_M) :=
  if a7 = 0 then f_Model_tells_192 N k25 a0 a1 b0 a6 a7 a8 a9 a11 a15 M
  else f_Model_tells_192 N k25 a0 a1 b0 a6 a7 a8 a9 a11 (m_maxL a4 a15) M
set_option maxRecDepth 10000 in
theorem t_Model_tells_174 {g : sw_G} {d n0 : Nat} (hd : 2 ≤ d) {r : sw_M} (k25 : Nat → Int32 → Int64 → Int64 → Int32 → Int32 → sw_M → Option (sw_M)) (hk25 : ∀ (a0 : Nat) (a1 : Int32) (a2 : Int64) (a4 : Int64) (a6 : Int32) (a7 : Int32) (M : sw_M), k25 a0 a1 a2 a4 a6 a7 M = some r → sw_F g k_Model_tells d n0 none r 25 [(0, .ref a0), (1, .int a1), (2, .long a2), (4, .long a4), (6, .int a6), (7, .int a7)] [] M) {N : Nat} {a0 : Nat} {a1 : Int32} {a4 : Int64} {a6 : Int32} {a7 : Int32} {a8 : Int32} {a9 : Int64} {a11 : Int64} {a15 : Int64} {b0 : Int64} {M : sw_M} (hf : f_Model_tells_174 N k25 a0 a1 a4 a6 a7 a8 a9 a11 a15 b0 M = some r) : sw_F g k_Model_tells d n0 none r 174 [(0, .ref a0), (1, .int a1), (4, .long a4), (6, .int a6), (7, .int a7), (8, .int a8), (9, .long a9), (11, .long a11), (15, .long a15)] [.long b0] M := by
  unfold f_Model_tells_174 at hf
  refine sf_blk [(.lstore_n 2, 0, 0, .null), (.iload 7, 0, 0, .null)] (lv' := [(2, .long b0), (0, .ref a0), (1, .int a1), (4, .long a4), (6, .int a6), (7, .int a7), (8, .int a8), (9, .long a9), (11, .long a11), (15, .long a15)]) (st' := [.int a7]) (M1 := M) (ob := []) (pc' := 177) (by decide +kernel) rfl rfl sw_a0 ?_
  refine sf_z_ne (off := 8) (tgt := 185) (by decide +kernel) (by decide) hf (fun hc hf => ?_) (fun hc hf => ?_)
  · refine sf_blk [(.lload 4, 0, 0, .null), (.lload 15, 0, 0, .null)] (lv' := [(2, .long b0), (0, .ref a0), (1, .int a1), (4, .long a4), (6, .int a6), (7, .int a7), (8, .int a8), (9, .long a9), (11, .long a11), (15, .long a15)]) (st' := [.long a15, .long a4]) (M1 := M) (ob := []) (pc' := 189) (by decide +kernel) rfl rfl sw_a0 ?_
    refine sf_maxL (i := 348) (st := []) (sw_m7 146 (by decide +kernel)) (by decide +kernel) (by omega) (Nat.le_of_ble_eq_true rfl) ?_
    show sw_F _ _ _ _ _ _ 192 [(2, .long b0), (0, .ref a0), (1, .int a1), (4, .long a4), (6, .int a6), (7, .int a7), (8, .int a8), (9, .long a9), (11, .long a11), (15, .long a15)] [.long (m_maxL a4 a15)] M
    exact sf_weak [1, 2, 0, 4, 5, 6, 7, 8] rfl (t_Model_tells_192 hd _ hk25 hf)
  · refine sf_blk [(.lload 15, 0, 0, .null)] (lv' := [(2, .long b0), (0, .ref a0), (1, .int a1), (4, .long a4), (6, .int a6), (7, .int a7), (8, .int a8), (9, .long a9), (11, .long a11), (15, .long a15)]) (st' := [.long a15]) (M1 := M) (ob := []) (pc' := 182) (by decide +kernel) rfl rfl sw_a0 ?_
    refine sf_goto (off := 10) (tgt := 192) (by decide +kernel) (by decide) ?_
    exact sf_weak [1, 2, 0, 4, 5, 6, 7, 8] rfl (t_Model_tells_192 hd _ hk25 hf)
def f_Model_tells_157 (N : Nat) (k25 : Nat → Int32 → Int64 → Int64 → Int32 → Int32 → sw_M → Option (sw_M)) (a0 : Nat) (a1 : Int32) (a2 : Int64) (a4 : Int64) (a6 : Int32) (a7 : Int32) (a8 : Int32) (a9 : Int64) (a11 : Int64) (a15 : Int64) (b0 : Int64) (b1 : Int32) (b2 : Nat) (M : sw_M) : Option (sw_M) :=
  sw_gd [sw_ar M b2 16 b1] (if a7 = 0 then f_Model_tells_174 N k25 a0 a1 a4 a6 a7 a8 a9 a11 a15 a15 (wr_L M b2 b1.toNatClampNeg b0)
  else f_Model_tells_174 N k25 a0 a1 a4 a6 a7 a8 a9 a11 a15 (m_minL a2 a15) (wr_L M b2 b1.toNatClampNeg b0))
set_option maxRecDepth 10000 in
theorem t_Model_tells_157 {g : sw_G} {d n0 : Nat} (hd : 2 ≤ d) {r : sw_M} (k25 : Nat → Int32 → Int64 → Int64 → Int32 → Int32 → sw_M → Option (sw_M)) (hk25 : ∀ (a0 : Nat) (a1 : Int32) (a2 : Int64) (a4 : Int64) (a6 : Int32) (a7 : Int32) (M : sw_M), k25 a0 a1 a2 a4 a6 a7 M = some r → sw_F g k_Model_tells d n0 none r 25 [(0, .ref a0), (1, .int a1), (2, .long a2), (4, .long a4), (6, .int a6), (7, .int a7)] [] M) {N : Nat} {a0 : Nat} {a1 : Int32} {a2 : Int64} {a4 : Int64} {a6 : Int32} {a7 : Int32} {a8 : Int32} {a9 : Int64} {a11 : Int64} {a15 : Int64} {b0 : Int64} {b1 : Int32} {b2 : Nat} {M : sw_M} (hf : f_Model_tells_157 N k25 a0 a1 a2 a4 a6 a7 a8 a9 a11 a15 b0 b1 b2 M = some r) : sw_F g k_Model_tells d n0 none r 157 [(0, .ref a0), (1, .int a1), (2, .long a2), (4, .long a4), (6, .int a6), (7, .int a7), (8, .int a8), (9, .long a9), (11, .long a11), (15, .long a15)] [.long b0, .int b1, .ref b2] M := by
  unfold f_Model_tells_157 at hf
  obtain ⟨h1, hf⟩ := sw_gd_1 hf
  refine sf_blk [(.lastore, 0, 0, .null), (.iload 7, 0, 0, .null)] (lv' := [(0, .ref a0), (1, .int a1), (2, .long a2), (4, .long a4), (6, .int a6), (7, .int a7), (8, .int a8), (9, .long a9), (11, .long a11), (15, .long a15)]) (st' := [.int a7]) (M1 := (wr_L M b2 b1.toNatClampNeg b0)) (ob := [sw_ar M b2 16 b1]) (pc' := 160) (by decide +kernel) rfl rfl (sw_a1 h1 sw_a0) ?_
  refine sf_z_ne (off := 8) (tgt := 168) (by decide +kernel) (by decide) hf (fun hc hf => ?_) (fun hc hf => ?_)
  · refine sf_blk [(.lload_n 2, 0, 0, .null), (.lload 15, 0, 0, .null)] (lv' := [(0, .ref a0), (1, .int a1), (2, .long a2), (4, .long a4), (6, .int a6), (7, .int a7), (8, .int a8), (9, .long a9), (11, .long a11), (15, .long a15)]) (st' := [.long a15, .long a2]) (M1 := (wr_L M b2 b1.toNatClampNeg b0)) (ob := []) (pc' := 171) (by decide +kernel) rfl rfl sw_a0 ?_
    refine sf_minL (i := 342) (st := []) (sw_m7 145 (by decide +kernel)) (by decide +kernel) (by omega) (Nat.le_of_ble_eq_true rfl) ?_
    show sw_F _ _ _ _ _ _ 174 [(0, .ref a0), (1, .int a1), (2, .long a2), (4, .long a4), (6, .int a6), (7, .int a7), (8, .int a8), (9, .long a9), (11, .long a11), (15, .long a15)] [.long (m_minL a2 a15)] (wr_L M b2 b1.toNatClampNeg b0)
    exact sf_weak [0, 1, 3, 4, 5, 6, 7, 8, 9] rfl (t_Model_tells_174 hd _ hk25 hf)
  · refine sf_blk [(.lload 15, 0, 0, .null)] (lv' := [(0, .ref a0), (1, .int a1), (2, .long a2), (4, .long a4), (6, .int a6), (7, .int a7), (8, .int a8), (9, .long a9), (11, .long a11), (15, .long a15)]) (st' := [.long a15]) (M1 := (wr_L M b2 b1.toNatClampNeg b0)) (ob := []) (pc' := 165) (by decide +kernel) rfl rfl sw_a0 ?_
    refine sf_goto (off := 9) (tgt := 174) (by decide +kernel) (by decide) ?_
    exact sf_weak [0, 1, 3, 4, 5, 6, 7, 8, 9] rfl (t_Model_tells_174 hd _ hk25 hf)
def f_Model_tells_130 (N : Nat) (k25 : Nat → Int32 → Int64 → Int64 → Int32 → Int32 → sw_M → Option (sw_M)) (a0 : Nat) (a1 : Int32) (a2 : Int64) (a4 : Int64) (a6 : Int32) (a7 : Int32) (a8 : Int32) (a9 : Int64) (a11 : Int64) (a13 : Int64) (a15 : Int64) (b0 : Int64) (b1 : Int32) (b2 : Nat) (M : sw_M) : Option (sw_M) :=
  sw_gd [sw_ar M b2 16 b1] (sw_gd [sw_ok (wr_L M b2 b1.toNatClampNeg b0) a0 12] (if a7 = 0 then f_Model_tells_157 N k25 a0 a1 a2 a4 a6 a7 a8 a9 a11 a15 a13 a1 (rd_R (wr_L M b2 b1.toNatClampNeg b0) a0 65) (wr_L M b2 b1.toNatClampNeg b0)
  else sw_gd [sw_ar (wr_L M b2 b1.toNatClampNeg b0) (rd_R (wr_L M b2 b1.toNatClampNeg b0) a0 65) 16 a1] (f_Model_tells_157 N k25 a0 a1 a2 a4 a6 a7 a8 a9 a11 a15 (m_maxL (rd_L (wr_L M b2 b1.toNatClampNeg b0) (rd_R (wr_L M b2 b1.toNatClampNeg b0) a0 65) a1.toNatClampNeg) a13) a1 (rd_R (wr_L M b2 b1.toNatClampNeg b0) a0 65) (wr_L M b2 b1.toNatClampNeg b0))))
set_option maxRecDepth 10000 in
theorem t_Model_tells_130 {g : sw_G} {d n0 : Nat} (hd : 2 ≤ d) {r : sw_M} (k25 : Nat → Int32 → Int64 → Int64 → Int32 → Int32 → sw_M → Option (sw_M)) (hk25 : ∀ (a0 : Nat) (a1 : Int32) (a2 : Int64) (a4 : Int64) (a6 : Int32) (a7 : Int32) (M : sw_M), k25 a0 a1 a2 a4 a6 a7 M = some r → sw_F g k_Model_tells d n0 none r 25 [(0, .ref a0), (1, .int a1), (2, .long a2), (4, .long a4), (6, .int a6), (7, .int a7)] [] M) {N : Nat} {a0 : Nat} {a1 : Int32} {a2 : Int64} {a4 : Int64} {a6 : Int32} {a7 : Int32} {a8 : Int32} {a9 : Int64} {a11 : Int64} {a13 : Int64} {a15 : Int64} {b0 : Int64} {b1 : Int32} {b2 : Nat} {M : sw_M} (hf : f_Model_tells_130 N k25 a0 a1 a2 a4 a6 a7 a8 a9 a11 a13 a15 b0 b1 b2 M = some r) : sw_F g k_Model_tells d n0 none r 130 [(0, .ref a0), (1, .int a1), (2, .long a2), (4, .long a4), (6, .int a6), (7, .int a7), (8, .int a8), (9, .long a9), (11, .long a11), (13, .long a13), (15, .long a15)] [.long b0, .int b1, .ref b2] M := by
  unfold f_Model_tells_130 at hf
  obtain ⟨h1, hf⟩ := sw_gd_1 hf
  obtain ⟨h2, hf⟩ := sw_gd_1 hf
  refine sf_blk [(.lastore, 0, 0, .null), (.aload_n 0, 0, 0, .null), (.getfield 100, 12, 65, .null), (.iload_n 1, 0, 0, .null), (.iload 7, 0, 0, .null)] (lv' := [(0, .ref a0), (1, .int a1), (2, .long a2), (4, .long a4), (6, .int a6), (7, .int a7), (8, .int a8), (9, .long a9), (11, .long a11), (13, .long a13), (15, .long a15)]) (st' := [.int a7, .int a1, .ref (rd_R (wr_L M b2 b1.toNatClampNeg b0) a0 65)]) (M1 := (wr_L M b2 b1.toNatClampNeg b0)) (ob := [sw_ar M b2 16 b1, sw_ok (wr_L M b2 b1.toNatClampNeg b0) a0 12]) (pc' := 138) (by decide +kernel) rfl rfl (sw_a1 h1 (sw_a1 h2 sw_a0)) ?_
  refine sf_z_ne (off := 8) (tgt := 146) (by decide +kernel) (by decide) hf (fun hc hf => ?_) (fun hc hf => ?_)
  · obtain ⟨h3, hf⟩ := sw_gd_1 hf
    refine sf_blk [(.aload_n 0, 0, 0, .null), (.getfield 100, 12, 65, .null), (.iload_n 1, 0, 0, .null), (.laload, 0, 0, .null), (.lload 13, 0, 0, .null)] (lv' := [(0, .ref a0), (1, .int a1), (2, .long a2), (4, .long a4), (6, .int a6), (7, .int a7), (8, .int a8), (9, .long a9), (11, .long a11), (13, .long a13), (15, .long a15)]) (st' := [.long a13, .long (rd_L (wr_L M b2 b1.toNatClampNeg b0) (rd_R (wr_L M b2 b1.toNatClampNeg b0) a0 65) a1.toNatClampNeg), .int a1, .ref (rd_R (wr_L M b2 b1.toNatClampNeg b0) a0 65)]) (M1 := (wr_L M b2 b1.toNatClampNeg b0)) (ob := [sw_ok (wr_L M b2 b1.toNatClampNeg b0) a0 12, sw_ar (wr_L M b2 b1.toNatClampNeg b0) (rd_R (wr_L M b2 b1.toNatClampNeg b0) a0 65) 16 a1]) (pc' := 154) (by decide +kernel) rfl rfl (sw_a1 h2 (sw_a1 h3 sw_a0)) ?_
    refine sf_maxL (i := 348) (st := [.int a1, .ref (rd_R (wr_L M b2 b1.toNatClampNeg b0) a0 65)]) (sw_m7 146 (by decide +kernel)) (by decide +kernel) (by omega) (Nat.le_of_ble_eq_true rfl) ?_
    show sw_F _ _ _ _ _ _ 157 [(0, .ref a0), (1, .int a1), (2, .long a2), (4, .long a4), (6, .int a6), (7, .int a7), (8, .int a8), (9, .long a9), (11, .long a11), (13, .long a13), (15, .long a15)] [.long (m_maxL (rd_L (wr_L M b2 b1.toNatClampNeg b0) (rd_R (wr_L M b2 b1.toNatClampNeg b0) a0 65) a1.toNatClampNeg) a13), .int a1, .ref (rd_R (wr_L M b2 b1.toNatClampNeg b0) a0 65)] (wr_L M b2 b1.toNatClampNeg b0)
    exact sf_weak [0, 1, 2, 3, 4, 5, 6, 7, 8, 10] rfl (t_Model_tells_157 hd _ hk25 hf)
  · refine sf_blk [(.lload 13, 0, 0, .null)] (lv' := [(0, .ref a0), (1, .int a1), (2, .long a2), (4, .long a4), (6, .int a6), (7, .int a7), (8, .int a8), (9, .long a9), (11, .long a11), (13, .long a13), (15, .long a15)]) (st' := [.long a13, .int a1, .ref (rd_R (wr_L M b2 b1.toNatClampNeg b0) a0 65)]) (M1 := (wr_L M b2 b1.toNatClampNeg b0)) (ob := []) (pc' := 143) (by decide +kernel) rfl rfl sw_a0 ?_
    refine sf_goto (off := 14) (tgt := 157) (by decide +kernel) (by decide) ?_
    exact sf_weak [0, 1, 2, 3, 4, 5, 6, 7, 8, 10] rfl (t_Model_tells_157 hd _ hk25 hf)
def f_Model_tells_104 (N : Nat) (k25 : Nat → Int32 → Int64 → Int64 → Int32 → Int32 → sw_M → Option (sw_M)) (a0 : Nat) (a1 : Int32) (a2 : Int64) (a4 : Int64) (a6 : Int32) (a7 : Int32) (a8 : Int32) (a9 : Int64) (a11 : Int64) (a13 : Int64) (a15 : Int64) (M : sw_M) : Option (sw_M) :=
  sw_gd [sw_ok M a0 12] (if a7 = 0 then f_Model_tells_130 N k25 a0 a1 a2 a4 a6 a7 a8 a9 a11 a13 a15 a13 a1 (rd_R M a0 64) M
  else sw_gd [sw_ar M (rd_R M a0 64) 16 a1] (f_Model_tells_130 N k25 a0 a1 a2 a4 a6 a7 a8 a9 a11 a13 a15 (m_minL (rd_L M (rd_R M a0 64) a1.toNatClampNeg) a13) a1 (rd_R M a0 64) M))
set_option maxRecDepth 10000 in
theorem t_Model_tells_104 {g : sw_G} {d n0 : Nat} (hd : 2 ≤ d) {r : sw_M} (k25 : Nat → Int32 → Int64 → Int64 → Int32 → Int32 → sw_M → Option (sw_M)) (hk25 : ∀ (a0 : Nat) (a1 : Int32) (a2 : Int64) (a4 : Int64) (a6 : Int32) (a7 : Int32) (M : sw_M), k25 a0 a1 a2 a4 a6 a7 M = some r → sw_F g k_Model_tells d n0 none r 25 [(0, .ref a0), (1, .int a1), (2, .long a2), (4, .long a4), (6, .int a6), (7, .int a7)] [] M) {N : Nat} {a0 : Nat} {a1 : Int32} {a2 : Int64} {a4 : Int64} {a6 : Int32} {a7 : Int32} {a8 : Int32} {a9 : Int64} {a11 : Int64} {a13 : Int64} {a15 : Int64} {M : sw_M} (hf : f_Model_tells_104 N k25 a0 a1 a2 a4 a6 a7 a8 a9 a11 a13 a15 M = some r) : sw_F g k_Model_tells d n0 none r 104 [(0, .ref a0), (1, .int a1), (2, .long a2), (4, .long a4), (6, .int a6), (7, .int a7), (8, .int a8), (9, .long a9), (11, .long a11), (13, .long a13), (15, .long a15)] [] M := by
  unfold f_Model_tells_104 at hf
  obtain ⟨h1, hf⟩ := sw_gd_1 hf
  refine sf_blk [(.aload_n 0, 0, 0, .null), (.getfield 97, 12, 64, .null), (.iload_n 1, 0, 0, .null), (.iload 7, 0, 0, .null)] (lv' := [(0, .ref a0), (1, .int a1), (2, .long a2), (4, .long a4), (6, .int a6), (7, .int a7), (8, .int a8), (9, .long a9), (11, .long a11), (13, .long a13), (15, .long a15)]) (st' := [.int a7, .int a1, .ref (rd_R M a0 64)]) (M1 := M) (ob := [sw_ok M a0 12]) (pc' := 111) (by decide +kernel) rfl rfl (sw_a1 h1 sw_a0) ?_
  refine sf_z_ne (off := 8) (tgt := 119) (by decide +kernel) (by decide) hf (fun hc hf => ?_) (fun hc hf => ?_)
  · obtain ⟨h2, hf⟩ := sw_gd_1 hf
    refine sf_blk [(.aload_n 0, 0, 0, .null), (.getfield 97, 12, 64, .null), (.iload_n 1, 0, 0, .null), (.laload, 0, 0, .null), (.lload 13, 0, 0, .null)] (lv' := [(0, .ref a0), (1, .int a1), (2, .long a2), (4, .long a4), (6, .int a6), (7, .int a7), (8, .int a8), (9, .long a9), (11, .long a11), (13, .long a13), (15, .long a15)]) (st' := [.long a13, .long (rd_L M (rd_R M a0 64) a1.toNatClampNeg), .int a1, .ref (rd_R M a0 64)]) (M1 := M) (ob := [sw_ok M a0 12, sw_ar M (rd_R M a0 64) 16 a1]) (pc' := 127) (by decide +kernel) rfl rfl (sw_a1 h1 (sw_a1 h2 sw_a0)) ?_
    refine sf_minL (i := 342) (st := [.int a1, .ref (rd_R M a0 64)]) (sw_m7 145 (by decide +kernel)) (by decide +kernel) (by omega) (Nat.le_of_ble_eq_true rfl) ?_
    show sw_F _ _ _ _ _ _ 130 [(0, .ref a0), (1, .int a1), (2, .long a2), (4, .long a4), (6, .int a6), (7, .int a7), (8, .int a8), (9, .long a9), (11, .long a11), (13, .long a13), (15, .long a15)] [.long (m_minL (rd_L M (rd_R M a0 64) a1.toNatClampNeg) a13), .int a1, .ref (rd_R M a0 64)] M
    exact sf_weak [0, 1, 2, 3, 4, 5, 6, 7, 8, 9, 10] rfl (t_Model_tells_130 hd _ hk25 hf)
  · refine sf_blk [(.lload 13, 0, 0, .null)] (lv' := [(0, .ref a0), (1, .int a1), (2, .long a2), (4, .long a4), (6, .int a6), (7, .int a7), (8, .int a8), (9, .long a9), (11, .long a11), (13, .long a13), (15, .long a15)]) (st' := [.long a13, .int a1, .ref (rd_R M a0 64)]) (M1 := M) (ob := []) (pc' := 116) (by decide +kernel) rfl rfl sw_a0 ?_
    refine sf_goto (off := 14) (tgt := 130) (by decide +kernel) (by decide) ?_
    exact sf_weak [0, 1, 2, 3, 4, 5, 6, 7, 8, 9, 10] rfl (t_Model_tells_130 hd _ hk25 hf)
def f_Model_tells_25 (N : Nat) : Nat → Nat → Int32 → Int64 → Int64 → Int32 → Int32 → sw_M → Option (sw_M)
  | 0, _, _, _, _, _, _, _ => none
  | j + 1, a0, a1, a2, a4, a6, a7, M =>
  sw_gd [sw_ok M a0 12] (sw_gd [sw_ar M (rd_R M a0 60) 13 a1] (if (rd_I M (rd_R M a0 60) a1.toNatClampNeg) < a7 then sw_gd [sw_ar M (rd_R M a0 63) 16 a1] (sw_gd [sw_ar (wr_L M (rd_R M a0 63) a1.toNatClampNeg (a4 - a2)) (rd_R (wr_L M (rd_R M a0 63) a1.toNatClampNeg (a4 - a2)) a0 61) 14 a1 || sw_ar (wr_L M (rd_R M a0 63) a1.toNatClampNeg (a4 - a2)) (rd_R (wr_L M (rd_R M a0 63) a1.toNatClampNeg (a4 - a2)) a0 61) 15 a1] (if (rd_I (wr_L M (rd_R M a0 63) a1.toNatClampNeg (a4 - a2)) (rd_R (wr_L M (rd_R M a0 63) a1.toNatClampNeg (a4 - a2)) a0 61) a1.toNatClampNeg) = 0 then if (0 : Int64) < a2 then f_Model_tells_346 N a1 (rd_R (wr_L M (rd_R M a0 63) a1.toNatClampNeg (a4 - a2)) a0 62) (wr_L M (rd_R M a0 63) a1.toNatClampNeg (a4 - a2))
  else if (0 : Int64) ≤ a4 then if a2 = (0 : Int64) then if a4 = (0 : Int64) then sw_gd [sw_ar (wr_L M (rd_R M a0 63) a1.toNatClampNeg (a4 - a2)) (rd_R (wr_L M (rd_R M a0 63) a1.toNatClampNeg (a4 - a2)) a0 62) 13 a1] (some (wr_I (wr_L M (rd_R M a0 63) a1.toNatClampNeg (a4 - a2)) (rd_R (wr_L M (rd_R M a0 63) a1.toNatClampNeg (a4 - a2)) a0 62) a1.toNatClampNeg (2 : Int32)))
  else sw_gd [sw_ar (wr_L M (rd_R M a0 63) a1.toNatClampNeg (a4 - a2)) (rd_R (wr_L M (rd_R M a0 63) a1.toNatClampNeg (a4 - a2)) a0 62) 13 a1] (some (wr_I (wr_L M (rd_R M a0 63) a1.toNatClampNeg (a4 - a2)) (rd_R (wr_L M (rd_R M a0 63) a1.toNatClampNeg (a4 - a2)) a0 62) a1.toNatClampNeg (1 : Int32)))
  else sw_gd [sw_ar (wr_L M (rd_R M a0 63) a1.toNatClampNeg (a4 - a2)) (rd_R (wr_L M (rd_R M a0 63) a1.toNatClampNeg (a4 - a2)) a0 62) 13 a1] (some (wr_I (wr_L M (rd_R M a0 63) a1.toNatClampNeg (a4 - a2)) (rd_R (wr_L M (rd_R M a0 63) a1.toNatClampNeg (a4 - a2)) a0 62) a1.toNatClampNeg (1 : Int32)))
  else f_Model_tells_346 N a1 (rd_R (wr_L M (rd_R M a0 63) a1.toNatClampNeg (a4 - a2)) a0 62) (wr_L M (rd_R M a0 63) a1.toNatClampNeg (a4 - a2))
  else sw_gd [sw_ar (wr_L M (rd_R M a0 63) a1.toNatClampNeg (a4 - a2)) (rd_R (wr_L M (rd_R M a0 63) a1.toNatClampNeg (a4 - a2)) a0 62) 13 a1] (some (wr_I (wr_L M (rd_R M a0 63) a1.toNatClampNeg (a4 - a2)) (rd_R (wr_L M (rd_R M a0 63) a1.toNatClampNeg (a4 - a2)) a0 62) a1.toNatClampNeg (3 : Int32)))))
  else sw_gd [sw_ar M (rd_R M a0 56) 13 (((241 : Int32) * a1) + a7)] (sw_gd [sw_ar M (rd_R M a0 57) 13 (((241 : Int32) * a1) + a7)] (sw_gd [sw_ar M (rd_R M a0 59) 13 (((241 : Int32) * a1) + a7)] (sw_gd [sw_ar M (rd_R M a0 58) 13 (((241 : Int32) * a1) + a7)] (f_Model_tells_104 N (f_Model_tells_25 N j) a0 a1 a2 a4 a6 a7 (((241 : Int32) * a1) + a7) (rd_I M (rd_R M a0 56) (((241 : Int32) * a1) + a7).toNatClampNeg).toInt64 (rd_I M (rd_R M a0 57) (((241 : Int32) * a1) + a7).toNatClampNeg).toInt64 (((rd_I M (rd_R M a0 56) (((241 : Int32) * a1) + a7).toNatClampNeg).toInt64 * (rd_I M (rd_R M a0 56) (((241 : Int32) * a1) + a7).toNatClampNeg).toInt64) + ((rd_I M (rd_R M a0 57) (((241 : Int32) * a1) + a7).toNatClampNeg).toInt64 * (rd_I M (rd_R M a0 57) (((241 : Int32) * a1) + a7).toNatClampNeg).toInt64)) (((rd_I M (rd_R M a0 56) (((241 : Int32) * a1) + a7).toNatClampNeg).toInt64 * (rd_I M (rd_R M a0 59) (((241 : Int32) * a1) + a7).toNatClampNeg).toInt64) - ((rd_I M (rd_R M a0 57) (((241 : Int32) * a1) + a7).toNatClampNeg).toInt64 * (rd_I M (rd_R M a0 58) (((241 : Int32) * a1) + a7).toNatClampNeg).toInt64)) M))))))
set_option maxRecDepth 10000 in
theorem t_Model_tells_25 {g : sw_G} {d n0 : Nat} (hd : 2 ≤ d) {r : sw_M} {N : Nat} : ∀ (j : Nat) (a0 : Nat) (a1 : Int32) (a2 : Int64) (a4 : Int64) (a6 : Int32) (a7 : Int32) (M : sw_M), f_Model_tells_25 N j a0 a1 a2 a4 a6 a7 M = some r → sw_F g k_Model_tells d n0 none r 25 [(0, .ref a0), (1, .int a1), (2, .long a2), (4, .long a4), (6, .int a6), (7, .int a7)] [] M := by
  intro j
  induction j with
  | zero =>
    intro a0 a1 a2 a4 a6 a7 M hf
    rw [f_Model_tells_25] at hf
    cases hf
  | succ j ih =>
    intro a0 a1 a2 a4 a6 a7 M hf
    rw [f_Model_tells_25] at hf
    obtain ⟨h1, hf⟩ := sw_gd_1 hf
    obtain ⟨h2, hf⟩ := sw_gd_1 hf
    refine sf_blk [(.iload 7, 0, 0, .null), (.aload_n 0, 0, 0, .null), (.getfield 83, 12, 60, .null), (.iload_n 1, 0, 0, .null), (.iaload, 0, 0, .null)] (lv' := [(0, .ref a0), (1, .int a1), (2, .long a2), (4, .long a4), (6, .int a6), (7, .int a7)]) (st' := [.int (rd_I M (rd_R M a0 60) a1.toNatClampNeg), .int a7]) (M1 := M) (ob := [sw_ok M a0 12, sw_ar M (rd_R M a0 60) 13 a1]) (pc' := 33) (by decide +kernel) rfl rfl (sw_a1 h1 (sw_a1 h2 sw_a0)) ?_
    refine sf_j_gt (off := 272) (tgt := 305) (by decide +kernel) (by decide) hf (fun hc hf => ?_) (fun hc hf => ?_)
    · obtain ⟨h3, hf⟩ := sw_gd_1 hf
      obtain ⟨h4, hf⟩ := sw_gd_1 hf
      refine sf_blk [(.aload_n 0, 0, 0, .null), (.getfield 93, 12, 63, .null), (.iload_n 1, 0, 0, .null), (.lload 4, 0, 0, .null), (.lload_n 2, 0, 0, .null), (.lsub, 0, 0, .null), (.lastore, 0, 0, .null), (.aload_n 0, 0, 0, .null), (.getfield 90, 12, 62, .null), (.iload_n 1, 0, 0, .null), (.aload_n 0, 0, 0, .null), (.getfield 86, 12, 61, .null), (.iload_n 1, 0, 0, .null), (.baload, 0, 0, .null)] (lv' := [(0, .ref a0), (1, .int a1), (2, .long a2), (4, .long a4), (6, .int a6), (7, .int a7)]) (st' := [.int (rd_I (wr_L M (rd_R M a0 63) a1.toNatClampNeg (a4 - a2)) (rd_R (wr_L M (rd_R M a0 63) a1.toNatClampNeg (a4 - a2)) a0 61) a1.toNatClampNeg), .int a1, .ref (rd_R (wr_L M (rd_R M a0 63) a1.toNatClampNeg (a4 - a2)) a0 62)]) (M1 := (wr_L M (rd_R M a0 63) a1.toNatClampNeg (a4 - a2))) (ob := [sw_ok M a0 12, sw_ar M (rd_R M a0 63) 16 a1, sw_ok (wr_L M (rd_R M a0 63) a1.toNatClampNeg (a4 - a2)) a0 12, sw_ok (wr_L M (rd_R M a0 63) a1.toNatClampNeg (a4 - a2)) a0 12, sw_ar (wr_L M (rd_R M a0 63) a1.toNatClampNeg (a4 - a2)) (rd_R (wr_L M (rd_R M a0 63) a1.toNatClampNeg (a4 - a2)) a0 61) 14 a1 || sw_ar (wr_L M (rd_R M a0 63) a1.toNatClampNeg (a4 - a2)) (rd_R (wr_L M (rd_R M a0 63) a1.toNatClampNeg (a4 - a2)) a0 61) 15 a1]) (pc' := 326) (by decide +kernel) rfl rfl (sw_a1 h1 (sw_a1 h3 (sw_a1 h1 (sw_a1 h1 (sw_a1 h4 sw_a0))))) ?_
      refine sf_z_eq (off := 7) (tgt := 333) (by decide +kernel) (by decide) hf (fun hc hf => ?_) (fun hc hf => ?_)
      · refine sf_blk [(.lload_n 2, 0, 0, .null), (.lconst 0, 0, 0, .long (0 : Int64)), (.lcmp, 0, 0, .null)] (lv' := [(0, .ref a0), (1, .int a1), (2, .long a2), (4, .long a4), (6, .int a6), (7, .int a7)]) (st' := [.int (lg_cmp a2 (0 : Int64)), .int a1, .ref (rd_R (wr_L M (rd_R M a0 63) a1.toNatClampNeg (a4 - a2)) a0 62)]) (M1 := (wr_L M (rd_R M a0 63) a1.toNatClampNeg (a4 - a2))) (ob := []) (pc' := 336) (by decide +kernel) rfl rfl sw_a0 ?_
        refine sf_l_gt (off := 10) (tgt := 346) (by decide +kernel) (by decide) hf (fun hc hf => ?_) (fun hc hf => ?_)
        · exact sf_weak [] rfl (t_Model_tells_346 hd hf)
        · refine sf_blk [(.lload 4, 0, 0, .null), (.lconst 0, 0, 0, .long (0 : Int64)), (.lcmp, 0, 0, .null)] (lv' := [(0, .ref a0), (1, .int a1), (2, .long a2), (4, .long a4), (6, .int a6), (7, .int a7)]) (st' := [.int (lg_cmp a4 (0 : Int64)), .int a1, .ref (rd_R (wr_L M (rd_R M a0 63) a1.toNatClampNeg (a4 - a2)) a0 62)]) (M1 := (wr_L M (rd_R M a0 63) a1.toNatClampNeg (a4 - a2))) (ob := []) (pc' := 343) (by decide +kernel) rfl rfl sw_a0 ?_
          refine sf_l_ge (off := 7) (tgt := 350) (by decide +kernel) (by decide) hf (fun hc hf => ?_) (fun hc hf => ?_)
          · refine sf_blk [(.lload_n 2, 0, 0, .null), (.lconst 0, 0, 0, .long (0 : Int64)), (.lcmp, 0, 0, .null)] (lv' := [(0, .ref a0), (1, .int a1), (2, .long a2), (4, .long a4), (6, .int a6), (7, .int a7)]) (st' := [.int (lg_cmp a2 (0 : Int64)), .int a1, .ref (rd_R (wr_L M (rd_R M a0 63) a1.toNatClampNeg (a4 - a2)) a0 62)]) (M1 := (wr_L M (rd_R M a0 63) a1.toNatClampNeg (a4 - a2))) (ob := []) (pc' := 353) (by decide +kernel) rfl rfl sw_a0 ?_
            refine sf_l_ne (off := 14) (tgt := 367) (by decide +kernel) (by decide) hf (fun hc hf => ?_) (fun hc hf => ?_)
            · obtain ⟨h5, hf⟩ := sw_gd_1 hf
              refine sf_blk [(.iconst (1), 0, 0, .int (1 : Int32)), (.iastore, 0, 0, .null)] (lv' := [(0, .ref a0), (1, .int a1), (2, .long a2), (4, .long a4), (6, .int a6), (7, .int a7)]) (st' := []) (M1 := (wr_I (wr_L M (rd_R M a0 63) a1.toNatClampNeg (a4 - a2)) (rd_R (wr_L M (rd_R M a0 63) a1.toNatClampNeg (a4 - a2)) a0 62) a1.toNatClampNeg (1 : Int32))) (ob := [sw_ar (wr_L M (rd_R M a0 63) a1.toNatClampNeg (a4 - a2)) (rd_R (wr_L M (rd_R M a0 63) a1.toNatClampNeg (a4 - a2)) a0 62) 13 a1]) (pc' := 369) (by decide +kernel) rfl rfl (sw_a1 h5 sw_a0) ?_
              cases hf
              exact sf_void rfl (by decide +kernel)
            · refine sf_blk [(.lload 4, 0, 0, .null), (.lconst 0, 0, 0, .long (0 : Int64)), (.lcmp, 0, 0, .null)] (lv' := [(0, .ref a0), (1, .int a1), (2, .long a2), (4, .long a4), (6, .int a6), (7, .int a7)]) (st' := [.int (lg_cmp a4 (0 : Int64)), .int a1, .ref (rd_R (wr_L M (rd_R M a0 63) a1.toNatClampNeg (a4 - a2)) a0 62)]) (M1 := (wr_L M (rd_R M a0 63) a1.toNatClampNeg (a4 - a2))) (ob := []) (pc' := 360) (by decide +kernel) rfl rfl sw_a0 ?_
              refine sf_l_ne (off := 7) (tgt := 367) (by decide +kernel) (by decide) hf (fun hc hf => ?_) (fun hc hf => ?_)
              · obtain ⟨h6, hf⟩ := sw_gd_1 hf
                refine sf_blk [(.iconst (1), 0, 0, .int (1 : Int32)), (.iastore, 0, 0, .null)] (lv' := [(0, .ref a0), (1, .int a1), (2, .long a2), (4, .long a4), (6, .int a6), (7, .int a7)]) (st' := []) (M1 := (wr_I (wr_L M (rd_R M a0 63) a1.toNatClampNeg (a4 - a2)) (rd_R (wr_L M (rd_R M a0 63) a1.toNatClampNeg (a4 - a2)) a0 62) a1.toNatClampNeg (1 : Int32))) (ob := [sw_ar (wr_L M (rd_R M a0 63) a1.toNatClampNeg (a4 - a2)) (rd_R (wr_L M (rd_R M a0 63) a1.toNatClampNeg (a4 - a2)) a0 62) 13 a1]) (pc' := 369) (by decide +kernel) rfl rfl (sw_a1 h6 sw_a0) ?_
                cases hf
                exact sf_void rfl (by decide +kernel)
              · refine sf_blk [(.iconst (2), 0, 0, .int (2 : Int32))] (lv' := [(0, .ref a0), (1, .int a1), (2, .long a2), (4, .long a4), (6, .int a6), (7, .int a7)]) (st' := [.int (2 : Int32), .int a1, .ref (rd_R (wr_L M (rd_R M a0 63) a1.toNatClampNeg (a4 - a2)) a0 62)]) (M1 := (wr_L M (rd_R M a0 63) a1.toNatClampNeg (a4 - a2))) (ob := []) (pc' := 364) (by decide +kernel) rfl rfl sw_a0 ?_
                refine sf_goto (off := 4) (tgt := 368) (by decide +kernel) (by decide) ?_
                obtain ⟨h7, hf⟩ := sw_gd_1 hf
                refine sf_blk [(.iastore, 0, 0, .null)] (lv' := [(0, .ref a0), (1, .int a1), (2, .long a2), (4, .long a4), (6, .int a6), (7, .int a7)]) (st' := []) (M1 := (wr_I (wr_L M (rd_R M a0 63) a1.toNatClampNeg (a4 - a2)) (rd_R (wr_L M (rd_R M a0 63) a1.toNatClampNeg (a4 - a2)) a0 62) a1.toNatClampNeg (2 : Int32))) (ob := [sw_ar (wr_L M (rd_R M a0 63) a1.toNatClampNeg (a4 - a2)) (rd_R (wr_L M (rd_R M a0 63) a1.toNatClampNeg (a4 - a2)) a0 62) 13 a1]) (pc' := 369) (by decide +kernel) rfl rfl (sw_a1 h7 sw_a0) ?_
                cases hf
                exact sf_void rfl (by decide +kernel)
          · exact sf_weak [] rfl (t_Model_tells_346 hd hf)
      · refine sf_blk [(.iconst (3), 0, 0, .int (3 : Int32))] (lv' := [(0, .ref a0), (1, .int a1), (2, .long a2), (4, .long a4), (6, .int a6), (7, .int a7)]) (st' := [.int (3 : Int32), .int a1, .ref (rd_R (wr_L M (rd_R M a0 63) a1.toNatClampNeg (a4 - a2)) a0 62)]) (M1 := (wr_L M (rd_R M a0 63) a1.toNatClampNeg (a4 - a2))) (ob := []) (pc' := 330) (by decide +kernel) rfl rfl sw_a0 ?_
        refine sf_goto (off := 38) (tgt := 368) (by decide +kernel) (by decide) ?_
        obtain ⟨h8, hf⟩ := sw_gd_1 hf
        refine sf_blk [(.iastore, 0, 0, .null)] (lv' := [(0, .ref a0), (1, .int a1), (2, .long a2), (4, .long a4), (6, .int a6), (7, .int a7)]) (st' := []) (M1 := (wr_I (wr_L M (rd_R M a0 63) a1.toNatClampNeg (a4 - a2)) (rd_R (wr_L M (rd_R M a0 63) a1.toNatClampNeg (a4 - a2)) a0 62) a1.toNatClampNeg (3 : Int32))) (ob := [sw_ar (wr_L M (rd_R M a0 63) a1.toNatClampNeg (a4 - a2)) (rd_R (wr_L M (rd_R M a0 63) a1.toNatClampNeg (a4 - a2)) a0 62) 13 a1]) (pc' := 369) (by decide +kernel) rfl rfl (sw_a1 h8 sw_a0) ?_
        cases hf
        exact sf_void rfl (by decide +kernel)
    · obtain ⟨h9, hf⟩ := sw_gd_1 hf
      obtain ⟨h10, hf⟩ := sw_gd_1 hf
      obtain ⟨h11, hf⟩ := sw_gd_1 hf
      obtain ⟨h12, hf⟩ := sw_gd_1 hf
      refine sf_blk [(.sipush (241), 0, 0, .int (241 : Int32)), (.iload_n 1, 0, 0, .null), (.imul, 0, 0, .null), (.iload 7, 0, 0, .null), (.iadd, 0, 0, .null), (.istore 8, 0, 0, .null), (.aload_n 0, 0, 0, .null), (.getfield 71, 12, 56, .null), (.iload 8, 0, 0, .null), (.iaload, 0, 0, .null), (.i2l, 0, 0, .null), (.lstore 9, 0, 0, .null), (.aload_n 0, 0, 0, .null), (.getfield 74, 12, 57, .null), (.iload 8, 0, 0, .null), (.iaload, 0, 0, .null), (.i2l, 0, 0, .null), (.lstore 11, 0, 0, .null), (.lload 9, 0, 0, .null), (.lload 9, 0, 0, .null), (.lmul, 0, 0, .null), (.lload 11, 0, 0, .null), (.lload 11, 0, 0, .null), (.lmul, 0, 0, .null), (.ladd, 0, 0, .null), (.lstore 13, 0, 0, .null), (.lload 9, 0, 0, .null), (.aload_n 0, 0, 0, .null), (.getfield 80, 12, 59, .null), (.iload 8, 0, 0, .null), (.iaload, 0, 0, .null), (.i2l, 0, 0, .null), (.lmul, 0, 0, .null), (.lload 11, 0, 0, .null), (.aload_n 0, 0, 0, .null), (.getfield 77, 12, 58, .null), (.iload 8, 0, 0, .null), (.iaload, 0, 0, .null), (.i2l, 0, 0, .null), (.lmul, 0, 0, .null), (.lsub, 0, 0, .null), (.lstore 15, 0, 0, .null)] (lv' := [(15, .long (((rd_I M (rd_R M a0 56) (((241 : Int32) * a1) + a7).toNatClampNeg).toInt64 * (rd_I M (rd_R M a0 59) (((241 : Int32) * a1) + a7).toNatClampNeg).toInt64) - ((rd_I M (rd_R M a0 57) (((241 : Int32) * a1) + a7).toNatClampNeg).toInt64 * (rd_I M (rd_R M a0 58) (((241 : Int32) * a1) + a7).toNatClampNeg).toInt64))), (13, .long (((rd_I M (rd_R M a0 56) (((241 : Int32) * a1) + a7).toNatClampNeg).toInt64 * (rd_I M (rd_R M a0 56) (((241 : Int32) * a1) + a7).toNatClampNeg).toInt64) + ((rd_I M (rd_R M a0 57) (((241 : Int32) * a1) + a7).toNatClampNeg).toInt64 * (rd_I M (rd_R M a0 57) (((241 : Int32) * a1) + a7).toNatClampNeg).toInt64))), (11, .long (rd_I M (rd_R M a0 57) (((241 : Int32) * a1) + a7).toNatClampNeg).toInt64), (9, .long (rd_I M (rd_R M a0 56) (((241 : Int32) * a1) + a7).toNatClampNeg).toInt64), (8, .int (((241 : Int32) * a1) + a7)), (0, .ref a0), (1, .int a1), (2, .long a2), (4, .long a4), (6, .int a6), (7, .int a7)]) (st' := []) (M1 := M) (ob := [sw_ok M a0 12, sw_ar M (rd_R M a0 56) 13 (((241 : Int32) * a1) + a7), sw_ok M a0 12, sw_ar M (rd_R M a0 57) 13 (((241 : Int32) * a1) + a7), sw_ok M a0 12, sw_ar M (rd_R M a0 59) 13 (((241 : Int32) * a1) + a7), sw_ok M a0 12, sw_ar M (rd_R M a0 58) 13 (((241 : Int32) * a1) + a7)]) (pc' := 104) (by decide +kernel) rfl rfl (sw_a1 h1 (sw_a1 h9 (sw_a1 h1 (sw_a1 h10 (sw_a1 h1 (sw_a1 h11 (sw_a1 h1 (sw_a1 h12 sw_a0)))))))) ?_
      exact sf_weak [5, 6, 7, 8, 9, 10, 4, 3, 2, 1, 0] rfl (t_Model_tells_104 hd _ ih hf)
def f_Model_tells (N : Nat) (a0 : Nat) (a1 : Int32) (M : sw_M) : Option (sw_M) :=
  sw_gd [sw_ok M a0 12] (sw_gd [sw_ar M (rd_R M a0 66) 13 a1] (sw_gd [sw_ar (wr_I M (rd_R M a0 66) a1.toNatClampNeg (0 : Int32)) (rd_R (wr_I M (rd_R M a0 66) a1.toNatClampNeg (0 : Int32)) a0 67) 13 a1] (f_Model_tells_25 N N a0 a1 (0 : Int64) (0 : Int64) (0 : Int32) (0 : Int32) (wr_I (wr_I M (rd_R M a0 66) a1.toNatClampNeg (0 : Int32)) (rd_R (wr_I M (rd_R M a0 66) a1.toNatClampNeg (0 : Int32)) a0 67) a1.toNatClampNeg (0 : Int32)))))
set_option maxRecDepth 10000 in
theorem t_Model_tells {g : sw_G} {d n0 : Nat} (hd : 2 ≤ d) {r : sw_M} {N : Nat} {a0 : Nat} {a1 : Int32} {M : sw_M} (hf : f_Model_tells N a0 a1 M = some r) : sw_F g k_Model_tells d n0 none r 0 [(0, .ref a0), (1, .int a1)] [] M := by
  unfold f_Model_tells at hf
  obtain ⟨h1, hf⟩ := sw_gd_1 hf
  obtain ⟨h2, hf⟩ := sw_gd_1 hf
  obtain ⟨h3, hf⟩ := sw_gd_1 hf
  refine sf_blk [(.lconst 0, 0, 0, .long (0 : Int64)), (.lstore_n 2, 0, 0, .null), (.lconst 0, 0, 0, .long (0 : Int64)), (.lstore 4, 0, 0, .null), (.iconst (0), 0, 0, .int (0 : Int32)), (.istore 6, 0, 0, .null), (.aload_n 0, 0, 0, .null), (.getfield 103, 12, 66, .null), (.iload_n 1, 0, 0, .null), (.iconst (0), 0, 0, .int (0 : Int32)), (.iastore, 0, 0, .null), (.aload_n 0, 0, 0, .null), (.getfield 106, 12, 67, .null), (.iload_n 1, 0, 0, .null), (.iconst (0), 0, 0, .int (0 : Int32)), (.iastore, 0, 0, .null), (.iconst (0), 0, 0, .int (0 : Int32)), (.istore 7, 0, 0, .null)] (lv' := [(7, .int (0 : Int32)), (6, .int (0 : Int32)), (4, .long (0 : Int64)), (2, .long (0 : Int64)), (0, .ref a0), (1, .int a1)]) (st' := []) (M1 := (wr_I (wr_I M (rd_R M a0 66) a1.toNatClampNeg (0 : Int32)) (rd_R (wr_I M (rd_R M a0 66) a1.toNatClampNeg (0 : Int32)) a0 67) a1.toNatClampNeg (0 : Int32))) (ob := [sw_ok M a0 12, sw_ar M (rd_R M a0 66) 13 a1, sw_ok (wr_I M (rd_R M a0 66) a1.toNatClampNeg (0 : Int32)) a0 12, sw_ar (wr_I M (rd_R M a0 66) a1.toNatClampNeg (0 : Int32)) (rd_R (wr_I M (rd_R M a0 66) a1.toNatClampNeg (0 : Int32)) a0 67) 13 a1]) (pc' := 25) (by decide +kernel) rfl rfl (sw_a1 h1 (sw_a1 h2 (sw_a1 h1 (sw_a1 h3 sw_a0)))) ?_
  exact sf_weak [4, 5, 3, 2, 1, 0] rfl (t_Model_tells_25 hd _ _ _ _ _ _ _ _ hf)
theorem o_Model_tells (g : sw_G) {d : Nat} (hd : 2 ≤ d) {N : Nat} {a0 : Nat} {a1 : Int32} {M : sw_M} {r : sw_M} (hf : f_Model_tells N a0 a1 M = some r) : sw_Ok g k_Model_tells d [.ref a0, .int a1] M none r := sf_met (by decide +kernel) rfl (by decide) (Nat.le_of_ble_eq_true rfl) (t_Model_tells hd hf)
def f_Model_is (N : Nat) (a0 : Int32) (M : sw_M) : Option (Int64 × sw_M) :=
  if a0 = 0 then some ((0 : Int64), M)
  else some ((1 : Int64), M)
set_option maxRecDepth 10000 in
theorem t_Model_is {g : sw_G} {d n0 : Nat} (hd : 1 ≤ d) {r : Int64 × sw_M} {N : Nat} {a0 : Int32} {M : sw_M} (hf : f_Model_is N a0 M = some r) : sw_F g k_Model_is d n0 (some (.long r.1)) r.2 0 [(0, .int a0)] [] M := by
  unfold f_Model_is at hf
  refine sf_blk [(.iload_n 0, 0, 0, .null)] (lv' := [(0, .int a0)]) (st' := [.int a0]) (M1 := M) (ob := []) (pc' := 1) (by decide +kernel) rfl rfl sw_a0 ?_
  refine sf_z_eq (off := 7) (tgt := 8) (by decide +kernel) (by decide) hf (fun hc hf => ?_) (fun hc hf => ?_)
  · refine sf_blk [(.lconst 0, 0, 0, .long (0 : Int64))] (lv' := [(0, .int a0)]) (st' := [.long (0 : Int64)]) (M1 := M) (ob := []) (pc' := 9) (by decide +kernel) rfl rfl sw_a0 ?_
    cases hf
    exact sf_long rfl (by decide +kernel)
  · refine sf_blk [(.lconst 1, 0, 0, .long (1 : Int64))] (lv' := [(0, .int a0)]) (st' := [.long (1 : Int64)]) (M1 := M) (ob := []) (pc' := 5) (by decide +kernel) rfl rfl sw_a0 ?_
    refine sf_goto (off := 4) (tgt := 9) (by decide +kernel) (by decide) ?_
    cases hf
    exact sf_long rfl (by decide +kernel)
theorem o_Model_is (g : sw_G) {d : Nat} (hd : 1 ≤ d) {N : Nat} {a0 : Int32} {M : sw_M} {r : Int64 × sw_M} (hf : f_Model_is N a0 M = some r) : sw_Ok g k_Model_is d [.int a0] M (some (.long r.1)) r.2 := sf_met (by decide +kernel) rfl (by decide) (Nat.le_of_ble_eq_true rfl) (t_Model_is hd hf)
def f_Model_isBounded (N : Nat) (a0 : Int64) (M : sw_M) : Option (Int32 × sw_M) :=
  if (1000000000000000 : Int64) < a0 then some ((0 : Int32), M)
  else if a0 < (-1000000000000000 : Int64) then some ((0 : Int32), M)
  else some ((1 : Int32), M)
set_option maxRecDepth 10000 in
theorem t_Model_isBounded {g : sw_G} {d n0 : Nat} (hd : 1 ≤ d) {r : Int32 × sw_M} {N : Nat} {a0 : Int64} {M : sw_M} (hf : f_Model_isBounded N a0 M = some r) : sw_F g k_Model_isBounded d n0 (some (.int r.1)) r.2 0 [(0, .long a0)] [] M := by
  unfold f_Model_isBounded at hf
  refine sf_blk [(.lload_n 0, 0, 0, .null), (.ldc2_w 412, 0, 0, .long (1000000000000000 : Int64)), (.lcmp, 0, 0, .null)] (lv' := [(0, .long a0)]) (st' := [.int (lg_cmp a0 (1000000000000000 : Int64))]) (M1 := M) (ob := []) (pc' := 5) (by decide +kernel) rfl rfl sw_a0 ?_
  refine sf_l_gt (off := 15) (tgt := 20) (by decide +kernel) (by decide) hf (fun hc hf => ?_) (fun hc hf => ?_)
  · refine sf_blk [(.iconst (0), 0, 0, .int (0 : Int32))] (lv' := [(0, .long a0)]) (st' := [.int (0 : Int32)]) (M1 := M) (ob := []) (pc' := 21) (by decide +kernel) rfl rfl sw_a0 ?_
    cases hf
    exact sf_bool rfl rfl (by decide +kernel)
  · refine sf_blk [(.lload_n 0, 0, 0, .null), (.ldc2_w 414, 0, 0, .long (-1000000000000000 : Int64)), (.lcmp, 0, 0, .null)] (lv' := [(0, .long a0)]) (st' := [.int (lg_cmp a0 (-1000000000000000 : Int64))]) (M1 := M) (ob := []) (pc' := 13) (by decide +kernel) rfl rfl sw_a0 ?_
    refine sf_l_lt (off := 7) (tgt := 20) (by decide +kernel) (by decide) hf (fun hc hf => ?_) (fun hc hf => ?_)
    · refine sf_blk [(.iconst (0), 0, 0, .int (0 : Int32))] (lv' := [(0, .long a0)]) (st' := [.int (0 : Int32)]) (M1 := M) (ob := []) (pc' := 21) (by decide +kernel) rfl rfl sw_a0 ?_
      cases hf
      exact sf_bool rfl rfl (by decide +kernel)
    · refine sf_blk [(.iconst (1), 0, 0, .int (1 : Int32))] (lv' := [(0, .long a0)]) (st' := [.int (1 : Int32)]) (M1 := M) (ob := []) (pc' := 17) (by decide +kernel) rfl rfl sw_a0 ?_
      refine sf_goto (off := 4) (tgt := 21) (by decide +kernel) (by decide) ?_
      cases hf
      exact sf_bool rfl rfl (by decide +kernel)
theorem o_Model_isBounded (g : sw_G) {d : Nat} (hd : 1 ≤ d) {N : Nat} {a0 : Int64} {M : sw_M} {r : Int32 × sw_M} (hf : f_Model_isBounded N a0 M = some r) : sw_Ok g k_Model_isBounded d [.long a0] M (some (.int r.1)) r.2 := sf_met (by decide +kernel) rfl (by decide) (Nat.le_of_ble_eq_true rfl) (t_Model_isBounded hd hf)
def f_Model_puts (N : Nat) (a0 : Nat) (a1 : Int64) (M : sw_M) : Option (Int32 × sw_M) :=
  sw_gd [sw_ok M a0 12] (sw_gd [sw_ar M (rd_R M a0 69) 16 (rd_I M a0 70)] ((f_Model_isBounded N a1 (wr_I (wr_L M (rd_R M a0 69) (rd_I M a0 70).toNatClampNeg a1) a0 70 ((rd_I (wr_L M (rd_R M a0 69) (rd_I M a0 70).toNatClampNeg a1) a0 70) + (1 : Int32)))).bind (fun u3 => sw_gd [sw_bz u3.1] (some (u3.1, u3.2)))))
set_option maxRecDepth 10000 in
theorem t_Model_puts {g : sw_G} {d n0 : Nat} (hd : 2 ≤ d) {r : Int32 × sw_M} {N : Nat} {a0 : Nat} {a1 : Int64} {M : sw_M} (hf : f_Model_puts N a0 a1 M = some r) : sw_F g k_Model_puts d n0 (some (.int r.1)) r.2 0 [(0, .ref a0), (1, .long a1)] [] M := by
  unfold f_Model_puts at hf
  obtain ⟨h1, hf⟩ := sw_gd_1 hf
  obtain ⟨h2, hf⟩ := sw_gd_1 hf
  refine sf_blk [(.aload_n 0, 0, 0, .null), (.getfield 112, 12, 69, .null), (.aload_n 0, 0, 0, .null), (.getfield 416, 12, 70, .null), (.lload_n 1, 0, 0, .null), (.lastore, 0, 0, .null), (.aload_n 0, 0, 0, .null), (.dup, 0, 0, .null), (.getfield 416, 12, 70, .null), (.iconst (1), 0, 0, .int (1 : Int32)), (.iadd, 0, 0, .null), (.putfield 416, 12, 70, .null), (.lload_n 1, 0, 0, .null)] (lv' := [(0, .ref a0), (1, .long a1)]) (st' := [.long a1]) (M1 := (wr_I (wr_L M (rd_R M a0 69) (rd_I M a0 70).toNatClampNeg a1) a0 70 ((rd_I (wr_L M (rd_R M a0 69) (rd_I M a0 70).toNatClampNeg a1) a0 70) + (1 : Int32)))) (ob := [sw_ok M a0 12, sw_ok M a0 12, sw_ar M (rd_R M a0 69) 16 (rd_I M a0 70), sw_ok (wr_L M (rd_R M a0 69) (rd_I M a0 70).toNatClampNeg a1) a0 12, sw_ok (wr_L M (rd_R M a0 69) (rd_I M a0 70).toNatClampNeg a1) a0 12]) (pc' := 21) (by decide +kernel) rfl rfl (sw_a1 h1 (sw_a1 h1 (sw_a1 h2 (sw_a1 h1 (sw_a1 h1 sw_a0))))) ?_
  obtain ⟨u3, hu3, hf⟩ := sw_bnd hf
  refine sf_callS (i := 430) (k2 := k_Model_isBounded) (d2 := d - 1) (As := [.long a1]) (st := []) mf_Model_isBounded mi_Model_isBounded (sw_m7 217 (by decide +kernel)) (by decide +kernel) rfl (Nat.le_of_ble_eq_true rfl) (by omega) (o_Model_isBounded g (d := d - 1) (by omega) hu3) ?_
  show sw_F _ _ _ _ _ _ 24 [(0, .ref a0), (1, .long a1)] [.int u3.1] u3.2
  obtain ⟨h4, hf⟩ := sw_gd_1 hf
  cases hf
  exact sf_bool rfl h4 (by decide +kernel)
theorem o_Model_puts (g : sw_G) {d : Nat} (hd : 2 ≤ d) {N : Nat} {a0 : Nat} {a1 : Int64} {M : sw_M} {r : Int32 × sw_M} (hf : f_Model_puts N a0 a1 M = some r) : sw_Ok g k_Model_puts d [.ref a0, .long a1] M (some (.int r.1)) r.2 := sf_met (by decide +kernel) rfl (by decide) (Nat.le_of_ble_eq_true rfl) (t_Model_puts hd hf)
def f_Model_does_389 (N : Nat) (a0 : Nat) (a2 : Int64) (a4 : Int64) (M : sw_M) : Option (Int32 × sw_M) :=
  sw_gd [sw_ok M a0 12] ((f_Model_puts N a0 (a2 * a4) M).bind (fun u2 => if u2.1 = 0 then some ((0 : Int32), u2.2)
  else some ((1 : Int32), u2.2)))
set_option maxRecDepth 10000 in
theorem t_Model_does_389 {g : sw_G} {d n0 : Nat} (hd : 3 ≤ d) {r : Int32 × sw_M} {N : Nat} {a0 : Nat} {a2 : Int64} {a4 : Int64} {M : sw_M} (hf : f_Model_does_389 N a0 a2 a4 M = some r) : sw_F g k_Model_does d n0 (some (.int r.1)) r.2 389 [(0, .ref a0), (2, .long a2), (4, .long a4)] [] M := by
  unfold f_Model_does_389 at hf
  obtain ⟨h1, hf⟩ := sw_gd_1 hf
  refine sf_blk [(.aload_n 0, 0, 0, .null), (.lload_n 2, 0, 0, .null), (.lload 4, 0, 0, .null), (.lmul, 0, 0, .null)] (lv' := [(0, .ref a0), (2, .long a2), (4, .long a4)]) (st' := [.long (a2 * a4), .ref a0]) (M1 := M) (ob := []) (pc' := 394) (by decide +kernel) rfl rfl sw_a0 ?_
  obtain ⟨u2, hu2, hf⟩ := sw_bnd hf
  refine sf_callV (i := 426) (k2 := k_Model_puts) (d2 := d - 1) (As := [.long (a2 * a4)]) (st := []) (q := a0) (ci := 12) mf_Model_puts mi_Model_puts ms_Model_puts (sw_m7 213 (by decide +kernel)) rfl (by decide) (by decide +kernel) rfl (Nat.le_of_ble_eq_true rfl) (by omega) h1 (o_Model_puts g (d := d - 1) (by omega) hu2) ?_
  show sw_F _ _ _ _ _ _ 397 [(0, .ref a0), (2, .long a2), (4, .long a4)] [.int u2.1] u2.2
  refine sf_z_eq (off := 7) (tgt := 404) (by decide +kernel) (by decide) hf (fun hc hf => ?_) (fun hc hf => ?_)
  · refine sf_blk [(.iconst (0), 0, 0, .int (0 : Int32))] (lv' := [(0, .ref a0), (2, .long a2), (4, .long a4)]) (st' := [.int (0 : Int32)]) (M1 := u2.2) (ob := []) (pc' := 405) (by decide +kernel) rfl rfl sw_a0 ?_
    cases hf
    exact sf_bool rfl rfl (by decide +kernel)
  · refine sf_blk [(.iconst (1), 0, 0, .int (1 : Int32))] (lv' := [(0, .ref a0), (2, .long a2), (4, .long a4)]) (st' := [.int (1 : Int32)]) (M1 := u2.2) (ob := []) (pc' := 401) (by decide +kernel) rfl rfl sw_a0 ?_
    refine sf_goto (off := 4) (tgt := 405) (by decide +kernel) (by decide) ?_
    cases hf
    exact sf_bool rfl rfl (by decide +kernel)
def f_Model_does_241 (N : Nat) (b0 : Int32) (b1 : Nat) (M : sw_M) : Option (Int32 × sw_M) :=
  (f_Model_is N b0 M).bind (fun u1 => sw_gd [sw_ok u1.2 b1 12] ((f_Model_puts N b1 u1.1 u1.2).bind (fun u3 => sw_gd [sw_bz u3.1] (some (u3.1, u3.2)))))
set_option maxRecDepth 10000 in
theorem t_Model_does_241 {g : sw_G} {d n0 : Nat} (hd : 3 ≤ d) {r : Int32 × sw_M} {N : Nat} {b0 : Int32} {b1 : Nat} {M : sw_M} (hf : f_Model_does_241 N b0 b1 M = some r) : sw_F g k_Model_does d n0 (some (.int r.1)) r.2 241 [] [.int b0, .ref b1] M := by
  unfold f_Model_does_241 at hf
  obtain ⟨u1, hu1, hf⟩ := sw_bnd hf
  refine sf_callS (i := 433) (k2 := k_Model_is) (d2 := d - 1) (As := [.int b0]) (st := [.ref b1]) mf_Model_is mi_Model_is (sw_m7 210 (by decide +kernel)) (by decide +kernel) rfl (Nat.le_of_ble_eq_true rfl) (by omega) (o_Model_is g (d := d - 1) (by omega) hu1) ?_
  show sw_F _ _ _ _ _ _ 244 [] [.long u1.1, .ref b1] u1.2
  obtain ⟨h2, hf⟩ := sw_gd_1 hf
  obtain ⟨u3, hu3, hf⟩ := sw_bnd hf
  refine sf_callV (i := 426) (k2 := k_Model_puts) (d2 := d - 1) (As := [.long u1.1]) (st := []) (q := b1) (ci := 12) mf_Model_puts mi_Model_puts ms_Model_puts (sw_m7 213 (by decide +kernel)) rfl (by decide) (by decide +kernel) rfl (Nat.le_of_ble_eq_true rfl) (by omega) h2 (o_Model_puts g (d := d - 1) (by omega) hu3) ?_
  show sw_F _ _ _ _ _ _ 247 [] [.int u3.1] u3.2
  obtain ⟨h4, hf⟩ := sw_gd_1 hf
  cases hf
  exact sf_bool rfl h4 (by decide +kernel)
def f_Model_does_281 (N : Nat) (b0 : Int32) (b1 : Nat) (M : sw_M) : Option (Int32 × sw_M) :=
  (f_Model_is N b0 M).bind (fun u1 => sw_gd [sw_ok u1.2 b1 12] ((f_Model_puts N b1 u1.1 u1.2).bind (fun u3 => sw_gd [sw_bz u3.1] (some (u3.1, u3.2)))))
set_option maxRecDepth 10000 in
theorem t_Model_does_281 {g : sw_G} {d n0 : Nat} (hd : 3 ≤ d) {r : Int32 × sw_M} {N : Nat} {b0 : Int32} {b1 : Nat} {M : sw_M} (hf : f_Model_does_281 N b0 b1 M = some r) : sw_F g k_Model_does d n0 (some (.int r.1)) r.2 281 [] [.int b0, .ref b1] M := by
  unfold f_Model_does_281 at hf
  obtain ⟨u1, hu1, hf⟩ := sw_bnd hf
  refine sf_callS (i := 433) (k2 := k_Model_is) (d2 := d - 1) (As := [.int b0]) (st := [.ref b1]) mf_Model_is mi_Model_is (sw_m7 210 (by decide +kernel)) (by decide +kernel) rfl (Nat.le_of_ble_eq_true rfl) (by omega) (o_Model_is g (d := d - 1) (by omega) hu1) ?_
  show sw_F _ _ _ _ _ _ 284 [] [.long u1.1, .ref b1] u1.2
  obtain ⟨h2, hf⟩ := sw_gd_1 hf
  obtain ⟨u3, hu3, hf⟩ := sw_bnd hf
  refine sf_callV (i := 426) (k2 := k_Model_puts) (d2 := d - 1) (As := [.long u1.1]) (st := []) (q := b1) (ci := 12) mf_Model_puts mi_Model_puts ms_Model_puts (sw_m7 213 (by decide +kernel)) rfl (by decide) (by decide +kernel) rfl (Nat.le_of_ble_eq_true rfl) (by omega) h2 (o_Model_puts g (d := d - 1) (by omega) hu3) ?_
  show sw_F _ _ _ _ _ _ 287 [] [.int u3.1] u3.2
  obtain ⟨h4, hf⟩ := sw_gd_1 hf
  cases hf
  exact sf_bool rfl h4 (by decide +kernel)
def f_Model_does_341 (N : Nat) (b0 : Int32) (b1 : Nat) (M : sw_M) : Option (Int32 × sw_M) :=
  (f_Model_is N b0 M).bind (fun u1 => sw_gd [sw_ok u1.2 b1 12] ((f_Model_puts N b1 u1.1 u1.2).bind (fun u3 => sw_gd [sw_bz u3.1] (some (u3.1, u3.2)))))
set_option maxRecDepth 10000 in
theorem t_Model_does_341 {g : sw_G} {d n0 : Nat} (hd : 3 ≤ d) {r : Int32 × sw_M} {N : Nat} {b0 : Int32} {b1 : Nat} {M : sw_M} (hf : f_Model_does_341 N b0 b1 M = some r) : sw_F g k_Model_does d n0 (some (.int r.1)) r.2 341 [] [.int b0, .ref b1] M := by
  unfold f_Model_does_341 at hf
  obtain ⟨u1, hu1, hf⟩ := sw_bnd hf
  refine sf_callS (i := 433) (k2 := k_Model_is) (d2 := d - 1) (As := [.int b0]) (st := [.ref b1]) mf_Model_is mi_Model_is (sw_m7 210 (by decide +kernel)) (by decide +kernel) rfl (Nat.le_of_ble_eq_true rfl) (by omega) (o_Model_is g (d := d - 1) (by omega) hu1) ?_
  show sw_F _ _ _ _ _ _ 344 [] [.long u1.1, .ref b1] u1.2
  obtain ⟨h2, hf⟩ := sw_gd_1 hf
  obtain ⟨u3, hu3, hf⟩ := sw_bnd hf
  refine sf_callV (i := 426) (k2 := k_Model_puts) (d2 := d - 1) (As := [.long u1.1]) (st := []) (q := b1) (ci := 12) mf_Model_puts mi_Model_puts ms_Model_puts (sw_m7 213 (by decide +kernel)) rfl (by decide) (by decide +kernel) rfl (Nat.le_of_ble_eq_true rfl) (by omega) h2 (o_Model_puts g (d := d - 1) (by omega) hu3) ?_
  show sw_F _ _ _ _ _ _ 347 [] [.int u3.1] u3.2
  obtain ⟨h4, hf⟩ := sw_gd_1 hf
  cases hf
  exact sf_bool rfl h4 (by decide +kernel)
def f_Model_does_261 (N : Nat) (b0 : Int32) (b1 : Nat) (M : sw_M) : Option (Int32 × sw_M) :=
  (f_Model_is N b0 M).bind (fun u1 => sw_gd [sw_ok u1.2 b1 12] ((f_Model_puts N b1 u1.1 u1.2).bind (fun u3 => sw_gd [sw_bz u3.1] (some (u3.1, u3.2)))))
set_option maxRecDepth 10000 in
theorem t_Model_does_261 {g : sw_G} {d n0 : Nat} (hd : 3 ≤ d) {r : Int32 × sw_M} {N : Nat} {b0 : Int32} {b1 : Nat} {M : sw_M} (hf : f_Model_does_261 N b0 b1 M = some r) : sw_F g k_Model_does d n0 (some (.int r.1)) r.2 261 [] [.int b0, .ref b1] M := by
  unfold f_Model_does_261 at hf
  obtain ⟨u1, hu1, hf⟩ := sw_bnd hf
  refine sf_callS (i := 433) (k2 := k_Model_is) (d2 := d - 1) (As := [.int b0]) (st := [.ref b1]) mf_Model_is mi_Model_is (sw_m7 210 (by decide +kernel)) (by decide +kernel) rfl (Nat.le_of_ble_eq_true rfl) (by omega) (o_Model_is g (d := d - 1) (by omega) hu1) ?_
  show sw_F _ _ _ _ _ _ 264 [] [.long u1.1, .ref b1] u1.2
  obtain ⟨h2, hf⟩ := sw_gd_1 hf
  obtain ⟨u3, hu3, hf⟩ := sw_bnd hf
  refine sf_callV (i := 426) (k2 := k_Model_puts) (d2 := d - 1) (As := [.long u1.1]) (st := []) (q := b1) (ci := 12) mf_Model_puts mi_Model_puts ms_Model_puts (sw_m7 213 (by decide +kernel)) rfl (by decide) (by decide +kernel) rfl (Nat.le_of_ble_eq_true rfl) (by omega) h2 (o_Model_puts g (d := d - 1) (by omega) hu3) ?_
  show sw_F _ _ _ _ _ _ 267 [] [.int u3.1] u3.2
  obtain ⟨h4, hf⟩ := sw_gd_1 hf
  cases hf
  exact sf_bool rfl h4 (by decide +kernel)
def f_Model_does_301 (N : Nat) (b0 : Int32) (b1 : Nat) (M : sw_M) : Option (Int32 × sw_M) :=
  (f_Model_is N b0 M).bind (fun u1 => sw_gd [sw_ok u1.2 b1 12] ((f_Model_puts N b1 u1.1 u1.2).bind (fun u3 => sw_gd [sw_bz u3.1] (some (u3.1, u3.2)))))
set_option maxRecDepth 10000 in
theorem t_Model_does_301 {g : sw_G} {d n0 : Nat} (hd : 3 ≤ d) {r : Int32 × sw_M} {N : Nat} {b0 : Int32} {b1 : Nat} {M : sw_M} (hf : f_Model_does_301 N b0 b1 M = some r) : sw_F g k_Model_does d n0 (some (.int r.1)) r.2 301 [] [.int b0, .ref b1] M := by
  unfold f_Model_does_301 at hf
  obtain ⟨u1, hu1, hf⟩ := sw_bnd hf
  refine sf_callS (i := 433) (k2 := k_Model_is) (d2 := d - 1) (As := [.int b0]) (st := [.ref b1]) mf_Model_is mi_Model_is (sw_m7 210 (by decide +kernel)) (by decide +kernel) rfl (Nat.le_of_ble_eq_true rfl) (by omega) (o_Model_is g (d := d - 1) (by omega) hu1) ?_
  show sw_F _ _ _ _ _ _ 304 [] [.long u1.1, .ref b1] u1.2
  obtain ⟨h2, hf⟩ := sw_gd_1 hf
  obtain ⟨u3, hu3, hf⟩ := sw_bnd hf
  refine sf_callV (i := 426) (k2 := k_Model_puts) (d2 := d - 1) (As := [.long u1.1]) (st := []) (q := b1) (ci := 12) mf_Model_puts mi_Model_puts ms_Model_puts (sw_m7 213 (by decide +kernel)) rfl (by decide) (by decide +kernel) rfl (Nat.le_of_ble_eq_true rfl) (by omega) h2 (o_Model_puts g (d := d - 1) (by omega) hu3) ?_
  show sw_F _ _ _ _ _ _ 307 [] [.int u3.1] u3.2
  obtain ⟨h4, hf⟩ := sw_gd_1 hf
  cases hf
  exact sf_bool rfl h4 (by decide +kernel)
def f_Model_does_321 (N : Nat) (b0 : Int32) (b1 : Nat) (M : sw_M) : Option (Int32 × sw_M) :=
  (f_Model_is N b0 M).bind (fun u1 => sw_gd [sw_ok u1.2 b1 12] ((f_Model_puts N b1 u1.1 u1.2).bind (fun u3 => sw_gd [sw_bz u3.1] (some (u3.1, u3.2)))))
set_option maxRecDepth 10000 in
theorem t_Model_does_321 {g : sw_G} {d n0 : Nat} (hd : 3 ≤ d) {r : Int32 × sw_M} {N : Nat} {b0 : Int32} {b1 : Nat} {M : sw_M} (hf : f_Model_does_321 N b0 b1 M = some r) : sw_F g k_Model_does d n0 (some (.int r.1)) r.2 321 [] [.int b0, .ref b1] M := by
  unfold f_Model_does_321 at hf
  obtain ⟨u1, hu1, hf⟩ := sw_bnd hf
  refine sf_callS (i := 433) (k2 := k_Model_is) (d2 := d - 1) (As := [.int b0]) (st := [.ref b1]) mf_Model_is mi_Model_is (sw_m7 210 (by decide +kernel)) (by decide +kernel) rfl (Nat.le_of_ble_eq_true rfl) (by omega) (o_Model_is g (d := d - 1) (by omega) hu1) ?_
  show sw_F _ _ _ _ _ _ 324 [] [.long u1.1, .ref b1] u1.2
  obtain ⟨h2, hf⟩ := sw_gd_1 hf
  obtain ⟨u3, hu3, hf⟩ := sw_bnd hf
  refine sf_callV (i := 426) (k2 := k_Model_puts) (d2 := d - 1) (As := [.long u1.1]) (st := []) (q := b1) (ci := 12) mf_Model_puts mi_Model_puts ms_Model_puts (sw_m7 213 (by decide +kernel)) rfl (by decide) (by decide +kernel) rfl (Nat.le_of_ble_eq_true rfl) (by omega) h2 (o_Model_puts g (d := d - 1) (by omega) hu3) ?_
  show sw_F _ _ _ _ _ _ 327 [] [.int u3.1] u3.2
  obtain ⟨h4, hf⟩ := sw_gd_1 hf
  cases hf
  exact sf_bool rfl h4 (by decide +kernel)
def f_Model_does_221 (N : Nat) (b0 : Int32) (b1 : Nat) (M : sw_M) : Option (Int32 × sw_M) :=
  (f_Model_is N b0 M).bind (fun u1 => sw_gd [sw_ok u1.2 b1 12] ((f_Model_puts N b1 u1.1 u1.2).bind (fun u3 => sw_gd [sw_bz u3.1] (some (u3.1, u3.2)))))
set_option maxRecDepth 10000 in
theorem t_Model_does_221 {g : sw_G} {d n0 : Nat} (hd : 3 ≤ d) {r : Int32 × sw_M} {N : Nat} {b0 : Int32} {b1 : Nat} {M : sw_M} (hf : f_Model_does_221 N b0 b1 M = some r) : sw_F g k_Model_does d n0 (some (.int r.1)) r.2 221 [] [.int b0, .ref b1] M := by
  unfold f_Model_does_221 at hf
  obtain ⟨u1, hu1, hf⟩ := sw_bnd hf
  refine sf_callS (i := 433) (k2 := k_Model_is) (d2 := d - 1) (As := [.int b0]) (st := [.ref b1]) mf_Model_is mi_Model_is (sw_m7 210 (by decide +kernel)) (by decide +kernel) rfl (Nat.le_of_ble_eq_true rfl) (by omega) (o_Model_is g (d := d - 1) (by omega) hu1) ?_
  show sw_F _ _ _ _ _ _ 224 [] [.long u1.1, .ref b1] u1.2
  obtain ⟨h2, hf⟩ := sw_gd_1 hf
  obtain ⟨u3, hu3, hf⟩ := sw_bnd hf
  refine sf_callV (i := 426) (k2 := k_Model_puts) (d2 := d - 1) (As := [.long u1.1]) (st := []) (q := b1) (ci := 12) mf_Model_puts mi_Model_puts ms_Model_puts (sw_m7 213 (by decide +kernel)) rfl (by decide) (by decide +kernel) rfl (Nat.le_of_ble_eq_true rfl) (by omega) h2 (o_Model_puts g (d := d - 1) (by omega) hu3) ?_
  show sw_F _ _ _ _ _ _ 227 [] [.int u3.1] u3.2
  obtain ⟨h4, hf⟩ := sw_gd_1 hf
  cases hf
  exact sf_bool rfl h4 (by decide +kernel)
def f_Model_does_220 (N : Nat) (b0 : Nat) (M : sw_M) : Option (Int32 × sw_M) :=
  f_Model_does_221 N (0 : Int32) b0 M
set_option maxRecDepth 10000 in
theorem t_Model_does_220 {g : sw_G} {d n0 : Nat} (hd : 3 ≤ d) {r : Int32 × sw_M} {N : Nat} {b0 : Nat} {M : sw_M} (hf : f_Model_does_220 N b0 M = some r) : sw_F g k_Model_does d n0 (some (.int r.1)) r.2 220 [] [.ref b0] M := by
  unfold f_Model_does_220 at hf
  refine sf_blk [(.iconst (0), 0, 0, .int (0 : Int32))] (lv' := []) (st' := [.int (0 : Int32), .ref b0]) (M1 := M) (ob := []) (pc' := 221) (by decide +kernel) rfl rfl sw_a0 ?_
  exact sf_weak [] rfl (t_Model_does_221 hd hf)
def f_Model_does_195 (N : Nat) (b0 : Int32) (b1 : Nat) (M : sw_M) : Option (Int32 × sw_M) :=
  (f_Model_is N b0 M).bind (fun u1 => sw_gd [sw_ok u1.2 b1 12] ((f_Model_puts N b1 u1.1 u1.2).bind (fun u3 => sw_gd [sw_bz u3.1] (some (u3.1, u3.2)))))
set_option maxRecDepth 10000 in
theorem t_Model_does_195 {g : sw_G} {d n0 : Nat} (hd : 3 ≤ d) {r : Int32 × sw_M} {N : Nat} {b0 : Int32} {b1 : Nat} {M : sw_M} (hf : f_Model_does_195 N b0 b1 M = some r) : sw_F g k_Model_does d n0 (some (.int r.1)) r.2 195 [] [.int b0, .ref b1] M := by
  unfold f_Model_does_195 at hf
  obtain ⟨u1, hu1, hf⟩ := sw_bnd hf
  refine sf_callS (i := 433) (k2 := k_Model_is) (d2 := d - 1) (As := [.int b0]) (st := [.ref b1]) mf_Model_is mi_Model_is (sw_m7 210 (by decide +kernel)) (by decide +kernel) rfl (Nat.le_of_ble_eq_true rfl) (by omega) (o_Model_is g (d := d - 1) (by omega) hu1) ?_
  show sw_F _ _ _ _ _ _ 198 [] [.long u1.1, .ref b1] u1.2
  obtain ⟨h2, hf⟩ := sw_gd_1 hf
  obtain ⟨u3, hu3, hf⟩ := sw_bnd hf
  refine sf_callV (i := 426) (k2 := k_Model_puts) (d2 := d - 1) (As := [.long u1.1]) (st := []) (q := b1) (ci := 12) mf_Model_puts mi_Model_puts ms_Model_puts (sw_m7 213 (by decide +kernel)) rfl (by decide) (by decide +kernel) rfl (Nat.le_of_ble_eq_true rfl) (by omega) h2 (o_Model_puts g (d := d - 1) (by omega) hu3) ?_
  show sw_F _ _ _ _ _ _ 201 [] [.int u3.1] u3.2
  obtain ⟨h4, hf⟩ := sw_gd_1 hf
  cases hf
  exact sf_bool rfl h4 (by decide +kernel)
def f_Model_does_190 (N : Nat) (b0 : Nat) (M : sw_M) : Option (Int32 × sw_M) :=
  f_Model_does_195 N (1 : Int32) b0 M
set_option maxRecDepth 10000 in
theorem t_Model_does_190 {g : sw_G} {d n0 : Nat} (hd : 3 ≤ d) {r : Int32 × sw_M} {N : Nat} {b0 : Nat} {M : sw_M} (hf : f_Model_does_190 N b0 M = some r) : sw_F g k_Model_does d n0 (some (.int r.1)) r.2 190 [] [.ref b0] M := by
  unfold f_Model_does_190 at hf
  refine sf_blk [(.iconst (1), 0, 0, .int (1 : Int32))] (lv' := []) (st' := [.int (1 : Int32), .ref b0]) (M1 := M) (ob := []) (pc' := 191) (by decide +kernel) rfl rfl sw_a0 ?_
  refine sf_goto (off := 4) (tgt := 195) (by decide +kernel) (by decide) ?_
  exact sf_weak [] rfl (t_Model_does_195 hd hf)
def f_Model_does_38 (N : Nat) (b0 : Int32) (b1 : Int32) (b2 : Nat) (M : sw_M) : Option (Int32 × sw_M) :=
  (f_Model_is N b0 M).bind (fun u1 => sw_gd [sw_ar u1.2 b2 16 b1] (some ((1 : Int32), (wr_L u1.2 b2 b1.toNatClampNeg u1.1))))
set_option maxRecDepth 10000 in
theorem t_Model_does_38 {g : sw_G} {d n0 : Nat} (hd : 3 ≤ d) {r : Int32 × sw_M} {N : Nat} {b0 : Int32} {b1 : Int32} {b2 : Nat} {M : sw_M} (hf : f_Model_does_38 N b0 b1 b2 M = some r) : sw_F g k_Model_does d n0 (some (.int r.1)) r.2 38 [] [.int b0, .int b1, .ref b2] M := by
  unfold f_Model_does_38 at hf
  obtain ⟨u1, hu1, hf⟩ := sw_bnd hf
  refine sf_callS (i := 433) (k2 := k_Model_is) (d2 := d - 1) (As := [.int b0]) (st := [.int b1, .ref b2]) mf_Model_is mi_Model_is (sw_m7 210 (by decide +kernel)) (by decide +kernel) rfl (Nat.le_of_ble_eq_true rfl) (by omega) (o_Model_is g (d := d - 1) (by omega) hu1) ?_
  show sw_F _ _ _ _ _ _ 41 [] [.long u1.1, .int b1, .ref b2] u1.2
  obtain ⟨h2, hf⟩ := sw_gd_1 hf
  refine sf_blk [(.lastore, 0, 0, .null), (.iconst (1), 0, 0, .int (1 : Int32))] (lv' := []) (st' := [.int (1 : Int32)]) (M1 := (wr_L u1.2 b2 b1.toNatClampNeg u1.1)) (ob := [sw_ar u1.2 b2 16 b1]) (pc' := 43) (by decide +kernel) rfl rfl (sw_a1 h2 sw_a0) ?_
  cases hf
  exact sf_bool rfl rfl (by decide +kernel)
def f_Model_does (N : Nat) (a0 : Nat) (a1 : Int32) (M : sw_M) : Option (Int32 × sw_M) :=
  if a1 = (260 : Int32) then sw_gd [sw_ok M a0 12] (sw_gd [sw_ar M (rd_R M a0 69) 16 ((rd_I M a0 70) - (1 : Int32))] (if (rd_L M (rd_R M a0 69) ((rd_I M a0 70) - (1 : Int32)).toNatClampNeg) = (0 : Int64) then f_Model_does_38 N (1 : Int32) ((rd_I M a0 70) - (1 : Int32)) (rd_R M a0 69) M
  else f_Model_does_38 N (0 : Int32) ((rd_I M a0 70) - (1 : Int32)) (rd_R M a0 69) M))
  else sw_gd [sw_ok M a0 12] (sw_gd [sw_ar (wr_I M a0 70 ((rd_I M a0 70) - (2 : Int32))) (rd_R (wr_I M a0 70 ((rd_I M a0 70) - (2 : Int32))) a0 69) 16 (rd_I (wr_I M a0 70 ((rd_I M a0 70) - (2 : Int32))) a0 70)] (sw_gd [sw_ar (wr_I M a0 70 ((rd_I M a0 70) - (2 : Int32))) (rd_R (wr_I M a0 70 ((rd_I M a0 70) - (2 : Int32))) a0 69) 16 ((rd_I (wr_I M a0 70 ((rd_I M a0 70) - (2 : Int32))) a0 70) + (1 : Int32))] (if a1 = (42 : Int32) then if (rd_L (wr_I M a0 70 ((rd_I M a0 70) - (2 : Int32))) (rd_R (wr_I M a0 70 ((rd_I M a0 70) - (2 : Int32))) a0 69) (rd_I (wr_I M a0 70 ((rd_I M a0 70) - (2 : Int32))) a0 70).toNatClampNeg) = (0 : Int64) then f_Model_does_389 N a0 (rd_L (wr_I M a0 70 ((rd_I M a0 70) - (2 : Int32))) (rd_R (wr_I M a0 70 ((rd_I M a0 70) - (2 : Int32))) a0 69) (rd_I (wr_I M a0 70 ((rd_I M a0 70) - (2 : Int32))) a0 70).toNatClampNeg) (rd_L (wr_I M a0 70 ((rd_I M a0 70) - (2 : Int32))) (rd_R (wr_I M a0 70 ((rd_I M a0 70) - (2 : Int32))) a0 69) ((rd_I (wr_I M a0 70 ((rd_I M a0 70) - (2 : Int32))) a0 70) + (1 : Int32)).toNatClampNeg) (wr_I M a0 70 ((rd_I M a0 70) - (2 : Int32)))
  else sw_gd [decide (¬ (m_absL (rd_L (wr_I M a0 70 ((rd_I M a0 70) - (2 : Int32))) (rd_R (wr_I M a0 70 ((rd_I M a0 70) - (2 : Int32))) a0 69) (rd_I (wr_I M a0 70 ((rd_I M a0 70) - (2 : Int32))) a0 70).toNatClampNeg)) = 0)] (if ((1000000000000000 : Int64) / (m_absL (rd_L (wr_I M a0 70 ((rd_I M a0 70) - (2 : Int32))) (rd_R (wr_I M a0 70 ((rd_I M a0 70) - (2 : Int32))) a0 69) (rd_I (wr_I M a0 70 ((rd_I M a0 70) - (2 : Int32))) a0 70).toNatClampNeg))) < (m_absL (rd_L (wr_I M a0 70 ((rd_I M a0 70) - (2 : Int32))) (rd_R (wr_I M a0 70 ((rd_I M a0 70) - (2 : Int32))) a0 69) ((rd_I (wr_I M a0 70 ((rd_I M a0 70) - (2 : Int32))) a0 70) + (1 : Int32)).toNatClampNeg)) then some ((0 : Int32), (wr_I M a0 70 ((rd_I M a0 70) - (2 : Int32))))
  else f_Model_does_389 N a0 (rd_L (wr_I M a0 70 ((rd_I M a0 70) - (2 : Int32))) (rd_R (wr_I M a0 70 ((rd_I M a0 70) - (2 : Int32))) a0 69) (rd_I (wr_I M a0 70 ((rd_I M a0 70) - (2 : Int32))) a0 70).toNatClampNeg) (rd_L (wr_I M a0 70 ((rd_I M a0 70) - (2 : Int32))) (rd_R (wr_I M a0 70 ((rd_I M a0 70) - (2 : Int32))) a0 69) ((rd_I (wr_I M a0 70 ((rd_I M a0 70) - (2 : Int32))) a0 70) + (1 : Int32)).toNatClampNeg) (wr_I M a0 70 ((rd_I M a0 70) - (2 : Int32))))
  else if a1 = (43 : Int32) then (f_Model_puts N a0 ((rd_L (wr_I M a0 70 ((rd_I M a0 70) - (2 : Int32))) (rd_R (wr_I M a0 70 ((rd_I M a0 70) - (2 : Int32))) a0 69) (rd_I (wr_I M a0 70 ((rd_I M a0 70) - (2 : Int32))) a0 70).toNatClampNeg) + (rd_L (wr_I M a0 70 ((rd_I M a0 70) - (2 : Int32))) (rd_R (wr_I M a0 70 ((rd_I M a0 70) - (2 : Int32))) a0 69) ((rd_I (wr_I M a0 70 ((rd_I M a0 70) - (2 : Int32))) a0 70) + (1 : Int32)).toNatClampNeg)) (wr_I M a0 70 ((rd_I M a0 70) - (2 : Int32)))).bind (fun u7 => sw_gd [sw_bz u7.1] (some (u7.1, u7.2)))
  else if a1 = (45 : Int32) then (f_Model_puts N a0 ((rd_L (wr_I M a0 70 ((rd_I M a0 70) - (2 : Int32))) (rd_R (wr_I M a0 70 ((rd_I M a0 70) - (2 : Int32))) a0 69) (rd_I (wr_I M a0 70 ((rd_I M a0 70) - (2 : Int32))) a0 70).toNatClampNeg) - (rd_L (wr_I M a0 70 ((rd_I M a0 70) - (2 : Int32))) (rd_R (wr_I M a0 70 ((rd_I M a0 70) - (2 : Int32))) a0 69) ((rd_I (wr_I M a0 70 ((rd_I M a0 70) - (2 : Int32))) a0 70) + (1 : Int32)).toNatClampNeg)) (wr_I M a0 70 ((rd_I M a0 70) - (2 : Int32)))).bind (fun u10 => sw_gd [sw_bz u10.1] (some (u10.1, u10.2)))
  else if a1 = (60 : Int32) then if (rd_L (wr_I M a0 70 ((rd_I M a0 70) - (2 : Int32))) (rd_R (wr_I M a0 70 ((rd_I M a0 70) - (2 : Int32))) a0 69) ((rd_I (wr_I M a0 70 ((rd_I M a0 70) - (2 : Int32))) a0 70) + (1 : Int32)).toNatClampNeg) ≤ (rd_L (wr_I M a0 70 ((rd_I M a0 70) - (2 : Int32))) (rd_R (wr_I M a0 70 ((rd_I M a0 70) - (2 : Int32))) a0 69) (rd_I (wr_I M a0 70 ((rd_I M a0 70) - (2 : Int32))) a0 70).toNatClampNeg) then f_Model_does_241 N (0 : Int32) a0 (wr_I M a0 70 ((rd_I M a0 70) - (2 : Int32)))
  else f_Model_does_241 N (1 : Int32) a0 (wr_I M a0 70 ((rd_I M a0 70) - (2 : Int32)))
  else if a1 = (61 : Int32) then if (rd_L (wr_I M a0 70 ((rd_I M a0 70) - (2 : Int32))) (rd_R (wr_I M a0 70 ((rd_I M a0 70) - (2 : Int32))) a0 69) (rd_I (wr_I M a0 70 ((rd_I M a0 70) - (2 : Int32))) a0 70).toNatClampNeg) = (rd_L (wr_I M a0 70 ((rd_I M a0 70) - (2 : Int32))) (rd_R (wr_I M a0 70 ((rd_I M a0 70) - (2 : Int32))) a0 69) ((rd_I (wr_I M a0 70 ((rd_I M a0 70) - (2 : Int32))) a0 70) + (1 : Int32)).toNatClampNeg) then f_Model_does_281 N (1 : Int32) a0 (wr_I M a0 70 ((rd_I M a0 70) - (2 : Int32)))
  else f_Model_does_281 N (0 : Int32) a0 (wr_I M a0 70 ((rd_I M a0 70) - (2 : Int32)))
  else if a1 = (62 : Int32) then if (rd_L (wr_I M a0 70 ((rd_I M a0 70) - (2 : Int32))) (rd_R (wr_I M a0 70 ((rd_I M a0 70) - (2 : Int32))) a0 69) (rd_I (wr_I M a0 70 ((rd_I M a0 70) - (2 : Int32))) a0 70).toNatClampNeg) ≤ (rd_L (wr_I M a0 70 ((rd_I M a0 70) - (2 : Int32))) (rd_R (wr_I M a0 70 ((rd_I M a0 70) - (2 : Int32))) a0 69) ((rd_I (wr_I M a0 70 ((rd_I M a0 70) - (2 : Int32))) a0 70) + (1 : Int32)).toNatClampNeg) then f_Model_does_341 N (0 : Int32) a0 (wr_I M a0 70 ((rd_I M a0 70) - (2 : Int32)))
  else f_Model_does_341 N (1 : Int32) a0 (wr_I M a0 70 ((rd_I M a0 70) - (2 : Int32)))
  else if a1 = (256 : Int32) then if (rd_L (wr_I M a0 70 ((rd_I M a0 70) - (2 : Int32))) (rd_R (wr_I M a0 70 ((rd_I M a0 70) - (2 : Int32))) a0 69) ((rd_I (wr_I M a0 70 ((rd_I M a0 70) - (2 : Int32))) a0 70) + (1 : Int32)).toNatClampNeg) < (rd_L (wr_I M a0 70 ((rd_I M a0 70) - (2 : Int32))) (rd_R (wr_I M a0 70 ((rd_I M a0 70) - (2 : Int32))) a0 69) (rd_I (wr_I M a0 70 ((rd_I M a0 70) - (2 : Int32))) a0 70).toNatClampNeg) then f_Model_does_261 N (0 : Int32) a0 (wr_I M a0 70 ((rd_I M a0 70) - (2 : Int32)))
  else f_Model_does_261 N (1 : Int32) a0 (wr_I M a0 70 ((rd_I M a0 70) - (2 : Int32)))
  else if a1 = (257 : Int32) then if (rd_L (wr_I M a0 70 ((rd_I M a0 70) - (2 : Int32))) (rd_R (wr_I M a0 70 ((rd_I M a0 70) - (2 : Int32))) a0 69) (rd_I (wr_I M a0 70 ((rd_I M a0 70) - (2 : Int32))) a0 70).toNatClampNeg) = (rd_L (wr_I M a0 70 ((rd_I M a0 70) - (2 : Int32))) (rd_R (wr_I M a0 70 ((rd_I M a0 70) - (2 : Int32))) a0 69) ((rd_I (wr_I M a0 70 ((rd_I M a0 70) - (2 : Int32))) a0 70) + (1 : Int32)).toNatClampNeg) then f_Model_does_301 N (0 : Int32) a0 (wr_I M a0 70 ((rd_I M a0 70) - (2 : Int32)))
  else f_Model_does_301 N (1 : Int32) a0 (wr_I M a0 70 ((rd_I M a0 70) - (2 : Int32)))
  else if a1 = (258 : Int32) then if (rd_L (wr_I M a0 70 ((rd_I M a0 70) - (2 : Int32))) (rd_R (wr_I M a0 70 ((rd_I M a0 70) - (2 : Int32))) a0 69) (rd_I (wr_I M a0 70 ((rd_I M a0 70) - (2 : Int32))) a0 70).toNatClampNeg) < (rd_L (wr_I M a0 70 ((rd_I M a0 70) - (2 : Int32))) (rd_R (wr_I M a0 70 ((rd_I M a0 70) - (2 : Int32))) a0 69) ((rd_I (wr_I M a0 70 ((rd_I M a0 70) - (2 : Int32))) a0 70) + (1 : Int32)).toNatClampNeg) then f_Model_does_321 N (0 : Int32) a0 (wr_I M a0 70 ((rd_I M a0 70) - (2 : Int32)))
  else f_Model_does_321 N (1 : Int32) a0 (wr_I M a0 70 ((rd_I M a0 70) - (2 : Int32)))
  else if a1 = (261 : Int32) then if (rd_L (wr_I M a0 70 ((rd_I M a0 70) - (2 : Int32))) (rd_R (wr_I M a0 70 ((rd_I M a0 70) - (2 : Int32))) a0 69) (rd_I (wr_I M a0 70 ((rd_I M a0 70) - (2 : Int32))) a0 70).toNatClampNeg) = (0 : Int64) then f_Model_does_220 N a0 (wr_I M a0 70 ((rd_I M a0 70) - (2 : Int32)))
  else if (rd_L (wr_I M a0 70 ((rd_I M a0 70) - (2 : Int32))) (rd_R (wr_I M a0 70 ((rd_I M a0 70) - (2 : Int32))) a0 69) ((rd_I (wr_I M a0 70 ((rd_I M a0 70) - (2 : Int32))) a0 70) + (1 : Int32)).toNatClampNeg) = (0 : Int64) then f_Model_does_220 N a0 (wr_I M a0 70 ((rd_I M a0 70) - (2 : Int32)))
  else f_Model_does_221 N (1 : Int32) a0 (wr_I M a0 70 ((rd_I M a0 70) - (2 : Int32)))
  else if a1 = (262 : Int32) then if (rd_L (wr_I M a0 70 ((rd_I M a0 70) - (2 : Int32))) (rd_R (wr_I M a0 70 ((rd_I M a0 70) - (2 : Int32))) a0 69) (rd_I (wr_I M a0 70 ((rd_I M a0 70) - (2 : Int32))) a0 70).toNatClampNeg) = (0 : Int64) then if (rd_L (wr_I M a0 70 ((rd_I M a0 70) - (2 : Int32))) (rd_R (wr_I M a0 70 ((rd_I M a0 70) - (2 : Int32))) a0 69) ((rd_I (wr_I M a0 70 ((rd_I M a0 70) - (2 : Int32))) a0 70) + (1 : Int32)).toNatClampNeg) = (0 : Int64) then f_Model_does_195 N (0 : Int32) a0 (wr_I M a0 70 ((rd_I M a0 70) - (2 : Int32)))
  else f_Model_does_190 N a0 (wr_I M a0 70 ((rd_I M a0 70) - (2 : Int32)))
  else f_Model_does_190 N a0 (wr_I M a0 70 ((rd_I M a0 70) - (2 : Int32)))
  else if (rd_L (wr_I M a0 70 ((rd_I M a0 70) - (2 : Int32))) (rd_R (wr_I M a0 70 ((rd_I M a0 70) - (2 : Int32))) a0 69) ((rd_I (wr_I M a0 70 ((rd_I M a0 70) - (2 : Int32))) a0 70) + (1 : Int32)).toNatClampNeg) = (0 : Int64) then some ((0 : Int32), (wr_I M a0 70 ((rd_I M a0 70) - (2 : Int32))))
  else sw_gd [decide (¬ (rd_L (wr_I M a0 70 ((rd_I M a0 70) - (2 : Int32))) (rd_R (wr_I M a0 70 ((rd_I M a0 70) - (2 : Int32))) a0 69) ((rd_I (wr_I M a0 70 ((rd_I M a0 70) - (2 : Int32))) a0 70) + (1 : Int32)).toNatClampNeg) = 0)] ((f_Model_puts N a0 ((rd_L (wr_I M a0 70 ((rd_I M a0 70) - (2 : Int32))) (rd_R (wr_I M a0 70 ((rd_I M a0 70) - (2 : Int32))) a0 69) (rd_I (wr_I M a0 70 ((rd_I M a0 70) - (2 : Int32))) a0 70).toNatClampNeg) / (rd_L (wr_I M a0 70 ((rd_I M a0 70) - (2 : Int32))) (rd_R (wr_I M a0 70 ((rd_I M a0 70) - (2 : Int32))) a0 69) ((rd_I (wr_I M a0 70 ((rd_I M a0 70) - (2 : Int32))) a0 70) + (1 : Int32)).toNatClampNeg)) (wr_I M a0 70 ((rd_I M a0 70) - (2 : Int32)))).bind (fun u21 => if u21.1 = 0 then some ((0 : Int32), u21.2)
  else some ((1 : Int32), u21.2))))))
set_option maxRecDepth 10000 in
theorem t_Model_does {g : sw_G} {d n0 : Nat} (hd : 3 ≤ d) {r : Int32 × sw_M} {N : Nat} {a0 : Nat} {a1 : Int32} {M : sw_M} (hf : f_Model_does N a0 a1 M = some r) : sw_F g k_Model_does d n0 (some (.int r.1)) r.2 0 [(0, .ref a0), (1, .int a1)] [] M := by
  unfold f_Model_does at hf
  refine sf_blk [(.iload_n 1, 0, 0, .null), (.sipush (260), 0, 0, .int (260 : Int32))] (lv' := [(0, .ref a0), (1, .int a1)]) (st' := [.int (260 : Int32), .int a1]) (M1 := M) (ob := []) (pc' := 4) (by decide +kernel) rfl rfl sw_a0 ?_
  refine sf_j_ne (off := 40) (tgt := 44) (by decide +kernel) (by decide) hf (fun hc hf => ?_) (fun hc hf => ?_)
  · obtain ⟨h1, hf⟩ := sw_gd_1 hf
    obtain ⟨h2, hf⟩ := sw_gd_1 hf
    obtain ⟨h3, hf⟩ := sw_gd_1 hf
    refine sf_blk [(.aload_n 0, 0, 0, .null), (.dup, 0, 0, .null), (.getfield 416, 12, 70, .null), (.iconst (2), 0, 0, .int (2 : Int32)), (.isub, 0, 0, .null), (.putfield 416, 12, 70, .null), (.aload_n 0, 0, 0, .null), (.getfield 112, 12, 69, .null), (.aload_n 0, 0, 0, .null), (.getfield 416, 12, 70, .null), (.laload, 0, 0, .null), (.lstore_n 2, 0, 0, .null), (.aload_n 0, 0, 0, .null), (.getfield 112, 12, 69, .null), (.aload_n 0, 0, 0, .null), (.getfield 416, 12, 70, .null), (.iconst (1), 0, 0, .int (1 : Int32)), (.iadd, 0, 0, .null), (.laload, 0, 0, .null), (.lstore 4, 0, 0, .null), (.iload_n 1, 0, 0, .null)] (lv' := [(4, .long (rd_L (wr_I M a0 70 ((rd_I M a0 70) - (2 : Int32))) (rd_R (wr_I M a0 70 ((rd_I M a0 70) - (2 : Int32))) a0 69) ((rd_I (wr_I M a0 70 ((rd_I M a0 70) - (2 : Int32))) a0 70) + (1 : Int32)).toNatClampNeg)), (2, .long (rd_L (wr_I M a0 70 ((rd_I M a0 70) - (2 : Int32))) (rd_R (wr_I M a0 70 ((rd_I M a0 70) - (2 : Int32))) a0 69) (rd_I (wr_I M a0 70 ((rd_I M a0 70) - (2 : Int32))) a0 70).toNatClampNeg)), (0, .ref a0), (1, .int a1)]) (st' := [.int a1]) (M1 := (wr_I M a0 70 ((rd_I M a0 70) - (2 : Int32)))) (ob := [sw_ok M a0 12, sw_ok M a0 12, sw_ok (wr_I M a0 70 ((rd_I M a0 70) - (2 : Int32))) a0 12, sw_ok (wr_I M a0 70 ((rd_I M a0 70) - (2 : Int32))) a0 12, sw_ar (wr_I M a0 70 ((rd_I M a0 70) - (2 : Int32))) (rd_R (wr_I M a0 70 ((rd_I M a0 70) - (2 : Int32))) a0 69) 16 (rd_I (wr_I M a0 70 ((rd_I M a0 70) - (2 : Int32))) a0 70), sw_ok (wr_I M a0 70 ((rd_I M a0 70) - (2 : Int32))) a0 12, sw_ok (wr_I M a0 70 ((rd_I M a0 70) - (2 : Int32))) a0 12, sw_ar (wr_I M a0 70 ((rd_I M a0 70) - (2 : Int32))) (rd_R (wr_I M a0 70 ((rd_I M a0 70) - (2 : Int32))) a0 69) 16 ((rd_I (wr_I M a0 70 ((rd_I M a0 70) - (2 : Int32))) a0 70) + (1 : Int32))]) (pc' := 78) (by decide +kernel) rfl rfl (sw_a1 h1 (sw_a1 h1 (sw_a1 h1 (sw_a1 h1 (sw_a1 h2 (sw_a1 h1 (sw_a1 h1 (sw_a1 h3 sw_a0)))))))) ?_
    rcases sw_ite hf with ⟨h4, hf⟩ | ⟨h4, hf⟩
    · refine sf_look (a := a1) (off := 288) (tgt := 366) (len := 98) (show decode (k_c k_Model_does) 78 = .ok (.lookupswitch (328) #[(42, 288), (43, 270), (45, 279), (60, 150), (61, 190), (62, 250), (256, 170), (257, 210), (258, 230), (261, 124), (262, 98)], 98) by decide +kernel) (by decide +kernel) (by rw [h4]; decide +kernel) (by decide) ?_
      refine sf_blk [(.lload_n 2, 0, 0, .null), (.lconst 0, 0, 0, .long (0 : Int64)), (.lcmp, 0, 0, .null)] (lv' := [(4, .long (rd_L (wr_I M a0 70 ((rd_I M a0 70) - (2 : Int32))) (rd_R (wr_I M a0 70 ((rd_I M a0 70) - (2 : Int32))) a0 69) ((rd_I (wr_I M a0 70 ((rd_I M a0 70) - (2 : Int32))) a0 70) + (1 : Int32)).toNatClampNeg)), (2, .long (rd_L (wr_I M a0 70 ((rd_I M a0 70) - (2 : Int32))) (rd_R (wr_I M a0 70 ((rd_I M a0 70) - (2 : Int32))) a0 69) (rd_I (wr_I M a0 70 ((rd_I M a0 70) - (2 : Int32))) a0 70).toNatClampNeg)), (0, .ref a0), (1, .int a1)]) (st' := [.int (lg_cmp (rd_L (wr_I M a0 70 ((rd_I M a0 70) - (2 : Int32))) (rd_R (wr_I M a0 70 ((rd_I M a0 70) - (2 : Int32))) a0 69) (rd_I (wr_I M a0 70 ((rd_I M a0 70) - (2 : Int32))) a0 70).toNatClampNeg) (0 : Int64))]) (M1 := (wr_I M a0 70 ((rd_I M a0 70) - (2 : Int32)))) (ob := []) (pc' := 369) (by decide +kernel) rfl rfl sw_a0 ?_
      refine sf_l_eq (off := 20) (tgt := 389) (by decide +kernel) (by decide) hf (fun hc hf => ?_) (fun hc hf => ?_)
      · exact sf_weak [2, 1, 0] rfl (t_Model_does_389 hd hf)
      · refine sf_blk [(.lload 4, 0, 0, .null)] (lv' := [(4, .long (rd_L (wr_I M a0 70 ((rd_I M a0 70) - (2 : Int32))) (rd_R (wr_I M a0 70 ((rd_I M a0 70) - (2 : Int32))) a0 69) ((rd_I (wr_I M a0 70 ((rd_I M a0 70) - (2 : Int32))) a0 70) + (1 : Int32)).toNatClampNeg)), (2, .long (rd_L (wr_I M a0 70 ((rd_I M a0 70) - (2 : Int32))) (rd_R (wr_I M a0 70 ((rd_I M a0 70) - (2 : Int32))) a0 69) (rd_I (wr_I M a0 70 ((rd_I M a0 70) - (2 : Int32))) a0 70).toNatClampNeg)), (0, .ref a0), (1, .int a1)]) (st' := [.long (rd_L (wr_I M a0 70 ((rd_I M a0 70) - (2 : Int32))) (rd_R (wr_I M a0 70 ((rd_I M a0 70) - (2 : Int32))) a0 69) ((rd_I (wr_I M a0 70 ((rd_I M a0 70) - (2 : Int32))) a0 70) + (1 : Int32)).toNatClampNeg)]) (M1 := (wr_I M a0 70 ((rd_I M a0 70) - (2 : Int32)))) (ob := []) (pc' := 374) (by decide +kernel) rfl rfl sw_a0 ?_
        refine sf_absL (i := 437) (st := []) (sw_m7 222 (by decide +kernel)) (by decide +kernel) (by omega) (Nat.le_of_ble_eq_true rfl) ?_
        show sw_F _ _ _ _ _ _ 377 [(4, .long (rd_L (wr_I M a0 70 ((rd_I M a0 70) - (2 : Int32))) (rd_R (wr_I M a0 70 ((rd_I M a0 70) - (2 : Int32))) a0 69) ((rd_I (wr_I M a0 70 ((rd_I M a0 70) - (2 : Int32))) a0 70) + (1 : Int32)).toNatClampNeg)), (2, .long (rd_L (wr_I M a0 70 ((rd_I M a0 70) - (2 : Int32))) (rd_R (wr_I M a0 70 ((rd_I M a0 70) - (2 : Int32))) a0 69) (rd_I (wr_I M a0 70 ((rd_I M a0 70) - (2 : Int32))) a0 70).toNatClampNeg)), (0, .ref a0), (1, .int a1)] [.long (m_absL (rd_L (wr_I M a0 70 ((rd_I M a0 70) - (2 : Int32))) (rd_R (wr_I M a0 70 ((rd_I M a0 70) - (2 : Int32))) a0 69) ((rd_I (wr_I M a0 70 ((rd_I M a0 70) - (2 : Int32))) a0 70) + (1 : Int32)).toNatClampNeg))] (wr_I M a0 70 ((rd_I M a0 70) - (2 : Int32)))
        refine sf_blk [(.ldc2_w 412, 0, 0, .long (1000000000000000 : Int64)), (.lload_n 2, 0, 0, .null)] (lv' := [(4, .long (rd_L (wr_I M a0 70 ((rd_I M a0 70) - (2 : Int32))) (rd_R (wr_I M a0 70 ((rd_I M a0 70) - (2 : Int32))) a0 69) ((rd_I (wr_I M a0 70 ((rd_I M a0 70) - (2 : Int32))) a0 70) + (1 : Int32)).toNatClampNeg)), (2, .long (rd_L (wr_I M a0 70 ((rd_I M a0 70) - (2 : Int32))) (rd_R (wr_I M a0 70 ((rd_I M a0 70) - (2 : Int32))) a0 69) (rd_I (wr_I M a0 70 ((rd_I M a0 70) - (2 : Int32))) a0 70).toNatClampNeg)), (0, .ref a0), (1, .int a1)]) (st' := [.long (rd_L (wr_I M a0 70 ((rd_I M a0 70) - (2 : Int32))) (rd_R (wr_I M a0 70 ((rd_I M a0 70) - (2 : Int32))) a0 69) (rd_I (wr_I M a0 70 ((rd_I M a0 70) - (2 : Int32))) a0 70).toNatClampNeg), .long (1000000000000000 : Int64), .long (m_absL (rd_L (wr_I M a0 70 ((rd_I M a0 70) - (2 : Int32))) (rd_R (wr_I M a0 70 ((rd_I M a0 70) - (2 : Int32))) a0 69) ((rd_I (wr_I M a0 70 ((rd_I M a0 70) - (2 : Int32))) a0 70) + (1 : Int32)).toNatClampNeg))]) (M1 := (wr_I M a0 70 ((rd_I M a0 70) - (2 : Int32)))) (ob := []) (pc' := 381) (by decide +kernel) rfl rfl sw_a0 ?_
        refine sf_absL (i := 437) (st := [.long (1000000000000000 : Int64), .long (m_absL (rd_L (wr_I M a0 70 ((rd_I M a0 70) - (2 : Int32))) (rd_R (wr_I M a0 70 ((rd_I M a0 70) - (2 : Int32))) a0 69) ((rd_I (wr_I M a0 70 ((rd_I M a0 70) - (2 : Int32))) a0 70) + (1 : Int32)).toNatClampNeg))]) (sw_m7 222 (by decide +kernel)) (by decide +kernel) (by omega) (Nat.le_of_ble_eq_true rfl) ?_
        show sw_F _ _ _ _ _ _ 384 [(4, .long (rd_L (wr_I M a0 70 ((rd_I M a0 70) - (2 : Int32))) (rd_R (wr_I M a0 70 ((rd_I M a0 70) - (2 : Int32))) a0 69) ((rd_I (wr_I M a0 70 ((rd_I M a0 70) - (2 : Int32))) a0 70) + (1 : Int32)).toNatClampNeg)), (2, .long (rd_L (wr_I M a0 70 ((rd_I M a0 70) - (2 : Int32))) (rd_R (wr_I M a0 70 ((rd_I M a0 70) - (2 : Int32))) a0 69) (rd_I (wr_I M a0 70 ((rd_I M a0 70) - (2 : Int32))) a0 70).toNatClampNeg)), (0, .ref a0), (1, .int a1)] [.long (m_absL (rd_L (wr_I M a0 70 ((rd_I M a0 70) - (2 : Int32))) (rd_R (wr_I M a0 70 ((rd_I M a0 70) - (2 : Int32))) a0 69) (rd_I (wr_I M a0 70 ((rd_I M a0 70) - (2 : Int32))) a0 70).toNatClampNeg)), .long (1000000000000000 : Int64), .long (m_absL (rd_L (wr_I M a0 70 ((rd_I M a0 70) - (2 : Int32))) (rd_R (wr_I M a0 70 ((rd_I M a0 70) - (2 : Int32))) a0 69) ((rd_I (wr_I M a0 70 ((rd_I M a0 70) - (2 : Int32))) a0 70) + (1 : Int32)).toNatClampNeg))] (wr_I M a0 70 ((rd_I M a0 70) - (2 : Int32)))
        obtain ⟨h5, hf⟩ := sw_gd_1 hf
        refine sf_blk [(.ldiv, 0, 0, .null), (.lcmp, 0, 0, .null)] (lv' := [(4, .long (rd_L (wr_I M a0 70 ((rd_I M a0 70) - (2 : Int32))) (rd_R (wr_I M a0 70 ((rd_I M a0 70) - (2 : Int32))) a0 69) ((rd_I (wr_I M a0 70 ((rd_I M a0 70) - (2 : Int32))) a0 70) + (1 : Int32)).toNatClampNeg)), (2, .long (rd_L (wr_I M a0 70 ((rd_I M a0 70) - (2 : Int32))) (rd_R (wr_I M a0 70 ((rd_I M a0 70) - (2 : Int32))) a0 69) (rd_I (wr_I M a0 70 ((rd_I M a0 70) - (2 : Int32))) a0 70).toNatClampNeg)), (0, .ref a0), (1, .int a1)]) (st' := [.int (lg_cmp (m_absL (rd_L (wr_I M a0 70 ((rd_I M a0 70) - (2 : Int32))) (rd_R (wr_I M a0 70 ((rd_I M a0 70) - (2 : Int32))) a0 69) ((rd_I (wr_I M a0 70 ((rd_I M a0 70) - (2 : Int32))) a0 70) + (1 : Int32)).toNatClampNeg)) ((1000000000000000 : Int64) / (m_absL (rd_L (wr_I M a0 70 ((rd_I M a0 70) - (2 : Int32))) (rd_R (wr_I M a0 70 ((rd_I M a0 70) - (2 : Int32))) a0 69) (rd_I (wr_I M a0 70 ((rd_I M a0 70) - (2 : Int32))) a0 70).toNatClampNeg))))]) (M1 := (wr_I M a0 70 ((rd_I M a0 70) - (2 : Int32)))) (ob := [decide (¬ (m_absL (rd_L (wr_I M a0 70 ((rd_I M a0 70) - (2 : Int32))) (rd_R (wr_I M a0 70 ((rd_I M a0 70) - (2 : Int32))) a0 69) (rd_I (wr_I M a0 70 ((rd_I M a0 70) - (2 : Int32))) a0 70).toNatClampNeg)) = 0)]) (pc' := 386) (by decide +kernel) rfl rfl (sw_a1 h5 sw_a0) ?_
        refine sf_l_gt (off := 18) (tgt := 404) (by decide +kernel) (by decide) hf (fun hc hf => ?_) (fun hc hf => ?_)
        · refine sf_blk [(.iconst (0), 0, 0, .int (0 : Int32))] (lv' := [(4, .long (rd_L (wr_I M a0 70 ((rd_I M a0 70) - (2 : Int32))) (rd_R (wr_I M a0 70 ((rd_I M a0 70) - (2 : Int32))) a0 69) ((rd_I (wr_I M a0 70 ((rd_I M a0 70) - (2 : Int32))) a0 70) + (1 : Int32)).toNatClampNeg)), (2, .long (rd_L (wr_I M a0 70 ((rd_I M a0 70) - (2 : Int32))) (rd_R (wr_I M a0 70 ((rd_I M a0 70) - (2 : Int32))) a0 69) (rd_I (wr_I M a0 70 ((rd_I M a0 70) - (2 : Int32))) a0 70).toNatClampNeg)), (0, .ref a0), (1, .int a1)]) (st' := [.int (0 : Int32)]) (M1 := (wr_I M a0 70 ((rd_I M a0 70) - (2 : Int32)))) (ob := []) (pc' := 405) (by decide +kernel) rfl rfl sw_a0 ?_
          cases hf
          exact sf_bool rfl rfl (by decide +kernel)
        · exact sf_weak [2, 1, 0] rfl (t_Model_does_389 hd hf)
    ·
      rcases sw_ite hf with ⟨h6, hf⟩ | ⟨h6, hf⟩
      · refine sf_look (a := a1) (off := 270) (tgt := 348) (len := 98) (show decode (k_c k_Model_does) 78 = .ok (.lookupswitch (328) #[(42, 288), (43, 270), (45, 279), (60, 150), (61, 190), (62, 250), (256, 170), (257, 210), (258, 230), (261, 124), (262, 98)], 98) by decide +kernel) (by decide +kernel) (by rw [h6]; decide +kernel) (by decide) ?_
        refine sf_blk [(.aload_n 0, 0, 0, .null), (.lload_n 2, 0, 0, .null), (.lload 4, 0, 0, .null), (.ladd, 0, 0, .null)] (lv' := [(4, .long (rd_L (wr_I M a0 70 ((rd_I M a0 70) - (2 : Int32))) (rd_R (wr_I M a0 70 ((rd_I M a0 70) - (2 : Int32))) a0 69) ((rd_I (wr_I M a0 70 ((rd_I M a0 70) - (2 : Int32))) a0 70) + (1 : Int32)).toNatClampNeg)), (2, .long (rd_L (wr_I M a0 70 ((rd_I M a0 70) - (2 : Int32))) (rd_R (wr_I M a0 70 ((rd_I M a0 70) - (2 : Int32))) a0 69) (rd_I (wr_I M a0 70 ((rd_I M a0 70) - (2 : Int32))) a0 70).toNatClampNeg)), (0, .ref a0), (1, .int a1)]) (st' := [.long ((rd_L (wr_I M a0 70 ((rd_I M a0 70) - (2 : Int32))) (rd_R (wr_I M a0 70 ((rd_I M a0 70) - (2 : Int32))) a0 69) (rd_I (wr_I M a0 70 ((rd_I M a0 70) - (2 : Int32))) a0 70).toNatClampNeg) + (rd_L (wr_I M a0 70 ((rd_I M a0 70) - (2 : Int32))) (rd_R (wr_I M a0 70 ((rd_I M a0 70) - (2 : Int32))) a0 69) ((rd_I (wr_I M a0 70 ((rd_I M a0 70) - (2 : Int32))) a0 70) + (1 : Int32)).toNatClampNeg)), .ref a0]) (M1 := (wr_I M a0 70 ((rd_I M a0 70) - (2 : Int32)))) (ob := []) (pc' := 353) (by decide +kernel) rfl rfl sw_a0 ?_
        obtain ⟨u7, hu7, hf⟩ := sw_bnd hf
        refine sf_callV (i := 426) (k2 := k_Model_puts) (d2 := d - 1) (As := [.long ((rd_L (wr_I M a0 70 ((rd_I M a0 70) - (2 : Int32))) (rd_R (wr_I M a0 70 ((rd_I M a0 70) - (2 : Int32))) a0 69) (rd_I (wr_I M a0 70 ((rd_I M a0 70) - (2 : Int32))) a0 70).toNatClampNeg) + (rd_L (wr_I M a0 70 ((rd_I M a0 70) - (2 : Int32))) (rd_R (wr_I M a0 70 ((rd_I M a0 70) - (2 : Int32))) a0 69) ((rd_I (wr_I M a0 70 ((rd_I M a0 70) - (2 : Int32))) a0 70) + (1 : Int32)).toNatClampNeg))]) (st := []) (q := a0) (ci := 12) mf_Model_puts mi_Model_puts ms_Model_puts (sw_m7 213 (by decide +kernel)) rfl (by decide) (by decide +kernel) rfl (Nat.le_of_ble_eq_true rfl) (by omega) h1 (o_Model_puts g (d := d - 1) (by omega) hu7) ?_
        show sw_F _ _ _ _ _ _ 356 [(4, .long (rd_L (wr_I M a0 70 ((rd_I M a0 70) - (2 : Int32))) (rd_R (wr_I M a0 70 ((rd_I M a0 70) - (2 : Int32))) a0 69) ((rd_I (wr_I M a0 70 ((rd_I M a0 70) - (2 : Int32))) a0 70) + (1 : Int32)).toNatClampNeg)), (2, .long (rd_L (wr_I M a0 70 ((rd_I M a0 70) - (2 : Int32))) (rd_R (wr_I M a0 70 ((rd_I M a0 70) - (2 : Int32))) a0 69) (rd_I (wr_I M a0 70 ((rd_I M a0 70) - (2 : Int32))) a0 70).toNatClampNeg)), (0, .ref a0), (1, .int a1)] [.int u7.1] u7.2
        obtain ⟨h8, hf⟩ := sw_gd_1 hf
        cases hf
        exact sf_bool rfl h8 (by decide +kernel)
      ·
        rcases sw_ite hf with ⟨h9, hf⟩ | ⟨h9, hf⟩
        · refine sf_look (a := a1) (off := 279) (tgt := 357) (len := 98) (show decode (k_c k_Model_does) 78 = .ok (.lookupswitch (328) #[(42, 288), (43, 270), (45, 279), (60, 150), (61, 190), (62, 250), (256, 170), (257, 210), (258, 230), (261, 124), (262, 98)], 98) by decide +kernel) (by decide +kernel) (by rw [h9]; decide +kernel) (by decide) ?_
          refine sf_blk [(.aload_n 0, 0, 0, .null), (.lload_n 2, 0, 0, .null), (.lload 4, 0, 0, .null), (.lsub, 0, 0, .null)] (lv' := [(4, .long (rd_L (wr_I M a0 70 ((rd_I M a0 70) - (2 : Int32))) (rd_R (wr_I M a0 70 ((rd_I M a0 70) - (2 : Int32))) a0 69) ((rd_I (wr_I M a0 70 ((rd_I M a0 70) - (2 : Int32))) a0 70) + (1 : Int32)).toNatClampNeg)), (2, .long (rd_L (wr_I M a0 70 ((rd_I M a0 70) - (2 : Int32))) (rd_R (wr_I M a0 70 ((rd_I M a0 70) - (2 : Int32))) a0 69) (rd_I (wr_I M a0 70 ((rd_I M a0 70) - (2 : Int32))) a0 70).toNatClampNeg)), (0, .ref a0), (1, .int a1)]) (st' := [.long ((rd_L (wr_I M a0 70 ((rd_I M a0 70) - (2 : Int32))) (rd_R (wr_I M a0 70 ((rd_I M a0 70) - (2 : Int32))) a0 69) (rd_I (wr_I M a0 70 ((rd_I M a0 70) - (2 : Int32))) a0 70).toNatClampNeg) - (rd_L (wr_I M a0 70 ((rd_I M a0 70) - (2 : Int32))) (rd_R (wr_I M a0 70 ((rd_I M a0 70) - (2 : Int32))) a0 69) ((rd_I (wr_I M a0 70 ((rd_I M a0 70) - (2 : Int32))) a0 70) + (1 : Int32)).toNatClampNeg)), .ref a0]) (M1 := (wr_I M a0 70 ((rd_I M a0 70) - (2 : Int32)))) (ob := []) (pc' := 362) (by decide +kernel) rfl rfl sw_a0 ?_
          obtain ⟨u10, hu10, hf⟩ := sw_bnd hf
          refine sf_callV (i := 426) (k2 := k_Model_puts) (d2 := d - 1) (As := [.long ((rd_L (wr_I M a0 70 ((rd_I M a0 70) - (2 : Int32))) (rd_R (wr_I M a0 70 ((rd_I M a0 70) - (2 : Int32))) a0 69) (rd_I (wr_I M a0 70 ((rd_I M a0 70) - (2 : Int32))) a0 70).toNatClampNeg) - (rd_L (wr_I M a0 70 ((rd_I M a0 70) - (2 : Int32))) (rd_R (wr_I M a0 70 ((rd_I M a0 70) - (2 : Int32))) a0 69) ((rd_I (wr_I M a0 70 ((rd_I M a0 70) - (2 : Int32))) a0 70) + (1 : Int32)).toNatClampNeg))]) (st := []) (q := a0) (ci := 12) mf_Model_puts mi_Model_puts ms_Model_puts (sw_m7 213 (by decide +kernel)) rfl (by decide) (by decide +kernel) rfl (Nat.le_of_ble_eq_true rfl) (by omega) h1 (o_Model_puts g (d := d - 1) (by omega) hu10) ?_
          show sw_F _ _ _ _ _ _ 365 [(4, .long (rd_L (wr_I M a0 70 ((rd_I M a0 70) - (2 : Int32))) (rd_R (wr_I M a0 70 ((rd_I M a0 70) - (2 : Int32))) a0 69) ((rd_I (wr_I M a0 70 ((rd_I M a0 70) - (2 : Int32))) a0 70) + (1 : Int32)).toNatClampNeg)), (2, .long (rd_L (wr_I M a0 70 ((rd_I M a0 70) - (2 : Int32))) (rd_R (wr_I M a0 70 ((rd_I M a0 70) - (2 : Int32))) a0 69) (rd_I (wr_I M a0 70 ((rd_I M a0 70) - (2 : Int32))) a0 70).toNatClampNeg)), (0, .ref a0), (1, .int a1)] [.int u10.1] u10.2
          obtain ⟨h11, hf⟩ := sw_gd_1 hf
          cases hf
          exact sf_bool rfl h11 (by decide +kernel)
        ·
          rcases sw_ite hf with ⟨h12, hf⟩ | ⟨h12, hf⟩
          · refine sf_look (a := a1) (off := 150) (tgt := 228) (len := 98) (show decode (k_c k_Model_does) 78 = .ok (.lookupswitch (328) #[(42, 288), (43, 270), (45, 279), (60, 150), (61, 190), (62, 250), (256, 170), (257, 210), (258, 230), (261, 124), (262, 98)], 98) by decide +kernel) (by decide +kernel) (by rw [h12]; decide +kernel) (by decide) ?_
            refine sf_blk [(.aload_n 0, 0, 0, .null), (.lload_n 2, 0, 0, .null), (.lload 4, 0, 0, .null), (.lcmp, 0, 0, .null)] (lv' := [(4, .long (rd_L (wr_I M a0 70 ((rd_I M a0 70) - (2 : Int32))) (rd_R (wr_I M a0 70 ((rd_I M a0 70) - (2 : Int32))) a0 69) ((rd_I (wr_I M a0 70 ((rd_I M a0 70) - (2 : Int32))) a0 70) + (1 : Int32)).toNatClampNeg)), (2, .long (rd_L (wr_I M a0 70 ((rd_I M a0 70) - (2 : Int32))) (rd_R (wr_I M a0 70 ((rd_I M a0 70) - (2 : Int32))) a0 69) (rd_I (wr_I M a0 70 ((rd_I M a0 70) - (2 : Int32))) a0 70).toNatClampNeg)), (0, .ref a0), (1, .int a1)]) (st' := [.int (lg_cmp (rd_L (wr_I M a0 70 ((rd_I M a0 70) - (2 : Int32))) (rd_R (wr_I M a0 70 ((rd_I M a0 70) - (2 : Int32))) a0 69) (rd_I (wr_I M a0 70 ((rd_I M a0 70) - (2 : Int32))) a0 70).toNatClampNeg) (rd_L (wr_I M a0 70 ((rd_I M a0 70) - (2 : Int32))) (rd_R (wr_I M a0 70 ((rd_I M a0 70) - (2 : Int32))) a0 69) ((rd_I (wr_I M a0 70 ((rd_I M a0 70) - (2 : Int32))) a0 70) + (1 : Int32)).toNatClampNeg)), .ref a0]) (M1 := (wr_I M a0 70 ((rd_I M a0 70) - (2 : Int32)))) (ob := []) (pc' := 233) (by decide +kernel) rfl rfl sw_a0 ?_
            refine sf_l_ge (off := 7) (tgt := 240) (by decide +kernel) (by decide) hf (fun hc hf => ?_) (fun hc hf => ?_)
            · refine sf_blk [(.iconst (0), 0, 0, .int (0 : Int32))] (lv' := [(4, .long (rd_L (wr_I M a0 70 ((rd_I M a0 70) - (2 : Int32))) (rd_R (wr_I M a0 70 ((rd_I M a0 70) - (2 : Int32))) a0 69) ((rd_I (wr_I M a0 70 ((rd_I M a0 70) - (2 : Int32))) a0 70) + (1 : Int32)).toNatClampNeg)), (2, .long (rd_L (wr_I M a0 70 ((rd_I M a0 70) - (2 : Int32))) (rd_R (wr_I M a0 70 ((rd_I M a0 70) - (2 : Int32))) a0 69) (rd_I (wr_I M a0 70 ((rd_I M a0 70) - (2 : Int32))) a0 70).toNatClampNeg)), (0, .ref a0), (1, .int a1)]) (st' := [.int (0 : Int32), .ref a0]) (M1 := (wr_I M a0 70 ((rd_I M a0 70) - (2 : Int32)))) (ob := []) (pc' := 241) (by decide +kernel) rfl rfl sw_a0 ?_
              exact sf_weak [] rfl (t_Model_does_241 hd hf)
            · refine sf_blk [(.iconst (1), 0, 0, .int (1 : Int32))] (lv' := [(4, .long (rd_L (wr_I M a0 70 ((rd_I M a0 70) - (2 : Int32))) (rd_R (wr_I M a0 70 ((rd_I M a0 70) - (2 : Int32))) a0 69) ((rd_I (wr_I M a0 70 ((rd_I M a0 70) - (2 : Int32))) a0 70) + (1 : Int32)).toNatClampNeg)), (2, .long (rd_L (wr_I M a0 70 ((rd_I M a0 70) - (2 : Int32))) (rd_R (wr_I M a0 70 ((rd_I M a0 70) - (2 : Int32))) a0 69) (rd_I (wr_I M a0 70 ((rd_I M a0 70) - (2 : Int32))) a0 70).toNatClampNeg)), (0, .ref a0), (1, .int a1)]) (st' := [.int (1 : Int32), .ref a0]) (M1 := (wr_I M a0 70 ((rd_I M a0 70) - (2 : Int32)))) (ob := []) (pc' := 237) (by decide +kernel) rfl rfl sw_a0 ?_
              refine sf_goto (off := 4) (tgt := 241) (by decide +kernel) (by decide) ?_
              exact sf_weak [] rfl (t_Model_does_241 hd hf)
          ·
            rcases sw_ite hf with ⟨h13, hf⟩ | ⟨h13, hf⟩
            · refine sf_look (a := a1) (off := 190) (tgt := 268) (len := 98) (show decode (k_c k_Model_does) 78 = .ok (.lookupswitch (328) #[(42, 288), (43, 270), (45, 279), (60, 150), (61, 190), (62, 250), (256, 170), (257, 210), (258, 230), (261, 124), (262, 98)], 98) by decide +kernel) (by decide +kernel) (by rw [h13]; decide +kernel) (by decide) ?_
              refine sf_blk [(.aload_n 0, 0, 0, .null), (.lload_n 2, 0, 0, .null), (.lload 4, 0, 0, .null), (.lcmp, 0, 0, .null)] (lv' := [(4, .long (rd_L (wr_I M a0 70 ((rd_I M a0 70) - (2 : Int32))) (rd_R (wr_I M a0 70 ((rd_I M a0 70) - (2 : Int32))) a0 69) ((rd_I (wr_I M a0 70 ((rd_I M a0 70) - (2 : Int32))) a0 70) + (1 : Int32)).toNatClampNeg)), (2, .long (rd_L (wr_I M a0 70 ((rd_I M a0 70) - (2 : Int32))) (rd_R (wr_I M a0 70 ((rd_I M a0 70) - (2 : Int32))) a0 69) (rd_I (wr_I M a0 70 ((rd_I M a0 70) - (2 : Int32))) a0 70).toNatClampNeg)), (0, .ref a0), (1, .int a1)]) (st' := [.int (lg_cmp (rd_L (wr_I M a0 70 ((rd_I M a0 70) - (2 : Int32))) (rd_R (wr_I M a0 70 ((rd_I M a0 70) - (2 : Int32))) a0 69) (rd_I (wr_I M a0 70 ((rd_I M a0 70) - (2 : Int32))) a0 70).toNatClampNeg) (rd_L (wr_I M a0 70 ((rd_I M a0 70) - (2 : Int32))) (rd_R (wr_I M a0 70 ((rd_I M a0 70) - (2 : Int32))) a0 69) ((rd_I (wr_I M a0 70 ((rd_I M a0 70) - (2 : Int32))) a0 70) + (1 : Int32)).toNatClampNeg)), .ref a0]) (M1 := (wr_I M a0 70 ((rd_I M a0 70) - (2 : Int32)))) (ob := []) (pc' := 273) (by decide +kernel) rfl rfl sw_a0 ?_
              refine sf_l_ne (off := 7) (tgt := 280) (by decide +kernel) (by decide) hf (fun hc hf => ?_) (fun hc hf => ?_)
              · refine sf_blk [(.iconst (0), 0, 0, .int (0 : Int32))] (lv' := [(4, .long (rd_L (wr_I M a0 70 ((rd_I M a0 70) - (2 : Int32))) (rd_R (wr_I M a0 70 ((rd_I M a0 70) - (2 : Int32))) a0 69) ((rd_I (wr_I M a0 70 ((rd_I M a0 70) - (2 : Int32))) a0 70) + (1 : Int32)).toNatClampNeg)), (2, .long (rd_L (wr_I M a0 70 ((rd_I M a0 70) - (2 : Int32))) (rd_R (wr_I M a0 70 ((rd_I M a0 70) - (2 : Int32))) a0 69) (rd_I (wr_I M a0 70 ((rd_I M a0 70) - (2 : Int32))) a0 70).toNatClampNeg)), (0, .ref a0), (1, .int a1)]) (st' := [.int (0 : Int32), .ref a0]) (M1 := (wr_I M a0 70 ((rd_I M a0 70) - (2 : Int32)))) (ob := []) (pc' := 281) (by decide +kernel) rfl rfl sw_a0 ?_
                exact sf_weak [] rfl (t_Model_does_281 hd hf)
              · refine sf_blk [(.iconst (1), 0, 0, .int (1 : Int32))] (lv' := [(4, .long (rd_L (wr_I M a0 70 ((rd_I M a0 70) - (2 : Int32))) (rd_R (wr_I M a0 70 ((rd_I M a0 70) - (2 : Int32))) a0 69) ((rd_I (wr_I M a0 70 ((rd_I M a0 70) - (2 : Int32))) a0 70) + (1 : Int32)).toNatClampNeg)), (2, .long (rd_L (wr_I M a0 70 ((rd_I M a0 70) - (2 : Int32))) (rd_R (wr_I M a0 70 ((rd_I M a0 70) - (2 : Int32))) a0 69) (rd_I (wr_I M a0 70 ((rd_I M a0 70) - (2 : Int32))) a0 70).toNatClampNeg)), (0, .ref a0), (1, .int a1)]) (st' := [.int (1 : Int32), .ref a0]) (M1 := (wr_I M a0 70 ((rd_I M a0 70) - (2 : Int32)))) (ob := []) (pc' := 277) (by decide +kernel) rfl rfl sw_a0 ?_
                refine sf_goto (off := 4) (tgt := 281) (by decide +kernel) (by decide) ?_
                exact sf_weak [] rfl (t_Model_does_281 hd hf)
            ·
              rcases sw_ite hf with ⟨h14, hf⟩ | ⟨h14, hf⟩
              · refine sf_look (a := a1) (off := 250) (tgt := 328) (len := 98) (show decode (k_c k_Model_does) 78 = .ok (.lookupswitch (328) #[(42, 288), (43, 270), (45, 279), (60, 150), (61, 190), (62, 250), (256, 170), (257, 210), (258, 230), (261, 124), (262, 98)], 98) by decide +kernel) (by decide +kernel) (by rw [h14]; decide +kernel) (by decide) ?_
                refine sf_blk [(.aload_n 0, 0, 0, .null), (.lload_n 2, 0, 0, .null), (.lload 4, 0, 0, .null), (.lcmp, 0, 0, .null)] (lv' := [(4, .long (rd_L (wr_I M a0 70 ((rd_I M a0 70) - (2 : Int32))) (rd_R (wr_I M a0 70 ((rd_I M a0 70) - (2 : Int32))) a0 69) ((rd_I (wr_I M a0 70 ((rd_I M a0 70) - (2 : Int32))) a0 70) + (1 : Int32)).toNatClampNeg)), (2, .long (rd_L (wr_I M a0 70 ((rd_I M a0 70) - (2 : Int32))) (rd_R (wr_I M a0 70 ((rd_I M a0 70) - (2 : Int32))) a0 69) (rd_I (wr_I M a0 70 ((rd_I M a0 70) - (2 : Int32))) a0 70).toNatClampNeg)), (0, .ref a0), (1, .int a1)]) (st' := [.int (lg_cmp (rd_L (wr_I M a0 70 ((rd_I M a0 70) - (2 : Int32))) (rd_R (wr_I M a0 70 ((rd_I M a0 70) - (2 : Int32))) a0 69) (rd_I (wr_I M a0 70 ((rd_I M a0 70) - (2 : Int32))) a0 70).toNatClampNeg) (rd_L (wr_I M a0 70 ((rd_I M a0 70) - (2 : Int32))) (rd_R (wr_I M a0 70 ((rd_I M a0 70) - (2 : Int32))) a0 69) ((rd_I (wr_I M a0 70 ((rd_I M a0 70) - (2 : Int32))) a0 70) + (1 : Int32)).toNatClampNeg)), .ref a0]) (M1 := (wr_I M a0 70 ((rd_I M a0 70) - (2 : Int32)))) (ob := []) (pc' := 333) (by decide +kernel) rfl rfl sw_a0 ?_
                refine sf_l_le (off := 7) (tgt := 340) (by decide +kernel) (by decide) hf (fun hc hf => ?_) (fun hc hf => ?_)
                · refine sf_blk [(.iconst (0), 0, 0, .int (0 : Int32))] (lv' := [(4, .long (rd_L (wr_I M a0 70 ((rd_I M a0 70) - (2 : Int32))) (rd_R (wr_I M a0 70 ((rd_I M a0 70) - (2 : Int32))) a0 69) ((rd_I (wr_I M a0 70 ((rd_I M a0 70) - (2 : Int32))) a0 70) + (1 : Int32)).toNatClampNeg)), (2, .long (rd_L (wr_I M a0 70 ((rd_I M a0 70) - (2 : Int32))) (rd_R (wr_I M a0 70 ((rd_I M a0 70) - (2 : Int32))) a0 69) (rd_I (wr_I M a0 70 ((rd_I M a0 70) - (2 : Int32))) a0 70).toNatClampNeg)), (0, .ref a0), (1, .int a1)]) (st' := [.int (0 : Int32), .ref a0]) (M1 := (wr_I M a0 70 ((rd_I M a0 70) - (2 : Int32)))) (ob := []) (pc' := 341) (by decide +kernel) rfl rfl sw_a0 ?_
                  exact sf_weak [] rfl (t_Model_does_341 hd hf)
                · refine sf_blk [(.iconst (1), 0, 0, .int (1 : Int32))] (lv' := [(4, .long (rd_L (wr_I M a0 70 ((rd_I M a0 70) - (2 : Int32))) (rd_R (wr_I M a0 70 ((rd_I M a0 70) - (2 : Int32))) a0 69) ((rd_I (wr_I M a0 70 ((rd_I M a0 70) - (2 : Int32))) a0 70) + (1 : Int32)).toNatClampNeg)), (2, .long (rd_L (wr_I M a0 70 ((rd_I M a0 70) - (2 : Int32))) (rd_R (wr_I M a0 70 ((rd_I M a0 70) - (2 : Int32))) a0 69) (rd_I (wr_I M a0 70 ((rd_I M a0 70) - (2 : Int32))) a0 70).toNatClampNeg)), (0, .ref a0), (1, .int a1)]) (st' := [.int (1 : Int32), .ref a0]) (M1 := (wr_I M a0 70 ((rd_I M a0 70) - (2 : Int32)))) (ob := []) (pc' := 337) (by decide +kernel) rfl rfl sw_a0 ?_
                  refine sf_goto (off := 4) (tgt := 341) (by decide +kernel) (by decide) ?_
                  exact sf_weak [] rfl (t_Model_does_341 hd hf)
              ·
                rcases sw_ite hf with ⟨h15, hf⟩ | ⟨h15, hf⟩
                · refine sf_look (a := a1) (off := 170) (tgt := 248) (len := 98) (show decode (k_c k_Model_does) 78 = .ok (.lookupswitch (328) #[(42, 288), (43, 270), (45, 279), (60, 150), (61, 190), (62, 250), (256, 170), (257, 210), (258, 230), (261, 124), (262, 98)], 98) by decide +kernel) (by decide +kernel) (by rw [h15]; decide +kernel) (by decide) ?_
                  refine sf_blk [(.aload_n 0, 0, 0, .null), (.lload_n 2, 0, 0, .null), (.lload 4, 0, 0, .null), (.lcmp, 0, 0, .null)] (lv' := [(4, .long (rd_L (wr_I M a0 70 ((rd_I M a0 70) - (2 : Int32))) (rd_R (wr_I M a0 70 ((rd_I M a0 70) - (2 : Int32))) a0 69) ((rd_I (wr_I M a0 70 ((rd_I M a0 70) - (2 : Int32))) a0 70) + (1 : Int32)).toNatClampNeg)), (2, .long (rd_L (wr_I M a0 70 ((rd_I M a0 70) - (2 : Int32))) (rd_R (wr_I M a0 70 ((rd_I M a0 70) - (2 : Int32))) a0 69) (rd_I (wr_I M a0 70 ((rd_I M a0 70) - (2 : Int32))) a0 70).toNatClampNeg)), (0, .ref a0), (1, .int a1)]) (st' := [.int (lg_cmp (rd_L (wr_I M a0 70 ((rd_I M a0 70) - (2 : Int32))) (rd_R (wr_I M a0 70 ((rd_I M a0 70) - (2 : Int32))) a0 69) (rd_I (wr_I M a0 70 ((rd_I M a0 70) - (2 : Int32))) a0 70).toNatClampNeg) (rd_L (wr_I M a0 70 ((rd_I M a0 70) - (2 : Int32))) (rd_R (wr_I M a0 70 ((rd_I M a0 70) - (2 : Int32))) a0 69) ((rd_I (wr_I M a0 70 ((rd_I M a0 70) - (2 : Int32))) a0 70) + (1 : Int32)).toNatClampNeg)), .ref a0]) (M1 := (wr_I M a0 70 ((rd_I M a0 70) - (2 : Int32)))) (ob := []) (pc' := 253) (by decide +kernel) rfl rfl sw_a0 ?_
                  refine sf_l_gt (off := 7) (tgt := 260) (by decide +kernel) (by decide) hf (fun hc hf => ?_) (fun hc hf => ?_)
                  · refine sf_blk [(.iconst (0), 0, 0, .int (0 : Int32))] (lv' := [(4, .long (rd_L (wr_I M a0 70 ((rd_I M a0 70) - (2 : Int32))) (rd_R (wr_I M a0 70 ((rd_I M a0 70) - (2 : Int32))) a0 69) ((rd_I (wr_I M a0 70 ((rd_I M a0 70) - (2 : Int32))) a0 70) + (1 : Int32)).toNatClampNeg)), (2, .long (rd_L (wr_I M a0 70 ((rd_I M a0 70) - (2 : Int32))) (rd_R (wr_I M a0 70 ((rd_I M a0 70) - (2 : Int32))) a0 69) (rd_I (wr_I M a0 70 ((rd_I M a0 70) - (2 : Int32))) a0 70).toNatClampNeg)), (0, .ref a0), (1, .int a1)]) (st' := [.int (0 : Int32), .ref a0]) (M1 := (wr_I M a0 70 ((rd_I M a0 70) - (2 : Int32)))) (ob := []) (pc' := 261) (by decide +kernel) rfl rfl sw_a0 ?_
                    exact sf_weak [] rfl (t_Model_does_261 hd hf)
                  · refine sf_blk [(.iconst (1), 0, 0, .int (1 : Int32))] (lv' := [(4, .long (rd_L (wr_I M a0 70 ((rd_I M a0 70) - (2 : Int32))) (rd_R (wr_I M a0 70 ((rd_I M a0 70) - (2 : Int32))) a0 69) ((rd_I (wr_I M a0 70 ((rd_I M a0 70) - (2 : Int32))) a0 70) + (1 : Int32)).toNatClampNeg)), (2, .long (rd_L (wr_I M a0 70 ((rd_I M a0 70) - (2 : Int32))) (rd_R (wr_I M a0 70 ((rd_I M a0 70) - (2 : Int32))) a0 69) (rd_I (wr_I M a0 70 ((rd_I M a0 70) - (2 : Int32))) a0 70).toNatClampNeg)), (0, .ref a0), (1, .int a1)]) (st' := [.int (1 : Int32), .ref a0]) (M1 := (wr_I M a0 70 ((rd_I M a0 70) - (2 : Int32)))) (ob := []) (pc' := 257) (by decide +kernel) rfl rfl sw_a0 ?_
                    refine sf_goto (off := 4) (tgt := 261) (by decide +kernel) (by decide) ?_
                    exact sf_weak [] rfl (t_Model_does_261 hd hf)
                ·
                  rcases sw_ite hf with ⟨h16, hf⟩ | ⟨h16, hf⟩
                  · refine sf_look (a := a1) (off := 210) (tgt := 288) (len := 98) (show decode (k_c k_Model_does) 78 = .ok (.lookupswitch (328) #[(42, 288), (43, 270), (45, 279), (60, 150), (61, 190), (62, 250), (256, 170), (257, 210), (258, 230), (261, 124), (262, 98)], 98) by decide +kernel) (by decide +kernel) (by rw [h16]; decide +kernel) (by decide) ?_
                    refine sf_blk [(.aload_n 0, 0, 0, .null), (.lload_n 2, 0, 0, .null), (.lload 4, 0, 0, .null), (.lcmp, 0, 0, .null)] (lv' := [(4, .long (rd_L (wr_I M a0 70 ((rd_I M a0 70) - (2 : Int32))) (rd_R (wr_I M a0 70 ((rd_I M a0 70) - (2 : Int32))) a0 69) ((rd_I (wr_I M a0 70 ((rd_I M a0 70) - (2 : Int32))) a0 70) + (1 : Int32)).toNatClampNeg)), (2, .long (rd_L (wr_I M a0 70 ((rd_I M a0 70) - (2 : Int32))) (rd_R (wr_I M a0 70 ((rd_I M a0 70) - (2 : Int32))) a0 69) (rd_I (wr_I M a0 70 ((rd_I M a0 70) - (2 : Int32))) a0 70).toNatClampNeg)), (0, .ref a0), (1, .int a1)]) (st' := [.int (lg_cmp (rd_L (wr_I M a0 70 ((rd_I M a0 70) - (2 : Int32))) (rd_R (wr_I M a0 70 ((rd_I M a0 70) - (2 : Int32))) a0 69) (rd_I (wr_I M a0 70 ((rd_I M a0 70) - (2 : Int32))) a0 70).toNatClampNeg) (rd_L (wr_I M a0 70 ((rd_I M a0 70) - (2 : Int32))) (rd_R (wr_I M a0 70 ((rd_I M a0 70) - (2 : Int32))) a0 69) ((rd_I (wr_I M a0 70 ((rd_I M a0 70) - (2 : Int32))) a0 70) + (1 : Int32)).toNatClampNeg)), .ref a0]) (M1 := (wr_I M a0 70 ((rd_I M a0 70) - (2 : Int32)))) (ob := []) (pc' := 293) (by decide +kernel) rfl rfl sw_a0 ?_
                    refine sf_l_eq (off := 7) (tgt := 300) (by decide +kernel) (by decide) hf (fun hc hf => ?_) (fun hc hf => ?_)
                    · refine sf_blk [(.iconst (0), 0, 0, .int (0 : Int32))] (lv' := [(4, .long (rd_L (wr_I M a0 70 ((rd_I M a0 70) - (2 : Int32))) (rd_R (wr_I M a0 70 ((rd_I M a0 70) - (2 : Int32))) a0 69) ((rd_I (wr_I M a0 70 ((rd_I M a0 70) - (2 : Int32))) a0 70) + (1 : Int32)).toNatClampNeg)), (2, .long (rd_L (wr_I M a0 70 ((rd_I M a0 70) - (2 : Int32))) (rd_R (wr_I M a0 70 ((rd_I M a0 70) - (2 : Int32))) a0 69) (rd_I (wr_I M a0 70 ((rd_I M a0 70) - (2 : Int32))) a0 70).toNatClampNeg)), (0, .ref a0), (1, .int a1)]) (st' := [.int (0 : Int32), .ref a0]) (M1 := (wr_I M a0 70 ((rd_I M a0 70) - (2 : Int32)))) (ob := []) (pc' := 301) (by decide +kernel) rfl rfl sw_a0 ?_
                      exact sf_weak [] rfl (t_Model_does_301 hd hf)
                    · refine sf_blk [(.iconst (1), 0, 0, .int (1 : Int32))] (lv' := [(4, .long (rd_L (wr_I M a0 70 ((rd_I M a0 70) - (2 : Int32))) (rd_R (wr_I M a0 70 ((rd_I M a0 70) - (2 : Int32))) a0 69) ((rd_I (wr_I M a0 70 ((rd_I M a0 70) - (2 : Int32))) a0 70) + (1 : Int32)).toNatClampNeg)), (2, .long (rd_L (wr_I M a0 70 ((rd_I M a0 70) - (2 : Int32))) (rd_R (wr_I M a0 70 ((rd_I M a0 70) - (2 : Int32))) a0 69) (rd_I (wr_I M a0 70 ((rd_I M a0 70) - (2 : Int32))) a0 70).toNatClampNeg)), (0, .ref a0), (1, .int a1)]) (st' := [.int (1 : Int32), .ref a0]) (M1 := (wr_I M a0 70 ((rd_I M a0 70) - (2 : Int32)))) (ob := []) (pc' := 297) (by decide +kernel) rfl rfl sw_a0 ?_
                      refine sf_goto (off := 4) (tgt := 301) (by decide +kernel) (by decide) ?_
                      exact sf_weak [] rfl (t_Model_does_301 hd hf)
                  ·
                    rcases sw_ite hf with ⟨h17, hf⟩ | ⟨h17, hf⟩
                    · refine sf_look (a := a1) (off := 230) (tgt := 308) (len := 98) (show decode (k_c k_Model_does) 78 = .ok (.lookupswitch (328) #[(42, 288), (43, 270), (45, 279), (60, 150), (61, 190), (62, 250), (256, 170), (257, 210), (258, 230), (261, 124), (262, 98)], 98) by decide +kernel) (by decide +kernel) (by rw [h17]; decide +kernel) (by decide) ?_
                      refine sf_blk [(.aload_n 0, 0, 0, .null), (.lload_n 2, 0, 0, .null), (.lload 4, 0, 0, .null), (.lcmp, 0, 0, .null)] (lv' := [(4, .long (rd_L (wr_I M a0 70 ((rd_I M a0 70) - (2 : Int32))) (rd_R (wr_I M a0 70 ((rd_I M a0 70) - (2 : Int32))) a0 69) ((rd_I (wr_I M a0 70 ((rd_I M a0 70) - (2 : Int32))) a0 70) + (1 : Int32)).toNatClampNeg)), (2, .long (rd_L (wr_I M a0 70 ((rd_I M a0 70) - (2 : Int32))) (rd_R (wr_I M a0 70 ((rd_I M a0 70) - (2 : Int32))) a0 69) (rd_I (wr_I M a0 70 ((rd_I M a0 70) - (2 : Int32))) a0 70).toNatClampNeg)), (0, .ref a0), (1, .int a1)]) (st' := [.int (lg_cmp (rd_L (wr_I M a0 70 ((rd_I M a0 70) - (2 : Int32))) (rd_R (wr_I M a0 70 ((rd_I M a0 70) - (2 : Int32))) a0 69) (rd_I (wr_I M a0 70 ((rd_I M a0 70) - (2 : Int32))) a0 70).toNatClampNeg) (rd_L (wr_I M a0 70 ((rd_I M a0 70) - (2 : Int32))) (rd_R (wr_I M a0 70 ((rd_I M a0 70) - (2 : Int32))) a0 69) ((rd_I (wr_I M a0 70 ((rd_I M a0 70) - (2 : Int32))) a0 70) + (1 : Int32)).toNatClampNeg)), .ref a0]) (M1 := (wr_I M a0 70 ((rd_I M a0 70) - (2 : Int32)))) (ob := []) (pc' := 313) (by decide +kernel) rfl rfl sw_a0 ?_
                      refine sf_l_lt (off := 7) (tgt := 320) (by decide +kernel) (by decide) hf (fun hc hf => ?_) (fun hc hf => ?_)
                      · refine sf_blk [(.iconst (0), 0, 0, .int (0 : Int32))] (lv' := [(4, .long (rd_L (wr_I M a0 70 ((rd_I M a0 70) - (2 : Int32))) (rd_R (wr_I M a0 70 ((rd_I M a0 70) - (2 : Int32))) a0 69) ((rd_I (wr_I M a0 70 ((rd_I M a0 70) - (2 : Int32))) a0 70) + (1 : Int32)).toNatClampNeg)), (2, .long (rd_L (wr_I M a0 70 ((rd_I M a0 70) - (2 : Int32))) (rd_R (wr_I M a0 70 ((rd_I M a0 70) - (2 : Int32))) a0 69) (rd_I (wr_I M a0 70 ((rd_I M a0 70) - (2 : Int32))) a0 70).toNatClampNeg)), (0, .ref a0), (1, .int a1)]) (st' := [.int (0 : Int32), .ref a0]) (M1 := (wr_I M a0 70 ((rd_I M a0 70) - (2 : Int32)))) (ob := []) (pc' := 321) (by decide +kernel) rfl rfl sw_a0 ?_
                        exact sf_weak [] rfl (t_Model_does_321 hd hf)
                      · refine sf_blk [(.iconst (1), 0, 0, .int (1 : Int32))] (lv' := [(4, .long (rd_L (wr_I M a0 70 ((rd_I M a0 70) - (2 : Int32))) (rd_R (wr_I M a0 70 ((rd_I M a0 70) - (2 : Int32))) a0 69) ((rd_I (wr_I M a0 70 ((rd_I M a0 70) - (2 : Int32))) a0 70) + (1 : Int32)).toNatClampNeg)), (2, .long (rd_L (wr_I M a0 70 ((rd_I M a0 70) - (2 : Int32))) (rd_R (wr_I M a0 70 ((rd_I M a0 70) - (2 : Int32))) a0 69) (rd_I (wr_I M a0 70 ((rd_I M a0 70) - (2 : Int32))) a0 70).toNatClampNeg)), (0, .ref a0), (1, .int a1)]) (st' := [.int (1 : Int32), .ref a0]) (M1 := (wr_I M a0 70 ((rd_I M a0 70) - (2 : Int32)))) (ob := []) (pc' := 317) (by decide +kernel) rfl rfl sw_a0 ?_
                        refine sf_goto (off := 4) (tgt := 321) (by decide +kernel) (by decide) ?_
                        exact sf_weak [] rfl (t_Model_does_321 hd hf)
                    ·
                      rcases sw_ite hf with ⟨h18, hf⟩ | ⟨h18, hf⟩
                      · refine sf_look (a := a1) (off := 124) (tgt := 202) (len := 98) (show decode (k_c k_Model_does) 78 = .ok (.lookupswitch (328) #[(42, 288), (43, 270), (45, 279), (60, 150), (61, 190), (62, 250), (256, 170), (257, 210), (258, 230), (261, 124), (262, 98)], 98) by decide +kernel) (by decide +kernel) (by rw [h18]; decide +kernel) (by decide) ?_
                        refine sf_blk [(.aload_n 0, 0, 0, .null), (.lload_n 2, 0, 0, .null), (.lconst 0, 0, 0, .long (0 : Int64)), (.lcmp, 0, 0, .null)] (lv' := [(4, .long (rd_L (wr_I M a0 70 ((rd_I M a0 70) - (2 : Int32))) (rd_R (wr_I M a0 70 ((rd_I M a0 70) - (2 : Int32))) a0 69) ((rd_I (wr_I M a0 70 ((rd_I M a0 70) - (2 : Int32))) a0 70) + (1 : Int32)).toNatClampNeg)), (2, .long (rd_L (wr_I M a0 70 ((rd_I M a0 70) - (2 : Int32))) (rd_R (wr_I M a0 70 ((rd_I M a0 70) - (2 : Int32))) a0 69) (rd_I (wr_I M a0 70 ((rd_I M a0 70) - (2 : Int32))) a0 70).toNatClampNeg)), (0, .ref a0), (1, .int a1)]) (st' := [.int (lg_cmp (rd_L (wr_I M a0 70 ((rd_I M a0 70) - (2 : Int32))) (rd_R (wr_I M a0 70 ((rd_I M a0 70) - (2 : Int32))) a0 69) (rd_I (wr_I M a0 70 ((rd_I M a0 70) - (2 : Int32))) a0 70).toNatClampNeg) (0 : Int64)), .ref a0]) (M1 := (wr_I M a0 70 ((rd_I M a0 70) - (2 : Int32)))) (ob := []) (pc' := 206) (by decide +kernel) rfl rfl sw_a0 ?_
                        refine sf_l_eq (off := 14) (tgt := 220) (by decide +kernel) (by decide) hf (fun hc hf => ?_) (fun hc hf => ?_)
                        · exact sf_weak [] rfl (t_Model_does_220 hd hf)
                        · refine sf_blk [(.lload 4, 0, 0, .null), (.lconst 0, 0, 0, .long (0 : Int64)), (.lcmp, 0, 0, .null)] (lv' := [(4, .long (rd_L (wr_I M a0 70 ((rd_I M a0 70) - (2 : Int32))) (rd_R (wr_I M a0 70 ((rd_I M a0 70) - (2 : Int32))) a0 69) ((rd_I (wr_I M a0 70 ((rd_I M a0 70) - (2 : Int32))) a0 70) + (1 : Int32)).toNatClampNeg)), (2, .long (rd_L (wr_I M a0 70 ((rd_I M a0 70) - (2 : Int32))) (rd_R (wr_I M a0 70 ((rd_I M a0 70) - (2 : Int32))) a0 69) (rd_I (wr_I M a0 70 ((rd_I M a0 70) - (2 : Int32))) a0 70).toNatClampNeg)), (0, .ref a0), (1, .int a1)]) (st' := [.int (lg_cmp (rd_L (wr_I M a0 70 ((rd_I M a0 70) - (2 : Int32))) (rd_R (wr_I M a0 70 ((rd_I M a0 70) - (2 : Int32))) a0 69) ((rd_I (wr_I M a0 70 ((rd_I M a0 70) - (2 : Int32))) a0 70) + (1 : Int32)).toNatClampNeg) (0 : Int64)), .ref a0]) (M1 := (wr_I M a0 70 ((rd_I M a0 70) - (2 : Int32)))) (ob := []) (pc' := 213) (by decide +kernel) rfl rfl sw_a0 ?_
                          refine sf_l_eq (off := 7) (tgt := 220) (by decide +kernel) (by decide) hf (fun hc hf => ?_) (fun hc hf => ?_)
                          · exact sf_weak [] rfl (t_Model_does_220 hd hf)
                          · refine sf_blk [(.iconst (1), 0, 0, .int (1 : Int32))] (lv' := [(4, .long (rd_L (wr_I M a0 70 ((rd_I M a0 70) - (2 : Int32))) (rd_R (wr_I M a0 70 ((rd_I M a0 70) - (2 : Int32))) a0 69) ((rd_I (wr_I M a0 70 ((rd_I M a0 70) - (2 : Int32))) a0 70) + (1 : Int32)).toNatClampNeg)), (2, .long (rd_L (wr_I M a0 70 ((rd_I M a0 70) - (2 : Int32))) (rd_R (wr_I M a0 70 ((rd_I M a0 70) - (2 : Int32))) a0 69) (rd_I (wr_I M a0 70 ((rd_I M a0 70) - (2 : Int32))) a0 70).toNatClampNeg)), (0, .ref a0), (1, .int a1)]) (st' := [.int (1 : Int32), .ref a0]) (M1 := (wr_I M a0 70 ((rd_I M a0 70) - (2 : Int32)))) (ob := []) (pc' := 217) (by decide +kernel) rfl rfl sw_a0 ?_
                            refine sf_goto (off := 4) (tgt := 221) (by decide +kernel) (by decide) ?_
                            exact sf_weak [] rfl (t_Model_does_221 hd hf)
                      ·
                        rcases sw_ite hf with ⟨h19, hf⟩ | ⟨h19, hf⟩
                        · refine sf_look (a := a1) (off := 98) (tgt := 176) (len := 98) (show decode (k_c k_Model_does) 78 = .ok (.lookupswitch (328) #[(42, 288), (43, 270), (45, 279), (60, 150), (61, 190), (62, 250), (256, 170), (257, 210), (258, 230), (261, 124), (262, 98)], 98) by decide +kernel) (by decide +kernel) (by rw [h19]; decide +kernel) (by decide) ?_
                          refine sf_blk [(.aload_n 0, 0, 0, .null), (.lload_n 2, 0, 0, .null), (.lconst 0, 0, 0, .long (0 : Int64)), (.lcmp, 0, 0, .null)] (lv' := [(4, .long (rd_L (wr_I M a0 70 ((rd_I M a0 70) - (2 : Int32))) (rd_R (wr_I M a0 70 ((rd_I M a0 70) - (2 : Int32))) a0 69) ((rd_I (wr_I M a0 70 ((rd_I M a0 70) - (2 : Int32))) a0 70) + (1 : Int32)).toNatClampNeg)), (2, .long (rd_L (wr_I M a0 70 ((rd_I M a0 70) - (2 : Int32))) (rd_R (wr_I M a0 70 ((rd_I M a0 70) - (2 : Int32))) a0 69) (rd_I (wr_I M a0 70 ((rd_I M a0 70) - (2 : Int32))) a0 70).toNatClampNeg)), (0, .ref a0), (1, .int a1)]) (st' := [.int (lg_cmp (rd_L (wr_I M a0 70 ((rd_I M a0 70) - (2 : Int32))) (rd_R (wr_I M a0 70 ((rd_I M a0 70) - (2 : Int32))) a0 69) (rd_I (wr_I M a0 70 ((rd_I M a0 70) - (2 : Int32))) a0 70).toNatClampNeg) (0 : Int64)), .ref a0]) (M1 := (wr_I M a0 70 ((rd_I M a0 70) - (2 : Int32)))) (ob := []) (pc' := 180) (by decide +kernel) rfl rfl sw_a0 ?_
                          refine sf_l_ne (off := 10) (tgt := 190) (by decide +kernel) (by decide) hf (fun hc hf => ?_) (fun hc hf => ?_)
                          · exact sf_weak [] rfl (t_Model_does_190 hd hf)
                          · refine sf_blk [(.lload 4, 0, 0, .null), (.lconst 0, 0, 0, .long (0 : Int64)), (.lcmp, 0, 0, .null)] (lv' := [(4, .long (rd_L (wr_I M a0 70 ((rd_I M a0 70) - (2 : Int32))) (rd_R (wr_I M a0 70 ((rd_I M a0 70) - (2 : Int32))) a0 69) ((rd_I (wr_I M a0 70 ((rd_I M a0 70) - (2 : Int32))) a0 70) + (1 : Int32)).toNatClampNeg)), (2, .long (rd_L (wr_I M a0 70 ((rd_I M a0 70) - (2 : Int32))) (rd_R (wr_I M a0 70 ((rd_I M a0 70) - (2 : Int32))) a0 69) (rd_I (wr_I M a0 70 ((rd_I M a0 70) - (2 : Int32))) a0 70).toNatClampNeg)), (0, .ref a0), (1, .int a1)]) (st' := [.int (lg_cmp (rd_L (wr_I M a0 70 ((rd_I M a0 70) - (2 : Int32))) (rd_R (wr_I M a0 70 ((rd_I M a0 70) - (2 : Int32))) a0 69) ((rd_I (wr_I M a0 70 ((rd_I M a0 70) - (2 : Int32))) a0 70) + (1 : Int32)).toNatClampNeg) (0 : Int64)), .ref a0]) (M1 := (wr_I M a0 70 ((rd_I M a0 70) - (2 : Int32)))) (ob := []) (pc' := 187) (by decide +kernel) rfl rfl sw_a0 ?_
                            refine sf_l_eq (off := 7) (tgt := 194) (by decide +kernel) (by decide) hf (fun hc hf => ?_) (fun hc hf => ?_)
                            · refine sf_blk [(.iconst (0), 0, 0, .int (0 : Int32))] (lv' := [(4, .long (rd_L (wr_I M a0 70 ((rd_I M a0 70) - (2 : Int32))) (rd_R (wr_I M a0 70 ((rd_I M a0 70) - (2 : Int32))) a0 69) ((rd_I (wr_I M a0 70 ((rd_I M a0 70) - (2 : Int32))) a0 70) + (1 : Int32)).toNatClampNeg)), (2, .long (rd_L (wr_I M a0 70 ((rd_I M a0 70) - (2 : Int32))) (rd_R (wr_I M a0 70 ((rd_I M a0 70) - (2 : Int32))) a0 69) (rd_I (wr_I M a0 70 ((rd_I M a0 70) - (2 : Int32))) a0 70).toNatClampNeg)), (0, .ref a0), (1, .int a1)]) (st' := [.int (0 : Int32), .ref a0]) (M1 := (wr_I M a0 70 ((rd_I M a0 70) - (2 : Int32)))) (ob := []) (pc' := 195) (by decide +kernel) rfl rfl sw_a0 ?_
                              exact sf_weak [] rfl (t_Model_does_195 hd hf)
                            · exact sf_weak [] rfl (t_Model_does_190 hd hf)
                        ·
                          refine sf_look (a := a1) (off := 328) (tgt := 406) (len := 98) (show decode (k_c k_Model_does) 78 = .ok (.lookupswitch (328) #[(42, 288), (43, 270), (45, 279), (60, 150), (61, 190), (62, 250), (256, 170), (257, 210), (258, 230), (261, 124), (262, 98)], 98) by decide +kernel) (by decide +kernel) (by rw [lv_osw h4 (by decide), lv_osw h6 (by decide), lv_osw h9 (by decide), lv_osw h12 (by decide), lv_osw h13 (by decide), lv_osw h14 (by decide), lv_osw h15 (by decide), lv_osw h16 (by decide), lv_osw h17 (by decide), lv_osw h18 (by decide), lv_osw h19 (by decide)]; rfl) (by decide) ?_
                          refine sf_blk [(.lload 4, 0, 0, .null), (.lconst 0, 0, 0, .long (0 : Int64)), (.lcmp, 0, 0, .null)] (lv' := [(4, .long (rd_L (wr_I M a0 70 ((rd_I M a0 70) - (2 : Int32))) (rd_R (wr_I M a0 70 ((rd_I M a0 70) - (2 : Int32))) a0 69) ((rd_I (wr_I M a0 70 ((rd_I M a0 70) - (2 : Int32))) a0 70) + (1 : Int32)).toNatClampNeg)), (2, .long (rd_L (wr_I M a0 70 ((rd_I M a0 70) - (2 : Int32))) (rd_R (wr_I M a0 70 ((rd_I M a0 70) - (2 : Int32))) a0 69) (rd_I (wr_I M a0 70 ((rd_I M a0 70) - (2 : Int32))) a0 70).toNatClampNeg)), (0, .ref a0), (1, .int a1)]) (st' := [.int (lg_cmp (rd_L (wr_I M a0 70 ((rd_I M a0 70) - (2 : Int32))) (rd_R (wr_I M a0 70 ((rd_I M a0 70) - (2 : Int32))) a0 69) ((rd_I (wr_I M a0 70 ((rd_I M a0 70) - (2 : Int32))) a0 70) + (1 : Int32)).toNatClampNeg) (0 : Int64))]) (M1 := (wr_I M a0 70 ((rd_I M a0 70) - (2 : Int32)))) (ob := []) (pc' := 410) (by decide +kernel) rfl rfl sw_a0 ?_
                          refine sf_l_eq (off := 18) (tgt := 428) (by decide +kernel) (by decide) hf (fun hc hf => ?_) (fun hc hf => ?_)
                          · refine sf_blk [(.iconst (0), 0, 0, .int (0 : Int32))] (lv' := [(4, .long (rd_L (wr_I M a0 70 ((rd_I M a0 70) - (2 : Int32))) (rd_R (wr_I M a0 70 ((rd_I M a0 70) - (2 : Int32))) a0 69) ((rd_I (wr_I M a0 70 ((rd_I M a0 70) - (2 : Int32))) a0 70) + (1 : Int32)).toNatClampNeg)), (2, .long (rd_L (wr_I M a0 70 ((rd_I M a0 70) - (2 : Int32))) (rd_R (wr_I M a0 70 ((rd_I M a0 70) - (2 : Int32))) a0 69) (rd_I (wr_I M a0 70 ((rd_I M a0 70) - (2 : Int32))) a0 70).toNatClampNeg)), (0, .ref a0), (1, .int a1)]) (st' := [.int (0 : Int32)]) (M1 := (wr_I M a0 70 ((rd_I M a0 70) - (2 : Int32)))) (ob := []) (pc' := 429) (by decide +kernel) rfl rfl sw_a0 ?_
                            cases hf
                            exact sf_bool rfl rfl (by decide +kernel)
                          · obtain ⟨h20, hf⟩ := sw_gd_1 hf
                            refine sf_blk [(.aload_n 0, 0, 0, .null), (.lload_n 2, 0, 0, .null), (.lload 4, 0, 0, .null), (.ldiv, 0, 0, .null)] (lv' := [(4, .long (rd_L (wr_I M a0 70 ((rd_I M a0 70) - (2 : Int32))) (rd_R (wr_I M a0 70 ((rd_I M a0 70) - (2 : Int32))) a0 69) ((rd_I (wr_I M a0 70 ((rd_I M a0 70) - (2 : Int32))) a0 70) + (1 : Int32)).toNatClampNeg)), (2, .long (rd_L (wr_I M a0 70 ((rd_I M a0 70) - (2 : Int32))) (rd_R (wr_I M a0 70 ((rd_I M a0 70) - (2 : Int32))) a0 69) (rd_I (wr_I M a0 70 ((rd_I M a0 70) - (2 : Int32))) a0 70).toNatClampNeg)), (0, .ref a0), (1, .int a1)]) (st' := [.long ((rd_L (wr_I M a0 70 ((rd_I M a0 70) - (2 : Int32))) (rd_R (wr_I M a0 70 ((rd_I M a0 70) - (2 : Int32))) a0 69) (rd_I (wr_I M a0 70 ((rd_I M a0 70) - (2 : Int32))) a0 70).toNatClampNeg) / (rd_L (wr_I M a0 70 ((rd_I M a0 70) - (2 : Int32))) (rd_R (wr_I M a0 70 ((rd_I M a0 70) - (2 : Int32))) a0 69) ((rd_I (wr_I M a0 70 ((rd_I M a0 70) - (2 : Int32))) a0 70) + (1 : Int32)).toNatClampNeg)), .ref a0]) (M1 := (wr_I M a0 70 ((rd_I M a0 70) - (2 : Int32)))) (ob := [decide (¬ (rd_L (wr_I M a0 70 ((rd_I M a0 70) - (2 : Int32))) (rd_R (wr_I M a0 70 ((rd_I M a0 70) - (2 : Int32))) a0 69) ((rd_I (wr_I M a0 70 ((rd_I M a0 70) - (2 : Int32))) a0 70) + (1 : Int32)).toNatClampNeg) = 0)]) (pc' := 418) (by decide +kernel) rfl rfl (sw_a1 h20 sw_a0) ?_
                            obtain ⟨u21, hu21, hf⟩ := sw_bnd hf
                            refine sf_callV (i := 426) (k2 := k_Model_puts) (d2 := d - 1) (As := [.long ((rd_L (wr_I M a0 70 ((rd_I M a0 70) - (2 : Int32))) (rd_R (wr_I M a0 70 ((rd_I M a0 70) - (2 : Int32))) a0 69) (rd_I (wr_I M a0 70 ((rd_I M a0 70) - (2 : Int32))) a0 70).toNatClampNeg) / (rd_L (wr_I M a0 70 ((rd_I M a0 70) - (2 : Int32))) (rd_R (wr_I M a0 70 ((rd_I M a0 70) - (2 : Int32))) a0 69) ((rd_I (wr_I M a0 70 ((rd_I M a0 70) - (2 : Int32))) a0 70) + (1 : Int32)).toNatClampNeg))]) (st := []) (q := a0) (ci := 12) mf_Model_puts mi_Model_puts ms_Model_puts (sw_m7 213 (by decide +kernel)) rfl (by decide) (by decide +kernel) rfl (Nat.le_of_ble_eq_true rfl) (by omega) h1 (o_Model_puts g (d := d - 1) (by omega) hu21) ?_
                            show sw_F _ _ _ _ _ _ 421 [(4, .long (rd_L (wr_I M a0 70 ((rd_I M a0 70) - (2 : Int32))) (rd_R (wr_I M a0 70 ((rd_I M a0 70) - (2 : Int32))) a0 69) ((rd_I (wr_I M a0 70 ((rd_I M a0 70) - (2 : Int32))) a0 70) + (1 : Int32)).toNatClampNeg)), (2, .long (rd_L (wr_I M a0 70 ((rd_I M a0 70) - (2 : Int32))) (rd_R (wr_I M a0 70 ((rd_I M a0 70) - (2 : Int32))) a0 69) (rd_I (wr_I M a0 70 ((rd_I M a0 70) - (2 : Int32))) a0 70).toNatClampNeg)), (0, .ref a0), (1, .int a1)] [.int u21.1] u21.2
                            refine sf_z_eq (off := 7) (tgt := 428) (by decide +kernel) (by decide) hf (fun hc hf => ?_) (fun hc hf => ?_)
                            · refine sf_blk [(.iconst (0), 0, 0, .int (0 : Int32))] (lv' := [(4, .long (rd_L (wr_I M a0 70 ((rd_I M a0 70) - (2 : Int32))) (rd_R (wr_I M a0 70 ((rd_I M a0 70) - (2 : Int32))) a0 69) ((rd_I (wr_I M a0 70 ((rd_I M a0 70) - (2 : Int32))) a0 70) + (1 : Int32)).toNatClampNeg)), (2, .long (rd_L (wr_I M a0 70 ((rd_I M a0 70) - (2 : Int32))) (rd_R (wr_I M a0 70 ((rd_I M a0 70) - (2 : Int32))) a0 69) (rd_I (wr_I M a0 70 ((rd_I M a0 70) - (2 : Int32))) a0 70).toNatClampNeg)), (0, .ref a0), (1, .int a1)]) (st' := [.int (0 : Int32)]) (M1 := u21.2) (ob := []) (pc' := 429) (by decide +kernel) rfl rfl sw_a0 ?_
                              cases hf
                              exact sf_bool rfl rfl (by decide +kernel)
                            · refine sf_blk [(.iconst (1), 0, 0, .int (1 : Int32))] (lv' := [(4, .long (rd_L (wr_I M a0 70 ((rd_I M a0 70) - (2 : Int32))) (rd_R (wr_I M a0 70 ((rd_I M a0 70) - (2 : Int32))) a0 69) ((rd_I (wr_I M a0 70 ((rd_I M a0 70) - (2 : Int32))) a0 70) + (1 : Int32)).toNatClampNeg)), (2, .long (rd_L (wr_I M a0 70 ((rd_I M a0 70) - (2 : Int32))) (rd_R (wr_I M a0 70 ((rd_I M a0 70) - (2 : Int32))) a0 69) (rd_I (wr_I M a0 70 ((rd_I M a0 70) - (2 : Int32))) a0 70).toNatClampNeg)), (0, .ref a0), (1, .int a1)]) (st' := [.int (1 : Int32)]) (M1 := u21.2) (ob := []) (pc' := 425) (by decide +kernel) rfl rfl sw_a0 ?_
                              refine sf_goto (off := 4) (tgt := 429) (by decide +kernel) (by decide) ?_
                              cases hf
                              exact sf_bool rfl rfl (by decide +kernel)
  · obtain ⟨h22, hf⟩ := sw_gd_1 hf
    obtain ⟨h23, hf⟩ := sw_gd_1 hf
    refine sf_blk [(.aload_n 0, 0, 0, .null), (.getfield 112, 12, 69, .null), (.aload_n 0, 0, 0, .null), (.getfield 416, 12, 70, .null), (.iconst (1), 0, 0, .int (1 : Int32)), (.isub, 0, 0, .null), (.aload_n 0, 0, 0, .null), (.getfield 112, 12, 69, .null), (.aload_n 0, 0, 0, .null), (.getfield 416, 12, 70, .null), (.iconst (1), 0, 0, .int (1 : Int32)), (.isub, 0, 0, .null), (.laload, 0, 0, .null), (.lconst 0, 0, 0, .long (0 : Int64)), (.lcmp, 0, 0, .null)] (lv' := [(0, .ref a0), (1, .int a1)]) (st' := [.int (lg_cmp (rd_L M (rd_R M a0 69) ((rd_I M a0 70) - (1 : Int32)).toNatClampNeg) (0 : Int64)), .int ((rd_I M a0 70) - (1 : Int32)), .ref (rd_R M a0 69)]) (M1 := M) (ob := [sw_ok M a0 12, sw_ok M a0 12, sw_ok M a0 12, sw_ok M a0 12, sw_ar M (rd_R M a0 69) 16 ((rd_I M a0 70) - (1 : Int32))]) (pc' := 30) (by decide +kernel) rfl rfl (sw_a1 h22 (sw_a1 h22 (sw_a1 h22 (sw_a1 h22 (sw_a1 h23 sw_a0))))) ?_
    refine sf_l_ne (off := 7) (tgt := 37) (by decide +kernel) (by decide) hf (fun hc hf => ?_) (fun hc hf => ?_)
    · refine sf_blk [(.iconst (0), 0, 0, .int (0 : Int32))] (lv' := [(0, .ref a0), (1, .int a1)]) (st' := [.int (0 : Int32), .int ((rd_I M a0 70) - (1 : Int32)), .ref (rd_R M a0 69)]) (M1 := M) (ob := []) (pc' := 38) (by decide +kernel) rfl rfl sw_a0 ?_
      exact sf_weak [] rfl (t_Model_does_38 hd hf)
    · refine sf_blk [(.iconst (1), 0, 0, .int (1 : Int32))] (lv' := [(0, .ref a0), (1, .int a1)]) (st' := [.int (1 : Int32), .int ((rd_I M a0 70) - (1 : Int32)), .ref (rd_R M a0 69)]) (M1 := M) (ob := []) (pc' := 34) (by decide +kernel) rfl rfl sw_a0 ?_
      refine sf_goto (off := 4) (tgt := 38) (by decide +kernel) (by decide) ?_
      exact sf_weak [] rfl (t_Model_does_38 hd hf)
theorem o_Model_does (g : sw_G) {d : Nat} (hd : 3 ≤ d) {N : Nat} {a0 : Nat} {a1 : Int32} {M : sw_M} {r : Int32 × sw_M} (hf : f_Model_does N a0 a1 M = some r) : sw_Ok g k_Model_does d [.ref a0, .int a1] M (some (.int r.1)) r.2 := sf_met (by decide +kernel) rfl (by decide) (Nat.le_of_ble_eq_true rfl) (t_Model_does hd hf)
def f_Model_nameOf (N : Nat) (a0 : Nat) (a1 : Int32) (a2 : Int32) (M : sw_M) : Option (Int64 × sw_M) :=
  if a1 = (0 : Int32) then sw_gd [sw_ok M a0 12] (sw_gd [sw_ar M (rd_R M a0 64) 16 a2] (some ((rd_L M (rd_R M a0 64) a2.toNatClampNeg), M)))
  else if a1 = (1 : Int32) then sw_gd [sw_ok M a0 12] (sw_gd [sw_ar M (rd_R M a0 65) 16 a2] (some ((rd_L M (rd_R M a0 65) a2.toNatClampNeg), M)))
  else if a1 = (2 : Int32) then sw_gd [sw_ok M a0 12] (sw_gd [sw_ar M (rd_R M a0 66) 13 a2] (some ((rd_I M (rd_R M a0 66) a2.toNatClampNeg).toInt64, M)))
  else if a1 = (3 : Int32) then sw_gd [sw_ok M a0 12] (sw_gd [sw_ar M (rd_R M a0 62) 13 a2] (some ((rd_I M (rd_R M a0 62) a2.toNatClampNeg).toInt64, M)))
  else if a1 = (4 : Int32) then sw_gd [sw_ok M a0 12] (sw_gd [sw_ar M (rd_R M a0 61) 14 a2 || sw_ar M (rd_R M a0 61) 15 a2] (if (rd_I M (rd_R M a0 61) a2.toNatClampNeg) = 0 then some ((0 : Int64), M)
  else sw_gd [sw_ar M (rd_R M a0 60) 13 a2] (some ((rd_I M (rd_R M a0 60) a2.toNatClampNeg).toInt64, M))))
  else sw_gd [sw_ok M a0 12] (sw_gd [sw_ar M (rd_R M a0 67) 13 a2] (some ((rd_I M (rd_R M a0 67) a2.toNatClampNeg).toInt64, M)))
set_option maxRecDepth 10000 in
theorem t_Model_nameOf {g : sw_G} {d n0 : Nat} (hd : 1 ≤ d) {r : Int64 × sw_M} {N : Nat} {a0 : Nat} {a1 : Int32} {a2 : Int32} {M : sw_M} (hf : f_Model_nameOf N a0 a1 a2 M = some r) : sw_F g k_Model_nameOf d n0 (some (.long r.1)) r.2 0 [(0, .ref a0), (1, .int a1), (2, .int a2)] [] M := by
  unfold f_Model_nameOf at hf
  refine sf_blk [(.iload_n 1, 0, 0, .null)] (lv' := [(0, .ref a0), (1, .int a1), (2, .int a2)]) (st' := [.int a1]) (M1 := M) (ob := []) (pc' := 1) (by decide +kernel) rfl rfl sw_a0 ?_
  rcases sw_ite hf with ⟨h1, hf⟩ | ⟨h1, hf⟩
  · refine sf_tin (a := a1) (off := 35) (tgt := 36) (len := 35) (show decode (k_c k_Model_nameOf) 1 = .ok (.tableswitch (86) (0) (4) #[35, 42, 49, 57, 65], 35) by decide +kernel) (by rw [h1]; decide) (by rw [h1]; decide) (by rw [h1]; decide +kernel) (by decide) ?_
    obtain ⟨h2, hf⟩ := sw_gd_1 hf
    obtain ⟨h3, hf⟩ := sw_gd_1 hf
    refine sf_blk [(.aload_n 0, 0, 0, .null), (.getfield 97, 12, 64, .null), (.iload_n 2, 0, 0, .null), (.laload, 0, 0, .null)] (lv' := [(0, .ref a0), (1, .int a1), (2, .int a2)]) (st' := [.long (rd_L M (rd_R M a0 64) a2.toNatClampNeg)]) (M1 := M) (ob := [sw_ok M a0 12, sw_ar M (rd_R M a0 64) 16 a2]) (pc' := 42) (by decide +kernel) rfl rfl (sw_a1 h2 (sw_a1 h3 sw_a0)) ?_
    cases hf
    exact sf_long rfl (by decide +kernel)
  ·
    rcases sw_ite hf with ⟨h4, hf⟩ | ⟨h4, hf⟩
    · refine sf_tin (a := a1) (off := 42) (tgt := 43) (len := 35) (show decode (k_c k_Model_nameOf) 1 = .ok (.tableswitch (86) (0) (4) #[35, 42, 49, 57, 65], 35) by decide +kernel) (by rw [h4]; decide) (by rw [h4]; decide) (by rw [h4]; decide +kernel) (by decide) ?_
      obtain ⟨h5, hf⟩ := sw_gd_1 hf
      obtain ⟨h6, hf⟩ := sw_gd_1 hf
      refine sf_blk [(.aload_n 0, 0, 0, .null), (.getfield 100, 12, 65, .null), (.iload_n 2, 0, 0, .null), (.laload, 0, 0, .null)] (lv' := [(0, .ref a0), (1, .int a1), (2, .int a2)]) (st' := [.long (rd_L M (rd_R M a0 65) a2.toNatClampNeg)]) (M1 := M) (ob := [sw_ok M a0 12, sw_ar M (rd_R M a0 65) 16 a2]) (pc' := 49) (by decide +kernel) rfl rfl (sw_a1 h5 (sw_a1 h6 sw_a0)) ?_
      cases hf
      exact sf_long rfl (by decide +kernel)
    ·
      rcases sw_ite hf with ⟨h7, hf⟩ | ⟨h7, hf⟩
      · refine sf_tin (a := a1) (off := 49) (tgt := 50) (len := 35) (show decode (k_c k_Model_nameOf) 1 = .ok (.tableswitch (86) (0) (4) #[35, 42, 49, 57, 65], 35) by decide +kernel) (by rw [h7]; decide) (by rw [h7]; decide) (by rw [h7]; decide +kernel) (by decide) ?_
        obtain ⟨h8, hf⟩ := sw_gd_1 hf
        obtain ⟨h9, hf⟩ := sw_gd_1 hf
        refine sf_blk [(.aload_n 0, 0, 0, .null), (.getfield 103, 12, 66, .null), (.iload_n 2, 0, 0, .null), (.iaload, 0, 0, .null), (.i2l, 0, 0, .null)] (lv' := [(0, .ref a0), (1, .int a1), (2, .int a2)]) (st' := [.long (rd_I M (rd_R M a0 66) a2.toNatClampNeg).toInt64]) (M1 := M) (ob := [sw_ok M a0 12, sw_ar M (rd_R M a0 66) 13 a2]) (pc' := 57) (by decide +kernel) rfl rfl (sw_a1 h8 (sw_a1 h9 sw_a0)) ?_
        cases hf
        exact sf_long rfl (by decide +kernel)
      ·
        rcases sw_ite hf with ⟨h10, hf⟩ | ⟨h10, hf⟩
        · refine sf_tin (a := a1) (off := 57) (tgt := 58) (len := 35) (show decode (k_c k_Model_nameOf) 1 = .ok (.tableswitch (86) (0) (4) #[35, 42, 49, 57, 65], 35) by decide +kernel) (by rw [h10]; decide) (by rw [h10]; decide) (by rw [h10]; decide +kernel) (by decide) ?_
          obtain ⟨h11, hf⟩ := sw_gd_1 hf
          obtain ⟨h12, hf⟩ := sw_gd_1 hf
          refine sf_blk [(.aload_n 0, 0, 0, .null), (.getfield 90, 12, 62, .null), (.iload_n 2, 0, 0, .null), (.iaload, 0, 0, .null), (.i2l, 0, 0, .null)] (lv' := [(0, .ref a0), (1, .int a1), (2, .int a2)]) (st' := [.long (rd_I M (rd_R M a0 62) a2.toNatClampNeg).toInt64]) (M1 := M) (ob := [sw_ok M a0 12, sw_ar M (rd_R M a0 62) 13 a2]) (pc' := 65) (by decide +kernel) rfl rfl (sw_a1 h11 (sw_a1 h12 sw_a0)) ?_
          cases hf
          exact sf_long rfl (by decide +kernel)
        ·
          rcases sw_ite hf with ⟨h13, hf⟩ | ⟨h13, hf⟩
          · refine sf_tin (a := a1) (off := 65) (tgt := 66) (len := 35) (show decode (k_c k_Model_nameOf) 1 = .ok (.tableswitch (86) (0) (4) #[35, 42, 49, 57, 65], 35) by decide +kernel) (by rw [h13]; decide) (by rw [h13]; decide) (by rw [h13]; decide +kernel) (by decide) ?_
            obtain ⟨h14, hf⟩ := sw_gd_1 hf
            obtain ⟨h15, hf⟩ := sw_gd_1 hf
            refine sf_blk [(.aload_n 0, 0, 0, .null), (.getfield 86, 12, 61, .null), (.iload_n 2, 0, 0, .null), (.baload, 0, 0, .null)] (lv' := [(0, .ref a0), (1, .int a1), (2, .int a2)]) (st' := [.int (rd_I M (rd_R M a0 61) a2.toNatClampNeg)]) (M1 := M) (ob := [sw_ok M a0 12, sw_ar M (rd_R M a0 61) 14 a2 || sw_ar M (rd_R M a0 61) 15 a2]) (pc' := 72) (by decide +kernel) rfl rfl (sw_a1 h14 (sw_a1 h15 sw_a0)) ?_
            refine sf_z_eq (off := 13) (tgt := 85) (by decide +kernel) (by decide) hf (fun hc hf => ?_) (fun hc hf => ?_)
            · refine sf_blk [(.lconst 0, 0, 0, .long (0 : Int64))] (lv' := [(0, .ref a0), (1, .int a1), (2, .int a2)]) (st' := [.long (0 : Int64)]) (M1 := M) (ob := []) (pc' := 86) (by decide +kernel) rfl rfl sw_a0 ?_
              cases hf
              exact sf_long rfl (by decide +kernel)
            · obtain ⟨h16, hf⟩ := sw_gd_1 hf
              refine sf_blk [(.aload_n 0, 0, 0, .null), (.getfield 83, 12, 60, .null), (.iload_n 2, 0, 0, .null), (.iaload, 0, 0, .null), (.i2l, 0, 0, .null)] (lv' := [(0, .ref a0), (1, .int a1), (2, .int a2)]) (st' := [.long (rd_I M (rd_R M a0 60) a2.toNatClampNeg).toInt64]) (M1 := M) (ob := [sw_ok M a0 12, sw_ar M (rd_R M a0 60) 13 a2]) (pc' := 82) (by decide +kernel) rfl rfl (sw_a1 h14 (sw_a1 h16 sw_a0)) ?_
              refine sf_goto (off := 4) (tgt := 86) (by decide +kernel) (by decide) ?_
              cases hf
              exact sf_long rfl (by decide +kernel)
          ·
            have qh1 := sw_ne (n := 0) h1 (by decide)
            have qh4 := sw_ne (n := 1) h4 (by decide)
            have qh7 := sw_ne (n := 2) h7 (by decide)
            have qh10 := sw_ne (n := 3) h10 (by decide)
            have qh13 := sw_ne (n := 4) h13 (by decide)
            refine sf_tout (a := a1) (tgt := 87) (len := 35) (show decode (k_c k_Model_nameOf) 1 = .ok (.tableswitch (86) (0) (4) #[35, 42, 49, 57, 65], 35) by decide +kernel) (by omega) (by decide) ?_
            obtain ⟨h17, hf⟩ := sw_gd_1 hf
            obtain ⟨h18, hf⟩ := sw_gd_1 hf
            refine sf_blk [(.aload_n 0, 0, 0, .null), (.getfield 106, 12, 67, .null), (.iload_n 2, 0, 0, .null), (.iaload, 0, 0, .null), (.i2l, 0, 0, .null)] (lv' := [(0, .ref a0), (1, .int a1), (2, .int a2)]) (st' := [.long (rd_I M (rd_R M a0 67) a2.toNatClampNeg).toInt64]) (M1 := M) (ob := [sw_ok M a0 12, sw_ar M (rd_R M a0 67) 13 a2]) (pc' := 94) (by decide +kernel) rfl rfl (sw_a1 h17 (sw_a1 h18 sw_a0)) ?_
            cases hf
            exact sf_long rfl (by decide +kernel)
theorem o_Model_nameOf (g : sw_G) {d : Nat} (hd : 1 ≤ d) {N : Nat} {a0 : Nat} {a1 : Int32} {a2 : Int32} {M : sw_M} {r : Int64 × sw_M} (hf : f_Model_nameOf N a0 a1 a2 M = some r) : sw_Ok g k_Model_nameOf d [.ref a0, .int a1, .int a2] M (some (.long r.1)) r.2 := sf_met (by decide +kernel) rfl (by decide) (Nat.le_of_ble_eq_true rfl) (t_Model_nameOf hd hf)
def f_Model_isUsed_81 (N : Nat) (k16 : Nat → Int32 → Int32 → sw_M → Option (Int32 × sw_M)) (a0 : Nat) (a1 : Int32) (a2 : Int32) (b0 : Int32) (M : sw_M) : Option (Int32 × sw_M) :=
  if b0 = 0 then some ((0 : Int32), M)
  else k16 a0 a1 (a2 + (1 : Int32)) M
set_option maxRecDepth 10000 in
theorem t_Model_isUsed_81 {g : sw_G} {d n0 : Nat} (hd : 4 ≤ d) {r : Int32 × sw_M} (k16 : Nat → Int32 → Int32 → sw_M → Option (Int32 × sw_M)) (hk16 : ∀ (a0 : Nat) (a1 : Int32) (a2 : Int32) (M : sw_M), k16 a0 a1 a2 M = some r → sw_F g k_Model_isUsed d n0 (some (.int r.1)) r.2 16 [(0, .ref a0), (1, .int a1), (2, .int a2)] [] M) {N : Nat} {a0 : Nat} {a1 : Int32} {a2 : Int32} {b0 : Int32} {M : sw_M} (hf : f_Model_isUsed_81 N k16 a0 a1 a2 b0 M = some r) : sw_F g k_Model_isUsed d n0 (some (.int r.1)) r.2 81 [(0, .ref a0), (1, .int a1), (2, .int a2)] [.int b0] M := by
  unfold f_Model_isUsed_81 at hf
  refine sf_blk [(.istore_n 3, 0, 0, .null), (.iload_n 3, 0, 0, .null)] (lv' := [(3, .int b0), (0, .ref a0), (1, .int a1), (2, .int a2)]) (st' := [.int b0]) (M1 := M) (ob := []) (pc' := 83) (by decide +kernel) rfl rfl sw_a0 ?_
  refine sf_z_ne (off := 5) (tgt := 88) (by decide +kernel) (by decide) hf (fun hc hf => ?_) (fun hc hf => ?_)
  · refine sf_blk [(.iinc 2 (1), 0, 0, .int (1 : Int32))] (lv' := [(2, .int (a2 + (1 : Int32))), (3, .int b0), (0, .ref a0), (1, .int a1)]) (st' := []) (M1 := M) (ob := []) (pc' := 91) (by decide +kernel) rfl rfl sw_a0 ?_
    refine sf_goto (off := -75) (tgt := 16) (by decide +kernel) (by decide) ?_
    exact sf_weak [2, 3, 0] rfl (hk16 _ _ _ _ hf)
  · refine sf_blk [(.iconst (0), 0, 0, .int (0 : Int32))] (lv' := [(3, .int b0), (0, .ref a0), (1, .int a1), (2, .int a2)]) (st' := [.int (0 : Int32)]) (M1 := M) (ob := []) (pc' := 87) (by decide +kernel) rfl rfl sw_a0 ?_
    cases hf
    exact sf_bool rfl rfl (by decide +kernel)
def f_Model_isUsed_78 (N : Nat) (k16 : Nat → Int32 → Int32 → sw_M → Option (Int32 × sw_M)) (a0 : Nat) (a1 : Int32) (a2 : Int32) (b0 : Int64) (b1 : Nat) (M : sw_M) : Option (Int32 × sw_M) :=
  sw_gd [sw_ok M b1 12] ((f_Model_puts N b1 b0 M).bind (fun u2 => f_Model_isUsed_81 N k16 a0 a1 a2 u2.1 u2.2))
set_option maxRecDepth 10000 in
theorem t_Model_isUsed_78 {g : sw_G} {d n0 : Nat} (hd : 4 ≤ d) {r : Int32 × sw_M} (k16 : Nat → Int32 → Int32 → sw_M → Option (Int32 × sw_M)) (hk16 : ∀ (a0 : Nat) (a1 : Int32) (a2 : Int32) (M : sw_M), k16 a0 a1 a2 M = some r → sw_F g k_Model_isUsed d n0 (some (.int r.1)) r.2 16 [(0, .ref a0), (1, .int a1), (2, .int a2)] [] M) {N : Nat} {a0 : Nat} {a1 : Int32} {a2 : Int32} {b0 : Int64} {b1 : Nat} {M : sw_M} (hf : f_Model_isUsed_78 N k16 a0 a1 a2 b0 b1 M = some r) : sw_F g k_Model_isUsed d n0 (some (.int r.1)) r.2 78 [(0, .ref a0), (1, .int a1), (2, .int a2)] [.long b0, .ref b1] M := by
  unfold f_Model_isUsed_78 at hf
  obtain ⟨h1, hf⟩ := sw_gd_1 hf
  obtain ⟨u2, hu2, hf⟩ := sw_bnd hf
  refine sf_callV (i := 426) (k2 := k_Model_puts) (d2 := d - 1) (As := [.long b0]) (st := []) (q := b1) (ci := 12) mf_Model_puts mi_Model_puts ms_Model_puts (sw_m7 213 (by decide +kernel)) rfl (by decide) (by decide +kernel) rfl (Nat.le_of_ble_eq_true rfl) (by omega) h1 (o_Model_puts g (d := d - 1) (by omega) hu2) ?_
  show sw_F _ _ _ _ _ _ 81 [(0, .ref a0), (1, .int a1), (2, .int a2)] [.int u2.1] u2.2
  exact sf_weak [0, 1, 2] rfl (t_Model_isUsed_81 hd _ hk16 hf)
def f_Model_isUsed_16 (N : Nat) : Nat → Nat → Int32 → Int32 → sw_M → Option (Int32 × sw_M)
  | 0, _, _, _, _ => none
  | j + 1, a0, a1, a2, M =>
  sw_gd [sw_ok M a0 12] (if (rd_I M a0 18) ≤ a2 then sw_gd [sw_ar M (rd_R M a0 69) 16 (0 : Int32)] (if (rd_L M (rd_R M a0 69) (0 : Int32).toNatClampNeg) = (0 : Int64) then some ((0 : Int32), M)
  else some ((1 : Int32), M))
  else sw_gd [sw_ar M (rd_R M a0 16) 13 a2] (if (rd_I M (rd_R M a0 16) a2.toNatClampNeg) = (2 : Int32) then sw_gd [sw_ar M (rd_R M a0 17) 13 a2] ((f_Model_does N a0 (rd_I M (rd_R M a0 17) a2.toNatClampNeg) M).bind (fun u8 => f_Model_isUsed_81 N (f_Model_isUsed_16 N j) a0 a1 a2 u8.1 u8.2))
  else if (rd_I M (rd_R M a0 16) a2.toNatClampNeg) = 0 then sw_gd [sw_ar M (rd_R M a0 17) 13 a2] (f_Model_isUsed_78 N (f_Model_isUsed_16 N j) a0 a1 a2 (rd_I M (rd_R M a0 17) a2.toNatClampNeg).toInt64 a0 M)
  else sw_gd [sw_ar M (rd_R M a0 17) 13 a2] ((f_Model_nameOf N a0 (rd_I M (rd_R M a0 17) a2.toNatClampNeg) a1 M).bind (fun u5 => f_Model_isUsed_78 N (f_Model_isUsed_16 N j) a0 a1 a2 u5.1 a0 u5.2))))
set_option maxRecDepth 10000 in
theorem t_Model_isUsed_16 {g : sw_G} {d n0 : Nat} (hd : 4 ≤ d) {r : Int32 × sw_M} {N : Nat} : ∀ (j : Nat) (a0 : Nat) (a1 : Int32) (a2 : Int32) (M : sw_M), f_Model_isUsed_16 N j a0 a1 a2 M = some r → sw_F g k_Model_isUsed d n0 (some (.int r.1)) r.2 16 [(0, .ref a0), (1, .int a1), (2, .int a2)] [] M := by
  intro j
  induction j with
  | zero =>
    intro a0 a1 a2 M hf
    rw [f_Model_isUsed_16] at hf
    cases hf
  | succ j ih =>
    intro a0 a1 a2 M hf
    rw [f_Model_isUsed_16] at hf
    obtain ⟨h1, hf⟩ := sw_gd_1 hf
    refine sf_blk [(.iload_n 2, 0, 0, .null), (.aload_n 0, 0, 0, .null), (.getfield 299, 12, 18, .null)] (lv' := [(0, .ref a0), (1, .int a1), (2, .int a2)]) (st' := [.int (rd_I M a0 18), .int a2]) (M1 := M) (ob := [sw_ok M a0 12]) (pc' := 21) (by decide +kernel) rfl rfl (sw_a1 h1 sw_a0) ?_
    refine sf_j_ge (off := 73) (tgt := 94) (by decide +kernel) (by decide) hf (fun hc hf => ?_) (fun hc hf => ?_)
    · obtain ⟨h2, hf⟩ := sw_gd_1 hf
      refine sf_blk [(.aload_n 0, 0, 0, .null), (.getfield 112, 12, 69, .null), (.iconst (0), 0, 0, .int (0 : Int32)), (.laload, 0, 0, .null), (.lconst 0, 0, 0, .long (0 : Int64)), (.lcmp, 0, 0, .null)] (lv' := [(0, .ref a0), (1, .int a1), (2, .int a2)]) (st' := [.int (lg_cmp (rd_L M (rd_R M a0 69) (0 : Int32).toNatClampNeg) (0 : Int64))]) (M1 := M) (ob := [sw_ok M a0 12, sw_ar M (rd_R M a0 69) 16 (0 : Int32)]) (pc' := 102) (by decide +kernel) rfl rfl (sw_a1 h1 (sw_a1 h2 sw_a0)) ?_
      refine sf_l_eq (off := 7) (tgt := 109) (by decide +kernel) (by decide) hf (fun hc hf => ?_) (fun hc hf => ?_)
      · refine sf_blk [(.iconst (0), 0, 0, .int (0 : Int32))] (lv' := [(0, .ref a0), (1, .int a1), (2, .int a2)]) (st' := [.int (0 : Int32)]) (M1 := M) (ob := []) (pc' := 110) (by decide +kernel) rfl rfl sw_a0 ?_
        cases hf
        exact sf_bool rfl rfl (by decide +kernel)
      · refine sf_blk [(.iconst (1), 0, 0, .int (1 : Int32))] (lv' := [(0, .ref a0), (1, .int a1), (2, .int a2)]) (st' := [.int (1 : Int32)]) (M1 := M) (ob := []) (pc' := 106) (by decide +kernel) rfl rfl sw_a0 ?_
        refine sf_goto (off := 4) (tgt := 110) (by decide +kernel) (by decide) ?_
        cases hf
        exact sf_bool rfl rfl (by decide +kernel)
    · obtain ⟨h3, hf⟩ := sw_gd_1 hf
      refine sf_blk [(.aload_n 0, 0, 0, .null), (.getfield 41, 12, 16, .null), (.iload_n 2, 0, 0, .null), (.iaload, 0, 0, .null), (.iconst (2), 0, 0, .int (2 : Int32))] (lv' := [(0, .ref a0), (1, .int a1), (2, .int a2)]) (st' := [.int (2 : Int32), .int (rd_I M (rd_R M a0 16) a2.toNatClampNeg)]) (M1 := M) (ob := [sw_ok M a0 12, sw_ar M (rd_R M a0 16) 13 a2]) (pc' := 31) (by decide +kernel) rfl rfl (sw_a1 h1 (sw_a1 h3 sw_a0)) ?_
      refine sf_j_ne (off := 16) (tgt := 47) (by decide +kernel) (by decide) hf (fun hc hf => ?_) (fun hc hf => ?_)
      · refine sf_blk [(.aload_n 0, 0, 0, .null), (.aload_n 0, 0, 0, .null), (.getfield 41, 12, 16, .null), (.iload_n 2, 0, 0, .null), (.iaload, 0, 0, .null)] (lv' := [(0, .ref a0), (1, .int a1), (2, .int a2)]) (st' := [.int (rd_I M (rd_R M a0 16) a2.toNatClampNeg), .ref a0]) (M1 := M) (ob := [sw_ok M a0 12, sw_ar M (rd_R M a0 16) 13 a2]) (pc' := 54) (by decide +kernel) rfl rfl (sw_a1 h1 (sw_a1 h3 sw_a0)) ?_
        refine sf_z_ne (off := 13) (tgt := 67) (by decide +kernel) (by decide) hf (fun hc hf => ?_) (fun hc hf => ?_)
        · obtain ⟨h4, hf⟩ := sw_gd_1 hf
          refine sf_blk [(.aload_n 0, 0, 0, .null), (.aload_n 0, 0, 0, .null), (.getfield 44, 12, 17, .null), (.iload_n 2, 0, 0, .null), (.iaload, 0, 0, .null), (.iload_n 1, 0, 0, .null)] (lv' := [(0, .ref a0), (1, .int a1), (2, .int a2)]) (st' := [.int a1, .int (rd_I M (rd_R M a0 17) a2.toNatClampNeg), .ref a0, .ref a0]) (M1 := M) (ob := [sw_ok M a0 12, sw_ar M (rd_R M a0 17) 13 a2]) (pc' := 75) (by decide +kernel) rfl rfl (sw_a1 h1 (sw_a1 h4 sw_a0)) ?_
          obtain ⟨u5, hu5, hf⟩ := sw_bnd hf
          refine sf_callV (i := 422) (k2 := k_Model_nameOf) (d2 := d - 1) (As := [.int (rd_I M (rd_R M a0 17) a2.toNatClampNeg), .int a1]) (st := [.ref a0]) (q := a0) (ci := 12) mf_Model_nameOf mi_Model_nameOf ms_Model_nameOf (sw_m7 223 (by decide +kernel)) rfl (by decide) (by decide +kernel) rfl (Nat.le_of_ble_eq_true rfl) (by omega) h1 (o_Model_nameOf g (d := d - 1) (by omega) hu5) ?_
          show sw_F _ _ _ _ _ _ 78 [(0, .ref a0), (1, .int a1), (2, .int a2)] [.long u5.1, .ref a0] u5.2
          exact sf_weak [0, 1, 2] rfl (t_Model_isUsed_78 hd _ ih hf)
        · obtain ⟨h6, hf⟩ := sw_gd_1 hf
          refine sf_blk [(.aload_n 0, 0, 0, .null), (.getfield 44, 12, 17, .null), (.iload_n 2, 0, 0, .null), (.iaload, 0, 0, .null), (.i2l, 0, 0, .null)] (lv' := [(0, .ref a0), (1, .int a1), (2, .int a2)]) (st' := [.long (rd_I M (rd_R M a0 17) a2.toNatClampNeg).toInt64, .ref a0]) (M1 := M) (ob := [sw_ok M a0 12, sw_ar M (rd_R M a0 17) 13 a2]) (pc' := 64) (by decide +kernel) rfl rfl (sw_a1 h1 (sw_a1 h6 sw_a0)) ?_
          refine sf_goto (off := 14) (tgt := 78) (by decide +kernel) (by decide) ?_
          exact sf_weak [0, 1, 2] rfl (t_Model_isUsed_78 hd _ ih hf)
      · obtain ⟨h7, hf⟩ := sw_gd_1 hf
        refine sf_blk [(.aload_n 0, 0, 0, .null), (.aload_n 0, 0, 0, .null), (.getfield 44, 12, 17, .null), (.iload_n 2, 0, 0, .null), (.iaload, 0, 0, .null)] (lv' := [(0, .ref a0), (1, .int a1), (2, .int a2)]) (st' := [.int (rd_I M (rd_R M a0 17) a2.toNatClampNeg), .ref a0]) (M1 := M) (ob := [sw_ok M a0 12, sw_ar M (rd_R M a0 17) 13 a2]) (pc' := 41) (by decide +kernel) rfl rfl (sw_a1 h1 (sw_a1 h7 sw_a0)) ?_
        obtain ⟨u8, hu8, hf⟩ := sw_bnd hf
        refine sf_callV (i := 419) (k2 := k_Model_does) (d2 := d - 1) (As := [.int (rd_I M (rd_R M a0 17) a2.toNatClampNeg)]) (st := []) (q := a0) (ci := 12) mf_Model_does mi_Model_does ms_Model_does (sw_m7 206 (by decide +kernel)) rfl (by decide) (by decide +kernel) rfl (Nat.le_of_ble_eq_true rfl) (by omega) h1 (o_Model_does g (d := d - 1) (by omega) hu8) ?_
        show sw_F _ _ _ _ _ _ 44 [(0, .ref a0), (1, .int a1), (2, .int a2)] [.int u8.1] u8.2
        refine sf_goto (off := 37) (tgt := 81) (by decide +kernel) (by decide) ?_
        exact sf_weak [0, 1, 2] rfl (t_Model_isUsed_81 hd _ ih hf)
def f_Model_isUsed (N : Nat) (a0 : Nat) (a1 : Int32) (M : sw_M) : Option (Int32 × sw_M) :=
  sw_gd [sw_ok M a0 12] (if (rd_I M a0 20) = 0 then some ((1 : Int32), M)
  else f_Model_isUsed_16 N N a0 a1 (0 : Int32) (wr_I M a0 70 (0 : Int32)))
set_option maxRecDepth 10000 in
theorem t_Model_isUsed {g : sw_G} {d n0 : Nat} (hd : 4 ≤ d) {r : Int32 × sw_M} {N : Nat} {a0 : Nat} {a1 : Int32} {M : sw_M} (hf : f_Model_isUsed N a0 a1 M = some r) : sw_F g k_Model_isUsed d n0 (some (.int r.1)) r.2 0 [(0, .ref a0), (1, .int a1)] [] M := by
  unfold f_Model_isUsed at hf
  obtain ⟨h1, hf⟩ := sw_gd_1 hf
  refine sf_blk [(.aload_n 0, 0, 0, .null), (.getfield 302, 12, 20, .null)] (lv' := [(0, .ref a0), (1, .int a1)]) (st' := [.int (rd_I M a0 20)]) (M1 := M) (ob := [sw_ok M a0 12]) (pc' := 4) (by decide +kernel) rfl rfl (sw_a1 h1 sw_a0) ?_
  refine sf_z_ne (off := 5) (tgt := 9) (by decide +kernel) (by decide) hf (fun hc hf => ?_) (fun hc hf => ?_)
  · refine sf_blk [(.aload_n 0, 0, 0, .null), (.iconst (0), 0, 0, .int (0 : Int32)), (.putfield 416, 12, 70, .null), (.iconst (0), 0, 0, .int (0 : Int32)), (.istore_n 2, 0, 0, .null)] (lv' := [(2, .int (0 : Int32)), (0, .ref a0), (1, .int a1)]) (st' := []) (M1 := (wr_I M a0 70 (0 : Int32))) (ob := [sw_ok M a0 12]) (pc' := 16) (by decide +kernel) rfl rfl (sw_a1 h1 sw_a0) ?_
    exact sf_weak [1, 2, 0] rfl (t_Model_isUsed_16 hd _ _ _ _ _ hf)
  · refine sf_blk [(.iconst (1), 0, 0, .int (1 : Int32))] (lv' := [(0, .ref a0), (1, .int a1)]) (st' := [.int (1 : Int32)]) (M1 := M) (ob := []) (pc' := 8) (by decide +kernel) rfl rfl sw_a0 ?_
    cases hf
    exact sf_bool rfl rfl (by decide +kernel)
theorem o_Model_isUsed (g : sw_G) {d : Nat} (hd : 4 ≤ d) {N : Nat} {a0 : Nat} {a1 : Int32} {M : sw_M} {r : Int32 × sw_M} (hf : f_Model_isUsed N a0 a1 M = some r) : sw_Ok g k_Model_isUsed d [.ref a0, .int a1] M (some (.int r.1)) r.2 := sf_met (by decide +kernel) rfl (by decide) (Nat.le_of_ble_eq_true rfl) (t_Model_isUsed hd hf)
def f_Model_goAll_95 (N : Nat) (k2 : Nat → Int32 → Int32 → sw_M → Option (sw_M)) (a0 : Nat) (a1 : Int32) (a2 : Int32) (a3 : Int32) (M : sw_M) : Option (sw_M) :=
  sw_gd [sw_ok M a0 12] (sw_gd [sw_ar M (rd_R M a0 60) 13 a2] ((f_Model_isGone N a0 (wr_I M (rd_R M a0 60) a2.toNatClampNeg a3)).bind (fun u3 => sw_gd [(sw_ar u3.2 (rd_R (wr_I M (rd_R M a0 60) a2.toNatClampNeg a3) a0 61) 14 a2 && decide (u3.1.toInt8.toInt32 = u3.1)) || (sw_ar u3.2 (rd_R (wr_I M (rd_R M a0 60) a2.toNatClampNeg a3) a0 61) 15 a2 && sw_bz u3.1)] (sw_gd [sw_ok (wr_I u3.2 (rd_R (wr_I M (rd_R M a0 60) a2.toNatClampNeg a3) a0 61) a2.toNatClampNeg u3.1) a0 12] ((f_Model_tells N a0 a2 (wr_I u3.2 (rd_R (wr_I M (rd_R M a0 60) a2.toNatClampNeg a3) a0 61) a2.toNatClampNeg u3.1)).bind (fun u6 => sw_gd [sw_ok u6 a0 12] ((f_Model_isUsed N a0 a2 u6).bind (fun u8 => sw_gd [(sw_ar u8.2 (rd_R u6 a0 68) 14 a2 && decide (u8.1.toInt8.toInt32 = u8.1)) || (sw_ar u8.2 (rd_R u6 a0 68) 15 a2 && sw_bz u8.1)] (k2 a0 a1 (a2 + (1 : Int32)) (wr_I u8.2 (rd_R u6 a0 68) a2.toNatClampNeg u8.1))))))))))
set_option maxRecDepth 10000 in
theorem t_Model_goAll_95 {g : sw_G} {d n0 : Nat} (hd : 5 ≤ d) {r : sw_M} (k2 : Nat → Int32 → Int32 → sw_M → Option (sw_M)) (hk2 : ∀ (a0 : Nat) (a1 : Int32) (a2 : Int32) (M : sw_M), k2 a0 a1 a2 M = some r → sw_F g k_Model_goAll d n0 none r 2 [(0, .ref a0), (1, .int a1), (2, .int a2)] [] M) {N : Nat} {a0 : Nat} {a1 : Int32} {a2 : Int32} {a3 : Int32} {M : sw_M} (hf : f_Model_goAll_95 N k2 a0 a1 a2 a3 M = some r) : sw_F g k_Model_goAll d n0 none r 95 [(0, .ref a0), (1, .int a1), (2, .int a2), (3, .int a3)] [] M := by
  unfold f_Model_goAll_95 at hf
  obtain ⟨h1, hf⟩ := sw_gd_1 hf
  obtain ⟨h2, hf⟩ := sw_gd_1 hf
  refine sf_blk [(.aload_n 0, 0, 0, .null), (.getfield 83, 12, 60, .null), (.iload_n 2, 0, 0, .null), (.iload_n 3, 0, 0, .null), (.iastore, 0, 0, .null), (.aload_n 0, 0, 0, .null), (.getfield 86, 12, 61, .null), (.iload_n 2, 0, 0, .null), (.aload_n 0, 0, 0, .null)] (lv' := [(0, .ref a0), (1, .int a1), (2, .int a2), (3, .int a3)]) (st' := [.ref a0, .int a2, .ref (rd_R (wr_I M (rd_R M a0 60) a2.toNatClampNeg a3) a0 61)]) (M1 := (wr_I M (rd_R M a0 60) a2.toNatClampNeg a3)) (ob := [sw_ok M a0 12, sw_ar M (rd_R M a0 60) 13 a2, sw_ok (wr_I M (rd_R M a0 60) a2.toNatClampNeg a3) a0 12]) (pc' := 108) (by decide +kernel) rfl rfl (sw_a1 h1 (sw_a1 h2 (sw_a1 h1 sw_a0))) ?_
  obtain ⟨u3, hu3, hf⟩ := sw_bnd hf
  refine sf_callV (i := 394) (k2 := k_Model_isGone) (d2 := d - 1) (As := []) (st := [.int a2, .ref (rd_R (wr_I M (rd_R M a0 60) a2.toNatClampNeg a3) a0 61)]) (q := a0) (ci := 12) mf_Model_isGone mi_Model_isGone ms_Model_isGone (sw_m7 160 (by decide +kernel)) rfl (by decide) (by decide +kernel) rfl (Nat.le_of_ble_eq_true rfl) (by omega) h1 (o_Model_isGone g (d := d - 1) (by omega) hu3) ?_
  show sw_F _ _ _ _ _ _ 111 [(0, .ref a0), (1, .int a1), (2, .int a2), (3, .int a3)] [.int u3.1, .int a2, .ref (rd_R (wr_I M (rd_R M a0 60) a2.toNatClampNeg a3) a0 61)] u3.2
  obtain ⟨h4, hf⟩ := sw_gd_1 hf
  obtain ⟨h5, hf⟩ := sw_gd_1 hf
  refine sf_blk [(.bastore, 0, 0, .null), (.aload_n 0, 0, 0, .null), (.iload_n 2, 0, 0, .null)] (lv' := [(0, .ref a0), (1, .int a1), (2, .int a2), (3, .int a3)]) (st' := [.int a2, .ref a0]) (M1 := (wr_I u3.2 (rd_R (wr_I M (rd_R M a0 60) a2.toNatClampNeg a3) a0 61) a2.toNatClampNeg u3.1)) (ob := [(sw_ar u3.2 (rd_R (wr_I M (rd_R M a0 60) a2.toNatClampNeg a3) a0 61) 14 a2 && decide (u3.1.toInt8.toInt32 = u3.1)) || (sw_ar u3.2 (rd_R (wr_I M (rd_R M a0 60) a2.toNatClampNeg a3) a0 61) 15 a2 && sw_bz u3.1)]) (pc' := 114) (by decide +kernel) rfl rfl (sw_a1 h4 sw_a0) ?_
  obtain ⟨u6, hu6, hf⟩ := sw_bnd hf
  refine sf_callV (i := 403) (k2 := k_Model_tells) (d2 := d - 1) (As := [.int a2]) (st := []) (q := a0) (ci := 12) mf_Model_tells mi_Model_tells ms_Model_tells (sw_m7 195 (by decide +kernel)) rfl (by decide) (by decide +kernel) rfl (Nat.le_of_ble_eq_true rfl) (by omega) h5 (o_Model_tells g (d := d - 1) (by omega) hu6) ?_
  show sw_F _ _ _ _ _ _ 117 [(0, .ref a0), (1, .int a1), (2, .int a2), (3, .int a3)] [] u6
  obtain ⟨h7, hf⟩ := sw_gd_1 hf
  refine sf_blk [(.aload_n 0, 0, 0, .null), (.getfield 109, 12, 68, .null), (.iload_n 2, 0, 0, .null), (.aload_n 0, 0, 0, .null), (.iload_n 2, 0, 0, .null)] (lv' := [(0, .ref a0), (1, .int a1), (2, .int a2), (3, .int a3)]) (st' := [.int a2, .ref a0, .int a2, .ref (rd_R u6 a0 68)]) (M1 := u6) (ob := [sw_ok u6 a0 12]) (pc' := 124) (by decide +kernel) rfl rfl (sw_a1 h7 sw_a0) ?_
  obtain ⟨u8, hu8, hf⟩ := sw_bnd hf
  refine sf_callV (i := 405) (k2 := k_Model_isUsed) (d2 := d - 1) (As := [.int a2]) (st := [.int a2, .ref (rd_R u6 a0 68)]) (q := a0) (ci := 12) mf_Model_isUsed mi_Model_isUsed ms_Model_isUsed (sw_m7 202 (by decide +kernel)) rfl (by decide) (by decide +kernel) rfl (Nat.le_of_ble_eq_true rfl) (by omega) h7 (o_Model_isUsed g (d := d - 1) (by omega) hu8) ?_
  show sw_F _ _ _ _ _ _ 127 [(0, .ref a0), (1, .int a1), (2, .int a2), (3, .int a3)] [.int u8.1, .int a2, .ref (rd_R u6 a0 68)] u8.2
  obtain ⟨h9, hf⟩ := sw_gd_1 hf
  refine sf_blk [(.bastore, 0, 0, .null), (.iinc 2 (1), 0, 0, .int (1 : Int32))] (lv' := [(2, .int (a2 + (1 : Int32))), (0, .ref a0), (1, .int a1), (3, .int a3)]) (st' := []) (M1 := (wr_I u8.2 (rd_R u6 a0 68) a2.toNatClampNeg u8.1)) (ob := [(sw_ar u8.2 (rd_R u6 a0 68) 14 a2 && decide (u8.1.toInt8.toInt32 = u8.1)) || (sw_ar u8.2 (rd_R u6 a0 68) 15 a2 && sw_bz u8.1)]) (pc' := 131) (by decide +kernel) rfl rfl (sw_a1 h9 sw_a0) ?_
  refine sf_goto (off := -129) (tgt := 2) (by decide +kernel) (by decide) ?_
  exact sf_weak [1, 2, 0] rfl (hk2 _ _ _ _ hf)
def f_Model_goAll_62 (N : Nat) (k2 : Nat → Int32 → Int32 → sw_M → Option (sw_M)) : Nat → Nat → Int32 → Int32 → Int32 → sw_M → Option (sw_M)
  | 0, _, _, _, _, _ => none
  | j + 1, a0, a1, a2, a3, M =>
  sw_gd [sw_ok M a0 12] (if (rd_I M a0 51) ≤ a3 then f_Model_goAll_95 N k2 a0 a1 a2 a3 M
  else (f_Model_isGone N a0 M).bind (fun u2 => if u2.1 = 0 then sw_gd [sw_ok u2.2 a0 12] ((f_Model_steps N a0 a3 a1 u2.2).bind (fun u4 => sw_gd [sw_ok u4 a0 12] ((f_Model_keep N a0 a2 (a3 + (1 : Int32)) u4).bind (fun u6 => f_Model_goAll_62 N k2 j a0 a1 a2 (a3 + (1 : Int32)) u6))))
  else f_Model_goAll_95 N k2 a0 a1 a2 a3 u2.2))
set_option maxRecDepth 10000 in
theorem t_Model_goAll_62 {g : sw_G} {d n0 : Nat} (hd : 5 ≤ d) {r : sw_M} (k2 : Nat → Int32 → Int32 → sw_M → Option (sw_M)) (hk2 : ∀ (a0 : Nat) (a1 : Int32) (a2 : Int32) (M : sw_M), k2 a0 a1 a2 M = some r → sw_F g k_Model_goAll d n0 none r 2 [(0, .ref a0), (1, .int a1), (2, .int a2)] [] M) {N : Nat} : ∀ (j : Nat) (a0 : Nat) (a1 : Int32) (a2 : Int32) (a3 : Int32) (M : sw_M), f_Model_goAll_62 N k2 j a0 a1 a2 a3 M = some r → sw_F g k_Model_goAll d n0 none r 62 [(0, .ref a0), (1, .int a1), (2, .int a2), (3, .int a3)] [] M := by
  intro j
  induction j with
  | zero =>
    intro a0 a1 a2 a3 M hf
    rw [f_Model_goAll_62] at hf
    cases hf
  | succ j ih =>
    intro a0 a1 a2 a3 M hf
    rw [f_Model_goAll_62] at hf
    obtain ⟨h1, hf⟩ := sw_gd_1 hf
    refine sf_blk [(.iload_n 3, 0, 0, .null), (.aload_n 0, 0, 0, .null), (.getfield 56, 12, 51, .null)] (lv' := [(0, .ref a0), (1, .int a1), (2, .int a2), (3, .int a3)]) (st' := [.int (rd_I M a0 51), .int a3]) (M1 := M) (ob := [sw_ok M a0 12]) (pc' := 67) (by decide +kernel) rfl rfl (sw_a1 h1 sw_a0) ?_
    refine sf_j_ge (off := 28) (tgt := 95) (by decide +kernel) (by decide) hf (fun hc hf => ?_) (fun hc hf => ?_)
    · exact sf_weak [0, 1, 2, 3] rfl (t_Model_goAll_95 hd _ hk2 hf)
    · refine sf_blk [(.aload_n 0, 0, 0, .null)] (lv' := [(0, .ref a0), (1, .int a1), (2, .int a2), (3, .int a3)]) (st' := [.ref a0]) (M1 := M) (ob := []) (pc' := 71) (by decide +kernel) rfl rfl sw_a0 ?_
      obtain ⟨u2, hu2, hf⟩ := sw_bnd hf
      refine sf_callV (i := 394) (k2 := k_Model_isGone) (d2 := d - 1) (As := []) (st := []) (q := a0) (ci := 12) mf_Model_isGone mi_Model_isGone ms_Model_isGone (sw_m7 160 (by decide +kernel)) rfl (by decide) (by decide +kernel) rfl (Nat.le_of_ble_eq_true rfl) (by omega) h1 (o_Model_isGone g (d := d - 1) (by omega) hu2) ?_
      show sw_F _ _ _ _ _ _ 74 [(0, .ref a0), (1, .int a1), (2, .int a2), (3, .int a3)] [.int u2.1] u2.2
      refine sf_z_ne (off := 21) (tgt := 95) (by decide +kernel) (by decide) hf (fun hc hf => ?_) (fun hc hf => ?_)
      · exact sf_weak [0, 1, 2, 3] rfl (t_Model_goAll_95 hd _ hk2 hf)
      · obtain ⟨h3, hf⟩ := sw_gd_1 hf
        refine sf_blk [(.aload_n 0, 0, 0, .null), (.iload_n 3, 0, 0, .null), (.iload_n 1, 0, 0, .null)] (lv' := [(0, .ref a0), (1, .int a1), (2, .int a2), (3, .int a3)]) (st' := [.int a1, .int a3, .ref a0]) (M1 := u2.2) (ob := []) (pc' := 80) (by decide +kernel) rfl rfl sw_a0 ?_
        obtain ⟨u4, hu4, hf⟩ := sw_bnd hf
        refine sf_callV (i := 391) (k2 := k_Model_steps) (d2 := d - 1) (As := [.int a3, .int a1]) (st := []) (q := a0) (ci := 12) mf_Model_steps mi_Model_steps ms_Model_steps (sw_m7 156 (by decide +kernel)) rfl (by decide) (by decide +kernel) rfl (Nat.le_of_ble_eq_true rfl) (by omega) h3 (o_Model_steps g (d := d - 1) (by omega) hu4) ?_
        show sw_F _ _ _ _ _ _ 83 [(0, .ref a0), (1, .int a1), (2, .int a2), (3, .int a3)] [] u4
        obtain ⟨h5, hf⟩ := sw_gd_1 hf
        refine sf_blk [(.iinc 3 (1), 0, 0, .int (1 : Int32)), (.aload_n 0, 0, 0, .null), (.iload_n 2, 0, 0, .null), (.iload_n 3, 0, 0, .null)] (lv' := [(3, .int (a3 + (1 : Int32))), (0, .ref a0), (1, .int a1), (2, .int a2)]) (st' := [.int (a3 + (1 : Int32)), .int a2, .ref a0]) (M1 := u4) (ob := []) (pc' := 89) (by decide +kernel) rfl rfl sw_a0 ?_
        obtain ⟨u6, hu6, hf⟩ := sw_bnd hf
        refine sf_callV (i := 400) (k2 := k_Model_keep) (d2 := d - 1) (As := [.int a2, .int (a3 + (1 : Int32))]) (st := []) (q := a0) (ci := 12) mf_Model_keep mi_Model_keep ms_Model_keep (sw_m7 191 (by decide +kernel)) rfl (by decide) (by decide +kernel) rfl (Nat.le_of_ble_eq_true rfl) (by omega) h5 (o_Model_keep g (d := d - 1) (by omega) hu6) ?_
        show sw_F _ _ _ _ _ _ 92 [(3, .int (a3 + (1 : Int32))), (0, .ref a0), (1, .int a1), (2, .int a2)] [] u6
        refine sf_goto (off := -30) (tgt := 62) (by decide +kernel) (by decide) ?_
        exact sf_weak [1, 2, 3, 0] rfl (ih _ _ _ _ _ hf)
def f_Model_goAll_2 (N : Nat) : Nat → Nat → Int32 → Int32 → sw_M → Option (sw_M)
  | 0, _, _, _, _ => none
  | j + 1, a0, a1, a2, M =>
  sw_gd [sw_ok M a0 12] (if (rd_I M a0 50) ≤ a2 then some M
  else sw_gd [sw_ar M (rd_R M a0 52) 13 a2] (sw_gd [sw_ar (wr_L M a0 39 (rd_I M (rd_R M a0 52) a2.toNatClampNeg).toInt64) (rd_R (wr_L M a0 39 (rd_I M (rd_R M a0 52) a2.toNatClampNeg).toInt64) a0 53) 13 a2] (sw_gd [sw_ar (wr_L (wr_L M a0 39 (rd_I M (rd_R M a0 52) a2.toNatClampNeg).toInt64) a0 40 (rd_I (wr_L M a0 39 (rd_I M (rd_R M a0 52) a2.toNatClampNeg).toInt64) (rd_R (wr_L M a0 39 (rd_I M (rd_R M a0 52) a2.toNatClampNeg).toInt64) a0 53) a2.toNatClampNeg).toInt64) (rd_R (wr_L (wr_L M a0 39 (rd_I M (rd_R M a0 52) a2.toNatClampNeg).toInt64) a0 40 (rd_I (wr_L M a0 39 (rd_I M (rd_R M a0 52) a2.toNatClampNeg).toInt64) (rd_R (wr_L M a0 39 (rd_I M (rd_R M a0 52) a2.toNatClampNeg).toInt64) a0 53) a2.toNatClampNeg).toInt64) a0 54) 13 a2] (sw_gd [sw_ar (wr_L (wr_L (wr_L M a0 39 (rd_I M (rd_R M a0 52) a2.toNatClampNeg).toInt64) a0 40 (rd_I (wr_L M a0 39 (rd_I M (rd_R M a0 52) a2.toNatClampNeg).toInt64) (rd_R (wr_L M a0 39 (rd_I M (rd_R M a0 52) a2.toNatClampNeg).toInt64) a0 53) a2.toNatClampNeg).toInt64) a0 41 (rd_I (wr_L (wr_L M a0 39 (rd_I M (rd_R M a0 52) a2.toNatClampNeg).toInt64) a0 40 (rd_I (wr_L M a0 39 (rd_I M (rd_R M a0 52) a2.toNatClampNeg).toInt64) (rd_R (wr_L M a0 39 (rd_I M (rd_R M a0 52) a2.toNatClampNeg).toInt64) a0 53) a2.toNatClampNeg).toInt64) (rd_R (wr_L (wr_L M a0 39 (rd_I M (rd_R M a0 52) a2.toNatClampNeg).toInt64) a0 40 (rd_I (wr_L M a0 39 (rd_I M (rd_R M a0 52) a2.toNatClampNeg).toInt64) (rd_R (wr_L M a0 39 (rd_I M (rd_R M a0 52) a2.toNatClampNeg).toInt64) a0 53) a2.toNatClampNeg).toInt64) a0 54) a2.toNatClampNeg).toInt64) (rd_R (wr_L (wr_L (wr_L M a0 39 (rd_I M (rd_R M a0 52) a2.toNatClampNeg).toInt64) a0 40 (rd_I (wr_L M a0 39 (rd_I M (rd_R M a0 52) a2.toNatClampNeg).toInt64) (rd_R (wr_L M a0 39 (rd_I M (rd_R M a0 52) a2.toNatClampNeg).toInt64) a0 53) a2.toNatClampNeg).toInt64) a0 41 (rd_I (wr_L (wr_L M a0 39 (rd_I M (rd_R M a0 52) a2.toNatClampNeg).toInt64) a0 40 (rd_I (wr_L M a0 39 (rd_I M (rd_R M a0 52) a2.toNatClampNeg).toInt64) (rd_R (wr_L M a0 39 (rd_I M (rd_R M a0 52) a2.toNatClampNeg).toInt64) a0 53) a2.toNatClampNeg).toInt64) (rd_R (wr_L (wr_L M a0 39 (rd_I M (rd_R M a0 52) a2.toNatClampNeg).toInt64) a0 40 (rd_I (wr_L M a0 39 (rd_I M (rd_R M a0 52) a2.toNatClampNeg).toInt64) (rd_R (wr_L M a0 39 (rd_I M (rd_R M a0 52) a2.toNatClampNeg).toInt64) a0 53) a2.toNatClampNeg).toInt64) a0 54) a2.toNatClampNeg).toInt64) a0 55) 13 a2] ((f_Model_keep N a0 a2 (0 : Int32) (wr_L (wr_L (wr_L (wr_L M a0 39 (rd_I M (rd_R M a0 52) a2.toNatClampNeg).toInt64) a0 40 (rd_I (wr_L M a0 39 (rd_I M (rd_R M a0 52) a2.toNatClampNeg).toInt64) (rd_R (wr_L M a0 39 (rd_I M (rd_R M a0 52) a2.toNatClampNeg).toInt64) a0 53) a2.toNatClampNeg).toInt64) a0 41 (rd_I (wr_L (wr_L M a0 39 (rd_I M (rd_R M a0 52) a2.toNatClampNeg).toInt64) a0 40 (rd_I (wr_L M a0 39 (rd_I M (rd_R M a0 52) a2.toNatClampNeg).toInt64) (rd_R (wr_L M a0 39 (rd_I M (rd_R M a0 52) a2.toNatClampNeg).toInt64) a0 53) a2.toNatClampNeg).toInt64) (rd_R (wr_L (wr_L M a0 39 (rd_I M (rd_R M a0 52) a2.toNatClampNeg).toInt64) a0 40 (rd_I (wr_L M a0 39 (rd_I M (rd_R M a0 52) a2.toNatClampNeg).toInt64) (rd_R (wr_L M a0 39 (rd_I M (rd_R M a0 52) a2.toNatClampNeg).toInt64) a0 53) a2.toNatClampNeg).toInt64) a0 54) a2.toNatClampNeg).toInt64) a0 42 (rd_I (wr_L (wr_L (wr_L M a0 39 (rd_I M (rd_R M a0 52) a2.toNatClampNeg).toInt64) a0 40 (rd_I (wr_L M a0 39 (rd_I M (rd_R M a0 52) a2.toNatClampNeg).toInt64) (rd_R (wr_L M a0 39 (rd_I M (rd_R M a0 52) a2.toNatClampNeg).toInt64) a0 53) a2.toNatClampNeg).toInt64) a0 41 (rd_I (wr_L (wr_L M a0 39 (rd_I M (rd_R M a0 52) a2.toNatClampNeg).toInt64) a0 40 (rd_I (wr_L M a0 39 (rd_I M (rd_R M a0 52) a2.toNatClampNeg).toInt64) (rd_R (wr_L M a0 39 (rd_I M (rd_R M a0 52) a2.toNatClampNeg).toInt64) a0 53) a2.toNatClampNeg).toInt64) (rd_R (wr_L (wr_L M a0 39 (rd_I M (rd_R M a0 52) a2.toNatClampNeg).toInt64) a0 40 (rd_I (wr_L M a0 39 (rd_I M (rd_R M a0 52) a2.toNatClampNeg).toInt64) (rd_R (wr_L M a0 39 (rd_I M (rd_R M a0 52) a2.toNatClampNeg).toInt64) a0 53) a2.toNatClampNeg).toInt64) a0 54) a2.toNatClampNeg).toInt64) (rd_R (wr_L (wr_L (wr_L M a0 39 (rd_I M (rd_R M a0 52) a2.toNatClampNeg).toInt64) a0 40 (rd_I (wr_L M a0 39 (rd_I M (rd_R M a0 52) a2.toNatClampNeg).toInt64) (rd_R (wr_L M a0 39 (rd_I M (rd_R M a0 52) a2.toNatClampNeg).toInt64) a0 53) a2.toNatClampNeg).toInt64) a0 41 (rd_I (wr_L (wr_L M a0 39 (rd_I M (rd_R M a0 52) a2.toNatClampNeg).toInt64) a0 40 (rd_I (wr_L M a0 39 (rd_I M (rd_R M a0 52) a2.toNatClampNeg).toInt64) (rd_R (wr_L M a0 39 (rd_I M (rd_R M a0 52) a2.toNatClampNeg).toInt64) a0 53) a2.toNatClampNeg).toInt64) (rd_R (wr_L (wr_L M a0 39 (rd_I M (rd_R M a0 52) a2.toNatClampNeg).toInt64) a0 40 (rd_I (wr_L M a0 39 (rd_I M (rd_R M a0 52) a2.toNatClampNeg).toInt64) (rd_R (wr_L M a0 39 (rd_I M (rd_R M a0 52) a2.toNatClampNeg).toInt64) a0 53) a2.toNatClampNeg).toInt64) a0 54) a2.toNatClampNeg).toInt64) a0 55) a2.toNatClampNeg).toInt64)).bind (fun u6 => f_Model_goAll_62 N (f_Model_goAll_2 N j) N a0 a1 a2 (0 : Int32) u6))))))
set_option maxRecDepth 10000 in
theorem t_Model_goAll_2 {g : sw_G} {d n0 : Nat} (hd : 5 ≤ d) {r : sw_M} {N : Nat} : ∀ (j : Nat) (a0 : Nat) (a1 : Int32) (a2 : Int32) (M : sw_M), f_Model_goAll_2 N j a0 a1 a2 M = some r → sw_F g k_Model_goAll d n0 none r 2 [(0, .ref a0), (1, .int a1), (2, .int a2)] [] M := by
  intro j
  induction j with
  | zero =>
    intro a0 a1 a2 M hf
    rw [f_Model_goAll_2] at hf
    cases hf
  | succ j ih =>
    intro a0 a1 a2 M hf
    rw [f_Model_goAll_2] at hf
    obtain ⟨h1, hf⟩ := sw_gd_1 hf
    refine sf_blk [(.iload_n 2, 0, 0, .null), (.aload_n 0, 0, 0, .null), (.getfield 397, 12, 50, .null)] (lv' := [(0, .ref a0), (1, .int a1), (2, .int a2)]) (st' := [.int (rd_I M a0 50), .int a2]) (M1 := M) (ob := [sw_ok M a0 12]) (pc' := 7) (by decide +kernel) rfl rfl (sw_a1 h1 sw_a0) ?_
    refine sf_j_ge (off := 127) (tgt := 134) (by decide +kernel) (by decide) hf (fun hc hf => ?_) (fun hc hf => ?_)
    · cases hf
      exact sf_void rfl (by decide +kernel)
    · obtain ⟨h2, hf⟩ := sw_gd_1 hf
      obtain ⟨h3, hf⟩ := sw_gd_1 hf
      obtain ⟨h4, hf⟩ := sw_gd_1 hf
      obtain ⟨h5, hf⟩ := sw_gd_1 hf
      refine sf_blk [(.aload_n 0, 0, 0, .null), (.aload_n 0, 0, 0, .null), (.getfield 59, 12, 52, .null), (.iload_n 2, 0, 0, .null), (.iaload, 0, 0, .null), (.i2l, 0, 0, .null), (.putfield 351, 12, 39, .null), (.aload_n 0, 0, 0, .null), (.aload_n 0, 0, 0, .null), (.getfield 62, 12, 53, .null), (.iload_n 2, 0, 0, .null), (.iaload, 0, 0, .null), (.i2l, 0, 0, .null), (.putfield 354, 12, 40, .null), (.aload_n 0, 0, 0, .null), (.aload_n 0, 0, 0, .null), (.getfield 65, 12, 54, .null), (.iload_n 2, 0, 0, .null), (.iaload, 0, 0, .null), (.i2l, 0, 0, .null), (.putfield 357, 12, 41, .null), (.aload_n 0, 0, 0, .null), (.aload_n 0, 0, 0, .null), (.getfield 68, 12, 55, .null), (.iload_n 2, 0, 0, .null), (.iaload, 0, 0, .null), (.i2l, 0, 0, .null), (.putfield 360, 12, 42, .null), (.iconst (0), 0, 0, .int (0 : Int32)), (.istore_n 3, 0, 0, .null), (.aload_n 0, 0, 0, .null), (.iload_n 2, 0, 0, .null), (.iload_n 3, 0, 0, .null)] (lv' := [(3, .int (0 : Int32)), (0, .ref a0), (1, .int a1), (2, .int a2)]) (st' := [.int (0 : Int32), .int a2, .ref a0]) (M1 := (wr_L (wr_L (wr_L (wr_L M a0 39 (rd_I M (rd_R M a0 52) a2.toNatClampNeg).toInt64) a0 40 (rd_I (wr_L M a0 39 (rd_I M (rd_R M a0 52) a2.toNatClampNeg).toInt64) (rd_R (wr_L M a0 39 (rd_I M (rd_R M a0 52) a2.toNatClampNeg).toInt64) a0 53) a2.toNatClampNeg).toInt64) a0 41 (rd_I (wr_L (wr_L M a0 39 (rd_I M (rd_R M a0 52) a2.toNatClampNeg).toInt64) a0 40 (rd_I (wr_L M a0 39 (rd_I M (rd_R M a0 52) a2.toNatClampNeg).toInt64) (rd_R (wr_L M a0 39 (rd_I M (rd_R M a0 52) a2.toNatClampNeg).toInt64) a0 53) a2.toNatClampNeg).toInt64) (rd_R (wr_L (wr_L M a0 39 (rd_I M (rd_R M a0 52) a2.toNatClampNeg).toInt64) a0 40 (rd_I (wr_L M a0 39 (rd_I M (rd_R M a0 52) a2.toNatClampNeg).toInt64) (rd_R (wr_L M a0 39 (rd_I M (rd_R M a0 52) a2.toNatClampNeg).toInt64) a0 53) a2.toNatClampNeg).toInt64) a0 54) a2.toNatClampNeg).toInt64) a0 42 (rd_I (wr_L (wr_L (wr_L M a0 39 (rd_I M (rd_R M a0 52) a2.toNatClampNeg).toInt64) a0 40 (rd_I (wr_L M a0 39 (rd_I M (rd_R M a0 52) a2.toNatClampNeg).toInt64) (rd_R (wr_L M a0 39 (rd_I M (rd_R M a0 52) a2.toNatClampNeg).toInt64) a0 53) a2.toNatClampNeg).toInt64) a0 41 (rd_I (wr_L (wr_L M a0 39 (rd_I M (rd_R M a0 52) a2.toNatClampNeg).toInt64) a0 40 (rd_I (wr_L M a0 39 (rd_I M (rd_R M a0 52) a2.toNatClampNeg).toInt64) (rd_R (wr_L M a0 39 (rd_I M (rd_R M a0 52) a2.toNatClampNeg).toInt64) a0 53) a2.toNatClampNeg).toInt64) (rd_R (wr_L (wr_L M a0 39 (rd_I M (rd_R M a0 52) a2.toNatClampNeg).toInt64) a0 40 (rd_I (wr_L M a0 39 (rd_I M (rd_R M a0 52) a2.toNatClampNeg).toInt64) (rd_R (wr_L M a0 39 (rd_I M (rd_R M a0 52) a2.toNatClampNeg).toInt64) a0 53) a2.toNatClampNeg).toInt64) a0 54) a2.toNatClampNeg).toInt64) (rd_R (wr_L (wr_L (wr_L M a0 39 (rd_I M (rd_R M a0 52) a2.toNatClampNeg).toInt64) a0 40 (rd_I (wr_L M a0 39 (rd_I M (rd_R M a0 52) a2.toNatClampNeg).toInt64) (rd_R (wr_L M a0 39 (rd_I M (rd_R M a0 52) a2.toNatClampNeg).toInt64) a0 53) a2.toNatClampNeg).toInt64) a0 41 (rd_I (wr_L (wr_L M a0 39 (rd_I M (rd_R M a0 52) a2.toNatClampNeg).toInt64) a0 40 (rd_I (wr_L M a0 39 (rd_I M (rd_R M a0 52) a2.toNatClampNeg).toInt64) (rd_R (wr_L M a0 39 (rd_I M (rd_R M a0 52) a2.toNatClampNeg).toInt64) a0 53) a2.toNatClampNeg).toInt64) (rd_R (wr_L (wr_L M a0 39 (rd_I M (rd_R M a0 52) a2.toNatClampNeg).toInt64) a0 40 (rd_I (wr_L M a0 39 (rd_I M (rd_R M a0 52) a2.toNatClampNeg).toInt64) (rd_R (wr_L M a0 39 (rd_I M (rd_R M a0 52) a2.toNatClampNeg).toInt64) a0 53) a2.toNatClampNeg).toInt64) a0 54) a2.toNatClampNeg).toInt64) a0 55) a2.toNatClampNeg).toInt64)) (ob := [sw_ok M a0 12, sw_ar M (rd_R M a0 52) 13 a2, sw_ok M a0 12, sw_ok (wr_L M a0 39 (rd_I M (rd_R M a0 52) a2.toNatClampNeg).toInt64) a0 12, sw_ar (wr_L M a0 39 (rd_I M (rd_R M a0 52) a2.toNatClampNeg).toInt64) (rd_R (wr_L M a0 39 (rd_I M (rd_R M a0 52) a2.toNatClampNeg).toInt64) a0 53) 13 a2, sw_ok (wr_L M a0 39 (rd_I M (rd_R M a0 52) a2.toNatClampNeg).toInt64) a0 12, sw_ok (wr_L (wr_L M a0 39 (rd_I M (rd_R M a0 52) a2.toNatClampNeg).toInt64) a0 40 (rd_I (wr_L M a0 39 (rd_I M (rd_R M a0 52) a2.toNatClampNeg).toInt64) (rd_R (wr_L M a0 39 (rd_I M (rd_R M a0 52) a2.toNatClampNeg).toInt64) a0 53) a2.toNatClampNeg).toInt64) a0 12, sw_ar (wr_L (wr_L M a0 39 (rd_I M (rd_R M a0 52) a2.toNatClampNeg).toInt64) a0 40 (rd_I (wr_L M a0 39 (rd_I M (rd_R M a0 52) a2.toNatClampNeg).toInt64) (rd_R (wr_L M a0 39 (rd_I M (rd_R M a0 52) a2.toNatClampNeg).toInt64) a0 53) a2.toNatClampNeg).toInt64) (rd_R (wr_L (wr_L M a0 39 (rd_I M (rd_R M a0 52) a2.toNatClampNeg).toInt64) a0 40 (rd_I (wr_L M a0 39 (rd_I M (rd_R M a0 52) a2.toNatClampNeg).toInt64) (rd_R (wr_L M a0 39 (rd_I M (rd_R M a0 52) a2.toNatClampNeg).toInt64) a0 53) a2.toNatClampNeg).toInt64) a0 54) 13 a2, sw_ok (wr_L (wr_L M a0 39 (rd_I M (rd_R M a0 52) a2.toNatClampNeg).toInt64) a0 40 (rd_I (wr_L M a0 39 (rd_I M (rd_R M a0 52) a2.toNatClampNeg).toInt64) (rd_R (wr_L M a0 39 (rd_I M (rd_R M a0 52) a2.toNatClampNeg).toInt64) a0 53) a2.toNatClampNeg).toInt64) a0 12, sw_ok (wr_L (wr_L (wr_L M a0 39 (rd_I M (rd_R M a0 52) a2.toNatClampNeg).toInt64) a0 40 (rd_I (wr_L M a0 39 (rd_I M (rd_R M a0 52) a2.toNatClampNeg).toInt64) (rd_R (wr_L M a0 39 (rd_I M (rd_R M a0 52) a2.toNatClampNeg).toInt64) a0 53) a2.toNatClampNeg).toInt64) a0 41 (rd_I (wr_L (wr_L M a0 39 (rd_I M (rd_R M a0 52) a2.toNatClampNeg).toInt64) a0 40 (rd_I (wr_L M a0 39 (rd_I M (rd_R M a0 52) a2.toNatClampNeg).toInt64) (rd_R (wr_L M a0 39 (rd_I M (rd_R M a0 52) a2.toNatClampNeg).toInt64) a0 53) a2.toNatClampNeg).toInt64) (rd_R (wr_L (wr_L M a0 39 (rd_I M (rd_R M a0 52) a2.toNatClampNeg).toInt64) a0 40 (rd_I (wr_L M a0 39 (rd_I M (rd_R M a0 52) a2.toNatClampNeg).toInt64) (rd_R (wr_L M a0 39 (rd_I M (rd_R M a0 52) a2.toNatClampNeg).toInt64) a0 53) a2.toNatClampNeg).toInt64) a0 54) a2.toNatClampNeg).toInt64) a0 12, sw_ar (wr_L (wr_L (wr_L M a0 39 (rd_I M (rd_R M a0 52) a2.toNatClampNeg).toInt64) a0 40 (rd_I (wr_L M a0 39 (rd_I M (rd_R M a0 52) a2.toNatClampNeg).toInt64) (rd_R (wr_L M a0 39 (rd_I M (rd_R M a0 52) a2.toNatClampNeg).toInt64) a0 53) a2.toNatClampNeg).toInt64) a0 41 (rd_I (wr_L (wr_L M a0 39 (rd_I M (rd_R M a0 52) a2.toNatClampNeg).toInt64) a0 40 (rd_I (wr_L M a0 39 (rd_I M (rd_R M a0 52) a2.toNatClampNeg).toInt64) (rd_R (wr_L M a0 39 (rd_I M (rd_R M a0 52) a2.toNatClampNeg).toInt64) a0 53) a2.toNatClampNeg).toInt64) (rd_R (wr_L (wr_L M a0 39 (rd_I M (rd_R M a0 52) a2.toNatClampNeg).toInt64) a0 40 (rd_I (wr_L M a0 39 (rd_I M (rd_R M a0 52) a2.toNatClampNeg).toInt64) (rd_R (wr_L M a0 39 (rd_I M (rd_R M a0 52) a2.toNatClampNeg).toInt64) a0 53) a2.toNatClampNeg).toInt64) a0 54) a2.toNatClampNeg).toInt64) (rd_R (wr_L (wr_L (wr_L M a0 39 (rd_I M (rd_R M a0 52) a2.toNatClampNeg).toInt64) a0 40 (rd_I (wr_L M a0 39 (rd_I M (rd_R M a0 52) a2.toNatClampNeg).toInt64) (rd_R (wr_L M a0 39 (rd_I M (rd_R M a0 52) a2.toNatClampNeg).toInt64) a0 53) a2.toNatClampNeg).toInt64) a0 41 (rd_I (wr_L (wr_L M a0 39 (rd_I M (rd_R M a0 52) a2.toNatClampNeg).toInt64) a0 40 (rd_I (wr_L M a0 39 (rd_I M (rd_R M a0 52) a2.toNatClampNeg).toInt64) (rd_R (wr_L M a0 39 (rd_I M (rd_R M a0 52) a2.toNatClampNeg).toInt64) a0 53) a2.toNatClampNeg).toInt64) (rd_R (wr_L (wr_L M a0 39 (rd_I M (rd_R M a0 52) a2.toNatClampNeg).toInt64) a0 40 (rd_I (wr_L M a0 39 (rd_I M (rd_R M a0 52) a2.toNatClampNeg).toInt64) (rd_R (wr_L M a0 39 (rd_I M (rd_R M a0 52) a2.toNatClampNeg).toInt64) a0 53) a2.toNatClampNeg).toInt64) a0 54) a2.toNatClampNeg).toInt64) a0 55) 13 a2, sw_ok (wr_L (wr_L (wr_L M a0 39 (rd_I M (rd_R M a0 52) a2.toNatClampNeg).toInt64) a0 40 (rd_I (wr_L M a0 39 (rd_I M (rd_R M a0 52) a2.toNatClampNeg).toInt64) (rd_R (wr_L M a0 39 (rd_I M (rd_R M a0 52) a2.toNatClampNeg).toInt64) a0 53) a2.toNatClampNeg).toInt64) a0 41 (rd_I (wr_L (wr_L M a0 39 (rd_I M (rd_R M a0 52) a2.toNatClampNeg).toInt64) a0 40 (rd_I (wr_L M a0 39 (rd_I M (rd_R M a0 52) a2.toNatClampNeg).toInt64) (rd_R (wr_L M a0 39 (rd_I M (rd_R M a0 52) a2.toNatClampNeg).toInt64) a0 53) a2.toNatClampNeg).toInt64) (rd_R (wr_L (wr_L M a0 39 (rd_I M (rd_R M a0 52) a2.toNatClampNeg).toInt64) a0 40 (rd_I (wr_L M a0 39 (rd_I M (rd_R M a0 52) a2.toNatClampNeg).toInt64) (rd_R (wr_L M a0 39 (rd_I M (rd_R M a0 52) a2.toNatClampNeg).toInt64) a0 53) a2.toNatClampNeg).toInt64) a0 54) a2.toNatClampNeg).toInt64) a0 12]) (pc' := 59) (by decide +kernel) rfl rfl (sw_a1 h1 (sw_a1 h2 (sw_a1 h1 (sw_a1 h1 (sw_a1 h3 (sw_a1 h1 (sw_a1 h1 (sw_a1 h4 (sw_a1 h1 (sw_a1 h1 (sw_a1 h5 (sw_a1 h1 sw_a0)))))))))))) ?_
      obtain ⟨u6, hu6, hf⟩ := sw_bnd hf
      refine sf_callV (i := 400) (k2 := k_Model_keep) (d2 := d - 1) (As := [.int a2, .int (0 : Int32)]) (st := []) (q := a0) (ci := 12) mf_Model_keep mi_Model_keep ms_Model_keep (sw_m7 191 (by decide +kernel)) rfl (by decide) (by decide +kernel) rfl (Nat.le_of_ble_eq_true rfl) (by omega) h1 (o_Model_keep g (d := d - 1) (by omega) hu6) ?_
      show sw_F _ _ _ _ _ _ 62 [(3, .int (0 : Int32)), (0, .ref a0), (1, .int a1), (2, .int a2)] [] u6
      exact sf_weak [1, 2, 3, 0] rfl (t_Model_goAll_62 hd _ ih _ _ _ _ _ _ hf)
def f_Model_goAll (N : Nat) (a0 : Nat) (a1 : Int32) (M : sw_M) : Option (sw_M) :=
  f_Model_goAll_2 N N a0 a1 (0 : Int32) M
set_option maxRecDepth 10000 in
theorem t_Model_goAll {g : sw_G} {d n0 : Nat} (hd : 5 ≤ d) {r : sw_M} {N : Nat} {a0 : Nat} {a1 : Int32} {M : sw_M} (hf : f_Model_goAll N a0 a1 M = some r) : sw_F g k_Model_goAll d n0 none r 0 [(0, .ref a0), (1, .int a1)] [] M := by
  unfold f_Model_goAll at hf
  refine sf_blk [(.iconst (0), 0, 0, .int (0 : Int32)), (.istore_n 2, 0, 0, .null)] (lv' := [(2, .int (0 : Int32)), (0, .ref a0), (1, .int a1)]) (st' := []) (M1 := M) (ob := []) (pc' := 2) (by decide +kernel) rfl rfl sw_a0 ?_
  exact sf_weak [1, 2, 0] rfl (t_Model_goAll_2 hd _ _ _ _ _ hf)
theorem o_Model_goAll (g : sw_G) {d : Nat} (hd : 5 ≤ d) {N : Nat} {a0 : Nat} {a1 : Int32} {M : sw_M} {r : sw_M} (hf : f_Model_goAll N a0 a1 M = some r) : sw_Ok g k_Model_goAll d [.ref a0, .int a1] M none r := sf_met (by decide +kernel) rfl (by decide) (Nat.le_of_ble_eq_true rfl) (t_Model_goAll hd hf)
def f_Model_told_117 (N : Nat) (a0 : Nat) (a1 : Int32) (M : sw_M) : Option (Int64 × sw_M) :=
  sw_gd [sw_ok M a0 12] (sw_gd [sw_ar M (rd_R M a0 67) 13 a1] (some ((rd_I M (rd_R M a0 67) a1.toNatClampNeg).toInt64, M)))
set_option maxRecDepth 10000 in
theorem t_Model_told_117 {g : sw_G} {d n0 : Nat} (hd : 6 ≤ d) {r : Int64 × sw_M} {N : Nat} {a0 : Nat} {a1 : Int32} {M : sw_M} (hf : f_Model_told_117 N a0 a1 M = some r) : sw_F g k_Model_told d n0 (some (.long r.1)) r.2 117 [(0, .ref a0), (1, .int a1)] [] M := by
  unfold f_Model_told_117 at hf
  obtain ⟨h1, hf⟩ := sw_gd_1 hf
  obtain ⟨h2, hf⟩ := sw_gd_1 hf
  refine sf_blk [(.aload_n 0, 0, 0, .null), (.getfield 106, 12, 67, .null), (.iload_n 1, 0, 0, .null), (.iaload, 0, 0, .null), (.i2l, 0, 0, .null)] (lv' := [(0, .ref a0), (1, .int a1)]) (st' := [.long (rd_I M (rd_R M a0 67) a1.toNatClampNeg).toInt64]) (M1 := M) (ob := [sw_ok M a0 12, sw_ar M (rd_R M a0 67) 13 a1]) (pc' := 124) (by decide +kernel) rfl rfl (sw_a1 h1 (sw_a1 h2 sw_a0)) ?_
  cases hf
  exact sf_long rfl (by decide +kernel)
def f_Model_told (N : Nat) (a0 : Nat) (a1 : Int32) (a2 : Int32) (M : sw_M) : Option (Int64 × sw_M) :=
  sw_gd [sw_ok M a0 12] ((f_Model_isOrbit N a0 a1 (wr_I M a0 0 (0 : Int32))).bind (fun u2 => if u2.1 = 0 then some ((-9223372036854775808 : Int64), u2.2)
  else sw_gd [sw_ok u2.2 a0 12] ((f_Model_goAll N a0 (rd_I u2.2 a0 15) u2.2).bind (fun u4 => if a2 = (0 : Int32) then sw_gd [sw_ok u4 a0 12] (sw_gd [sw_ar u4 (rd_R u4 a0 60) 13 a1] (some ((rd_I u4 (rd_R u4 a0 60) a1.toNatClampNeg).toInt64, u4)))
  else if a2 = (1 : Int32) then sw_gd [sw_ok u4 a0 12] (sw_gd [sw_ar u4 (rd_R u4 a0 64) 16 a1] (some ((rd_L u4 (rd_R u4 a0 64) a1.toNatClampNeg), u4)))
  else if a2 = (2 : Int32) then sw_gd [sw_ok u4 a0 12] (sw_gd [sw_ar u4 (rd_R u4 a0 65) 16 a1] (some ((rd_L u4 (rd_R u4 a0 65) a1.toNatClampNeg), u4)))
  else if a2 = (3 : Int32) then sw_gd [sw_ok u4 a0 12] (sw_gd [sw_ar u4 (rd_R u4 a0 66) 13 a1] (some ((rd_I u4 (rd_R u4 a0 66) a1.toNatClampNeg).toInt64, u4)))
  else if a2 = (4 : Int32) then sw_gd [sw_ok u4 a0 12] (sw_gd [sw_ar u4 (rd_R u4 a0 62) 13 a1] (some ((rd_I u4 (rd_R u4 a0 62) a1.toNatClampNeg).toInt64, u4)))
  else if a2 = (5 : Int32) then sw_gd [sw_ok u4 a0 12] (sw_gd [sw_ar u4 (rd_R u4 a0 63) 16 a1] (some ((rd_L u4 (rd_R u4 a0 63) a1.toNatClampNeg), u4)))
  else if a2 = (6 : Int32) then f_Model_told_117 N a0 a1 u4
  else if a2 = (7 : Int32) then sw_gd [sw_ok u4 a0 12] (sw_gd [sw_ar u4 (rd_R u4 a0 68) 14 a1 || sw_ar u4 (rd_R u4 a0 68) 15 a1] (if (rd_I u4 (rd_R u4 a0 68) a1.toNatClampNeg) = 0 then some ((0 : Int64), u4)
  else some ((1 : Int64), u4)))
  else some ((-9223372036854775808 : Int64), u4)))))
set_option maxRecDepth 10000 in
theorem t_Model_told {g : sw_G} {d n0 : Nat} (hd : 6 ≤ d) {r : Int64 × sw_M} {N : Nat} {a0 : Nat} {a1 : Int32} {a2 : Int32} {M : sw_M} (hf : f_Model_told N a0 a1 a2 M = some r) : sw_F g k_Model_told d n0 (some (.long r.1)) r.2 0 [(0, .ref a0), (1, .int a1), (2, .int a2)] [] M := by
  unfold f_Model_told at hf
  obtain ⟨h1, hf⟩ := sw_gd_1 hf
  refine sf_blk [(.aload_n 0, 0, 0, .null), (.iconst (0), 0, 0, .int (0 : Int32)), (.putfield 166, 12, 0, .null), (.aload_n 0, 0, 0, .null), (.iload_n 1, 0, 0, .null)] (lv' := [(0, .ref a0), (1, .int a1), (2, .int a2)]) (st' := [.int a1, .ref a0]) (M1 := (wr_I M a0 0 (0 : Int32))) (ob := [sw_ok M a0 12]) (pc' := 7) (by decide +kernel) rfl rfl (sw_a1 h1 sw_a0) ?_
  obtain ⟨u2, hu2, hf⟩ := sw_bnd hf
  refine sf_callV (i := 439) (k2 := k_Model_isOrbit) (d2 := d - 1) (As := [.int a1]) (st := []) (q := a0) (ci := 12) mf_Model_isOrbit mi_Model_isOrbit ms_Model_isOrbit (sw_m7 182 (by decide +kernel)) rfl (by decide) (by decide +kernel) rfl (Nat.le_of_ble_eq_true rfl) (by omega) h1 (o_Model_isOrbit g (d := d - 1) (by omega) hu2) ?_
  show sw_F _ _ _ _ _ _ 10 [(0, .ref a0), (1, .int a1), (2, .int a2)] [.int u2.1] u2.2
  refine sf_z_ne (off := 7) (tgt := 17) (by decide +kernel) (by decide) hf (fun hc hf => ?_) (fun hc hf => ?_)
  · obtain ⟨h3, hf⟩ := sw_gd_1 hf
    refine sf_blk [(.aload_n 0, 0, 0, .null), (.aload_n 0, 0, 0, .null), (.getfield 305, 12, 15, .null)] (lv' := [(0, .ref a0), (1, .int a1), (2, .int a2)]) (st' := [.int (rd_I u2.2 a0 15), .ref a0]) (M1 := u2.2) (ob := [sw_ok u2.2 a0 12]) (pc' := 22) (by decide +kernel) rfl rfl (sw_a1 h3 sw_a0) ?_
    obtain ⟨u4, hu4, hf⟩ := sw_bnd hf
    refine sf_callV (i := 444) (k2 := k_Model_goAll) (d2 := d - 1) (As := [.int (rd_I u2.2 a0 15)]) (st := []) (q := a0) (ci := 12) mf_Model_goAll mi_Model_goAll ms_Model_goAll (sw_m7 187 (by decide +kernel)) rfl (by decide) (by decide +kernel) rfl (Nat.le_of_ble_eq_true rfl) (by omega) h3 (o_Model_goAll g (d := d - 1) (by omega) hu4) ?_
    show sw_F _ _ _ _ _ _ 25 [(0, .ref a0), (1, .int a1), (2, .int a2)] [] u4
    refine sf_blk [(.iload_n 2, 0, 0, .null)] (lv' := [(0, .ref a0), (1, .int a1), (2, .int a2)]) (st' := [.int a2]) (M1 := u4) (ob := []) (pc' := 26) (by decide +kernel) rfl rfl sw_a0 ?_
    rcases sw_ite hf with ⟨h5, hf⟩ | ⟨h5, hf⟩
    · refine sf_tin (a := a2) (off := 46) (tgt := 72) (len := 46) (show decode (k_c k_Model_told) 26 = .ok (.tableswitch (114) (0) (7) #[46, 54, 61, 68, 76, 84, 91, 99], 46) by decide +kernel) (by rw [h5]; decide) (by rw [h5]; decide) (by rw [h5]; decide +kernel) (by decide) ?_
      obtain ⟨h6, hf⟩ := sw_gd_1 hf
      obtain ⟨h7, hf⟩ := sw_gd_1 hf
      refine sf_blk [(.aload_n 0, 0, 0, .null), (.getfield 83, 12, 60, .null), (.iload_n 1, 0, 0, .null), (.iaload, 0, 0, .null), (.i2l, 0, 0, .null)] (lv' := [(0, .ref a0), (1, .int a1), (2, .int a2)]) (st' := [.long (rd_I u4 (rd_R u4 a0 60) a1.toNatClampNeg).toInt64]) (M1 := u4) (ob := [sw_ok u4 a0 12, sw_ar u4 (rd_R u4 a0 60) 13 a1]) (pc' := 79) (by decide +kernel) rfl rfl (sw_a1 h6 (sw_a1 h7 sw_a0)) ?_
      cases hf
      exact sf_long rfl (by decide +kernel)
    ·
      rcases sw_ite hf with ⟨h8, hf⟩ | ⟨h8, hf⟩
      · refine sf_tin (a := a2) (off := 54) (tgt := 80) (len := 46) (show decode (k_c k_Model_told) 26 = .ok (.tableswitch (114) (0) (7) #[46, 54, 61, 68, 76, 84, 91, 99], 46) by decide +kernel) (by rw [h8]; decide) (by rw [h8]; decide) (by rw [h8]; decide +kernel) (by decide) ?_
        obtain ⟨h9, hf⟩ := sw_gd_1 hf
        obtain ⟨h10, hf⟩ := sw_gd_1 hf
        refine sf_blk [(.aload_n 0, 0, 0, .null), (.getfield 97, 12, 64, .null), (.iload_n 1, 0, 0, .null), (.laload, 0, 0, .null)] (lv' := [(0, .ref a0), (1, .int a1), (2, .int a2)]) (st' := [.long (rd_L u4 (rd_R u4 a0 64) a1.toNatClampNeg)]) (M1 := u4) (ob := [sw_ok u4 a0 12, sw_ar u4 (rd_R u4 a0 64) 16 a1]) (pc' := 86) (by decide +kernel) rfl rfl (sw_a1 h9 (sw_a1 h10 sw_a0)) ?_
        cases hf
        exact sf_long rfl (by decide +kernel)
      ·
        rcases sw_ite hf with ⟨h11, hf⟩ | ⟨h11, hf⟩
        · refine sf_tin (a := a2) (off := 61) (tgt := 87) (len := 46) (show decode (k_c k_Model_told) 26 = .ok (.tableswitch (114) (0) (7) #[46, 54, 61, 68, 76, 84, 91, 99], 46) by decide +kernel) (by rw [h11]; decide) (by rw [h11]; decide) (by rw [h11]; decide +kernel) (by decide) ?_
          obtain ⟨h12, hf⟩ := sw_gd_1 hf
          obtain ⟨h13, hf⟩ := sw_gd_1 hf
          refine sf_blk [(.aload_n 0, 0, 0, .null), (.getfield 100, 12, 65, .null), (.iload_n 1, 0, 0, .null), (.laload, 0, 0, .null)] (lv' := [(0, .ref a0), (1, .int a1), (2, .int a2)]) (st' := [.long (rd_L u4 (rd_R u4 a0 65) a1.toNatClampNeg)]) (M1 := u4) (ob := [sw_ok u4 a0 12, sw_ar u4 (rd_R u4 a0 65) 16 a1]) (pc' := 93) (by decide +kernel) rfl rfl (sw_a1 h12 (sw_a1 h13 sw_a0)) ?_
          cases hf
          exact sf_long rfl (by decide +kernel)
        ·
          rcases sw_ite hf with ⟨h14, hf⟩ | ⟨h14, hf⟩
          · refine sf_tin (a := a2) (off := 68) (tgt := 94) (len := 46) (show decode (k_c k_Model_told) 26 = .ok (.tableswitch (114) (0) (7) #[46, 54, 61, 68, 76, 84, 91, 99], 46) by decide +kernel) (by rw [h14]; decide) (by rw [h14]; decide) (by rw [h14]; decide +kernel) (by decide) ?_
            obtain ⟨h15, hf⟩ := sw_gd_1 hf
            obtain ⟨h16, hf⟩ := sw_gd_1 hf
            refine sf_blk [(.aload_n 0, 0, 0, .null), (.getfield 103, 12, 66, .null), (.iload_n 1, 0, 0, .null), (.iaload, 0, 0, .null), (.i2l, 0, 0, .null)] (lv' := [(0, .ref a0), (1, .int a1), (2, .int a2)]) (st' := [.long (rd_I u4 (rd_R u4 a0 66) a1.toNatClampNeg).toInt64]) (M1 := u4) (ob := [sw_ok u4 a0 12, sw_ar u4 (rd_R u4 a0 66) 13 a1]) (pc' := 101) (by decide +kernel) rfl rfl (sw_a1 h15 (sw_a1 h16 sw_a0)) ?_
            cases hf
            exact sf_long rfl (by decide +kernel)
          ·
            rcases sw_ite hf with ⟨h17, hf⟩ | ⟨h17, hf⟩
            · refine sf_tin (a := a2) (off := 76) (tgt := 102) (len := 46) (show decode (k_c k_Model_told) 26 = .ok (.tableswitch (114) (0) (7) #[46, 54, 61, 68, 76, 84, 91, 99], 46) by decide +kernel) (by rw [h17]; decide) (by rw [h17]; decide) (by rw [h17]; decide +kernel) (by decide) ?_
              obtain ⟨h18, hf⟩ := sw_gd_1 hf
              obtain ⟨h19, hf⟩ := sw_gd_1 hf
              refine sf_blk [(.aload_n 0, 0, 0, .null), (.getfield 90, 12, 62, .null), (.iload_n 1, 0, 0, .null), (.iaload, 0, 0, .null), (.i2l, 0, 0, .null)] (lv' := [(0, .ref a0), (1, .int a1), (2, .int a2)]) (st' := [.long (rd_I u4 (rd_R u4 a0 62) a1.toNatClampNeg).toInt64]) (M1 := u4) (ob := [sw_ok u4 a0 12, sw_ar u4 (rd_R u4 a0 62) 13 a1]) (pc' := 109) (by decide +kernel) rfl rfl (sw_a1 h18 (sw_a1 h19 sw_a0)) ?_
              cases hf
              exact sf_long rfl (by decide +kernel)
            ·
              rcases sw_ite hf with ⟨h20, hf⟩ | ⟨h20, hf⟩
              · refine sf_tin (a := a2) (off := 84) (tgt := 110) (len := 46) (show decode (k_c k_Model_told) 26 = .ok (.tableswitch (114) (0) (7) #[46, 54, 61, 68, 76, 84, 91, 99], 46) by decide +kernel) (by rw [h20]; decide) (by rw [h20]; decide) (by rw [h20]; decide +kernel) (by decide) ?_
                obtain ⟨h21, hf⟩ := sw_gd_1 hf
                obtain ⟨h22, hf⟩ := sw_gd_1 hf
                refine sf_blk [(.aload_n 0, 0, 0, .null), (.getfield 93, 12, 63, .null), (.iload_n 1, 0, 0, .null), (.laload, 0, 0, .null)] (lv' := [(0, .ref a0), (1, .int a1), (2, .int a2)]) (st' := [.long (rd_L u4 (rd_R u4 a0 63) a1.toNatClampNeg)]) (M1 := u4) (ob := [sw_ok u4 a0 12, sw_ar u4 (rd_R u4 a0 63) 16 a1]) (pc' := 116) (by decide +kernel) rfl rfl (sw_a1 h21 (sw_a1 h22 sw_a0)) ?_
                cases hf
                exact sf_long rfl (by decide +kernel)
              ·
                rcases sw_ite hf with ⟨h23, hf⟩ | ⟨h23, hf⟩
                · refine sf_tin (a := a2) (off := 91) (tgt := 117) (len := 46) (show decode (k_c k_Model_told) 26 = .ok (.tableswitch (114) (0) (7) #[46, 54, 61, 68, 76, 84, 91, 99], 46) by decide +kernel) (by rw [h23]; decide) (by rw [h23]; decide) (by rw [h23]; decide +kernel) (by decide) ?_
                  exact sf_weak [0, 1] rfl (t_Model_told_117 hd hf)
                ·
                  rcases sw_ite hf with ⟨h24, hf⟩ | ⟨h24, hf⟩
                  · refine sf_tin (a := a2) (off := 99) (tgt := 125) (len := 46) (show decode (k_c k_Model_told) 26 = .ok (.tableswitch (114) (0) (7) #[46, 54, 61, 68, 76, 84, 91, 99], 46) by decide +kernel) (by rw [h24]; decide) (by rw [h24]; decide) (by rw [h24]; decide +kernel) (by decide) ?_
                    obtain ⟨h25, hf⟩ := sw_gd_1 hf
                    obtain ⟨h26, hf⟩ := sw_gd_1 hf
                    refine sf_blk [(.aload_n 0, 0, 0, .null), (.getfield 109, 12, 68, .null), (.iload_n 1, 0, 0, .null), (.baload, 0, 0, .null)] (lv' := [(0, .ref a0), (1, .int a1), (2, .int a2)]) (st' := [.int (rd_I u4 (rd_R u4 a0 68) a1.toNatClampNeg)]) (M1 := u4) (ob := [sw_ok u4 a0 12, sw_ar u4 (rd_R u4 a0 68) 14 a1 || sw_ar u4 (rd_R u4 a0 68) 15 a1]) (pc' := 131) (by decide +kernel) rfl rfl (sw_a1 h25 (sw_a1 h26 sw_a0)) ?_
                    refine sf_z_eq (off := 7) (tgt := 138) (by decide +kernel) (by decide) hf (fun hc hf => ?_) (fun hc hf => ?_)
                    · refine sf_blk [(.lconst 0, 0, 0, .long (0 : Int64))] (lv' := [(0, .ref a0), (1, .int a1), (2, .int a2)]) (st' := [.long (0 : Int64)]) (M1 := u4) (ob := []) (pc' := 139) (by decide +kernel) rfl rfl sw_a0 ?_
                      cases hf
                      exact sf_long rfl (by decide +kernel)
                    · refine sf_blk [(.lconst 1, 0, 0, .long (1 : Int64))] (lv' := [(0, .ref a0), (1, .int a1), (2, .int a2)]) (st' := [.long (1 : Int64)]) (M1 := u4) (ob := []) (pc' := 135) (by decide +kernel) rfl rfl sw_a0 ?_
                      refine sf_goto (off := 4) (tgt := 139) (by decide +kernel) (by decide) ?_
                      cases hf
                      exact sf_long rfl (by decide +kernel)
                  ·
                    have qh5 := sw_ne (n := 0) h5 (by decide)
                    have qh8 := sw_ne (n := 1) h8 (by decide)
                    have qh11 := sw_ne (n := 2) h11 (by decide)
                    have qh14 := sw_ne (n := 3) h14 (by decide)
                    have qh17 := sw_ne (n := 4) h17 (by decide)
                    have qh20 := sw_ne (n := 5) h20 (by decide)
                    have qh23 := sw_ne (n := 6) h23 (by decide)
                    have qh24 := sw_ne (n := 7) h24 (by decide)
                    refine sf_tout (a := a2) (tgt := 140) (len := 46) (show decode (k_c k_Model_told) 26 = .ok (.tableswitch (114) (0) (7) #[46, 54, 61, 68, 76, 84, 91, 99], 46) by decide +kernel) (by omega) (by decide) ?_
                    refine sf_blk [(.ldc2_w 442, 0, 0, .long (-9223372036854775808 : Int64))] (lv' := [(0, .ref a0), (1, .int a1), (2, .int a2)]) (st' := [.long (-9223372036854775808 : Int64)]) (M1 := u4) (ob := []) (pc' := 143) (by decide +kernel) rfl rfl sw_a0 ?_
                    cases hf
                    exact sf_long rfl (by decide +kernel)
  · refine sf_blk [(.ldc2_w 442, 0, 0, .long (-9223372036854775808 : Int64))] (lv' := [(0, .ref a0), (1, .int a1), (2, .int a2)]) (st' := [.long (-9223372036854775808 : Int64)]) (M1 := u2.2) (ob := []) (pc' := 16) (by decide +kernel) rfl rfl sw_a0 ?_
    cases hf
    exact sf_long rfl (by decide +kernel)
theorem o_Model_told (g : sw_G) {d : Nat} (hd : 6 ≤ d) {N : Nat} {a0 : Nat} {a1 : Int32} {a2 : Int32} {M : sw_M} {r : Int64 × sw_M} (hf : f_Model_told N a0 a1 a2 M = some r) : sw_Ok g k_Model_told d [.ref a0, .int a1, .int a2] M (some (.long r.1)) r.2 := sf_met (by decide +kernel) rfl (by decide) (Nat.le_of_ble_eq_true rfl) (t_Model_told hd hf)
def f_Model_at_108 (N : Nat) (a0 : Nat) (a4 : Int32) (M : sw_M) : Option (Int32 × sw_M) :=
  sw_gd [sw_ok M a0 12] (sw_gd [sw_ar M (rd_R M a0 59) 13 a4] (some ((rd_I M (rd_R M a0 59) a4.toNatClampNeg), M)))
set_option maxRecDepth 10000 in
theorem t_Model_at_108 {g : sw_G} {d n0 : Nat} (hd : 6 ≤ d) {r : Int32 × sw_M} {N : Nat} {a0 : Nat} {a4 : Int32} {M : sw_M} (hf : f_Model_at_108 N a0 a4 M = some r) : sw_F g k_Model_at d n0 (some (.int r.1)) r.2 108 [(0, .ref a0), (4, .int a4)] [] M := by
  unfold f_Model_at_108 at hf
  obtain ⟨h1, hf⟩ := sw_gd_1 hf
  obtain ⟨h2, hf⟩ := sw_gd_1 hf
  refine sf_blk [(.aload_n 0, 0, 0, .null), (.getfield 80, 12, 59, .null), (.iload 4, 0, 0, .null), (.iaload, 0, 0, .null)] (lv' := [(0, .ref a0), (4, .int a4)]) (st' := [.int (rd_I M (rd_R M a0 59) a4.toNatClampNeg)]) (M1 := M) (ob := [sw_ok M a0 12, sw_ar M (rd_R M a0 59) 13 a4]) (pc' := 115) (by decide +kernel) rfl rfl (sw_a1 h1 (sw_a1 h2 sw_a0)) ?_
  cases hf
  exact sf_int rfl (by decide +kernel)
def f_Model_at (N : Nat) (a0 : Nat) (a1 : Int32) (a2 : Int32) (a3 : Int32) (M : sw_M) : Option (Int32 × sw_M) :=
  sw_gd [sw_ok M a0 12] ((f_Model_isOrbit N a0 a1 (wr_I M a0 0 (0 : Int32))).bind (fun u2 => if u2.1 = 0 then some ((-2147483648 : Int32), u2.2)
  else if 0 ≤ a2 then sw_gd [sw_ok u2.2 a0 12] ((f_Model_goAll N a0 (rd_I u2.2 a0 15) u2.2).bind (fun u4 => sw_gd [sw_ok u4 a0 12] (sw_gd [sw_ar u4 (rd_R u4 a0 60) 13 a1] (if a2 ≤ (rd_I u4 (rd_R u4 a0 60) a1.toNatClampNeg) then if a3 = (0 : Int32) then sw_gd [sw_ar u4 (rd_R u4 a0 56) 13 (((241 : Int32) * a1) + a2)] (some ((rd_I u4 (rd_R u4 a0 56) (((241 : Int32) * a1) + a2).toNatClampNeg), u4))
  else if a3 = (1 : Int32) then sw_gd [sw_ar u4 (rd_R u4 a0 57) 13 (((241 : Int32) * a1) + a2)] (some ((rd_I u4 (rd_R u4 a0 57) (((241 : Int32) * a1) + a2).toNatClampNeg), u4))
  else if a3 = (2 : Int32) then sw_gd [sw_ar u4 (rd_R u4 a0 58) 13 (((241 : Int32) * a1) + a2)] (some ((rd_I u4 (rd_R u4 a0 58) (((241 : Int32) * a1) + a2).toNatClampNeg), u4))
  else if a3 = (3 : Int32) then f_Model_at_108 N a0 (((241 : Int32) * a1) + a2) u4
  else some ((-2147483648 : Int32), u4)
  else some ((-2147483648 : Int32), u4)))))
  else some ((-2147483648 : Int32), u2.2)))
set_option maxRecDepth 10000 in
theorem t_Model_at {g : sw_G} {d n0 : Nat} (hd : 6 ≤ d) {r : Int32 × sw_M} {N : Nat} {a0 : Nat} {a1 : Int32} {a2 : Int32} {a3 : Int32} {M : sw_M} (hf : f_Model_at N a0 a1 a2 a3 M = some r) : sw_F g k_Model_at d n0 (some (.int r.1)) r.2 0 [(0, .ref a0), (1, .int a1), (2, .int a2), (3, .int a3)] [] M := by
  unfold f_Model_at at hf
  obtain ⟨h1, hf⟩ := sw_gd_1 hf
  refine sf_blk [(.aload_n 0, 0, 0, .null), (.iconst (0), 0, 0, .int (0 : Int32)), (.putfield 166, 12, 0, .null), (.aload_n 0, 0, 0, .null), (.iload_n 1, 0, 0, .null)] (lv' := [(0, .ref a0), (1, .int a1), (2, .int a2), (3, .int a3)]) (st' := [.int a1, .ref a0]) (M1 := (wr_I M a0 0 (0 : Int32))) (ob := [sw_ok M a0 12]) (pc' := 7) (by decide +kernel) rfl rfl (sw_a1 h1 sw_a0) ?_
  obtain ⟨u2, hu2, hf⟩ := sw_bnd hf
  refine sf_callV (i := 439) (k2 := k_Model_isOrbit) (d2 := d - 1) (As := [.int a1]) (st := []) (q := a0) (ci := 12) mf_Model_isOrbit mi_Model_isOrbit ms_Model_isOrbit (sw_m7 182 (by decide +kernel)) rfl (by decide) (by decide +kernel) rfl (Nat.le_of_ble_eq_true rfl) (by omega) h1 (o_Model_isOrbit g (d := d - 1) (by omega) hu2) ?_
  show sw_F _ _ _ _ _ _ 10 [(0, .ref a0), (1, .int a1), (2, .int a2), (3, .int a3)] [.int u2.1] u2.2
  refine sf_z_eq (off := 7) (tgt := 17) (by decide +kernel) (by decide) hf (fun hc hf => ?_) (fun hc hf => ?_)
  · refine sf_blk [(.ldc_w 337, 0, 0, .int (-2147483648 : Int32))] (lv' := [(0, .ref a0), (1, .int a1), (2, .int a2), (3, .int a3)]) (st' := [.int (-2147483648 : Int32)]) (M1 := u2.2) (ob := []) (pc' := 20) (by decide +kernel) rfl rfl sw_a0 ?_
    cases hf
    exact sf_int rfl (by decide +kernel)
  · refine sf_blk [(.iload_n 2, 0, 0, .null)] (lv' := [(0, .ref a0), (1, .int a1), (2, .int a2), (3, .int a3)]) (st' := [.int a2]) (M1 := u2.2) (ob := []) (pc' := 14) (by decide +kernel) rfl rfl sw_a0 ?_
    refine sf_z_ge (off := 7) (tgt := 21) (by decide +kernel) (by decide) hf (fun hc hf => ?_) (fun hc hf => ?_)
    · obtain ⟨h3, hf⟩ := sw_gd_1 hf
      refine sf_blk [(.aload_n 0, 0, 0, .null), (.aload_n 0, 0, 0, .null), (.getfield 305, 12, 15, .null)] (lv' := [(0, .ref a0), (1, .int a1), (2, .int a2), (3, .int a3)]) (st' := [.int (rd_I u2.2 a0 15), .ref a0]) (M1 := u2.2) (ob := [sw_ok u2.2 a0 12]) (pc' := 26) (by decide +kernel) rfl rfl (sw_a1 h3 sw_a0) ?_
      obtain ⟨u4, hu4, hf⟩ := sw_bnd hf
      refine sf_callV (i := 444) (k2 := k_Model_goAll) (d2 := d - 1) (As := [.int (rd_I u2.2 a0 15)]) (st := []) (q := a0) (ci := 12) mf_Model_goAll mi_Model_goAll ms_Model_goAll (sw_m7 187 (by decide +kernel)) rfl (by decide) (by decide +kernel) rfl (Nat.le_of_ble_eq_true rfl) (by omega) h3 (o_Model_goAll g (d := d - 1) (by omega) hu4) ?_
      show sw_F _ _ _ _ _ _ 29 [(0, .ref a0), (1, .int a1), (2, .int a2), (3, .int a3)] [] u4
      obtain ⟨h5, hf⟩ := sw_gd_1 hf
      obtain ⟨h6, hf⟩ := sw_gd_1 hf
      refine sf_blk [(.iload_n 2, 0, 0, .null), (.aload_n 0, 0, 0, .null), (.getfield 83, 12, 60, .null), (.iload_n 1, 0, 0, .null), (.iaload, 0, 0, .null)] (lv' := [(0, .ref a0), (1, .int a1), (2, .int a2), (3, .int a3)]) (st' := [.int (rd_I u4 (rd_R u4 a0 60) a1.toNatClampNeg), .int a2]) (M1 := u4) (ob := [sw_ok u4 a0 12, sw_ar u4 (rd_R u4 a0 60) 13 a1]) (pc' := 36) (by decide +kernel) rfl rfl (sw_a1 h5 (sw_a1 h6 sw_a0)) ?_
      refine sf_j_le (off := 7) (tgt := 43) (by decide +kernel) (by decide) hf (fun hc hf => ?_) (fun hc hf => ?_)
      · refine sf_blk [(.sipush (241), 0, 0, .int (241 : Int32)), (.iload_n 1, 0, 0, .null), (.imul, 0, 0, .null), (.iload_n 2, 0, 0, .null), (.iadd, 0, 0, .null), (.istore 4, 0, 0, .null), (.iload_n 3, 0, 0, .null)] (lv' := [(4, .int (((241 : Int32) * a1) + a2)), (0, .ref a0), (1, .int a1), (2, .int a2), (3, .int a3)]) (st' := [.int a3]) (M1 := u4) (ob := []) (pc' := 53) (by decide +kernel) rfl rfl sw_a0 ?_
        rcases sw_ite hf with ⟨h7, hf⟩ | ⟨h7, hf⟩
        · refine sf_tin (a := a3) (off := 31) (tgt := 84) (len := 31) (show decode (k_c k_Model_at) 53 = .ok (.tableswitch (63) (0) (3) #[31, 39, 47, 55], 31) by decide +kernel) (by rw [h7]; decide) (by rw [h7]; decide) (by rw [h7]; decide +kernel) (by decide) ?_
          obtain ⟨h8, hf⟩ := sw_gd_1 hf
          refine sf_blk [(.aload_n 0, 0, 0, .null), (.getfield 71, 12, 56, .null), (.iload 4, 0, 0, .null), (.iaload, 0, 0, .null)] (lv' := [(4, .int (((241 : Int32) * a1) + a2)), (0, .ref a0), (1, .int a1), (2, .int a2), (3, .int a3)]) (st' := [.int (rd_I u4 (rd_R u4 a0 56) (((241 : Int32) * a1) + a2).toNatClampNeg)]) (M1 := u4) (ob := [sw_ok u4 a0 12, sw_ar u4 (rd_R u4 a0 56) 13 (((241 : Int32) * a1) + a2)]) (pc' := 91) (by decide +kernel) rfl rfl (sw_a1 h5 (sw_a1 h8 sw_a0)) ?_
          cases hf
          exact sf_int rfl (by decide +kernel)
        ·
          rcases sw_ite hf with ⟨h9, hf⟩ | ⟨h9, hf⟩
          · refine sf_tin (a := a3) (off := 39) (tgt := 92) (len := 31) (show decode (k_c k_Model_at) 53 = .ok (.tableswitch (63) (0) (3) #[31, 39, 47, 55], 31) by decide +kernel) (by rw [h9]; decide) (by rw [h9]; decide) (by rw [h9]; decide +kernel) (by decide) ?_
            obtain ⟨h10, hf⟩ := sw_gd_1 hf
            refine sf_blk [(.aload_n 0, 0, 0, .null), (.getfield 74, 12, 57, .null), (.iload 4, 0, 0, .null), (.iaload, 0, 0, .null)] (lv' := [(4, .int (((241 : Int32) * a1) + a2)), (0, .ref a0), (1, .int a1), (2, .int a2), (3, .int a3)]) (st' := [.int (rd_I u4 (rd_R u4 a0 57) (((241 : Int32) * a1) + a2).toNatClampNeg)]) (M1 := u4) (ob := [sw_ok u4 a0 12, sw_ar u4 (rd_R u4 a0 57) 13 (((241 : Int32) * a1) + a2)]) (pc' := 99) (by decide +kernel) rfl rfl (sw_a1 h5 (sw_a1 h10 sw_a0)) ?_
            cases hf
            exact sf_int rfl (by decide +kernel)
          ·
            rcases sw_ite hf with ⟨h11, hf⟩ | ⟨h11, hf⟩
            · refine sf_tin (a := a3) (off := 47) (tgt := 100) (len := 31) (show decode (k_c k_Model_at) 53 = .ok (.tableswitch (63) (0) (3) #[31, 39, 47, 55], 31) by decide +kernel) (by rw [h11]; decide) (by rw [h11]; decide) (by rw [h11]; decide +kernel) (by decide) ?_
              obtain ⟨h12, hf⟩ := sw_gd_1 hf
              refine sf_blk [(.aload_n 0, 0, 0, .null), (.getfield 77, 12, 58, .null), (.iload 4, 0, 0, .null), (.iaload, 0, 0, .null)] (lv' := [(4, .int (((241 : Int32) * a1) + a2)), (0, .ref a0), (1, .int a1), (2, .int a2), (3, .int a3)]) (st' := [.int (rd_I u4 (rd_R u4 a0 58) (((241 : Int32) * a1) + a2).toNatClampNeg)]) (M1 := u4) (ob := [sw_ok u4 a0 12, sw_ar u4 (rd_R u4 a0 58) 13 (((241 : Int32) * a1) + a2)]) (pc' := 107) (by decide +kernel) rfl rfl (sw_a1 h5 (sw_a1 h12 sw_a0)) ?_
              cases hf
              exact sf_int rfl (by decide +kernel)
            ·
              rcases sw_ite hf with ⟨h13, hf⟩ | ⟨h13, hf⟩
              · refine sf_tin (a := a3) (off := 55) (tgt := 108) (len := 31) (show decode (k_c k_Model_at) 53 = .ok (.tableswitch (63) (0) (3) #[31, 39, 47, 55], 31) by decide +kernel) (by rw [h13]; decide) (by rw [h13]; decide) (by rw [h13]; decide +kernel) (by decide) ?_
                exact sf_weak [1, 0] rfl (t_Model_at_108 hd hf)
              ·
                have qh7 := sw_ne (n := 0) h7 (by decide)
                have qh9 := sw_ne (n := 1) h9 (by decide)
                have qh11 := sw_ne (n := 2) h11 (by decide)
                have qh13 := sw_ne (n := 3) h13 (by decide)
                refine sf_tout (a := a3) (tgt := 116) (len := 31) (show decode (k_c k_Model_at) 53 = .ok (.tableswitch (63) (0) (3) #[31, 39, 47, 55], 31) by decide +kernel) (by omega) (by decide) ?_
                refine sf_blk [(.ldc_w 337, 0, 0, .int (-2147483648 : Int32))] (lv' := [(4, .int (((241 : Int32) * a1) + a2)), (0, .ref a0), (1, .int a1), (2, .int a2), (3, .int a3)]) (st' := [.int (-2147483648 : Int32)]) (M1 := u4) (ob := []) (pc' := 119) (by decide +kernel) rfl rfl sw_a0 ?_
                cases hf
                exact sf_int rfl (by decide +kernel)
      · refine sf_blk [(.ldc_w 337, 0, 0, .int (-2147483648 : Int32))] (lv' := [(0, .ref a0), (1, .int a1), (2, .int a2), (3, .int a3)]) (st' := [.int (-2147483648 : Int32)]) (M1 := u4) (ob := []) (pc' := 42) (by decide +kernel) rfl rfl sw_a0 ?_
        cases hf
        exact sf_int rfl (by decide +kernel)
    · refine sf_blk [(.ldc_w 337, 0, 0, .int (-2147483648 : Int32))] (lv' := [(0, .ref a0), (1, .int a1), (2, .int a2), (3, .int a3)]) (st' := [.int (-2147483648 : Int32)]) (M1 := u2.2) (ob := []) (pc' := 20) (by decide +kernel) rfl rfl sw_a0 ?_
      cases hf
      exact sf_int rfl (by decide +kernel)
theorem o_Model_at (g : sw_G) {d : Nat} (hd : 6 ≤ d) {N : Nat} {a0 : Nat} {a1 : Int32} {a2 : Int32} {a3 : Int32} {M : sw_M} {r : Int32 × sw_M} (hf : f_Model_at N a0 a1 a2 a3 M = some r) : sw_Ok g k_Model_at d [.ref a0, .int a1, .int a2, .int a3] M (some (.int r.1)) r.2 := sf_met (by decide +kernel) rfl (by decide) (Nat.le_of_ble_eq_true rfl) (t_Model_at hd hf)
def f_Model_backOf_5 (N : Nat) : Nat → Nat → Int32 → Int32 → Int32 → sw_M → Option (Int32 × sw_M)
  | 0, _, _, _, _, _ => none
  | j + 1, a0, a1, a3, a4, M =>
  if a3 < 0 then sw_gd [sw_ok M a0 12] (sw_gd [sw_ar M (rd_R M a0 56) 13 (((241 : Int32) * a1) + a4)] (some ((rd_I M (rd_R M a0 56) (((241 : Int32) * a1) + a4).toNatClampNeg), M)))
  else sw_gd [sw_ok M a0 12] (sw_gd [sw_ar M (rd_R M a0 57) 13 ((((241 : Int32) * a1) + (a4 + (1 : Int32))) - (1 : Int32))] (if 0 ≤ (rd_I M (rd_R M a0 57) ((((241 : Int32) * a1) + (a4 + (1 : Int32))) - (1 : Int32)).toNatClampNeg) then f_Model_backOf_5 N j a0 a1 a3 (a4 + (1 : Int32)) M
  else sw_gd [sw_ar M (rd_R M a0 57) 13 (((241 : Int32) * a1) + (a4 + (1 : Int32)))] (if (rd_I M (rd_R M a0 57) (((241 : Int32) * a1) + (a4 + (1 : Int32))).toNatClampNeg) < 0 then f_Model_backOf_5 N j a0 a1 a3 (a4 + (1 : Int32)) M
  else f_Model_backOf_5 N j a0 a1 (a3 + (-1 : Int32)) (a4 + (1 : Int32)) M)))
set_option maxRecDepth 10000 in
theorem t_Model_backOf_5 {g : sw_G} {d n0 : Nat} (hd : 1 ≤ d) {r : Int32 × sw_M} {N : Nat} : ∀ (j : Nat) (a0 : Nat) (a1 : Int32) (a3 : Int32) (a4 : Int32) (M : sw_M), f_Model_backOf_5 N j a0 a1 a3 a4 M = some r → sw_F g k_Model_backOf d n0 (some (.int r.1)) r.2 5 [(0, .ref a0), (1, .int a1), (3, .int a3), (4, .int a4)] [] M := by
  intro j
  induction j with
  | zero =>
    intro a0 a1 a3 a4 M hf
    rw [f_Model_backOf_5] at hf
    cases hf
  | succ j ih =>
    intro a0 a1 a3 a4 M hf
    rw [f_Model_backOf_5] at hf
    refine sf_blk [(.iload_n 3, 0, 0, .null)] (lv' := [(0, .ref a0), (1, .int a1), (3, .int a3), (4, .int a4)]) (st' := [.int a3]) (M1 := M) (ob := []) (pc' := 6) (by decide +kernel) rfl rfl sw_a0 ?_
    refine sf_z_lt (off := 46) (tgt := 52) (by decide +kernel) (by decide) hf (fun hc hf => ?_) (fun hc hf => ?_)
    · obtain ⟨h1, hf⟩ := sw_gd_1 hf
      obtain ⟨h2, hf⟩ := sw_gd_1 hf
      refine sf_blk [(.aload_n 0, 0, 0, .null), (.getfield 71, 12, 56, .null), (.sipush (241), 0, 0, .int (241 : Int32)), (.iload_n 1, 0, 0, .null), (.imul, 0, 0, .null), (.iload 4, 0, 0, .null), (.iadd, 0, 0, .null), (.iaload, 0, 0, .null)] (lv' := [(0, .ref a0), (1, .int a1), (3, .int a3), (4, .int a4)]) (st' := [.int (rd_I M (rd_R M a0 56) (((241 : Int32) * a1) + a4).toNatClampNeg)]) (M1 := M) (ob := [sw_ok M a0 12, sw_ar M (rd_R M a0 56) 13 (((241 : Int32) * a1) + a4)]) (pc' := 65) (by decide +kernel) rfl rfl (sw_a1 h1 (sw_a1 h2 sw_a0)) ?_
      cases hf
      exact sf_int rfl (by decide +kernel)
    · obtain ⟨h3, hf⟩ := sw_gd_1 hf
      obtain ⟨h4, hf⟩ := sw_gd_1 hf
      refine sf_blk [(.iinc 4 (1), 0, 0, .int (1 : Int32)), (.aload_n 0, 0, 0, .null), (.getfield 74, 12, 57, .null), (.sipush (241), 0, 0, .int (241 : Int32)), (.iload_n 1, 0, 0, .null), (.imul, 0, 0, .null), (.iload 4, 0, 0, .null), (.iadd, 0, 0, .null), (.iconst (1), 0, 0, .int (1 : Int32)), (.isub, 0, 0, .null), (.iaload, 0, 0, .null)] (lv' := [(4, .int (a4 + (1 : Int32))), (0, .ref a0), (1, .int a1), (3, .int a3)]) (st' := [.int (rd_I M (rd_R M a0 57) ((((241 : Int32) * a1) + (a4 + (1 : Int32))) - (1 : Int32)).toNatClampNeg)]) (M1 := M) (ob := [sw_ok M a0 12, sw_ar M (rd_R M a0 57) 13 ((((241 : Int32) * a1) + (a4 + (1 : Int32))) - (1 : Int32))]) (pc' := 27) (by decide +kernel) rfl rfl (sw_a1 h3 (sw_a1 h4 sw_a0)) ?_
      refine sf_z_ge (off := -22) (tgt := 5) (by decide +kernel) (by decide) hf (fun hc hf => ?_) (fun hc hf => ?_)
      · exact sf_weak [1, 2, 3, 0] rfl (ih _ _ _ _ _ hf)
      · obtain ⟨h5, hf⟩ := sw_gd_1 hf
        refine sf_blk [(.aload_n 0, 0, 0, .null), (.getfield 74, 12, 57, .null), (.sipush (241), 0, 0, .int (241 : Int32)), (.iload_n 1, 0, 0, .null), (.imul, 0, 0, .null), (.iload 4, 0, 0, .null), (.iadd, 0, 0, .null), (.iaload, 0, 0, .null)] (lv' := [(4, .int (a4 + (1 : Int32))), (0, .ref a0), (1, .int a1), (3, .int a3)]) (st' := [.int (rd_I M (rd_R M a0 57) (((241 : Int32) * a1) + (a4 + (1 : Int32))).toNatClampNeg)]) (M1 := M) (ob := [sw_ok M a0 12, sw_ar M (rd_R M a0 57) 13 (((241 : Int32) * a1) + (a4 + (1 : Int32)))]) (pc' := 43) (by decide +kernel) rfl rfl (sw_a1 h3 (sw_a1 h5 sw_a0)) ?_
        refine sf_z_lt (off := -38) (tgt := 5) (by decide +kernel) (by decide) hf (fun hc hf => ?_) (fun hc hf => ?_)
        · exact sf_weak [1, 2, 3, 0] rfl (ih _ _ _ _ _ hf)
        · refine sf_blk [(.iinc 3 (-1), 0, 0, .int (-1 : Int32))] (lv' := [(3, .int (a3 + (-1 : Int32))), (4, .int (a4 + (1 : Int32))), (0, .ref a0), (1, .int a1)]) (st' := []) (M1 := M) (ob := []) (pc' := 49) (by decide +kernel) rfl rfl sw_a0 ?_
          refine sf_goto (off := -44) (tgt := 5) (by decide +kernel) (by decide) ?_
          exact sf_weak [2, 3, 0, 1] rfl (ih _ _ _ _ _ hf)
def f_Model_backOf (N : Nat) (a0 : Nat) (a1 : Int32) (a2 : Int32) (M : sw_M) : Option (Int32 × sw_M) :=
  f_Model_backOf_5 N N a0 a1 a2 (0 : Int32) M
set_option maxRecDepth 10000 in
theorem t_Model_backOf {g : sw_G} {d n0 : Nat} (hd : 1 ≤ d) {r : Int32 × sw_M} {N : Nat} {a0 : Nat} {a1 : Int32} {a2 : Int32} {M : sw_M} (hf : f_Model_backOf N a0 a1 a2 M = some r) : sw_F g k_Model_backOf d n0 (some (.int r.1)) r.2 0 [(0, .ref a0), (1, .int a1), (2, .int a2)] [] M := by
  unfold f_Model_backOf at hf
  refine sf_blk [(.iload_n 2, 0, 0, .null), (.istore_n 3, 0, 0, .null), (.iconst (0), 0, 0, .int (0 : Int32)), (.istore 4, 0, 0, .null)] (lv' := [(4, .int (0 : Int32)), (3, .int a2), (0, .ref a0), (1, .int a1), (2, .int a2)]) (st' := []) (M1 := M) (ob := []) (pc' := 5) (by decide +kernel) rfl rfl sw_a0 ?_
  exact sf_weak [2, 3, 1, 0] rfl (t_Model_backOf_5 hd _ _ _ _ _ _ hf)
theorem o_Model_backOf (g : sw_G) {d : Nat} (hd : 1 ≤ d) {N : Nat} {a0 : Nat} {a1 : Int32} {a2 : Int32} {M : sw_M} {r : Int32 × sw_M} (hf : f_Model_backOf N a0 a1 a2 M = some r) : sw_Ok g k_Model_backOf d [.ref a0, .int a1, .int a2] M (some (.int r.1)) r.2 := sf_met (by decide +kernel) rfl (by decide) (Nat.le_of_ble_eq_true rfl) (t_Model_backOf hd hf)
def f_Model_back (N : Nat) (a0 : Nat) (a1 : Int32) (a2 : Int32) (M : sw_M) : Option (Int32 × sw_M) :=
  sw_gd [sw_ok M a0 12] ((f_Model_isOrbit N a0 a1 (wr_I M a0 0 (0 : Int32))).bind (fun u2 => if u2.1 = 0 then some ((-2147483648 : Int32), u2.2)
  else if 0 ≤ a2 then sw_gd [sw_ok u2.2 a0 12] ((f_Model_goAll N a0 (rd_I u2.2 a0 15) u2.2).bind (fun u4 => sw_gd [sw_ok u4 a0 12] (sw_gd [sw_ar u4 (rd_R u4 a0 67) 13 a1] (if (rd_I u4 (rd_R u4 a0 67) a1.toNatClampNeg) ≤ a2 then some ((-2147483648 : Int32), u4)
  else (f_Model_backOf N a0 a1 a2 u4).bind (fun u7 => some (u7.1, u7.2))))))
  else some ((-2147483648 : Int32), u2.2)))
set_option maxRecDepth 10000 in
theorem t_Model_back {g : sw_G} {d n0 : Nat} (hd : 6 ≤ d) {r : Int32 × sw_M} {N : Nat} {a0 : Nat} {a1 : Int32} {a2 : Int32} {M : sw_M} (hf : f_Model_back N a0 a1 a2 M = some r) : sw_F g k_Model_back d n0 (some (.int r.1)) r.2 0 [(0, .ref a0), (1, .int a1), (2, .int a2)] [] M := by
  unfold f_Model_back at hf
  obtain ⟨h1, hf⟩ := sw_gd_1 hf
  refine sf_blk [(.aload_n 0, 0, 0, .null), (.iconst (0), 0, 0, .int (0 : Int32)), (.putfield 166, 12, 0, .null), (.aload_n 0, 0, 0, .null), (.iload_n 1, 0, 0, .null)] (lv' := [(0, .ref a0), (1, .int a1), (2, .int a2)]) (st' := [.int a1, .ref a0]) (M1 := (wr_I M a0 0 (0 : Int32))) (ob := [sw_ok M a0 12]) (pc' := 7) (by decide +kernel) rfl rfl (sw_a1 h1 sw_a0) ?_
  obtain ⟨u2, hu2, hf⟩ := sw_bnd hf
  refine sf_callV (i := 439) (k2 := k_Model_isOrbit) (d2 := d - 1) (As := [.int a1]) (st := []) (q := a0) (ci := 12) mf_Model_isOrbit mi_Model_isOrbit ms_Model_isOrbit (sw_m7 182 (by decide +kernel)) rfl (by decide) (by decide +kernel) rfl (Nat.le_of_ble_eq_true rfl) (by omega) h1 (o_Model_isOrbit g (d := d - 1) (by omega) hu2) ?_
  show sw_F _ _ _ _ _ _ 10 [(0, .ref a0), (1, .int a1), (2, .int a2)] [.int u2.1] u2.2
  refine sf_z_eq (off := 7) (tgt := 17) (by decide +kernel) (by decide) hf (fun hc hf => ?_) (fun hc hf => ?_)
  · refine sf_blk [(.ldc_w 337, 0, 0, .int (-2147483648 : Int32))] (lv' := [(0, .ref a0), (1, .int a1), (2, .int a2)]) (st' := [.int (-2147483648 : Int32)]) (M1 := u2.2) (ob := []) (pc' := 20) (by decide +kernel) rfl rfl sw_a0 ?_
    cases hf
    exact sf_int rfl (by decide +kernel)
  · refine sf_blk [(.iload_n 2, 0, 0, .null)] (lv' := [(0, .ref a0), (1, .int a1), (2, .int a2)]) (st' := [.int a2]) (M1 := u2.2) (ob := []) (pc' := 14) (by decide +kernel) rfl rfl sw_a0 ?_
    refine sf_z_ge (off := 7) (tgt := 21) (by decide +kernel) (by decide) hf (fun hc hf => ?_) (fun hc hf => ?_)
    · obtain ⟨h3, hf⟩ := sw_gd_1 hf
      refine sf_blk [(.aload_n 0, 0, 0, .null), (.aload_n 0, 0, 0, .null), (.getfield 305, 12, 15, .null)] (lv' := [(0, .ref a0), (1, .int a1), (2, .int a2)]) (st' := [.int (rd_I u2.2 a0 15), .ref a0]) (M1 := u2.2) (ob := [sw_ok u2.2 a0 12]) (pc' := 26) (by decide +kernel) rfl rfl (sw_a1 h3 sw_a0) ?_
      obtain ⟨u4, hu4, hf⟩ := sw_bnd hf
      refine sf_callV (i := 444) (k2 := k_Model_goAll) (d2 := d - 1) (As := [.int (rd_I u2.2 a0 15)]) (st := []) (q := a0) (ci := 12) mf_Model_goAll mi_Model_goAll ms_Model_goAll (sw_m7 187 (by decide +kernel)) rfl (by decide) (by decide +kernel) rfl (Nat.le_of_ble_eq_true rfl) (by omega) h3 (o_Model_goAll g (d := d - 1) (by omega) hu4) ?_
      show sw_F _ _ _ _ _ _ 29 [(0, .ref a0), (1, .int a1), (2, .int a2)] [] u4
      obtain ⟨h5, hf⟩ := sw_gd_1 hf
      obtain ⟨h6, hf⟩ := sw_gd_1 hf
      refine sf_blk [(.iload_n 2, 0, 0, .null), (.aload_n 0, 0, 0, .null), (.getfield 106, 12, 67, .null), (.iload_n 1, 0, 0, .null), (.iaload, 0, 0, .null)] (lv' := [(0, .ref a0), (1, .int a1), (2, .int a2)]) (st' := [.int (rd_I u4 (rd_R u4 a0 67) a1.toNatClampNeg), .int a2]) (M1 := u4) (ob := [sw_ok u4 a0 12, sw_ar u4 (rd_R u4 a0 67) 13 a1]) (pc' := 36) (by decide +kernel) rfl rfl (sw_a1 h5 (sw_a1 h6 sw_a0)) ?_
      refine sf_j_ge (off := 12) (tgt := 48) (by decide +kernel) (by decide) hf (fun hc hf => ?_) (fun hc hf => ?_)
      · refine sf_blk [(.ldc_w 337, 0, 0, .int (-2147483648 : Int32))] (lv' := [(0, .ref a0), (1, .int a1), (2, .int a2)]) (st' := [.int (-2147483648 : Int32)]) (M1 := u4) (ob := []) (pc' := 51) (by decide +kernel) rfl rfl sw_a0 ?_
        cases hf
        exact sf_int rfl (by decide +kernel)
      · refine sf_blk [(.aload_n 0, 0, 0, .null), (.iload_n 1, 0, 0, .null), (.iload_n 2, 0, 0, .null)] (lv' := [(0, .ref a0), (1, .int a1), (2, .int a2)]) (st' := [.int a2, .int a1, .ref a0]) (M1 := u4) (ob := []) (pc' := 42) (by decide +kernel) rfl rfl sw_a0 ?_
        obtain ⟨u7, hu7, hf⟩ := sw_bnd hf
        refine sf_callV (i := 447) (k2 := k_Model_backOf) (d2 := d - 1) (As := [.int a1, .int a2]) (st := []) (q := a0) (ci := 12) mf_Model_backOf mi_Model_backOf ms_Model_backOf (sw_m7 235 (by decide +kernel)) rfl (by decide) (by decide +kernel) rfl (Nat.le_of_ble_eq_true rfl) (by omega) h5 (o_Model_backOf g (d := d - 1) (by omega) hu7) ?_
        show sw_F _ _ _ _ _ _ 45 [(0, .ref a0), (1, .int a1), (2, .int a2)] [.int u7.1] u7.2
        refine sf_goto (off := 6) (tgt := 51) (by decide +kernel) (by decide) ?_
        cases hf
        exact sf_int rfl (by decide +kernel)
    · refine sf_blk [(.ldc_w 337, 0, 0, .int (-2147483648 : Int32))] (lv' := [(0, .ref a0), (1, .int a1), (2, .int a2)]) (st' := [.int (-2147483648 : Int32)]) (M1 := u2.2) (ob := []) (pc' := 20) (by decide +kernel) rfl rfl sw_a0 ?_
      cases hf
      exact sf_int rfl (by decide +kernel)
theorem o_Model_back (g : sw_G) {d : Nat} (hd : 6 ≤ d) {N : Nat} {a0 : Nat} {a1 : Int32} {a2 : Int32} {M : sw_M} {r : Int32 × sw_M} (hf : f_Model_back N a0 a1 a2 M = some r) : sw_Ok g k_Model_back d [.ref a0, .int a1, .int a2] M (some (.int r.1)) r.2 := sf_met (by decide +kernel) rfl (by decide) (Nat.le_of_ble_eq_true rfl) (t_Model_back hd hf)
def f_Model_hasHalf_91 (N : Nat) (k5 : Nat → Int32 → Int32 → Int32 → Int32 → sw_M → Option (Int32 × sw_M)) (a0 : Nat) (a1 : Int32) (a2 : Int32) (a4 : Int32) (b0 : Int32) (b1 : Int32) (M : sw_M) : Option (Int32 × sw_M) :=
  k5 a0 a1 a2 (b1 + b0) (a4 + (1 : Int32)) M
set_option maxRecDepth 10000 in
theorem t_Model_hasHalf_91 {g : sw_G} {d n0 : Nat} (hd : 2 ≤ d) {r : Int32 × sw_M} (k5 : Nat → Int32 → Int32 → Int32 → Int32 → sw_M → Option (Int32 × sw_M)) (hk5 : ∀ (a0 : Nat) (a1 : Int32) (a2 : Int32) (a3 : Int32) (a4 : Int32) (M : sw_M), k5 a0 a1 a2 a3 a4 M = some r → sw_F g k_Model_hasHalf d n0 (some (.int r.1)) r.2 5 [(0, .ref a0), (1, .int a1), (2, .int a2), (3, .int a3), (4, .int a4)] [] M) {N : Nat} {a0 : Nat} {a1 : Int32} {a2 : Int32} {a4 : Int32} {b0 : Int32} {b1 : Int32} {M : sw_M} (hf : f_Model_hasHalf_91 N k5 a0 a1 a2 a4 b0 b1 M = some r) : sw_F g k_Model_hasHalf d n0 (some (.int r.1)) r.2 91 [(0, .ref a0), (1, .int a1), (2, .int a2), (4, .int a4)] [.int b0, .int b1] M := by
  unfold f_Model_hasHalf_91 at hf
  refine sf_blk [(.iadd, 0, 0, .null), (.istore_n 3, 0, 0, .null), (.iinc 4 (1), 0, 0, .int (1 : Int32))] (lv' := [(4, .int (a4 + (1 : Int32))), (3, .int (b1 + b0)), (0, .ref a0), (1, .int a1), (2, .int a2)]) (st' := []) (M1 := M) (ob := []) (pc' := 96) (by decide +kernel) rfl rfl sw_a0 ?_
  refine sf_goto (off := -91) (tgt := 5) (by decide +kernel) (by decide) ?_
  exact sf_weak [2, 3, 4, 1, 0] rfl (hk5 _ _ _ _ _ _ hf)
def f_Model_hasHalf_71 (N : Nat) (k5 : Nat → Int32 → Int32 → Int32 → Int32 → sw_M → Option (Int32 × sw_M)) (k32 : Nat → Int32 → Int32 → Int32 → Int32 → Int32 → Int64 → Int32 → sw_M → Option (Int32 × sw_M)) (a0 : Nat) (a1 : Int32) (a2 : Int32) (a3 : Int32) (a4 : Int32) (a6 : Int64) (a8 : Int32) (b0 : Int32) (b1 : Int32) (M : sw_M) : Option (Int32 × sw_M) :=
  k32 a0 a1 a2 a3 a4 (b1 ||| b0) a6 (a8 + (1 : Int32)) M
set_option maxRecDepth 10000 in
theorem t_Model_hasHalf_71 {g : sw_G} {d n0 : Nat} (hd : 2 ≤ d) {r : Int32 × sw_M} (k5 : Nat → Int32 → Int32 → Int32 → Int32 → sw_M → Option (Int32 × sw_M)) (hk5 : ∀ (a0 : Nat) (a1 : Int32) (a2 : Int32) (a3 : Int32) (a4 : Int32) (M : sw_M), k5 a0 a1 a2 a3 a4 M = some r → sw_F g k_Model_hasHalf d n0 (some (.int r.1)) r.2 5 [(0, .ref a0), (1, .int a1), (2, .int a2), (3, .int a3), (4, .int a4)] [] M) (k32 : Nat → Int32 → Int32 → Int32 → Int32 → Int32 → Int64 → Int32 → sw_M → Option (Int32 × sw_M)) (hk32 : ∀ (a0 : Nat) (a1 : Int32) (a2 : Int32) (a3 : Int32) (a4 : Int32) (a5 : Int32) (a6 : Int64) (a8 : Int32) (M : sw_M), k32 a0 a1 a2 a3 a4 a5 a6 a8 M = some r → sw_F g k_Model_hasHalf d n0 (some (.int r.1)) r.2 32 [(0, .ref a0), (1, .int a1), (2, .int a2), (3, .int a3), (4, .int a4), (5, .int a5), (6, .long a6), (8, .int a8)] [] M) {N : Nat} {a0 : Nat} {a1 : Int32} {a2 : Int32} {a3 : Int32} {a4 : Int32} {a6 : Int64} {a8 : Int32} {b0 : Int32} {b1 : Int32} {M : sw_M} (hf : f_Model_hasHalf_71 N k5 k32 a0 a1 a2 a3 a4 a6 a8 b0 b1 M = some r) : sw_F g k_Model_hasHalf d n0 (some (.int r.1)) r.2 71 [(0, .ref a0), (1, .int a1), (2, .int a2), (3, .int a3), (4, .int a4), (6, .long a6), (8, .int a8)] [.int b0, .int b1] M := by
  unfold f_Model_hasHalf_71 at hf
  refine sf_blk [(.ior, 0, 0, .null), (.istore 5, 0, 0, .null), (.iinc 8 (1), 0, 0, .int (1 : Int32))] (lv' := [(8, .int (a8 + (1 : Int32))), (5, .int (b1 ||| b0)), (0, .ref a0), (1, .int a1), (2, .int a2), (3, .int a3), (4, .int a4), (6, .long a6)]) (st' := []) (M1 := M) (ob := []) (pc' := 77) (by decide +kernel) rfl rfl sw_a0 ?_
  refine sf_goto (off := -45) (tgt := 32) (by decide +kernel) (by decide) ?_
  exact sf_weak [2, 3, 4, 5, 6, 1, 7, 0] rfl (hk32 _ _ _ _ _ _ _ _ _ hf)
def f_Model_hasHalf_32 (N : Nat) (k5 : Nat → Int32 → Int32 → Int32 → Int32 → sw_M → Option (Int32 × sw_M)) : Nat → Nat → Int32 → Int32 → Int32 → Int32 → Int32 → Int64 → Int32 → sw_M → Option (Int32 × sw_M)
  | 0, _, _, _, _, _, _, _, _, _ => none
  | j + 1, a0, a1, a2, a3, a4, a5, a6, a8, M =>
  sw_gd [sw_ok M a0 12] (sw_gd [sw_ar M (rd_R M a0 67) 13 a2] (if (rd_I M (rd_R M a0 67) a2.toNatClampNeg) ≤ a8 then if a5 = 0 then f_Model_hasHalf_91 N k5 a0 a1 a2 a4 (0 : Int32) a3 M
  else f_Model_hasHalf_91 N k5 a0 a1 a2 a4 (1 : Int32) a3 M
  else (f_Model_backOf N a0 a2 a8 M).bind (fun u3 => if (50 : Int64) < (m_absL (a6 - u3.1.toInt64)) then f_Model_hasHalf_71 N k5 (f_Model_hasHalf_32 N k5 j) a0 a1 a2 a3 a4 a6 a8 (0 : Int32) a5 u3.2
  else f_Model_hasHalf_71 N k5 (f_Model_hasHalf_32 N k5 j) a0 a1 a2 a3 a4 a6 a8 (1 : Int32) a5 u3.2)))
set_option maxRecDepth 10000 in
theorem t_Model_hasHalf_32 {g : sw_G} {d n0 : Nat} (hd : 2 ≤ d) {r : Int32 × sw_M} (k5 : Nat → Int32 → Int32 → Int32 → Int32 → sw_M → Option (Int32 × sw_M)) (hk5 : ∀ (a0 : Nat) (a1 : Int32) (a2 : Int32) (a3 : Int32) (a4 : Int32) (M : sw_M), k5 a0 a1 a2 a3 a4 M = some r → sw_F g k_Model_hasHalf d n0 (some (.int r.1)) r.2 5 [(0, .ref a0), (1, .int a1), (2, .int a2), (3, .int a3), (4, .int a4)] [] M) {N : Nat} : ∀ (j : Nat) (a0 : Nat) (a1 : Int32) (a2 : Int32) (a3 : Int32) (a4 : Int32) (a5 : Int32) (a6 : Int64) (a8 : Int32) (M : sw_M), f_Model_hasHalf_32 N k5 j a0 a1 a2 a3 a4 a5 a6 a8 M = some r → sw_F g k_Model_hasHalf d n0 (some (.int r.1)) r.2 32 [(0, .ref a0), (1, .int a1), (2, .int a2), (3, .int a3), (4, .int a4), (5, .int a5), (6, .long a6), (8, .int a8)] [] M := by
  intro j
  induction j with
  | zero =>
    intro a0 a1 a2 a3 a4 a5 a6 a8 M hf
    rw [f_Model_hasHalf_32] at hf
    cases hf
  | succ j ih =>
    intro a0 a1 a2 a3 a4 a5 a6 a8 M hf
    rw [f_Model_hasHalf_32] at hf
    obtain ⟨h1, hf⟩ := sw_gd_1 hf
    obtain ⟨h2, hf⟩ := sw_gd_1 hf
    refine sf_blk [(.iload 8, 0, 0, .null), (.aload_n 0, 0, 0, .null), (.getfield 106, 12, 67, .null), (.iload_n 2, 0, 0, .null), (.iaload, 0, 0, .null)] (lv' := [(0, .ref a0), (1, .int a1), (2, .int a2), (3, .int a3), (4, .int a4), (5, .int a5), (6, .long a6), (8, .int a8)]) (st' := [.int (rd_I M (rd_R M a0 67) a2.toNatClampNeg), .int a8]) (M1 := M) (ob := [sw_ok M a0 12, sw_ar M (rd_R M a0 67) 13 a2]) (pc' := 40) (by decide +kernel) rfl rfl (sw_a1 h1 (sw_a1 h2 sw_a0)) ?_
    refine sf_j_ge (off := 40) (tgt := 80) (by decide +kernel) (by decide) hf (fun hc hf => ?_) (fun hc hf => ?_)
    · refine sf_blk [(.iload_n 3, 0, 0, .null), (.iload 5, 0, 0, .null)] (lv' := [(0, .ref a0), (1, .int a1), (2, .int a2), (3, .int a3), (4, .int a4), (5, .int a5), (6, .long a6), (8, .int a8)]) (st' := [.int a5, .int a3]) (M1 := M) (ob := []) (pc' := 83) (by decide +kernel) rfl rfl sw_a0 ?_
      refine sf_z_eq (off := 7) (tgt := 90) (by decide +kernel) (by decide) hf (fun hc hf => ?_) (fun hc hf => ?_)
      · refine sf_blk [(.iconst (0), 0, 0, .int (0 : Int32))] (lv' := [(0, .ref a0), (1, .int a1), (2, .int a2), (3, .int a3), (4, .int a4), (5, .int a5), (6, .long a6), (8, .int a8)]) (st' := [.int (0 : Int32), .int a3]) (M1 := M) (ob := []) (pc' := 91) (by decide +kernel) rfl rfl sw_a0 ?_
        exact sf_weak [0, 1, 2, 4] rfl (t_Model_hasHalf_91 hd _ hk5 hf)
      · refine sf_blk [(.iconst (1), 0, 0, .int (1 : Int32))] (lv' := [(0, .ref a0), (1, .int a1), (2, .int a2), (3, .int a3), (4, .int a4), (5, .int a5), (6, .long a6), (8, .int a8)]) (st' := [.int (1 : Int32), .int a3]) (M1 := M) (ob := []) (pc' := 87) (by decide +kernel) rfl rfl sw_a0 ?_
        refine sf_goto (off := 4) (tgt := 91) (by decide +kernel) (by decide) ?_
        exact sf_weak [0, 1, 2, 4] rfl (t_Model_hasHalf_91 hd _ hk5 hf)
    · refine sf_blk [(.iload 5, 0, 0, .null), (.lload 6, 0, 0, .null), (.aload_n 0, 0, 0, .null), (.iload_n 2, 0, 0, .null), (.iload 8, 0, 0, .null)] (lv' := [(0, .ref a0), (1, .int a1), (2, .int a2), (3, .int a3), (4, .int a4), (5, .int a5), (6, .long a6), (8, .int a8)]) (st' := [.int a8, .int a2, .ref a0, .long a6, .int a5]) (M1 := M) (ob := []) (pc' := 51) (by decide +kernel) rfl rfl sw_a0 ?_
      obtain ⟨u3, hu3, hf⟩ := sw_bnd hf
      refine sf_callV (i := 447) (k2 := k_Model_backOf) (d2 := d - 1) (As := [.int a2, .int a8]) (st := [.long a6, .int a5]) (q := a0) (ci := 12) mf_Model_backOf mi_Model_backOf ms_Model_backOf (sw_m7 235 (by decide +kernel)) rfl (by decide) (by decide +kernel) rfl (Nat.le_of_ble_eq_true rfl) (by omega) h1 (o_Model_backOf g (d := d - 1) (by omega) hu3) ?_
      show sw_F _ _ _ _ _ _ 54 [(0, .ref a0), (1, .int a1), (2, .int a2), (3, .int a3), (4, .int a4), (5, .int a5), (6, .long a6), (8, .int a8)] [.int u3.1, .long a6, .int a5] u3.2
      refine sf_blk [(.i2l, 0, 0, .null), (.lsub, 0, 0, .null)] (lv' := [(0, .ref a0), (1, .int a1), (2, .int a2), (3, .int a3), (4, .int a4), (5, .int a5), (6, .long a6), (8, .int a8)]) (st' := [.long (a6 - u3.1.toInt64), .int a5]) (M1 := u3.2) (ob := []) (pc' := 56) (by decide +kernel) rfl rfl sw_a0 ?_
      refine sf_absL (i := 437) (st := [.int a5]) (sw_m7 222 (by decide +kernel)) (by decide +kernel) (by omega) (Nat.le_of_ble_eq_true rfl) ?_
      show sw_F _ _ _ _ _ _ 59 [(0, .ref a0), (1, .int a1), (2, .int a2), (3, .int a3), (4, .int a4), (5, .int a5), (6, .long a6), (8, .int a8)] [.long (m_absL (a6 - u3.1.toInt64)), .int a5] u3.2
      refine sf_blk [(.ldc2_w 450, 0, 0, .long (50 : Int64)), (.lcmp, 0, 0, .null)] (lv' := [(0, .ref a0), (1, .int a1), (2, .int a2), (3, .int a3), (4, .int a4), (5, .int a5), (6, .long a6), (8, .int a8)]) (st' := [.int (lg_cmp (m_absL (a6 - u3.1.toInt64)) (50 : Int64)), .int a5]) (M1 := u3.2) (ob := []) (pc' := 63) (by decide +kernel) rfl rfl sw_a0 ?_
      refine sf_l_gt (off := 7) (tgt := 70) (by decide +kernel) (by decide) hf (fun hc hf => ?_) (fun hc hf => ?_)
      · refine sf_blk [(.iconst (0), 0, 0, .int (0 : Int32))] (lv' := [(0, .ref a0), (1, .int a1), (2, .int a2), (3, .int a3), (4, .int a4), (5, .int a5), (6, .long a6), (8, .int a8)]) (st' := [.int (0 : Int32), .int a5]) (M1 := u3.2) (ob := []) (pc' := 71) (by decide +kernel) rfl rfl sw_a0 ?_
        exact sf_weak [0, 1, 2, 3, 4, 6, 7] rfl (t_Model_hasHalf_71 hd _ hk5 _ ih hf)
      · refine sf_blk [(.iconst (1), 0, 0, .int (1 : Int32))] (lv' := [(0, .ref a0), (1, .int a1), (2, .int a2), (3, .int a3), (4, .int a4), (5, .int a5), (6, .long a6), (8, .int a8)]) (st' := [.int (1 : Int32), .int a5]) (M1 := u3.2) (ob := []) (pc' := 67) (by decide +kernel) rfl rfl sw_a0 ?_
        refine sf_goto (off := 4) (tgt := 71) (by decide +kernel) (by decide) ?_
        exact sf_weak [0, 1, 2, 3, 4, 6, 7] rfl (t_Model_hasHalf_71 hd _ hk5 _ ih hf)
def f_Model_hasHalf_5 (N : Nat) : Nat → Nat → Int32 → Int32 → Int32 → Int32 → sw_M → Option (Int32 × sw_M)
  | 0, _, _, _, _, _, _ => none
  | j + 1, a0, a1, a2, a3, a4, M =>
  sw_gd [sw_ok M a0 12] (sw_gd [sw_ar M (rd_R M a0 67) 13 a1] (if (rd_I M (rd_R M a0 67) a1.toNatClampNeg) ≤ a4 then if (rd_I M (rd_R M a0 67) a1.toNatClampNeg) ≤ 0 then some ((0 : Int32), M)
  else if ((2 : Int32) * a3) < (rd_I M (rd_R M a0 67) a1.toNatClampNeg) then some ((0 : Int32), M)
  else some ((1 : Int32), M)
  else (f_Model_backOf N a0 a1 a4 M).bind (fun u3 => f_Model_hasHalf_32 N (f_Model_hasHalf_5 N j) N a0 a1 a2 a3 a4 (0 : Int32) u3.1.toInt64 (0 : Int32) u3.2)))
set_option maxRecDepth 10000 in
theorem t_Model_hasHalf_5 {g : sw_G} {d n0 : Nat} (hd : 2 ≤ d) {r : Int32 × sw_M} {N : Nat} : ∀ (j : Nat) (a0 : Nat) (a1 : Int32) (a2 : Int32) (a3 : Int32) (a4 : Int32) (M : sw_M), f_Model_hasHalf_5 N j a0 a1 a2 a3 a4 M = some r → sw_F g k_Model_hasHalf d n0 (some (.int r.1)) r.2 5 [(0, .ref a0), (1, .int a1), (2, .int a2), (3, .int a3), (4, .int a4)] [] M := by
  intro j
  induction j with
  | zero =>
    intro a0 a1 a2 a3 a4 M hf
    rw [f_Model_hasHalf_5] at hf
    cases hf
  | succ j ih =>
    intro a0 a1 a2 a3 a4 M hf
    rw [f_Model_hasHalf_5] at hf
    obtain ⟨h1, hf⟩ := sw_gd_1 hf
    obtain ⟨h2, hf⟩ := sw_gd_1 hf
    refine sf_blk [(.iload 4, 0, 0, .null), (.aload_n 0, 0, 0, .null), (.getfield 106, 12, 67, .null), (.iload_n 1, 0, 0, .null), (.iaload, 0, 0, .null)] (lv' := [(0, .ref a0), (1, .int a1), (2, .int a2), (3, .int a3), (4, .int a4)]) (st' := [.int (rd_I M (rd_R M a0 67) a1.toNatClampNeg), .int a4]) (M1 := M) (ob := [sw_ok M a0 12, sw_ar M (rd_R M a0 67) 13 a1]) (pc' := 13) (by decide +kernel) rfl rfl (sw_a1 h1 (sw_a1 h2 sw_a0)) ?_
    refine sf_j_ge (off := 86) (tgt := 99) (by decide +kernel) (by decide) hf (fun hc hf => ?_) (fun hc hf => ?_)
    · refine sf_blk [(.aload_n 0, 0, 0, .null), (.getfield 106, 12, 67, .null), (.iload_n 1, 0, 0, .null), (.iaload, 0, 0, .null)] (lv' := [(0, .ref a0), (1, .int a1), (2, .int a2), (3, .int a3), (4, .int a4)]) (st' := [.int (rd_I M (rd_R M a0 67) a1.toNatClampNeg)]) (M1 := M) (ob := [sw_ok M a0 12, sw_ar M (rd_R M a0 67) 13 a1]) (pc' := 105) (by decide +kernel) rfl rfl (sw_a1 h1 (sw_a1 h2 sw_a0)) ?_
      refine sf_z_le (off := 19) (tgt := 124) (by decide +kernel) (by decide) hf (fun hc hf => ?_) (fun hc hf => ?_)
      · refine sf_blk [(.iconst (0), 0, 0, .int (0 : Int32))] (lv' := [(0, .ref a0), (1, .int a1), (2, .int a2), (3, .int a3), (4, .int a4)]) (st' := [.int (0 : Int32)]) (M1 := M) (ob := []) (pc' := 125) (by decide +kernel) rfl rfl sw_a0 ?_
        cases hf
        exact sf_bool rfl rfl (by decide +kernel)
      · refine sf_blk [(.iconst (2), 0, 0, .int (2 : Int32)), (.iload_n 3, 0, 0, .null), (.imul, 0, 0, .null), (.aload_n 0, 0, 0, .null), (.getfield 106, 12, 67, .null), (.iload_n 1, 0, 0, .null), (.iaload, 0, 0, .null)] (lv' := [(0, .ref a0), (1, .int a1), (2, .int a2), (3, .int a3), (4, .int a4)]) (st' := [.int (rd_I M (rd_R M a0 67) a1.toNatClampNeg), .int ((2 : Int32) * a3)]) (M1 := M) (ob := [sw_ok M a0 12, sw_ar M (rd_R M a0 67) 13 a1]) (pc' := 117) (by decide +kernel) rfl rfl (sw_a1 h1 (sw_a1 h2 sw_a0)) ?_
        refine sf_j_lt (off := 7) (tgt := 124) (by decide +kernel) (by decide) hf (fun hc hf => ?_) (fun hc hf => ?_)
        · refine sf_blk [(.iconst (0), 0, 0, .int (0 : Int32))] (lv' := [(0, .ref a0), (1, .int a1), (2, .int a2), (3, .int a3), (4, .int a4)]) (st' := [.int (0 : Int32)]) (M1 := M) (ob := []) (pc' := 125) (by decide +kernel) rfl rfl sw_a0 ?_
          cases hf
          exact sf_bool rfl rfl (by decide +kernel)
        · refine sf_blk [(.iconst (1), 0, 0, .int (1 : Int32))] (lv' := [(0, .ref a0), (1, .int a1), (2, .int a2), (3, .int a3), (4, .int a4)]) (st' := [.int (1 : Int32)]) (M1 := M) (ob := []) (pc' := 121) (by decide +kernel) rfl rfl sw_a0 ?_
          refine sf_goto (off := 4) (tgt := 125) (by decide +kernel) (by decide) ?_
          cases hf
          exact sf_bool rfl rfl (by decide +kernel)
    · refine sf_blk [(.iconst (0), 0, 0, .int (0 : Int32)), (.istore 5, 0, 0, .null), (.aload_n 0, 0, 0, .null), (.iload_n 1, 0, 0, .null), (.iload 4, 0, 0, .null)] (lv' := [(5, .int (0 : Int32)), (0, .ref a0), (1, .int a1), (2, .int a2), (3, .int a3), (4, .int a4)]) (st' := [.int a4, .int a1, .ref a0]) (M1 := M) (ob := []) (pc' := 23) (by decide +kernel) rfl rfl sw_a0 ?_
      obtain ⟨u3, hu3, hf⟩ := sw_bnd hf
      refine sf_callV (i := 447) (k2 := k_Model_backOf) (d2 := d - 1) (As := [.int a1, .int a4]) (st := []) (q := a0) (ci := 12) mf_Model_backOf mi_Model_backOf ms_Model_backOf (sw_m7 235 (by decide +kernel)) rfl (by decide) (by decide +kernel) rfl (Nat.le_of_ble_eq_true rfl) (by omega) h1 (o_Model_backOf g (d := d - 1) (by omega) hu3) ?_
      show sw_F _ _ _ _ _ _ 26 [(5, .int (0 : Int32)), (0, .ref a0), (1, .int a1), (2, .int a2), (3, .int a3), (4, .int a4)] [.int u3.1] u3.2
      refine sf_blk [(.i2l, 0, 0, .null), (.lstore 6, 0, 0, .null), (.iconst (0), 0, 0, .int (0 : Int32)), (.istore 8, 0, 0, .null)] (lv' := [(8, .int (0 : Int32)), (6, .long u3.1.toInt64), (5, .int (0 : Int32)), (0, .ref a0), (1, .int a1), (2, .int a2), (3, .int a3), (4, .int a4)]) (st' := []) (M1 := u3.2) (ob := []) (pc' := 32) (by decide +kernel) rfl rfl sw_a0 ?_
      exact sf_weak [3, 4, 5, 6, 7, 2, 1, 0] rfl (t_Model_hasHalf_32 hd _ ih _ _ _ _ _ _ _ _ _ _ hf)
def f_Model_hasHalf (N : Nat) (a0 : Nat) (a1 : Int32) (a2 : Int32) (M : sw_M) : Option (Int32 × sw_M) :=
  f_Model_hasHalf_5 N N a0 a1 a2 (0 : Int32) (0 : Int32) M
set_option maxRecDepth 10000 in
theorem t_Model_hasHalf {g : sw_G} {d n0 : Nat} (hd : 2 ≤ d) {r : Int32 × sw_M} {N : Nat} {a0 : Nat} {a1 : Int32} {a2 : Int32} {M : sw_M} (hf : f_Model_hasHalf N a0 a1 a2 M = some r) : sw_F g k_Model_hasHalf d n0 (some (.int r.1)) r.2 0 [(0, .ref a0), (1, .int a1), (2, .int a2)] [] M := by
  unfold f_Model_hasHalf at hf
  refine sf_blk [(.iconst (0), 0, 0, .int (0 : Int32)), (.istore_n 3, 0, 0, .null), (.iconst (0), 0, 0, .int (0 : Int32)), (.istore 4, 0, 0, .null)] (lv' := [(4, .int (0 : Int32)), (3, .int (0 : Int32)), (0, .ref a0), (1, .int a1), (2, .int a2)]) (st' := []) (M1 := M) (ob := []) (pc' := 5) (by decide +kernel) rfl rfl sw_a0 ?_
  exact sf_weak [2, 3, 4, 1, 0] rfl (t_Model_hasHalf_5 hd _ _ _ _ _ _ _ hf)
theorem o_Model_hasHalf (g : sw_G) {d : Nat} (hd : 2 ≤ d) {N : Nat} {a0 : Nat} {a1 : Int32} {a2 : Int32} {M : sw_M} {r : Int32 × sw_M} (hf : f_Model_hasHalf N a0 a1 a2 M = some r) : sw_Ok g k_Model_hasHalf d [.ref a0, .int a1, .int a2] M (some (.int r.1)) r.2 := sf_met (by decide +kernel) rfl (by decide) (Nat.le_of_ble_eq_true rfl) (t_Model_hasHalf hd hf)
