/-! printed by program: functions of methods, and that the bytes compute them -/
def f_House_bent_121 (N : Nat) (k53 : Nat → Int32 → Int64 → Int32 → Int32 → Int32 → Int32 → Int32 → sw_M → Option (Int32 × sw_M)) (a0 : Nat) (a1 : Int32) (a2 : Int64) (a4 : Int32) (a5 : Int32) (a6 : Int32) (a7 : Int32) (a8 : Int32) (M : sw_M) : Option (Int32 × sw_M) :=
  k53 a0 a1 a2 a4 a5 a6 a7 (a8 + (1 : Int32)) M
set_option maxRecDepth 10000 in
theorem t_House_bent_121 {g : sw_G} {d n0 : Nat} (hd : 6 ≤ d) {r : Int32 × sw_M} (k53 : Nat → Int32 → Int64 → Int32 → Int32 → Int32 → Int32 → Int32 → sw_M → Option (Int32 × sw_M)) (hk53 : ∀ (a0 : Nat) (a1 : Int32) (a2 : Int64) (a4 : Int32) (a5 : Int32) (a6 : Int32) (a7 : Int32) (a8 : Int32) (M : sw_M), k53 a0 a1 a2 a4 a5 a6 a7 a8 M = some r → sw_F g k_House_bent d n0 (some (.int r.1)) r.2 53 [(0, .ref a0), (1, .int a1), (2, .long a2), (4, .int a4), (5, .int a5), (6, .int a6), (7, .int a7), (8, .int a8)] [] M) {N : Nat} {a0 : Nat} {a1 : Int32} {a2 : Int64} {a4 : Int32} {a5 : Int32} {a6 : Int32} {a7 : Int32} {a8 : Int32} {M : sw_M} (hf : f_House_bent_121 N k53 a0 a1 a2 a4 a5 a6 a7 a8 M = some r) : sw_F g k_House_bent d n0 (some (.int r.1)) r.2 121 [(0, .ref a0), (1, .int a1), (2, .long a2), (4, .int a4), (5, .int a5), (6, .int a6), (7, .int a7), (8, .int a8)] [] M := by
  unfold f_House_bent_121 at hf
  refine sf_blk [(.iinc 8 (1), 0, 0, .int (1 : Int32))] (lv' := [(8, .int (a8 + (1 : Int32))), (0, .ref a0), (1, .int a1), (2, .long a2), (4, .int a4), (5, .int a5), (6, .int a6), (7, .int a7)]) (st' := []) (M1 := M) (ob := []) (pc' := 124) (by decide +kernel) rfl rfl sw_a0 ?_
  refine sf_goto (off := -71) (tgt := 53) (by decide +kernel) (by decide) ?_
  exact sf_weak [1, 2, 3, 4, 5, 6, 7, 0] rfl (hk53 _ _ _ _ _ _ _ _ _ hf)
def f_House_bent_53 (N : Nat) : Nat → Nat → Int32 → Int64 → Int32 → Int32 → Int32 → Int32 → Int32 → sw_M → Option (Int32 × sw_M)
  | 0, _, _, _, _, _, _, _, _, _ => none
  | j + 1, a0, a1, a2, a4, a5, a6, a7, a8, M =>
  if a7 ≤ a8 then sw_gd [sw_ok M a0 11] (sw_gd [sw_ok M (rd_R M a0 2) 0] (some (a5, (wr_I M (rd_R M a0 2) 5 a4))))
  else sw_gd [sw_ok M a0 11] (sw_gd [sw_ok M (rd_R M a0 2) 0] (sw_gd [sw_ok (wr_I M (rd_R M a0 2) 5 ((rd_I M (rd_R M a0 2) 3) + (a8 * a1))) (rd_R (wr_I M (rd_R M a0 2) 5 ((rd_I M (rd_R M a0 2) 3) + (a8 * a1))) a0 10) 9] ((f_Stream_cellBits N (rd_R (wr_I M (rd_R M a0 2) 5 ((rd_I M (rd_R M a0 2) 3) + (a8 * a1))) a0 10) (rd_R (wr_I M (rd_R M a0 2) 5 ((rd_I M (rd_R M a0 2) 3) + (a8 * a1))) a0 2) (rd_R (wr_I M (rd_R M a0 2) 5 ((rd_I M (rd_R M a0 2) 3) + (a8 * a1))) a0 6) (wr_I M (rd_R M a0 2) 5 ((rd_I M (rd_R M a0 2) 3) + (a8 * a1)))).bind (fun u6 => (f_Lng_bitCount N (u6.1 ^^^ a2) u6.2).bind (fun u7 => if a6 ≤ u7.1 then f_House_bent_121 N (f_House_bent_53 N j) a0 a1 a2 a4 a5 a6 a7 a8 u7.2
  else sw_gd [sw_ok u7.2 a0 11] (sw_gd [sw_ok u7.2 (rd_R u7.2 a0 2) 0] (f_House_bent_121 N (f_House_bent_53 N j) a0 a1 a2 a4 (rd_I u7.2 (rd_R u7.2 a0 2) 5) u7.1 a7 a8 u7.2)))))))
set_option maxRecDepth 10000 in
theorem t_House_bent_53 {g : sw_G} {d n0 : Nat} (hd : 6 ≤ d) {r : Int32 × sw_M} {N : Nat} : ∀ (j : Nat) (a0 : Nat) (a1 : Int32) (a2 : Int64) (a4 : Int32) (a5 : Int32) (a6 : Int32) (a7 : Int32) (a8 : Int32) (M : sw_M), f_House_bent_53 N j a0 a1 a2 a4 a5 a6 a7 a8 M = some r → sw_F g k_House_bent d n0 (some (.int r.1)) r.2 53 [(0, .ref a0), (1, .int a1), (2, .long a2), (4, .int a4), (5, .int a5), (6, .int a6), (7, .int a7), (8, .int a8)] [] M := by
  intro j
  induction j with
  | zero =>
    intro a0 a1 a2 a4 a5 a6 a7 a8 M hf
    rw [f_House_bent_53] at hf
    cases hf
  | succ j ih =>
    intro a0 a1 a2 a4 a5 a6 a7 a8 M hf
    rw [f_House_bent_53] at hf
    refine sf_blk [(.iload 8, 0, 0, .null), (.iload 7, 0, 0, .null)] (lv' := [(0, .ref a0), (1, .int a1), (2, .long a2), (4, .int a4), (5, .int a5), (6, .int a6), (7, .int a7), (8, .int a8)]) (st' := [.int a7, .int a8]) (M1 := M) (ob := []) (pc' := 57) (by decide +kernel) rfl rfl sw_a0 ?_
    refine sf_j_ge (off := 70) (tgt := 127) (by decide +kernel) (by decide) hf (fun hc hf => ?_) (fun hc hf => ?_)
    · obtain ⟨h1, hf⟩ := sw_gd_1 hf
      obtain ⟨h2, hf⟩ := sw_gd_1 hf
      refine sf_blk [(.aload_n 0, 0, 0, .null), (.getfield 20, 11, 2, .null), (.iload 4, 0, 0, .null), (.putfield 116, 0, 5, .null), (.iload 5, 0, 0, .null)] (lv' := [(0, .ref a0), (1, .int a1), (2, .long a2), (4, .int a4), (5, .int a5), (6, .int a6), (7, .int a7), (8, .int a8)]) (st' := [.int a5]) (M1 := (wr_I M (rd_R M a0 2) 5 a4)) (ob := [sw_ok M a0 11, sw_ok M (rd_R M a0 2) 0]) (pc' := 138) (by decide +kernel) rfl rfl (sw_a1 h1 (sw_a1 h2 sw_a0)) ?_
      cases hf
      exact sf_int rfl (by decide +kernel)
    · obtain ⟨h3, hf⟩ := sw_gd_1 hf
      obtain ⟨h4, hf⟩ := sw_gd_1 hf
      obtain ⟨h5, hf⟩ := sw_gd_1 hf
      refine sf_blk [(.aload_n 0, 0, 0, .null), (.getfield 20, 11, 2, .null), (.aload_n 0, 0, 0, .null), (.getfield 20, 11, 2, .null), (.getfield 110, 0, 3, .null), (.iload 8, 0, 0, .null), (.iload_n 1, 0, 0, .null), (.imul, 0, 0, .null), (.iadd, 0, 0, .null), (.putfield 116, 0, 5, .null), (.aload_n 0, 0, 0, .null), (.getfield 81, 11, 10, .null), (.aload_n 0, 0, 0, .null), (.getfield 20, 11, 2, .null), (.aload_n 0, 0, 0, .null), (.getfield 49, 11, 6, .null)] (lv' := [(0, .ref a0), (1, .int a1), (2, .long a2), (4, .int a4), (5, .int a5), (6, .int a6), (7, .int a7), (8, .int a8)]) (st' := [.ref (rd_R (wr_I M (rd_R M a0 2) 5 ((rd_I M (rd_R M a0 2) 3) + (a8 * a1))) a0 6), .ref (rd_R (wr_I M (rd_R M a0 2) 5 ((rd_I M (rd_R M a0 2) 3) + (a8 * a1))) a0 2), .ref (rd_R (wr_I M (rd_R M a0 2) 5 ((rd_I M (rd_R M a0 2) 3) + (a8 * a1))) a0 10)]) (M1 := (wr_I M (rd_R M a0 2) 5 ((rd_I M (rd_R M a0 2) 3) + (a8 * a1)))) (ob := [sw_ok M a0 11, sw_ok M a0 11, sw_ok M (rd_R M a0 2) 0, sw_ok M (rd_R M a0 2) 0, sw_ok (wr_I M (rd_R M a0 2) 5 ((rd_I M (rd_R M a0 2) 3) + (a8 * a1))) a0 11, sw_ok (wr_I M (rd_R M a0 2) 5 ((rd_I M (rd_R M a0 2) 3) + (a8 * a1))) a0 11, sw_ok (wr_I M (rd_R M a0 2) 5 ((rd_I M (rd_R M a0 2) 3) + (a8 * a1))) a0 11]) (pc' := 91) (by decide +kernel) rfl rfl (sw_a1 h3 (sw_a1 h3 (sw_a1 h4 (sw_a1 h4 (sw_a1 h3 (sw_a1 h3 (sw_a1 h3 sw_a0))))))) ?_
      obtain ⟨u6, hu6, hf⟩ := sw_bnd hf
      refine sf_callV (i := 326) (k2 := k_Stream_cellBits) (d2 := d - 1) (As := [.ref (rd_R (wr_I M (rd_R M a0 2) 5 ((rd_I M (rd_R M a0 2) 3) + (a8 * a1))) a0 2), .ref (rd_R (wr_I M (rd_R M a0 2) 5 ((rd_I M (rd_R M a0 2) 3) + (a8 * a1))) a0 6)]) (st := []) (q := (rd_R (wr_I M (rd_R M a0 2) 5 ((rd_I M (rd_R M a0 2) 3) + (a8 * a1))) a0 10)) (ci := 9) mf_Stream_cellBits mi_Stream_cellBits ms_Stream_cellBits (sw_m5 193 (by decide +kernel)) rfl (by decide) (by decide +kernel) rfl (Nat.le_of_ble_eq_true rfl) (by omega) h5 (o_Stream_cellBits g (d := d - 1) (by omega) hu6) ?_
      show sw_F _ _ _ _ _ _ 94 [(0, .ref a0), (1, .int a1), (2, .long a2), (4, .int a4), (5, .int a5), (6, .int a6), (7, .int a7), (8, .int a8)] [.long u6.1] u6.2
      refine sf_blk [(.lload_n 2, 0, 0, .null), (.lxor, 0, 0, .null)] (lv' := [(0, .ref a0), (1, .int a1), (2, .long a2), (4, .int a4), (5, .int a5), (6, .int a6), (7, .int a7), (8, .int a8)]) (st' := [.long (u6.1 ^^^ a2)]) (M1 := u6.2) (ob := []) (pc' := 96) (by decide +kernel) rfl rfl sw_a0 ?_
      obtain ⟨u7, hu7, hf⟩ := sw_bnd hf
      refine sf_callS (i := 330) (k2 := k_Lng_bitCount) (d2 := d - 1) (As := [.long (u6.1 ^^^ a2)]) (st := []) mf_Lng_bitCount mi_Lng_bitCount (sw_m5 200 (by decide +kernel)) (by decide +kernel) rfl (Nat.le_of_ble_eq_true rfl) (by omega) (o_Lng_bitCount g (d := d - 1) (by omega) hu7) ?_
      show sw_F _ _ _ _ _ _ 99 [(0, .ref a0), (1, .int a1), (2, .long a2), (4, .int a4), (5, .int a5), (6, .int a6), (7, .int a7), (8, .int a8)] [.int u7.1] u7.2
      refine sf_blk [(.istore 9, 0, 0, .null), (.iload 9, 0, 0, .null), (.iload 6, 0, 0, .null)] (lv' := [(9, .int u7.1), (0, .ref a0), (1, .int a1), (2, .long a2), (4, .int a4), (5, .int a5), (6, .int a6), (7, .int a7), (8, .int a8)]) (st' := [.int a6, .int u7.1]) (M1 := u7.2) (ob := []) (pc' := 105) (by decide +kernel) rfl rfl sw_a0 ?_
      refine sf_j_ge (off := 16) (tgt := 121) (by decide +kernel) (by decide) hf (fun hc hf => ?_) (fun hc hf => ?_)
      · exact sf_weak [1, 2, 3, 4, 5, 6, 7, 8] rfl (t_House_bent_121 hd _ ih hf)
      · obtain ⟨h8, hf⟩ := sw_gd_1 hf
        obtain ⟨h9, hf⟩ := sw_gd_1 hf
        refine sf_blk [(.iload 9, 0, 0, .null), (.istore 6, 0, 0, .null), (.aload_n 0, 0, 0, .null), (.getfield 20, 11, 2, .null), (.getfield 116, 0, 5, .null), (.istore 5, 0, 0, .null)] (lv' := [(5, .int (rd_I u7.2 (rd_R u7.2 a0 2) 5)), (6, .int u7.1), (9, .int u7.1), (0, .ref a0), (1, .int a1), (2, .long a2), (4, .int a4), (7, .int a7), (8, .int a8)]) (st' := []) (M1 := u7.2) (ob := [sw_ok u7.2 a0 11, sw_ok u7.2 (rd_R u7.2 a0 2) 0]) (pc' := 121) (by decide +kernel) rfl rfl (sw_a1 h8 (sw_a1 h9 sw_a0)) ?_
        exact sf_weak [3, 4, 5, 6, 0, 1, 7, 8] rfl (t_House_bent_121 hd _ ih hf)
def f_House_bent (N : Nat) (a0 : Nat) (a1 : Int32) (a2 : Int64) (M : sw_M) : Option (Int32 × sw_M) :=
  if a1 < (1 : Int32) then some ((-1 : Int32), M)
  else if (99999 : Int32) < a1 then some ((-1 : Int32), M)
  else sw_gd [sw_ok M a0 11] (sw_gd [sw_ok M (rd_R M a0 10) 9] (if (rd_I M (rd_R M a0 10) 9) = 0 then some ((-1 : Int32), M)
  else sw_gd [sw_ok M (rd_R M a0 2) 0] ((f_Field_massesBy N (rd_R M a0 2) a1 M).bind (fun u4 => f_House_bent_53 N N a0 a1 a2 (rd_I M (rd_R M a0 2) 5) (-1 : Int32) (65 : Int32) u4.1 (0 : Int32) u4.2))))
set_option maxRecDepth 10000 in
theorem t_House_bent {g : sw_G} {d n0 : Nat} (hd : 6 ≤ d) {r : Int32 × sw_M} {N : Nat} {a0 : Nat} {a1 : Int32} {a2 : Int64} {M : sw_M} (hf : f_House_bent N a0 a1 a2 M = some r) : sw_F g k_House_bent d n0 (some (.int r.1)) r.2 0 [(0, .ref a0), (1, .int a1), (2, .long a2)] [] M := by
  unfold f_House_bent at hf
  refine sf_blk [(.iload_n 1, 0, 0, .null), (.iconst (1), 0, 0, .int (1 : Int32))] (lv' := [(0, .ref a0), (1, .int a1), (2, .long a2)]) (st' := [.int (1 : Int32), .int a1]) (M1 := M) (ob := []) (pc' := 2) (by decide +kernel) rfl rfl sw_a0 ?_
  refine sf_j_lt (off := 20) (tgt := 22) (by decide +kernel) (by decide) hf (fun hc hf => ?_) (fun hc hf => ?_)
  · refine sf_blk [(.iconst (-1), 0, 0, .int (-1 : Int32))] (lv' := [(0, .ref a0), (1, .int a1), (2, .long a2)]) (st' := [.int (-1 : Int32)]) (M1 := M) (ob := []) (pc' := 23) (by decide +kernel) rfl rfl sw_a0 ?_
    cases hf
    exact sf_int rfl (by decide +kernel)
  · refine sf_blk [(.iload_n 1, 0, 0, .null), (.ldc_w 287, 0, 0, .int (99999 : Int32))] (lv' := [(0, .ref a0), (1, .int a1), (2, .long a2)]) (st' := [.int (99999 : Int32), .int a1]) (M1 := M) (ob := []) (pc' := 9) (by decide +kernel) rfl rfl sw_a0 ?_
    refine sf_j_gt (off := 13) (tgt := 22) (by decide +kernel) (by decide) hf (fun hc hf => ?_) (fun hc hf => ?_)
    · refine sf_blk [(.iconst (-1), 0, 0, .int (-1 : Int32))] (lv' := [(0, .ref a0), (1, .int a1), (2, .long a2)]) (st' := [.int (-1 : Int32)]) (M1 := M) (ob := []) (pc' := 23) (by decide +kernel) rfl rfl sw_a0 ?_
      cases hf
      exact sf_int rfl (by decide +kernel)
    · obtain ⟨h1, hf⟩ := sw_gd_1 hf
      obtain ⟨h2, hf⟩ := sw_gd_1 hf
      refine sf_blk [(.aload_n 0, 0, 0, .null), (.getfield 81, 11, 10, .null), (.getfield 320, 9, 9, .null)] (lv' := [(0, .ref a0), (1, .int a1), (2, .long a2)]) (st' := [.int (rd_I M (rd_R M a0 10) 9)]) (M1 := M) (ob := [sw_ok M a0 11, sw_ok M (rd_R M a0 10) 9]) (pc' := 19) (by decide +kernel) rfl rfl (sw_a1 h1 (sw_a1 h2 sw_a0)) ?_
      refine sf_z_ne (off := 5) (tgt := 24) (by decide +kernel) (by decide) hf (fun hc hf => ?_) (fun hc hf => ?_)
      · obtain ⟨h3, hf⟩ := sw_gd_1 hf
        refine sf_blk [(.aload_n 0, 0, 0, .null), (.getfield 20, 11, 2, .null), (.getfield 116, 0, 5, .null), (.istore 4, 0, 0, .null), (.iconst (-1), 0, 0, .int (-1 : Int32)), (.istore 5, 0, 0, .null), (.bipush (65), 0, 0, .int (65 : Int32)), (.istore 6, 0, 0, .null), (.aload_n 0, 0, 0, .null), (.getfield 20, 11, 2, .null), (.iload_n 1, 0, 0, .null)] (lv' := [(6, .int (65 : Int32)), (5, .int (-1 : Int32)), (4, .int (rd_I M (rd_R M a0 2) 5)), (0, .ref a0), (1, .int a1), (2, .long a2)]) (st' := [.int a1, .ref (rd_R M a0 2)]) (M1 := M) (ob := [sw_ok M a0 11, sw_ok M (rd_R M a0 2) 0, sw_ok M a0 11]) (pc' := 45) (by decide +kernel) rfl rfl (sw_a1 h1 (sw_a1 h3 (sw_a1 h1 sw_a0))) ?_
        obtain ⟨u4, hu4, hf⟩ := sw_bnd hf
        refine sf_callV (i := 336) (k2 := k_Field_massesBy) (d2 := d - 1) (As := [.int a1]) (st := []) (q := (rd_R M a0 2)) (ci := 0) mf_Field_massesBy mi_Field_massesBy ms_Field_massesBy (sw_m5 214 (by decide +kernel)) rfl (by decide) (by decide +kernel) rfl (Nat.le_of_ble_eq_true rfl) (by omega) h3 (o_Field_massesBy g (d := d - 1) (by omega) hu4) ?_
        show sw_F _ _ _ _ _ _ 48 [(6, .int (65 : Int32)), (5, .int (-1 : Int32)), (4, .int (rd_I M (rd_R M a0 2) 5)), (0, .ref a0), (1, .int a1), (2, .long a2)] [.int u4.1] u4.2
        refine sf_blk [(.istore 7, 0, 0, .null), (.iconst (0), 0, 0, .int (0 : Int32)), (.istore 8, 0, 0, .null)] (lv' := [(8, .int (0 : Int32)), (7, .int u4.1), (6, .int (65 : Int32)), (5, .int (-1 : Int32)), (4, .int (rd_I M (rd_R M a0 2) 5)), (0, .ref a0), (1, .int a1), (2, .long a2)]) (st' := []) (M1 := u4.2) (ob := []) (pc' := 53) (by decide +kernel) rfl rfl sw_a0 ?_
        exact sf_weak [5, 6, 7, 4, 3, 2, 1, 0] rfl (t_House_bent_53 hd _ _ _ _ _ _ _ _ _ _ hf)
      · refine sf_blk [(.iconst (-1), 0, 0, .int (-1 : Int32))] (lv' := [(0, .ref a0), (1, .int a1), (2, .long a2)]) (st' := [.int (-1 : Int32)]) (M1 := M) (ob := []) (pc' := 23) (by decide +kernel) rfl rfl sw_a0 ?_
        cases hf
        exact sf_int rfl (by decide +kernel)
theorem o_House_bent (g : sw_G) {d : Nat} (hd : 6 ≤ d) {N : Nat} {a0 : Nat} {a1 : Int32} {a2 : Int64} {M : sw_M} {r : Int32 × sw_M} (hf : f_House_bent N a0 a1 a2 M = some r) : sw_Ok g k_House_bent d [.ref a0, .int a1, .long a2] M (some (.int r.1)) r.2 := sf_met (by decide +kernel) rfl (by decide) (Nat.le_of_ble_eq_true rfl) (t_House_bent hd hf)
def f_House_count_151 (N : Nat) (M : sw_M) : Option (Int32 × sw_M) :=
  some ((-1 : Int32), M)
set_option maxRecDepth 10000 in
theorem t_House_count_151 {g : sw_G} {d n0 : Nat} (hd : 1 ≤ d) {r : Int32 × sw_M} {N : Nat} {M : sw_M} (hf : f_House_count_151 N M = some r) : sw_F g k_House_count d n0 (some (.int r.1)) r.2 151 [] [] M := by
  unfold f_House_count_151 at hf
  refine sf_blk [(.iconst (-1), 0, 0, .int (-1 : Int32))] (lv' := []) (st' := [.int (-1 : Int32)]) (M1 := M) (ob := []) (pc' := 152) (by decide +kernel) rfl rfl sw_a0 ?_
  cases hf
  exact sf_int rfl (by decide +kernel)
def f_House_count (N : Nat) (a0 : Nat) (a1 : Int32) (M : sw_M) : Option (Int32 × sw_M) :=
  if a1 = (0 : Int32) then sw_gd [sw_ok M a0 11] (sw_gd [sw_ok M (rd_R M a0 2) 0] (some ((rd_I M (rd_R M a0 2) 2), M)))
  else if a1 = (1 : Int32) then sw_gd [sw_ok M a0 11] (sw_gd [sw_ok M (rd_R M a0 6) 10] (some ((rd_I M (rd_R M a0 6) 3), M)))
  else if a1 = (2 : Int32) then sw_gd [sw_ok M a0 11] (sw_gd [sw_ok M (rd_R M a0 7) 3] (some ((rd_I M (rd_R M a0 7) 5), M)))
  else if a1 = (3 : Int32) then sw_gd [sw_ok M a0 11] (sw_gd [sw_ok M (rd_R M a0 2) 0] (some ((rd_I M (rd_R M a0 2) 5), M)))
  else if a1 = (4 : Int32) then sw_gd [sw_ok M a0 11] (sw_gd [sw_ok M (rd_R M a0 2) 0] (some ((rd_I M (rd_R M a0 2) 3), M)))
  else if a1 = (5 : Int32) then sw_gd [sw_ok M a0 11] (sw_gd [sw_ok M (rd_R M a0 2) 0] (some ((rd_I M (rd_R M a0 2) 4), M)))
  else if a1 = (6 : Int32) then sw_gd [sw_ok M a0 11] (sw_gd [sw_ok M (rd_R M a0 2) 0] (sw_gd [sw_ok M (rd_R M (rd_R M a0 2) 1) 7] (some ((rd_I M (rd_R M (rd_R M a0 2) 1) 6), M))))
  else if a1 = (7 : Int32) then sw_gd [sw_ok M a0 11] (sw_gd [sw_ok M (rd_R M a0 6) 10] (some ((rd_I M (rd_R M a0 6) 4), M)))
  else if a1 = (8 : Int32) then sw_gd [sw_ok M a0 11] (sw_gd [sw_ok M (rd_R M a0 6) 10] (some ((rd_I M (rd_R M a0 6) 5), M)))
  else if a1 = (9 : Int32) then sw_gd [sw_ok M a0 11] (sw_gd [sw_ok M (rd_R M a0 6) 10] (some ((rd_I M (rd_R M a0 6) 6), M)))
  else if a1 = (10 : Int32) then sw_gd [sw_ok M a0 11] (sw_gd [sw_ok M (rd_R M a0 8) 1] (some ((rd_I M (rd_R M a0 8) 8), M)))
  else f_House_count_151 N M
set_option maxRecDepth 10000 in
theorem t_House_count {g : sw_G} {d n0 : Nat} (hd : 1 ≤ d) {r : Int32 × sw_M} {N : Nat} {a0 : Nat} {a1 : Int32} {M : sw_M} (hf : f_House_count N a0 a1 M = some r) : sw_F g k_House_count d n0 (some (.int r.1)) r.2 0 [(0, .ref a0), (1, .int a1)] [] M := by
  unfold f_House_count at hf
  refine sf_blk [(.iload_n 1, 0, 0, .null)] (lv' := [(0, .ref a0), (1, .int a1)]) (st' := [.int a1]) (M1 := M) (ob := []) (pc' := 1) (by decide +kernel) rfl rfl sw_a0 ?_
  rcases sw_ite hf with ⟨h1, hf⟩ | ⟨h1, hf⟩
  · refine sf_tin (a := a1) (off := 59) (tgt := 60) (len := 59) (show decode (k_c k_House_count) 1 = .ok (.tableswitch (150) (0) (10) #[59, 67, 75, 83, 91, 99, 107, 118, 126, 134, 142], 59) by decide +kernel) (by rw [h1]; decide) (by rw [h1]; decide) (by rw [h1]; decide +kernel) (by decide) ?_
    obtain ⟨h2, hf⟩ := sw_gd_1 hf
    obtain ⟨h3, hf⟩ := sw_gd_1 hf
    refine sf_blk [(.aload_n 0, 0, 0, .null), (.getfield 20, 11, 2, .null), (.getfield 104, 0, 2, .null)] (lv' := [(0, .ref a0), (1, .int a1)]) (st' := [.int (rd_I M (rd_R M a0 2) 2)]) (M1 := M) (ob := [sw_ok M a0 11, sw_ok M (rd_R M a0 2) 0]) (pc' := 67) (by decide +kernel) rfl rfl (sw_a1 h2 (sw_a1 h3 sw_a0)) ?_
    cases hf
    exact sf_int rfl (by decide +kernel)
  ·
    rcases sw_ite hf with ⟨h4, hf⟩ | ⟨h4, hf⟩
    · refine sf_tin (a := a1) (off := 67) (tgt := 68) (len := 59) (show decode (k_c k_House_count) 1 = .ok (.tableswitch (150) (0) (10) #[59, 67, 75, 83, 91, 99, 107, 118, 126, 134, 142], 59) by decide +kernel) (by rw [h4]; decide) (by rw [h4]; decide) (by rw [h4]; decide +kernel) (by decide) ?_
      obtain ⟨h5, hf⟩ := sw_gd_1 hf
      obtain ⟨h6, hf⟩ := sw_gd_1 hf
      refine sf_blk [(.aload_n 0, 0, 0, .null), (.getfield 49, 11, 6, .null), (.getfield 280, 10, 3, .null)] (lv' := [(0, .ref a0), (1, .int a1)]) (st' := [.int (rd_I M (rd_R M a0 6) 3)]) (M1 := M) (ob := [sw_ok M a0 11, sw_ok M (rd_R M a0 6) 10]) (pc' := 75) (by decide +kernel) rfl rfl (sw_a1 h5 (sw_a1 h6 sw_a0)) ?_
      cases hf
      exact sf_int rfl (by decide +kernel)
    ·
      rcases sw_ite hf with ⟨h7, hf⟩ | ⟨h7, hf⟩
      · refine sf_tin (a := a1) (off := 75) (tgt := 76) (len := 59) (show decode (k_c k_House_count) 1 = .ok (.tableswitch (150) (0) (10) #[59, 67, 75, 83, 91, 99, 107, 118, 126, 134, 142], 59) by decide +kernel) (by rw [h7]; decide) (by rw [h7]; decide) (by rw [h7]; decide +kernel) (by decide) ?_
        obtain ⟨h8, hf⟩ := sw_gd_1 hf
        obtain ⟨h9, hf⟩ := sw_gd_1 hf
        refine sf_blk [(.aload_n 0, 0, 0, .null), (.getfield 56, 11, 7, .null), (.getfield 262, 3, 5, .null)] (lv' := [(0, .ref a0), (1, .int a1)]) (st' := [.int (rd_I M (rd_R M a0 7) 5)]) (M1 := M) (ob := [sw_ok M a0 11, sw_ok M (rd_R M a0 7) 3]) (pc' := 83) (by decide +kernel) rfl rfl (sw_a1 h8 (sw_a1 h9 sw_a0)) ?_
        cases hf
        exact sf_int rfl (by decide +kernel)
      ·
        rcases sw_ite hf with ⟨h10, hf⟩ | ⟨h10, hf⟩
        · refine sf_tin (a := a1) (off := 83) (tgt := 84) (len := 59) (show decode (k_c k_House_count) 1 = .ok (.tableswitch (150) (0) (10) #[59, 67, 75, 83, 91, 99, 107, 118, 126, 134, 142], 59) by decide +kernel) (by rw [h10]; decide) (by rw [h10]; decide) (by rw [h10]; decide +kernel) (by decide) ?_
          obtain ⟨h11, hf⟩ := sw_gd_1 hf
          obtain ⟨h12, hf⟩ := sw_gd_1 hf
          refine sf_blk [(.aload_n 0, 0, 0, .null), (.getfield 20, 11, 2, .null), (.getfield 116, 0, 5, .null)] (lv' := [(0, .ref a0), (1, .int a1)]) (st' := [.int (rd_I M (rd_R M a0 2) 5)]) (M1 := M) (ob := [sw_ok M a0 11, sw_ok M (rd_R M a0 2) 0]) (pc' := 91) (by decide +kernel) rfl rfl (sw_a1 h11 (sw_a1 h12 sw_a0)) ?_
          cases hf
          exact sf_int rfl (by decide +kernel)
        ·
          rcases sw_ite hf with ⟨h13, hf⟩ | ⟨h13, hf⟩
          · refine sf_tin (a := a1) (off := 91) (tgt := 92) (len := 59) (show decode (k_c k_House_count) 1 = .ok (.tableswitch (150) (0) (10) #[59, 67, 75, 83, 91, 99, 107, 118, 126, 134, 142], 59) by decide +kernel) (by rw [h13]; decide) (by rw [h13]; decide) (by rw [h13]; decide +kernel) (by decide) ?_
            obtain ⟨h14, hf⟩ := sw_gd_1 hf
            obtain ⟨h15, hf⟩ := sw_gd_1 hf
            refine sf_blk [(.aload_n 0, 0, 0, .null), (.getfield 20, 11, 2, .null), (.getfield 110, 0, 3, .null)] (lv' := [(0, .ref a0), (1, .int a1)]) (st' := [.int (rd_I M (rd_R M a0 2) 3)]) (M1 := M) (ob := [sw_ok M a0 11, sw_ok M (rd_R M a0 2) 0]) (pc' := 99) (by decide +kernel) rfl rfl (sw_a1 h14 (sw_a1 h15 sw_a0)) ?_
            cases hf
            exact sf_int rfl (by decide +kernel)
          ·
            rcases sw_ite hf with ⟨h16, hf⟩ | ⟨h16, hf⟩
            · refine sf_tin (a := a1) (off := 99) (tgt := 100) (len := 59) (show decode (k_c k_House_count) 1 = .ok (.tableswitch (150) (0) (10) #[59, 67, 75, 83, 91, 99, 107, 118, 126, 134, 142], 59) by decide +kernel) (by rw [h16]; decide) (by rw [h16]; decide) (by rw [h16]; decide +kernel) (by decide) ?_
              obtain ⟨h17, hf⟩ := sw_gd_1 hf
              obtain ⟨h18, hf⟩ := sw_gd_1 hf
              refine sf_blk [(.aload_n 0, 0, 0, .null), (.getfield 20, 11, 2, .null), (.getfield 113, 0, 4, .null)] (lv' := [(0, .ref a0), (1, .int a1)]) (st' := [.int (rd_I M (rd_R M a0 2) 4)]) (M1 := M) (ob := [sw_ok M a0 11, sw_ok M (rd_R M a0 2) 0]) (pc' := 107) (by decide +kernel) rfl rfl (sw_a1 h17 (sw_a1 h18 sw_a0)) ?_
              cases hf
              exact sf_int rfl (by decide +kernel)
            ·
              rcases sw_ite hf with ⟨h19, hf⟩ | ⟨h19, hf⟩
              · refine sf_tin (a := a1) (off := 107) (tgt := 108) (len := 59) (show decode (k_c k_House_count) 1 = .ok (.tableswitch (150) (0) (10) #[59, 67, 75, 83, 91, 99, 107, 118, 126, 134, 142], 59) by decide +kernel) (by rw [h19]; decide) (by rw [h19]; decide) (by rw [h19]; decide +kernel) (by decide) ?_
                obtain ⟨h20, hf⟩ := sw_gd_1 hf
                obtain ⟨h21, hf⟩ := sw_gd_1 hf
                obtain ⟨h22, hf⟩ := sw_gd_1 hf
                refine sf_blk [(.aload_n 0, 0, 0, .null), (.getfield 20, 11, 2, .null), (.getfield 339, 0, 1, .null), (.getfield 343, 7, 6, .null)] (lv' := [(0, .ref a0), (1, .int a1)]) (st' := [.int (rd_I M (rd_R M (rd_R M a0 2) 1) 6)]) (M1 := M) (ob := [sw_ok M a0 11, sw_ok M (rd_R M a0 2) 0, sw_ok M (rd_R M (rd_R M a0 2) 1) 7]) (pc' := 118) (by decide +kernel) rfl rfl (sw_a1 h20 (sw_a1 h21 (sw_a1 h22 sw_a0))) ?_
                cases hf
                exact sf_int rfl (by decide +kernel)
              ·
                rcases sw_ite hf with ⟨h23, hf⟩ | ⟨h23, hf⟩
                · refine sf_tin (a := a1) (off := 118) (tgt := 119) (len := 59) (show decode (k_c k_House_count) 1 = .ok (.tableswitch (150) (0) (10) #[59, 67, 75, 83, 91, 99, 107, 118, 126, 134, 142], 59) by decide +kernel) (by rw [h23]; decide) (by rw [h23]; decide) (by rw [h23]; decide +kernel) (by decide) ?_
                  obtain ⟨h24, hf⟩ := sw_gd_1 hf
                  obtain ⟨h25, hf⟩ := sw_gd_1 hf
                  refine sf_blk [(.aload_n 0, 0, 0, .null), (.getfield 49, 11, 6, .null), (.getfield 178, 10, 4, .null)] (lv' := [(0, .ref a0), (1, .int a1)]) (st' := [.int (rd_I M (rd_R M a0 6) 4)]) (M1 := M) (ob := [sw_ok M a0 11, sw_ok M (rd_R M a0 6) 10]) (pc' := 126) (by decide +kernel) rfl rfl (sw_a1 h24 (sw_a1 h25 sw_a0)) ?_
                  cases hf
                  exact sf_int rfl (by decide +kernel)
                ·
                  rcases sw_ite hf with ⟨h26, hf⟩ | ⟨h26, hf⟩
                  · refine sf_tin (a := a1) (off := 126) (tgt := 127) (len := 59) (show decode (k_c k_House_count) 1 = .ok (.tableswitch (150) (0) (10) #[59, 67, 75, 83, 91, 99, 107, 118, 126, 134, 142], 59) by decide +kernel) (by rw [h26]; decide) (by rw [h26]; decide) (by rw [h26]; decide +kernel) (by decide) ?_
                    obtain ⟨h27, hf⟩ := sw_gd_1 hf
                    obtain ⟨h28, hf⟩ := sw_gd_1 hf
                    refine sf_blk [(.aload_n 0, 0, 0, .null), (.getfield 49, 11, 6, .null), (.getfield 243, 10, 5, .null)] (lv' := [(0, .ref a0), (1, .int a1)]) (st' := [.int (rd_I M (rd_R M a0 6) 5)]) (M1 := M) (ob := [sw_ok M a0 11, sw_ok M (rd_R M a0 6) 10]) (pc' := 134) (by decide +kernel) rfl rfl (sw_a1 h27 (sw_a1 h28 sw_a0)) ?_
                    cases hf
                    exact sf_int rfl (by decide +kernel)
                  ·
                    rcases sw_ite hf with ⟨h29, hf⟩ | ⟨h29, hf⟩
                    · refine sf_tin (a := a1) (off := 134) (tgt := 135) (len := 59) (show decode (k_c k_House_count) 1 = .ok (.tableswitch (150) (0) (10) #[59, 67, 75, 83, 91, 99, 107, 118, 126, 134, 142], 59) by decide +kernel) (by rw [h29]; decide) (by rw [h29]; decide) (by rw [h29]; decide +kernel) (by decide) ?_
                      obtain ⟨h30, hf⟩ := sw_gd_1 hf
                      obtain ⟨h31, hf⟩ := sw_gd_1 hf
                      refine sf_blk [(.aload_n 0, 0, 0, .null), (.getfield 49, 11, 6, .null), (.getfield 246, 10, 6, .null)] (lv' := [(0, .ref a0), (1, .int a1)]) (st' := [.int (rd_I M (rd_R M a0 6) 6)]) (M1 := M) (ob := [sw_ok M a0 11, sw_ok M (rd_R M a0 6) 10]) (pc' := 142) (by decide +kernel) rfl rfl (sw_a1 h30 (sw_a1 h31 sw_a0)) ?_
                      cases hf
                      exact sf_int rfl (by decide +kernel)
                    ·
                      rcases sw_ite hf with ⟨h32, hf⟩ | ⟨h32, hf⟩
                      · refine sf_tin (a := a1) (off := 142) (tgt := 143) (len := 59) (show decode (k_c k_House_count) 1 = .ok (.tableswitch (150) (0) (10) #[59, 67, 75, 83, 91, 99, 107, 118, 126, 134, 142], 59) by decide +kernel) (by rw [h32]; decide) (by rw [h32]; decide) (by rw [h32]; decide +kernel) (by decide) ?_
                        obtain ⟨h33, hf⟩ := sw_gd_1 hf
                        obtain ⟨h34, hf⟩ := sw_gd_1 hf
                        refine sf_blk [(.aload_n 0, 0, 0, .null), (.getfield 65, 11, 8, .null), (.getfield 255, 1, 8, .null)] (lv' := [(0, .ref a0), (1, .int a1)]) (st' := [.int (rd_I M (rd_R M a0 8) 8)]) (M1 := M) (ob := [sw_ok M a0 11, sw_ok M (rd_R M a0 8) 1]) (pc' := 150) (by decide +kernel) rfl rfl (sw_a1 h33 (sw_a1 h34 sw_a0)) ?_
                        cases hf
                        exact sf_int rfl (by decide +kernel)
                      ·
                        have qh1 := sw_ne (n := 0) h1 (by decide)
                        have qh4 := sw_ne (n := 1) h4 (by decide)
                        have qh7 := sw_ne (n := 2) h7 (by decide)
                        have qh10 := sw_ne (n := 3) h10 (by decide)
                        have qh13 := sw_ne (n := 4) h13 (by decide)
                        have qh16 := sw_ne (n := 5) h16 (by decide)
                        have qh19 := sw_ne (n := 6) h19 (by decide)
                        have qh23 := sw_ne (n := 7) h23 (by decide)
                        have qh26 := sw_ne (n := 8) h26 (by decide)
                        have qh29 := sw_ne (n := 9) h29 (by decide)
                        have qh32 := sw_ne (n := 10) h32 (by decide)
                        refine sf_tout (a := a1) (tgt := 151) (len := 59) (show decode (k_c k_House_count) 1 = .ok (.tableswitch (150) (0) (10) #[59, 67, 75, 83, 91, 99, 107, 118, 126, 134, 142], 59) by decide +kernel) (by omega) (by decide) ?_
                        exact sf_weak [] rfl (t_House_count_151 hd hf)
theorem o_House_count (g : sw_G) {d : Nat} (hd : 1 ≤ d) {N : Nat} {a0 : Nat} {a1 : Int32} {M : sw_M} {r : Int32 × sw_M} (hf : f_House_count N a0 a1 M = some r) : sw_Ok g k_House_count d [.ref a0, .int a1] M (some (.int r.1)) r.2 := sf_met (by decide +kernel) rfl (by decide) (Nat.le_of_ble_eq_true rfl) (t_House_count hd hf)
