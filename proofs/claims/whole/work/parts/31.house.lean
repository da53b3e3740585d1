/-! printed by program: functions of methods, and that the bytes compute them -/
def f_Reader_period (N : Nat) (a0 : Nat) (a1 : Nat) (M : sw_M) : Option (Int32 × sw_M) :=
  sw_gd [sw_ok M a0 6] ((f_Reader_number N a0 (1 : Int32) (99 : Int32) M).bind (fun u2 => if u2.1 = 0 then some ((0 : Int32), u2.2)
  else sw_gd [sw_ok u2.2 a0 6] (sw_gd [sw_ok u2.2 a1 5] (some ((1 : Int32), (wr_I u2.2 a1 7 (rd_I u2.2 a0 8)))))))
set_option maxRecDepth 10000 in
theorem t_Reader_period {g : sw_G} {d n0 : Nat} (hd : 9 ≤ d) {r : Int32 × sw_M} {N : Nat} {a0 : Nat} {a1 : Nat} {M : sw_M} (hf : f_Reader_period N a0 a1 M = some r) : sw_F g k_Reader_period d n0 (some (.int r.1)) r.2 0 [(0, .ref a0), (1, .ref a1)] [] M := by
  unfold f_Reader_period at hf
  obtain ⟨h1, hf⟩ := sw_gd_1 hf
  refine sf_blk [(.aload_n 0, 0, 0, .null), (.iconst (1), 0, 0, .int (1 : Int32)), (.bipush (99), 0, 0, .int (99 : Int32))] (lv' := [(0, .ref a0), (1, .ref a1)]) (st' := [.int (99 : Int32), .int (1 : Int32), .ref a0]) (M1 := M) (ob := []) (pc' := 4) (by decide +kernel) rfl rfl sw_a0 ?_
  obtain ⟨u2, hu2, hf⟩ := sw_bnd hf
  refine sf_callV (i := 80) (k2 := k_Reader_number) (d2 := d - 1) (As := [.int (1 : Int32), .int (99 : Int32)]) (st := []) (q := a0) (ci := 6) mf_Reader_number mi_Reader_number ms_Reader_number (sw_m3 114 (by decide +kernel)) rfl (by decide) (by decide +kernel) rfl (Nat.le_of_ble_eq_true rfl) (by omega) h1 (o_Reader_number g (d := d - 1) (by omega) hu2) ?_
  show sw_F _ _ _ _ _ _ 7 [(0, .ref a0), (1, .ref a1)] [.int u2.1] u2.2
  refine sf_z_ne (off := 5) (tgt := 12) (by decide +kernel) (by decide) hf (fun hc hf => ?_) (fun hc hf => ?_)
  · obtain ⟨h3, hf⟩ := sw_gd_1 hf
    obtain ⟨h4, hf⟩ := sw_gd_1 hf
    refine sf_blk [(.aload_n 1, 0, 0, .null), (.aload_n 0, 0, 0, .null), (.getfield 84, 6, 8, .null), (.putfield 123, 5, 7, .null), (.iconst (1), 0, 0, .int (1 : Int32))] (lv' := [(0, .ref a0), (1, .ref a1)]) (st' := [.int (1 : Int32)]) (M1 := (wr_I u2.2 a1 7 (rd_I u2.2 a0 8))) (ob := [sw_ok u2.2 a0 6, sw_ok u2.2 a1 5]) (pc' := 21) (by decide +kernel) rfl rfl (sw_a1 h3 (sw_a1 h4 sw_a0)) ?_
    cases hf
    exact sf_bool rfl rfl (by decide +kernel)
  · refine sf_blk [(.iconst (0), 0, 0, .int (0 : Int32))] (lv' := [(0, .ref a0), (1, .ref a1)]) (st' := [.int (0 : Int32)]) (M1 := u2.2) (ob := []) (pc' := 11) (by decide +kernel) rfl rfl sw_a0 ?_
    cases hf
    exact sf_bool rfl rfl (by decide +kernel)
theorem o_Reader_period (g : sw_G) {d : Nat} (hd : 9 ≤ d) {N : Nat} {a0 : Nat} {a1 : Nat} {M : sw_M} {r : Int32 × sw_M} (hf : f_Reader_period N a0 a1 M = some r) : sw_Ok g k_Reader_period d [.ref a0, .ref a1] M (some (.int r.1)) r.2 := sf_met (by decide +kernel) rfl (by decide) (Nat.le_of_ble_eq_true rfl) (t_Reader_period hd hf)
def f_Reader_part_138 (N : Nat) (M : sw_M) : Option (Int32 × sw_M) :=
  some ((1 : Int32), M)
set_option maxRecDepth 10000 in
theorem t_Reader_part_138 {g : sw_G} {d n0 : Nat} (hd : 11 ≤ d) {r : Int32 × sw_M} {N : Nat} {M : sw_M} (hf : f_Reader_part_138 N M = some r) : sw_F g k_Reader_part d n0 (some (.int r.1)) r.2 138 [] [] M := by
  unfold f_Reader_part_138 at hf
  refine sf_blk [(.iconst (1), 0, 0, .int (1 : Int32))] (lv' := []) (st' := [.int (1 : Int32)]) (M1 := M) (ob := []) (pc' := 139) (by decide +kernel) rfl rfl sw_a0 ?_
  refine sf_goto (off := 4) (tgt := 143) (by decide +kernel) (by decide) ?_
  cases hf
  exact sf_bool rfl rfl (by decide +kernel)
def f_Reader_part_103 (N : Nat) (a0 : Nat) (a1 : Int32) (a2 : Nat) (M : sw_M) : Option (Int32 × sw_M) :=
  sw_gd [sw_ok M a0 6] ((f_Reader_number N a0 (1 : Int32) (9999 : Int32) M).bind (fun u2 => if u2.1 = 0 then some ((0 : Int32), u2.2)
  else sw_gd [sw_ok u2.2 a0 6] (sw_gd [sw_ok u2.2 a2 5] (if a1 = (23 : Int32) then (f_Reader_period N a0 a2 (wr_I u2.2 a2 6 (rd_I u2.2 a0 8))).bind (fun u5 => if u5.1 = 0 then some ((0 : Int32), u5.2)
  else f_Reader_part_138 N u5.2)
  else f_Reader_part_138 N (wr_I u2.2 a2 6 (rd_I u2.2 a0 8))))))
set_option maxRecDepth 10000 in
theorem t_Reader_part_103 {g : sw_G} {d n0 : Nat} (hd : 11 ≤ d) {r : Int32 × sw_M} {N : Nat} {a0 : Nat} {a1 : Int32} {a2 : Nat} {M : sw_M} (hf : f_Reader_part_103 N a0 a1 a2 M = some r) : sw_F g k_Reader_part d n0 (some (.int r.1)) r.2 103 [(0, .ref a0), (1, .int a1), (2, .ref a2)] [] M := by
  unfold f_Reader_part_103 at hf
  obtain ⟨h1, hf⟩ := sw_gd_1 hf
  refine sf_blk [(.aload_n 0, 0, 0, .null), (.iconst (1), 0, 0, .int (1 : Int32)), (.sipush (9999), 0, 0, .int (9999 : Int32))] (lv' := [(0, .ref a0), (1, .int a1), (2, .ref a2)]) (st' := [.int (9999 : Int32), .int (1 : Int32), .ref a0]) (M1 := M) (ob := []) (pc' := 108) (by decide +kernel) rfl rfl sw_a0 ?_
  obtain ⟨u2, hu2, hf⟩ := sw_bnd hf
  refine sf_callV (i := 80) (k2 := k_Reader_number) (d2 := d - 1) (As := [.int (1 : Int32), .int (9999 : Int32)]) (st := []) (q := a0) (ci := 6) mf_Reader_number mi_Reader_number ms_Reader_number (sw_m3 114 (by decide +kernel)) rfl (by decide) (by decide +kernel) rfl (Nat.le_of_ble_eq_true rfl) (by omega) h1 (o_Reader_number g (d := d - 1) (by omega) hu2) ?_
  show sw_F _ _ _ _ _ _ 111 [(0, .ref a0), (1, .int a1), (2, .ref a2)] [.int u2.1] u2.2
  refine sf_z_ne (off := 5) (tgt := 116) (by decide +kernel) (by decide) hf (fun hc hf => ?_) (fun hc hf => ?_)
  · obtain ⟨h3, hf⟩ := sw_gd_1 hf
    obtain ⟨h4, hf⟩ := sw_gd_1 hf
    refine sf_blk [(.aload_n 2, 0, 0, .null), (.aload_n 0, 0, 0, .null), (.getfield 84, 6, 8, .null), (.putfield 95, 5, 6, .null), (.iload_n 1, 0, 0, .null), (.bipush (23), 0, 0, .int (23 : Int32))] (lv' := [(0, .ref a0), (1, .int a1), (2, .ref a2)]) (st' := [.int (23 : Int32), .int a1]) (M1 := (wr_I u2.2 a2 6 (rd_I u2.2 a0 8))) (ob := [sw_ok u2.2 a0 6, sw_ok u2.2 a2 5]) (pc' := 127) (by decide +kernel) rfl rfl (sw_a1 h3 (sw_a1 h4 sw_a0)) ?_
    refine sf_j_ne (off := 11) (tgt := 138) (by decide +kernel) (by decide) hf (fun hc hf => ?_) (fun hc hf => ?_)
    · exact sf_weak [] rfl (t_Reader_part_138 hd hf)
    · refine sf_blk [(.aload_n 0, 0, 0, .null), (.aload_n 2, 0, 0, .null)] (lv' := [(0, .ref a0), (1, .int a1), (2, .ref a2)]) (st' := [.ref a2, .ref a0]) (M1 := (wr_I u2.2 a2 6 (rd_I u2.2 a0 8))) (ob := []) (pc' := 132) (by decide +kernel) rfl rfl sw_a0 ?_
      obtain ⟨u5, hu5, hf⟩ := sw_bnd hf
      refine sf_callV (i := 98) (k2 := k_Reader_period) (d2 := d - 1) (As := [.ref a2]) (st := []) (q := a0) (ci := 6) mf_Reader_period mi_Reader_period ms_Reader_period (sw_m3 131 (by decide +kernel)) rfl (by decide) (by decide +kernel) rfl (Nat.le_of_ble_eq_true rfl) (by omega) h3 (o_Reader_period g (d := d - 1) (by omega) hu5) ?_
      show sw_F _ _ _ _ _ _ 135 [(0, .ref a0), (1, .int a1), (2, .ref a2)] [.int u5.1] u5.2
      refine sf_z_eq (off := 7) (tgt := 142) (by decide +kernel) (by decide) hf (fun hc hf => ?_) (fun hc hf => ?_)
      · refine sf_blk [(.iconst (0), 0, 0, .int (0 : Int32))] (lv' := [(0, .ref a0), (1, .int a1), (2, .ref a2)]) (st' := [.int (0 : Int32)]) (M1 := u5.2) (ob := []) (pc' := 143) (by decide +kernel) rfl rfl sw_a0 ?_
        cases hf
        exact sf_bool rfl rfl (by decide +kernel)
      · exact sf_weak [] rfl (t_Reader_part_138 hd hf)
  · refine sf_blk [(.iconst (0), 0, 0, .int (0 : Int32))] (lv' := [(0, .ref a0), (1, .int a1), (2, .ref a2)]) (st' := [.int (0 : Int32)]) (M1 := u2.2) (ob := []) (pc' := 115) (by decide +kernel) rfl rfl sw_a0 ?_
    cases hf
    exact sf_bool rfl rfl (by decide +kernel)
def f_Reader_part_59 (N : Nat) (a0 : Nat) (a1 : Int32) (a2 : Nat) (M : sw_M) : Option (Int32 × sw_M) :=
  sw_gd [sw_ok M a0 6] ((f_Reader_number N a0 (0 : Int32) (99999 : Int32) M).bind (fun u2 => if u2.1 = 0 then some ((0 : Int32), u2.2)
  else sw_gd [sw_ok u2.2 a0 6] (sw_gd [sw_ok u2.2 a2 5] (if a1 = (22 : Int32) then if (rd_I (wr_I u2.2 a2 5 (rd_I u2.2 a0 8)) a0 6) = (4 : Int32) then (f_Reader_span N a0 a2 (wr_I u2.2 a2 5 (rd_I u2.2 a0 8))).bind (fun u5 => if u5.1 = 0 then some ((0 : Int32), u5.2)
  else f_Reader_part_103 N a0 a1 a2 u5.2)
  else f_Reader_part_103 N a0 a1 a2 (wr_I u2.2 a2 5 (rd_I u2.2 a0 8))
  else f_Reader_part_103 N a0 a1 a2 (wr_I u2.2 a2 5 (rd_I u2.2 a0 8))))))
set_option maxRecDepth 10000 in
theorem t_Reader_part_59 {g : sw_G} {d n0 : Nat} (hd : 11 ≤ d) {r : Int32 × sw_M} {N : Nat} {a0 : Nat} {a1 : Int32} {a2 : Nat} {M : sw_M} (hf : f_Reader_part_59 N a0 a1 a2 M = some r) : sw_F g k_Reader_part d n0 (some (.int r.1)) r.2 59 [(0, .ref a0), (1, .int a1), (2, .ref a2)] [] M := by
  unfold f_Reader_part_59 at hf
  obtain ⟨h1, hf⟩ := sw_gd_1 hf
  refine sf_blk [(.aload_n 0, 0, 0, .null), (.iconst (0), 0, 0, .int (0 : Int32)), (.ldc 79, 0, 0, .int (99999 : Int32))] (lv' := [(0, .ref a0), (1, .int a1), (2, .ref a2)]) (st' := [.int (99999 : Int32), .int (0 : Int32), .ref a0]) (M1 := M) (ob := []) (pc' := 63) (by decide +kernel) rfl rfl sw_a0 ?_
  obtain ⟨u2, hu2, hf⟩ := sw_bnd hf
  refine sf_callV (i := 80) (k2 := k_Reader_number) (d2 := d - 1) (As := [.int (0 : Int32), .int (99999 : Int32)]) (st := []) (q := a0) (ci := 6) mf_Reader_number mi_Reader_number ms_Reader_number (sw_m3 114 (by decide +kernel)) rfl (by decide) (by decide +kernel) rfl (Nat.le_of_ble_eq_true rfl) (by omega) h1 (o_Reader_number g (d := d - 1) (by omega) hu2) ?_
  show sw_F _ _ _ _ _ _ 66 [(0, .ref a0), (1, .int a1), (2, .ref a2)] [.int u2.1] u2.2
  refine sf_z_ne (off := 5) (tgt := 71) (by decide +kernel) (by decide) hf (fun hc hf => ?_) (fun hc hf => ?_)
  · obtain ⟨h3, hf⟩ := sw_gd_1 hf
    obtain ⟨h4, hf⟩ := sw_gd_1 hf
    refine sf_blk [(.aload_n 2, 0, 0, .null), (.aload_n 0, 0, 0, .null), (.getfield 84, 6, 8, .null), (.putfield 87, 5, 5, .null), (.iload_n 1, 0, 0, .null), (.bipush (22), 0, 0, .int (22 : Int32))] (lv' := [(0, .ref a0), (1, .int a1), (2, .ref a2)]) (st' := [.int (22 : Int32), .int a1]) (M1 := (wr_I u2.2 a2 5 (rd_I u2.2 a0 8))) (ob := [sw_ok u2.2 a0 6, sw_ok u2.2 a2 5]) (pc' := 82) (by decide +kernel) rfl rfl (sw_a1 h3 (sw_a1 h4 sw_a0)) ?_
    refine sf_j_ne (off := 21) (tgt := 103) (by decide +kernel) (by decide) hf (fun hc hf => ?_) (fun hc hf => ?_)
    · exact sf_weak [0, 1, 2] rfl (t_Reader_part_103 hd hf)
    · refine sf_blk [(.aload_n 0, 0, 0, .null), (.getfield 51, 6, 6, .null), (.iconst (4), 0, 0, .int (4 : Int32))] (lv' := [(0, .ref a0), (1, .int a1), (2, .ref a2)]) (st' := [.int (4 : Int32), .int (rd_I (wr_I u2.2 a2 5 (rd_I u2.2 a0 8)) a0 6)]) (M1 := (wr_I u2.2 a2 5 (rd_I u2.2 a0 8))) (ob := [sw_ok (wr_I u2.2 a2 5 (rd_I u2.2 a0 8)) a0 6]) (pc' := 90) (by decide +kernel) rfl rfl (sw_a1 h3 sw_a0) ?_
      refine sf_j_ne (off := 13) (tgt := 103) (by decide +kernel) (by decide) hf (fun hc hf => ?_) (fun hc hf => ?_)
      · exact sf_weak [0, 1, 2] rfl (t_Reader_part_103 hd hf)
      · refine sf_blk [(.aload_n 0, 0, 0, .null), (.aload_n 2, 0, 0, .null)] (lv' := [(0, .ref a0), (1, .int a1), (2, .ref a2)]) (st' := [.ref a2, .ref a0]) (M1 := (wr_I u2.2 a2 5 (rd_I u2.2 a0 8))) (ob := []) (pc' := 95) (by decide +kernel) rfl rfl sw_a0 ?_
        obtain ⟨u5, hu5, hf⟩ := sw_bnd hf
        refine sf_callV (i := 92) (k2 := k_Reader_span) (d2 := d - 1) (As := [.ref a2]) (st := []) (q := a0) (ci := 6) mf_Reader_span mi_Reader_span ms_Reader_span (sw_m3 123 (by decide +kernel)) rfl (by decide) (by decide +kernel) rfl (Nat.le_of_ble_eq_true rfl) (by omega) h3 (o_Reader_span g (d := d - 1) (by omega) hu5) ?_
        show sw_F _ _ _ _ _ _ 98 [(0, .ref a0), (1, .int a1), (2, .ref a2)] [.int u5.1] u5.2
        refine sf_z_ne (off := 5) (tgt := 103) (by decide +kernel) (by decide) hf (fun hc hf => ?_) (fun hc hf => ?_)
        · exact sf_weak [0, 1, 2] rfl (t_Reader_part_103 hd hf)
        · refine sf_blk [(.iconst (0), 0, 0, .int (0 : Int32))] (lv' := [(0, .ref a0), (1, .int a1), (2, .ref a2)]) (st' := [.int (0 : Int32)]) (M1 := u5.2) (ob := []) (pc' := 102) (by decide +kernel) rfl rfl sw_a0 ?_
          cases hf
          exact sf_bool rfl rfl (by decide +kernel)
  · refine sf_blk [(.iconst (0), 0, 0, .int (0 : Int32))] (lv' := [(0, .ref a0), (1, .int a1), (2, .ref a2)]) (st' := [.int (0 : Int32)]) (M1 := u2.2) (ob := []) (pc' := 70) (by decide +kernel) rfl rfl sw_a0 ?_
    cases hf
    exact sf_bool rfl rfl (by decide +kernel)
def f_Reader_part_43 (N : Nat) (a0 : Nat) (a1 : Int32) (a2 : Nat) (M : sw_M) : Option (Int32 × sw_M) :=
  if a1 = (24 : Int32) then sw_gd [sw_ok M a0 6] ((f_Reader_speed N a0 a2 M).bind (fun u2 => if u2.1 = 0 then some ((0 : Int32), u2.2)
  else f_Reader_part_59 N a0 a1 a2 u2.2))
  else f_Reader_part_59 N a0 a1 a2 M
set_option maxRecDepth 10000 in
theorem t_Reader_part_43 {g : sw_G} {d n0 : Nat} (hd : 11 ≤ d) {r : Int32 × sw_M} {N : Nat} {a0 : Nat} {a1 : Int32} {a2 : Nat} {M : sw_M} (hf : f_Reader_part_43 N a0 a1 a2 M = some r) : sw_F g k_Reader_part d n0 (some (.int r.1)) r.2 43 [(0, .ref a0), (1, .int a1), (2, .ref a2)] [] M := by
  unfold f_Reader_part_43 at hf
  refine sf_blk [(.iload_n 1, 0, 0, .null), (.bipush (24), 0, 0, .int (24 : Int32))] (lv' := [(0, .ref a0), (1, .int a1), (2, .ref a2)]) (st' := [.int (24 : Int32), .int a1]) (M1 := M) (ob := []) (pc' := 46) (by decide +kernel) rfl rfl sw_a0 ?_
  refine sf_j_ne (off := 13) (tgt := 59) (by decide +kernel) (by decide) hf (fun hc hf => ?_) (fun hc hf => ?_)
  · exact sf_weak [0, 1, 2] rfl (t_Reader_part_59 hd hf)
  · obtain ⟨h1, hf⟩ := sw_gd_1 hf
    refine sf_blk [(.aload_n 0, 0, 0, .null), (.aload_n 2, 0, 0, .null)] (lv' := [(0, .ref a0), (1, .int a1), (2, .ref a2)]) (st' := [.ref a2, .ref a0]) (M1 := M) (ob := []) (pc' := 51) (by decide +kernel) rfl rfl sw_a0 ?_
    obtain ⟨u2, hu2, hf⟩ := sw_bnd hf
    refine sf_callV (i := 76) (k2 := k_Reader_speed) (d2 := d - 1) (As := [.ref a2]) (st := []) (q := a0) (ci := 6) mf_Reader_speed mi_Reader_speed ms_Reader_speed (sw_m3 118 (by decide +kernel)) rfl (by decide) (by decide +kernel) rfl (Nat.le_of_ble_eq_true rfl) (by omega) h1 (o_Reader_speed g (d := d - 1) (by omega) hu2) ?_
    show sw_F _ _ _ _ _ _ 54 [(0, .ref a0), (1, .int a1), (2, .ref a2)] [.int u2.1] u2.2
    refine sf_z_ne (off := 5) (tgt := 59) (by decide +kernel) (by decide) hf (fun hc hf => ?_) (fun hc hf => ?_)
    · exact sf_weak [0, 1, 2] rfl (t_Reader_part_59 hd hf)
    · refine sf_blk [(.iconst (0), 0, 0, .int (0 : Int32))] (lv' := [(0, .ref a0), (1, .int a1), (2, .ref a2)]) (st' := [.int (0 : Int32)]) (M1 := u2.2) (ob := []) (pc' := 58) (by decide +kernel) rfl rfl sw_a0 ?_
      cases hf
      exact sf_bool rfl rfl (by decide +kernel)
def f_Reader_part_35 (N : Nat) (a0 : Nat) (a1 : Int32) (a2 : Nat) (M : sw_M) : Option (Int32 × sw_M) :=
  sw_gd [sw_ok M a0 6] ((f_Reader_spot N a0 a2 M).bind (fun u2 => if u2.1 = 0 then some ((0 : Int32), u2.2)
  else f_Reader_part_43 N a0 a1 a2 u2.2))
set_option maxRecDepth 10000 in
theorem t_Reader_part_35 {g : sw_G} {d n0 : Nat} (hd : 11 ≤ d) {r : Int32 × sw_M} {N : Nat} {a0 : Nat} {a1 : Int32} {a2 : Nat} {M : sw_M} (hf : f_Reader_part_35 N a0 a1 a2 M = some r) : sw_F g k_Reader_part d n0 (some (.int r.1)) r.2 35 [(0, .ref a0), (1, .int a1), (2, .ref a2)] [] M := by
  unfold f_Reader_part_35 at hf
  obtain ⟨h1, hf⟩ := sw_gd_1 hf
  refine sf_blk [(.aload_n 0, 0, 0, .null), (.aload_n 2, 0, 0, .null)] (lv' := [(0, .ref a0), (1, .int a1), (2, .ref a2)]) (st' := [.ref a2, .ref a0]) (M1 := M) (ob := []) (pc' := 37) (by decide +kernel) rfl rfl sw_a0 ?_
  obtain ⟨u2, hu2, hf⟩ := sw_bnd hf
  refine sf_callV (i := 72) (k2 := k_Reader_spot) (d2 := d - 1) (As := [.ref a2]) (st := []) (q := a0) (ci := 6) mf_Reader_spot mi_Reader_spot ms_Reader_spot (sw_m3 106 (by decide +kernel)) rfl (by decide) (by decide +kernel) rfl (Nat.le_of_ble_eq_true rfl) (by omega) h1 (o_Reader_spot g (d := d - 1) (by omega) hu2) ?_
  show sw_F _ _ _ _ _ _ 40 [(0, .ref a0), (1, .int a1), (2, .ref a2)] [.int u2.1] u2.2
  refine sf_z_eq (off := 17) (tgt := 57) (by decide +kernel) (by decide) hf (fun hc hf => ?_) (fun hc hf => ?_)
  · refine sf_blk [(.iconst (0), 0, 0, .int (0 : Int32))] (lv' := [(0, .ref a0), (1, .int a1), (2, .ref a2)]) (st' := [.int (0 : Int32)]) (M1 := u2.2) (ob := []) (pc' := 58) (by decide +kernel) rfl rfl sw_a0 ?_
    cases hf
    exact sf_bool rfl rfl (by decide +kernel)
  · exact sf_weak [0, 1, 2] rfl (t_Reader_part_43 hd hf)
def f_Reader_part (N : Nat) (a0 : Nat) (a1 : Int32) (M : sw_M) : Option (Int32 × sw_M) :=
  sw_gd [sw_ok M a0 6] (sw_gd [sw_ok M (rd_R M a0 1) 0] ((f_Field_addPart N (rd_R M a0 1) a1 M).bind (fun u3 => if u3.1 = 0 then sw_gd [sw_ok u3.2 a0 6] ((f_Reader_wrong N a0 (2 : Int32) u3.2).bind (fun u7 => sw_gd [sw_bz u7.1] (some (u7.1, u7.2))))
  else sw_gd [sw_ok u3.2 a0 6] ((f_Reader_advance N a0 u3.2).bind (fun u5 => if a1 = (20 : Int32) then f_Reader_part_35 N a0 a1 u3.1 u5
  else if a1 = (24 : Int32) then f_Reader_part_35 N a0 a1 u3.1 u5
  else f_Reader_part_43 N a0 a1 u3.1 u5)))))
set_option maxRecDepth 10000 in
theorem t_Reader_part {g : sw_G} {d n0 : Nat} (hd : 11 ≤ d) {r : Int32 × sw_M} {N : Nat} {a0 : Nat} {a1 : Int32} {M : sw_M} (hf : f_Reader_part N a0 a1 M = some r) : sw_F g k_Reader_part d n0 (some (.int r.1)) r.2 0 [(0, .ref a0), (1, .int a1)] [] M := by
  unfold f_Reader_part at hf
  obtain ⟨h1, hf⟩ := sw_gd_1 hf
  obtain ⟨h2, hf⟩ := sw_gd_1 hf
  refine sf_blk [(.aload_n 0, 0, 0, .null), (.getfield 12, 6, 1, .null), (.iload_n 1, 0, 0, .null)] (lv' := [(0, .ref a0), (1, .int a1)]) (st' := [.int a1, .ref (rd_R M a0 1)]) (M1 := M) (ob := [sw_ok M a0 6]) (pc' := 5) (by decide +kernel) rfl rfl (sw_a1 h1 sw_a0) ?_
  obtain ⟨u3, hu3, hf⟩ := sw_bnd hf
  refine sf_callV (i := 68) (k2 := k_Field_addPart) (d2 := d - 1) (As := [.int a1]) (st := []) (q := (rd_R M a0 1)) (ci := 0) mf_Field_addPart mi_Field_addPart ms_Field_addPart (sw_m3 94 (by decide +kernel)) rfl (by decide) (by decide +kernel) rfl (Nat.le_of_ble_eq_true rfl) (by omega) h2 (o_Field_addPart g (d := d - 1) (by omega) hu3) ?_
  show sw_F _ _ _ _ _ _ 8 [(0, .ref a0), (1, .int a1)] [.ref u3.1] u3.2
  refine sf_blk [(.astore_n 2, 0, 0, .null), (.aload_n 2, 0, 0, .null)] (lv' := [(2, .ref u3.1), (0, .ref a0), (1, .int a1)]) (st' := [.ref u3.1]) (M1 := u3.2) (ob := []) (pc' := 10) (by decide +kernel) rfl rfl sw_a0 ?_
  refine sf_n_nonnull (off := 9) (tgt := 19) (by decide +kernel) (by decide) hf (fun hc hf => ?_) (fun hc hf => ?_)
  · obtain ⟨h4, hf⟩ := sw_gd_1 hf
    refine sf_blk [(.aload_n 0, 0, 0, .null)] (lv' := [(2, .ref u3.1), (0, .ref a0), (1, .int a1)]) (st' := [.ref a0]) (M1 := u3.2) (ob := []) (pc' := 20) (by decide +kernel) rfl rfl sw_a0 ?_
    obtain ⟨u5, hu5, hf⟩ := sw_bnd hf
    refine sf_callV (i := 48) (k2 := k_Reader_advance) (d2 := d - 1) (As := []) (st := []) (q := a0) (ci := 6) mf_Reader_advance mi_Reader_advance ms_Reader_advance (sw_m3 24 (by decide +kernel)) rfl (by decide) (by decide +kernel) rfl (Nat.le_of_ble_eq_true rfl) (by omega) h4 (o_Reader_advance g (d := d - 1) (by omega) hu5) ?_
    show sw_F _ _ _ _ _ _ 23 [(2, .ref u3.1), (0, .ref a0), (1, .int a1)] [] u5
    refine sf_blk [(.iload_n 1, 0, 0, .null), (.bipush (20), 0, 0, .int (20 : Int32))] (lv' := [(2, .ref u3.1), (0, .ref a0), (1, .int a1)]) (st' := [.int (20 : Int32), .int a1]) (M1 := u5) (ob := []) (pc' := 26) (by decide +kernel) rfl rfl sw_a0 ?_
    refine sf_j_eq (off := 9) (tgt := 35) (by decide +kernel) (by decide) hf (fun hc hf => ?_) (fun hc hf => ?_)
    · exact sf_weak [1, 2, 0] rfl (t_Reader_part_35 hd hf)
    · refine sf_blk [(.iload_n 1, 0, 0, .null), (.bipush (24), 0, 0, .int (24 : Int32))] (lv' := [(2, .ref u3.1), (0, .ref a0), (1, .int a1)]) (st' := [.int (24 : Int32), .int a1]) (M1 := u5) (ob := []) (pc' := 32) (by decide +kernel) rfl rfl sw_a0 ?_
      refine sf_j_ne (off := 11) (tgt := 43) (by decide +kernel) (by decide) hf (fun hc hf => ?_) (fun hc hf => ?_)
      · exact sf_weak [1, 2, 0] rfl (t_Reader_part_43 hd hf)
      · exact sf_weak [1, 2, 0] rfl (t_Reader_part_35 hd hf)
  · obtain ⟨h6, hf⟩ := sw_gd_1 hf
    refine sf_blk [(.aload_n 0, 0, 0, .null), (.iconst (2), 0, 0, .int (2 : Int32))] (lv' := [(2, .ref u3.1), (0, .ref a0), (1, .int a1)]) (st' := [.int (2 : Int32), .ref a0]) (M1 := u3.2) (ob := []) (pc' := 15) (by decide +kernel) rfl rfl sw_a0 ?_
    obtain ⟨u7, hu7, hf⟩ := sw_bnd hf
    refine sf_callV (i := 62) (k2 := k_Reader_wrong) (d2 := d - 1) (As := [.int (2 : Int32)]) (st := []) (q := a0) (ci := 6) mf_Reader_wrong mi_Reader_wrong ms_Reader_wrong (sw_m3 102 (by decide +kernel)) rfl (by decide) (by decide +kernel) rfl (Nat.le_of_ble_eq_true rfl) (by omega) h6 (o_Reader_wrong g (d := d - 1) (by omega) hu7) ?_
    show sw_F _ _ _ _ _ _ 18 [(2, .ref u3.1), (0, .ref a0), (1, .int a1)] [.int u7.1] u7.2
    obtain ⟨h8, hf⟩ := sw_gd_1 hf
    cases hf
    exact sf_bool rfl h8 (by decide +kernel)
theorem o_Reader_part (g : sw_G) {d : Nat} (hd : 11 ≤ d) {N : Nat} {a0 : Nat} {a1 : Int32} {M : sw_M} {r : Int32 × sw_M} (hf : f_Reader_part N a0 a1 M = some r) : sw_Ok g k_Reader_part d [.ref a0, .int a1] M (some (.int r.1)) r.2 := sf_met (by decide +kernel) rfl (by decide) (Nat.le_of_ble_eq_true rfl) (t_Reader_part hd hf)
def f_Reader_knot (N : Nat) (a0 : Nat) (M : sw_M) : Option (Int32 × sw_M) :=
  sw_gd [sw_ok M a0 6] (sw_gd [sw_ok M (rd_R M a0 1) 0] (sw_gd [sw_ok M (rd_R M (rd_R M a0 1) 1) 7] (if (rd_I M (rd_R M (rd_R M a0 1) 1) 6) < (48 : Int32) then (f_Reader_advance N a0 (wr_I M (rd_R M (rd_R M a0 1) 1) 6 ((rd_I M (rd_R M (rd_R M a0 1) 1) 6) + (1 : Int32)))).bind (fun u4 => some ((1 : Int32), u4))
  else (f_Reader_wrong N a0 (2 : Int32) M).bind (fun u5 => sw_gd [sw_bz u5.1] (some (u5.1, u5.2))))))
set_option maxRecDepth 10000 in
theorem t_Reader_knot {g : sw_G} {d n0 : Nat} (hd : 8 ≤ d) {r : Int32 × sw_M} {N : Nat} {a0 : Nat} {M : sw_M} (hf : f_Reader_knot N a0 M = some r) : sw_F g k_Reader_knot d n0 (some (.int r.1)) r.2 0 [(0, .ref a0)] [] M := by
  unfold f_Reader_knot at hf
  obtain ⟨h1, hf⟩ := sw_gd_1 hf
  obtain ⟨h2, hf⟩ := sw_gd_1 hf
  obtain ⟨h3, hf⟩ := sw_gd_1 hf
  refine sf_blk [(.aload_n 0, 0, 0, .null), (.getfield 12, 6, 1, .null), (.getfield 128, 0, 1, .null), (.getfield 164, 7, 6, .null), (.bipush (48), 0, 0, .int (48 : Int32))] (lv' := [(0, .ref a0)]) (st' := [.int (48 : Int32), .int (rd_I M (rd_R M (rd_R M a0 1) 1) 6)]) (M1 := M) (ob := [sw_ok M a0 6, sw_ok M (rd_R M a0 1) 0, sw_ok M (rd_R M (rd_R M a0 1) 1) 7]) (pc' := 12) (by decide +kernel) rfl rfl (sw_a1 h1 (sw_a1 h2 (sw_a1 h3 sw_a0))) ?_
  refine sf_j_lt (off := 9) (tgt := 21) (by decide +kernel) (by decide) hf (fun hc hf => ?_) (fun hc hf => ?_)
  · refine sf_blk [(.aload_n 0, 0, 0, .null), (.getfield 12, 6, 1, .null), (.getfield 128, 0, 1, .null), (.dup, 0, 0, .null), (.getfield 164, 7, 6, .null), (.iconst (1), 0, 0, .int (1 : Int32)), (.iadd, 0, 0, .null), (.putfield 164, 7, 6, .null), (.aload_n 0, 0, 0, .null)] (lv' := [(0, .ref a0)]) (st' := [.ref a0]) (M1 := (wr_I M (rd_R M (rd_R M a0 1) 1) 6 ((rd_I M (rd_R M (rd_R M a0 1) 1) 6) + (1 : Int32)))) (ob := [sw_ok M a0 6, sw_ok M (rd_R M a0 1) 0, sw_ok M (rd_R M (rd_R M a0 1) 1) 7, sw_ok M (rd_R M (rd_R M a0 1) 1) 7]) (pc' := 38) (by decide +kernel) rfl rfl (sw_a1 h1 (sw_a1 h2 (sw_a1 h3 (sw_a1 h3 sw_a0)))) ?_
    obtain ⟨u4, hu4, hf⟩ := sw_bnd hf
    refine sf_callV (i := 48) (k2 := k_Reader_advance) (d2 := d - 1) (As := []) (st := []) (q := a0) (ci := 6) mf_Reader_advance mi_Reader_advance ms_Reader_advance (sw_m3 24 (by decide +kernel)) rfl (by decide) (by decide +kernel) rfl (Nat.le_of_ble_eq_true rfl) (by omega) h1 (o_Reader_advance g (d := d - 1) (by omega) hu4) ?_
    show sw_F _ _ _ _ _ _ 41 [(0, .ref a0)] [] u4
    refine sf_blk [(.iconst (1), 0, 0, .int (1 : Int32))] (lv' := [(0, .ref a0)]) (st' := [.int (1 : Int32)]) (M1 := u4) (ob := []) (pc' := 42) (by decide +kernel) rfl rfl sw_a0 ?_
    cases hf
    exact sf_bool rfl rfl (by decide +kernel)
  · refine sf_blk [(.aload_n 0, 0, 0, .null), (.iconst (2), 0, 0, .int (2 : Int32))] (lv' := [(0, .ref a0)]) (st' := [.int (2 : Int32), .ref a0]) (M1 := M) (ob := []) (pc' := 17) (by decide +kernel) rfl rfl sw_a0 ?_
    obtain ⟨u5, hu5, hf⟩ := sw_bnd hf
    refine sf_callV (i := 62) (k2 := k_Reader_wrong) (d2 := d - 1) (As := [.int (2 : Int32)]) (st := []) (q := a0) (ci := 6) mf_Reader_wrong mi_Reader_wrong ms_Reader_wrong (sw_m3 102 (by decide +kernel)) rfl (by decide) (by decide +kernel) rfl (Nat.le_of_ble_eq_true rfl) (by omega) h1 (o_Reader_wrong g (d := d - 1) (by omega) hu5) ?_
    show sw_F _ _ _ _ _ _ 20 [(0, .ref a0)] [.int u5.1] u5.2
    obtain ⟨h6, hf⟩ := sw_gd_1 hf
    cases hf
    exact sf_bool rfl h6 (by decide +kernel)
theorem o_Reader_knot (g : sw_G) {d : Nat} (hd : 8 ≤ d) {N : Nat} {a0 : Nat} {M : sw_M} {r : Int32 × sw_M} (hf : f_Reader_knot N a0 M = some r) : sw_Ok g k_Reader_knot d [.ref a0] M (some (.int r.1)) r.2 := sf_met (by decide +kernel) rfl (by decide) (Nat.le_of_ble_eq_true rfl) (t_Reader_knot hd hf)
def f_Reader_expect (N : Nat) (a0 : Nat) (a1 : Int32) (M : sw_M) : Option (Int32 × sw_M) :=
  sw_gd [sw_ok M a0 6] (if (rd_I M a0 6) = a1 then (f_Reader_advance N a0 M).bind (fun u2 => some ((1 : Int32), u2))
  else (f_Reader_wrong N a0 (1 : Int32) M).bind (fun u3 => sw_gd [sw_bz u3.1] (some (u3.1, u3.2))))
set_option maxRecDepth 10000 in
theorem t_Reader_expect {g : sw_G} {d n0 : Nat} (hd : 8 ≤ d) {r : Int32 × sw_M} {N : Nat} {a0 : Nat} {a1 : Int32} {M : sw_M} (hf : f_Reader_expect N a0 a1 M = some r) : sw_F g k_Reader_expect d n0 (some (.int r.1)) r.2 0 [(0, .ref a0), (1, .int a1)] [] M := by
  unfold f_Reader_expect at hf
  obtain ⟨h1, hf⟩ := sw_gd_1 hf
  refine sf_blk [(.aload_n 0, 0, 0, .null), (.getfield 51, 6, 6, .null), (.iload_n 1, 0, 0, .null)] (lv' := [(0, .ref a0), (1, .int a1)]) (st' := [.int a1, .int (rd_I M a0 6)]) (M1 := M) (ob := [sw_ok M a0 6]) (pc' := 5) (by decide +kernel) rfl rfl (sw_a1 h1 sw_a0) ?_
  refine sf_j_eq (off := 9) (tgt := 14) (by decide +kernel) (by decide) hf (fun hc hf => ?_) (fun hc hf => ?_)
  · refine sf_blk [(.aload_n 0, 0, 0, .null)] (lv' := [(0, .ref a0), (1, .int a1)]) (st' := [.ref a0]) (M1 := M) (ob := []) (pc' := 15) (by decide +kernel) rfl rfl sw_a0 ?_
    obtain ⟨u2, hu2, hf⟩ := sw_bnd hf
    refine sf_callV (i := 48) (k2 := k_Reader_advance) (d2 := d - 1) (As := []) (st := []) (q := a0) (ci := 6) mf_Reader_advance mi_Reader_advance ms_Reader_advance (sw_m3 24 (by decide +kernel)) rfl (by decide) (by decide +kernel) rfl (Nat.le_of_ble_eq_true rfl) (by omega) h1 (o_Reader_advance g (d := d - 1) (by omega) hu2) ?_
    show sw_F _ _ _ _ _ _ 18 [(0, .ref a0), (1, .int a1)] [] u2
    refine sf_blk [(.iconst (1), 0, 0, .int (1 : Int32))] (lv' := [(0, .ref a0), (1, .int a1)]) (st' := [.int (1 : Int32)]) (M1 := u2) (ob := []) (pc' := 19) (by decide +kernel) rfl rfl sw_a0 ?_
    cases hf
    exact sf_bool rfl rfl (by decide +kernel)
  · refine sf_blk [(.aload_n 0, 0, 0, .null), (.iconst (1), 0, 0, .int (1 : Int32))] (lv' := [(0, .ref a0), (1, .int a1)]) (st' := [.int (1 : Int32), .ref a0]) (M1 := M) (ob := []) (pc' := 10) (by decide +kernel) rfl rfl sw_a0 ?_
    obtain ⟨u3, hu3, hf⟩ := sw_bnd hf
    refine sf_callV (i := 62) (k2 := k_Reader_wrong) (d2 := d - 1) (As := [.int (1 : Int32)]) (st := []) (q := a0) (ci := 6) mf_Reader_wrong mi_Reader_wrong ms_Reader_wrong (sw_m3 102 (by decide +kernel)) rfl (by decide) (by decide +kernel) rfl (Nat.le_of_ble_eq_true rfl) (by omega) h1 (o_Reader_wrong g (d := d - 1) (by omega) hu3) ?_
    show sw_F _ _ _ _ _ _ 13 [(0, .ref a0), (1, .int a1)] [.int u3.1] u3.2
    obtain ⟨h4, hf⟩ := sw_gd_1 hf
    cases hf
    exact sf_bool rfl h4 (by decide +kernel)
theorem o_Reader_expect (g : sw_G) {d : Nat} (hd : 8 ≤ d) {N : Nat} {a0 : Nat} {a1 : Int32} {M : sw_M} {r : Int32 × sw_M} (hf : f_Reader_expect N a0 a1 M = some r) : sw_Ok g k_Reader_expect d [.ref a0, .int a1] M (some (.int r.1)) r.2 := sf_met (by decide +kernel) rfl (by decide) (Nat.le_of_ble_eq_true rfl) (t_Reader_expect hd hf)
def f_Rule_put (N : Nat) (a0 : Nat) (a1 : Int32) (a2 : Int32) (M : sw_M) : Option (sw_M) :=
  sw_gd [sw_ok M a0 7] (sw_gd [sw_oka M (rd_R M a0 0)] (if (nI (sw_len (rd_R M a0 0))) ≤ (rd_I M a0 3) then some M
  else sw_gd [sw_ar M (rd_R M a0 0) 13 (rd_I M a0 3)] (sw_gd [sw_ar (wr_I M (rd_R M a0 0) (rd_I M a0 3).toNatClampNeg a1) (rd_R (wr_I M (rd_R M a0 0) (rd_I M a0 3).toNatClampNeg a1) a0 1) 13 (rd_I (wr_I M (rd_R M a0 0) (rd_I M a0 3).toNatClampNeg a1) a0 3)] (some (wr_I (wr_I (wr_I M (rd_R M a0 0) (rd_I M a0 3).toNatClampNeg a1) (rd_R (wr_I M (rd_R M a0 0) (rd_I M a0 3).toNatClampNeg a1) a0 1) (rd_I (wr_I M (rd_R M a0 0) (rd_I M a0 3).toNatClampNeg a1) a0 3).toNatClampNeg a2) a0 3 ((rd_I (wr_I (wr_I M (rd_R M a0 0) (rd_I M a0 3).toNatClampNeg a1) (rd_R (wr_I M (rd_R M a0 0) (rd_I M a0 3).toNatClampNeg a1) a0 1) (rd_I (wr_I M (rd_R M a0 0) (rd_I M a0 3).toNatClampNeg a1) a0 3).toNatClampNeg a2) a0 3) + (1 : Int32)))))))
set_option maxRecDepth 10000 in
theorem t_Rule_put {g : sw_G} {d n0 : Nat} (hd : 1 ≤ d) {r : sw_M} {N : Nat} {a0 : Nat} {a1 : Int32} {a2 : Int32} {M : sw_M} (hf : f_Rule_put N a0 a1 a2 M = some r) : sw_F g k_Rule_put d n0 none r 0 [(0, .ref a0), (1, .int a1), (2, .int a2)] [] M := by
  unfold f_Rule_put at hf
  obtain ⟨h1, hf⟩ := sw_gd_1 hf
  obtain ⟨h2, hf⟩ := sw_gd_1 hf
  refine sf_blk [(.aload_n 0, 0, 0, .null), (.getfield 22, 7, 3, .null), (.aload_n 0, 0, 0, .null), (.getfield 9, 7, 0, .null), (.arraylength, 0, 0, .null)] (lv' := [(0, .ref a0), (1, .int a1), (2, .int a2)]) (st' := [.int (nI (sw_len (rd_R M a0 0))), .int (rd_I M a0 3)]) (M1 := M) (ob := [sw_ok M a0 7, sw_ok M a0 7, sw_oka M (rd_R M a0 0)]) (pc' := 9) (by decide +kernel) rfl rfl (sw_a1 h1 (sw_a1 h1 (sw_a1 h2 sw_a0))) ?_
  refine sf_j_ge (off := 33) (tgt := 42) (by decide +kernel) (by decide) hf (fun hc hf => ?_) (fun hc hf => ?_)
  · cases hf
    exact sf_void rfl (by decide +kernel)
  · obtain ⟨h3, hf⟩ := sw_gd_1 hf
    obtain ⟨h4, hf⟩ := sw_gd_1 hf
    refine sf_blk [(.aload_n 0, 0, 0, .null), (.getfield 9, 7, 0, .null), (.aload_n 0, 0, 0, .null), (.getfield 22, 7, 3, .null), (.iload_n 1, 0, 0, .null), (.iastore, 0, 0, .null), (.aload_n 0, 0, 0, .null), (.getfield 15, 7, 1, .null), (.aload_n 0, 0, 0, .null), (.getfield 22, 7, 3, .null), (.iload_n 2, 0, 0, .null), (.iastore, 0, 0, .null), (.aload_n 0, 0, 0, .null), (.dup, 0, 0, .null), (.getfield 22, 7, 3, .null), (.iconst (1), 0, 0, .int (1 : Int32)), (.iadd, 0, 0, .null), (.putfield 22, 7, 3, .null)] (lv' := [(0, .ref a0), (1, .int a1), (2, .int a2)]) (st' := []) (M1 := (wr_I (wr_I (wr_I M (rd_R M a0 0) (rd_I M a0 3).toNatClampNeg a1) (rd_R (wr_I M (rd_R M a0 0) (rd_I M a0 3).toNatClampNeg a1) a0 1) (rd_I (wr_I M (rd_R M a0 0) (rd_I M a0 3).toNatClampNeg a1) a0 3).toNatClampNeg a2) a0 3 ((rd_I (wr_I (wr_I M (rd_R M a0 0) (rd_I M a0 3).toNatClampNeg a1) (rd_R (wr_I M (rd_R M a0 0) (rd_I M a0 3).toNatClampNeg a1) a0 1) (rd_I (wr_I M (rd_R M a0 0) (rd_I M a0 3).toNatClampNeg a1) a0 3).toNatClampNeg a2) a0 3) + (1 : Int32)))) (ob := [sw_ok M a0 7, sw_ok M a0 7, sw_ar M (rd_R M a0 0) 13 (rd_I M a0 3), sw_ok (wr_I M (rd_R M a0 0) (rd_I M a0 3).toNatClampNeg a1) a0 7, sw_ok (wr_I M (rd_R M a0 0) (rd_I M a0 3).toNatClampNeg a1) a0 7, sw_ar (wr_I M (rd_R M a0 0) (rd_I M a0 3).toNatClampNeg a1) (rd_R (wr_I M (rd_R M a0 0) (rd_I M a0 3).toNatClampNeg a1) a0 1) 13 (rd_I (wr_I M (rd_R M a0 0) (rd_I M a0 3).toNatClampNeg a1) a0 3), sw_ok (wr_I (wr_I M (rd_R M a0 0) (rd_I M a0 3).toNatClampNeg a1) (rd_R (wr_I M (rd_R M a0 0) (rd_I M a0 3).toNatClampNeg a1) a0 1) (rd_I (wr_I M (rd_R M a0 0) (rd_I M a0 3).toNatClampNeg a1) a0 3).toNatClampNeg a2) a0 7, sw_ok (wr_I (wr_I M (rd_R M a0 0) (rd_I M a0 3).toNatClampNeg a1) (rd_R (wr_I M (rd_R M a0 0) (rd_I M a0 3).toNatClampNeg a1) a0 1) (rd_I (wr_I M (rd_R M a0 0) (rd_I M a0 3).toNatClampNeg a1) a0 3).toNatClampNeg a2) a0 7]) (pc' := 42) (by decide +kernel) rfl rfl (sw_a1 h1 (sw_a1 h1 (sw_a1 h3 (sw_a1 h1 (sw_a1 h1 (sw_a1 h4 (sw_a1 h1 (sw_a1 h1 sw_a0)))))))) ?_
    cases hf
    exact sf_void rfl (by decide +kernel)
theorem o_Rule_put (g : sw_G) {d : Nat} (hd : 1 ≤ d) {N : Nat} {a0 : Nat} {a1 : Int32} {a2 : Int32} {M : sw_M} {r : sw_M} (hf : f_Rule_put N a0 a1 a2 M = some r) : sw_Ok g k_Rule_put d [.ref a0, .int a1, .int a2] M none r := sf_met (by decide +kernel) rfl (by decide) (Nat.le_of_ble_eq_true rfl) (t_Rule_put hd hf)
def f_Reader_single_95 (N : Nat) (rc : Nat → Int32 → sw_M → Option (Int32 × sw_M)) (a0 : Nat) (M : sw_M) : Option (Int32 × sw_M) :=
  sw_gd [sw_ok M a0 6] (sw_gd [sw_ok M (rd_R M a0 1) 0] (sw_gd [sw_ok M (rd_R M (rd_R M a0 1) 1) 7] ((f_Rule_put N (rd_R M (rd_R M a0 1) 1) (rd_I M a0 6) (rd_I M a0 7) M).bind (fun u4 => sw_gd [sw_ok u4 a0 6] ((f_Reader_knot N a0 u4).bind (fun u6 => sw_gd [sw_bz u6.1] (some (u6.1, u6.2))))))))
set_option maxRecDepth 10000 in
theorem t_Reader_single_95 {g : sw_G} {d n0 : Nat} (hd : 10 ≤ d) {r : Int32 × sw_M} (rc : Nat → Int32 → sw_M → Option (Int32 × sw_M)) {d0 : Nat} (hrc : ∀ (q : Nat) (a : Int32) (M : sw_M) (u : Int32 × sw_M), rc q a M = some u → sw_Ok g k_Reader_either d0 [.ref q, .int a] M (some (.int u.1)) u.2) (hd0 : d0 + 1 ≤ d) {N : Nat} {a0 : Nat} {M : sw_M} (hf : f_Reader_single_95 N rc a0 M = some r) : sw_F g k_Reader_single d n0 (some (.int r.1)) r.2 95 [(0, .ref a0)] [] M := by
  unfold f_Reader_single_95 at hf
  obtain ⟨h1, hf⟩ := sw_gd_1 hf
  obtain ⟨h2, hf⟩ := sw_gd_1 hf
  obtain ⟨h3, hf⟩ := sw_gd_1 hf
  refine sf_blk [(.aload_n 0, 0, 0, .null), (.getfield 12, 6, 1, .null), (.getfield 128, 0, 1, .null), (.aload_n 0, 0, 0, .null), (.getfield 51, 6, 6, .null), (.aload_n 0, 0, 0, .null), (.getfield 125, 6, 7, .null)] (lv' := [(0, .ref a0)]) (st' := [.int (rd_I M a0 7), .int (rd_I M a0 6), .ref (rd_R M (rd_R M a0 1) 1)]) (M1 := M) (ob := [sw_ok M a0 6, sw_ok M (rd_R M a0 1) 0, sw_ok M a0 6, sw_ok M a0 6]) (pc' := 110) (by decide +kernel) rfl rfl (sw_a1 h1 (sw_a1 h2 (sw_a1 h1 (sw_a1 h1 sw_a0)))) ?_
  obtain ⟨u4, hu4, hf⟩ := sw_bnd hf
  refine sf_callV (i := 146) (k2 := k_Rule_put) (d2 := d - 1) (As := [.int (rd_I M a0 6), .int (rd_I M a0 7)]) (st := []) (q := (rd_R M (rd_R M a0 1) 1)) (ci := 7) mf_Rule_put mi_Rule_put ms_Rule_put (sw_m3 175 (by decide +kernel)) rfl (by decide) (by decide +kernel) rfl (Nat.le_of_ble_eq_true rfl) (by omega) h3 (o_Rule_put g (d := d - 1) (by omega) hu4) ?_
  show sw_F _ _ _ _ _ _ 113 [(0, .ref a0)] [] u4
  obtain ⟨h5, hf⟩ := sw_gd_1 hf
  refine sf_blk [(.aload_n 0, 0, 0, .null)] (lv' := [(0, .ref a0)]) (st' := [.ref a0]) (M1 := u4) (ob := []) (pc' := 114) (by decide +kernel) rfl rfl sw_a0 ?_
  obtain ⟨u6, hu6, hf⟩ := sw_bnd hf
  refine sf_callV (i := 143) (k2 := k_Reader_knot) (d2 := d - 1) (As := []) (st := []) (q := a0) (ci := 6) mf_Reader_knot mi_Reader_knot ms_Reader_knot (sw_m3 151 (by decide +kernel)) rfl (by decide) (by decide +kernel) rfl (Nat.le_of_ble_eq_true rfl) (by omega) h5 (o_Reader_knot g (d := d - 1) (by omega) hu6) ?_
  show sw_F _ _ _ _ _ _ 117 [(0, .ref a0)] [.int u6.1] u6.2
  obtain ⟨h7, hf⟩ := sw_gd_1 hf
  cases hf
  exact sf_bool rfl h7 (by decide +kernel)
def f_Reader_single_72 (N : Nat) (rc : Nat → Int32 → sw_M → Option (Int32 × sw_M)) (a0 : Nat) (M : sw_M) : Option (Int32 × sw_M) :=
  sw_gd [sw_ok M a0 6] (if (rd_I M a0 6) = (2 : Int32) then if (rd_I M a0 7) ≤ (99999 : Int32) then f_Reader_single_95 N rc a0 M
  else (f_Reader_wrong N a0 (2 : Int32) M).bind (fun u2 => sw_gd [sw_bz u2.1] (some (u2.1, u2.2)))
  else f_Reader_single_95 N rc a0 M)
set_option maxRecDepth 10000 in
theorem t_Reader_single_72 {g : sw_G} {d n0 : Nat} (hd : 10 ≤ d) {r : Int32 × sw_M} (rc : Nat → Int32 → sw_M → Option (Int32 × sw_M)) {d0 : Nat} (hrc : ∀ (q : Nat) (a : Int32) (M : sw_M) (u : Int32 × sw_M), rc q a M = some u → sw_Ok g k_Reader_either d0 [.ref q, .int a] M (some (.int u.1)) u.2) (hd0 : d0 + 1 ≤ d) {N : Nat} {a0 : Nat} {M : sw_M} (hf : f_Reader_single_72 N rc a0 M = some r) : sw_F g k_Reader_single d n0 (some (.int r.1)) r.2 72 [(0, .ref a0)] [] M := by
  unfold f_Reader_single_72 at hf
  obtain ⟨h1, hf⟩ := sw_gd_1 hf
  refine sf_blk [(.aload_n 0, 0, 0, .null), (.getfield 51, 6, 6, .null), (.iconst (2), 0, 0, .int (2 : Int32))] (lv' := [(0, .ref a0)]) (st' := [.int (2 : Int32), .int (rd_I M a0 6)]) (M1 := M) (ob := [sw_ok M a0 6]) (pc' := 77) (by decide +kernel) rfl rfl (sw_a1 h1 sw_a0) ?_
  refine sf_j_ne (off := 18) (tgt := 95) (by decide +kernel) (by decide) hf (fun hc hf => ?_) (fun hc hf => ?_)
  · exact sf_weak [0] rfl (t_Reader_single_95 hd rc hrc hd0 hf)
  · refine sf_blk [(.aload_n 0, 0, 0, .null), (.getfield 125, 6, 7, .null), (.ldc 79, 0, 0, .int (99999 : Int32))] (lv' := [(0, .ref a0)]) (st' := [.int (99999 : Int32), .int (rd_I M a0 7)]) (M1 := M) (ob := [sw_ok M a0 6]) (pc' := 86) (by decide +kernel) rfl rfl (sw_a1 h1 sw_a0) ?_
    refine sf_j_le (off := 9) (tgt := 95) (by decide +kernel) (by decide) hf (fun hc hf => ?_) (fun hc hf => ?_)
    · exact sf_weak [0] rfl (t_Reader_single_95 hd rc hrc hd0 hf)
    · refine sf_blk [(.aload_n 0, 0, 0, .null), (.iconst (2), 0, 0, .int (2 : Int32))] (lv' := [(0, .ref a0)]) (st' := [.int (2 : Int32), .ref a0]) (M1 := M) (ob := []) (pc' := 91) (by decide +kernel) rfl rfl sw_a0 ?_
      obtain ⟨u2, hu2, hf⟩ := sw_bnd hf
      refine sf_callV (i := 62) (k2 := k_Reader_wrong) (d2 := d - 1) (As := [.int (2 : Int32)]) (st := []) (q := a0) (ci := 6) mf_Reader_wrong mi_Reader_wrong ms_Reader_wrong (sw_m3 102 (by decide +kernel)) rfl (by decide) (by decide +kernel) rfl (Nat.le_of_ble_eq_true rfl) (by omega) h1 (o_Reader_wrong g (d := d - 1) (by omega) hu2) ?_
      show sw_F _ _ _ _ _ _ 94 [(0, .ref a0)] [.int u2.1] u2.2
      obtain ⟨h3, hf⟩ := sw_gd_1 hf
      cases hf
      exact sf_bool rfl h3 (by decide +kernel)
def f_Reader_single (N : Nat) (rc : Nat → Int32 → sw_M → Option (Int32 × sw_M)) (a0 : Nat) (a1 : Int32) (M : sw_M) : Option (Int32 × sw_M) :=
  sw_gd [sw_ok M a0 6] (if (rd_I M a0 6) = (5 : Int32) then if a1 < (8 : Int32) then (f_Reader_advance N a0 M).bind (fun u4 => sw_gd [sw_ok u4 a0 6] ((rc a0 (a1 + (1 : Int32)) u4).bind (fun u6 => if u6.1 = 0 then some ((0 : Int32), u6.2)
  else sw_gd [sw_ok u6.2 a0 6] ((f_Reader_expect N a0 (6 : Int32) u6.2).bind (fun u8 => if u8.1 = 0 then some ((0 : Int32), u8.2)
  else some ((1 : Int32), u8.2))))))
  else (f_Reader_wrong N a0 (2 : Int32) M).bind (fun u9 => sw_gd [sw_bz u9.1] (some (u9.1, u9.2)))
  else if (29 : Int32) ≤ (rd_I M a0 6) then f_Reader_single_72 N rc a0 M
  else if (rd_I M a0 6) = (2 : Int32) then f_Reader_single_72 N rc a0 M
  else (f_Reader_wrong N a0 (1 : Int32) M).bind (fun u2 => sw_gd [sw_bz u2.1] (some (u2.1, u2.2))))
set_option maxRecDepth 10000 in
theorem t_Reader_single {g : sw_G} {d n0 : Nat} (hd : 10 ≤ d) {r : Int32 × sw_M} (rc : Nat → Int32 → sw_M → Option (Int32 × sw_M)) {d0 : Nat} (hrc : ∀ (q : Nat) (a : Int32) (M : sw_M) (u : Int32 × sw_M), rc q a M = some u → sw_Ok g k_Reader_either d0 [.ref q, .int a] M (some (.int u.1)) u.2) (hd0 : d0 + 1 ≤ d) {N : Nat} {a0 : Nat} {a1 : Int32} {M : sw_M} (hf : f_Reader_single N rc a0 a1 M = some r) : sw_F g k_Reader_single d n0 (some (.int r.1)) r.2 0 [(0, .ref a0), (1, .int a1)] [] M := by
  unfold f_Reader_single at hf
  obtain ⟨h1, hf⟩ := sw_gd_1 hf
  refine sf_blk [(.aload_n 0, 0, 0, .null), (.getfield 51, 6, 6, .null), (.iconst (5), 0, 0, .int (5 : Int32))] (lv' := [(0, .ref a0), (1, .int a1)]) (st' := [.int (5 : Int32), .int (rd_I M a0 6)]) (M1 := M) (ob := [sw_ok M a0 6]) (pc' := 5) (by decide +kernel) rfl rfl (sw_a1 h1 sw_a0) ?_
  refine sf_j_ne (off := 44) (tgt := 49) (by decide +kernel) (by decide) hf (fun hc hf => ?_) (fun hc hf => ?_)
  · refine sf_blk [(.aload_n 0, 0, 0, .null), (.getfield 51, 6, 6, .null), (.bipush (29), 0, 0, .int (29 : Int32))] (lv' := [(0, .ref a0), (1, .int a1)]) (st' := [.int (29 : Int32), .int (rd_I M a0 6)]) (M1 := M) (ob := [sw_ok M a0 6]) (pc' := 55) (by decide +kernel) rfl rfl (sw_a1 h1 sw_a0) ?_
    refine sf_j_ge (off := 17) (tgt := 72) (by decide +kernel) (by decide) hf (fun hc hf => ?_) (fun hc hf => ?_)
    · exact sf_weak [0] rfl (t_Reader_single_72 hd rc hrc hd0 hf)
    · refine sf_blk [(.aload_n 0, 0, 0, .null), (.getfield 51, 6, 6, .null), (.iconst (2), 0, 0, .int (2 : Int32))] (lv' := [(0, .ref a0), (1, .int a1)]) (st' := [.int (2 : Int32), .int (rd_I M a0 6)]) (M1 := M) (ob := [sw_ok M a0 6]) (pc' := 63) (by decide +kernel) rfl rfl (sw_a1 h1 sw_a0) ?_
      refine sf_j_eq (off := 9) (tgt := 72) (by decide +kernel) (by decide) hf (fun hc hf => ?_) (fun hc hf => ?_)
      · exact sf_weak [0] rfl (t_Reader_single_72 hd rc hrc hd0 hf)
      · refine sf_blk [(.aload_n 0, 0, 0, .null), (.iconst (1), 0, 0, .int (1 : Int32))] (lv' := [(0, .ref a0), (1, .int a1)]) (st' := [.int (1 : Int32), .ref a0]) (M1 := M) (ob := []) (pc' := 68) (by decide +kernel) rfl rfl sw_a0 ?_
        obtain ⟨u2, hu2, hf⟩ := sw_bnd hf
        refine sf_callV (i := 62) (k2 := k_Reader_wrong) (d2 := d - 1) (As := [.int (1 : Int32)]) (st := []) (q := a0) (ci := 6) mf_Reader_wrong mi_Reader_wrong ms_Reader_wrong (sw_m3 102 (by decide +kernel)) rfl (by decide) (by decide +kernel) rfl (Nat.le_of_ble_eq_true rfl) (by omega) h1 (o_Reader_wrong g (d := d - 1) (by omega) hu2) ?_
        show sw_F _ _ _ _ _ _ 71 [(0, .ref a0), (1, .int a1)] [.int u2.1] u2.2
        obtain ⟨h3, hf⟩ := sw_gd_1 hf
        cases hf
        exact sf_bool rfl h3 (by decide +kernel)
  · refine sf_blk [(.iload_n 1, 0, 0, .null), (.bipush (8), 0, 0, .int (8 : Int32))] (lv' := [(0, .ref a0), (1, .int a1)]) (st' := [.int (8 : Int32), .int a1]) (M1 := M) (ob := []) (pc' := 11) (by decide +kernel) rfl rfl sw_a0 ?_
    refine sf_j_lt (off := 9) (tgt := 20) (by decide +kernel) (by decide) hf (fun hc hf => ?_) (fun hc hf => ?_)
    · refine sf_blk [(.aload_n 0, 0, 0, .null)] (lv' := [(0, .ref a0), (1, .int a1)]) (st' := [.ref a0]) (M1 := M) (ob := []) (pc' := 21) (by decide +kernel) rfl rfl sw_a0 ?_
      obtain ⟨u4, hu4, hf⟩ := sw_bnd hf
      refine sf_callV (i := 48) (k2 := k_Reader_advance) (d2 := d - 1) (As := []) (st := []) (q := a0) (ci := 6) mf_Reader_advance mi_Reader_advance ms_Reader_advance (sw_m3 24 (by decide +kernel)) rfl (by decide) (by decide +kernel) rfl (Nat.le_of_ble_eq_true rfl) (by omega) h1 (o_Reader_advance g (d := d - 1) (by omega) hu4) ?_
      show sw_F _ _ _ _ _ _ 24 [(0, .ref a0), (1, .int a1)] [] u4
      obtain ⟨h5, hf⟩ := sw_gd_1 hf
      refine sf_blk [(.aload_n 0, 0, 0, .null), (.iload_n 1, 0, 0, .null), (.iconst (1), 0, 0, .int (1 : Int32)), (.iadd, 0, 0, .null)] (lv' := [(0, .ref a0), (1, .int a1)]) (st' := [.int (a1 + (1 : Int32)), .ref a0]) (M1 := u4) (ob := []) (pc' := 28) (by decide +kernel) rfl rfl sw_a0 ?_
      obtain ⟨u6, hu6, hf⟩ := sw_bnd hf
      refine sf_callV (i := 137) (k2 := k_Reader_either) (d2 := d0) (As := [.int (a1 + (1 : Int32))]) (st := []) (q := a0) (ci := 6) mf_Reader_either mi_Reader_either ms_Reader_either (sw_m3 139 (by decide +kernel)) rfl (by decide) (by decide +kernel) rfl (Nat.le_of_ble_eq_true rfl) (by omega) h5 (hrc _ _ _ _ hu6) ?_
      show sw_F _ _ _ _ _ _ 31 [(0, .ref a0), (1, .int a1)] [.int u6.1] u6.2
      refine sf_z_eq (off := 16) (tgt := 47) (by decide +kernel) (by decide) hf (fun hc hf => ?_) (fun hc hf => ?_)
      · refine sf_blk [(.iconst (0), 0, 0, .int (0 : Int32))] (lv' := [(0, .ref a0), (1, .int a1)]) (st' := [.int (0 : Int32)]) (M1 := u6.2) (ob := []) (pc' := 48) (by decide +kernel) rfl rfl sw_a0 ?_
        cases hf
        exact sf_bool rfl rfl (by decide +kernel)
      · obtain ⟨h7, hf⟩ := sw_gd_1 hf
        refine sf_blk [(.aload_n 0, 0, 0, .null), (.bipush (6), 0, 0, .int (6 : Int32))] (lv' := [(0, .ref a0), (1, .int a1)]) (st' := [.int (6 : Int32), .ref a0]) (M1 := u6.2) (ob := []) (pc' := 37) (by decide +kernel) rfl rfl sw_a0 ?_
        obtain ⟨u8, hu8, hf⟩ := sw_bnd hf
        refine sf_callV (i := 65) (k2 := k_Reader_expect) (d2 := d - 1) (As := [.int (6 : Int32)]) (st := []) (q := a0) (ci := 6) mf_Reader_expect mi_Reader_expect ms_Reader_expect (sw_m3 171 (by decide +kernel)) rfl (by decide) (by decide +kernel) rfl (Nat.le_of_ble_eq_true rfl) (by omega) h7 (o_Reader_expect g (d := d - 1) (by omega) hu8) ?_
        show sw_F _ _ _ _ _ _ 40 [(0, .ref a0), (1, .int a1)] [.int u8.1] u8.2
        refine sf_z_eq (off := 7) (tgt := 47) (by decide +kernel) (by decide) hf (fun hc hf => ?_) (fun hc hf => ?_)
        · refine sf_blk [(.iconst (0), 0, 0, .int (0 : Int32))] (lv' := [(0, .ref a0), (1, .int a1)]) (st' := [.int (0 : Int32)]) (M1 := u8.2) (ob := []) (pc' := 48) (by decide +kernel) rfl rfl sw_a0 ?_
          cases hf
          exact sf_bool rfl rfl (by decide +kernel)
        · refine sf_blk [(.iconst (1), 0, 0, .int (1 : Int32))] (lv' := [(0, .ref a0), (1, .int a1)]) (st' := [.int (1 : Int32)]) (M1 := u8.2) (ob := []) (pc' := 44) (by decide +kernel) rfl rfl sw_a0 ?_
          refine sf_goto (off := 4) (tgt := 48) (by decide +kernel) (by decide) ?_
          cases hf
          exact sf_bool rfl rfl (by decide +kernel)
    · refine sf_blk [(.aload_n 0, 0, 0, .null), (.iconst (2), 0, 0, .int (2 : Int32))] (lv' := [(0, .ref a0), (1, .int a1)]) (st' := [.int (2 : Int32), .ref a0]) (M1 := M) (ob := []) (pc' := 16) (by decide +kernel) rfl rfl sw_a0 ?_
      obtain ⟨u9, hu9, hf⟩ := sw_bnd hf
      refine sf_callV (i := 62) (k2 := k_Reader_wrong) (d2 := d - 1) (As := [.int (2 : Int32)]) (st := []) (q := a0) (ci := 6) mf_Reader_wrong mi_Reader_wrong ms_Reader_wrong (sw_m3 102 (by decide +kernel)) rfl (by decide) (by decide +kernel) rfl (Nat.le_of_ble_eq_true rfl) (by omega) h1 (o_Reader_wrong g (d := d - 1) (by omega) hu9) ?_
      show sw_F _ _ _ _ _ _ 19 [(0, .ref a0), (1, .int a1)] [.int u9.1] u9.2
      obtain ⟨h10, hf⟩ := sw_gd_1 hf
      cases hf
      exact sf_bool rfl h10 (by decide +kernel)
theorem o_Reader_single (g : sw_G) {d : Nat} (hd : 10 ≤ d) (rc : Nat → Int32 → sw_M → Option (Int32 × sw_M)) {d0 : Nat} (hrc : ∀ (q : Nat) (a : Int32) (M : sw_M) (u : Int32 × sw_M), rc q a M = some u → sw_Ok g k_Reader_either d0 [.ref q, .int a] M (some (.int u.1)) u.2) (hd0 : d0 + 1 ≤ d) {N : Nat} {a0 : Nat} {a1 : Int32} {M : sw_M} {r : Int32 × sw_M} (hf : f_Reader_single N rc a0 a1 M = some r) : sw_Ok g k_Reader_single d [.ref a0, .int a1] M (some (.int r.1)) r.2 := sf_met (by decide +kernel) rfl (by decide) (Nat.le_of_ble_eq_true rfl) (t_Reader_single hd rc hrc hd0 hf)
def f_Reader_product_62 (N : Nat) (rc : Nat → Int32 → sw_M → Option (Int32 × sw_M)) (k8 : Nat → Int32 → Int32 → Int32 → sw_M → Option (Int32 × sw_M)) (a0 : Nat) (a1 : Int32) (a3 : Int32) (a4 : Int32) (b0 : Int32) (M : sw_M) : Option (Int32 × sw_M) :=
  sw_gd [sw_ok M a0 6] (sw_gd [sw_ok M (rd_R M a0 1) 0] (sw_gd [sw_ok M (rd_R M (rd_R M a0 1) 1) 7] ((f_Rule_put N (rd_R M (rd_R M a0 1) 1) a4 (0 : Int32) M).bind (fun u4 => k8 a0 a1 b0 (a3 + (1 : Int32)) u4))))
set_option maxRecDepth 10000 in
theorem t_Reader_product_62 {g : sw_G} {d n0 : Nat} (hd : 11 ≤ d) {r : Int32 × sw_M} (rc : Nat → Int32 → sw_M → Option (Int32 × sw_M)) {d0 : Nat} (hrc : ∀ (q : Nat) (a : Int32) (M : sw_M) (u : Int32 × sw_M), rc q a M = some u → sw_Ok g k_Reader_either d0 [.ref q, .int a] M (some (.int u.1)) u.2) (hd0 : d0 + 2 ≤ d) (k8 : Nat → Int32 → Int32 → Int32 → sw_M → Option (Int32 × sw_M)) (hk8 : ∀ (a0 : Nat) (a1 : Int32) (a2 : Int32) (a3 : Int32) (M : sw_M), k8 a0 a1 a2 a3 M = some r → sw_F g k_Reader_product d n0 (some (.int r.1)) r.2 8 [(0, .ref a0), (1, .int a1), (2, .int a2), (3, .int a3)] [] M) {N : Nat} {a0 : Nat} {a1 : Int32} {a3 : Int32} {a4 : Int32} {b0 : Int32} {M : sw_M} (hf : f_Reader_product_62 N rc k8 a0 a1 a3 a4 b0 M = some r) : sw_F g k_Reader_product d n0 (some (.int r.1)) r.2 62 [(0, .ref a0), (1, .int a1), (3, .int a3), (4, .int a4)] [.int b0] M := by
  unfold f_Reader_product_62 at hf
  obtain ⟨h1, hf⟩ := sw_gd_1 hf
  obtain ⟨h2, hf⟩ := sw_gd_1 hf
  obtain ⟨h3, hf⟩ := sw_gd_1 hf
  refine sf_blk [(.istore_n 2, 0, 0, .null), (.aload_n 0, 0, 0, .null), (.getfield 12, 6, 1, .null), (.getfield 128, 0, 1, .null), (.iload 4, 0, 0, .null), (.iconst (0), 0, 0, .int (0 : Int32))] (lv' := [(2, .int b0), (0, .ref a0), (1, .int a1), (3, .int a3), (4, .int a4)]) (st' := [.int (0 : Int32), .int a4, .ref (rd_R M (rd_R M a0 1) 1)]) (M1 := M) (ob := [sw_ok M a0 6, sw_ok M (rd_R M a0 1) 0]) (pc' := 73) (by decide +kernel) rfl rfl (sw_a1 h1 (sw_a1 h2 sw_a0)) ?_
  obtain ⟨u4, hu4, hf⟩ := sw_bnd hf
  refine sf_callV (i := 146) (k2 := k_Rule_put) (d2 := d - 1) (As := [.int a4, .int (0 : Int32)]) (st := []) (q := (rd_R M (rd_R M a0 1) 1)) (ci := 7) mf_Rule_put mi_Rule_put ms_Rule_put (sw_m3 175 (by decide +kernel)) rfl (by decide) (by decide +kernel) rfl (Nat.le_of_ble_eq_true rfl) (by omega) h3 (o_Rule_put g (d := d - 1) (by omega) hu4) ?_
  show sw_F _ _ _ _ _ _ 76 [(2, .int b0), (0, .ref a0), (1, .int a1), (3, .int a3), (4, .int a4)] [] u4
  refine sf_blk [(.iinc 3 (1), 0, 0, .int (1 : Int32))] (lv' := [(3, .int (a3 + (1 : Int32))), (2, .int b0), (0, .ref a0), (1, .int a1), (4, .int a4)]) (st' := []) (M1 := u4) (ob := []) (pc' := 79) (by decide +kernel) rfl rfl sw_a0 ?_
  refine sf_goto (off := -71) (tgt := 8) (by decide +kernel) (by decide) ?_
  exact sf_weak [2, 3, 1, 0] rfl (hk8 _ _ _ _ _ hf)
def f_Reader_product_61 (N : Nat) (rc : Nat → Int32 → sw_M → Option (Int32 × sw_M)) (k8 : Nat → Int32 → Int32 → Int32 → sw_M → Option (Int32 × sw_M)) (a0 : Nat) (a1 : Int32) (a3 : Int32) (a4 : Int32) (M : sw_M) : Option (Int32 × sw_M) :=
  f_Reader_product_62 N rc k8 a0 a1 a3 a4 (0 : Int32) M
set_option maxRecDepth 10000 in
theorem t_Reader_product_61 {g : sw_G} {d n0 : Nat} (hd : 11 ≤ d) {r : Int32 × sw_M} (rc : Nat → Int32 → sw_M → Option (Int32 × sw_M)) {d0 : Nat} (hrc : ∀ (q : Nat) (a : Int32) (M : sw_M) (u : Int32 × sw_M), rc q a M = some u → sw_Ok g k_Reader_either d0 [.ref q, .int a] M (some (.int u.1)) u.2) (hd0 : d0 + 2 ≤ d) (k8 : Nat → Int32 → Int32 → Int32 → sw_M → Option (Int32 × sw_M)) (hk8 : ∀ (a0 : Nat) (a1 : Int32) (a2 : Int32) (a3 : Int32) (M : sw_M), k8 a0 a1 a2 a3 M = some r → sw_F g k_Reader_product d n0 (some (.int r.1)) r.2 8 [(0, .ref a0), (1, .int a1), (2, .int a2), (3, .int a3)] [] M) {N : Nat} {a0 : Nat} {a1 : Int32} {a3 : Int32} {a4 : Int32} {M : sw_M} (hf : f_Reader_product_61 N rc k8 a0 a1 a3 a4 M = some r) : sw_F g k_Reader_product d n0 (some (.int r.1)) r.2 61 [(0, .ref a0), (1, .int a1), (3, .int a3), (4, .int a4)] [] M := by
  unfold f_Reader_product_61 at hf
  refine sf_blk [(.iconst (0), 0, 0, .int (0 : Int32))] (lv' := [(0, .ref a0), (1, .int a1), (3, .int a3), (4, .int a4)]) (st' := [.int (0 : Int32)]) (M1 := M) (ob := []) (pc' := 62) (by decide +kernel) rfl rfl sw_a0 ?_
  exact sf_weak [0, 1, 2, 3] rfl (t_Reader_product_62 hd rc hrc hd0 _ hk8 hf)
def f_Reader_product_36 (N : Nat) (rc : Nat → Int32 → sw_M → Option (Int32 × sw_M)) (k8 : Nat → Int32 → Int32 → Int32 → sw_M → Option (Int32 × sw_M)) (a0 : Nat) (a1 : Int32) (a3 : Int32) (M : sw_M) : Option (Int32 × sw_M) :=
  sw_gd [sw_ok M a0 6] ((f_Reader_knot N a0 M).bind (fun u2 => if u2.1 = 0 then f_Reader_product_61 N rc k8 a0 a1 a3 (rd_I M a0 6) u2.2
  else sw_gd [sw_ok u2.2 a0 6] ((f_Reader_single N rc a0 a1 u2.2).bind (fun u4 => if u4.1 = 0 then f_Reader_product_61 N rc k8 a0 a1 a3 (rd_I M a0 6) u4.2
  else f_Reader_product_62 N rc k8 a0 a1 a3 (rd_I M a0 6) (1 : Int32) u4.2))))
set_option maxRecDepth 10000 in
theorem t_Reader_product_36 {g : sw_G} {d n0 : Nat} (hd : 11 ≤ d) {r : Int32 × sw_M} (rc : Nat → Int32 → sw_M → Option (Int32 × sw_M)) {d0 : Nat} (hrc : ∀ (q : Nat) (a : Int32) (M : sw_M) (u : Int32 × sw_M), rc q a M = some u → sw_Ok g k_Reader_either d0 [.ref q, .int a] M (some (.int u.1)) u.2) (hd0 : d0 + 2 ≤ d) (k8 : Nat → Int32 → Int32 → Int32 → sw_M → Option (Int32 × sw_M)) (hk8 : ∀ (a0 : Nat) (a1 : Int32) (a2 : Int32) (a3 : Int32) (M : sw_M), k8 a0 a1 a2 a3 M = some r → sw_F g k_Reader_product d n0 (some (.int r.1)) r.2 8 [(0, .ref a0), (1, .int a1), (2, .int a2), (3, .int a3)] [] M) {N : Nat} {a0 : Nat} {a1 : Int32} {a3 : Int32} {M : sw_M} (hf : f_Reader_product_36 N rc k8 a0 a1 a3 M = some r) : sw_F g k_Reader_product d n0 (some (.int r.1)) r.2 36 [(0, .ref a0), (1, .int a1), (3, .int a3)] [] M := by
  unfold f_Reader_product_36 at hf
  obtain ⟨h1, hf⟩ := sw_gd_1 hf
  refine sf_blk [(.aload_n 0, 0, 0, .null), (.getfield 51, 6, 6, .null), (.istore 4, 0, 0, .null), (.aload_n 0, 0, 0, .null)] (lv' := [(4, .int (rd_I M a0 6)), (0, .ref a0), (1, .int a1), (3, .int a3)]) (st' := [.ref a0]) (M1 := M) (ob := [sw_ok M a0 6]) (pc' := 43) (by decide +kernel) rfl rfl (sw_a1 h1 sw_a0) ?_
  obtain ⟨u2, hu2, hf⟩ := sw_bnd hf
  refine sf_callV (i := 143) (k2 := k_Reader_knot) (d2 := d - 1) (As := []) (st := []) (q := a0) (ci := 6) mf_Reader_knot mi_Reader_knot ms_Reader_knot (sw_m3 151 (by decide +kernel)) rfl (by decide) (by decide +kernel) rfl (Nat.le_of_ble_eq_true rfl) (by omega) h1 (o_Reader_knot g (d := d - 1) (by omega) hu2) ?_
  show sw_F _ _ _ _ _ _ 46 [(4, .int (rd_I M a0 6)), (0, .ref a0), (1, .int a1), (3, .int a3)] [.int u2.1] u2.2
  refine sf_z_eq (off := 15) (tgt := 61) (by decide +kernel) (by decide) hf (fun hc hf => ?_) (fun hc hf => ?_)
  · exact sf_weak [1, 2, 3, 0] rfl (t_Reader_product_61 hd rc hrc hd0 _ hk8 hf)
  · obtain ⟨h3, hf⟩ := sw_gd_1 hf
    refine sf_blk [(.aload_n 0, 0, 0, .null), (.iload_n 1, 0, 0, .null)] (lv' := [(4, .int (rd_I M a0 6)), (0, .ref a0), (1, .int a1), (3, .int a3)]) (st' := [.int a1, .ref a0]) (M1 := u2.2) (ob := []) (pc' := 51) (by decide +kernel) rfl rfl sw_a0 ?_
    obtain ⟨u4, hu4, hf⟩ := sw_bnd hf
    refine sf_callV (i := 161) (k2 := k_Reader_single) (d2 := d - 1) (As := [.int a1]) (st := []) (q := a0) (ci := 6) mf_Reader_single mi_Reader_single ms_Reader_single (sw_m3 167 (by decide +kernel)) rfl (by decide) (by decide +kernel) rfl (Nat.le_of_ble_eq_true rfl) (by omega) h3 (o_Reader_single g (d := d - 1) (by omega) rc hrc (by omega) hu4) ?_
    show sw_F _ _ _ _ _ _ 54 [(4, .int (rd_I M a0 6)), (0, .ref a0), (1, .int a1), (3, .int a3)] [.int u4.1] u4.2
    refine sf_z_eq (off := 7) (tgt := 61) (by decide +kernel) (by decide) hf (fun hc hf => ?_) (fun hc hf => ?_)
    · exact sf_weak [1, 2, 3, 0] rfl (t_Reader_product_61 hd rc hrc hd0 _ hk8 hf)
    · refine sf_blk [(.iconst (1), 0, 0, .int (1 : Int32))] (lv' := [(4, .int (rd_I M a0 6)), (0, .ref a0), (1, .int a1), (3, .int a3)]) (st' := [.int (1 : Int32)]) (M1 := u4.2) (ob := []) (pc' := 58) (by decide +kernel) rfl rfl sw_a0 ?_
      refine sf_goto (off := 4) (tgt := 62) (by decide +kernel) (by decide) ?_
      exact sf_weak [1, 2, 3, 0] rfl (t_Reader_product_62 hd rc hrc hd0 _ hk8 hf)
def f_Reader_product_8 (N : Nat) (rc : Nat → Int32 → sw_M → Option (Int32 × sw_M)) : Nat → Nat → Int32 → Int32 → Int32 → sw_M → Option (Int32 × sw_M)
  | 0, _, _, _, _, _ => none
  | j + 1, a0, a1, a2, a3, M =>
  if (48 : Int32) ≤ a3 then sw_gd [sw_bz a2] (some (a2, M))
  else if a2 = 0 then sw_gd [sw_bz a2] (some (a2, M))
  else sw_gd [sw_ok M a0 6] (if (rd_I M a0 6) = (9 : Int32) then f_Reader_product_36 N rc (f_Reader_product_8 N rc j) a0 a1 a3 M
  else if (rd_I M a0 6) = (10 : Int32) then f_Reader_product_36 N rc (f_Reader_product_8 N rc j) a0 a1 a3 M
  else sw_gd [sw_bz a2] (some (a2, M)))
set_option maxRecDepth 10000 in
theorem t_Reader_product_8 {g : sw_G} {d n0 : Nat} (hd : 11 ≤ d) {r : Int32 × sw_M} (rc : Nat → Int32 → sw_M → Option (Int32 × sw_M)) {d0 : Nat} (hrc : ∀ (q : Nat) (a : Int32) (M : sw_M) (u : Int32 × sw_M), rc q a M = some u → sw_Ok g k_Reader_either d0 [.ref q, .int a] M (some (.int u.1)) u.2) (hd0 : d0 + 2 ≤ d) {N : Nat} : ∀ (j : Nat) (a0 : Nat) (a1 : Int32) (a2 : Int32) (a3 : Int32) (M : sw_M), f_Reader_product_8 N rc j a0 a1 a2 a3 M = some r → sw_F g k_Reader_product d n0 (some (.int r.1)) r.2 8 [(0, .ref a0), (1, .int a1), (2, .int a2), (3, .int a3)] [] M := by
  intro j
  induction j with
  | zero =>
    intro a0 a1 a2 a3 M hf
    rw [f_Reader_product_8] at hf
    cases hf
  | succ j ih =>
    intro a0 a1 a2 a3 M hf
    rw [f_Reader_product_8] at hf
    refine sf_blk [(.iload_n 3, 0, 0, .null), (.bipush (48), 0, 0, .int (48 : Int32))] (lv' := [(0, .ref a0), (1, .int a1), (2, .int a2), (3, .int a3)]) (st' := [.int (48 : Int32), .int a3]) (M1 := M) (ob := []) (pc' := 11) (by decide +kernel) rfl rfl sw_a0 ?_
    refine sf_j_ge (off := 71) (tgt := 82) (by decide +kernel) (by decide) hf (fun hc hf => ?_) (fun hc hf => ?_)
    · obtain ⟨h1, hf⟩ := sw_gd_1 hf
      refine sf_blk [(.iload_n 2, 0, 0, .null)] (lv' := [(0, .ref a0), (1, .int a1), (2, .int a2), (3, .int a3)]) (st' := [.int a2]) (M1 := M) (ob := []) (pc' := 83) (by decide +kernel) rfl rfl sw_a0 ?_
      cases hf
      exact sf_bool rfl h1 (by decide +kernel)
    · refine sf_blk [(.iload_n 2, 0, 0, .null)] (lv' := [(0, .ref a0), (1, .int a1), (2, .int a2), (3, .int a3)]) (st' := [.int a2]) (M1 := M) (ob := []) (pc' := 15) (by decide +kernel) rfl rfl sw_a0 ?_
      refine sf_z_eq (off := 67) (tgt := 82) (by decide +kernel) (by decide) hf (fun hc hf => ?_) (fun hc hf => ?_)
      · obtain ⟨h2, hf⟩ := sw_gd_1 hf
        refine sf_blk [(.iload_n 2, 0, 0, .null)] (lv' := [(0, .ref a0), (1, .int a1), (2, .int a2), (3, .int a3)]) (st' := [.int a2]) (M1 := M) (ob := []) (pc' := 83) (by decide +kernel) rfl rfl sw_a0 ?_
        cases hf
        exact sf_bool rfl h2 (by decide +kernel)
      · obtain ⟨h3, hf⟩ := sw_gd_1 hf
        refine sf_blk [(.aload_n 0, 0, 0, .null), (.getfield 51, 6, 6, .null), (.bipush (9), 0, 0, .int (9 : Int32))] (lv' := [(0, .ref a0), (1, .int a1), (2, .int a2), (3, .int a3)]) (st' := [.int (9 : Int32), .int (rd_I M a0 6)]) (M1 := M) (ob := [sw_ok M a0 6]) (pc' := 24) (by decide +kernel) rfl rfl (sw_a1 h3 sw_a0) ?_
        refine sf_j_eq (off := 12) (tgt := 36) (by decide +kernel) (by decide) hf (fun hc hf => ?_) (fun hc hf => ?_)
        · exact sf_weak [0, 1, 3] rfl (t_Reader_product_36 hd rc hrc hd0 _ ih hf)
        · refine sf_blk [(.aload_n 0, 0, 0, .null), (.getfield 51, 6, 6, .null), (.bipush (10), 0, 0, .int (10 : Int32))] (lv' := [(0, .ref a0), (1, .int a1), (2, .int a2), (3, .int a3)]) (st' := [.int (10 : Int32), .int (rd_I M a0 6)]) (M1 := M) (ob := [sw_ok M a0 6]) (pc' := 33) (by decide +kernel) rfl rfl (sw_a1 h3 sw_a0) ?_
          refine sf_j_ne (off := 49) (tgt := 82) (by decide +kernel) (by decide) hf (fun hc hf => ?_) (fun hc hf => ?_)
          · obtain ⟨h4, hf⟩ := sw_gd_1 hf
            refine sf_blk [(.iload_n 2, 0, 0, .null)] (lv' := [(0, .ref a0), (1, .int a1), (2, .int a2), (3, .int a3)]) (st' := [.int a2]) (M1 := M) (ob := []) (pc' := 83) (by decide +kernel) rfl rfl sw_a0 ?_
            cases hf
            exact sf_bool rfl h4 (by decide +kernel)
          · exact sf_weak [0, 1, 3] rfl (t_Reader_product_36 hd rc hrc hd0 _ ih hf)
def f_Reader_product (N : Nat) (rc : Nat → Int32 → sw_M → Option (Int32 × sw_M)) (a0 : Nat) (a1 : Int32) (M : sw_M) : Option (Int32 × sw_M) :=
  sw_gd [sw_ok M a0 6] ((f_Reader_single N rc a0 a1 M).bind (fun u2 => f_Reader_product_8 N rc N a0 a1 u2.1 (0 : Int32) u2.2))
set_option maxRecDepth 10000 in
theorem t_Reader_product {g : sw_G} {d n0 : Nat} (hd : 11 ≤ d) {r : Int32 × sw_M} (rc : Nat → Int32 → sw_M → Option (Int32 × sw_M)) {d0 : Nat} (hrc : ∀ (q : Nat) (a : Int32) (M : sw_M) (u : Int32 × sw_M), rc q a M = some u → sw_Ok g k_Reader_either d0 [.ref q, .int a] M (some (.int u.1)) u.2) (hd0 : d0 + 2 ≤ d) {N : Nat} {a0 : Nat} {a1 : Int32} {M : sw_M} (hf : f_Reader_product N rc a0 a1 M = some r) : sw_F g k_Reader_product d n0 (some (.int r.1)) r.2 0 [(0, .ref a0), (1, .int a1)] [] M := by
  unfold f_Reader_product at hf
  obtain ⟨h1, hf⟩ := sw_gd_1 hf
  refine sf_blk [(.aload_n 0, 0, 0, .null), (.iload_n 1, 0, 0, .null)] (lv' := [(0, .ref a0), (1, .int a1)]) (st' := [.int a1, .ref a0]) (M1 := M) (ob := []) (pc' := 2) (by decide +kernel) rfl rfl sw_a0 ?_
  obtain ⟨u2, hu2, hf⟩ := sw_bnd hf
  refine sf_callV (i := 161) (k2 := k_Reader_single) (d2 := d - 1) (As := [.int a1]) (st := []) (q := a0) (ci := 6) mf_Reader_single mi_Reader_single ms_Reader_single (sw_m3 167 (by decide +kernel)) rfl (by decide) (by decide +kernel) rfl (Nat.le_of_ble_eq_true rfl) (by omega) h1 (o_Reader_single g (d := d - 1) (by omega) rc hrc (by omega) hu2) ?_
  show sw_F _ _ _ _ _ _ 5 [(0, .ref a0), (1, .int a1)] [.int u2.1] u2.2
  refine sf_blk [(.istore_n 2, 0, 0, .null), (.iconst (0), 0, 0, .int (0 : Int32)), (.istore_n 3, 0, 0, .null)] (lv' := [(3, .int (0 : Int32)), (2, .int u2.1), (0, .ref a0), (1, .int a1)]) (st' := []) (M1 := u2.2) (ob := []) (pc' := 8) (by decide +kernel) rfl rfl sw_a0 ?_
  exact sf_weak [2, 3, 1, 0] rfl (t_Reader_product_8 hd rc hrc hd0 _ _ _ _ _ _ hf)
theorem o_Reader_product (g : sw_G) {d : Nat} (hd : 11 ≤ d) (rc : Nat → Int32 → sw_M → Option (Int32 × sw_M)) {d0 : Nat} (hrc : ∀ (q : Nat) (a : Int32) (M : sw_M) (u : Int32 × sw_M), rc q a M = some u → sw_Ok g k_Reader_either d0 [.ref q, .int a] M (some (.int u.1)) u.2) (hd0 : d0 + 2 ≤ d) {N : Nat} {a0 : Nat} {a1 : Int32} {M : sw_M} {r : Int32 × sw_M} (hf : f_Reader_product N rc a0 a1 M = some r) : sw_Ok g k_Reader_product d [.ref a0, .int a1] M (some (.int r.1)) r.2 := sf_met (by decide +kernel) rfl (by decide) (Nat.le_of_ble_eq_true rfl) (t_Reader_product hd rc hrc hd0 hf)
def f_Reader_sum_62 (N : Nat) (rc : Nat → Int32 → sw_M → Option (Int32 × sw_M)) (k8 : Nat → Int32 → Int32 → Int32 → sw_M → Option (Int32 × sw_M)) (a0 : Nat) (a1 : Int32) (a3 : Int32) (a4 : Int32) (b0 : Int32) (M : sw_M) : Option (Int32 × sw_M) :=
  sw_gd [sw_ok M a0 6] (sw_gd [sw_ok M (rd_R M a0 1) 0] (sw_gd [sw_ok M (rd_R M (rd_R M a0 1) 1) 7] ((f_Rule_put N (rd_R M (rd_R M a0 1) 1) a4 (0 : Int32) M).bind (fun u4 => k8 a0 a1 b0 (a3 + (1 : Int32)) u4))))
set_option maxRecDepth 10000 in
theorem t_Reader_sum_62 {g : sw_G} {d n0 : Nat} (hd : 12 ≤ d) {r : Int32 × sw_M} (rc : Nat → Int32 → sw_M → Option (Int32 × sw_M)) {d0 : Nat} (hrc : ∀ (q : Nat) (a : Int32) (M : sw_M) (u : Int32 × sw_M), rc q a M = some u → sw_Ok g k_Reader_either d0 [.ref q, .int a] M (some (.int u.1)) u.2) (hd0 : d0 + 3 ≤ d) (k8 : Nat → Int32 → Int32 → Int32 → sw_M → Option (Int32 × sw_M)) (hk8 : ∀ (a0 : Nat) (a1 : Int32) (a2 : Int32) (a3 : Int32) (M : sw_M), k8 a0 a1 a2 a3 M = some r → sw_F g k_Reader_sum d n0 (some (.int r.1)) r.2 8 [(0, .ref a0), (1, .int a1), (2, .int a2), (3, .int a3)] [] M) {N : Nat} {a0 : Nat} {a1 : Int32} {a3 : Int32} {a4 : Int32} {b0 : Int32} {M : sw_M} (hf : f_Reader_sum_62 N rc k8 a0 a1 a3 a4 b0 M = some r) : sw_F g k_Reader_sum d n0 (some (.int r.1)) r.2 62 [(0, .ref a0), (1, .int a1), (3, .int a3), (4, .int a4)] [.int b0] M := by
  unfold f_Reader_sum_62 at hf
  obtain ⟨h1, hf⟩ := sw_gd_1 hf
  obtain ⟨h2, hf⟩ := sw_gd_1 hf
  obtain ⟨h3, hf⟩ := sw_gd_1 hf
  refine sf_blk [(.istore_n 2, 0, 0, .null), (.aload_n 0, 0, 0, .null), (.getfield 12, 6, 1, .null), (.getfield 128, 0, 1, .null), (.iload 4, 0, 0, .null), (.iconst (0), 0, 0, .int (0 : Int32))] (lv' := [(2, .int b0), (0, .ref a0), (1, .int a1), (3, .int a3), (4, .int a4)]) (st' := [.int (0 : Int32), .int a4, .ref (rd_R M (rd_R M a0 1) 1)]) (M1 := M) (ob := [sw_ok M a0 6, sw_ok M (rd_R M a0 1) 0]) (pc' := 73) (by decide +kernel) rfl rfl (sw_a1 h1 (sw_a1 h2 sw_a0)) ?_
  obtain ⟨u4, hu4, hf⟩ := sw_bnd hf
  refine sf_callV (i := 146) (k2 := k_Rule_put) (d2 := d - 1) (As := [.int a4, .int (0 : Int32)]) (st := []) (q := (rd_R M (rd_R M a0 1) 1)) (ci := 7) mf_Rule_put mi_Rule_put ms_Rule_put (sw_m3 175 (by decide +kernel)) rfl (by decide) (by decide +kernel) rfl (Nat.le_of_ble_eq_true rfl) (by omega) h3 (o_Rule_put g (d := d - 1) (by omega) hu4) ?_
  show sw_F _ _ _ _ _ _ 76 [(2, .int b0), (0, .ref a0), (1, .int a1), (3, .int a3), (4, .int a4)] [] u4
  refine sf_blk [(.iinc 3 (1), 0, 0, .int (1 : Int32))] (lv' := [(3, .int (a3 + (1 : Int32))), (2, .int b0), (0, .ref a0), (1, .int a1), (4, .int a4)]) (st' := []) (M1 := u4) (ob := []) (pc' := 79) (by decide +kernel) rfl rfl sw_a0 ?_
  refine sf_goto (off := -71) (tgt := 8) (by decide +kernel) (by decide) ?_
  exact sf_weak [2, 3, 1, 0] rfl (hk8 _ _ _ _ _ hf)
def f_Reader_sum_61 (N : Nat) (rc : Nat → Int32 → sw_M → Option (Int32 × sw_M)) (k8 : Nat → Int32 → Int32 → Int32 → sw_M → Option (Int32 × sw_M)) (a0 : Nat) (a1 : Int32) (a3 : Int32) (a4 : Int32) (M : sw_M) : Option (Int32 × sw_M) :=
  f_Reader_sum_62 N rc k8 a0 a1 a3 a4 (0 : Int32) M
set_option maxRecDepth 10000 in
theorem t_Reader_sum_61 {g : sw_G} {d n0 : Nat} (hd : 12 ≤ d) {r : Int32 × sw_M} (rc : Nat → Int32 → sw_M → Option (Int32 × sw_M)) {d0 : Nat} (hrc : ∀ (q : Nat) (a : Int32) (M : sw_M) (u : Int32 × sw_M), rc q a M = some u → sw_Ok g k_Reader_either d0 [.ref q, .int a] M (some (.int u.1)) u.2) (hd0 : d0 + 3 ≤ d) (k8 : Nat → Int32 → Int32 → Int32 → sw_M → Option (Int32 × sw_M)) (hk8 : ∀ (a0 : Nat) (a1 : Int32) (a2 : Int32) (a3 : Int32) (M : sw_M), k8 a0 a1 a2 a3 M = some r → sw_F g k_Reader_sum d n0 (some (.int r.1)) r.2 8 [(0, .ref a0), (1, .int a1), (2, .int a2), (3, .int a3)] [] M) {N : Nat} {a0 : Nat} {a1 : Int32} {a3 : Int32} {a4 : Int32} {M : sw_M} (hf : f_Reader_sum_61 N rc k8 a0 a1 a3 a4 M = some r) : sw_F g k_Reader_sum d n0 (some (.int r.1)) r.2 61 [(0, .ref a0), (1, .int a1), (3, .int a3), (4, .int a4)] [] M := by
  unfold f_Reader_sum_61 at hf
  refine sf_blk [(.iconst (0), 0, 0, .int (0 : Int32))] (lv' := [(0, .ref a0), (1, .int a1), (3, .int a3), (4, .int a4)]) (st' := [.int (0 : Int32)]) (M1 := M) (ob := []) (pc' := 62) (by decide +kernel) rfl rfl sw_a0 ?_
  exact sf_weak [0, 1, 2, 3] rfl (t_Reader_sum_62 hd rc hrc hd0 _ hk8 hf)
def f_Reader_sum_36 (N : Nat) (rc : Nat → Int32 → sw_M → Option (Int32 × sw_M)) (k8 : Nat → Int32 → Int32 → Int32 → sw_M → Option (Int32 × sw_M)) (a0 : Nat) (a1 : Int32) (a3 : Int32) (M : sw_M) : Option (Int32 × sw_M) :=
  sw_gd [sw_ok M a0 6] ((f_Reader_knot N a0 M).bind (fun u2 => if u2.1 = 0 then f_Reader_sum_61 N rc k8 a0 a1 a3 (rd_I M a0 6) u2.2
  else sw_gd [sw_ok u2.2 a0 6] ((f_Reader_product N rc a0 a1 u2.2).bind (fun u4 => if u4.1 = 0 then f_Reader_sum_61 N rc k8 a0 a1 a3 (rd_I M a0 6) u4.2
  else f_Reader_sum_62 N rc k8 a0 a1 a3 (rd_I M a0 6) (1 : Int32) u4.2))))
set_option maxRecDepth 10000 in
theorem t_Reader_sum_36 {g : sw_G} {d n0 : Nat} (hd : 12 ≤ d) {r : Int32 × sw_M} (rc : Nat → Int32 → sw_M → Option (Int32 × sw_M)) {d0 : Nat} (hrc : ∀ (q : Nat) (a : Int32) (M : sw_M) (u : Int32 × sw_M), rc q a M = some u → sw_Ok g k_Reader_either d0 [.ref q, .int a] M (some (.int u.1)) u.2) (hd0 : d0 + 3 ≤ d) (k8 : Nat → Int32 → Int32 → Int32 → sw_M → Option (Int32 × sw_M)) (hk8 : ∀ (a0 : Nat) (a1 : Int32) (a2 : Int32) (a3 : Int32) (M : sw_M), k8 a0 a1 a2 a3 M = some r → sw_F g k_Reader_sum d n0 (some (.int r.1)) r.2 8 [(0, .ref a0), (1, .int a1), (2, .int a2), (3, .int a3)] [] M) {N : Nat} {a0 : Nat} {a1 : Int32} {a3 : Int32} {M : sw_M} (hf : f_Reader_sum_36 N rc k8 a0 a1 a3 M = some r) : sw_F g k_Reader_sum d n0 (some (.int r.1)) r.2 36 [(0, .ref a0), (1, .int a1), (3, .int a3)] [] M := by
  unfold f_Reader_sum_36 at hf
  obtain ⟨h1, hf⟩ := sw_gd_1 hf
  refine sf_blk [(.aload_n 0, 0, 0, .null), (.getfield 51, 6, 6, .null), (.istore 4, 0, 0, .null), (.aload_n 0, 0, 0, .null)] (lv' := [(4, .int (rd_I M a0 6)), (0, .ref a0), (1, .int a1), (3, .int a3)]) (st' := [.ref a0]) (M1 := M) (ob := [sw_ok M a0 6]) (pc' := 43) (by decide +kernel) rfl rfl (sw_a1 h1 sw_a0) ?_
  obtain ⟨u2, hu2, hf⟩ := sw_bnd hf
  refine sf_callV (i := 143) (k2 := k_Reader_knot) (d2 := d - 1) (As := []) (st := []) (q := a0) (ci := 6) mf_Reader_knot mi_Reader_knot ms_Reader_knot (sw_m3 151 (by decide +kernel)) rfl (by decide) (by decide +kernel) rfl (Nat.le_of_ble_eq_true rfl) (by omega) h1 (o_Reader_knot g (d := d - 1) (by omega) hu2) ?_
  show sw_F _ _ _ _ _ _ 46 [(4, .int (rd_I M a0 6)), (0, .ref a0), (1, .int a1), (3, .int a3)] [.int u2.1] u2.2
  refine sf_z_eq (off := 15) (tgt := 61) (by decide +kernel) (by decide) hf (fun hc hf => ?_) (fun hc hf => ?_)
  · exact sf_weak [1, 2, 3, 0] rfl (t_Reader_sum_61 hd rc hrc hd0 _ hk8 hf)
  · obtain ⟨h3, hf⟩ := sw_gd_1 hf
    refine sf_blk [(.aload_n 0, 0, 0, .null), (.iload_n 1, 0, 0, .null)] (lv' := [(4, .int (rd_I M a0 6)), (0, .ref a0), (1, .int a1), (3, .int a3)]) (st' := [.int a1, .ref a0]) (M1 := u2.2) (ob := []) (pc' := 51) (by decide +kernel) rfl rfl sw_a0 ?_
    obtain ⟨u4, hu4, hf⟩ := sw_bnd hf
    refine sf_callV (i := 158) (k2 := k_Reader_product) (d2 := d - 1) (As := [.int a1]) (st := []) (q := a0) (ci := 6) mf_Reader_product mi_Reader_product ms_Reader_product (sw_m3 163 (by decide +kernel)) rfl (by decide) (by decide +kernel) rfl (Nat.le_of_ble_eq_true rfl) (by omega) h3 (o_Reader_product g (d := d - 1) (by omega) rc hrc (by omega) hu4) ?_
    show sw_F _ _ _ _ _ _ 54 [(4, .int (rd_I M a0 6)), (0, .ref a0), (1, .int a1), (3, .int a3)] [.int u4.1] u4.2
    refine sf_z_eq (off := 7) (tgt := 61) (by decide +kernel) (by decide) hf (fun hc hf => ?_) (fun hc hf => ?_)
    · exact sf_weak [1, 2, 3, 0] rfl (t_Reader_sum_61 hd rc hrc hd0 _ hk8 hf)
    · refine sf_blk [(.iconst (1), 0, 0, .int (1 : Int32))] (lv' := [(4, .int (rd_I M a0 6)), (0, .ref a0), (1, .int a1), (3, .int a3)]) (st' := [.int (1 : Int32)]) (M1 := u4.2) (ob := []) (pc' := 58) (by decide +kernel) rfl rfl sw_a0 ?_
      refine sf_goto (off := 4) (tgt := 62) (by decide +kernel) (by decide) ?_
      exact sf_weak [1, 2, 3, 0] rfl (t_Reader_sum_62 hd rc hrc hd0 _ hk8 hf)
def f_Reader_sum_8 (N : Nat) (rc : Nat → Int32 → sw_M → Option (Int32 × sw_M)) : Nat → Nat → Int32 → Int32 → Int32 → sw_M → Option (Int32 × sw_M)
  | 0, _, _, _, _, _ => none
  | j + 1, a0, a1, a2, a3, M =>
  if (48 : Int32) ≤ a3 then sw_gd [sw_bz a2] (some (a2, M))
  else if a2 = 0 then sw_gd [sw_bz a2] (some (a2, M))
  else sw_gd [sw_ok M a0 6] (if (rd_I M a0 6) = (7 : Int32) then f_Reader_sum_36 N rc (f_Reader_sum_8 N rc j) a0 a1 a3 M
  else if (rd_I M a0 6) = (8 : Int32) then f_Reader_sum_36 N rc (f_Reader_sum_8 N rc j) a0 a1 a3 M
  else sw_gd [sw_bz a2] (some (a2, M)))
set_option maxRecDepth 10000 in
theorem t_Reader_sum_8 {g : sw_G} {d n0 : Nat} (hd : 12 ≤ d) {r : Int32 × sw_M} (rc : Nat → Int32 → sw_M → Option (Int32 × sw_M)) {d0 : Nat} (hrc : ∀ (q : Nat) (a : Int32) (M : sw_M) (u : Int32 × sw_M), rc q a M = some u → sw_Ok g k_Reader_either d0 [.ref q, .int a] M (some (.int u.1)) u.2) (hd0 : d0 + 3 ≤ d) {N : Nat} : ∀ (j : Nat) (a0 : Nat) (a1 : Int32) (a2 : Int32) (a3 : Int32) (M : sw_M), f_Reader_sum_8 N rc j a0 a1 a2 a3 M = some r → sw_F g k_Reader_sum d n0 (some (.int r.1)) r.2 8 [(0, .ref a0), (1, .int a1), (2, .int a2), (3, .int a3)] [] M := by
  intro j
  induction j with
  | zero =>
    intro a0 a1 a2 a3 M hf
    rw [f_Reader_sum_8] at hf
    cases hf
  | succ j ih =>
    intro a0 a1 a2 a3 M hf
    rw [f_Reader_sum_8] at hf
    refine sf_blk [(.iload_n 3, 0, 0, .null), (.bipush (48), 0, 0, .int (48 : Int32))] (lv' := [(0, .ref a0), (1, .int a1), (2, .int a2), (3, .int a3)]) (st' := [.int (48 : Int32), .int a3]) (M1 := M) (ob := []) (pc' := 11) (by decide +kernel) rfl rfl sw_a0 ?_
    refine sf_j_ge (off := 71) (tgt := 82) (by decide +kernel) (by decide) hf (fun hc hf => ?_) (fun hc hf => ?_)
    · obtain ⟨h1, hf⟩ := sw_gd_1 hf
      refine sf_blk [(.iload_n 2, 0, 0, .null)] (lv' := [(0, .ref a0), (1, .int a1), (2, .int a2), (3, .int a3)]) (st' := [.int a2]) (M1 := M) (ob := []) (pc' := 83) (by decide +kernel) rfl rfl sw_a0 ?_
      cases hf
      exact sf_bool rfl h1 (by decide +kernel)
    · refine sf_blk [(.iload_n 2, 0, 0, .null)] (lv' := [(0, .ref a0), (1, .int a1), (2, .int a2), (3, .int a3)]) (st' := [.int a2]) (M1 := M) (ob := []) (pc' := 15) (by decide +kernel) rfl rfl sw_a0 ?_
      refine sf_z_eq (off := 67) (tgt := 82) (by decide +kernel) (by decide) hf (fun hc hf => ?_) (fun hc hf => ?_)
      · obtain ⟨h2, hf⟩ := sw_gd_1 hf
        refine sf_blk [(.iload_n 2, 0, 0, .null)] (lv' := [(0, .ref a0), (1, .int a1), (2, .int a2), (3, .int a3)]) (st' := [.int a2]) (M1 := M) (ob := []) (pc' := 83) (by decide +kernel) rfl rfl sw_a0 ?_
        cases hf
        exact sf_bool rfl h2 (by decide +kernel)
      · obtain ⟨h3, hf⟩ := sw_gd_1 hf
        refine sf_blk [(.aload_n 0, 0, 0, .null), (.getfield 51, 6, 6, .null), (.bipush (7), 0, 0, .int (7 : Int32))] (lv' := [(0, .ref a0), (1, .int a1), (2, .int a2), (3, .int a3)]) (st' := [.int (7 : Int32), .int (rd_I M a0 6)]) (M1 := M) (ob := [sw_ok M a0 6]) (pc' := 24) (by decide +kernel) rfl rfl (sw_a1 h3 sw_a0) ?_
        refine sf_j_eq (off := 12) (tgt := 36) (by decide +kernel) (by decide) hf (fun hc hf => ?_) (fun hc hf => ?_)
        · exact sf_weak [0, 1, 3] rfl (t_Reader_sum_36 hd rc hrc hd0 _ ih hf)
        · refine sf_blk [(.aload_n 0, 0, 0, .null), (.getfield 51, 6, 6, .null), (.bipush (8), 0, 0, .int (8 : Int32))] (lv' := [(0, .ref a0), (1, .int a1), (2, .int a2), (3, .int a3)]) (st' := [.int (8 : Int32), .int (rd_I M a0 6)]) (M1 := M) (ob := [sw_ok M a0 6]) (pc' := 33) (by decide +kernel) rfl rfl (sw_a1 h3 sw_a0) ?_
          refine sf_j_ne (off := 49) (tgt := 82) (by decide +kernel) (by decide) hf (fun hc hf => ?_) (fun hc hf => ?_)
          · obtain ⟨h4, hf⟩ := sw_gd_1 hf
            refine sf_blk [(.iload_n 2, 0, 0, .null)] (lv' := [(0, .ref a0), (1, .int a1), (2, .int a2), (3, .int a3)]) (st' := [.int a2]) (M1 := M) (ob := []) (pc' := 83) (by decide +kernel) rfl rfl sw_a0 ?_
            cases hf
            exact sf_bool rfl h4 (by decide +kernel)
          · exact sf_weak [0, 1, 3] rfl (t_Reader_sum_36 hd rc hrc hd0 _ ih hf)
def f_Reader_sum (N : Nat) (rc : Nat → Int32 → sw_M → Option (Int32 × sw_M)) (a0 : Nat) (a1 : Int32) (M : sw_M) : Option (Int32 × sw_M) :=
  sw_gd [sw_ok M a0 6] ((f_Reader_product N rc a0 a1 M).bind (fun u2 => f_Reader_sum_8 N rc N a0 a1 u2.1 (0 : Int32) u2.2))
set_option maxRecDepth 10000 in
theorem t_Reader_sum {g : sw_G} {d n0 : Nat} (hd : 12 ≤ d) {r : Int32 × sw_M} (rc : Nat → Int32 → sw_M → Option (Int32 × sw_M)) {d0 : Nat} (hrc : ∀ (q : Nat) (a : Int32) (M : sw_M) (u : Int32 × sw_M), rc q a M = some u → sw_Ok g k_Reader_either d0 [.ref q, .int a] M (some (.int u.1)) u.2) (hd0 : d0 + 3 ≤ d) {N : Nat} {a0 : Nat} {a1 : Int32} {M : sw_M} (hf : f_Reader_sum N rc a0 a1 M = some r) : sw_F g k_Reader_sum d n0 (some (.int r.1)) r.2 0 [(0, .ref a0), (1, .int a1)] [] M := by
  unfold f_Reader_sum at hf
  obtain ⟨h1, hf⟩ := sw_gd_1 hf
  refine sf_blk [(.aload_n 0, 0, 0, .null), (.iload_n 1, 0, 0, .null)] (lv' := [(0, .ref a0), (1, .int a1)]) (st' := [.int a1, .ref a0]) (M1 := M) (ob := []) (pc' := 2) (by decide +kernel) rfl rfl sw_a0 ?_
  obtain ⟨u2, hu2, hf⟩ := sw_bnd hf
  refine sf_callV (i := 158) (k2 := k_Reader_product) (d2 := d - 1) (As := [.int a1]) (st := []) (q := a0) (ci := 6) mf_Reader_product mi_Reader_product ms_Reader_product (sw_m3 163 (by decide +kernel)) rfl (by decide) (by decide +kernel) rfl (Nat.le_of_ble_eq_true rfl) (by omega) h1 (o_Reader_product g (d := d - 1) (by omega) rc hrc (by omega) hu2) ?_
  show sw_F _ _ _ _ _ _ 5 [(0, .ref a0), (1, .int a1)] [.int u2.1] u2.2
  refine sf_blk [(.istore_n 2, 0, 0, .null), (.iconst (0), 0, 0, .int (0 : Int32)), (.istore_n 3, 0, 0, .null)] (lv' := [(3, .int (0 : Int32)), (2, .int u2.1), (0, .ref a0), (1, .int a1)]) (st' := []) (M1 := u2.2) (ob := []) (pc' := 8) (by decide +kernel) rfl rfl sw_a0 ?_
  exact sf_weak [2, 3, 1, 0] rfl (t_Reader_sum_8 hd rc hrc hd0 _ _ _ _ _ _ hf)
theorem o_Reader_sum (g : sw_G) {d : Nat} (hd : 12 ≤ d) (rc : Nat → Int32 → sw_M → Option (Int32 × sw_M)) {d0 : Nat} (hrc : ∀ (q : Nat) (a : Int32) (M : sw_M) (u : Int32 × sw_M), rc q a M = some u → sw_Ok g k_Reader_either d0 [.ref q, .int a] M (some (.int u.1)) u.2) (hd0 : d0 + 3 ≤ d) {N : Nat} {a0 : Nat} {a1 : Int32} {M : sw_M} {r : Int32 × sw_M} (hf : f_Reader_sum N rc a0 a1 M = some r) : sw_Ok g k_Reader_sum d [.ref a0, .int a1] M (some (.int r.1)) r.2 := sf_met (by decide +kernel) rfl (by decide) (Nat.le_of_ble_eq_true rfl) (t_Reader_sum hd rc hrc hd0 hf)
def f_Reader_compared_49 (N : Nat) (rc : Nat → Int32 → sw_M → Option (Int32 × sw_M)) (a0 : Nat) (a2 : Int32) (b0 : Int32) (M : sw_M) : Option (Int32 × sw_M) :=
  sw_gd [sw_ok M a0 6] (sw_gd [sw_ok M (rd_R M a0 1) 0] (sw_gd [sw_ok M (rd_R M (rd_R M a0 1) 1) 7] ((f_Rule_put N (rd_R M (rd_R M a0 1) 1) a2 (0 : Int32) M).bind (fun u4 => sw_gd [sw_bz b0] (some (b0, u4))))))
set_option maxRecDepth 10000 in
theorem t_Reader_compared_49 {g : sw_G} {d n0 : Nat} (hd : 13 ≤ d) {r : Int32 × sw_M} (rc : Nat → Int32 → sw_M → Option (Int32 × sw_M)) {d0 : Nat} (hrc : ∀ (q : Nat) (a : Int32) (M : sw_M) (u : Int32 × sw_M), rc q a M = some u → sw_Ok g k_Reader_either d0 [.ref q, .int a] M (some (.int u.1)) u.2) (hd0 : d0 + 4 ≤ d) {N : Nat} {a0 : Nat} {a2 : Int32} {b0 : Int32} {M : sw_M} (hf : f_Reader_compared_49 N rc a0 a2 b0 M = some r) : sw_F g k_Reader_compared d n0 (some (.int r.1)) r.2 49 [(0, .ref a0), (2, .int a2)] [.int b0] M := by
  unfold f_Reader_compared_49 at hf
  obtain ⟨h1, hf⟩ := sw_gd_1 hf
  obtain ⟨h2, hf⟩ := sw_gd_1 hf
  obtain ⟨h3, hf⟩ := sw_gd_1 hf
  refine sf_blk [(.istore_n 3, 0, 0, .null), (.aload_n 0, 0, 0, .null), (.getfield 12, 6, 1, .null), (.getfield 128, 0, 1, .null), (.iload_n 2, 0, 0, .null), (.iconst (0), 0, 0, .int (0 : Int32))] (lv' := [(3, .int b0), (0, .ref a0), (2, .int a2)]) (st' := [.int (0 : Int32), .int a2, .ref (rd_R M (rd_R M a0 1) 1)]) (M1 := M) (ob := [sw_ok M a0 6, sw_ok M (rd_R M a0 1) 0]) (pc' := 59) (by decide +kernel) rfl rfl (sw_a1 h1 (sw_a1 h2 sw_a0)) ?_
  obtain ⟨u4, hu4, hf⟩ := sw_bnd hf
  refine sf_callV (i := 146) (k2 := k_Rule_put) (d2 := d - 1) (As := [.int a2, .int (0 : Int32)]) (st := []) (q := (rd_R M (rd_R M a0 1) 1)) (ci := 7) mf_Rule_put mi_Rule_put ms_Rule_put (sw_m3 175 (by decide +kernel)) rfl (by decide) (by decide +kernel) rfl (Nat.le_of_ble_eq_true rfl) (by omega) h3 (o_Rule_put g (d := d - 1) (by omega) hu4) ?_
  show sw_F _ _ _ _ _ _ 62 [(3, .int b0), (0, .ref a0), (2, .int a2)] [] u4
  obtain ⟨h5, hf⟩ := sw_gd_1 hf
  refine sf_blk [(.iload_n 3, 0, 0, .null)] (lv' := [(3, .int b0), (0, .ref a0), (2, .int a2)]) (st' := [.int b0]) (M1 := u4) (ob := []) (pc' := 63) (by decide +kernel) rfl rfl sw_a0 ?_
  cases hf
  exact sf_bool rfl h5 (by decide +kernel)
def f_Reader_compared_48 (N : Nat) (rc : Nat → Int32 → sw_M → Option (Int32 × sw_M)) (a0 : Nat) (a2 : Int32) (M : sw_M) : Option (Int32 × sw_M) :=
  f_Reader_compared_49 N rc a0 a2 (0 : Int32) M
set_option maxRecDepth 10000 in
theorem t_Reader_compared_48 {g : sw_G} {d n0 : Nat} (hd : 13 ≤ d) {r : Int32 × sw_M} (rc : Nat → Int32 → sw_M → Option (Int32 × sw_M)) {d0 : Nat} (hrc : ∀ (q : Nat) (a : Int32) (M : sw_M) (u : Int32 × sw_M), rc q a M = some u → sw_Ok g k_Reader_either d0 [.ref q, .int a] M (some (.int u.1)) u.2) (hd0 : d0 + 4 ≤ d) {N : Nat} {a0 : Nat} {a2 : Int32} {M : sw_M} (hf : f_Reader_compared_48 N rc a0 a2 M = some r) : sw_F g k_Reader_compared d n0 (some (.int r.1)) r.2 48 [(0, .ref a0), (2, .int a2)] [] M := by
  unfold f_Reader_compared_48 at hf
  refine sf_blk [(.iconst (0), 0, 0, .int (0 : Int32))] (lv' := [(0, .ref a0), (2, .int a2)]) (st' := [.int (0 : Int32)]) (M1 := M) (ob := []) (pc' := 49) (by decide +kernel) rfl rfl sw_a0 ?_
  exact sf_weak [0, 1] rfl (t_Reader_compared_49 hd rc hrc hd0 hf)
def f_Reader_compared (N : Nat) (rc : Nat → Int32 → sw_M → Option (Int32 × sw_M)) (a0 : Nat) (a1 : Int32) (M : sw_M) : Option (Int32 × sw_M) :=
  sw_gd [sw_ok M a0 6] ((f_Reader_sum N rc a0 a1 M).bind (fun u2 => if u2.1 = 0 then some ((0 : Int32), u2.2)
  else sw_gd [sw_ok u2.2 a0 6] (if (rd_I u2.2 a0 6) < (11 : Int32) then some ((1 : Int32), u2.2)
  else if (rd_I u2.2 a0 6) ≤ (16 : Int32) then (f_Reader_knot N a0 u2.2).bind (fun u4 => if u4.1 = 0 then f_Reader_compared_48 N rc a0 (rd_I u2.2 a0 6) u4.2
  else sw_gd [sw_ok u4.2 a0 6] ((f_Reader_sum N rc a0 a1 u4.2).bind (fun u6 => if u6.1 = 0 then f_Reader_compared_48 N rc a0 (rd_I u2.2 a0 6) u6.2
  else f_Reader_compared_49 N rc a0 (rd_I u2.2 a0 6) (1 : Int32) u6.2)))
  else some ((1 : Int32), u2.2))))
set_option maxRecDepth 10000 in
theorem t_Reader_compared {g : sw_G} {d n0 : Nat} (hd : 13 ≤ d) {r : Int32 × sw_M} (rc : Nat → Int32 → sw_M → Option (Int32 × sw_M)) {d0 : Nat} (hrc : ∀ (q : Nat) (a : Int32) (M : sw_M) (u : Int32 × sw_M), rc q a M = some u → sw_Ok g k_Reader_either d0 [.ref q, .int a] M (some (.int u.1)) u.2) (hd0 : d0 + 4 ≤ d) {N : Nat} {a0 : Nat} {a1 : Int32} {M : sw_M} (hf : f_Reader_compared N rc a0 a1 M = some r) : sw_F g k_Reader_compared d n0 (some (.int r.1)) r.2 0 [(0, .ref a0), (1, .int a1)] [] M := by
  unfold f_Reader_compared at hf
  obtain ⟨h1, hf⟩ := sw_gd_1 hf
  refine sf_blk [(.aload_n 0, 0, 0, .null), (.iload_n 1, 0, 0, .null)] (lv' := [(0, .ref a0), (1, .int a1)]) (st' := [.int a1, .ref a0]) (M1 := M) (ob := []) (pc' := 2) (by decide +kernel) rfl rfl sw_a0 ?_
  obtain ⟨u2, hu2, hf⟩ := sw_bnd hf
  refine sf_callV (i := 155) (k2 := k_Reader_sum) (d2 := d - 1) (As := [.int a1]) (st := []) (q := a0) (ci := 6) mf_Reader_sum mi_Reader_sum ms_Reader_sum (sw_m3 159 (by decide +kernel)) rfl (by decide) (by decide +kernel) rfl (Nat.le_of_ble_eq_true rfl) (by omega) h1 (o_Reader_sum g (d := d - 1) (by omega) rc hrc (by omega) hu2) ?_
  show sw_F _ _ _ _ _ _ 5 [(0, .ref a0), (1, .int a1)] [.int u2.1] u2.2
  refine sf_z_ne (off := 5) (tgt := 10) (by decide +kernel) (by decide) hf (fun hc hf => ?_) (fun hc hf => ?_)
  · obtain ⟨h3, hf⟩ := sw_gd_1 hf
    refine sf_blk [(.aload_n 0, 0, 0, .null), (.getfield 51, 6, 6, .null), (.istore_n 2, 0, 0, .null), (.iload_n 2, 0, 0, .null), (.bipush (11), 0, 0, .int (11 : Int32))] (lv' := [(2, .int (rd_I u2.2 a0 6)), (0, .ref a0), (1, .int a1)]) (st' := [.int (11 : Int32), .int (rd_I u2.2 a0 6)]) (M1 := u2.2) (ob := [sw_ok u2.2 a0 6]) (pc' := 18) (by decide +kernel) rfl rfl (sw_a1 h3 sw_a0) ?_
    refine sf_j_lt (off := 9) (tgt := 27) (by decide +kernel) (by decide) hf (fun hc hf => ?_) (fun hc hf => ?_)
    · refine sf_blk [(.iconst (1), 0, 0, .int (1 : Int32))] (lv' := [(2, .int (rd_I u2.2 a0 6)), (0, .ref a0), (1, .int a1)]) (st' := [.int (1 : Int32)]) (M1 := u2.2) (ob := []) (pc' := 28) (by decide +kernel) rfl rfl sw_a0 ?_
      cases hf
      exact sf_bool rfl rfl (by decide +kernel)
    · refine sf_blk [(.iload_n 2, 0, 0, .null), (.bipush (16), 0, 0, .int (16 : Int32))] (lv' := [(2, .int (rd_I u2.2 a0 6)), (0, .ref a0), (1, .int a1)]) (st' := [.int (16 : Int32), .int (rd_I u2.2 a0 6)]) (M1 := u2.2) (ob := []) (pc' := 24) (by decide +kernel) rfl rfl sw_a0 ?_
      refine sf_j_le (off := 5) (tgt := 29) (by decide +kernel) (by decide) hf (fun hc hf => ?_) (fun hc hf => ?_)
      · refine sf_blk [(.aload_n 0, 0, 0, .null)] (lv' := [(2, .int (rd_I u2.2 a0 6)), (0, .ref a0), (1, .int a1)]) (st' := [.ref a0]) (M1 := u2.2) (ob := []) (pc' := 30) (by decide +kernel) rfl rfl sw_a0 ?_
        obtain ⟨u4, hu4, hf⟩ := sw_bnd hf
        refine sf_callV (i := 143) (k2 := k_Reader_knot) (d2 := d - 1) (As := []) (st := []) (q := a0) (ci := 6) mf_Reader_knot mi_Reader_knot ms_Reader_knot (sw_m3 151 (by decide +kernel)) rfl (by decide) (by decide +kernel) rfl (Nat.le_of_ble_eq_true rfl) (by omega) h3 (o_Reader_knot g (d := d - 1) (by omega) hu4) ?_
        show sw_F _ _ _ _ _ _ 33 [(2, .int (rd_I u2.2 a0 6)), (0, .ref a0), (1, .int a1)] [.int u4.1] u4.2
        refine sf_z_eq (off := 15) (tgt := 48) (by decide +kernel) (by decide) hf (fun hc hf => ?_) (fun hc hf => ?_)
        · exact sf_weak [1, 0] rfl (t_Reader_compared_48 hd rc hrc hd0 hf)
        · obtain ⟨h5, hf⟩ := sw_gd_1 hf
          refine sf_blk [(.aload_n 0, 0, 0, .null), (.iload_n 1, 0, 0, .null)] (lv' := [(2, .int (rd_I u2.2 a0 6)), (0, .ref a0), (1, .int a1)]) (st' := [.int a1, .ref a0]) (M1 := u4.2) (ob := []) (pc' := 38) (by decide +kernel) rfl rfl sw_a0 ?_
          obtain ⟨u6, hu6, hf⟩ := sw_bnd hf
          refine sf_callV (i := 155) (k2 := k_Reader_sum) (d2 := d - 1) (As := [.int a1]) (st := []) (q := a0) (ci := 6) mf_Reader_sum mi_Reader_sum ms_Reader_sum (sw_m3 159 (by decide +kernel)) rfl (by decide) (by decide +kernel) rfl (Nat.le_of_ble_eq_true rfl) (by omega) h5 (o_Reader_sum g (d := d - 1) (by omega) rc hrc (by omega) hu6) ?_
          show sw_F _ _ _ _ _ _ 41 [(2, .int (rd_I u2.2 a0 6)), (0, .ref a0), (1, .int a1)] [.int u6.1] u6.2
          refine sf_z_eq (off := 7) (tgt := 48) (by decide +kernel) (by decide) hf (fun hc hf => ?_) (fun hc hf => ?_)
          · exact sf_weak [1, 0] rfl (t_Reader_compared_48 hd rc hrc hd0 hf)
          · refine sf_blk [(.iconst (1), 0, 0, .int (1 : Int32))] (lv' := [(2, .int (rd_I u2.2 a0 6)), (0, .ref a0), (1, .int a1)]) (st' := [.int (1 : Int32)]) (M1 := u6.2) (ob := []) (pc' := 45) (by decide +kernel) rfl rfl sw_a0 ?_
            refine sf_goto (off := 4) (tgt := 49) (by decide +kernel) (by decide) ?_
            exact sf_weak [1, 0] rfl (t_Reader_compared_49 hd rc hrc hd0 hf)
      · refine sf_blk [(.iconst (1), 0, 0, .int (1 : Int32))] (lv' := [(2, .int (rd_I u2.2 a0 6)), (0, .ref a0), (1, .int a1)]) (st' := [.int (1 : Int32)]) (M1 := u2.2) (ob := []) (pc' := 28) (by decide +kernel) rfl rfl sw_a0 ?_
        cases hf
        exact sf_bool rfl rfl (by decide +kernel)
  · refine sf_blk [(.iconst (0), 0, 0, .int (0 : Int32))] (lv' := [(0, .ref a0), (1, .int a1)]) (st' := [.int (0 : Int32)]) (M1 := u2.2) (ob := []) (pc' := 9) (by decide +kernel) rfl rfl sw_a0 ?_
    cases hf
    exact sf_bool rfl rfl (by decide +kernel)
theorem o_Reader_compared (g : sw_G) {d : Nat} (hd : 13 ≤ d) (rc : Nat → Int32 → sw_M → Option (Int32 × sw_M)) {d0 : Nat} (hrc : ∀ (q : Nat) (a : Int32) (M : sw_M) (u : Int32 × sw_M), rc q a M = some u → sw_Ok g k_Reader_either d0 [.ref q, .int a] M (some (.int u.1)) u.2) (hd0 : d0 + 4 ≤ d) {N : Nat} {a0 : Nat} {a1 : Int32} {M : sw_M} {r : Int32 × sw_M} (hf : f_Reader_compared N rc a0 a1 M = some r) : sw_Ok g k_Reader_compared d [.ref a0, .int a1] M (some (.int r.1)) r.2 := sf_met (by decide +kernel) rfl (by decide) (Nat.le_of_ble_eq_true rfl) (t_Reader_compared hd rc hrc hd0 hf)
def f_Reader_denied_41 (N : Nat) (rc : Nat → Int32 → sw_M → Option (Int32 × sw_M)) : Nat → Nat → Int32 → Int32 → Int32 → sw_M → Option (Int32 × sw_M)
  | 0, _, _, _, _, _ => none
  | j + 1, a0, a2, a3, a4, M =>
  if a2 ≤ a4 then sw_gd [sw_bz a3] (some (a3, M))
  else sw_gd [sw_ok M a0 6] (sw_gd [sw_ok M (rd_R M a0 1) 0] (sw_gd [sw_ok M (rd_R M (rd_R M a0 1) 1) 7] ((f_Rule_put N (rd_R M (rd_R M a0 1) 1) (28 : Int32) (0 : Int32) M).bind (fun u5 => f_Reader_denied_41 N rc j a0 a2 a3 (a4 + (1 : Int32)) u5))))
set_option maxRecDepth 10000 in
theorem t_Reader_denied_41 {g : sw_G} {d n0 : Nat} (hd : 14 ≤ d) {r : Int32 × sw_M} (rc : Nat → Int32 → sw_M → Option (Int32 × sw_M)) {d0 : Nat} (hrc : ∀ (q : Nat) (a : Int32) (M : sw_M) (u : Int32 × sw_M), rc q a M = some u → sw_Ok g k_Reader_either d0 [.ref q, .int a] M (some (.int u.1)) u.2) (hd0 : d0 + 5 ≤ d) {N : Nat} : ∀ (j : Nat) (a0 : Nat) (a2 : Int32) (a3 : Int32) (a4 : Int32) (M : sw_M), f_Reader_denied_41 N rc j a0 a2 a3 a4 M = some r → sw_F g k_Reader_denied d n0 (some (.int r.1)) r.2 41 [(0, .ref a0), (2, .int a2), (3, .int a3), (4, .int a4)] [] M := by
  intro j
  induction j with
  | zero =>
    intro a0 a2 a3 a4 M hf
    rw [f_Reader_denied_41] at hf
    cases hf
  | succ j ih =>
    intro a0 a2 a3 a4 M hf
    rw [f_Reader_denied_41] at hf
    refine sf_blk [(.iload 4, 0, 0, .null), (.iload_n 2, 0, 0, .null)] (lv' := [(0, .ref a0), (2, .int a2), (3, .int a3), (4, .int a4)]) (st' := [.int a2, .int a4]) (M1 := M) (ob := []) (pc' := 44) (by decide +kernel) rfl rfl sw_a0 ?_
    refine sf_j_ge (off := 22) (tgt := 66) (by decide +kernel) (by decide) hf (fun hc hf => ?_) (fun hc hf => ?_)
    · obtain ⟨h1, hf⟩ := sw_gd_1 hf
      refine sf_blk [(.iload_n 3, 0, 0, .null)] (lv' := [(0, .ref a0), (2, .int a2), (3, .int a3), (4, .int a4)]) (st' := [.int a3]) (M1 := M) (ob := []) (pc' := 67) (by decide +kernel) rfl rfl sw_a0 ?_
      cases hf
      exact sf_bool rfl h1 (by decide +kernel)
    · obtain ⟨h2, hf⟩ := sw_gd_1 hf
      obtain ⟨h3, hf⟩ := sw_gd_1 hf
      obtain ⟨h4, hf⟩ := sw_gd_1 hf
      refine sf_blk [(.aload_n 0, 0, 0, .null), (.getfield 12, 6, 1, .null), (.getfield 128, 0, 1, .null), (.bipush (28), 0, 0, .int (28 : Int32)), (.iconst (0), 0, 0, .int (0 : Int32))] (lv' := [(0, .ref a0), (2, .int a2), (3, .int a3), (4, .int a4)]) (st' := [.int (0 : Int32), .int (28 : Int32), .ref (rd_R M (rd_R M a0 1) 1)]) (M1 := M) (ob := [sw_ok M a0 6, sw_ok M (rd_R M a0 1) 0]) (pc' := 57) (by decide +kernel) rfl rfl (sw_a1 h2 (sw_a1 h3 sw_a0)) ?_
      obtain ⟨u5, hu5, hf⟩ := sw_bnd hf
      refine sf_callV (i := 146) (k2 := k_Rule_put) (d2 := d - 1) (As := [.int (28 : Int32), .int (0 : Int32)]) (st := []) (q := (rd_R M (rd_R M a0 1) 1)) (ci := 7) mf_Rule_put mi_Rule_put ms_Rule_put (sw_m3 175 (by decide +kernel)) rfl (by decide) (by decide +kernel) rfl (Nat.le_of_ble_eq_true rfl) (by omega) h4 (o_Rule_put g (d := d - 1) (by omega) hu5) ?_
      show sw_F _ _ _ _ _ _ 60 [(0, .ref a0), (2, .int a2), (3, .int a3), (4, .int a4)] [] u5
      refine sf_blk [(.iinc 4 (1), 0, 0, .int (1 : Int32))] (lv' := [(4, .int (a4 + (1 : Int32))), (0, .ref a0), (2, .int a2), (3, .int a3)]) (st' := []) (M1 := u5) (ob := []) (pc' := 63) (by decide +kernel) rfl rfl sw_a0 ?_
      refine sf_goto (off := -22) (tgt := 41) (by decide +kernel) (by decide) ?_
      exact sf_weak [1, 2, 3, 0] rfl (ih _ _ _ _ _ hf)
def f_Reader_denied_32 (N : Nat) (rc : Nat → Int32 → sw_M → Option (Int32 × sw_M)) (a0 : Nat) (a1 : Int32) (a2 : Int32) (M : sw_M) : Option (Int32 × sw_M) :=
  sw_gd [sw_ok M a0 6] ((f_Reader_compared N rc a0 a1 M).bind (fun u2 => f_Reader_denied_41 N rc N a0 a2 u2.1 (0 : Int32) u2.2))
set_option maxRecDepth 10000 in
theorem t_Reader_denied_32 {g : sw_G} {d n0 : Nat} (hd : 14 ≤ d) {r : Int32 × sw_M} (rc : Nat → Int32 → sw_M → Option (Int32 × sw_M)) {d0 : Nat} (hrc : ∀ (q : Nat) (a : Int32) (M : sw_M) (u : Int32 × sw_M), rc q a M = some u → sw_Ok g k_Reader_either d0 [.ref q, .int a] M (some (.int u.1)) u.2) (hd0 : d0 + 5 ≤ d) {N : Nat} {a0 : Nat} {a1 : Int32} {a2 : Int32} {M : sw_M} (hf : f_Reader_denied_32 N rc a0 a1 a2 M = some r) : sw_F g k_Reader_denied d n0 (some (.int r.1)) r.2 32 [(0, .ref a0), (1, .int a1), (2, .int a2)] [] M := by
  unfold f_Reader_denied_32 at hf
  obtain ⟨h1, hf⟩ := sw_gd_1 hf
  refine sf_blk [(.aload_n 0, 0, 0, .null), (.iload_n 1, 0, 0, .null)] (lv' := [(0, .ref a0), (1, .int a1), (2, .int a2)]) (st' := [.int a1, .ref a0]) (M1 := M) (ob := []) (pc' := 34) (by decide +kernel) rfl rfl sw_a0 ?_
  obtain ⟨u2, hu2, hf⟩ := sw_bnd hf
  refine sf_callV (i := 152) (k2 := k_Reader_compared) (d2 := d - 1) (As := [.int a1]) (st := []) (q := a0) (ci := 6) mf_Reader_compared mi_Reader_compared ms_Reader_compared (sw_m3 155 (by decide +kernel)) rfl (by decide) (by decide +kernel) rfl (Nat.le_of_ble_eq_true rfl) (by omega) h1 (o_Reader_compared g (d := d - 1) (by omega) rc hrc (by omega) hu2) ?_
  show sw_F _ _ _ _ _ _ 37 [(0, .ref a0), (1, .int a1), (2, .int a2)] [.int u2.1] u2.2
  refine sf_blk [(.istore_n 3, 0, 0, .null), (.iconst (0), 0, 0, .int (0 : Int32)), (.istore 4, 0, 0, .null)] (lv' := [(4, .int (0 : Int32)), (3, .int u2.1), (0, .ref a0), (1, .int a1), (2, .int a2)]) (st' := []) (M1 := u2.2) (ob := []) (pc' := 41) (by decide +kernel) rfl rfl sw_a0 ?_
  exact sf_weak [2, 4, 1, 0] rfl (t_Reader_denied_41 hd rc hrc hd0 _ _ _ _ _ _ hf)
def f_Reader_denied_2 (N : Nat) (rc : Nat → Int32 → sw_M → Option (Int32 × sw_M)) : Nat → Nat → Int32 → Int32 → sw_M → Option (Int32 × sw_M)
  | 0, _, _, _, _ => none
  | j + 1, a0, a1, a2, M =>
  if (48 : Int32) < a2 then f_Reader_denied_32 N rc a0 a1 a2 M
  else sw_gd [sw_ok M a0 6] (if (rd_I M a0 6) = (28 : Int32) then (f_Reader_knot N a0 M).bind (fun u2 => if u2.1 = 0 then some ((0 : Int32), u2.2)
  else f_Reader_denied_2 N rc j a0 a1 (a2 + (1 : Int32)) u2.2)
  else f_Reader_denied_32 N rc a0 a1 a2 M)
set_option maxRecDepth 10000 in
theorem t_Reader_denied_2 {g : sw_G} {d n0 : Nat} (hd : 14 ≤ d) {r : Int32 × sw_M} (rc : Nat → Int32 → sw_M → Option (Int32 × sw_M)) {d0 : Nat} (hrc : ∀ (q : Nat) (a : Int32) (M : sw_M) (u : Int32 × sw_M), rc q a M = some u → sw_Ok g k_Reader_either d0 [.ref q, .int a] M (some (.int u.1)) u.2) (hd0 : d0 + 5 ≤ d) {N : Nat} : ∀ (j : Nat) (a0 : Nat) (a1 : Int32) (a2 : Int32) (M : sw_M), f_Reader_denied_2 N rc j a0 a1 a2 M = some r → sw_F g k_Reader_denied d n0 (some (.int r.1)) r.2 2 [(0, .ref a0), (1, .int a1), (2, .int a2)] [] M := by
  intro j
  induction j with
  | zero =>
    intro a0 a1 a2 M hf
    rw [f_Reader_denied_2] at hf
    cases hf
  | succ j ih =>
    intro a0 a1 a2 M hf
    rw [f_Reader_denied_2] at hf
    refine sf_blk [(.iload_n 2, 0, 0, .null), (.bipush (48), 0, 0, .int (48 : Int32))] (lv' := [(0, .ref a0), (1, .int a1), (2, .int a2)]) (st' := [.int (48 : Int32), .int a2]) (M1 := M) (ob := []) (pc' := 5) (by decide +kernel) rfl rfl sw_a0 ?_
    refine sf_j_gt (off := 27) (tgt := 32) (by decide +kernel) (by decide) hf (fun hc hf => ?_) (fun hc hf => ?_)
    · exact sf_weak [0, 1, 2] rfl (t_Reader_denied_32 hd rc hrc hd0 hf)
    · obtain ⟨h1, hf⟩ := sw_gd_1 hf
      refine sf_blk [(.aload_n 0, 0, 0, .null), (.getfield 51, 6, 6, .null), (.bipush (28), 0, 0, .int (28 : Int32))] (lv' := [(0, .ref a0), (1, .int a1), (2, .int a2)]) (st' := [.int (28 : Int32), .int (rd_I M a0 6)]) (M1 := M) (ob := [sw_ok M a0 6]) (pc' := 14) (by decide +kernel) rfl rfl (sw_a1 h1 sw_a0) ?_
      refine sf_j_ne (off := 18) (tgt := 32) (by decide +kernel) (by decide) hf (fun hc hf => ?_) (fun hc hf => ?_)
      · exact sf_weak [0, 1, 2] rfl (t_Reader_denied_32 hd rc hrc hd0 hf)
      · refine sf_blk [(.aload_n 0, 0, 0, .null)] (lv' := [(0, .ref a0), (1, .int a1), (2, .int a2)]) (st' := [.ref a0]) (M1 := M) (ob := []) (pc' := 18) (by decide +kernel) rfl rfl sw_a0 ?_
        obtain ⟨u2, hu2, hf⟩ := sw_bnd hf
        refine sf_callV (i := 143) (k2 := k_Reader_knot) (d2 := d - 1) (As := []) (st := []) (q := a0) (ci := 6) mf_Reader_knot mi_Reader_knot ms_Reader_knot (sw_m3 151 (by decide +kernel)) rfl (by decide) (by decide +kernel) rfl (Nat.le_of_ble_eq_true rfl) (by omega) h1 (o_Reader_knot g (d := d - 1) (by omega) hu2) ?_
        show sw_F _ _ _ _ _ _ 21 [(0, .ref a0), (1, .int a1), (2, .int a2)] [.int u2.1] u2.2
        refine sf_z_ne (off := 5) (tgt := 26) (by decide +kernel) (by decide) hf (fun hc hf => ?_) (fun hc hf => ?_)
        · refine sf_blk [(.iinc 2 (1), 0, 0, .int (1 : Int32))] (lv' := [(2, .int (a2 + (1 : Int32))), (0, .ref a0), (1, .int a1)]) (st' := []) (M1 := u2.2) (ob := []) (pc' := 29) (by decide +kernel) rfl rfl sw_a0 ?_
          refine sf_goto (off := -27) (tgt := 2) (by decide +kernel) (by decide) ?_
          exact sf_weak [1, 2, 0] rfl (ih _ _ _ _ hf)
        · refine sf_blk [(.iconst (0), 0, 0, .int (0 : Int32))] (lv' := [(0, .ref a0), (1, .int a1), (2, .int a2)]) (st' := [.int (0 : Int32)]) (M1 := u2.2) (ob := []) (pc' := 25) (by decide +kernel) rfl rfl sw_a0 ?_
          cases hf
          exact sf_bool rfl rfl (by decide +kernel)
def f_Reader_denied (N : Nat) (rc : Nat → Int32 → sw_M → Option (Int32 × sw_M)) (a0 : Nat) (a1 : Int32) (M : sw_M) : Option (Int32 × sw_M) :=
  f_Reader_denied_2 N rc N a0 a1 (0 : Int32) M
set_option maxRecDepth 10000 in
theorem t_Reader_denied {g : sw_G} {d n0 : Nat} (hd : 14 ≤ d) {r : Int32 × sw_M} (rc : Nat → Int32 → sw_M → Option (Int32 × sw_M)) {d0 : Nat} (hrc : ∀ (q : Nat) (a : Int32) (M : sw_M) (u : Int32 × sw_M), rc q a M = some u → sw_Ok g k_Reader_either d0 [.ref q, .int a] M (some (.int u.1)) u.2) (hd0 : d0 + 5 ≤ d) {N : Nat} {a0 : Nat} {a1 : Int32} {M : sw_M} (hf : f_Reader_denied N rc a0 a1 M = some r) : sw_F g k_Reader_denied d n0 (some (.int r.1)) r.2 0 [(0, .ref a0), (1, .int a1)] [] M := by
  unfold f_Reader_denied at hf
  refine sf_blk [(.iconst (0), 0, 0, .int (0 : Int32)), (.istore_n 2, 0, 0, .null)] (lv' := [(2, .int (0 : Int32)), (0, .ref a0), (1, .int a1)]) (st' := []) (M1 := M) (ob := []) (pc' := 2) (by decide +kernel) rfl rfl sw_a0 ?_
  exact sf_weak [1, 2, 0] rfl (t_Reader_denied_2 hd rc hrc hd0 _ _ _ _ _ hf)
theorem o_Reader_denied (g : sw_G) {d : Nat} (hd : 14 ≤ d) (rc : Nat → Int32 → sw_M → Option (Int32 × sw_M)) {d0 : Nat} (hrc : ∀ (q : Nat) (a : Int32) (M : sw_M) (u : Int32 × sw_M), rc q a M = some u → sw_Ok g k_Reader_either d0 [.ref q, .int a] M (some (.int u.1)) u.2) (hd0 : d0 + 5 ≤ d) {N : Nat} {a0 : Nat} {a1 : Int32} {M : sw_M} {r : Int32 × sw_M} (hf : f_Reader_denied N rc a0 a1 M = some r) : sw_Ok g k_Reader_denied d [.ref a0, .int a1] M (some (.int r.1)) r.2 := sf_met (by decide +kernel) rfl (by decide) (Nat.le_of_ble_eq_true rfl) (t_Reader_denied hd rc hrc hd0 hf)
def f_Reader_both_47 (N : Nat) (rc : Nat → Int32 → sw_M → Option (Int32 × sw_M)) (k8 : Nat → Int32 → Int32 → Int32 → sw_M → Option (Int32 × sw_M)) (a0 : Nat) (a1 : Int32) (a3 : Int32) (b0 : Int32) (M : sw_M) : Option (Int32 × sw_M) :=
  sw_gd [sw_ok M a0 6] (sw_gd [sw_ok M (rd_R M a0 1) 0] (sw_gd [sw_ok M (rd_R M (rd_R M a0 1) 1) 7] ((f_Rule_put N (rd_R M (rd_R M a0 1) 1) (27 : Int32) (0 : Int32) M).bind (fun u4 => k8 a0 a1 b0 (a3 + (1 : Int32)) u4))))
set_option maxRecDepth 10000 in
theorem t_Reader_both_47 {g : sw_G} {d n0 : Nat} (hd : 15 ≤ d) {r : Int32 × sw_M} (rc : Nat → Int32 → sw_M → Option (Int32 × sw_M)) {d0 : Nat} (hrc : ∀ (q : Nat) (a : Int32) (M : sw_M) (u : Int32 × sw_M), rc q a M = some u → sw_Ok g k_Reader_either d0 [.ref q, .int a] M (some (.int u.1)) u.2) (hd0 : d0 + 6 ≤ d) (k8 : Nat → Int32 → Int32 → Int32 → sw_M → Option (Int32 × sw_M)) (hk8 : ∀ (a0 : Nat) (a1 : Int32) (a2 : Int32) (a3 : Int32) (M : sw_M), k8 a0 a1 a2 a3 M = some r → sw_F g k_Reader_both d n0 (some (.int r.1)) r.2 8 [(0, .ref a0), (1, .int a1), (2, .int a2), (3, .int a3)] [] M) {N : Nat} {a0 : Nat} {a1 : Int32} {a3 : Int32} {b0 : Int32} {M : sw_M} (hf : f_Reader_both_47 N rc k8 a0 a1 a3 b0 M = some r) : sw_F g k_Reader_both d n0 (some (.int r.1)) r.2 47 [(0, .ref a0), (1, .int a1), (3, .int a3)] [.int b0] M := by
  unfold f_Reader_both_47 at hf
  obtain ⟨h1, hf⟩ := sw_gd_1 hf
  obtain ⟨h2, hf⟩ := sw_gd_1 hf
  obtain ⟨h3, hf⟩ := sw_gd_1 hf
  refine sf_blk [(.istore_n 2, 0, 0, .null), (.aload_n 0, 0, 0, .null), (.getfield 12, 6, 1, .null), (.getfield 128, 0, 1, .null), (.bipush (27), 0, 0, .int (27 : Int32)), (.iconst (0), 0, 0, .int (0 : Int32))] (lv' := [(2, .int b0), (0, .ref a0), (1, .int a1), (3, .int a3)]) (st' := [.int (0 : Int32), .int (27 : Int32), .ref (rd_R M (rd_R M a0 1) 1)]) (M1 := M) (ob := [sw_ok M a0 6, sw_ok M (rd_R M a0 1) 0]) (pc' := 58) (by decide +kernel) rfl rfl (sw_a1 h1 (sw_a1 h2 sw_a0)) ?_
  obtain ⟨u4, hu4, hf⟩ := sw_bnd hf
  refine sf_callV (i := 146) (k2 := k_Rule_put) (d2 := d - 1) (As := [.int (27 : Int32), .int (0 : Int32)]) (st := []) (q := (rd_R M (rd_R M a0 1) 1)) (ci := 7) mf_Rule_put mi_Rule_put ms_Rule_put (sw_m3 175 (by decide +kernel)) rfl (by decide) (by decide +kernel) rfl (Nat.le_of_ble_eq_true rfl) (by omega) h3 (o_Rule_put g (d := d - 1) (by omega) hu4) ?_
  show sw_F _ _ _ _ _ _ 61 [(2, .int b0), (0, .ref a0), (1, .int a1), (3, .int a3)] [] u4
  refine sf_blk [(.iinc 3 (1), 0, 0, .int (1 : Int32))] (lv' := [(3, .int (a3 + (1 : Int32))), (2, .int b0), (0, .ref a0), (1, .int a1)]) (st' := []) (M1 := u4) (ob := []) (pc' := 64) (by decide +kernel) rfl rfl sw_a0 ?_
  refine sf_goto (off := -56) (tgt := 8) (by decide +kernel) (by decide) ?_
  exact sf_weak [2, 3, 1, 0] rfl (hk8 _ _ _ _ _ hf)
def f_Reader_both_46 (N : Nat) (rc : Nat → Int32 → sw_M → Option (Int32 × sw_M)) (k8 : Nat → Int32 → Int32 → Int32 → sw_M → Option (Int32 × sw_M)) (a0 : Nat) (a1 : Int32) (a3 : Int32) (M : sw_M) : Option (Int32 × sw_M) :=
  f_Reader_both_47 N rc k8 a0 a1 a3 (0 : Int32) M
set_option maxRecDepth 10000 in
theorem t_Reader_both_46 {g : sw_G} {d n0 : Nat} (hd : 15 ≤ d) {r : Int32 × sw_M} (rc : Nat → Int32 → sw_M → Option (Int32 × sw_M)) {d0 : Nat} (hrc : ∀ (q : Nat) (a : Int32) (M : sw_M) (u : Int32 × sw_M), rc q a M = some u → sw_Ok g k_Reader_either d0 [.ref q, .int a] M (some (.int u.1)) u.2) (hd0 : d0 + 6 ≤ d) (k8 : Nat → Int32 → Int32 → Int32 → sw_M → Option (Int32 × sw_M)) (hk8 : ∀ (a0 : Nat) (a1 : Int32) (a2 : Int32) (a3 : Int32) (M : sw_M), k8 a0 a1 a2 a3 M = some r → sw_F g k_Reader_both d n0 (some (.int r.1)) r.2 8 [(0, .ref a0), (1, .int a1), (2, .int a2), (3, .int a3)] [] M) {N : Nat} {a0 : Nat} {a1 : Int32} {a3 : Int32} {M : sw_M} (hf : f_Reader_both_46 N rc k8 a0 a1 a3 M = some r) : sw_F g k_Reader_both d n0 (some (.int r.1)) r.2 46 [(0, .ref a0), (1, .int a1), (3, .int a3)] [] M := by
  unfold f_Reader_both_46 at hf
  refine sf_blk [(.iconst (0), 0, 0, .int (0 : Int32))] (lv' := [(0, .ref a0), (1, .int a1), (3, .int a3)]) (st' := [.int (0 : Int32)]) (M1 := M) (ob := []) (pc' := 47) (by decide +kernel) rfl rfl sw_a0 ?_
  exact sf_weak [0, 1, 2] rfl (t_Reader_both_47 hd rc hrc hd0 _ hk8 hf)
def f_Reader_both_8 (N : Nat) (rc : Nat → Int32 → sw_M → Option (Int32 × sw_M)) : Nat → Nat → Int32 → Int32 → Int32 → sw_M → Option (Int32 × sw_M)
  | 0, _, _, _, _, _ => none
  | j + 1, a0, a1, a2, a3, M =>
  if (48 : Int32) ≤ a3 then sw_gd [sw_bz a2] (some (a2, M))
  else if a2 = 0 then sw_gd [sw_bz a2] (some (a2, M))
  else sw_gd [sw_ok M a0 6] (if (rd_I M a0 6) = (27 : Int32) then (f_Reader_knot N a0 M).bind (fun u5 => if u5.1 = 0 then f_Reader_both_46 N rc (f_Reader_both_8 N rc j) a0 a1 a3 u5.2
  else sw_gd [sw_ok u5.2 a0 6] ((f_Reader_denied N rc a0 a1 u5.2).bind (fun u7 => if u7.1 = 0 then f_Reader_both_46 N rc (f_Reader_both_8 N rc j) a0 a1 a3 u7.2
  else f_Reader_both_47 N rc (f_Reader_both_8 N rc j) a0 a1 a3 (1 : Int32) u7.2)))
  else sw_gd [sw_bz a2] (some (a2, M)))
set_option maxRecDepth 10000 in
theorem t_Reader_both_8 {g : sw_G} {d n0 : Nat} (hd : 15 ≤ d) {r : Int32 × sw_M} (rc : Nat → Int32 → sw_M → Option (Int32 × sw_M)) {d0 : Nat} (hrc : ∀ (q : Nat) (a : Int32) (M : sw_M) (u : Int32 × sw_M), rc q a M = some u → sw_Ok g k_Reader_either d0 [.ref q, .int a] M (some (.int u.1)) u.2) (hd0 : d0 + 6 ≤ d) {N : Nat} : ∀ (j : Nat) (a0 : Nat) (a1 : Int32) (a2 : Int32) (a3 : Int32) (M : sw_M), f_Reader_both_8 N rc j a0 a1 a2 a3 M = some r → sw_F g k_Reader_both d n0 (some (.int r.1)) r.2 8 [(0, .ref a0), (1, .int a1), (2, .int a2), (3, .int a3)] [] M := by
  intro j
  induction j with
  | zero =>
    intro a0 a1 a2 a3 M hf
    rw [f_Reader_both_8] at hf
    cases hf
  | succ j ih =>
    intro a0 a1 a2 a3 M hf
    rw [f_Reader_both_8] at hf
    refine sf_blk [(.iload_n 3, 0, 0, .null), (.bipush (48), 0, 0, .int (48 : Int32))] (lv' := [(0, .ref a0), (1, .int a1), (2, .int a2), (3, .int a3)]) (st' := [.int (48 : Int32), .int a3]) (M1 := M) (ob := []) (pc' := 11) (by decide +kernel) rfl rfl sw_a0 ?_
    refine sf_j_ge (off := 56) (tgt := 67) (by decide +kernel) (by decide) hf (fun hc hf => ?_) (fun hc hf => ?_)
    · obtain ⟨h1, hf⟩ := sw_gd_1 hf
      refine sf_blk [(.iload_n 2, 0, 0, .null)] (lv' := [(0, .ref a0), (1, .int a1), (2, .int a2), (3, .int a3)]) (st' := [.int a2]) (M1 := M) (ob := []) (pc' := 68) (by decide +kernel) rfl rfl sw_a0 ?_
      cases hf
      exact sf_bool rfl h1 (by decide +kernel)
    · refine sf_blk [(.iload_n 2, 0, 0, .null)] (lv' := [(0, .ref a0), (1, .int a1), (2, .int a2), (3, .int a3)]) (st' := [.int a2]) (M1 := M) (ob := []) (pc' := 15) (by decide +kernel) rfl rfl sw_a0 ?_
      refine sf_z_eq (off := 52) (tgt := 67) (by decide +kernel) (by decide) hf (fun hc hf => ?_) (fun hc hf => ?_)
      · obtain ⟨h2, hf⟩ := sw_gd_1 hf
        refine sf_blk [(.iload_n 2, 0, 0, .null)] (lv' := [(0, .ref a0), (1, .int a1), (2, .int a2), (3, .int a3)]) (st' := [.int a2]) (M1 := M) (ob := []) (pc' := 68) (by decide +kernel) rfl rfl sw_a0 ?_
        cases hf
        exact sf_bool rfl h2 (by decide +kernel)
      · obtain ⟨h3, hf⟩ := sw_gd_1 hf
        refine sf_blk [(.aload_n 0, 0, 0, .null), (.getfield 51, 6, 6, .null), (.bipush (27), 0, 0, .int (27 : Int32))] (lv' := [(0, .ref a0), (1, .int a1), (2, .int a2), (3, .int a3)]) (st' := [.int (27 : Int32), .int (rd_I M a0 6)]) (M1 := M) (ob := [sw_ok M a0 6]) (pc' := 24) (by decide +kernel) rfl rfl (sw_a1 h3 sw_a0) ?_
        refine sf_j_ne (off := 43) (tgt := 67) (by decide +kernel) (by decide) hf (fun hc hf => ?_) (fun hc hf => ?_)
        · obtain ⟨h4, hf⟩ := sw_gd_1 hf
          refine sf_blk [(.iload_n 2, 0, 0, .null)] (lv' := [(0, .ref a0), (1, .int a1), (2, .int a2), (3, .int a3)]) (st' := [.int a2]) (M1 := M) (ob := []) (pc' := 68) (by decide +kernel) rfl rfl sw_a0 ?_
          cases hf
          exact sf_bool rfl h4 (by decide +kernel)
        · refine sf_blk [(.aload_n 0, 0, 0, .null)] (lv' := [(0, .ref a0), (1, .int a1), (2, .int a2), (3, .int a3)]) (st' := [.ref a0]) (M1 := M) (ob := []) (pc' := 28) (by decide +kernel) rfl rfl sw_a0 ?_
          obtain ⟨u5, hu5, hf⟩ := sw_bnd hf
          refine sf_callV (i := 143) (k2 := k_Reader_knot) (d2 := d - 1) (As := []) (st := []) (q := a0) (ci := 6) mf_Reader_knot mi_Reader_knot ms_Reader_knot (sw_m3 151 (by decide +kernel)) rfl (by decide) (by decide +kernel) rfl (Nat.le_of_ble_eq_true rfl) (by omega) h3 (o_Reader_knot g (d := d - 1) (by omega) hu5) ?_
          show sw_F _ _ _ _ _ _ 31 [(0, .ref a0), (1, .int a1), (2, .int a2), (3, .int a3)] [.int u5.1] u5.2
          refine sf_z_eq (off := 15) (tgt := 46) (by decide +kernel) (by decide) hf (fun hc hf => ?_) (fun hc hf => ?_)
          · exact sf_weak [0, 1, 3] rfl (t_Reader_both_46 hd rc hrc hd0 _ ih hf)
          · obtain ⟨h6, hf⟩ := sw_gd_1 hf
            refine sf_blk [(.aload_n 0, 0, 0, .null), (.iload_n 1, 0, 0, .null)] (lv' := [(0, .ref a0), (1, .int a1), (2, .int a2), (3, .int a3)]) (st' := [.int a1, .ref a0]) (M1 := u5.2) (ob := []) (pc' := 36) (by decide +kernel) rfl rfl sw_a0 ?_
            obtain ⟨u7, hu7, hf⟩ := sw_bnd hf
            refine sf_callV (i := 149) (k2 := k_Reader_denied) (d2 := d - 1) (As := [.int a1]) (st := []) (q := a0) (ci := 6) mf_Reader_denied mi_Reader_denied ms_Reader_denied (sw_m3 147 (by decide +kernel)) rfl (by decide) (by decide +kernel) rfl (Nat.le_of_ble_eq_true rfl) (by omega) h6 (o_Reader_denied g (d := d - 1) (by omega) rc hrc (by omega) hu7) ?_
            show sw_F _ _ _ _ _ _ 39 [(0, .ref a0), (1, .int a1), (2, .int a2), (3, .int a3)] [.int u7.1] u7.2
            refine sf_z_eq (off := 7) (tgt := 46) (by decide +kernel) (by decide) hf (fun hc hf => ?_) (fun hc hf => ?_)
            · exact sf_weak [0, 1, 3] rfl (t_Reader_both_46 hd rc hrc hd0 _ ih hf)
            · refine sf_blk [(.iconst (1), 0, 0, .int (1 : Int32))] (lv' := [(0, .ref a0), (1, .int a1), (2, .int a2), (3, .int a3)]) (st' := [.int (1 : Int32)]) (M1 := u7.2) (ob := []) (pc' := 43) (by decide +kernel) rfl rfl sw_a0 ?_
              refine sf_goto (off := 4) (tgt := 47) (by decide +kernel) (by decide) ?_
              exact sf_weak [0, 1, 3] rfl (t_Reader_both_47 hd rc hrc hd0 _ ih hf)
def f_Reader_both (N : Nat) (rc : Nat → Int32 → sw_M → Option (Int32 × sw_M)) (a0 : Nat) (a1 : Int32) (M : sw_M) : Option (Int32 × sw_M) :=
  sw_gd [sw_ok M a0 6] ((f_Reader_denied N rc a0 a1 M).bind (fun u2 => f_Reader_both_8 N rc N a0 a1 u2.1 (0 : Int32) u2.2))
set_option maxRecDepth 10000 in
theorem t_Reader_both {g : sw_G} {d n0 : Nat} (hd : 15 ≤ d) {r : Int32 × sw_M} (rc : Nat → Int32 → sw_M → Option (Int32 × sw_M)) {d0 : Nat} (hrc : ∀ (q : Nat) (a : Int32) (M : sw_M) (u : Int32 × sw_M), rc q a M = some u → sw_Ok g k_Reader_either d0 [.ref q, .int a] M (some (.int u.1)) u.2) (hd0 : d0 + 6 ≤ d) {N : Nat} {a0 : Nat} {a1 : Int32} {M : sw_M} (hf : f_Reader_both N rc a0 a1 M = some r) : sw_F g k_Reader_both d n0 (some (.int r.1)) r.2 0 [(0, .ref a0), (1, .int a1)] [] M := by
  unfold f_Reader_both at hf
  obtain ⟨h1, hf⟩ := sw_gd_1 hf
  refine sf_blk [(.aload_n 0, 0, 0, .null), (.iload_n 1, 0, 0, .null)] (lv' := [(0, .ref a0), (1, .int a1)]) (st' := [.int a1, .ref a0]) (M1 := M) (ob := []) (pc' := 2) (by decide +kernel) rfl rfl sw_a0 ?_
  obtain ⟨u2, hu2, hf⟩ := sw_bnd hf
  refine sf_callV (i := 149) (k2 := k_Reader_denied) (d2 := d - 1) (As := [.int a1]) (st := []) (q := a0) (ci := 6) mf_Reader_denied mi_Reader_denied ms_Reader_denied (sw_m3 147 (by decide +kernel)) rfl (by decide) (by decide +kernel) rfl (Nat.le_of_ble_eq_true rfl) (by omega) h1 (o_Reader_denied g (d := d - 1) (by omega) rc hrc (by omega) hu2) ?_
  show sw_F _ _ _ _ _ _ 5 [(0, .ref a0), (1, .int a1)] [.int u2.1] u2.2
  refine sf_blk [(.istore_n 2, 0, 0, .null), (.iconst (0), 0, 0, .int (0 : Int32)), (.istore_n 3, 0, 0, .null)] (lv' := [(3, .int (0 : Int32)), (2, .int u2.1), (0, .ref a0), (1, .int a1)]) (st' := []) (M1 := u2.2) (ob := []) (pc' := 8) (by decide +kernel) rfl rfl sw_a0 ?_
  exact sf_weak [2, 3, 1, 0] rfl (t_Reader_both_8 hd rc hrc hd0 _ _ _ _ _ _ hf)
theorem o_Reader_both (g : sw_G) {d : Nat} (hd : 15 ≤ d) (rc : Nat → Int32 → sw_M → Option (Int32 × sw_M)) {d0 : Nat} (hrc : ∀ (q : Nat) (a : Int32) (M : sw_M) (u : Int32 × sw_M), rc q a M = some u → sw_Ok g k_Reader_either d0 [.ref q, .int a] M (some (.int u.1)) u.2) (hd0 : d0 + 6 ≤ d) {N : Nat} {a0 : Nat} {a1 : Int32} {M : sw_M} {r : Int32 × sw_M} (hf : f_Reader_both N rc a0 a1 M = some r) : sw_Ok g k_Reader_both d [.ref a0, .int a1] M (some (.int r.1)) r.2 := sf_met (by decide +kernel) rfl (by decide) (Nat.le_of_ble_eq_true rfl) (t_Reader_both hd rc hrc hd0 hf)
def f_Reader_either_47 (N : Nat) (rc : Nat → Int32 → sw_M → Option (Int32 × sw_M)) (k8 : Nat → Int32 → Int32 → Int32 → sw_M → Option (Int32 × sw_M)) (a0 : Nat) (a1 : Int32) (a3 : Int32) (b0 : Int32) (M : sw_M) : Option (Int32 × sw_M) :=
  sw_gd [sw_ok M a0 6] (sw_gd [sw_ok M (rd_R M a0 1) 0] (sw_gd [sw_ok M (rd_R M (rd_R M a0 1) 1) 7] ((f_Rule_put N (rd_R M (rd_R M a0 1) 1) (26 : Int32) (0 : Int32) M).bind (fun u4 => k8 a0 a1 b0 (a3 + (1 : Int32)) u4))))
set_option maxRecDepth 10000 in
theorem t_Reader_either_47 {g : sw_G} {d n0 : Nat} (hd : 16 ≤ d) {r : Int32 × sw_M} (rc : Nat → Int32 → sw_M → Option (Int32 × sw_M)) {d0 : Nat} (hrc : ∀ (q : Nat) (a : Int32) (M : sw_M) (u : Int32 × sw_M), rc q a M = some u → sw_Ok g k_Reader_either d0 [.ref q, .int a] M (some (.int u.1)) u.2) (hd0 : d0 + 7 ≤ d) (k8 : Nat → Int32 → Int32 → Int32 → sw_M → Option (Int32 × sw_M)) (hk8 : ∀ (a0 : Nat) (a1 : Int32) (a2 : Int32) (a3 : Int32) (M : sw_M), k8 a0 a1 a2 a3 M = some r → sw_F g k_Reader_either d n0 (some (.int r.1)) r.2 8 [(0, .ref a0), (1, .int a1), (2, .int a2), (3, .int a3)] [] M) {N : Nat} {a0 : Nat} {a1 : Int32} {a3 : Int32} {b0 : Int32} {M : sw_M} (hf : f_Reader_either_47 N rc k8 a0 a1 a3 b0 M = some r) : sw_F g k_Reader_either d n0 (some (.int r.1)) r.2 47 [(0, .ref a0), (1, .int a1), (3, .int a3)] [.int b0] M := by
  unfold f_Reader_either_47 at hf
  obtain ⟨h1, hf⟩ := sw_gd_1 hf
  obtain ⟨h2, hf⟩ := sw_gd_1 hf
  obtain ⟨h3, hf⟩ := sw_gd_1 hf
  refine sf_blk [(.istore_n 2, 0, 0, .null), (.aload_n 0, 0, 0, .null), (.getfield 12, 6, 1, .null), (.getfield 128, 0, 1, .null), (.bipush (26), 0, 0, .int (26 : Int32)), (.iconst (0), 0, 0, .int (0 : Int32))] (lv' := [(2, .int b0), (0, .ref a0), (1, .int a1), (3, .int a3)]) (st' := [.int (0 : Int32), .int (26 : Int32), .ref (rd_R M (rd_R M a0 1) 1)]) (M1 := M) (ob := [sw_ok M a0 6, sw_ok M (rd_R M a0 1) 0]) (pc' := 58) (by decide +kernel) rfl rfl (sw_a1 h1 (sw_a1 h2 sw_a0)) ?_
  obtain ⟨u4, hu4, hf⟩ := sw_bnd hf
  refine sf_callV (i := 146) (k2 := k_Rule_put) (d2 := d - 1) (As := [.int (26 : Int32), .int (0 : Int32)]) (st := []) (q := (rd_R M (rd_R M a0 1) 1)) (ci := 7) mf_Rule_put mi_Rule_put ms_Rule_put (sw_m3 175 (by decide +kernel)) rfl (by decide) (by decide +kernel) rfl (Nat.le_of_ble_eq_true rfl) (by omega) h3 (o_Rule_put g (d := d - 1) (by omega) hu4) ?_
  show sw_F _ _ _ _ _ _ 61 [(2, .int b0), (0, .ref a0), (1, .int a1), (3, .int a3)] [] u4
  refine sf_blk [(.iinc 3 (1), 0, 0, .int (1 : Int32))] (lv' := [(3, .int (a3 + (1 : Int32))), (2, .int b0), (0, .ref a0), (1, .int a1)]) (st' := []) (M1 := u4) (ob := []) (pc' := 64) (by decide +kernel) rfl rfl sw_a0 ?_
  refine sf_goto (off := -56) (tgt := 8) (by decide +kernel) (by decide) ?_
  exact sf_weak [2, 3, 1, 0] rfl (hk8 _ _ _ _ _ hf)
def f_Reader_either_46 (N : Nat) (rc : Nat → Int32 → sw_M → Option (Int32 × sw_M)) (k8 : Nat → Int32 → Int32 → Int32 → sw_M → Option (Int32 × sw_M)) (a0 : Nat) (a1 : Int32) (a3 : Int32) (M : sw_M) : Option (Int32 × sw_M) :=
  f_Reader_either_47 N rc k8 a0 a1 a3 (0 : Int32) M
set_option maxRecDepth 10000 in
theorem t_Reader_either_46 {g : sw_G} {d n0 : Nat} (hd : 16 ≤ d) {r : Int32 × sw_M} (rc : Nat → Int32 → sw_M → Option (Int32 × sw_M)) {d0 : Nat} (hrc : ∀ (q : Nat) (a : Int32) (M : sw_M) (u : Int32 × sw_M), rc q a M = some u → sw_Ok g k_Reader_either d0 [.ref q, .int a] M (some (.int u.1)) u.2) (hd0 : d0 + 7 ≤ d) (k8 : Nat → Int32 → Int32 → Int32 → sw_M → Option (Int32 × sw_M)) (hk8 : ∀ (a0 : Nat) (a1 : Int32) (a2 : Int32) (a3 : Int32) (M : sw_M), k8 a0 a1 a2 a3 M = some r → sw_F g k_Reader_either d n0 (some (.int r.1)) r.2 8 [(0, .ref a0), (1, .int a1), (2, .int a2), (3, .int a3)] [] M) {N : Nat} {a0 : Nat} {a1 : Int32} {a3 : Int32} {M : sw_M} (hf : f_Reader_either_46 N rc k8 a0 a1 a3 M = some r) : sw_F g k_Reader_either d n0 (some (.int r.1)) r.2 46 [(0, .ref a0), (1, .int a1), (3, .int a3)] [] M := by
  unfold f_Reader_either_46 at hf
  refine sf_blk [(.iconst (0), 0, 0, .int (0 : Int32))] (lv' := [(0, .ref a0), (1, .int a1), (3, .int a3)]) (st' := [.int (0 : Int32)]) (M1 := M) (ob := []) (pc' := 47) (by decide +kernel) rfl rfl sw_a0 ?_
  exact sf_weak [0, 1, 2] rfl (t_Reader_either_47 hd rc hrc hd0 _ hk8 hf)
def f_Reader_either_8 (N : Nat) (rc : Nat → Int32 → sw_M → Option (Int32 × sw_M)) : Nat → Nat → Int32 → Int32 → Int32 → sw_M → Option (Int32 × sw_M)
  | 0, _, _, _, _, _ => none
  | j + 1, a0, a1, a2, a3, M =>
  if (48 : Int32) ≤ a3 then sw_gd [sw_bz a2] (some (a2, M))
  else if a2 = 0 then sw_gd [sw_bz a2] (some (a2, M))
  else sw_gd [sw_ok M a0 6] (if (rd_I M a0 6) = (26 : Int32) then (f_Reader_knot N a0 M).bind (fun u5 => if u5.1 = 0 then f_Reader_either_46 N rc (f_Reader_either_8 N rc j) a0 a1 a3 u5.2
  else sw_gd [sw_ok u5.2 a0 6] ((f_Reader_both N rc a0 a1 u5.2).bind (fun u7 => if u7.1 = 0 then f_Reader_either_46 N rc (f_Reader_either_8 N rc j) a0 a1 a3 u7.2
  else f_Reader_either_47 N rc (f_Reader_either_8 N rc j) a0 a1 a3 (1 : Int32) u7.2)))
  else sw_gd [sw_bz a2] (some (a2, M)))
set_option maxRecDepth 10000 in
theorem t_Reader_either_8 {g : sw_G} {d n0 : Nat} (hd : 16 ≤ d) {r : Int32 × sw_M} (rc : Nat → Int32 → sw_M → Option (Int32 × sw_M)) {d0 : Nat} (hrc : ∀ (q : Nat) (a : Int32) (M : sw_M) (u : Int32 × sw_M), rc q a M = some u → sw_Ok g k_Reader_either d0 [.ref q, .int a] M (some (.int u.1)) u.2) (hd0 : d0 + 7 ≤ d) {N : Nat} : ∀ (j : Nat) (a0 : Nat) (a1 : Int32) (a2 : Int32) (a3 : Int32) (M : sw_M), f_Reader_either_8 N rc j a0 a1 a2 a3 M = some r → sw_F g k_Reader_either d n0 (some (.int r.1)) r.2 8 [(0, .ref a0), (1, .int a1), (2, .int a2), (3, .int a3)] [] M := by
  intro j
  induction j with
  | zero =>
    intro a0 a1 a2 a3 M hf
    rw [f_Reader_either_8] at hf
    cases hf
  | succ j ih =>
    intro a0 a1 a2 a3 M hf
    rw [f_Reader_either_8] at hf
    refine sf_blk [(.iload_n 3, 0, 0, .null), (.bipush (48), 0, 0, .int (48 : Int32))] (lv' := [(0, .ref a0), (1, .int a1), (2, .int a2), (3, .int a3)]) (st' := [.int (48 : Int32), .int a3]) (M1 := M) (ob := []) (pc' := 11) (by decide +kernel) rfl rfl sw_a0 ?_
    refine sf_j_ge (off := 56) (tgt := 67) (by decide +kernel) (by decide) hf (fun hc hf => ?_) (fun hc hf => ?_)
    · obtain ⟨h1, hf⟩ := sw_gd_1 hf
      refine sf_blk [(.iload_n 2, 0, 0, .null)] (lv' := [(0, .ref a0), (1, .int a1), (2, .int a2), (3, .int a3)]) (st' := [.int a2]) (M1 := M) (ob := []) (pc' := 68) (by decide +kernel) rfl rfl sw_a0 ?_
      cases hf
      exact sf_bool rfl h1 (by decide +kernel)
    · refine sf_blk [(.iload_n 2, 0, 0, .null)] (lv' := [(0, .ref a0), (1, .int a1), (2, .int a2), (3, .int a3)]) (st' := [.int a2]) (M1 := M) (ob := []) (pc' := 15) (by decide +kernel) rfl rfl sw_a0 ?_
      refine sf_z_eq (off := 52) (tgt := 67) (by decide +kernel) (by decide) hf (fun hc hf => ?_) (fun hc hf => ?_)
      · obtain ⟨h2, hf⟩ := sw_gd_1 hf
        refine sf_blk [(.iload_n 2, 0, 0, .null)] (lv' := [(0, .ref a0), (1, .int a1), (2, .int a2), (3, .int a3)]) (st' := [.int a2]) (M1 := M) (ob := []) (pc' := 68) (by decide +kernel) rfl rfl sw_a0 ?_
        cases hf
        exact sf_bool rfl h2 (by decide +kernel)
      · obtain ⟨h3, hf⟩ := sw_gd_1 hf
        refine sf_blk [(.aload_n 0, 0, 0, .null), (.getfield 51, 6, 6, .null), (.bipush (26), 0, 0, .int (26 : Int32))] (lv' := [(0, .ref a0), (1, .int a1), (2, .int a2), (3, .int a3)]) (st' := [.int (26 : Int32), .int (rd_I M a0 6)]) (M1 := M) (ob := [sw_ok M a0 6]) (pc' := 24) (by decide +kernel) rfl rfl (sw_a1 h3 sw_a0) ?_
        refine sf_j_ne (off := 43) (tgt := 67) (by decide +kernel) (by decide) hf (fun hc hf => ?_) (fun hc hf => ?_)
        · obtain ⟨h4, hf⟩ := sw_gd_1 hf
          refine sf_blk [(.iload_n 2, 0, 0, .null)] (lv' := [(0, .ref a0), (1, .int a1), (2, .int a2), (3, .int a3)]) (st' := [.int a2]) (M1 := M) (ob := []) (pc' := 68) (by decide +kernel) rfl rfl sw_a0 ?_
          cases hf
          exact sf_bool rfl h4 (by decide +kernel)
        · refine sf_blk [(.aload_n 0, 0, 0, .null)] (lv' := [(0, .ref a0), (1, .int a1), (2, .int a2), (3, .int a3)]) (st' := [.ref a0]) (M1 := M) (ob := []) (pc' := 28) (by decide +kernel) rfl rfl sw_a0 ?_
          obtain ⟨u5, hu5, hf⟩ := sw_bnd hf
          refine sf_callV (i := 143) (k2 := k_Reader_knot) (d2 := d - 1) (As := []) (st := []) (q := a0) (ci := 6) mf_Reader_knot mi_Reader_knot ms_Reader_knot (sw_m3 151 (by decide +kernel)) rfl (by decide) (by decide +kernel) rfl (Nat.le_of_ble_eq_true rfl) (by omega) h3 (o_Reader_knot g (d := d - 1) (by omega) hu5) ?_
          show sw_F _ _ _ _ _ _ 31 [(0, .ref a0), (1, .int a1), (2, .int a2), (3, .int a3)] [.int u5.1] u5.2
          refine sf_z_eq (off := 15) (tgt := 46) (by decide +kernel) (by decide) hf (fun hc hf => ?_) (fun hc hf => ?_)
          · exact sf_weak [0, 1, 3] rfl (t_Reader_either_46 hd rc hrc hd0 _ ih hf)
          · obtain ⟨h6, hf⟩ := sw_gd_1 hf
            refine sf_blk [(.aload_n 0, 0, 0, .null), (.iload_n 1, 0, 0, .null)] (lv' := [(0, .ref a0), (1, .int a1), (2, .int a2), (3, .int a3)]) (st' := [.int a1, .ref a0]) (M1 := u5.2) (ob := []) (pc' := 36) (by decide +kernel) rfl rfl sw_a0 ?_
            obtain ⟨u7, hu7, hf⟩ := sw_bnd hf
            refine sf_callV (i := 140) (k2 := k_Reader_both) (d2 := d - 1) (As := [.int a1]) (st := []) (q := a0) (ci := 6) mf_Reader_both mi_Reader_both ms_Reader_both (sw_m3 143 (by decide +kernel)) rfl (by decide) (by decide +kernel) rfl (Nat.le_of_ble_eq_true rfl) (by omega) h6 (o_Reader_both g (d := d - 1) (by omega) rc hrc (by omega) hu7) ?_
            show sw_F _ _ _ _ _ _ 39 [(0, .ref a0), (1, .int a1), (2, .int a2), (3, .int a3)] [.int u7.1] u7.2
            refine sf_z_eq (off := 7) (tgt := 46) (by decide +kernel) (by decide) hf (fun hc hf => ?_) (fun hc hf => ?_)
            · exact sf_weak [0, 1, 3] rfl (t_Reader_either_46 hd rc hrc hd0 _ ih hf)
            · refine sf_blk [(.iconst (1), 0, 0, .int (1 : Int32))] (lv' := [(0, .ref a0), (1, .int a1), (2, .int a2), (3, .int a3)]) (st' := [.int (1 : Int32)]) (M1 := u7.2) (ob := []) (pc' := 43) (by decide +kernel) rfl rfl sw_a0 ?_
              refine sf_goto (off := 4) (tgt := 47) (by decide +kernel) (by decide) ?_
              exact sf_weak [0, 1, 3] rfl (t_Reader_either_47 hd rc hrc hd0 _ ih hf)
def f_Reader_either (N : Nat) (rc : Nat → Int32 → sw_M → Option (Int32 × sw_M)) (a0 : Nat) (a1 : Int32) (M : sw_M) : Option (Int32 × sw_M) :=
  sw_gd [sw_ok M a0 6] ((f_Reader_both N rc a0 a1 M).bind (fun u2 => f_Reader_either_8 N rc N a0 a1 u2.1 (0 : Int32) u2.2))
set_option maxRecDepth 10000 in
theorem t_Reader_either {g : sw_G} {d n0 : Nat} (hd : 16 ≤ d) {r : Int32 × sw_M} (rc : Nat → Int32 → sw_M → Option (Int32 × sw_M)) {d0 : Nat} (hrc : ∀ (q : Nat) (a : Int32) (M : sw_M) (u : Int32 × sw_M), rc q a M = some u → sw_Ok g k_Reader_either d0 [.ref q, .int a] M (some (.int u.1)) u.2) (hd0 : d0 + 7 ≤ d) {N : Nat} {a0 : Nat} {a1 : Int32} {M : sw_M} (hf : f_Reader_either N rc a0 a1 M = some r) : sw_F g k_Reader_either d n0 (some (.int r.1)) r.2 0 [(0, .ref a0), (1, .int a1)] [] M := by
  unfold f_Reader_either at hf
  obtain ⟨h1, hf⟩ := sw_gd_1 hf
  refine sf_blk [(.aload_n 0, 0, 0, .null), (.iload_n 1, 0, 0, .null)] (lv' := [(0, .ref a0), (1, .int a1)]) (st' := [.int a1, .ref a0]) (M1 := M) (ob := []) (pc' := 2) (by decide +kernel) rfl rfl sw_a0 ?_
  obtain ⟨u2, hu2, hf⟩ := sw_bnd hf
  refine sf_callV (i := 140) (k2 := k_Reader_both) (d2 := d - 1) (As := [.int a1]) (st := []) (q := a0) (ci := 6) mf_Reader_both mi_Reader_both ms_Reader_both (sw_m3 143 (by decide +kernel)) rfl (by decide) (by decide +kernel) rfl (Nat.le_of_ble_eq_true rfl) (by omega) h1 (o_Reader_both g (d := d - 1) (by omega) rc hrc (by omega) hu2) ?_
  show sw_F _ _ _ _ _ _ 5 [(0, .ref a0), (1, .int a1)] [.int u2.1] u2.2
  refine sf_blk [(.istore_n 2, 0, 0, .null), (.iconst (0), 0, 0, .int (0 : Int32)), (.istore_n 3, 0, 0, .null)] (lv' := [(3, .int (0 : Int32)), (2, .int u2.1), (0, .ref a0), (1, .int a1)]) (st' := []) (M1 := u2.2) (ob := []) (pc' := 8) (by decide +kernel) rfl rfl sw_a0 ?_
  exact sf_weak [2, 3, 1, 0] rfl (t_Reader_either_8 hd rc hrc hd0 _ _ _ _ _ _ hf)
theorem o_Reader_either (g : sw_G) {d : Nat} (hd : 16 ≤ d) (rc : Nat → Int32 → sw_M → Option (Int32 × sw_M)) {d0 : Nat} (hrc : ∀ (q : Nat) (a : Int32) (M : sw_M) (u : Int32 × sw_M), rc q a M = some u → sw_Ok g k_Reader_either d0 [.ref q, .int a] M (some (.int u.1)) u.2) (hd0 : d0 + 7 ≤ d) {N : Nat} {a0 : Nat} {a1 : Int32} {M : sw_M} {r : Int32 × sw_M} (hf : f_Reader_either N rc a0 a1 M = some r) : sw_Ok g k_Reader_either d [.ref a0, .int a1] M (some (.int r.1)) r.2 := sf_met (by decide +kernel) rfl (by decide) (Nat.le_of_ble_eq_true rfl) (t_Reader_either hd rc hrc hd0 hf)
/-- the readers of an E, one within another: e levels at most -/
def f_Reader_eitherR (N : Nat) : Nat → Nat → Int32 → sw_M → Option (Int32 × sw_M)
  | 0, _, _, _ => none
  | e + 1, a0, a1, M => f_Reader_either N (f_Reader_eitherR N e) a0 a1 M
theorem o_Reader_eitherR (g : sw_G) {N : Nat} : ∀ (e : Nat) {d : Nat} (hd : 7 * e + 20 ≤ d) {a0 : Nat} {a1 : Int32} {M : sw_M} {r : Int32 × sw_M} (hf : f_Reader_eitherR N e a0 a1 M = some r), sw_Ok g k_Reader_either d [.ref a0, .int a1] M (some (.int r.1)) r.2 := by
  intro e
  induction e with
  | zero =>
    intro d hd a0 a1 M r hf
    rw [f_Reader_eitherR] at hf
    cases hf
  | succ e ih =>
    intro d hd a0 a1 M r hf
    rw [f_Reader_eitherR] at hf
    exact o_Reader_either g (by omega) _ (d0 := 7 * e + 20) (fun q a M u h => ih (Nat.le_refl _) h) (by omega) hf
def f_Reader_use (N : Nat) (a0 : Nat) (M : sw_M) : Option (Int32 × sw_M) :=
  sw_gd [sw_ok M a0 6] (sw_gd [sw_ok M (rd_R M a0 1) 0] (sw_gd [sw_ok M (rd_R M (rd_R M a0 1) 1) 7] (if (rd_I M (rd_R M (rd_R M a0 1) 1) 5) = 0 then (f_Reader_advance N a0 (wr_I M (rd_R M (rd_R M a0 1) 1) 5 (1 : Int32))).bind (fun u4 => sw_gd [sw_ok u4 a0 6] ((f_Reader_eitherR N 12 a0 (0 : Int32) u4).bind (fun u6 => sw_gd [sw_bz u6.1] (some (u6.1, u6.2)))))
  else (f_Reader_wrong N a0 (3 : Int32) M).bind (fun u8 => sw_gd [sw_bz u8.1] (some (u8.1, u8.2))))))
set_option maxRecDepth 10000 in
theorem t_Reader_use {g : sw_G} {d n0 : Nat} (hd : 105 ≤ d) {r : Int32 × sw_M} {N : Nat} {a0 : Nat} {M : sw_M} (hf : f_Reader_use N a0 M = some r) : sw_F g k_Reader_use d n0 (some (.int r.1)) r.2 0 [(0, .ref a0)] [] M := by
  unfold f_Reader_use at hf
  obtain ⟨h1, hf⟩ := sw_gd_1 hf
  obtain ⟨h2, hf⟩ := sw_gd_1 hf
  obtain ⟨h3, hf⟩ := sw_gd_1 hf
  refine sf_blk [(.aload_n 0, 0, 0, .null), (.getfield 12, 6, 1, .null), (.getfield 128, 0, 1, .null), (.getfield 132, 7, 5, .null)] (lv' := [(0, .ref a0)]) (st' := [.int (rd_I M (rd_R M (rd_R M a0 1) 1) 5)]) (M1 := M) (ob := [sw_ok M a0 6, sw_ok M (rd_R M a0 1) 0, sw_ok M (rd_R M (rd_R M a0 1) 1) 7]) (pc' := 10) (by decide +kernel) rfl rfl (sw_a1 h1 (sw_a1 h2 (sw_a1 h3 sw_a0))) ?_
  refine sf_z_eq (off := 9) (tgt := 19) (by decide +kernel) (by decide) hf (fun hc hf => ?_) (fun hc hf => ?_)
  · refine sf_blk [(.aload_n 0, 0, 0, .null), (.getfield 12, 6, 1, .null), (.getfield 128, 0, 1, .null), (.iconst (1), 0, 0, .int (1 : Int32)), (.putfield 132, 7, 5, .null), (.aload_n 0, 0, 0, .null)] (lv' := [(0, .ref a0)]) (st' := [.ref a0]) (M1 := (wr_I M (rd_R M (rd_R M a0 1) 1) 5 (1 : Int32))) (ob := [sw_ok M a0 6, sw_ok M (rd_R M a0 1) 0, sw_ok M (rd_R M (rd_R M a0 1) 1) 7, sw_bz (1 : Int32)]) (pc' := 31) (by decide +kernel) rfl rfl (sw_a1 h1 (sw_a1 h2 (sw_a1 h3 (sw_a1 rfl sw_a0)))) ?_
    obtain ⟨u4, hu4, hf⟩ := sw_bnd hf
    refine sf_callV (i := 48) (k2 := k_Reader_advance) (d2 := d - 1) (As := []) (st := []) (q := a0) (ci := 6) mf_Reader_advance mi_Reader_advance ms_Reader_advance (sw_m3 24 (by decide +kernel)) rfl (by decide) (by decide +kernel) rfl (Nat.le_of_ble_eq_true rfl) (by omega) h1 (o_Reader_advance g (d := d - 1) (by omega) hu4) ?_
    show sw_F _ _ _ _ _ _ 34 [(0, .ref a0)] [] u4
    obtain ⟨h5, hf⟩ := sw_gd_1 hf
    refine sf_blk [(.aload_n 0, 0, 0, .null), (.iconst (0), 0, 0, .int (0 : Int32))] (lv' := [(0, .ref a0)]) (st' := [.int (0 : Int32), .ref a0]) (M1 := u4) (ob := []) (pc' := 36) (by decide +kernel) rfl rfl sw_a0 ?_
    obtain ⟨u6, hu6, hf⟩ := sw_bnd hf
    refine sf_callV (i := 137) (k2 := k_Reader_either) (d2 := d - 1) (As := [.int (0 : Int32)]) (st := []) (q := a0) (ci := 6) mf_Reader_either mi_Reader_either ms_Reader_either (sw_m3 139 (by decide +kernel)) rfl (by decide) (by decide +kernel) rfl (Nat.le_of_ble_eq_true rfl) (by omega) h5 (o_Reader_eitherR g (d := d - 1) 12 (by omega) hu6) ?_
    show sw_F _ _ _ _ _ _ 39 [(0, .ref a0)] [.int u6.1] u6.2
    obtain ⟨h7, hf⟩ := sw_gd_1 hf
    cases hf
    exact sf_bool rfl h7 (by decide +kernel)
  · refine sf_blk [(.aload_n 0, 0, 0, .null), (.iconst (3), 0, 0, .int (3 : Int32))] (lv' := [(0, .ref a0)]) (st' := [.int (3 : Int32), .ref a0]) (M1 := M) (ob := []) (pc' := 15) (by decide +kernel) rfl rfl sw_a0 ?_
    obtain ⟨u8, hu8, hf⟩ := sw_bnd hf
    refine sf_callV (i := 62) (k2 := k_Reader_wrong) (d2 := d - 1) (As := [.int (3 : Int32)]) (st := []) (q := a0) (ci := 6) mf_Reader_wrong mi_Reader_wrong ms_Reader_wrong (sw_m3 102 (by decide +kernel)) rfl (by decide) (by decide +kernel) rfl (Nat.le_of_ble_eq_true rfl) (by omega) h1 (o_Reader_wrong g (d := d - 1) (by omega) hu8) ?_
    show sw_F _ _ _ _ _ _ 18 [(0, .ref a0)] [.int u8.1] u8.2
    obtain ⟨h9, hf⟩ := sw_gd_1 hf
    cases hf
    exact sf_bool rfl h9 (by decide +kernel)
theorem o_Reader_use (g : sw_G) {d : Nat} (hd : 105 ≤ d) {N : Nat} {a0 : Nat} {M : sw_M} {r : Int32 × sw_M} (hf : f_Reader_use N a0 M = some r) : sw_Ok g k_Reader_use d [.ref a0] M (some (.int r.1)) r.2 := sf_met (by decide +kernel) rfl (by decide) (Nat.le_of_ble_eq_true rfl) (t_Reader_use hd hf)
def f_Reader_read_141 (N : Nat) (k46 : Nat → Int32 → sw_M → Option (sw_M)) (a0 : Nat) (a2 : Int32) (M : sw_M) : Option (sw_M) :=
  k46 a0 (a2 + (1 : Int32)) M
set_option maxRecDepth 10000 in
theorem t_Reader_read_141 {g : sw_G} {d n0 : Nat} (hd : 106 ≤ d) {r : sw_M} (k46 : Nat → Int32 → sw_M → Option (sw_M)) (hk46 : ∀ (a0 : Nat) (a2 : Int32) (M : sw_M), k46 a0 a2 M = some r → sw_F g k_Reader_read d n0 none r 46 [(0, .ref a0), (2, .int a2)] [] M) {N : Nat} {a0 : Nat} {a2 : Int32} {M : sw_M} (hf : f_Reader_read_141 N k46 a0 a2 M = some r) : sw_F g k_Reader_read d n0 none r 141 [(0, .ref a0), (2, .int a2)] [] M := by
  unfold f_Reader_read_141 at hf
  refine sf_blk [(.iinc 2 (1), 0, 0, .int (1 : Int32))] (lv' := [(2, .int (a2 + (1 : Int32))), (0, .ref a0)]) (st' := []) (M1 := M) (ob := []) (pc' := 144) (by decide +kernel) rfl rfl sw_a0 ?_
  refine sf_goto (off := -98) (tgt := 46) (by decide +kernel) (by decide) ?_
  exact sf_weak [1, 0] rfl (hk46 _ _ _ hf)
def f_Reader_read_128 (N : Nat) (k46 : Nat → Int32 → sw_M → Option (sw_M)) (a0 : Nat) (a2 : Int32) (b0 : Int32) (M : sw_M) : Option (sw_M) :=
  if b0 = 0 then f_Reader_read_141 N k46 a0 a2 M
  else sw_gd [sw_ok M a0 6] ((f_Reader_expect N a0 (3 : Int32) M).bind (fun u2 => f_Reader_read_141 N k46 a0 a2 u2.2))
set_option maxRecDepth 10000 in
theorem t_Reader_read_128 {g : sw_G} {d n0 : Nat} (hd : 106 ≤ d) {r : sw_M} (k46 : Nat → Int32 → sw_M → Option (sw_M)) (hk46 : ∀ (a0 : Nat) (a2 : Int32) (M : sw_M), k46 a0 a2 M = some r → sw_F g k_Reader_read d n0 none r 46 [(0, .ref a0), (2, .int a2)] [] M) {N : Nat} {a0 : Nat} {a2 : Int32} {b0 : Int32} {M : sw_M} (hf : f_Reader_read_128 N k46 a0 a2 b0 M = some r) : sw_F g k_Reader_read d n0 none r 128 [(0, .ref a0), (2, .int a2)] [.int b0] M := by
  unfold f_Reader_read_128 at hf
  refine sf_blk [(.istore 4, 0, 0, .null), (.iload 4, 0, 0, .null)] (lv' := [(4, .int b0), (0, .ref a0), (2, .int a2)]) (st' := [.int b0]) (M1 := M) (ob := []) (pc' := 132) (by decide +kernel) rfl rfl sw_a0 ?_
  refine sf_z_eq (off := 9) (tgt := 141) (by decide +kernel) (by decide) hf (fun hc hf => ?_) (fun hc hf => ?_)
  · exact sf_weak [1, 2] rfl (t_Reader_read_141 hd _ hk46 hf)
  · obtain ⟨h1, hf⟩ := sw_gd_1 hf
    refine sf_blk [(.aload_n 0, 0, 0, .null), (.iconst (3), 0, 0, .int (3 : Int32))] (lv' := [(4, .int b0), (0, .ref a0), (2, .int a2)]) (st' := [.int (3 : Int32), .ref a0]) (M1 := M) (ob := []) (pc' := 137) (by decide +kernel) rfl rfl sw_a0 ?_
    obtain ⟨u2, hu2, hf⟩ := sw_bnd hf
    refine sf_callV (i := 65) (k2 := k_Reader_expect) (d2 := d - 1) (As := [.int (3 : Int32)]) (st := []) (q := a0) (ci := 6) mf_Reader_expect mi_Reader_expect ms_Reader_expect (sw_m3 171 (by decide +kernel)) rfl (by decide) (by decide +kernel) rfl (Nat.le_of_ble_eq_true rfl) (by omega) h1 (o_Reader_expect g (d := d - 1) (by omega) hu2) ?_
    show sw_F _ _ _ _ _ _ 140 [(4, .int b0), (0, .ref a0), (2, .int a2)] [.int u2.1] u2.2
    refine sf_blk [(.pop, 0, 0, .null)] (lv' := [(4, .int b0), (0, .ref a0), (2, .int a2)]) (st' := []) (M1 := u2.2) (ob := []) (pc' := 141) (by decide +kernel) rfl rfl sw_a0 ?_
    exact sf_weak [1, 2] rfl (t_Reader_read_141 hd _ hk46 hf)
def f_Reader_read_91 (N : Nat) (k46 : Nat → Int32 → sw_M → Option (sw_M)) (a0 : Nat) (a2 : Int32) (b0 : Int32) (M : sw_M) : Option (sw_M) :=
  if b0 = 0 then sw_gd [sw_ok M a0 6] (if (rd_I M a0 6) = (25 : Int32) then (f_Reader_use N a0 M).bind (fun u3 => f_Reader_read_128 N k46 a0 a2 u3.1 u3.2)
  else (f_Reader_wrong N a0 (1 : Int32) M).bind (fun u2 => f_Reader_read_128 N k46 a0 a2 u2.1 u2.2))
  else sw_gd [sw_ok M a0 6] ((f_Reader_part N a0 (rd_I M a0 6) M).bind (fun u5 => f_Reader_read_128 N k46 a0 a2 u5.1 u5.2))
set_option maxRecDepth 10000 in
theorem t_Reader_read_91 {g : sw_G} {d n0 : Nat} (hd : 106 ≤ d) {r : sw_M} (k46 : Nat → Int32 → sw_M → Option (sw_M)) (hk46 : ∀ (a0 : Nat) (a2 : Int32) (M : sw_M), k46 a0 a2 M = some r → sw_F g k_Reader_read d n0 none r 46 [(0, .ref a0), (2, .int a2)] [] M) {N : Nat} {a0 : Nat} {a2 : Int32} {b0 : Int32} {M : sw_M} (hf : f_Reader_read_91 N k46 a0 a2 b0 M = some r) : sw_F g k_Reader_read d n0 none r 91 [(0, .ref a0), (2, .int a2)] [.int b0] M := by
  unfold f_Reader_read_91 at hf
  refine sf_blk [(.istore_n 3, 0, 0, .null), (.iload_n 3, 0, 0, .null)] (lv' := [(3, .int b0), (0, .ref a0), (2, .int a2)]) (st' := [.int b0]) (M1 := M) (ob := []) (pc' := 93) (by decide +kernel) rfl rfl sw_a0 ?_
  refine sf_z_eq (off := 14) (tgt := 107) (by decide +kernel) (by decide) hf (fun hc hf => ?_) (fun hc hf => ?_)
  · obtain ⟨h1, hf⟩ := sw_gd_1 hf
    refine sf_blk [(.aload_n 0, 0, 0, .null), (.getfield 51, 6, 6, .null), (.bipush (25), 0, 0, .int (25 : Int32))] (lv' := [(3, .int b0), (0, .ref a0), (2, .int a2)]) (st' := [.int (25 : Int32), .int (rd_I M a0 6)]) (M1 := M) (ob := [sw_ok M a0 6]) (pc' := 113) (by decide +kernel) rfl rfl (sw_a1 h1 sw_a0) ?_
    refine sf_j_ne (off := 10) (tgt := 123) (by decide +kernel) (by decide) hf (fun hc hf => ?_) (fun hc hf => ?_)
    · refine sf_blk [(.aload_n 0, 0, 0, .null), (.iconst (1), 0, 0, .int (1 : Int32))] (lv' := [(3, .int b0), (0, .ref a0), (2, .int a2)]) (st' := [.int (1 : Int32), .ref a0]) (M1 := M) (ob := []) (pc' := 125) (by decide +kernel) rfl rfl sw_a0 ?_
      obtain ⟨u2, hu2, hf⟩ := sw_bnd hf
      refine sf_callV (i := 62) (k2 := k_Reader_wrong) (d2 := d - 1) (As := [.int (1 : Int32)]) (st := []) (q := a0) (ci := 6) mf_Reader_wrong mi_Reader_wrong ms_Reader_wrong (sw_m3 102 (by decide +kernel)) rfl (by decide) (by decide +kernel) rfl (Nat.le_of_ble_eq_true rfl) (by omega) h1 (o_Reader_wrong g (d := d - 1) (by omega) hu2) ?_
      show sw_F _ _ _ _ _ _ 128 [(3, .int b0), (0, .ref a0), (2, .int a2)] [.int u2.1] u2.2
      exact sf_weak [1, 2] rfl (t_Reader_read_128 hd _ hk46 hf)
    · refine sf_blk [(.aload_n 0, 0, 0, .null)] (lv' := [(3, .int b0), (0, .ref a0), (2, .int a2)]) (st' := [.ref a0]) (M1 := M) (ob := []) (pc' := 117) (by decide +kernel) rfl rfl sw_a0 ?_
      obtain ⟨u3, hu3, hf⟩ := sw_bnd hf
      refine sf_callV (i := 58) (k2 := k_Reader_use) (d2 := d - 1) (As := []) (st := []) (q := a0) (ci := 6) mf_Reader_use mi_Reader_use ms_Reader_use (sw_m3 135 (by decide +kernel)) rfl (by decide) (by decide +kernel) rfl (Nat.le_of_ble_eq_true rfl) (by omega) h1 (o_Reader_use g (d := d - 1) (by omega) hu3) ?_
      show sw_F _ _ _ _ _ _ 120 [(3, .int b0), (0, .ref a0), (2, .int a2)] [.int u3.1] u3.2
      refine sf_goto (off := 8) (tgt := 128) (by decide +kernel) (by decide) ?_
      exact sf_weak [1, 2] rfl (t_Reader_read_128 hd _ hk46 hf)
  · obtain ⟨h4, hf⟩ := sw_gd_1 hf
    refine sf_blk [(.aload_n 0, 0, 0, .null), (.aload_n 0, 0, 0, .null), (.getfield 51, 6, 6, .null)] (lv' := [(3, .int b0), (0, .ref a0), (2, .int a2)]) (st' := [.int (rd_I M a0 6), .ref a0]) (M1 := M) (ob := [sw_ok M a0 6]) (pc' := 101) (by decide +kernel) rfl rfl (sw_a1 h4 sw_a0) ?_
    obtain ⟨u5, hu5, hf⟩ := sw_bnd hf
    refine sf_callV (i := 54) (k2 := k_Reader_part) (d2 := d - 1) (As := [.int (rd_I M a0 6)]) (st := []) (q := a0) (ci := 6) mf_Reader_part mi_Reader_part ms_Reader_part (sw_m3 90 (by decide +kernel)) rfl (by decide) (by decide +kernel) rfl (Nat.le_of_ble_eq_true rfl) (by omega) h4 (o_Reader_part g (d := d - 1) (by omega) hu5) ?_
    show sw_F _ _ _ _ _ _ 104 [(3, .int b0), (0, .ref a0), (2, .int a2)] [.int u5.1] u5.2
    refine sf_goto (off := 24) (tgt := 128) (by decide +kernel) (by decide) ?_
    exact sf_weak [1, 2] rfl (t_Reader_read_128 hd _ hk46 hf)
def f_Reader_read_90 (N : Nat) (k46 : Nat → Int32 → sw_M → Option (sw_M)) (a0 : Nat) (a2 : Int32) (M : sw_M) : Option (sw_M) :=
  f_Reader_read_91 N k46 a0 a2 (0 : Int32) M
set_option maxRecDepth 10000 in
theorem t_Reader_read_90 {g : sw_G} {d n0 : Nat} (hd : 106 ≤ d) {r : sw_M} (k46 : Nat → Int32 → sw_M → Option (sw_M)) (hk46 : ∀ (a0 : Nat) (a2 : Int32) (M : sw_M), k46 a0 a2 M = some r → sw_F g k_Reader_read d n0 none r 46 [(0, .ref a0), (2, .int a2)] [] M) {N : Nat} {a0 : Nat} {a2 : Int32} {M : sw_M} (hf : f_Reader_read_90 N k46 a0 a2 M = some r) : sw_F g k_Reader_read d n0 none r 90 [(0, .ref a0), (2, .int a2)] [] M := by
  unfold f_Reader_read_90 at hf
  refine sf_blk [(.iconst (0), 0, 0, .int (0 : Int32))] (lv' := [(0, .ref a0), (2, .int a2)]) (st' := [.int (0 : Int32)]) (M1 := M) (ob := []) (pc' := 91) (by decide +kernel) rfl rfl sw_a0 ?_
  exact sf_weak [0, 1] rfl (t_Reader_read_91 hd _ hk46 hf)
def f_Reader_read_46 (N : Nat) : Nat → Nat → Int32 → sw_M → Option (sw_M)
  | 0, _, _, _ => none
  | j + 1, a0, a2, M =>
  sw_gd [sw_ok M a0 6] (if (rd_I M a0 3) < a2 then some M
  else if (rd_I M a0 9) = 0 then if (rd_I M a0 6) = 0 then some M
  else if (rd_I M a0 6) < (20 : Int32) then f_Reader_read_90 N (f_Reader_read_46 N j) a0 a2 M
  else if (24 : Int32) < (rd_I M a0 6) then f_Reader_read_90 N (f_Reader_read_46 N j) a0 a2 M
  else f_Reader_read_91 N (f_Reader_read_46 N j) a0 a2 (1 : Int32) M
  else some M)
set_option maxRecDepth 10000 in
theorem t_Reader_read_46 {g : sw_G} {d n0 : Nat} (hd : 106 ≤ d) {r : sw_M} {N : Nat} : ∀ (j : Nat) (a0 : Nat) (a2 : Int32) (M : sw_M), f_Reader_read_46 N j a0 a2 M = some r → sw_F g k_Reader_read d n0 none r 46 [(0, .ref a0), (2, .int a2)] [] M := by
  intro j
  induction j with
  | zero =>
    intro a0 a2 M hf
    rw [f_Reader_read_46] at hf
    cases hf
  | succ j ih =>
    intro a0 a2 M hf
    rw [f_Reader_read_46] at hf
    obtain ⟨h1, hf⟩ := sw_gd_1 hf
    refine sf_blk [(.iload_n 2, 0, 0, .null), (.aload_n 0, 0, 0, .null), (.getfield 35, 6, 3, .null)] (lv' := [(0, .ref a0), (2, .int a2)]) (st' := [.int (rd_I M a0 3), .int a2]) (M1 := M) (ob := [sw_ok M a0 6]) (pc' := 51) (by decide +kernel) rfl rfl (sw_a1 h1 sw_a0) ?_
    refine sf_j_gt (off := 96) (tgt := 147) (by decide +kernel) (by decide) hf (fun hc hf => ?_) (fun hc hf => ?_)
    · cases hf
      exact sf_void rfl (by decide +kernel)
    · refine sf_blk [(.aload_n 0, 0, 0, .null), (.getfield 18, 6, 9, .null)] (lv' := [(0, .ref a0), (2, .int a2)]) (st' := [.int (rd_I M a0 9)]) (M1 := M) (ob := [sw_ok M a0 6]) (pc' := 58) (by decide +kernel) rfl rfl (sw_a1 h1 sw_a0) ?_
      refine sf_z_ne (off := 89) (tgt := 147) (by decide +kernel) (by decide) hf (fun hc hf => ?_) (fun hc hf => ?_)
      · cases hf
        exact sf_void rfl (by decide +kernel)
      · refine sf_blk [(.aload_n 0, 0, 0, .null), (.getfield 51, 6, 6, .null)] (lv' := [(0, .ref a0), (2, .int a2)]) (st' := [.int (rd_I M a0 6)]) (M1 := M) (ob := [sw_ok M a0 6]) (pc' := 65) (by decide +kernel) rfl rfl (sw_a1 h1 sw_a0) ?_
        refine sf_z_eq (off := 82) (tgt := 147) (by decide +kernel) (by decide) hf (fun hc hf => ?_) (fun hc hf => ?_)
        · cases hf
          exact sf_void rfl (by decide +kernel)
        · refine sf_blk [(.aload_n 0, 0, 0, .null), (.getfield 51, 6, 6, .null), (.bipush (20), 0, 0, .int (20 : Int32))] (lv' := [(0, .ref a0), (2, .int a2)]) (st' := [.int (20 : Int32), .int (rd_I M a0 6)]) (M1 := M) (ob := [sw_ok M a0 6]) (pc' := 74) (by decide +kernel) rfl rfl (sw_a1 h1 sw_a0) ?_
          refine sf_j_lt (off := 16) (tgt := 90) (by decide +kernel) (by decide) hf (fun hc hf => ?_) (fun hc hf => ?_)
          · exact sf_weak [0, 1] rfl (t_Reader_read_90 hd _ ih hf)
          · refine sf_blk [(.aload_n 0, 0, 0, .null), (.getfield 51, 6, 6, .null), (.bipush (24), 0, 0, .int (24 : Int32))] (lv' := [(0, .ref a0), (2, .int a2)]) (st' := [.int (24 : Int32), .int (rd_I M a0 6)]) (M1 := M) (ob := [sw_ok M a0 6]) (pc' := 83) (by decide +kernel) rfl rfl (sw_a1 h1 sw_a0) ?_
            refine sf_j_gt (off := 7) (tgt := 90) (by decide +kernel) (by decide) hf (fun hc hf => ?_) (fun hc hf => ?_)
            · exact sf_weak [0, 1] rfl (t_Reader_read_90 hd _ ih hf)
            · refine sf_blk [(.iconst (1), 0, 0, .int (1 : Int32))] (lv' := [(0, .ref a0), (2, .int a2)]) (st' := [.int (1 : Int32)]) (M1 := M) (ob := []) (pc' := 87) (by decide +kernel) rfl rfl sw_a0 ?_
              refine sf_goto (off := 4) (tgt := 91) (by decide +kernel) (by decide) ?_
              exact sf_weak [0, 1] rfl (t_Reader_read_91 hd _ ih hf)
def f_Reader_read (N : Nat) (a0 : Nat) (a1 : Int32) (M : sw_M) : Option (sw_M) :=
  sw_gd [sw_ok M a0 6] (sw_gd [sw_oka M (rd_R M a0 0)] (sw_gd [sw_ok (wr_I (wr_I (wr_I (wr_I (wr_I M a0 3 (m_minI a1 (nI (sw_len (rd_R M a0 0))))) a0 5 (0 : Int32)) a0 9 (0 : Int32)) a0 10 (-1 : Int32)) a0 2 (0 : Int32)) (rd_R (wr_I (wr_I (wr_I (wr_I (wr_I M a0 3 (m_minI a1 (nI (sw_len (rd_R M a0 0))))) a0 5 (0 : Int32)) a0 9 (0 : Int32)) a0 10 (-1 : Int32)) a0 2 (0 : Int32)) a0 1) 0] ((f_Field_clear N (rd_R (wr_I (wr_I (wr_I (wr_I (wr_I M a0 3 (m_minI a1 (nI (sw_len (rd_R M a0 0))))) a0 5 (0 : Int32)) a0 9 (0 : Int32)) a0 10 (-1 : Int32)) a0 2 (0 : Int32)) a0 1) (wr_I (wr_I (wr_I (wr_I (wr_I M a0 3 (m_minI a1 (nI (sw_len (rd_R M a0 0))))) a0 5 (0 : Int32)) a0 9 (0 : Int32)) a0 10 (-1 : Int32)) a0 2 (0 : Int32))).bind (fun u4 => sw_gd [sw_ok u4 a0 6] ((f_Reader_advance N a0 u4).bind (fun u6 => f_Reader_read_46 N N a0 (0 : Int32) u6))))))
set_option maxRecDepth 10000 in
theorem t_Reader_read {g : sw_G} {d n0 : Nat} (hd : 106 ≤ d) {r : sw_M} {N : Nat} {a0 : Nat} {a1 : Int32} {M : sw_M} (hf : f_Reader_read N a0 a1 M = some r) : sw_F g k_Reader_read d n0 none r 0 [(0, .ref a0), (1, .int a1)] [] M := by
  unfold f_Reader_read at hf
  obtain ⟨h1, hf⟩ := sw_gd_1 hf
  obtain ⟨h2, hf⟩ := sw_gd_1 hf
  refine sf_blk [(.aload_n 0, 0, 0, .null), (.iload_n 1, 0, 0, .null), (.aload_n 0, 0, 0, .null), (.getfield 25, 6, 0, .null), (.arraylength, 0, 0, .null)] (lv' := [(0, .ref a0), (1, .int a1)]) (st' := [.int (nI (sw_len (rd_R M a0 0))), .int a1, .ref a0]) (M1 := M) (ob := [sw_ok M a0 6, sw_oka M (rd_R M a0 0)]) (pc' := 7) (by decide +kernel) rfl rfl (sw_a1 h1 (sw_a1 h2 sw_a0)) ?_
  refine sf_minI (i := 29) (st := [.ref a0]) (sw_m3 13 (by decide +kernel)) (by decide +kernel) (by omega) (Nat.le_of_ble_eq_true rfl) ?_
  show sw_F _ _ _ _ _ _ 10 [(0, .ref a0), (1, .int a1)] [.int (m_minI a1 (nI (sw_len (rd_R M a0 0)))), .ref a0] M
  obtain ⟨h3, hf⟩ := sw_gd_1 hf
  refine sf_blk [(.putfield 35, 6, 3, .null), (.aload_n 0, 0, 0, .null), (.iconst (0), 0, 0, .int (0 : Int32)), (.putfield 38, 6, 5, .null), (.aload_n 0, 0, 0, .null), (.iconst (0), 0, 0, .int (0 : Int32)), (.putfield 18, 6, 9, .null), (.aload_n 0, 0, 0, .null), (.iconst (-1), 0, 0, .int (-1 : Int32)), (.putfield 22, 6, 10, .null), (.aload_n 0, 0, 0, .null), (.iconst (0), 0, 0, .int (0 : Int32)), (.putfield 41, 6, 2, .null), (.aload_n 0, 0, 0, .null), (.getfield 12, 6, 1, .null)] (lv' := [(0, .ref a0), (1, .int a1)]) (st' := [.ref (rd_R (wr_I (wr_I (wr_I (wr_I (wr_I M a0 3 (m_minI a1 (nI (sw_len (rd_R M a0 0))))) a0 5 (0 : Int32)) a0 9 (0 : Int32)) a0 10 (-1 : Int32)) a0 2 (0 : Int32)) a0 1)]) (M1 := (wr_I (wr_I (wr_I (wr_I (wr_I M a0 3 (m_minI a1 (nI (sw_len (rd_R M a0 0))))) a0 5 (0 : Int32)) a0 9 (0 : Int32)) a0 10 (-1 : Int32)) a0 2 (0 : Int32))) (ob := [sw_ok M a0 6, sw_ok (wr_I M a0 3 (m_minI a1 (nI (sw_len (rd_R M a0 0))))) a0 6, sw_ok (wr_I (wr_I M a0 3 (m_minI a1 (nI (sw_len (rd_R M a0 0))))) a0 5 (0 : Int32)) a0 6, sw_ok (wr_I (wr_I (wr_I M a0 3 (m_minI a1 (nI (sw_len (rd_R M a0 0))))) a0 5 (0 : Int32)) a0 9 (0 : Int32)) a0 6, sw_ok (wr_I (wr_I (wr_I (wr_I M a0 3 (m_minI a1 (nI (sw_len (rd_R M a0 0))))) a0 5 (0 : Int32)) a0 9 (0 : Int32)) a0 10 (-1 : Int32)) a0 6, sw_bz (0 : Int32), sw_ok (wr_I (wr_I (wr_I (wr_I (wr_I M a0 3 (m_minI a1 (nI (sw_len (rd_R M a0 0))))) a0 5 (0 : Int32)) a0 9 (0 : Int32)) a0 10 (-1 : Int32)) a0 2 (0 : Int32)) a0 6]) (pc' := 37) (by decide +kernel) rfl rfl (sw_a1 h1 (sw_a1 h1 (sw_a1 h1 (sw_a1 h1 (sw_a1 h1 (sw_a1 rfl (sw_a1 h1 sw_a0))))))) ?_
  obtain ⟨u4, hu4, hf⟩ := sw_bnd hf
  refine sf_callV (i := 45) (k2 := k_Field_clear) (d2 := d - 1) (As := []) (st := []) (q := (rd_R (wr_I (wr_I (wr_I (wr_I (wr_I M a0 3 (m_minI a1 (nI (sw_len (rd_R M a0 0))))) a0 5 (0 : Int32)) a0 9 (0 : Int32)) a0 10 (-1 : Int32)) a0 2 (0 : Int32)) a0 1)) (ci := 0) mf_Field_clear mi_Field_clear ms_Field_clear (sw_m3 16 (by decide +kernel)) rfl (by decide) (by decide +kernel) rfl (Nat.le_of_ble_eq_true rfl) (by omega) h3 (o_Field_clear g (d := d - 1) (by omega) hu4) ?_
  show sw_F _ _ _ _ _ _ 40 [(0, .ref a0), (1, .int a1)] [] u4
  obtain ⟨h5, hf⟩ := sw_gd_1 hf
  refine sf_blk [(.aload_n 0, 0, 0, .null)] (lv' := [(0, .ref a0), (1, .int a1)]) (st' := [.ref a0]) (M1 := u4) (ob := []) (pc' := 41) (by decide +kernel) rfl rfl sw_a0 ?_
  obtain ⟨u6, hu6, hf⟩ := sw_bnd hf
  refine sf_callV (i := 48) (k2 := k_Reader_advance) (d2 := d - 1) (As := []) (st := []) (q := a0) (ci := 6) mf_Reader_advance mi_Reader_advance ms_Reader_advance (sw_m3 24 (by decide +kernel)) rfl (by decide) (by decide +kernel) rfl (Nat.le_of_ble_eq_true rfl) (by omega) h5 (o_Reader_advance g (d := d - 1) (by omega) hu6) ?_
  show sw_F _ _ _ _ _ _ 44 [(0, .ref a0), (1, .int a1)] [] u6
  refine sf_blk [(.iconst (0), 0, 0, .int (0 : Int32)), (.istore_n 2, 0, 0, .null)] (lv' := [(2, .int (0 : Int32)), (0, .ref a0), (1, .int a1)]) (st' := []) (M1 := u6) (ob := []) (pc' := 46) (by decide +kernel) rfl rfl sw_a0 ?_
  exact sf_weak [1, 0] rfl (t_Reader_read_46 hd _ _ _ _ hf)
theorem o_Reader_read (g : sw_G) {d : Nat} (hd : 106 ≤ d) {N : Nat} {a0 : Nat} {a1 : Int32} {M : sw_M} {r : sw_M} (hf : f_Reader_read N a0 a1 M = some r) : sw_Ok g k_Reader_read d [.ref a0, .int a1] M none r := sf_met (by decide +kernel) rfl (by decide) (Nat.le_of_ble_eq_true rfl) (t_Reader_read hd hf)
def f_Field_take (N : Nat) (a0 : Nat) (a1 : Nat) (M : sw_M) : Option (sw_M) :=
  sw_gd [sw_ok M a0 0] (sw_gd [sw_ok M a1 0] (some (wr_R (wr_R (wr_I (wr_I (wr_I (wr_I (wr_R (wr_R M a0 0 (rd_R M a1 0)) a0 1 (rd_R (wr_R M a0 0 (rd_R M a1 0)) a1 1)) a0 2 (rd_I (wr_R (wr_R M a0 0 (rd_R M a1 0)) a0 1 (rd_R (wr_R M a0 0 (rd_R M a1 0)) a1 1)) a1 2)) a0 3 (rd_I (wr_I (wr_R (wr_R M a0 0 (rd_R M a1 0)) a0 1 (rd_R (wr_R M a0 0 (rd_R M a1 0)) a1 1)) a0 2 (rd_I (wr_R (wr_R M a0 0 (rd_R M a1 0)) a0 1 (rd_R (wr_R M a0 0 (rd_R M a1 0)) a1 1)) a1 2)) a1 3)) a0 4 (rd_I (wr_I (wr_I (wr_R (wr_R M a0 0 (rd_R M a1 0)) a0 1 (rd_R (wr_R M a0 0 (rd_R M a1 0)) a1 1)) a0 2 (rd_I (wr_R (wr_R M a0 0 (rd_R M a1 0)) a0 1 (rd_R (wr_R M a0 0 (rd_R M a1 0)) a1 1)) a1 2)) a0 3 (rd_I (wr_I (wr_R (wr_R M a0 0 (rd_R M a1 0)) a0 1 (rd_R (wr_R M a0 0 (rd_R M a1 0)) a1 1)) a0 2 (rd_I (wr_R (wr_R M a0 0 (rd_R M a1 0)) a0 1 (rd_R (wr_R M a0 0 (rd_R M a1 0)) a1 1)) a1 2)) a1 3)) a1 4)) a0 5 (rd_I (wr_I (wr_I (wr_I (wr_R (wr_R M a0 0 (rd_R M a1 0)) a0 1 (rd_R (wr_R M a0 0 (rd_R M a1 0)) a1 1)) a0 2 (rd_I (wr_R (wr_R M a0 0 (rd_R M a1 0)) a0 1 (rd_R (wr_R M a0 0 (rd_R M a1 0)) a1 1)) a1 2)) a0 3 (rd_I (wr_I (wr_R (wr_R M a0 0 (rd_R M a1 0)) a0 1 (rd_R (wr_R M a0 0 (rd_R M a1 0)) a1 1)) a0 2 (rd_I (wr_R (wr_R M a0 0 (rd_R M a1 0)) a0 1 (rd_R (wr_R M a0 0 (rd_R M a1 0)) a1 1)) a1 2)) a1 3)) a0 4 (rd_I (wr_I (wr_I (wr_R (wr_R M a0 0 (rd_R M a1 0)) a0 1 (rd_R (wr_R M a0 0 (rd_R M a1 0)) a1 1)) a0 2 (rd_I (wr_R (wr_R M a0 0 (rd_R M a1 0)) a0 1 (rd_R (wr_R M a0 0 (rd_R M a1 0)) a1 1)) a1 2)) a0 3 (rd_I (wr_I (wr_R (wr_R M a0 0 (rd_R M a1 0)) a0 1 (rd_R (wr_R M a0 0 (rd_R M a1 0)) a1 1)) a0 2 (rd_I (wr_R (wr_R M a0 0 (rd_R M a1 0)) a0 1 (rd_R (wr_R M a0 0 (rd_R M a1 0)) a1 1)) a1 2)) a1 3)) a1 4)) a1 5)) a1 0 (rd_R M a0 0)) a1 1 (rd_R M a0 1))))
set_option maxRecDepth 10000 in
theorem t_Field_take {g : sw_G} {d n0 : Nat} (hd : 1 ≤ d) {r : sw_M} {N : Nat} {a0 : Nat} {a1 : Nat} {M : sw_M} (hf : f_Field_take N a0 a1 M = some r) : sw_F g k_Field_take d n0 none r 0 [(0, .ref a0), (1, .ref a1)] [] M := by
  unfold f_Field_take at hf
  obtain ⟨h1, hf⟩ := sw_gd_1 hf
  obtain ⟨h2, hf⟩ := sw_gd_1 hf
  refine sf_blk [(.aload_n 0, 0, 0, .null), (.getfield 11, 0, 0, .null), (.astore_n 2, 0, 0, .null), (.aload_n 0, 0, 0, .null), (.getfield 20, 0, 1, .null), (.astore_n 3, 0, 0, .null), (.aload_n 0, 0, 0, .null), (.aload_n 1, 0, 0, .null), (.getfield 11, 0, 0, .null), (.putfield 11, 0, 0, .null), (.aload_n 0, 0, 0, .null), (.aload_n 1, 0, 0, .null), (.getfield 20, 0, 1, .null), (.putfield 20, 0, 1, .null), (.aload_n 0, 0, 0, .null), (.aload_n 1, 0, 0, .null), (.getfield 25, 0, 2, .null), (.putfield 25, 0, 2, .null), (.aload_n 0, 0, 0, .null), (.aload_n 1, 0, 0, .null), (.getfield 29, 0, 3, .null), (.putfield 29, 0, 3, .null), (.aload_n 0, 0, 0, .null), (.aload_n 1, 0, 0, .null), (.getfield 32, 0, 4, .null), (.putfield 32, 0, 4, .null), (.aload_n 0, 0, 0, .null), (.aload_n 1, 0, 0, .null), (.getfield 35, 0, 5, .null), (.putfield 35, 0, 5, .null), (.aload_n 1, 0, 0, .null), (.aload_n 2, 0, 0, .null), (.putfield 11, 0, 0, .null), (.aload_n 1, 0, 0, .null), (.aload_n 3, 0, 0, .null), (.putfield 20, 0, 1, .null)] (lv' := [(3, .ref (rd_R M a0 1)), (2, .ref (rd_R M a0 0)), (0, .ref a0), (1, .ref a1)]) (st' := []) (M1 := (wr_R (wr_R (wr_I (wr_I (wr_I (wr_I (wr_R (wr_R M a0 0 (rd_R M a1 0)) a0 1 (rd_R (wr_R M a0 0 (rd_R M a1 0)) a1 1)) a0 2 (rd_I (wr_R (wr_R M a0 0 (rd_R M a1 0)) a0 1 (rd_R (wr_R M a0 0 (rd_R M a1 0)) a1 1)) a1 2)) a0 3 (rd_I (wr_I (wr_R (wr_R M a0 0 (rd_R M a1 0)) a0 1 (rd_R (wr_R M a0 0 (rd_R M a1 0)) a1 1)) a0 2 (rd_I (wr_R (wr_R M a0 0 (rd_R M a1 0)) a0 1 (rd_R (wr_R M a0 0 (rd_R M a1 0)) a1 1)) a1 2)) a1 3)) a0 4 (rd_I (wr_I (wr_I (wr_R (wr_R M a0 0 (rd_R M a1 0)) a0 1 (rd_R (wr_R M a0 0 (rd_R M a1 0)) a1 1)) a0 2 (rd_I (wr_R (wr_R M a0 0 (rd_R M a1 0)) a0 1 (rd_R (wr_R M a0 0 (rd_R M a1 0)) a1 1)) a1 2)) a0 3 (rd_I (wr_I (wr_R (wr_R M a0 0 (rd_R M a1 0)) a0 1 (rd_R (wr_R M a0 0 (rd_R M a1 0)) a1 1)) a0 2 (rd_I (wr_R (wr_R M a0 0 (rd_R M a1 0)) a0 1 (rd_R (wr_R M a0 0 (rd_R M a1 0)) a1 1)) a1 2)) a1 3)) a1 4)) a0 5 (rd_I (wr_I (wr_I (wr_I (wr_R (wr_R M a0 0 (rd_R M a1 0)) a0 1 (rd_R (wr_R M a0 0 (rd_R M a1 0)) a1 1)) a0 2 (rd_I (wr_R (wr_R M a0 0 (rd_R M a1 0)) a0 1 (rd_R (wr_R M a0 0 (rd_R M a1 0)) a1 1)) a1 2)) a0 3 (rd_I (wr_I (wr_R (wr_R M a0 0 (rd_R M a1 0)) a0 1 (rd_R (wr_R M a0 0 (rd_R M a1 0)) a1 1)) a0 2 (rd_I (wr_R (wr_R M a0 0 (rd_R M a1 0)) a0 1 (rd_R (wr_R M a0 0 (rd_R M a1 0)) a1 1)) a1 2)) a1 3)) a0 4 (rd_I (wr_I (wr_I (wr_R (wr_R M a0 0 (rd_R M a1 0)) a0 1 (rd_R (wr_R M a0 0 (rd_R M a1 0)) a1 1)) a0 2 (rd_I (wr_R (wr_R M a0 0 (rd_R M a1 0)) a0 1 (rd_R (wr_R M a0 0 (rd_R M a1 0)) a1 1)) a1 2)) a0 3 (rd_I (wr_I (wr_R (wr_R M a0 0 (rd_R M a1 0)) a0 1 (rd_R (wr_R M a0 0 (rd_R M a1 0)) a1 1)) a0 2 (rd_I (wr_R (wr_R M a0 0 (rd_R M a1 0)) a0 1 (rd_R (wr_R M a0 0 (rd_R M a1 0)) a1 1)) a1 2)) a1 3)) a1 4)) a1 5)) a1 0 (rd_R M a0 0)) a1 1 (rd_R M a0 1))) (ob := [sw_ok M a0 0, sw_ok M a0 0, sw_ok M a1 0, sw_ok M a0 0, sw_ok (wr_R M a0 0 (rd_R M a1 0)) a1 0, sw_ok (wr_R M a0 0 (rd_R M a1 0)) a0 0, sw_ok (wr_R (wr_R M a0 0 (rd_R M a1 0)) a0 1 (rd_R (wr_R M a0 0 (rd_R M a1 0)) a1 1)) a1 0, sw_ok (wr_R (wr_R M a0 0 (rd_R M a1 0)) a0 1 (rd_R (wr_R M a0 0 (rd_R M a1 0)) a1 1)) a0 0, sw_ok (wr_I (wr_R (wr_R M a0 0 (rd_R M a1 0)) a0 1 (rd_R (wr_R M a0 0 (rd_R M a1 0)) a1 1)) a0 2 (rd_I (wr_R (wr_R M a0 0 (rd_R M a1 0)) a0 1 (rd_R (wr_R M a0 0 (rd_R M a1 0)) a1 1)) a1 2)) a1 0, sw_ok (wr_I (wr_R (wr_R M a0 0 (rd_R M a1 0)) a0 1 (rd_R (wr_R M a0 0 (rd_R M a1 0)) a1 1)) a0 2 (rd_I (wr_R (wr_R M a0 0 (rd_R M a1 0)) a0 1 (rd_R (wr_R M a0 0 (rd_R M a1 0)) a1 1)) a1 2)) a0 0, sw_ok (wr_I (wr_I (wr_R (wr_R M a0 0 (rd_R M a1 0)) a0 1 (rd_R (wr_R M a0 0 (rd_R M a1 0)) a1 1)) a0 2 (rd_I (wr_R (wr_R M a0 0 (rd_R M a1 0)) a0 1 (rd_R (wr_R M a0 0 (rd_R M a1 0)) a1 1)) a1 2)) a0 3 (rd_I (wr_I (wr_R (wr_R M a0 0 (rd_R M a1 0)) a0 1 (rd_R (wr_R M a0 0 (rd_R M a1 0)) a1 1)) a0 2 (rd_I (wr_R (wr_R M a0 0 (rd_R M a1 0)) a0 1 (rd_R (wr_R M a0 0 (rd_R M a1 0)) a1 1)) a1 2)) a1 3)) a1 0, sw_ok (wr_I (wr_I (wr_R (wr_R M a0 0 (rd_R M a1 0)) a0 1 (rd_R (wr_R M a0 0 (rd_R M a1 0)) a1 1)) a0 2 (rd_I (wr_R (wr_R M a0 0 (rd_R M a1 0)) a0 1 (rd_R (wr_R M a0 0 (rd_R M a1 0)) a1 1)) a1 2)) a0 3 (rd_I (wr_I (wr_R (wr_R M a0 0 (rd_R M a1 0)) a0 1 (rd_R (wr_R M a0 0 (rd_R M a1 0)) a1 1)) a0 2 (rd_I (wr_R (wr_R M a0 0 (rd_R M a1 0)) a0 1 (rd_R (wr_R M a0 0 (rd_R M a1 0)) a1 1)) a1 2)) a1 3)) a0 0, sw_ok (wr_I (wr_I (wr_I (wr_R (wr_R M a0 0 (rd_R M a1 0)) a0 1 (rd_R (wr_R M a0 0 (rd_R M a1 0)) a1 1)) a0 2 (rd_I (wr_R (wr_R M a0 0 (rd_R M a1 0)) a0 1 (rd_R (wr_R M a0 0 (rd_R M a1 0)) a1 1)) a1 2)) a0 3 (rd_I (wr_I (wr_R (wr_R M a0 0 (rd_R M a1 0)) a0 1 (rd_R (wr_R M a0 0 (rd_R M a1 0)) a1 1)) a0 2 (rd_I (wr_R (wr_R M a0 0 (rd_R M a1 0)) a0 1 (rd_R (wr_R M a0 0 (rd_R M a1 0)) a1 1)) a1 2)) a1 3)) a0 4 (rd_I (wr_I (wr_I (wr_R (wr_R M a0 0 (rd_R M a1 0)) a0 1 (rd_R (wr_R M a0 0 (rd_R M a1 0)) a1 1)) a0 2 (rd_I (wr_R (wr_R M a0 0 (rd_R M a1 0)) a0 1 (rd_R (wr_R M a0 0 (rd_R M a1 0)) a1 1)) a1 2)) a0 3 (rd_I (wr_I (wr_R (wr_R M a0 0 (rd_R M a1 0)) a0 1 (rd_R (wr_R M a0 0 (rd_R M a1 0)) a1 1)) a0 2 (rd_I (wr_R (wr_R M a0 0 (rd_R M a1 0)) a0 1 (rd_R (wr_R M a0 0 (rd_R M a1 0)) a1 1)) a1 2)) a1 3)) a1 4)) a1 0, sw_ok (wr_I (wr_I (wr_I (wr_R (wr_R M a0 0 (rd_R M a1 0)) a0 1 (rd_R (wr_R M a0 0 (rd_R M a1 0)) a1 1)) a0 2 (rd_I (wr_R (wr_R M a0 0 (rd_R M a1 0)) a0 1 (rd_R (wr_R M a0 0 (rd_R M a1 0)) a1 1)) a1 2)) a0 3 (rd_I (wr_I (wr_R (wr_R M a0 0 (rd_R M a1 0)) a0 1 (rd_R (wr_R M a0 0 (rd_R M a1 0)) a1 1)) a0 2 (rd_I (wr_R (wr_R M a0 0 (rd_R M a1 0)) a0 1 (rd_R (wr_R M a0 0 (rd_R M a1 0)) a1 1)) a1 2)) a1 3)) a0 4 (rd_I (wr_I (wr_I (wr_R (wr_R M a0 0 (rd_R M a1 0)) a0 1 (rd_R (wr_R M a0 0 (rd_R M a1 0)) a1 1)) a0 2 (rd_I (wr_R (wr_R M a0 0 (rd_R M a1 0)) a0 1 (rd_R (wr_R M a0 0 (rd_R M a1 0)) a1 1)) a1 2)) a0 3 (rd_I (wr_I (wr_R (wr_R M a0 0 (rd_R M a1 0)) a0 1 (rd_R (wr_R M a0 0 (rd_R M a1 0)) a1 1)) a0 2 (rd_I (wr_R (wr_R M a0 0 (rd_R M a1 0)) a0 1 (rd_R (wr_R M a0 0 (rd_R M a1 0)) a1 1)) a1 2)) a1 3)) a1 4)) a0 0, sw_ok (wr_I (wr_I (wr_I (wr_I (wr_R (wr_R M a0 0 (rd_R M a1 0)) a0 1 (rd_R (wr_R M a0 0 (rd_R M a1 0)) a1 1)) a0 2 (rd_I (wr_R (wr_R M a0 0 (rd_R M a1 0)) a0 1 (rd_R (wr_R M a0 0 (rd_R M a1 0)) a1 1)) a1 2)) a0 3 (rd_I (wr_I (wr_R (wr_R M a0 0 (rd_R M a1 0)) a0 1 (rd_R (wr_R M a0 0 (rd_R M a1 0)) a1 1)) a0 2 (rd_I (wr_R (wr_R M a0 0 (rd_R M a1 0)) a0 1 (rd_R (wr_R M a0 0 (rd_R M a1 0)) a1 1)) a1 2)) a1 3)) a0 4 (rd_I (wr_I (wr_I (wr_R (wr_R M a0 0 (rd_R M a1 0)) a0 1 (rd_R (wr_R M a0 0 (rd_R M a1 0)) a1 1)) a0 2 (rd_I (wr_R (wr_R M a0 0 (rd_R M a1 0)) a0 1 (rd_R (wr_R M a0 0 (rd_R M a1 0)) a1 1)) a1 2)) a0 3 (rd_I (wr_I (wr_R (wr_R M a0 0 (rd_R M a1 0)) a0 1 (rd_R (wr_R M a0 0 (rd_R M a1 0)) a1 1)) a0 2 (rd_I (wr_R (wr_R M a0 0 (rd_R M a1 0)) a0 1 (rd_R (wr_R M a0 0 (rd_R M a1 0)) a1 1)) a1 2)) a1 3)) a1 4)) a0 5 (rd_I (wr_I (wr_I (wr_I (wr_R (wr_R M a0 0 (rd_R M a1 0)) a0 1 (rd_R (wr_R M a0 0 (rd_R M a1 0)) a1 1)) a0 2 (rd_I (wr_R (wr_R M a0 0 (rd_R M a1 0)) a0 1 (rd_R (wr_R M a0 0 (rd_R M a1 0)) a1 1)) a1 2)) a0 3 (rd_I (wr_I (wr_R (wr_R M a0 0 (rd_R M a1 0)) a0 1 (rd_R (wr_R M a0 0 (rd_R M a1 0)) a1 1)) a0 2 (rd_I (wr_R (wr_R M a0 0 (rd_R M a1 0)) a0 1 (rd_R (wr_R M a0 0 (rd_R M a1 0)) a1 1)) a1 2)) a1 3)) a0 4 (rd_I (wr_I (wr_I (wr_R (wr_R M a0 0 (rd_R M a1 0)) a0 1 (rd_R (wr_R M a0 0 (rd_R M a1 0)) a1 1)) a0 2 (rd_I (wr_R (wr_R M a0 0 (rd_R M a1 0)) a0 1 (rd_R (wr_R M a0 0 (rd_R M a1 0)) a1 1)) a1 2)) a0 3 (rd_I (wr_I (wr_R (wr_R M a0 0 (rd_R M a1 0)) a0 1 (rd_R (wr_R M a0 0 (rd_R M a1 0)) a1 1)) a0 2 (rd_I (wr_R (wr_R M a0 0 (rd_R M a1 0)) a0 1 (rd_R (wr_R M a0 0 (rd_R M a1 0)) a1 1)) a1 2)) a1 3)) a1 4)) a1 5)) a1 0, sw_ok (wr_R (wr_I (wr_I (wr_I (wr_I (wr_R (wr_R M a0 0 (rd_R M a1 0)) a0 1 (rd_R (wr_R M a0 0 (rd_R M a1 0)) a1 1)) a0 2 (rd_I (wr_R (wr_R M a0 0 (rd_R M a1 0)) a0 1 (rd_R (wr_R M a0 0 (rd_R M a1 0)) a1 1)) a1 2)) a0 3 (rd_I (wr_I (wr_R (wr_R M a0 0 (rd_R M a1 0)) a0 1 (rd_R (wr_R M a0 0 (rd_R M a1 0)) a1 1)) a0 2 (rd_I (wr_R (wr_R M a0 0 (rd_R M a1 0)) a0 1 (rd_R (wr_R M a0 0 (rd_R M a1 0)) a1 1)) a1 2)) a1 3)) a0 4 (rd_I (wr_I (wr_I (wr_R (wr_R M a0 0 (rd_R M a1 0)) a0 1 (rd_R (wr_R M a0 0 (rd_R M a1 0)) a1 1)) a0 2 (rd_I (wr_R (wr_R M a0 0 (rd_R M a1 0)) a0 1 (rd_R (wr_R M a0 0 (rd_R M a1 0)) a1 1)) a1 2)) a0 3 (rd_I (wr_I (wr_R (wr_R M a0 0 (rd_R M a1 0)) a0 1 (rd_R (wr_R M a0 0 (rd_R M a1 0)) a1 1)) a0 2 (rd_I (wr_R (wr_R M a0 0 (rd_R M a1 0)) a0 1 (rd_R (wr_R M a0 0 (rd_R M a1 0)) a1 1)) a1 2)) a1 3)) a1 4)) a0 5 (rd_I (wr_I (wr_I (wr_I (wr_R (wr_R M a0 0 (rd_R M a1 0)) a0 1 (rd_R (wr_R M a0 0 (rd_R M a1 0)) a1 1)) a0 2 (rd_I (wr_R (wr_R M a0 0 (rd_R M a1 0)) a0 1 (rd_R (wr_R M a0 0 (rd_R M a1 0)) a1 1)) a1 2)) a0 3 (rd_I (wr_I (wr_R (wr_R M a0 0 (rd_R M a1 0)) a0 1 (rd_R (wr_R M a0 0 (rd_R M a1 0)) a1 1)) a0 2 (rd_I (wr_R (wr_R M a0 0 (rd_R M a1 0)) a0 1 (rd_R (wr_R M a0 0 (rd_R M a1 0)) a1 1)) a1 2)) a1 3)) a0 4 (rd_I (wr_I (wr_I (wr_R (wr_R M a0 0 (rd_R M a1 0)) a0 1 (rd_R (wr_R M a0 0 (rd_R M a1 0)) a1 1)) a0 2 (rd_I (wr_R (wr_R M a0 0 (rd_R M a1 0)) a0 1 (rd_R (wr_R M a0 0 (rd_R M a1 0)) a1 1)) a1 2)) a0 3 (rd_I (wr_I (wr_R (wr_R M a0 0 (rd_R M a1 0)) a0 1 (rd_R (wr_R M a0 0 (rd_R M a1 0)) a1 1)) a0 2 (rd_I (wr_R (wr_R M a0 0 (rd_R M a1 0)) a0 1 (rd_R (wr_R M a0 0 (rd_R M a1 0)) a1 1)) a1 2)) a1 3)) a1 4)) a1 5)) a1 0 (rd_R M a0 0)) a1 0]) (pc' := 68) (by decide +kernel) rfl rfl (sw_a1 h1 (sw_a1 h1 (sw_a1 h2 (sw_a1 h1 (sw_a1 h2 (sw_a1 h1 (sw_a1 h2 (sw_a1 h1 (sw_a1 h2 (sw_a1 h1 (sw_a1 h2 (sw_a1 h1 (sw_a1 h2 (sw_a1 h1 (sw_a1 h2 (sw_a1 h2 sw_a0)))))))))))))))) ?_
  cases hf
  exact sf_void rfl (by decide +kernel)
theorem o_Field_take (g : sw_G) {d : Nat} (hd : 1 ≤ d) {N : Nat} {a0 : Nat} {a1 : Nat} {M : sw_M} {r : sw_M} (hf : f_Field_take N a0 a1 M = some r) : sw_Ok g k_Field_take d [.ref a0, .ref a1] M none r := sf_met (by decide +kernel) rfl (by decide) (Nat.le_of_ble_eq_true rfl) (t_Field_take hd hf)
def f_House_forgetOrbits (N : Nat) (a0 : Nat) (M : sw_M) : Option (sw_M) :=
  sw_gd [sw_ok M a0 11] (sw_gd [sw_ok M (rd_R M a0 6) 10] (sw_gd [sw_ok (wr_I M (rd_R M a0 6) 7 (0 : Int32)) (rd_R (wr_I M (rd_R M a0 6) 7 (0 : Int32)) a0 9) 2] (some (wr_I (wr_I M (rd_R M a0 6) 7 (0 : Int32)) (rd_R (wr_I M (rd_R M a0 6) 7 (0 : Int32)) a0 9) 5 (0 : Int32)))))
set_option maxRecDepth 10000 in
theorem t_House_forgetOrbits {g : sw_G} {d n0 : Nat} (hd : 1 ≤ d) {r : sw_M} {N : Nat} {a0 : Nat} {M : sw_M} (hf : f_House_forgetOrbits N a0 M = some r) : sw_F g k_House_forgetOrbits d n0 none r 0 [(0, .ref a0)] [] M := by
  unfold f_House_forgetOrbits at hf
  obtain ⟨h1, hf⟩ := sw_gd_1 hf
  obtain ⟨h2, hf⟩ := sw_gd_1 hf
  obtain ⟨h3, hf⟩ := sw_gd_1 hf
  refine sf_blk [(.aload_n 0, 0, 0, .null), (.getfield 49, 11, 6, .null), (.iconst (0), 0, 0, .int (0 : Int32)), (.putfield 348, 10, 7, .null), (.aload_n 0, 0, 0, .null), (.getfield 74, 11, 9, .null), (.iconst (0), 0, 0, .int (0 : Int32)), (.putfield 258, 2, 5, .null)] (lv' := [(0, .ref a0)]) (st' := []) (M1 := (wr_I (wr_I M (rd_R M a0 6) 7 (0 : Int32)) (rd_R (wr_I M (rd_R M a0 6) 7 (0 : Int32)) a0 9) 5 (0 : Int32))) (ob := [sw_ok M a0 11, sw_ok M (rd_R M a0 6) 10, sw_bz (0 : Int32), sw_ok (wr_I M (rd_R M a0 6) 7 (0 : Int32)) a0 11, sw_ok (wr_I M (rd_R M a0 6) 7 (0 : Int32)) (rd_R (wr_I M (rd_R M a0 6) 7 (0 : Int32)) a0 9) 2]) (pc' := 16) (by decide +kernel) rfl rfl (sw_a1 h1 (sw_a1 h2 (sw_a1 rfl (sw_a1 h1 (sw_a1 h3 sw_a0))))) ?_
  cases hf
  exact sf_void rfl (by decide +kernel)
theorem o_House_forgetOrbits (g : sw_G) {d : Nat} (hd : 1 ≤ d) {N : Nat} {a0 : Nat} {M : sw_M} {r : sw_M} (hf : f_House_forgetOrbits N a0 M = some r) : sw_Ok g k_House_forgetOrbits d [.ref a0] M none r := sf_met (by decide +kernel) rfl (by decide) (Nat.le_of_ble_eq_true rfl) (t_House_forgetOrbits hd hf)
def f_House_field (N : Nat) (a0 : Nat) (a1 : Int32) (M : sw_M) : Option (Int32 × sw_M) :=
  if a1 < 0 then some ((-2 : Int32), M)
  else sw_gd [sw_ok M a0 11] (if a1 ≤ (rd_I M a0 1) then sw_gd [sw_ok M (rd_R M a0 3) 6] ((f_Reader_read N (rd_R M a0 3) a1 M).bind (fun u3 => sw_gd [sw_ok u3 a0 11] (sw_gd [sw_ok (wr_I u3 a0 1 (0 : Int32)) (rd_R (wr_I u3 a0 1 (0 : Int32)) a0 3) 6] (if (rd_I (wr_I u3 a0 1 (0 : Int32)) (rd_R (wr_I u3 a0 1 (0 : Int32)) a0 3) 9) = 0 then sw_gd [sw_ok (wr_I u3 a0 1 (0 : Int32)) (rd_R (wr_I u3 a0 1 (0 : Int32)) a0 2) 0] ((f_Field_take N (rd_R (wr_I u3 a0 1 (0 : Int32)) a0 2) (rd_R (wr_I u3 a0 1 (0 : Int32)) (rd_R (wr_I u3 a0 1 (0 : Int32)) a0 3) 1) (wr_I u3 a0 1 (0 : Int32))).bind (fun u7 => sw_gd [sw_ok u7 a0 11] ((f_House_forgetOrbits N a0 u7).bind (fun u9 => sw_gd [sw_ok u9 a0 11] (sw_gd [sw_ok u9 (rd_R u9 a0 2) 0] (some ((rd_I u9 (rd_R u9 a0 2) 2), u9)))))))
  else some ((-1 : Int32), (wr_I u3 a0 1 (0 : Int32)))))))
  else some ((-2 : Int32), M))
set_option maxRecDepth 10000 in
theorem t_House_field {g : sw_G} {d n0 : Nat} (hd : 107 ≤ d) {r : Int32 × sw_M} {N : Nat} {a0 : Nat} {a1 : Int32} {M : sw_M} (hf : f_House_field N a0 a1 M = some r) : sw_F g k_House_field d n0 (some (.int r.1)) r.2 0 [(0, .ref a0), (1, .int a1)] [] M := by
  unfold f_House_field at hf
  refine sf_blk [(.iload_n 1, 0, 0, .null)] (lv' := [(0, .ref a0), (1, .int a1)]) (st' := [.int a1]) (M1 := M) (ob := []) (pc' := 1) (by decide +kernel) rfl rfl sw_a0 ?_
  refine sf_z_lt (off := 11) (tgt := 12) (by decide +kernel) (by decide) hf (fun hc hf => ?_) (fun hc hf => ?_)
  · refine sf_blk [(.bipush (-2), 0, 0, .int (-2 : Int32))] (lv' := [(0, .ref a0), (1, .int a1)]) (st' := [.int (-2 : Int32)]) (M1 := M) (ob := []) (pc' := 14) (by decide +kernel) rfl rfl sw_a0 ?_
    cases hf
    exact sf_int rfl (by decide +kernel)
  · obtain ⟨h1, hf⟩ := sw_gd_1 hf
    refine sf_blk [(.iload_n 1, 0, 0, .null), (.aload_n 0, 0, 0, .null), (.getfield 13, 11, 1, .null)] (lv' := [(0, .ref a0), (1, .int a1)]) (st' := [.int (rd_I M a0 1), .int a1]) (M1 := M) (ob := [sw_ok M a0 11]) (pc' := 9) (by decide +kernel) rfl rfl (sw_a1 h1 sw_a0) ?_
    refine sf_j_le (off := 6) (tgt := 15) (by decide +kernel) (by decide) hf (fun hc hf => ?_) (fun hc hf => ?_)
    · obtain ⟨h2, hf⟩ := sw_gd_1 hf
      refine sf_blk [(.aload_n 0, 0, 0, .null), (.getfield 29, 11, 3, .null), (.iload_n 1, 0, 0, .null)] (lv' := [(0, .ref a0), (1, .int a1)]) (st' := [.int a1, .ref (rd_R M a0 3)]) (M1 := M) (ob := [sw_ok M a0 11]) (pc' := 20) (by decide +kernel) rfl rfl (sw_a1 h1 sw_a0) ?_
      obtain ⟨u3, hu3, hf⟩ := sw_bnd hf
      refine sf_callV (i := 89) (k2 := k_Reader_read) (d2 := d - 1) (As := [.int a1]) (st := []) (q := (rd_R M a0 3)) (ci := 6) mf_Reader_read mi_Reader_read ms_Reader_read (sw_m3 9 (by decide +kernel)) rfl (by decide) (by decide +kernel) rfl (Nat.le_of_ble_eq_true rfl) (by omega) h2 (o_Reader_read g (d := d - 1) (by omega) hu3) ?_
      show sw_F _ _ _ _ _ _ 23 [(0, .ref a0), (1, .int a1)] [] u3
      obtain ⟨h4, hf⟩ := sw_gd_1 hf
      obtain ⟨h5, hf⟩ := sw_gd_1 hf
      refine sf_blk [(.aload_n 0, 0, 0, .null), (.iconst (0), 0, 0, .int (0 : Int32)), (.putfield 13, 11, 1, .null), (.aload_n 0, 0, 0, .null), (.getfield 29, 11, 3, .null), (.getfield 92, 6, 9, .null)] (lv' := [(0, .ref a0), (1, .int a1)]) (st' := [.int (rd_I (wr_I u3 a0 1 (0 : Int32)) (rd_R (wr_I u3 a0 1 (0 : Int32)) a0 3) 9)]) (M1 := (wr_I u3 a0 1 (0 : Int32))) (ob := [sw_ok u3 a0 11, sw_ok (wr_I u3 a0 1 (0 : Int32)) a0 11, sw_ok (wr_I u3 a0 1 (0 : Int32)) (rd_R (wr_I u3 a0 1 (0 : Int32)) a0 3) 6]) (pc' := 35) (by decide +kernel) rfl rfl (sw_a1 h4 (sw_a1 h4 (sw_a1 h5 sw_a0))) ?_
      refine sf_z_eq (off := 5) (tgt := 40) (by decide +kernel) (by decide) hf (fun hc hf => ?_) (fun hc hf => ?_)
      · obtain ⟨h6, hf⟩ := sw_gd_1 hf
        refine sf_blk [(.aload_n 0, 0, 0, .null), (.getfield 20, 11, 2, .null), (.aload_n 0, 0, 0, .null), (.getfield 29, 11, 3, .null), (.getfield 95, 6, 1, .null)] (lv' := [(0, .ref a0), (1, .int a1)]) (st' := [.ref (rd_R (wr_I u3 a0 1 (0 : Int32)) (rd_R (wr_I u3 a0 1 (0 : Int32)) a0 3) 1), .ref (rd_R (wr_I u3 a0 1 (0 : Int32)) a0 2)]) (M1 := (wr_I u3 a0 1 (0 : Int32))) (ob := [sw_ok (wr_I u3 a0 1 (0 : Int32)) a0 11, sw_ok (wr_I u3 a0 1 (0 : Int32)) a0 11, sw_ok (wr_I u3 a0 1 (0 : Int32)) (rd_R (wr_I u3 a0 1 (0 : Int32)) a0 3) 6]) (pc' := 51) (by decide +kernel) rfl rfl (sw_a1 h4 (sw_a1 h4 (sw_a1 h5 sw_a0))) ?_
        obtain ⟨u7, hu7, hf⟩ := sw_bnd hf
        refine sf_callV (i := 98) (k2 := k_Field_take) (d2 := d - 1) (As := [.ref (rd_R (wr_I u3 a0 1 (0 : Int32)) (rd_R (wr_I u3 a0 1 (0 : Int32)) a0 3) 1)]) (st := []) (q := (rd_R (wr_I u3 a0 1 (0 : Int32)) a0 2)) (ci := 0) mf_Field_take mi_Field_take ms_Field_take (sw_m3 179 (by decide +kernel)) rfl (by decide) (by decide +kernel) rfl (Nat.le_of_ble_eq_true rfl) (by omega) h6 (o_Field_take g (d := d - 1) (by omega) hu7) ?_
        show sw_F _ _ _ _ _ _ 54 [(0, .ref a0), (1, .int a1)] [] u7
        obtain ⟨h8, hf⟩ := sw_gd_1 hf
        refine sf_blk [(.aload_n 0, 0, 0, .null)] (lv' := [(0, .ref a0), (1, .int a1)]) (st' := [.ref a0]) (M1 := u7) (ob := []) (pc' := 55) (by decide +kernel) rfl rfl sw_a0 ?_
        obtain ⟨u9, hu9, hf⟩ := sw_bnd hf
        refine sf_callV (i := 101) (k2 := k_House_forgetOrbits) (d2 := d - 1) (As := []) (st := []) (q := a0) (ci := 11) mf_House_forgetOrbits mi_House_forgetOrbits ms_House_forgetOrbits (sw_m3 183 (by decide +kernel)) rfl (by decide) (by decide +kernel) rfl (Nat.le_of_ble_eq_true rfl) (by omega) h8 (o_House_forgetOrbits g (d := d - 1) (by omega) hu9) ?_
        show sw_F _ _ _ _ _ _ 58 [(0, .ref a0), (1, .int a1)] [] u9
        obtain ⟨h10, hf⟩ := sw_gd_1 hf
        obtain ⟨h11, hf⟩ := sw_gd_1 hf
        refine sf_blk [(.aload_n 0, 0, 0, .null), (.getfield 20, 11, 2, .null), (.getfield 104, 0, 2, .null)] (lv' := [(0, .ref a0), (1, .int a1)]) (st' := [.int (rd_I u9 (rd_R u9 a0 2) 2)]) (M1 := u9) (ob := [sw_ok u9 a0 11, sw_ok u9 (rd_R u9 a0 2) 0]) (pc' := 65) (by decide +kernel) rfl rfl (sw_a1 h10 (sw_a1 h11 sw_a0)) ?_
        cases hf
        exact sf_int rfl (by decide +kernel)
      · refine sf_blk [(.iconst (-1), 0, 0, .int (-1 : Int32))] (lv' := [(0, .ref a0), (1, .int a1)]) (st' := [.int (-1 : Int32)]) (M1 := (wr_I u3 a0 1 (0 : Int32))) (ob := []) (pc' := 39) (by decide +kernel) rfl rfl sw_a0 ?_
        cases hf
        exact sf_int rfl (by decide +kernel)
    · refine sf_blk [(.bipush (-2), 0, 0, .int (-2 : Int32))] (lv' := [(0, .ref a0), (1, .int a1)]) (st' := [.int (-2 : Int32)]) (M1 := M) (ob := []) (pc' := 14) (by decide +kernel) rfl rfl sw_a0 ?_
      cases hf
      exact sf_int rfl (by decide +kernel)
theorem o_House_field (g : sw_G) {d : Nat} (hd : 107 ≤ d) {N : Nat} {a0 : Nat} {a1 : Int32} {M : sw_M} {r : Int32 × sw_M} (hf : f_House_field N a0 a1 M = some r) : sw_Ok g k_House_field d [.ref a0, .int a1] M (some (.int r.1)) r.2 := sf_met (by decide +kernel) rfl (by decide) (Nat.le_of_ble_eq_true rfl) (t_House_field hd hf)
def f_House_fault (N : Nat) (a0 : Nat) (a1 : Int32) (M : sw_M) : Option (Int32 × sw_M) :=
  if a1 = (0 : Int32) then sw_gd [sw_ok M a0 11] (sw_gd [sw_ok M (rd_R M a0 3) 6] (some ((rd_I M (rd_R M a0 3) 9), M)))
  else if a1 = (1 : Int32) then sw_gd [sw_ok M a0 11] (sw_gd [sw_ok M (rd_R M a0 3) 6] (some ((rd_I M (rd_R M a0 3) 10), M)))
  else some ((-1 : Int32), M)
set_option maxRecDepth 10000 in
theorem t_House_fault {g : sw_G} {d n0 : Nat} (hd : 1 ≤ d) {r : Int32 × sw_M} {N : Nat} {a0 : Nat} {a1 : Int32} {M : sw_M} (hf : f_House_fault N a0 a1 M = some r) : sw_F g k_House_fault d n0 (some (.int r.1)) r.2 0 [(0, .ref a0), (1, .int a1)] [] M := by
  unfold f_House_fault at hf
  refine sf_blk [(.iload_n 1, 0, 0, .null)] (lv' := [(0, .ref a0), (1, .int a1)]) (st' := [.int a1]) (M1 := M) (ob := []) (pc' := 1) (by decide +kernel) rfl rfl sw_a0 ?_
  rcases sw_ite hf with ⟨h1, hf⟩ | ⟨h1, hf⟩
  · refine sf_look (a := a1) (off := 27) (tgt := 28) (len := 27) (show decode (k_c k_House_fault) 1 = .ok (.lookupswitch (43) #[(0, 27), (1, 35)], 27) by decide +kernel) (by decide +kernel) (by rw [h1]; decide +kernel) (by decide) ?_
    obtain ⟨h2, hf⟩ := sw_gd_1 hf
    obtain ⟨h3, hf⟩ := sw_gd_1 hf
    refine sf_blk [(.aload_n 0, 0, 0, .null), (.getfield 29, 11, 3, .null), (.getfield 92, 6, 9, .null)] (lv' := [(0, .ref a0), (1, .int a1)]) (st' := [.int (rd_I M (rd_R M a0 3) 9)]) (M1 := M) (ob := [sw_ok M a0 11, sw_ok M (rd_R M a0 3) 6]) (pc' := 35) (by decide +kernel) rfl rfl (sw_a1 h2 (sw_a1 h3 sw_a0)) ?_
    cases hf
    exact sf_int rfl (by decide +kernel)
  ·
    rcases sw_ite hf with ⟨h4, hf⟩ | ⟨h4, hf⟩
    · refine sf_look (a := a1) (off := 35) (tgt := 36) (len := 27) (show decode (k_c k_House_fault) 1 = .ok (.lookupswitch (43) #[(0, 27), (1, 35)], 27) by decide +kernel) (by decide +kernel) (by rw [h4]; decide +kernel) (by decide) ?_
      obtain ⟨h5, hf⟩ := sw_gd_1 hf
      obtain ⟨h6, hf⟩ := sw_gd_1 hf
      refine sf_blk [(.aload_n 0, 0, 0, .null), (.getfield 29, 11, 3, .null), (.getfield 107, 6, 10, .null)] (lv' := [(0, .ref a0), (1, .int a1)]) (st' := [.int (rd_I M (rd_R M a0 3) 10)]) (M1 := M) (ob := [sw_ok M a0 11, sw_ok M (rd_R M a0 3) 6]) (pc' := 43) (by decide +kernel) rfl rfl (sw_a1 h5 (sw_a1 h6 sw_a0)) ?_
      cases hf
      exact sf_int rfl (by decide +kernel)
    ·
      refine sf_look (a := a1) (off := 43) (tgt := 44) (len := 27) (show decode (k_c k_House_fault) 1 = .ok (.lookupswitch (43) #[(0, 27), (1, 35)], 27) by decide +kernel) (by decide +kernel) (by rw [lv_osw h1 (by decide), lv_osw h4 (by decide)]; rfl) (by decide) ?_
      refine sf_blk [(.iconst (-1), 0, 0, .int (-1 : Int32))] (lv' := [(0, .ref a0), (1, .int a1)]) (st' := [.int (-1 : Int32)]) (M1 := M) (ob := []) (pc' := 45) (by decide +kernel) rfl rfl sw_a0 ?_
      cases hf
      exact sf_int rfl (by decide +kernel)
theorem o_House_fault (g : sw_G) {d : Nat} (hd : 1 ≤ d) {N : Nat} {a0 : Nat} {a1 : Int32} {M : sw_M} {r : Int32 × sw_M} (hf : f_House_fault N a0 a1 M = some r) : sw_Ok g k_House_fault d [.ref a0, .int a1] M (some (.int r.1)) r.2 := sf_met (by decide +kernel) rfl (by decide) (Nat.le_of_ble_eq_true rfl) (t_House_fault hd hf)
def f_House_mass (N : Nat) (a0 : Nat) (a1 : Int32) (M : sw_M) : Option (Int32 × sw_M) :=
  sw_gd [sw_ok M a0 11] (sw_gd [sw_ok M (rd_R M a0 2) 0] (if a1 < (rd_I M (rd_R M a0 2) 3) then some ((0 : Int32), M)
  else if a1 ≤ (rd_I M (rd_R M a0 2) 4) then some ((1 : Int32), (wr_I M (rd_R M a0 2) 5 a1))
  else some ((0 : Int32), M)))
set_option maxRecDepth 10000 in
theorem t_House_mass {g : sw_G} {d n0 : Nat} (hd : 1 ≤ d) {r : Int32 × sw_M} {N : Nat} {a0 : Nat} {a1 : Int32} {M : sw_M} (hf : f_House_mass N a0 a1 M = some r) : sw_F g k_House_mass d n0 (some (.int r.1)) r.2 0 [(0, .ref a0), (1, .int a1)] [] M := by
  unfold f_House_mass at hf
  obtain ⟨h1, hf⟩ := sw_gd_1 hf
  obtain ⟨h2, hf⟩ := sw_gd_1 hf
  refine sf_blk [(.iload_n 1, 0, 0, .null), (.aload_n 0, 0, 0, .null), (.getfield 20, 11, 2, .null), (.getfield 110, 0, 3, .null)] (lv' := [(0, .ref a0), (1, .int a1)]) (st' := [.int (rd_I M (rd_R M a0 2) 3), .int a1]) (M1 := M) (ob := [sw_ok M a0 11, sw_ok M (rd_R M a0 2) 0]) (pc' := 8) (by decide +kernel) rfl rfl (sw_a1 h1 (sw_a1 h2 sw_a0)) ?_
  refine sf_j_lt (off := 14) (tgt := 22) (by decide +kernel) (by decide) hf (fun hc hf => ?_) (fun hc hf => ?_)
  · refine sf_blk [(.iconst (0), 0, 0, .int (0 : Int32))] (lv' := [(0, .ref a0), (1, .int a1)]) (st' := [.int (0 : Int32)]) (M1 := M) (ob := []) (pc' := 23) (by decide +kernel) rfl rfl sw_a0 ?_
    cases hf
    exact sf_bool rfl rfl (by decide +kernel)
  · refine sf_blk [(.iload_n 1, 0, 0, .null), (.aload_n 0, 0, 0, .null), (.getfield 20, 11, 2, .null), (.getfield 113, 0, 4, .null)] (lv' := [(0, .ref a0), (1, .int a1)]) (st' := [.int (rd_I M (rd_R M a0 2) 4), .int a1]) (M1 := M) (ob := [sw_ok M a0 11, sw_ok M (rd_R M a0 2) 0]) (pc' := 19) (by decide +kernel) rfl rfl (sw_a1 h1 (sw_a1 h2 sw_a0)) ?_
    refine sf_j_le (off := 5) (tgt := 24) (by decide +kernel) (by decide) hf (fun hc hf => ?_) (fun hc hf => ?_)
    · refine sf_blk [(.aload_n 0, 0, 0, .null), (.getfield 20, 11, 2, .null), (.iload_n 1, 0, 0, .null), (.putfield 116, 0, 5, .null), (.iconst (1), 0, 0, .int (1 : Int32))] (lv' := [(0, .ref a0), (1, .int a1)]) (st' := [.int (1 : Int32)]) (M1 := (wr_I M (rd_R M a0 2) 5 a1)) (ob := [sw_ok M a0 11, sw_ok M (rd_R M a0 2) 0]) (pc' := 33) (by decide +kernel) rfl rfl (sw_a1 h1 (sw_a1 h2 sw_a0)) ?_
      cases hf
      exact sf_bool rfl rfl (by decide +kernel)
    · refine sf_blk [(.iconst (0), 0, 0, .int (0 : Int32))] (lv' := [(0, .ref a0), (1, .int a1)]) (st' := [.int (0 : Int32)]) (M1 := M) (ob := []) (pc' := 23) (by decide +kernel) rfl rfl sw_a0 ?_
      cases hf
      exact sf_bool rfl rfl (by decide +kernel)
theorem o_House_mass (g : sw_G) {d : Nat} (hd : 1 ≤ d) {N : Nat} {a0 : Nat} {a1 : Int32} {M : sw_M} {r : Int32 × sw_M} (hf : f_House_mass N a0 a1 M = some r) : sw_Ok g k_House_mass d [.ref a0, .int a1] M (some (.int r.1)) r.2 := sf_met (by decide +kernel) rfl (by decide) (Nat.le_of_ble_eq_true rfl) (t_House_mass hd hf)
def f_House_within (N : Nat) (a0 : Int32) (a1 : Int32) (M : sw_M) : Option (Int32 × sw_M) :=
  if a0 < (-a1) then some ((0 : Int32), M)
  else if a1 < a0 then some ((0 : Int32), M)
  else some ((1 : Int32), M)
set_option maxRecDepth 10000 in
theorem t_House_within {g : sw_G} {d n0 : Nat} (hd : 1 ≤ d) {r : Int32 × sw_M} {N : Nat} {a0 : Int32} {a1 : Int32} {M : sw_M} (hf : f_House_within N a0 a1 M = some r) : sw_F g k_House_within d n0 (some (.int r.1)) r.2 0 [(0, .int a0), (1, .int a1)] [] M := by
  unfold f_House_within at hf
  refine sf_blk [(.iload_n 0, 0, 0, .null), (.iload_n 1, 0, 0, .null), (.ineg, 0, 0, .null)] (lv' := [(0, .int a0), (1, .int a1)]) (st' := [.int (-a1), .int a0]) (M1 := M) (ob := []) (pc' := 3) (by decide +kernel) rfl rfl sw_a0 ?_
  refine sf_j_lt (off := 12) (tgt := 15) (by decide +kernel) (by decide) hf (fun hc hf => ?_) (fun hc hf => ?_)
  · refine sf_blk [(.iconst (0), 0, 0, .int (0 : Int32))] (lv' := [(0, .int a0), (1, .int a1)]) (st' := [.int (0 : Int32)]) (M1 := M) (ob := []) (pc' := 16) (by decide +kernel) rfl rfl sw_a0 ?_
    cases hf
    exact sf_bool rfl rfl (by decide +kernel)
  · refine sf_blk [(.iload_n 0, 0, 0, .null), (.iload_n 1, 0, 0, .null)] (lv' := [(0, .int a0), (1, .int a1)]) (st' := [.int a1, .int a0]) (M1 := M) (ob := []) (pc' := 8) (by decide +kernel) rfl rfl sw_a0 ?_
    refine sf_j_gt (off := 7) (tgt := 15) (by decide +kernel) (by decide) hf (fun hc hf => ?_) (fun hc hf => ?_)
    · refine sf_blk [(.iconst (0), 0, 0, .int (0 : Int32))] (lv' := [(0, .int a0), (1, .int a1)]) (st' := [.int (0 : Int32)]) (M1 := M) (ob := []) (pc' := 16) (by decide +kernel) rfl rfl sw_a0 ?_
      cases hf
      exact sf_bool rfl rfl (by decide +kernel)
    · refine sf_blk [(.iconst (1), 0, 0, .int (1 : Int32))] (lv' := [(0, .int a0), (1, .int a1)]) (st' := [.int (1 : Int32)]) (M1 := M) (ob := []) (pc' := 12) (by decide +kernel) rfl rfl sw_a0 ?_
      refine sf_goto (off := 4) (tgt := 16) (by decide +kernel) (by decide) ?_
      cases hf
      exact sf_bool rfl rfl (by decide +kernel)
theorem o_House_within (g : sw_G) {d : Nat} (hd : 1 ≤ d) {N : Nat} {a0 : Int32} {a1 : Int32} {M : sw_M} {r : Int32 × sw_M} (hf : f_House_within N a0 a1 M = some r) : sw_Ok g k_House_within d [.int a0, .int a1] M (some (.int r.1)) r.2 := sf_met (by decide +kernel) rfl (by decide) (Nat.le_of_ble_eq_true rfl) (t_House_within hd hf)
def f_Part_root_47 (N : Nat) (k21 : Int64 → Int64 → Int64 → sw_M → Option (Int64 × sw_M)) (a0 : Int64) (a2 : Int64) (a4 : Int64) (M : sw_M) : Option (Int64 × sw_M) :=
  k21 a0 a2 (a4 >>> ((1 : Int32).toInt64 &&& 63)) M
set_option maxRecDepth 10000 in
theorem t_Part_root_47 {g : sw_G} {d n0 : Nat} (hd : 1 ≤ d) {r : Int64 × sw_M} (k21 : Int64 → Int64 → Int64 → sw_M → Option (Int64 × sw_M)) (hk21 : ∀ (a0 : Int64) (a2 : Int64) (a4 : Int64) (M : sw_M), k21 a0 a2 a4 M = some r → sw_F g k_Part_root d n0 (some (.long r.1)) r.2 21 [(0, .long a0), (2, .long a2), (4, .long a4)] [] M) {N : Nat} {a0 : Int64} {a2 : Int64} {a4 : Int64} {M : sw_M} (hf : f_Part_root_47 N k21 a0 a2 a4 M = some r) : sw_F g k_Part_root d n0 (some (.long r.1)) r.2 47 [(0, .long a0), (2, .long a2), (4, .long a4)] [] M := by
  unfold f_Part_root_47 at hf
  refine sf_blk [(.lload 4, 0, 0, .null), (.iconst (1), 0, 0, .int (1 : Int32)), (.lshr, 0, 0, .null), (.lstore 4, 0, 0, .null)] (lv' := [(4, .long (a4 >>> ((1 : Int32).toInt64 &&& 63))), (0, .long a0), (2, .long a2)]) (st' := []) (M1 := M) (ob := []) (pc' := 53) (by decide +kernel) rfl rfl sw_a0 ?_
  refine sf_goto (off := -32) (tgt := 21) (by decide +kernel) (by decide) ?_
  exact sf_weak [1, 2, 0] rfl (hk21 _ _ _ _ hf)
def f_Part_root_21 (N : Nat) : Nat → Int64 → Int64 → Int64 → sw_M → Option (Int64 × sw_M)
  | 0, _, _, _, _ => none
  | j + 1, a0, a2, a4, M =>
  if a4 ≤ (0 : Int64) then some (a2, M)
  else if a0 < ((a2 + a4) * (a2 + a4)) then f_Part_root_47 N (f_Part_root_21 N j) a0 a2 a4 M
  else f_Part_root_47 N (f_Part_root_21 N j) a0 (a2 + a4) a4 M
set_option maxRecDepth 10000 in
theorem t_Part_root_21 {g : sw_G} {d n0 : Nat} (hd : 1 ≤ d) {r : Int64 × sw_M} {N : Nat} : ∀ (j : Nat) (a0 : Int64) (a2 : Int64) (a4 : Int64) (M : sw_M), f_Part_root_21 N j a0 a2 a4 M = some r → sw_F g k_Part_root d n0 (some (.long r.1)) r.2 21 [(0, .long a0), (2, .long a2), (4, .long a4)] [] M := by
  intro j
  induction j with
  | zero =>
    intro a0 a2 a4 M hf
    rw [f_Part_root_21] at hf
    cases hf
  | succ j ih =>
    intro a0 a2 a4 M hf
    rw [f_Part_root_21] at hf
    refine sf_blk [(.lload 4, 0, 0, .null), (.lconst 0, 0, 0, .long (0 : Int64)), (.lcmp, 0, 0, .null)] (lv' := [(0, .long a0), (2, .long a2), (4, .long a4)]) (st' := [.int (lg_cmp a4 (0 : Int64))]) (M1 := M) (ob := []) (pc' := 25) (by decide +kernel) rfl rfl sw_a0 ?_
    refine sf_l_le (off := 31) (tgt := 56) (by decide +kernel) (by decide) hf (fun hc hf => ?_) (fun hc hf => ?_)
    · refine sf_blk [(.lload_n 2, 0, 0, .null)] (lv' := [(0, .long a0), (2, .long a2), (4, .long a4)]) (st' := [.long a2]) (M1 := M) (ob := []) (pc' := 57) (by decide +kernel) rfl rfl sw_a0 ?_
      cases hf
      exact sf_long rfl (by decide +kernel)
    · refine sf_blk [(.lload_n 2, 0, 0, .null), (.lload 4, 0, 0, .null), (.ladd, 0, 0, .null), (.lload_n 2, 0, 0, .null), (.lload 4, 0, 0, .null), (.ladd, 0, 0, .null), (.lmul, 0, 0, .null), (.lload_n 0, 0, 0, .null), (.lcmp, 0, 0, .null)] (lv' := [(0, .long a0), (2, .long a2), (4, .long a4)]) (st' := [.int (lg_cmp ((a2 + a4) * (a2 + a4)) a0)]) (M1 := M) (ob := []) (pc' := 39) (by decide +kernel) rfl rfl sw_a0 ?_
      refine sf_l_gt (off := 8) (tgt := 47) (by decide +kernel) (by decide) hf (fun hc hf => ?_) (fun hc hf => ?_)
      · exact sf_weak [0, 1, 2] rfl (t_Part_root_47 hd _ ih hf)
      · refine sf_blk [(.lload_n 2, 0, 0, .null), (.lload 4, 0, 0, .null), (.ladd, 0, 0, .null), (.lstore_n 2, 0, 0, .null)] (lv' := [(2, .long (a2 + a4)), (0, .long a0), (4, .long a4)]) (st' := []) (M1 := M) (ob := []) (pc' := 47) (by decide +kernel) rfl rfl sw_a0 ?_
        exact sf_weak [1, 0, 2] rfl (t_Part_root_47 hd _ ih hf)
def f_Part_root_19 (N : Nat) (a0 : Int64) (a2 : Int64) (b0 : Int64) (M : sw_M) : Option (Int64 × sw_M) :=
  f_Part_root_21 N N a0 a2 b0 M
set_option maxRecDepth 10000 in
theorem t_Part_root_19 {g : sw_G} {d n0 : Nat} (hd : 1 ≤ d) {r : Int64 × sw_M} {N : Nat} {a0 : Int64} {a2 : Int64} {b0 : Int64} {M : sw_M} (hf : f_Part_root_19 N a0 a2 b0 M = some r) : sw_F g k_Part_root d n0 (some (.long r.1)) r.2 19 [(0, .long a0), (2, .long a2)] [.long b0] M := by
  unfold f_Part_root_19 at hf
  refine sf_blk [(.lstore 4, 0, 0, .null)] (lv' := [(4, .long b0), (0, .long a0), (2, .long a2)]) (st' := []) (M1 := M) (ob := []) (pc' := 21) (by decide +kernel) rfl rfl sw_a0 ?_
  exact sf_weak [1, 2, 0] rfl (t_Part_root_21 hd _ _ _ _ _ hf)
def f_Part_root (N : Nat) (a0 : Int64) (M : sw_M) : Option (Int64 × sw_M) :=
  if (4294967296 : Int64) ≤ a0 then f_Part_root_19 N a0 (0 : Int64) (1073741824 : Int64) M
  else f_Part_root_19 N a0 (0 : Int64) (32768 : Int64) M
set_option maxRecDepth 10000 in
theorem t_Part_root {g : sw_G} {d n0 : Nat} (hd : 1 ≤ d) {r : Int64 × sw_M} {N : Nat} {a0 : Int64} {M : sw_M} (hf : f_Part_root N a0 M = some r) : sw_F g k_Part_root d n0 (some (.long r.1)) r.2 0 [(0, .long a0)] [] M := by
  unfold f_Part_root at hf
  refine sf_blk [(.lconst 0, 0, 0, .long (0 : Int64)), (.lstore_n 2, 0, 0, .null), (.lload_n 0, 0, 0, .null), (.ldc2_w 66, 0, 0, .long (4294967296 : Int64)), (.lcmp, 0, 0, .null)] (lv' := [(2, .long (0 : Int64)), (0, .long a0)]) (st' := [.int (lg_cmp a0 (4294967296 : Int64))]) (M1 := M) (ob := []) (pc' := 7) (by decide +kernel) rfl rfl sw_a0 ?_
  refine sf_l_ge (off := 9) (tgt := 16) (by decide +kernel) (by decide) hf (fun hc hf => ?_) (fun hc hf => ?_)
  · refine sf_blk [(.ldc2_w 70, 0, 0, .long (1073741824 : Int64))] (lv' := [(2, .long (0 : Int64)), (0, .long a0)]) (st' := [.long (1073741824 : Int64)]) (M1 := M) (ob := []) (pc' := 19) (by decide +kernel) rfl rfl sw_a0 ?_
    exact sf_weak [1, 0] rfl (t_Part_root_19 hd hf)
  · refine sf_blk [(.ldc2_w 68, 0, 0, .long (32768 : Int64))] (lv' := [(2, .long (0 : Int64)), (0, .long a0)]) (st' := [.long (32768 : Int64)]) (M1 := M) (ob := []) (pc' := 13) (by decide +kernel) rfl rfl sw_a0 ?_
    refine sf_goto (off := 6) (tgt := 19) (by decide +kernel) (by decide) ?_
    exact sf_weak [1, 0] rfl (t_Part_root_19 hd hf)
theorem o_Part_root (g : sw_G) {d : Nat} (hd : 1 ≤ d) {N : Nat} {a0 : Int64} {M : sw_M} {r : Int64 × sw_M} (hf : f_Part_root N a0 M = some r) : sw_Ok g k_Part_root d [.long a0] M (some (.long r.1)) r.2 := sf_met (by decide +kernel) rfl (by decide) (Nat.le_of_ble_eq_true rfl) (t_Part_root hd hf)
def f_Part_addDrawn (N : Nat) (a0 : Nat) (a1 : Int64) (a3 : Int64) (a5 : Int64) (M : sw_M) : Option (sw_M) :=
  if (1 : Int64) ≤ a5 then sw_gd [sw_ok M a0 0] (sw_gd [decide (¬ a5 = 0)] (some (wr_L (wr_L M a0 6 ((rd_L M a0 6) - (a1 / a5))) a0 7 ((rd_L (wr_L M a0 6 ((rd_L M a0 6) - (a1 / a5))) a0 7) - (a3 / a5)))))
  else some M
set_option maxRecDepth 10000 in
theorem t_Part_addDrawn {g : sw_G} {d n0 : Nat} (hd : 1 ≤ d) {r : sw_M} {N : Nat} {a0 : Nat} {a1 : Int64} {a3 : Int64} {a5 : Int64} {M : sw_M} (hf : f_Part_addDrawn N a0 a1 a3 a5 M = some r) : sw_F g k_Part_addDrawn d n0 none r 0 [(0, .ref a0), (1, .long a1), (3, .long a3), (5, .long a5)] [] M := by
  unfold f_Part_addDrawn at hf
  refine sf_blk [(.lload 5, 0, 0, .null), (.lconst 1, 0, 0, .long (1 : Int64)), (.lcmp, 0, 0, .null)] (lv' := [(0, .ref a0), (1, .long a1), (3, .long a3), (5, .long a5)]) (st' := [.int (lg_cmp a5 (1 : Int64))]) (M1 := M) (ob := []) (pc' := 4) (by decide +kernel) rfl rfl sw_a0 ?_
  refine sf_l_ge (off := 4) (tgt := 8) (by decide +kernel) (by decide) hf (fun hc hf => ?_) (fun hc hf => ?_)
  · obtain ⟨h1, hf⟩ := sw_gd_1 hf
    obtain ⟨h2, hf⟩ := sw_gd_1 hf
    refine sf_blk [(.aload_n 0, 0, 0, .null), (.dup, 0, 0, .null), (.getfield 59, 0, 6, .null), (.lload_n 1, 0, 0, .null), (.lload 5, 0, 0, .null), (.ldiv, 0, 0, .null), (.lsub, 0, 0, .null), (.putfield 59, 0, 6, .null), (.aload_n 0, 0, 0, .null), (.dup, 0, 0, .null), (.getfield 63, 0, 7, .null), (.lload_n 3, 0, 0, .null), (.lload 5, 0, 0, .null), (.ldiv, 0, 0, .null), (.lsub, 0, 0, .null), (.putfield 63, 0, 7, .null)] (lv' := [(0, .ref a0), (1, .long a1), (3, .long a3), (5, .long a5)]) (st' := []) (M1 := (wr_L (wr_L M a0 6 ((rd_L M a0 6) - (a1 / a5))) a0 7 ((rd_L (wr_L M a0 6 ((rd_L M a0 6) - (a1 / a5))) a0 7) - (a3 / a5)))) (ob := [sw_ok M a0 0, decide (¬ a5 = 0), sw_ok M a0 0, sw_ok (wr_L M a0 6 ((rd_L M a0 6) - (a1 / a5))) a0 0, decide (¬ a5 = 0), sw_ok (wr_L M a0 6 ((rd_L M a0 6) - (a1 / a5))) a0 0]) (pc' := 34) (by decide +kernel) rfl rfl (sw_a1 h1 (sw_a1 h2 (sw_a1 h1 (sw_a1 h1 (sw_a1 h2 (sw_a1 h1 sw_a0)))))) ?_
    cases hf
    exact sf_void rfl (by decide +kernel)
  · cases hf
    exact sf_void rfl (by decide +kernel)
theorem o_Part_addDrawn (g : sw_G) {d : Nat} (hd : 1 ≤ d) {N : Nat} {a0 : Nat} {a1 : Int64} {a3 : Int64} {a5 : Int64} {M : sw_M} {r : sw_M} (hf : f_Part_addDrawn N a0 a1 a3 a5 M = some r) : sw_Ok g k_Part_addDrawn d [.ref a0, .long a1, .long a3, .long a5] M none r := sf_met (by decide +kernel) rfl (by decide) (Nat.le_of_ble_eq_true rfl) (t_Part_addDrawn hd hf)
def f_Part_addBar_186 (N : Nat) (a1 : Nat) (a8 : Int32) (a15 : Int64) (a17 : Int64) (b0 : Int64) (b1 : Int64) (b2 : Nat) (M : sw_M) : Option (sw_M) :=
  sw_gd [sw_ok M b2 0] (sw_gd [sw_ok (wr_L M b2 6 (b1 + b0)) a1 0] (if a8 = 0 then some (wr_L (wr_L M b2 6 (b1 + b0)) a1 7 ((rd_L (wr_L M b2 6 (b1 + b0)) a1 7) + a17))
  else some (wr_L (wr_L M b2 6 (b1 + b0)) a1 7 ((rd_L (wr_L M b2 6 (b1 + b0)) a1 7) + (a15 + a17)))))
set_option maxRecDepth 10000 in
theorem t_Part_addBar_186 {g : sw_G} {d n0 : Nat} (hd : 1 ≤ d) {r : sw_M} {N : Nat} {a1 : Nat} {a8 : Int32} {a15 : Int64} {a17 : Int64} {b0 : Int64} {b1 : Int64} {b2 : Nat} {M : sw_M} (hf : f_Part_addBar_186 N a1 a8 a15 a17 b0 b1 b2 M = some r) : sw_F g k_Part_addBar d n0 none r 186 [(1, .ref a1), (8, .int a8), (15, .long a15), (17, .long a17)] [.long b0, .long b1, .ref b2] M := by
  unfold f_Part_addBar_186 at hf
  obtain ⟨h1, hf⟩ := sw_gd_1 hf
  obtain ⟨h2, hf⟩ := sw_gd_1 hf
  refine sf_blk [(.ladd, 0, 0, .null), (.putfield 59, 0, 6, .null), (.aload_n 1, 0, 0, .null), (.dup, 0, 0, .null), (.getfield 63, 0, 7, .null), (.iload 8, 0, 0, .null)] (lv' := [(1, .ref a1), (8, .int a8), (15, .long a15), (17, .long a17)]) (st' := [.int a8, .long (rd_L (wr_L M b2 6 (b1 + b0)) a1 7), .ref a1]) (M1 := (wr_L M b2 6 (b1 + b0))) (ob := [sw_ok M b2 0, sw_ok (wr_L M b2 6 (b1 + b0)) a1 0]) (pc' := 197) (by decide +kernel) rfl rfl (sw_a1 h1 (sw_a1 h2 sw_a0)) ?_
  refine sf_z_eq (off := 11) (tgt := 208) (by decide +kernel) (by decide) hf (fun hc hf => ?_) (fun hc hf => ?_)
  · refine sf_blk [(.lload 17, 0, 0, .null), (.ladd, 0, 0, .null), (.putfield 63, 0, 7, .null)] (lv' := [(1, .ref a1), (8, .int a8), (15, .long a15), (17, .long a17)]) (st' := []) (M1 := (wr_L (wr_L M b2 6 (b1 + b0)) a1 7 ((rd_L (wr_L M b2 6 (b1 + b0)) a1 7) + a17))) (ob := [sw_ok (wr_L M b2 6 (b1 + b0)) a1 0]) (pc' := 214) (by decide +kernel) rfl rfl (sw_a1 h2 sw_a0) ?_
    cases hf
    exact sf_void rfl (by decide +kernel)
  · refine sf_blk [(.lload 15, 0, 0, .null), (.lload 17, 0, 0, .null), (.ladd, 0, 0, .null)] (lv' := [(1, .ref a1), (8, .int a8), (15, .long a15), (17, .long a17)]) (st' := [.long (a15 + a17), .long (rd_L (wr_L M b2 6 (b1 + b0)) a1 7), .ref a1]) (M1 := (wr_L M b2 6 (b1 + b0))) (ob := []) (pc' := 205) (by decide +kernel) rfl rfl sw_a0 ?_
    refine sf_goto (off := 5) (tgt := 210) (by decide +kernel) (by decide) ?_
    refine sf_blk [(.ladd, 0, 0, .null), (.putfield 63, 0, 7, .null)] (lv' := [(1, .ref a1), (8, .int a8), (15, .long a15), (17, .long a17)]) (st' := []) (M1 := (wr_L (wr_L M b2 6 (b1 + b0)) a1 7 ((rd_L (wr_L M b2 6 (b1 + b0)) a1 7) + (a15 + a17)))) (ob := [sw_ok (wr_L M b2 6 (b1 + b0)) a1 0]) (pc' := 214) (by decide +kernel) rfl rfl (sw_a1 h2 sw_a0) ?_
    cases hf
    exact sf_void rfl (by decide +kernel)
def f_Part_addBar_151 (N : Nat) (a0 : Nat) (a1 : Nat) (a8 : Int32) (a11 : Int64) (a13 : Int64) (a15 : Int64) (b0 : Int32) (M : sw_M) : Option (sw_M) :=
  sw_gd [sw_ok M a0 5] (sw_gd [decide (¬ a13 = 0)] (sw_gd [sw_ok M a1 0] (if a8 = 0 then f_Part_addBar_186 N a1 a8 a15 (-(((b0 * (rd_I M a0 5)).toInt64 * a11) / a13)) a15 (rd_L M a1 6) a1 M
  else f_Part_addBar_186 N a1 a8 a15 (-(((b0 * (rd_I M a0 5)).toInt64 * a11) / a13)) (a15 - (-(((b0 * (rd_I M a0 5)).toInt64 * a11) / a13))) (rd_L M a1 6) a1 M)))
set_option maxRecDepth 10000 in
theorem t_Part_addBar_151 {g : sw_G} {d n0 : Nat} (hd : 1 ≤ d) {r : sw_M} {N : Nat} {a0 : Nat} {a1 : Nat} {a8 : Int32} {a11 : Int64} {a13 : Int64} {a15 : Int64} {b0 : Int32} {M : sw_M} (hf : f_Part_addBar_151 N a0 a1 a8 a11 a13 a15 b0 M = some r) : sw_F g k_Part_addBar d n0 none r 151 [(0, .ref a0), (1, .ref a1), (8, .int a8), (11, .long a11), (13, .long a13), (15, .long a15)] [.int b0] M := by
  unfold f_Part_addBar_151 at hf
  obtain ⟨h1, hf⟩ := sw_gd_1 hf
  obtain ⟨h2, hf⟩ := sw_gd_1 hf
  obtain ⟨h3, hf⟩ := sw_gd_1 hf
  refine sf_blk [(.aload_n 0, 0, 0, .null), (.getfield 27, 5, 5, .null), (.imul, 0, 0, .null), (.i2l, 0, 0, .null), (.lload 11, 0, 0, .null), (.lmul, 0, 0, .null), (.lload 13, 0, 0, .null), (.ldiv, 0, 0, .null), (.lneg, 0, 0, .null), (.lstore 17, 0, 0, .null), (.aload_n 1, 0, 0, .null), (.dup, 0, 0, .null), (.getfield 59, 0, 6, .null), (.iload 8, 0, 0, .null)] (lv' := [(17, .long (-(((b0 * (rd_I M a0 5)).toInt64 * a11) / a13))), (0, .ref a0), (1, .ref a1), (8, .int a8), (11, .long a11), (13, .long a13), (15, .long a15)]) (st' := [.int a8, .long (rd_L M a1 6), .ref a1]) (M1 := M) (ob := [sw_ok M a0 5, decide (¬ a13 = 0), sw_ok M a1 0]) (pc' := 173) (by decide +kernel) rfl rfl (sw_a1 h1 (sw_a1 h2 (sw_a1 h3 sw_a0))) ?_
  refine sf_z_eq (off := 11) (tgt := 184) (by decide +kernel) (by decide) hf (fun hc hf => ?_) (fun hc hf => ?_)
  · refine sf_blk [(.lload 15, 0, 0, .null)] (lv' := [(17, .long (-(((b0 * (rd_I M a0 5)).toInt64 * a11) / a13))), (0, .ref a0), (1, .ref a1), (8, .int a8), (11, .long a11), (13, .long a13), (15, .long a15)]) (st' := [.long a15, .long (rd_L M a1 6), .ref a1]) (M1 := M) (ob := []) (pc' := 186) (by decide +kernel) rfl rfl sw_a0 ?_
    exact sf_weak [2, 3, 6, 0] rfl (t_Part_addBar_186 hd hf)
  · refine sf_blk [(.lload 15, 0, 0, .null), (.lload 17, 0, 0, .null), (.lsub, 0, 0, .null)] (lv' := [(17, .long (-(((b0 * (rd_I M a0 5)).toInt64 * a11) / a13))), (0, .ref a0), (1, .ref a1), (8, .int a8), (11, .long a11), (13, .long a13), (15, .long a15)]) (st' := [.long (a15 - (-(((b0 * (rd_I M a0 5)).toInt64 * a11) / a13))), .long (rd_L M a1 6), .ref a1]) (M1 := M) (ob := []) (pc' := 181) (by decide +kernel) rfl rfl sw_a0 ?_
    refine sf_goto (off := 5) (tgt := 186) (by decide +kernel) (by decide) ?_
    exact sf_weak [2, 3, 6, 0] rfl (t_Part_addBar_186 hd hf)
def f_Part_addBar_125 (N : Nat) (a0 : Nat) (a1 : Nat) (a7 : Int32) (a8 : Int32) (a9 : Int64) (a11 : Int64) (a13 : Int64) (b0 : Int32) (M : sw_M) : Option (sw_M) :=
  sw_gd [sw_ok M a0 5] (sw_gd [decide (¬ a13 = 0)] (if (2 : Int32) ≤ a7 then f_Part_addBar_151 N a0 a1 a8 a11 a13 (-(((b0 * (rd_I M a0 5)).toInt64 * a9) / a13)) (1 : Int32) M
  else f_Part_addBar_151 N a0 a1 a8 a11 a13 (-(((b0 * (rd_I M a0 5)).toInt64 * a9) / a13)) (2 : Int32) M))
set_option maxRecDepth 10000 in
theorem t_Part_addBar_125 {g : sw_G} {d n0 : Nat} (hd : 1 ≤ d) {r : sw_M} {N : Nat} {a0 : Nat} {a1 : Nat} {a7 : Int32} {a8 : Int32} {a9 : Int64} {a11 : Int64} {a13 : Int64} {b0 : Int32} {M : sw_M} (hf : f_Part_addBar_125 N a0 a1 a7 a8 a9 a11 a13 b0 M = some r) : sw_F g k_Part_addBar d n0 none r 125 [(0, .ref a0), (1, .ref a1), (7, .int a7), (8, .int a8), (9, .long a9), (11, .long a11), (13, .long a13)] [.int b0] M := by
  unfold f_Part_addBar_125 at hf
  obtain ⟨h1, hf⟩ := sw_gd_1 hf
  obtain ⟨h2, hf⟩ := sw_gd_1 hf
  refine sf_blk [(.aload_n 0, 0, 0, .null), (.getfield 27, 5, 5, .null), (.imul, 0, 0, .null), (.i2l, 0, 0, .null), (.lload 9, 0, 0, .null), (.lmul, 0, 0, .null), (.lload 13, 0, 0, .null), (.ldiv, 0, 0, .null), (.lneg, 0, 0, .null), (.lstore 15, 0, 0, .null), (.iload 7, 0, 0, .null), (.iconst (2), 0, 0, .int (2 : Int32))] (lv' := [(15, .long (-(((b0 * (rd_I M a0 5)).toInt64 * a9) / a13))), (0, .ref a0), (1, .ref a1), (7, .int a7), (8, .int a8), (9, .long a9), (11, .long a11), (13, .long a13)]) (st' := [.int (2 : Int32), .int a7]) (M1 := M) (ob := [sw_ok M a0 5, decide (¬ a13 = 0)]) (pc' := 143) (by decide +kernel) rfl rfl (sw_a1 h1 (sw_a1 h2 sw_a0)) ?_
  refine sf_j_ge (off := 7) (tgt := 150) (by decide +kernel) (by decide) hf (fun hc hf => ?_) (fun hc hf => ?_)
  · refine sf_blk [(.iconst (1), 0, 0, .int (1 : Int32))] (lv' := [(15, .long (-(((b0 * (rd_I M a0 5)).toInt64 * a9) / a13))), (0, .ref a0), (1, .ref a1), (7, .int a7), (8, .int a8), (9, .long a9), (11, .long a11), (13, .long a13)]) (st' := [.int (1 : Int32)]) (M1 := M) (ob := []) (pc' := 151) (by decide +kernel) rfl rfl sw_a0 ?_
    exact sf_weak [1, 2, 4, 6, 7, 0] rfl (t_Part_addBar_151 hd hf)
  · refine sf_blk [(.iconst (2), 0, 0, .int (2 : Int32))] (lv' := [(15, .long (-(((b0 * (rd_I M a0 5)).toInt64 * a9) / a13))), (0, .ref a0), (1, .ref a1), (7, .int a7), (8, .int a8), (9, .long a9), (11, .long a11), (13, .long a13)]) (st' := [.int (2 : Int32)]) (M1 := M) (ob := []) (pc' := 147) (by decide +kernel) rfl rfl sw_a0 ?_
    refine sf_goto (off := 4) (tgt := 151) (by decide +kernel) (by decide) ?_
    exact sf_weak [1, 2, 4, 6, 7, 0] rfl (t_Part_addBar_151 hd hf)
def f_Part_addBar_91 (N : Nat) (a0 : Nat) (a1 : Nat) (a7 : Int32) (a8 : Int32) (a9 : Int64) (a11 : Int64) (b0 : Int64) (b1 : Int64) (M : sw_M) : Option (sw_M) :=
  sw_gd [sw_ok M a0 5] (if (1 : Int64) ≤ (b1 + ((b0 * (rd_I M a0 6).toInt64) * (rd_I M a0 6).toInt64)) then if (2 : Int32) ≤ a7 then f_Part_addBar_125 N a0 a1 a7 a8 a9 a11 (b1 + ((b0 * (rd_I M a0 6).toInt64) * (rd_I M a0 6).toInt64)) (2 : Int32) M
  else f_Part_addBar_125 N a0 a1 a7 a8 a9 a11 (b1 + ((b0 * (rd_I M a0 6).toInt64) * (rd_I M a0 6).toInt64)) (1 : Int32) M
  else some M)
set_option maxRecDepth 10000 in
theorem t_Part_addBar_91 {g : sw_G} {d n0 : Nat} (hd : 1 ≤ d) {r : sw_M} {N : Nat} {a0 : Nat} {a1 : Nat} {a7 : Int32} {a8 : Int32} {a9 : Int64} {a11 : Int64} {b0 : Int64} {b1 : Int64} {M : sw_M} (hf : f_Part_addBar_91 N a0 a1 a7 a8 a9 a11 b0 b1 M = some r) : sw_F g k_Part_addBar d n0 none r 91 [(0, .ref a0), (1, .ref a1), (7, .int a7), (8, .int a8), (9, .long a9), (11, .long a11)] [.long b0, .long b1] M := by
  unfold f_Part_addBar_91 at hf
  obtain ⟨h1, hf⟩ := sw_gd_1 hf
  refine sf_blk [(.aload_n 0, 0, 0, .null), (.getfield 30, 5, 6, .null), (.i2l, 0, 0, .null), (.lmul, 0, 0, .null), (.aload_n 0, 0, 0, .null), (.getfield 30, 5, 6, .null), (.i2l, 0, 0, .null), (.lmul, 0, 0, .null), (.ladd, 0, 0, .null), (.lstore 13, 0, 0, .null), (.lload 13, 0, 0, .null), (.lconst 1, 0, 0, .long (1 : Int64)), (.lcmp, 0, 0, .null)] (lv' := [(13, .long (b1 + ((b0 * (rd_I M a0 6).toInt64) * (rd_I M a0 6).toInt64))), (0, .ref a0), (1, .ref a1), (7, .int a7), (8, .int a8), (9, .long a9), (11, .long a11)]) (st' := [.int (lg_cmp (b1 + ((b0 * (rd_I M a0 6).toInt64) * (rd_I M a0 6).toInt64)) (1 : Int64))]) (M1 := M) (ob := [sw_ok M a0 5, sw_ok M a0 5]) (pc' := 110) (by decide +kernel) rfl rfl (sw_a1 h1 (sw_a1 h1 sw_a0)) ?_
  refine sf_l_ge (off := 4) (tgt := 114) (by decide +kernel) (by decide) hf (fun hc hf => ?_) (fun hc hf => ?_)
  · refine sf_blk [(.iload 7, 0, 0, .null), (.iconst (2), 0, 0, .int (2 : Int32))] (lv' := [(13, .long (b1 + ((b0 * (rd_I M a0 6).toInt64) * (rd_I M a0 6).toInt64))), (0, .ref a0), (1, .ref a1), (7, .int a7), (8, .int a8), (9, .long a9), (11, .long a11)]) (st' := [.int (2 : Int32), .int a7]) (M1 := M) (ob := []) (pc' := 117) (by decide +kernel) rfl rfl sw_a0 ?_
    refine sf_j_ge (off := 7) (tgt := 124) (by decide +kernel) (by decide) hf (fun hc hf => ?_) (fun hc hf => ?_)
    · refine sf_blk [(.iconst (2), 0, 0, .int (2 : Int32))] (lv' := [(13, .long (b1 + ((b0 * (rd_I M a0 6).toInt64) * (rd_I M a0 6).toInt64))), (0, .ref a0), (1, .ref a1), (7, .int a7), (8, .int a8), (9, .long a9), (11, .long a11)]) (st' := [.int (2 : Int32)]) (M1 := M) (ob := []) (pc' := 125) (by decide +kernel) rfl rfl sw_a0 ?_
      exact sf_weak [1, 2, 3, 4, 5, 6, 0] rfl (t_Part_addBar_125 hd hf)
    · refine sf_blk [(.iconst (1), 0, 0, .int (1 : Int32))] (lv' := [(13, .long (b1 + ((b0 * (rd_I M a0 6).toInt64) * (rd_I M a0 6).toInt64))), (0, .ref a0), (1, .ref a1), (7, .int a7), (8, .int a8), (9, .long a9), (11, .long a11)]) (st' := [.int (1 : Int32)]) (M1 := M) (ob := []) (pc' := 121) (by decide +kernel) rfl rfl sw_a0 ?_
      refine sf_goto (off := 4) (tgt := 125) (by decide +kernel) (by decide) ?_
      exact sf_weak [1, 2, 3, 4, 5, 6, 0] rfl (t_Part_addBar_125 hd hf)
  · cases hf
    exact sf_void rfl (by decide +kernel)
def f_Part_addBar_66 (N : Nat) (a0 : Nat) (a1 : Nat) (a7 : Int32) (a8 : Int32) (a9 : Int64) (b0 : Int64) (M : sw_M) : Option (sw_M) :=
  if a8 = 0 then f_Part_addBar_91 N a0 a1 a7 a8 a9 b0 (1 : Int64) ((a9 * a9) + (b0 * b0)) M
  else f_Part_addBar_91 N a0 a1 a7 a8 a9 b0 (2 : Int64) ((a9 * a9) + (b0 * b0)) M
set_option maxRecDepth 10000 in
theorem t_Part_addBar_66 {g : sw_G} {d n0 : Nat} (hd : 1 ≤ d) {r : sw_M} {N : Nat} {a0 : Nat} {a1 : Nat} {a7 : Int32} {a8 : Int32} {a9 : Int64} {b0 : Int64} {M : sw_M} (hf : f_Part_addBar_66 N a0 a1 a7 a8 a9 b0 M = some r) : sw_F g k_Part_addBar d n0 none r 66 [(0, .ref a0), (1, .ref a1), (7, .int a7), (8, .int a8), (9, .long a9)] [.long b0] M := by
  unfold f_Part_addBar_66 at hf
  refine sf_blk [(.lstore 11, 0, 0, .null), (.lload 9, 0, 0, .null), (.lload 9, 0, 0, .null), (.lmul, 0, 0, .null), (.lload 11, 0, 0, .null), (.lload 11, 0, 0, .null), (.lmul, 0, 0, .null), (.ladd, 0, 0, .null), (.iload 8, 0, 0, .null)] (lv' := [(11, .long b0), (0, .ref a0), (1, .ref a1), (7, .int a7), (8, .int a8), (9, .long a9)]) (st' := [.int a8, .long ((a9 * a9) + (b0 * b0))]) (M1 := M) (ob := []) (pc' := 81) (by decide +kernel) rfl rfl sw_a0 ?_
  refine sf_z_eq (off := 9) (tgt := 90) (by decide +kernel) (by decide) hf (fun hc hf => ?_) (fun hc hf => ?_)
  · refine sf_blk [(.lconst 1, 0, 0, .long (1 : Int64))] (lv' := [(11, .long b0), (0, .ref a0), (1, .ref a1), (7, .int a7), (8, .int a8), (9, .long a9)]) (st' := [.long (1 : Int64), .long ((a9 * a9) + (b0 * b0))]) (M1 := M) (ob := []) (pc' := 91) (by decide +kernel) rfl rfl sw_a0 ?_
    exact sf_weak [1, 2, 3, 4, 5, 0] rfl (t_Part_addBar_91 hd hf)
  · refine sf_blk [(.ldc2_w 53, 0, 0, .long (2 : Int64))] (lv' := [(11, .long b0), (0, .ref a0), (1, .ref a1), (7, .int a7), (8, .int a8), (9, .long a9)]) (st' := [.long (2 : Int64), .long ((a9 * a9) + (b0 * b0))]) (M1 := M) (ob := []) (pc' := 87) (by decide +kernel) rfl rfl sw_a0 ?_
    refine sf_goto (off := 4) (tgt := 91) (by decide +kernel) (by decide) ?_
    exact sf_weak [1, 2, 3, 4, 5, 0] rfl (t_Part_addBar_91 hd hf)
def f_Part_addBar_50 (N : Nat) (a0 : Nat) (a1 : Nat) (a2 : Int64) (a4 : Int64) (a7 : Int32) (a8 : Int32) (b0 : Int64) (M : sw_M) : Option (sw_M) :=
  if a8 = 0 then f_Part_addBar_66 N a0 a1 a7 a8 b0 a4 M
  else f_Part_addBar_66 N a0 a1 a7 a8 b0 (a4 - a2) M
set_option maxRecDepth 10000 in
theorem t_Part_addBar_50 {g : sw_G} {d n0 : Nat} (hd : 1 ≤ d) {r : sw_M} {N : Nat} {a0 : Nat} {a1 : Nat} {a2 : Int64} {a4 : Int64} {a7 : Int32} {a8 : Int32} {b0 : Int64} {M : sw_M} (hf : f_Part_addBar_50 N a0 a1 a2 a4 a7 a8 b0 M = some r) : sw_F g k_Part_addBar d n0 none r 50 [(0, .ref a0), (1, .ref a1), (2, .long a2), (4, .long a4), (7, .int a7), (8, .int a8)] [.long b0] M := by
  unfold f_Part_addBar_50 at hf
  refine sf_blk [(.lstore 9, 0, 0, .null), (.iload 8, 0, 0, .null)] (lv' := [(9, .long b0), (0, .ref a0), (1, .ref a1), (2, .long a2), (4, .long a4), (7, .int a7), (8, .int a8)]) (st' := [.int a8]) (M1 := M) (ob := []) (pc' := 54) (by decide +kernel) rfl rfl sw_a0 ?_
  refine sf_z_eq (off := 10) (tgt := 64) (by decide +kernel) (by decide) hf (fun hc hf => ?_) (fun hc hf => ?_)
  · refine sf_blk [(.lload 4, 0, 0, .null)] (lv' := [(9, .long b0), (0, .ref a0), (1, .ref a1), (2, .long a2), (4, .long a4), (7, .int a7), (8, .int a8)]) (st' := [.long a4]) (M1 := M) (ob := []) (pc' := 66) (by decide +kernel) rfl rfl sw_a0 ?_
    exact sf_weak [1, 2, 5, 6, 0] rfl (t_Part_addBar_66 hd hf)
  · refine sf_blk [(.lload 4, 0, 0, .null), (.lload_n 2, 0, 0, .null), (.lsub, 0, 0, .null)] (lv' := [(9, .long b0), (0, .ref a0), (1, .ref a1), (2, .long a2), (4, .long a4), (7, .int a7), (8, .int a8)]) (st' := [.long (a4 - a2)]) (M1 := M) (ob := []) (pc' := 61) (by decide +kernel) rfl rfl sw_a0 ?_
    refine sf_goto (off := 5) (tgt := 66) (by decide +kernel) (by decide) ?_
    exact sf_weak [1, 2, 5, 6, 0] rfl (t_Part_addBar_66 hd hf)
def f_Part_addBar_35 (N : Nat) (a0 : Nat) (a1 : Nat) (a2 : Int64) (a4 : Int64) (a7 : Int32) (b0 : Int32) (M : sw_M) : Option (sw_M) :=
  if b0 = 0 then f_Part_addBar_50 N a0 a1 a2 a4 a7 b0 a2 M
  else f_Part_addBar_50 N a0 a1 a2 a4 a7 b0 (a2 + a4) M
set_option maxRecDepth 10000 in
theorem t_Part_addBar_35 {g : sw_G} {d n0 : Nat} (hd : 1 ≤ d) {r : sw_M} {N : Nat} {a0 : Nat} {a1 : Nat} {a2 : Int64} {a4 : Int64} {a7 : Int32} {b0 : Int32} {M : sw_M} (hf : f_Part_addBar_35 N a0 a1 a2 a4 a7 b0 M = some r) : sw_F g k_Part_addBar d n0 none r 35 [(0, .ref a0), (1, .ref a1), (2, .long a2), (4, .long a4), (7, .int a7)] [.int b0] M := by
  unfold f_Part_addBar_35 at hf
  refine sf_blk [(.istore 8, 0, 0, .null), (.iload 8, 0, 0, .null)] (lv' := [(8, .int b0), (0, .ref a0), (1, .ref a1), (2, .long a2), (4, .long a4), (7, .int a7)]) (st' := [.int b0]) (M1 := M) (ob := []) (pc' := 39) (by decide +kernel) rfl rfl sw_a0 ?_
  refine sf_z_eq (off := 10) (tgt := 49) (by decide +kernel) (by decide) hf (fun hc hf => ?_) (fun hc hf => ?_)
  · refine sf_blk [(.lload_n 2, 0, 0, .null)] (lv' := [(8, .int b0), (0, .ref a0), (1, .ref a1), (2, .long a2), (4, .long a4), (7, .int a7)]) (st' := [.long a2]) (M1 := M) (ob := []) (pc' := 50) (by decide +kernel) rfl rfl sw_a0 ?_
    exact sf_weak [1, 2, 3, 4, 5, 0] rfl (t_Part_addBar_50 hd hf)
  · refine sf_blk [(.lload_n 2, 0, 0, .null), (.lload 4, 0, 0, .null), (.ladd, 0, 0, .null)] (lv' := [(8, .int b0), (0, .ref a0), (1, .ref a1), (2, .long a2), (4, .long a4), (7, .int a7)]) (st' := [.long (a2 + a4)]) (M1 := M) (ob := []) (pc' := 46) (by decide +kernel) rfl rfl sw_a0 ?_
    refine sf_goto (off := 4) (tgt := 50) (by decide +kernel) (by decide) ?_
    exact sf_weak [1, 2, 3, 4, 5, 0] rfl (t_Part_addBar_50 hd hf)
def f_Part_addBar_20 (N : Nat) (a0 : Nat) (a1 : Nat) (a2 : Int64) (a4 : Int64) (b0 : Int32) (M : sw_M) : Option (sw_M) :=
  if (b0 - b0 / (2 : Int32) * (2 : Int32)) = (1 : Int32) then f_Part_addBar_35 N a0 a1 a2 a4 b0 (1 : Int32) M
  else f_Part_addBar_35 N a0 a1 a2 a4 b0 (0 : Int32) M
set_option maxRecDepth 10000 in
theorem t_Part_addBar_20 {g : sw_G} {d n0 : Nat} (hd : 1 ≤ d) {r : sw_M} {N : Nat} {a0 : Nat} {a1 : Nat} {a2 : Int64} {a4 : Int64} {b0 : Int32} {M : sw_M} (hf : f_Part_addBar_20 N a0 a1 a2 a4 b0 M = some r) : sw_F g k_Part_addBar d n0 none r 20 [(0, .ref a0), (1, .ref a1), (2, .long a2), (4, .long a4)] [.int b0] M := by
  unfold f_Part_addBar_20 at hf
  refine sf_blk [(.istore 7, 0, 0, .null), (.iload 7, 0, 0, .null), (.iconst (2), 0, 0, .int (2 : Int32)), (.irem, 0, 0, .null), (.iconst (1), 0, 0, .int (1 : Int32))] (lv' := [(7, .int b0), (0, .ref a0), (1, .ref a1), (2, .long a2), (4, .long a4)]) (st' := [.int (1 : Int32), .int (b0 - b0 / (2 : Int32) * (2 : Int32))]) (M1 := M) (ob := [decide (¬ (2 : Int32) = 0)]) (pc' := 27) (by decide +kernel) rfl rfl (sw_a1 (by decide) sw_a0) ?_
  refine sf_j_ne (off := 7) (tgt := 34) (by decide +kernel) (by decide) hf (fun hc hf => ?_) (fun hc hf => ?_)
  · refine sf_blk [(.iconst (0), 0, 0, .int (0 : Int32))] (lv' := [(7, .int b0), (0, .ref a0), (1, .ref a1), (2, .long a2), (4, .long a4)]) (st' := [.int (0 : Int32)]) (M1 := M) (ob := []) (pc' := 35) (by decide +kernel) rfl rfl sw_a0 ?_
    exact sf_weak [1, 2, 3, 4, 0] rfl (t_Part_addBar_35 hd hf)
  · refine sf_blk [(.iconst (1), 0, 0, .int (1 : Int32))] (lv' := [(7, .int b0), (0, .ref a0), (1, .ref a1), (2, .long a2), (4, .long a4)]) (st' := [.int (1 : Int32)]) (M1 := M) (ob := []) (pc' := 31) (by decide +kernel) rfl rfl sw_a0 ?_
    refine sf_goto (off := 4) (tgt := 35) (by decide +kernel) (by decide) ?_
    exact sf_weak [1, 2, 3, 4, 0] rfl (t_Part_addBar_35 hd hf)
def f_Part_addBar (N : Nat) (a0 : Nat) (a1 : Nat) (a2 : Int64) (a4 : Int64) (a6 : Int32) (M : sw_M) : Option (sw_M) :=
  sw_gd [sw_ok M a0 5] (if (rd_I M a0 7) ≤ 0 then f_Part_addBar_20 N a0 a1 a2 a4 (0 : Int32) M
  else sw_gd [decide (¬ (rd_I M a0 7) = 0)] (f_Part_addBar_20 N a0 a1 a2 a4 ((a6 / (rd_I M a0 7)) - (a6 / (rd_I M a0 7)) / (4 : Int32) * (4 : Int32)) M))
set_option maxRecDepth 10000 in
theorem t_Part_addBar {g : sw_G} {d n0 : Nat} (hd : 1 ≤ d) {r : sw_M} {N : Nat} {a0 : Nat} {a1 : Nat} {a2 : Int64} {a4 : Int64} {a6 : Int32} {M : sw_M} (hf : f_Part_addBar N a0 a1 a2 a4 a6 M = some r) : sw_F g k_Part_addBar d n0 none r 0 [(0, .ref a0), (1, .ref a1), (2, .long a2), (4, .long a4), (6, .int a6)] [] M := by
  unfold f_Part_addBar at hf
  obtain ⟨h1, hf⟩ := sw_gd_1 hf
  refine sf_blk [(.aload_n 0, 0, 0, .null), (.getfield 33, 5, 7, .null)] (lv' := [(0, .ref a0), (1, .ref a1), (2, .long a2), (4, .long a4), (6, .int a6)]) (st' := [.int (rd_I M a0 7)]) (M1 := M) (ob := [sw_ok M a0 5]) (pc' := 4) (by decide +kernel) rfl rfl (sw_a1 h1 sw_a0) ?_
  refine sf_z_le (off := 15) (tgt := 19) (by decide +kernel) (by decide) hf (fun hc hf => ?_) (fun hc hf => ?_)
  · refine sf_blk [(.iconst (0), 0, 0, .int (0 : Int32))] (lv' := [(0, .ref a0), (1, .ref a1), (2, .long a2), (4, .long a4), (6, .int a6)]) (st' := [.int (0 : Int32)]) (M1 := M) (ob := []) (pc' := 20) (by decide +kernel) rfl rfl sw_a0 ?_
    exact sf_weak [0, 1, 2, 3] rfl (t_Part_addBar_20 hd hf)
  · obtain ⟨h2, hf⟩ := sw_gd_1 hf
    refine sf_blk [(.iload 6, 0, 0, .null), (.aload_n 0, 0, 0, .null), (.getfield 33, 5, 7, .null), (.idiv, 0, 0, .null), (.iconst (4), 0, 0, .int (4 : Int32)), (.irem, 0, 0, .null)] (lv' := [(0, .ref a0), (1, .ref a1), (2, .long a2), (4, .long a4), (6, .int a6)]) (st' := [.int ((a6 / (rd_I M a0 7)) - (a6 / (rd_I M a0 7)) / (4 : Int32) * (4 : Int32))]) (M1 := M) (ob := [sw_ok M a0 5, decide (¬ (rd_I M a0 7) = 0), decide (¬ (4 : Int32) = 0)]) (pc' := 16) (by decide +kernel) rfl rfl (sw_a1 h1 (sw_a1 h2 (sw_a1 (by decide) sw_a0))) ?_
    refine sf_goto (off := 4) (tgt := 20) (by decide +kernel) (by decide) ?_
    exact sf_weak [0, 1, 2, 3] rfl (t_Part_addBar_20 hd hf)
theorem o_Part_addBar (g : sw_G) {d : Nat} (hd : 1 ≤ d) {N : Nat} {a0 : Nat} {a1 : Nat} {a2 : Int64} {a4 : Int64} {a6 : Int32} {M : sw_M} {r : sw_M} (hf : f_Part_addBar N a0 a1 a2 a4 a6 M = some r) : sw_Ok g k_Part_addBar d [.ref a0, .ref a1, .long a2, .long a4, .int a6] M none r := sf_met (by decide +kernel) rfl (by decide) (Nat.le_of_ble_eq_true rfl) (t_Part_addBar hd hf)
