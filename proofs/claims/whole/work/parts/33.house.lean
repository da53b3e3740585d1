/-! printed by program: functions of methods, and that the bytes compute them -/
def f_Orbit_run_171 (N : Nat) (a0 : Nat) (a3 : Nat) (M : sw_M) : Option (sw_M) :=
  sw_gd [sw_ok M a3 8] (if (rd_I M a3 5) = 0 then sw_gd [sw_ok M a0 4] (some (wr_I M a0 6 (0 : Int32)))
  else sw_gd [sw_ok M a0 4] (some (wr_I M a0 6 (1 : Int32))))
set_option maxRecDepth 10000 in
theorem t_Orbit_run_171 {g : sw_G} {d n0 : Nat} (hd : 5 ≤ d) {r : sw_M} {N : Nat} {a0 : Nat} {a3 : Nat} {M : sw_M} (hf : f_Orbit_run_171 N a0 a3 M = some r) : sw_F g k_Orbit_run d n0 none r 171 [(0, .ref a0), (3, .ref a3)] [] M := by
  unfold f_Orbit_run_171 at hf
  obtain ⟨h1, hf⟩ := sw_gd_1 hf
  refine sf_blk [(.aload_n 0, 0, 0, .null), (.aload_n 3, 0, 0, .null), (.getfield 96, 8, 5, .null)] (lv' := [(0, .ref a0), (3, .ref a3)]) (st' := [.int (rd_I M a3 5), .ref a0]) (M1 := M) (ob := [sw_ok M a3 8]) (pc' := 176) (by decide +kernel) rfl rfl (sw_a1 h1 sw_a0) ?_
  refine sf_z_eq (off := 7) (tgt := 183) (by decide +kernel) (by decide) hf (fun hc hf => ?_) (fun hc hf => ?_)
  · obtain ⟨h2, hf⟩ := sw_gd_1 hf
    refine sf_blk [(.iconst (0), 0, 0, .int (0 : Int32)), (.putfield 99, 4, 6, .null)] (lv' := [(0, .ref a0), (3, .ref a3)]) (st' := []) (M1 := (wr_I M a0 6 (0 : Int32))) (ob := [sw_ok M a0 4, sw_bz (0 : Int32)]) (pc' := 187) (by decide +kernel) rfl rfl (sw_a1 h2 (sw_a1 rfl sw_a0)) ?_
    cases hf
    exact sf_void rfl (by decide +kernel)
  · refine sf_blk [(.iconst (1), 0, 0, .int (1 : Int32))] (lv' := [(0, .ref a0), (3, .ref a3)]) (st' := [.int (1 : Int32), .ref a0]) (M1 := M) (ob := []) (pc' := 180) (by decide +kernel) rfl rfl sw_a0 ?_
    refine sf_goto (off := 4) (tgt := 184) (by decide +kernel) (by decide) ?_
    obtain ⟨h3, hf⟩ := sw_gd_1 hf
    refine sf_blk [(.putfield 99, 4, 6, .null)] (lv' := [(0, .ref a0), (3, .ref a3)]) (st' := []) (M1 := (wr_I M a0 6 (1 : Int32))) (ob := [sw_ok M a0 4, sw_bz (1 : Int32)]) (pc' := 187) (by decide +kernel) rfl rfl (sw_a1 h3 (sw_a1 rfl sw_a0)) ?_
    cases hf
    exact sf_void rfl (by decide +kernel)
def f_Orbit_run_127 (N : Nat) : Nat → Nat → Nat → Int32 → Nat → Int32 → sw_M → Option (sw_M)
  | 0, _, _, _, _, _, _ => none
  | j + 1, a0, a1, a2, a3, a4, M =>
  if a2 ≤ a4 then f_Orbit_run_171 N a0 a3 M
  else sw_gd [sw_ok M a3 8] ((f_Star_step N a3 a1 M).bind (fun u2 => if u2.1 = 0 then f_Orbit_run_171 N a0 a3 u2.2
  else sw_gd [sw_ok u2.2 a0 4] ((f_Orbit_mark N a0 a3 (wr_I u2.2 a0 5 ((rd_I u2.2 a0 5) + (1 : Int32)))).bind (fun u4 => sw_gd [sw_ok u4 a0 4] ((f_Orbit_turn N a0 a3 u4).bind (fun u6 => sw_gd [sw_ok u6 a0 4] ((f_Orbit_comeBack N a0 u6).bind (fun u8 => f_Orbit_run_127 N j a0 a1 a2 a3 (a4 + (1 : Int32)) u8))))))))
set_option maxRecDepth 10000 in
theorem t_Orbit_run_127 {g : sw_G} {d n0 : Nat} (hd : 5 ≤ d) {r : sw_M} {N : Nat} : ∀ (j : Nat) (a0 : Nat) (a1 : Nat) (a2 : Int32) (a3 : Nat) (a4 : Int32) (M : sw_M), f_Orbit_run_127 N j a0 a1 a2 a3 a4 M = some r → sw_F g k_Orbit_run d n0 none r 127 [(0, .ref a0), (1, .ref a1), (2, .int a2), (3, .ref a3), (4, .int a4)] [] M := by
  intro j
  induction j with
  | zero =>
    intro a0 a1 a2 a3 a4 M hf
    rw [f_Orbit_run_127] at hf
    cases hf
  | succ j ih =>
    intro a0 a1 a2 a3 a4 M hf
    rw [f_Orbit_run_127] at hf
    refine sf_blk [(.iload 4, 0, 0, .null), (.iload_n 2, 0, 0, .null)] (lv' := [(0, .ref a0), (1, .ref a1), (2, .int a2), (3, .ref a3), (4, .int a4)]) (st' := [.int a2, .int a4]) (M1 := M) (ob := []) (pc' := 130) (by decide +kernel) rfl rfl sw_a0 ?_
    refine sf_j_ge (off := 41) (tgt := 171) (by decide +kernel) (by decide) hf (fun hc hf => ?_) (fun hc hf => ?_)
    · exact sf_weak [0, 3] rfl (t_Orbit_run_171 hd hf)
    · obtain ⟨h1, hf⟩ := sw_gd_1 hf
      refine sf_blk [(.aload_n 3, 0, 0, .null), (.aload_n 1, 0, 0, .null)] (lv' := [(0, .ref a0), (1, .ref a1), (2, .int a2), (3, .ref a3), (4, .int a4)]) (st' := [.ref a1, .ref a3]) (M1 := M) (ob := []) (pc' := 135) (by decide +kernel) rfl rfl sw_a0 ?_
      obtain ⟨u2, hu2, hf⟩ := sw_bnd hf
      refine sf_callV (i := 86) (k2 := k_Star_step) (d2 := d - 1) (As := [.ref a1]) (st := []) (q := a3) (ci := 8) mf_Star_step mi_Star_step ms_Star_step (sw_m4 151 (by decide +kernel)) rfl (by decide) (by decide +kernel) rfl (Nat.le_of_ble_eq_true rfl) (by omega) h1 (o_Star_step g (d := d - 1) (by omega) hu2) ?_
      show sw_F _ _ _ _ _ _ 138 [(0, .ref a0), (1, .ref a1), (2, .int a2), (3, .ref a3), (4, .int a4)] [.int u2.1] u2.2
      refine sf_z_eq (off := 33) (tgt := 171) (by decide +kernel) (by decide) hf (fun hc hf => ?_) (fun hc hf => ?_)
      · exact sf_weak [0, 3] rfl (t_Orbit_run_171 hd hf)
      · obtain ⟨h3, hf⟩ := sw_gd_1 hf
        refine sf_blk [(.aload_n 0, 0, 0, .null), (.dup, 0, 0, .null), (.getfield 45, 4, 5, .null), (.iconst (1), 0, 0, .int (1 : Int32)), (.iadd, 0, 0, .null), (.putfield 45, 4, 5, .null), (.aload_n 0, 0, 0, .null), (.aload_n 3, 0, 0, .null)] (lv' := [(0, .ref a0), (1, .ref a1), (2, .int a2), (3, .ref a3), (4, .int a4)]) (st' := [.ref a3, .ref a0]) (M1 := (wr_I u2.2 a0 5 ((rd_I u2.2 a0 5) + (1 : Int32)))) (ob := [sw_ok u2.2 a0 4, sw_ok u2.2 a0 4]) (pc' := 153) (by decide +kernel) rfl rfl (sw_a1 h3 (sw_a1 h3 sw_a0)) ?_
        obtain ⟨u4, hu4, hf⟩ := sw_bnd hf
        refine sf_callV (i := 82) (k2 := k_Orbit_mark) (d2 := d - 1) (As := [.ref a3]) (st := []) (q := a0) (ci := 4) mf_Orbit_mark mi_Orbit_mark ms_Orbit_mark (sw_m4 141 (by decide +kernel)) rfl (by decide) (by decide +kernel) rfl (Nat.le_of_ble_eq_true rfl) (by omega) h3 (o_Orbit_mark g (d := d - 1) (by omega) hu4) ?_
        show sw_F _ _ _ _ _ _ 156 [(0, .ref a0), (1, .ref a1), (2, .int a2), (3, .ref a3), (4, .int a4)] [] u4
        obtain ⟨h5, hf⟩ := sw_gd_1 hf
        refine sf_blk [(.aload_n 0, 0, 0, .null), (.aload_n 3, 0, 0, .null)] (lv' := [(0, .ref a0), (1, .ref a1), (2, .int a2), (3, .ref a3), (4, .int a4)]) (st' := [.ref a3, .ref a0]) (M1 := u4) (ob := []) (pc' := 158) (by decide +kernel) rfl rfl sw_a0 ?_
        obtain ⟨u6, hu6, hf⟩ := sw_bnd hf
        refine sf_callV (i := 90) (k2 := k_Orbit_turn) (d2 := d - 1) (As := [.ref a3]) (st := []) (q := a0) (ci := 4) mf_Orbit_turn mi_Orbit_turn ms_Orbit_turn (sw_m4 152 (by decide +kernel)) rfl (by decide) (by decide +kernel) rfl (Nat.le_of_ble_eq_true rfl) (by omega) h5 (o_Orbit_turn g (d := d - 1) (by omega) hu6) ?_
        show sw_F _ _ _ _ _ _ 161 [(0, .ref a0), (1, .ref a1), (2, .int a2), (3, .ref a3), (4, .int a4)] [] u6
        obtain ⟨h7, hf⟩ := sw_gd_1 hf
        refine sf_blk [(.aload_n 0, 0, 0, .null)] (lv' := [(0, .ref a0), (1, .ref a1), (2, .int a2), (3, .ref a3), (4, .int a4)]) (st' := [.ref a0]) (M1 := u6) (ob := []) (pc' := 162) (by decide +kernel) rfl rfl sw_a0 ?_
        obtain ⟨u8, hu8, hf⟩ := sw_bnd hf
        refine sf_callV (i := 93) (k2 := k_Orbit_comeBack) (d2 := d - 1) (As := []) (st := []) (q := a0) (ci := 4) mf_Orbit_comeBack mi_Orbit_comeBack ms_Orbit_comeBack (sw_m4 156 (by decide +kernel)) rfl (by decide) (by decide +kernel) rfl (Nat.le_of_ble_eq_true rfl) (by omega) h7 (o_Orbit_comeBack g (d := d - 1) (by omega) hu8) ?_
        show sw_F _ _ _ _ _ _ 165 [(0, .ref a0), (1, .ref a1), (2, .int a2), (3, .ref a3), (4, .int a4)] [] u8
        refine sf_blk [(.iinc 4 (1), 0, 0, .int (1 : Int32))] (lv' := [(4, .int (a4 + (1 : Int32))), (0, .ref a0), (1, .ref a1), (2, .int a2), (3, .ref a3)]) (st' := []) (M1 := u8) (ob := []) (pc' := 168) (by decide +kernel) rfl rfl sw_a0 ?_
        refine sf_goto (off := -41) (tgt := 127) (by decide +kernel) (by decide) ?_
        exact sf_weak [1, 2, 3, 4, 0] rfl (ih _ _ _ _ _ _ hf)
def f_Orbit_run_88 (N : Nat) (a0 : Nat) (a1 : Nat) (a2 : Int32) (a3 : Nat) (M : sw_M) : Option (sw_M) :=
  sw_gd [sw_ok M a3 8] (sw_gd [sw_ok M a0 4] ((f_Orbit_mark N a0 a3 (wr_L (wr_L M a0 11 (((rd_L M a3 0) * (rd_L M a3 3)) - ((rd_L M a3 1) * (rd_L M a3 2)))) a0 12 (rd_L (wr_L M a0 11 (((rd_L M a3 0) * (rd_L M a3 3)) - ((rd_L M a3 1) * (rd_L M a3 2)))) a0 11))).bind (fun u3 => f_Orbit_run_127 N N a0 a1 a2 a3 (0 : Int32) u3)))
set_option maxRecDepth 10000 in
theorem t_Orbit_run_88 {g : sw_G} {d n0 : Nat} (hd : 5 ≤ d) {r : sw_M} {N : Nat} {a0 : Nat} {a1 : Nat} {a2 : Int32} {a3 : Nat} {M : sw_M} (hf : f_Orbit_run_88 N a0 a1 a2 a3 M = some r) : sw_F g k_Orbit_run d n0 none r 88 [(0, .ref a0), (1, .ref a1), (2, .int a2), (3, .ref a3)] [] M := by
  unfold f_Orbit_run_88 at hf
  obtain ⟨h1, hf⟩ := sw_gd_1 hf
  obtain ⟨h2, hf⟩ := sw_gd_1 hf
  refine sf_blk [(.aload_n 0, 0, 0, .null), (.aload_n 3, 0, 0, .null), (.getfield 57, 8, 0, .null), (.aload_n 3, 0, 0, .null), (.getfield 72, 8, 3, .null), (.lmul, 0, 0, .null), (.aload_n 3, 0, 0, .null), (.getfield 60, 8, 1, .null), (.aload_n 3, 0, 0, .null), (.getfield 74, 8, 2, .null), (.lmul, 0, 0, .null), (.lsub, 0, 0, .null), (.putfield 76, 4, 11, .null), (.aload_n 0, 0, 0, .null), (.aload_n 0, 0, 0, .null), (.getfield 76, 4, 11, .null), (.putfield 79, 4, 12, .null), (.aload_n 0, 0, 0, .null), (.aload_n 3, 0, 0, .null)] (lv' := [(0, .ref a0), (1, .ref a1), (2, .int a2), (3, .ref a3)]) (st' := [.ref a3, .ref a0]) (M1 := (wr_L (wr_L M a0 11 (((rd_L M a3 0) * (rd_L M a3 3)) - ((rd_L M a3 1) * (rd_L M a3 2)))) a0 12 (rd_L (wr_L M a0 11 (((rd_L M a3 0) * (rd_L M a3 3)) - ((rd_L M a3 1) * (rd_L M a3 2)))) a0 11))) (ob := [sw_ok M a3 8, sw_ok M a3 8, sw_ok M a3 8, sw_ok M a3 8, sw_ok M a0 4, sw_ok (wr_L M a0 11 (((rd_L M a3 0) * (rd_L M a3 3)) - ((rd_L M a3 1) * (rd_L M a3 2)))) a0 4, sw_ok (wr_L M a0 11 (((rd_L M a3 0) * (rd_L M a3 3)) - ((rd_L M a3 1) * (rd_L M a3 2)))) a0 4]) (pc' := 121) (by decide +kernel) rfl rfl (sw_a1 h1 (sw_a1 h1 (sw_a1 h1 (sw_a1 h1 (sw_a1 h2 (sw_a1 h2 (sw_a1 h2 sw_a0))))))) ?_
  obtain ⟨u3, hu3, hf⟩ := sw_bnd hf
  refine sf_callV (i := 82) (k2 := k_Orbit_mark) (d2 := d - 1) (As := [.ref a3]) (st := []) (q := a0) (ci := 4) mf_Orbit_mark mi_Orbit_mark ms_Orbit_mark (sw_m4 141 (by decide +kernel)) rfl (by decide) (by decide +kernel) rfl (Nat.le_of_ble_eq_true rfl) (by omega) h2 (o_Orbit_mark g (d := d - 1) (by omega) hu3) ?_
  show sw_F _ _ _ _ _ _ 124 [(0, .ref a0), (1, .ref a1), (2, .int a2), (3, .ref a3)] [] u3
  refine sf_blk [(.iconst (0), 0, 0, .int (0 : Int32)), (.istore 4, 0, 0, .null)] (lv' := [(4, .int (0 : Int32)), (0, .ref a0), (1, .ref a1), (2, .int a2), (3, .ref a3)]) (st' := []) (M1 := u3) (ob := []) (pc' := 127) (by decide +kernel) rfl rfl sw_a0 ?_
  exact sf_weak [1, 2, 3, 4, 0] rfl (t_Orbit_run_127 hd _ _ _ _ _ _ _ hf)
def f_Orbit_run (N : Nat) (a0 : Nat) (a1 : Nat) (a2 : Int32) (a3 : Nat) (M : sw_M) : Option (sw_M) :=
  sw_gd [sw_ok M a0 4] (sw_gd [sw_ok M a3 8] ((f_Star_put N a3 (rd_I M a0 0) (rd_I M a0 1) (rd_I M a0 2) (rd_I M a0 3) (0 : Int32) M).bind (fun u3 => sw_gd [sw_ok u3 a0 4] (sw_gd [sw_ok (wr_I (wr_I (wr_I (wr_I u3 a0 5 (0 : Int32)) a0 9 (0 : Int32)) a0 14 (0 : Int32)) a0 10 (0 : Int32)) a3 8] ((f_Orbit_quarterAt N a0 (rd_L (wr_I (wr_I (wr_I (wr_I u3 a0 5 (0 : Int32)) a0 9 (0 : Int32)) a0 14 (0 : Int32)) a0 10 (0 : Int32)) a3 0) (rd_L (wr_I (wr_I (wr_I (wr_I u3 a0 5 (0 : Int32)) a0 9 (0 : Int32)) a0 14 (0 : Int32)) a0 10 (0 : Int32)) a3 1) (wr_I (wr_I (wr_I (wr_I u3 a0 5 (0 : Int32)) a0 9 (0 : Int32)) a0 14 (0 : Int32)) a0 10 (0 : Int32))).bind (fun u6 => sw_gd [sw_ok u6.2 a0 4] (sw_gd [sw_ok (wr_I u6.2 a0 10 u6.1) a3 8] (f_Orbit_run_88 N a0 a1 a2 a3 (wr_L (wr_L (wr_I u6.2 a0 10 u6.1) a0 7 (((rd_L (wr_I u6.2 a0 10 u6.1) a3 0) * (rd_L (wr_I u6.2 a0 10 u6.1) a3 0)) + ((rd_L (wr_I u6.2 a0 10 u6.1) a3 1) * (rd_L (wr_I u6.2 a0 10 u6.1) a3 1)))) a0 8 (rd_L (wr_L (wr_I u6.2 a0 10 u6.1) a0 7 (((rd_L (wr_I u6.2 a0 10 u6.1) a3 0) * (rd_L (wr_I u6.2 a0 10 u6.1) a3 0)) + ((rd_L (wr_I u6.2 a0 10 u6.1) a3 1) * (rd_L (wr_I u6.2 a0 10 u6.1) a3 1)))) a0 7))))))))))
set_option maxRecDepth 10000 in
theorem t_Orbit_run {g : sw_G} {d n0 : Nat} (hd : 5 ≤ d) {r : sw_M} {N : Nat} {a0 : Nat} {a1 : Nat} {a2 : Int32} {a3 : Nat} {M : sw_M} (hf : f_Orbit_run N a0 a1 a2 a3 M = some r) : sw_F g k_Orbit_run d n0 none r 0 [(0, .ref a0), (1, .ref a1), (2, .int a2), (3, .ref a3)] [] M := by
  unfold f_Orbit_run at hf
  obtain ⟨h1, hf⟩ := sw_gd_1 hf
  obtain ⟨h2, hf⟩ := sw_gd_1 hf
  refine sf_blk [(.aload_n 3, 0, 0, .null), (.aload_n 0, 0, 0, .null), (.getfield 26, 4, 0, .null), (.aload_n 0, 0, 0, .null), (.getfield 30, 4, 1, .null), (.aload_n 0, 0, 0, .null), (.getfield 33, 4, 2, .null), (.aload_n 0, 0, 0, .null), (.getfield 36, 4, 3, .null), (.iconst (0), 0, 0, .int (0 : Int32))] (lv' := [(0, .ref a0), (1, .ref a1), (2, .int a2), (3, .ref a3)]) (st' := [.int (0 : Int32), .int (rd_I M a0 3), .int (rd_I M a0 2), .int (rd_I M a0 1), .int (rd_I M a0 0), .ref a3]) (M1 := M) (ob := [sw_ok M a0 4, sw_ok M a0 4, sw_ok M a0 4, sw_ok M a0 4]) (pc' := 18) (by decide +kernel) rfl rfl (sw_a1 h1 (sw_a1 h1 (sw_a1 h1 (sw_a1 h1 sw_a0)))) ?_
  obtain ⟨u3, hu3, hf⟩ := sw_bnd hf
  refine sf_callV (i := 39) (k2 := k_Star_put) (d2 := d - 1) (As := [.int (rd_I M a0 0), .int (rd_I M a0 1), .int (rd_I M a0 2), .int (rd_I M a0 3), .int (0 : Int32)]) (st := []) (q := a3) (ci := 8) mf_Star_put mi_Star_put ms_Star_put (sw_m4 136 (by decide +kernel)) rfl (by decide) (by decide +kernel) rfl (Nat.le_of_ble_eq_true rfl) (by omega) h2 (o_Star_put g (d := d - 1) (by omega) hu3) ?_
  show sw_F _ _ _ _ _ _ 21 [(0, .ref a0), (1, .ref a1), (2, .int a2), (3, .ref a3)] [] u3
  obtain ⟨h4, hf⟩ := sw_gd_1 hf
  obtain ⟨h5, hf⟩ := sw_gd_1 hf
  refine sf_blk [(.aload_n 0, 0, 0, .null), (.iconst (0), 0, 0, .int (0 : Int32)), (.putfield 45, 4, 5, .null), (.aload_n 0, 0, 0, .null), (.iconst (0), 0, 0, .int (0 : Int32)), (.putfield 48, 4, 9, .null), (.aload_n 0, 0, 0, .null), (.iconst (0), 0, 0, .int (0 : Int32)), (.putfield 51, 4, 14, .null), (.aload_n 0, 0, 0, .null), (.iconst (0), 0, 0, .int (0 : Int32)), (.putfield 54, 4, 10, .null), (.aload_n 0, 0, 0, .null), (.aload_n 0, 0, 0, .null), (.aload_n 3, 0, 0, .null), (.getfield 57, 8, 0, .null), (.aload_n 3, 0, 0, .null), (.getfield 60, 8, 1, .null)] (lv' := [(0, .ref a0), (1, .ref a1), (2, .int a2), (3, .ref a3)]) (st' := [.long (rd_L (wr_I (wr_I (wr_I (wr_I u3 a0 5 (0 : Int32)) a0 9 (0 : Int32)) a0 14 (0 : Int32)) a0 10 (0 : Int32)) a3 1), .long (rd_L (wr_I (wr_I (wr_I (wr_I u3 a0 5 (0 : Int32)) a0 9 (0 : Int32)) a0 14 (0 : Int32)) a0 10 (0 : Int32)) a3 0), .ref a0, .ref a0]) (M1 := (wr_I (wr_I (wr_I (wr_I u3 a0 5 (0 : Int32)) a0 9 (0 : Int32)) a0 14 (0 : Int32)) a0 10 (0 : Int32))) (ob := [sw_ok u3 a0 4, sw_ok (wr_I u3 a0 5 (0 : Int32)) a0 4, sw_ok (wr_I (wr_I u3 a0 5 (0 : Int32)) a0 9 (0 : Int32)) a0 4, sw_ok (wr_I (wr_I (wr_I u3 a0 5 (0 : Int32)) a0 9 (0 : Int32)) a0 14 (0 : Int32)) a0 4, sw_ok (wr_I (wr_I (wr_I (wr_I u3 a0 5 (0 : Int32)) a0 9 (0 : Int32)) a0 14 (0 : Int32)) a0 10 (0 : Int32)) a3 8, sw_ok (wr_I (wr_I (wr_I (wr_I u3 a0 5 (0 : Int32)) a0 9 (0 : Int32)) a0 14 (0 : Int32)) a0 10 (0 : Int32)) a3 8]) (pc' := 51) (by decide +kernel) rfl rfl (sw_a1 h4 (sw_a1 h4 (sw_a1 h4 (sw_a1 h4 (sw_a1 h5 (sw_a1 h5 sw_a0)))))) ?_
  obtain ⟨u6, hu6, hf⟩ := sw_bnd hf
  refine sf_callV (i := 62) (k2 := k_Orbit_quarterAt) (d2 := d - 1) (As := [.long (rd_L (wr_I (wr_I (wr_I (wr_I u3 a0 5 (0 : Int32)) a0 9 (0 : Int32)) a0 14 (0 : Int32)) a0 10 (0 : Int32)) a3 0), .long (rd_L (wr_I (wr_I (wr_I (wr_I u3 a0 5 (0 : Int32)) a0 9 (0 : Int32)) a0 14 (0 : Int32)) a0 10 (0 : Int32)) a3 1)]) (st := [.ref a0]) (q := a0) (ci := 4) mf_Orbit_quarterAt mi_Orbit_quarterAt ms_Orbit_quarterAt (sw_m4 137 (by decide +kernel)) rfl (by decide) (by decide +kernel) rfl (Nat.le_of_ble_eq_true rfl) (by omega) h4 (o_Orbit_quarterAt g (d := d - 1) (by omega) hu6) ?_
  show sw_F _ _ _ _ _ _ 54 [(0, .ref a0), (1, .ref a1), (2, .int a2), (3, .ref a3)] [.int u6.1, .ref a0] u6.2
  obtain ⟨h7, hf⟩ := sw_gd_1 hf
  obtain ⟨h8, hf⟩ := sw_gd_1 hf
  refine sf_blk [(.putfield 54, 4, 10, .null), (.aload_n 0, 0, 0, .null), (.aload_n 3, 0, 0, .null), (.getfield 57, 8, 0, .null), (.aload_n 3, 0, 0, .null), (.getfield 57, 8, 0, .null), (.lmul, 0, 0, .null), (.aload_n 3, 0, 0, .null), (.getfield 60, 8, 1, .null), (.aload_n 3, 0, 0, .null), (.getfield 60, 8, 1, .null), (.lmul, 0, 0, .null), (.ladd, 0, 0, .null), (.putfield 66, 4, 7, .null), (.aload_n 0, 0, 0, .null), (.aload_n 0, 0, 0, .null), (.getfield 66, 4, 7, .null), (.putfield 69, 4, 8, .null)] (lv' := [(0, .ref a0), (1, .ref a1), (2, .int a2), (3, .ref a3)]) (st' := []) (M1 := (wr_L (wr_L (wr_I u6.2 a0 10 u6.1) a0 7 (((rd_L (wr_I u6.2 a0 10 u6.1) a3 0) * (rd_L (wr_I u6.2 a0 10 u6.1) a3 0)) + ((rd_L (wr_I u6.2 a0 10 u6.1) a3 1) * (rd_L (wr_I u6.2 a0 10 u6.1) a3 1)))) a0 8 (rd_L (wr_L (wr_I u6.2 a0 10 u6.1) a0 7 (((rd_L (wr_I u6.2 a0 10 u6.1) a3 0) * (rd_L (wr_I u6.2 a0 10 u6.1) a3 0)) + ((rd_L (wr_I u6.2 a0 10 u6.1) a3 1) * (rd_L (wr_I u6.2 a0 10 u6.1) a3 1)))) a0 7))) (ob := [sw_ok u6.2 a0 4, sw_ok (wr_I u6.2 a0 10 u6.1) a3 8, sw_ok (wr_I u6.2 a0 10 u6.1) a3 8, sw_ok (wr_I u6.2 a0 10 u6.1) a3 8, sw_ok (wr_I u6.2 a0 10 u6.1) a3 8, sw_ok (wr_I u6.2 a0 10 u6.1) a0 4, sw_ok (wr_L (wr_I u6.2 a0 10 u6.1) a0 7 (((rd_L (wr_I u6.2 a0 10 u6.1) a3 0) * (rd_L (wr_I u6.2 a0 10 u6.1) a3 0)) + ((rd_L (wr_I u6.2 a0 10 u6.1) a3 1) * (rd_L (wr_I u6.2 a0 10 u6.1) a3 1)))) a0 4, sw_ok (wr_L (wr_I u6.2 a0 10 u6.1) a0 7 (((rd_L (wr_I u6.2 a0 10 u6.1) a3 0) * (rd_L (wr_I u6.2 a0 10 u6.1) a3 0)) + ((rd_L (wr_I u6.2 a0 10 u6.1) a3 1) * (rd_L (wr_I u6.2 a0 10 u6.1) a3 1)))) a0 4]) (pc' := 88) (by decide +kernel) rfl rfl (sw_a1 h7 (sw_a1 h8 (sw_a1 h8 (sw_a1 h8 (sw_a1 h8 (sw_a1 h7 (sw_a1 h7 (sw_a1 h7 sw_a0)))))))) ?_
  exact sf_weak [0, 1, 2, 3] rfl (t_Orbit_run_88 hd hf)
theorem o_Orbit_run (g : sw_G) {d : Nat} (hd : 5 ≤ d) {N : Nat} {a0 : Nat} {a1 : Nat} {a2 : Int32} {a3 : Nat} {M : sw_M} {r : sw_M} (hf : f_Orbit_run N a0 a1 a2 a3 M = some r) : sw_Ok g k_Orbit_run d [.ref a0, .ref a1, .int a2, .ref a3] M none r := sf_met (by decide +kernel) rfl (by decide) (Nat.le_of_ble_eq_true rfl) (t_Orbit_run hd hf)
def f_Swarm_cellOf (N : Nat) (a0 : Nat) (a1 : Int64) (a3 : Int64) (M : sw_M) : Option (Int32 × sw_M) :=
  sw_gd [sw_ok M a0 10] (if (rd_I M a0 6) < (1 : Int32) then some ((-1 : Int32), M)
  else if a1 < (-(rd_I M a0 6)).toInt64 then some ((-1 : Int32), M)
  else if (rd_I M a0 6).toInt64 ≤ a1 then some ((-1 : Int32), M)
  else if a3 < (-(rd_I M a0 6)).toInt64 then some ((-1 : Int32), M)
  else if a3 < (rd_I M a0 6).toInt64 then sw_gd [decide (¬ ((2 : Int32) * (rd_I M a0 6)).toInt64 = 0)] (some ((((((a3 + (rd_I M a0 6).toInt64) * (rd_I M a0 5).toInt64) / ((2 : Int32) * (rd_I M a0 6)).toInt64) * (rd_I M a0 5).toInt64) + (((a1 + (rd_I M a0 6).toInt64) * (rd_I M a0 5).toInt64) / ((2 : Int32) * (rd_I M a0 6)).toInt64)).toInt32, M))
  else some ((-1 : Int32), M))
set_option maxRecDepth 10000 in
theorem t_Swarm_cellOf {g : sw_G} {d n0 : Nat} (hd : 1 ≤ d) {r : Int32 × sw_M} {N : Nat} {a0 : Nat} {a1 : Int64} {a3 : Int64} {M : sw_M} (hf : f_Swarm_cellOf N a0 a1 a3 M = some r) : sw_F g k_Swarm_cellOf d n0 (some (.int r.1)) r.2 0 [(0, .ref a0), (1, .long a1), (3, .long a3)] [] M := by
  unfold f_Swarm_cellOf at hf
  obtain ⟨h1, hf⟩ := sw_gd_1 hf
  refine sf_blk [(.aload_n 0, 0, 0, .null), (.getfield 34, 10, 6, .null), (.iconst (1), 0, 0, .int (1 : Int32))] (lv' := [(0, .ref a0), (1, .long a1), (3, .long a3)]) (st' := [.int (1 : Int32), .int (rd_I M a0 6)]) (M1 := M) (ob := [sw_ok M a0 10]) (pc' := 5) (by decide +kernel) rfl rfl (sw_a1 h1 sw_a0) ?_
  refine sf_j_lt (off := 45) (tgt := 50) (by decide +kernel) (by decide) hf (fun hc hf => ?_) (fun hc hf => ?_)
  · refine sf_blk [(.iconst (-1), 0, 0, .int (-1 : Int32))] (lv' := [(0, .ref a0), (1, .long a1), (3, .long a3)]) (st' := [.int (-1 : Int32)]) (M1 := M) (ob := []) (pc' := 51) (by decide +kernel) rfl rfl sw_a0 ?_
    cases hf
    exact sf_int rfl (by decide +kernel)
  · refine sf_blk [(.lload_n 1, 0, 0, .null), (.aload_n 0, 0, 0, .null), (.getfield 34, 10, 6, .null), (.ineg, 0, 0, .null), (.i2l, 0, 0, .null), (.lcmp, 0, 0, .null)] (lv' := [(0, .ref a0), (1, .long a1), (3, .long a3)]) (st' := [.int (lg_cmp a1 (-(rd_I M a0 6)).toInt64)]) (M1 := M) (ob := [sw_ok M a0 10]) (pc' := 16) (by decide +kernel) rfl rfl (sw_a1 h1 sw_a0) ?_
    refine sf_l_lt (off := 34) (tgt := 50) (by decide +kernel) (by decide) hf (fun hc hf => ?_) (fun hc hf => ?_)
    · refine sf_blk [(.iconst (-1), 0, 0, .int (-1 : Int32))] (lv' := [(0, .ref a0), (1, .long a1), (3, .long a3)]) (st' := [.int (-1 : Int32)]) (M1 := M) (ob := []) (pc' := 51) (by decide +kernel) rfl rfl sw_a0 ?_
      cases hf
      exact sf_int rfl (by decide +kernel)
    · refine sf_blk [(.lload_n 1, 0, 0, .null), (.aload_n 0, 0, 0, .null), (.getfield 34, 10, 6, .null), (.i2l, 0, 0, .null), (.lcmp, 0, 0, .null)] (lv' := [(0, .ref a0), (1, .long a1), (3, .long a3)]) (st' := [.int (lg_cmp a1 (rd_I M a0 6).toInt64)]) (M1 := M) (ob := [sw_ok M a0 10]) (pc' := 26) (by decide +kernel) rfl rfl (sw_a1 h1 sw_a0) ?_
      refine sf_l_ge (off := 24) (tgt := 50) (by decide +kernel) (by decide) hf (fun hc hf => ?_) (fun hc hf => ?_)
      · refine sf_blk [(.iconst (-1), 0, 0, .int (-1 : Int32))] (lv' := [(0, .ref a0), (1, .long a1), (3, .long a3)]) (st' := [.int (-1 : Int32)]) (M1 := M) (ob := []) (pc' := 51) (by decide +kernel) rfl rfl sw_a0 ?_
        cases hf
        exact sf_int rfl (by decide +kernel)
      · refine sf_blk [(.lload_n 3, 0, 0, .null), (.aload_n 0, 0, 0, .null), (.getfield 34, 10, 6, .null), (.ineg, 0, 0, .null), (.i2l, 0, 0, .null), (.lcmp, 0, 0, .null)] (lv' := [(0, .ref a0), (1, .long a1), (3, .long a3)]) (st' := [.int (lg_cmp a3 (-(rd_I M a0 6)).toInt64)]) (M1 := M) (ob := [sw_ok M a0 10]) (pc' := 37) (by decide +kernel) rfl rfl (sw_a1 h1 sw_a0) ?_
        refine sf_l_lt (off := 13) (tgt := 50) (by decide +kernel) (by decide) hf (fun hc hf => ?_) (fun hc hf => ?_)
        · refine sf_blk [(.iconst (-1), 0, 0, .int (-1 : Int32))] (lv' := [(0, .ref a0), (1, .long a1), (3, .long a3)]) (st' := [.int (-1 : Int32)]) (M1 := M) (ob := []) (pc' := 51) (by decide +kernel) rfl rfl sw_a0 ?_
          cases hf
          exact sf_int rfl (by decide +kernel)
        · refine sf_blk [(.lload_n 3, 0, 0, .null), (.aload_n 0, 0, 0, .null), (.getfield 34, 10, 6, .null), (.i2l, 0, 0, .null), (.lcmp, 0, 0, .null)] (lv' := [(0, .ref a0), (1, .long a1), (3, .long a3)]) (st' := [.int (lg_cmp a3 (rd_I M a0 6).toInt64)]) (M1 := M) (ob := [sw_ok M a0 10]) (pc' := 47) (by decide +kernel) rfl rfl (sw_a1 h1 sw_a0) ?_
          refine sf_l_lt (off := 5) (tgt := 52) (by decide +kernel) (by decide) hf (fun hc hf => ?_) (fun hc hf => ?_)
          · obtain ⟨h2, hf⟩ := sw_gd_1 hf
            refine sf_blk [(.lload_n 3, 0, 0, .null), (.aload_n 0, 0, 0, .null), (.getfield 34, 10, 6, .null), (.i2l, 0, 0, .null), (.ladd, 0, 0, .null), (.aload_n 0, 0, 0, .null), (.getfield 31, 10, 5, .null), (.i2l, 0, 0, .null), (.lmul, 0, 0, .null), (.iconst (2), 0, 0, .int (2 : Int32)), (.aload_n 0, 0, 0, .null), (.getfield 34, 10, 6, .null), (.imul, 0, 0, .null), (.i2l, 0, 0, .null), (.ldiv, 0, 0, .null), (.aload_n 0, 0, 0, .null), (.getfield 31, 10, 5, .null), (.i2l, 0, 0, .null), (.lmul, 0, 0, .null), (.lload_n 1, 0, 0, .null), (.aload_n 0, 0, 0, .null), (.getfield 34, 10, 6, .null), (.i2l, 0, 0, .null), (.ladd, 0, 0, .null), (.aload_n 0, 0, 0, .null), (.getfield 31, 10, 5, .null), (.i2l, 0, 0, .null), (.lmul, 0, 0, .null), (.iconst (2), 0, 0, .int (2 : Int32)), (.aload_n 0, 0, 0, .null), (.getfield 34, 10, 6, .null), (.imul, 0, 0, .null), (.i2l, 0, 0, .null), (.ldiv, 0, 0, .null), (.ladd, 0, 0, .null), (.l2i, 0, 0, .null)] (lv' := [(0, .ref a0), (1, .long a1), (3, .long a3)]) (st' := [.int (((((a3 + (rd_I M a0 6).toInt64) * (rd_I M a0 5).toInt64) / ((2 : Int32) * (rd_I M a0 6)).toInt64) * (rd_I M a0 5).toInt64) + (((a1 + (rd_I M a0 6).toInt64) * (rd_I M a0 5).toInt64) / ((2 : Int32) * (rd_I M a0 6)).toInt64)).toInt32]) (M1 := M) (ob := [sw_ok M a0 10, sw_ok M a0 10, sw_ok M a0 10, decide (¬ ((2 : Int32) * (rd_I M a0 6)).toInt64 = 0), sw_ok M a0 10, sw_ok M a0 10, sw_ok M a0 10, sw_ok M a0 10, decide (¬ ((2 : Int32) * (rd_I M a0 6)).toInt64 = 0)]) (pc' := 102) (by decide +kernel) rfl rfl (sw_a1 h1 (sw_a1 h1 (sw_a1 h1 (sw_a1 h2 (sw_a1 h1 (sw_a1 h1 (sw_a1 h1 (sw_a1 h1 (sw_a1 h2 sw_a0))))))))) ?_
            cases hf
            exact sf_int rfl (by decide +kernel)
          · refine sf_blk [(.iconst (-1), 0, 0, .int (-1 : Int32))] (lv' := [(0, .ref a0), (1, .long a1), (3, .long a3)]) (st' := [.int (-1 : Int32)]) (M1 := M) (ob := []) (pc' := 51) (by decide +kernel) rfl rfl sw_a0 ?_
            cases hf
            exact sf_int rfl (by decide +kernel)
theorem o_Swarm_cellOf (g : sw_G) {d : Nat} (hd : 1 ≤ d) {N : Nat} {a0 : Nat} {a1 : Int64} {a3 : Int64} {M : sw_M} {r : Int32 × sw_M} (hf : f_Swarm_cellOf N a0 a1 a3 M = some r) : sw_Ok g k_Swarm_cellOf d [.ref a0, .long a1, .long a3] M (some (.int r.1)) r.2 := sf_met (by decide +kernel) rfl (by decide) (Nat.le_of_ble_eq_true rfl) (t_Swarm_cellOf hd hf)
def f_Orbit_settle_93 (N : Nat) (k18 : Nat → Nat → Int32 → sw_M → Option (sw_M)) (a0 : Nat) (a1 : Nat) (a2 : Int32) (M : sw_M) : Option (sw_M) :=
  k18 a0 a1 (a2 + (1 : Int32)) M
set_option maxRecDepth 10000 in
theorem t_Orbit_settle_93 {g : sw_G} {d n0 : Nat} (hd : 2 ≤ d) {r : sw_M} (k18 : Nat → Nat → Int32 → sw_M → Option (sw_M)) (hk18 : ∀ (a0 : Nat) (a1 : Nat) (a2 : Int32) (M : sw_M), k18 a0 a1 a2 M = some r → sw_F g k_Orbit_settle d n0 none r 18 [(0, .ref a0), (1, .ref a1), (2, .int a2)] [] M) {N : Nat} {a0 : Nat} {a1 : Nat} {a2 : Int32} {M : sw_M} (hf : f_Orbit_settle_93 N k18 a0 a1 a2 M = some r) : sw_F g k_Orbit_settle d n0 none r 93 [(0, .ref a0), (1, .ref a1), (2, .int a2)] [] M := by
  unfold f_Orbit_settle_93 at hf
  refine sf_blk [(.iinc 2 (1), 0, 0, .int (1 : Int32))] (lv' := [(2, .int (a2 + (1 : Int32))), (0, .ref a0), (1, .ref a1)]) (st' := []) (M1 := M) (ob := []) (pc' := 96) (by decide +kernel) rfl rfl sw_a0 ?_
  refine sf_goto (off := -78) (tgt := 18) (by decide +kernel) (by decide) ?_
  exact sf_weak [1, 2, 0] rfl (hk18 _ _ _ _ hf)
def f_Orbit_settle_18 (N : Nat) : Nat → Nat → Nat → Int32 → sw_M → Option (sw_M)
  | 0, _, _, _, _ => none
  | j + 1, a0, a1, a2, M =>
  sw_gd [sw_ok M a0 4] (if (rd_I M a0 5) < a2 then some M
  else if (240 : Int32) < a2 then some M
  else sw_gd [sw_ar M (rd_R M a0 4) 17 (0 : Int32) || (sw_ar M (rd_R M a0 4) 18 (0 : Int32) || sw_ar M (rd_R M a0 4) 19 (0 : Int32))] (sw_gd [sw_ar M (rd_R M (rd_R M a0 4) (0 : Int32).toNatClampNeg) 13 a2] (sw_gd [sw_ar M (rd_R M a0 4) 17 (1 : Int32) || (sw_ar M (rd_R M a0 4) 18 (1 : Int32) || sw_ar M (rd_R M a0 4) 19 (1 : Int32))] (sw_gd [sw_ar M (rd_R M (rd_R M a0 4) (1 : Int32).toNatClampNeg) 13 a2] (sw_gd [sw_ok M a1 10] ((f_Swarm_cellOf N a1 (rd_I M (rd_R M (rd_R M a0 4) (0 : Int32).toNatClampNeg) a2.toNatClampNeg).toInt64 (rd_I M (rd_R M (rd_R M a0 4) (1 : Int32).toNatClampNeg) a2.toNatClampNeg).toInt64 M).bind (fun u7 => if u7.1 < 0 then f_Orbit_settle_93 N (f_Orbit_settle_18 N j) a0 a1 a2 u7.2
  else if (64 : Int32) ≤ u7.1 then f_Orbit_settle_93 N (f_Orbit_settle_18 N j) a0 a1 a2 u7.2
  else sw_gd [sw_ok u7.2 a0 4] (sw_gd [sw_ar u7.2 (rd_R u7.2 a0 15) 13 u7.1] (sw_gd [sw_ar (wr_I u7.2 (rd_R u7.2 a0 15) u7.1.toNatClampNeg ((rd_I u7.2 (rd_R u7.2 a0 15) u7.1.toNatClampNeg) + (1 : Int32))) (rd_R (wr_I u7.2 (rd_R u7.2 a0 15) u7.1.toNatClampNeg ((rd_I u7.2 (rd_R u7.2 a0 15) u7.1.toNatClampNeg) + (1 : Int32))) a0 16) 13 u7.1] (sw_gd [sw_ar (wr_I u7.2 (rd_R u7.2 a0 15) u7.1.toNatClampNeg ((rd_I u7.2 (rd_R u7.2 a0 15) u7.1.toNatClampNeg) + (1 : Int32))) (rd_R (wr_I u7.2 (rd_R u7.2 a0 15) u7.1.toNatClampNeg ((rd_I u7.2 (rd_R u7.2 a0 15) u7.1.toNatClampNeg) + (1 : Int32))) a0 4) 17 (2 : Int32) || (sw_ar (wr_I u7.2 (rd_R u7.2 a0 15) u7.1.toNatClampNeg ((rd_I u7.2 (rd_R u7.2 a0 15) u7.1.toNatClampNeg) + (1 : Int32))) (rd_R (wr_I u7.2 (rd_R u7.2 a0 15) u7.1.toNatClampNeg ((rd_I u7.2 (rd_R u7.2 a0 15) u7.1.toNatClampNeg) + (1 : Int32))) a0 4) 18 (2 : Int32) || sw_ar (wr_I u7.2 (rd_R u7.2 a0 15) u7.1.toNatClampNeg ((rd_I u7.2 (rd_R u7.2 a0 15) u7.1.toNatClampNeg) + (1 : Int32))) (rd_R (wr_I u7.2 (rd_R u7.2 a0 15) u7.1.toNatClampNeg ((rd_I u7.2 (rd_R u7.2 a0 15) u7.1.toNatClampNeg) + (1 : Int32))) a0 4) 19 (2 : Int32))] (sw_gd [sw_ar (wr_I u7.2 (rd_R u7.2 a0 15) u7.1.toNatClampNeg ((rd_I u7.2 (rd_R u7.2 a0 15) u7.1.toNatClampNeg) + (1 : Int32))) (rd_R (wr_I u7.2 (rd_R u7.2 a0 15) u7.1.toNatClampNeg ((rd_I u7.2 (rd_R u7.2 a0 15) u7.1.toNatClampNeg) + (1 : Int32))) (rd_R (wr_I u7.2 (rd_R u7.2 a0 15) u7.1.toNatClampNeg ((rd_I u7.2 (rd_R u7.2 a0 15) u7.1.toNatClampNeg) + (1 : Int32))) a0 4) (2 : Int32).toNatClampNeg) 13 a2] (f_Orbit_settle_93 N (f_Orbit_settle_18 N j) a0 a1 a2 (wr_I (wr_I u7.2 (rd_R u7.2 a0 15) u7.1.toNatClampNeg ((rd_I u7.2 (rd_R u7.2 a0 15) u7.1.toNatClampNeg) + (1 : Int32))) (rd_R (wr_I u7.2 (rd_R u7.2 a0 15) u7.1.toNatClampNeg ((rd_I u7.2 (rd_R u7.2 a0 15) u7.1.toNatClampNeg) + (1 : Int32))) a0 16) u7.1.toNatClampNeg ((rd_I (wr_I u7.2 (rd_R u7.2 a0 15) u7.1.toNatClampNeg ((rd_I u7.2 (rd_R u7.2 a0 15) u7.1.toNatClampNeg) + (1 : Int32))) (rd_R (wr_I u7.2 (rd_R u7.2 a0 15) u7.1.toNatClampNeg ((rd_I u7.2 (rd_R u7.2 a0 15) u7.1.toNatClampNeg) + (1 : Int32))) a0 16) u7.1.toNatClampNeg) + (rd_I (wr_I u7.2 (rd_R u7.2 a0 15) u7.1.toNatClampNeg ((rd_I u7.2 (rd_R u7.2 a0 15) u7.1.toNatClampNeg) + (1 : Int32))) (rd_R (wr_I u7.2 (rd_R u7.2 a0 15) u7.1.toNatClampNeg ((rd_I u7.2 (rd_R u7.2 a0 15) u7.1.toNatClampNeg) + (1 : Int32))) (rd_R (wr_I u7.2 (rd_R u7.2 a0 15) u7.1.toNatClampNeg ((rd_I u7.2 (rd_R u7.2 a0 15) u7.1.toNatClampNeg) + (1 : Int32))) a0 4) (2 : Int32).toNatClampNeg) a2.toNatClampNeg)))))))))))))))
set_option maxRecDepth 10000 in
theorem t_Orbit_settle_18 {g : sw_G} {d n0 : Nat} (hd : 2 ≤ d) {r : sw_M} {N : Nat} : ∀ (j : Nat) (a0 : Nat) (a1 : Nat) (a2 : Int32) (M : sw_M), f_Orbit_settle_18 N j a0 a1 a2 M = some r → sw_F g k_Orbit_settle d n0 none r 18 [(0, .ref a0), (1, .ref a1), (2, .int a2)] [] M := by
  intro j
  induction j with
  | zero =>
    intro a0 a1 a2 M hf
    rw [f_Orbit_settle_18] at hf
    cases hf
  | succ j ih =>
    intro a0 a1 a2 M hf
    rw [f_Orbit_settle_18] at hf
    obtain ⟨h1, hf⟩ := sw_gd_1 hf
    refine sf_blk [(.iload_n 2, 0, 0, .null), (.aload_n 0, 0, 0, .null), (.getfield 45, 4, 5, .null)] (lv' := [(0, .ref a0), (1, .ref a1), (2, .int a2)]) (st' := [.int (rd_I M a0 5), .int a2]) (M1 := M) (ob := [sw_ok M a0 4]) (pc' := 23) (by decide +kernel) rfl rfl (sw_a1 h1 sw_a0) ?_
    refine sf_j_gt (off := 76) (tgt := 99) (by decide +kernel) (by decide) hf (fun hc hf => ?_) (fun hc hf => ?_)
    · cases hf
      exact sf_void rfl (by decide +kernel)
    · refine sf_blk [(.iload_n 2, 0, 0, .null), (.sipush (240), 0, 0, .int (240 : Int32))] (lv' := [(0, .ref a0), (1, .ref a1), (2, .int a2)]) (st' := [.int (240 : Int32), .int a2]) (M1 := M) (ob := []) (pc' := 30) (by decide +kernel) rfl rfl sw_a0 ?_
      refine sf_j_gt (off := 69) (tgt := 99) (by decide +kernel) (by decide) hf (fun hc hf => ?_) (fun hc hf => ?_)
      · cases hf
        exact sf_void rfl (by decide +kernel)
      · obtain ⟨h2, hf⟩ := sw_gd_1 hf
        obtain ⟨h3, hf⟩ := sw_gd_1 hf
        obtain ⟨h4, hf⟩ := sw_gd_1 hf
        obtain ⟨h5, hf⟩ := sw_gd_1 hf
        obtain ⟨h6, hf⟩ := sw_gd_1 hf
        refine sf_blk [(.aload_n 1, 0, 0, .null), (.aload_n 0, 0, 0, .null), (.getfield 11, 4, 4, .null), (.iconst (0), 0, 0, .int (0 : Int32)), (.aaload, 0, 0, .null), (.iload_n 2, 0, 0, .null), (.iaload, 0, 0, .null), (.i2l, 0, 0, .null), (.aload_n 0, 0, 0, .null), (.getfield 11, 4, 4, .null), (.iconst (1), 0, 0, .int (1 : Int32)), (.aaload, 0, 0, .null), (.iload_n 2, 0, 0, .null), (.iaload, 0, 0, .null), (.i2l, 0, 0, .null)] (lv' := [(0, .ref a0), (1, .ref a1), (2, .int a2)]) (st' := [.long (rd_I M (rd_R M (rd_R M a0 4) (1 : Int32).toNatClampNeg) a2.toNatClampNeg).toInt64, .long (rd_I M (rd_R M (rd_R M a0 4) (0 : Int32).toNatClampNeg) a2.toNatClampNeg).toInt64, .ref a1]) (M1 := M) (ob := [sw_ok M a0 4, sw_ar M (rd_R M a0 4) 17 (0 : Int32) || (sw_ar M (rd_R M a0 4) 18 (0 : Int32) || sw_ar M (rd_R M a0 4) 19 (0 : Int32)), sw_ar M (rd_R M (rd_R M a0 4) (0 : Int32).toNatClampNeg) 13 a2, sw_ok M a0 4, sw_ar M (rd_R M a0 4) 17 (1 : Int32) || (sw_ar M (rd_R M a0 4) 18 (1 : Int32) || sw_ar M (rd_R M a0 4) 19 (1 : Int32)), sw_ar M (rd_R M (rd_R M a0 4) (1 : Int32).toNatClampNeg) 13 a2]) (pc' := 52) (by decide +kernel) rfl rfl (sw_a1 h1 (sw_a1 h2 (sw_a1 h3 (sw_a1 h1 (sw_a1 h4 (sw_a1 h5 sw_a0)))))) ?_
        obtain ⟨u7, hu7, hf⟩ := sw_bnd hf
        refine sf_callV (i := 117) (k2 := k_Swarm_cellOf) (d2 := d - 1) (As := [.long (rd_I M (rd_R M (rd_R M a0 4) (0 : Int32).toNatClampNeg) a2.toNatClampNeg).toInt64, .long (rd_I M (rd_R M (rd_R M a0 4) (1 : Int32).toNatClampNeg) a2.toNatClampNeg).toInt64]) (st := []) (q := a1) (ci := 10) mf_Swarm_cellOf mi_Swarm_cellOf ms_Swarm_cellOf (sw_m4 167 (by decide +kernel)) rfl (by decide) (by decide +kernel) rfl (Nat.le_of_ble_eq_true rfl) (by omega) h6 (o_Swarm_cellOf g (d := d - 1) (by omega) hu7) ?_
        show sw_F _ _ _ _ _ _ 55 [(0, .ref a0), (1, .ref a1), (2, .int a2)] [.int u7.1] u7.2
        refine sf_blk [(.istore_n 3, 0, 0, .null), (.iload_n 3, 0, 0, .null)] (lv' := [(3, .int u7.1), (0, .ref a0), (1, .ref a1), (2, .int a2)]) (st' := [.int u7.1]) (M1 := u7.2) (ob := []) (pc' := 57) (by decide +kernel) rfl rfl sw_a0 ?_
        refine sf_z_lt (off := 36) (tgt := 93) (by decide +kernel) (by decide) hf (fun hc hf => ?_) (fun hc hf => ?_)
        · exact sf_weak [1, 2, 3] rfl (t_Orbit_settle_93 hd _ ih hf)
        · refine sf_blk [(.iload_n 3, 0, 0, .null), (.bipush (64), 0, 0, .int (64 : Int32))] (lv' := [(3, .int u7.1), (0, .ref a0), (1, .ref a1), (2, .int a2)]) (st' := [.int (64 : Int32), .int u7.1]) (M1 := u7.2) (ob := []) (pc' := 63) (by decide +kernel) rfl rfl sw_a0 ?_
          refine sf_j_ge (off := 30) (tgt := 93) (by decide +kernel) (by decide) hf (fun hc hf => ?_) (fun hc hf => ?_)
          · exact sf_weak [1, 2, 3] rfl (t_Orbit_settle_93 hd _ ih hf)
          · obtain ⟨h8, hf⟩ := sw_gd_1 hf
            obtain ⟨h9, hf⟩ := sw_gd_1 hf
            obtain ⟨h10, hf⟩ := sw_gd_1 hf
            obtain ⟨h11, hf⟩ := sw_gd_1 hf
            obtain ⟨h12, hf⟩ := sw_gd_1 hf
            refine sf_blk [(.aload_n 0, 0, 0, .null), (.getfield 20, 4, 15, .null), (.iload_n 3, 0, 0, .null), (.dup2, 0, 0, .null), (.iaload, 0, 0, .null), (.iconst (1), 0, 0, .int (1 : Int32)), (.iadd, 0, 0, .null), (.iastore, 0, 0, .null), (.aload_n 0, 0, 0, .null), (.getfield 23, 4, 16, .null), (.iload_n 3, 0, 0, .null), (.dup2, 0, 0, .null), (.iaload, 0, 0, .null), (.aload_n 0, 0, 0, .null), (.getfield 11, 4, 4, .null), (.iconst (2), 0, 0, .int (2 : Int32)), (.aaload, 0, 0, .null), (.iload_n 2, 0, 0, .null), (.iaload, 0, 0, .null), (.iadd, 0, 0, .null), (.iastore, 0, 0, .null)] (lv' := [(3, .int u7.1), (0, .ref a0), (1, .ref a1), (2, .int a2)]) (st' := []) (M1 := (wr_I (wr_I u7.2 (rd_R u7.2 a0 15) u7.1.toNatClampNeg ((rd_I u7.2 (rd_R u7.2 a0 15) u7.1.toNatClampNeg) + (1 : Int32))) (rd_R (wr_I u7.2 (rd_R u7.2 a0 15) u7.1.toNatClampNeg ((rd_I u7.2 (rd_R u7.2 a0 15) u7.1.toNatClampNeg) + (1 : Int32))) a0 16) u7.1.toNatClampNeg ((rd_I (wr_I u7.2 (rd_R u7.2 a0 15) u7.1.toNatClampNeg ((rd_I u7.2 (rd_R u7.2 a0 15) u7.1.toNatClampNeg) + (1 : Int32))) (rd_R (wr_I u7.2 (rd_R u7.2 a0 15) u7.1.toNatClampNeg ((rd_I u7.2 (rd_R u7.2 a0 15) u7.1.toNatClampNeg) + (1 : Int32))) a0 16) u7.1.toNatClampNeg) + (rd_I (wr_I u7.2 (rd_R u7.2 a0 15) u7.1.toNatClampNeg ((rd_I u7.2 (rd_R u7.2 a0 15) u7.1.toNatClampNeg) + (1 : Int32))) (rd_R (wr_I u7.2 (rd_R u7.2 a0 15) u7.1.toNatClampNeg ((rd_I u7.2 (rd_R u7.2 a0 15) u7.1.toNatClampNeg) + (1 : Int32))) (rd_R (wr_I u7.2 (rd_R u7.2 a0 15) u7.1.toNatClampNeg ((rd_I u7.2 (rd_R u7.2 a0 15) u7.1.toNatClampNeg) + (1 : Int32))) a0 4) (2 : Int32).toNatClampNeg) a2.toNatClampNeg)))) (ob := [sw_ok u7.2 a0 4, sw_ar u7.2 (rd_R u7.2 a0 15) 13 u7.1, sw_ar u7.2 (rd_R u7.2 a0 15) 13 u7.1, sw_ok (wr_I u7.2 (rd_R u7.2 a0 15) u7.1.toNatClampNeg ((rd_I u7.2 (rd_R u7.2 a0 15) u7.1.toNatClampNeg) + (1 : Int32))) a0 4, sw_ar (wr_I u7.2 (rd_R u7.2 a0 15) u7.1.toNatClampNeg ((rd_I u7.2 (rd_R u7.2 a0 15) u7.1.toNatClampNeg) + (1 : Int32))) (rd_R (wr_I u7.2 (rd_R u7.2 a0 15) u7.1.toNatClampNeg ((rd_I u7.2 (rd_R u7.2 a0 15) u7.1.toNatClampNeg) + (1 : Int32))) a0 16) 13 u7.1, sw_ok (wr_I u7.2 (rd_R u7.2 a0 15) u7.1.toNatClampNeg ((rd_I u7.2 (rd_R u7.2 a0 15) u7.1.toNatClampNeg) + (1 : Int32))) a0 4, sw_ar (wr_I u7.2 (rd_R u7.2 a0 15) u7.1.toNatClampNeg ((rd_I u7.2 (rd_R u7.2 a0 15) u7.1.toNatClampNeg) + (1 : Int32))) (rd_R (wr_I u7.2 (rd_R u7.2 a0 15) u7.1.toNatClampNeg ((rd_I u7.2 (rd_R u7.2 a0 15) u7.1.toNatClampNeg) + (1 : Int32))) a0 4) 17 (2 : Int32) || (sw_ar (wr_I u7.2 (rd_R u7.2 a0 15) u7.1.toNatClampNeg ((rd_I u7.2 (rd_R u7.2 a0 15) u7.1.toNatClampNeg) + (1 : Int32))) (rd_R (wr_I u7.2 (rd_R u7.2 a0 15) u7.1.toNatClampNeg ((rd_I u7.2 (rd_R u7.2 a0 15) u7.1.toNatClampNeg) + (1 : Int32))) a0 4) 18 (2 : Int32) || sw_ar (wr_I u7.2 (rd_R u7.2 a0 15) u7.1.toNatClampNeg ((rd_I u7.2 (rd_R u7.2 a0 15) u7.1.toNatClampNeg) + (1 : Int32))) (rd_R (wr_I u7.2 (rd_R u7.2 a0 15) u7.1.toNatClampNeg ((rd_I u7.2 (rd_R u7.2 a0 15) u7.1.toNatClampNeg) + (1 : Int32))) a0 4) 19 (2 : Int32)), sw_ar (wr_I u7.2 (rd_R u7.2 a0 15) u7.1.toNatClampNeg ((rd_I u7.2 (rd_R u7.2 a0 15) u7.1.toNatClampNeg) + (1 : Int32))) (rd_R (wr_I u7.2 (rd_R u7.2 a0 15) u7.1.toNatClampNeg ((rd_I u7.2 (rd_R u7.2 a0 15) u7.1.toNatClampNeg) + (1 : Int32))) (rd_R (wr_I u7.2 (rd_R u7.2 a0 15) u7.1.toNatClampNeg ((rd_I u7.2 (rd_R u7.2 a0 15) u7.1.toNatClampNeg) + (1 : Int32))) a0 4) (2 : Int32).toNatClampNeg) 13 a2, sw_ar (wr_I u7.2 (rd_R u7.2 a0 15) u7.1.toNatClampNeg ((rd_I u7.2 (rd_R u7.2 a0 15) u7.1.toNatClampNeg) + (1 : Int32))) (rd_R (wr_I u7.2 (rd_R u7.2 a0 15) u7.1.toNatClampNeg ((rd_I u7.2 (rd_R u7.2 a0 15) u7.1.toNatClampNeg) + (1 : Int32))) a0 16) 13 u7.1]) (pc' := 93) (by decide +kernel) rfl rfl (sw_a1 h8 (sw_a1 h9 (sw_a1 h9 (sw_a1 h8 (sw_a1 h10 (sw_a1 h8 (sw_a1 h11 (sw_a1 h12 (sw_a1 h10 sw_a0))))))))) ?_
            exact sf_weak [1, 2, 3] rfl (t_Orbit_settle_93 hd _ ih hf)
def f_Orbit_settle (N : Nat) (a0 : Nat) (a1 : Nat) (M : sw_M) : Option (sw_M) :=
  sw_gd [sw_ok M a0 4] ((f_Arr_fill_aII N (rd_R M a0 15) (0 : Int32) M).bind (fun u2 => sw_gd [sw_ok u2 a0 4] ((f_Arr_fill_aII N (rd_R u2 a0 16) (0 : Int32) u2).bind (fun u4 => f_Orbit_settle_18 N N a0 a1 (1 : Int32) u4))))
set_option maxRecDepth 10000 in
theorem t_Orbit_settle {g : sw_G} {d n0 : Nat} (hd : 2 ≤ d) {r : sw_M} {N : Nat} {a0 : Nat} {a1 : Nat} {M : sw_M} (hf : f_Orbit_settle N a0 a1 M = some r) : sw_F g k_Orbit_settle d n0 none r 0 [(0, .ref a0), (1, .ref a1)] [] M := by
  unfold f_Orbit_settle at hf
  obtain ⟨h1, hf⟩ := sw_gd_1 hf
  refine sf_blk [(.aload_n 0, 0, 0, .null), (.getfield 20, 4, 15, .null), (.iconst (0), 0, 0, .int (0 : Int32))] (lv' := [(0, .ref a0), (1, .ref a1)]) (st' := [.int (0 : Int32), .ref (rd_R M a0 15)]) (M1 := M) (ob := [sw_ok M a0 4]) (pc' := 5) (by decide +kernel) rfl rfl (sw_a1 h1 sw_a0) ?_
  obtain ⟨u2, hu2, hf⟩ := sw_bnd hf
  refine sf_callS (i := 111) (k2 := k_Arr_fill_aII) (d2 := d - 1) (As := [.ref (rd_R M a0 15), .int (0 : Int32)]) (st := []) mf_Arr_fill_aII mi_Arr_fill_aII (sw_m4 164 (by decide +kernel)) (by decide +kernel) rfl (Nat.le_of_ble_eq_true rfl) (by omega) (o_Arr_fill_aII g (d := d - 1) (by omega) hu2) ?_
  show sw_F _ _ _ _ _ _ 8 [(0, .ref a0), (1, .ref a1)] [] u2
  obtain ⟨h3, hf⟩ := sw_gd_1 hf
  refine sf_blk [(.aload_n 0, 0, 0, .null), (.getfield 23, 4, 16, .null), (.iconst (0), 0, 0, .int (0 : Int32))] (lv' := [(0, .ref a0), (1, .ref a1)]) (st' := [.int (0 : Int32), .ref (rd_R u2 a0 16)]) (M1 := u2) (ob := [sw_ok u2 a0 4]) (pc' := 13) (by decide +kernel) rfl rfl (sw_a1 h3 sw_a0) ?_
  obtain ⟨u4, hu4, hf⟩ := sw_bnd hf
  refine sf_callS (i := 111) (k2 := k_Arr_fill_aII) (d2 := d - 1) (As := [.ref (rd_R u2 a0 16), .int (0 : Int32)]) (st := []) mf_Arr_fill_aII mi_Arr_fill_aII (sw_m4 164 (by decide +kernel)) (by decide +kernel) rfl (Nat.le_of_ble_eq_true rfl) (by omega) (o_Arr_fill_aII g (d := d - 1) (by omega) hu4) ?_
  show sw_F _ _ _ _ _ _ 16 [(0, .ref a0), (1, .ref a1)] [] u4
  refine sf_blk [(.iconst (1), 0, 0, .int (1 : Int32)), (.istore_n 2, 0, 0, .null)] (lv' := [(2, .int (1 : Int32)), (0, .ref a0), (1, .ref a1)]) (st' := []) (M1 := u4) (ob := []) (pc' := 18) (by decide +kernel) rfl rfl sw_a0 ?_
  exact sf_weak [1, 2, 0] rfl (t_Orbit_settle_18 hd _ _ _ _ _ hf)
theorem o_Orbit_settle (g : sw_G) {d : Nat} (hd : 2 ≤ d) {N : Nat} {a0 : Nat} {a1 : Nat} {M : sw_M} {r : sw_M} (hf : f_Orbit_settle N a0 a1 M = some r) : sw_Ok g k_Orbit_settle d [.ref a0, .ref a1] M none r := sf_met (by decide +kernel) rfl (by decide) (Nat.le_of_ble_eq_true rfl) (t_Orbit_settle hd hf)
def f_Orbit_kind (N : Nat) (a0 : Nat) (M : sw_M) : Option (Int32 × sw_M) :=
  sw_gd [sw_ok M a0 4] (if (rd_I M a0 6) = 0 then if (0 : Int64) < (rd_L M a0 11) then some ((0 : Int32), M)
  else if (0 : Int64) ≤ (rd_L M a0 12) then if (rd_L M a0 11) = (0 : Int64) then if (rd_L M a0 12) = (0 : Int64) then some ((2 : Int32), M)
  else some ((1 : Int32), M)
  else some ((1 : Int32), M)
  else some ((0 : Int32), M)
  else some ((3 : Int32), M))
set_option maxRecDepth 10000 in
theorem t_Orbit_kind {g : sw_G} {d n0 : Nat} (hd : 1 ≤ d) {r : Int32 × sw_M} {N : Nat} {a0 : Nat} {M : sw_M} (hf : f_Orbit_kind N a0 M = some r) : sw_F g k_Orbit_kind d n0 (some (.int r.1)) r.2 0 [(0, .ref a0)] [] M := by
  unfold f_Orbit_kind at hf
  obtain ⟨h1, hf⟩ := sw_gd_1 hf
  refine sf_blk [(.aload_n 0, 0, 0, .null), (.getfield 99, 4, 6, .null)] (lv' := [(0, .ref a0)]) (st' := [.int (rd_I M a0 6)]) (M1 := M) (ob := [sw_ok M a0 4]) (pc' := 4) (by decide +kernel) rfl rfl (sw_a1 h1 sw_a0) ?_
  refine sf_z_eq (off := 5) (tgt := 9) (by decide +kernel) (by decide) hf (fun hc hf => ?_) (fun hc hf => ?_)
  · refine sf_blk [(.aload_n 0, 0, 0, .null), (.getfield 76, 4, 11, .null), (.lconst 0, 0, 0, .long (0 : Int64)), (.lcmp, 0, 0, .null)] (lv' := [(0, .ref a0)]) (st' := [.int (lg_cmp (rd_L M a0 11) (0 : Int64))]) (M1 := M) (ob := [sw_ok M a0 4]) (pc' := 15) (by decide +kernel) rfl rfl (sw_a1 h1 sw_a0) ?_
    refine sf_l_gt (off := 12) (tgt := 27) (by decide +kernel) (by decide) hf (fun hc hf => ?_) (fun hc hf => ?_)
    · refine sf_blk [(.iconst (0), 0, 0, .int (0 : Int32))] (lv' := [(0, .ref a0)]) (st' := [.int (0 : Int32)]) (M1 := M) (ob := []) (pc' := 28) (by decide +kernel) rfl rfl sw_a0 ?_
      cases hf
      exact sf_int rfl (by decide +kernel)
    · refine sf_blk [(.aload_n 0, 0, 0, .null), (.getfield 79, 4, 12, .null), (.lconst 0, 0, 0, .long (0 : Int64)), (.lcmp, 0, 0, .null)] (lv' := [(0, .ref a0)]) (st' := [.int (lg_cmp (rd_L M a0 12) (0 : Int64))]) (M1 := M) (ob := [sw_ok M a0 4]) (pc' := 24) (by decide +kernel) rfl rfl (sw_a1 h1 sw_a0) ?_
      refine sf_l_ge (off := 5) (tgt := 29) (by decide +kernel) (by decide) hf (fun hc hf => ?_) (fun hc hf => ?_)
      · refine sf_blk [(.aload_n 0, 0, 0, .null), (.getfield 76, 4, 11, .null), (.lconst 0, 0, 0, .long (0 : Int64)), (.lcmp, 0, 0, .null)] (lv' := [(0, .ref a0)]) (st' := [.int (lg_cmp (rd_L M a0 11) (0 : Int64))]) (M1 := M) (ob := [sw_ok M a0 4]) (pc' := 35) (by decide +kernel) rfl rfl (sw_a1 h1 sw_a0) ?_
        refine sf_l_ne (off := 16) (tgt := 51) (by decide +kernel) (by decide) hf (fun hc hf => ?_) (fun hc hf => ?_)
        · refine sf_blk [(.iconst (1), 0, 0, .int (1 : Int32))] (lv' := [(0, .ref a0)]) (st' := [.int (1 : Int32)]) (M1 := M) (ob := []) (pc' := 52) (by decide +kernel) rfl rfl sw_a0 ?_
          cases hf
          exact sf_int rfl (by decide +kernel)
        · refine sf_blk [(.aload_n 0, 0, 0, .null), (.getfield 79, 4, 12, .null), (.lconst 0, 0, 0, .long (0 : Int64)), (.lcmp, 0, 0, .null)] (lv' := [(0, .ref a0)]) (st' := [.int (lg_cmp (rd_L M a0 12) (0 : Int64))]) (M1 := M) (ob := [sw_ok M a0 4]) (pc' := 44) (by decide +kernel) rfl rfl (sw_a1 h1 sw_a0) ?_
          refine sf_l_ne (off := 7) (tgt := 51) (by decide +kernel) (by decide) hf (fun hc hf => ?_) (fun hc hf => ?_)
          · refine sf_blk [(.iconst (1), 0, 0, .int (1 : Int32))] (lv' := [(0, .ref a0)]) (st' := [.int (1 : Int32)]) (M1 := M) (ob := []) (pc' := 52) (by decide +kernel) rfl rfl sw_a0 ?_
            cases hf
            exact sf_int rfl (by decide +kernel)
          · refine sf_blk [(.iconst (2), 0, 0, .int (2 : Int32))] (lv' := [(0, .ref a0)]) (st' := [.int (2 : Int32)]) (M1 := M) (ob := []) (pc' := 48) (by decide +kernel) rfl rfl sw_a0 ?_
            refine sf_goto (off := 4) (tgt := 52) (by decide +kernel) (by decide) ?_
            cases hf
            exact sf_int rfl (by decide +kernel)
      · refine sf_blk [(.iconst (0), 0, 0, .int (0 : Int32))] (lv' := [(0, .ref a0)]) (st' := [.int (0 : Int32)]) (M1 := M) (ob := []) (pc' := 28) (by decide +kernel) rfl rfl sw_a0 ?_
        cases hf
        exact sf_int rfl (by decide +kernel)
  · refine sf_blk [(.iconst (3), 0, 0, .int (3 : Int32))] (lv' := [(0, .ref a0)]) (st' := [.int (3 : Int32)]) (M1 := M) (ob := []) (pc' := 8) (by decide +kernel) rfl rfl sw_a0 ?_
    cases hf
    exact sf_int rfl (by decide +kernel)
theorem o_Orbit_kind (g : sw_G) {d : Nat} (hd : 1 ≤ d) {N : Nat} {a0 : Nat} {M : sw_M} {r : Int32 × sw_M} (hf : f_Orbit_kind N a0 M = some r) : sw_Ok g k_Orbit_kind d [.ref a0] M (some (.int r.1)) r.2 := sf_met (by decide +kernel) rfl (by decide) (Nat.le_of_ble_eq_true rfl) (t_Orbit_kind hd hf)
def f_Orbit_named (N : Nat) (a0 : Nat) (a1 : Int32) (M : sw_M) : Option (Int64 × sw_M) :=
  if a1 = (29 : Int32) then sw_gd [sw_ok M a0 4] (some ((rd_L M a0 7), M))
  else if a1 = (30 : Int32) then sw_gd [sw_ok M a0 4] (some ((rd_L M a0 8), M))
  else if a1 = (31 : Int32) then sw_gd [sw_ok M a0 4] (some ((rd_I M a0 9).toInt64, M))
  else if a1 = (32 : Int32) then sw_gd [sw_ok M a0 4] ((f_Orbit_kind N a0 M).bind (fun u9 => some (u9.1.toInt64, u9.2)))
  else if a1 = (33 : Int32) then sw_gd [sw_ok M a0 4] (if (rd_I M a0 6) = 0 then some ((0 : Int64), M)
  else some ((rd_I M a0 5).toInt64, M))
  else if a1 = (34 : Int32) then sw_gd [sw_ok M a0 4] (some ((rd_I M a0 14).toInt64, M))
  else some ((0 : Int64), M)
set_option maxRecDepth 10000 in
theorem t_Orbit_named {g : sw_G} {d n0 : Nat} (hd : 2 ≤ d) {r : Int64 × sw_M} {N : Nat} {a0 : Nat} {a1 : Int32} {M : sw_M} (hf : f_Orbit_named N a0 a1 M = some r) : sw_F g k_Orbit_named d n0 (some (.long r.1)) r.2 0 [(0, .ref a0), (1, .int a1)] [] M := by
  unfold f_Orbit_named at hf
  refine sf_blk [(.iload_n 1, 0, 0, .null)] (lv' := [(0, .ref a0), (1, .int a1)]) (st' := [.int a1]) (M1 := M) (ob := []) (pc' := 1) (by decide +kernel) rfl rfl sw_a0 ?_
  rcases sw_ite hf with ⟨h1, hf⟩ | ⟨h1, hf⟩
  · refine sf_tin (a := a1) (off := 39) (tgt := 40) (len := 39) (show decode (k_c k_Orbit_named) 1 = .ok (.tableswitch (84) (29) (34) #[39, 44, 49, 55, 61, 78], 39) by decide +kernel) (by rw [h1]; decide) (by rw [h1]; decide) (by rw [h1]; decide +kernel) (by decide) ?_
    obtain ⟨h2, hf⟩ := sw_gd_1 hf
    refine sf_blk [(.aload_n 0, 0, 0, .null), (.getfield 66, 4, 7, .null)] (lv' := [(0, .ref a0), (1, .int a1)]) (st' := [.long (rd_L M a0 7)]) (M1 := M) (ob := [sw_ok M a0 4]) (pc' := 44) (by decide +kernel) rfl rfl (sw_a1 h2 sw_a0) ?_
    cases hf
    exact sf_long rfl (by decide +kernel)
  ·
    rcases sw_ite hf with ⟨h3, hf⟩ | ⟨h3, hf⟩
    · refine sf_tin (a := a1) (off := 44) (tgt := 45) (len := 39) (show decode (k_c k_Orbit_named) 1 = .ok (.tableswitch (84) (29) (34) #[39, 44, 49, 55, 61, 78], 39) by decide +kernel) (by rw [h3]; decide) (by rw [h3]; decide) (by rw [h3]; decide +kernel) (by decide) ?_
      obtain ⟨h4, hf⟩ := sw_gd_1 hf
      refine sf_blk [(.aload_n 0, 0, 0, .null), (.getfield 69, 4, 8, .null)] (lv' := [(0, .ref a0), (1, .int a1)]) (st' := [.long (rd_L M a0 8)]) (M1 := M) (ob := [sw_ok M a0 4]) (pc' := 49) (by decide +kernel) rfl rfl (sw_a1 h4 sw_a0) ?_
      cases hf
      exact sf_long rfl (by decide +kernel)
    ·
      rcases sw_ite hf with ⟨h5, hf⟩ | ⟨h5, hf⟩
      · refine sf_tin (a := a1) (off := 49) (tgt := 50) (len := 39) (show decode (k_c k_Orbit_named) 1 = .ok (.tableswitch (84) (29) (34) #[39, 44, 49, 55, 61, 78], 39) by decide +kernel) (by rw [h5]; decide) (by rw [h5]; decide) (by rw [h5]; decide +kernel) (by decide) ?_
        obtain ⟨h6, hf⟩ := sw_gd_1 hf
        refine sf_blk [(.aload_n 0, 0, 0, .null), (.getfield 48, 4, 9, .null), (.i2l, 0, 0, .null)] (lv' := [(0, .ref a0), (1, .int a1)]) (st' := [.long (rd_I M a0 9).toInt64]) (M1 := M) (ob := [sw_ok M a0 4]) (pc' := 55) (by decide +kernel) rfl rfl (sw_a1 h6 sw_a0) ?_
        cases hf
        exact sf_long rfl (by decide +kernel)
      ·
        rcases sw_ite hf with ⟨h7, hf⟩ | ⟨h7, hf⟩
        · refine sf_tin (a := a1) (off := 55) (tgt := 56) (len := 39) (show decode (k_c k_Orbit_named) 1 = .ok (.tableswitch (84) (29) (34) #[39, 44, 49, 55, 61, 78], 39) by decide +kernel) (by rw [h7]; decide) (by rw [h7]; decide) (by rw [h7]; decide +kernel) (by decide) ?_
          obtain ⟨h8, hf⟩ := sw_gd_1 hf
          refine sf_blk [(.aload_n 0, 0, 0, .null)] (lv' := [(0, .ref a0), (1, .int a1)]) (st' := [.ref a0]) (M1 := M) (ob := []) (pc' := 57) (by decide +kernel) rfl rfl sw_a0 ?_
          obtain ⟨u9, hu9, hf⟩ := sw_bnd hf
          refine sf_callV (i := 122) (k2 := k_Orbit_kind) (d2 := d - 1) (As := []) (st := []) (q := a0) (ci := 4) mf_Orbit_kind mi_Orbit_kind ms_Orbit_kind (sw_m4 179 (by decide +kernel)) rfl (by decide) (by decide +kernel) rfl (Nat.le_of_ble_eq_true rfl) (by omega) h8 (o_Orbit_kind g (d := d - 1) (by omega) hu9) ?_
          show sw_F _ _ _ _ _ _ 60 [(0, .ref a0), (1, .int a1)] [.int u9.1] u9.2
          refine sf_blk [(.i2l, 0, 0, .null)] (lv' := [(0, .ref a0), (1, .int a1)]) (st' := [.long u9.1.toInt64]) (M1 := u9.2) (ob := []) (pc' := 61) (by decide +kernel) rfl rfl sw_a0 ?_
          cases hf
          exact sf_long rfl (by decide +kernel)
        ·
          rcases sw_ite hf with ⟨h10, hf⟩ | ⟨h10, hf⟩
          · refine sf_tin (a := a1) (off := 61) (tgt := 62) (len := 39) (show decode (k_c k_Orbit_named) 1 = .ok (.tableswitch (84) (29) (34) #[39, 44, 49, 55, 61, 78], 39) by decide +kernel) (by rw [h10]; decide) (by rw [h10]; decide) (by rw [h10]; decide +kernel) (by decide) ?_
            obtain ⟨h11, hf⟩ := sw_gd_1 hf
            refine sf_blk [(.aload_n 0, 0, 0, .null), (.getfield 99, 4, 6, .null)] (lv' := [(0, .ref a0), (1, .int a1)]) (st' := [.int (rd_I M a0 6)]) (M1 := M) (ob := [sw_ok M a0 4]) (pc' := 66) (by decide +kernel) rfl rfl (sw_a1 h11 sw_a0) ?_
            refine sf_z_eq (off := 11) (tgt := 77) (by decide +kernel) (by decide) hf (fun hc hf => ?_) (fun hc hf => ?_)
            · refine sf_blk [(.lconst 0, 0, 0, .long (0 : Int64))] (lv' := [(0, .ref a0), (1, .int a1)]) (st' := [.long (0 : Int64)]) (M1 := M) (ob := []) (pc' := 78) (by decide +kernel) rfl rfl sw_a0 ?_
              cases hf
              exact sf_long rfl (by decide +kernel)
            · refine sf_blk [(.aload_n 0, 0, 0, .null), (.getfield 45, 4, 5, .null), (.i2l, 0, 0, .null)] (lv' := [(0, .ref a0), (1, .int a1)]) (st' := [.long (rd_I M a0 5).toInt64]) (M1 := M) (ob := [sw_ok M a0 4]) (pc' := 74) (by decide +kernel) rfl rfl (sw_a1 h11 sw_a0) ?_
              refine sf_goto (off := 4) (tgt := 78) (by decide +kernel) (by decide) ?_
              cases hf
              exact sf_long rfl (by decide +kernel)
          ·
            rcases sw_ite hf with ⟨h12, hf⟩ | ⟨h12, hf⟩
            · refine sf_tin (a := a1) (off := 78) (tgt := 79) (len := 39) (show decode (k_c k_Orbit_named) 1 = .ok (.tableswitch (84) (29) (34) #[39, 44, 49, 55, 61, 78], 39) by decide +kernel) (by rw [h12]; decide) (by rw [h12]; decide) (by rw [h12]; decide +kernel) (by decide) ?_
              obtain ⟨h13, hf⟩ := sw_gd_1 hf
              refine sf_blk [(.aload_n 0, 0, 0, .null), (.getfield 51, 4, 14, .null), (.i2l, 0, 0, .null)] (lv' := [(0, .ref a0), (1, .int a1)]) (st' := [.long (rd_I M a0 14).toInt64]) (M1 := M) (ob := [sw_ok M a0 4]) (pc' := 84) (by decide +kernel) rfl rfl (sw_a1 h13 sw_a0) ?_
              cases hf
              exact sf_long rfl (by decide +kernel)
            ·
              have qh1 := sw_ne (n := 29) h1 (by decide)
              have qh3 := sw_ne (n := 30) h3 (by decide)
              have qh5 := sw_ne (n := 31) h5 (by decide)
              have qh7 := sw_ne (n := 32) h7 (by decide)
              have qh10 := sw_ne (n := 33) h10 (by decide)
              have qh12 := sw_ne (n := 34) h12 (by decide)
              refine sf_tout (a := a1) (tgt := 85) (len := 39) (show decode (k_c k_Orbit_named) 1 = .ok (.tableswitch (84) (29) (34) #[39, 44, 49, 55, 61, 78], 39) by decide +kernel) (by omega) (by decide) ?_
              refine sf_blk [(.lconst 0, 0, 0, .long (0 : Int64))] (lv' := [(0, .ref a0), (1, .int a1)]) (st' := [.long (0 : Int64)]) (M1 := M) (ob := []) (pc' := 86) (by decide +kernel) rfl rfl sw_a0 ?_
              cases hf
              exact sf_long rfl (by decide +kernel)
theorem o_Orbit_named (g : sw_G) {d : Nat} (hd : 2 ≤ d) {N : Nat} {a0 : Nat} {a1 : Int32} {M : sw_M} {r : Int64 × sw_M} (hf : f_Orbit_named N a0 a1 M = some r) : sw_Ok g k_Orbit_named d [.ref a0, .int a1] M (some (.long r.1)) r.2 := sf_met (by decide +kernel) rfl (by decide) (Nat.le_of_ble_eq_true rfl) (t_Orbit_named hd hf)
def f_Rule_checked_16 (N : Nat) (a0 : Nat) (a1 : Int64) (M : sw_M) : Option (Int64 × sw_M) :=
  sw_gd [sw_ok M a0 7] (some (a1, (wr_I M a0 4 (1 : Int32))))
set_option maxRecDepth 10000 in
theorem t_Rule_checked_16 {g : sw_G} {d n0 : Nat} (hd : 1 ≤ d) {r : Int64 × sw_M} {N : Nat} {a0 : Nat} {a1 : Int64} {M : sw_M} (hf : f_Rule_checked_16 N a0 a1 M = some r) : sw_F g k_Rule_checked d n0 (some (.long r.1)) r.2 16 [(0, .ref a0), (1, .long a1)] [] M := by
  unfold f_Rule_checked_16 at hf
  obtain ⟨h1, hf⟩ := sw_gd_1 hf
  refine sf_blk [(.aload_n 0, 0, 0, .null), (.iconst (1), 0, 0, .int (1 : Int32)), (.putfield 33, 7, 4, .null), (.lload_n 1, 0, 0, .null)] (lv' := [(0, .ref a0), (1, .long a1)]) (st' := [.long a1]) (M1 := (wr_I M a0 4 (1 : Int32))) (ob := [sw_ok M a0 7, sw_bz (1 : Int32)]) (pc' := 22) (by decide +kernel) rfl rfl (sw_a1 h1 (sw_a1 rfl sw_a0)) ?_
  cases hf
  exact sf_long rfl (by decide +kernel)
def f_Rule_checked (N : Nat) (a0 : Nat) (a1 : Int64) (M : sw_M) : Option (Int64 × sw_M) :=
  if (1000000000000000 : Int64) < a1 then f_Rule_checked_16 N a0 a1 M
  else if (-1000000000000000 : Int64) ≤ a1 then some (a1, M)
  else f_Rule_checked_16 N a0 a1 M
set_option maxRecDepth 10000 in
theorem t_Rule_checked {g : sw_G} {d n0 : Nat} (hd : 1 ≤ d) {r : Int64 × sw_M} {N : Nat} {a0 : Nat} {a1 : Int64} {M : sw_M} (hf : f_Rule_checked N a0 a1 M = some r) : sw_F g k_Rule_checked d n0 (some (.long r.1)) r.2 0 [(0, .ref a0), (1, .long a1)] [] M := by
  unfold f_Rule_checked at hf
  refine sf_blk [(.lload_n 1, 0, 0, .null), (.ldc2_w 66, 0, 0, .long (1000000000000000 : Int64)), (.lcmp, 0, 0, .null)] (lv' := [(0, .ref a0), (1, .long a1)]) (st' := [.int (lg_cmp a1 (1000000000000000 : Int64))]) (M1 := M) (ob := []) (pc' := 5) (by decide +kernel) rfl rfl sw_a0 ?_
  refine sf_l_gt (off := 11) (tgt := 16) (by decide +kernel) (by decide) hf (fun hc hf => ?_) (fun hc hf => ?_)
  · exact sf_weak [0, 1] rfl (t_Rule_checked_16 hd hf)
  · refine sf_blk [(.lload_n 1, 0, 0, .null), (.ldc2_w 68, 0, 0, .long (-1000000000000000 : Int64)), (.lcmp, 0, 0, .null)] (lv' := [(0, .ref a0), (1, .long a1)]) (st' := [.int (lg_cmp a1 (-1000000000000000 : Int64))]) (M1 := M) (ob := []) (pc' := 13) (by decide +kernel) rfl rfl sw_a0 ?_
    refine sf_l_ge (off := 8) (tgt := 21) (by decide +kernel) (by decide) hf (fun hc hf => ?_) (fun hc hf => ?_)
    · refine sf_blk [(.lload_n 1, 0, 0, .null)] (lv' := [(0, .ref a0), (1, .long a1)]) (st' := [.long a1]) (M1 := M) (ob := []) (pc' := 22) (by decide +kernel) rfl rfl sw_a0 ?_
      cases hf
      exact sf_long rfl (by decide +kernel)
    · exact sf_weak [0, 1] rfl (t_Rule_checked_16 hd hf)
theorem o_Rule_checked (g : sw_G) {d : Nat} (hd : 1 ≤ d) {N : Nat} {a0 : Nat} {a1 : Int64} {M : sw_M} {r : Int64 × sw_M} (hf : f_Rule_checked N a0 a1 M = some r) : sw_Ok g k_Rule_checked d [.ref a0, .long a1] M (some (.long r.1)) r.2 := sf_met (by decide +kernel) rfl (by decide) (Nat.le_of_ble_eq_true rfl) (t_Rule_checked hd hf)
def f_Rule_bit (N : Nat) (a0 : Int32) (M : sw_M) : Option (Int64 × sw_M) :=
  if a0 = 0 then some ((0 : Int64), M)
  else some ((1 : Int64), M)
set_option maxRecDepth 10000 in
theorem t_Rule_bit {g : sw_G} {d n0 : Nat} (hd : 1 ≤ d) {r : Int64 × sw_M} {N : Nat} {a0 : Int32} {M : sw_M} (hf : f_Rule_bit N a0 M = some r) : sw_F g k_Rule_bit d n0 (some (.long r.1)) r.2 0 [(0, .int a0)] [] M := by
  unfold f_Rule_bit at hf
  refine sf_blk [(.iload_n 0, 0, 0, .null)] (lv' := [(0, .int a0)]) (st' := [.int a0]) (M1 := M) (ob := []) (pc' := 1) (by decide +kernel) rfl rfl sw_a0 ?_
  refine sf_z_eq (off := 7) (tgt := 8) (by decide +kernel) (by decide) hf (fun hc hf => ?_) (fun hc hf => ?_)
  · refine sf_blk [(.lconst 0, 0, 0, .long (0 : Int64))] (lv' := [(0, .int a0)]) (st' := [.long (0 : Int64)]) (M1 := M) (ob := []) (pc' := 9) (by decide +kernel) rfl rfl sw_a0 ?_
    cases hf
    exact sf_long rfl (by decide +kernel)
  · refine sf_blk [(.lconst 1, 0, 0, .long (1 : Int64))] (lv' := [(0, .int a0)]) (st' := [.long (1 : Int64)]) (M1 := M) (ob := []) (pc' := 5) (by decide +kernel) rfl rfl sw_a0 ?_
    refine sf_goto (off := 4) (tgt := 9) (by decide +kernel) (by decide) ?_
    cases hf
    exact sf_long rfl (by decide +kernel)
theorem o_Rule_bit (g : sw_G) {d : Nat} (hd : 1 ≤ d) {N : Nat} {a0 : Int32} {M : sw_M} {r : Int64 × sw_M} (hf : f_Rule_bit N a0 M = some r) : sw_Ok g k_Rule_bit d [.int a0] M (some (.long r.1)) r.2 := sf_met (by decide +kernel) rfl (by decide) (Nat.le_of_ble_eq_true rfl) (t_Rule_bit hd hf)
def f_Rule_product (N : Nat) (a0 : Nat) (a1 : Int64) (a3 : Int64) (M : sw_M) : Option (Int64 × sw_M) :=
  if a1 = (0 : Int64) then some ((a1 * a3), M)
  else sw_gd [decide (¬ (m_absL a1) = 0)] (if (m_absL a3) ≤ ((1000000000000000 : Int64) / (m_absL a1)) then some ((a1 * a3), M)
  else sw_gd [sw_ok M a0 7] (some ((0 : Int64), (wr_I M a0 4 (1 : Int32)))))
set_option maxRecDepth 10000 in
theorem t_Rule_product {g : sw_G} {d n0 : Nat} (hd : 2 ≤ d) {r : Int64 × sw_M} {N : Nat} {a0 : Nat} {a1 : Int64} {a3 : Int64} {M : sw_M} (hf : f_Rule_product N a0 a1 a3 M = some r) : sw_F g k_Rule_product d n0 (some (.long r.1)) r.2 0 [(0, .ref a0), (1, .long a1), (3, .long a3)] [] M := by
  unfold f_Rule_product at hf
  refine sf_blk [(.lload_n 1, 0, 0, .null), (.lconst 0, 0, 0, .long (0 : Int64)), (.lcmp, 0, 0, .null)] (lv' := [(0, .ref a0), (1, .long a1), (3, .long a3)]) (st' := [.int (lg_cmp a1 (0 : Int64))]) (M1 := M) (ob := []) (pc' := 3) (by decide +kernel) rfl rfl sw_a0 ?_
  refine sf_l_eq (off := 26) (tgt := 29) (by decide +kernel) (by decide) hf (fun hc hf => ?_) (fun hc hf => ?_)
  · refine sf_blk [(.lload_n 1, 0, 0, .null), (.lload_n 3, 0, 0, .null), (.lmul, 0, 0, .null)] (lv' := [(0, .ref a0), (1, .long a1), (3, .long a3)]) (st' := [.long (a1 * a3)]) (M1 := M) (ob := []) (pc' := 32) (by decide +kernel) rfl rfl sw_a0 ?_
    cases hf
    exact sf_long rfl (by decide +kernel)
  · refine sf_blk [(.lload_n 3, 0, 0, .null)] (lv' := [(0, .ref a0), (1, .long a1), (3, .long a3)]) (st' := [.long a3]) (M1 := M) (ob := []) (pc' := 7) (by decide +kernel) rfl rfl sw_a0 ?_
    refine sf_absL (i := 61) (st := []) (sw_m4 200 (by decide +kernel)) (by decide +kernel) (by omega) (Nat.le_of_ble_eq_true rfl) ?_
    show sw_F _ _ _ _ _ _ 10 [(0, .ref a0), (1, .long a1), (3, .long a3)] [.long (m_absL a3)] M
    refine sf_blk [(.ldc2_w 66, 0, 0, .long (1000000000000000 : Int64)), (.lload_n 1, 0, 0, .null)] (lv' := [(0, .ref a0), (1, .long a1), (3, .long a3)]) (st' := [.long a1, .long (1000000000000000 : Int64), .long (m_absL a3)]) (M1 := M) (ob := []) (pc' := 14) (by decide +kernel) rfl rfl sw_a0 ?_
    refine sf_absL (i := 61) (st := [.long (1000000000000000 : Int64), .long (m_absL a3)]) (sw_m4 200 (by decide +kernel)) (by decide +kernel) (by omega) (Nat.le_of_ble_eq_true rfl) ?_
    show sw_F _ _ _ _ _ _ 17 [(0, .ref a0), (1, .long a1), (3, .long a3)] [.long (m_absL a1), .long (1000000000000000 : Int64), .long (m_absL a3)] M
    obtain ⟨h1, hf⟩ := sw_gd_1 hf
    refine sf_blk [(.ldiv, 0, 0, .null), (.lcmp, 0, 0, .null)] (lv' := [(0, .ref a0), (1, .long a1), (3, .long a3)]) (st' := [.int (lg_cmp (m_absL a3) ((1000000000000000 : Int64) / (m_absL a1)))]) (M1 := M) (ob := [decide (¬ (m_absL a1) = 0)]) (pc' := 19) (by decide +kernel) rfl rfl (sw_a1 h1 sw_a0) ?_
    refine sf_l_le (off := 10) (tgt := 29) (by decide +kernel) (by decide) hf (fun hc hf => ?_) (fun hc hf => ?_)
    · refine sf_blk [(.lload_n 1, 0, 0, .null), (.lload_n 3, 0, 0, .null), (.lmul, 0, 0, .null)] (lv' := [(0, .ref a0), (1, .long a1), (3, .long a3)]) (st' := [.long (a1 * a3)]) (M1 := M) (ob := []) (pc' := 32) (by decide +kernel) rfl rfl sw_a0 ?_
      cases hf
      exact sf_long rfl (by decide +kernel)
    · obtain ⟨h2, hf⟩ := sw_gd_1 hf
      refine sf_blk [(.aload_n 0, 0, 0, .null), (.iconst (1), 0, 0, .int (1 : Int32)), (.putfield 33, 7, 4, .null), (.lconst 0, 0, 0, .long (0 : Int64))] (lv' := [(0, .ref a0), (1, .long a1), (3, .long a3)]) (st' := [.long (0 : Int64)]) (M1 := (wr_I M a0 4 (1 : Int32))) (ob := [sw_ok M a0 7, sw_bz (1 : Int32)]) (pc' := 28) (by decide +kernel) rfl rfl (sw_a1 h2 (sw_a1 rfl sw_a0)) ?_
      cases hf
      exact sf_long rfl (by decide +kernel)
theorem o_Rule_product (g : sw_G) {d : Nat} (hd : 2 ≤ d) {N : Nat} {a0 : Nat} {a1 : Int64} {a3 : Int64} {M : sw_M} {r : Int64 × sw_M} (hf : f_Rule_product N a0 a1 a3 M = some r) : sw_Ok g k_Rule_product d [.ref a0, .long a1, .long a3] M (some (.long r.1)) r.2 := sf_met (by decide +kernel) rfl (by decide) (Nat.le_of_ble_eq_true rfl) (t_Rule_product hd hf)
def f_Rule_quotient (N : Nat) (a0 : Nat) (a1 : Int64) (a3 : Int64) (M : sw_M) : Option (Int64 × sw_M) :=
  if a3 = (0 : Int64) then sw_gd [sw_ok M a0 7] (some ((0 : Int64), (wr_I M a0 4 (1 : Int32))))
  else sw_gd [decide (¬ a3 = 0)] (some ((a1 / a3), M))
set_option maxRecDepth 10000 in
theorem t_Rule_quotient {g : sw_G} {d n0 : Nat} (hd : 1 ≤ d) {r : Int64 × sw_M} {N : Nat} {a0 : Nat} {a1 : Int64} {a3 : Int64} {M : sw_M} (hf : f_Rule_quotient N a0 a1 a3 M = some r) : sw_F g k_Rule_quotient d n0 (some (.long r.1)) r.2 0 [(0, .ref a0), (1, .long a1), (3, .long a3)] [] M := by
  unfold f_Rule_quotient at hf
  refine sf_blk [(.lload_n 3, 0, 0, .null), (.lconst 0, 0, 0, .long (0 : Int64)), (.lcmp, 0, 0, .null)] (lv' := [(0, .ref a0), (1, .long a1), (3, .long a3)]) (st' := [.int (lg_cmp a3 (0 : Int64))]) (M1 := M) (ob := []) (pc' := 3) (by decide +kernel) rfl rfl sw_a0 ?_
  refine sf_l_ne (off := 10) (tgt := 13) (by decide +kernel) (by decide) hf (fun hc hf => ?_) (fun hc hf => ?_)
  · obtain ⟨h1, hf⟩ := sw_gd_1 hf
    refine sf_blk [(.lload_n 1, 0, 0, .null), (.lload_n 3, 0, 0, .null), (.ldiv, 0, 0, .null)] (lv' := [(0, .ref a0), (1, .long a1), (3, .long a3)]) (st' := [.long (a1 / a3)]) (M1 := M) (ob := [decide (¬ a3 = 0)]) (pc' := 16) (by decide +kernel) rfl rfl (sw_a1 h1 sw_a0) ?_
    cases hf
    exact sf_long rfl (by decide +kernel)
  · obtain ⟨h2, hf⟩ := sw_gd_1 hf
    refine sf_blk [(.aload_n 0, 0, 0, .null), (.iconst (1), 0, 0, .int (1 : Int32)), (.putfield 33, 7, 4, .null), (.lconst 0, 0, 0, .long (0 : Int64))] (lv' := [(0, .ref a0), (1, .long a1), (3, .long a3)]) (st' := [.long (0 : Int64)]) (M1 := (wr_I M a0 4 (1 : Int32))) (ob := [sw_ok M a0 7, sw_bz (1 : Int32)]) (pc' := 12) (by decide +kernel) rfl rfl (sw_a1 h2 (sw_a1 rfl sw_a0)) ?_
    cases hf
    exact sf_long rfl (by decide +kernel)
theorem o_Rule_quotient (g : sw_G) {d : Nat} (hd : 1 ≤ d) {N : Nat} {a0 : Nat} {a1 : Int64} {a3 : Int64} {M : sw_M} {r : Int64 × sw_M} (hf : f_Rule_quotient N a0 a1 a3 M = some r) : sw_Ok g k_Rule_quotient d [.ref a0, .long a1, .long a3] M (some (.long r.1)) r.2 := sf_met (by decide +kernel) rfl (by decide) (Nat.le_of_ble_eq_true rfl) (t_Rule_quotient hd hf)
def f_Rule_joined_146 (N : Nat) (b0 : Int32) (M : sw_M) : Option (Int64 × sw_M) :=
  (f_Rule_bit N b0 M).bind (fun u1 => some (u1.1, u1.2))
set_option maxRecDepth 10000 in
theorem t_Rule_joined_146 {g : sw_G} {d n0 : Nat} (hd : 3 ≤ d) {r : Int64 × sw_M} {N : Nat} {b0 : Int32} {M : sw_M} (hf : f_Rule_joined_146 N b0 M = some r) : sw_F g k_Rule_joined d n0 (some (.long r.1)) r.2 146 [] [.int b0] M := by
  unfold f_Rule_joined_146 at hf
  obtain ⟨u1, hu1, hf⟩ := sw_bnd hf
  refine sf_callS (i := 46) (k2 := k_Rule_bit) (d2 := d - 1) (As := [.int b0]) (st := []) mf_Rule_bit mi_Rule_bit (sw_m4 189 (by decide +kernel)) (by decide +kernel) rfl (Nat.le_of_ble_eq_true rfl) (by omega) (o_Rule_bit g (d := d - 1) (by omega) hu1) ?_
  show sw_F _ _ _ _ _ _ 149 [] [.long u1.1] u1.2
  cases hf
  exact sf_long rfl (by decide +kernel)
def f_Rule_joined_162 (N : Nat) (b0 : Int32) (M : sw_M) : Option (Int64 × sw_M) :=
  (f_Rule_bit N b0 M).bind (fun u1 => some (u1.1, u1.2))
set_option maxRecDepth 10000 in
theorem t_Rule_joined_162 {g : sw_G} {d n0 : Nat} (hd : 3 ≤ d) {r : Int64 × sw_M} {N : Nat} {b0 : Int32} {M : sw_M} (hf : f_Rule_joined_162 N b0 M = some r) : sw_F g k_Rule_joined d n0 (some (.long r.1)) r.2 162 [] [.int b0] M := by
  unfold f_Rule_joined_162 at hf
  obtain ⟨u1, hu1, hf⟩ := sw_bnd hf
  refine sf_callS (i := 46) (k2 := k_Rule_bit) (d2 := d - 1) (As := [.int b0]) (st := []) mf_Rule_bit mi_Rule_bit (sw_m4 189 (by decide +kernel)) (by decide +kernel) rfl (Nat.le_of_ble_eq_true rfl) (by omega) (o_Rule_bit g (d := d - 1) (by omega) hu1) ?_
  show sw_F _ _ _ _ _ _ 165 [] [.long u1.1] u1.2
  cases hf
  exact sf_long rfl (by decide +kernel)
def f_Rule_joined_178 (N : Nat) (b0 : Int32) (M : sw_M) : Option (Int64 × sw_M) :=
  (f_Rule_bit N b0 M).bind (fun u1 => some (u1.1, u1.2))
set_option maxRecDepth 10000 in
theorem t_Rule_joined_178 {g : sw_G} {d n0 : Nat} (hd : 3 ≤ d) {r : Int64 × sw_M} {N : Nat} {b0 : Int32} {M : sw_M} (hf : f_Rule_joined_178 N b0 M = some r) : sw_F g k_Rule_joined d n0 (some (.long r.1)) r.2 178 [] [.int b0] M := by
  unfold f_Rule_joined_178 at hf
  obtain ⟨u1, hu1, hf⟩ := sw_bnd hf
  refine sf_callS (i := 46) (k2 := k_Rule_bit) (d2 := d - 1) (As := [.int b0]) (st := []) mf_Rule_bit mi_Rule_bit (sw_m4 189 (by decide +kernel)) (by decide +kernel) rfl (Nat.le_of_ble_eq_true rfl) (by omega) (o_Rule_bit g (d := d - 1) (by omega) hu1) ?_
  show sw_F _ _ _ _ _ _ 181 [] [.long u1.1] u1.2
  cases hf
  exact sf_long rfl (by decide +kernel)
def f_Rule_joined_194 (N : Nat) (b0 : Int32) (M : sw_M) : Option (Int64 × sw_M) :=
  (f_Rule_bit N b0 M).bind (fun u1 => some (u1.1, u1.2))
set_option maxRecDepth 10000 in
theorem t_Rule_joined_194 {g : sw_G} {d n0 : Nat} (hd : 3 ≤ d) {r : Int64 × sw_M} {N : Nat} {b0 : Int32} {M : sw_M} (hf : f_Rule_joined_194 N b0 M = some r) : sw_F g k_Rule_joined d n0 (some (.long r.1)) r.2 194 [] [.int b0] M := by
  unfold f_Rule_joined_194 at hf
  obtain ⟨u1, hu1, hf⟩ := sw_bnd hf
  refine sf_callS (i := 46) (k2 := k_Rule_bit) (d2 := d - 1) (As := [.int b0]) (st := []) mf_Rule_bit mi_Rule_bit (sw_m4 189 (by decide +kernel)) (by decide +kernel) rfl (Nat.le_of_ble_eq_true rfl) (by omega) (o_Rule_bit g (d := d - 1) (by omega) hu1) ?_
  show sw_F _ _ _ _ _ _ 197 [] [.long u1.1] u1.2
  cases hf
  exact sf_long rfl (by decide +kernel)
def f_Rule_joined_210 (N : Nat) (b0 : Int32) (M : sw_M) : Option (Int64 × sw_M) :=
  (f_Rule_bit N b0 M).bind (fun u1 => some (u1.1, u1.2))
set_option maxRecDepth 10000 in
theorem t_Rule_joined_210 {g : sw_G} {d n0 : Nat} (hd : 3 ≤ d) {r : Int64 × sw_M} {N : Nat} {b0 : Int32} {M : sw_M} (hf : f_Rule_joined_210 N b0 M = some r) : sw_F g k_Rule_joined d n0 (some (.long r.1)) r.2 210 [] [.int b0] M := by
  unfold f_Rule_joined_210 at hf
  obtain ⟨u1, hu1, hf⟩ := sw_bnd hf
  refine sf_callS (i := 46) (k2 := k_Rule_bit) (d2 := d - 1) (As := [.int b0]) (st := []) mf_Rule_bit mi_Rule_bit (sw_m4 189 (by decide +kernel)) (by decide +kernel) rfl (Nat.le_of_ble_eq_true rfl) (by omega) (o_Rule_bit g (d := d - 1) (by omega) hu1) ?_
  show sw_F _ _ _ _ _ _ 213 [] [.long u1.1] u1.2
  cases hf
  exact sf_long rfl (by decide +kernel)
def f_Rule_joined_226 (N : Nat) (b0 : Int32) (M : sw_M) : Option (Int64 × sw_M) :=
  (f_Rule_bit N b0 M).bind (fun u1 => some (u1.1, u1.2))
set_option maxRecDepth 10000 in
theorem t_Rule_joined_226 {g : sw_G} {d n0 : Nat} (hd : 3 ≤ d) {r : Int64 × sw_M} {N : Nat} {b0 : Int32} {M : sw_M} (hf : f_Rule_joined_226 N b0 M = some r) : sw_F g k_Rule_joined d n0 (some (.long r.1)) r.2 226 [] [.int b0] M := by
  unfold f_Rule_joined_226 at hf
  obtain ⟨u1, hu1, hf⟩ := sw_bnd hf
  refine sf_callS (i := 46) (k2 := k_Rule_bit) (d2 := d - 1) (As := [.int b0]) (st := []) mf_Rule_bit mi_Rule_bit (sw_m4 189 (by decide +kernel)) (by decide +kernel) rfl (Nat.le_of_ble_eq_true rfl) (by omega) (o_Rule_bit g (d := d - 1) (by omega) hu1) ?_
  show sw_F _ _ _ _ _ _ 229 [] [.long u1.1] u1.2
  cases hf
  exact sf_long rfl (by decide +kernel)
def f_Rule_joined_270 (N : Nat) (b0 : Int32) (M : sw_M) : Option (Int64 × sw_M) :=
  (f_Rule_bit N b0 M).bind (fun u1 => some (u1.1, u1.2))
set_option maxRecDepth 10000 in
theorem t_Rule_joined_270 {g : sw_G} {d n0 : Nat} (hd : 3 ≤ d) {r : Int64 × sw_M} {N : Nat} {b0 : Int32} {M : sw_M} (hf : f_Rule_joined_270 N b0 M = some r) : sw_F g k_Rule_joined d n0 (some (.long r.1)) r.2 270 [] [.int b0] M := by
  unfold f_Rule_joined_270 at hf
  obtain ⟨u1, hu1, hf⟩ := sw_bnd hf
  refine sf_callS (i := 46) (k2 := k_Rule_bit) (d2 := d - 1) (As := [.int b0]) (st := []) mf_Rule_bit mi_Rule_bit (sw_m4 189 (by decide +kernel)) (by decide +kernel) rfl (Nat.le_of_ble_eq_true rfl) (by omega) (o_Rule_bit g (d := d - 1) (by omega) hu1) ?_
  show sw_F _ _ _ _ _ _ 273 [] [.long u1.1] u1.2
  cases hf
  exact sf_long rfl (by decide +kernel)
def f_Rule_joined_265 (N : Nat) (M : sw_M) : Option (Int64 × sw_M) :=
  f_Rule_joined_270 N (1 : Int32) M
set_option maxRecDepth 10000 in
theorem t_Rule_joined_265 {g : sw_G} {d n0 : Nat} (hd : 3 ≤ d) {r : Int64 × sw_M} {N : Nat} {M : sw_M} (hf : f_Rule_joined_265 N M = some r) : sw_F g k_Rule_joined d n0 (some (.long r.1)) r.2 265 [] [] M := by
  unfold f_Rule_joined_265 at hf
  refine sf_blk [(.iconst (1), 0, 0, .int (1 : Int32))] (lv' := []) (st' := [.int (1 : Int32)]) (M1 := M) (ob := []) (pc' := 266) (by decide +kernel) rfl rfl sw_a0 ?_
  refine sf_goto (off := 4) (tgt := 270) (by decide +kernel) (by decide) ?_
  exact sf_weak [] rfl (t_Rule_joined_270 hd hf)
def f_Rule_joined_252 (N : Nat) (a2 : Int64) (a4 : Int64) (M : sw_M) : Option (Int64 × sw_M) :=
  if a2 = (0 : Int64) then if a4 = (0 : Int64) then f_Rule_joined_270 N (0 : Int32) M
  else f_Rule_joined_265 N M
  else f_Rule_joined_265 N M
set_option maxRecDepth 10000 in
theorem t_Rule_joined_252 {g : sw_G} {d n0 : Nat} (hd : 3 ≤ d) {r : Int64 × sw_M} {N : Nat} {a2 : Int64} {a4 : Int64} {M : sw_M} (hf : f_Rule_joined_252 N a2 a4 M = some r) : sw_F g k_Rule_joined d n0 (some (.long r.1)) r.2 252 [(2, .long a2), (4, .long a4)] [] M := by
  unfold f_Rule_joined_252 at hf
  refine sf_blk [(.lload_n 2, 0, 0, .null), (.lconst 0, 0, 0, .long (0 : Int64)), (.lcmp, 0, 0, .null)] (lv' := [(2, .long a2), (4, .long a4)]) (st' := [.int (lg_cmp a2 (0 : Int64))]) (M1 := M) (ob := []) (pc' := 255) (by decide +kernel) rfl rfl sw_a0 ?_
  refine sf_l_ne (off := 10) (tgt := 265) (by decide +kernel) (by decide) hf (fun hc hf => ?_) (fun hc hf => ?_)
  · exact sf_weak [] rfl (t_Rule_joined_265 hd hf)
  · refine sf_blk [(.lload 4, 0, 0, .null), (.lconst 0, 0, 0, .long (0 : Int64)), (.lcmp, 0, 0, .null)] (lv' := [(2, .long a2), (4, .long a4)]) (st' := [.int (lg_cmp a4 (0 : Int64))]) (M1 := M) (ob := []) (pc' := 262) (by decide +kernel) rfl rfl sw_a0 ?_
    refine sf_l_eq (off := 7) (tgt := 269) (by decide +kernel) (by decide) hf (fun hc hf => ?_) (fun hc hf => ?_)
    · refine sf_blk [(.iconst (0), 0, 0, .int (0 : Int32))] (lv' := [(2, .long a2), (4, .long a4)]) (st' := [.int (0 : Int32)]) (M1 := M) (ob := []) (pc' := 270) (by decide +kernel) rfl rfl sw_a0 ?_
      exact sf_weak [] rfl (t_Rule_joined_270 hd hf)
    · exact sf_weak [] rfl (t_Rule_joined_265 hd hf)
def f_Rule_joined_248 (N : Nat) (b0 : Int32) (M : sw_M) : Option (Int64 × sw_M) :=
  (f_Rule_bit N b0 M).bind (fun u1 => some (u1.1, u1.2))
set_option maxRecDepth 10000 in
theorem t_Rule_joined_248 {g : sw_G} {d n0 : Nat} (hd : 3 ≤ d) {r : Int64 × sw_M} {N : Nat} {b0 : Int32} {M : sw_M} (hf : f_Rule_joined_248 N b0 M = some r) : sw_F g k_Rule_joined d n0 (some (.long r.1)) r.2 248 [] [.int b0] M := by
  unfold f_Rule_joined_248 at hf
  obtain ⟨u1, hu1, hf⟩ := sw_bnd hf
  refine sf_callS (i := 46) (k2 := k_Rule_bit) (d2 := d - 1) (As := [.int b0]) (st := []) mf_Rule_bit mi_Rule_bit (sw_m4 189 (by decide +kernel)) (by decide +kernel) rfl (Nat.le_of_ble_eq_true rfl) (by omega) (o_Rule_bit g (d := d - 1) (by omega) hu1) ?_
  show sw_F _ _ _ _ _ _ 251 [] [.long u1.1] u1.2
  cases hf
  exact sf_long rfl (by decide +kernel)
def f_Rule_joined_247 (N : Nat) (M : sw_M) : Option (Int64 × sw_M) :=
  f_Rule_joined_248 N (0 : Int32) M
set_option maxRecDepth 10000 in
theorem t_Rule_joined_247 {g : sw_G} {d n0 : Nat} (hd : 3 ≤ d) {r : Int64 × sw_M} {N : Nat} {M : sw_M} (hf : f_Rule_joined_247 N M = some r) : sw_F g k_Rule_joined d n0 (some (.long r.1)) r.2 247 [] [] M := by
  unfold f_Rule_joined_247 at hf
  refine sf_blk [(.iconst (0), 0, 0, .int (0 : Int32))] (lv' := []) (st' := [.int (0 : Int32)]) (M1 := M) (ob := []) (pc' := 248) (by decide +kernel) rfl rfl sw_a0 ?_
  exact sf_weak [] rfl (t_Rule_joined_248 hd hf)
def f_Rule_joined (N : Nat) (a0 : Nat) (a1 : Int32) (a2 : Int64) (a4 : Int64) (M : sw_M) : Option (Int64 × sw_M) :=
  if a1 = (7 : Int32) then sw_gd [sw_ok M a0 7] ((f_Rule_checked N a0 (a2 + a4) M).bind (fun u3 => some (u3.1, u3.2)))
  else if a1 = (8 : Int32) then sw_gd [sw_ok M a0 7] ((f_Rule_checked N a0 (a2 - a4) M).bind (fun u6 => some (u6.1, u6.2)))
  else if a1 = (9 : Int32) then sw_gd [sw_ok M a0 7] ((f_Rule_product N a0 a2 a4 M).bind (fun u9 => some (u9.1, u9.2)))
  else if a1 = (10 : Int32) then sw_gd [sw_ok M a0 7] ((f_Rule_quotient N a0 a2 a4 M).bind (fun u12 => some (u12.1, u12.2)))
  else if a1 = (11 : Int32) then if a4 ≤ a2 then f_Rule_joined_146 N (0 : Int32) M
  else f_Rule_joined_146 N (1 : Int32) M
  else if a1 = (12 : Int32) then if a4 < a2 then f_Rule_joined_162 N (0 : Int32) M
  else f_Rule_joined_162 N (1 : Int32) M
  else if a1 = (13 : Int32) then if a2 = a4 then f_Rule_joined_178 N (1 : Int32) M
  else f_Rule_joined_178 N (0 : Int32) M
  else if a1 = (14 : Int32) then if a2 = a4 then f_Rule_joined_194 N (0 : Int32) M
  else f_Rule_joined_194 N (1 : Int32) M
  else if a1 = (15 : Int32) then if a2 < a4 then f_Rule_joined_210 N (0 : Int32) M
  else f_Rule_joined_210 N (1 : Int32) M
  else if a1 = (16 : Int32) then if a2 ≤ a4 then f_Rule_joined_226 N (0 : Int32) M
  else f_Rule_joined_226 N (1 : Int32) M
  else if a1 = (17 : Int32) then f_Rule_joined_252 N a2 a4 M
  else if a1 = (18 : Int32) then f_Rule_joined_252 N a2 a4 M
  else if a1 = (19 : Int32) then f_Rule_joined_252 N a2 a4 M
  else if a1 = (20 : Int32) then f_Rule_joined_252 N a2 a4 M
  else if a1 = (21 : Int32) then f_Rule_joined_252 N a2 a4 M
  else if a1 = (22 : Int32) then f_Rule_joined_252 N a2 a4 M
  else if a1 = (23 : Int32) then f_Rule_joined_252 N a2 a4 M
  else if a1 = (24 : Int32) then f_Rule_joined_252 N a2 a4 M
  else if a1 = (25 : Int32) then f_Rule_joined_252 N a2 a4 M
  else if a1 = (26 : Int32) then f_Rule_joined_252 N a2 a4 M
  else if a1 = (27 : Int32) then if a2 = (0 : Int64) then f_Rule_joined_247 N M
  else if a4 = (0 : Int64) then f_Rule_joined_247 N M
  else f_Rule_joined_248 N (1 : Int32) M
  else f_Rule_joined_252 N a2 a4 M
set_option maxRecDepth 10000 in
theorem t_Rule_joined {g : sw_G} {d n0 : Nat} (hd : 3 ≤ d) {r : Int64 × sw_M} {N : Nat} {a0 : Nat} {a1 : Int32} {a2 : Int64} {a4 : Int64} {M : sw_M} (hf : f_Rule_joined N a0 a1 a2 a4 M = some r) : sw_F g k_Rule_joined d n0 (some (.long r.1)) r.2 0 [(0, .ref a0), (1, .int a1), (2, .long a2), (4, .long a4)] [] M := by
  unfold f_Rule_joined at hf
  refine sf_blk [(.iload_n 1, 0, 0, .null)] (lv' := [(0, .ref a0), (1, .int a1), (2, .long a2), (4, .long a4)]) (st' := [.int a1]) (M1 := M) (ob := []) (pc' := 1) (by decide +kernel) rfl rfl sw_a0 ?_
  rcases sw_ite hf with ⟨h1, hf⟩ | ⟨h1, hf⟩
  · refine sf_tin (a := a1) (off := 99) (tgt := 100) (len := 99) (show decode (k_c k_Rule_joined) 1 = .ok (.tableswitch (251) (7) (27) #[99, 108, 117, 125, 133, 149, 165, 181, 197, 213, 251, 251, 251, 251, 251, 251, 251, 251, 251, 251, 229], 99) by decide +kernel) (by rw [h1]; decide) (by rw [h1]; decide) (by rw [h1]; decide +kernel) (by decide) ?_
    obtain ⟨h2, hf⟩ := sw_gd_1 hf
    refine sf_blk [(.aload_n 0, 0, 0, .null), (.lload_n 2, 0, 0, .null), (.lload 4, 0, 0, .null), (.ladd, 0, 0, .null)] (lv' := [(0, .ref a0), (1, .int a1), (2, .long a2), (4, .long a4)]) (st' := [.long (a2 + a4), .ref a0]) (M1 := M) (ob := []) (pc' := 105) (by decide +kernel) rfl rfl sw_a0 ?_
    obtain ⟨u3, hu3, hf⟩ := sw_bnd hf
    refine sf_callV (i := 42) (k2 := k_Rule_checked) (d2 := d - 1) (As := [.long (a2 + a4)]) (st := []) (q := a0) (ci := 7) mf_Rule_checked mi_Rule_checked ms_Rule_checked (sw_m4 183 (by decide +kernel)) rfl (by decide) (by decide +kernel) rfl (Nat.le_of_ble_eq_true rfl) (by omega) h2 (o_Rule_checked g (d := d - 1) (by omega) hu3) ?_
    show sw_F _ _ _ _ _ _ 108 [(0, .ref a0), (1, .int a1), (2, .long a2), (4, .long a4)] [.long u3.1] u3.2
    cases hf
    exact sf_long rfl (by decide +kernel)
  ·
    rcases sw_ite hf with ⟨h4, hf⟩ | ⟨h4, hf⟩
    · refine sf_tin (a := a1) (off := 108) (tgt := 109) (len := 99) (show decode (k_c k_Rule_joined) 1 = .ok (.tableswitch (251) (7) (27) #[99, 108, 117, 125, 133, 149, 165, 181, 197, 213, 251, 251, 251, 251, 251, 251, 251, 251, 251, 251, 229], 99) by decide +kernel) (by rw [h4]; decide) (by rw [h4]; decide) (by rw [h4]; decide +kernel) (by decide) ?_
      obtain ⟨h5, hf⟩ := sw_gd_1 hf
      refine sf_blk [(.aload_n 0, 0, 0, .null), (.lload_n 2, 0, 0, .null), (.lload 4, 0, 0, .null), (.lsub, 0, 0, .null)] (lv' := [(0, .ref a0), (1, .int a1), (2, .long a2), (4, .long a4)]) (st' := [.long (a2 - a4), .ref a0]) (M1 := M) (ob := []) (pc' := 114) (by decide +kernel) rfl rfl sw_a0 ?_
      obtain ⟨u6, hu6, hf⟩ := sw_bnd hf
      refine sf_callV (i := 42) (k2 := k_Rule_checked) (d2 := d - 1) (As := [.long (a2 - a4)]) (st := []) (q := a0) (ci := 7) mf_Rule_checked mi_Rule_checked ms_Rule_checked (sw_m4 183 (by decide +kernel)) rfl (by decide) (by decide +kernel) rfl (Nat.le_of_ble_eq_true rfl) (by omega) h5 (o_Rule_checked g (d := d - 1) (by omega) hu6) ?_
      show sw_F _ _ _ _ _ _ 117 [(0, .ref a0), (1, .int a1), (2, .long a2), (4, .long a4)] [.long u6.1] u6.2
      cases hf
      exact sf_long rfl (by decide +kernel)
    ·
      rcases sw_ite hf with ⟨h7, hf⟩ | ⟨h7, hf⟩
      · refine sf_tin (a := a1) (off := 117) (tgt := 118) (len := 99) (show decode (k_c k_Rule_joined) 1 = .ok (.tableswitch (251) (7) (27) #[99, 108, 117, 125, 133, 149, 165, 181, 197, 213, 251, 251, 251, 251, 251, 251, 251, 251, 251, 251, 229], 99) by decide +kernel) (by rw [h7]; decide) (by rw [h7]; decide) (by rw [h7]; decide +kernel) (by decide) ?_
        obtain ⟨h8, hf⟩ := sw_gd_1 hf
        refine sf_blk [(.aload_n 0, 0, 0, .null), (.lload_n 2, 0, 0, .null), (.lload 4, 0, 0, .null)] (lv' := [(0, .ref a0), (1, .int a1), (2, .long a2), (4, .long a4)]) (st' := [.long a4, .long a2, .ref a0]) (M1 := M) (ob := []) (pc' := 122) (by decide +kernel) rfl rfl sw_a0 ?_
        obtain ⟨u9, hu9, hf⟩ := sw_bnd hf
        refine sf_callV (i := 54) (k2 := k_Rule_product) (d2 := d - 1) (As := [.long a2, .long a4]) (st := []) (q := a0) (ci := 7) mf_Rule_product mi_Rule_product ms_Rule_product (sw_m4 196 (by decide +kernel)) rfl (by decide) (by decide +kernel) rfl (Nat.le_of_ble_eq_true rfl) (by omega) h8 (o_Rule_product g (d := d - 1) (by omega) hu9) ?_
        show sw_F _ _ _ _ _ _ 125 [(0, .ref a0), (1, .int a1), (2, .long a2), (4, .long a4)] [.long u9.1] u9.2
        cases hf
        exact sf_long rfl (by decide +kernel)
      ·
        rcases sw_ite hf with ⟨h10, hf⟩ | ⟨h10, hf⟩
        · refine sf_tin (a := a1) (off := 125) (tgt := 126) (len := 99) (show decode (k_c k_Rule_joined) 1 = .ok (.tableswitch (251) (7) (27) #[99, 108, 117, 125, 133, 149, 165, 181, 197, 213, 251, 251, 251, 251, 251, 251, 251, 251, 251, 251, 229], 99) by decide +kernel) (by rw [h10]; decide) (by rw [h10]; decide) (by rw [h10]; decide +kernel) (by decide) ?_
          obtain ⟨h11, hf⟩ := sw_gd_1 hf
          refine sf_blk [(.aload_n 0, 0, 0, .null), (.lload_n 2, 0, 0, .null), (.lload 4, 0, 0, .null)] (lv' := [(0, .ref a0), (1, .int a1), (2, .long a2), (4, .long a4)]) (st' := [.long a4, .long a2, .ref a0]) (M1 := M) (ob := []) (pc' := 130) (by decide +kernel) rfl rfl sw_a0 ?_
          obtain ⟨u12, hu12, hf⟩ := sw_bnd hf
          refine sf_callV (i := 58) (k2 := k_Rule_quotient) (d2 := d - 1) (As := [.long a2, .long a4]) (st := []) (q := a0) (ci := 7) mf_Rule_quotient mi_Rule_quotient ms_Rule_quotient (sw_m4 203 (by decide +kernel)) rfl (by decide) (by decide +kernel) rfl (Nat.le_of_ble_eq_true rfl) (by omega) h11 (o_Rule_quotient g (d := d - 1) (by omega) hu12) ?_
          show sw_F _ _ _ _ _ _ 133 [(0, .ref a0), (1, .int a1), (2, .long a2), (4, .long a4)] [.long u12.1] u12.2
          cases hf
          exact sf_long rfl (by decide +kernel)
        ·
          rcases sw_ite hf with ⟨h13, hf⟩ | ⟨h13, hf⟩
          · refine sf_tin (a := a1) (off := 133) (tgt := 134) (len := 99) (show decode (k_c k_Rule_joined) 1 = .ok (.tableswitch (251) (7) (27) #[99, 108, 117, 125, 133, 149, 165, 181, 197, 213, 251, 251, 251, 251, 251, 251, 251, 251, 251, 251, 229], 99) by decide +kernel) (by rw [h13]; decide) (by rw [h13]; decide) (by rw [h13]; decide +kernel) (by decide) ?_
            refine sf_blk [(.lload_n 2, 0, 0, .null), (.lload 4, 0, 0, .null), (.lcmp, 0, 0, .null)] (lv' := [(0, .ref a0), (1, .int a1), (2, .long a2), (4, .long a4)]) (st' := [.int (lg_cmp a2 a4)]) (M1 := M) (ob := []) (pc' := 138) (by decide +kernel) rfl rfl sw_a0 ?_
            refine sf_l_ge (off := 7) (tgt := 145) (by decide +kernel) (by decide) hf (fun hc hf => ?_) (fun hc hf => ?_)
            · refine sf_blk [(.iconst (0), 0, 0, .int (0 : Int32))] (lv' := [(0, .ref a0), (1, .int a1), (2, .long a2), (4, .long a4)]) (st' := [.int (0 : Int32)]) (M1 := M) (ob := []) (pc' := 146) (by decide +kernel) rfl rfl sw_a0 ?_
              exact sf_weak [] rfl (t_Rule_joined_146 hd hf)
            · refine sf_blk [(.iconst (1), 0, 0, .int (1 : Int32))] (lv' := [(0, .ref a0), (1, .int a1), (2, .long a2), (4, .long a4)]) (st' := [.int (1 : Int32)]) (M1 := M) (ob := []) (pc' := 142) (by decide +kernel) rfl rfl sw_a0 ?_
              refine sf_goto (off := 4) (tgt := 146) (by decide +kernel) (by decide) ?_
              exact sf_weak [] rfl (t_Rule_joined_146 hd hf)
          ·
            rcases sw_ite hf with ⟨h14, hf⟩ | ⟨h14, hf⟩
            · refine sf_tin (a := a1) (off := 149) (tgt := 150) (len := 99) (show decode (k_c k_Rule_joined) 1 = .ok (.tableswitch (251) (7) (27) #[99, 108, 117, 125, 133, 149, 165, 181, 197, 213, 251, 251, 251, 251, 251, 251, 251, 251, 251, 251, 229], 99) by decide +kernel) (by rw [h14]; decide) (by rw [h14]; decide) (by rw [h14]; decide +kernel) (by decide) ?_
              refine sf_blk [(.lload_n 2, 0, 0, .null), (.lload 4, 0, 0, .null), (.lcmp, 0, 0, .null)] (lv' := [(0, .ref a0), (1, .int a1), (2, .long a2), (4, .long a4)]) (st' := [.int (lg_cmp a2 a4)]) (M1 := M) (ob := []) (pc' := 154) (by decide +kernel) rfl rfl sw_a0 ?_
              refine sf_l_gt (off := 7) (tgt := 161) (by decide +kernel) (by decide) hf (fun hc hf => ?_) (fun hc hf => ?_)
              · refine sf_blk [(.iconst (0), 0, 0, .int (0 : Int32))] (lv' := [(0, .ref a0), (1, .int a1), (2, .long a2), (4, .long a4)]) (st' := [.int (0 : Int32)]) (M1 := M) (ob := []) (pc' := 162) (by decide +kernel) rfl rfl sw_a0 ?_
                exact sf_weak [] rfl (t_Rule_joined_162 hd hf)
              · refine sf_blk [(.iconst (1), 0, 0, .int (1 : Int32))] (lv' := [(0, .ref a0), (1, .int a1), (2, .long a2), (4, .long a4)]) (st' := [.int (1 : Int32)]) (M1 := M) (ob := []) (pc' := 158) (by decide +kernel) rfl rfl sw_a0 ?_
                refine sf_goto (off := 4) (tgt := 162) (by decide +kernel) (by decide) ?_
                exact sf_weak [] rfl (t_Rule_joined_162 hd hf)
            ·
              rcases sw_ite hf with ⟨h15, hf⟩ | ⟨h15, hf⟩
              · refine sf_tin (a := a1) (off := 165) (tgt := 166) (len := 99) (show decode (k_c k_Rule_joined) 1 = .ok (.tableswitch (251) (7) (27) #[99, 108, 117, 125, 133, 149, 165, 181, 197, 213, 251, 251, 251, 251, 251, 251, 251, 251, 251, 251, 229], 99) by decide +kernel) (by rw [h15]; decide) (by rw [h15]; decide) (by rw [h15]; decide +kernel) (by decide) ?_
                refine sf_blk [(.lload_n 2, 0, 0, .null), (.lload 4, 0, 0, .null), (.lcmp, 0, 0, .null)] (lv' := [(0, .ref a0), (1, .int a1), (2, .long a2), (4, .long a4)]) (st' := [.int (lg_cmp a2 a4)]) (M1 := M) (ob := []) (pc' := 170) (by decide +kernel) rfl rfl sw_a0 ?_
                refine sf_l_ne (off := 7) (tgt := 177) (by decide +kernel) (by decide) hf (fun hc hf => ?_) (fun hc hf => ?_)
                · refine sf_blk [(.iconst (0), 0, 0, .int (0 : Int32))] (lv' := [(0, .ref a0), (1, .int a1), (2, .long a2), (4, .long a4)]) (st' := [.int (0 : Int32)]) (M1 := M) (ob := []) (pc' := 178) (by decide +kernel) rfl rfl sw_a0 ?_
                  exact sf_weak [] rfl (t_Rule_joined_178 hd hf)
                · refine sf_blk [(.iconst (1), 0, 0, .int (1 : Int32))] (lv' := [(0, .ref a0), (1, .int a1), (2, .long a2), (4, .long a4)]) (st' := [.int (1 : Int32)]) (M1 := M) (ob := []) (pc' := 174) (by decide +kernel) rfl rfl sw_a0 ?_
                  refine sf_goto (off := 4) (tgt := 178) (by decide +kernel) (by decide) ?_
                  exact sf_weak [] rfl (t_Rule_joined_178 hd hf)
              ·
                rcases sw_ite hf with ⟨h16, hf⟩ | ⟨h16, hf⟩
                · refine sf_tin (a := a1) (off := 181) (tgt := 182) (len := 99) (show decode (k_c k_Rule_joined) 1 = .ok (.tableswitch (251) (7) (27) #[99, 108, 117, 125, 133, 149, 165, 181, 197, 213, 251, 251, 251, 251, 251, 251, 251, 251, 251, 251, 229], 99) by decide +kernel) (by rw [h16]; decide) (by rw [h16]; decide) (by rw [h16]; decide +kernel) (by decide) ?_
                  refine sf_blk [(.lload_n 2, 0, 0, .null), (.lload 4, 0, 0, .null), (.lcmp, 0, 0, .null)] (lv' := [(0, .ref a0), (1, .int a1), (2, .long a2), (4, .long a4)]) (st' := [.int (lg_cmp a2 a4)]) (M1 := M) (ob := []) (pc' := 186) (by decide +kernel) rfl rfl sw_a0 ?_
                  refine sf_l_eq (off := 7) (tgt := 193) (by decide +kernel) (by decide) hf (fun hc hf => ?_) (fun hc hf => ?_)
                  · refine sf_blk [(.iconst (0), 0, 0, .int (0 : Int32))] (lv' := [(0, .ref a0), (1, .int a1), (2, .long a2), (4, .long a4)]) (st' := [.int (0 : Int32)]) (M1 := M) (ob := []) (pc' := 194) (by decide +kernel) rfl rfl sw_a0 ?_
                    exact sf_weak [] rfl (t_Rule_joined_194 hd hf)
                  · refine sf_blk [(.iconst (1), 0, 0, .int (1 : Int32))] (lv' := [(0, .ref a0), (1, .int a1), (2, .long a2), (4, .long a4)]) (st' := [.int (1 : Int32)]) (M1 := M) (ob := []) (pc' := 190) (by decide +kernel) rfl rfl sw_a0 ?_
                    refine sf_goto (off := 4) (tgt := 194) (by decide +kernel) (by decide) ?_
                    exact sf_weak [] rfl (t_Rule_joined_194 hd hf)
                ·
                  rcases sw_ite hf with ⟨h17, hf⟩ | ⟨h17, hf⟩
                  · refine sf_tin (a := a1) (off := 197) (tgt := 198) (len := 99) (show decode (k_c k_Rule_joined) 1 = .ok (.tableswitch (251) (7) (27) #[99, 108, 117, 125, 133, 149, 165, 181, 197, 213, 251, 251, 251, 251, 251, 251, 251, 251, 251, 251, 229], 99) by decide +kernel) (by rw [h17]; decide) (by rw [h17]; decide) (by rw [h17]; decide +kernel) (by decide) ?_
                    refine sf_blk [(.lload_n 2, 0, 0, .null), (.lload 4, 0, 0, .null), (.lcmp, 0, 0, .null)] (lv' := [(0, .ref a0), (1, .int a1), (2, .long a2), (4, .long a4)]) (st' := [.int (lg_cmp a2 a4)]) (M1 := M) (ob := []) (pc' := 202) (by decide +kernel) rfl rfl sw_a0 ?_
                    refine sf_l_lt (off := 7) (tgt := 209) (by decide +kernel) (by decide) hf (fun hc hf => ?_) (fun hc hf => ?_)
                    · refine sf_blk [(.iconst (0), 0, 0, .int (0 : Int32))] (lv' := [(0, .ref a0), (1, .int a1), (2, .long a2), (4, .long a4)]) (st' := [.int (0 : Int32)]) (M1 := M) (ob := []) (pc' := 210) (by decide +kernel) rfl rfl sw_a0 ?_
                      exact sf_weak [] rfl (t_Rule_joined_210 hd hf)
                    · refine sf_blk [(.iconst (1), 0, 0, .int (1 : Int32))] (lv' := [(0, .ref a0), (1, .int a1), (2, .long a2), (4, .long a4)]) (st' := [.int (1 : Int32)]) (M1 := M) (ob := []) (pc' := 206) (by decide +kernel) rfl rfl sw_a0 ?_
                      refine sf_goto (off := 4) (tgt := 210) (by decide +kernel) (by decide) ?_
                      exact sf_weak [] rfl (t_Rule_joined_210 hd hf)
                  ·
                    rcases sw_ite hf with ⟨h18, hf⟩ | ⟨h18, hf⟩
                    · refine sf_tin (a := a1) (off := 213) (tgt := 214) (len := 99) (show decode (k_c k_Rule_joined) 1 = .ok (.tableswitch (251) (7) (27) #[99, 108, 117, 125, 133, 149, 165, 181, 197, 213, 251, 251, 251, 251, 251, 251, 251, 251, 251, 251, 229], 99) by decide +kernel) (by rw [h18]; decide) (by rw [h18]; decide) (by rw [h18]; decide +kernel) (by decide) ?_
                      refine sf_blk [(.lload_n 2, 0, 0, .null), (.lload 4, 0, 0, .null), (.lcmp, 0, 0, .null)] (lv' := [(0, .ref a0), (1, .int a1), (2, .long a2), (4, .long a4)]) (st' := [.int (lg_cmp a2 a4)]) (M1 := M) (ob := []) (pc' := 218) (by decide +kernel) rfl rfl sw_a0 ?_
                      refine sf_l_le (off := 7) (tgt := 225) (by decide +kernel) (by decide) hf (fun hc hf => ?_) (fun hc hf => ?_)
                      · refine sf_blk [(.iconst (0), 0, 0, .int (0 : Int32))] (lv' := [(0, .ref a0), (1, .int a1), (2, .long a2), (4, .long a4)]) (st' := [.int (0 : Int32)]) (M1 := M) (ob := []) (pc' := 226) (by decide +kernel) rfl rfl sw_a0 ?_
                        exact sf_weak [] rfl (t_Rule_joined_226 hd hf)
                      · refine sf_blk [(.iconst (1), 0, 0, .int (1 : Int32))] (lv' := [(0, .ref a0), (1, .int a1), (2, .long a2), (4, .long a4)]) (st' := [.int (1 : Int32)]) (M1 := M) (ob := []) (pc' := 222) (by decide +kernel) rfl rfl sw_a0 ?_
                        refine sf_goto (off := 4) (tgt := 226) (by decide +kernel) (by decide) ?_
                        exact sf_weak [] rfl (t_Rule_joined_226 hd hf)
                    ·
                      rcases sw_ite hf with ⟨h19, hf⟩ | ⟨h19, hf⟩
                      · refine sf_tin (a := a1) (off := 251) (tgt := 252) (len := 99) (show decode (k_c k_Rule_joined) 1 = .ok (.tableswitch (251) (7) (27) #[99, 108, 117, 125, 133, 149, 165, 181, 197, 213, 251, 251, 251, 251, 251, 251, 251, 251, 251, 251, 229], 99) by decide +kernel) (by rw [h19]; decide) (by rw [h19]; decide) (by rw [h19]; decide +kernel) (by decide) ?_
                        exact sf_weak [2, 3] rfl (t_Rule_joined_252 hd hf)
                      ·
                        rcases sw_ite hf with ⟨h20, hf⟩ | ⟨h20, hf⟩
                        · refine sf_tin (a := a1) (off := 251) (tgt := 252) (len := 99) (show decode (k_c k_Rule_joined) 1 = .ok (.tableswitch (251) (7) (27) #[99, 108, 117, 125, 133, 149, 165, 181, 197, 213, 251, 251, 251, 251, 251, 251, 251, 251, 251, 251, 229], 99) by decide +kernel) (by rw [h20]; decide) (by rw [h20]; decide) (by rw [h20]; decide +kernel) (by decide) ?_
                          exact sf_weak [2, 3] rfl (t_Rule_joined_252 hd hf)
                        ·
                          rcases sw_ite hf with ⟨h21, hf⟩ | ⟨h21, hf⟩
                          · refine sf_tin (a := a1) (off := 251) (tgt := 252) (len := 99) (show decode (k_c k_Rule_joined) 1 = .ok (.tableswitch (251) (7) (27) #[99, 108, 117, 125, 133, 149, 165, 181, 197, 213, 251, 251, 251, 251, 251, 251, 251, 251, 251, 251, 229], 99) by decide +kernel) (by rw [h21]; decide) (by rw [h21]; decide) (by rw [h21]; decide +kernel) (by decide) ?_
                            exact sf_weak [2, 3] rfl (t_Rule_joined_252 hd hf)
                          ·
                            rcases sw_ite hf with ⟨h22, hf⟩ | ⟨h22, hf⟩
                            · refine sf_tin (a := a1) (off := 251) (tgt := 252) (len := 99) (show decode (k_c k_Rule_joined) 1 = .ok (.tableswitch (251) (7) (27) #[99, 108, 117, 125, 133, 149, 165, 181, 197, 213, 251, 251, 251, 251, 251, 251, 251, 251, 251, 251, 229], 99) by decide +kernel) (by rw [h22]; decide) (by rw [h22]; decide) (by rw [h22]; decide +kernel) (by decide) ?_
                              exact sf_weak [2, 3] rfl (t_Rule_joined_252 hd hf)
                            ·
                              rcases sw_ite hf with ⟨h23, hf⟩ | ⟨h23, hf⟩
                              · refine sf_tin (a := a1) (off := 251) (tgt := 252) (len := 99) (show decode (k_c k_Rule_joined) 1 = .ok (.tableswitch (251) (7) (27) #[99, 108, 117, 125, 133, 149, 165, 181, 197, 213, 251, 251, 251, 251, 251, 251, 251, 251, 251, 251, 229], 99) by decide +kernel) (by rw [h23]; decide) (by rw [h23]; decide) (by rw [h23]; decide +kernel) (by decide) ?_
                                exact sf_weak [2, 3] rfl (t_Rule_joined_252 hd hf)
                              ·
                                rcases sw_ite hf with ⟨h24, hf⟩ | ⟨h24, hf⟩
                                · refine sf_tin (a := a1) (off := 251) (tgt := 252) (len := 99) (show decode (k_c k_Rule_joined) 1 = .ok (.tableswitch (251) (7) (27) #[99, 108, 117, 125, 133, 149, 165, 181, 197, 213, 251, 251, 251, 251, 251, 251, 251, 251, 251, 251, 229], 99) by decide +kernel) (by rw [h24]; decide) (by rw [h24]; decide) (by rw [h24]; decide +kernel) (by decide) ?_
                                  exact sf_weak [2, 3] rfl (t_Rule_joined_252 hd hf)
                                ·
                                  rcases sw_ite hf with ⟨h25, hf⟩ | ⟨h25, hf⟩
                                  · refine sf_tin (a := a1) (off := 251) (tgt := 252) (len := 99) (show decode (k_c k_Rule_joined) 1 = .ok (.tableswitch (251) (7) (27) #[99, 108, 117, 125, 133, 149, 165, 181, 197, 213, 251, 251, 251, 251, 251, 251, 251, 251, 251, 251, 229], 99) by decide +kernel) (by rw [h25]; decide) (by rw [h25]; decide) (by rw [h25]; decide +kernel) (by decide) ?_
                                    exact sf_weak [2, 3] rfl (t_Rule_joined_252 hd hf)
                                  ·
                                    rcases sw_ite hf with ⟨h26, hf⟩ | ⟨h26, hf⟩
                                    · refine sf_tin (a := a1) (off := 251) (tgt := 252) (len := 99) (show decode (k_c k_Rule_joined) 1 = .ok (.tableswitch (251) (7) (27) #[99, 108, 117, 125, 133, 149, 165, 181, 197, 213, 251, 251, 251, 251, 251, 251, 251, 251, 251, 251, 229], 99) by decide +kernel) (by rw [h26]; decide) (by rw [h26]; decide) (by rw [h26]; decide +kernel) (by decide) ?_
                                      exact sf_weak [2, 3] rfl (t_Rule_joined_252 hd hf)
                                    ·
                                      rcases sw_ite hf with ⟨h27, hf⟩ | ⟨h27, hf⟩
                                      · refine sf_tin (a := a1) (off := 251) (tgt := 252) (len := 99) (show decode (k_c k_Rule_joined) 1 = .ok (.tableswitch (251) (7) (27) #[99, 108, 117, 125, 133, 149, 165, 181, 197, 213, 251, 251, 251, 251, 251, 251, 251, 251, 251, 251, 229], 99) by decide +kernel) (by rw [h27]; decide) (by rw [h27]; decide) (by rw [h27]; decide +kernel) (by decide) ?_
                                        exact sf_weak [2, 3] rfl (t_Rule_joined_252 hd hf)
                                      ·
                                        rcases sw_ite hf with ⟨h28, hf⟩ | ⟨h28, hf⟩
                                        · refine sf_tin (a := a1) (off := 251) (tgt := 252) (len := 99) (show decode (k_c k_Rule_joined) 1 = .ok (.tableswitch (251) (7) (27) #[99, 108, 117, 125, 133, 149, 165, 181, 197, 213, 251, 251, 251, 251, 251, 251, 251, 251, 251, 251, 229], 99) by decide +kernel) (by rw [h28]; decide) (by rw [h28]; decide) (by rw [h28]; decide +kernel) (by decide) ?_
                                          exact sf_weak [2, 3] rfl (t_Rule_joined_252 hd hf)
                                        ·
                                          rcases sw_ite hf with ⟨h29, hf⟩ | ⟨h29, hf⟩
                                          · refine sf_tin (a := a1) (off := 229) (tgt := 230) (len := 99) (show decode (k_c k_Rule_joined) 1 = .ok (.tableswitch (251) (7) (27) #[99, 108, 117, 125, 133, 149, 165, 181, 197, 213, 251, 251, 251, 251, 251, 251, 251, 251, 251, 251, 229], 99) by decide +kernel) (by rw [h29]; decide) (by rw [h29]; decide) (by rw [h29]; decide +kernel) (by decide) ?_
                                            refine sf_blk [(.lload_n 2, 0, 0, .null), (.lconst 0, 0, 0, .long (0 : Int64)), (.lcmp, 0, 0, .null)] (lv' := [(0, .ref a0), (1, .int a1), (2, .long a2), (4, .long a4)]) (st' := [.int (lg_cmp a2 (0 : Int64))]) (M1 := M) (ob := []) (pc' := 233) (by decide +kernel) rfl rfl sw_a0 ?_
                                            refine sf_l_eq (off := 14) (tgt := 247) (by decide +kernel) (by decide) hf (fun hc hf => ?_) (fun hc hf => ?_)
                                            · exact sf_weak [] rfl (t_Rule_joined_247 hd hf)
                                            · refine sf_blk [(.lload 4, 0, 0, .null), (.lconst 0, 0, 0, .long (0 : Int64)), (.lcmp, 0, 0, .null)] (lv' := [(0, .ref a0), (1, .int a1), (2, .long a2), (4, .long a4)]) (st' := [.int (lg_cmp a4 (0 : Int64))]) (M1 := M) (ob := []) (pc' := 240) (by decide +kernel) rfl rfl sw_a0 ?_
                                              refine sf_l_eq (off := 7) (tgt := 247) (by decide +kernel) (by decide) hf (fun hc hf => ?_) (fun hc hf => ?_)
                                              · exact sf_weak [] rfl (t_Rule_joined_247 hd hf)
                                              · refine sf_blk [(.iconst (1), 0, 0, .int (1 : Int32))] (lv' := [(0, .ref a0), (1, .int a1), (2, .long a2), (4, .long a4)]) (st' := [.int (1 : Int32)]) (M1 := M) (ob := []) (pc' := 244) (by decide +kernel) rfl rfl sw_a0 ?_
                                                refine sf_goto (off := 4) (tgt := 248) (by decide +kernel) (by decide) ?_
                                                exact sf_weak [] rfl (t_Rule_joined_248 hd hf)
                                          ·
                                            have qh1 := sw_ne (n := 7) h1 (by decide)
                                            have qh4 := sw_ne (n := 8) h4 (by decide)
                                            have qh7 := sw_ne (n := 9) h7 (by decide)
                                            have qh10 := sw_ne (n := 10) h10 (by decide)
                                            have qh13 := sw_ne (n := 11) h13 (by decide)
                                            have qh14 := sw_ne (n := 12) h14 (by decide)
                                            have qh15 := sw_ne (n := 13) h15 (by decide)
                                            have qh16 := sw_ne (n := 14) h16 (by decide)
                                            have qh17 := sw_ne (n := 15) h17 (by decide)
                                            have qh18 := sw_ne (n := 16) h18 (by decide)
                                            have qh19 := sw_ne (n := 17) h19 (by decide)
                                            have qh20 := sw_ne (n := 18) h20 (by decide)
                                            have qh21 := sw_ne (n := 19) h21 (by decide)
                                            have qh22 := sw_ne (n := 20) h22 (by decide)
                                            have qh23 := sw_ne (n := 21) h23 (by decide)
                                            have qh24 := sw_ne (n := 22) h24 (by decide)
                                            have qh25 := sw_ne (n := 23) h25 (by decide)
                                            have qh26 := sw_ne (n := 24) h26 (by decide)
                                            have qh27 := sw_ne (n := 25) h27 (by decide)
                                            have qh28 := sw_ne (n := 26) h28 (by decide)
                                            have qh29 := sw_ne (n := 27) h29 (by decide)
                                            refine sf_tout (a := a1) (tgt := 252) (len := 99) (show decode (k_c k_Rule_joined) 1 = .ok (.tableswitch (251) (7) (27) #[99, 108, 117, 125, 133, 149, 165, 181, 197, 213, 251, 251, 251, 251, 251, 251, 251, 251, 251, 251, 229], 99) by decide +kernel) (by omega) (by decide) ?_
                                            exact sf_weak [2, 3] rfl (t_Rule_joined_252 hd hf)
theorem o_Rule_joined (g : sw_G) {d : Nat} (hd : 3 ≤ d) {N : Nat} {a0 : Nat} {a1 : Int32} {a2 : Int64} {a4 : Int64} {M : sw_M} {r : Int64 × sw_M} (hf : f_Rule_joined N a0 a1 a2 a4 M = some r) : sw_Ok g k_Rule_joined d [.ref a0, .int a1, .long a2, .long a4] M (some (.long r.1)) r.2 := sf_met (by decide +kernel) rfl (by decide) (Nat.le_of_ble_eq_true rfl) (t_Rule_joined hd hf)
def f_Rule_uses_186 (N : Nat) (a0 : Nat) (a2 : Int32) (M : sw_M) : Option (Int32 × sw_M) :=
  sw_gd [sw_ok M a0 7] (if (rd_I M a0 4) = 0 then if a2 ≤ 0 then some ((0 : Int32), M)
  else sw_gd [sw_ar M (rd_R M a0 2) 16 (0 : Int32)] (if (rd_L M (rd_R M a0 2) (0 : Int32).toNatClampNeg) = (0 : Int64) then some ((0 : Int32), M)
  else some ((1 : Int32), M))
  else some ((0 : Int32), M))
set_option maxRecDepth 10000 in
theorem t_Rule_uses_186 {g : sw_G} {d n0 : Nat} (hd : 4 ≤ d) {r : Int32 × sw_M} {N : Nat} {a0 : Nat} {a2 : Int32} {M : sw_M} (hf : f_Rule_uses_186 N a0 a2 M = some r) : sw_F g k_Rule_uses d n0 (some (.int r.1)) r.2 186 [(0, .ref a0), (2, .int a2)] [] M := by
  unfold f_Rule_uses_186 at hf
  obtain ⟨h1, hf⟩ := sw_gd_1 hf
  refine sf_blk [(.aload_n 0, 0, 0, .null), (.getfield 33, 7, 4, .null)] (lv' := [(0, .ref a0), (2, .int a2)]) (st' := [.int (rd_I M a0 4)]) (M1 := M) (ob := [sw_ok M a0 7]) (pc' := 190) (by decide +kernel) rfl rfl (sw_a1 h1 sw_a0) ?_
  refine sf_z_ne (off := 22) (tgt := 212) (by decide +kernel) (by decide) hf (fun hc hf => ?_) (fun hc hf => ?_)
  · refine sf_blk [(.iconst (0), 0, 0, .int (0 : Int32))] (lv' := [(0, .ref a0), (2, .int a2)]) (st' := [.int (0 : Int32)]) (M1 := M) (ob := []) (pc' := 213) (by decide +kernel) rfl rfl sw_a0 ?_
    cases hf
    exact sf_bool rfl rfl (by decide +kernel)
  · refine sf_blk [(.iload_n 2, 0, 0, .null)] (lv' := [(0, .ref a0), (2, .int a2)]) (st' := [.int a2]) (M1 := M) (ob := []) (pc' := 194) (by decide +kernel) rfl rfl sw_a0 ?_
    refine sf_z_le (off := 18) (tgt := 212) (by decide +kernel) (by decide) hf (fun hc hf => ?_) (fun hc hf => ?_)
    · refine sf_blk [(.iconst (0), 0, 0, .int (0 : Int32))] (lv' := [(0, .ref a0), (2, .int a2)]) (st' := [.int (0 : Int32)]) (M1 := M) (ob := []) (pc' := 213) (by decide +kernel) rfl rfl sw_a0 ?_
      cases hf
      exact sf_bool rfl rfl (by decide +kernel)
    · obtain ⟨h2, hf⟩ := sw_gd_1 hf
      refine sf_blk [(.aload_n 0, 0, 0, .null), (.getfield 18, 7, 2, .null), (.iconst (0), 0, 0, .int (0 : Int32)), (.laload, 0, 0, .null), (.lconst 0, 0, 0, .long (0 : Int64)), (.lcmp, 0, 0, .null)] (lv' := [(0, .ref a0), (2, .int a2)]) (st' := [.int (lg_cmp (rd_L M (rd_R M a0 2) (0 : Int32).toNatClampNeg) (0 : Int64))]) (M1 := M) (ob := [sw_ok M a0 7, sw_ar M (rd_R M a0 2) 16 (0 : Int32)]) (pc' := 205) (by decide +kernel) rfl rfl (sw_a1 h1 (sw_a1 h2 sw_a0)) ?_
      refine sf_l_eq (off := 7) (tgt := 212) (by decide +kernel) (by decide) hf (fun hc hf => ?_) (fun hc hf => ?_)
      · refine sf_blk [(.iconst (0), 0, 0, .int (0 : Int32))] (lv' := [(0, .ref a0), (2, .int a2)]) (st' := [.int (0 : Int32)]) (M1 := M) (ob := []) (pc' := 213) (by decide +kernel) rfl rfl sw_a0 ?_
        cases hf
        exact sf_bool rfl rfl (by decide +kernel)
      · refine sf_blk [(.iconst (1), 0, 0, .int (1 : Int32))] (lv' := [(0, .ref a0), (2, .int a2)]) (st' := [.int (1 : Int32)]) (M1 := M) (ob := []) (pc' := 209) (by decide +kernel) rfl rfl sw_a0 ?_
        refine sf_goto (off := 4) (tgt := 213) (by decide +kernel) (by decide) ?_
        cases hf
        exact sf_bool rfl rfl (by decide +kernel)
def f_Rule_uses_180 (N : Nat) (k18 : Nat → Nat → Int32 → Int32 → sw_M → Option (Int32 × sw_M)) (a0 : Nat) (a1 : Nat) (a2 : Int32) (a3 : Int32) (M : sw_M) : Option (Int32 × sw_M) :=
  k18 a0 a1 a2 (a3 + (1 : Int32)) M
set_option maxRecDepth 10000 in
theorem t_Rule_uses_180 {g : sw_G} {d n0 : Nat} (hd : 4 ≤ d) {r : Int32 × sw_M} (k18 : Nat → Nat → Int32 → Int32 → sw_M → Option (Int32 × sw_M)) (hk18 : ∀ (a0 : Nat) (a1 : Nat) (a2 : Int32) (a3 : Int32) (M : sw_M), k18 a0 a1 a2 a3 M = some r → sw_F g k_Rule_uses d n0 (some (.int r.1)) r.2 18 [(0, .ref a0), (1, .ref a1), (2, .int a2), (3, .int a3)] [] M) {N : Nat} {a0 : Nat} {a1 : Nat} {a2 : Int32} {a3 : Int32} {M : sw_M} (hf : f_Rule_uses_180 N k18 a0 a1 a2 a3 M = some r) : sw_F g k_Rule_uses d n0 (some (.int r.1)) r.2 180 [(0, .ref a0), (1, .ref a1), (2, .int a2), (3, .int a3)] [] M := by
  unfold f_Rule_uses_180 at hf
  refine sf_blk [(.iinc 3 (1), 0, 0, .int (1 : Int32))] (lv' := [(3, .int (a3 + (1 : Int32))), (0, .ref a0), (1, .ref a1), (2, .int a2)]) (st' := []) (M1 := M) (ob := []) (pc' := 183) (by decide +kernel) rfl rfl sw_a0 ?_
  refine sf_goto (off := -165) (tgt := 18) (by decide +kernel) (by decide) ?_
  exact sf_weak [1, 2, 3, 0] rfl (hk18 _ _ _ _ _ hf)
def f_Rule_uses_91 (N : Nat) (k18 : Nat → Nat → Int32 → Int32 → sw_M → Option (Int32 × sw_M)) (a0 : Nat) (a1 : Nat) (a2 : Int32) (a3 : Int32) (b0 : Int64) (b1 : Nat) (b2 : Int32) (b3 : Nat) (M : sw_M) : Option (Int32 × sw_M) :=
  sw_gd [sw_ok M b1 7] ((f_Rule_checked N b1 b0 M).bind (fun u2 => sw_gd [sw_ar u2.2 b3 16 b2] (f_Rule_uses_180 N k18 a0 a1 (a2 + (1 : Int32)) a3 (wr_L u2.2 b3 b2.toNatClampNeg u2.1))))
set_option maxRecDepth 10000 in
theorem t_Rule_uses_91 {g : sw_G} {d n0 : Nat} (hd : 4 ≤ d) {r : Int32 × sw_M} (k18 : Nat → Nat → Int32 → Int32 → sw_M → Option (Int32 × sw_M)) (hk18 : ∀ (a0 : Nat) (a1 : Nat) (a2 : Int32) (a3 : Int32) (M : sw_M), k18 a0 a1 a2 a3 M = some r → sw_F g k_Rule_uses d n0 (some (.int r.1)) r.2 18 [(0, .ref a0), (1, .ref a1), (2, .int a2), (3, .int a3)] [] M) {N : Nat} {a0 : Nat} {a1 : Nat} {a2 : Int32} {a3 : Int32} {b0 : Int64} {b1 : Nat} {b2 : Int32} {b3 : Nat} {M : sw_M} (hf : f_Rule_uses_91 N k18 a0 a1 a2 a3 b0 b1 b2 b3 M = some r) : sw_F g k_Rule_uses d n0 (some (.int r.1)) r.2 91 [(0, .ref a0), (1, .ref a1), (2, .int a2), (3, .int a3)] [.long b0, .ref b1, .int b2, .ref b3] M := by
  unfold f_Rule_uses_91 at hf
  obtain ⟨h1, hf⟩ := sw_gd_1 hf
  obtain ⟨u2, hu2, hf⟩ := sw_bnd hf
  refine sf_callV (i := 42) (k2 := k_Rule_checked) (d2 := d - 1) (As := [.long b0]) (st := [.int b2, .ref b3]) (q := b1) (ci := 7) mf_Rule_checked mi_Rule_checked ms_Rule_checked (sw_m4 183 (by decide +kernel)) rfl (by decide) (by decide +kernel) rfl (Nat.le_of_ble_eq_true rfl) (by omega) h1 (o_Rule_checked g (d := d - 1) (by omega) hu2) ?_
  show sw_F _ _ _ _ _ _ 94 [(0, .ref a0), (1, .ref a1), (2, .int a2), (3, .int a3)] [.long u2.1, .int b2, .ref b3] u2.2
  obtain ⟨h3, hf⟩ := sw_gd_1 hf
  refine sf_blk [(.lastore, 0, 0, .null), (.iinc 2 (1), 0, 0, .int (1 : Int32))] (lv' := [(2, .int (a2 + (1 : Int32))), (0, .ref a0), (1, .ref a1), (3, .int a3)]) (st' := []) (M1 := (wr_L u2.2 b3 b2.toNatClampNeg u2.1)) (ob := [sw_ar u2.2 b3 16 b2]) (pc' := 98) (by decide +kernel) rfl rfl (sw_a1 h3 sw_a0) ?_
  refine sf_goto (off := 82) (tgt := 180) (by decide +kernel) (by decide) ?_
  exact sf_weak [1, 2, 0, 3] rfl (t_Rule_uses_180 hd _ hk18 hf)
def f_Rule_uses_54 (N : Nat) (k18 : Nat → Nat → Int32 → Int32 → sw_M → Option (Int32 × sw_M)) (a0 : Nat) (a1 : Nat) (a2 : Int32) (a3 : Int32) (a4 : Int32) (M : sw_M) : Option (Int32 × sw_M) :=
  sw_gd [sw_ok M a0 7] (sw_gd [sw_oka M (rd_R M a0 2)] (if (nI (sw_len (rd_R M a0 2))) ≤ a2 then f_Rule_uses_180 N k18 a0 a1 a2 a3 M
  else if a4 = (2 : Int32) then sw_gd [sw_ar M (rd_R M a0 1) 13 a3] (f_Rule_uses_91 N k18 a0 a1 a2 a3 (rd_I M (rd_R M a0 1) a3.toNatClampNeg).toInt64 a0 a2 (rd_R M a0 2) M)
  else sw_gd [sw_ok M a1 4] ((f_Orbit_named N a1 a4 M).bind (fun u4 => f_Rule_uses_91 N k18 a0 a1 a2 a3 u4.1 a0 a2 (rd_R M a0 2) u4.2))))
set_option maxRecDepth 10000 in
theorem t_Rule_uses_54 {g : sw_G} {d n0 : Nat} (hd : 4 ≤ d) {r : Int32 × sw_M} (k18 : Nat → Nat → Int32 → Int32 → sw_M → Option (Int32 × sw_M)) (hk18 : ∀ (a0 : Nat) (a1 : Nat) (a2 : Int32) (a3 : Int32) (M : sw_M), k18 a0 a1 a2 a3 M = some r → sw_F g k_Rule_uses d n0 (some (.int r.1)) r.2 18 [(0, .ref a0), (1, .ref a1), (2, .int a2), (3, .int a3)] [] M) {N : Nat} {a0 : Nat} {a1 : Nat} {a2 : Int32} {a3 : Int32} {a4 : Int32} {M : sw_M} (hf : f_Rule_uses_54 N k18 a0 a1 a2 a3 a4 M = some r) : sw_F g k_Rule_uses d n0 (some (.int r.1)) r.2 54 [(0, .ref a0), (1, .ref a1), (2, .int a2), (3, .int a3), (4, .int a4)] [] M := by
  unfold f_Rule_uses_54 at hf
  obtain ⟨h1, hf⟩ := sw_gd_1 hf
  obtain ⟨h2, hf⟩ := sw_gd_1 hf
  refine sf_blk [(.iload_n 2, 0, 0, .null), (.aload_n 0, 0, 0, .null), (.getfield 18, 7, 2, .null), (.arraylength, 0, 0, .null)] (lv' := [(0, .ref a0), (1, .ref a1), (2, .int a2), (3, .int a3), (4, .int a4)]) (st' := [.int (nI (sw_len (rd_R M a0 2))), .int a2]) (M1 := M) (ob := [sw_ok M a0 7, sw_oka M (rd_R M a0 2)]) (pc' := 60) (by decide +kernel) rfl rfl (sw_a1 h1 (sw_a1 h2 sw_a0)) ?_
  refine sf_j_ge (off := 120) (tgt := 180) (by decide +kernel) (by decide) hf (fun hc hf => ?_) (fun hc hf => ?_)
  · exact sf_weak [0, 1, 2, 3] rfl (t_Rule_uses_180 hd _ hk18 hf)
  · refine sf_blk [(.aload_n 0, 0, 0, .null), (.getfield 18, 7, 2, .null), (.iload_n 2, 0, 0, .null), (.aload_n 0, 0, 0, .null), (.iload 4, 0, 0, .null), (.iconst (2), 0, 0, .int (2 : Int32))] (lv' := [(0, .ref a0), (1, .ref a1), (2, .int a2), (3, .int a3), (4, .int a4)]) (st' := [.int (2 : Int32), .int a4, .ref a0, .int a2, .ref (rd_R M a0 2)]) (M1 := M) (ob := [sw_ok M a0 7]) (pc' := 72) (by decide +kernel) rfl rfl (sw_a1 h1 sw_a0) ?_
    refine sf_j_ne (off := 13) (tgt := 85) (by decide +kernel) (by decide) hf (fun hc hf => ?_) (fun hc hf => ?_)
    · obtain ⟨h3, hf⟩ := sw_gd_1 hf
      refine sf_blk [(.aload_n 1, 0, 0, .null), (.iload 4, 0, 0, .null)] (lv' := [(0, .ref a0), (1, .ref a1), (2, .int a2), (3, .int a3), (4, .int a4)]) (st' := [.int a4, .ref a1, .ref a0, .int a2, .ref (rd_R M a0 2)]) (M1 := M) (ob := []) (pc' := 88) (by decide +kernel) rfl rfl sw_a0 ?_
      obtain ⟨u4, hu4, hf⟩ := sw_bnd hf
      refine sf_callV (i := 36) (k2 := k_Orbit_named) (d2 := d - 1) (As := [.int a4]) (st := [.ref a0, .int a2, .ref (rd_R M a0 2)]) (q := a1) (ci := 4) mf_Orbit_named mi_Orbit_named ms_Orbit_named (sw_m4 175 (by decide +kernel)) rfl (by decide) (by decide +kernel) rfl (Nat.le_of_ble_eq_true rfl) (by omega) h3 (o_Orbit_named g (d := d - 1) (by omega) hu4) ?_
      show sw_F _ _ _ _ _ _ 91 [(0, .ref a0), (1, .ref a1), (2, .int a2), (3, .int a3), (4, .int a4)] [.long u4.1, .ref a0, .int a2, .ref (rd_R M a0 2)] u4.2
      exact sf_weak [0, 1, 2, 3] rfl (t_Rule_uses_91 hd _ hk18 hf)
    · obtain ⟨h5, hf⟩ := sw_gd_1 hf
      refine sf_blk [(.aload_n 0, 0, 0, .null), (.getfield 15, 7, 1, .null), (.iload_n 3, 0, 0, .null), (.iaload, 0, 0, .null), (.i2l, 0, 0, .null)] (lv' := [(0, .ref a0), (1, .ref a1), (2, .int a2), (3, .int a3), (4, .int a4)]) (st' := [.long (rd_I M (rd_R M a0 1) a3.toNatClampNeg).toInt64, .ref a0, .int a2, .ref (rd_R M a0 2)]) (M1 := M) (ob := [sw_ok M a0 7, sw_ar M (rd_R M a0 1) 13 a3]) (pc' := 82) (by decide +kernel) rfl rfl (sw_a1 h1 (sw_a1 h5 sw_a0)) ?_
      refine sf_goto (off := 9) (tgt := 91) (by decide +kernel) (by decide) ?_
      exact sf_weak [0, 1, 2, 3] rfl (t_Rule_uses_91 hd _ hk18 hf)
def f_Rule_uses_137 (N : Nat) (k18 : Nat → Nat → Int32 → Int32 → sw_M → Option (Int32 × sw_M)) (a0 : Nat) (a1 : Nat) (a2 : Int32) (a3 : Int32) (b0 : Int32) (b1 : Int32) (b2 : Nat) (M : sw_M) : Option (Int32 × sw_M) :=
  (f_Rule_bit N b0 M).bind (fun u1 => sw_gd [sw_ar u1.2 b2 16 b1] (f_Rule_uses_180 N k18 a0 a1 a2 a3 (wr_L u1.2 b2 b1.toNatClampNeg u1.1)))
set_option maxRecDepth 10000 in
theorem t_Rule_uses_137 {g : sw_G} {d n0 : Nat} (hd : 4 ≤ d) {r : Int32 × sw_M} (k18 : Nat → Nat → Int32 → Int32 → sw_M → Option (Int32 × sw_M)) (hk18 : ∀ (a0 : Nat) (a1 : Nat) (a2 : Int32) (a3 : Int32) (M : sw_M), k18 a0 a1 a2 a3 M = some r → sw_F g k_Rule_uses d n0 (some (.int r.1)) r.2 18 [(0, .ref a0), (1, .ref a1), (2, .int a2), (3, .int a3)] [] M) {N : Nat} {a0 : Nat} {a1 : Nat} {a2 : Int32} {a3 : Int32} {b0 : Int32} {b1 : Int32} {b2 : Nat} {M : sw_M} (hf : f_Rule_uses_137 N k18 a0 a1 a2 a3 b0 b1 b2 M = some r) : sw_F g k_Rule_uses d n0 (some (.int r.1)) r.2 137 [(0, .ref a0), (1, .ref a1), (2, .int a2), (3, .int a3)] [.int b0, .int b1, .ref b2] M := by
  unfold f_Rule_uses_137 at hf
  obtain ⟨u1, hu1, hf⟩ := sw_bnd hf
  refine sf_callS (i := 46) (k2 := k_Rule_bit) (d2 := d - 1) (As := [.int b0]) (st := [.int b1, .ref b2]) mf_Rule_bit mi_Rule_bit (sw_m4 189 (by decide +kernel)) (by decide +kernel) rfl (Nat.le_of_ble_eq_true rfl) (by omega) (o_Rule_bit g (d := d - 1) (by omega) hu1) ?_
  show sw_F _ _ _ _ _ _ 140 [(0, .ref a0), (1, .ref a1), (2, .int a2), (3, .int a3)] [.long u1.1, .int b1, .ref b2] u1.2
  obtain ⟨h2, hf⟩ := sw_gd_1 hf
  refine sf_blk [(.lastore, 0, 0, .null)] (lv' := [(0, .ref a0), (1, .ref a1), (2, .int a2), (3, .int a3)]) (st' := []) (M1 := (wr_L u1.2 b2 b1.toNatClampNeg u1.1)) (ob := [sw_ar u1.2 b2 16 b1]) (pc' := 141) (by decide +kernel) rfl rfl (sw_a1 h2 sw_a0) ?_
  refine sf_goto (off := 39) (tgt := 180) (by decide +kernel) (by decide) ?_
  exact sf_weak [0, 1, 2, 3] rfl (t_Rule_uses_180 hd _ hk18 hf)
def f_Rule_uses_18 (N : Nat) : Nat → Nat → Nat → Int32 → Int32 → sw_M → Option (Int32 × sw_M)
  | 0, _, _, _, _, _ => none
  | j + 1, a0, a1, a2, a3, M =>
  sw_gd [sw_ok M a0 7] (if (rd_I M a0 3) ≤ a3 then f_Rule_uses_186 N a0 a2 M
  else if (rd_I M a0 4) = 0 then sw_gd [sw_ar M (rd_R M a0 0) 13 a3] (if (rd_I M (rd_R M a0 0) a3.toNatClampNeg) = (2 : Int32) then f_Rule_uses_54 N (f_Rule_uses_18 N j) a0 a1 a2 a3 (rd_I M (rd_R M a0 0) a3.toNatClampNeg) M
  else if (rd_I M (rd_R M a0 0) a3.toNatClampNeg) < (29 : Int32) then if (rd_I M (rd_R M a0 0) a3.toNatClampNeg) = (28 : Int32) then if a2 ≤ 0 then f_Rule_uses_180 N (f_Rule_uses_18 N j) a0 a1 a2 a3 M
  else sw_gd [sw_ar M (rd_R M a0 2) 16 (a2 - (1 : Int32))] (if (rd_L M (rd_R M a0 2) (a2 - (1 : Int32)).toNatClampNeg) = (0 : Int64) then f_Rule_uses_137 N (f_Rule_uses_18 N j) a0 a1 a2 a3 (1 : Int32) (a2 - (1 : Int32)) (rd_R M a0 2) M
  else f_Rule_uses_137 N (f_Rule_uses_18 N j) a0 a1 a2 a3 (0 : Int32) (a2 - (1 : Int32)) (rd_R M a0 2) M)
  else if a2 ≤ (1 : Int32) then f_Rule_uses_180 N (f_Rule_uses_18 N j) a0 a1 a2 a3 M
  else sw_gd [sw_ar M (rd_R M a0 2) 16 ((a2 + (-1 : Int32)) - (1 : Int32))] (sw_gd [sw_ar M (rd_R M a0 2) 16 (a2 + (-1 : Int32))] ((f_Rule_joined N a0 (rd_I M (rd_R M a0 0) a3.toNatClampNeg) (rd_L M (rd_R M a0 2) ((a2 + (-1 : Int32)) - (1 : Int32)).toNatClampNeg) (rd_L M (rd_R M a0 2) (a2 + (-1 : Int32)).toNatClampNeg) M).bind (fun u5 => sw_gd [sw_ar u5.2 (rd_R M a0 2) 16 ((a2 + (-1 : Int32)) - (1 : Int32))] (f_Rule_uses_180 N (f_Rule_uses_18 N j) a0 a1 (a2 + (-1 : Int32)) a3 (wr_L u5.2 (rd_R M a0 2) ((a2 + (-1 : Int32)) - (1 : Int32)).toNatClampNeg u5.1)))))
  else f_Rule_uses_54 N (f_Rule_uses_18 N j) a0 a1 a2 a3 (rd_I M (rd_R M a0 0) a3.toNatClampNeg) M)
  else f_Rule_uses_186 N a0 a2 M)
set_option maxRecDepth 10000 in
theorem t_Rule_uses_18 {g : sw_G} {d n0 : Nat} (hd : 4 ≤ d) {r : Int32 × sw_M} {N : Nat} : ∀ (j : Nat) (a0 : Nat) (a1 : Nat) (a2 : Int32) (a3 : Int32) (M : sw_M), f_Rule_uses_18 N j a0 a1 a2 a3 M = some r → sw_F g k_Rule_uses d n0 (some (.int r.1)) r.2 18 [(0, .ref a0), (1, .ref a1), (2, .int a2), (3, .int a3)] [] M := by
  intro j
  induction j with
  | zero =>
    intro a0 a1 a2 a3 M hf
    rw [f_Rule_uses_18] at hf
    cases hf
  | succ j ih =>
    intro a0 a1 a2 a3 M hf
    rw [f_Rule_uses_18] at hf
    obtain ⟨h1, hf⟩ := sw_gd_1 hf
    refine sf_blk [(.iload_n 3, 0, 0, .null), (.aload_n 0, 0, 0, .null), (.getfield 22, 7, 3, .null)] (lv' := [(0, .ref a0), (1, .ref a1), (2, .int a2), (3, .int a3)]) (st' := [.int (rd_I M a0 3), .int a3]) (M1 := M) (ob := [sw_ok M a0 7]) (pc' := 23) (by decide +kernel) rfl rfl (sw_a1 h1 sw_a0) ?_
    refine sf_j_ge (off := 163) (tgt := 186) (by decide +kernel) (by decide) hf (fun hc hf => ?_) (fun hc hf => ?_)
    · exact sf_weak [0, 2] rfl (t_Rule_uses_186 hd hf)
    · refine sf_blk [(.aload_n 0, 0, 0, .null), (.getfield 33, 7, 4, .null)] (lv' := [(0, .ref a0), (1, .ref a1), (2, .int a2), (3, .int a3)]) (st' := [.int (rd_I M a0 4)]) (M1 := M) (ob := [sw_ok M a0 7]) (pc' := 30) (by decide +kernel) rfl rfl (sw_a1 h1 sw_a0) ?_
      refine sf_z_ne (off := 156) (tgt := 186) (by decide +kernel) (by decide) hf (fun hc hf => ?_) (fun hc hf => ?_)
      · exact sf_weak [0, 2] rfl (t_Rule_uses_186 hd hf)
      · obtain ⟨h2, hf⟩ := sw_gd_1 hf
        refine sf_blk [(.aload_n 0, 0, 0, .null), (.getfield 9, 7, 0, .null), (.iload_n 3, 0, 0, .null), (.iaload, 0, 0, .null), (.istore 4, 0, 0, .null), (.iload 4, 0, 0, .null), (.iconst (2), 0, 0, .int (2 : Int32))] (lv' := [(4, .int (rd_I M (rd_R M a0 0) a3.toNatClampNeg)), (0, .ref a0), (1, .ref a1), (2, .int a2), (3, .int a3)]) (st' := [.int (2 : Int32), .int (rd_I M (rd_R M a0 0) a3.toNatClampNeg)]) (M1 := M) (ob := [sw_ok M a0 7, sw_ar M (rd_R M a0 0) 13 a3]) (pc' := 44) (by decide +kernel) rfl rfl (sw_a1 h1 (sw_a1 h2 sw_a0)) ?_
        refine sf_j_eq (off := 10) (tgt := 54) (by decide +kernel) (by decide) hf (fun hc hf => ?_) (fun hc hf => ?_)
        · exact sf_weak [1, 2, 3, 4, 0] rfl (t_Rule_uses_54 hd _ ih hf)
        · refine sf_blk [(.iload 4, 0, 0, .null), (.bipush (29), 0, 0, .int (29 : Int32))] (lv' := [(4, .int (rd_I M (rd_R M a0 0) a3.toNatClampNeg)), (0, .ref a0), (1, .ref a1), (2, .int a2), (3, .int a3)]) (st' := [.int (29 : Int32), .int (rd_I M (rd_R M a0 0) a3.toNatClampNeg)]) (M1 := M) (ob := []) (pc' := 51) (by decide +kernel) rfl rfl sw_a0 ?_
          refine sf_j_lt (off := 50) (tgt := 101) (by decide +kernel) (by decide) hf (fun hc hf => ?_) (fun hc hf => ?_)
          · refine sf_blk [(.iload 4, 0, 0, .null), (.bipush (28), 0, 0, .int (28 : Int32))] (lv' := [(4, .int (rd_I M (rd_R M a0 0) a3.toNatClampNeg)), (0, .ref a0), (1, .ref a1), (2, .int a2), (3, .int a3)]) (st' := [.int (28 : Int32), .int (rd_I M (rd_R M a0 0) a3.toNatClampNeg)]) (M1 := M) (ob := []) (pc' := 105) (by decide +kernel) rfl rfl sw_a0 ?_
            refine sf_j_ne (off := 39) (tgt := 144) (by decide +kernel) (by decide) hf (fun hc hf => ?_) (fun hc hf => ?_)
            · refine sf_blk [(.iload_n 2, 0, 0, .null), (.iconst (1), 0, 0, .int (1 : Int32))] (lv' := [(4, .int (rd_I M (rd_R M a0 0) a3.toNatClampNeg)), (0, .ref a0), (1, .ref a1), (2, .int a2), (3, .int a3)]) (st' := [.int (1 : Int32), .int a2]) (M1 := M) (ob := []) (pc' := 146) (by decide +kernel) rfl rfl sw_a0 ?_
              refine sf_j_le (off := 34) (tgt := 180) (by decide +kernel) (by decide) hf (fun hc hf => ?_) (fun hc hf => ?_)
              · exact sf_weak [1, 2, 3, 4] rfl (t_Rule_uses_180 hd _ ih hf)
              · obtain ⟨h3, hf⟩ := sw_gd_1 hf
                obtain ⟨h4, hf⟩ := sw_gd_1 hf
                refine sf_blk [(.iinc 2 (-1), 0, 0, .int (-1 : Int32)), (.aload_n 0, 0, 0, .null), (.getfield 18, 7, 2, .null), (.iload_n 2, 0, 0, .null), (.iconst (1), 0, 0, .int (1 : Int32)), (.isub, 0, 0, .null), (.aload_n 0, 0, 0, .null), (.iload 4, 0, 0, .null), (.aload_n 0, 0, 0, .null), (.getfield 18, 7, 2, .null), (.iload_n 2, 0, 0, .null), (.iconst (1), 0, 0, .int (1 : Int32)), (.isub, 0, 0, .null), (.laload, 0, 0, .null), (.aload_n 0, 0, 0, .null), (.getfield 18, 7, 2, .null), (.iload_n 2, 0, 0, .null), (.laload, 0, 0, .null)] (lv' := [(2, .int (a2 + (-1 : Int32))), (4, .int (rd_I M (rd_R M a0 0) a3.toNatClampNeg)), (0, .ref a0), (1, .ref a1), (3, .int a3)]) (st' := [.long (rd_L M (rd_R M a0 2) (a2 + (-1 : Int32)).toNatClampNeg), .long (rd_L M (rd_R M a0 2) ((a2 + (-1 : Int32)) - (1 : Int32)).toNatClampNeg), .int (rd_I M (rd_R M a0 0) a3.toNatClampNeg), .ref a0, .int ((a2 + (-1 : Int32)) - (1 : Int32)), .ref (rd_R M a0 2)]) (M1 := M) (ob := [sw_ok M a0 7, sw_ok M a0 7, sw_ar M (rd_R M a0 2) 16 ((a2 + (-1 : Int32)) - (1 : Int32)), sw_ok M a0 7, sw_ar M (rd_R M a0 2) 16 (a2 + (-1 : Int32))]) (pc' := 176) (by decide +kernel) rfl rfl (sw_a1 h1 (sw_a1 h1 (sw_a1 h3 (sw_a1 h1 (sw_a1 h4 sw_a0))))) ?_
                obtain ⟨u5, hu5, hf⟩ := sw_bnd hf
                refine sf_callV (i := 50) (k2 := k_Rule_joined) (d2 := d - 1) (As := [.int (rd_I M (rd_R M a0 0) a3.toNatClampNeg), .long (rd_L M (rd_R M a0 2) ((a2 + (-1 : Int32)) - (1 : Int32)).toNatClampNeg), .long (rd_L M (rd_R M a0 2) (a2 + (-1 : Int32)).toNatClampNeg)]) (st := [.int ((a2 + (-1 : Int32)) - (1 : Int32)), .ref (rd_R M a0 2)]) (q := a0) (ci := 7) mf_Rule_joined mi_Rule_joined ms_Rule_joined (sw_m4 192 (by decide +kernel)) rfl (by decide) (by decide +kernel) rfl (Nat.le_of_ble_eq_true rfl) (by omega) h1 (o_Rule_joined g (d := d - 1) (by omega) hu5) ?_
                show sw_F _ _ _ _ _ _ 179 [(2, .int (a2 + (-1 : Int32))), (4, .int (rd_I M (rd_R M a0 0) a3.toNatClampNeg)), (0, .ref a0), (1, .ref a1), (3, .int a3)] [.long u5.1, .int ((a2 + (-1 : Int32)) - (1 : Int32)), .ref (rd_R M a0 2)] u5.2
                obtain ⟨h6, hf⟩ := sw_gd_1 hf
                refine sf_blk [(.lastore, 0, 0, .null)] (lv' := [(2, .int (a2 + (-1 : Int32))), (4, .int (rd_I M (rd_R M a0 0) a3.toNatClampNeg)), (0, .ref a0), (1, .ref a1), (3, .int a3)]) (st' := []) (M1 := (wr_L u5.2 (rd_R M a0 2) ((a2 + (-1 : Int32)) - (1 : Int32)).toNatClampNeg u5.1)) (ob := [sw_ar u5.2 (rd_R M a0 2) 16 ((a2 + (-1 : Int32)) - (1 : Int32))]) (pc' := 180) (by decide +kernel) rfl rfl (sw_a1 h6 sw_a0) ?_
                exact sf_weak [2, 3, 0, 4] rfl (t_Rule_uses_180 hd _ ih hf)
            · refine sf_blk [(.iload_n 2, 0, 0, .null)] (lv' := [(4, .int (rd_I M (rd_R M a0 0) a3.toNatClampNeg)), (0, .ref a0), (1, .ref a1), (2, .int a2), (3, .int a3)]) (st' := [.int a2]) (M1 := M) (ob := []) (pc' := 109) (by decide +kernel) rfl rfl sw_a0 ?_
              refine sf_z_le (off := 71) (tgt := 180) (by decide +kernel) (by decide) hf (fun hc hf => ?_) (fun hc hf => ?_)
              · exact sf_weak [1, 2, 3, 4] rfl (t_Rule_uses_180 hd _ ih hf)
              · obtain ⟨h7, hf⟩ := sw_gd_1 hf
                refine sf_blk [(.aload_n 0, 0, 0, .null), (.getfield 18, 7, 2, .null), (.iload_n 2, 0, 0, .null), (.iconst (1), 0, 0, .int (1 : Int32)), (.isub, 0, 0, .null), (.aload_n 0, 0, 0, .null), (.getfield 18, 7, 2, .null), (.iload_n 2, 0, 0, .null), (.iconst (1), 0, 0, .int (1 : Int32)), (.isub, 0, 0, .null), (.laload, 0, 0, .null), (.lconst 0, 0, 0, .long (0 : Int64)), (.lcmp, 0, 0, .null)] (lv' := [(4, .int (rd_I M (rd_R M a0 0) a3.toNatClampNeg)), (0, .ref a0), (1, .ref a1), (2, .int a2), (3, .int a3)]) (st' := [.int (lg_cmp (rd_L M (rd_R M a0 2) (a2 - (1 : Int32)).toNatClampNeg) (0 : Int64)), .int (a2 - (1 : Int32)), .ref (rd_R M a0 2)]) (M1 := M) (ob := [sw_ok M a0 7, sw_ok M a0 7, sw_ar M (rd_R M a0 2) 16 (a2 - (1 : Int32))]) (pc' := 129) (by decide +kernel) rfl rfl (sw_a1 h1 (sw_a1 h1 (sw_a1 h7 sw_a0))) ?_
                refine sf_l_ne (off := 7) (tgt := 136) (by decide +kernel) (by decide) hf (fun hc hf => ?_) (fun hc hf => ?_)
                · refine sf_blk [(.iconst (0), 0, 0, .int (0 : Int32))] (lv' := [(4, .int (rd_I M (rd_R M a0 0) a3.toNatClampNeg)), (0, .ref a0), (1, .ref a1), (2, .int a2), (3, .int a3)]) (st' := [.int (0 : Int32), .int (a2 - (1 : Int32)), .ref (rd_R M a0 2)]) (M1 := M) (ob := []) (pc' := 137) (by decide +kernel) rfl rfl sw_a0 ?_
                  exact sf_weak [1, 2, 3, 4] rfl (t_Rule_uses_137 hd _ ih hf)
                · refine sf_blk [(.iconst (1), 0, 0, .int (1 : Int32))] (lv' := [(4, .int (rd_I M (rd_R M a0 0) a3.toNatClampNeg)), (0, .ref a0), (1, .ref a1), (2, .int a2), (3, .int a3)]) (st' := [.int (1 : Int32), .int (a2 - (1 : Int32)), .ref (rd_R M a0 2)]) (M1 := M) (ob := []) (pc' := 133) (by decide +kernel) rfl rfl sw_a0 ?_
                  refine sf_goto (off := 4) (tgt := 137) (by decide +kernel) (by decide) ?_
                  exact sf_weak [1, 2, 3, 4] rfl (t_Rule_uses_137 hd _ ih hf)
          · exact sf_weak [1, 2, 3, 4, 0] rfl (t_Rule_uses_54 hd _ ih hf)
def f_Rule_uses (N : Nat) (a0 : Nat) (a1 : Nat) (M : sw_M) : Option (Int32 × sw_M) :=
  sw_gd [sw_ok M a0 7] (if (rd_I M a0 5) = 0 then some ((1 : Int32), M)
  else f_Rule_uses_18 N N a0 a1 (0 : Int32) (0 : Int32) (wr_I M a0 4 (0 : Int32)))
set_option maxRecDepth 10000 in
theorem t_Rule_uses {g : sw_G} {d n0 : Nat} (hd : 4 ≤ d) {r : Int32 × sw_M} {N : Nat} {a0 : Nat} {a1 : Nat} {M : sw_M} (hf : f_Rule_uses N a0 a1 M = some r) : sw_F g k_Rule_uses d n0 (some (.int r.1)) r.2 0 [(0, .ref a0), (1, .ref a1)] [] M := by
  unfold f_Rule_uses at hf
  obtain ⟨h1, hf⟩ := sw_gd_1 hf
  refine sf_blk [(.aload_n 0, 0, 0, .null), (.getfield 26, 7, 5, .null)] (lv' := [(0, .ref a0), (1, .ref a1)]) (st' := [.int (rd_I M a0 5)]) (M1 := M) (ob := [sw_ok M a0 7]) (pc' := 4) (by decide +kernel) rfl rfl (sw_a1 h1 sw_a0) ?_
  refine sf_z_ne (off := 5) (tgt := 9) (by decide +kernel) (by decide) hf (fun hc hf => ?_) (fun hc hf => ?_)
  · refine sf_blk [(.aload_n 0, 0, 0, .null), (.iconst (0), 0, 0, .int (0 : Int32)), (.putfield 33, 7, 4, .null), (.iconst (0), 0, 0, .int (0 : Int32)), (.istore_n 2, 0, 0, .null), (.iconst (0), 0, 0, .int (0 : Int32)), (.istore_n 3, 0, 0, .null)] (lv' := [(3, .int (0 : Int32)), (2, .int (0 : Int32)), (0, .ref a0), (1, .ref a1)]) (st' := []) (M1 := (wr_I M a0 4 (0 : Int32))) (ob := [sw_ok M a0 7, sw_bz (0 : Int32)]) (pc' := 18) (by decide +kernel) rfl rfl (sw_a1 h1 (sw_a1 rfl sw_a0)) ?_
    exact sf_weak [2, 3, 1, 0] rfl (t_Rule_uses_18 hd _ _ _ _ _ _ hf)
  · refine sf_blk [(.iconst (1), 0, 0, .int (1 : Int32))] (lv' := [(0, .ref a0), (1, .ref a1)]) (st' := [.int (1 : Int32)]) (M1 := M) (ob := []) (pc' := 8) (by decide +kernel) rfl rfl sw_a0 ?_
    cases hf
    exact sf_bool rfl rfl (by decide +kernel)
theorem o_Rule_uses (g : sw_G) {d : Nat} (hd : 4 ≤ d) {N : Nat} {a0 : Nat} {a1 : Nat} {M : sw_M} {r : Int32 × sw_M} (hf : f_Rule_uses N a0 a1 M = some r) : sw_Ok g k_Rule_uses d [.ref a0, .ref a1] M (some (.int r.1)) r.2 := sf_met (by decide +kernel) rfl (by decide) (Nat.le_of_ble_eq_true rfl) (t_Rule_uses hd hf)
def f_Swarm_refresh_104 (N : Nat) (k40 : Nat → Int32 → sw_M → Option (sw_M)) (a0 : Nat) (a1 : Int32) (M : sw_M) : Option (sw_M) :=
  k40 a0 (a1 + (1 : Int32)) M
set_option maxRecDepth 10000 in
theorem t_Swarm_refresh_104 {g : sw_G} {d n0 : Nat} (hd : 6 ≤ d) {r : sw_M} (k40 : Nat → Int32 → sw_M → Option (sw_M)) (hk40 : ∀ (a0 : Nat) (a1 : Int32) (M : sw_M), k40 a0 a1 M = some r → sw_F g k_Swarm_refresh d n0 none r 40 [(0, .ref a0), (1, .int a1)] [] M) {N : Nat} {a0 : Nat} {a1 : Int32} {M : sw_M} (hf : f_Swarm_refresh_104 N k40 a0 a1 M = some r) : sw_F g k_Swarm_refresh d n0 none r 104 [(0, .ref a0), (1, .int a1)] [] M := by
  unfold f_Swarm_refresh_104 at hf
  refine sf_blk [(.iinc 1 (1), 0, 0, .int (1 : Int32))] (lv' := [(1, .int (a1 + (1 : Int32))), (0, .ref a0)]) (st' := []) (M1 := M) (ob := []) (pc' := 107) (by decide +kernel) rfl rfl sw_a0 ?_
  refine sf_goto (off := -67) (tgt := 40) (by decide +kernel) (by decide) ?_
  exact sf_weak [1, 0] rfl (hk40 _ _ _ hf)
def f_Swarm_refresh_40 (N : Nat) : Nat → Nat → Int32 → sw_M → Option (sw_M)
  | 0, _, _, _ => none
  | j + 1, a0, a1, M =>
  sw_gd [sw_ok M a0 10] (if (rd_I M a0 3) ≤ a1 then some M
  else sw_gd [sw_oka M (rd_R M a0 1)] (if (nI (sw_len (rd_R M a0 1))) ≤ a1 then some M
  else sw_gd [sw_ar M (rd_R M a0 1) 17 a1 || (sw_ar M (rd_R M a0 1) 18 a1 || sw_ar M (rd_R M a0 1) 19 a1)] (if (rd_R M (rd_R M a0 1) a1.toNatClampNeg) = 0 then f_Swarm_refresh_104 N (f_Swarm_refresh_40 N j) a0 a1 M
  else sw_gd [sw_ok M (rd_R M (rd_R M a0 1) a1.toNatClampNeg) 4] ((f_Orbit_run N (rd_R M (rd_R M a0 1) a1.toNatClampNeg) (rd_R M a0 0) (rd_I M a0 4) (rd_R M a0 2) M).bind (fun u5 => sw_gd [sw_ok u5 (rd_R M (rd_R M a0 1) a1.toNatClampNeg) 4] ((f_Orbit_settle N (rd_R M (rd_R M a0 1) a1.toNatClampNeg) a0 u5).bind (fun u7 => sw_gd [sw_ok u7 a0 10] (sw_gd [sw_ok u7 (rd_R u7 a0 0) 0] (sw_gd [sw_ok u7 (rd_R u7 (rd_R u7 a0 0) 1) 7] ((f_Rule_uses N (rd_R u7 (rd_R u7 a0 0) 1) (rd_R M (rd_R M a0 1) a1.toNatClampNeg) u7).bind (fun u11 => sw_gd [sw_ok u11.2 (rd_R M (rd_R M a0 1) a1.toNatClampNeg) 4] (sw_gd [sw_bz u11.1] (f_Swarm_refresh_104 N (f_Swarm_refresh_40 N j) a0 a1 (wr_I u11.2 (rd_R M (rd_R M a0 1) a1.toNatClampNeg) 17 u11.1))))))))))))))
set_option maxRecDepth 10000 in
theorem t_Swarm_refresh_40 {g : sw_G} {d n0 : Nat} (hd : 6 ≤ d) {r : sw_M} {N : Nat} : ∀ (j : Nat) (a0 : Nat) (a1 : Int32) (M : sw_M), f_Swarm_refresh_40 N j a0 a1 M = some r → sw_F g k_Swarm_refresh d n0 none r 40 [(0, .ref a0), (1, .int a1)] [] M := by
  intro j
  induction j with
  | zero =>
    intro a0 a1 M hf
    rw [f_Swarm_refresh_40] at hf
    cases hf
  | succ j ih =>
    intro a0 a1 M hf
    rw [f_Swarm_refresh_40] at hf
    obtain ⟨h1, hf⟩ := sw_gd_1 hf
    refine sf_blk [(.iload_n 1, 0, 0, .null), (.aload_n 0, 0, 0, .null), (.getfield 24, 10, 3, .null)] (lv' := [(0, .ref a0), (1, .int a1)]) (st' := [.int (rd_I M a0 3), .int a1]) (M1 := M) (ob := [sw_ok M a0 10]) (pc' := 45) (by decide +kernel) rfl rfl (sw_a1 h1 sw_a0) ?_
    refine sf_j_ge (off := 65) (tgt := 110) (by decide +kernel) (by decide) hf (fun hc hf => ?_) (fun hc hf => ?_)
    · cases hf
      exact sf_void rfl (by decide +kernel)
    · obtain ⟨h2, hf⟩ := sw_gd_1 hf
      refine sf_blk [(.iload_n 1, 0, 0, .null), (.aload_n 0, 0, 0, .null), (.getfield 11, 10, 1, .null), (.arraylength, 0, 0, .null)] (lv' := [(0, .ref a0), (1, .int a1)]) (st' := [.int (nI (sw_len (rd_R M a0 1))), .int a1]) (M1 := M) (ob := [sw_ok M a0 10, sw_oka M (rd_R M a0 1)]) (pc' := 54) (by decide +kernel) rfl rfl (sw_a1 h1 (sw_a1 h2 sw_a0)) ?_
      refine sf_j_ge (off := 56) (tgt := 110) (by decide +kernel) (by decide) hf (fun hc hf => ?_) (fun hc hf => ?_)
      · cases hf
        exact sf_void rfl (by decide +kernel)
      · obtain ⟨h3, hf⟩ := sw_gd_1 hf
        refine sf_blk [(.aload_n 0, 0, 0, .null), (.getfield 11, 10, 1, .null), (.iload_n 1, 0, 0, .null), (.aaload, 0, 0, .null), (.astore_n 2, 0, 0, .null), (.aload_n 2, 0, 0, .null)] (lv' := [(2, .ref (rd_R M (rd_R M a0 1) a1.toNatClampNeg)), (0, .ref a0), (1, .int a1)]) (st' := [.ref (rd_R M (rd_R M a0 1) a1.toNatClampNeg)]) (M1 := M) (ob := [sw_ok M a0 10, sw_ar M (rd_R M a0 1) 17 a1 || (sw_ar M (rd_R M a0 1) 18 a1 || sw_ar M (rd_R M a0 1) 19 a1)]) (pc' := 65) (by decide +kernel) rfl rfl (sw_a1 h1 (sw_a1 h3 sw_a0)) ?_
        refine sf_n_null (off := 39) (tgt := 104) (by decide +kernel) (by decide) hf (fun hc hf => ?_) (fun hc hf => ?_)
        · exact sf_weak [1, 2] rfl (t_Swarm_refresh_104 hd _ ih hf)
        · obtain ⟨h4, hf⟩ := sw_gd_1 hf
          refine sf_blk [(.aload_n 2, 0, 0, .null), (.aload_n 0, 0, 0, .null), (.getfield 44, 10, 0, .null), (.aload_n 0, 0, 0, .null), (.getfield 28, 10, 4, .null), (.aload_n 0, 0, 0, .null), (.getfield 20, 10, 2, .null)] (lv' := [(2, .ref (rd_R M (rd_R M a0 1) a1.toNatClampNeg)), (0, .ref a0), (1, .int a1)]) (st' := [.ref (rd_R M a0 2), .int (rd_I M a0 4), .ref (rd_R M a0 0), .ref (rd_R M (rd_R M a0 1) a1.toNatClampNeg)]) (M1 := M) (ob := [sw_ok M a0 10, sw_ok M a0 10, sw_ok M a0 10]) (pc' := 81) (by decide +kernel) rfl rfl (sw_a1 h1 (sw_a1 h1 (sw_a1 h1 sw_a0))) ?_
          obtain ⟨u5, hu5, hf⟩ := sw_bnd hf
          refine sf_callV (i := 65) (k2 := k_Orbit_run) (d2 := d - 1) (As := [.ref (rd_R M a0 0), .int (rd_I M a0 4), .ref (rd_R M a0 2)]) (st := []) (q := (rd_R M (rd_R M a0 1) a1.toNatClampNeg)) (ci := 4) mf_Orbit_run mi_Orbit_run ms_Orbit_run (sw_m4 132 (by decide +kernel)) rfl (by decide) (by decide +kernel) rfl (Nat.le_of_ble_eq_true rfl) (by omega) h4 (o_Orbit_run g (d := d - 1) (by omega) hu5) ?_
          show sw_F _ _ _ _ _ _ 84 [(2, .ref (rd_R M (rd_R M a0 1) a1.toNatClampNeg)), (0, .ref a0), (1, .int a1)] [] u5
          obtain ⟨h6, hf⟩ := sw_gd_1 hf
          refine sf_blk [(.aload_n 2, 0, 0, .null), (.aload_n 0, 0, 0, .null)] (lv' := [(2, .ref (rd_R M (rd_R M a0 1) a1.toNatClampNeg)), (0, .ref a0), (1, .int a1)]) (st' := [.ref a0, .ref (rd_R M (rd_R M a0 1) a1.toNatClampNeg)]) (M1 := u5) (ob := []) (pc' := 86) (by decide +kernel) rfl rfl sw_a0 ?_
          obtain ⟨u7, hu7, hf⟩ := sw_bnd hf
          refine sf_callV (i := 69) (k2 := k_Orbit_settle) (d2 := d - 1) (As := [.ref a0]) (st := []) (q := (rd_R M (rd_R M a0 1) a1.toNatClampNeg)) (ci := 4) mf_Orbit_settle mi_Orbit_settle ms_Orbit_settle (sw_m4 160 (by decide +kernel)) rfl (by decide) (by decide +kernel) rfl (Nat.le_of_ble_eq_true rfl) (by omega) h6 (o_Orbit_settle g (d := d - 1) (by omega) hu7) ?_
          show sw_F _ _ _ _ _ _ 89 [(2, .ref (rd_R M (rd_R M a0 1) a1.toNatClampNeg)), (0, .ref a0), (1, .int a1)] [] u7
          obtain ⟨h8, hf⟩ := sw_gd_1 hf
          obtain ⟨h9, hf⟩ := sw_gd_1 hf
          obtain ⟨h10, hf⟩ := sw_gd_1 hf
          refine sf_blk [(.aload_n 2, 0, 0, .null), (.aload_n 0, 0, 0, .null), (.getfield 44, 10, 0, .null), (.getfield 73, 0, 1, .null), (.aload_n 2, 0, 0, .null)] (lv' := [(2, .ref (rd_R M (rd_R M a0 1) a1.toNatClampNeg)), (0, .ref a0), (1, .int a1)]) (st' := [.ref (rd_R M (rd_R M a0 1) a1.toNatClampNeg), .ref (rd_R u7 (rd_R u7 a0 0) 1), .ref (rd_R M (rd_R M a0 1) a1.toNatClampNeg)]) (M1 := u7) (ob := [sw_ok u7 a0 10, sw_ok u7 (rd_R u7 a0 0) 0]) (pc' := 98) (by decide +kernel) rfl rfl (sw_a1 h8 (sw_a1 h9 sw_a0)) ?_
          obtain ⟨u11, hu11, hf⟩ := sw_bnd hf
          refine sf_callV (i := 77) (k2 := k_Rule_uses) (d2 := d - 1) (As := [.ref (rd_R M (rd_R M a0 1) a1.toNatClampNeg)]) (st := [.ref (rd_R M (rd_R M a0 1) a1.toNatClampNeg)]) (q := (rd_R u7 (rd_R u7 a0 0) 1)) (ci := 7) mf_Rule_uses mi_Rule_uses ms_Rule_uses (sw_m4 171 (by decide +kernel)) rfl (by decide) (by decide +kernel) rfl (Nat.le_of_ble_eq_true rfl) (by omega) h10 (o_Rule_uses g (d := d - 1) (by omega) hu11) ?_
          show sw_F _ _ _ _ _ _ 101 [(2, .ref (rd_R M (rd_R M a0 1) a1.toNatClampNeg)), (0, .ref a0), (1, .int a1)] [.int u11.1, .ref (rd_R M (rd_R M a0 1) a1.toNatClampNeg)] u11.2
          obtain ⟨h12, hf⟩ := sw_gd_1 hf
          obtain ⟨h13, hf⟩ := sw_gd_1 hf
          refine sf_blk [(.putfield 83, 4, 17, .null)] (lv' := [(2, .ref (rd_R M (rd_R M a0 1) a1.toNatClampNeg)), (0, .ref a0), (1, .int a1)]) (st' := []) (M1 := (wr_I u11.2 (rd_R M (rd_R M a0 1) a1.toNatClampNeg) 17 u11.1)) (ob := [sw_ok u11.2 (rd_R M (rd_R M a0 1) a1.toNatClampNeg) 4, sw_bz u11.1]) (pc' := 104) (by decide +kernel) rfl rfl (sw_a1 h12 (sw_a1 h13 sw_a0)) ?_
          exact sf_weak [1, 2] rfl (t_Swarm_refresh_104 hd _ ih hf)
def f_Swarm_refresh_22 (N : Nat) (a0 : Nat) (M : sw_M) : Option (sw_M) :=
  sw_gd [sw_ok M a0 10] (sw_gd [sw_ok (wr_I M a0 7 (1 : Int32)) (rd_R (wr_I M a0 7 (1 : Int32)) a0 0) 0] (f_Swarm_refresh_40 N N a0 (0 : Int32) (wr_I (wr_I M a0 7 (1 : Int32)) a0 8 (rd_I (wr_I M a0 7 (1 : Int32)) (rd_R (wr_I M a0 7 (1 : Int32)) a0 0) 5))))
set_option maxRecDepth 10000 in
theorem t_Swarm_refresh_22 {g : sw_G} {d n0 : Nat} (hd : 6 ≤ d) {r : sw_M} {N : Nat} {a0 : Nat} {M : sw_M} (hf : f_Swarm_refresh_22 N a0 M = some r) : sw_F g k_Swarm_refresh d n0 none r 22 [(0, .ref a0)] [] M := by
  unfold f_Swarm_refresh_22 at hf
  obtain ⟨h1, hf⟩ := sw_gd_1 hf
  obtain ⟨h2, hf⟩ := sw_gd_1 hf
  refine sf_blk [(.aload_n 0, 0, 0, .null), (.iconst (1), 0, 0, .int (1 : Int32)), (.putfield 37, 10, 7, .null), (.aload_n 0, 0, 0, .null), (.aload_n 0, 0, 0, .null), (.getfield 44, 10, 0, .null), (.getfield 60, 0, 5, .null), (.putfield 41, 10, 8, .null), (.iconst (0), 0, 0, .int (0 : Int32)), (.istore_n 1, 0, 0, .null)] (lv' := [(1, .int (0 : Int32)), (0, .ref a0)]) (st' := []) (M1 := (wr_I (wr_I M a0 7 (1 : Int32)) a0 8 (rd_I (wr_I M a0 7 (1 : Int32)) (rd_R (wr_I M a0 7 (1 : Int32)) a0 0) 5))) (ob := [sw_ok M a0 10, sw_bz (1 : Int32), sw_ok (wr_I M a0 7 (1 : Int32)) a0 10, sw_ok (wr_I M a0 7 (1 : Int32)) (rd_R (wr_I M a0 7 (1 : Int32)) a0 0) 0, sw_ok (wr_I M a0 7 (1 : Int32)) a0 10]) (pc' := 40) (by decide +kernel) rfl rfl (sw_a1 h1 (sw_a1 rfl (sw_a1 h1 (sw_a1 h2 (sw_a1 h1 sw_a0))))) ?_
  exact sf_weak [1, 0] rfl (t_Swarm_refresh_40 hd _ _ _ _ hf)
def f_Swarm_refresh (N : Nat) (a0 : Nat) (M : sw_M) : Option (sw_M) :=
  sw_gd [sw_ok M a0 10] (if (rd_I M a0 7) = 0 then f_Swarm_refresh_22 N a0 M
  else sw_gd [sw_ok M (rd_R M a0 0) 0] (if (rd_I M a0 8) = (rd_I M (rd_R M a0 0) 5) then some M
  else f_Swarm_refresh_22 N a0 M))
set_option maxRecDepth 10000 in
theorem t_Swarm_refresh {g : sw_G} {d n0 : Nat} (hd : 6 ≤ d) {r : sw_M} {N : Nat} {a0 : Nat} {M : sw_M} (hf : f_Swarm_refresh N a0 M = some r) : sw_F g k_Swarm_refresh d n0 none r 0 [(0, .ref a0)] [] M := by
  unfold f_Swarm_refresh at hf
  obtain ⟨h1, hf⟩ := sw_gd_1 hf
  refine sf_blk [(.aload_n 0, 0, 0, .null), (.getfield 37, 10, 7, .null)] (lv' := [(0, .ref a0)]) (st' := [.int (rd_I M a0 7)]) (M1 := M) (ob := [sw_ok M a0 10]) (pc' := 4) (by decide +kernel) rfl rfl (sw_a1 h1 sw_a0) ?_
  refine sf_z_eq (off := 18) (tgt := 22) (by decide +kernel) (by decide) hf (fun hc hf => ?_) (fun hc hf => ?_)
  · exact sf_weak [0] rfl (t_Swarm_refresh_22 hd hf)
  · obtain ⟨h2, hf⟩ := sw_gd_1 hf
    refine sf_blk [(.aload_n 0, 0, 0, .null), (.getfield 41, 10, 8, .null), (.aload_n 0, 0, 0, .null), (.getfield 44, 10, 0, .null), (.getfield 60, 0, 5, .null)] (lv' := [(0, .ref a0)]) (st' := [.int (rd_I M (rd_R M a0 0) 5), .int (rd_I M a0 8)]) (M1 := M) (ob := [sw_ok M a0 10, sw_ok M a0 10, sw_ok M (rd_R M a0 0) 0]) (pc' := 18) (by decide +kernel) rfl rfl (sw_a1 h1 (sw_a1 h1 (sw_a1 h2 sw_a0))) ?_
    refine sf_j_ne (off := 4) (tgt := 22) (by decide +kernel) (by decide) hf (fun hc hf => ?_) (fun hc hf => ?_)
    · exact sf_weak [0] rfl (t_Swarm_refresh_22 hd hf)
    · cases hf
      exact sf_void rfl (by decide +kernel)
theorem o_Swarm_refresh (g : sw_G) {d : Nat} (hd : 6 ≤ d) {N : Nat} {a0 : Nat} {M : sw_M} {r : sw_M} (hf : f_Swarm_refresh N a0 M = some r) : sw_Ok g k_Swarm_refresh d [.ref a0] M none r := sf_met (by decide +kernel) rfl (by decide) (Nat.le_of_ble_eq_true rfl) (t_Swarm_refresh hd hf)
def f_Swarm_latest_13 (N : Nat) (M : sw_M) : Option (Nat × sw_M) :=
  some (0, M)
set_option maxRecDepth 10000 in
theorem t_Swarm_latest_13 {g : sw_G} {d n0 : Nat} (hd : 1 ≤ d) {r : Nat × sw_M} {N : Nat} {M : sw_M} (hf : f_Swarm_latest_13 N M = some r) : sw_F g k_Swarm_latest d n0 (some (.ref r.1)) r.2 13 [] [] M := by
  unfold f_Swarm_latest_13 at hf
  refine sf_blk [(.aconst_null, 0, 0, .null)] (lv' := []) (st' := [.ref 0]) (M1 := M) (ob := []) (pc' := 14) (by decide +kernel) rfl rfl sw_a0 ?_
  refine sf_goto (off := 9) (tgt := 23) (by decide +kernel) (by decide) ?_
  cases hf
  exact sf_ref rfl (by decide +kernel)
def f_Swarm_latest (N : Nat) (a0 : Nat) (a1 : Int32) (M : sw_M) : Option (Nat × sw_M) :=
  if a1 < 0 then f_Swarm_latest_13 N M
  else sw_gd [sw_ok M a0 10] (sw_gd [sw_oka M (rd_R M a0 1)] (if a1 < (nI (sw_len (rd_R M a0 1))) then sw_gd [sw_ar M (rd_R M a0 1) 17 a1 || (sw_ar M (rd_R M a0 1) 18 a1 || sw_ar M (rd_R M a0 1) 19 a1)] (some ((rd_R M (rd_R M a0 1) a1.toNatClampNeg), M))
  else f_Swarm_latest_13 N M))
set_option maxRecDepth 10000 in
theorem t_Swarm_latest {g : sw_G} {d n0 : Nat} (hd : 1 ≤ d) {r : Nat × sw_M} {N : Nat} {a0 : Nat} {a1 : Int32} {M : sw_M} (hf : f_Swarm_latest N a0 a1 M = some r) : sw_F g k_Swarm_latest d n0 (some (.ref r.1)) r.2 0 [(0, .ref a0), (1, .int a1)] [] M := by
  unfold f_Swarm_latest at hf
  refine sf_blk [(.iload_n 1, 0, 0, .null)] (lv' := [(0, .ref a0), (1, .int a1)]) (st' := [.int a1]) (M1 := M) (ob := []) (pc' := 1) (by decide +kernel) rfl rfl sw_a0 ?_
  refine sf_z_lt (off := 12) (tgt := 13) (by decide +kernel) (by decide) hf (fun hc hf => ?_) (fun hc hf => ?_)
  · exact sf_weak [] rfl (t_Swarm_latest_13 hd hf)
  · obtain ⟨h1, hf⟩ := sw_gd_1 hf
    obtain ⟨h2, hf⟩ := sw_gd_1 hf
    refine sf_blk [(.iload_n 1, 0, 0, .null), (.aload_n 0, 0, 0, .null), (.getfield 11, 10, 1, .null), (.arraylength, 0, 0, .null)] (lv' := [(0, .ref a0), (1, .int a1)]) (st' := [.int (nI (sw_len (rd_R M a0 1))), .int a1]) (M1 := M) (ob := [sw_ok M a0 10, sw_oka M (rd_R M a0 1)]) (pc' := 10) (by decide +kernel) rfl rfl (sw_a1 h1 (sw_a1 h2 sw_a0)) ?_
    refine sf_j_lt (off := 7) (tgt := 17) (by decide +kernel) (by decide) hf (fun hc hf => ?_) (fun hc hf => ?_)
    · obtain ⟨h3, hf⟩ := sw_gd_1 hf
      refine sf_blk [(.aload_n 0, 0, 0, .null), (.getfield 11, 10, 1, .null), (.iload_n 1, 0, 0, .null), (.aaload, 0, 0, .null)] (lv' := [(0, .ref a0), (1, .int a1)]) (st' := [.ref (rd_R M (rd_R M a0 1) a1.toNatClampNeg)]) (M1 := M) (ob := [sw_ok M a0 10, sw_ar M (rd_R M a0 1) 17 a1 || (sw_ar M (rd_R M a0 1) 18 a1 || sw_ar M (rd_R M a0 1) 19 a1)]) (pc' := 23) (by decide +kernel) rfl rfl (sw_a1 h1 (sw_a1 h3 sw_a0)) ?_
      cases hf
      exact sf_ref rfl (by decide +kernel)
    · exact sf_weak [] rfl (t_Swarm_latest_13 hd hf)
theorem o_Swarm_latest (g : sw_G) {d : Nat} (hd : 1 ≤ d) {N : Nat} {a0 : Nat} {a1 : Int32} {M : sw_M} {r : Nat × sw_M} (hf : f_Swarm_latest N a0 a1 M = some r) : sw_Ok g k_Swarm_latest d [.ref a0, .int a1] M (some (.ref r.1)) r.2 := sf_met (by decide +kernel) rfl (by decide) (Nat.le_of_ble_eq_true rfl) (t_Swarm_latest hd hf)
def f_Swarm_known (N : Nat) (a0 : Nat) (a1 : Int32) (M : sw_M) : Option (Nat × sw_M) :=
  if a1 < 0 then some (0, M)
  else sw_gd [sw_ok M a0 10] (if a1 < (rd_I M a0 3) then (f_Swarm_refresh N a0 M).bind (fun u2 => sw_gd [sw_ok u2 a0 10] ((f_Swarm_latest N a0 a1 u2).bind (fun u4 => some (u4.1, u4.2))))
  else some (0, M))
set_option maxRecDepth 10000 in
theorem t_Swarm_known {g : sw_G} {d n0 : Nat} (hd : 7 ≤ d) {r : Nat × sw_M} {N : Nat} {a0 : Nat} {a1 : Int32} {M : sw_M} (hf : f_Swarm_known N a0 a1 M = some r) : sw_F g k_Swarm_known d n0 (some (.ref r.1)) r.2 0 [(0, .ref a0), (1, .int a1)] [] M := by
  unfold f_Swarm_known at hf
  refine sf_blk [(.iload_n 1, 0, 0, .null)] (lv' := [(0, .ref a0), (1, .int a1)]) (st' := [.int a1]) (M1 := M) (ob := []) (pc' := 1) (by decide +kernel) rfl rfl sw_a0 ?_
  refine sf_z_lt (off := 11) (tgt := 12) (by decide +kernel) (by decide) hf (fun hc hf => ?_) (fun hc hf => ?_)
  · refine sf_blk [(.aconst_null, 0, 0, .null)] (lv' := [(0, .ref a0), (1, .int a1)]) (st' := [.ref 0]) (M1 := M) (ob := []) (pc' := 13) (by decide +kernel) rfl rfl sw_a0 ?_
    cases hf
    exact sf_ref rfl (by decide +kernel)
  · obtain ⟨h1, hf⟩ := sw_gd_1 hf
    refine sf_blk [(.iload_n 1, 0, 0, .null), (.aload_n 0, 0, 0, .null), (.getfield 24, 10, 3, .null)] (lv' := [(0, .ref a0), (1, .int a1)]) (st' := [.int (rd_I M a0 3), .int a1]) (M1 := M) (ob := [sw_ok M a0 10]) (pc' := 9) (by decide +kernel) rfl rfl (sw_a1 h1 sw_a0) ?_
    refine sf_j_lt (off := 5) (tgt := 14) (by decide +kernel) (by decide) hf (fun hc hf => ?_) (fun hc hf => ?_)
    · refine sf_blk [(.aload_n 0, 0, 0, .null)] (lv' := [(0, .ref a0), (1, .int a1)]) (st' := [.ref a0]) (M1 := M) (ob := []) (pc' := 15) (by decide +kernel) rfl rfl sw_a0 ?_
      obtain ⟨u2, hu2, hf⟩ := sw_bnd hf
      refine sf_callV (i := 53) (k2 := k_Swarm_refresh) (d2 := d - 1) (As := []) (st := []) (q := a0) (ci := 10) mf_Swarm_refresh mi_Swarm_refresh ms_Swarm_refresh (sw_m4 128 (by decide +kernel)) rfl (by decide) (by decide +kernel) rfl (Nat.le_of_ble_eq_true rfl) (by omega) h1 (o_Swarm_refresh g (d := d - 1) (by omega) hu2) ?_
      show sw_F _ _ _ _ _ _ 18 [(0, .ref a0), (1, .int a1)] [] u2
      obtain ⟨h3, hf⟩ := sw_gd_1 hf
      refine sf_blk [(.aload_n 0, 0, 0, .null), (.iload_n 1, 0, 0, .null)] (lv' := [(0, .ref a0), (1, .int a1)]) (st' := [.int a1, .ref a0]) (M1 := u2) (ob := []) (pc' := 20) (by decide +kernel) rfl rfl sw_a0 ?_
      obtain ⟨u4, hu4, hf⟩ := sw_bnd hf
      refine sf_callV (i := 56) (k2 := k_Swarm_latest) (d2 := d - 1) (As := [.int a1]) (st := []) (q := a0) (ci := 10) mf_Swarm_latest mi_Swarm_latest ms_Swarm_latest (sw_m4 207 (by decide +kernel)) rfl (by decide) (by decide +kernel) rfl (Nat.le_of_ble_eq_true rfl) (by omega) h3 (o_Swarm_latest g (d := d - 1) (by omega) hu4) ?_
      show sw_F _ _ _ _ _ _ 23 [(0, .ref a0), (1, .int a1)] [.ref u4.1] u4.2
      cases hf
      exact sf_ref rfl (by decide +kernel)
    · refine sf_blk [(.aconst_null, 0, 0, .null)] (lv' := [(0, .ref a0), (1, .int a1)]) (st' := [.ref 0]) (M1 := M) (ob := []) (pc' := 13) (by decide +kernel) rfl rfl sw_a0 ?_
      cases hf
      exact sf_ref rfl (by decide +kernel)
theorem o_Swarm_known (g : sw_G) {d : Nat} (hd : 7 ≤ d) {N : Nat} {a0 : Nat} {a1 : Int32} {M : sw_M} {r : Nat × sw_M} (hf : f_Swarm_known N a0 a1 M = some r) : sw_Ok g k_Swarm_known d [.ref a0, .int a1] M (some (.ref r.1)) r.2 := sf_met (by decide +kernel) rfl (by decide) (Nat.le_of_ble_eq_true rfl) (t_Swarm_known hd hf)
def f_House_told_121 (N : Nat) (M : sw_M) : Option (Int64 × sw_M) :=
  some ((-9223372036854775808 : Int64), M)
set_option maxRecDepth 10000 in
theorem t_House_told_121 {g : sw_G} {d n0 : Nat} (hd : 8 ≤ d) {r : Int64 × sw_M} {N : Nat} {M : sw_M} (hf : f_House_told_121 N M = some r) : sw_F g k_House_told d n0 (some (.long r.1)) r.2 121 [] [] M := by
  unfold f_House_told_121 at hf
  refine sf_blk [(.ldc2_w 189, 0, 0, .long (-9223372036854775808 : Int64))] (lv' := []) (st' := [.long (-9223372036854775808 : Int64)]) (M1 := M) (ob := []) (pc' := 124) (by decide +kernel) rfl rfl sw_a0 ?_
  cases hf
  exact sf_long rfl (by decide +kernel)
def f_House_told (N : Nat) (a0 : Nat) (a1 : Int32) (a2 : Int32) (M : sw_M) : Option (Int64 × sw_M) :=
  sw_gd [sw_ok M a0 11] (sw_gd [sw_ok M (rd_R M a0 6) 10] ((f_Swarm_known N (rd_R M a0 6) a1 M).bind (fun u3 => if u3.1 = 0 then some ((-9223372036854775808 : Int64), u3.2)
  else if a2 = (0 : Int32) then sw_gd [sw_ok u3.2 u3.1 4] (some ((rd_I u3.2 u3.1 5).toInt64, u3.2))
  else if a2 = (1 : Int32) then sw_gd [sw_ok u3.2 u3.1 4] (some ((rd_L u3.2 u3.1 7), u3.2))
  else if a2 = (2 : Int32) then sw_gd [sw_ok u3.2 u3.1 4] (some ((rd_L u3.2 u3.1 8), u3.2))
  else if a2 = (3 : Int32) then sw_gd [sw_ok u3.2 u3.1 4] (some ((rd_I u3.2 u3.1 9).toInt64, u3.2))
  else if a2 = (4 : Int32) then sw_gd [sw_ok u3.2 u3.1 4] ((f_Orbit_kind N u3.1 u3.2).bind (fun u14 => some (u14.1.toInt64, u14.2)))
  else if a2 = (5 : Int32) then sw_gd [sw_ok u3.2 u3.1 4] (some (((rd_L u3.2 u3.1 12) - (rd_L u3.2 u3.1 11)), u3.2))
  else if a2 = (6 : Int32) then sw_gd [sw_ok u3.2 u3.1 4] (some ((rd_I u3.2 u3.1 14).toInt64, u3.2))
  else if a2 = (7 : Int32) then sw_gd [sw_ok u3.2 u3.1 4] (if (rd_I u3.2 u3.1 17) = 0 then some ((0 : Int64), u3.2)
  else some ((1 : Int64), u3.2))
  else f_House_told_121 N u3.2)))
set_option maxRecDepth 10000 in
theorem t_House_told {g : sw_G} {d n0 : Nat} (hd : 8 ≤ d) {r : Int64 × sw_M} {N : Nat} {a0 : Nat} {a1 : Int32} {a2 : Int32} {M : sw_M} (hf : f_House_told N a0 a1 a2 M = some r) : sw_F g k_House_told d n0 (some (.long r.1)) r.2 0 [(0, .ref a0), (1, .int a1), (2, .int a2)] [] M := by
  unfold f_House_told at hf
  obtain ⟨h1, hf⟩ := sw_gd_1 hf
  obtain ⟨h2, hf⟩ := sw_gd_1 hf
  refine sf_blk [(.aload_n 0, 0, 0, .null), (.getfield 49, 11, 6, .null), (.iload_n 1, 0, 0, .null)] (lv' := [(0, .ref a0), (1, .int a1), (2, .int a2)]) (st' := [.int a1, .ref (rd_R M a0 6)]) (M1 := M) (ob := [sw_ok M a0 11]) (pc' := 5) (by decide +kernel) rfl rfl (sw_a1 h1 sw_a0) ?_
  obtain ⟨u3, hu3, hf⟩ := sw_bnd hf
  refine sf_callV (i := 185) (k2 := k_Swarm_known) (d2 := d - 1) (As := [.int a1]) (st := []) (q := (rd_R M a0 6)) (ci := 10) mf_Swarm_known mi_Swarm_known ms_Swarm_known (sw_m4 124 (by decide +kernel)) rfl (by decide) (by decide +kernel) rfl (Nat.le_of_ble_eq_true rfl) (by omega) h2 (o_Swarm_known g (d := d - 1) (by omega) hu3) ?_
  show sw_F _ _ _ _ _ _ 8 [(0, .ref a0), (1, .int a1), (2, .int a2)] [.ref u3.1] u3.2
  refine sf_blk [(.astore_n 3, 0, 0, .null), (.aload_n 3, 0, 0, .null)] (lv' := [(3, .ref u3.1), (0, .ref a0), (1, .int a1), (2, .int a2)]) (st' := [.ref u3.1]) (M1 := u3.2) (ob := []) (pc' := 10) (by decide +kernel) rfl rfl sw_a0 ?_
  refine sf_n_nonnull (off := 7) (tgt := 17) (by decide +kernel) (by decide) hf (fun hc hf => ?_) (fun hc hf => ?_)
  · refine sf_blk [(.iload_n 2, 0, 0, .null)] (lv' := [(3, .ref u3.1), (0, .ref a0), (1, .int a1), (2, .int a2)]) (st' := [.int a2]) (M1 := u3.2) (ob := []) (pc' := 18) (by decide +kernel) rfl rfl sw_a0 ?_
    rcases sw_ite hf with ⟨h4, hf⟩ | ⟨h4, hf⟩
    · refine sf_tin (a := a2) (off := 46) (tgt := 64) (len := 46) (show decode (k_c k_House_told) 18 = .ok (.tableswitch (103) (0) (7) #[46, 52, 57, 62, 68, 74, 84, 90], 46) by decide +kernel) (by rw [h4]; decide) (by rw [h4]; decide) (by rw [h4]; decide +kernel) (by decide) ?_
      obtain ⟨h5, hf⟩ := sw_gd_1 hf
      refine sf_blk [(.aload_n 3, 0, 0, .null), (.getfield 191, 4, 5, .null), (.i2l, 0, 0, .null)] (lv' := [(3, .ref u3.1), (0, .ref a0), (1, .int a1), (2, .int a2)]) (st' := [.long (rd_I u3.2 u3.1 5).toInt64]) (M1 := u3.2) (ob := [sw_ok u3.2 u3.1 4]) (pc' := 69) (by decide +kernel) rfl rfl (sw_a1 h5 sw_a0) ?_
      cases hf
      exact sf_long rfl (by decide +kernel)
    ·
      rcases sw_ite hf with ⟨h6, hf⟩ | ⟨h6, hf⟩
      · refine sf_tin (a := a2) (off := 52) (tgt := 70) (len := 46) (show decode (k_c k_House_told) 18 = .ok (.tableswitch (103) (0) (7) #[46, 52, 57, 62, 68, 74, 84, 90], 46) by decide +kernel) (by rw [h6]; decide) (by rw [h6]; decide) (by rw [h6]; decide +kernel) (by decide) ?_
        obtain ⟨h7, hf⟩ := sw_gd_1 hf
        refine sf_blk [(.aload_n 3, 0, 0, .null), (.getfield 196, 4, 7, .null)] (lv' := [(3, .ref u3.1), (0, .ref a0), (1, .int a1), (2, .int a2)]) (st' := [.long (rd_L u3.2 u3.1 7)]) (M1 := u3.2) (ob := [sw_ok u3.2 u3.1 4]) (pc' := 74) (by decide +kernel) rfl rfl (sw_a1 h7 sw_a0) ?_
        cases hf
        exact sf_long rfl (by decide +kernel)
      ·
        rcases sw_ite hf with ⟨h8, hf⟩ | ⟨h8, hf⟩
        · refine sf_tin (a := a2) (off := 57) (tgt := 75) (len := 46) (show decode (k_c k_House_told) 18 = .ok (.tableswitch (103) (0) (7) #[46, 52, 57, 62, 68, 74, 84, 90], 46) by decide +kernel) (by rw [h8]; decide) (by rw [h8]; decide) (by rw [h8]; decide +kernel) (by decide) ?_
          obtain ⟨h9, hf⟩ := sw_gd_1 hf
          refine sf_blk [(.aload_n 3, 0, 0, .null), (.getfield 199, 4, 8, .null)] (lv' := [(3, .ref u3.1), (0, .ref a0), (1, .int a1), (2, .int a2)]) (st' := [.long (rd_L u3.2 u3.1 8)]) (M1 := u3.2) (ob := [sw_ok u3.2 u3.1 4]) (pc' := 79) (by decide +kernel) rfl rfl (sw_a1 h9 sw_a0) ?_
          cases hf
          exact sf_long rfl (by decide +kernel)
        ·
          rcases sw_ite hf with ⟨h10, hf⟩ | ⟨h10, hf⟩
          · refine sf_tin (a := a2) (off := 62) (tgt := 80) (len := 46) (show decode (k_c k_House_told) 18 = .ok (.tableswitch (103) (0) (7) #[46, 52, 57, 62, 68, 74, 84, 90], 46) by decide +kernel) (by rw [h10]; decide) (by rw [h10]; decide) (by rw [h10]; decide +kernel) (by decide) ?_
            obtain ⟨h11, hf⟩ := sw_gd_1 hf
            refine sf_blk [(.aload_n 3, 0, 0, .null), (.getfield 202, 4, 9, .null), (.i2l, 0, 0, .null)] (lv' := [(3, .ref u3.1), (0, .ref a0), (1, .int a1), (2, .int a2)]) (st' := [.long (rd_I u3.2 u3.1 9).toInt64]) (M1 := u3.2) (ob := [sw_ok u3.2 u3.1 4]) (pc' := 85) (by decide +kernel) rfl rfl (sw_a1 h11 sw_a0) ?_
            cases hf
            exact sf_long rfl (by decide +kernel)
          ·
            rcases sw_ite hf with ⟨h12, hf⟩ | ⟨h12, hf⟩
            · refine sf_tin (a := a2) (off := 68) (tgt := 86) (len := 46) (show decode (k_c k_House_told) 18 = .ok (.tableswitch (103) (0) (7) #[46, 52, 57, 62, 68, 74, 84, 90], 46) by decide +kernel) (by rw [h12]; decide) (by rw [h12]; decide) (by rw [h12]; decide +kernel) (by decide) ?_
              obtain ⟨h13, hf⟩ := sw_gd_1 hf
              refine sf_blk [(.aload_n 3, 0, 0, .null)] (lv' := [(3, .ref u3.1), (0, .ref a0), (1, .int a1), (2, .int a2)]) (st' := [.ref u3.1]) (M1 := u3.2) (ob := []) (pc' := 87) (by decide +kernel) rfl rfl sw_a0 ?_
              obtain ⟨u14, hu14, hf⟩ := sw_bnd hf
              refine sf_callV (i := 205) (k2 := k_Orbit_kind) (d2 := d - 1) (As := []) (st := []) (q := u3.1) (ci := 4) mf_Orbit_kind mi_Orbit_kind ms_Orbit_kind (sw_m4 212 (by decide +kernel)) rfl (by decide) (by decide +kernel) rfl (Nat.le_of_ble_eq_true rfl) (by omega) h13 (o_Orbit_kind g (d := d - 1) (by omega) hu14) ?_
              show sw_F _ _ _ _ _ _ 90 [(3, .ref u3.1), (0, .ref a0), (1, .int a1), (2, .int a2)] [.int u14.1] u14.2
              refine sf_blk [(.i2l, 0, 0, .null)] (lv' := [(3, .ref u3.1), (0, .ref a0), (1, .int a1), (2, .int a2)]) (st' := [.long u14.1.toInt64]) (M1 := u14.2) (ob := []) (pc' := 91) (by decide +kernel) rfl rfl sw_a0 ?_
              cases hf
              exact sf_long rfl (by decide +kernel)
            ·
              rcases sw_ite hf with ⟨h15, hf⟩ | ⟨h15, hf⟩
              · refine sf_tin (a := a2) (off := 74) (tgt := 92) (len := 46) (show decode (k_c k_House_told) 18 = .ok (.tableswitch (103) (0) (7) #[46, 52, 57, 62, 68, 74, 84, 90], 46) by decide +kernel) (by rw [h15]; decide) (by rw [h15]; decide) (by rw [h15]; decide +kernel) (by decide) ?_
                obtain ⟨h16, hf⟩ := sw_gd_1 hf
                refine sf_blk [(.aload_n 3, 0, 0, .null), (.getfield 209, 4, 12, .null), (.aload_n 3, 0, 0, .null), (.getfield 212, 4, 11, .null), (.lsub, 0, 0, .null)] (lv' := [(3, .ref u3.1), (0, .ref a0), (1, .int a1), (2, .int a2)]) (st' := [.long ((rd_L u3.2 u3.1 12) - (rd_L u3.2 u3.1 11))]) (M1 := u3.2) (ob := [sw_ok u3.2 u3.1 4, sw_ok u3.2 u3.1 4]) (pc' := 101) (by decide +kernel) rfl rfl (sw_a1 h16 (sw_a1 h16 sw_a0)) ?_
                cases hf
                exact sf_long rfl (by decide +kernel)
              ·
                rcases sw_ite hf with ⟨h17, hf⟩ | ⟨h17, hf⟩
                · refine sf_tin (a := a2) (off := 84) (tgt := 102) (len := 46) (show decode (k_c k_House_told) 18 = .ok (.tableswitch (103) (0) (7) #[46, 52, 57, 62, 68, 74, 84, 90], 46) by decide +kernel) (by rw [h17]; decide) (by rw [h17]; decide) (by rw [h17]; decide +kernel) (by decide) ?_
                  obtain ⟨h18, hf⟩ := sw_gd_1 hf
                  refine sf_blk [(.aload_n 3, 0, 0, .null), (.getfield 215, 4, 14, .null), (.i2l, 0, 0, .null)] (lv' := [(3, .ref u3.1), (0, .ref a0), (1, .int a1), (2, .int a2)]) (st' := [.long (rd_I u3.2 u3.1 14).toInt64]) (M1 := u3.2) (ob := [sw_ok u3.2 u3.1 4]) (pc' := 107) (by decide +kernel) rfl rfl (sw_a1 h18 sw_a0) ?_
                  cases hf
                  exact sf_long rfl (by decide +kernel)
                ·
                  rcases sw_ite hf with ⟨h19, hf⟩ | ⟨h19, hf⟩
                  · refine sf_tin (a := a2) (off := 90) (tgt := 108) (len := 46) (show decode (k_c k_House_told) 18 = .ok (.tableswitch (103) (0) (7) #[46, 52, 57, 62, 68, 74, 84, 90], 46) by decide +kernel) (by rw [h19]; decide) (by rw [h19]; decide) (by rw [h19]; decide +kernel) (by decide) ?_
                    obtain ⟨h20, hf⟩ := sw_gd_1 hf
                    refine sf_blk [(.aload_n 3, 0, 0, .null), (.getfield 218, 4, 17, .null)] (lv' := [(3, .ref u3.1), (0, .ref a0), (1, .int a1), (2, .int a2)]) (st' := [.int (rd_I u3.2 u3.1 17)]) (M1 := u3.2) (ob := [sw_ok u3.2 u3.1 4]) (pc' := 112) (by decide +kernel) rfl rfl (sw_a1 h20 sw_a0) ?_
                    refine sf_z_eq (off := 7) (tgt := 119) (by decide +kernel) (by decide) hf (fun hc hf => ?_) (fun hc hf => ?_)
                    · refine sf_blk [(.lconst 0, 0, 0, .long (0 : Int64))] (lv' := [(3, .ref u3.1), (0, .ref a0), (1, .int a1), (2, .int a2)]) (st' := [.long (0 : Int64)]) (M1 := u3.2) (ob := []) (pc' := 120) (by decide +kernel) rfl rfl sw_a0 ?_
                      cases hf
                      exact sf_long rfl (by decide +kernel)
                    · refine sf_blk [(.lconst 1, 0, 0, .long (1 : Int64))] (lv' := [(3, .ref u3.1), (0, .ref a0), (1, .int a1), (2, .int a2)]) (st' := [.long (1 : Int64)]) (M1 := u3.2) (ob := []) (pc' := 116) (by decide +kernel) rfl rfl sw_a0 ?_
                      refine sf_goto (off := 4) (tgt := 120) (by decide +kernel) (by decide) ?_
                      cases hf
                      exact sf_long rfl (by decide +kernel)
                  ·
                    have qh4 := sw_ne (n := 0) h4 (by decide)
                    have qh6 := sw_ne (n := 1) h6 (by decide)
                    have qh8 := sw_ne (n := 2) h8 (by decide)
                    have qh10 := sw_ne (n := 3) h10 (by decide)
                    have qh12 := sw_ne (n := 4) h12 (by decide)
                    have qh15 := sw_ne (n := 5) h15 (by decide)
                    have qh17 := sw_ne (n := 6) h17 (by decide)
                    have qh19 := sw_ne (n := 7) h19 (by decide)
                    refine sf_tout (a := a2) (tgt := 121) (len := 46) (show decode (k_c k_House_told) 18 = .ok (.tableswitch (103) (0) (7) #[46, 52, 57, 62, 68, 74, 84, 90], 46) by decide +kernel) (by omega) (by decide) ?_
                    exact sf_weak [] rfl (t_House_told_121 hd hf)
  · refine sf_blk [(.ldc2_w 189, 0, 0, .long (-9223372036854775808 : Int64))] (lv' := [(3, .ref u3.1), (0, .ref a0), (1, .int a1), (2, .int a2)]) (st' := [.long (-9223372036854775808 : Int64)]) (M1 := u3.2) (ob := []) (pc' := 16) (by decide +kernel) rfl rfl sw_a0 ?_
    cases hf
    exact sf_long rfl (by decide +kernel)
theorem o_House_told (g : sw_G) {d : Nat} (hd : 8 ≤ d) {N : Nat} {a0 : Nat} {a1 : Int32} {a2 : Int32} {M : sw_M} {r : Int64 × sw_M} (hf : f_House_told N a0 a1 a2 M = some r) : sw_Ok g k_House_told d [.ref a0, .int a1, .int a2] M (some (.long r.1)) r.2 := sf_met (by decide +kernel) rfl (by decide) (Nat.le_of_ble_eq_true rfl) (t_House_told hd hf)
def f_House_at (N : Nat) (a0 : Nat) (a1 : Int32) (a2 : Int32) (a3 : Int32) (M : sw_M) : Option (Int32 × sw_M) :=
  sw_gd [sw_ok M a0 11] (sw_gd [sw_ok M (rd_R M a0 6) 10] ((f_Swarm_known N (rd_R M a0 6) a1 M).bind (fun u3 => if u3.1 = 0 then some ((-2147483648 : Int32), u3.2)
  else if a2 < 0 then some ((-2147483648 : Int32), u3.2)
  else sw_gd [sw_ok u3.2 u3.1 4] (if (rd_I u3.2 u3.1 5) < a2 then some ((-2147483648 : Int32), u3.2)
  else if a3 < 0 then some ((-2147483648 : Int32), u3.2)
  else if a3 ≤ (3 : Int32) then sw_gd [sw_ar u3.2 (rd_R u3.2 u3.1 4) 17 a3 || (sw_ar u3.2 (rd_R u3.2 u3.1 4) 18 a3 || sw_ar u3.2 (rd_R u3.2 u3.1 4) 19 a3)] (sw_gd [sw_ar u3.2 (rd_R u3.2 (rd_R u3.2 u3.1 4) a3.toNatClampNeg) 13 a2] (some ((rd_I u3.2 (rd_R u3.2 (rd_R u3.2 u3.1 4) a3.toNatClampNeg) a2.toNatClampNeg), u3.2)))
  else some ((-2147483648 : Int32), u3.2)))))
set_option maxRecDepth 10000 in
theorem t_House_at {g : sw_G} {d n0 : Nat} (hd : 8 ≤ d) {r : Int32 × sw_M} {N : Nat} {a0 : Nat} {a1 : Int32} {a2 : Int32} {a3 : Int32} {M : sw_M} (hf : f_House_at N a0 a1 a2 a3 M = some r) : sw_F g k_House_at d n0 (some (.int r.1)) r.2 0 [(0, .ref a0), (1, .int a1), (2, .int a2), (3, .int a3)] [] M := by
  unfold f_House_at at hf
  obtain ⟨h1, hf⟩ := sw_gd_1 hf
  obtain ⟨h2, hf⟩ := sw_gd_1 hf
  refine sf_blk [(.aload_n 0, 0, 0, .null), (.getfield 49, 11, 6, .null), (.iload_n 1, 0, 0, .null)] (lv' := [(0, .ref a0), (1, .int a1), (2, .int a2), (3, .int a3)]) (st' := [.int a1, .ref (rd_R M a0 6)]) (M1 := M) (ob := [sw_ok M a0 11]) (pc' := 5) (by decide +kernel) rfl rfl (sw_a1 h1 sw_a0) ?_
  obtain ⟨u3, hu3, hf⟩ := sw_bnd hf
  refine sf_callV (i := 185) (k2 := k_Swarm_known) (d2 := d - 1) (As := [.int a1]) (st := []) (q := (rd_R M a0 6)) (ci := 10) mf_Swarm_known mi_Swarm_known ms_Swarm_known (sw_m4 124 (by decide +kernel)) rfl (by decide) (by decide +kernel) rfl (Nat.le_of_ble_eq_true rfl) (by omega) h2 (o_Swarm_known g (d := d - 1) (by omega) hu3) ?_
  show sw_F _ _ _ _ _ _ 8 [(0, .ref a0), (1, .int a1), (2, .int a2), (3, .int a3)] [.ref u3.1] u3.2
  refine sf_blk [(.astore 4, 0, 0, .null), (.aload 4, 0, 0, .null)] (lv' := [(4, .ref u3.1), (0, .ref a0), (1, .int a1), (2, .int a2), (3, .int a3)]) (st' := [.ref u3.1]) (M1 := u3.2) (ob := []) (pc' := 12) (by decide +kernel) rfl rfl sw_a0 ?_
  refine sf_n_null (off := 25) (tgt := 37) (by decide +kernel) (by decide) hf (fun hc hf => ?_) (fun hc hf => ?_)
  · refine sf_blk [(.ldc 123, 0, 0, .int (-2147483648 : Int32))] (lv' := [(4, .ref u3.1), (0, .ref a0), (1, .int a1), (2, .int a2), (3, .int a3)]) (st' := [.int (-2147483648 : Int32)]) (M1 := u3.2) (ob := []) (pc' := 39) (by decide +kernel) rfl rfl sw_a0 ?_
    cases hf
    exact sf_int rfl (by decide +kernel)
  · refine sf_blk [(.iload_n 2, 0, 0, .null)] (lv' := [(4, .ref u3.1), (0, .ref a0), (1, .int a1), (2, .int a2), (3, .int a3)]) (st' := [.int a2]) (M1 := u3.2) (ob := []) (pc' := 16) (by decide +kernel) rfl rfl sw_a0 ?_
    refine sf_z_lt (off := 21) (tgt := 37) (by decide +kernel) (by decide) hf (fun hc hf => ?_) (fun hc hf => ?_)
    · refine sf_blk [(.ldc 123, 0, 0, .int (-2147483648 : Int32))] (lv' := [(4, .ref u3.1), (0, .ref a0), (1, .int a1), (2, .int a2), (3, .int a3)]) (st' := [.int (-2147483648 : Int32)]) (M1 := u3.2) (ob := []) (pc' := 39) (by decide +kernel) rfl rfl sw_a0 ?_
      cases hf
      exact sf_int rfl (by decide +kernel)
    · obtain ⟨h4, hf⟩ := sw_gd_1 hf
      refine sf_blk [(.iload_n 2, 0, 0, .null), (.aload 4, 0, 0, .null), (.getfield 191, 4, 5, .null)] (lv' := [(4, .ref u3.1), (0, .ref a0), (1, .int a1), (2, .int a2), (3, .int a3)]) (st' := [.int (rd_I u3.2 u3.1 5), .int a2]) (M1 := u3.2) (ob := [sw_ok u3.2 u3.1 4]) (pc' := 25) (by decide +kernel) rfl rfl (sw_a1 h4 sw_a0) ?_
      refine sf_j_gt (off := 12) (tgt := 37) (by decide +kernel) (by decide) hf (fun hc hf => ?_) (fun hc hf => ?_)
      · refine sf_blk [(.ldc 123, 0, 0, .int (-2147483648 : Int32))] (lv' := [(4, .ref u3.1), (0, .ref a0), (1, .int a1), (2, .int a2), (3, .int a3)]) (st' := [.int (-2147483648 : Int32)]) (M1 := u3.2) (ob := []) (pc' := 39) (by decide +kernel) rfl rfl sw_a0 ?_
        cases hf
        exact sf_int rfl (by decide +kernel)
      · refine sf_blk [(.iload_n 3, 0, 0, .null)] (lv' := [(4, .ref u3.1), (0, .ref a0), (1, .int a1), (2, .int a2), (3, .int a3)]) (st' := [.int a3]) (M1 := u3.2) (ob := []) (pc' := 29) (by decide +kernel) rfl rfl sw_a0 ?_
        refine sf_z_lt (off := 8) (tgt := 37) (by decide +kernel) (by decide) hf (fun hc hf => ?_) (fun hc hf => ?_)
        · refine sf_blk [(.ldc 123, 0, 0, .int (-2147483648 : Int32))] (lv' := [(4, .ref u3.1), (0, .ref a0), (1, .int a1), (2, .int a2), (3, .int a3)]) (st' := [.int (-2147483648 : Int32)]) (M1 := u3.2) (ob := []) (pc' := 39) (by decide +kernel) rfl rfl sw_a0 ?_
          cases hf
          exact sf_int rfl (by decide +kernel)
        · refine sf_blk [(.iload_n 3, 0, 0, .null), (.iconst (3), 0, 0, .int (3 : Int32))] (lv' := [(4, .ref u3.1), (0, .ref a0), (1, .int a1), (2, .int a2), (3, .int a3)]) (st' := [.int (3 : Int32), .int a3]) (M1 := u3.2) (ob := []) (pc' := 34) (by decide +kernel) rfl rfl sw_a0 ?_
          refine sf_j_le (off := 6) (tgt := 40) (by decide +kernel) (by decide) hf (fun hc hf => ?_) (fun hc hf => ?_)
          · obtain ⟨h5, hf⟩ := sw_gd_1 hf
            obtain ⟨h6, hf⟩ := sw_gd_1 hf
            refine sf_blk [(.aload 4, 0, 0, .null), (.getfield 221, 4, 4, .null), (.iload_n 3, 0, 0, .null), (.aaload, 0, 0, .null), (.iload_n 2, 0, 0, .null), (.iaload, 0, 0, .null)] (lv' := [(4, .ref u3.1), (0, .ref a0), (1, .int a1), (2, .int a2), (3, .int a3)]) (st' := [.int (rd_I u3.2 (rd_R u3.2 (rd_R u3.2 u3.1 4) a3.toNatClampNeg) a2.toNatClampNeg)]) (M1 := u3.2) (ob := [sw_ok u3.2 u3.1 4, sw_ar u3.2 (rd_R u3.2 u3.1 4) 17 a3 || (sw_ar u3.2 (rd_R u3.2 u3.1 4) 18 a3 || sw_ar u3.2 (rd_R u3.2 u3.1 4) 19 a3), sw_ar u3.2 (rd_R u3.2 (rd_R u3.2 u3.1 4) a3.toNatClampNeg) 13 a2]) (pc' := 49) (by decide +kernel) rfl rfl (sw_a1 h4 (sw_a1 h5 (sw_a1 h6 sw_a0))) ?_
            cases hf
            exact sf_int rfl (by decide +kernel)
          · refine sf_blk [(.ldc 123, 0, 0, .int (-2147483648 : Int32))] (lv' := [(4, .ref u3.1), (0, .ref a0), (1, .int a1), (2, .int a2), (3, .int a3)]) (st' := [.int (-2147483648 : Int32)]) (M1 := u3.2) (ob := []) (pc' := 39) (by decide +kernel) rfl rfl sw_a0 ?_
            cases hf
            exact sf_int rfl (by decide +kernel)
theorem o_House_at (g : sw_G) {d : Nat} (hd : 8 ≤ d) {N : Nat} {a0 : Nat} {a1 : Int32} {a2 : Int32} {a3 : Int32} {M : sw_M} {r : Int32 × sw_M} (hf : f_House_at N a0 a1 a2 a3 M = some r) : sw_Ok g k_House_at d [.ref a0, .int a1, .int a2, .int a3] M (some (.int r.1)) r.2 := sf_met (by decide +kernel) rfl (by decide) (Nat.le_of_ble_eq_true rfl) (t_House_at hd hf)
def f_House_back (N : Nat) (a0 : Nat) (a1 : Int32) (a2 : Int32) (M : sw_M) : Option (Int32 × sw_M) :=
  sw_gd [sw_ok M a0 11] (sw_gd [sw_ok M (rd_R M a0 6) 10] ((f_Swarm_known N (rd_R M a0 6) a1 M).bind (fun u3 => if u3.1 = 0 then some ((-2147483648 : Int32), u3.2)
  else if a2 < 0 then some ((-2147483648 : Int32), u3.2)
  else sw_gd [sw_ok u3.2 u3.1 4] (if a2 < (rd_I u3.2 u3.1 14) then sw_gd [sw_ar u3.2 (rd_R u3.2 u3.1 13) 13 a2] (some ((rd_I u3.2 (rd_R u3.2 u3.1 13) a2.toNatClampNeg), u3.2))
  else some ((-2147483648 : Int32), u3.2)))))
set_option maxRecDepth 10000 in
theorem t_House_back {g : sw_G} {d n0 : Nat} (hd : 8 ≤ d) {r : Int32 × sw_M} {N : Nat} {a0 : Nat} {a1 : Int32} {a2 : Int32} {M : sw_M} (hf : f_House_back N a0 a1 a2 M = some r) : sw_F g k_House_back d n0 (some (.int r.1)) r.2 0 [(0, .ref a0), (1, .int a1), (2, .int a2)] [] M := by
  unfold f_House_back at hf
  obtain ⟨h1, hf⟩ := sw_gd_1 hf
  obtain ⟨h2, hf⟩ := sw_gd_1 hf
  refine sf_blk [(.aload_n 0, 0, 0, .null), (.getfield 49, 11, 6, .null), (.iload_n 1, 0, 0, .null)] (lv' := [(0, .ref a0), (1, .int a1), (2, .int a2)]) (st' := [.int a1, .ref (rd_R M a0 6)]) (M1 := M) (ob := [sw_ok M a0 11]) (pc' := 5) (by decide +kernel) rfl rfl (sw_a1 h1 sw_a0) ?_
  obtain ⟨u3, hu3, hf⟩ := sw_bnd hf
  refine sf_callV (i := 185) (k2 := k_Swarm_known) (d2 := d - 1) (As := [.int a1]) (st := []) (q := (rd_R M a0 6)) (ci := 10) mf_Swarm_known mi_Swarm_known ms_Swarm_known (sw_m4 124 (by decide +kernel)) rfl (by decide) (by decide +kernel) rfl (Nat.le_of_ble_eq_true rfl) (by omega) h2 (o_Swarm_known g (d := d - 1) (by omega) hu3) ?_
  show sw_F _ _ _ _ _ _ 8 [(0, .ref a0), (1, .int a1), (2, .int a2)] [.ref u3.1] u3.2
  refine sf_blk [(.astore_n 3, 0, 0, .null), (.aload_n 3, 0, 0, .null)] (lv' := [(3, .ref u3.1), (0, .ref a0), (1, .int a1), (2, .int a2)]) (st' := [.ref u3.1]) (M1 := u3.2) (ob := []) (pc' := 10) (by decide +kernel) rfl rfl sw_a0 ?_
  refine sf_n_null (off := 15) (tgt := 25) (by decide +kernel) (by decide) hf (fun hc hf => ?_) (fun hc hf => ?_)
  · refine sf_blk [(.ldc 123, 0, 0, .int (-2147483648 : Int32))] (lv' := [(3, .ref u3.1), (0, .ref a0), (1, .int a1), (2, .int a2)]) (st' := [.int (-2147483648 : Int32)]) (M1 := u3.2) (ob := []) (pc' := 27) (by decide +kernel) rfl rfl sw_a0 ?_
    cases hf
    exact sf_int rfl (by decide +kernel)
  · refine sf_blk [(.iload_n 2, 0, 0, .null)] (lv' := [(3, .ref u3.1), (0, .ref a0), (1, .int a1), (2, .int a2)]) (st' := [.int a2]) (M1 := u3.2) (ob := []) (pc' := 14) (by decide +kernel) rfl rfl sw_a0 ?_
    refine sf_z_lt (off := 11) (tgt := 25) (by decide +kernel) (by decide) hf (fun hc hf => ?_) (fun hc hf => ?_)
    · refine sf_blk [(.ldc 123, 0, 0, .int (-2147483648 : Int32))] (lv' := [(3, .ref u3.1), (0, .ref a0), (1, .int a1), (2, .int a2)]) (st' := [.int (-2147483648 : Int32)]) (M1 := u3.2) (ob := []) (pc' := 27) (by decide +kernel) rfl rfl sw_a0 ?_
      cases hf
      exact sf_int rfl (by decide +kernel)
    · obtain ⟨h4, hf⟩ := sw_gd_1 hf
      refine sf_blk [(.iload_n 2, 0, 0, .null), (.aload_n 3, 0, 0, .null), (.getfield 215, 4, 14, .null)] (lv' := [(3, .ref u3.1), (0, .ref a0), (1, .int a1), (2, .int a2)]) (st' := [.int (rd_I u3.2 u3.1 14), .int a2]) (M1 := u3.2) (ob := [sw_ok u3.2 u3.1 4]) (pc' := 22) (by decide +kernel) rfl rfl (sw_a1 h4 sw_a0) ?_
      refine sf_j_lt (off := 6) (tgt := 28) (by decide +kernel) (by decide) hf (fun hc hf => ?_) (fun hc hf => ?_)
      · obtain ⟨h5, hf⟩ := sw_gd_1 hf
        refine sf_blk [(.aload_n 3, 0, 0, .null), (.getfield 225, 4, 13, .null), (.iload_n 2, 0, 0, .null), (.iaload, 0, 0, .null)] (lv' := [(3, .ref u3.1), (0, .ref a0), (1, .int a1), (2, .int a2)]) (st' := [.int (rd_I u3.2 (rd_R u3.2 u3.1 13) a2.toNatClampNeg)]) (M1 := u3.2) (ob := [sw_ok u3.2 u3.1 4, sw_ar u3.2 (rd_R u3.2 u3.1 13) 13 a2]) (pc' := 34) (by decide +kernel) rfl rfl (sw_a1 h4 (sw_a1 h5 sw_a0)) ?_
        cases hf
        exact sf_int rfl (by decide +kernel)
      · refine sf_blk [(.ldc 123, 0, 0, .int (-2147483648 : Int32))] (lv' := [(3, .ref u3.1), (0, .ref a0), (1, .int a1), (2, .int a2)]) (st' := [.int (-2147483648 : Int32)]) (M1 := u3.2) (ob := []) (pc' := 27) (by decide +kernel) rfl rfl sw_a0 ?_
        cases hf
        exact sf_int rfl (by decide +kernel)
theorem o_House_back (g : sw_G) {d : Nat} (hd : 8 ≤ d) {N : Nat} {a0 : Nat} {a1 : Int32} {a2 : Int32} {M : sw_M} {r : Int32 × sw_M} (hf : f_House_back N a0 a1 a2 M = some r) : sw_Ok g k_House_back d [.ref a0, .int a1, .int a2] M (some (.int r.1)) r.2 := sf_met (by decide +kernel) rfl (by decide) (Nat.le_of_ble_eq_true rfl) (t_House_back hd hf)
def f_Orbit_mostlyReturnsNear_83 (N : Nat) (a0 : Nat) (a2 : Int32) (M : sw_M) : Option (Int32 × sw_M) :=
  if a2 < (1 : Int32) then some ((0 : Int32), M)
  else sw_gd [sw_ok M a0 4] (if ((2 : Int32) * a2) < (rd_I M a0 14) then some ((0 : Int32), M)
  else some ((1 : Int32), M))
set_option maxRecDepth 10000 in
theorem t_Orbit_mostlyReturnsNear_83 {g : sw_G} {d n0 : Nat} (hd : 2 ≤ d) {r : Int32 × sw_M} {N : Nat} {a0 : Nat} {a2 : Int32} {M : sw_M} (hf : f_Orbit_mostlyReturnsNear_83 N a0 a2 M = some r) : sw_F g k_Orbit_mostlyReturnsNear d n0 (some (.int r.1)) r.2 83 [(0, .ref a0), (2, .int a2)] [] M := by
  unfold f_Orbit_mostlyReturnsNear_83 at hf
  refine sf_blk [(.iload_n 2, 0, 0, .null), (.iconst (1), 0, 0, .int (1 : Int32))] (lv' := [(0, .ref a0), (2, .int a2)]) (st' := [.int (1 : Int32), .int a2]) (M1 := M) (ob := []) (pc' := 85) (by decide +kernel) rfl rfl sw_a0 ?_
  refine sf_j_lt (off := 17) (tgt := 102) (by decide +kernel) (by decide) hf (fun hc hf => ?_) (fun hc hf => ?_)
  · refine sf_blk [(.iconst (0), 0, 0, .int (0 : Int32))] (lv' := [(0, .ref a0), (2, .int a2)]) (st' := [.int (0 : Int32)]) (M1 := M) (ob := []) (pc' := 103) (by decide +kernel) rfl rfl sw_a0 ?_
    cases hf
    exact sf_bool rfl rfl (by decide +kernel)
  · obtain ⟨h1, hf⟩ := sw_gd_1 hf
    refine sf_blk [(.iconst (2), 0, 0, .int (2 : Int32)), (.iload_n 2, 0, 0, .null), (.imul, 0, 0, .null), (.aload_n 0, 0, 0, .null), (.getfield 51, 4, 14, .null)] (lv' := [(0, .ref a0), (2, .int a2)]) (st' := [.int (rd_I M a0 14), .int ((2 : Int32) * a2)]) (M1 := M) (ob := [sw_ok M a0 4]) (pc' := 95) (by decide +kernel) rfl rfl (sw_a1 h1 sw_a0) ?_
    refine sf_j_lt (off := 7) (tgt := 102) (by decide +kernel) (by decide) hf (fun hc hf => ?_) (fun hc hf => ?_)
    · refine sf_blk [(.iconst (0), 0, 0, .int (0 : Int32))] (lv' := [(0, .ref a0), (2, .int a2)]) (st' := [.int (0 : Int32)]) (M1 := M) (ob := []) (pc' := 103) (by decide +kernel) rfl rfl sw_a0 ?_
      cases hf
      exact sf_bool rfl rfl (by decide +kernel)
    · refine sf_blk [(.iconst (1), 0, 0, .int (1 : Int32))] (lv' := [(0, .ref a0), (2, .int a2)]) (st' := [.int (1 : Int32)]) (M1 := M) (ob := []) (pc' := 99) (by decide +kernel) rfl rfl sw_a0 ?_
      refine sf_goto (off := 4) (tgt := 103) (by decide +kernel) (by decide) ?_
      cases hf
      exact sf_bool rfl rfl (by decide +kernel)
def f_Orbit_mostlyReturnsNear_77 (N : Nat) (k4 : Nat → Nat → Int32 → Int32 → sw_M → Option (Int32 × sw_M)) (a0 : Nat) (a1 : Nat) (a2 : Int32) (a3 : Int32) (M : sw_M) : Option (Int32 × sw_M) :=
  k4 a0 a1 a2 (a3 + (1 : Int32)) M
set_option maxRecDepth 10000 in
theorem t_Orbit_mostlyReturnsNear_77 {g : sw_G} {d n0 : Nat} (hd : 2 ≤ d) {r : Int32 × sw_M} (k4 : Nat → Nat → Int32 → Int32 → sw_M → Option (Int32 × sw_M)) (hk4 : ∀ (a0 : Nat) (a1 : Nat) (a2 : Int32) (a3 : Int32) (M : sw_M), k4 a0 a1 a2 a3 M = some r → sw_F g k_Orbit_mostlyReturnsNear d n0 (some (.int r.1)) r.2 4 [(0, .ref a0), (1, .ref a1), (2, .int a2), (3, .int a3)] [] M) {N : Nat} {a0 : Nat} {a1 : Nat} {a2 : Int32} {a3 : Int32} {M : sw_M} (hf : f_Orbit_mostlyReturnsNear_77 N k4 a0 a1 a2 a3 M = some r) : sw_F g k_Orbit_mostlyReturnsNear d n0 (some (.int r.1)) r.2 77 [(0, .ref a0), (1, .ref a1), (2, .int a2), (3, .int a3)] [] M := by
  unfold f_Orbit_mostlyReturnsNear_77 at hf
  refine sf_blk [(.iinc 3 (1), 0, 0, .int (1 : Int32))] (lv' := [(3, .int (a3 + (1 : Int32))), (0, .ref a0), (1, .ref a1), (2, .int a2)]) (st' := []) (M1 := M) (ob := []) (pc' := 80) (by decide +kernel) rfl rfl sw_a0 ?_
  refine sf_goto (off := -76) (tgt := 4) (by decide +kernel) (by decide) ?_
  exact sf_weak [1, 2, 3, 0] rfl (hk4 _ _ _ _ _ hf)
def f_Orbit_mostlyReturnsNear_24 (N : Nat) (k4 : Nat → Nat → Int32 → Int32 → sw_M → Option (Int32 × sw_M)) : Nat → Nat → Nat → Int32 → Int32 → Int32 → sw_M → Option (Int32 × sw_M)
  | 0, _, _, _, _, _, _ => none
  | j + 1, a0, a1, a2, a3, a4, M =>
  sw_gd [sw_ok M a1 4] (if (rd_I M a1 14) ≤ a4 then f_Orbit_mostlyReturnsNear_77 N k4 a0 a1 a2 a3 M
  else sw_gd [sw_oka M (rd_R M a1 13)] (if (nI (sw_len (rd_R M a1 13))) ≤ a4 then f_Orbit_mostlyReturnsNear_77 N k4 a0 a1 a2 a3 M
  else sw_gd [sw_ok M a0 4] (sw_gd [sw_ar M (rd_R M a0 13) 13 a3] (sw_gd [sw_ar M (rd_R M a1 13) 13 a4] (if (50 : Int32) < (m_absI ((rd_I M (rd_R M a0 13) a3.toNatClampNeg) - (rd_I M (rd_R M a1 13) a4.toNatClampNeg))) then f_Orbit_mostlyReturnsNear_24 N k4 j a0 a1 a2 a3 (a4 + (1 : Int32)) M
  else f_Orbit_mostlyReturnsNear_77 N k4 a0 a1 (a2 + (1 : Int32)) a3 M)))))
set_option maxRecDepth 10000 in
theorem t_Orbit_mostlyReturnsNear_24 {g : sw_G} {d n0 : Nat} (hd : 2 ≤ d) {r : Int32 × sw_M} (k4 : Nat → Nat → Int32 → Int32 → sw_M → Option (Int32 × sw_M)) (hk4 : ∀ (a0 : Nat) (a1 : Nat) (a2 : Int32) (a3 : Int32) (M : sw_M), k4 a0 a1 a2 a3 M = some r → sw_F g k_Orbit_mostlyReturnsNear d n0 (some (.int r.1)) r.2 4 [(0, .ref a0), (1, .ref a1), (2, .int a2), (3, .int a3)] [] M) {N : Nat} : ∀ (j : Nat) (a0 : Nat) (a1 : Nat) (a2 : Int32) (a3 : Int32) (a4 : Int32) (M : sw_M), f_Orbit_mostlyReturnsNear_24 N k4 j a0 a1 a2 a3 a4 M = some r → sw_F g k_Orbit_mostlyReturnsNear d n0 (some (.int r.1)) r.2 24 [(0, .ref a0), (1, .ref a1), (2, .int a2), (3, .int a3), (4, .int a4)] [] M := by
  intro j
  induction j with
  | zero =>
    intro a0 a1 a2 a3 a4 M hf
    rw [f_Orbit_mostlyReturnsNear_24] at hf
    cases hf
  | succ j ih =>
    intro a0 a1 a2 a3 a4 M hf
    rw [f_Orbit_mostlyReturnsNear_24] at hf
    obtain ⟨h1, hf⟩ := sw_gd_1 hf
    refine sf_blk [(.iload 4, 0, 0, .null), (.aload_n 1, 0, 0, .null), (.getfield 51, 4, 14, .null)] (lv' := [(0, .ref a0), (1, .ref a1), (2, .int a2), (3, .int a3), (4, .int a4)]) (st' := [.int (rd_I M a1 14), .int a4]) (M1 := M) (ob := [sw_ok M a1 4]) (pc' := 30) (by decide +kernel) rfl rfl (sw_a1 h1 sw_a0) ?_
    refine sf_j_ge (off := 47) (tgt := 77) (by decide +kernel) (by decide) hf (fun hc hf => ?_) (fun hc hf => ?_)
    · exact sf_weak [0, 1, 2, 3] rfl (t_Orbit_mostlyReturnsNear_77 hd _ hk4 hf)
    · obtain ⟨h2, hf⟩ := sw_gd_1 hf
      refine sf_blk [(.iload 4, 0, 0, .null), (.aload_n 1, 0, 0, .null), (.getfield 16, 4, 13, .null), (.arraylength, 0, 0, .null)] (lv' := [(0, .ref a0), (1, .ref a1), (2, .int a2), (3, .int a3), (4, .int a4)]) (st' := [.int (nI (sw_len (rd_R M a1 13))), .int a4]) (M1 := M) (ob := [sw_ok M a1 4, sw_oka M (rd_R M a1 13)]) (pc' := 40) (by decide +kernel) rfl rfl (sw_a1 h1 (sw_a1 h2 sw_a0)) ?_
      refine sf_j_ge (off := 37) (tgt := 77) (by decide +kernel) (by decide) hf (fun hc hf => ?_) (fun hc hf => ?_)
      · exact sf_weak [0, 1, 2, 3] rfl (t_Orbit_mostlyReturnsNear_77 hd _ hk4 hf)
      · obtain ⟨h3, hf⟩ := sw_gd_1 hf
        obtain ⟨h4, hf⟩ := sw_gd_1 hf
        obtain ⟨h5, hf⟩ := sw_gd_1 hf
        refine sf_blk [(.aload_n 0, 0, 0, .null), (.getfield 16, 4, 13, .null), (.iload_n 3, 0, 0, .null), (.iaload, 0, 0, .null), (.aload_n 1, 0, 0, .null), (.getfield 16, 4, 13, .null), (.iload 4, 0, 0, .null), (.iaload, 0, 0, .null), (.isub, 0, 0, .null)] (lv' := [(0, .ref a0), (1, .ref a1), (2, .int a2), (3, .int a3), (4, .int a4)]) (st' := [.int ((rd_I M (rd_R M a0 13) a3.toNatClampNeg) - (rd_I M (rd_R M a1 13) a4.toNatClampNeg))]) (M1 := M) (ob := [sw_ok M a0 4, sw_ar M (rd_R M a0 13) 13 a3, sw_ok M a1 4, sw_ar M (rd_R M a1 13) 13 a4]) (pc' := 57) (by decide +kernel) rfl rfl (sw_a1 h3 (sw_a1 h4 (sw_a1 h1 (sw_a1 h5 sw_a0)))) ?_
        refine sf_absI (i := 126) (st := []) (sw_m4 229 (by decide +kernel)) (by decide +kernel) (by omega) (Nat.le_of_ble_eq_true rfl) ?_
        show sw_F _ _ _ _ _ _ 60 [(0, .ref a0), (1, .ref a1), (2, .int a2), (3, .int a3), (4, .int a4)] [.int (m_absI ((rd_I M (rd_R M a0 13) a3.toNatClampNeg) - (rd_I M (rd_R M a1 13) a4.toNatClampNeg)))] M
        refine sf_blk [(.bipush (50), 0, 0, .int (50 : Int32))] (lv' := [(0, .ref a0), (1, .ref a1), (2, .int a2), (3, .int a3), (4, .int a4)]) (st' := [.int (50 : Int32), .int (m_absI ((rd_I M (rd_R M a0 13) a3.toNatClampNeg) - (rd_I M (rd_R M a1 13) a4.toNatClampNeg)))]) (M1 := M) (ob := []) (pc' := 62) (by decide +kernel) rfl rfl sw_a0 ?_
        refine sf_j_gt (off := 9) (tgt := 71) (by decide +kernel) (by decide) hf (fun hc hf => ?_) (fun hc hf => ?_)
        · refine sf_blk [(.iinc 4 (1), 0, 0, .int (1 : Int32))] (lv' := [(4, .int (a4 + (1 : Int32))), (0, .ref a0), (1, .ref a1), (2, .int a2), (3, .int a3)]) (st' := []) (M1 := M) (ob := []) (pc' := 74) (by decide +kernel) rfl rfl sw_a0 ?_
          refine sf_goto (off := -50) (tgt := 24) (by decide +kernel) (by decide) ?_
          exact sf_weak [1, 2, 3, 4, 0] rfl (ih _ _ _ _ _ _ hf)
        · refine sf_blk [(.iinc 2 (1), 0, 0, .int (1 : Int32))] (lv' := [(2, .int (a2 + (1 : Int32))), (0, .ref a0), (1, .ref a1), (3, .int a3), (4, .int a4)]) (st' := []) (M1 := M) (ob := []) (pc' := 68) (by decide +kernel) rfl rfl sw_a0 ?_
          refine sf_goto (off := 9) (tgt := 77) (by decide +kernel) (by decide) ?_
          exact sf_weak [1, 2, 0, 3] rfl (t_Orbit_mostlyReturnsNear_77 hd _ hk4 hf)
def f_Orbit_mostlyReturnsNear_4 (N : Nat) : Nat → Nat → Nat → Int32 → Int32 → sw_M → Option (Int32 × sw_M)
  | 0, _, _, _, _, _ => none
  | j + 1, a0, a1, a2, a3, M =>
  sw_gd [sw_ok M a0 4] (if (rd_I M a0 14) ≤ a3 then f_Orbit_mostlyReturnsNear_83 N a0 a2 M
  else sw_gd [sw_oka M (rd_R M a0 13)] (if (nI (sw_len (rd_R M a0 13))) ≤ a3 then f_Orbit_mostlyReturnsNear_83 N a0 a2 M
  else f_Orbit_mostlyReturnsNear_24 N (f_Orbit_mostlyReturnsNear_4 N j) N a0 a1 a2 a3 (0 : Int32) M))
set_option maxRecDepth 10000 in
theorem t_Orbit_mostlyReturnsNear_4 {g : sw_G} {d n0 : Nat} (hd : 2 ≤ d) {r : Int32 × sw_M} {N : Nat} : ∀ (j : Nat) (a0 : Nat) (a1 : Nat) (a2 : Int32) (a3 : Int32) (M : sw_M), f_Orbit_mostlyReturnsNear_4 N j a0 a1 a2 a3 M = some r → sw_F g k_Orbit_mostlyReturnsNear d n0 (some (.int r.1)) r.2 4 [(0, .ref a0), (1, .ref a1), (2, .int a2), (3, .int a3)] [] M := by
  intro j
  induction j with
  | zero =>
    intro a0 a1 a2 a3 M hf
    rw [f_Orbit_mostlyReturnsNear_4] at hf
    cases hf
  | succ j ih =>
    intro a0 a1 a2 a3 M hf
    rw [f_Orbit_mostlyReturnsNear_4] at hf
    obtain ⟨h1, hf⟩ := sw_gd_1 hf
    refine sf_blk [(.iload_n 3, 0, 0, .null), (.aload_n 0, 0, 0, .null), (.getfield 51, 4, 14, .null)] (lv' := [(0, .ref a0), (1, .ref a1), (2, .int a2), (3, .int a3)]) (st' := [.int (rd_I M a0 14), .int a3]) (M1 := M) (ob := [sw_ok M a0 4]) (pc' := 9) (by decide +kernel) rfl rfl (sw_a1 h1 sw_a0) ?_
    refine sf_j_ge (off := 74) (tgt := 83) (by decide +kernel) (by decide) hf (fun hc hf => ?_) (fun hc hf => ?_)
    · exact sf_weak [0, 2] rfl (t_Orbit_mostlyReturnsNear_83 hd hf)
    · obtain ⟨h2, hf⟩ := sw_gd_1 hf
      refine sf_blk [(.iload_n 3, 0, 0, .null), (.aload_n 0, 0, 0, .null), (.getfield 16, 4, 13, .null), (.arraylength, 0, 0, .null)] (lv' := [(0, .ref a0), (1, .ref a1), (2, .int a2), (3, .int a3)]) (st' := [.int (nI (sw_len (rd_R M a0 13))), .int a3]) (M1 := M) (ob := [sw_ok M a0 4, sw_oka M (rd_R M a0 13)]) (pc' := 18) (by decide +kernel) rfl rfl (sw_a1 h1 (sw_a1 h2 sw_a0)) ?_
      refine sf_j_ge (off := 65) (tgt := 83) (by decide +kernel) (by decide) hf (fun hc hf => ?_) (fun hc hf => ?_)
      · exact sf_weak [0, 2] rfl (t_Orbit_mostlyReturnsNear_83 hd hf)
      · refine sf_blk [(.iconst (0), 0, 0, .int (0 : Int32)), (.istore 4, 0, 0, .null)] (lv' := [(4, .int (0 : Int32)), (0, .ref a0), (1, .ref a1), (2, .int a2), (3, .int a3)]) (st' := []) (M1 := M) (ob := []) (pc' := 24) (by decide +kernel) rfl rfl sw_a0 ?_
        exact sf_weak [1, 2, 3, 4, 0] rfl (t_Orbit_mostlyReturnsNear_24 hd _ ih _ _ _ _ _ _ _ hf)
def f_Orbit_mostlyReturnsNear (N : Nat) (a0 : Nat) (a1 : Nat) (M : sw_M) : Option (Int32 × sw_M) :=
  f_Orbit_mostlyReturnsNear_4 N N a0 a1 (0 : Int32) (0 : Int32) M
set_option maxRecDepth 10000 in
theorem t_Orbit_mostlyReturnsNear {g : sw_G} {d n0 : Nat} (hd : 2 ≤ d) {r : Int32 × sw_M} {N : Nat} {a0 : Nat} {a1 : Nat} {M : sw_M} (hf : f_Orbit_mostlyReturnsNear N a0 a1 M = some r) : sw_F g k_Orbit_mostlyReturnsNear d n0 (some (.int r.1)) r.2 0 [(0, .ref a0), (1, .ref a1)] [] M := by
  unfold f_Orbit_mostlyReturnsNear at hf
  refine sf_blk [(.iconst (0), 0, 0, .int (0 : Int32)), (.istore_n 2, 0, 0, .null), (.iconst (0), 0, 0, .int (0 : Int32)), (.istore_n 3, 0, 0, .null)] (lv' := [(3, .int (0 : Int32)), (2, .int (0 : Int32)), (0, .ref a0), (1, .ref a1)]) (st' := []) (M1 := M) (ob := []) (pc' := 4) (by decide +kernel) rfl rfl sw_a0 ?_
  exact sf_weak [2, 3, 1, 0] rfl (t_Orbit_mostlyReturnsNear_4 hd _ _ _ _ _ _ hf)
theorem o_Orbit_mostlyReturnsNear (g : sw_G) {d : Nat} (hd : 2 ≤ d) {N : Nat} {a0 : Nat} {a1 : Nat} {M : sw_M} {r : Int32 × sw_M} (hf : f_Orbit_mostlyReturnsNear N a0 a1 M = some r) : sw_Ok g k_Orbit_mostlyReturnsNear d [.ref a0, .ref a1] M (some (.int r.1)) r.2 := sf_met (by decide +kernel) rfl (by decide) (Nat.le_of_ble_eq_true rfl) (t_Orbit_mostlyReturnsNear hd hf)
def f_House_alike (N : Nat) (a0 : Nat) (a1 : Int32) (a2 : Int32) (M : sw_M) : Option (Int32 × sw_M) :=
  sw_gd [sw_ok M a0 11] (sw_gd [sw_ok M (rd_R M a0 6) 10] ((f_Swarm_known N (rd_R M a0 6) a1 M).bind (fun u3 => sw_gd [sw_ok u3.2 a0 11] (sw_gd [sw_ok u3.2 (rd_R u3.2 a0 6) 10] ((f_Swarm_known N (rd_R u3.2 a0 6) a2 u3.2).bind (fun u6 => if u3.1 = 0 then some ((0 : Int32), u6.2)
  else if u6.1 = 0 then some ((0 : Int32), u6.2)
  else sw_gd [sw_ok u6.2 u3.1 4] (if (rd_I u6.2 u3.1 6) = 0 then sw_gd [sw_ok u6.2 u6.1 4] (if (rd_I u6.2 u6.1 6) = 0 then (f_Orbit_kind N u3.1 u6.2).bind (fun u9 => sw_gd [sw_ok u9.2 u6.1 4] ((f_Orbit_kind N u6.1 u9.2).bind (fun u11 => if u9.1 = u11.1 then sw_gd [sw_ok u11.2 u3.1 4] ((f_Orbit_mostlyReturnsNear N u3.1 u6.1 u11.2).bind (fun u13 => if u13.1 = 0 then some ((0 : Int32), u13.2)
  else sw_gd [sw_ok u13.2 u6.1 4] ((f_Orbit_mostlyReturnsNear N u6.1 u3.1 u13.2).bind (fun u15 => if u15.1 = 0 then some ((0 : Int32), u15.2)
  else some ((1 : Int32), u15.2)))))
  else some ((0 : Int32), u11.2))))
  else some ((0 : Int32), u6.2))
  else some ((0 : Int32), u6.2))))))))
set_option maxRecDepth 10000 in
theorem t_House_alike {g : sw_G} {d n0 : Nat} (hd : 8 ≤ d) {r : Int32 × sw_M} {N : Nat} {a0 : Nat} {a1 : Int32} {a2 : Int32} {M : sw_M} (hf : f_House_alike N a0 a1 a2 M = some r) : sw_F g k_House_alike d n0 (some (.int r.1)) r.2 0 [(0, .ref a0), (1, .int a1), (2, .int a2)] [] M := by
  unfold f_House_alike at hf
  obtain ⟨h1, hf⟩ := sw_gd_1 hf
  obtain ⟨h2, hf⟩ := sw_gd_1 hf
  refine sf_blk [(.aload_n 0, 0, 0, .null), (.getfield 49, 11, 6, .null), (.iload_n 1, 0, 0, .null)] (lv' := [(0, .ref a0), (1, .int a1), (2, .int a2)]) (st' := [.int a1, .ref (rd_R M a0 6)]) (M1 := M) (ob := [sw_ok M a0 11]) (pc' := 5) (by decide +kernel) rfl rfl (sw_a1 h1 sw_a0) ?_
  obtain ⟨u3, hu3, hf⟩ := sw_bnd hf
  refine sf_callV (i := 185) (k2 := k_Swarm_known) (d2 := d - 1) (As := [.int a1]) (st := []) (q := (rd_R M a0 6)) (ci := 10) mf_Swarm_known mi_Swarm_known ms_Swarm_known (sw_m4 124 (by decide +kernel)) rfl (by decide) (by decide +kernel) rfl (Nat.le_of_ble_eq_true rfl) (by omega) h2 (o_Swarm_known g (d := d - 1) (by omega) hu3) ?_
  show sw_F _ _ _ _ _ _ 8 [(0, .ref a0), (1, .int a1), (2, .int a2)] [.ref u3.1] u3.2
  obtain ⟨h4, hf⟩ := sw_gd_1 hf
  obtain ⟨h5, hf⟩ := sw_gd_1 hf
  refine sf_blk [(.astore_n 3, 0, 0, .null), (.aload_n 0, 0, 0, .null), (.getfield 49, 11, 6, .null), (.iload_n 2, 0, 0, .null)] (lv' := [(3, .ref u3.1), (0, .ref a0), (1, .int a1), (2, .int a2)]) (st' := [.int a2, .ref (rd_R u3.2 a0 6)]) (M1 := u3.2) (ob := [sw_ok u3.2 a0 11]) (pc' := 14) (by decide +kernel) rfl rfl (sw_a1 h4 sw_a0) ?_
  obtain ⟨u6, hu6, hf⟩ := sw_bnd hf
  refine sf_callV (i := 185) (k2 := k_Swarm_known) (d2 := d - 1) (As := [.int a2]) (st := []) (q := (rd_R u3.2 a0 6)) (ci := 10) mf_Swarm_known mi_Swarm_known ms_Swarm_known (sw_m4 124 (by decide +kernel)) rfl (by decide) (by decide +kernel) rfl (Nat.le_of_ble_eq_true rfl) (by omega) h5 (o_Swarm_known g (d := d - 1) (by omega) hu6) ?_
  show sw_F _ _ _ _ _ _ 17 [(3, .ref u3.1), (0, .ref a0), (1, .int a1), (2, .int a2)] [.ref u6.1] u6.2
  refine sf_blk [(.astore 4, 0, 0, .null), (.aload_n 3, 0, 0, .null)] (lv' := [(4, .ref u6.1), (3, .ref u3.1), (0, .ref a0), (1, .int a1), (2, .int a2)]) (st' := [.ref u3.1]) (M1 := u6.2) (ob := []) (pc' := 20) (by decide +kernel) rfl rfl sw_a0 ?_
  refine sf_n_null (off := 35) (tgt := 55) (by decide +kernel) (by decide) hf (fun hc hf => ?_) (fun hc hf => ?_)
  · refine sf_blk [(.iconst (0), 0, 0, .int (0 : Int32))] (lv' := [(4, .ref u6.1), (3, .ref u3.1), (0, .ref a0), (1, .int a1), (2, .int a2)]) (st' := [.int (0 : Int32)]) (M1 := u6.2) (ob := []) (pc' := 56) (by decide +kernel) rfl rfl sw_a0 ?_
    cases hf
    exact sf_bool rfl rfl (by decide +kernel)
  · refine sf_blk [(.aload 4, 0, 0, .null)] (lv' := [(4, .ref u6.1), (3, .ref u3.1), (0, .ref a0), (1, .int a1), (2, .int a2)]) (st' := [.ref u6.1]) (M1 := u6.2) (ob := []) (pc' := 25) (by decide +kernel) rfl rfl sw_a0 ?_
    refine sf_n_null (off := 30) (tgt := 55) (by decide +kernel) (by decide) hf (fun hc hf => ?_) (fun hc hf => ?_)
    · refine sf_blk [(.iconst (0), 0, 0, .int (0 : Int32))] (lv' := [(4, .ref u6.1), (3, .ref u3.1), (0, .ref a0), (1, .int a1), (2, .int a2)]) (st' := [.int (0 : Int32)]) (M1 := u6.2) (ob := []) (pc' := 56) (by decide +kernel) rfl rfl sw_a0 ?_
      cases hf
      exact sf_bool rfl rfl (by decide +kernel)
    · obtain ⟨h7, hf⟩ := sw_gd_1 hf
      refine sf_blk [(.aload_n 3, 0, 0, .null), (.getfield 229, 4, 6, .null)] (lv' := [(4, .ref u6.1), (3, .ref u3.1), (0, .ref a0), (1, .int a1), (2, .int a2)]) (st' := [.int (rd_I u6.2 u3.1 6)]) (M1 := u6.2) (ob := [sw_ok u6.2 u3.1 4]) (pc' := 32) (by decide +kernel) rfl rfl (sw_a1 h7 sw_a0) ?_
      refine sf_z_ne (off := 23) (tgt := 55) (by decide +kernel) (by decide) hf (fun hc hf => ?_) (fun hc hf => ?_)
      · refine sf_blk [(.iconst (0), 0, 0, .int (0 : Int32))] (lv' := [(4, .ref u6.1), (3, .ref u3.1), (0, .ref a0), (1, .int a1), (2, .int a2)]) (st' := [.int (0 : Int32)]) (M1 := u6.2) (ob := []) (pc' := 56) (by decide +kernel) rfl rfl sw_a0 ?_
        cases hf
        exact sf_bool rfl rfl (by decide +kernel)
      · obtain ⟨h8, hf⟩ := sw_gd_1 hf
        refine sf_blk [(.aload 4, 0, 0, .null), (.getfield 229, 4, 6, .null)] (lv' := [(4, .ref u6.1), (3, .ref u3.1), (0, .ref a0), (1, .int a1), (2, .int a2)]) (st' := [.int (rd_I u6.2 u6.1 6)]) (M1 := u6.2) (ob := [sw_ok u6.2 u6.1 4]) (pc' := 40) (by decide +kernel) rfl rfl (sw_a1 h8 sw_a0) ?_
        refine sf_z_ne (off := 15) (tgt := 55) (by decide +kernel) (by decide) hf (fun hc hf => ?_) (fun hc hf => ?_)
        · refine sf_blk [(.iconst (0), 0, 0, .int (0 : Int32))] (lv' := [(4, .ref u6.1), (3, .ref u3.1), (0, .ref a0), (1, .int a1), (2, .int a2)]) (st' := [.int (0 : Int32)]) (M1 := u6.2) (ob := []) (pc' := 56) (by decide +kernel) rfl rfl sw_a0 ?_
          cases hf
          exact sf_bool rfl rfl (by decide +kernel)
        · refine sf_blk [(.aload_n 3, 0, 0, .null)] (lv' := [(4, .ref u6.1), (3, .ref u3.1), (0, .ref a0), (1, .int a1), (2, .int a2)]) (st' := [.ref u3.1]) (M1 := u6.2) (ob := []) (pc' := 44) (by decide +kernel) rfl rfl sw_a0 ?_
          obtain ⟨u9, hu9, hf⟩ := sw_bnd hf
          refine sf_callV (i := 205) (k2 := k_Orbit_kind) (d2 := d - 1) (As := []) (st := []) (q := u3.1) (ci := 4) mf_Orbit_kind mi_Orbit_kind ms_Orbit_kind (sw_m4 212 (by decide +kernel)) rfl (by decide) (by decide +kernel) rfl (Nat.le_of_ble_eq_true rfl) (by omega) h7 (o_Orbit_kind g (d := d - 1) (by omega) hu9) ?_
          show sw_F _ _ _ _ _ _ 47 [(4, .ref u6.1), (3, .ref u3.1), (0, .ref a0), (1, .int a1), (2, .int a2)] [.int u9.1] u9.2
          obtain ⟨h10, hf⟩ := sw_gd_1 hf
          refine sf_blk [(.aload 4, 0, 0, .null)] (lv' := [(4, .ref u6.1), (3, .ref u3.1), (0, .ref a0), (1, .int a1), (2, .int a2)]) (st' := [.ref u6.1, .int u9.1]) (M1 := u9.2) (ob := []) (pc' := 49) (by decide +kernel) rfl rfl sw_a0 ?_
          obtain ⟨u11, hu11, hf⟩ := sw_bnd hf
          refine sf_callV (i := 205) (k2 := k_Orbit_kind) (d2 := d - 1) (As := []) (st := [.int u9.1]) (q := u6.1) (ci := 4) mf_Orbit_kind mi_Orbit_kind ms_Orbit_kind (sw_m4 212 (by decide +kernel)) rfl (by decide) (by decide +kernel) rfl (Nat.le_of_ble_eq_true rfl) (by omega) h10 (o_Orbit_kind g (d := d - 1) (by omega) hu11) ?_
          show sw_F _ _ _ _ _ _ 52 [(4, .ref u6.1), (3, .ref u3.1), (0, .ref a0), (1, .int a1), (2, .int a2)] [.int u11.1, .int u9.1] u11.2
          refine sf_j_eq (off := 5) (tgt := 57) (by decide +kernel) (by decide) hf (fun hc hf => ?_) (fun hc hf => ?_)
          · obtain ⟨h12, hf⟩ := sw_gd_1 hf
            refine sf_blk [(.aload_n 3, 0, 0, .null), (.aload 4, 0, 0, .null)] (lv' := [(4, .ref u6.1), (3, .ref u3.1), (0, .ref a0), (1, .int a1), (2, .int a2)]) (st' := [.ref u6.1, .ref u3.1]) (M1 := u11.2) (ob := []) (pc' := 60) (by decide +kernel) rfl rfl sw_a0 ?_
            obtain ⟨u13, hu13, hf⟩ := sw_bnd hf
            refine sf_callV (i := 232) (k2 := k_Orbit_mostlyReturnsNear) (d2 := d - 1) (As := [.ref u6.1]) (st := []) (q := u3.1) (ci := 4) mf_Orbit_mostlyReturnsNear mi_Orbit_mostlyReturnsNear ms_Orbit_mostlyReturnsNear (sw_m4 225 (by decide +kernel)) rfl (by decide) (by decide +kernel) rfl (Nat.le_of_ble_eq_true rfl) (by omega) h12 (o_Orbit_mostlyReturnsNear g (d := d - 1) (by omega) hu13) ?_
            show sw_F _ _ _ _ _ _ 63 [(4, .ref u6.1), (3, .ref u3.1), (0, .ref a0), (1, .int a1), (2, .int a2)] [.int u13.1] u13.2
            refine sf_z_eq (off := 16) (tgt := 79) (by decide +kernel) (by decide) hf (fun hc hf => ?_) (fun hc hf => ?_)
            · refine sf_blk [(.iconst (0), 0, 0, .int (0 : Int32))] (lv' := [(4, .ref u6.1), (3, .ref u3.1), (0, .ref a0), (1, .int a1), (2, .int a2)]) (st' := [.int (0 : Int32)]) (M1 := u13.2) (ob := []) (pc' := 80) (by decide +kernel) rfl rfl sw_a0 ?_
              cases hf
              exact sf_bool rfl rfl (by decide +kernel)
            · obtain ⟨h14, hf⟩ := sw_gd_1 hf
              refine sf_blk [(.aload 4, 0, 0, .null), (.aload_n 3, 0, 0, .null)] (lv' := [(4, .ref u6.1), (3, .ref u3.1), (0, .ref a0), (1, .int a1), (2, .int a2)]) (st' := [.ref u3.1, .ref u6.1]) (M1 := u13.2) (ob := []) (pc' := 69) (by decide +kernel) rfl rfl sw_a0 ?_
              obtain ⟨u15, hu15, hf⟩ := sw_bnd hf
              refine sf_callV (i := 232) (k2 := k_Orbit_mostlyReturnsNear) (d2 := d - 1) (As := [.ref u3.1]) (st := []) (q := u6.1) (ci := 4) mf_Orbit_mostlyReturnsNear mi_Orbit_mostlyReturnsNear ms_Orbit_mostlyReturnsNear (sw_m4 225 (by decide +kernel)) rfl (by decide) (by decide +kernel) rfl (Nat.le_of_ble_eq_true rfl) (by omega) h14 (o_Orbit_mostlyReturnsNear g (d := d - 1) (by omega) hu15) ?_
              show sw_F _ _ _ _ _ _ 72 [(4, .ref u6.1), (3, .ref u3.1), (0, .ref a0), (1, .int a1), (2, .int a2)] [.int u15.1] u15.2
              refine sf_z_eq (off := 7) (tgt := 79) (by decide +kernel) (by decide) hf (fun hc hf => ?_) (fun hc hf => ?_)
              · refine sf_blk [(.iconst (0), 0, 0, .int (0 : Int32))] (lv' := [(4, .ref u6.1), (3, .ref u3.1), (0, .ref a0), (1, .int a1), (2, .int a2)]) (st' := [.int (0 : Int32)]) (M1 := u15.2) (ob := []) (pc' := 80) (by decide +kernel) rfl rfl sw_a0 ?_
                cases hf
                exact sf_bool rfl rfl (by decide +kernel)
              · refine sf_blk [(.iconst (1), 0, 0, .int (1 : Int32))] (lv' := [(4, .ref u6.1), (3, .ref u3.1), (0, .ref a0), (1, .int a1), (2, .int a2)]) (st' := [.int (1 : Int32)]) (M1 := u15.2) (ob := []) (pc' := 76) (by decide +kernel) rfl rfl sw_a0 ?_
                refine sf_goto (off := 4) (tgt := 80) (by decide +kernel) (by decide) ?_
                cases hf
                exact sf_bool rfl rfl (by decide +kernel)
          · refine sf_blk [(.iconst (0), 0, 0, .int (0 : Int32))] (lv' := [(4, .ref u6.1), (3, .ref u3.1), (0, .ref a0), (1, .int a1), (2, .int a2)]) (st' := [.int (0 : Int32)]) (M1 := u11.2) (ob := []) (pc' := 56) (by decide +kernel) rfl rfl sw_a0 ?_
            cases hf
            exact sf_bool rfl rfl (by decide +kernel)
theorem o_House_alike (g : sw_G) {d : Nat} (hd : 8 ≤ d) {N : Nat} {a0 : Nat} {a1 : Int32} {a2 : Int32} {M : sw_M} {r : Int32 × sw_M} (hf : f_House_alike N a0 a1 a2 M = some r) : sw_Ok g k_House_alike d [.ref a0, .int a1, .int a2] M (some (.int r.1)) r.2 := sf_met (by decide +kernel) rfl (by decide) (Nat.le_of_ble_eq_true rfl) (t_House_alike hd hf)
def f_Field_firstPeriod_44 (N : Nat) (k2 : Nat → Int32 → sw_M → Option (Int32 × sw_M)) (a0 : Nat) (a1 : Int32) (M : sw_M) : Option (Int32 × sw_M) :=
  k2 a0 (a1 + (1 : Int32)) M
set_option maxRecDepth 10000 in
theorem t_Field_firstPeriod_44 {g : sw_G} {d n0 : Nat} (hd : 1 ≤ d) {r : Int32 × sw_M} (k2 : Nat → Int32 → sw_M → Option (Int32 × sw_M)) (hk2 : ∀ (a0 : Nat) (a1 : Int32) (M : sw_M), k2 a0 a1 M = some r → sw_F g k_Field_firstPeriod d n0 (some (.int r.1)) r.2 2 [(0, .ref a0), (1, .int a1)] [] M) {N : Nat} {a0 : Nat} {a1 : Int32} {M : sw_M} (hf : f_Field_firstPeriod_44 N k2 a0 a1 M = some r) : sw_F g k_Field_firstPeriod d n0 (some (.int r.1)) r.2 44 [(0, .ref a0), (1, .int a1)] [] M := by
  unfold f_Field_firstPeriod_44 at hf
  refine sf_blk [(.iinc 1 (1), 0, 0, .int (1 : Int32))] (lv' := [(1, .int (a1 + (1 : Int32))), (0, .ref a0)]) (st' := []) (M1 := M) (ob := []) (pc' := 47) (by decide +kernel) rfl rfl sw_a0 ?_
  refine sf_goto (off := -45) (tgt := 2) (by decide +kernel) (by decide) ?_
  exact sf_weak [1, 0] rfl (hk2 _ _ _ hf)
def f_Field_firstPeriod_2 (N : Nat) : Nat → Nat → Int32 → sw_M → Option (Int32 × sw_M)
  | 0, _, _, _ => none
  | j + 1, a0, a1, M =>
  sw_gd [sw_ok M a0 0] (if (rd_I M a0 2) ≤ a1 then some ((0 : Int32), M)
  else sw_gd [sw_oka M (rd_R M a0 0)] (if (nI (sw_len (rd_R M a0 0))) ≤ a1 then some ((0 : Int32), M)
  else sw_gd [sw_ar M (rd_R M a0 0) 17 a1 || (sw_ar M (rd_R M a0 0) 18 a1 || sw_ar M (rd_R M a0 0) 19 a1)] (if (rd_R M (rd_R M a0 0) a1.toNatClampNeg) = 0 then f_Field_firstPeriod_44 N (f_Field_firstPeriod_2 N j) a0 a1 M
  else sw_gd [sw_ok M (rd_R M (rd_R M a0 0) a1.toNatClampNeg) 5] (if (rd_I M (rd_R M (rd_R M a0 0) a1.toNatClampNeg) 0) = (23 : Int32) then some ((rd_I M (rd_R M (rd_R M a0 0) a1.toNatClampNeg) 7), M)
  else f_Field_firstPeriod_44 N (f_Field_firstPeriod_2 N j) a0 a1 M))))
set_option maxRecDepth 10000 in
theorem t_Field_firstPeriod_2 {g : sw_G} {d n0 : Nat} (hd : 1 ≤ d) {r : Int32 × sw_M} {N : Nat} : ∀ (j : Nat) (a0 : Nat) (a1 : Int32) (M : sw_M), f_Field_firstPeriod_2 N j a0 a1 M = some r → sw_F g k_Field_firstPeriod d n0 (some (.int r.1)) r.2 2 [(0, .ref a0), (1, .int a1)] [] M := by
  intro j
  induction j with
  | zero =>
    intro a0 a1 M hf
    rw [f_Field_firstPeriod_2] at hf
    cases hf
  | succ j ih =>
    intro a0 a1 M hf
    rw [f_Field_firstPeriod_2] at hf
    obtain ⟨h1, hf⟩ := sw_gd_1 hf
    refine sf_blk [(.iload_n 1, 0, 0, .null), (.aload_n 0, 0, 0, .null), (.getfield 25, 0, 2, .null)] (lv' := [(0, .ref a0), (1, .int a1)]) (st' := [.int (rd_I M a0 2), .int a1]) (M1 := M) (ob := [sw_ok M a0 0]) (pc' := 7) (by decide +kernel) rfl rfl (sw_a1 h1 sw_a0) ?_
    refine sf_j_ge (off := 43) (tgt := 50) (by decide +kernel) (by decide) hf (fun hc hf => ?_) (fun hc hf => ?_)
    · refine sf_blk [(.iconst (0), 0, 0, .int (0 : Int32))] (lv' := [(0, .ref a0), (1, .int a1)]) (st' := [.int (0 : Int32)]) (M1 := M) (ob := []) (pc' := 51) (by decide +kernel) rfl rfl sw_a0 ?_
      cases hf
      exact sf_int rfl (by decide +kernel)
    · obtain ⟨h2, hf⟩ := sw_gd_1 hf
      refine sf_blk [(.iload_n 1, 0, 0, .null), (.aload_n 0, 0, 0, .null), (.getfield 11, 0, 0, .null), (.arraylength, 0, 0, .null)] (lv' := [(0, .ref a0), (1, .int a1)]) (st' := [.int (nI (sw_len (rd_R M a0 0))), .int a1]) (M1 := M) (ob := [sw_ok M a0 0, sw_oka M (rd_R M a0 0)]) (pc' := 16) (by decide +kernel) rfl rfl (sw_a1 h1 (sw_a1 h2 sw_a0)) ?_
      refine sf_j_ge (off := 34) (tgt := 50) (by decide +kernel) (by decide) hf (fun hc hf => ?_) (fun hc hf => ?_)
      · refine sf_blk [(.iconst (0), 0, 0, .int (0 : Int32))] (lv' := [(0, .ref a0), (1, .int a1)]) (st' := [.int (0 : Int32)]) (M1 := M) (ob := []) (pc' := 51) (by decide +kernel) rfl rfl sw_a0 ?_
        cases hf
        exact sf_int rfl (by decide +kernel)
      · obtain ⟨h3, hf⟩ := sw_gd_1 hf
        refine sf_blk [(.aload_n 0, 0, 0, .null), (.getfield 11, 0, 0, .null), (.iload_n 1, 0, 0, .null), (.aaload, 0, 0, .null), (.astore_n 2, 0, 0, .null), (.aload_n 2, 0, 0, .null)] (lv' := [(2, .ref (rd_R M (rd_R M a0 0) a1.toNatClampNeg)), (0, .ref a0), (1, .int a1)]) (st' := [.ref (rd_R M (rd_R M a0 0) a1.toNatClampNeg)]) (M1 := M) (ob := [sw_ok M a0 0, sw_ar M (rd_R M a0 0) 17 a1 || (sw_ar M (rd_R M a0 0) 18 a1 || sw_ar M (rd_R M a0 0) 19 a1)]) (pc' := 27) (by decide +kernel) rfl rfl (sw_a1 h1 (sw_a1 h3 sw_a0)) ?_
        refine sf_n_null (off := 17) (tgt := 44) (by decide +kernel) (by decide) hf (fun hc hf => ?_) (fun hc hf => ?_)
        · exact sf_weak [1, 2] rfl (t_Field_firstPeriod_44 hd _ ih hf)
        · obtain ⟨h4, hf⟩ := sw_gd_1 hf
          refine sf_blk [(.aload_n 2, 0, 0, .null), (.getfield 55, 5, 0, .null), (.bipush (23), 0, 0, .int (23 : Int32))] (lv' := [(2, .ref (rd_R M (rd_R M a0 0) a1.toNatClampNeg)), (0, .ref a0), (1, .int a1)]) (st' := [.int (23 : Int32), .int (rd_I M (rd_R M (rd_R M a0 0) a1.toNatClampNeg) 0)]) (M1 := M) (ob := [sw_ok M (rd_R M (rd_R M a0 0) a1.toNatClampNeg) 5]) (pc' := 36) (by decide +kernel) rfl rfl (sw_a1 h4 sw_a0) ?_
          refine sf_j_ne (off := 8) (tgt := 44) (by decide +kernel) (by decide) hf (fun hc hf => ?_) (fun hc hf => ?_)
          · exact sf_weak [1, 2] rfl (t_Field_firstPeriod_44 hd _ ih hf)
          · refine sf_blk [(.aload_n 2, 0, 0, .null), (.getfield 58, 5, 7, .null)] (lv' := [(2, .ref (rd_R M (rd_R M a0 0) a1.toNatClampNeg)), (0, .ref a0), (1, .int a1)]) (st' := [.int (rd_I M (rd_R M (rd_R M a0 0) a1.toNatClampNeg) 7)]) (M1 := M) (ob := [sw_ok M (rd_R M (rd_R M a0 0) a1.toNatClampNeg) 5]) (pc' := 43) (by decide +kernel) rfl rfl (sw_a1 h4 sw_a0) ?_
            cases hf
            exact sf_int rfl (by decide +kernel)
def f_Field_firstPeriod (N : Nat) (a0 : Nat) (M : sw_M) : Option (Int32 × sw_M) :=
  f_Field_firstPeriod_2 N N a0 (0 : Int32) M
set_option maxRecDepth 10000 in
theorem t_Field_firstPeriod {g : sw_G} {d n0 : Nat} (hd : 1 ≤ d) {r : Int32 × sw_M} {N : Nat} {a0 : Nat} {M : sw_M} (hf : f_Field_firstPeriod N a0 M = some r) : sw_F g k_Field_firstPeriod d n0 (some (.int r.1)) r.2 0 [(0, .ref a0)] [] M := by
  unfold f_Field_firstPeriod at hf
  refine sf_blk [(.iconst (0), 0, 0, .int (0 : Int32)), (.istore_n 1, 0, 0, .null)] (lv' := [(1, .int (0 : Int32)), (0, .ref a0)]) (st' := []) (M1 := M) (ob := []) (pc' := 2) (by decide +kernel) rfl rfl sw_a0 ?_
  exact sf_weak [1, 0] rfl (t_Field_firstPeriod_2 hd _ _ _ _ hf)
theorem o_Field_firstPeriod (g : sw_G) {d : Nat} (hd : 1 ≤ d) {N : Nat} {a0 : Nat} {M : sw_M} {r : Int32 × sw_M} (hf : f_Field_firstPeriod N a0 M = some r) : sw_Ok g k_Field_firstPeriod d [.ref a0] M (some (.int r.1)) r.2 := sf_met (by decide +kernel) rfl (by decide) (Nat.le_of_ble_eq_true rfl) (t_Field_firstPeriod hd hf)
