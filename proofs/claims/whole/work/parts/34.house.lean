/-! printed by program: functions of methods, and that the bytes compute them -/
def f_House_tune_112 (N : Nat) (M : sw_M) : Option (Int32 × sw_M) :=
  some ((1 : Int32), M)
set_option maxRecDepth 10000 in
theorem t_House_tune_112 {g : sw_G} {d n0 : Nat} (hd : 8 ≤ d) {r : Int32 × sw_M} {N : Nat} {M : sw_M} (hf : f_House_tune_112 N M = some r) : sw_F g k_House_tune d n0 (some (.int r.1)) r.2 112 [] [] M := by
  unfold f_House_tune_112 at hf
  refine sf_blk [(.iconst (1), 0, 0, .int (1 : Int32))] (lv' := []) (st' := [.int (1 : Int32)]) (M1 := M) (ob := []) (pc' := 113) (by decide +kernel) rfl rfl sw_a0 ?_
  refine sf_goto (off := 4) (tgt := 117) (by decide +kernel) (by decide) ?_
  cases hf
  exact sf_bool rfl rfl (by decide +kernel)
def f_House_tune_86 (N : Nat) (a6 : Int32) (a7 : Int32) (a8 : Int32) (M : sw_M) : Option (Int32 × sw_M) :=
  if (m_absI (a6 - a7)) ≤ a8 then f_House_tune_112 N M
  else if a8 < (m_absI (a6 + a7)) then some ((0 : Int32), M)
  else f_House_tune_112 N M
set_option maxRecDepth 10000 in
theorem t_House_tune_86 {g : sw_G} {d n0 : Nat} (hd : 8 ≤ d) {r : Int32 × sw_M} {N : Nat} {a6 : Int32} {a7 : Int32} {a8 : Int32} {M : sw_M} (hf : f_House_tune_86 N a6 a7 a8 M = some r) : sw_F g k_House_tune d n0 (some (.int r.1)) r.2 86 [(6, .int a6), (7, .int a7), (8, .int a8)] [] M := by
  unfold f_House_tune_86 at hf
  refine sf_blk [(.iload 6, 0, 0, .null), (.iload 7, 0, 0, .null), (.isub, 0, 0, .null)] (lv' := [(6, .int a6), (7, .int a7), (8, .int a8)]) (st' := [.int (a6 - a7)]) (M1 := M) (ob := []) (pc' := 91) (by decide +kernel) rfl rfl sw_a0 ?_
  refine sf_absI (i := 239) (st := []) (sw_m5 0 (by decide +kernel)) (by decide +kernel) (by omega) (Nat.le_of_ble_eq_true rfl) ?_
  show sw_F _ _ _ _ _ _ 94 [(6, .int a6), (7, .int a7), (8, .int a8)] [.int (m_absI (a6 - a7))] M
  refine sf_blk [(.iload 8, 0, 0, .null)] (lv' := [(6, .int a6), (7, .int a7), (8, .int a8)]) (st' := [.int a8, .int (m_absI (a6 - a7))]) (M1 := M) (ob := []) (pc' := 96) (by decide +kernel) rfl rfl sw_a0 ?_
  refine sf_j_le (off := 16) (tgt := 112) (by decide +kernel) (by decide) hf (fun hc hf => ?_) (fun hc hf => ?_)
  · exact sf_weak [] rfl (t_House_tune_112 hd hf)
  · refine sf_blk [(.iload 6, 0, 0, .null), (.iload 7, 0, 0, .null), (.iadd, 0, 0, .null)] (lv' := [(6, .int a6), (7, .int a7), (8, .int a8)]) (st' := [.int (a6 + a7)]) (M1 := M) (ob := []) (pc' := 104) (by decide +kernel) rfl rfl sw_a0 ?_
    refine sf_absI (i := 239) (st := []) (sw_m5 0 (by decide +kernel)) (by decide +kernel) (by omega) (Nat.le_of_ble_eq_true rfl) ?_
    show sw_F _ _ _ _ _ _ 107 [(6, .int a6), (7, .int a7), (8, .int a8)] [.int (m_absI (a6 + a7))] M
    refine sf_blk [(.iload 8, 0, 0, .null)] (lv' := [(6, .int a6), (7, .int a7), (8, .int a8)]) (st' := [.int a8, .int (m_absI (a6 + a7))]) (M1 := M) (ob := []) (pc' := 109) (by decide +kernel) rfl rfl sw_a0 ?_
    refine sf_j_gt (off := 7) (tgt := 116) (by decide +kernel) (by decide) hf (fun hc hf => ?_) (fun hc hf => ?_)
    · refine sf_blk [(.iconst (0), 0, 0, .int (0 : Int32))] (lv' := [(6, .int a6), (7, .int a7), (8, .int a8)]) (st' := [.int (0 : Int32)]) (M1 := M) (ob := []) (pc' := 117) (by decide +kernel) rfl rfl sw_a0 ?_
      cases hf
      exact sf_bool rfl rfl (by decide +kernel)
    · exact sf_weak [] rfl (t_House_tune_112 hd hf)
def f_House_tune (N : Nat) (a0 : Nat) (a1 : Int32) (a2 : Int32) (a3 : Int32) (M : sw_M) : Option (Int32 × sw_M) :=
  sw_gd [sw_ok M a0 11] (sw_gd [sw_ok M (rd_R M a0 6) 10] ((f_Swarm_known N (rd_R M a0 6) a1 M).bind (fun u3 => sw_gd [sw_ok u3.2 a0 11] (sw_gd [sw_ok u3.2 (rd_R u3.2 a0 2) 0] ((f_Field_firstPeriod N (rd_R u3.2 a0 2) u3.2).bind (fun u6 => if u3.1 = 0 then some ((0 : Int32), u6.2)
  else if u6.1 = 0 then some ((0 : Int32), u6.2)
  else if a2 < (1 : Int32) then some ((0 : Int32), u6.2)
  else if (9 : Int32) < a2 then some ((0 : Int32), u6.2)
  else if a3 < (1 : Int32) then some ((0 : Int32), u6.2)
  else if a3 ≤ (9 : Int32) then sw_gd [sw_ok u6.2 u3.1 4] (sw_gd [sw_ok u6.2 a0 11] (sw_gd [sw_ok u6.2 (rd_R u6.2 a0 6) 10] (f_House_tune_86 N (((a3 * (rd_I u6.2 u3.1 9)) * (2 : Int32)) * u6.1) (a2 * (rd_I u6.2 (rd_R u6.2 a0 6) 4)) ((a3 * (2 : Int32)) * u6.1) u6.2)))
  else some ((0 : Int32), u6.2)))))))
set_option maxRecDepth 10000 in
theorem t_House_tune {g : sw_G} {d n0 : Nat} (hd : 8 ≤ d) {r : Int32 × sw_M} {N : Nat} {a0 : Nat} {a1 : Int32} {a2 : Int32} {a3 : Int32} {M : sw_M} (hf : f_House_tune N a0 a1 a2 a3 M = some r) : sw_F g k_House_tune d n0 (some (.int r.1)) r.2 0 [(0, .ref a0), (1, .int a1), (2, .int a2), (3, .int a3)] [] M := by
  unfold f_House_tune at hf
  obtain ⟨h1, hf⟩ := sw_gd_1 hf
  obtain ⟨h2, hf⟩ := sw_gd_1 hf
  refine sf_blk [(.aload_n 0, 0, 0, .null), (.getfield 49, 11, 6, .null), (.iload_n 1, 0, 0, .null)] (lv' := [(0, .ref a0), (1, .int a1), (2, .int a2), (3, .int a3)]) (st' := [.int a1, .ref (rd_R M a0 6)]) (M1 := M) (ob := [sw_ok M a0 11]) (pc' := 5) (by decide +kernel) rfl rfl (sw_a1 h1 sw_a0) ?_
  obtain ⟨u3, hu3, hf⟩ := sw_bnd hf
  refine sf_callV (i := 185) (k2 := k_Swarm_known) (d2 := d - 1) (As := [.int a1]) (st := []) (q := (rd_R M a0 6)) (ci := 10) mf_Swarm_known mi_Swarm_known ms_Swarm_known (sw_m4 124 (by decide +kernel)) rfl (by decide) (by decide +kernel) rfl (Nat.le_of_ble_eq_true rfl) (by omega) h2 (o_Swarm_known g (d := d - 1) (by omega) hu3) ?_
  show sw_F _ _ _ _ _ _ 8 [(0, .ref a0), (1, .int a1), (2, .int a2), (3, .int a3)] [.ref u3.1] u3.2
  obtain ⟨h4, hf⟩ := sw_gd_1 hf
  obtain ⟨h5, hf⟩ := sw_gd_1 hf
  refine sf_blk [(.astore 4, 0, 0, .null), (.aload_n 0, 0, 0, .null), (.getfield 20, 11, 2, .null)] (lv' := [(4, .ref u3.1), (0, .ref a0), (1, .int a1), (2, .int a2), (3, .int a3)]) (st' := [.ref (rd_R u3.2 a0 2)]) (M1 := u3.2) (ob := [sw_ok u3.2 a0 11]) (pc' := 14) (by decide +kernel) rfl rfl (sw_a1 h4 sw_a0) ?_
  obtain ⟨u6, hu6, hf⟩ := sw_bnd hf
  refine sf_callV (i := 236) (k2 := k_Field_firstPeriod) (d2 := d - 1) (As := []) (st := []) (q := (rd_R u3.2 a0 2)) (ci := 0) mf_Field_firstPeriod mi_Field_firstPeriod ms_Field_firstPeriod (sw_m4 236 (by decide +kernel)) rfl (by decide) (by decide +kernel) rfl (Nat.le_of_ble_eq_true rfl) (by omega) h5 (o_Field_firstPeriod g (d := d - 1) (by omega) hu6) ?_
  show sw_F _ _ _ _ _ _ 17 [(4, .ref u3.1), (0, .ref a0), (1, .int a1), (2, .int a2), (3, .int a3)] [.int u6.1] u6.2
  refine sf_blk [(.istore 5, 0, 0, .null), (.aload 4, 0, 0, .null)] (lv' := [(5, .int u6.1), (4, .ref u3.1), (0, .ref a0), (1, .int a1), (2, .int a2), (3, .int a3)]) (st' := [.ref u3.1]) (M1 := u6.2) (ob := []) (pc' := 21) (by decide +kernel) rfl rfl sw_a0 ?_
  refine sf_n_null (off := 30) (tgt := 51) (by decide +kernel) (by decide) hf (fun hc hf => ?_) (fun hc hf => ?_)
  · refine sf_blk [(.iconst (0), 0, 0, .int (0 : Int32))] (lv' := [(5, .int u6.1), (4, .ref u3.1), (0, .ref a0), (1, .int a1), (2, .int a2), (3, .int a3)]) (st' := [.int (0 : Int32)]) (M1 := u6.2) (ob := []) (pc' := 52) (by decide +kernel) rfl rfl sw_a0 ?_
    cases hf
    exact sf_bool rfl rfl (by decide +kernel)
  · refine sf_blk [(.iload 5, 0, 0, .null)] (lv' := [(5, .int u6.1), (4, .ref u3.1), (0, .ref a0), (1, .int a1), (2, .int a2), (3, .int a3)]) (st' := [.int u6.1]) (M1 := u6.2) (ob := []) (pc' := 26) (by decide +kernel) rfl rfl sw_a0 ?_
    refine sf_z_eq (off := 25) (tgt := 51) (by decide +kernel) (by decide) hf (fun hc hf => ?_) (fun hc hf => ?_)
    · refine sf_blk [(.iconst (0), 0, 0, .int (0 : Int32))] (lv' := [(5, .int u6.1), (4, .ref u3.1), (0, .ref a0), (1, .int a1), (2, .int a2), (3, .int a3)]) (st' := [.int (0 : Int32)]) (M1 := u6.2) (ob := []) (pc' := 52) (by decide +kernel) rfl rfl sw_a0 ?_
      cases hf
      exact sf_bool rfl rfl (by decide +kernel)
    · refine sf_blk [(.iload_n 2, 0, 0, .null), (.iconst (1), 0, 0, .int (1 : Int32))] (lv' := [(5, .int u6.1), (4, .ref u3.1), (0, .ref a0), (1, .int a1), (2, .int a2), (3, .int a3)]) (st' := [.int (1 : Int32), .int a2]) (M1 := u6.2) (ob := []) (pc' := 31) (by decide +kernel) rfl rfl sw_a0 ?_
      refine sf_j_lt (off := 20) (tgt := 51) (by decide +kernel) (by decide) hf (fun hc hf => ?_) (fun hc hf => ?_)
      · refine sf_blk [(.iconst (0), 0, 0, .int (0 : Int32))] (lv' := [(5, .int u6.1), (4, .ref u3.1), (0, .ref a0), (1, .int a1), (2, .int a2), (3, .int a3)]) (st' := [.int (0 : Int32)]) (M1 := u6.2) (ob := []) (pc' := 52) (by decide +kernel) rfl rfl sw_a0 ?_
        cases hf
        exact sf_bool rfl rfl (by decide +kernel)
      · refine sf_blk [(.iload_n 2, 0, 0, .null), (.bipush (9), 0, 0, .int (9 : Int32))] (lv' := [(5, .int u6.1), (4, .ref u3.1), (0, .ref a0), (1, .int a1), (2, .int a2), (3, .int a3)]) (st' := [.int (9 : Int32), .int a2]) (M1 := u6.2) (ob := []) (pc' := 37) (by decide +kernel) rfl rfl sw_a0 ?_
        refine sf_j_gt (off := 14) (tgt := 51) (by decide +kernel) (by decide) hf (fun hc hf => ?_) (fun hc hf => ?_)
        · refine sf_blk [(.iconst (0), 0, 0, .int (0 : Int32))] (lv' := [(5, .int u6.1), (4, .ref u3.1), (0, .ref a0), (1, .int a1), (2, .int a2), (3, .int a3)]) (st' := [.int (0 : Int32)]) (M1 := u6.2) (ob := []) (pc' := 52) (by decide +kernel) rfl rfl sw_a0 ?_
          cases hf
          exact sf_bool rfl rfl (by decide +kernel)
        · refine sf_blk [(.iload_n 3, 0, 0, .null), (.iconst (1), 0, 0, .int (1 : Int32))] (lv' := [(5, .int u6.1), (4, .ref u3.1), (0, .ref a0), (1, .int a1), (2, .int a2), (3, .int a3)]) (st' := [.int (1 : Int32), .int a3]) (M1 := u6.2) (ob := []) (pc' := 42) (by decide +kernel) rfl rfl sw_a0 ?_
          refine sf_j_lt (off := 9) (tgt := 51) (by decide +kernel) (by decide) hf (fun hc hf => ?_) (fun hc hf => ?_)
          · refine sf_blk [(.iconst (0), 0, 0, .int (0 : Int32))] (lv' := [(5, .int u6.1), (4, .ref u3.1), (0, .ref a0), (1, .int a1), (2, .int a2), (3, .int a3)]) (st' := [.int (0 : Int32)]) (M1 := u6.2) (ob := []) (pc' := 52) (by decide +kernel) rfl rfl sw_a0 ?_
            cases hf
            exact sf_bool rfl rfl (by decide +kernel)
          · refine sf_blk [(.iload_n 3, 0, 0, .null), (.bipush (9), 0, 0, .int (9 : Int32))] (lv' := [(5, .int u6.1), (4, .ref u3.1), (0, .ref a0), (1, .int a1), (2, .int a2), (3, .int a3)]) (st' := [.int (9 : Int32), .int a3]) (M1 := u6.2) (ob := []) (pc' := 48) (by decide +kernel) rfl rfl sw_a0 ?_
            refine sf_j_le (off := 5) (tgt := 53) (by decide +kernel) (by decide) hf (fun hc hf => ?_) (fun hc hf => ?_)
            · obtain ⟨h7, hf⟩ := sw_gd_1 hf
              obtain ⟨h8, hf⟩ := sw_gd_1 hf
              obtain ⟨h9, hf⟩ := sw_gd_1 hf
              refine sf_blk [(.iload_n 3, 0, 0, .null), (.aload 4, 0, 0, .null), (.getfield 202, 4, 9, .null), (.imul, 0, 0, .null), (.iconst (2), 0, 0, .int (2 : Int32)), (.imul, 0, 0, .null), (.iload 5, 0, 0, .null), (.imul, 0, 0, .null), (.istore 6, 0, 0, .null), (.iload_n 2, 0, 0, .null), (.aload_n 0, 0, 0, .null), (.getfield 49, 11, 6, .null), (.getfield 178, 10, 4, .null), (.imul, 0, 0, .null), (.istore 7, 0, 0, .null), (.iload_n 3, 0, 0, .null), (.iconst (2), 0, 0, .int (2 : Int32)), (.imul, 0, 0, .null), (.iload 5, 0, 0, .null), (.imul, 0, 0, .null), (.istore 8, 0, 0, .null)] (lv' := [(8, .int ((a3 * (2 : Int32)) * u6.1)), (7, .int (a2 * (rd_I u6.2 (rd_R u6.2 a0 6) 4))), (6, .int (((a3 * (rd_I u6.2 u3.1 9)) * (2 : Int32)) * u6.1)), (5, .int u6.1), (4, .ref u3.1), (0, .ref a0), (1, .int a1), (2, .int a2), (3, .int a3)]) (st' := []) (M1 := u6.2) (ob := [sw_ok u6.2 u3.1 4, sw_ok u6.2 a0 11, sw_ok u6.2 (rd_R u6.2 a0 6) 10]) (pc' := 86) (by decide +kernel) rfl rfl (sw_a1 h7 (sw_a1 h8 (sw_a1 h9 sw_a0))) ?_
              exact sf_weak [2, 1, 0] rfl (t_House_tune_86 hd hf)
            · refine sf_blk [(.iconst (0), 0, 0, .int (0 : Int32))] (lv' := [(5, .int u6.1), (4, .ref u3.1), (0, .ref a0), (1, .int a1), (2, .int a2), (3, .int a3)]) (st' := [.int (0 : Int32)]) (M1 := u6.2) (ob := []) (pc' := 52) (by decide +kernel) rfl rfl sw_a0 ?_
              cases hf
              exact sf_bool rfl rfl (by decide +kernel)
theorem o_House_tune (g : sw_G) {d : Nat} (hd : 8 ≤ d) {N : Nat} {a0 : Nat} {a1 : Int32} {a2 : Int32} {a3 : Int32} {M : sw_M} {r : Int32 × sw_M} (hf : f_House_tune N a0 a1 a2 a3 M = some r) : sw_Ok g k_House_tune d [.ref a0, .int a1, .int a2, .int a3] M (some (.int r.1)) r.2 := sf_met (by decide +kernel) rfl (by decide) (Nat.le_of_ble_eq_true rfl) (t_House_tune hd hf)
def f_House_cells (N : Nat) (a0 : Nat) (a1 : Int32) (a2 : Int32) (M : sw_M) : Option (Int32 × sw_M) :=
  if a1 < (2 : Int32) then some ((0 : Int32), M)
  else if (8 : Int32) < a1 then some ((0 : Int32), M)
  else if a2 < (8 : Int32) then some ((0 : Int32), M)
  else if a2 ≤ (20000 : Int32) then sw_gd [sw_ok M a0 11] (sw_gd [sw_ok M (rd_R M a0 6) 10] (sw_gd [sw_ok (wr_I M (rd_R M a0 6) 5 a1) (rd_R (wr_I M (rd_R M a0 6) 5 a1) a0 6) 10] ((f_House_forgetOrbits N a0 (wr_I (wr_I M (rd_R M a0 6) 5 a1) (rd_R (wr_I M (rd_R M a0 6) 5 a1) a0 6) 6 a2)).bind (fun u4 => some ((1 : Int32), u4)))))
  else some ((0 : Int32), M)
set_option maxRecDepth 10000 in
theorem t_House_cells {g : sw_G} {d n0 : Nat} (hd : 2 ≤ d) {r : Int32 × sw_M} {N : Nat} {a0 : Nat} {a1 : Int32} {a2 : Int32} {M : sw_M} (hf : f_House_cells N a0 a1 a2 M = some r) : sw_F g k_House_cells d n0 (some (.int r.1)) r.2 0 [(0, .ref a0), (1, .int a1), (2, .int a2)] [] M := by
  unfold f_House_cells at hf
  refine sf_blk [(.iload_n 1, 0, 0, .null), (.iconst (2), 0, 0, .int (2 : Int32))] (lv' := [(0, .ref a0), (1, .int a1), (2, .int a2)]) (st' := [.int (2 : Int32), .int a1]) (M1 := M) (ob := []) (pc' := 2) (by decide +kernel) rfl rfl sw_a0 ?_
  refine sf_j_lt (off := 22) (tgt := 24) (by decide +kernel) (by decide) hf (fun hc hf => ?_) (fun hc hf => ?_)
  · refine sf_blk [(.iconst (0), 0, 0, .int (0 : Int32))] (lv' := [(0, .ref a0), (1, .int a1), (2, .int a2)]) (st' := [.int (0 : Int32)]) (M1 := M) (ob := []) (pc' := 25) (by decide +kernel) rfl rfl sw_a0 ?_
    cases hf
    exact sf_bool rfl rfl (by decide +kernel)
  · refine sf_blk [(.iload_n 1, 0, 0, .null), (.bipush (8), 0, 0, .int (8 : Int32))] (lv' := [(0, .ref a0), (1, .int a1), (2, .int a2)]) (st' := [.int (8 : Int32), .int a1]) (M1 := M) (ob := []) (pc' := 8) (by decide +kernel) rfl rfl sw_a0 ?_
    refine sf_j_gt (off := 16) (tgt := 24) (by decide +kernel) (by decide) hf (fun hc hf => ?_) (fun hc hf => ?_)
    · refine sf_blk [(.iconst (0), 0, 0, .int (0 : Int32))] (lv' := [(0, .ref a0), (1, .int a1), (2, .int a2)]) (st' := [.int (0 : Int32)]) (M1 := M) (ob := []) (pc' := 25) (by decide +kernel) rfl rfl sw_a0 ?_
      cases hf
      exact sf_bool rfl rfl (by decide +kernel)
    · refine sf_blk [(.iload_n 2, 0, 0, .null), (.bipush (8), 0, 0, .int (8 : Int32))] (lv' := [(0, .ref a0), (1, .int a1), (2, .int a2)]) (st' := [.int (8 : Int32), .int a2]) (M1 := M) (ob := []) (pc' := 14) (by decide +kernel) rfl rfl sw_a0 ?_
      refine sf_j_lt (off := 10) (tgt := 24) (by decide +kernel) (by decide) hf (fun hc hf => ?_) (fun hc hf => ?_)
      · refine sf_blk [(.iconst (0), 0, 0, .int (0 : Int32))] (lv' := [(0, .ref a0), (1, .int a1), (2, .int a2)]) (st' := [.int (0 : Int32)]) (M1 := M) (ob := []) (pc' := 25) (by decide +kernel) rfl rfl sw_a0 ?_
        cases hf
        exact sf_bool rfl rfl (by decide +kernel)
      · refine sf_blk [(.iload_n 2, 0, 0, .null), (.sipush (20000), 0, 0, .int (20000 : Int32))] (lv' := [(0, .ref a0), (1, .int a1), (2, .int a2)]) (st' := [.int (20000 : Int32), .int a2]) (M1 := M) (ob := []) (pc' := 21) (by decide +kernel) rfl rfl sw_a0 ?_
        refine sf_j_le (off := 5) (tgt := 26) (by decide +kernel) (by decide) hf (fun hc hf => ?_) (fun hc hf => ?_)
        · obtain ⟨h1, hf⟩ := sw_gd_1 hf
          obtain ⟨h2, hf⟩ := sw_gd_1 hf
          obtain ⟨h3, hf⟩ := sw_gd_1 hf
          refine sf_blk [(.aload_n 0, 0, 0, .null), (.getfield 49, 11, 6, .null), (.iload_n 1, 0, 0, .null), (.putfield 243, 10, 5, .null), (.aload_n 0, 0, 0, .null), (.getfield 49, 11, 6, .null), (.iload_n 2, 0, 0, .null), (.putfield 246, 10, 6, .null), (.aload_n 0, 0, 0, .null)] (lv' := [(0, .ref a0), (1, .int a1), (2, .int a2)]) (st' := [.ref a0]) (M1 := (wr_I (wr_I M (rd_R M a0 6) 5 a1) (rd_R (wr_I M (rd_R M a0 6) 5 a1) a0 6) 6 a2)) (ob := [sw_ok M a0 11, sw_ok M (rd_R M a0 6) 10, sw_ok (wr_I M (rd_R M a0 6) 5 a1) a0 11, sw_ok (wr_I M (rd_R M a0 6) 5 a1) (rd_R (wr_I M (rd_R M a0 6) 5 a1) a0 6) 10]) (pc' := 43) (by decide +kernel) rfl rfl (sw_a1 h1 (sw_a1 h2 (sw_a1 h1 (sw_a1 h3 sw_a0)))) ?_
          obtain ⟨u4, hu4, hf⟩ := sw_bnd hf
          refine sf_callV (i := 101) (k2 := k_House_forgetOrbits) (d2 := d - 1) (As := []) (st := []) (q := a0) (ci := 11) mf_House_forgetOrbits mi_House_forgetOrbits ms_House_forgetOrbits (sw_m3 183 (by decide +kernel)) rfl (by decide) (by decide +kernel) rfl (Nat.le_of_ble_eq_true rfl) (by omega) h1 (o_House_forgetOrbits g (d := d - 1) (by omega) hu4) ?_
          show sw_F _ _ _ _ _ _ 46 [(0, .ref a0), (1, .int a1), (2, .int a2)] [] u4
          refine sf_blk [(.iconst (1), 0, 0, .int (1 : Int32))] (lv' := [(0, .ref a0), (1, .int a1), (2, .int a2)]) (st' := [.int (1 : Int32)]) (M1 := u4) (ob := []) (pc' := 47) (by decide +kernel) rfl rfl sw_a0 ?_
          cases hf
          exact sf_bool rfl rfl (by decide +kernel)
        · refine sf_blk [(.iconst (0), 0, 0, .int (0 : Int32))] (lv' := [(0, .ref a0), (1, .int a1), (2, .int a2)]) (st' := [.int (0 : Int32)]) (M1 := M) (ob := []) (pc' := 25) (by decide +kernel) rfl rfl sw_a0 ?_
          cases hf
          exact sf_bool rfl rfl (by decide +kernel)
theorem o_House_cells (g : sw_G) {d : Nat} (hd : 2 ≤ d) {N : Nat} {a0 : Nat} {a1 : Int32} {a2 : Int32} {M : sw_M} {r : Int32 × sw_M} (hf : f_House_cells N a0 a1 a2 M = some r) : sw_Ok g k_House_cells d [.ref a0, .int a1, .int a2] M (some (.int r.1)) r.2 := sf_met (by decide +kernel) rfl (by decide) (Nat.le_of_ble_eq_true rfl) (t_House_cells hd hf)
def f_House_share (N : Nat) (a0 : Nat) (a1 : Int32) (a2 : Int32) (a3 : Int32) (M : sw_M) : Option (Int32 × sw_M) :=
  sw_gd [sw_ok M a0 11] (sw_gd [sw_ok M (rd_R M a0 6) 10] ((f_Swarm_known N (rd_R M a0 6) a1 M).bind (fun u3 => if u3.1 = 0 then some ((-2147483648 : Int32), u3.2)
  else if a2 < 0 then some ((-2147483648 : Int32), u3.2)
  else if a2 < (64 : Int32) then if a3 = (0 : Int32) then sw_gd [sw_ok u3.2 u3.1 4] (sw_gd [sw_ar u3.2 (rd_R u3.2 u3.1 15) 13 a2] (some ((rd_I u3.2 (rd_R u3.2 u3.1 15) a2.toNatClampNeg), u3.2)))
  else if a3 = (1 : Int32) then sw_gd [sw_ok u3.2 u3.1 4] (sw_gd [sw_ar u3.2 (rd_R u3.2 u3.1 16) 13 a2] (some ((rd_I u3.2 (rd_R u3.2 u3.1 16) a2.toNatClampNeg), u3.2)))
  else some ((-2147483648 : Int32), u3.2)
  else some ((-2147483648 : Int32), u3.2))))
set_option maxRecDepth 10000 in
theorem t_House_share {g : sw_G} {d n0 : Nat} (hd : 8 ≤ d) {r : Int32 × sw_M} {N : Nat} {a0 : Nat} {a1 : Int32} {a2 : Int32} {a3 : Int32} {M : sw_M} (hf : f_House_share N a0 a1 a2 a3 M = some r) : sw_F g k_House_share d n0 (some (.int r.1)) r.2 0 [(0, .ref a0), (1, .int a1), (2, .int a2), (3, .int a3)] [] M := by
  unfold f_House_share at hf
  obtain ⟨h1, hf⟩ := sw_gd_1 hf
  obtain ⟨h2, hf⟩ := sw_gd_1 hf
  refine sf_blk [(.aload_n 0, 0, 0, .null), (.getfield 49, 11, 6, .null), (.iload_n 1, 0, 0, .null)] (lv' := [(0, .ref a0), (1, .int a1), (2, .int a2), (3, .int a3)]) (st' := [.int a1, .ref (rd_R M a0 6)]) (M1 := M) (ob := [sw_ok M a0 11]) (pc' := 5) (by decide +kernel) rfl rfl (sw_a1 h1 sw_a0) ?_
  obtain ⟨u3, hu3, hf⟩ := sw_bnd hf
  refine sf_callV (i := 185) (k2 := k_Swarm_known) (d2 := d - 1) (As := [.int a1]) (st := []) (q := (rd_R M a0 6)) (ci := 10) mf_Swarm_known mi_Swarm_known ms_Swarm_known (sw_m4 124 (by decide +kernel)) rfl (by decide) (by decide +kernel) rfl (Nat.le_of_ble_eq_true rfl) (by omega) h2 (o_Swarm_known g (d := d - 1) (by omega) hu3) ?_
  show sw_F _ _ _ _ _ _ 8 [(0, .ref a0), (1, .int a1), (2, .int a2), (3, .int a3)] [.ref u3.1] u3.2
  refine sf_blk [(.astore 4, 0, 0, .null), (.aload 4, 0, 0, .null)] (lv' := [(4, .ref u3.1), (0, .ref a0), (1, .int a1), (2, .int a2), (3, .int a3)]) (st' := [.ref u3.1]) (M1 := u3.2) (ob := []) (pc' := 12) (by decide +kernel) rfl rfl sw_a0 ?_
  refine sf_n_null (off := 13) (tgt := 25) (by decide +kernel) (by decide) hf (fun hc hf => ?_) (fun hc hf => ?_)
  · refine sf_blk [(.ldc 123, 0, 0, .int (-2147483648 : Int32))] (lv' := [(4, .ref u3.1), (0, .ref a0), (1, .int a1), (2, .int a2), (3, .int a3)]) (st' := [.int (-2147483648 : Int32)]) (M1 := u3.2) (ob := []) (pc' := 27) (by decide +kernel) rfl rfl sw_a0 ?_
    cases hf
    exact sf_int rfl (by decide +kernel)
  · refine sf_blk [(.iload_n 2, 0, 0, .null)] (lv' := [(4, .ref u3.1), (0, .ref a0), (1, .int a1), (2, .int a2), (3, .int a3)]) (st' := [.int a2]) (M1 := u3.2) (ob := []) (pc' := 16) (by decide +kernel) rfl rfl sw_a0 ?_
    refine sf_z_lt (off := 9) (tgt := 25) (by decide +kernel) (by decide) hf (fun hc hf => ?_) (fun hc hf => ?_)
    · refine sf_blk [(.ldc 123, 0, 0, .int (-2147483648 : Int32))] (lv' := [(4, .ref u3.1), (0, .ref a0), (1, .int a1), (2, .int a2), (3, .int a3)]) (st' := [.int (-2147483648 : Int32)]) (M1 := u3.2) (ob := []) (pc' := 27) (by decide +kernel) rfl rfl sw_a0 ?_
      cases hf
      exact sf_int rfl (by decide +kernel)
    · refine sf_blk [(.iload_n 2, 0, 0, .null), (.bipush (64), 0, 0, .int (64 : Int32))] (lv' := [(4, .ref u3.1), (0, .ref a0), (1, .int a1), (2, .int a2), (3, .int a3)]) (st' := [.int (64 : Int32), .int a2]) (M1 := u3.2) (ob := []) (pc' := 22) (by decide +kernel) rfl rfl sw_a0 ?_
      refine sf_j_lt (off := 6) (tgt := 28) (by decide +kernel) (by decide) hf (fun hc hf => ?_) (fun hc hf => ?_)
      · refine sf_blk [(.iload_n 3, 0, 0, .null)] (lv' := [(4, .ref u3.1), (0, .ref a0), (1, .int a1), (2, .int a2), (3, .int a3)]) (st' := [.int a3]) (M1 := u3.2) (ob := []) (pc' := 29) (by decide +kernel) rfl rfl sw_a0 ?_
        rcases sw_ite hf with ⟨h4, hf⟩ | ⟨h4, hf⟩
        · refine sf_look (a := a3) (off := 27) (tgt := 56) (len := 27) (show decode (k_c k_House_share) 29 = .ok (.lookupswitch (43) #[(0, 27), (1, 35)], 27) by decide +kernel) (by decide +kernel) (by rw [h4]; decide +kernel) (by decide) ?_
          obtain ⟨h5, hf⟩ := sw_gd_1 hf
          obtain ⟨h6, hf⟩ := sw_gd_1 hf
          refine sf_blk [(.aload 4, 0, 0, .null), (.getfield 249, 4, 15, .null), (.iload_n 2, 0, 0, .null), (.iaload, 0, 0, .null)] (lv' := [(4, .ref u3.1), (0, .ref a0), (1, .int a1), (2, .int a2), (3, .int a3)]) (st' := [.int (rd_I u3.2 (rd_R u3.2 u3.1 15) a2.toNatClampNeg)]) (M1 := u3.2) (ob := [sw_ok u3.2 u3.1 4, sw_ar u3.2 (rd_R u3.2 u3.1 15) 13 a2]) (pc' := 63) (by decide +kernel) rfl rfl (sw_a1 h5 (sw_a1 h6 sw_a0)) ?_
          cases hf
          exact sf_int rfl (by decide +kernel)
        ·
          rcases sw_ite hf with ⟨h7, hf⟩ | ⟨h7, hf⟩
          · refine sf_look (a := a3) (off := 35) (tgt := 64) (len := 27) (show decode (k_c k_House_share) 29 = .ok (.lookupswitch (43) #[(0, 27), (1, 35)], 27) by decide +kernel) (by decide +kernel) (by rw [h7]; decide +kernel) (by decide) ?_
            obtain ⟨h8, hf⟩ := sw_gd_1 hf
            obtain ⟨h9, hf⟩ := sw_gd_1 hf
            refine sf_blk [(.aload 4, 0, 0, .null), (.getfield 252, 4, 16, .null), (.iload_n 2, 0, 0, .null), (.iaload, 0, 0, .null)] (lv' := [(4, .ref u3.1), (0, .ref a0), (1, .int a1), (2, .int a2), (3, .int a3)]) (st' := [.int (rd_I u3.2 (rd_R u3.2 u3.1 16) a2.toNatClampNeg)]) (M1 := u3.2) (ob := [sw_ok u3.2 u3.1 4, sw_ar u3.2 (rd_R u3.2 u3.1 16) 13 a2]) (pc' := 71) (by decide +kernel) rfl rfl (sw_a1 h8 (sw_a1 h9 sw_a0)) ?_
            cases hf
            exact sf_int rfl (by decide +kernel)
          ·
            refine sf_look (a := a3) (off := 43) (tgt := 72) (len := 27) (show decode (k_c k_House_share) 29 = .ok (.lookupswitch (43) #[(0, 27), (1, 35)], 27) by decide +kernel) (by decide +kernel) (by rw [lv_osw h4 (by decide), lv_osw h7 (by decide)]; rfl) (by decide) ?_
            refine sf_blk [(.ldc 123, 0, 0, .int (-2147483648 : Int32))] (lv' := [(4, .ref u3.1), (0, .ref a0), (1, .int a1), (2, .int a2), (3, .int a3)]) (st' := [.int (-2147483648 : Int32)]) (M1 := u3.2) (ob := []) (pc' := 74) (by decide +kernel) rfl rfl sw_a0 ?_
            cases hf
            exact sf_int rfl (by decide +kernel)
      · refine sf_blk [(.ldc 123, 0, 0, .int (-2147483648 : Int32))] (lv' := [(4, .ref u3.1), (0, .ref a0), (1, .int a1), (2, .int a2), (3, .int a3)]) (st' := [.int (-2147483648 : Int32)]) (M1 := u3.2) (ob := []) (pc' := 27) (by decide +kernel) rfl rfl sw_a0 ?_
        cases hf
        exact sf_int rfl (by decide +kernel)
theorem o_House_share (g : sw_G) {d : Nat} (hd : 8 ≤ d) {N : Nat} {a0 : Nat} {a1 : Int32} {a2 : Int32} {a3 : Int32} {M : sw_M} {r : Int32 × sw_M} (hf : f_House_share N a0 a1 a2 a3 M = some r) : sw_Ok g k_House_share d [.ref a0, .int a1, .int a2, .int a3] M (some (.int r.1)) r.2 := sf_met (by decide +kernel) rfl (by decide) (Nat.le_of_ble_eq_true rfl) (t_House_share hd hf)
def f_House_portions (N : Nat) (a0 : Nat) (a1 : Int32) (M : sw_M) : Option (Int32 × sw_M) :=
  if a1 < (1 : Int32) then some ((0 : Int32), M)
  else if a1 ≤ (10 : Int32) then sw_gd [sw_ok M a0 11] (sw_gd [sw_ok M (rd_R M a0 8) 1] (sw_gd [sw_ok (wr_I M (rd_R M a0 8) 8 a1) (rd_R (wr_I M (rd_R M a0 8) 8 a1) a0 9) 2] (some ((1 : Int32), (wr_I (wr_I M (rd_R M a0 8) 8 a1) (rd_R (wr_I M (rd_R M a0 8) 8 a1) a0 9) 5 (0 : Int32))))))
  else some ((0 : Int32), M)
set_option maxRecDepth 10000 in
theorem t_House_portions {g : sw_G} {d n0 : Nat} (hd : 1 ≤ d) {r : Int32 × sw_M} {N : Nat} {a0 : Nat} {a1 : Int32} {M : sw_M} (hf : f_House_portions N a0 a1 M = some r) : sw_F g k_House_portions d n0 (some (.int r.1)) r.2 0 [(0, .ref a0), (1, .int a1)] [] M := by
  unfold f_House_portions at hf
  refine sf_blk [(.iload_n 1, 0, 0, .null), (.iconst (1), 0, 0, .int (1 : Int32))] (lv' := [(0, .ref a0), (1, .int a1)]) (st' := [.int (1 : Int32), .int a1]) (M1 := M) (ob := []) (pc' := 2) (by decide +kernel) rfl rfl sw_a0 ?_
  refine sf_j_lt (off := 9) (tgt := 11) (by decide +kernel) (by decide) hf (fun hc hf => ?_) (fun hc hf => ?_)
  · refine sf_blk [(.iconst (0), 0, 0, .int (0 : Int32))] (lv' := [(0, .ref a0), (1, .int a1)]) (st' := [.int (0 : Int32)]) (M1 := M) (ob := []) (pc' := 12) (by decide +kernel) rfl rfl sw_a0 ?_
    cases hf
    exact sf_bool rfl rfl (by decide +kernel)
  · refine sf_blk [(.iload_n 1, 0, 0, .null), (.bipush (10), 0, 0, .int (10 : Int32))] (lv' := [(0, .ref a0), (1, .int a1)]) (st' := [.int (10 : Int32), .int a1]) (M1 := M) (ob := []) (pc' := 8) (by decide +kernel) rfl rfl sw_a0 ?_
    refine sf_j_le (off := 5) (tgt := 13) (by decide +kernel) (by decide) hf (fun hc hf => ?_) (fun hc hf => ?_)
    · obtain ⟨h1, hf⟩ := sw_gd_1 hf
      obtain ⟨h2, hf⟩ := sw_gd_1 hf
      obtain ⟨h3, hf⟩ := sw_gd_1 hf
      refine sf_blk [(.aload_n 0, 0, 0, .null), (.getfield 65, 11, 8, .null), (.iload_n 1, 0, 0, .null), (.putfield 255, 1, 8, .null), (.aload_n 0, 0, 0, .null), (.getfield 74, 11, 9, .null), (.iconst (0), 0, 0, .int (0 : Int32)), (.putfield 258, 2, 5, .null), (.iconst (1), 0, 0, .int (1 : Int32))] (lv' := [(0, .ref a0), (1, .int a1)]) (st' := [.int (1 : Int32)]) (M1 := (wr_I (wr_I M (rd_R M a0 8) 8 a1) (rd_R (wr_I M (rd_R M a0 8) 8 a1) a0 9) 5 (0 : Int32))) (ob := [sw_ok M a0 11, sw_ok M (rd_R M a0 8) 1, sw_ok (wr_I M (rd_R M a0 8) 8 a1) a0 11, sw_ok (wr_I M (rd_R M a0 8) 8 a1) (rd_R (wr_I M (rd_R M a0 8) 8 a1) a0 9) 2]) (pc' := 30) (by decide +kernel) rfl rfl (sw_a1 h1 (sw_a1 h2 (sw_a1 h1 (sw_a1 h3 sw_a0)))) ?_
      cases hf
      exact sf_bool rfl rfl (by decide +kernel)
    · refine sf_blk [(.iconst (0), 0, 0, .int (0 : Int32))] (lv' := [(0, .ref a0), (1, .int a1)]) (st' := [.int (0 : Int32)]) (M1 := M) (ob := []) (pc' := 12) (by decide +kernel) rfl rfl sw_a0 ?_
      cases hf
      exact sf_bool rfl rfl (by decide +kernel)
theorem o_House_portions (g : sw_G) {d : Nat} (hd : 1 ≤ d) {N : Nat} {a0 : Nat} {a1 : Int32} {M : sw_M} {r : Int32 × sw_M} (hf : f_House_portions N a0 a1 M = some r) : sw_Ok g k_House_portions d [.ref a0, .int a1] M (some (.int r.1)) r.2 := sf_met (by decide +kernel) rfl (by decide) (Nat.le_of_ble_eq_true rfl) (t_House_portions hd hf)
def f_Notes_add (N : Nat) (a0 : Nat) (a1 : Int32) (a2 : Int32) (a3 : Int32) (a4 : Int32) (M : sw_M) : Option (Int32 × sw_M) :=
  sw_gd [sw_ok M a0 3] (if (rd_I M a0 5) < (10 : Int32) then sw_gd [sw_ar M (rd_R M a0 0) 13 (rd_I M a0 5)] (sw_gd [sw_ar (wr_I M (rd_R M a0 0) (rd_I M a0 5).toNatClampNeg a1) (rd_R (wr_I M (rd_R M a0 0) (rd_I M a0 5).toNatClampNeg a1) a0 1) 13 (rd_I (wr_I M (rd_R M a0 0) (rd_I M a0 5).toNatClampNeg a1) a0 5)] (sw_gd [sw_ar (wr_I (wr_I M (rd_R M a0 0) (rd_I M a0 5).toNatClampNeg a1) (rd_R (wr_I M (rd_R M a0 0) (rd_I M a0 5).toNatClampNeg a1) a0 1) (rd_I (wr_I M (rd_R M a0 0) (rd_I M a0 5).toNatClampNeg a1) a0 5).toNatClampNeg a2) (rd_R (wr_I (wr_I M (rd_R M a0 0) (rd_I M a0 5).toNatClampNeg a1) (rd_R (wr_I M (rd_R M a0 0) (rd_I M a0 5).toNatClampNeg a1) a0 1) (rd_I (wr_I M (rd_R M a0 0) (rd_I M a0 5).toNatClampNeg a1) a0 5).toNatClampNeg a2) a0 2) 13 (rd_I (wr_I (wr_I M (rd_R M a0 0) (rd_I M a0 5).toNatClampNeg a1) (rd_R (wr_I M (rd_R M a0 0) (rd_I M a0 5).toNatClampNeg a1) a0 1) (rd_I (wr_I M (rd_R M a0 0) (rd_I M a0 5).toNatClampNeg a1) a0 5).toNatClampNeg a2) a0 5)] (sw_gd [sw_ar (wr_I (wr_I (wr_I M (rd_R M a0 0) (rd_I M a0 5).toNatClampNeg a1) (rd_R (wr_I M (rd_R M a0 0) (rd_I M a0 5).toNatClampNeg a1) a0 1) (rd_I (wr_I M (rd_R M a0 0) (rd_I M a0 5).toNatClampNeg a1) a0 5).toNatClampNeg a2) (rd_R (wr_I (wr_I M (rd_R M a0 0) (rd_I M a0 5).toNatClampNeg a1) (rd_R (wr_I M (rd_R M a0 0) (rd_I M a0 5).toNatClampNeg a1) a0 1) (rd_I (wr_I M (rd_R M a0 0) (rd_I M a0 5).toNatClampNeg a1) a0 5).toNatClampNeg a2) a0 2) (rd_I (wr_I (wr_I M (rd_R M a0 0) (rd_I M a0 5).toNatClampNeg a1) (rd_R (wr_I M (rd_R M a0 0) (rd_I M a0 5).toNatClampNeg a1) a0 1) (rd_I (wr_I M (rd_R M a0 0) (rd_I M a0 5).toNatClampNeg a1) a0 5).toNatClampNeg a2) a0 5).toNatClampNeg a3) (rd_R (wr_I (wr_I (wr_I M (rd_R M a0 0) (rd_I M a0 5).toNatClampNeg a1) (rd_R (wr_I M (rd_R M a0 0) (rd_I M a0 5).toNatClampNeg a1) a0 1) (rd_I (wr_I M (rd_R M a0 0) (rd_I M a0 5).toNatClampNeg a1) a0 5).toNatClampNeg a2) (rd_R (wr_I (wr_I M (rd_R M a0 0) (rd_I M a0 5).toNatClampNeg a1) (rd_R (wr_I M (rd_R M a0 0) (rd_I M a0 5).toNatClampNeg a1) a0 1) (rd_I (wr_I M (rd_R M a0 0) (rd_I M a0 5).toNatClampNeg a1) a0 5).toNatClampNeg a2) a0 2) (rd_I (wr_I (wr_I M (rd_R M a0 0) (rd_I M a0 5).toNatClampNeg a1) (rd_R (wr_I M (rd_R M a0 0) (rd_I M a0 5).toNatClampNeg a1) a0 1) (rd_I (wr_I M (rd_R M a0 0) (rd_I M a0 5).toNatClampNeg a1) a0 5).toNatClampNeg a2) a0 5).toNatClampNeg a3) a0 3) 13 (rd_I (wr_I (wr_I (wr_I M (rd_R M a0 0) (rd_I M a0 5).toNatClampNeg a1) (rd_R (wr_I M (rd_R M a0 0) (rd_I M a0 5).toNatClampNeg a1) a0 1) (rd_I (wr_I M (rd_R M a0 0) (rd_I M a0 5).toNatClampNeg a1) a0 5).toNatClampNeg a2) (rd_R (wr_I (wr_I M (rd_R M a0 0) (rd_I M a0 5).toNatClampNeg a1) (rd_R (wr_I M (rd_R M a0 0) (rd_I M a0 5).toNatClampNeg a1) a0 1) (rd_I (wr_I M (rd_R M a0 0) (rd_I M a0 5).toNatClampNeg a1) a0 5).toNatClampNeg a2) a0 2) (rd_I (wr_I (wr_I M (rd_R M a0 0) (rd_I M a0 5).toNatClampNeg a1) (rd_R (wr_I M (rd_R M a0 0) (rd_I M a0 5).toNatClampNeg a1) a0 1) (rd_I (wr_I M (rd_R M a0 0) (rd_I M a0 5).toNatClampNeg a1) a0 5).toNatClampNeg a2) a0 5).toNatClampNeg a3) a0 5)] (some (((rd_I (wr_I (wr_I (wr_I (wr_I (wr_I M (rd_R M a0 0) (rd_I M a0 5).toNatClampNeg a1) (rd_R (wr_I M (rd_R M a0 0) (rd_I M a0 5).toNatClampNeg a1) a0 1) (rd_I (wr_I M (rd_R M a0 0) (rd_I M a0 5).toNatClampNeg a1) a0 5).toNatClampNeg a2) (rd_R (wr_I (wr_I M (rd_R M a0 0) (rd_I M a0 5).toNatClampNeg a1) (rd_R (wr_I M (rd_R M a0 0) (rd_I M a0 5).toNatClampNeg a1) a0 1) (rd_I (wr_I M (rd_R M a0 0) (rd_I M a0 5).toNatClampNeg a1) a0 5).toNatClampNeg a2) a0 2) (rd_I (wr_I (wr_I M (rd_R M a0 0) (rd_I M a0 5).toNatClampNeg a1) (rd_R (wr_I M (rd_R M a0 0) (rd_I M a0 5).toNatClampNeg a1) a0 1) (rd_I (wr_I M (rd_R M a0 0) (rd_I M a0 5).toNatClampNeg a1) a0 5).toNatClampNeg a2) a0 5).toNatClampNeg a3) (rd_R (wr_I (wr_I (wr_I M (rd_R M a0 0) (rd_I M a0 5).toNatClampNeg a1) (rd_R (wr_I M (rd_R M a0 0) (rd_I M a0 5).toNatClampNeg a1) a0 1) (rd_I (wr_I M (rd_R M a0 0) (rd_I M a0 5).toNatClampNeg a1) a0 5).toNatClampNeg a2) (rd_R (wr_I (wr_I M (rd_R M a0 0) (rd_I M a0 5).toNatClampNeg a1) (rd_R (wr_I M (rd_R M a0 0) (rd_I M a0 5).toNatClampNeg a1) a0 1) (rd_I (wr_I M (rd_R M a0 0) (rd_I M a0 5).toNatClampNeg a1) a0 5).toNatClampNeg a2) a0 2) (rd_I (wr_I (wr_I M (rd_R M a0 0) (rd_I M a0 5).toNatClampNeg a1) (rd_R (wr_I M (rd_R M a0 0) (rd_I M a0 5).toNatClampNeg a1) a0 1) (rd_I (wr_I M (rd_R M a0 0) (rd_I M a0 5).toNatClampNeg a1) a0 5).toNatClampNeg a2) a0 5).toNatClampNeg a3) a0 3) (rd_I (wr_I (wr_I (wr_I M (rd_R M a0 0) (rd_I M a0 5).toNatClampNeg a1) (rd_R (wr_I M (rd_R M a0 0) (rd_I M a0 5).toNatClampNeg a1) a0 1) (rd_I (wr_I M (rd_R M a0 0) (rd_I M a0 5).toNatClampNeg a1) a0 5).toNatClampNeg a2) (rd_R (wr_I (wr_I M (rd_R M a0 0) (rd_I M a0 5).toNatClampNeg a1) (rd_R (wr_I M (rd_R M a0 0) (rd_I M a0 5).toNatClampNeg a1) a0 1) (rd_I (wr_I M (rd_R M a0 0) (rd_I M a0 5).toNatClampNeg a1) a0 5).toNatClampNeg a2) a0 2) (rd_I (wr_I (wr_I M (rd_R M a0 0) (rd_I M a0 5).toNatClampNeg a1) (rd_R (wr_I M (rd_R M a0 0) (rd_I M a0 5).toNatClampNeg a1) a0 1) (rd_I (wr_I M (rd_R M a0 0) (rd_I M a0 5).toNatClampNeg a1) a0 5).toNatClampNeg a2) a0 5).toNatClampNeg a3) a0 5).toNatClampNeg a4) a0 5 ((rd_I (wr_I (wr_I (wr_I (wr_I M (rd_R M a0 0) (rd_I M a0 5).toNatClampNeg a1) (rd_R (wr_I M (rd_R M a0 0) (rd_I M a0 5).toNatClampNeg a1) a0 1) (rd_I (wr_I M (rd_R M a0 0) (rd_I M a0 5).toNatClampNeg a1) a0 5).toNatClampNeg a2) (rd_R (wr_I (wr_I M (rd_R M a0 0) (rd_I M a0 5).toNatClampNeg a1) (rd_R (wr_I M (rd_R M a0 0) (rd_I M a0 5).toNatClampNeg a1) a0 1) (rd_I (wr_I M (rd_R M a0 0) (rd_I M a0 5).toNatClampNeg a1) a0 5).toNatClampNeg a2) a0 2) (rd_I (wr_I (wr_I M (rd_R M a0 0) (rd_I M a0 5).toNatClampNeg a1) (rd_R (wr_I M (rd_R M a0 0) (rd_I M a0 5).toNatClampNeg a1) a0 1) (rd_I (wr_I M (rd_R M a0 0) (rd_I M a0 5).toNatClampNeg a1) a0 5).toNatClampNeg a2) a0 5).toNatClampNeg a3) (rd_R (wr_I (wr_I (wr_I M (rd_R M a0 0) (rd_I M a0 5).toNatClampNeg a1) (rd_R (wr_I M (rd_R M a0 0) (rd_I M a0 5).toNatClampNeg a1) a0 1) (rd_I (wr_I M (rd_R M a0 0) (rd_I M a0 5).toNatClampNeg a1) a0 5).toNatClampNeg a2) (rd_R (wr_I (wr_I M (rd_R M a0 0) (rd_I M a0 5).toNatClampNeg a1) (rd_R (wr_I M (rd_R M a0 0) (rd_I M a0 5).toNatClampNeg a1) a0 1) (rd_I (wr_I M (rd_R M a0 0) (rd_I M a0 5).toNatClampNeg a1) a0 5).toNatClampNeg a2) a0 2) (rd_I (wr_I (wr_I M (rd_R M a0 0) (rd_I M a0 5).toNatClampNeg a1) (rd_R (wr_I M (rd_R M a0 0) (rd_I M a0 5).toNatClampNeg a1) a0 1) (rd_I (wr_I M (rd_R M a0 0) (rd_I M a0 5).toNatClampNeg a1) a0 5).toNatClampNeg a2) a0 5).toNatClampNeg a3) a0 3) (rd_I (wr_I (wr_I (wr_I M (rd_R M a0 0) (rd_I M a0 5).toNatClampNeg a1) (rd_R (wr_I M (rd_R M a0 0) (rd_I M a0 5).toNatClampNeg a1) a0 1) (rd_I (wr_I M (rd_R M a0 0) (rd_I M a0 5).toNatClampNeg a1) a0 5).toNatClampNeg a2) (rd_R (wr_I (wr_I M (rd_R M a0 0) (rd_I M a0 5).toNatClampNeg a1) (rd_R (wr_I M (rd_R M a0 0) (rd_I M a0 5).toNatClampNeg a1) a0 1) (rd_I (wr_I M (rd_R M a0 0) (rd_I M a0 5).toNatClampNeg a1) a0 5).toNatClampNeg a2) a0 2) (rd_I (wr_I (wr_I M (rd_R M a0 0) (rd_I M a0 5).toNatClampNeg a1) (rd_R (wr_I M (rd_R M a0 0) (rd_I M a0 5).toNatClampNeg a1) a0 1) (rd_I (wr_I M (rd_R M a0 0) (rd_I M a0 5).toNatClampNeg a1) a0 5).toNatClampNeg a2) a0 5).toNatClampNeg a3) a0 5).toNatClampNeg a4) a0 5) + (1 : Int32))) a0 5) - (1 : Int32)), (wr_I (wr_I (wr_I (wr_I (wr_I M (rd_R M a0 0) (rd_I M a0 5).toNatClampNeg a1) (rd_R (wr_I M (rd_R M a0 0) (rd_I M a0 5).toNatClampNeg a1) a0 1) (rd_I (wr_I M (rd_R M a0 0) (rd_I M a0 5).toNatClampNeg a1) a0 5).toNatClampNeg a2) (rd_R (wr_I (wr_I M (rd_R M a0 0) (rd_I M a0 5).toNatClampNeg a1) (rd_R (wr_I M (rd_R M a0 0) (rd_I M a0 5).toNatClampNeg a1) a0 1) (rd_I (wr_I M (rd_R M a0 0) (rd_I M a0 5).toNatClampNeg a1) a0 5).toNatClampNeg a2) a0 2) (rd_I (wr_I (wr_I M (rd_R M a0 0) (rd_I M a0 5).toNatClampNeg a1) (rd_R (wr_I M (rd_R M a0 0) (rd_I M a0 5).toNatClampNeg a1) a0 1) (rd_I (wr_I M (rd_R M a0 0) (rd_I M a0 5).toNatClampNeg a1) a0 5).toNatClampNeg a2) a0 5).toNatClampNeg a3) (rd_R (wr_I (wr_I (wr_I M (rd_R M a0 0) (rd_I M a0 5).toNatClampNeg a1) (rd_R (wr_I M (rd_R M a0 0) (rd_I M a0 5).toNatClampNeg a1) a0 1) (rd_I (wr_I M (rd_R M a0 0) (rd_I M a0 5).toNatClampNeg a1) a0 5).toNatClampNeg a2) (rd_R (wr_I (wr_I M (rd_R M a0 0) (rd_I M a0 5).toNatClampNeg a1) (rd_R (wr_I M (rd_R M a0 0) (rd_I M a0 5).toNatClampNeg a1) a0 1) (rd_I (wr_I M (rd_R M a0 0) (rd_I M a0 5).toNatClampNeg a1) a0 5).toNatClampNeg a2) a0 2) (rd_I (wr_I (wr_I M (rd_R M a0 0) (rd_I M a0 5).toNatClampNeg a1) (rd_R (wr_I M (rd_R M a0 0) (rd_I M a0 5).toNatClampNeg a1) a0 1) (rd_I (wr_I M (rd_R M a0 0) (rd_I M a0 5).toNatClampNeg a1) a0 5).toNatClampNeg a2) a0 5).toNatClampNeg a3) a0 3) (rd_I (wr_I (wr_I (wr_I M (rd_R M a0 0) (rd_I M a0 5).toNatClampNeg a1) (rd_R (wr_I M (rd_R M a0 0) (rd_I M a0 5).toNatClampNeg a1) a0 1) (rd_I (wr_I M (rd_R M a0 0) (rd_I M a0 5).toNatClampNeg a1) a0 5).toNatClampNeg a2) (rd_R (wr_I (wr_I M (rd_R M a0 0) (rd_I M a0 5).toNatClampNeg a1) (rd_R (wr_I M (rd_R M a0 0) (rd_I M a0 5).toNatClampNeg a1) a0 1) (rd_I (wr_I M (rd_R M a0 0) (rd_I M a0 5).toNatClampNeg a1) a0 5).toNatClampNeg a2) a0 2) (rd_I (wr_I (wr_I M (rd_R M a0 0) (rd_I M a0 5).toNatClampNeg a1) (rd_R (wr_I M (rd_R M a0 0) (rd_I M a0 5).toNatClampNeg a1) a0 1) (rd_I (wr_I M (rd_R M a0 0) (rd_I M a0 5).toNatClampNeg a1) a0 5).toNatClampNeg a2) a0 5).toNatClampNeg a3) a0 5).toNatClampNeg a4) a0 5 ((rd_I (wr_I (wr_I (wr_I (wr_I M (rd_R M a0 0) (rd_I M a0 5).toNatClampNeg a1) (rd_R (wr_I M (rd_R M a0 0) (rd_I M a0 5).toNatClampNeg a1) a0 1) (rd_I (wr_I M (rd_R M a0 0) (rd_I M a0 5).toNatClampNeg a1) a0 5).toNatClampNeg a2) (rd_R (wr_I (wr_I M (rd_R M a0 0) (rd_I M a0 5).toNatClampNeg a1) (rd_R (wr_I M (rd_R M a0 0) (rd_I M a0 5).toNatClampNeg a1) a0 1) (rd_I (wr_I M (rd_R M a0 0) (rd_I M a0 5).toNatClampNeg a1) a0 5).toNatClampNeg a2) a0 2) (rd_I (wr_I (wr_I M (rd_R M a0 0) (rd_I M a0 5).toNatClampNeg a1) (rd_R (wr_I M (rd_R M a0 0) (rd_I M a0 5).toNatClampNeg a1) a0 1) (rd_I (wr_I M (rd_R M a0 0) (rd_I M a0 5).toNatClampNeg a1) a0 5).toNatClampNeg a2) a0 5).toNatClampNeg a3) (rd_R (wr_I (wr_I (wr_I M (rd_R M a0 0) (rd_I M a0 5).toNatClampNeg a1) (rd_R (wr_I M (rd_R M a0 0) (rd_I M a0 5).toNatClampNeg a1) a0 1) (rd_I (wr_I M (rd_R M a0 0) (rd_I M a0 5).toNatClampNeg a1) a0 5).toNatClampNeg a2) (rd_R (wr_I (wr_I M (rd_R M a0 0) (rd_I M a0 5).toNatClampNeg a1) (rd_R (wr_I M (rd_R M a0 0) (rd_I M a0 5).toNatClampNeg a1) a0 1) (rd_I (wr_I M (rd_R M a0 0) (rd_I M a0 5).toNatClampNeg a1) a0 5).toNatClampNeg a2) a0 2) (rd_I (wr_I (wr_I M (rd_R M a0 0) (rd_I M a0 5).toNatClampNeg a1) (rd_R (wr_I M (rd_R M a0 0) (rd_I M a0 5).toNatClampNeg a1) a0 1) (rd_I (wr_I M (rd_R M a0 0) (rd_I M a0 5).toNatClampNeg a1) a0 5).toNatClampNeg a2) a0 5).toNatClampNeg a3) a0 3) (rd_I (wr_I (wr_I (wr_I M (rd_R M a0 0) (rd_I M a0 5).toNatClampNeg a1) (rd_R (wr_I M (rd_R M a0 0) (rd_I M a0 5).toNatClampNeg a1) a0 1) (rd_I (wr_I M (rd_R M a0 0) (rd_I M a0 5).toNatClampNeg a1) a0 5).toNatClampNeg a2) (rd_R (wr_I (wr_I M (rd_R M a0 0) (rd_I M a0 5).toNatClampNeg a1) (rd_R (wr_I M (rd_R M a0 0) (rd_I M a0 5).toNatClampNeg a1) a0 1) (rd_I (wr_I M (rd_R M a0 0) (rd_I M a0 5).toNatClampNeg a1) a0 5).toNatClampNeg a2) a0 2) (rd_I (wr_I (wr_I M (rd_R M a0 0) (rd_I M a0 5).toNatClampNeg a1) (rd_R (wr_I M (rd_R M a0 0) (rd_I M a0 5).toNatClampNeg a1) a0 1) (rd_I (wr_I M (rd_R M a0 0) (rd_I M a0 5).toNatClampNeg a1) a0 5).toNatClampNeg a2) a0 5).toNatClampNeg a3) a0 5).toNatClampNeg a4) a0 5) + (1 : Int32))))))))
  else some ((-1 : Int32), M))
set_option maxRecDepth 10000 in
theorem t_Notes_add {g : sw_G} {d n0 : Nat} (hd : 1 ≤ d) {r : Int32 × sw_M} {N : Nat} {a0 : Nat} {a1 : Int32} {a2 : Int32} {a3 : Int32} {a4 : Int32} {M : sw_M} (hf : f_Notes_add N a0 a1 a2 a3 a4 M = some r) : sw_F g k_Notes_add d n0 (some (.int r.1)) r.2 0 [(0, .ref a0), (1, .int a1), (2, .int a2), (3, .int a3), (4, .int a4)] [] M := by
  unfold f_Notes_add at hf
  obtain ⟨h1, hf⟩ := sw_gd_1 hf
  refine sf_blk [(.aload_n 0, 0, 0, .null), (.getfield 28, 3, 5, .null), (.bipush (10), 0, 0, .int (10 : Int32))] (lv' := [(0, .ref a0), (1, .int a1), (2, .int a2), (3, .int a3), (4, .int a4)]) (st' := [.int (10 : Int32), .int (rd_I M a0 5)]) (M1 := M) (ob := [sw_ok M a0 3]) (pc' := 6) (by decide +kernel) rfl rfl (sw_a1 h1 sw_a0) ?_
  refine sf_j_lt (off := 5) (tgt := 11) (by decide +kernel) (by decide) hf (fun hc hf => ?_) (fun hc hf => ?_)
  · obtain ⟨h2, hf⟩ := sw_gd_1 hf
    obtain ⟨h3, hf⟩ := sw_gd_1 hf
    obtain ⟨h4, hf⟩ := sw_gd_1 hf
    obtain ⟨h5, hf⟩ := sw_gd_1 hf
    refine sf_blk [(.aload_n 0, 0, 0, .null), (.getfield 9, 3, 0, .null), (.aload_n 0, 0, 0, .null), (.getfield 28, 3, 5, .null), (.iload_n 1, 0, 0, .null), (.iastore, 0, 0, .null), (.aload_n 0, 0, 0, .null), (.getfield 15, 3, 1, .null), (.aload_n 0, 0, 0, .null), (.getfield 28, 3, 5, .null), (.iload_n 2, 0, 0, .null), (.iastore, 0, 0, .null), (.aload_n 0, 0, 0, .null), (.getfield 18, 3, 2, .null), (.aload_n 0, 0, 0, .null), (.getfield 28, 3, 5, .null), (.iload_n 3, 0, 0, .null), (.iastore, 0, 0, .null), (.aload_n 0, 0, 0, .null), (.getfield 21, 3, 3, .null), (.aload_n 0, 0, 0, .null), (.getfield 28, 3, 5, .null), (.iload 4, 0, 0, .null), (.iastore, 0, 0, .null), (.aload_n 0, 0, 0, .null), (.dup, 0, 0, .null), (.getfield 28, 3, 5, .null), (.iconst (1), 0, 0, .int (1 : Int32)), (.iadd, 0, 0, .null), (.putfield 28, 3, 5, .null), (.aload_n 0, 0, 0, .null), (.getfield 28, 3, 5, .null), (.iconst (1), 0, 0, .int (1 : Int32)), (.isub, 0, 0, .null)] (lv' := [(0, .ref a0), (1, .int a1), (2, .int a2), (3, .int a3), (4, .int a4)]) (st' := [.int ((rd_I (wr_I (wr_I (wr_I (wr_I (wr_I M (rd_R M a0 0) (rd_I M a0 5).toNatClampNeg a1) (rd_R (wr_I M (rd_R M a0 0) (rd_I M a0 5).toNatClampNeg a1) a0 1) (rd_I (wr_I M (rd_R M a0 0) (rd_I M a0 5).toNatClampNeg a1) a0 5).toNatClampNeg a2) (rd_R (wr_I (wr_I M (rd_R M a0 0) (rd_I M a0 5).toNatClampNeg a1) (rd_R (wr_I M (rd_R M a0 0) (rd_I M a0 5).toNatClampNeg a1) a0 1) (rd_I (wr_I M (rd_R M a0 0) (rd_I M a0 5).toNatClampNeg a1) a0 5).toNatClampNeg a2) a0 2) (rd_I (wr_I (wr_I M (rd_R M a0 0) (rd_I M a0 5).toNatClampNeg a1) (rd_R (wr_I M (rd_R M a0 0) (rd_I M a0 5).toNatClampNeg a1) a0 1) (rd_I (wr_I M (rd_R M a0 0) (rd_I M a0 5).toNatClampNeg a1) a0 5).toNatClampNeg a2) a0 5).toNatClampNeg a3) (rd_R (wr_I (wr_I (wr_I M (rd_R M a0 0) (rd_I M a0 5).toNatClampNeg a1) (rd_R (wr_I M (rd_R M a0 0) (rd_I M a0 5).toNatClampNeg a1) a0 1) (rd_I (wr_I M (rd_R M a0 0) (rd_I M a0 5).toNatClampNeg a1) a0 5).toNatClampNeg a2) (rd_R (wr_I (wr_I M (rd_R M a0 0) (rd_I M a0 5).toNatClampNeg a1) (rd_R (wr_I M (rd_R M a0 0) (rd_I M a0 5).toNatClampNeg a1) a0 1) (rd_I (wr_I M (rd_R M a0 0) (rd_I M a0 5).toNatClampNeg a1) a0 5).toNatClampNeg a2) a0 2) (rd_I (wr_I (wr_I M (rd_R M a0 0) (rd_I M a0 5).toNatClampNeg a1) (rd_R (wr_I M (rd_R M a0 0) (rd_I M a0 5).toNatClampNeg a1) a0 1) (rd_I (wr_I M (rd_R M a0 0) (rd_I M a0 5).toNatClampNeg a1) a0 5).toNatClampNeg a2) a0 5).toNatClampNeg a3) a0 3) (rd_I (wr_I (wr_I (wr_I M (rd_R M a0 0) (rd_I M a0 5).toNatClampNeg a1) (rd_R (wr_I M (rd_R M a0 0) (rd_I M a0 5).toNatClampNeg a1) a0 1) (rd_I (wr_I M (rd_R M a0 0) (rd_I M a0 5).toNatClampNeg a1) a0 5).toNatClampNeg a2) (rd_R (wr_I (wr_I M (rd_R M a0 0) (rd_I M a0 5).toNatClampNeg a1) (rd_R (wr_I M (rd_R M a0 0) (rd_I M a0 5).toNatClampNeg a1) a0 1) (rd_I (wr_I M (rd_R M a0 0) (rd_I M a0 5).toNatClampNeg a1) a0 5).toNatClampNeg a2) a0 2) (rd_I (wr_I (wr_I M (rd_R M a0 0) (rd_I M a0 5).toNatClampNeg a1) (rd_R (wr_I M (rd_R M a0 0) (rd_I M a0 5).toNatClampNeg a1) a0 1) (rd_I (wr_I M (rd_R M a0 0) (rd_I M a0 5).toNatClampNeg a1) a0 5).toNatClampNeg a2) a0 5).toNatClampNeg a3) a0 5).toNatClampNeg a4) a0 5 ((rd_I (wr_I (wr_I (wr_I (wr_I M (rd_R M a0 0) (rd_I M a0 5).toNatClampNeg a1) (rd_R (wr_I M (rd_R M a0 0) (rd_I M a0 5).toNatClampNeg a1) a0 1) (rd_I (wr_I M (rd_R M a0 0) (rd_I M a0 5).toNatClampNeg a1) a0 5).toNatClampNeg a2) (rd_R (wr_I (wr_I M (rd_R M a0 0) (rd_I M a0 5).toNatClampNeg a1) (rd_R (wr_I M (rd_R M a0 0) (rd_I M a0 5).toNatClampNeg a1) a0 1) (rd_I (wr_I M (rd_R M a0 0) (rd_I M a0 5).toNatClampNeg a1) a0 5).toNatClampNeg a2) a0 2) (rd_I (wr_I (wr_I M (rd_R M a0 0) (rd_I M a0 5).toNatClampNeg a1) (rd_R (wr_I M (rd_R M a0 0) (rd_I M a0 5).toNatClampNeg a1) a0 1) (rd_I (wr_I M (rd_R M a0 0) (rd_I M a0 5).toNatClampNeg a1) a0 5).toNatClampNeg a2) a0 5).toNatClampNeg a3) (rd_R (wr_I (wr_I (wr_I M (rd_R M a0 0) (rd_I M a0 5).toNatClampNeg a1) (rd_R (wr_I M (rd_R M a0 0) (rd_I M a0 5).toNatClampNeg a1) a0 1) (rd_I (wr_I M (rd_R M a0 0) (rd_I M a0 5).toNatClampNeg a1) a0 5).toNatClampNeg a2) (rd_R (wr_I (wr_I M (rd_R M a0 0) (rd_I M a0 5).toNatClampNeg a1) (rd_R (wr_I M (rd_R M a0 0) (rd_I M a0 5).toNatClampNeg a1) a0 1) (rd_I (wr_I M (rd_R M a0 0) (rd_I M a0 5).toNatClampNeg a1) a0 5).toNatClampNeg a2) a0 2) (rd_I (wr_I (wr_I M (rd_R M a0 0) (rd_I M a0 5).toNatClampNeg a1) (rd_R (wr_I M (rd_R M a0 0) (rd_I M a0 5).toNatClampNeg a1) a0 1) (rd_I (wr_I M (rd_R M a0 0) (rd_I M a0 5).toNatClampNeg a1) a0 5).toNatClampNeg a2) a0 5).toNatClampNeg a3) a0 3) (rd_I (wr_I (wr_I (wr_I M (rd_R M a0 0) (rd_I M a0 5).toNatClampNeg a1) (rd_R (wr_I M (rd_R M a0 0) (rd_I M a0 5).toNatClampNeg a1) a0 1) (rd_I (wr_I M (rd_R M a0 0) (rd_I M a0 5).toNatClampNeg a1) a0 5).toNatClampNeg a2) (rd_R (wr_I (wr_I M (rd_R M a0 0) (rd_I M a0 5).toNatClampNeg a1) (rd_R (wr_I M (rd_R M a0 0) (rd_I M a0 5).toNatClampNeg a1) a0 1) (rd_I (wr_I M (rd_R M a0 0) (rd_I M a0 5).toNatClampNeg a1) a0 5).toNatClampNeg a2) a0 2) (rd_I (wr_I (wr_I M (rd_R M a0 0) (rd_I M a0 5).toNatClampNeg a1) (rd_R (wr_I M (rd_R M a0 0) (rd_I M a0 5).toNatClampNeg a1) a0 1) (rd_I (wr_I M (rd_R M a0 0) (rd_I M a0 5).toNatClampNeg a1) a0 5).toNatClampNeg a2) a0 5).toNatClampNeg a3) a0 5).toNatClampNeg a4) a0 5) + (1 : Int32))) a0 5) - (1 : Int32))]) (M1 := (wr_I (wr_I (wr_I (wr_I (wr_I M (rd_R M a0 0) (rd_I M a0 5).toNatClampNeg a1) (rd_R (wr_I M (rd_R M a0 0) (rd_I M a0 5).toNatClampNeg a1) a0 1) (rd_I (wr_I M (rd_R M a0 0) (rd_I M a0 5).toNatClampNeg a1) a0 5).toNatClampNeg a2) (rd_R (wr_I (wr_I M (rd_R M a0 0) (rd_I M a0 5).toNatClampNeg a1) (rd_R (wr_I M (rd_R M a0 0) (rd_I M a0 5).toNatClampNeg a1) a0 1) (rd_I (wr_I M (rd_R M a0 0) (rd_I M a0 5).toNatClampNeg a1) a0 5).toNatClampNeg a2) a0 2) (rd_I (wr_I (wr_I M (rd_R M a0 0) (rd_I M a0 5).toNatClampNeg a1) (rd_R (wr_I M (rd_R M a0 0) (rd_I M a0 5).toNatClampNeg a1) a0 1) (rd_I (wr_I M (rd_R M a0 0) (rd_I M a0 5).toNatClampNeg a1) a0 5).toNatClampNeg a2) a0 5).toNatClampNeg a3) (rd_R (wr_I (wr_I (wr_I M (rd_R M a0 0) (rd_I M a0 5).toNatClampNeg a1) (rd_R (wr_I M (rd_R M a0 0) (rd_I M a0 5).toNatClampNeg a1) a0 1) (rd_I (wr_I M (rd_R M a0 0) (rd_I M a0 5).toNatClampNeg a1) a0 5).toNatClampNeg a2) (rd_R (wr_I (wr_I M (rd_R M a0 0) (rd_I M a0 5).toNatClampNeg a1) (rd_R (wr_I M (rd_R M a0 0) (rd_I M a0 5).toNatClampNeg a1) a0 1) (rd_I (wr_I M (rd_R M a0 0) (rd_I M a0 5).toNatClampNeg a1) a0 5).toNatClampNeg a2) a0 2) (rd_I (wr_I (wr_I M (rd_R M a0 0) (rd_I M a0 5).toNatClampNeg a1) (rd_R (wr_I M (rd_R M a0 0) (rd_I M a0 5).toNatClampNeg a1) a0 1) (rd_I (wr_I M (rd_R M a0 0) (rd_I M a0 5).toNatClampNeg a1) a0 5).toNatClampNeg a2) a0 5).toNatClampNeg a3) a0 3) (rd_I (wr_I (wr_I (wr_I M (rd_R M a0 0) (rd_I M a0 5).toNatClampNeg a1) (rd_R (wr_I M (rd_R M a0 0) (rd_I M a0 5).toNatClampNeg a1) a0 1) (rd_I (wr_I M (rd_R M a0 0) (rd_I M a0 5).toNatClampNeg a1) a0 5).toNatClampNeg a2) (rd_R (wr_I (wr_I M (rd_R M a0 0) (rd_I M a0 5).toNatClampNeg a1) (rd_R (wr_I M (rd_R M a0 0) (rd_I M a0 5).toNatClampNeg a1) a0 1) (rd_I (wr_I M (rd_R M a0 0) (rd_I M a0 5).toNatClampNeg a1) a0 5).toNatClampNeg a2) a0 2) (rd_I (wr_I (wr_I M (rd_R M a0 0) (rd_I M a0 5).toNatClampNeg a1) (rd_R (wr_I M (rd_R M a0 0) (rd_I M a0 5).toNatClampNeg a1) a0 1) (rd_I (wr_I M (rd_R M a0 0) (rd_I M a0 5).toNatClampNeg a1) a0 5).toNatClampNeg a2) a0 5).toNatClampNeg a3) a0 5).toNatClampNeg a4) a0 5 ((rd_I (wr_I (wr_I (wr_I (wr_I M (rd_R M a0 0) (rd_I M a0 5).toNatClampNeg a1) (rd_R (wr_I M (rd_R M a0 0) (rd_I M a0 5).toNatClampNeg a1) a0 1) (rd_I (wr_I M (rd_R M a0 0) (rd_I M a0 5).toNatClampNeg a1) a0 5).toNatClampNeg a2) (rd_R (wr_I (wr_I M (rd_R M a0 0) (rd_I M a0 5).toNatClampNeg a1) (rd_R (wr_I M (rd_R M a0 0) (rd_I M a0 5).toNatClampNeg a1) a0 1) (rd_I (wr_I M (rd_R M a0 0) (rd_I M a0 5).toNatClampNeg a1) a0 5).toNatClampNeg a2) a0 2) (rd_I (wr_I (wr_I M (rd_R M a0 0) (rd_I M a0 5).toNatClampNeg a1) (rd_R (wr_I M (rd_R M a0 0) (rd_I M a0 5).toNatClampNeg a1) a0 1) (rd_I (wr_I M (rd_R M a0 0) (rd_I M a0 5).toNatClampNeg a1) a0 5).toNatClampNeg a2) a0 5).toNatClampNeg a3) (rd_R (wr_I (wr_I (wr_I M (rd_R M a0 0) (rd_I M a0 5).toNatClampNeg a1) (rd_R (wr_I M (rd_R M a0 0) (rd_I M a0 5).toNatClampNeg a1) a0 1) (rd_I (wr_I M (rd_R M a0 0) (rd_I M a0 5).toNatClampNeg a1) a0 5).toNatClampNeg a2) (rd_R (wr_I (wr_I M (rd_R M a0 0) (rd_I M a0 5).toNatClampNeg a1) (rd_R (wr_I M (rd_R M a0 0) (rd_I M a0 5).toNatClampNeg a1) a0 1) (rd_I (wr_I M (rd_R M a0 0) (rd_I M a0 5).toNatClampNeg a1) a0 5).toNatClampNeg a2) a0 2) (rd_I (wr_I (wr_I M (rd_R M a0 0) (rd_I M a0 5).toNatClampNeg a1) (rd_R (wr_I M (rd_R M a0 0) (rd_I M a0 5).toNatClampNeg a1) a0 1) (rd_I (wr_I M (rd_R M a0 0) (rd_I M a0 5).toNatClampNeg a1) a0 5).toNatClampNeg a2) a0 5).toNatClampNeg a3) a0 3) (rd_I (wr_I (wr_I (wr_I M (rd_R M a0 0) (rd_I M a0 5).toNatClampNeg a1) (rd_R (wr_I M (rd_R M a0 0) (rd_I M a0 5).toNatClampNeg a1) a0 1) (rd_I (wr_I M (rd_R M a0 0) (rd_I M a0 5).toNatClampNeg a1) a0 5).toNatClampNeg a2) (rd_R (wr_I (wr_I M (rd_R M a0 0) (rd_I M a0 5).toNatClampNeg a1) (rd_R (wr_I M (rd_R M a0 0) (rd_I M a0 5).toNatClampNeg a1) a0 1) (rd_I (wr_I M (rd_R M a0 0) (rd_I M a0 5).toNatClampNeg a1) a0 5).toNatClampNeg a2) a0 2) (rd_I (wr_I (wr_I M (rd_R M a0 0) (rd_I M a0 5).toNatClampNeg a1) (rd_R (wr_I M (rd_R M a0 0) (rd_I M a0 5).toNatClampNeg a1) a0 1) (rd_I (wr_I M (rd_R M a0 0) (rd_I M a0 5).toNatClampNeg a1) a0 5).toNatClampNeg a2) a0 5).toNatClampNeg a3) a0 5).toNatClampNeg a4) a0 5) + (1 : Int32)))) (ob := [sw_ok M a0 3, sw_ok M a0 3, sw_ar M (rd_R M a0 0) 13 (rd_I M a0 5), sw_ok (wr_I M (rd_R M a0 0) (rd_I M a0 5).toNatClampNeg a1) a0 3, sw_ok (wr_I M (rd_R M a0 0) (rd_I M a0 5).toNatClampNeg a1) a0 3, sw_ar (wr_I M (rd_R M a0 0) (rd_I M a0 5).toNatClampNeg a1) (rd_R (wr_I M (rd_R M a0 0) (rd_I M a0 5).toNatClampNeg a1) a0 1) 13 (rd_I (wr_I M (rd_R M a0 0) (rd_I M a0 5).toNatClampNeg a1) a0 5), sw_ok (wr_I (wr_I M (rd_R M a0 0) (rd_I M a0 5).toNatClampNeg a1) (rd_R (wr_I M (rd_R M a0 0) (rd_I M a0 5).toNatClampNeg a1) a0 1) (rd_I (wr_I M (rd_R M a0 0) (rd_I M a0 5).toNatClampNeg a1) a0 5).toNatClampNeg a2) a0 3, sw_ok (wr_I (wr_I M (rd_R M a0 0) (rd_I M a0 5).toNatClampNeg a1) (rd_R (wr_I M (rd_R M a0 0) (rd_I M a0 5).toNatClampNeg a1) a0 1) (rd_I (wr_I M (rd_R M a0 0) (rd_I M a0 5).toNatClampNeg a1) a0 5).toNatClampNeg a2) a0 3, sw_ar (wr_I (wr_I M (rd_R M a0 0) (rd_I M a0 5).toNatClampNeg a1) (rd_R (wr_I M (rd_R M a0 0) (rd_I M a0 5).toNatClampNeg a1) a0 1) (rd_I (wr_I M (rd_R M a0 0) (rd_I M a0 5).toNatClampNeg a1) a0 5).toNatClampNeg a2) (rd_R (wr_I (wr_I M (rd_R M a0 0) (rd_I M a0 5).toNatClampNeg a1) (rd_R (wr_I M (rd_R M a0 0) (rd_I M a0 5).toNatClampNeg a1) a0 1) (rd_I (wr_I M (rd_R M a0 0) (rd_I M a0 5).toNatClampNeg a1) a0 5).toNatClampNeg a2) a0 2) 13 (rd_I (wr_I (wr_I M (rd_R M a0 0) (rd_I M a0 5).toNatClampNeg a1) (rd_R (wr_I M (rd_R M a0 0) (rd_I M a0 5).toNatClampNeg a1) a0 1) (rd_I (wr_I M (rd_R M a0 0) (rd_I M a0 5).toNatClampNeg a1) a0 5).toNatClampNeg a2) a0 5), sw_ok (wr_I (wr_I (wr_I M (rd_R M a0 0) (rd_I M a0 5).toNatClampNeg a1) (rd_R (wr_I M (rd_R M a0 0) (rd_I M a0 5).toNatClampNeg a1) a0 1) (rd_I (wr_I M (rd_R M a0 0) (rd_I M a0 5).toNatClampNeg a1) a0 5).toNatClampNeg a2) (rd_R (wr_I (wr_I M (rd_R M a0 0) (rd_I M a0 5).toNatClampNeg a1) (rd_R (wr_I M (rd_R M a0 0) (rd_I M a0 5).toNatClampNeg a1) a0 1) (rd_I (wr_I M (rd_R M a0 0) (rd_I M a0 5).toNatClampNeg a1) a0 5).toNatClampNeg a2) a0 2) (rd_I (wr_I (wr_I M (rd_R M a0 0) (rd_I M a0 5).toNatClampNeg a1) (rd_R (wr_I M (rd_R M a0 0) (rd_I M a0 5).toNatClampNeg a1) a0 1) (rd_I (wr_I M (rd_R M a0 0) (rd_I M a0 5).toNatClampNeg a1) a0 5).toNatClampNeg a2) a0 5).toNatClampNeg a3) a0 3, sw_ok (wr_I (wr_I (wr_I M (rd_R M a0 0) (rd_I M a0 5).toNatClampNeg a1) (rd_R (wr_I M (rd_R M a0 0) (rd_I M a0 5).toNatClampNeg a1) a0 1) (rd_I (wr_I M (rd_R M a0 0) (rd_I M a0 5).toNatClampNeg a1) a0 5).toNatClampNeg a2) (rd_R (wr_I (wr_I M (rd_R M a0 0) (rd_I M a0 5).toNatClampNeg a1) (rd_R (wr_I M (rd_R M a0 0) (rd_I M a0 5).toNatClampNeg a1) a0 1) (rd_I (wr_I M (rd_R M a0 0) (rd_I M a0 5).toNatClampNeg a1) a0 5).toNatClampNeg a2) a0 2) (rd_I (wr_I (wr_I M (rd_R M a0 0) (rd_I M a0 5).toNatClampNeg a1) (rd_R (wr_I M (rd_R M a0 0) (rd_I M a0 5).toNatClampNeg a1) a0 1) (rd_I (wr_I M (rd_R M a0 0) (rd_I M a0 5).toNatClampNeg a1) a0 5).toNatClampNeg a2) a0 5).toNatClampNeg a3) a0 3, sw_ar (wr_I (wr_I (wr_I M (rd_R M a0 0) (rd_I M a0 5).toNatClampNeg a1) (rd_R (wr_I M (rd_R M a0 0) (rd_I M a0 5).toNatClampNeg a1) a0 1) (rd_I (wr_I M (rd_R M a0 0) (rd_I M a0 5).toNatClampNeg a1) a0 5).toNatClampNeg a2) (rd_R (wr_I (wr_I M (rd_R M a0 0) (rd_I M a0 5).toNatClampNeg a1) (rd_R (wr_I M (rd_R M a0 0) (rd_I M a0 5).toNatClampNeg a1) a0 1) (rd_I (wr_I M (rd_R M a0 0) (rd_I M a0 5).toNatClampNeg a1) a0 5).toNatClampNeg a2) a0 2) (rd_I (wr_I (wr_I M (rd_R M a0 0) (rd_I M a0 5).toNatClampNeg a1) (rd_R (wr_I M (rd_R M a0 0) (rd_I M a0 5).toNatClampNeg a1) a0 1) (rd_I (wr_I M (rd_R M a0 0) (rd_I M a0 5).toNatClampNeg a1) a0 5).toNatClampNeg a2) a0 5).toNatClampNeg a3) (rd_R (wr_I (wr_I (wr_I M (rd_R M a0 0) (rd_I M a0 5).toNatClampNeg a1) (rd_R (wr_I M (rd_R M a0 0) (rd_I M a0 5).toNatClampNeg a1) a0 1) (rd_I (wr_I M (rd_R M a0 0) (rd_I M a0 5).toNatClampNeg a1) a0 5).toNatClampNeg a2) (rd_R (wr_I (wr_I M (rd_R M a0 0) (rd_I M a0 5).toNatClampNeg a1) (rd_R (wr_I M (rd_R M a0 0) (rd_I M a0 5).toNatClampNeg a1) a0 1) (rd_I (wr_I M (rd_R M a0 0) (rd_I M a0 5).toNatClampNeg a1) a0 5).toNatClampNeg a2) a0 2) (rd_I (wr_I (wr_I M (rd_R M a0 0) (rd_I M a0 5).toNatClampNeg a1) (rd_R (wr_I M (rd_R M a0 0) (rd_I M a0 5).toNatClampNeg a1) a0 1) (rd_I (wr_I M (rd_R M a0 0) (rd_I M a0 5).toNatClampNeg a1) a0 5).toNatClampNeg a2) a0 5).toNatClampNeg a3) a0 3) 13 (rd_I (wr_I (wr_I (wr_I M (rd_R M a0 0) (rd_I M a0 5).toNatClampNeg a1) (rd_R (wr_I M (rd_R M a0 0) (rd_I M a0 5).toNatClampNeg a1) a0 1) (rd_I (wr_I M (rd_R M a0 0) (rd_I M a0 5).toNatClampNeg a1) a0 5).toNatClampNeg a2) (rd_R (wr_I (wr_I M (rd_R M a0 0) (rd_I M a0 5).toNatClampNeg a1) (rd_R (wr_I M (rd_R M a0 0) (rd_I M a0 5).toNatClampNeg a1) a0 1) (rd_I (wr_I M (rd_R M a0 0) (rd_I M a0 5).toNatClampNeg a1) a0 5).toNatClampNeg a2) a0 2) (rd_I (wr_I (wr_I M (rd_R M a0 0) (rd_I M a0 5).toNatClampNeg a1) (rd_R (wr_I M (rd_R M a0 0) (rd_I M a0 5).toNatClampNeg a1) a0 1) (rd_I (wr_I M (rd_R M a0 0) (rd_I M a0 5).toNatClampNeg a1) a0 5).toNatClampNeg a2) a0 5).toNatClampNeg a3) a0 5), sw_ok (wr_I (wr_I (wr_I (wr_I M (rd_R M a0 0) (rd_I M a0 5).toNatClampNeg a1) (rd_R (wr_I M (rd_R M a0 0) (rd_I M a0 5).toNatClampNeg a1) a0 1) (rd_I (wr_I M (rd_R M a0 0) (rd_I M a0 5).toNatClampNeg a1) a0 5).toNatClampNeg a2) (rd_R (wr_I (wr_I M (rd_R M a0 0) (rd_I M a0 5).toNatClampNeg a1) (rd_R (wr_I M (rd_R M a0 0) (rd_I M a0 5).toNatClampNeg a1) a0 1) (rd_I (wr_I M (rd_R M a0 0) (rd_I M a0 5).toNatClampNeg a1) a0 5).toNatClampNeg a2) a0 2) (rd_I (wr_I (wr_I M (rd_R M a0 0) (rd_I M a0 5).toNatClampNeg a1) (rd_R (wr_I M (rd_R M a0 0) (rd_I M a0 5).toNatClampNeg a1) a0 1) (rd_I (wr_I M (rd_R M a0 0) (rd_I M a0 5).toNatClampNeg a1) a0 5).toNatClampNeg a2) a0 5).toNatClampNeg a3) (rd_R (wr_I (wr_I (wr_I M (rd_R M a0 0) (rd_I M a0 5).toNatClampNeg a1) (rd_R (wr_I M (rd_R M a0 0) (rd_I M a0 5).toNatClampNeg a1) a0 1) (rd_I (wr_I M (rd_R M a0 0) (rd_I M a0 5).toNatClampNeg a1) a0 5).toNatClampNeg a2) (rd_R (wr_I (wr_I M (rd_R M a0 0) (rd_I M a0 5).toNatClampNeg a1) (rd_R (wr_I M (rd_R M a0 0) (rd_I M a0 5).toNatClampNeg a1) a0 1) (rd_I (wr_I M (rd_R M a0 0) (rd_I M a0 5).toNatClampNeg a1) a0 5).toNatClampNeg a2) a0 2) (rd_I (wr_I (wr_I M (rd_R M a0 0) (rd_I M a0 5).toNatClampNeg a1) (rd_R (wr_I M (rd_R M a0 0) (rd_I M a0 5).toNatClampNeg a1) a0 1) (rd_I (wr_I M (rd_R M a0 0) (rd_I M a0 5).toNatClampNeg a1) a0 5).toNatClampNeg a2) a0 5).toNatClampNeg a3) a0 3) (rd_I (wr_I (wr_I (wr_I M (rd_R M a0 0) (rd_I M a0 5).toNatClampNeg a1) (rd_R (wr_I M (rd_R M a0 0) (rd_I M a0 5).toNatClampNeg a1) a0 1) (rd_I (wr_I M (rd_R M a0 0) (rd_I M a0 5).toNatClampNeg a1) a0 5).toNatClampNeg a2) (rd_R (wr_I (wr_I M (rd_R M a0 0) (rd_I M a0 5).toNatClampNeg a1) (rd_R (wr_I M (rd_R M a0 0) (rd_I M a0 5).toNatClampNeg a1) a0 1) (rd_I (wr_I M (rd_R M a0 0) (rd_I M a0 5).toNatClampNeg a1) a0 5).toNatClampNeg a2) a0 2) (rd_I (wr_I (wr_I M (rd_R M a0 0) (rd_I M a0 5).toNatClampNeg a1) (rd_R (wr_I M (rd_R M a0 0) (rd_I M a0 5).toNatClampNeg a1) a0 1) (rd_I (wr_I M (rd_R M a0 0) (rd_I M a0 5).toNatClampNeg a1) a0 5).toNatClampNeg a2) a0 5).toNatClampNeg a3) a0 5).toNatClampNeg a4) a0 3, sw_ok (wr_I (wr_I (wr_I (wr_I M (rd_R M a0 0) (rd_I M a0 5).toNatClampNeg a1) (rd_R (wr_I M (rd_R M a0 0) (rd_I M a0 5).toNatClampNeg a1) a0 1) (rd_I (wr_I M (rd_R M a0 0) (rd_I M a0 5).toNatClampNeg a1) a0 5).toNatClampNeg a2) (rd_R (wr_I (wr_I M (rd_R M a0 0) (rd_I M a0 5).toNatClampNeg a1) (rd_R (wr_I M (rd_R M a0 0) (rd_I M a0 5).toNatClampNeg a1) a0 1) (rd_I (wr_I M (rd_R M a0 0) (rd_I M a0 5).toNatClampNeg a1) a0 5).toNatClampNeg a2) a0 2) (rd_I (wr_I (wr_I M (rd_R M a0 0) (rd_I M a0 5).toNatClampNeg a1) (rd_R (wr_I M (rd_R M a0 0) (rd_I M a0 5).toNatClampNeg a1) a0 1) (rd_I (wr_I M (rd_R M a0 0) (rd_I M a0 5).toNatClampNeg a1) a0 5).toNatClampNeg a2) a0 5).toNatClampNeg a3) (rd_R (wr_I (wr_I (wr_I M (rd_R M a0 0) (rd_I M a0 5).toNatClampNeg a1) (rd_R (wr_I M (rd_R M a0 0) (rd_I M a0 5).toNatClampNeg a1) a0 1) (rd_I (wr_I M (rd_R M a0 0) (rd_I M a0 5).toNatClampNeg a1) a0 5).toNatClampNeg a2) (rd_R (wr_I (wr_I M (rd_R M a0 0) (rd_I M a0 5).toNatClampNeg a1) (rd_R (wr_I M (rd_R M a0 0) (rd_I M a0 5).toNatClampNeg a1) a0 1) (rd_I (wr_I M (rd_R M a0 0) (rd_I M a0 5).toNatClampNeg a1) a0 5).toNatClampNeg a2) a0 2) (rd_I (wr_I (wr_I M (rd_R M a0 0) (rd_I M a0 5).toNatClampNeg a1) (rd_R (wr_I M (rd_R M a0 0) (rd_I M a0 5).toNatClampNeg a1) a0 1) (rd_I (wr_I M (rd_R M a0 0) (rd_I M a0 5).toNatClampNeg a1) a0 5).toNatClampNeg a2) a0 5).toNatClampNeg a3) a0 3) (rd_I (wr_I (wr_I (wr_I M (rd_R M a0 0) (rd_I M a0 5).toNatClampNeg a1) (rd_R (wr_I M (rd_R M a0 0) (rd_I M a0 5).toNatClampNeg a1) a0 1) (rd_I (wr_I M (rd_R M a0 0) (rd_I M a0 5).toNatClampNeg a1) a0 5).toNatClampNeg a2) (rd_R (wr_I (wr_I M (rd_R M a0 0) (rd_I M a0 5).toNatClampNeg a1) (rd_R (wr_I M (rd_R M a0 0) (rd_I M a0 5).toNatClampNeg a1) a0 1) (rd_I (wr_I M (rd_R M a0 0) (rd_I M a0 5).toNatClampNeg a1) a0 5).toNatClampNeg a2) a0 2) (rd_I (wr_I (wr_I M (rd_R M a0 0) (rd_I M a0 5).toNatClampNeg a1) (rd_R (wr_I M (rd_R M a0 0) (rd_I M a0 5).toNatClampNeg a1) a0 1) (rd_I (wr_I M (rd_R M a0 0) (rd_I M a0 5).toNatClampNeg a1) a0 5).toNatClampNeg a2) a0 5).toNatClampNeg a3) a0 5).toNatClampNeg a4) a0 3, sw_ok (wr_I (wr_I (wr_I (wr_I (wr_I M (rd_R M a0 0) (rd_I M a0 5).toNatClampNeg a1) (rd_R (wr_I M (rd_R M a0 0) (rd_I M a0 5).toNatClampNeg a1) a0 1) (rd_I (wr_I M (rd_R M a0 0) (rd_I M a0 5).toNatClampNeg a1) a0 5).toNatClampNeg a2) (rd_R (wr_I (wr_I M (rd_R M a0 0) (rd_I M a0 5).toNatClampNeg a1) (rd_R (wr_I M (rd_R M a0 0) (rd_I M a0 5).toNatClampNeg a1) a0 1) (rd_I (wr_I M (rd_R M a0 0) (rd_I M a0 5).toNatClampNeg a1) a0 5).toNatClampNeg a2) a0 2) (rd_I (wr_I (wr_I M (rd_R M a0 0) (rd_I M a0 5).toNatClampNeg a1) (rd_R (wr_I M (rd_R M a0 0) (rd_I M a0 5).toNatClampNeg a1) a0 1) (rd_I (wr_I M (rd_R M a0 0) (rd_I M a0 5).toNatClampNeg a1) a0 5).toNatClampNeg a2) a0 5).toNatClampNeg a3) (rd_R (wr_I (wr_I (wr_I M (rd_R M a0 0) (rd_I M a0 5).toNatClampNeg a1) (rd_R (wr_I M (rd_R M a0 0) (rd_I M a0 5).toNatClampNeg a1) a0 1) (rd_I (wr_I M (rd_R M a0 0) (rd_I M a0 5).toNatClampNeg a1) a0 5).toNatClampNeg a2) (rd_R (wr_I (wr_I M (rd_R M a0 0) (rd_I M a0 5).toNatClampNeg a1) (rd_R (wr_I M (rd_R M a0 0) (rd_I M a0 5).toNatClampNeg a1) a0 1) (rd_I (wr_I M (rd_R M a0 0) (rd_I M a0 5).toNatClampNeg a1) a0 5).toNatClampNeg a2) a0 2) (rd_I (wr_I (wr_I M (rd_R M a0 0) (rd_I M a0 5).toNatClampNeg a1) (rd_R (wr_I M (rd_R M a0 0) (rd_I M a0 5).toNatClampNeg a1) a0 1) (rd_I (wr_I M (rd_R M a0 0) (rd_I M a0 5).toNatClampNeg a1) a0 5).toNatClampNeg a2) a0 5).toNatClampNeg a3) a0 3) (rd_I (wr_I (wr_I (wr_I M (rd_R M a0 0) (rd_I M a0 5).toNatClampNeg a1) (rd_R (wr_I M (rd_R M a0 0) (rd_I M a0 5).toNatClampNeg a1) a0 1) (rd_I (wr_I M (rd_R M a0 0) (rd_I M a0 5).toNatClampNeg a1) a0 5).toNatClampNeg a2) (rd_R (wr_I (wr_I M (rd_R M a0 0) (rd_I M a0 5).toNatClampNeg a1) (rd_R (wr_I M (rd_R M a0 0) (rd_I M a0 5).toNatClampNeg a1) a0 1) (rd_I (wr_I M (rd_R M a0 0) (rd_I M a0 5).toNatClampNeg a1) a0 5).toNatClampNeg a2) a0 2) (rd_I (wr_I (wr_I M (rd_R M a0 0) (rd_I M a0 5).toNatClampNeg a1) (rd_R (wr_I M (rd_R M a0 0) (rd_I M a0 5).toNatClampNeg a1) a0 1) (rd_I (wr_I M (rd_R M a0 0) (rd_I M a0 5).toNatClampNeg a1) a0 5).toNatClampNeg a2) a0 5).toNatClampNeg a3) a0 5).toNatClampNeg a4) a0 5 ((rd_I (wr_I (wr_I (wr_I (wr_I M (rd_R M a0 0) (rd_I M a0 5).toNatClampNeg a1) (rd_R (wr_I M (rd_R M a0 0) (rd_I M a0 5).toNatClampNeg a1) a0 1) (rd_I (wr_I M (rd_R M a0 0) (rd_I M a0 5).toNatClampNeg a1) a0 5).toNatClampNeg a2) (rd_R (wr_I (wr_I M (rd_R M a0 0) (rd_I M a0 5).toNatClampNeg a1) (rd_R (wr_I M (rd_R M a0 0) (rd_I M a0 5).toNatClampNeg a1) a0 1) (rd_I (wr_I M (rd_R M a0 0) (rd_I M a0 5).toNatClampNeg a1) a0 5).toNatClampNeg a2) a0 2) (rd_I (wr_I (wr_I M (rd_R M a0 0) (rd_I M a0 5).toNatClampNeg a1) (rd_R (wr_I M (rd_R M a0 0) (rd_I M a0 5).toNatClampNeg a1) a0 1) (rd_I (wr_I M (rd_R M a0 0) (rd_I M a0 5).toNatClampNeg a1) a0 5).toNatClampNeg a2) a0 5).toNatClampNeg a3) (rd_R (wr_I (wr_I (wr_I M (rd_R M a0 0) (rd_I M a0 5).toNatClampNeg a1) (rd_R (wr_I M (rd_R M a0 0) (rd_I M a0 5).toNatClampNeg a1) a0 1) (rd_I (wr_I M (rd_R M a0 0) (rd_I M a0 5).toNatClampNeg a1) a0 5).toNatClampNeg a2) (rd_R (wr_I (wr_I M (rd_R M a0 0) (rd_I M a0 5).toNatClampNeg a1) (rd_R (wr_I M (rd_R M a0 0) (rd_I M a0 5).toNatClampNeg a1) a0 1) (rd_I (wr_I M (rd_R M a0 0) (rd_I M a0 5).toNatClampNeg a1) a0 5).toNatClampNeg a2) a0 2) (rd_I (wr_I (wr_I M (rd_R M a0 0) (rd_I M a0 5).toNatClampNeg a1) (rd_R (wr_I M (rd_R M a0 0) (rd_I M a0 5).toNatClampNeg a1) a0 1) (rd_I (wr_I M (rd_R M a0 0) (rd_I M a0 5).toNatClampNeg a1) a0 5).toNatClampNeg a2) a0 5).toNatClampNeg a3) a0 3) (rd_I (wr_I (wr_I (wr_I M (rd_R M a0 0) (rd_I M a0 5).toNatClampNeg a1) (rd_R (wr_I M (rd_R M a0 0) (rd_I M a0 5).toNatClampNeg a1) a0 1) (rd_I (wr_I M (rd_R M a0 0) (rd_I M a0 5).toNatClampNeg a1) a0 5).toNatClampNeg a2) (rd_R (wr_I (wr_I M (rd_R M a0 0) (rd_I M a0 5).toNatClampNeg a1) (rd_R (wr_I M (rd_R M a0 0) (rd_I M a0 5).toNatClampNeg a1) a0 1) (rd_I (wr_I M (rd_R M a0 0) (rd_I M a0 5).toNatClampNeg a1) a0 5).toNatClampNeg a2) a0 2) (rd_I (wr_I (wr_I M (rd_R M a0 0) (rd_I M a0 5).toNatClampNeg a1) (rd_R (wr_I M (rd_R M a0 0) (rd_I M a0 5).toNatClampNeg a1) a0 1) (rd_I (wr_I M (rd_R M a0 0) (rd_I M a0 5).toNatClampNeg a1) a0 5).toNatClampNeg a2) a0 5).toNatClampNeg a3) a0 5).toNatClampNeg a4) a0 5) + (1 : Int32))) a0 3]) (pc' := 68) (by decide +kernel) rfl rfl (sw_a1 h1 (sw_a1 h1 (sw_a1 h2 (sw_a1 h1 (sw_a1 h1 (sw_a1 h3 (sw_a1 h1 (sw_a1 h1 (sw_a1 h4 (sw_a1 h1 (sw_a1 h1 (sw_a1 h5 (sw_a1 h1 (sw_a1 h1 (sw_a1 h1 sw_a0))))))))))))))) ?_
    cases hf
    exact sf_int rfl (by decide +kernel)
  · refine sf_blk [(.iconst (-1), 0, 0, .int (-1 : Int32))] (lv' := [(0, .ref a0), (1, .int a1), (2, .int a2), (3, .int a3), (4, .int a4)]) (st' := [.int (-1 : Int32)]) (M1 := M) (ob := []) (pc' := 10) (by decide +kernel) rfl rfl sw_a0 ?_
    cases hf
    exact sf_int rfl (by decide +kernel)
theorem o_Notes_add (g : sw_G) {d : Nat} (hd : 1 ≤ d) {N : Nat} {a0 : Nat} {a1 : Int32} {a2 : Int32} {a3 : Int32} {a4 : Int32} {M : sw_M} {r : Int32 × sw_M} (hf : f_Notes_add N a0 a1 a2 a3 a4 M = some r) : sw_Ok g k_Notes_add d [.ref a0, .int a1, .int a2, .int a3, .int a4] M (some (.int r.1)) r.2 := sf_met (by decide +kernel) rfl (by decide) (Nat.le_of_ble_eq_true rfl) (t_Notes_add hd hf)
def f_House_sight_59 (N : Nat) (a0 : Nat) (a1 : Int32) (a2 : Int32) (a3 : Int32) (a4 : Int32) (M : sw_M) : Option (Int32 × sw_M) :=
  sw_gd [sw_ok M a0 11] (sw_gd [sw_ok M (rd_R M a0 9) 2] (sw_gd [sw_ok (wr_I M (rd_R M a0 9) 5 (0 : Int32)) (rd_R (wr_I M (rd_R M a0 9) 5 (0 : Int32)) a0 7) 3] ((f_Notes_add N (rd_R (wr_I M (rd_R M a0 9) 5 (0 : Int32)) a0 7) a1 a2 a3 a4 (wr_I M (rd_R M a0 9) 5 (0 : Int32))).bind (fun u4 => some (u4.1, u4.2)))))
set_option maxRecDepth 10000 in
theorem t_House_sight_59 {g : sw_G} {d n0 : Nat} (hd : 2 ≤ d) {r : Int32 × sw_M} {N : Nat} {a0 : Nat} {a1 : Int32} {a2 : Int32} {a3 : Int32} {a4 : Int32} {M : sw_M} (hf : f_House_sight_59 N a0 a1 a2 a3 a4 M = some r) : sw_F g k_House_sight d n0 (some (.int r.1)) r.2 59 [(0, .ref a0), (1, .int a1), (2, .int a2), (3, .int a3), (4, .int a4)] [] M := by
  unfold f_House_sight_59 at hf
  obtain ⟨h1, hf⟩ := sw_gd_1 hf
  obtain ⟨h2, hf⟩ := sw_gd_1 hf
  obtain ⟨h3, hf⟩ := sw_gd_1 hf
  refine sf_blk [(.aload_n 0, 0, 0, .null), (.getfield 74, 11, 9, .null), (.iconst (0), 0, 0, .int (0 : Int32)), (.putfield 258, 2, 5, .null), (.aload_n 0, 0, 0, .null), (.getfield 56, 11, 7, .null), (.iload_n 1, 0, 0, .null), (.iload_n 2, 0, 0, .null), (.iload_n 3, 0, 0, .null), (.iload 4, 0, 0, .null)] (lv' := [(0, .ref a0), (1, .int a1), (2, .int a2), (3, .int a3), (4, .int a4)]) (st' := [.int a4, .int a3, .int a2, .int a1, .ref (rd_R (wr_I M (rd_R M a0 9) 5 (0 : Int32)) a0 7)]) (M1 := (wr_I M (rd_R M a0 9) 5 (0 : Int32))) (ob := [sw_ok M a0 11, sw_ok M (rd_R M a0 9) 2, sw_ok (wr_I M (rd_R M a0 9) 5 (0 : Int32)) a0 11]) (pc' := 76) (by decide +kernel) rfl rfl (sw_a1 h1 (sw_a1 h2 (sw_a1 h1 sw_a0))) ?_
  obtain ⟨u4, hu4, hf⟩ := sw_bnd hf
  refine sf_callV (i := 261) (k2 := k_Notes_add) (d2 := d - 1) (As := [.int a1, .int a2, .int a3, .int a4]) (st := []) (q := (rd_R (wr_I M (rd_R M a0 9) 5 (0 : Int32)) a0 7)) (ci := 3) mf_Notes_add mi_Notes_add ms_Notes_add (sw_m5 17 (by decide +kernel)) rfl (by decide) (by decide +kernel) rfl (Nat.le_of_ble_eq_true rfl) (by omega) h3 (o_Notes_add g (d := d - 1) (by omega) hu4) ?_
  show sw_F _ _ _ _ _ _ 79 [(0, .ref a0), (1, .int a1), (2, .int a2), (3, .int a3), (4, .int a4)] [.int u4.1] u4.2
  cases hf
  exact sf_int rfl (by decide +kernel)
def f_House_sight (N : Nat) (a0 : Nat) (a1 : Int32) (a2 : Int32) (a3 : Int32) (a4 : Int32) (M : sw_M) : Option (Int32 × sw_M) :=
  if a2 < 0 then some ((-1 : Int32), M)
  else if (64 : Int32) ≤ a2 then some ((-1 : Int32), M)
  else if a3 ≤ a4 then if a1 = 0 then if a3 < 0 then some ((-1 : Int32), M)
  else if a4 ≤ (1000 : Int32) then f_House_sight_59 N a0 a1 a2 a3 a4 M
  else some ((-1 : Int32), M)
  else if a1 = (1 : Int32) then if a3 < (-9999 : Int32) then some ((-1 : Int32), M)
  else if a4 ≤ (9999 : Int32) then f_House_sight_59 N a0 a1 a2 a3 a4 M
  else some ((-1 : Int32), M)
  else some ((-1 : Int32), M)
  else some ((-1 : Int32), M)
set_option maxRecDepth 10000 in
theorem t_House_sight {g : sw_G} {d n0 : Nat} (hd : 2 ≤ d) {r : Int32 × sw_M} {N : Nat} {a0 : Nat} {a1 : Int32} {a2 : Int32} {a3 : Int32} {a4 : Int32} {M : sw_M} (hf : f_House_sight N a0 a1 a2 a3 a4 M = some r) : sw_F g k_House_sight d n0 (some (.int r.1)) r.2 0 [(0, .ref a0), (1, .int a1), (2, .int a2), (3, .int a3), (4, .int a4)] [] M := by
  unfold f_House_sight at hf
  refine sf_blk [(.iload_n 2, 0, 0, .null)] (lv' := [(0, .ref a0), (1, .int a1), (2, .int a2), (3, .int a3), (4, .int a4)]) (st' := [.int a2]) (M1 := M) (ob := []) (pc' := 1) (by decide +kernel) rfl rfl sw_a0 ?_
  refine sf_z_lt (off := 15) (tgt := 16) (by decide +kernel) (by decide) hf (fun hc hf => ?_) (fun hc hf => ?_)
  · refine sf_blk [(.iconst (-1), 0, 0, .int (-1 : Int32))] (lv' := [(0, .ref a0), (1, .int a1), (2, .int a2), (3, .int a3), (4, .int a4)]) (st' := [.int (-1 : Int32)]) (M1 := M) (ob := []) (pc' := 17) (by decide +kernel) rfl rfl sw_a0 ?_
    cases hf
    exact sf_int rfl (by decide +kernel)
  · refine sf_blk [(.iload_n 2, 0, 0, .null), (.bipush (64), 0, 0, .int (64 : Int32))] (lv' := [(0, .ref a0), (1, .int a1), (2, .int a2), (3, .int a3), (4, .int a4)]) (st' := [.int (64 : Int32), .int a2]) (M1 := M) (ob := []) (pc' := 7) (by decide +kernel) rfl rfl sw_a0 ?_
    refine sf_j_ge (off := 9) (tgt := 16) (by decide +kernel) (by decide) hf (fun hc hf => ?_) (fun hc hf => ?_)
    · refine sf_blk [(.iconst (-1), 0, 0, .int (-1 : Int32))] (lv' := [(0, .ref a0), (1, .int a1), (2, .int a2), (3, .int a3), (4, .int a4)]) (st' := [.int (-1 : Int32)]) (M1 := M) (ob := []) (pc' := 17) (by decide +kernel) rfl rfl sw_a0 ?_
      cases hf
      exact sf_int rfl (by decide +kernel)
    · refine sf_blk [(.iload_n 3, 0, 0, .null), (.iload 4, 0, 0, .null)] (lv' := [(0, .ref a0), (1, .int a1), (2, .int a2), (3, .int a3), (4, .int a4)]) (st' := [.int a4, .int a3]) (M1 := M) (ob := []) (pc' := 13) (by decide +kernel) rfl rfl sw_a0 ?_
      refine sf_j_le (off := 5) (tgt := 18) (by decide +kernel) (by decide) hf (fun hc hf => ?_) (fun hc hf => ?_)
      · refine sf_blk [(.iload_n 1, 0, 0, .null)] (lv' := [(0, .ref a0), (1, .int a1), (2, .int a2), (3, .int a3), (4, .int a4)]) (st' := [.int a1]) (M1 := M) (ob := []) (pc' := 19) (by decide +kernel) rfl rfl sw_a0 ?_
        refine sf_z_ne (off := 18) (tgt := 37) (by decide +kernel) (by decide) hf (fun hc hf => ?_) (fun hc hf => ?_)
        · refine sf_blk [(.iload_n 1, 0, 0, .null), (.iconst (1), 0, 0, .int (1 : Int32))] (lv' := [(0, .ref a0), (1, .int a1), (2, .int a2), (3, .int a3), (4, .int a4)]) (st' := [.int (1 : Int32), .int a1]) (M1 := M) (ob := []) (pc' := 39) (by decide +kernel) rfl rfl sw_a0 ?_
          refine sf_j_ne (off := 18) (tgt := 57) (by decide +kernel) (by decide) hf (fun hc hf => ?_) (fun hc hf => ?_)
          · refine sf_blk [(.iconst (-1), 0, 0, .int (-1 : Int32))] (lv' := [(0, .ref a0), (1, .int a1), (2, .int a2), (3, .int a3), (4, .int a4)]) (st' := [.int (-1 : Int32)]) (M1 := M) (ob := []) (pc' := 58) (by decide +kernel) rfl rfl sw_a0 ?_
            cases hf
            exact sf_int rfl (by decide +kernel)
          · refine sf_blk [(.iload_n 3, 0, 0, .null), (.sipush (-9999), 0, 0, .int (-9999 : Int32))] (lv' := [(0, .ref a0), (1, .int a1), (2, .int a2), (3, .int a3), (4, .int a4)]) (st' := [.int (-9999 : Int32), .int a3]) (M1 := M) (ob := []) (pc' := 46) (by decide +kernel) rfl rfl sw_a0 ?_
            refine sf_j_lt (off := 11) (tgt := 57) (by decide +kernel) (by decide) hf (fun hc hf => ?_) (fun hc hf => ?_)
            · refine sf_blk [(.iconst (-1), 0, 0, .int (-1 : Int32))] (lv' := [(0, .ref a0), (1, .int a1), (2, .int a2), (3, .int a3), (4, .int a4)]) (st' := [.int (-1 : Int32)]) (M1 := M) (ob := []) (pc' := 58) (by decide +kernel) rfl rfl sw_a0 ?_
              cases hf
              exact sf_int rfl (by decide +kernel)
            · refine sf_blk [(.iload 4, 0, 0, .null), (.sipush (9999), 0, 0, .int (9999 : Int32))] (lv' := [(0, .ref a0), (1, .int a1), (2, .int a2), (3, .int a3), (4, .int a4)]) (st' := [.int (9999 : Int32), .int a4]) (M1 := M) (ob := []) (pc' := 54) (by decide +kernel) rfl rfl sw_a0 ?_
              refine sf_j_le (off := 5) (tgt := 59) (by decide +kernel) (by decide) hf (fun hc hf => ?_) (fun hc hf => ?_)
              · exact sf_weak [0, 1, 2, 3, 4] rfl (t_House_sight_59 hd hf)
              · refine sf_blk [(.iconst (-1), 0, 0, .int (-1 : Int32))] (lv' := [(0, .ref a0), (1, .int a1), (2, .int a2), (3, .int a3), (4, .int a4)]) (st' := [.int (-1 : Int32)]) (M1 := M) (ob := []) (pc' := 58) (by decide +kernel) rfl rfl sw_a0 ?_
                cases hf
                exact sf_int rfl (by decide +kernel)
        · refine sf_blk [(.iload_n 3, 0, 0, .null)] (lv' := [(0, .ref a0), (1, .int a1), (2, .int a2), (3, .int a3), (4, .int a4)]) (st' := [.int a3]) (M1 := M) (ob := []) (pc' := 23) (by decide +kernel) rfl rfl sw_a0 ?_
          refine sf_z_lt (off := 34) (tgt := 57) (by decide +kernel) (by decide) hf (fun hc hf => ?_) (fun hc hf => ?_)
          · refine sf_blk [(.iconst (-1), 0, 0, .int (-1 : Int32))] (lv' := [(0, .ref a0), (1, .int a1), (2, .int a2), (3, .int a3), (4, .int a4)]) (st' := [.int (-1 : Int32)]) (M1 := M) (ob := []) (pc' := 58) (by decide +kernel) rfl rfl sw_a0 ?_
            cases hf
            exact sf_int rfl (by decide +kernel)
          · refine sf_blk [(.iload 4, 0, 0, .null), (.sipush (1000), 0, 0, .int (1000 : Int32))] (lv' := [(0, .ref a0), (1, .int a1), (2, .int a2), (3, .int a3), (4, .int a4)]) (st' := [.int (1000 : Int32), .int a4]) (M1 := M) (ob := []) (pc' := 31) (by decide +kernel) rfl rfl sw_a0 ?_
            refine sf_j_le (off := 28) (tgt := 59) (by decide +kernel) (by decide) hf (fun hc hf => ?_) (fun hc hf => ?_)
            · exact sf_weak [0, 1, 2, 3, 4] rfl (t_House_sight_59 hd hf)
            · refine sf_goto (off := 23) (tgt := 57) (by decide +kernel) (by decide) ?_
              refine sf_blk [(.iconst (-1), 0, 0, .int (-1 : Int32))] (lv' := [(0, .ref a0), (1, .int a1), (2, .int a2), (3, .int a3), (4, .int a4)]) (st' := [.int (-1 : Int32)]) (M1 := M) (ob := []) (pc' := 58) (by decide +kernel) rfl rfl sw_a0 ?_
              cases hf
              exact sf_int rfl (by decide +kernel)
      · refine sf_blk [(.iconst (-1), 0, 0, .int (-1 : Int32))] (lv' := [(0, .ref a0), (1, .int a1), (2, .int a2), (3, .int a3), (4, .int a4)]) (st' := [.int (-1 : Int32)]) (M1 := M) (ob := []) (pc' := 17) (by decide +kernel) rfl rfl sw_a0 ?_
        cases hf
        exact sf_int rfl (by decide +kernel)
theorem o_House_sight (g : sw_G) {d : Nat} (hd : 2 ≤ d) {N : Nat} {a0 : Nat} {a1 : Int32} {a2 : Int32} {a3 : Int32} {a4 : Int32} {M : sw_M} {r : Int32 × sw_M} (hf : f_House_sight N a0 a1 a2 a3 a4 M = some r) : sw_Ok g k_House_sight d [.ref a0, .int a1, .int a2, .int a3, .int a4] M (some (.int r.1)) r.2 := sf_met (by decide +kernel) rfl (by decide) (Nat.le_of_ble_eq_true rfl) (t_House_sight hd hf)
def f_House_strike (N : Nat) (a0 : Nat) (a1 : Int32) (M : sw_M) : Option (Int32 × sw_M) :=
  if a1 < 0 then some ((-1 : Int32), M)
  else sw_gd [sw_ok M a0 11] (sw_gd [sw_ok M (rd_R M a0 7) 3] (if a1 < (rd_I M (rd_R M a0 7) 5) then sw_gd [sw_ok M (rd_R M a0 9) 2] (sw_gd [sw_ok (wr_I M (rd_R M a0 9) 5 (0 : Int32)) (rd_R (wr_I M (rd_R M a0 9) 5 (0 : Int32)) a0 7) 3] ((f_Notes_add N (rd_R (wr_I M (rd_R M a0 9) 5 (0 : Int32)) a0 7) (2 : Int32) a1 (0 : Int32) (0 : Int32) (wr_I M (rd_R M a0 9) 5 (0 : Int32))).bind (fun u5 => some (u5.1, u5.2))))
  else some ((-1 : Int32), M)))
set_option maxRecDepth 10000 in
theorem t_House_strike {g : sw_G} {d n0 : Nat} (hd : 2 ≤ d) {r : Int32 × sw_M} {N : Nat} {a0 : Nat} {a1 : Int32} {M : sw_M} (hf : f_House_strike N a0 a1 M = some r) : sw_F g k_House_strike d n0 (some (.int r.1)) r.2 0 [(0, .ref a0), (1, .int a1)] [] M := by
  unfold f_House_strike at hf
  refine sf_blk [(.iload_n 1, 0, 0, .null)] (lv' := [(0, .ref a0), (1, .int a1)]) (st' := [.int a1]) (M1 := M) (ob := []) (pc' := 1) (by decide +kernel) rfl rfl sw_a0 ?_
  refine sf_z_lt (off := 14) (tgt := 15) (by decide +kernel) (by decide) hf (fun hc hf => ?_) (fun hc hf => ?_)
  · refine sf_blk [(.iconst (-1), 0, 0, .int (-1 : Int32))] (lv' := [(0, .ref a0), (1, .int a1)]) (st' := [.int (-1 : Int32)]) (M1 := M) (ob := []) (pc' := 16) (by decide +kernel) rfl rfl sw_a0 ?_
    cases hf
    exact sf_int rfl (by decide +kernel)
  · obtain ⟨h1, hf⟩ := sw_gd_1 hf
    obtain ⟨h2, hf⟩ := sw_gd_1 hf
    refine sf_blk [(.iload_n 1, 0, 0, .null), (.aload_n 0, 0, 0, .null), (.getfield 56, 11, 7, .null), (.getfield 262, 3, 5, .null)] (lv' := [(0, .ref a0), (1, .int a1)]) (st' := [.int (rd_I M (rd_R M a0 7) 5), .int a1]) (M1 := M) (ob := [sw_ok M a0 11, sw_ok M (rd_R M a0 7) 3]) (pc' := 12) (by decide +kernel) rfl rfl (sw_a1 h1 (sw_a1 h2 sw_a0)) ?_
    refine sf_j_lt (off := 5) (tgt := 17) (by decide +kernel) (by decide) hf (fun hc hf => ?_) (fun hc hf => ?_)
    · obtain ⟨h3, hf⟩ := sw_gd_1 hf
      obtain ⟨h4, hf⟩ := sw_gd_1 hf
      refine sf_blk [(.aload_n 0, 0, 0, .null), (.getfield 74, 11, 9, .null), (.iconst (0), 0, 0, .int (0 : Int32)), (.putfield 258, 2, 5, .null), (.aload_n 0, 0, 0, .null), (.getfield 56, 11, 7, .null), (.iconst (2), 0, 0, .int (2 : Int32)), (.iload_n 1, 0, 0, .null), (.iconst (0), 0, 0, .int (0 : Int32)), (.iconst (0), 0, 0, .int (0 : Int32))] (lv' := [(0, .ref a0), (1, .int a1)]) (st' := [.int (0 : Int32), .int (0 : Int32), .int a1, .int (2 : Int32), .ref (rd_R (wr_I M (rd_R M a0 9) 5 (0 : Int32)) a0 7)]) (M1 := (wr_I M (rd_R M a0 9) 5 (0 : Int32))) (ob := [sw_ok M a0 11, sw_ok M (rd_R M a0 9) 2, sw_ok (wr_I M (rd_R M a0 9) 5 (0 : Int32)) a0 11]) (pc' := 33) (by decide +kernel) rfl rfl (sw_a1 h1 (sw_a1 h3 (sw_a1 h1 sw_a0))) ?_
      obtain ⟨u5, hu5, hf⟩ := sw_bnd hf
      refine sf_callV (i := 261) (k2 := k_Notes_add) (d2 := d - 1) (As := [.int (2 : Int32), .int a1, .int (0 : Int32), .int (0 : Int32)]) (st := []) (q := (rd_R (wr_I M (rd_R M a0 9) 5 (0 : Int32)) a0 7)) (ci := 3) mf_Notes_add mi_Notes_add ms_Notes_add (sw_m5 17 (by decide +kernel)) rfl (by decide) (by decide +kernel) rfl (Nat.le_of_ble_eq_true rfl) (by omega) h4 (o_Notes_add g (d := d - 1) (by omega) hu5) ?_
      show sw_F _ _ _ _ _ _ 36 [(0, .ref a0), (1, .int a1)] [.int u5.1] u5.2
      cases hf
      exact sf_int rfl (by decide +kernel)
    · refine sf_blk [(.iconst (-1), 0, 0, .int (-1 : Int32))] (lv' := [(0, .ref a0), (1, .int a1)]) (st' := [.int (-1 : Int32)]) (M1 := M) (ob := []) (pc' := 16) (by decide +kernel) rfl rfl sw_a0 ?_
      cases hf
      exact sf_int rfl (by decide +kernel)
theorem o_House_strike (g : sw_G) {d : Nat} (hd : 2 ≤ d) {N : Nat} {a0 : Nat} {a1 : Int32} {M : sw_M} {r : Int32 × sw_M} (hf : f_House_strike N a0 a1 M = some r) : sw_Ok g k_House_strike d [.ref a0, .int a1] M (some (.int r.1)) r.2 := sf_met (by decide +kernel) rfl (by decide) (Nat.le_of_ble_eq_true rfl) (t_House_strike hd hf)
def f_Notes_know_108 (N : Nat) (k53 : Nat → Int32 → sw_M → Option (Int32 × sw_M)) (a0 : Nat) (a2 : Int32) (M : sw_M) : Option (Int32 × sw_M) :=
  k53 a0 (a2 + (-1 : Int32)) M
set_option maxRecDepth 10000 in
theorem t_Notes_know_108 {g : sw_G} {d n0 : Nat} (hd : 2 ≤ d) {r : Int32 × sw_M} (k53 : Nat → Int32 → sw_M → Option (Int32 × sw_M)) (hk53 : ∀ (a0 : Nat) (a2 : Int32) (M : sw_M), k53 a0 a2 M = some r → sw_F g k_Notes_know d n0 (some (.int r.1)) r.2 53 [(0, .ref a0), (2, .int a2)] [] M) {N : Nat} {a0 : Nat} {a2 : Int32} {M : sw_M} (hf : f_Notes_know_108 N k53 a0 a2 M = some r) : sw_F g k_Notes_know d n0 (some (.int r.1)) r.2 108 [(0, .ref a0), (2, .int a2)] [] M := by
  unfold f_Notes_know_108 at hf
  refine sf_blk [(.iinc 2 (-1), 0, 0, .int (-1 : Int32))] (lv' := [(2, .int (a2 + (-1 : Int32))), (0, .ref a0)]) (st' := []) (M1 := M) (ob := []) (pc' := 111) (by decide +kernel) rfl rfl sw_a0 ?_
  refine sf_goto (off := -58) (tgt := 53) (by decide +kernel) (by decide) ?_
  exact sf_weak [1, 0] rfl (hk53 _ _ _ hf)
def f_Notes_know_53 (N : Nat) : Nat → Nat → Int32 → sw_M → Option (Int32 × sw_M)
  | 0, _, _, _ => none
  | j + 1, a0, a2, M =>
  if a2 < 0 then some ((1 : Int32), M)
  else sw_gd [sw_ok M a0 3] (sw_gd [sw_ar M (rd_R M a0 4) 14 a2 || sw_ar M (rd_R M a0 4) 15 a2] (if (rd_I M (rd_R M a0 4) a2.toNatClampNeg) = 0 then f_Notes_know_108 N (f_Notes_know_53 N j) a0 a2 M
  else sw_gd [sw_ar M (rd_R M a0 0) 13 a2] (if (rd_I M (rd_R M a0 0) a2.toNatClampNeg) = (2 : Int32) then sw_gd [sw_ar M (rd_R M a0 1) 13 a2] (if (rd_I M (rd_R M a0 1) a2.toNatClampNeg) < 0 then f_Notes_know_108 N (f_Notes_know_53 N j) a0 a2 M
  else if (10 : Int32) ≤ (rd_I M (rd_R M a0 1) a2.toNatClampNeg) then f_Notes_know_108 N (f_Notes_know_53 N j) a0 a2 M
  else sw_gd [(sw_ar M (rd_R M a0 4) 14 (rd_I M (rd_R M a0 1) a2.toNatClampNeg) && decide ((0 : Int32).toInt8.toInt32 = (0 : Int32))) || (sw_ar M (rd_R M a0 4) 15 (rd_I M (rd_R M a0 1) a2.toNatClampNeg) && sw_bz (0 : Int32))] (f_Notes_know_108 N (f_Notes_know_53 N j) a0 a2 (wr_I M (rd_R M a0 4) (rd_I M (rd_R M a0 1) a2.toNatClampNeg).toNatClampNeg (0 : Int32))))
  else f_Notes_know_108 N (f_Notes_know_53 N j) a0 a2 M)))
set_option maxRecDepth 10000 in
theorem t_Notes_know_53 {g : sw_G} {d n0 : Nat} (hd : 2 ≤ d) {r : Int32 × sw_M} {N : Nat} : ∀ (j : Nat) (a0 : Nat) (a2 : Int32) (M : sw_M), f_Notes_know_53 N j a0 a2 M = some r → sw_F g k_Notes_know d n0 (some (.int r.1)) r.2 53 [(0, .ref a0), (2, .int a2)] [] M := by
  intro j
  induction j with
  | zero =>
    intro a0 a2 M hf
    rw [f_Notes_know_53] at hf
    cases hf
  | succ j ih =>
    intro a0 a2 M hf
    rw [f_Notes_know_53] at hf
    refine sf_blk [(.iload_n 2, 0, 0, .null)] (lv' := [(0, .ref a0), (2, .int a2)]) (st' := [.int a2]) (M1 := M) (ob := []) (pc' := 54) (by decide +kernel) rfl rfl sw_a0 ?_
    refine sf_z_lt (off := 60) (tgt := 114) (by decide +kernel) (by decide) hf (fun hc hf => ?_) (fun hc hf => ?_)
    · refine sf_blk [(.iconst (1), 0, 0, .int (1 : Int32))] (lv' := [(0, .ref a0), (2, .int a2)]) (st' := [.int (1 : Int32)]) (M1 := M) (ob := []) (pc' := 115) (by decide +kernel) rfl rfl sw_a0 ?_
      cases hf
      exact sf_bool rfl rfl (by decide +kernel)
    · obtain ⟨h1, hf⟩ := sw_gd_1 hf
      obtain ⟨h2, hf⟩ := sw_gd_1 hf
      refine sf_blk [(.aload_n 0, 0, 0, .null), (.getfield 24, 3, 4, .null), (.iload_n 2, 0, 0, .null), (.baload, 0, 0, .null)] (lv' := [(0, .ref a0), (2, .int a2)]) (st' := [.int (rd_I M (rd_R M a0 4) a2.toNatClampNeg)]) (M1 := M) (ob := [sw_ok M a0 3, sw_ar M (rd_R M a0 4) 14 a2 || sw_ar M (rd_R M a0 4) 15 a2]) (pc' := 63) (by decide +kernel) rfl rfl (sw_a1 h1 (sw_a1 h2 sw_a0)) ?_
      refine sf_z_eq (off := 45) (tgt := 108) (by decide +kernel) (by decide) hf (fun hc hf => ?_) (fun hc hf => ?_)
      · exact sf_weak [0, 1] rfl (t_Notes_know_108 hd _ ih hf)
      · obtain ⟨h3, hf⟩ := sw_gd_1 hf
        refine sf_blk [(.aload_n 0, 0, 0, .null), (.getfield 9, 3, 0, .null), (.iload_n 2, 0, 0, .null), (.iaload, 0, 0, .null), (.iconst (2), 0, 0, .int (2 : Int32))] (lv' := [(0, .ref a0), (2, .int a2)]) (st' := [.int (2 : Int32), .int (rd_I M (rd_R M a0 0) a2.toNatClampNeg)]) (M1 := M) (ob := [sw_ok M a0 3, sw_ar M (rd_R M a0 0) 13 a2]) (pc' := 73) (by decide +kernel) rfl rfl (sw_a1 h1 (sw_a1 h3 sw_a0)) ?_
        refine sf_j_ne (off := 35) (tgt := 108) (by decide +kernel) (by decide) hf (fun hc hf => ?_) (fun hc hf => ?_)
        · exact sf_weak [0, 1] rfl (t_Notes_know_108 hd _ ih hf)
        · obtain ⟨h4, hf⟩ := sw_gd_1 hf
          refine sf_blk [(.aload_n 0, 0, 0, .null), (.getfield 15, 3, 1, .null), (.iload_n 2, 0, 0, .null), (.iaload, 0, 0, .null)] (lv' := [(0, .ref a0), (2, .int a2)]) (st' := [.int (rd_I M (rd_R M a0 1) a2.toNatClampNeg)]) (M1 := M) (ob := [sw_ok M a0 3, sw_ar M (rd_R M a0 1) 13 a2]) (pc' := 82) (by decide +kernel) rfl rfl (sw_a1 h1 (sw_a1 h4 sw_a0)) ?_
          refine sf_z_lt (off := 26) (tgt := 108) (by decide +kernel) (by decide) hf (fun hc hf => ?_) (fun hc hf => ?_)
          · exact sf_weak [0, 1] rfl (t_Notes_know_108 hd _ ih hf)
          · refine sf_blk [(.aload_n 0, 0, 0, .null), (.getfield 15, 3, 1, .null), (.iload_n 2, 0, 0, .null), (.iaload, 0, 0, .null), (.bipush (10), 0, 0, .int (10 : Int32))] (lv' := [(0, .ref a0), (2, .int a2)]) (st' := [.int (10 : Int32), .int (rd_I M (rd_R M a0 1) a2.toNatClampNeg)]) (M1 := M) (ob := [sw_ok M a0 3, sw_ar M (rd_R M a0 1) 13 a2]) (pc' := 93) (by decide +kernel) rfl rfl (sw_a1 h1 (sw_a1 h4 sw_a0)) ?_
            refine sf_j_ge (off := 15) (tgt := 108) (by decide +kernel) (by decide) hf (fun hc hf => ?_) (fun hc hf => ?_)
            · exact sf_weak [0, 1] rfl (t_Notes_know_108 hd _ ih hf)
            · obtain ⟨h5, hf⟩ := sw_gd_1 hf
              refine sf_blk [(.aload_n 0, 0, 0, .null), (.getfield 24, 3, 4, .null), (.aload_n 0, 0, 0, .null), (.getfield 15, 3, 1, .null), (.iload_n 2, 0, 0, .null), (.iaload, 0, 0, .null), (.iconst (0), 0, 0, .int (0 : Int32)), (.bastore, 0, 0, .null)] (lv' := [(0, .ref a0), (2, .int a2)]) (st' := []) (M1 := (wr_I M (rd_R M a0 4) (rd_I M (rd_R M a0 1) a2.toNatClampNeg).toNatClampNeg (0 : Int32))) (ob := [sw_ok M a0 3, sw_ok M a0 3, sw_ar M (rd_R M a0 1) 13 a2, (sw_ar M (rd_R M a0 4) 14 (rd_I M (rd_R M a0 1) a2.toNatClampNeg) && decide ((0 : Int32).toInt8.toInt32 = (0 : Int32))) || (sw_ar M (rd_R M a0 4) 15 (rd_I M (rd_R M a0 1) a2.toNatClampNeg) && sw_bz (0 : Int32))]) (pc' := 108) (by decide +kernel) rfl rfl (sw_a1 h1 (sw_a1 h1 (sw_a1 h4 (sw_a1 h5 sw_a0)))) ?_
              exact sf_weak [0, 1] rfl (t_Notes_know_108 hd _ ih hf)
def f_Notes_know_37 (N : Nat) (k16 : Nat → Int32 → Int32 → sw_M → Option (Int32 × sw_M)) (a0 : Nat) (a1 : Int32) (a2 : Int32) (b0 : Int32) (b1 : Int32) (b2 : Nat) (M : sw_M) : Option (Int32 × sw_M) :=
  sw_gd [(sw_ar M b2 14 b1 && decide (b0.toInt8.toInt32 = b0)) || (sw_ar M b2 15 b1 && sw_bz b0)] (k16 a0 a1 (a2 + (1 : Int32)) (wr_I M b2 b1.toNatClampNeg b0))
set_option maxRecDepth 10000 in
theorem t_Notes_know_37 {g : sw_G} {d n0 : Nat} (hd : 2 ≤ d) {r : Int32 × sw_M} (k16 : Nat → Int32 → Int32 → sw_M → Option (Int32 × sw_M)) (hk16 : ∀ (a0 : Nat) (a1 : Int32) (a2 : Int32) (M : sw_M), k16 a0 a1 a2 M = some r → sw_F g k_Notes_know d n0 (some (.int r.1)) r.2 16 [(0, .ref a0), (1, .int a1), (2, .int a2)] [] M) {N : Nat} {a0 : Nat} {a1 : Int32} {a2 : Int32} {b0 : Int32} {b1 : Int32} {b2 : Nat} {M : sw_M} (hf : f_Notes_know_37 N k16 a0 a1 a2 b0 b1 b2 M = some r) : sw_F g k_Notes_know d n0 (some (.int r.1)) r.2 37 [(0, .ref a0), (1, .int a1), (2, .int a2)] [.int b0, .int b1, .ref b2] M := by
  unfold f_Notes_know_37 at hf
  obtain ⟨h1, hf⟩ := sw_gd_1 hf
  refine sf_blk [(.bastore, 0, 0, .null), (.iinc 2 (1), 0, 0, .int (1 : Int32))] (lv' := [(2, .int (a2 + (1 : Int32))), (0, .ref a0), (1, .int a1)]) (st' := []) (M1 := (wr_I M b2 b1.toNatClampNeg b0)) (ob := [(sw_ar M b2 14 b1 && decide (b0.toInt8.toInt32 = b0)) || (sw_ar M b2 15 b1 && sw_bz b0)]) (pc' := 41) (by decide +kernel) rfl rfl (sw_a1 h1 sw_a0) ?_
  refine sf_goto (off := -25) (tgt := 16) (by decide +kernel) (by decide) ?_
  exact sf_weak [1, 2, 0] rfl (hk16 _ _ _ _ hf)
def f_Notes_know_16 (N : Nat) : Nat → Nat → Int32 → Int32 → sw_M → Option (Int32 × sw_M)
  | 0, _, _, _, _ => none
  | j + 1, a0, a1, a2, M =>
  if (10 : Int32) ≤ a2 then f_Notes_know_53 N N a0 ((m_minI a1 (10 : Int32)) - (1 : Int32)) M
  else sw_gd [sw_ok M a0 3] (if a1 ≤ a2 then f_Notes_know_37 N (f_Notes_know_16 N j) a0 a1 a2 (0 : Int32) a2 (rd_R M a0 4) M
  else f_Notes_know_37 N (f_Notes_know_16 N j) a0 a1 a2 (1 : Int32) a2 (rd_R M a0 4) M)
set_option maxRecDepth 10000 in
theorem t_Notes_know_16 {g : sw_G} {d n0 : Nat} (hd : 2 ≤ d) {r : Int32 × sw_M} {N : Nat} : ∀ (j : Nat) (a0 : Nat) (a1 : Int32) (a2 : Int32) (M : sw_M), f_Notes_know_16 N j a0 a1 a2 M = some r → sw_F g k_Notes_know d n0 (some (.int r.1)) r.2 16 [(0, .ref a0), (1, .int a1), (2, .int a2)] [] M := by
  intro j
  induction j with
  | zero =>
    intro a0 a1 a2 M hf
    rw [f_Notes_know_16] at hf
    cases hf
  | succ j ih =>
    intro a0 a1 a2 M hf
    rw [f_Notes_know_16] at hf
    refine sf_blk [(.iload_n 2, 0, 0, .null), (.bipush (10), 0, 0, .int (10 : Int32))] (lv' := [(0, .ref a0), (1, .int a1), (2, .int a2)]) (st' := [.int (10 : Int32), .int a2]) (M1 := M) (ob := []) (pc' := 19) (by decide +kernel) rfl rfl sw_a0 ?_
    refine sf_j_ge (off := 25) (tgt := 44) (by decide +kernel) (by decide) hf (fun hc hf => ?_) (fun hc hf => ?_)
    · refine sf_blk [(.iload_n 1, 0, 0, .null), (.bipush (10), 0, 0, .int (10 : Int32))] (lv' := [(0, .ref a0), (1, .int a1), (2, .int a2)]) (st' := [.int (10 : Int32), .int a1]) (M1 := M) (ob := []) (pc' := 47) (by decide +kernel) rfl rfl sw_a0 ?_
      refine sf_minI (i := 32) (st := []) (sw_m5 33 (by decide +kernel)) (by decide +kernel) (by omega) (Nat.le_of_ble_eq_true rfl) ?_
      show sw_F _ _ _ _ _ _ 50 [(0, .ref a0), (1, .int a1), (2, .int a2)] [.int (m_minI a1 (10 : Int32))] M
      refine sf_blk [(.iconst (1), 0, 0, .int (1 : Int32)), (.isub, 0, 0, .null), (.istore_n 2, 0, 0, .null)] (lv' := [(2, .int ((m_minI a1 (10 : Int32)) - (1 : Int32))), (0, .ref a0), (1, .int a1)]) (st' := []) (M1 := M) (ob := []) (pc' := 53) (by decide +kernel) rfl rfl sw_a0 ?_
      exact sf_weak [1, 0] rfl (t_Notes_know_53 hd _ _ _ _ hf)
    · obtain ⟨h1, hf⟩ := sw_gd_1 hf
      refine sf_blk [(.aload_n 0, 0, 0, .null), (.getfield 24, 3, 4, .null), (.iload_n 2, 0, 0, .null), (.iload_n 2, 0, 0, .null), (.iload_n 1, 0, 0, .null)] (lv' := [(0, .ref a0), (1, .int a1), (2, .int a2)]) (st' := [.int a1, .int a2, .int a2, .ref (rd_R M a0 4)]) (M1 := M) (ob := [sw_ok M a0 3]) (pc' := 29) (by decide +kernel) rfl rfl (sw_a1 h1 sw_a0) ?_
      refine sf_j_ge (off := 7) (tgt := 36) (by decide +kernel) (by decide) hf (fun hc hf => ?_) (fun hc hf => ?_)
      · refine sf_blk [(.iconst (0), 0, 0, .int (0 : Int32))] (lv' := [(0, .ref a0), (1, .int a1), (2, .int a2)]) (st' := [.int (0 : Int32), .int a2, .ref (rd_R M a0 4)]) (M1 := M) (ob := []) (pc' := 37) (by decide +kernel) rfl rfl sw_a0 ?_
        exact sf_weak [0, 1, 2] rfl (t_Notes_know_37 hd _ ih hf)
      · refine sf_blk [(.iconst (1), 0, 0, .int (1 : Int32))] (lv' := [(0, .ref a0), (1, .int a1), (2, .int a2)]) (st' := [.int (1 : Int32), .int a2, .ref (rd_R M a0 4)]) (M1 := M) (ob := []) (pc' := 33) (by decide +kernel) rfl rfl sw_a0 ?_
        refine sf_goto (off := 4) (tgt := 37) (by decide +kernel) (by decide) ?_
        exact sf_weak [0, 1, 2] rfl (t_Notes_know_37 hd _ ih hf)
def f_Notes_know (N : Nat) (a0 : Nat) (a1 : Int32) (M : sw_M) : Option (Int32 × sw_M) :=
  if a1 < 0 then some ((0 : Int32), M)
  else sw_gd [sw_ok M a0 3] (if a1 ≤ (rd_I M a0 5) then f_Notes_know_16 N N a0 a1 (0 : Int32) M
  else some ((0 : Int32), M))
set_option maxRecDepth 10000 in
theorem t_Notes_know {g : sw_G} {d n0 : Nat} (hd : 2 ≤ d) {r : Int32 × sw_M} {N : Nat} {a0 : Nat} {a1 : Int32} {M : sw_M} (hf : f_Notes_know N a0 a1 M = some r) : sw_F g k_Notes_know d n0 (some (.int r.1)) r.2 0 [(0, .ref a0), (1, .int a1)] [] M := by
  unfold f_Notes_know at hf
  refine sf_blk [(.iload_n 1, 0, 0, .null)] (lv' := [(0, .ref a0), (1, .int a1)]) (st' := [.int a1]) (M1 := M) (ob := []) (pc' := 1) (by decide +kernel) rfl rfl sw_a0 ?_
  refine sf_z_lt (off := 11) (tgt := 12) (by decide +kernel) (by decide) hf (fun hc hf => ?_) (fun hc hf => ?_)
  · refine sf_blk [(.iconst (0), 0, 0, .int (0 : Int32))] (lv' := [(0, .ref a0), (1, .int a1)]) (st' := [.int (0 : Int32)]) (M1 := M) (ob := []) (pc' := 13) (by decide +kernel) rfl rfl sw_a0 ?_
    cases hf
    exact sf_bool rfl rfl (by decide +kernel)
  · obtain ⟨h1, hf⟩ := sw_gd_1 hf
    refine sf_blk [(.iload_n 1, 0, 0, .null), (.aload_n 0, 0, 0, .null), (.getfield 28, 3, 5, .null)] (lv' := [(0, .ref a0), (1, .int a1)]) (st' := [.int (rd_I M a0 5), .int a1]) (M1 := M) (ob := [sw_ok M a0 3]) (pc' := 9) (by decide +kernel) rfl rfl (sw_a1 h1 sw_a0) ?_
    refine sf_j_le (off := 5) (tgt := 14) (by decide +kernel) (by decide) hf (fun hc hf => ?_) (fun hc hf => ?_)
    · refine sf_blk [(.iconst (0), 0, 0, .int (0 : Int32)), (.istore_n 2, 0, 0, .null)] (lv' := [(2, .int (0 : Int32)), (0, .ref a0), (1, .int a1)]) (st' := []) (M1 := M) (ob := []) (pc' := 16) (by decide +kernel) rfl rfl sw_a0 ?_
      exact sf_weak [1, 2, 0] rfl (t_Notes_know_16 hd _ _ _ _ _ hf)
    · refine sf_blk [(.iconst (0), 0, 0, .int (0 : Int32))] (lv' := [(0, .ref a0), (1, .int a1)]) (st' := [.int (0 : Int32)]) (M1 := M) (ob := []) (pc' := 13) (by decide +kernel) rfl rfl sw_a0 ?_
      cases hf
      exact sf_bool rfl rfl (by decide +kernel)
theorem o_Notes_know (g : sw_G) {d : Nat} (hd : 2 ≤ d) {N : Nat} {a0 : Nat} {a1 : Int32} {M : sw_M} {r : Int32 × sw_M} (hf : f_Notes_know N a0 a1 M = some r) : sw_Ok g k_Notes_know d [.ref a0, .int a1] M (some (.int r.1)) r.2 := sf_met (by decide +kernel) rfl (by decide) (Nat.le_of_ble_eq_true rfl) (t_Notes_know hd hf)
def f_Notes_isSight (N : Nat) (a0 : Nat) (a1 : Int32) (M : sw_M) : Option (Int32 × sw_M) :=
  if a1 < 0 then some ((0 : Int32), M)
  else if (10 : Int32) ≤ a1 then some ((0 : Int32), M)
  else sw_gd [sw_ok M a0 3] (sw_gd [sw_ar M (rd_R M a0 4) 14 a1 || sw_ar M (rd_R M a0 4) 15 a1] (if (rd_I M (rd_R M a0 4) a1.toNatClampNeg) = 0 then some ((0 : Int32), M)
  else sw_gd [sw_ar M (rd_R M a0 0) 13 a1] (if (rd_I M (rd_R M a0 0) a1.toNatClampNeg) = (2 : Int32) then some ((0 : Int32), M)
  else some ((1 : Int32), M))))
set_option maxRecDepth 10000 in
theorem t_Notes_isSight {g : sw_G} {d n0 : Nat} (hd : 1 ≤ d) {r : Int32 × sw_M} {N : Nat} {a0 : Nat} {a1 : Int32} {M : sw_M} (hf : f_Notes_isSight N a0 a1 M = some r) : sw_F g k_Notes_isSight d n0 (some (.int r.1)) r.2 0 [(0, .ref a0), (1, .int a1)] [] M := by
  unfold f_Notes_isSight at hf
  refine sf_blk [(.iload_n 1, 0, 0, .null)] (lv' := [(0, .ref a0), (1, .int a1)]) (st' := [.int a1]) (M1 := M) (ob := []) (pc' := 1) (by decide +kernel) rfl rfl sw_a0 ?_
  refine sf_z_lt (off := 32) (tgt := 33) (by decide +kernel) (by decide) hf (fun hc hf => ?_) (fun hc hf => ?_)
  · refine sf_blk [(.iconst (0), 0, 0, .int (0 : Int32))] (lv' := [(0, .ref a0), (1, .int a1)]) (st' := [.int (0 : Int32)]) (M1 := M) (ob := []) (pc' := 34) (by decide +kernel) rfl rfl sw_a0 ?_
    cases hf
    exact sf_bool rfl rfl (by decide +kernel)
  · refine sf_blk [(.iload_n 1, 0, 0, .null), (.bipush (10), 0, 0, .int (10 : Int32))] (lv' := [(0, .ref a0), (1, .int a1)]) (st' := [.int (10 : Int32), .int a1]) (M1 := M) (ob := []) (pc' := 7) (by decide +kernel) rfl rfl sw_a0 ?_
    refine sf_j_ge (off := 26) (tgt := 33) (by decide +kernel) (by decide) hf (fun hc hf => ?_) (fun hc hf => ?_)
    · refine sf_blk [(.iconst (0), 0, 0, .int (0 : Int32))] (lv' := [(0, .ref a0), (1, .int a1)]) (st' := [.int (0 : Int32)]) (M1 := M) (ob := []) (pc' := 34) (by decide +kernel) rfl rfl sw_a0 ?_
      cases hf
      exact sf_bool rfl rfl (by decide +kernel)
    · obtain ⟨h1, hf⟩ := sw_gd_1 hf
      obtain ⟨h2, hf⟩ := sw_gd_1 hf
      refine sf_blk [(.aload_n 0, 0, 0, .null), (.getfield 24, 3, 4, .null), (.iload_n 1, 0, 0, .null), (.baload, 0, 0, .null)] (lv' := [(0, .ref a0), (1, .int a1)]) (st' := [.int (rd_I M (rd_R M a0 4) a1.toNatClampNeg)]) (M1 := M) (ob := [sw_ok M a0 3, sw_ar M (rd_R M a0 4) 14 a1 || sw_ar M (rd_R M a0 4) 15 a1]) (pc' := 16) (by decide +kernel) rfl rfl (sw_a1 h1 (sw_a1 h2 sw_a0)) ?_
      refine sf_z_eq (off := 17) (tgt := 33) (by decide +kernel) (by decide) hf (fun hc hf => ?_) (fun hc hf => ?_)
      · refine sf_blk [(.iconst (0), 0, 0, .int (0 : Int32))] (lv' := [(0, .ref a0), (1, .int a1)]) (st' := [.int (0 : Int32)]) (M1 := M) (ob := []) (pc' := 34) (by decide +kernel) rfl rfl sw_a0 ?_
        cases hf
        exact sf_bool rfl rfl (by decide +kernel)
      · obtain ⟨h3, hf⟩ := sw_gd_1 hf
        refine sf_blk [(.aload_n 0, 0, 0, .null), (.getfield 9, 3, 0, .null), (.iload_n 1, 0, 0, .null), (.iaload, 0, 0, .null), (.iconst (2), 0, 0, .int (2 : Int32))] (lv' := [(0, .ref a0), (1, .int a1)]) (st' := [.int (2 : Int32), .int (rd_I M (rd_R M a0 0) a1.toNatClampNeg)]) (M1 := M) (ob := [sw_ok M a0 3, sw_ar M (rd_R M a0 0) 13 a1]) (pc' := 26) (by decide +kernel) rfl rfl (sw_a1 h1 (sw_a1 h3 sw_a0)) ?_
        refine sf_j_eq (off := 7) (tgt := 33) (by decide +kernel) (by decide) hf (fun hc hf => ?_) (fun hc hf => ?_)
        · refine sf_blk [(.iconst (0), 0, 0, .int (0 : Int32))] (lv' := [(0, .ref a0), (1, .int a1)]) (st' := [.int (0 : Int32)]) (M1 := M) (ob := []) (pc' := 34) (by decide +kernel) rfl rfl sw_a0 ?_
          cases hf
          exact sf_bool rfl rfl (by decide +kernel)
        · refine sf_blk [(.iconst (1), 0, 0, .int (1 : Int32))] (lv' := [(0, .ref a0), (1, .int a1)]) (st' := [.int (1 : Int32)]) (M1 := M) (ob := []) (pc' := 30) (by decide +kernel) rfl rfl sw_a0 ?_
          refine sf_goto (off := 4) (tgt := 34) (by decide +kernel) (by decide) ?_
          cases hf
          exact sf_bool rfl rfl (by decide +kernel)
theorem o_Notes_isSight (g : sw_G) {d : Nat} (hd : 1 ≤ d) {N : Nat} {a0 : Nat} {a1 : Int32} {M : sw_M} {r : Int32 × sw_M} (hf : f_Notes_isSight N a0 a1 M = some r) : sw_Ok g k_Notes_isSight d [.ref a0, .int a1] M (some (.int r.1)) r.2 := sf_met (by decide +kernel) rfl (by decide) (Nat.le_of_ble_eq_true rfl) (t_Notes_isSight hd hf)
def f_Fits_gather_72 (N : Nat) (k2 : Nat → Nat → Int32 → Int32 → sw_M → Option (sw_M)) (a0 : Nat) (a1 : Nat) (a2 : Int32) (a3 : Int32) (M : sw_M) : Option (sw_M) :=
  k2 a0 a1 a2 (a3 + (1 : Int32)) M
set_option maxRecDepth 10000 in
theorem t_Fits_gather_72 {g : sw_G} {d n0 : Nat} (hd : 2 ≤ d) {r : sw_M} (k2 : Nat → Nat → Int32 → Int32 → sw_M → Option (sw_M)) (hk2 : ∀ (a0 : Nat) (a1 : Nat) (a2 : Int32) (a3 : Int32) (M : sw_M), k2 a0 a1 a2 a3 M = some r → sw_F g k_Fits_gather d n0 none r 2 [(0, .ref a0), (1, .ref a1), (2, .int a2), (3, .int a3)] [] M) {N : Nat} {a0 : Nat} {a1 : Nat} {a2 : Int32} {a3 : Int32} {M : sw_M} (hf : f_Fits_gather_72 N k2 a0 a1 a2 a3 M = some r) : sw_F g k_Fits_gather d n0 none r 72 [(0, .ref a0), (1, .ref a1), (2, .int a2), (3, .int a3)] [] M := by
  unfold f_Fits_gather_72 at hf
  refine sf_blk [(.iinc 3 (1), 0, 0, .int (1 : Int32))] (lv' := [(3, .int (a3 + (1 : Int32))), (0, .ref a0), (1, .ref a1), (2, .int a2)]) (st' := []) (M1 := M) (ob := []) (pc' := 75) (by decide +kernel) rfl rfl sw_a0 ?_
  refine sf_goto (off := -73) (tgt := 2) (by decide +kernel) (by decide) ?_
  exact sf_weak [1, 2, 3, 0] rfl (hk2 _ _ _ _ _ hf)
def f_Fits_gather_2 (N : Nat) : Nat → Nat → Nat → Int32 → Int32 → sw_M → Option (sw_M)
  | 0, _, _, _, _, _ => none
  | j + 1, a0, a1, a2, a3, M =>
  if (10 : Int32) ≤ a3 then some M
  else sw_gd [sw_ok M a0 1] (sw_gd [sw_ok M (rd_R M a0 1) 3] (sw_gd [sw_ar M (rd_R M (rd_R M a0 1) 1) 13 a3] ((f_Notes_isSight N (rd_R M a0 1) a3 M).bind (fun u4 => if u4.1 = 0 then f_Fits_gather_72 N (f_Fits_gather_2 N j) a0 a1 a2 a3 u4.2
  else if (rd_I M (rd_R M (rd_R M a0 1) 1) a3.toNatClampNeg) < 0 then f_Fits_gather_72 N (f_Fits_gather_2 N j) a0 a1 a2 a3 u4.2
  else if (64 : Int32) ≤ (rd_I M (rd_R M (rd_R M a0 1) 1) a3.toNatClampNeg) then f_Fits_gather_72 N (f_Fits_gather_2 N j) a0 a1 a2 a3 u4.2
  else sw_gd [sw_ok u4.2 a0 1] (sw_gd [sw_ar u4.2 (rd_R u4.2 a0 5) 17 a3 || (sw_ar u4.2 (rd_R u4.2 a0 5) 18 a3 || sw_ar u4.2 (rd_R u4.2 a0 5) 19 a3)] (sw_gd [sw_ok u4.2 a1 4] (sw_gd [sw_ar u4.2 (rd_R u4.2 a1 15) 13 (rd_I M (rd_R M (rd_R M a0 1) 1) a3.toNatClampNeg)] (sw_gd [sw_ar u4.2 (rd_R u4.2 (rd_R u4.2 a0 5) a3.toNatClampNeg) 13 a2] (sw_gd [sw_ar (wr_I u4.2 (rd_R u4.2 (rd_R u4.2 a0 5) a3.toNatClampNeg) a2.toNatClampNeg (rd_I u4.2 (rd_R u4.2 a1 15) (rd_I M (rd_R M (rd_R M a0 1) 1) a3.toNatClampNeg).toNatClampNeg)) (rd_R (wr_I u4.2 (rd_R u4.2 (rd_R u4.2 a0 5) a3.toNatClampNeg) a2.toNatClampNeg (rd_I u4.2 (rd_R u4.2 a1 15) (rd_I M (rd_R M (rd_R M a0 1) 1) a3.toNatClampNeg).toNatClampNeg)) a0 6) 17 a3 || (sw_ar (wr_I u4.2 (rd_R u4.2 (rd_R u4.2 a0 5) a3.toNatClampNeg) a2.toNatClampNeg (rd_I u4.2 (rd_R u4.2 a1 15) (rd_I M (rd_R M (rd_R M a0 1) 1) a3.toNatClampNeg).toNatClampNeg)) (rd_R (wr_I u4.2 (rd_R u4.2 (rd_R u4.2 a0 5) a3.toNatClampNeg) a2.toNatClampNeg (rd_I u4.2 (rd_R u4.2 a1 15) (rd_I M (rd_R M (rd_R M a0 1) 1) a3.toNatClampNeg).toNatClampNeg)) a0 6) 18 a3 || sw_ar (wr_I u4.2 (rd_R u4.2 (rd_R u4.2 a0 5) a3.toNatClampNeg) a2.toNatClampNeg (rd_I u4.2 (rd_R u4.2 a1 15) (rd_I M (rd_R M (rd_R M a0 1) 1) a3.toNatClampNeg).toNatClampNeg)) (rd_R (wr_I u4.2 (rd_R u4.2 (rd_R u4.2 a0 5) a3.toNatClampNeg) a2.toNatClampNeg (rd_I u4.2 (rd_R u4.2 a1 15) (rd_I M (rd_R M (rd_R M a0 1) 1) a3.toNatClampNeg).toNatClampNeg)) a0 6) 19 a3)] (sw_gd [sw_ar (wr_I u4.2 (rd_R u4.2 (rd_R u4.2 a0 5) a3.toNatClampNeg) a2.toNatClampNeg (rd_I u4.2 (rd_R u4.2 a1 15) (rd_I M (rd_R M (rd_R M a0 1) 1) a3.toNatClampNeg).toNatClampNeg)) (rd_R (wr_I u4.2 (rd_R u4.2 (rd_R u4.2 a0 5) a3.toNatClampNeg) a2.toNatClampNeg (rd_I u4.2 (rd_R u4.2 a1 15) (rd_I M (rd_R M (rd_R M a0 1) 1) a3.toNatClampNeg).toNatClampNeg)) a1 16) 13 (rd_I M (rd_R M (rd_R M a0 1) 1) a3.toNatClampNeg)] (sw_gd [sw_ar (wr_I u4.2 (rd_R u4.2 (rd_R u4.2 a0 5) a3.toNatClampNeg) a2.toNatClampNeg (rd_I u4.2 (rd_R u4.2 a1 15) (rd_I M (rd_R M (rd_R M a0 1) 1) a3.toNatClampNeg).toNatClampNeg)) (rd_R (wr_I u4.2 (rd_R u4.2 (rd_R u4.2 a0 5) a3.toNatClampNeg) a2.toNatClampNeg (rd_I u4.2 (rd_R u4.2 a1 15) (rd_I M (rd_R M (rd_R M a0 1) 1) a3.toNatClampNeg).toNatClampNeg)) (rd_R (wr_I u4.2 (rd_R u4.2 (rd_R u4.2 a0 5) a3.toNatClampNeg) a2.toNatClampNeg (rd_I u4.2 (rd_R u4.2 a1 15) (rd_I M (rd_R M (rd_R M a0 1) 1) a3.toNatClampNeg).toNatClampNeg)) a0 6) a3.toNatClampNeg) 13 a2] (f_Fits_gather_72 N (f_Fits_gather_2 N j) a0 a1 a2 a3 (wr_I (wr_I u4.2 (rd_R u4.2 (rd_R u4.2 a0 5) a3.toNatClampNeg) a2.toNatClampNeg (rd_I u4.2 (rd_R u4.2 a1 15) (rd_I M (rd_R M (rd_R M a0 1) 1) a3.toNatClampNeg).toNatClampNeg)) (rd_R (wr_I u4.2 (rd_R u4.2 (rd_R u4.2 a0 5) a3.toNatClampNeg) a2.toNatClampNeg (rd_I u4.2 (rd_R u4.2 a1 15) (rd_I M (rd_R M (rd_R M a0 1) 1) a3.toNatClampNeg).toNatClampNeg)) (rd_R (wr_I u4.2 (rd_R u4.2 (rd_R u4.2 a0 5) a3.toNatClampNeg) a2.toNatClampNeg (rd_I u4.2 (rd_R u4.2 a1 15) (rd_I M (rd_R M (rd_R M a0 1) 1) a3.toNatClampNeg).toNatClampNeg)) a0 6) a3.toNatClampNeg) a2.toNatClampNeg (rd_I (wr_I u4.2 (rd_R u4.2 (rd_R u4.2 a0 5) a3.toNatClampNeg) a2.toNatClampNeg (rd_I u4.2 (rd_R u4.2 a1 15) (rd_I M (rd_R M (rd_R M a0 1) 1) a3.toNatClampNeg).toNatClampNeg)) (rd_R (wr_I u4.2 (rd_R u4.2 (rd_R u4.2 a0 5) a3.toNatClampNeg) a2.toNatClampNeg (rd_I u4.2 (rd_R u4.2 a1 15) (rd_I M (rd_R M (rd_R M a0 1) 1) a3.toNatClampNeg).toNatClampNeg)) a1 16) (rd_I M (rd_R M (rd_R M a0 1) 1) a3.toNatClampNeg).toNatClampNeg))))))))))))))
set_option maxRecDepth 10000 in
theorem t_Fits_gather_2 {g : sw_G} {d n0 : Nat} (hd : 2 ≤ d) {r : sw_M} {N : Nat} : ∀ (j : Nat) (a0 : Nat) (a1 : Nat) (a2 : Int32) (a3 : Int32) (M : sw_M), f_Fits_gather_2 N j a0 a1 a2 a3 M = some r → sw_F g k_Fits_gather d n0 none r 2 [(0, .ref a0), (1, .ref a1), (2, .int a2), (3, .int a3)] [] M := by
  intro j
  induction j with
  | zero =>
    intro a0 a1 a2 a3 M hf
    rw [f_Fits_gather_2] at hf
    cases hf
  | succ j ih =>
    intro a0 a1 a2 a3 M hf
    rw [f_Fits_gather_2] at hf
    refine sf_blk [(.iload_n 3, 0, 0, .null), (.bipush (10), 0, 0, .int (10 : Int32))] (lv' := [(0, .ref a0), (1, .ref a1), (2, .int a2), (3, .int a3)]) (st' := [.int (10 : Int32), .int a3]) (M1 := M) (ob := []) (pc' := 5) (by decide +kernel) rfl rfl sw_a0 ?_
    refine sf_j_ge (off := 73) (tgt := 78) (by decide +kernel) (by decide) hf (fun hc hf => ?_) (fun hc hf => ?_)
    · cases hf
      exact sf_void rfl (by decide +kernel)
    · obtain ⟨h1, hf⟩ := sw_gd_1 hf
      obtain ⟨h2, hf⟩ := sw_gd_1 hf
      obtain ⟨h3, hf⟩ := sw_gd_1 hf
      refine sf_blk [(.aload_n 0, 0, 0, .null), (.getfield 38, 1, 1, .null), (.getfield 90, 3, 1, .null), (.iload_n 3, 0, 0, .null), (.iaload, 0, 0, .null), (.istore 4, 0, 0, .null), (.aload_n 0, 0, 0, .null), (.getfield 38, 1, 1, .null), (.iload_n 3, 0, 0, .null)] (lv' := [(4, .int (rd_I M (rd_R M (rd_R M a0 1) 1) a3.toNatClampNeg)), (0, .ref a0), (1, .ref a1), (2, .int a2), (3, .int a3)]) (st' := [.int a3, .ref (rd_R M a0 1)]) (M1 := M) (ob := [sw_ok M a0 1, sw_ok M (rd_R M a0 1) 3, sw_ar M (rd_R M (rd_R M a0 1) 1) 13 a3, sw_ok M a0 1]) (pc' := 24) (by decide +kernel) rfl rfl (sw_a1 h1 (sw_a1 h2 (sw_a1 h3 (sw_a1 h1 sw_a0)))) ?_
      obtain ⟨u4, hu4, hf⟩ := sw_bnd hf
      refine sf_callV (i := 95) (k2 := k_Notes_isSight) (d2 := d - 1) (As := [.int a3]) (st := []) (q := (rd_R M a0 1)) (ci := 3) mf_Notes_isSight mi_Notes_isSight ms_Notes_isSight (sw_m5 49 (by decide +kernel)) rfl (by decide) (by decide +kernel) rfl (Nat.le_of_ble_eq_true rfl) (by omega) h2 (o_Notes_isSight g (d := d - 1) (by omega) hu4) ?_
      show sw_F _ _ _ _ _ _ 27 [(4, .int (rd_I M (rd_R M (rd_R M a0 1) 1) a3.toNatClampNeg)), (0, .ref a0), (1, .ref a1), (2, .int a2), (3, .int a3)] [.int u4.1] u4.2
      refine sf_z_eq (off := 45) (tgt := 72) (by decide +kernel) (by decide) hf (fun hc hf => ?_) (fun hc hf => ?_)
      · exact sf_weak [1, 2, 3, 4] rfl (t_Fits_gather_72 hd _ ih hf)
      · refine sf_blk [(.iload 4, 0, 0, .null)] (lv' := [(4, .int (rd_I M (rd_R M (rd_R M a0 1) 1) a3.toNatClampNeg)), (0, .ref a0), (1, .ref a1), (2, .int a2), (3, .int a3)]) (st' := [.int (rd_I M (rd_R M (rd_R M a0 1) 1) a3.toNatClampNeg)]) (M1 := u4.2) (ob := []) (pc' := 32) (by decide +kernel) rfl rfl sw_a0 ?_
        refine sf_z_lt (off := 40) (tgt := 72) (by decide +kernel) (by decide) hf (fun hc hf => ?_) (fun hc hf => ?_)
        · exact sf_weak [1, 2, 3, 4] rfl (t_Fits_gather_72 hd _ ih hf)
        · refine sf_blk [(.iload 4, 0, 0, .null), (.bipush (64), 0, 0, .int (64 : Int32))] (lv' := [(4, .int (rd_I M (rd_R M (rd_R M a0 1) 1) a3.toNatClampNeg)), (0, .ref a0), (1, .ref a1), (2, .int a2), (3, .int a3)]) (st' := [.int (64 : Int32), .int (rd_I M (rd_R M (rd_R M a0 1) 1) a3.toNatClampNeg)]) (M1 := u4.2) (ob := []) (pc' := 39) (by decide +kernel) rfl rfl sw_a0 ?_
          refine sf_j_ge (off := 33) (tgt := 72) (by decide +kernel) (by decide) hf (fun hc hf => ?_) (fun hc hf => ?_)
          · exact sf_weak [1, 2, 3, 4] rfl (t_Fits_gather_72 hd _ ih hf)
          · obtain ⟨h5, hf⟩ := sw_gd_1 hf
            obtain ⟨h6, hf⟩ := sw_gd_1 hf
            obtain ⟨h7, hf⟩ := sw_gd_1 hf
            obtain ⟨h8, hf⟩ := sw_gd_1 hf
            obtain ⟨h9, hf⟩ := sw_gd_1 hf
            obtain ⟨h10, hf⟩ := sw_gd_1 hf
            obtain ⟨h11, hf⟩ := sw_gd_1 hf
            obtain ⟨h12, hf⟩ := sw_gd_1 hf
            refine sf_blk [(.aload_n 0, 0, 0, .null), (.getfield 20, 1, 5, .null), (.iload_n 3, 0, 0, .null), (.aaload, 0, 0, .null), (.iload_n 2, 0, 0, .null), (.aload_n 1, 0, 0, .null), (.getfield 69, 4, 15, .null), (.iload 4, 0, 0, .null), (.iaload, 0, 0, .null), (.iastore, 0, 0, .null), (.aload_n 0, 0, 0, .null), (.getfield 23, 1, 6, .null), (.iload_n 3, 0, 0, .null), (.aaload, 0, 0, .null), (.iload_n 2, 0, 0, .null), (.aload_n 1, 0, 0, .null), (.getfield 99, 4, 16, .null), (.iload 4, 0, 0, .null), (.iaload, 0, 0, .null), (.iastore, 0, 0, .null)] (lv' := [(4, .int (rd_I M (rd_R M (rd_R M a0 1) 1) a3.toNatClampNeg)), (0, .ref a0), (1, .ref a1), (2, .int a2), (3, .int a3)]) (st' := []) (M1 := (wr_I (wr_I u4.2 (rd_R u4.2 (rd_R u4.2 a0 5) a3.toNatClampNeg) a2.toNatClampNeg (rd_I u4.2 (rd_R u4.2 a1 15) (rd_I M (rd_R M (rd_R M a0 1) 1) a3.toNatClampNeg).toNatClampNeg)) (rd_R (wr_I u4.2 (rd_R u4.2 (rd_R u4.2 a0 5) a3.toNatClampNeg) a2.toNatClampNeg (rd_I u4.2 (rd_R u4.2 a1 15) (rd_I M (rd_R M (rd_R M a0 1) 1) a3.toNatClampNeg).toNatClampNeg)) (rd_R (wr_I u4.2 (rd_R u4.2 (rd_R u4.2 a0 5) a3.toNatClampNeg) a2.toNatClampNeg (rd_I u4.2 (rd_R u4.2 a1 15) (rd_I M (rd_R M (rd_R M a0 1) 1) a3.toNatClampNeg).toNatClampNeg)) a0 6) a3.toNatClampNeg) a2.toNatClampNeg (rd_I (wr_I u4.2 (rd_R u4.2 (rd_R u4.2 a0 5) a3.toNatClampNeg) a2.toNatClampNeg (rd_I u4.2 (rd_R u4.2 a1 15) (rd_I M (rd_R M (rd_R M a0 1) 1) a3.toNatClampNeg).toNatClampNeg)) (rd_R (wr_I u4.2 (rd_R u4.2 (rd_R u4.2 a0 5) a3.toNatClampNeg) a2.toNatClampNeg (rd_I u4.2 (rd_R u4.2 a1 15) (rd_I M (rd_R M (rd_R M a0 1) 1) a3.toNatClampNeg).toNatClampNeg)) a1 16) (rd_I M (rd_R M (rd_R M a0 1) 1) a3.toNatClampNeg).toNatClampNeg))) (ob := [sw_ok u4.2 a0 1, sw_ar u4.2 (rd_R u4.2 a0 5) 17 a3 || (sw_ar u4.2 (rd_R u4.2 a0 5) 18 a3 || sw_ar u4.2 (rd_R u4.2 a0 5) 19 a3), sw_ok u4.2 a1 4, sw_ar u4.2 (rd_R u4.2 a1 15) 13 (rd_I M (rd_R M (rd_R M a0 1) 1) a3.toNatClampNeg), sw_ar u4.2 (rd_R u4.2 (rd_R u4.2 a0 5) a3.toNatClampNeg) 13 a2, sw_ok (wr_I u4.2 (rd_R u4.2 (rd_R u4.2 a0 5) a3.toNatClampNeg) a2.toNatClampNeg (rd_I u4.2 (rd_R u4.2 a1 15) (rd_I M (rd_R M (rd_R M a0 1) 1) a3.toNatClampNeg).toNatClampNeg)) a0 1, sw_ar (wr_I u4.2 (rd_R u4.2 (rd_R u4.2 a0 5) a3.toNatClampNeg) a2.toNatClampNeg (rd_I u4.2 (rd_R u4.2 a1 15) (rd_I M (rd_R M (rd_R M a0 1) 1) a3.toNatClampNeg).toNatClampNeg)) (rd_R (wr_I u4.2 (rd_R u4.2 (rd_R u4.2 a0 5) a3.toNatClampNeg) a2.toNatClampNeg (rd_I u4.2 (rd_R u4.2 a1 15) (rd_I M (rd_R M (rd_R M a0 1) 1) a3.toNatClampNeg).toNatClampNeg)) a0 6) 17 a3 || (sw_ar (wr_I u4.2 (rd_R u4.2 (rd_R u4.2 a0 5) a3.toNatClampNeg) a2.toNatClampNeg (rd_I u4.2 (rd_R u4.2 a1 15) (rd_I M (rd_R M (rd_R M a0 1) 1) a3.toNatClampNeg).toNatClampNeg)) (rd_R (wr_I u4.2 (rd_R u4.2 (rd_R u4.2 a0 5) a3.toNatClampNeg) a2.toNatClampNeg (rd_I u4.2 (rd_R u4.2 a1 15) (rd_I M (rd_R M (rd_R M a0 1) 1) a3.toNatClampNeg).toNatClampNeg)) a0 6) 18 a3 || sw_ar (wr_I u4.2 (rd_R u4.2 (rd_R u4.2 a0 5) a3.toNatClampNeg) a2.toNatClampNeg (rd_I u4.2 (rd_R u4.2 a1 15) (rd_I M (rd_R M (rd_R M a0 1) 1) a3.toNatClampNeg).toNatClampNeg)) (rd_R (wr_I u4.2 (rd_R u4.2 (rd_R u4.2 a0 5) a3.toNatClampNeg) a2.toNatClampNeg (rd_I u4.2 (rd_R u4.2 a1 15) (rd_I M (rd_R M (rd_R M a0 1) 1) a3.toNatClampNeg).toNatClampNeg)) a0 6) 19 a3), sw_ok (wr_I u4.2 (rd_R u4.2 (rd_R u4.2 a0 5) a3.toNatClampNeg) a2.toNatClampNeg (rd_I u4.2 (rd_R u4.2 a1 15) (rd_I M (rd_R M (rd_R M a0 1) 1) a3.toNatClampNeg).toNatClampNeg)) a1 4, sw_ar (wr_I u4.2 (rd_R u4.2 (rd_R u4.2 a0 5) a3.toNatClampNeg) a2.toNatClampNeg (rd_I u4.2 (rd_R u4.2 a1 15) (rd_I M (rd_R M (rd_R M a0 1) 1) a3.toNatClampNeg).toNatClampNeg)) (rd_R (wr_I u4.2 (rd_R u4.2 (rd_R u4.2 a0 5) a3.toNatClampNeg) a2.toNatClampNeg (rd_I u4.2 (rd_R u4.2 a1 15) (rd_I M (rd_R M (rd_R M a0 1) 1) a3.toNatClampNeg).toNatClampNeg)) a1 16) 13 (rd_I M (rd_R M (rd_R M a0 1) 1) a3.toNatClampNeg), sw_ar (wr_I u4.2 (rd_R u4.2 (rd_R u4.2 a0 5) a3.toNatClampNeg) a2.toNatClampNeg (rd_I u4.2 (rd_R u4.2 a1 15) (rd_I M (rd_R M (rd_R M a0 1) 1) a3.toNatClampNeg).toNatClampNeg)) (rd_R (wr_I u4.2 (rd_R u4.2 (rd_R u4.2 a0 5) a3.toNatClampNeg) a2.toNatClampNeg (rd_I u4.2 (rd_R u4.2 a1 15) (rd_I M (rd_R M (rd_R M a0 1) 1) a3.toNatClampNeg).toNatClampNeg)) (rd_R (wr_I u4.2 (rd_R u4.2 (rd_R u4.2 a0 5) a3.toNatClampNeg) a2.toNatClampNeg (rd_I u4.2 (rd_R u4.2 a1 15) (rd_I M (rd_R M (rd_R M a0 1) 1) a3.toNatClampNeg).toNatClampNeg)) a0 6) a3.toNatClampNeg) 13 a2]) (pc' := 72) (by decide +kernel) rfl rfl (sw_a1 h5 (sw_a1 h6 (sw_a1 h7 (sw_a1 h8 (sw_a1 h9 (sw_a1 h5 (sw_a1 h10 (sw_a1 h7 (sw_a1 h11 (sw_a1 h12 sw_a0)))))))))) ?_
            exact sf_weak [1, 2, 3, 4] rfl (t_Fits_gather_72 hd _ ih hf)
def f_Fits_gather (N : Nat) (a0 : Nat) (a1 : Nat) (a2 : Int32) (M : sw_M) : Option (sw_M) :=
  f_Fits_gather_2 N N a0 a1 a2 (0 : Int32) M
set_option maxRecDepth 10000 in
theorem t_Fits_gather {g : sw_G} {d n0 : Nat} (hd : 2 ≤ d) {r : sw_M} {N : Nat} {a0 : Nat} {a1 : Nat} {a2 : Int32} {M : sw_M} (hf : f_Fits_gather N a0 a1 a2 M = some r) : sw_F g k_Fits_gather d n0 none r 0 [(0, .ref a0), (1, .ref a1), (2, .int a2)] [] M := by
  unfold f_Fits_gather at hf
  refine sf_blk [(.iconst (0), 0, 0, .int (0 : Int32)), (.istore_n 3, 0, 0, .null)] (lv' := [(3, .int (0 : Int32)), (0, .ref a0), (1, .ref a1), (2, .int a2)]) (st' := []) (M1 := M) (ob := []) (pc' := 2) (by decide +kernel) rfl rfl sw_a0 ?_
  exact sf_weak [1, 2, 3, 0] rfl (t_Fits_gather_2 hd _ _ _ _ _ _ hf)
theorem o_Fits_gather (g : sw_G) {d : Nat} (hd : 2 ≤ d) {N : Nat} {a0 : Nat} {a1 : Nat} {a2 : Int32} {M : sw_M} {r : sw_M} (hf : f_Fits_gather N a0 a1 a2 M = some r) : sw_Ok g k_Fits_gather d [.ref a0, .ref a1, .int a2] M none r := sf_met (by decide +kernel) rfl (by decide) (Nat.le_of_ble_eq_true rfl) (t_Fits_gather hd hf)
def f_Fits_begin_84 (N : Nat) (a0 : Nat) (M : sw_M) : Option (Int32 × sw_M) :=
  sw_gd [sw_ok M a0 1] (if (1 : Int32) ≤ (rd_I M a0 4) then sw_gd [sw_ar M (rd_R M a0 3) 13 (0 : Int32)] (sw_gd [sw_ar M (rd_R M a0 2) 13 (rd_I M (rd_R M a0 3) (0 : Int32).toNatClampNeg)] (some ((1 : Int32), (wr_I M (rd_R M a0 2) (rd_I M (rd_R M a0 3) (0 : Int32).toNatClampNeg).toNatClampNeg (rd_I M a0 8)))))
  else some ((0 : Int32), M))
set_option maxRecDepth 10000 in
theorem t_Fits_begin_84 {g : sw_G} {d n0 : Nat} (hd : 3 ≤ d) {r : Int32 × sw_M} {N : Nat} {a0 : Nat} {M : sw_M} (hf : f_Fits_begin_84 N a0 M = some r) : sw_F g k_Fits_begin d n0 (some (.int r.1)) r.2 84 [(0, .ref a0)] [] M := by
  unfold f_Fits_begin_84 at hf
  obtain ⟨h1, hf⟩ := sw_gd_1 hf
  refine sf_blk [(.aload_n 0, 0, 0, .null), (.getfield 56, 1, 4, .null), (.iconst (1), 0, 0, .int (1 : Int32))] (lv' := [(0, .ref a0)]) (st' := [.int (1 : Int32), .int (rd_I M a0 4)]) (M1 := M) (ob := [sw_ok M a0 1]) (pc' := 89) (by decide +kernel) rfl rfl (sw_a1 h1 sw_a0) ?_
  refine sf_j_ge (off := 5) (tgt := 94) (by decide +kernel) (by decide) hf (fun hc hf => ?_) (fun hc hf => ?_)
  · obtain ⟨h2, hf⟩ := sw_gd_1 hf
    obtain ⟨h3, hf⟩ := sw_gd_1 hf
    refine sf_blk [(.aload_n 0, 0, 0, .null), (.getfield 9, 1, 2, .null), (.aload_n 0, 0, 0, .null), (.getfield 15, 1, 3, .null), (.iconst (0), 0, 0, .int (0 : Int32)), (.iaload, 0, 0, .null), (.aload_n 0, 0, 0, .null), (.getfield 30, 1, 8, .null), (.iastore, 0, 0, .null), (.iconst (1), 0, 0, .int (1 : Int32))] (lv' := [(0, .ref a0)]) (st' := [.int (1 : Int32)]) (M1 := (wr_I M (rd_R M a0 2) (rd_I M (rd_R M a0 3) (0 : Int32).toNatClampNeg).toNatClampNeg (rd_I M a0 8))) (ob := [sw_ok M a0 1, sw_ok M a0 1, sw_ar M (rd_R M a0 3) 13 (0 : Int32), sw_ok M a0 1, sw_ar M (rd_R M a0 2) 13 (rd_I M (rd_R M a0 3) (0 : Int32).toNatClampNeg)]) (pc' := 110) (by decide +kernel) rfl rfl (sw_a1 h1 (sw_a1 h1 (sw_a1 h2 (sw_a1 h1 (sw_a1 h3 sw_a0))))) ?_
    cases hf
    exact sf_bool rfl rfl (by decide +kernel)
  · refine sf_blk [(.iconst (0), 0, 0, .int (0 : Int32))] (lv' := [(0, .ref a0)]) (st' := [.int (0 : Int32)]) (M1 := M) (ob := []) (pc' := 93) (by decide +kernel) rfl rfl sw_a0 ?_
    cases hf
    exact sf_bool rfl rfl (by decide +kernel)
def f_Fits_begin_78 (N : Nat) (k15 : Nat → Int32 → sw_M → Option (Int32 × sw_M)) (a0 : Nat) (a1 : Int32) (M : sw_M) : Option (Int32 × sw_M) :=
  k15 a0 (a1 + (1 : Int32)) M
set_option maxRecDepth 10000 in
theorem t_Fits_begin_78 {g : sw_G} {d n0 : Nat} (hd : 3 ≤ d) {r : Int32 × sw_M} (k15 : Nat → Int32 → sw_M → Option (Int32 × sw_M)) (hk15 : ∀ (a0 : Nat) (a1 : Int32) (M : sw_M), k15 a0 a1 M = some r → sw_F g k_Fits_begin d n0 (some (.int r.1)) r.2 15 [(0, .ref a0), (1, .int a1)] [] M) {N : Nat} {a0 : Nat} {a1 : Int32} {M : sw_M} (hf : f_Fits_begin_78 N k15 a0 a1 M = some r) : sw_F g k_Fits_begin d n0 (some (.int r.1)) r.2 78 [(0, .ref a0), (1, .int a1)] [] M := by
  unfold f_Fits_begin_78 at hf
  refine sf_blk [(.iinc 1 (1), 0, 0, .int (1 : Int32))] (lv' := [(1, .int (a1 + (1 : Int32))), (0, .ref a0)]) (st' := []) (M1 := M) (ob := []) (pc' := 81) (by decide +kernel) rfl rfl sw_a0 ?_
  refine sf_goto (off := -66) (tgt := 15) (by decide +kernel) (by decide) ?_
  exact sf_weak [1, 0] rfl (hk15 _ _ _ hf)
def f_Fits_begin_15 (N : Nat) : Nat → Nat → Int32 → sw_M → Option (Int32 × sw_M)
  | 0, _, _, _ => none
  | j + 1, a0, a1, M =>
  sw_gd [sw_ok M a0 1] (sw_gd [sw_ok M (rd_R M a0 0) 10] (if (rd_I M (rd_R M a0 0) 3) ≤ a1 then f_Fits_begin_84 N a0 M
  else if (6 : Int32) ≤ a1 then f_Fits_begin_84 N a0 M
  else (f_Swarm_latest N (rd_R M a0 0) a1 M).bind (fun u3 => if u3.1 = 0 then f_Fits_begin_78 N (f_Fits_begin_15 N j) a0 a1 u3.2
  else sw_gd [sw_ok u3.2 u3.1 4] (if (rd_I u3.2 u3.1 17) = 0 then f_Fits_begin_78 N (f_Fits_begin_15 N j) a0 a1 u3.2
  else sw_gd [sw_ok u3.2 a0 1] (sw_gd [sw_ar u3.2 (rd_R u3.2 a0 3) 13 (rd_I u3.2 a0 4)] ((f_Fits_gather N a0 u3.1 a1 (wr_I (wr_I u3.2 (rd_R u3.2 a0 3) (rd_I u3.2 a0 4).toNatClampNeg a1) a0 4 ((rd_I (wr_I u3.2 (rd_R u3.2 a0 3) (rd_I u3.2 a0 4).toNatClampNeg a1) a0 4) + (1 : Int32)))).bind (fun u7 => f_Fits_begin_78 N (f_Fits_begin_15 N j) a0 a1 u7)))))))
set_option maxRecDepth 10000 in
theorem t_Fits_begin_15 {g : sw_G} {d n0 : Nat} (hd : 3 ≤ d) {r : Int32 × sw_M} {N : Nat} : ∀ (j : Nat) (a0 : Nat) (a1 : Int32) (M : sw_M), f_Fits_begin_15 N j a0 a1 M = some r → sw_F g k_Fits_begin d n0 (some (.int r.1)) r.2 15 [(0, .ref a0), (1, .int a1)] [] M := by
  intro j
  induction j with
  | zero =>
    intro a0 a1 M hf
    rw [f_Fits_begin_15] at hf
    cases hf
  | succ j ih =>
    intro a0 a1 M hf
    rw [f_Fits_begin_15] at hf
    obtain ⟨h1, hf⟩ := sw_gd_1 hf
    obtain ⟨h2, hf⟩ := sw_gd_1 hf
    refine sf_blk [(.iload_n 1, 0, 0, .null), (.aload_n 0, 0, 0, .null), (.getfield 34, 1, 0, .null), (.getfield 80, 10, 3, .null)] (lv' := [(0, .ref a0), (1, .int a1)]) (st' := [.int (rd_I M (rd_R M a0 0) 3), .int a1]) (M1 := M) (ob := [sw_ok M a0 1, sw_ok M (rd_R M a0 0) 10]) (pc' := 23) (by decide +kernel) rfl rfl (sw_a1 h1 (sw_a1 h2 sw_a0)) ?_
    refine sf_j_ge (off := 61) (tgt := 84) (by decide +kernel) (by decide) hf (fun hc hf => ?_) (fun hc hf => ?_)
    · exact sf_weak [0] rfl (t_Fits_begin_84 hd hf)
    · refine sf_blk [(.iload_n 1, 0, 0, .null), (.bipush (6), 0, 0, .int (6 : Int32))] (lv' := [(0, .ref a0), (1, .int a1)]) (st' := [.int (6 : Int32), .int a1]) (M1 := M) (ob := []) (pc' := 29) (by decide +kernel) rfl rfl sw_a0 ?_
      refine sf_j_ge (off := 55) (tgt := 84) (by decide +kernel) (by decide) hf (fun hc hf => ?_) (fun hc hf => ?_)
      · exact sf_weak [0] rfl (t_Fits_begin_84 hd hf)
      · refine sf_blk [(.aload_n 0, 0, 0, .null), (.getfield 34, 1, 0, .null), (.iload_n 1, 0, 0, .null)] (lv' := [(0, .ref a0), (1, .int a1)]) (st' := [.int a1, .ref (rd_R M a0 0)]) (M1 := M) (ob := [sw_ok M a0 1]) (pc' := 37) (by decide +kernel) rfl rfl (sw_a1 h1 sw_a0) ?_
        obtain ⟨u3, hu3, hf⟩ := sw_bnd hf
        refine sf_callV (i := 59) (k2 := k_Swarm_latest) (d2 := d - 1) (As := [.int a1]) (st := []) (q := (rd_R M a0 0)) (ci := 10) mf_Swarm_latest mi_Swarm_latest ms_Swarm_latest (sw_m5 44 (by decide +kernel)) rfl (by decide) (by decide +kernel) rfl (Nat.le_of_ble_eq_true rfl) (by omega) h2 (o_Swarm_latest g (d := d - 1) (by omega) hu3) ?_
        show sw_F _ _ _ _ _ _ 40 [(0, .ref a0), (1, .int a1)] [.ref u3.1] u3.2
        refine sf_blk [(.astore_n 2, 0, 0, .null), (.aload_n 2, 0, 0, .null)] (lv' := [(2, .ref u3.1), (0, .ref a0), (1, .int a1)]) (st' := [.ref u3.1]) (M1 := u3.2) (ob := []) (pc' := 42) (by decide +kernel) rfl rfl sw_a0 ?_
        refine sf_n_null (off := 36) (tgt := 78) (by decide +kernel) (by decide) hf (fun hc hf => ?_) (fun hc hf => ?_)
        · exact sf_weak [1, 2] rfl (t_Fits_begin_78 hd _ ih hf)
        · obtain ⟨h4, hf⟩ := sw_gd_1 hf
          refine sf_blk [(.aload_n 2, 0, 0, .null), (.getfield 83, 4, 17, .null)] (lv' := [(2, .ref u3.1), (0, .ref a0), (1, .int a1)]) (st' := [.int (rd_I u3.2 u3.1 17)]) (M1 := u3.2) (ob := [sw_ok u3.2 u3.1 4]) (pc' := 49) (by decide +kernel) rfl rfl (sw_a1 h4 sw_a0) ?_
          refine sf_z_eq (off := 29) (tgt := 78) (by decide +kernel) (by decide) hf (fun hc hf => ?_) (fun hc hf => ?_)
          · exact sf_weak [1, 2] rfl (t_Fits_begin_78 hd _ ih hf)
          · obtain ⟨h5, hf⟩ := sw_gd_1 hf
            obtain ⟨h6, hf⟩ := sw_gd_1 hf
            refine sf_blk [(.aload_n 0, 0, 0, .null), (.getfield 15, 1, 3, .null), (.aload_n 0, 0, 0, .null), (.getfield 56, 1, 4, .null), (.iload_n 1, 0, 0, .null), (.iastore, 0, 0, .null), (.aload_n 0, 0, 0, .null), (.dup, 0, 0, .null), (.getfield 56, 1, 4, .null), (.iconst (1), 0, 0, .int (1 : Int32)), (.iadd, 0, 0, .null), (.putfield 56, 1, 4, .null), (.aload_n 0, 0, 0, .null), (.aload_n 2, 0, 0, .null), (.iload_n 1, 0, 0, .null)] (lv' := [(2, .ref u3.1), (0, .ref a0), (1, .int a1)]) (st' := [.int a1, .ref u3.1, .ref a0]) (M1 := (wr_I (wr_I u3.2 (rd_R u3.2 a0 3) (rd_I u3.2 a0 4).toNatClampNeg a1) a0 4 ((rd_I (wr_I u3.2 (rd_R u3.2 a0 3) (rd_I u3.2 a0 4).toNatClampNeg a1) a0 4) + (1 : Int32)))) (ob := [sw_ok u3.2 a0 1, sw_ok u3.2 a0 1, sw_ar u3.2 (rd_R u3.2 a0 3) 13 (rd_I u3.2 a0 4), sw_ok (wr_I u3.2 (rd_R u3.2 a0 3) (rd_I u3.2 a0 4).toNatClampNeg a1) a0 1, sw_ok (wr_I u3.2 (rd_R u3.2 a0 3) (rd_I u3.2 a0 4).toNatClampNeg a1) a0 1]) (pc' := 75) (by decide +kernel) rfl rfl (sw_a1 h5 (sw_a1 h5 (sw_a1 h6 (sw_a1 h5 (sw_a1 h5 sw_a0))))) ?_
            obtain ⟨u7, hu7, hf⟩ := sw_bnd hf
            refine sf_callV (i := 86) (k2 := k_Fits_gather) (d2 := d - 1) (As := [.ref u3.1, .int a1]) (st := []) (q := a0) (ci := 1) mf_Fits_gather mi_Fits_gather ms_Fits_gather (sw_m5 45 (by decide +kernel)) rfl (by decide) (by decide +kernel) rfl (Nat.le_of_ble_eq_true rfl) (by omega) h5 (o_Fits_gather g (d := d - 1) (by omega) hu7) ?_
            show sw_F _ _ _ _ _ _ 78 [(2, .ref u3.1), (0, .ref a0), (1, .int a1)] [] u7
            exact sf_weak [1, 2] rfl (t_Fits_begin_78 hd _ ih hf)
def f_Fits_begin (N : Nat) (a0 : Nat) (M : sw_M) : Option (Int32 × sw_M) :=
  sw_gd [sw_ok M a0 1] ((f_Arr_fill_aII N (rd_R (wr_I M a0 4 (0 : Int32)) a0 2) (0 : Int32) (wr_I M a0 4 (0 : Int32))).bind (fun u2 => f_Fits_begin_15 N N a0 (0 : Int32) u2))
set_option maxRecDepth 10000 in
theorem t_Fits_begin {g : sw_G} {d n0 : Nat} (hd : 3 ≤ d) {r : Int32 × sw_M} {N : Nat} {a0 : Nat} {M : sw_M} (hf : f_Fits_begin N a0 M = some r) : sw_F g k_Fits_begin d n0 (some (.int r.1)) r.2 0 [(0, .ref a0)] [] M := by
  unfold f_Fits_begin at hf
  obtain ⟨h1, hf⟩ := sw_gd_1 hf
  refine sf_blk [(.aload_n 0, 0, 0, .null), (.iconst (0), 0, 0, .int (0 : Int32)), (.putfield 56, 1, 4, .null), (.aload_n 0, 0, 0, .null), (.getfield 9, 1, 2, .null), (.iconst (0), 0, 0, .int (0 : Int32))] (lv' := [(0, .ref a0)]) (st' := [.int (0 : Int32), .ref (rd_R (wr_I M a0 4 (0 : Int32)) a0 2)]) (M1 := (wr_I M a0 4 (0 : Int32))) (ob := [sw_ok M a0 1, sw_ok (wr_I M a0 4 (0 : Int32)) a0 1]) (pc' := 10) (by decide +kernel) rfl rfl (sw_a1 h1 (sw_a1 h1 sw_a0)) ?_
  obtain ⟨u2, hu2, hf⟩ := sw_bnd hf
  refine sf_callS (i := 74) (k2 := k_Arr_fill_aII) (d2 := d - 1) (As := [.ref (rd_R (wr_I M a0 4 (0 : Int32)) a0 2), .int (0 : Int32)]) (st := []) mf_Arr_fill_aII mi_Arr_fill_aII (sw_m5 43 (by decide +kernel)) (by decide +kernel) rfl (Nat.le_of_ble_eq_true rfl) (by omega) (o_Arr_fill_aII g (d := d - 1) (by omega) hu2) ?_
  show sw_F _ _ _ _ _ _ 13 [(0, .ref a0)] [] u2
  refine sf_blk [(.iconst (0), 0, 0, .int (0 : Int32)), (.istore_n 1, 0, 0, .null)] (lv' := [(1, .int (0 : Int32)), (0, .ref a0)]) (st' := []) (M1 := u2) (ob := []) (pc' := 15) (by decide +kernel) rfl rfl sw_a0 ?_
  exact sf_weak [1, 0] rfl (t_Fits_begin_15 hd _ _ _ _ hf)
theorem o_Fits_begin (g : sw_G) {d : Nat} (hd : 3 ≤ d) {N : Nat} {a0 : Nat} {M : sw_M} {r : Int32 × sw_M} (hf : f_Fits_begin N a0 M = some r) : sw_Ok g k_Fits_begin d [.ref a0] M (some (.int r.1)) r.2 := sf_met (by decide +kernel) rfl (by decide) (Nat.le_of_ble_eq_true rfl) (t_Fits_begin hd hf)
def f_Fits_summed_4 (N : Nat) : Nat → Nat → Nat → Int32 → Int32 → sw_M → Option (Int32 × sw_M)
  | 0, _, _, _, _, _ => none
  | j + 1, a0, a1, a2, a3, M =>
  sw_gd [sw_ok M a0 1] (if (rd_I M a0 4) ≤ a3 then some (a2, M)
  else if (6 : Int32) ≤ a3 then some (a2, M)
  else sw_gd [sw_ar M (rd_R M a0 3) 13 a3] (sw_gd [sw_ar M (rd_R M a0 2) 13 (rd_I M (rd_R M a0 3) a3.toNatClampNeg)] (sw_gd [sw_ar M a1 13 (rd_I M (rd_R M a0 3) a3.toNatClampNeg)] (f_Fits_summed_4 N j a0 a1 (a2 + ((rd_I M (rd_R M a0 2) (rd_I M (rd_R M a0 3) a3.toNatClampNeg).toNatClampNeg) * (rd_I M a1 (rd_I M (rd_R M a0 3) a3.toNatClampNeg).toNatClampNeg))) (a3 + (1 : Int32)) M))))
set_option maxRecDepth 10000 in
theorem t_Fits_summed_4 {g : sw_G} {d n0 : Nat} (hd : 1 ≤ d) {r : Int32 × sw_M} {N : Nat} : ∀ (j : Nat) (a0 : Nat) (a1 : Nat) (a2 : Int32) (a3 : Int32) (M : sw_M), f_Fits_summed_4 N j a0 a1 a2 a3 M = some r → sw_F g k_Fits_summed d n0 (some (.int r.1)) r.2 4 [(0, .ref a0), (1, .ref a1), (2, .int a2), (3, .int a3)] [] M := by
  intro j
  induction j with
  | zero =>
    intro a0 a1 a2 a3 M hf
    rw [f_Fits_summed_4] at hf
    cases hf
  | succ j ih =>
    intro a0 a1 a2 a3 M hf
    rw [f_Fits_summed_4] at hf
    obtain ⟨h1, hf⟩ := sw_gd_1 hf
    refine sf_blk [(.iload_n 3, 0, 0, .null), (.aload_n 0, 0, 0, .null), (.getfield 56, 1, 4, .null)] (lv' := [(0, .ref a0), (1, .ref a1), (2, .int a2), (3, .int a3)]) (st' := [.int (rd_I M a0 4), .int a3]) (M1 := M) (ob := [sw_ok M a0 1]) (pc' := 9) (by decide +kernel) rfl rfl (sw_a1 h1 sw_a0) ?_
    refine sf_j_ge (off := 38) (tgt := 47) (by decide +kernel) (by decide) hf (fun hc hf => ?_) (fun hc hf => ?_)
    · refine sf_blk [(.iload_n 2, 0, 0, .null)] (lv' := [(0, .ref a0), (1, .ref a1), (2, .int a2), (3, .int a3)]) (st' := [.int a2]) (M1 := M) (ob := []) (pc' := 48) (by decide +kernel) rfl rfl sw_a0 ?_
      cases hf
      exact sf_int rfl (by decide +kernel)
    · refine sf_blk [(.iload_n 3, 0, 0, .null), (.bipush (6), 0, 0, .int (6 : Int32))] (lv' := [(0, .ref a0), (1, .ref a1), (2, .int a2), (3, .int a3)]) (st' := [.int (6 : Int32), .int a3]) (M1 := M) (ob := []) (pc' := 15) (by decide +kernel) rfl rfl sw_a0 ?_
      refine sf_j_ge (off := 32) (tgt := 47) (by decide +kernel) (by decide) hf (fun hc hf => ?_) (fun hc hf => ?_)
      · refine sf_blk [(.iload_n 2, 0, 0, .null)] (lv' := [(0, .ref a0), (1, .ref a1), (2, .int a2), (3, .int a3)]) (st' := [.int a2]) (M1 := M) (ob := []) (pc' := 48) (by decide +kernel) rfl rfl sw_a0 ?_
        cases hf
        exact sf_int rfl (by decide +kernel)
      · obtain ⟨h2, hf⟩ := sw_gd_1 hf
        obtain ⟨h3, hf⟩ := sw_gd_1 hf
        obtain ⟨h4, hf⟩ := sw_gd_1 hf
        refine sf_blk [(.iload_n 2, 0, 0, .null), (.aload_n 0, 0, 0, .null), (.getfield 9, 1, 2, .null), (.aload_n 0, 0, 0, .null), (.getfield 15, 1, 3, .null), (.iload_n 3, 0, 0, .null), (.iaload, 0, 0, .null), (.iaload, 0, 0, .null), (.aload_n 1, 0, 0, .null), (.aload_n 0, 0, 0, .null), (.getfield 15, 1, 3, .null), (.iload_n 3, 0, 0, .null), (.iaload, 0, 0, .null), (.iaload, 0, 0, .null), (.imul, 0, 0, .null), (.iadd, 0, 0, .null), (.istore_n 2, 0, 0, .null), (.iinc 3 (1), 0, 0, .int (1 : Int32))] (lv' := [(3, .int (a3 + (1 : Int32))), (2, .int (a2 + ((rd_I M (rd_R M a0 2) (rd_I M (rd_R M a0 3) a3.toNatClampNeg).toNatClampNeg) * (rd_I M a1 (rd_I M (rd_R M a0 3) a3.toNatClampNeg).toNatClampNeg)))), (0, .ref a0), (1, .ref a1)]) (st' := []) (M1 := M) (ob := [sw_ok M a0 1, sw_ok M a0 1, sw_ar M (rd_R M a0 3) 13 a3, sw_ar M (rd_R M a0 2) 13 (rd_I M (rd_R M a0 3) a3.toNatClampNeg), sw_ok M a0 1, sw_ar M (rd_R M a0 3) 13 a3, sw_ar M a1 13 (rd_I M (rd_R M a0 3) a3.toNatClampNeg)]) (pc' := 44) (by decide +kernel) rfl rfl (sw_a1 h1 (sw_a1 h1 (sw_a1 h2 (sw_a1 h3 (sw_a1 h1 (sw_a1 h2 (sw_a1 h4 sw_a0))))))) ?_
        refine sf_goto (off := -40) (tgt := 4) (by decide +kernel) (by decide) ?_
        exact sf_weak [2, 3, 1, 0] rfl (ih _ _ _ _ _ hf)
def f_Fits_summed (N : Nat) (a0 : Nat) (a1 : Nat) (M : sw_M) : Option (Int32 × sw_M) :=
  f_Fits_summed_4 N N a0 a1 (0 : Int32) (0 : Int32) M
set_option maxRecDepth 10000 in
theorem t_Fits_summed {g : sw_G} {d n0 : Nat} (hd : 1 ≤ d) {r : Int32 × sw_M} {N : Nat} {a0 : Nat} {a1 : Nat} {M : sw_M} (hf : f_Fits_summed N a0 a1 M = some r) : sw_F g k_Fits_summed d n0 (some (.int r.1)) r.2 0 [(0, .ref a0), (1, .ref a1)] [] M := by
  unfold f_Fits_summed at hf
  refine sf_blk [(.iconst (0), 0, 0, .int (0 : Int32)), (.istore_n 2, 0, 0, .null), (.iconst (0), 0, 0, .int (0 : Int32)), (.istore_n 3, 0, 0, .null)] (lv' := [(3, .int (0 : Int32)), (2, .int (0 : Int32)), (0, .ref a0), (1, .ref a1)]) (st' := []) (M1 := M) (ob := []) (pc' := 4) (by decide +kernel) rfl rfl sw_a0 ?_
  exact sf_weak [2, 3, 1, 0] rfl (t_Fits_summed_4 hd _ _ _ _ _ _ hf)
theorem o_Fits_summed (g : sw_G) {d : Nat} (hd : 1 ≤ d) {N : Nat} {a0 : Nat} {a1 : Nat} {M : sw_M} {r : Int32 × sw_M} (hf : f_Fits_summed N a0 a1 M = some r) : sw_Ok g k_Fits_summed d [.ref a0, .ref a1] M (some (.int r.1)) r.2 := sf_met (by decide +kernel) rfl (by decide) (Nat.le_of_ble_eq_true rfl) (t_Fits_summed hd hf)
def f_Fits_holds_93 (N : Nat) (a0 : Nat) (a1 : Int32) (a5 : Int64) (b0 : Int64) (M : sw_M) : Option (Int32 × sw_M) :=
  sw_gd [sw_ok M a0 1] (sw_gd [sw_ok M (rd_R M a0 1) 3] (sw_gd [sw_ar M (rd_R M (rd_R M a0 1) 2) 13 a1] (if a5 < ((rd_I M (rd_R M (rd_R M a0 1) 2) a1.toNatClampNeg).toInt64 * b0) then some ((0 : Int32), M)
  else sw_gd [sw_ar M (rd_R M (rd_R M a0 1) 3) 13 a1] (if ((rd_I M (rd_R M (rd_R M a0 1) 3) a1.toNatClampNeg).toInt64 * b0) < a5 then some ((0 : Int32), M)
  else some ((1 : Int32), M)))))
set_option maxRecDepth 10000 in
theorem t_Fits_holds_93 {g : sw_G} {d n0 : Nat} (hd : 2 ≤ d) {r : Int32 × sw_M} {N : Nat} {a0 : Nat} {a1 : Int32} {a5 : Int64} {b0 : Int64} {M : sw_M} (hf : f_Fits_holds_93 N a0 a1 a5 b0 M = some r) : sw_F g k_Fits_holds d n0 (some (.int r.1)) r.2 93 [(0, .ref a0), (1, .int a1), (5, .long a5)] [.long b0] M := by
  unfold f_Fits_holds_93 at hf
  obtain ⟨h1, hf⟩ := sw_gd_1 hf
  obtain ⟨h2, hf⟩ := sw_gd_1 hf
  obtain ⟨h3, hf⟩ := sw_gd_1 hf
  refine sf_blk [(.lstore 7, 0, 0, .null), (.lload 5, 0, 0, .null), (.aload_n 0, 0, 0, .null), (.getfield 38, 1, 1, .null), (.getfield 117, 3, 2, .null), (.iload_n 1, 0, 0, .null), (.iaload, 0, 0, .null), (.i2l, 0, 0, .null), (.lload 7, 0, 0, .null), (.lmul, 0, 0, .null), (.lcmp, 0, 0, .null)] (lv' := [(7, .long b0), (0, .ref a0), (1, .int a1), (5, .long a5)]) (st' := [.int (lg_cmp a5 ((rd_I M (rd_R M (rd_R M a0 1) 2) a1.toNatClampNeg).toInt64 * b0))]) (M1 := M) (ob := [sw_ok M a0 1, sw_ok M (rd_R M a0 1) 3, sw_ar M (rd_R M (rd_R M a0 1) 2) 13 a1]) (pc' := 111) (by decide +kernel) rfl rfl (sw_a1 h1 (sw_a1 h2 (sw_a1 h3 sw_a0))) ?_
  refine sf_l_lt (off := 26) (tgt := 137) (by decide +kernel) (by decide) hf (fun hc hf => ?_) (fun hc hf => ?_)
  · refine sf_blk [(.iconst (0), 0, 0, .int (0 : Int32))] (lv' := [(7, .long b0), (0, .ref a0), (1, .int a1), (5, .long a5)]) (st' := [.int (0 : Int32)]) (M1 := M) (ob := []) (pc' := 138) (by decide +kernel) rfl rfl sw_a0 ?_
    cases hf
    exact sf_bool rfl rfl (by decide +kernel)
  · obtain ⟨h4, hf⟩ := sw_gd_1 hf
    refine sf_blk [(.lload 5, 0, 0, .null), (.aload_n 0, 0, 0, .null), (.getfield 38, 1, 1, .null), (.getfield 120, 3, 3, .null), (.iload_n 1, 0, 0, .null), (.iaload, 0, 0, .null), (.i2l, 0, 0, .null), (.lload 7, 0, 0, .null), (.lmul, 0, 0, .null), (.lcmp, 0, 0, .null)] (lv' := [(7, .long b0), (0, .ref a0), (1, .int a1), (5, .long a5)]) (st' := [.int (lg_cmp a5 ((rd_I M (rd_R M (rd_R M a0 1) 3) a1.toNatClampNeg).toInt64 * b0))]) (M1 := M) (ob := [sw_ok M a0 1, sw_ok M (rd_R M a0 1) 3, sw_ar M (rd_R M (rd_R M a0 1) 3) 13 a1]) (pc' := 130) (by decide +kernel) rfl rfl (sw_a1 h1 (sw_a1 h2 (sw_a1 h4 sw_a0))) ?_
    refine sf_l_gt (off := 7) (tgt := 137) (by decide +kernel) (by decide) hf (fun hc hf => ?_) (fun hc hf => ?_)
    · refine sf_blk [(.iconst (0), 0, 0, .int (0 : Int32))] (lv' := [(7, .long b0), (0, .ref a0), (1, .int a1), (5, .long a5)]) (st' := [.int (0 : Int32)]) (M1 := M) (ob := []) (pc' := 138) (by decide +kernel) rfl rfl sw_a0 ?_
      cases hf
      exact sf_bool rfl rfl (by decide +kernel)
    · refine sf_blk [(.iconst (1), 0, 0, .int (1 : Int32))] (lv' := [(7, .long b0), (0, .ref a0), (1, .int a1), (5, .long a5)]) (st' := [.int (1 : Int32)]) (M1 := M) (ob := []) (pc' := 134) (by decide +kernel) rfl rfl sw_a0 ?_
      refine sf_goto (off := 4) (tgt := 138) (by decide +kernel) (by decide) ?_
      cases hf
      exact sf_bool rfl rfl (by decide +kernel)
def f_Fits_holds_68 (N : Nat) (a0 : Nat) (a1 : Int32) (a2 : Int64) (a4 : Int32) (b0 : Int64) (M : sw_M) : Option (Int32 × sw_M) :=
  if a4 = 0 then sw_gd [sw_ok M a0 1] (sw_gd [sw_ok M (rd_R M a0 0) 10] (f_Fits_holds_93 N a0 a1 b0 ((rd_I M a0 8).toInt64 * (rd_I M (rd_R M a0 0) 4).toInt64) M))
  else f_Fits_holds_93 N a0 a1 b0 a2 M
set_option maxRecDepth 10000 in
theorem t_Fits_holds_68 {g : sw_G} {d n0 : Nat} (hd : 2 ≤ d) {r : Int32 × sw_M} {N : Nat} {a0 : Nat} {a1 : Int32} {a2 : Int64} {a4 : Int32} {b0 : Int64} {M : sw_M} (hf : f_Fits_holds_68 N a0 a1 a2 a4 b0 M = some r) : sw_F g k_Fits_holds d n0 (some (.int r.1)) r.2 68 [(0, .ref a0), (1, .int a1), (2, .long a2), (4, .int a4)] [.long b0] M := by
  unfold f_Fits_holds_68 at hf
  refine sf_blk [(.lstore 5, 0, 0, .null), (.iload 4, 0, 0, .null)] (lv' := [(5, .long b0), (0, .ref a0), (1, .int a1), (2, .long a2), (4, .int a4)]) (st' := [.int a4]) (M1 := M) (ob := []) (pc' := 72) (by decide +kernel) rfl rfl sw_a0 ?_
  refine sf_z_eq (off := 7) (tgt := 79) (by decide +kernel) (by decide) hf (fun hc hf => ?_) (fun hc hf => ?_)
  · obtain ⟨h1, hf⟩ := sw_gd_1 hf
    obtain ⟨h2, hf⟩ := sw_gd_1 hf
    refine sf_blk [(.aload_n 0, 0, 0, .null), (.getfield 30, 1, 8, .null), (.i2l, 0, 0, .null), (.aload_n 0, 0, 0, .null), (.getfield 34, 1, 0, .null), (.getfield 114, 10, 4, .null), (.i2l, 0, 0, .null), (.lmul, 0, 0, .null)] (lv' := [(5, .long b0), (0, .ref a0), (1, .int a1), (2, .long a2), (4, .int a4)]) (st' := [.long ((rd_I M a0 8).toInt64 * (rd_I M (rd_R M a0 0) 4).toInt64)]) (M1 := M) (ob := [sw_ok M a0 1, sw_ok M a0 1, sw_ok M (rd_R M a0 0) 10]) (pc' := 93) (by decide +kernel) rfl rfl (sw_a1 h1 (sw_a1 h1 (sw_a1 h2 sw_a0))) ?_
    exact sf_weak [1, 2, 0] rfl (t_Fits_holds_93 hd hf)
  · refine sf_blk [(.lload_n 2, 0, 0, .null)] (lv' := [(5, .long b0), (0, .ref a0), (1, .int a1), (2, .long a2), (4, .int a4)]) (st' := [.long a2]) (M1 := M) (ob := []) (pc' := 76) (by decide +kernel) rfl rfl sw_a0 ?_
    refine sf_goto (off := 17) (tgt := 93) (by decide +kernel) (by decide) ?_
    exact sf_weak [1, 2, 0] rfl (t_Fits_holds_93 hd hf)
def f_Fits_holds_42 (N : Nat) (a0 : Nat) (a1 : Int32) (a2 : Int64) (b0 : Int32) (M : sw_M) : Option (Int32 × sw_M) :=
  if b0 = 0 then f_Fits_holds_68 N a0 a1 a2 b0 ((1000 : Int64) * a2) M
  else sw_gd [sw_ok M a0 1] (sw_gd [sw_ar M (rd_R M a0 6) 17 a1 || (sw_ar M (rd_R M a0 6) 18 a1 || sw_ar M (rd_R M a0 6) 19 a1)] ((f_Fits_summed N a0 (rd_R M (rd_R M a0 6) a1.toNatClampNeg) M).bind (fun u3 => f_Fits_holds_68 N a0 a1 a2 b0 u3.1.toInt64 u3.2)))
set_option maxRecDepth 10000 in
theorem t_Fits_holds_42 {g : sw_G} {d n0 : Nat} (hd : 2 ≤ d) {r : Int32 × sw_M} {N : Nat} {a0 : Nat} {a1 : Int32} {a2 : Int64} {b0 : Int32} {M : sw_M} (hf : f_Fits_holds_42 N a0 a1 a2 b0 M = some r) : sw_F g k_Fits_holds d n0 (some (.int r.1)) r.2 42 [(0, .ref a0), (1, .int a1), (2, .long a2)] [.int b0] M := by
  unfold f_Fits_holds_42 at hf
  refine sf_blk [(.istore 4, 0, 0, .null), (.iload 4, 0, 0, .null)] (lv' := [(4, .int b0), (0, .ref a0), (1, .int a1), (2, .long a2)]) (st' := [.int b0]) (M1 := M) (ob := []) (pc' := 46) (by decide +kernel) rfl rfl sw_a0 ?_
  refine sf_z_eq (off := 17) (tgt := 63) (by decide +kernel) (by decide) hf (fun hc hf => ?_) (fun hc hf => ?_)
  · refine sf_blk [(.ldc2_w 112, 0, 0, .long (1000 : Int64)), (.lload_n 2, 0, 0, .null), (.lmul, 0, 0, .null)] (lv' := [(4, .int b0), (0, .ref a0), (1, .int a1), (2, .long a2)]) (st' := [.long ((1000 : Int64) * a2)]) (M1 := M) (ob := []) (pc' := 68) (by decide +kernel) rfl rfl sw_a0 ?_
    exact sf_weak [1, 2, 3, 0] rfl (t_Fits_holds_68 hd hf)
  · obtain ⟨h1, hf⟩ := sw_gd_1 hf
    obtain ⟨h2, hf⟩ := sw_gd_1 hf
    refine sf_blk [(.aload_n 0, 0, 0, .null), (.aload_n 0, 0, 0, .null), (.getfield 23, 1, 6, .null), (.iload_n 1, 0, 0, .null), (.aaload, 0, 0, .null)] (lv' := [(4, .int b0), (0, .ref a0), (1, .int a1), (2, .long a2)]) (st' := [.ref (rd_R M (rd_R M a0 6) a1.toNatClampNeg), .ref a0]) (M1 := M) (ob := [sw_ok M a0 1, sw_ar M (rd_R M a0 6) 17 a1 || (sw_ar M (rd_R M a0 6) 18 a1 || sw_ar M (rd_R M a0 6) 19 a1)]) (pc' := 56) (by decide +kernel) rfl rfl (sw_a1 h1 (sw_a1 h2 sw_a0)) ?_
    obtain ⟨u3, hu3, hf⟩ := sw_bnd hf
    refine sf_callV (i := 105) (k2 := k_Fits_summed) (d2 := d - 1) (As := [.ref (rd_R M (rd_R M a0 6) a1.toNatClampNeg)]) (st := []) (q := a0) (ci := 1) mf_Fits_summed mi_Fits_summed ms_Fits_summed (sw_m5 61 (by decide +kernel)) rfl (by decide) (by decide +kernel) rfl (Nat.le_of_ble_eq_true rfl) (by omega) h1 (o_Fits_summed g (d := d - 1) (by omega) hu3) ?_
    show sw_F _ _ _ _ _ _ 59 [(4, .int b0), (0, .ref a0), (1, .int a1), (2, .long a2)] [.int u3.1] u3.2
    refine sf_blk [(.i2l, 0, 0, .null)] (lv' := [(4, .int b0), (0, .ref a0), (1, .int a1), (2, .long a2)]) (st' := [.long u3.1.toInt64]) (M1 := u3.2) (ob := []) (pc' := 60) (by decide +kernel) rfl rfl sw_a0 ?_
    refine sf_goto (off := 8) (tgt := 68) (by decide +kernel) (by decide) ?_
    exact sf_weak [1, 2, 3, 0] rfl (t_Fits_holds_68 hd hf)
def f_Fits_holds (N : Nat) (a0 : Nat) (a1 : Int32) (M : sw_M) : Option (Int32 × sw_M) :=
  if a1 < 0 then some ((0 : Int32), M)
  else if a1 < (10 : Int32) then sw_gd [sw_ok M a0 1] (sw_gd [sw_ar M (rd_R M a0 5) 17 a1 || (sw_ar M (rd_R M a0 5) 18 a1 || sw_ar M (rd_R M a0 5) 19 a1)] ((f_Fits_summed N a0 (rd_R M (rd_R M a0 5) a1.toNatClampNeg) M).bind (fun u3 => sw_gd [sw_ok u3.2 a0 1] (sw_gd [sw_ok u3.2 (rd_R u3.2 a0 1) 3] (sw_gd [sw_ar u3.2 (rd_R u3.2 (rd_R u3.2 a0 1) 0) 13 a1] (if (rd_I u3.2 (rd_R u3.2 (rd_R u3.2 a0 1) 0) a1.toNatClampNeg) = (1 : Int32) then f_Fits_holds_42 N a0 a1 u3.1.toInt64 (1 : Int32) u3.2
  else f_Fits_holds_42 N a0 a1 u3.1.toInt64 (0 : Int32) u3.2))))))
  else some ((0 : Int32), M)
set_option maxRecDepth 10000 in
theorem t_Fits_holds {g : sw_G} {d n0 : Nat} (hd : 2 ≤ d) {r : Int32 × sw_M} {N : Nat} {a0 : Nat} {a1 : Int32} {M : sw_M} (hf : f_Fits_holds N a0 a1 M = some r) : sw_F g k_Fits_holds d n0 (some (.int r.1)) r.2 0 [(0, .ref a0), (1, .int a1)] [] M := by
  unfold f_Fits_holds at hf
  refine sf_blk [(.iload_n 1, 0, 0, .null)] (lv' := [(0, .ref a0), (1, .int a1)]) (st' := [.int a1]) (M1 := M) (ob := []) (pc' := 1) (by decide +kernel) rfl rfl sw_a0 ?_
  refine sf_z_lt (off := 9) (tgt := 10) (by decide +kernel) (by decide) hf (fun hc hf => ?_) (fun hc hf => ?_)
  · refine sf_blk [(.iconst (0), 0, 0, .int (0 : Int32))] (lv' := [(0, .ref a0), (1, .int a1)]) (st' := [.int (0 : Int32)]) (M1 := M) (ob := []) (pc' := 11) (by decide +kernel) rfl rfl sw_a0 ?_
    cases hf
    exact sf_bool rfl rfl (by decide +kernel)
  · refine sf_blk [(.iload_n 1, 0, 0, .null), (.bipush (10), 0, 0, .int (10 : Int32))] (lv' := [(0, .ref a0), (1, .int a1)]) (st' := [.int (10 : Int32), .int a1]) (M1 := M) (ob := []) (pc' := 7) (by decide +kernel) rfl rfl sw_a0 ?_
    refine sf_j_lt (off := 5) (tgt := 12) (by decide +kernel) (by decide) hf (fun hc hf => ?_) (fun hc hf => ?_)
    · obtain ⟨h1, hf⟩ := sw_gd_1 hf
      obtain ⟨h2, hf⟩ := sw_gd_1 hf
      refine sf_blk [(.aload_n 0, 0, 0, .null), (.aload_n 0, 0, 0, .null), (.getfield 20, 1, 5, .null), (.iload_n 1, 0, 0, .null), (.aaload, 0, 0, .null)] (lv' := [(0, .ref a0), (1, .int a1)]) (st' := [.ref (rd_R M (rd_R M a0 5) a1.toNatClampNeg), .ref a0]) (M1 := M) (ob := [sw_ok M a0 1, sw_ar M (rd_R M a0 5) 17 a1 || (sw_ar M (rd_R M a0 5) 18 a1 || sw_ar M (rd_R M a0 5) 19 a1)]) (pc' := 19) (by decide +kernel) rfl rfl (sw_a1 h1 (sw_a1 h2 sw_a0)) ?_
      obtain ⟨u3, hu3, hf⟩ := sw_bnd hf
      refine sf_callV (i := 105) (k2 := k_Fits_summed) (d2 := d - 1) (As := [.ref (rd_R M (rd_R M a0 5) a1.toNatClampNeg)]) (st := []) (q := a0) (ci := 1) mf_Fits_summed mi_Fits_summed ms_Fits_summed (sw_m5 61 (by decide +kernel)) rfl (by decide) (by decide +kernel) rfl (Nat.le_of_ble_eq_true rfl) (by omega) h1 (o_Fits_summed g (d := d - 1) (by omega) hu3) ?_
      show sw_F _ _ _ _ _ _ 22 [(0, .ref a0), (1, .int a1)] [.int u3.1] u3.2
      obtain ⟨h4, hf⟩ := sw_gd_1 hf
      obtain ⟨h5, hf⟩ := sw_gd_1 hf
      obtain ⟨h6, hf⟩ := sw_gd_1 hf
      refine sf_blk [(.i2l, 0, 0, .null), (.lstore_n 2, 0, 0, .null), (.aload_n 0, 0, 0, .null), (.getfield 38, 1, 1, .null), (.getfield 109, 3, 0, .null), (.iload_n 1, 0, 0, .null), (.iaload, 0, 0, .null), (.iconst (1), 0, 0, .int (1 : Int32))] (lv' := [(2, .long u3.1.toInt64), (0, .ref a0), (1, .int a1)]) (st' := [.int (1 : Int32), .int (rd_I u3.2 (rd_R u3.2 (rd_R u3.2 a0 1) 0) a1.toNatClampNeg)]) (M1 := u3.2) (ob := [sw_ok u3.2 a0 1, sw_ok u3.2 (rd_R u3.2 a0 1) 3, sw_ar u3.2 (rd_R u3.2 (rd_R u3.2 a0 1) 0) 13 a1]) (pc' := 34) (by decide +kernel) rfl rfl (sw_a1 h4 (sw_a1 h5 (sw_a1 h6 sw_a0))) ?_
      refine sf_j_ne (off := 7) (tgt := 41) (by decide +kernel) (by decide) hf (fun hc hf => ?_) (fun hc hf => ?_)
      · refine sf_blk [(.iconst (0), 0, 0, .int (0 : Int32))] (lv' := [(2, .long u3.1.toInt64), (0, .ref a0), (1, .int a1)]) (st' := [.int (0 : Int32)]) (M1 := u3.2) (ob := []) (pc' := 42) (by decide +kernel) rfl rfl sw_a0 ?_
        exact sf_weak [1, 2, 0] rfl (t_Fits_holds_42 hd hf)
      · refine sf_blk [(.iconst (1), 0, 0, .int (1 : Int32))] (lv' := [(2, .long u3.1.toInt64), (0, .ref a0), (1, .int a1)]) (st' := [.int (1 : Int32)]) (M1 := u3.2) (ob := []) (pc' := 38) (by decide +kernel) rfl rfl sw_a0 ?_
        refine sf_goto (off := 4) (tgt := 42) (by decide +kernel) (by decide) ?_
        exact sf_weak [1, 2, 0] rfl (t_Fits_holds_42 hd hf)
    · refine sf_blk [(.iconst (0), 0, 0, .int (0 : Int32))] (lv' := [(0, .ref a0), (1, .int a1)]) (st' := [.int (0 : Int32)]) (M1 := M) (ob := []) (pc' := 11) (by decide +kernel) rfl rfl sw_a0 ?_
      cases hf
      exact sf_bool rfl rfl (by decide +kernel)
theorem o_Fits_holds (g : sw_G) {d : Nat} (hd : 2 ≤ d) {N : Nat} {a0 : Nat} {a1 : Int32} {M : sw_M} {r : Int32 × sw_M} (hf : f_Fits_holds N a0 a1 M = some r) : sw_Ok g k_Fits_holds d [.ref a0, .int a1] M (some (.int r.1)) r.2 := sf_met (by decide +kernel) rfl (by decide) (Nat.le_of_ble_eq_true rfl) (t_Fits_holds hd hf)
def f_Fits_allHold_34 (N : Nat) (k2 : Nat → Int32 → sw_M → Option (Int32 × sw_M)) (a0 : Nat) (a1 : Int32) (M : sw_M) : Option (Int32 × sw_M) :=
  k2 a0 (a1 + (1 : Int32)) M
set_option maxRecDepth 10000 in
theorem t_Fits_allHold_34 {g : sw_G} {d n0 : Nat} (hd : 3 ≤ d) {r : Int32 × sw_M} (k2 : Nat → Int32 → sw_M → Option (Int32 × sw_M)) (hk2 : ∀ (a0 : Nat) (a1 : Int32) (M : sw_M), k2 a0 a1 M = some r → sw_F g k_Fits_allHold d n0 (some (.int r.1)) r.2 2 [(0, .ref a0), (1, .int a1)] [] M) {N : Nat} {a0 : Nat} {a1 : Int32} {M : sw_M} (hf : f_Fits_allHold_34 N k2 a0 a1 M = some r) : sw_F g k_Fits_allHold d n0 (some (.int r.1)) r.2 34 [(0, .ref a0), (1, .int a1)] [] M := by
  unfold f_Fits_allHold_34 at hf
  refine sf_blk [(.iinc 1 (1), 0, 0, .int (1 : Int32))] (lv' := [(1, .int (a1 + (1 : Int32))), (0, .ref a0)]) (st' := []) (M1 := M) (ob := []) (pc' := 37) (by decide +kernel) rfl rfl sw_a0 ?_
  refine sf_goto (off := -35) (tgt := 2) (by decide +kernel) (by decide) ?_
  exact sf_weak [1, 0] rfl (hk2 _ _ _ hf)
def f_Fits_allHold_2 (N : Nat) : Nat → Nat → Int32 → sw_M → Option (Int32 × sw_M)
  | 0, _, _, _ => none
  | j + 1, a0, a1, M =>
  sw_gd [sw_ok M a0 1] (sw_gd [sw_ok M (rd_R M a0 1) 3] (if (rd_I M (rd_R M a0 1) 5) ≤ a1 then some ((1 : Int32), M)
  else (f_Notes_isSight N (rd_R M a0 1) a1 M).bind (fun u3 => if u3.1 = 0 then f_Fits_allHold_34 N (f_Fits_allHold_2 N j) a0 a1 u3.2
  else sw_gd [sw_ok u3.2 a0 1] ((f_Fits_holds N a0 a1 u3.2).bind (fun u5 => if u5.1 = 0 then some ((0 : Int32), u5.2)
  else f_Fits_allHold_34 N (f_Fits_allHold_2 N j) a0 a1 u5.2)))))
set_option maxRecDepth 10000 in
theorem t_Fits_allHold_2 {g : sw_G} {d n0 : Nat} (hd : 3 ≤ d) {r : Int32 × sw_M} {N : Nat} : ∀ (j : Nat) (a0 : Nat) (a1 : Int32) (M : sw_M), f_Fits_allHold_2 N j a0 a1 M = some r → sw_F g k_Fits_allHold d n0 (some (.int r.1)) r.2 2 [(0, .ref a0), (1, .int a1)] [] M := by
  intro j
  induction j with
  | zero =>
    intro a0 a1 M hf
    rw [f_Fits_allHold_2] at hf
    cases hf
  | succ j ih =>
    intro a0 a1 M hf
    rw [f_Fits_allHold_2] at hf
    obtain ⟨h1, hf⟩ := sw_gd_1 hf
    obtain ⟨h2, hf⟩ := sw_gd_1 hf
    refine sf_blk [(.iload_n 1, 0, 0, .null), (.aload_n 0, 0, 0, .null), (.getfield 38, 1, 1, .null), (.getfield 101, 3, 5, .null)] (lv' := [(0, .ref a0), (1, .int a1)]) (st' := [.int (rd_I M (rd_R M a0 1) 5), .int a1]) (M1 := M) (ob := [sw_ok M a0 1, sw_ok M (rd_R M a0 1) 3]) (pc' := 10) (by decide +kernel) rfl rfl (sw_a1 h1 (sw_a1 h2 sw_a0)) ?_
    refine sf_j_ge (off := 30) (tgt := 40) (by decide +kernel) (by decide) hf (fun hc hf => ?_) (fun hc hf => ?_)
    · refine sf_blk [(.iconst (1), 0, 0, .int (1 : Int32))] (lv' := [(0, .ref a0), (1, .int a1)]) (st' := [.int (1 : Int32)]) (M1 := M) (ob := []) (pc' := 41) (by decide +kernel) rfl rfl sw_a0 ?_
      cases hf
      exact sf_bool rfl rfl (by decide +kernel)
    · refine sf_blk [(.aload_n 0, 0, 0, .null), (.getfield 38, 1, 1, .null), (.iload_n 1, 0, 0, .null)] (lv' := [(0, .ref a0), (1, .int a1)]) (st' := [.int a1, .ref (rd_R M a0 1)]) (M1 := M) (ob := [sw_ok M a0 1]) (pc' := 18) (by decide +kernel) rfl rfl (sw_a1 h1 sw_a0) ?_
      obtain ⟨u3, hu3, hf⟩ := sw_bnd hf
      refine sf_callV (i := 95) (k2 := k_Notes_isSight) (d2 := d - 1) (As := [.int a1]) (st := []) (q := (rd_R M a0 1)) (ci := 3) mf_Notes_isSight mi_Notes_isSight ms_Notes_isSight (sw_m5 49 (by decide +kernel)) rfl (by decide) (by decide +kernel) rfl (Nat.le_of_ble_eq_true rfl) (by omega) h2 (o_Notes_isSight g (d := d - 1) (by omega) hu3) ?_
      show sw_F _ _ _ _ _ _ 21 [(0, .ref a0), (1, .int a1)] [.int u3.1] u3.2
      refine sf_z_eq (off := 13) (tgt := 34) (by decide +kernel) (by decide) hf (fun hc hf => ?_) (fun hc hf => ?_)
      · exact sf_weak [0, 1] rfl (t_Fits_allHold_34 hd _ ih hf)
      · obtain ⟨h4, hf⟩ := sw_gd_1 hf
        refine sf_blk [(.aload_n 0, 0, 0, .null), (.iload_n 1, 0, 0, .null)] (lv' := [(0, .ref a0), (1, .int a1)]) (st' := [.int a1, .ref a0]) (M1 := u3.2) (ob := []) (pc' := 26) (by decide +kernel) rfl rfl sw_a0 ?_
        obtain ⟨u5, hu5, hf⟩ := sw_bnd hf
        refine sf_callV (i := 102) (k2 := k_Fits_holds) (d2 := d - 1) (As := [.int a1]) (st := []) (q := a0) (ci := 1) mf_Fits_holds mi_Fits_holds ms_Fits_holds (sw_m5 57 (by decide +kernel)) rfl (by decide) (by decide +kernel) rfl (Nat.le_of_ble_eq_true rfl) (by omega) h4 (o_Fits_holds g (d := d - 1) (by omega) hu5) ?_
        show sw_F _ _ _ _ _ _ 29 [(0, .ref a0), (1, .int a1)] [.int u5.1] u5.2
        refine sf_z_ne (off := 5) (tgt := 34) (by decide +kernel) (by decide) hf (fun hc hf => ?_) (fun hc hf => ?_)
        · exact sf_weak [0, 1] rfl (t_Fits_allHold_34 hd _ ih hf)
        · refine sf_blk [(.iconst (0), 0, 0, .int (0 : Int32))] (lv' := [(0, .ref a0), (1, .int a1)]) (st' := [.int (0 : Int32)]) (M1 := u5.2) (ob := []) (pc' := 33) (by decide +kernel) rfl rfl sw_a0 ?_
          cases hf
          exact sf_bool rfl rfl (by decide +kernel)
def f_Fits_allHold (N : Nat) (a0 : Nat) (M : sw_M) : Option (Int32 × sw_M) :=
  f_Fits_allHold_2 N N a0 (0 : Int32) M
set_option maxRecDepth 10000 in
theorem t_Fits_allHold {g : sw_G} {d n0 : Nat} (hd : 3 ≤ d) {r : Int32 × sw_M} {N : Nat} {a0 : Nat} {M : sw_M} (hf : f_Fits_allHold N a0 M = some r) : sw_F g k_Fits_allHold d n0 (some (.int r.1)) r.2 0 [(0, .ref a0)] [] M := by
  unfold f_Fits_allHold at hf
  refine sf_blk [(.iconst (0), 0, 0, .int (0 : Int32)), (.istore_n 1, 0, 0, .null)] (lv' := [(1, .int (0 : Int32)), (0, .ref a0)]) (st' := []) (M1 := M) (ob := []) (pc' := 2) (by decide +kernel) rfl rfl sw_a0 ?_
  exact sf_weak [1, 0] rfl (t_Fits_allHold_2 hd _ _ _ _ hf)
theorem o_Fits_allHold (g : sw_G) {d : Nat} (hd : 3 ≤ d) {N : Nat} {a0 : Nat} {M : sw_M} {r : Int32 × sw_M} (hf : f_Fits_allHold N a0 M = some r) : sw_Ok g k_Fits_allHold d [.ref a0] M (some (.int r.1)) r.2 := sf_met (by decide +kernel) rfl (by decide) (Nat.le_of_ble_eq_true rfl) (t_Fits_allHold hd hf)
def f_Fits_shift_94 (N : Nat) (M : sw_M) : Option (Int32 × sw_M) :=
  some ((1 : Int32), M)
set_option maxRecDepth 10000 in
theorem t_Fits_shift_94 {g : sw_G} {d n0 : Nat} (hd : 1 ≤ d) {r : Int32 × sw_M} {N : Nat} {M : sw_M} (hf : f_Fits_shift_94 N M = some r) : sw_F g k_Fits_shift d n0 (some (.int r.1)) r.2 94 [] [] M := by
  unfold f_Fits_shift_94 at hf
  refine sf_blk [(.iconst (1), 0, 0, .int (1 : Int32))] (lv' := []) (st' := [.int (1 : Int32)]) (M1 := M) (ob := []) (pc' := 95) (by decide +kernel) rfl rfl sw_a0 ?_
  cases hf
  exact sf_bool rfl rfl (by decide +kernel)
def f_Fits_shift_31 (N : Nat) (a0 : Nat) (a1 : Int32) (M : sw_M) : Option (Int32 × sw_M) :=
  if 0 ≤ a1 then sw_gd [sw_ok M a0 1] (sw_gd [sw_ar M (rd_R M a0 3) 13 ((rd_I M a0 4) - (1 : Int32))] (sw_gd [sw_ar M (rd_R M a0 2) 13 (rd_I M (rd_R M a0 3) ((rd_I M a0 4) - (1 : Int32)).toNatClampNeg)] (sw_gd [sw_ar (wr_I M (rd_R M a0 2) (rd_I M (rd_R M a0 3) ((rd_I M a0 4) - (1 : Int32)).toNatClampNeg).toNatClampNeg (0 : Int32)) (rd_R (wr_I M (rd_R M a0 2) (rd_I M (rd_R M a0 3) ((rd_I M a0 4) - (1 : Int32)).toNatClampNeg).toNatClampNeg (0 : Int32)) a0 3) 13 a1] (sw_gd [sw_ar (wr_I M (rd_R M a0 2) (rd_I M (rd_R M a0 3) ((rd_I M a0 4) - (1 : Int32)).toNatClampNeg).toNatClampNeg (0 : Int32)) (rd_R (wr_I M (rd_R M a0 2) (rd_I M (rd_R M a0 3) ((rd_I M a0 4) - (1 : Int32)).toNatClampNeg).toNatClampNeg (0 : Int32)) a0 2) 13 (rd_I (wr_I M (rd_R M a0 2) (rd_I M (rd_R M a0 3) ((rd_I M a0 4) - (1 : Int32)).toNatClampNeg).toNatClampNeg (0 : Int32)) (rd_R (wr_I M (rd_R M a0 2) (rd_I M (rd_R M a0 3) ((rd_I M a0 4) - (1 : Int32)).toNatClampNeg).toNatClampNeg (0 : Int32)) a0 3) a1.toNatClampNeg)] (sw_gd [sw_ar (wr_I (wr_I M (rd_R M a0 2) (rd_I M (rd_R M a0 3) ((rd_I M a0 4) - (1 : Int32)).toNatClampNeg).toNatClampNeg (0 : Int32)) (rd_R (wr_I M (rd_R M a0 2) (rd_I M (rd_R M a0 3) ((rd_I M a0 4) - (1 : Int32)).toNatClampNeg).toNatClampNeg (0 : Int32)) a0 2) (rd_I (wr_I M (rd_R M a0 2) (rd_I M (rd_R M a0 3) ((rd_I M a0 4) - (1 : Int32)).toNatClampNeg).toNatClampNeg (0 : Int32)) (rd_R (wr_I M (rd_R M a0 2) (rd_I M (rd_R M a0 3) ((rd_I M a0 4) - (1 : Int32)).toNatClampNeg).toNatClampNeg (0 : Int32)) a0 3) a1.toNatClampNeg).toNatClampNeg ((rd_I (wr_I M (rd_R M a0 2) (rd_I M (rd_R M a0 3) ((rd_I M a0 4) - (1 : Int32)).toNatClampNeg).toNatClampNeg (0 : Int32)) (rd_R (wr_I M (rd_R M a0 2) (rd_I M (rd_R M a0 3) ((rd_I M a0 4) - (1 : Int32)).toNatClampNeg).toNatClampNeg (0 : Int32)) a0 2) (rd_I (wr_I M (rd_R M a0 2) (rd_I M (rd_R M a0 3) ((rd_I M a0 4) - (1 : Int32)).toNatClampNeg).toNatClampNeg (0 : Int32)) (rd_R (wr_I M (rd_R M a0 2) (rd_I M (rd_R M a0 3) ((rd_I M a0 4) - (1 : Int32)).toNatClampNeg).toNatClampNeg (0 : Int32)) a0 3) a1.toNatClampNeg).toNatClampNeg) - (1 : Int32))) (rd_R (wr_I (wr_I M (rd_R M a0 2) (rd_I M (rd_R M a0 3) ((rd_I M a0 4) - (1 : Int32)).toNatClampNeg).toNatClampNeg (0 : Int32)) (rd_R (wr_I M (rd_R M a0 2) (rd_I M (rd_R M a0 3) ((rd_I M a0 4) - (1 : Int32)).toNatClampNeg).toNatClampNeg (0 : Int32)) a0 2) (rd_I (wr_I M (rd_R M a0 2) (rd_I M (rd_R M a0 3) ((rd_I M a0 4) - (1 : Int32)).toNatClampNeg).toNatClampNeg (0 : Int32)) (rd_R (wr_I M (rd_R M a0 2) (rd_I M (rd_R M a0 3) ((rd_I M a0 4) - (1 : Int32)).toNatClampNeg).toNatClampNeg (0 : Int32)) a0 3) a1.toNatClampNeg).toNatClampNeg ((rd_I (wr_I M (rd_R M a0 2) (rd_I M (rd_R M a0 3) ((rd_I M a0 4) - (1 : Int32)).toNatClampNeg).toNatClampNeg (0 : Int32)) (rd_R (wr_I M (rd_R M a0 2) (rd_I M (rd_R M a0 3) ((rd_I M a0 4) - (1 : Int32)).toNatClampNeg).toNatClampNeg (0 : Int32)) a0 2) (rd_I (wr_I M (rd_R M a0 2) (rd_I M (rd_R M a0 3) ((rd_I M a0 4) - (1 : Int32)).toNatClampNeg).toNatClampNeg (0 : Int32)) (rd_R (wr_I M (rd_R M a0 2) (rd_I M (rd_R M a0 3) ((rd_I M a0 4) - (1 : Int32)).toNatClampNeg).toNatClampNeg (0 : Int32)) a0 3) a1.toNatClampNeg).toNatClampNeg) - (1 : Int32))) a0 3) 13 (a1 + (1 : Int32))] (sw_gd [sw_ar (wr_I (wr_I M (rd_R M a0 2) (rd_I M (rd_R M a0 3) ((rd_I M a0 4) - (1 : Int32)).toNatClampNeg).toNatClampNeg (0 : Int32)) (rd_R (wr_I M (rd_R M a0 2) (rd_I M (rd_R M a0 3) ((rd_I M a0 4) - (1 : Int32)).toNatClampNeg).toNatClampNeg (0 : Int32)) a0 2) (rd_I (wr_I M (rd_R M a0 2) (rd_I M (rd_R M a0 3) ((rd_I M a0 4) - (1 : Int32)).toNatClampNeg).toNatClampNeg (0 : Int32)) (rd_R (wr_I M (rd_R M a0 2) (rd_I M (rd_R M a0 3) ((rd_I M a0 4) - (1 : Int32)).toNatClampNeg).toNatClampNeg (0 : Int32)) a0 3) a1.toNatClampNeg).toNatClampNeg ((rd_I (wr_I M (rd_R M a0 2) (rd_I M (rd_R M a0 3) ((rd_I M a0 4) - (1 : Int32)).toNatClampNeg).toNatClampNeg (0 : Int32)) (rd_R (wr_I M (rd_R M a0 2) (rd_I M (rd_R M a0 3) ((rd_I M a0 4) - (1 : Int32)).toNatClampNeg).toNatClampNeg (0 : Int32)) a0 2) (rd_I (wr_I M (rd_R M a0 2) (rd_I M (rd_R M a0 3) ((rd_I M a0 4) - (1 : Int32)).toNatClampNeg).toNatClampNeg (0 : Int32)) (rd_R (wr_I M (rd_R M a0 2) (rd_I M (rd_R M a0 3) ((rd_I M a0 4) - (1 : Int32)).toNatClampNeg).toNatClampNeg (0 : Int32)) a0 3) a1.toNatClampNeg).toNatClampNeg) - (1 : Int32))) (rd_R (wr_I (wr_I M (rd_R M a0 2) (rd_I M (rd_R M a0 3) ((rd_I M a0 4) - (1 : Int32)).toNatClampNeg).toNatClampNeg (0 : Int32)) (rd_R (wr_I M (rd_R M a0 2) (rd_I M (rd_R M a0 3) ((rd_I M a0 4) - (1 : Int32)).toNatClampNeg).toNatClampNeg (0 : Int32)) a0 2) (rd_I (wr_I M (rd_R M a0 2) (rd_I M (rd_R M a0 3) ((rd_I M a0 4) - (1 : Int32)).toNatClampNeg).toNatClampNeg (0 : Int32)) (rd_R (wr_I M (rd_R M a0 2) (rd_I M (rd_R M a0 3) ((rd_I M a0 4) - (1 : Int32)).toNatClampNeg).toNatClampNeg (0 : Int32)) a0 3) a1.toNatClampNeg).toNatClampNeg ((rd_I (wr_I M (rd_R M a0 2) (rd_I M (rd_R M a0 3) ((rd_I M a0 4) - (1 : Int32)).toNatClampNeg).toNatClampNeg (0 : Int32)) (rd_R (wr_I M (rd_R M a0 2) (rd_I M (rd_R M a0 3) ((rd_I M a0 4) - (1 : Int32)).toNatClampNeg).toNatClampNeg (0 : Int32)) a0 2) (rd_I (wr_I M (rd_R M a0 2) (rd_I M (rd_R M a0 3) ((rd_I M a0 4) - (1 : Int32)).toNatClampNeg).toNatClampNeg (0 : Int32)) (rd_R (wr_I M (rd_R M a0 2) (rd_I M (rd_R M a0 3) ((rd_I M a0 4) - (1 : Int32)).toNatClampNeg).toNatClampNeg (0 : Int32)) a0 3) a1.toNatClampNeg).toNatClampNeg) - (1 : Int32))) a0 2) 13 (rd_I (wr_I (wr_I M (rd_R M a0 2) (rd_I M (rd_R M a0 3) ((rd_I M a0 4) - (1 : Int32)).toNatClampNeg).toNatClampNeg (0 : Int32)) (rd_R (wr_I M (rd_R M a0 2) (rd_I M (rd_R M a0 3) ((rd_I M a0 4) - (1 : Int32)).toNatClampNeg).toNatClampNeg (0 : Int32)) a0 2) (rd_I (wr_I M (rd_R M a0 2) (rd_I M (rd_R M a0 3) ((rd_I M a0 4) - (1 : Int32)).toNatClampNeg).toNatClampNeg (0 : Int32)) (rd_R (wr_I M (rd_R M a0 2) (rd_I M (rd_R M a0 3) ((rd_I M a0 4) - (1 : Int32)).toNatClampNeg).toNatClampNeg (0 : Int32)) a0 3) a1.toNatClampNeg).toNatClampNeg ((rd_I (wr_I M (rd_R M a0 2) (rd_I M (rd_R M a0 3) ((rd_I M a0 4) - (1 : Int32)).toNatClampNeg).toNatClampNeg (0 : Int32)) (rd_R (wr_I M (rd_R M a0 2) (rd_I M (rd_R M a0 3) ((rd_I M a0 4) - (1 : Int32)).toNatClampNeg).toNatClampNeg (0 : Int32)) a0 2) (rd_I (wr_I M (rd_R M a0 2) (rd_I M (rd_R M a0 3) ((rd_I M a0 4) - (1 : Int32)).toNatClampNeg).toNatClampNeg (0 : Int32)) (rd_R (wr_I M (rd_R M a0 2) (rd_I M (rd_R M a0 3) ((rd_I M a0 4) - (1 : Int32)).toNatClampNeg).toNatClampNeg (0 : Int32)) a0 3) a1.toNatClampNeg).toNatClampNeg) - (1 : Int32))) (rd_R (wr_I (wr_I M (rd_R M a0 2) (rd_I M (rd_R M a0 3) ((rd_I M a0 4) - (1 : Int32)).toNatClampNeg).toNatClampNeg (0 : Int32)) (rd_R (wr_I M (rd_R M a0 2) (rd_I M (rd_R M a0 3) ((rd_I M a0 4) - (1 : Int32)).toNatClampNeg).toNatClampNeg (0 : Int32)) a0 2) (rd_I (wr_I M (rd_R M a0 2) (rd_I M (rd_R M a0 3) ((rd_I M a0 4) - (1 : Int32)).toNatClampNeg).toNatClampNeg (0 : Int32)) (rd_R (wr_I M (rd_R M a0 2) (rd_I M (rd_R M a0 3) ((rd_I M a0 4) - (1 : Int32)).toNatClampNeg).toNatClampNeg (0 : Int32)) a0 3) a1.toNatClampNeg).toNatClampNeg ((rd_I (wr_I M (rd_R M a0 2) (rd_I M (rd_R M a0 3) ((rd_I M a0 4) - (1 : Int32)).toNatClampNeg).toNatClampNeg (0 : Int32)) (rd_R (wr_I M (rd_R M a0 2) (rd_I M (rd_R M a0 3) ((rd_I M a0 4) - (1 : Int32)).toNatClampNeg).toNatClampNeg (0 : Int32)) a0 2) (rd_I (wr_I M (rd_R M a0 2) (rd_I M (rd_R M a0 3) ((rd_I M a0 4) - (1 : Int32)).toNatClampNeg).toNatClampNeg (0 : Int32)) (rd_R (wr_I M (rd_R M a0 2) (rd_I M (rd_R M a0 3) ((rd_I M a0 4) - (1 : Int32)).toNatClampNeg).toNatClampNeg (0 : Int32)) a0 3) a1.toNatClampNeg).toNatClampNeg) - (1 : Int32))) a0 3) (a1 + (1 : Int32)).toNatClampNeg)] (f_Fits_shift_94 N (wr_I (wr_I (wr_I M (rd_R M a0 2) (rd_I M (rd_R M a0 3) ((rd_I M a0 4) - (1 : Int32)).toNatClampNeg).toNatClampNeg (0 : Int32)) (rd_R (wr_I M (rd_R M a0 2) (rd_I M (rd_R M a0 3) ((rd_I M a0 4) - (1 : Int32)).toNatClampNeg).toNatClampNeg (0 : Int32)) a0 2) (rd_I (wr_I M (rd_R M a0 2) (rd_I M (rd_R M a0 3) ((rd_I M a0 4) - (1 : Int32)).toNatClampNeg).toNatClampNeg (0 : Int32)) (rd_R (wr_I M (rd_R M a0 2) (rd_I M (rd_R M a0 3) ((rd_I M a0 4) - (1 : Int32)).toNatClampNeg).toNatClampNeg (0 : Int32)) a0 3) a1.toNatClampNeg).toNatClampNeg ((rd_I (wr_I M (rd_R M a0 2) (rd_I M (rd_R M a0 3) ((rd_I M a0 4) - (1 : Int32)).toNatClampNeg).toNatClampNeg (0 : Int32)) (rd_R (wr_I M (rd_R M a0 2) (rd_I M (rd_R M a0 3) ((rd_I M a0 4) - (1 : Int32)).toNatClampNeg).toNatClampNeg (0 : Int32)) a0 2) (rd_I (wr_I M (rd_R M a0 2) (rd_I M (rd_R M a0 3) ((rd_I M a0 4) - (1 : Int32)).toNatClampNeg).toNatClampNeg (0 : Int32)) (rd_R (wr_I M (rd_R M a0 2) (rd_I M (rd_R M a0 3) ((rd_I M a0 4) - (1 : Int32)).toNatClampNeg).toNatClampNeg (0 : Int32)) a0 3) a1.toNatClampNeg).toNatClampNeg) - (1 : Int32))) (rd_R (wr_I (wr_I M (rd_R M a0 2) (rd_I M (rd_R M a0 3) ((rd_I M a0 4) - (1 : Int32)).toNatClampNeg).toNatClampNeg (0 : Int32)) (rd_R (wr_I M (rd_R M a0 2) (rd_I M (rd_R M a0 3) ((rd_I M a0 4) - (1 : Int32)).toNatClampNeg).toNatClampNeg (0 : Int32)) a0 2) (rd_I (wr_I M (rd_R M a0 2) (rd_I M (rd_R M a0 3) ((rd_I M a0 4) - (1 : Int32)).toNatClampNeg).toNatClampNeg (0 : Int32)) (rd_R (wr_I M (rd_R M a0 2) (rd_I M (rd_R M a0 3) ((rd_I M a0 4) - (1 : Int32)).toNatClampNeg).toNatClampNeg (0 : Int32)) a0 3) a1.toNatClampNeg).toNatClampNeg ((rd_I (wr_I M (rd_R M a0 2) (rd_I M (rd_R M a0 3) ((rd_I M a0 4) - (1 : Int32)).toNatClampNeg).toNatClampNeg (0 : Int32)) (rd_R (wr_I M (rd_R M a0 2) (rd_I M (rd_R M a0 3) ((rd_I M a0 4) - (1 : Int32)).toNatClampNeg).toNatClampNeg (0 : Int32)) a0 2) (rd_I (wr_I M (rd_R M a0 2) (rd_I M (rd_R M a0 3) ((rd_I M a0 4) - (1 : Int32)).toNatClampNeg).toNatClampNeg (0 : Int32)) (rd_R (wr_I M (rd_R M a0 2) (rd_I M (rd_R M a0 3) ((rd_I M a0 4) - (1 : Int32)).toNatClampNeg).toNatClampNeg (0 : Int32)) a0 3) a1.toNatClampNeg).toNatClampNeg) - (1 : Int32))) a0 2) (rd_I (wr_I (wr_I M (rd_R M a0 2) (rd_I M (rd_R M a0 3) ((rd_I M a0 4) - (1 : Int32)).toNatClampNeg).toNatClampNeg (0 : Int32)) (rd_R (wr_I M (rd_R M a0 2) (rd_I M (rd_R M a0 3) ((rd_I M a0 4) - (1 : Int32)).toNatClampNeg).toNatClampNeg (0 : Int32)) a0 2) (rd_I (wr_I M (rd_R M a0 2) (rd_I M (rd_R M a0 3) ((rd_I M a0 4) - (1 : Int32)).toNatClampNeg).toNatClampNeg (0 : Int32)) (rd_R (wr_I M (rd_R M a0 2) (rd_I M (rd_R M a0 3) ((rd_I M a0 4) - (1 : Int32)).toNatClampNeg).toNatClampNeg (0 : Int32)) a0 3) a1.toNatClampNeg).toNatClampNeg ((rd_I (wr_I M (rd_R M a0 2) (rd_I M (rd_R M a0 3) ((rd_I M a0 4) - (1 : Int32)).toNatClampNeg).toNatClampNeg (0 : Int32)) (rd_R (wr_I M (rd_R M a0 2) (rd_I M (rd_R M a0 3) ((rd_I M a0 4) - (1 : Int32)).toNatClampNeg).toNatClampNeg (0 : Int32)) a0 2) (rd_I (wr_I M (rd_R M a0 2) (rd_I M (rd_R M a0 3) ((rd_I M a0 4) - (1 : Int32)).toNatClampNeg).toNatClampNeg (0 : Int32)) (rd_R (wr_I M (rd_R M a0 2) (rd_I M (rd_R M a0 3) ((rd_I M a0 4) - (1 : Int32)).toNatClampNeg).toNatClampNeg (0 : Int32)) a0 3) a1.toNatClampNeg).toNatClampNeg) - (1 : Int32))) (rd_R (wr_I (wr_I M (rd_R M a0 2) (rd_I M (rd_R M a0 3) ((rd_I M a0 4) - (1 : Int32)).toNatClampNeg).toNatClampNeg (0 : Int32)) (rd_R (wr_I M (rd_R M a0 2) (rd_I M (rd_R M a0 3) ((rd_I M a0 4) - (1 : Int32)).toNatClampNeg).toNatClampNeg (0 : Int32)) a0 2) (rd_I (wr_I M (rd_R M a0 2) (rd_I M (rd_R M a0 3) ((rd_I M a0 4) - (1 : Int32)).toNatClampNeg).toNatClampNeg (0 : Int32)) (rd_R (wr_I M (rd_R M a0 2) (rd_I M (rd_R M a0 3) ((rd_I M a0 4) - (1 : Int32)).toNatClampNeg).toNatClampNeg (0 : Int32)) a0 3) a1.toNatClampNeg).toNatClampNeg ((rd_I (wr_I M (rd_R M a0 2) (rd_I M (rd_R M a0 3) ((rd_I M a0 4) - (1 : Int32)).toNatClampNeg).toNatClampNeg (0 : Int32)) (rd_R (wr_I M (rd_R M a0 2) (rd_I M (rd_R M a0 3) ((rd_I M a0 4) - (1 : Int32)).toNatClampNeg).toNatClampNeg (0 : Int32)) a0 2) (rd_I (wr_I M (rd_R M a0 2) (rd_I M (rd_R M a0 3) ((rd_I M a0 4) - (1 : Int32)).toNatClampNeg).toNatClampNeg (0 : Int32)) (rd_R (wr_I M (rd_R M a0 2) (rd_I M (rd_R M a0 3) ((rd_I M a0 4) - (1 : Int32)).toNatClampNeg).toNatClampNeg (0 : Int32)) a0 3) a1.toNatClampNeg).toNatClampNeg) - (1 : Int32))) a0 3) (a1 + (1 : Int32)).toNatClampNeg).toNatClampNeg ((rd_I M (rd_R M a0 2) (rd_I M (rd_R M a0 3) ((rd_I M a0 4) - (1 : Int32)).toNatClampNeg).toNatClampNeg) + (1 : Int32))))))))))
  else some ((0 : Int32), M)
set_option maxRecDepth 10000 in
theorem t_Fits_shift_31 {g : sw_G} {d n0 : Nat} (hd : 1 ≤ d) {r : Int32 × sw_M} {N : Nat} {a0 : Nat} {a1 : Int32} {M : sw_M} (hf : f_Fits_shift_31 N a0 a1 M = some r) : sw_F g k_Fits_shift d n0 (some (.int r.1)) r.2 31 [(0, .ref a0), (1, .int a1)] [] M := by
  unfold f_Fits_shift_31 at hf
  refine sf_blk [(.iload_n 1, 0, 0, .null)] (lv' := [(0, .ref a0), (1, .int a1)]) (st' := [.int a1]) (M1 := M) (ob := []) (pc' := 32) (by decide +kernel) rfl rfl sw_a0 ?_
  refine sf_z_ge (off := 5) (tgt := 37) (by decide +kernel) (by decide) hf (fun hc hf => ?_) (fun hc hf => ?_)
  · obtain ⟨h1, hf⟩ := sw_gd_1 hf
    obtain ⟨h2, hf⟩ := sw_gd_1 hf
    obtain ⟨h3, hf⟩ := sw_gd_1 hf
    obtain ⟨h4, hf⟩ := sw_gd_1 hf
    obtain ⟨h5, hf⟩ := sw_gd_1 hf
    obtain ⟨h6, hf⟩ := sw_gd_1 hf
    obtain ⟨h7, hf⟩ := sw_gd_1 hf
    refine sf_blk [(.aload_n 0, 0, 0, .null), (.getfield 15, 1, 3, .null), (.aload_n 0, 0, 0, .null), (.getfield 56, 1, 4, .null), (.iconst (1), 0, 0, .int (1 : Int32)), (.isub, 0, 0, .null), (.iaload, 0, 0, .null), (.istore_n 2, 0, 0, .null), (.aload_n 0, 0, 0, .null), (.getfield 9, 1, 2, .null), (.iload_n 2, 0, 0, .null), (.iaload, 0, 0, .null), (.iconst (1), 0, 0, .int (1 : Int32)), (.iadd, 0, 0, .null), (.istore_n 3, 0, 0, .null), (.aload_n 0, 0, 0, .null), (.getfield 9, 1, 2, .null), (.iload_n 2, 0, 0, .null), (.iconst (0), 0, 0, .int (0 : Int32)), (.iastore, 0, 0, .null), (.aload_n 0, 0, 0, .null), (.getfield 9, 1, 2, .null), (.aload_n 0, 0, 0, .null), (.getfield 15, 1, 3, .null), (.iload_n 1, 0, 0, .null), (.iaload, 0, 0, .null), (.dup2, 0, 0, .null), (.iaload, 0, 0, .null), (.iconst (1), 0, 0, .int (1 : Int32)), (.isub, 0, 0, .null), (.iastore, 0, 0, .null), (.aload_n 0, 0, 0, .null), (.getfield 9, 1, 2, .null), (.aload_n 0, 0, 0, .null), (.getfield 15, 1, 3, .null), (.iload_n 1, 0, 0, .null), (.iconst (1), 0, 0, .int (1 : Int32)), (.iadd, 0, 0, .null), (.iaload, 0, 0, .null), (.iload_n 3, 0, 0, .null), (.iastore, 0, 0, .null)] (lv' := [(3, .int ((rd_I M (rd_R M a0 2) (rd_I M (rd_R M a0 3) ((rd_I M a0 4) - (1 : Int32)).toNatClampNeg).toNatClampNeg) + (1 : Int32))), (2, .int (rd_I M (rd_R M a0 3) ((rd_I M a0 4) - (1 : Int32)).toNatClampNeg)), (0, .ref a0), (1, .int a1)]) (st' := []) (M1 := (wr_I (wr_I (wr_I M (rd_R M a0 2) (rd_I M (rd_R M a0 3) ((rd_I M a0 4) - (1 : Int32)).toNatClampNeg).toNatClampNeg (0 : Int32)) (rd_R (wr_I M (rd_R M a0 2) (rd_I M (rd_R M a0 3) ((rd_I M a0 4) - (1 : Int32)).toNatClampNeg).toNatClampNeg (0 : Int32)) a0 2) (rd_I (wr_I M (rd_R M a0 2) (rd_I M (rd_R M a0 3) ((rd_I M a0 4) - (1 : Int32)).toNatClampNeg).toNatClampNeg (0 : Int32)) (rd_R (wr_I M (rd_R M a0 2) (rd_I M (rd_R M a0 3) ((rd_I M a0 4) - (1 : Int32)).toNatClampNeg).toNatClampNeg (0 : Int32)) a0 3) a1.toNatClampNeg).toNatClampNeg ((rd_I (wr_I M (rd_R M a0 2) (rd_I M (rd_R M a0 3) ((rd_I M a0 4) - (1 : Int32)).toNatClampNeg).toNatClampNeg (0 : Int32)) (rd_R (wr_I M (rd_R M a0 2) (rd_I M (rd_R M a0 3) ((rd_I M a0 4) - (1 : Int32)).toNatClampNeg).toNatClampNeg (0 : Int32)) a0 2) (rd_I (wr_I M (rd_R M a0 2) (rd_I M (rd_R M a0 3) ((rd_I M a0 4) - (1 : Int32)).toNatClampNeg).toNatClampNeg (0 : Int32)) (rd_R (wr_I M (rd_R M a0 2) (rd_I M (rd_R M a0 3) ((rd_I M a0 4) - (1 : Int32)).toNatClampNeg).toNatClampNeg (0 : Int32)) a0 3) a1.toNatClampNeg).toNatClampNeg) - (1 : Int32))) (rd_R (wr_I (wr_I M (rd_R M a0 2) (rd_I M (rd_R M a0 3) ((rd_I M a0 4) - (1 : Int32)).toNatClampNeg).toNatClampNeg (0 : Int32)) (rd_R (wr_I M (rd_R M a0 2) (rd_I M (rd_R M a0 3) ((rd_I M a0 4) - (1 : Int32)).toNatClampNeg).toNatClampNeg (0 : Int32)) a0 2) (rd_I (wr_I M (rd_R M a0 2) (rd_I M (rd_R M a0 3) ((rd_I M a0 4) - (1 : Int32)).toNatClampNeg).toNatClampNeg (0 : Int32)) (rd_R (wr_I M (rd_R M a0 2) (rd_I M (rd_R M a0 3) ((rd_I M a0 4) - (1 : Int32)).toNatClampNeg).toNatClampNeg (0 : Int32)) a0 3) a1.toNatClampNeg).toNatClampNeg ((rd_I (wr_I M (rd_R M a0 2) (rd_I M (rd_R M a0 3) ((rd_I M a0 4) - (1 : Int32)).toNatClampNeg).toNatClampNeg (0 : Int32)) (rd_R (wr_I M (rd_R M a0 2) (rd_I M (rd_R M a0 3) ((rd_I M a0 4) - (1 : Int32)).toNatClampNeg).toNatClampNeg (0 : Int32)) a0 2) (rd_I (wr_I M (rd_R M a0 2) (rd_I M (rd_R M a0 3) ((rd_I M a0 4) - (1 : Int32)).toNatClampNeg).toNatClampNeg (0 : Int32)) (rd_R (wr_I M (rd_R M a0 2) (rd_I M (rd_R M a0 3) ((rd_I M a0 4) - (1 : Int32)).toNatClampNeg).toNatClampNeg (0 : Int32)) a0 3) a1.toNatClampNeg).toNatClampNeg) - (1 : Int32))) a0 2) (rd_I (wr_I (wr_I M (rd_R M a0 2) (rd_I M (rd_R M a0 3) ((rd_I M a0 4) - (1 : Int32)).toNatClampNeg).toNatClampNeg (0 : Int32)) (rd_R (wr_I M (rd_R M a0 2) (rd_I M (rd_R M a0 3) ((rd_I M a0 4) - (1 : Int32)).toNatClampNeg).toNatClampNeg (0 : Int32)) a0 2) (rd_I (wr_I M (rd_R M a0 2) (rd_I M (rd_R M a0 3) ((rd_I M a0 4) - (1 : Int32)).toNatClampNeg).toNatClampNeg (0 : Int32)) (rd_R (wr_I M (rd_R M a0 2) (rd_I M (rd_R M a0 3) ((rd_I M a0 4) - (1 : Int32)).toNatClampNeg).toNatClampNeg (0 : Int32)) a0 3) a1.toNatClampNeg).toNatClampNeg ((rd_I (wr_I M (rd_R M a0 2) (rd_I M (rd_R M a0 3) ((rd_I M a0 4) - (1 : Int32)).toNatClampNeg).toNatClampNeg (0 : Int32)) (rd_R (wr_I M (rd_R M a0 2) (rd_I M (rd_R M a0 3) ((rd_I M a0 4) - (1 : Int32)).toNatClampNeg).toNatClampNeg (0 : Int32)) a0 2) (rd_I (wr_I M (rd_R M a0 2) (rd_I M (rd_R M a0 3) ((rd_I M a0 4) - (1 : Int32)).toNatClampNeg).toNatClampNeg (0 : Int32)) (rd_R (wr_I M (rd_R M a0 2) (rd_I M (rd_R M a0 3) ((rd_I M a0 4) - (1 : Int32)).toNatClampNeg).toNatClampNeg (0 : Int32)) a0 3) a1.toNatClampNeg).toNatClampNeg) - (1 : Int32))) (rd_R (wr_I (wr_I M (rd_R M a0 2) (rd_I M (rd_R M a0 3) ((rd_I M a0 4) - (1 : Int32)).toNatClampNeg).toNatClampNeg (0 : Int32)) (rd_R (wr_I M (rd_R M a0 2) (rd_I M (rd_R M a0 3) ((rd_I M a0 4) - (1 : Int32)).toNatClampNeg).toNatClampNeg (0 : Int32)) a0 2) (rd_I (wr_I M (rd_R M a0 2) (rd_I M (rd_R M a0 3) ((rd_I M a0 4) - (1 : Int32)).toNatClampNeg).toNatClampNeg (0 : Int32)) (rd_R (wr_I M (rd_R M a0 2) (rd_I M (rd_R M a0 3) ((rd_I M a0 4) - (1 : Int32)).toNatClampNeg).toNatClampNeg (0 : Int32)) a0 3) a1.toNatClampNeg).toNatClampNeg ((rd_I (wr_I M (rd_R M a0 2) (rd_I M (rd_R M a0 3) ((rd_I M a0 4) - (1 : Int32)).toNatClampNeg).toNatClampNeg (0 : Int32)) (rd_R (wr_I M (rd_R M a0 2) (rd_I M (rd_R M a0 3) ((rd_I M a0 4) - (1 : Int32)).toNatClampNeg).toNatClampNeg (0 : Int32)) a0 2) (rd_I (wr_I M (rd_R M a0 2) (rd_I M (rd_R M a0 3) ((rd_I M a0 4) - (1 : Int32)).toNatClampNeg).toNatClampNeg (0 : Int32)) (rd_R (wr_I M (rd_R M a0 2) (rd_I M (rd_R M a0 3) ((rd_I M a0 4) - (1 : Int32)).toNatClampNeg).toNatClampNeg (0 : Int32)) a0 3) a1.toNatClampNeg).toNatClampNeg) - (1 : Int32))) a0 3) (a1 + (1 : Int32)).toNatClampNeg).toNatClampNeg ((rd_I M (rd_R M a0 2) (rd_I M (rd_R M a0 3) ((rd_I M a0 4) - (1 : Int32)).toNatClampNeg).toNatClampNeg) + (1 : Int32)))) (ob := [sw_ok M a0 1, sw_ok M a0 1, sw_ar M (rd_R M a0 3) 13 ((rd_I M a0 4) - (1 : Int32)), sw_ok M a0 1, sw_ar M (rd_R M a0 2) 13 (rd_I M (rd_R M a0 3) ((rd_I M a0 4) - (1 : Int32)).toNatClampNeg), sw_ok M a0 1, sw_ar M (rd_R M a0 2) 13 (rd_I M (rd_R M a0 3) ((rd_I M a0 4) - (1 : Int32)).toNatClampNeg), sw_ok (wr_I M (rd_R M a0 2) (rd_I M (rd_R M a0 3) ((rd_I M a0 4) - (1 : Int32)).toNatClampNeg).toNatClampNeg (0 : Int32)) a0 1, sw_ok (wr_I M (rd_R M a0 2) (rd_I M (rd_R M a0 3) ((rd_I M a0 4) - (1 : Int32)).toNatClampNeg).toNatClampNeg (0 : Int32)) a0 1, sw_ar (wr_I M (rd_R M a0 2) (rd_I M (rd_R M a0 3) ((rd_I M a0 4) - (1 : Int32)).toNatClampNeg).toNatClampNeg (0 : Int32)) (rd_R (wr_I M (rd_R M a0 2) (rd_I M (rd_R M a0 3) ((rd_I M a0 4) - (1 : Int32)).toNatClampNeg).toNatClampNeg (0 : Int32)) a0 3) 13 a1, sw_ar (wr_I M (rd_R M a0 2) (rd_I M (rd_R M a0 3) ((rd_I M a0 4) - (1 : Int32)).toNatClampNeg).toNatClampNeg (0 : Int32)) (rd_R (wr_I M (rd_R M a0 2) (rd_I M (rd_R M a0 3) ((rd_I M a0 4) - (1 : Int32)).toNatClampNeg).toNatClampNeg (0 : Int32)) a0 2) 13 (rd_I (wr_I M (rd_R M a0 2) (rd_I M (rd_R M a0 3) ((rd_I M a0 4) - (1 : Int32)).toNatClampNeg).toNatClampNeg (0 : Int32)) (rd_R (wr_I M (rd_R M a0 2) (rd_I M (rd_R M a0 3) ((rd_I M a0 4) - (1 : Int32)).toNatClampNeg).toNatClampNeg (0 : Int32)) a0 3) a1.toNatClampNeg), sw_ar (wr_I M (rd_R M a0 2) (rd_I M (rd_R M a0 3) ((rd_I M a0 4) - (1 : Int32)).toNatClampNeg).toNatClampNeg (0 : Int32)) (rd_R (wr_I M (rd_R M a0 2) (rd_I M (rd_R M a0 3) ((rd_I M a0 4) - (1 : Int32)).toNatClampNeg).toNatClampNeg (0 : Int32)) a0 2) 13 (rd_I (wr_I M (rd_R M a0 2) (rd_I M (rd_R M a0 3) ((rd_I M a0 4) - (1 : Int32)).toNatClampNeg).toNatClampNeg (0 : Int32)) (rd_R (wr_I M (rd_R M a0 2) (rd_I M (rd_R M a0 3) ((rd_I M a0 4) - (1 : Int32)).toNatClampNeg).toNatClampNeg (0 : Int32)) a0 3) a1.toNatClampNeg), sw_ok (wr_I (wr_I M (rd_R M a0 2) (rd_I M (rd_R M a0 3) ((rd_I M a0 4) - (1 : Int32)).toNatClampNeg).toNatClampNeg (0 : Int32)) (rd_R (wr_I M (rd_R M a0 2) (rd_I M (rd_R M a0 3) ((rd_I M a0 4) - (1 : Int32)).toNatClampNeg).toNatClampNeg (0 : Int32)) a0 2) (rd_I (wr_I M (rd_R M a0 2) (rd_I M (rd_R M a0 3) ((rd_I M a0 4) - (1 : Int32)).toNatClampNeg).toNatClampNeg (0 : Int32)) (rd_R (wr_I M (rd_R M a0 2) (rd_I M (rd_R M a0 3) ((rd_I M a0 4) - (1 : Int32)).toNatClampNeg).toNatClampNeg (0 : Int32)) a0 3) a1.toNatClampNeg).toNatClampNeg ((rd_I (wr_I M (rd_R M a0 2) (rd_I M (rd_R M a0 3) ((rd_I M a0 4) - (1 : Int32)).toNatClampNeg).toNatClampNeg (0 : Int32)) (rd_R (wr_I M (rd_R M a0 2) (rd_I M (rd_R M a0 3) ((rd_I M a0 4) - (1 : Int32)).toNatClampNeg).toNatClampNeg (0 : Int32)) a0 2) (rd_I (wr_I M (rd_R M a0 2) (rd_I M (rd_R M a0 3) ((rd_I M a0 4) - (1 : Int32)).toNatClampNeg).toNatClampNeg (0 : Int32)) (rd_R (wr_I M (rd_R M a0 2) (rd_I M (rd_R M a0 3) ((rd_I M a0 4) - (1 : Int32)).toNatClampNeg).toNatClampNeg (0 : Int32)) a0 3) a1.toNatClampNeg).toNatClampNeg) - (1 : Int32))) a0 1, sw_ok (wr_I (wr_I M (rd_R M a0 2) (rd_I M (rd_R M a0 3) ((rd_I M a0 4) - (1 : Int32)).toNatClampNeg).toNatClampNeg (0 : Int32)) (rd_R (wr_I M (rd_R M a0 2) (rd_I M (rd_R M a0 3) ((rd_I M a0 4) - (1 : Int32)).toNatClampNeg).toNatClampNeg (0 : Int32)) a0 2) (rd_I (wr_I M (rd_R M a0 2) (rd_I M (rd_R M a0 3) ((rd_I M a0 4) - (1 : Int32)).toNatClampNeg).toNatClampNeg (0 : Int32)) (rd_R (wr_I M (rd_R M a0 2) (rd_I M (rd_R M a0 3) ((rd_I M a0 4) - (1 : Int32)).toNatClampNeg).toNatClampNeg (0 : Int32)) a0 3) a1.toNatClampNeg).toNatClampNeg ((rd_I (wr_I M (rd_R M a0 2) (rd_I M (rd_R M a0 3) ((rd_I M a0 4) - (1 : Int32)).toNatClampNeg).toNatClampNeg (0 : Int32)) (rd_R (wr_I M (rd_R M a0 2) (rd_I M (rd_R M a0 3) ((rd_I M a0 4) - (1 : Int32)).toNatClampNeg).toNatClampNeg (0 : Int32)) a0 2) (rd_I (wr_I M (rd_R M a0 2) (rd_I M (rd_R M a0 3) ((rd_I M a0 4) - (1 : Int32)).toNatClampNeg).toNatClampNeg (0 : Int32)) (rd_R (wr_I M (rd_R M a0 2) (rd_I M (rd_R M a0 3) ((rd_I M a0 4) - (1 : Int32)).toNatClampNeg).toNatClampNeg (0 : Int32)) a0 3) a1.toNatClampNeg).toNatClampNeg) - (1 : Int32))) a0 1, sw_ar (wr_I (wr_I M (rd_R M a0 2) (rd_I M (rd_R M a0 3) ((rd_I M a0 4) - (1 : Int32)).toNatClampNeg).toNatClampNeg (0 : Int32)) (rd_R (wr_I M (rd_R M a0 2) (rd_I M (rd_R M a0 3) ((rd_I M a0 4) - (1 : Int32)).toNatClampNeg).toNatClampNeg (0 : Int32)) a0 2) (rd_I (wr_I M (rd_R M a0 2) (rd_I M (rd_R M a0 3) ((rd_I M a0 4) - (1 : Int32)).toNatClampNeg).toNatClampNeg (0 : Int32)) (rd_R (wr_I M (rd_R M a0 2) (rd_I M (rd_R M a0 3) ((rd_I M a0 4) - (1 : Int32)).toNatClampNeg).toNatClampNeg (0 : Int32)) a0 3) a1.toNatClampNeg).toNatClampNeg ((rd_I (wr_I M (rd_R M a0 2) (rd_I M (rd_R M a0 3) ((rd_I M a0 4) - (1 : Int32)).toNatClampNeg).toNatClampNeg (0 : Int32)) (rd_R (wr_I M (rd_R M a0 2) (rd_I M (rd_R M a0 3) ((rd_I M a0 4) - (1 : Int32)).toNatClampNeg).toNatClampNeg (0 : Int32)) a0 2) (rd_I (wr_I M (rd_R M a0 2) (rd_I M (rd_R M a0 3) ((rd_I M a0 4) - (1 : Int32)).toNatClampNeg).toNatClampNeg (0 : Int32)) (rd_R (wr_I M (rd_R M a0 2) (rd_I M (rd_R M a0 3) ((rd_I M a0 4) - (1 : Int32)).toNatClampNeg).toNatClampNeg (0 : Int32)) a0 3) a1.toNatClampNeg).toNatClampNeg) - (1 : Int32))) (rd_R (wr_I (wr_I M (rd_R M a0 2) (rd_I M (rd_R M a0 3) ((rd_I M a0 4) - (1 : Int32)).toNatClampNeg).toNatClampNeg (0 : Int32)) (rd_R (wr_I M (rd_R M a0 2) (rd_I M (rd_R M a0 3) ((rd_I M a0 4) - (1 : Int32)).toNatClampNeg).toNatClampNeg (0 : Int32)) a0 2) (rd_I (wr_I M (rd_R M a0 2) (rd_I M (rd_R M a0 3) ((rd_I M a0 4) - (1 : Int32)).toNatClampNeg).toNatClampNeg (0 : Int32)) (rd_R (wr_I M (rd_R M a0 2) (rd_I M (rd_R M a0 3) ((rd_I M a0 4) - (1 : Int32)).toNatClampNeg).toNatClampNeg (0 : Int32)) a0 3) a1.toNatClampNeg).toNatClampNeg ((rd_I (wr_I M (rd_R M a0 2) (rd_I M (rd_R M a0 3) ((rd_I M a0 4) - (1 : Int32)).toNatClampNeg).toNatClampNeg (0 : Int32)) (rd_R (wr_I M (rd_R M a0 2) (rd_I M (rd_R M a0 3) ((rd_I M a0 4) - (1 : Int32)).toNatClampNeg).toNatClampNeg (0 : Int32)) a0 2) (rd_I (wr_I M (rd_R M a0 2) (rd_I M (rd_R M a0 3) ((rd_I M a0 4) - (1 : Int32)).toNatClampNeg).toNatClampNeg (0 : Int32)) (rd_R (wr_I M (rd_R M a0 2) (rd_I M (rd_R M a0 3) ((rd_I M a0 4) - (1 : Int32)).toNatClampNeg).toNatClampNeg (0 : Int32)) a0 3) a1.toNatClampNeg).toNatClampNeg) - (1 : Int32))) a0 3) 13 (a1 + (1 : Int32)), sw_ar (wr_I (wr_I M (rd_R M a0 2) (rd_I M (rd_R M a0 3) ((rd_I M a0 4) - (1 : Int32)).toNatClampNeg).toNatClampNeg (0 : Int32)) (rd_R (wr_I M (rd_R M a0 2) (rd_I M (rd_R M a0 3) ((rd_I M a0 4) - (1 : Int32)).toNatClampNeg).toNatClampNeg (0 : Int32)) a0 2) (rd_I (wr_I M (rd_R M a0 2) (rd_I M (rd_R M a0 3) ((rd_I M a0 4) - (1 : Int32)).toNatClampNeg).toNatClampNeg (0 : Int32)) (rd_R (wr_I M (rd_R M a0 2) (rd_I M (rd_R M a0 3) ((rd_I M a0 4) - (1 : Int32)).toNatClampNeg).toNatClampNeg (0 : Int32)) a0 3) a1.toNatClampNeg).toNatClampNeg ((rd_I (wr_I M (rd_R M a0 2) (rd_I M (rd_R M a0 3) ((rd_I M a0 4) - (1 : Int32)).toNatClampNeg).toNatClampNeg (0 : Int32)) (rd_R (wr_I M (rd_R M a0 2) (rd_I M (rd_R M a0 3) ((rd_I M a0 4) - (1 : Int32)).toNatClampNeg).toNatClampNeg (0 : Int32)) a0 2) (rd_I (wr_I M (rd_R M a0 2) (rd_I M (rd_R M a0 3) ((rd_I M a0 4) - (1 : Int32)).toNatClampNeg).toNatClampNeg (0 : Int32)) (rd_R (wr_I M (rd_R M a0 2) (rd_I M (rd_R M a0 3) ((rd_I M a0 4) - (1 : Int32)).toNatClampNeg).toNatClampNeg (0 : Int32)) a0 3) a1.toNatClampNeg).toNatClampNeg) - (1 : Int32))) (rd_R (wr_I (wr_I M (rd_R M a0 2) (rd_I M (rd_R M a0 3) ((rd_I M a0 4) - (1 : Int32)).toNatClampNeg).toNatClampNeg (0 : Int32)) (rd_R (wr_I M (rd_R M a0 2) (rd_I M (rd_R M a0 3) ((rd_I M a0 4) - (1 : Int32)).toNatClampNeg).toNatClampNeg (0 : Int32)) a0 2) (rd_I (wr_I M (rd_R M a0 2) (rd_I M (rd_R M a0 3) ((rd_I M a0 4) - (1 : Int32)).toNatClampNeg).toNatClampNeg (0 : Int32)) (rd_R (wr_I M (rd_R M a0 2) (rd_I M (rd_R M a0 3) ((rd_I M a0 4) - (1 : Int32)).toNatClampNeg).toNatClampNeg (0 : Int32)) a0 3) a1.toNatClampNeg).toNatClampNeg ((rd_I (wr_I M (rd_R M a0 2) (rd_I M (rd_R M a0 3) ((rd_I M a0 4) - (1 : Int32)).toNatClampNeg).toNatClampNeg (0 : Int32)) (rd_R (wr_I M (rd_R M a0 2) (rd_I M (rd_R M a0 3) ((rd_I M a0 4) - (1 : Int32)).toNatClampNeg).toNatClampNeg (0 : Int32)) a0 2) (rd_I (wr_I M (rd_R M a0 2) (rd_I M (rd_R M a0 3) ((rd_I M a0 4) - (1 : Int32)).toNatClampNeg).toNatClampNeg (0 : Int32)) (rd_R (wr_I M (rd_R M a0 2) (rd_I M (rd_R M a0 3) ((rd_I M a0 4) - (1 : Int32)).toNatClampNeg).toNatClampNeg (0 : Int32)) a0 3) a1.toNatClampNeg).toNatClampNeg) - (1 : Int32))) a0 2) 13 (rd_I (wr_I (wr_I M (rd_R M a0 2) (rd_I M (rd_R M a0 3) ((rd_I M a0 4) - (1 : Int32)).toNatClampNeg).toNatClampNeg (0 : Int32)) (rd_R (wr_I M (rd_R M a0 2) (rd_I M (rd_R M a0 3) ((rd_I M a0 4) - (1 : Int32)).toNatClampNeg).toNatClampNeg (0 : Int32)) a0 2) (rd_I (wr_I M (rd_R M a0 2) (rd_I M (rd_R M a0 3) ((rd_I M a0 4) - (1 : Int32)).toNatClampNeg).toNatClampNeg (0 : Int32)) (rd_R (wr_I M (rd_R M a0 2) (rd_I M (rd_R M a0 3) ((rd_I M a0 4) - (1 : Int32)).toNatClampNeg).toNatClampNeg (0 : Int32)) a0 3) a1.toNatClampNeg).toNatClampNeg ((rd_I (wr_I M (rd_R M a0 2) (rd_I M (rd_R M a0 3) ((rd_I M a0 4) - (1 : Int32)).toNatClampNeg).toNatClampNeg (0 : Int32)) (rd_R (wr_I M (rd_R M a0 2) (rd_I M (rd_R M a0 3) ((rd_I M a0 4) - (1 : Int32)).toNatClampNeg).toNatClampNeg (0 : Int32)) a0 2) (rd_I (wr_I M (rd_R M a0 2) (rd_I M (rd_R M a0 3) ((rd_I M a0 4) - (1 : Int32)).toNatClampNeg).toNatClampNeg (0 : Int32)) (rd_R (wr_I M (rd_R M a0 2) (rd_I M (rd_R M a0 3) ((rd_I M a0 4) - (1 : Int32)).toNatClampNeg).toNatClampNeg (0 : Int32)) a0 3) a1.toNatClampNeg).toNatClampNeg) - (1 : Int32))) (rd_R (wr_I (wr_I M (rd_R M a0 2) (rd_I M (rd_R M a0 3) ((rd_I M a0 4) - (1 : Int32)).toNatClampNeg).toNatClampNeg (0 : Int32)) (rd_R (wr_I M (rd_R M a0 2) (rd_I M (rd_R M a0 3) ((rd_I M a0 4) - (1 : Int32)).toNatClampNeg).toNatClampNeg (0 : Int32)) a0 2) (rd_I (wr_I M (rd_R M a0 2) (rd_I M (rd_R M a0 3) ((rd_I M a0 4) - (1 : Int32)).toNatClampNeg).toNatClampNeg (0 : Int32)) (rd_R (wr_I M (rd_R M a0 2) (rd_I M (rd_R M a0 3) ((rd_I M a0 4) - (1 : Int32)).toNatClampNeg).toNatClampNeg (0 : Int32)) a0 3) a1.toNatClampNeg).toNatClampNeg ((rd_I (wr_I M (rd_R M a0 2) (rd_I M (rd_R M a0 3) ((rd_I M a0 4) - (1 : Int32)).toNatClampNeg).toNatClampNeg (0 : Int32)) (rd_R (wr_I M (rd_R M a0 2) (rd_I M (rd_R M a0 3) ((rd_I M a0 4) - (1 : Int32)).toNatClampNeg).toNatClampNeg (0 : Int32)) a0 2) (rd_I (wr_I M (rd_R M a0 2) (rd_I M (rd_R M a0 3) ((rd_I M a0 4) - (1 : Int32)).toNatClampNeg).toNatClampNeg (0 : Int32)) (rd_R (wr_I M (rd_R M a0 2) (rd_I M (rd_R M a0 3) ((rd_I M a0 4) - (1 : Int32)).toNatClampNeg).toNatClampNeg (0 : Int32)) a0 3) a1.toNatClampNeg).toNatClampNeg) - (1 : Int32))) a0 3) (a1 + (1 : Int32)).toNatClampNeg)]) (pc' := 94) (by decide +kernel) rfl rfl (sw_a1 h1 (sw_a1 h1 (sw_a1 h2 (sw_a1 h1 (sw_a1 h3 (sw_a1 h1 (sw_a1 h3 (sw_a1 h1 (sw_a1 h1 (sw_a1 h4 (sw_a1 h5 (sw_a1 h5 (sw_a1 h1 (sw_a1 h1 (sw_a1 h6 (sw_a1 h7 sw_a0)))))))))))))))) ?_
    exact sf_weak [] rfl (t_Fits_shift_94 hd hf)
  · refine sf_blk [(.iconst (0), 0, 0, .int (0 : Int32))] (lv' := [(0, .ref a0), (1, .int a1)]) (st' := [.int (0 : Int32)]) (M1 := M) (ob := []) (pc' := 36) (by decide +kernel) rfl rfl sw_a0 ?_
    cases hf
    exact sf_bool rfl rfl (by decide +kernel)
def f_Fits_shift_7 (N : Nat) : Nat → Nat → Int32 → sw_M → Option (Int32 × sw_M)
  | 0, _, _, _ => none
  | j + 1, a0, a1, M =>
  if a1 < 0 then f_Fits_shift_31 N a0 a1 M
  else sw_gd [sw_ok M a0 1] (sw_gd [sw_ar M (rd_R M a0 3) 13 a1] (sw_gd [sw_ar M (rd_R M a0 2) 13 (rd_I M (rd_R M a0 3) a1.toNatClampNeg)] (if (rd_I M (rd_R M a0 2) (rd_I M (rd_R M a0 3) a1.toNatClampNeg).toNatClampNeg) = 0 then f_Fits_shift_7 N j a0 (a1 + (-1 : Int32)) M
  else f_Fits_shift_31 N a0 a1 M)))
set_option maxRecDepth 10000 in
theorem t_Fits_shift_7 {g : sw_G} {d n0 : Nat} (hd : 1 ≤ d) {r : Int32 × sw_M} {N : Nat} : ∀ (j : Nat) (a0 : Nat) (a1 : Int32) (M : sw_M), f_Fits_shift_7 N j a0 a1 M = some r → sw_F g k_Fits_shift d n0 (some (.int r.1)) r.2 7 [(0, .ref a0), (1, .int a1)] [] M := by
  intro j
  induction j with
  | zero =>
    intro a0 a1 M hf
    rw [f_Fits_shift_7] at hf
    cases hf
  | succ j ih =>
    intro a0 a1 M hf
    rw [f_Fits_shift_7] at hf
    refine sf_blk [(.iload_n 1, 0, 0, .null)] (lv' := [(0, .ref a0), (1, .int a1)]) (st' := [.int a1]) (M1 := M) (ob := []) (pc' := 8) (by decide +kernel) rfl rfl sw_a0 ?_
    refine sf_z_lt (off := 23) (tgt := 31) (by decide +kernel) (by decide) hf (fun hc hf => ?_) (fun hc hf => ?_)
    · exact sf_weak [0, 1] rfl (t_Fits_shift_31 hd hf)
    · obtain ⟨h1, hf⟩ := sw_gd_1 hf
      obtain ⟨h2, hf⟩ := sw_gd_1 hf
      obtain ⟨h3, hf⟩ := sw_gd_1 hf
      refine sf_blk [(.aload_n 0, 0, 0, .null), (.getfield 9, 1, 2, .null), (.aload_n 0, 0, 0, .null), (.getfield 15, 1, 3, .null), (.iload_n 1, 0, 0, .null), (.iaload, 0, 0, .null), (.iaload, 0, 0, .null)] (lv' := [(0, .ref a0), (1, .int a1)]) (st' := [.int (rd_I M (rd_R M a0 2) (rd_I M (rd_R M a0 3) a1.toNatClampNeg).toNatClampNeg)]) (M1 := M) (ob := [sw_ok M a0 1, sw_ok M a0 1, sw_ar M (rd_R M a0 3) 13 a1, sw_ar M (rd_R M a0 2) 13 (rd_I M (rd_R M a0 3) a1.toNatClampNeg)]) (pc' := 22) (by decide +kernel) rfl rfl (sw_a1 h1 (sw_a1 h1 (sw_a1 h2 (sw_a1 h3 sw_a0)))) ?_
      refine sf_z_ne (off := 9) (tgt := 31) (by decide +kernel) (by decide) hf (fun hc hf => ?_) (fun hc hf => ?_)
      · exact sf_weak [0, 1] rfl (t_Fits_shift_31 hd hf)
      · refine sf_blk [(.iinc 1 (-1), 0, 0, .int (-1 : Int32))] (lv' := [(1, .int (a1 + (-1 : Int32))), (0, .ref a0)]) (st' := []) (M1 := M) (ob := []) (pc' := 28) (by decide +kernel) rfl rfl sw_a0 ?_
        refine sf_goto (off := -21) (tgt := 7) (by decide +kernel) (by decide) ?_
        exact sf_weak [1, 0] rfl (ih _ _ _ hf)
def f_Fits_shift (N : Nat) (a0 : Nat) (M : sw_M) : Option (Int32 × sw_M) :=
  sw_gd [sw_ok M a0 1] (f_Fits_shift_7 N N a0 ((rd_I M a0 4) - (2 : Int32)) M)
set_option maxRecDepth 10000 in
theorem t_Fits_shift {g : sw_G} {d n0 : Nat} (hd : 1 ≤ d) {r : Int32 × sw_M} {N : Nat} {a0 : Nat} {M : sw_M} (hf : f_Fits_shift N a0 M = some r) : sw_F g k_Fits_shift d n0 (some (.int r.1)) r.2 0 [(0, .ref a0)] [] M := by
  unfold f_Fits_shift at hf
  obtain ⟨h1, hf⟩ := sw_gd_1 hf
  refine sf_blk [(.aload_n 0, 0, 0, .null), (.getfield 56, 1, 4, .null), (.iconst (2), 0, 0, .int (2 : Int32)), (.isub, 0, 0, .null), (.istore_n 1, 0, 0, .null)] (lv' := [(1, .int ((rd_I M a0 4) - (2 : Int32))), (0, .ref a0)]) (st' := []) (M1 := M) (ob := [sw_ok M a0 1]) (pc' := 7) (by decide +kernel) rfl rfl (sw_a1 h1 sw_a0) ?_
  exact sf_weak [1, 0] rfl (t_Fits_shift_7 hd _ _ _ _ hf)
theorem o_Fits_shift (g : sw_G) {d : Nat} (hd : 1 ≤ d) {N : Nat} {a0 : Nat} {M : sw_M} {r : Int32 × sw_M} (hf : f_Fits_shift N a0 M = some r) : sw_Ok g k_Fits_shift d [.ref a0] M (some (.int r.1)) r.2 := sf_met (by decide +kernel) rfl (by decide) (Nat.le_of_ble_eq_true rfl) (t_Fits_shift hd hf)
def f_Fits_next_2 (N : Nat) : Nat → Nat → Int32 → sw_M → Option (Int32 × sw_M)
  | 0, _, _, _ => none
  | j + 1, a0, a1, M =>
  if (1000000 : Int32) ≤ a1 then some ((0 : Int32), M)
  else sw_gd [sw_ok M a0 1] ((f_Fits_shift N a0 M).bind (fun u2 => if u2.1 = 0 then some ((0 : Int32), u2.2)
  else sw_gd [sw_ok u2.2 a0 1] ((f_Fits_allHold N a0 u2.2).bind (fun u4 => if u4.1 = 0 then f_Fits_next_2 N j a0 (a1 + (1 : Int32)) u4.2
  else some ((1 : Int32), u4.2)))))
set_option maxRecDepth 10000 in
theorem t_Fits_next_2 {g : sw_G} {d n0 : Nat} (hd : 4 ≤ d) {r : Int32 × sw_M} {N : Nat} : ∀ (j : Nat) (a0 : Nat) (a1 : Int32) (M : sw_M), f_Fits_next_2 N j a0 a1 M = some r → sw_F g k_Fits_next d n0 (some (.int r.1)) r.2 2 [(0, .ref a0), (1, .int a1)] [] M := by
  intro j
  induction j with
  | zero =>
    intro a0 a1 M hf
    rw [f_Fits_next_2] at hf
    cases hf
  | succ j ih =>
    intro a0 a1 M hf
    rw [f_Fits_next_2] at hf
    refine sf_blk [(.iload_n 1, 0, 0, .null), (.ldc 52, 0, 0, .int (1000000 : Int32))] (lv' := [(0, .ref a0), (1, .int a1)]) (st' := [.int (1000000 : Int32), .int a1]) (M1 := M) (ob := []) (pc' := 5) (by decide +kernel) rfl rfl sw_a0 ?_
    refine sf_j_ge (off := 25) (tgt := 30) (by decide +kernel) (by decide) hf (fun hc hf => ?_) (fun hc hf => ?_)
    · refine sf_blk [(.iconst (0), 0, 0, .int (0 : Int32))] (lv' := [(0, .ref a0), (1, .int a1)]) (st' := [.int (0 : Int32)]) (M1 := M) (ob := []) (pc' := 31) (by decide +kernel) rfl rfl sw_a0 ?_
      cases hf
      exact sf_bool rfl rfl (by decide +kernel)
    · obtain ⟨h1, hf⟩ := sw_gd_1 hf
      refine sf_blk [(.aload_n 0, 0, 0, .null)] (lv' := [(0, .ref a0), (1, .int a1)]) (st' := [.ref a0]) (M1 := M) (ob := []) (pc' := 9) (by decide +kernel) rfl rfl sw_a0 ?_
      obtain ⟨u2, hu2, hf⟩ := sw_bnd hf
      refine sf_callV (i := 53) (k2 := k_Fits_shift) (d2 := d - 1) (As := []) (st := []) (q := a0) (ci := 1) mf_Fits_shift mi_Fits_shift ms_Fits_shift (sw_m5 71 (by decide +kernel)) rfl (by decide) (by decide +kernel) rfl (Nat.le_of_ble_eq_true rfl) (by omega) h1 (o_Fits_shift g (d := d - 1) (by omega) hu2) ?_
      show sw_F _ _ _ _ _ _ 12 [(0, .ref a0), (1, .int a1)] [.int u2.1] u2.2
      refine sf_z_eq (off := 18) (tgt := 30) (by decide +kernel) (by decide) hf (fun hc hf => ?_) (fun hc hf => ?_)
      · refine sf_blk [(.iconst (0), 0, 0, .int (0 : Int32))] (lv' := [(0, .ref a0), (1, .int a1)]) (st' := [.int (0 : Int32)]) (M1 := u2.2) (ob := []) (pc' := 31) (by decide +kernel) rfl rfl sw_a0 ?_
        cases hf
        exact sf_bool rfl rfl (by decide +kernel)
      · obtain ⟨h3, hf⟩ := sw_gd_1 hf
        refine sf_blk [(.aload_n 0, 0, 0, .null)] (lv' := [(0, .ref a0), (1, .int a1)]) (st' := [.ref a0]) (M1 := u2.2) (ob := []) (pc' := 16) (by decide +kernel) rfl rfl sw_a0 ?_
        obtain ⟨u4, hu4, hf⟩ := sw_bnd hf
        refine sf_callV (i := 46) (k2 := k_Fits_allHold) (d2 := d - 1) (As := []) (st := []) (q := a0) (ci := 1) mf_Fits_allHold mi_Fits_allHold ms_Fits_allHold (sw_m5 53 (by decide +kernel)) rfl (by decide) (by decide +kernel) rfl (Nat.le_of_ble_eq_true rfl) (by omega) h3 (o_Fits_allHold g (d := d - 1) (by omega) hu4) ?_
        show sw_F _ _ _ _ _ _ 19 [(0, .ref a0), (1, .int a1)] [.int u4.1] u4.2
        refine sf_z_eq (off := 5) (tgt := 24) (by decide +kernel) (by decide) hf (fun hc hf => ?_) (fun hc hf => ?_)
        · refine sf_blk [(.iinc 1 (1), 0, 0, .int (1 : Int32))] (lv' := [(1, .int (a1 + (1 : Int32))), (0, .ref a0)]) (st' := []) (M1 := u4.2) (ob := []) (pc' := 27) (by decide +kernel) rfl rfl sw_a0 ?_
          refine sf_goto (off := -25) (tgt := 2) (by decide +kernel) (by decide) ?_
          exact sf_weak [1, 0] rfl (ih _ _ _ hf)
        · refine sf_blk [(.iconst (1), 0, 0, .int (1 : Int32))] (lv' := [(0, .ref a0), (1, .int a1)]) (st' := [.int (1 : Int32)]) (M1 := u4.2) (ob := []) (pc' := 23) (by decide +kernel) rfl rfl sw_a0 ?_
          cases hf
          exact sf_bool rfl rfl (by decide +kernel)
def f_Fits_next (N : Nat) (a0 : Nat) (M : sw_M) : Option (Int32 × sw_M) :=
  f_Fits_next_2 N N a0 (0 : Int32) M
set_option maxRecDepth 10000 in
theorem t_Fits_next {g : sw_G} {d n0 : Nat} (hd : 4 ≤ d) {r : Int32 × sw_M} {N : Nat} {a0 : Nat} {M : sw_M} (hf : f_Fits_next N a0 M = some r) : sw_F g k_Fits_next d n0 (some (.int r.1)) r.2 0 [(0, .ref a0)] [] M := by
  unfold f_Fits_next at hf
  refine sf_blk [(.iconst (0), 0, 0, .int (0 : Int32)), (.istore_n 1, 0, 0, .null)] (lv' := [(1, .int (0 : Int32)), (0, .ref a0)]) (st' := []) (M1 := M) (ob := []) (pc' := 2) (by decide +kernel) rfl rfl sw_a0 ?_
  exact sf_weak [1, 0] rfl (t_Fits_next_2 hd _ _ _ _ hf)
theorem o_Fits_next (g : sw_G) {d : Nat} (hd : 4 ≤ d) {N : Nat} {a0 : Nat} {M : sw_M} {r : Int32 × sw_M} (hf : f_Fits_next N a0 M = some r) : sw_Ok g k_Fits_next d [.ref a0] M (some (.int r.1)) r.2 := sf_met (by decide +kernel) rfl (by decide) (Nat.le_of_ble_eq_true rfl) (t_Fits_next hd hf)
def f_Fits_first_21 (N : Nat) (M : sw_M) : Option (Int32 × sw_M) :=
  some ((1 : Int32), M)
set_option maxRecDepth 10000 in
theorem t_Fits_first_21 {g : sw_G} {d n0 : Nat} (hd : 5 ≤ d) {r : Int32 × sw_M} {N : Nat} {M : sw_M} (hf : f_Fits_first_21 N M = some r) : sw_F g k_Fits_first d n0 (some (.int r.1)) r.2 21 [] [] M := by
  unfold f_Fits_first_21 at hf
  refine sf_blk [(.iconst (1), 0, 0, .int (1 : Int32))] (lv' := []) (st' := [.int (1 : Int32)]) (M1 := M) (ob := []) (pc' := 22) (by decide +kernel) rfl rfl sw_a0 ?_
  refine sf_goto (off := 4) (tgt := 26) (by decide +kernel) (by decide) ?_
  cases hf
  exact sf_bool rfl rfl (by decide +kernel)
def f_Fits_first (N : Nat) (a0 : Nat) (M : sw_M) : Option (Int32 × sw_M) :=
  sw_gd [sw_ok M a0 1] ((f_Fits_begin N a0 M).bind (fun u2 => if u2.1 = 0 then some ((0 : Int32), u2.2)
  else sw_gd [sw_ok u2.2 a0 1] ((f_Fits_allHold N a0 u2.2).bind (fun u4 => if u4.1 = 0 then sw_gd [sw_ok u4.2 a0 1] ((f_Fits_next N a0 u4.2).bind (fun u6 => if u6.1 = 0 then some ((0 : Int32), u6.2)
  else f_Fits_first_21 N u6.2))
  else f_Fits_first_21 N u4.2))))
set_option maxRecDepth 10000 in
theorem t_Fits_first {g : sw_G} {d n0 : Nat} (hd : 5 ≤ d) {r : Int32 × sw_M} {N : Nat} {a0 : Nat} {M : sw_M} (hf : f_Fits_first N a0 M = some r) : sw_F g k_Fits_first d n0 (some (.int r.1)) r.2 0 [(0, .ref a0)] [] M := by
  unfold f_Fits_first at hf
  obtain ⟨h1, hf⟩ := sw_gd_1 hf
  refine sf_blk [(.aload_n 0, 0, 0, .null)] (lv' := [(0, .ref a0)]) (st' := [.ref a0]) (M1 := M) (ob := []) (pc' := 1) (by decide +kernel) rfl rfl sw_a0 ?_
  obtain ⟨u2, hu2, hf⟩ := sw_bnd hf
  refine sf_callV (i := 42) (k2 := k_Fits_begin) (d2 := d - 1) (As := []) (st := []) (q := a0) (ci := 1) mf_Fits_begin mi_Fits_begin ms_Fits_begin (sw_m5 39 (by decide +kernel)) rfl (by decide) (by decide +kernel) rfl (Nat.le_of_ble_eq_true rfl) (by omega) h1 (o_Fits_begin g (d := d - 1) (by omega) hu2) ?_
  show sw_F _ _ _ _ _ _ 4 [(0, .ref a0)] [.int u2.1] u2.2
  refine sf_z_eq (off := 21) (tgt := 25) (by decide +kernel) (by decide) hf (fun hc hf => ?_) (fun hc hf => ?_)
  · refine sf_blk [(.iconst (0), 0, 0, .int (0 : Int32))] (lv' := [(0, .ref a0)]) (st' := [.int (0 : Int32)]) (M1 := u2.2) (ob := []) (pc' := 26) (by decide +kernel) rfl rfl sw_a0 ?_
    cases hf
    exact sf_bool rfl rfl (by decide +kernel)
  · obtain ⟨h3, hf⟩ := sw_gd_1 hf
    refine sf_blk [(.aload_n 0, 0, 0, .null)] (lv' := [(0, .ref a0)]) (st' := [.ref a0]) (M1 := u2.2) (ob := []) (pc' := 8) (by decide +kernel) rfl rfl sw_a0 ?_
    obtain ⟨u4, hu4, hf⟩ := sw_bnd hf
    refine sf_callV (i := 46) (k2 := k_Fits_allHold) (d2 := d - 1) (As := []) (st := []) (q := a0) (ci := 1) mf_Fits_allHold mi_Fits_allHold ms_Fits_allHold (sw_m5 53 (by decide +kernel)) rfl (by decide) (by decide +kernel) rfl (Nat.le_of_ble_eq_true rfl) (by omega) h3 (o_Fits_allHold g (d := d - 1) (by omega) hu4) ?_
    show sw_F _ _ _ _ _ _ 11 [(0, .ref a0)] [.int u4.1] u4.2
    refine sf_z_ne (off := 10) (tgt := 21) (by decide +kernel) (by decide) hf (fun hc hf => ?_) (fun hc hf => ?_)
    · exact sf_weak [] rfl (t_Fits_first_21 hd hf)
    · obtain ⟨h5, hf⟩ := sw_gd_1 hf
      refine sf_blk [(.aload_n 0, 0, 0, .null)] (lv' := [(0, .ref a0)]) (st' := [.ref a0]) (M1 := u4.2) (ob := []) (pc' := 15) (by decide +kernel) rfl rfl sw_a0 ?_
      obtain ⟨u6, hu6, hf⟩ := sw_bnd hf
      refine sf_callV (i := 49) (k2 := k_Fits_next) (d2 := d - 1) (As := []) (st := []) (q := a0) (ci := 1) mf_Fits_next mi_Fits_next ms_Fits_next (sw_m5 66 (by decide +kernel)) rfl (by decide) (by decide +kernel) rfl (Nat.le_of_ble_eq_true rfl) (by omega) h5 (o_Fits_next g (d := d - 1) (by omega) hu6) ?_
      show sw_F _ _ _ _ _ _ 18 [(0, .ref a0)] [.int u6.1] u6.2
      refine sf_z_eq (off := 7) (tgt := 25) (by decide +kernel) (by decide) hf (fun hc hf => ?_) (fun hc hf => ?_)
      · refine sf_blk [(.iconst (0), 0, 0, .int (0 : Int32))] (lv' := [(0, .ref a0)]) (st' := [.int (0 : Int32)]) (M1 := u6.2) (ob := []) (pc' := 26) (by decide +kernel) rfl rfl sw_a0 ?_
        cases hf
        exact sf_bool rfl rfl (by decide +kernel)
      · exact sf_weak [] rfl (t_Fits_first_21 hd hf)
theorem o_Fits_first (g : sw_G) {d : Nat} (hd : 5 ≤ d) {N : Nat} {a0 : Nat} {M : sw_M} {r : Int32 × sw_M} (hf : f_Fits_first N a0 M = some r) : sw_Ok g k_Fits_first d [.ref a0] M (some (.int r.1)) r.2 := sf_met (by decide +kernel) rfl (by decide) (Nat.le_of_ble_eq_true rfl) (t_Fits_first hd hf)
def f_House_fits_33 (N : Nat) : Nat → Nat → Int32 → Int32 → Int32 → sw_M → Option (Int32 × sw_M)
  | 0, _, _, _, _, _ => none
  | j + 1, a0, a2, a3, a4, M =>
  if (1000000 : Int32) ≤ a4 then some (a2, M)
  else if a3 = 0 then some (a2, M)
  else sw_gd [sw_ok M a0 11] (sw_gd [sw_ok M (rd_R M a0 8) 1] ((f_Fits_next N (rd_R M a0 8) M).bind (fun u3 => f_House_fits_33 N j a0 (a2 + (1 : Int32)) u3.1 (a4 + (1 : Int32)) u3.2)))
set_option maxRecDepth 10000 in
theorem t_House_fits_33 {g : sw_G} {d n0 : Nat} (hd : 7 ≤ d) {r : Int32 × sw_M} {N : Nat} : ∀ (j : Nat) (a0 : Nat) (a2 : Int32) (a3 : Int32) (a4 : Int32) (M : sw_M), f_House_fits_33 N j a0 a2 a3 a4 M = some r → sw_F g k_House_fits d n0 (some (.int r.1)) r.2 33 [(0, .ref a0), (2, .int a2), (3, .int a3), (4, .int a4)] [] M := by
  intro j
  induction j with
  | zero =>
    intro a0 a2 a3 a4 M hf
    rw [f_House_fits_33] at hf
    cases hf
  | succ j ih =>
    intro a0 a2 a3 a4 M hf
    rw [f_House_fits_33] at hf
    refine sf_blk [(.iload 4, 0, 0, .null), (.ldc_w 273, 0, 0, .int (1000000 : Int32))] (lv' := [(0, .ref a0), (2, .int a2), (3, .int a3), (4, .int a4)]) (st' := [.int (1000000 : Int32), .int a4]) (M1 := M) (ob := []) (pc' := 38) (by decide +kernel) rfl rfl sw_a0 ?_
    refine sf_j_ge (off := 24) (tgt := 62) (by decide +kernel) (by decide) hf (fun hc hf => ?_) (fun hc hf => ?_)
    · refine sf_blk [(.iload_n 2, 0, 0, .null)] (lv' := [(0, .ref a0), (2, .int a2), (3, .int a3), (4, .int a4)]) (st' := [.int a2]) (M1 := M) (ob := []) (pc' := 63) (by decide +kernel) rfl rfl sw_a0 ?_
      cases hf
      exact sf_int rfl (by decide +kernel)
    · refine sf_blk [(.iload_n 3, 0, 0, .null)] (lv' := [(0, .ref a0), (2, .int a2), (3, .int a3), (4, .int a4)]) (st' := [.int a3]) (M1 := M) (ob := []) (pc' := 42) (by decide +kernel) rfl rfl sw_a0 ?_
      refine sf_z_eq (off := 20) (tgt := 62) (by decide +kernel) (by decide) hf (fun hc hf => ?_) (fun hc hf => ?_)
      · refine sf_blk [(.iload_n 2, 0, 0, .null)] (lv' := [(0, .ref a0), (2, .int a2), (3, .int a3), (4, .int a4)]) (st' := [.int a2]) (M1 := M) (ob := []) (pc' := 63) (by decide +kernel) rfl rfl sw_a0 ?_
        cases hf
        exact sf_int rfl (by decide +kernel)
      · obtain ⟨h1, hf⟩ := sw_gd_1 hf
        obtain ⟨h2, hf⟩ := sw_gd_1 hf
        refine sf_blk [(.iinc 2 (1), 0, 0, .int (1 : Int32)), (.aload_n 0, 0, 0, .null), (.getfield 65, 11, 8, .null)] (lv' := [(2, .int (a2 + (1 : Int32))), (0, .ref a0), (3, .int a3), (4, .int a4)]) (st' := [.ref (rd_R M a0 8)]) (M1 := M) (ob := [sw_ok M a0 11]) (pc' := 52) (by decide +kernel) rfl rfl (sw_a1 h1 sw_a0) ?_
        obtain ⟨u3, hu3, hf⟩ := sw_bnd hf
        refine sf_callV (i := 274) (k2 := k_Fits_next) (d2 := d - 1) (As := []) (st := []) (q := (rd_R M a0 8)) (ci := 1) mf_Fits_next mi_Fits_next ms_Fits_next (sw_m5 76 (by decide +kernel)) rfl (by decide) (by decide +kernel) rfl (Nat.le_of_ble_eq_true rfl) (by omega) h2 (o_Fits_next g (d := d - 1) (by omega) hu3) ?_
        show sw_F _ _ _ _ _ _ 55 [(2, .int (a2 + (1 : Int32))), (0, .ref a0), (3, .int a3), (4, .int a4)] [.int u3.1] u3.2
        refine sf_blk [(.istore_n 3, 0, 0, .null), (.iinc 4 (1), 0, 0, .int (1 : Int32))] (lv' := [(4, .int (a4 + (1 : Int32))), (3, .int u3.1), (2, .int (a2 + (1 : Int32))), (0, .ref a0)]) (st' := []) (M1 := u3.2) (ob := []) (pc' := 59) (by decide +kernel) rfl rfl sw_a0 ?_
        refine sf_goto (off := -26) (tgt := 33) (by decide +kernel) (by decide) ?_
        exact sf_weak [3, 2, 1, 0] rfl (ih _ _ _ _ _ hf)
def f_House_fits (N : Nat) (a0 : Nat) (a1 : Int32) (M : sw_M) : Option (Int32 × sw_M) :=
  sw_gd [sw_ok M a0 11] (sw_gd [sw_ok M (rd_R M a0 7) 3] ((f_Notes_know N (rd_R M a0 7) a1 M).bind (fun u3 => if u3.1 = 0 then some ((-1 : Int32), u3.2)
  else sw_gd [sw_ok u3.2 a0 11] (sw_gd [sw_ok u3.2 (rd_R u3.2 a0 6) 10] ((f_Swarm_refresh N (rd_R u3.2 a0 6) u3.2).bind (fun u6 => sw_gd [sw_ok u6 a0 11] (sw_gd [sw_ok u6 (rd_R u6 a0 8) 1] ((f_Fits_first N (rd_R u6 a0 8) u6).bind (fun u9 => f_House_fits_33 N N a0 (0 : Int32) u9.1 (0 : Int32) u9.2)))))))))
set_option maxRecDepth 10000 in
theorem t_House_fits {g : sw_G} {d n0 : Nat} (hd : 7 ≤ d) {r : Int32 × sw_M} {N : Nat} {a0 : Nat} {a1 : Int32} {M : sw_M} (hf : f_House_fits N a0 a1 M = some r) : sw_F g k_House_fits d n0 (some (.int r.1)) r.2 0 [(0, .ref a0), (1, .int a1)] [] M := by
  unfold f_House_fits at hf
  obtain ⟨h1, hf⟩ := sw_gd_1 hf
  obtain ⟨h2, hf⟩ := sw_gd_1 hf
  refine sf_blk [(.aload_n 0, 0, 0, .null), (.getfield 56, 11, 7, .null), (.iload_n 1, 0, 0, .null)] (lv' := [(0, .ref a0), (1, .int a1)]) (st' := [.int a1, .ref (rd_R M a0 7)]) (M1 := M) (ob := [sw_ok M a0 11]) (pc' := 5) (by decide +kernel) rfl rfl (sw_a1 h1 sw_a0) ?_
  obtain ⟨u3, hu3, hf⟩ := sw_bnd hf
  refine sf_callV (i := 263) (k2 := k_Notes_know) (d2 := d - 1) (As := [.int a1]) (st := []) (q := (rd_R M a0 7)) (ci := 3) mf_Notes_know mi_Notes_know ms_Notes_know (sw_m5 29 (by decide +kernel)) rfl (by decide) (by decide +kernel) rfl (Nat.le_of_ble_eq_true rfl) (by omega) h2 (o_Notes_know g (d := d - 1) (by omega) hu3) ?_
  show sw_F _ _ _ _ _ _ 8 [(0, .ref a0), (1, .int a1)] [.int u3.1] u3.2
  refine sf_z_ne (off := 5) (tgt := 13) (by decide +kernel) (by decide) hf (fun hc hf => ?_) (fun hc hf => ?_)
  · obtain ⟨h4, hf⟩ := sw_gd_1 hf
    obtain ⟨h5, hf⟩ := sw_gd_1 hf
    refine sf_blk [(.aload_n 0, 0, 0, .null), (.getfield 49, 11, 6, .null)] (lv' := [(0, .ref a0), (1, .int a1)]) (st' := [.ref (rd_R u3.2 a0 6)]) (M1 := u3.2) (ob := [sw_ok u3.2 a0 11]) (pc' := 17) (by decide +kernel) rfl rfl (sw_a1 h4 sw_a0) ?_
    obtain ⟨u6, hu6, hf⟩ := sw_bnd hf
    refine sf_callV (i := 267) (k2 := k_Swarm_refresh) (d2 := d - 1) (As := []) (st := []) (q := (rd_R u3.2 a0 6)) (ci := 10) mf_Swarm_refresh mi_Swarm_refresh ms_Swarm_refresh (sw_m5 34 (by decide +kernel)) rfl (by decide) (by decide +kernel) rfl (Nat.le_of_ble_eq_true rfl) (by omega) h5 (o_Swarm_refresh g (d := d - 1) (by omega) hu6) ?_
    show sw_F _ _ _ _ _ _ 20 [(0, .ref a0), (1, .int a1)] [] u6
    obtain ⟨h7, hf⟩ := sw_gd_1 hf
    obtain ⟨h8, hf⟩ := sw_gd_1 hf
    refine sf_blk [(.iconst (0), 0, 0, .int (0 : Int32)), (.istore_n 2, 0, 0, .null), (.aload_n 0, 0, 0, .null), (.getfield 65, 11, 8, .null)] (lv' := [(2, .int (0 : Int32)), (0, .ref a0), (1, .int a1)]) (st' := [.ref (rd_R u6 a0 8)]) (M1 := u6) (ob := [sw_ok u6 a0 11]) (pc' := 26) (by decide +kernel) rfl rfl (sw_a1 h7 sw_a0) ?_
    obtain ⟨u9, hu9, hf⟩ := sw_bnd hf
    refine sf_callV (i := 270) (k2 := k_Fits_first) (d2 := d - 1) (As := []) (st := []) (q := (rd_R u6 a0 8)) (ci := 1) mf_Fits_first mi_Fits_first ms_Fits_first (sw_m5 35 (by decide +kernel)) rfl (by decide) (by decide +kernel) rfl (Nat.le_of_ble_eq_true rfl) (by omega) h8 (o_Fits_first g (d := d - 1) (by omega) hu9) ?_
    show sw_F _ _ _ _ _ _ 29 [(2, .int (0 : Int32)), (0, .ref a0), (1, .int a1)] [.int u9.1] u9.2
    refine sf_blk [(.istore_n 3, 0, 0, .null), (.iconst (0), 0, 0, .int (0 : Int32)), (.istore 4, 0, 0, .null)] (lv' := [(4, .int (0 : Int32)), (3, .int u9.1), (2, .int (0 : Int32)), (0, .ref a0), (1, .int a1)]) (st' := []) (M1 := u9.2) (ob := []) (pc' := 33) (by decide +kernel) rfl rfl sw_a0 ?_
    exact sf_weak [3, 2, 1, 0] rfl (t_House_fits_33 hd _ _ _ _ _ _ hf)
  · refine sf_blk [(.iconst (-1), 0, 0, .int (-1 : Int32))] (lv' := [(0, .ref a0), (1, .int a1)]) (st' := [.int (-1 : Int32)]) (M1 := u3.2) (ob := []) (pc' := 12) (by decide +kernel) rfl rfl sw_a0 ?_
    cases hf
    exact sf_int rfl (by decide +kernel)
theorem o_House_fits (g : sw_G) {d : Nat} (hd : 7 ≤ d) {N : Nat} {a0 : Nat} {a1 : Int32} {M : sw_M} {r : Int32 × sw_M} (hf : f_House_fits N a0 a1 M = some r) : sw_Ok g k_House_fits d [.ref a0, .int a1] M (some (.int r.1)) r.2 := sf_met (by decide +kernel) rfl (by decide) (Nat.le_of_ble_eq_true rfl) (t_House_fits hd hf)
def f_Fits_weightOf (N : Nat) (a0 : Nat) (a1 : Int32) (M : sw_M) : Option (Int32 × sw_M) :=
  if a1 < 0 then some ((0 : Int32), M)
  else if (6 : Int32) ≤ a1 then some ((0 : Int32), M)
  else sw_gd [sw_ok M a0 1] (sw_gd [sw_ar M (rd_R M a0 2) 13 a1] (some ((rd_I M (rd_R M a0 2) a1.toNatClampNeg), M)))
set_option maxRecDepth 10000 in
theorem t_Fits_weightOf {g : sw_G} {d n0 : Nat} (hd : 1 ≤ d) {r : Int32 × sw_M} {N : Nat} {a0 : Nat} {a1 : Int32} {M : sw_M} (hf : f_Fits_weightOf N a0 a1 M = some r) : sw_F g k_Fits_weightOf d n0 (some (.int r.1)) r.2 0 [(0, .ref a0), (1, .int a1)] [] M := by
  unfold f_Fits_weightOf at hf
  refine sf_blk [(.iload_n 1, 0, 0, .null)] (lv' := [(0, .ref a0), (1, .int a1)]) (st' := [.int a1]) (M1 := M) (ob := []) (pc' := 1) (by decide +kernel) rfl rfl sw_a0 ?_
  refine sf_z_lt (off := 18) (tgt := 19) (by decide +kernel) (by decide) hf (fun hc hf => ?_) (fun hc hf => ?_)
  · refine sf_blk [(.iconst (0), 0, 0, .int (0 : Int32))] (lv' := [(0, .ref a0), (1, .int a1)]) (st' := [.int (0 : Int32)]) (M1 := M) (ob := []) (pc' := 20) (by decide +kernel) rfl rfl sw_a0 ?_
    cases hf
    exact sf_int rfl (by decide +kernel)
  · refine sf_blk [(.iload_n 1, 0, 0, .null), (.bipush (6), 0, 0, .int (6 : Int32))] (lv' := [(0, .ref a0), (1, .int a1)]) (st' := [.int (6 : Int32), .int a1]) (M1 := M) (ob := []) (pc' := 7) (by decide +kernel) rfl rfl sw_a0 ?_
    refine sf_j_ge (off := 12) (tgt := 19) (by decide +kernel) (by decide) hf (fun hc hf => ?_) (fun hc hf => ?_)
    · refine sf_blk [(.iconst (0), 0, 0, .int (0 : Int32))] (lv' := [(0, .ref a0), (1, .int a1)]) (st' := [.int (0 : Int32)]) (M1 := M) (ob := []) (pc' := 20) (by decide +kernel) rfl rfl sw_a0 ?_
      cases hf
      exact sf_int rfl (by decide +kernel)
    · obtain ⟨h1, hf⟩ := sw_gd_1 hf
      obtain ⟨h2, hf⟩ := sw_gd_1 hf
      refine sf_blk [(.aload_n 0, 0, 0, .null), (.getfield 9, 1, 2, .null), (.iload_n 1, 0, 0, .null), (.iaload, 0, 0, .null)] (lv' := [(0, .ref a0), (1, .int a1)]) (st' := [.int (rd_I M (rd_R M a0 2) a1.toNatClampNeg)]) (M1 := M) (ob := [sw_ok M a0 1, sw_ar M (rd_R M a0 2) 13 a1]) (pc' := 16) (by decide +kernel) rfl rfl (sw_a1 h1 (sw_a1 h2 sw_a0)) ?_
      refine sf_goto (off := 4) (tgt := 20) (by decide +kernel) (by decide) ?_
      cases hf
      exact sf_int rfl (by decide +kernel)
theorem o_Fits_weightOf (g : sw_G) {d : Nat} (hd : 1 ≤ d) {N : Nat} {a0 : Nat} {a1 : Int32} {M : sw_M} {r : Int32 × sw_M} (hf : f_Fits_weightOf N a0 a1 M = some r) : sw_Ok g k_Fits_weightOf d [.ref a0, .int a1] M (some (.int r.1)) r.2 := sf_met (by decide +kernel) rfl (by decide) (Nat.le_of_ble_eq_true rfl) (t_Fits_weightOf hd hf)
def f_House_weight_73 (N : Nat) (a0 : Nat) (a3 : Int32) (a4 : Int32) (M : sw_M) : Option (Int32 × sw_M) :=
  if a4 = 0 then some ((-1 : Int32), M)
  else sw_gd [sw_ok M a0 11] (sw_gd [sw_ok M (rd_R M a0 8) 1] ((f_Fits_weightOf N (rd_R M a0 8) a3 M).bind (fun u3 => some (u3.1, u3.2))))
set_option maxRecDepth 10000 in
theorem t_House_weight_73 {g : sw_G} {d n0 : Nat} (hd : 8 ≤ d) {r : Int32 × sw_M} {N : Nat} {a0 : Nat} {a3 : Int32} {a4 : Int32} {M : sw_M} (hf : f_House_weight_73 N a0 a3 a4 M = some r) : sw_F g k_House_weight d n0 (some (.int r.1)) r.2 73 [(0, .ref a0), (3, .int a3), (4, .int a4)] [] M := by
  unfold f_House_weight_73 at hf
  refine sf_blk [(.iload 4, 0, 0, .null)] (lv' := [(0, .ref a0), (3, .int a3), (4, .int a4)]) (st' := [.int a4]) (M1 := M) (ob := []) (pc' := 75) (by decide +kernel) rfl rfl sw_a0 ?_
  refine sf_z_eq (off := 14) (tgt := 89) (by decide +kernel) (by decide) hf (fun hc hf => ?_) (fun hc hf => ?_)
  · refine sf_blk [(.iconst (-1), 0, 0, .int (-1 : Int32))] (lv' := [(0, .ref a0), (3, .int a3), (4, .int a4)]) (st' := [.int (-1 : Int32)]) (M1 := M) (ob := []) (pc' := 90) (by decide +kernel) rfl rfl sw_a0 ?_
    cases hf
    exact sf_int rfl (by decide +kernel)
  · obtain ⟨h1, hf⟩ := sw_gd_1 hf
    obtain ⟨h2, hf⟩ := sw_gd_1 hf
    refine sf_blk [(.aload_n 0, 0, 0, .null), (.getfield 65, 11, 8, .null), (.iload_n 3, 0, 0, .null)] (lv' := [(0, .ref a0), (3, .int a3), (4, .int a4)]) (st' := [.int a3, .ref (rd_R M a0 8)]) (M1 := M) (ob := [sw_ok M a0 11]) (pc' := 83) (by decide +kernel) rfl rfl (sw_a1 h1 sw_a0) ?_
    obtain ⟨u3, hu3, hf⟩ := sw_bnd hf
    refine sf_callV (i := 277) (k2 := k_Fits_weightOf) (d2 := d - 1) (As := [.int a3]) (st := []) (q := (rd_R M a0 8)) (ci := 1) mf_Fits_weightOf mi_Fits_weightOf ms_Fits_weightOf (sw_m5 81 (by decide +kernel)) rfl (by decide) (by decide +kernel) rfl (Nat.le_of_ble_eq_true rfl) (by omega) h2 (o_Fits_weightOf g (d := d - 1) (by omega) hu3) ?_
    show sw_F _ _ _ _ _ _ 86 [(0, .ref a0), (3, .int a3), (4, .int a4)] [.int u3.1] u3.2
    refine sf_goto (off := 4) (tgt := 90) (by decide +kernel) (by decide) ?_
    cases hf
    exact sf_int rfl (by decide +kernel)
def f_House_weight_47 (N : Nat) : Nat → Nat → Int32 → Int32 → Int32 → Int32 → sw_M → Option (Int32 × sw_M)
  | 0, _, _, _, _, _, _ => none
  | j + 1, a0, a2, a3, a4, a5, M =>
  if a2 ≤ a5 then f_House_weight_73 N a0 a3 a4 M
  else if a4 = 0 then f_House_weight_73 N a0 a3 a4 M
  else sw_gd [sw_ok M a0 11] (sw_gd [sw_ok M (rd_R M a0 8) 1] ((f_Fits_next N (rd_R M a0 8) M).bind (fun u3 => f_House_weight_47 N j a0 a2 a3 u3.1 (a5 + (1 : Int32)) u3.2)))
set_option maxRecDepth 10000 in
theorem t_House_weight_47 {g : sw_G} {d n0 : Nat} (hd : 8 ≤ d) {r : Int32 × sw_M} {N : Nat} : ∀ (j : Nat) (a0 : Nat) (a2 : Int32) (a3 : Int32) (a4 : Int32) (a5 : Int32) (M : sw_M), f_House_weight_47 N j a0 a2 a3 a4 a5 M = some r → sw_F g k_House_weight d n0 (some (.int r.1)) r.2 47 [(0, .ref a0), (2, .int a2), (3, .int a3), (4, .int a4), (5, .int a5)] [] M := by
  intro j
  induction j with
  | zero =>
    intro a0 a2 a3 a4 a5 M hf
    rw [f_House_weight_47] at hf
    cases hf
  | succ j ih =>
    intro a0 a2 a3 a4 a5 M hf
    rw [f_House_weight_47] at hf
    refine sf_blk [(.iload 5, 0, 0, .null), (.iload_n 2, 0, 0, .null)] (lv' := [(0, .ref a0), (2, .int a2), (3, .int a3), (4, .int a4), (5, .int a5)]) (st' := [.int a2, .int a5]) (M1 := M) (ob := []) (pc' := 50) (by decide +kernel) rfl rfl sw_a0 ?_
    refine sf_j_ge (off := 23) (tgt := 73) (by decide +kernel) (by decide) hf (fun hc hf => ?_) (fun hc hf => ?_)
    · exact sf_weak [0, 2, 3] rfl (t_House_weight_73 hd hf)
    · refine sf_blk [(.iload 4, 0, 0, .null)] (lv' := [(0, .ref a0), (2, .int a2), (3, .int a3), (4, .int a4), (5, .int a5)]) (st' := [.int a4]) (M1 := M) (ob := []) (pc' := 55) (by decide +kernel) rfl rfl sw_a0 ?_
      refine sf_z_eq (off := 18) (tgt := 73) (by decide +kernel) (by decide) hf (fun hc hf => ?_) (fun hc hf => ?_)
      · exact sf_weak [0, 2, 3] rfl (t_House_weight_73 hd hf)
      · obtain ⟨h1, hf⟩ := sw_gd_1 hf
        obtain ⟨h2, hf⟩ := sw_gd_1 hf
        refine sf_blk [(.aload_n 0, 0, 0, .null), (.getfield 65, 11, 8, .null)] (lv' := [(0, .ref a0), (2, .int a2), (3, .int a3), (4, .int a4), (5, .int a5)]) (st' := [.ref (rd_R M a0 8)]) (M1 := M) (ob := [sw_ok M a0 11]) (pc' := 62) (by decide +kernel) rfl rfl (sw_a1 h1 sw_a0) ?_
        obtain ⟨u3, hu3, hf⟩ := sw_bnd hf
        refine sf_callV (i := 274) (k2 := k_Fits_next) (d2 := d - 1) (As := []) (st := []) (q := (rd_R M a0 8)) (ci := 1) mf_Fits_next mi_Fits_next ms_Fits_next (sw_m5 76 (by decide +kernel)) rfl (by decide) (by decide +kernel) rfl (Nat.le_of_ble_eq_true rfl) (by omega) h2 (o_Fits_next g (d := d - 1) (by omega) hu3) ?_
        show sw_F _ _ _ _ _ _ 65 [(0, .ref a0), (2, .int a2), (3, .int a3), (4, .int a4), (5, .int a5)] [.int u3.1] u3.2
        refine sf_blk [(.istore 4, 0, 0, .null), (.iinc 5 (1), 0, 0, .int (1 : Int32))] (lv' := [(5, .int (a5 + (1 : Int32))), (4, .int u3.1), (0, .ref a0), (2, .int a2), (3, .int a3)]) (st' := []) (M1 := u3.2) (ob := []) (pc' := 70) (by decide +kernel) rfl rfl sw_a0 ?_
        refine sf_goto (off := -23) (tgt := 47) (by decide +kernel) (by decide) ?_
        exact sf_weak [2, 3, 4, 1, 0] rfl (ih _ _ _ _ _ _ hf)
def f_House_weight (N : Nat) (a0 : Nat) (a1 : Int32) (a2 : Int32) (a3 : Int32) (M : sw_M) : Option (Int32 × sw_M) :=
  sw_gd [sw_ok M a0 11] (sw_gd [sw_ok M (rd_R M a0 7) 3] ((f_Notes_know N (rd_R M a0 7) a1 M).bind (fun u3 => if u3.1 = 0 then some ((-1 : Int32), u3.2)
  else if a2 < 0 then some ((-1 : Int32), u3.2)
  else if (1000000 : Int32) ≤ a2 then some ((-1 : Int32), u3.2)
  else sw_gd [sw_ok u3.2 a0 11] (sw_gd [sw_ok u3.2 (rd_R u3.2 a0 6) 10] ((f_Swarm_known N (rd_R u3.2 a0 6) a3 u3.2).bind (fun u6 => if u6.1 = 0 then some ((-1 : Int32), u6.2)
  else sw_gd [sw_ok u6.2 a0 11] (sw_gd [sw_ok u6.2 (rd_R u6.2 a0 8) 1] ((f_Fits_first N (rd_R u6.2 a0 8) u6.2).bind (fun u9 => f_House_weight_47 N N a0 a2 a3 u9.1 (0 : Int32) u9.2)))))))))
set_option maxRecDepth 10000 in
theorem t_House_weight {g : sw_G} {d n0 : Nat} (hd : 8 ≤ d) {r : Int32 × sw_M} {N : Nat} {a0 : Nat} {a1 : Int32} {a2 : Int32} {a3 : Int32} {M : sw_M} (hf : f_House_weight N a0 a1 a2 a3 M = some r) : sw_F g k_House_weight d n0 (some (.int r.1)) r.2 0 [(0, .ref a0), (1, .int a1), (2, .int a2), (3, .int a3)] [] M := by
  unfold f_House_weight at hf
  obtain ⟨h1, hf⟩ := sw_gd_1 hf
  obtain ⟨h2, hf⟩ := sw_gd_1 hf
  refine sf_blk [(.aload_n 0, 0, 0, .null), (.getfield 56, 11, 7, .null), (.iload_n 1, 0, 0, .null)] (lv' := [(0, .ref a0), (1, .int a1), (2, .int a2), (3, .int a3)]) (st' := [.int a1, .ref (rd_R M a0 7)]) (M1 := M) (ob := [sw_ok M a0 11]) (pc' := 5) (by decide +kernel) rfl rfl (sw_a1 h1 sw_a0) ?_
  obtain ⟨u3, hu3, hf⟩ := sw_bnd hf
  refine sf_callV (i := 263) (k2 := k_Notes_know) (d2 := d - 1) (As := [.int a1]) (st := []) (q := (rd_R M a0 7)) (ci := 3) mf_Notes_know mi_Notes_know ms_Notes_know (sw_m5 29 (by decide +kernel)) rfl (by decide) (by decide +kernel) rfl (Nat.le_of_ble_eq_true rfl) (by omega) h2 (o_Notes_know g (d := d - 1) (by omega) hu3) ?_
  show sw_F _ _ _ _ _ _ 8 [(0, .ref a0), (1, .int a1), (2, .int a2), (3, .int a3)] [.int u3.1] u3.2
  refine sf_z_eq (off := 25) (tgt := 33) (by decide +kernel) (by decide) hf (fun hc hf => ?_) (fun hc hf => ?_)
  · refine sf_blk [(.iconst (-1), 0, 0, .int (-1 : Int32))] (lv' := [(0, .ref a0), (1, .int a1), (2, .int a2), (3, .int a3)]) (st' := [.int (-1 : Int32)]) (M1 := u3.2) (ob := []) (pc' := 34) (by decide +kernel) rfl rfl sw_a0 ?_
    cases hf
    exact sf_int rfl (by decide +kernel)
  · refine sf_blk [(.iload_n 2, 0, 0, .null)] (lv' := [(0, .ref a0), (1, .int a1), (2, .int a2), (3, .int a3)]) (st' := [.int a2]) (M1 := u3.2) (ob := []) (pc' := 12) (by decide +kernel) rfl rfl sw_a0 ?_
    refine sf_z_lt (off := 21) (tgt := 33) (by decide +kernel) (by decide) hf (fun hc hf => ?_) (fun hc hf => ?_)
    · refine sf_blk [(.iconst (-1), 0, 0, .int (-1 : Int32))] (lv' := [(0, .ref a0), (1, .int a1), (2, .int a2), (3, .int a3)]) (st' := [.int (-1 : Int32)]) (M1 := u3.2) (ob := []) (pc' := 34) (by decide +kernel) rfl rfl sw_a0 ?_
      cases hf
      exact sf_int rfl (by decide +kernel)
    · refine sf_blk [(.iload_n 2, 0, 0, .null), (.ldc_w 273, 0, 0, .int (1000000 : Int32))] (lv' := [(0, .ref a0), (1, .int a1), (2, .int a2), (3, .int a3)]) (st' := [.int (1000000 : Int32), .int a2]) (M1 := u3.2) (ob := []) (pc' := 19) (by decide +kernel) rfl rfl sw_a0 ?_
      refine sf_j_ge (off := 14) (tgt := 33) (by decide +kernel) (by decide) hf (fun hc hf => ?_) (fun hc hf => ?_)
      · refine sf_blk [(.iconst (-1), 0, 0, .int (-1 : Int32))] (lv' := [(0, .ref a0), (1, .int a1), (2, .int a2), (3, .int a3)]) (st' := [.int (-1 : Int32)]) (M1 := u3.2) (ob := []) (pc' := 34) (by decide +kernel) rfl rfl sw_a0 ?_
        cases hf
        exact sf_int rfl (by decide +kernel)
      · obtain ⟨h4, hf⟩ := sw_gd_1 hf
        obtain ⟨h5, hf⟩ := sw_gd_1 hf
        refine sf_blk [(.aload_n 0, 0, 0, .null), (.getfield 49, 11, 6, .null), (.iload_n 3, 0, 0, .null)] (lv' := [(0, .ref a0), (1, .int a1), (2, .int a2), (3, .int a3)]) (st' := [.int a3, .ref (rd_R u3.2 a0 6)]) (M1 := u3.2) (ob := [sw_ok u3.2 a0 11]) (pc' := 27) (by decide +kernel) rfl rfl (sw_a1 h4 sw_a0) ?_
        obtain ⟨u6, hu6, hf⟩ := sw_bnd hf
        refine sf_callV (i := 185) (k2 := k_Swarm_known) (d2 := d - 1) (As := [.int a3]) (st := []) (q := (rd_R u3.2 a0 6)) (ci := 10) mf_Swarm_known mi_Swarm_known ms_Swarm_known (sw_m4 124 (by decide +kernel)) rfl (by decide) (by decide +kernel) rfl (Nat.le_of_ble_eq_true rfl) (by omega) h5 (o_Swarm_known g (d := d - 1) (by omega) hu6) ?_
        show sw_F _ _ _ _ _ _ 30 [(0, .ref a0), (1, .int a1), (2, .int a2), (3, .int a3)] [.ref u6.1] u6.2
        refine sf_n_nonnull (off := 5) (tgt := 35) (by decide +kernel) (by decide) hf (fun hc hf => ?_) (fun hc hf => ?_)
        · obtain ⟨h7, hf⟩ := sw_gd_1 hf
          obtain ⟨h8, hf⟩ := sw_gd_1 hf
          refine sf_blk [(.aload_n 0, 0, 0, .null), (.getfield 65, 11, 8, .null)] (lv' := [(0, .ref a0), (1, .int a1), (2, .int a2), (3, .int a3)]) (st' := [.ref (rd_R u6.2 a0 8)]) (M1 := u6.2) (ob := [sw_ok u6.2 a0 11]) (pc' := 39) (by decide +kernel) rfl rfl (sw_a1 h7 sw_a0) ?_
          obtain ⟨u9, hu9, hf⟩ := sw_bnd hf
          refine sf_callV (i := 270) (k2 := k_Fits_first) (d2 := d - 1) (As := []) (st := []) (q := (rd_R u6.2 a0 8)) (ci := 1) mf_Fits_first mi_Fits_first ms_Fits_first (sw_m5 35 (by decide +kernel)) rfl (by decide) (by decide +kernel) rfl (Nat.le_of_ble_eq_true rfl) (by omega) h8 (o_Fits_first g (d := d - 1) (by omega) hu9) ?_
          show sw_F _ _ _ _ _ _ 42 [(0, .ref a0), (1, .int a1), (2, .int a2), (3, .int a3)] [.int u9.1] u9.2
          refine sf_blk [(.istore 4, 0, 0, .null), (.iconst (0), 0, 0, .int (0 : Int32)), (.istore 5, 0, 0, .null)] (lv' := [(5, .int (0 : Int32)), (4, .int u9.1), (0, .ref a0), (1, .int a1), (2, .int a2), (3, .int a3)]) (st' := []) (M1 := u9.2) (ob := []) (pc' := 47) (by decide +kernel) rfl rfl sw_a0 ?_
          exact sf_weak [2, 4, 5, 1, 0] rfl (t_House_weight_47 hd _ _ _ _ _ _ _ hf)
        · refine sf_blk [(.iconst (-1), 0, 0, .int (-1 : Int32))] (lv' := [(0, .ref a0), (1, .int a1), (2, .int a2), (3, .int a3)]) (st' := [.int (-1 : Int32)]) (M1 := u6.2) (ob := []) (pc' := 34) (by decide +kernel) rfl rfl sw_a0 ?_
          cases hf
          exact sf_int rfl (by decide +kernel)
theorem o_House_weight (g : sw_G) {d : Nat} (hd : 8 ≤ d) {N : Nat} {a0 : Nat} {a1 : Int32} {a2 : Int32} {a3 : Int32} {M : sw_M} {r : Int32 × sw_M} (hf : f_House_weight N a0 a1 a2 a3 M = some r) : sw_Ok g k_House_weight d [.ref a0, .int a1, .int a2, .int a3] M (some (.int r.1)) r.2 := sf_met (by decide +kernel) rfl (by decide) (Nat.le_of_ble_eq_true rfl) (t_House_weight hd hf)
def f_Fits_lightOf_69 (N : Nat) (k4 : Nat → Int32 → Int32 → Int32 → sw_M → Option (Int32 × sw_M)) (a0 : Nat) (a1 : Int32) (a2 : Int32) (a3 : Int32) (M : sw_M) : Option (Int32 × sw_M) :=
  k4 a0 a1 a2 (a3 + (1 : Int32)) M
set_option maxRecDepth 10000 in
theorem t_Fits_lightOf_69 {g : sw_G} {d n0 : Nat} (hd : 2 ≤ d) {r : Int32 × sw_M} (k4 : Nat → Int32 → Int32 → Int32 → sw_M → Option (Int32 × sw_M)) (hk4 : ∀ (a0 : Nat) (a1 : Int32) (a2 : Int32) (a3 : Int32) (M : sw_M), k4 a0 a1 a2 a3 M = some r → sw_F g k_Fits_lightOf d n0 (some (.int r.1)) r.2 4 [(0, .ref a0), (1, .int a1), (2, .int a2), (3, .int a3)] [] M) {N : Nat} {a0 : Nat} {a1 : Int32} {a2 : Int32} {a3 : Int32} {M : sw_M} (hf : f_Fits_lightOf_69 N k4 a0 a1 a2 a3 M = some r) : sw_F g k_Fits_lightOf d n0 (some (.int r.1)) r.2 69 [(0, .ref a0), (1, .int a1), (2, .int a2), (3, .int a3)] [] M := by
  unfold f_Fits_lightOf_69 at hf
  refine sf_blk [(.iinc 3 (1), 0, 0, .int (1 : Int32))] (lv' := [(3, .int (a3 + (1 : Int32))), (0, .ref a0), (1, .int a1), (2, .int a2)]) (st' := []) (M1 := M) (ob := []) (pc' := 72) (by decide +kernel) rfl rfl sw_a0 ?_
  refine sf_goto (off := -68) (tgt := 4) (by decide +kernel) (by decide) ?_
  exact sf_weak [1, 2, 3, 0] rfl (hk4 _ _ _ _ _ hf)
def f_Fits_lightOf_4 (N : Nat) : Nat → Nat → Int32 → Int32 → Int32 → sw_M → Option (Int32 × sw_M)
  | 0, _, _, _, _, _ => none
  | j + 1, a0, a1, a2, a3, M =>
  sw_gd [sw_ok M a0 1] (if (rd_I M a0 4) ≤ a3 then some (a2, M)
  else if (6 : Int32) ≤ a3 then some (a2, M)
  else sw_gd [sw_ar M (rd_R M a0 3) 13 a3] (sw_gd [sw_ok M (rd_R M a0 0) 10] ((f_Swarm_latest N (rd_R M a0 0) (rd_I M (rd_R M a0 3) a3.toNatClampNeg) M).bind (fun u4 => if u4.1 = 0 then f_Fits_lightOf_69 N (f_Fits_lightOf_4 N j) a0 a1 a2 a3 u4.2
  else if a1 < 0 then f_Fits_lightOf_69 N (f_Fits_lightOf_4 N j) a0 a1 a2 a3 u4.2
  else if (64 : Int32) ≤ a1 then f_Fits_lightOf_69 N (f_Fits_lightOf_4 N j) a0 a1 a2 a3 u4.2
  else sw_gd [sw_ok u4.2 a0 1] (sw_gd [sw_ar u4.2 (rd_R u4.2 a0 3) 13 a3] ((f_Fits_weightOf N a0 (rd_I u4.2 (rd_R u4.2 a0 3) a3.toNatClampNeg) u4.2).bind (fun u7 => sw_gd [sw_ok u7.2 u4.1 4] (sw_gd [sw_ar u7.2 (rd_R u7.2 u4.1 15) 13 a1] (f_Fits_lightOf_69 N (f_Fits_lightOf_4 N j) a0 a1 (a2 + (u7.1 * (rd_I u7.2 (rd_R u7.2 u4.1 15) a1.toNatClampNeg))) a3 u7.2)))))))))
set_option maxRecDepth 10000 in
theorem t_Fits_lightOf_4 {g : sw_G} {d n0 : Nat} (hd : 2 ≤ d) {r : Int32 × sw_M} {N : Nat} : ∀ (j : Nat) (a0 : Nat) (a1 : Int32) (a2 : Int32) (a3 : Int32) (M : sw_M), f_Fits_lightOf_4 N j a0 a1 a2 a3 M = some r → sw_F g k_Fits_lightOf d n0 (some (.int r.1)) r.2 4 [(0, .ref a0), (1, .int a1), (2, .int a2), (3, .int a3)] [] M := by
  intro j
  induction j with
  | zero =>
    intro a0 a1 a2 a3 M hf
    rw [f_Fits_lightOf_4] at hf
    cases hf
  | succ j ih =>
    intro a0 a1 a2 a3 M hf
    rw [f_Fits_lightOf_4] at hf
    obtain ⟨h1, hf⟩ := sw_gd_1 hf
    refine sf_blk [(.iload_n 3, 0, 0, .null), (.aload_n 0, 0, 0, .null), (.getfield 56, 1, 4, .null)] (lv' := [(0, .ref a0), (1, .int a1), (2, .int a2), (3, .int a3)]) (st' := [.int (rd_I M a0 4), .int a3]) (M1 := M) (ob := [sw_ok M a0 1]) (pc' := 9) (by decide +kernel) rfl rfl (sw_a1 h1 sw_a0) ?_
    refine sf_j_ge (off := 66) (tgt := 75) (by decide +kernel) (by decide) hf (fun hc hf => ?_) (fun hc hf => ?_)
    · refine sf_blk [(.iload_n 2, 0, 0, .null)] (lv' := [(0, .ref a0), (1, .int a1), (2, .int a2), (3, .int a3)]) (st' := [.int a2]) (M1 := M) (ob := []) (pc' := 76) (by decide +kernel) rfl rfl sw_a0 ?_
      cases hf
      exact sf_int rfl (by decide +kernel)
    · refine sf_blk [(.iload_n 3, 0, 0, .null), (.bipush (6), 0, 0, .int (6 : Int32))] (lv' := [(0, .ref a0), (1, .int a1), (2, .int a2), (3, .int a3)]) (st' := [.int (6 : Int32), .int a3]) (M1 := M) (ob := []) (pc' := 15) (by decide +kernel) rfl rfl sw_a0 ?_
      refine sf_j_ge (off := 60) (tgt := 75) (by decide +kernel) (by decide) hf (fun hc hf => ?_) (fun hc hf => ?_)
      · refine sf_blk [(.iload_n 2, 0, 0, .null)] (lv' := [(0, .ref a0), (1, .int a1), (2, .int a2), (3, .int a3)]) (st' := [.int a2]) (M1 := M) (ob := []) (pc' := 76) (by decide +kernel) rfl rfl sw_a0 ?_
        cases hf
        exact sf_int rfl (by decide +kernel)
      · obtain ⟨h2, hf⟩ := sw_gd_1 hf
        obtain ⟨h3, hf⟩ := sw_gd_1 hf
        refine sf_blk [(.aload_n 0, 0, 0, .null), (.getfield 34, 1, 0, .null), (.aload_n 0, 0, 0, .null), (.getfield 15, 1, 3, .null), (.iload_n 3, 0, 0, .null), (.iaload, 0, 0, .null)] (lv' := [(0, .ref a0), (1, .int a1), (2, .int a2), (3, .int a3)]) (st' := [.int (rd_I M (rd_R M a0 3) a3.toNatClampNeg), .ref (rd_R M a0 0)]) (M1 := M) (ob := [sw_ok M a0 1, sw_ok M a0 1, sw_ar M (rd_R M a0 3) 13 a3]) (pc' := 28) (by decide +kernel) rfl rfl (sw_a1 h1 (sw_a1 h1 (sw_a1 h2 sw_a0))) ?_
        obtain ⟨u4, hu4, hf⟩ := sw_bnd hf
        refine sf_callV (i := 59) (k2 := k_Swarm_latest) (d2 := d - 1) (As := [.int (rd_I M (rd_R M a0 3) a3.toNatClampNeg)]) (st := []) (q := (rd_R M a0 0)) (ci := 10) mf_Swarm_latest mi_Swarm_latest ms_Swarm_latest (sw_m5 44 (by decide +kernel)) rfl (by decide) (by decide +kernel) rfl (Nat.le_of_ble_eq_true rfl) (by omega) h3 (o_Swarm_latest g (d := d - 1) (by omega) hu4) ?_
        show sw_F _ _ _ _ _ _ 31 [(0, .ref a0), (1, .int a1), (2, .int a2), (3, .int a3)] [.ref u4.1] u4.2
        refine sf_blk [(.astore 4, 0, 0, .null), (.aload 4, 0, 0, .null)] (lv' := [(4, .ref u4.1), (0, .ref a0), (1, .int a1), (2, .int a2), (3, .int a3)]) (st' := [.ref u4.1]) (M1 := u4.2) (ob := []) (pc' := 35) (by decide +kernel) rfl rfl sw_a0 ?_
        refine sf_n_null (off := 34) (tgt := 69) (by decide +kernel) (by decide) hf (fun hc hf => ?_) (fun hc hf => ?_)
        · exact sf_weak [1, 2, 3, 4] rfl (t_Fits_lightOf_69 hd _ ih hf)
        · refine sf_blk [(.iload_n 1, 0, 0, .null)] (lv' := [(4, .ref u4.1), (0, .ref a0), (1, .int a1), (2, .int a2), (3, .int a3)]) (st' := [.int a1]) (M1 := u4.2) (ob := []) (pc' := 39) (by decide +kernel) rfl rfl sw_a0 ?_
          refine sf_z_lt (off := 30) (tgt := 69) (by decide +kernel) (by decide) hf (fun hc hf => ?_) (fun hc hf => ?_)
          · exact sf_weak [1, 2, 3, 4] rfl (t_Fits_lightOf_69 hd _ ih hf)
          · refine sf_blk [(.iload_n 1, 0, 0, .null), (.bipush (64), 0, 0, .int (64 : Int32))] (lv' := [(4, .ref u4.1), (0, .ref a0), (1, .int a1), (2, .int a2), (3, .int a3)]) (st' := [.int (64 : Int32), .int a1]) (M1 := u4.2) (ob := []) (pc' := 45) (by decide +kernel) rfl rfl sw_a0 ?_
            refine sf_j_ge (off := 24) (tgt := 69) (by decide +kernel) (by decide) hf (fun hc hf => ?_) (fun hc hf => ?_)
            · exact sf_weak [1, 2, 3, 4] rfl (t_Fits_lightOf_69 hd _ ih hf)
            · obtain ⟨h5, hf⟩ := sw_gd_1 hf
              obtain ⟨h6, hf⟩ := sw_gd_1 hf
              refine sf_blk [(.iload_n 2, 0, 0, .null), (.aload_n 0, 0, 0, .null), (.aload_n 0, 0, 0, .null), (.getfield 15, 1, 3, .null), (.iload_n 3, 0, 0, .null), (.iaload, 0, 0, .null)] (lv' := [(4, .ref u4.1), (0, .ref a0), (1, .int a1), (2, .int a2), (3, .int a3)]) (st' := [.int (rd_I u4.2 (rd_R u4.2 a0 3) a3.toNatClampNeg), .ref a0, .int a2]) (M1 := u4.2) (ob := [sw_ok u4.2 a0 1, sw_ar u4.2 (rd_R u4.2 a0 3) 13 a3]) (pc' := 56) (by decide +kernel) rfl rfl (sw_a1 h5 (sw_a1 h6 sw_a0)) ?_
              obtain ⟨u7, hu7, hf⟩ := sw_bnd hf
              refine sf_callV (i := 65) (k2 := k_Fits_weightOf) (d2 := d - 1) (As := [.int (rd_I u4.2 (rd_R u4.2 a0 3) a3.toNatClampNeg)]) (st := [.int a2]) (q := a0) (ci := 1) mf_Fits_weightOf mi_Fits_weightOf ms_Fits_weightOf (sw_m5 93 (by decide +kernel)) rfl (by decide) (by decide +kernel) rfl (Nat.le_of_ble_eq_true rfl) (by omega) h5 (o_Fits_weightOf g (d := d - 1) (by omega) hu7) ?_
              show sw_F _ _ _ _ _ _ 59 [(4, .ref u4.1), (0, .ref a0), (1, .int a1), (2, .int a2), (3, .int a3)] [.int u7.1, .int a2] u7.2
              obtain ⟨h8, hf⟩ := sw_gd_1 hf
              obtain ⟨h9, hf⟩ := sw_gd_1 hf
              refine sf_blk [(.aload 4, 0, 0, .null), (.getfield 69, 4, 15, .null), (.iload_n 1, 0, 0, .null), (.iaload, 0, 0, .null), (.imul, 0, 0, .null), (.iadd, 0, 0, .null), (.istore_n 2, 0, 0, .null)] (lv' := [(2, .int (a2 + (u7.1 * (rd_I u7.2 (rd_R u7.2 u4.1 15) a1.toNatClampNeg)))), (4, .ref u4.1), (0, .ref a0), (1, .int a1), (3, .int a3)]) (st' := []) (M1 := u7.2) (ob := [sw_ok u7.2 u4.1 4, sw_ar u7.2 (rd_R u7.2 u4.1 15) 13 a1]) (pc' := 69) (by decide +kernel) rfl rfl (sw_a1 h8 (sw_a1 h9 sw_a0)) ?_
              exact sf_weak [2, 3, 0, 4] rfl (t_Fits_lightOf_69 hd _ ih hf)
def f_Fits_lightOf (N : Nat) (a0 : Nat) (a1 : Int32) (M : sw_M) : Option (Int32 × sw_M) :=
  f_Fits_lightOf_4 N N a0 a1 (0 : Int32) (0 : Int32) M
set_option maxRecDepth 10000 in
theorem t_Fits_lightOf {g : sw_G} {d n0 : Nat} (hd : 2 ≤ d) {r : Int32 × sw_M} {N : Nat} {a0 : Nat} {a1 : Int32} {M : sw_M} (hf : f_Fits_lightOf N a0 a1 M = some r) : sw_F g k_Fits_lightOf d n0 (some (.int r.1)) r.2 0 [(0, .ref a0), (1, .int a1)] [] M := by
  unfold f_Fits_lightOf at hf
  refine sf_blk [(.iconst (0), 0, 0, .int (0 : Int32)), (.istore_n 2, 0, 0, .null), (.iconst (0), 0, 0, .int (0 : Int32)), (.istore_n 3, 0, 0, .null)] (lv' := [(3, .int (0 : Int32)), (2, .int (0 : Int32)), (0, .ref a0), (1, .int a1)]) (st' := []) (M1 := M) (ob := []) (pc' := 4) (by decide +kernel) rfl rfl sw_a0 ?_
  exact sf_weak [2, 3, 1, 0] rfl (t_Fits_lightOf_4 hd _ _ _ _ _ _ hf)
theorem o_Fits_lightOf (g : sw_G) {d : Nat} (hd : 2 ≤ d) {N : Nat} {a0 : Nat} {a1 : Int32} {M : sw_M} {r : Int32 × sw_M} (hf : f_Fits_lightOf N a0 a1 M = some r) : sw_Ok g k_Fits_lightOf d [.ref a0, .int a1] M (some (.int r.1)) r.2 := sf_met (by decide +kernel) rfl (by decide) (Nat.le_of_ble_eq_true rfl) (t_Fits_lightOf hd hf)
def f_House_range_164 (N : Nat) (k93 : Nat → Int32 → Int32 → Int32 → Int32 → Int32 → Int32 → sw_M → Option (Int32 × sw_M)) (a0 : Nat) (a3 : Int32) (a4 : Int32) (a5 : Int32) (a7 : Int32) (a9 : Int32) (M : sw_M) : Option (Int32 × sw_M) :=
  sw_gd [sw_ok M a0 11] (sw_gd [sw_ok M (rd_R M a0 8) 1] ((f_Fits_next N (rd_R M a0 8) M).bind (fun u3 => k93 a0 a3 a4 a5 a7 u3.1 (a9 + (1 : Int32)) u3.2)))
set_option maxRecDepth 10000 in
theorem t_House_range_164 {g : sw_G} {d n0 : Nat} (hd : 7 ≤ d) {r : Int32 × sw_M} (k93 : Nat → Int32 → Int32 → Int32 → Int32 → Int32 → Int32 → sw_M → Option (Int32 × sw_M)) (hk93 : ∀ (a0 : Nat) (a3 : Int32) (a4 : Int32) (a5 : Int32) (a7 : Int32) (a8 : Int32) (a9 : Int32) (M : sw_M), k93 a0 a3 a4 a5 a7 a8 a9 M = some r → sw_F g k_House_range d n0 (some (.int r.1)) r.2 93 [(0, .ref a0), (3, .int a3), (4, .int a4), (5, .int a5), (7, .int a7), (8, .int a8), (9, .int a9)] [] M) {N : Nat} {a0 : Nat} {a3 : Int32} {a4 : Int32} {a5 : Int32} {a7 : Int32} {a9 : Int32} {M : sw_M} (hf : f_House_range_164 N k93 a0 a3 a4 a5 a7 a9 M = some r) : sw_F g k_House_range d n0 (some (.int r.1)) r.2 164 [(0, .ref a0), (3, .int a3), (4, .int a4), (5, .int a5), (7, .int a7), (9, .int a9)] [] M := by
  unfold f_House_range_164 at hf
  obtain ⟨h1, hf⟩ := sw_gd_1 hf
  obtain ⟨h2, hf⟩ := sw_gd_1 hf
  refine sf_blk [(.aload_n 0, 0, 0, .null), (.getfield 65, 11, 8, .null)] (lv' := [(0, .ref a0), (3, .int a3), (4, .int a4), (5, .int a5), (7, .int a7), (9, .int a9)]) (st' := [.ref (rd_R M a0 8)]) (M1 := M) (ob := [sw_ok M a0 11]) (pc' := 168) (by decide +kernel) rfl rfl (sw_a1 h1 sw_a0) ?_
  obtain ⟨u3, hu3, hf⟩ := sw_bnd hf
  refine sf_callV (i := 274) (k2 := k_Fits_next) (d2 := d - 1) (As := []) (st := []) (q := (rd_R M a0 8)) (ci := 1) mf_Fits_next mi_Fits_next ms_Fits_next (sw_m5 76 (by decide +kernel)) rfl (by decide) (by decide +kernel) rfl (Nat.le_of_ble_eq_true rfl) (by omega) h2 (o_Fits_next g (d := d - 1) (by omega) hu3) ?_
  show sw_F _ _ _ _ _ _ 171 [(0, .ref a0), (3, .int a3), (4, .int a4), (5, .int a5), (7, .int a7), (9, .int a9)] [.int u3.1] u3.2
  refine sf_blk [(.istore 8, 0, 0, .null), (.iinc 9 (1), 0, 0, .int (1 : Int32))] (lv' := [(9, .int (a9 + (1 : Int32))), (8, .int u3.1), (0, .ref a0), (3, .int a3), (4, .int a4), (5, .int a5), (7, .int a7)]) (st' := []) (M1 := u3.2) (ob := []) (pc' := 176) (by decide +kernel) rfl rfl sw_a0 ?_
  refine sf_goto (off := -83) (tgt := 93) (by decide +kernel) (by decide) ?_
  exact sf_weak [2, 3, 4, 5, 6, 1, 0] rfl (hk93 _ _ _ _ _ _ _ _ hf)
def f_House_range_160 (N : Nat) (k93 : Nat → Int32 → Int32 → Int32 → Int32 → Int32 → Int32 → sw_M → Option (Int32 × sw_M)) (a0 : Nat) (a3 : Int32) (a4 : Int32) (a5 : Int32) (a9 : Int32) (a10 : Int32) (M : sw_M) : Option (Int32 × sw_M) :=
  f_House_range_164 N k93 a0 a3 a4 a5 a10 a9 M
set_option maxRecDepth 10000 in
theorem t_House_range_160 {g : sw_G} {d n0 : Nat} (hd : 7 ≤ d) {r : Int32 × sw_M} (k93 : Nat → Int32 → Int32 → Int32 → Int32 → Int32 → Int32 → sw_M → Option (Int32 × sw_M)) (hk93 : ∀ (a0 : Nat) (a3 : Int32) (a4 : Int32) (a5 : Int32) (a7 : Int32) (a8 : Int32) (a9 : Int32) (M : sw_M), k93 a0 a3 a4 a5 a7 a8 a9 M = some r → sw_F g k_House_range d n0 (some (.int r.1)) r.2 93 [(0, .ref a0), (3, .int a3), (4, .int a4), (5, .int a5), (7, .int a7), (8, .int a8), (9, .int a9)] [] M) {N : Nat} {a0 : Nat} {a3 : Int32} {a4 : Int32} {a5 : Int32} {a9 : Int32} {a10 : Int32} {M : sw_M} (hf : f_House_range_160 N k93 a0 a3 a4 a5 a9 a10 M = some r) : sw_F g k_House_range d n0 (some (.int r.1)) r.2 160 [(0, .ref a0), (3, .int a3), (4, .int a4), (5, .int a5), (9, .int a9), (10, .int a10)] [] M := by
  unfold f_House_range_160 at hf
  refine sf_blk [(.iload 10, 0, 0, .null), (.istore 7, 0, 0, .null)] (lv' := [(7, .int a10), (0, .ref a0), (3, .int a3), (4, .int a4), (5, .int a5), (9, .int a9), (10, .int a10)]) (st' := []) (M1 := M) (ob := []) (pc' := 164) (by decide +kernel) rfl rfl sw_a0 ?_
  exact sf_weak [1, 2, 3, 4, 0, 5] rfl (t_House_range_164 hd _ hk93 hf)
def f_House_range_130 (N : Nat) (k93 : Nat → Int32 → Int32 → Int32 → Int32 → Int32 → Int32 → sw_M → Option (Int32 × sw_M)) (a0 : Nat) (a3 : Int32) (a4 : Int32) (a5 : Int32) (a7 : Int32) (a9 : Int32) (b0 : Int32) (M : sw_M) : Option (Int32 × sw_M) :=
  if a7 = (-1 : Int32) then f_House_range_160 N k93 a0 a3 a4 a5 a9 b0 M
  else if a4 = 0 then if a7 ≤ b0 then f_House_range_164 N k93 a0 a3 a4 a5 a7 a9 M
  else f_House_range_160 N k93 a0 a3 a4 a5 a9 b0 M
  else if b0 ≤ a7 then f_House_range_164 N k93 a0 a3 a4 a5 a7 a9 M
  else f_House_range_160 N k93 a0 a3 a4 a5 a9 b0 M
set_option maxRecDepth 10000 in
theorem t_House_range_130 {g : sw_G} {d n0 : Nat} (hd : 7 ≤ d) {r : Int32 × sw_M} (k93 : Nat → Int32 → Int32 → Int32 → Int32 → Int32 → Int32 → sw_M → Option (Int32 × sw_M)) (hk93 : ∀ (a0 : Nat) (a3 : Int32) (a4 : Int32) (a5 : Int32) (a7 : Int32) (a8 : Int32) (a9 : Int32) (M : sw_M), k93 a0 a3 a4 a5 a7 a8 a9 M = some r → sw_F g k_House_range d n0 (some (.int r.1)) r.2 93 [(0, .ref a0), (3, .int a3), (4, .int a4), (5, .int a5), (7, .int a7), (8, .int a8), (9, .int a9)] [] M) {N : Nat} {a0 : Nat} {a3 : Int32} {a4 : Int32} {a5 : Int32} {a7 : Int32} {a9 : Int32} {b0 : Int32} {M : sw_M} (hf : f_House_range_130 N k93 a0 a3 a4 a5 a7 a9 b0 M = some r) : sw_F g k_House_range d n0 (some (.int r.1)) r.2 130 [(0, .ref a0), (3, .int a3), (4, .int a4), (5, .int a5), (7, .int a7), (9, .int a9)] [.int b0] M := by
  unfold f_House_range_130 at hf
  refine sf_blk [(.istore 10, 0, 0, .null), (.iload 7, 0, 0, .null), (.iconst (-1), 0, 0, .int (-1 : Int32))] (lv' := [(10, .int b0), (0, .ref a0), (3, .int a3), (4, .int a4), (5, .int a5), (7, .int a7), (9, .int a9)]) (st' := [.int (-1 : Int32), .int a7]) (M1 := M) (ob := []) (pc' := 135) (by decide +kernel) rfl rfl sw_a0 ?_
  refine sf_j_eq (off := 25) (tgt := 160) (by decide +kernel) (by decide) hf (fun hc hf => ?_) (fun hc hf => ?_)
  · exact sf_weak [1, 2, 3, 4, 6, 0] rfl (t_House_range_160 hd _ hk93 hf)
  · refine sf_blk [(.iload 4, 0, 0, .null)] (lv' := [(10, .int b0), (0, .ref a0), (3, .int a3), (4, .int a4), (5, .int a5), (7, .int a7), (9, .int a9)]) (st' := [.int a4]) (M1 := M) (ob := []) (pc' := 140) (by decide +kernel) rfl rfl sw_a0 ?_
    refine sf_z_eq (off := 13) (tgt := 153) (by decide +kernel) (by decide) hf (fun hc hf => ?_) (fun hc hf => ?_)
    · refine sf_blk [(.iload 10, 0, 0, .null), (.iload 7, 0, 0, .null)] (lv' := [(10, .int b0), (0, .ref a0), (3, .int a3), (4, .int a4), (5, .int a5), (7, .int a7), (9, .int a9)]) (st' := [.int a7, .int b0]) (M1 := M) (ob := []) (pc' := 157) (by decide +kernel) rfl rfl sw_a0 ?_
      refine sf_j_ge (off := 7) (tgt := 164) (by decide +kernel) (by decide) hf (fun hc hf => ?_) (fun hc hf => ?_)
      · exact sf_weak [1, 2, 3, 4, 5, 6] rfl (t_House_range_164 hd _ hk93 hf)
      · exact sf_weak [1, 2, 3, 4, 6, 0] rfl (t_House_range_160 hd _ hk93 hf)
    · refine sf_blk [(.iload 10, 0, 0, .null), (.iload 7, 0, 0, .null)] (lv' := [(10, .int b0), (0, .ref a0), (3, .int a3), (4, .int a4), (5, .int a5), (7, .int a7), (9, .int a9)]) (st' := [.int a7, .int b0]) (M1 := M) (ob := []) (pc' := 147) (by decide +kernel) rfl rfl sw_a0 ?_
      refine sf_j_le (off := 17) (tgt := 164) (by decide +kernel) (by decide) hf (fun hc hf => ?_) (fun hc hf => ?_)
      · exact sf_weak [1, 2, 3, 4, 5, 6] rfl (t_House_range_164 hd _ hk93 hf)
      · refine sf_goto (off := 10) (tgt := 160) (by decide +kernel) (by decide) ?_
        exact sf_weak [1, 2, 3, 4, 6, 0] rfl (t_House_range_160 hd _ hk93 hf)
def f_House_range_93 (N : Nat) : Nat → Nat → Int32 → Int32 → Int32 → Int32 → Int32 → Int32 → sw_M → Option (Int32 × sw_M)
  | 0, _, _, _, _, _, _, _, _ => none
  | j + 1, a0, a3, a4, a5, a7, a8, a9, M =>
  if (1000000 : Int32) ≤ a9 then some (a7, M)
  else if a8 = 0 then some (a7, M)
  else if a5 = 0 then sw_gd [sw_ok M a0 11] (sw_gd [sw_ok M (rd_R M a0 8) 1] ((f_Fits_lightOf N (rd_R M a0 8) a3 M).bind (fun u3 => f_House_range_130 N (f_House_range_93 N j) a0 a3 a4 a5 a7 a9 u3.1 u3.2)))
  else sw_gd [sw_ok M a0 11] (sw_gd [sw_ok M (rd_R M a0 8) 1] ((f_Fits_weightOf N (rd_R M a0 8) a3 M).bind (fun u6 => f_House_range_130 N (f_House_range_93 N j) a0 a3 a4 a5 a7 a9 u6.1 u6.2)))
set_option maxRecDepth 10000 in
theorem t_House_range_93 {g : sw_G} {d n0 : Nat} (hd : 7 ≤ d) {r : Int32 × sw_M} {N : Nat} : ∀ (j : Nat) (a0 : Nat) (a3 : Int32) (a4 : Int32) (a5 : Int32) (a7 : Int32) (a8 : Int32) (a9 : Int32) (M : sw_M), f_House_range_93 N j a0 a3 a4 a5 a7 a8 a9 M = some r → sw_F g k_House_range d n0 (some (.int r.1)) r.2 93 [(0, .ref a0), (3, .int a3), (4, .int a4), (5, .int a5), (7, .int a7), (8, .int a8), (9, .int a9)] [] M := by
  intro j
  induction j with
  | zero =>
    intro a0 a3 a4 a5 a7 a8 a9 M hf
    rw [f_House_range_93] at hf
    cases hf
  | succ j ih =>
    intro a0 a3 a4 a5 a7 a8 a9 M hf
    rw [f_House_range_93] at hf
    refine sf_blk [(.iload 9, 0, 0, .null), (.ldc_w 273, 0, 0, .int (1000000 : Int32))] (lv' := [(0, .ref a0), (3, .int a3), (4, .int a4), (5, .int a5), (7, .int a7), (8, .int a8), (9, .int a9)]) (st' := [.int (1000000 : Int32), .int a9]) (M1 := M) (ob := []) (pc' := 98) (by decide +kernel) rfl rfl sw_a0 ?_
    refine sf_j_ge (off := 81) (tgt := 179) (by decide +kernel) (by decide) hf (fun hc hf => ?_) (fun hc hf => ?_)
    · refine sf_blk [(.iload 7, 0, 0, .null)] (lv' := [(0, .ref a0), (3, .int a3), (4, .int a4), (5, .int a5), (7, .int a7), (8, .int a8), (9, .int a9)]) (st' := [.int a7]) (M1 := M) (ob := []) (pc' := 181) (by decide +kernel) rfl rfl sw_a0 ?_
      cases hf
      exact sf_int rfl (by decide +kernel)
    · refine sf_blk [(.iload 8, 0, 0, .null)] (lv' := [(0, .ref a0), (3, .int a3), (4, .int a4), (5, .int a5), (7, .int a7), (8, .int a8), (9, .int a9)]) (st' := [.int a8]) (M1 := M) (ob := []) (pc' := 103) (by decide +kernel) rfl rfl sw_a0 ?_
      refine sf_z_eq (off := 76) (tgt := 179) (by decide +kernel) (by decide) hf (fun hc hf => ?_) (fun hc hf => ?_)
      · refine sf_blk [(.iload 7, 0, 0, .null)] (lv' := [(0, .ref a0), (3, .int a3), (4, .int a4), (5, .int a5), (7, .int a7), (8, .int a8), (9, .int a9)]) (st' := [.int a7]) (M1 := M) (ob := []) (pc' := 181) (by decide +kernel) rfl rfl sw_a0 ?_
        cases hf
        exact sf_int rfl (by decide +kernel)
      · refine sf_blk [(.iload 5, 0, 0, .null)] (lv' := [(0, .ref a0), (3, .int a3), (4, .int a4), (5, .int a5), (7, .int a7), (8, .int a8), (9, .int a9)]) (st' := [.int a5]) (M1 := M) (ob := []) (pc' := 108) (by decide +kernel) rfl rfl sw_a0 ?_
        refine sf_z_eq (off := 14) (tgt := 122) (by decide +kernel) (by decide) hf (fun hc hf => ?_) (fun hc hf => ?_)
        · obtain ⟨h1, hf⟩ := sw_gd_1 hf
          obtain ⟨h2, hf⟩ := sw_gd_1 hf
          refine sf_blk [(.aload_n 0, 0, 0, .null), (.getfield 65, 11, 8, .null), (.iload_n 3, 0, 0, .null)] (lv' := [(0, .ref a0), (3, .int a3), (4, .int a4), (5, .int a5), (7, .int a7), (8, .int a8), (9, .int a9)]) (st' := [.int a3, .ref (rd_R M a0 8)]) (M1 := M) (ob := [sw_ok M a0 11]) (pc' := 127) (by decide +kernel) rfl rfl (sw_a1 h1 sw_a0) ?_
          obtain ⟨u3, hu3, hf⟩ := sw_bnd hf
          refine sf_callV (i := 281) (k2 := k_Fits_lightOf) (d2 := d - 1) (As := [.int a3]) (st := []) (q := (rd_R M a0 8)) (ci := 1) mf_Fits_lightOf mi_Fits_lightOf ms_Fits_lightOf (sw_m5 89 (by decide +kernel)) rfl (by decide) (by decide +kernel) rfl (Nat.le_of_ble_eq_true rfl) (by omega) h2 (o_Fits_lightOf g (d := d - 1) (by omega) hu3) ?_
          show sw_F _ _ _ _ _ _ 130 [(0, .ref a0), (3, .int a3), (4, .int a4), (5, .int a5), (7, .int a7), (8, .int a8), (9, .int a9)] [.int u3.1] u3.2
          exact sf_weak [0, 1, 2, 3, 4, 6] rfl (t_House_range_130 hd _ ih hf)
        · obtain ⟨h4, hf⟩ := sw_gd_1 hf
          obtain ⟨h5, hf⟩ := sw_gd_1 hf
          refine sf_blk [(.aload_n 0, 0, 0, .null), (.getfield 65, 11, 8, .null), (.iload_n 3, 0, 0, .null)] (lv' := [(0, .ref a0), (3, .int a3), (4, .int a4), (5, .int a5), (7, .int a7), (8, .int a8), (9, .int a9)]) (st' := [.int a3, .ref (rd_R M a0 8)]) (M1 := M) (ob := [sw_ok M a0 11]) (pc' := 116) (by decide +kernel) rfl rfl (sw_a1 h4 sw_a0) ?_
          obtain ⟨u6, hu6, hf⟩ := sw_bnd hf
          refine sf_callV (i := 277) (k2 := k_Fits_weightOf) (d2 := d - 1) (As := [.int a3]) (st := []) (q := (rd_R M a0 8)) (ci := 1) mf_Fits_weightOf mi_Fits_weightOf ms_Fits_weightOf (sw_m5 81 (by decide +kernel)) rfl (by decide) (by decide +kernel) rfl (Nat.le_of_ble_eq_true rfl) (by omega) h5 (o_Fits_weightOf g (d := d - 1) (by omega) hu6) ?_
          show sw_F _ _ _ _ _ _ 119 [(0, .ref a0), (3, .int a3), (4, .int a4), (5, .int a5), (7, .int a7), (8, .int a8), (9, .int a9)] [.int u6.1] u6.2
          refine sf_goto (off := 11) (tgt := 130) (by decide +kernel) (by decide) ?_
          exact sf_weak [0, 1, 2, 3, 4, 6] rfl (t_House_range_130 hd _ ih hf)
def f_House_range_71 (N : Nat) (a0 : Nat) (a3 : Int32) (a4 : Int32) (a5 : Int32) (M : sw_M) : Option (Int32 × sw_M) :=
  sw_gd [sw_ok M a0 11] (sw_gd [sw_ok M (rd_R M a0 6) 10] ((f_Swarm_refresh N (rd_R M a0 6) M).bind (fun u3 => sw_gd [sw_ok u3 a0 11] (sw_gd [sw_ok u3 (rd_R u3 a0 8) 1] ((f_Fits_first N (rd_R u3 a0 8) u3).bind (fun u6 => f_House_range_93 N N a0 a3 a4 a5 (-1 : Int32) u6.1 (0 : Int32) u6.2))))))
set_option maxRecDepth 10000 in
theorem t_House_range_71 {g : sw_G} {d n0 : Nat} (hd : 7 ≤ d) {r : Int32 × sw_M} {N : Nat} {a0 : Nat} {a3 : Int32} {a4 : Int32} {a5 : Int32} {M : sw_M} (hf : f_House_range_71 N a0 a3 a4 a5 M = some r) : sw_F g k_House_range d n0 (some (.int r.1)) r.2 71 [(0, .ref a0), (3, .int a3), (4, .int a4), (5, .int a5)] [] M := by
  unfold f_House_range_71 at hf
  obtain ⟨h1, hf⟩ := sw_gd_1 hf
  obtain ⟨h2, hf⟩ := sw_gd_1 hf
  refine sf_blk [(.aload_n 0, 0, 0, .null), (.getfield 49, 11, 6, .null)] (lv' := [(0, .ref a0), (3, .int a3), (4, .int a4), (5, .int a5)]) (st' := [.ref (rd_R M a0 6)]) (M1 := M) (ob := [sw_ok M a0 11]) (pc' := 75) (by decide +kernel) rfl rfl (sw_a1 h1 sw_a0) ?_
  obtain ⟨u3, hu3, hf⟩ := sw_bnd hf
  refine sf_callV (i := 267) (k2 := k_Swarm_refresh) (d2 := d - 1) (As := []) (st := []) (q := (rd_R M a0 6)) (ci := 10) mf_Swarm_refresh mi_Swarm_refresh ms_Swarm_refresh (sw_m5 34 (by decide +kernel)) rfl (by decide) (by decide +kernel) rfl (Nat.le_of_ble_eq_true rfl) (by omega) h2 (o_Swarm_refresh g (d := d - 1) (by omega) hu3) ?_
  show sw_F _ _ _ _ _ _ 78 [(0, .ref a0), (3, .int a3), (4, .int a4), (5, .int a5)] [] u3
  obtain ⟨h4, hf⟩ := sw_gd_1 hf
  obtain ⟨h5, hf⟩ := sw_gd_1 hf
  refine sf_blk [(.iconst (-1), 0, 0, .int (-1 : Int32)), (.istore 7, 0, 0, .null), (.aload_n 0, 0, 0, .null), (.getfield 65, 11, 8, .null)] (lv' := [(7, .int (-1 : Int32)), (0, .ref a0), (3, .int a3), (4, .int a4), (5, .int a5)]) (st' := [.ref (rd_R u3 a0 8)]) (M1 := u3) (ob := [sw_ok u3 a0 11]) (pc' := 85) (by decide +kernel) rfl rfl (sw_a1 h4 sw_a0) ?_
  obtain ⟨u6, hu6, hf⟩ := sw_bnd hf
  refine sf_callV (i := 270) (k2 := k_Fits_first) (d2 := d - 1) (As := []) (st := []) (q := (rd_R u3 a0 8)) (ci := 1) mf_Fits_first mi_Fits_first ms_Fits_first (sw_m5 35 (by decide +kernel)) rfl (by decide) (by decide +kernel) rfl (Nat.le_of_ble_eq_true rfl) (by omega) h5 (o_Fits_first g (d := d - 1) (by omega) hu6) ?_
  show sw_F _ _ _ _ _ _ 88 [(7, .int (-1 : Int32)), (0, .ref a0), (3, .int a3), (4, .int a4), (5, .int a5)] [.int u6.1] u6.2
  refine sf_blk [(.istore 8, 0, 0, .null), (.iconst (0), 0, 0, .int (0 : Int32)), (.istore 9, 0, 0, .null)] (lv' := [(9, .int (0 : Int32)), (8, .int u6.1), (7, .int (-1 : Int32)), (0, .ref a0), (3, .int a3), (4, .int a4), (5, .int a5)]) (st' := []) (M1 := u6.2) (ob := []) (pc' := 93) (by decide +kernel) rfl rfl sw_a0 ?_
  exact sf_weak [3, 4, 5, 6, 2, 1, 0] rfl (t_House_range_93 hd _ _ _ _ _ _ _ _ _ hf)
def f_House_range_46 (N : Nat) (a0 : Nat) (a1 : Int32) (a3 : Int32) (a4 : Int32) (a5 : Int32) (b0 : Int32) (M : sw_M) : Option (Int32 × sw_M) :=
  sw_gd [sw_ok M a0 11] (sw_gd [sw_ok M (rd_R M a0 7) 3] ((f_Notes_know N (rd_R M a0 7) a1 M).bind (fun u3 => if u3.1 = 0 then some ((-1 : Int32), u3.2)
  else if a5 = 0 then if b0 = 0 then some ((-1 : Int32), u3.2)
  else f_House_range_71 N a0 a3 a4 a5 u3.2
  else f_House_range_71 N a0 a3 a4 a5 u3.2)))
set_option maxRecDepth 10000 in
theorem t_House_range_46 {g : sw_G} {d n0 : Nat} (hd : 7 ≤ d) {r : Int32 × sw_M} {N : Nat} {a0 : Nat} {a1 : Int32} {a3 : Int32} {a4 : Int32} {a5 : Int32} {b0 : Int32} {M : sw_M} (hf : f_House_range_46 N a0 a1 a3 a4 a5 b0 M = some r) : sw_F g k_House_range d n0 (some (.int r.1)) r.2 46 [(0, .ref a0), (1, .int a1), (3, .int a3), (4, .int a4), (5, .int a5)] [.int b0] M := by
  unfold f_House_range_46 at hf
  obtain ⟨h1, hf⟩ := sw_gd_1 hf
  obtain ⟨h2, hf⟩ := sw_gd_1 hf
  refine sf_blk [(.istore 6, 0, 0, .null), (.aload_n 0, 0, 0, .null), (.getfield 56, 11, 7, .null), (.iload_n 1, 0, 0, .null)] (lv' := [(6, .int b0), (0, .ref a0), (1, .int a1), (3, .int a3), (4, .int a4), (5, .int a5)]) (st' := [.int a1, .ref (rd_R M a0 7)]) (M1 := M) (ob := [sw_ok M a0 11]) (pc' := 53) (by decide +kernel) rfl rfl (sw_a1 h1 sw_a0) ?_
  obtain ⟨u3, hu3, hf⟩ := sw_bnd hf
  refine sf_callV (i := 263) (k2 := k_Notes_know) (d2 := d - 1) (As := [.int a1]) (st := []) (q := (rd_R M a0 7)) (ci := 3) mf_Notes_know mi_Notes_know ms_Notes_know (sw_m5 29 (by decide +kernel)) rfl (by decide) (by decide +kernel) rfl (Nat.le_of_ble_eq_true rfl) (by omega) h2 (o_Notes_know g (d := d - 1) (by omega) hu3) ?_
  show sw_F _ _ _ _ _ _ 56 [(6, .int b0), (0, .ref a0), (1, .int a1), (3, .int a3), (4, .int a4), (5, .int a5)] [.int u3.1] u3.2
  refine sf_z_eq (off := 13) (tgt := 69) (by decide +kernel) (by decide) hf (fun hc hf => ?_) (fun hc hf => ?_)
  · refine sf_blk [(.iconst (-1), 0, 0, .int (-1 : Int32))] (lv' := [(6, .int b0), (0, .ref a0), (1, .int a1), (3, .int a3), (4, .int a4), (5, .int a5)]) (st' := [.int (-1 : Int32)]) (M1 := u3.2) (ob := []) (pc' := 70) (by decide +kernel) rfl rfl sw_a0 ?_
    cases hf
    exact sf_int rfl (by decide +kernel)
  · refine sf_blk [(.iload 5, 0, 0, .null)] (lv' := [(6, .int b0), (0, .ref a0), (1, .int a1), (3, .int a3), (4, .int a4), (5, .int a5)]) (st' := [.int a5]) (M1 := u3.2) (ob := []) (pc' := 61) (by decide +kernel) rfl rfl sw_a0 ?_
    refine sf_z_ne (off := 10) (tgt := 71) (by decide +kernel) (by decide) hf (fun hc hf => ?_) (fun hc hf => ?_)
    · exact sf_weak [1, 3, 4, 5] rfl (t_House_range_71 hd hf)
    · refine sf_blk [(.iload 6, 0, 0, .null)] (lv' := [(6, .int b0), (0, .ref a0), (1, .int a1), (3, .int a3), (4, .int a4), (5, .int a5)]) (st' := [.int b0]) (M1 := u3.2) (ob := []) (pc' := 66) (by decide +kernel) rfl rfl sw_a0 ?_
      refine sf_z_ne (off := 5) (tgt := 71) (by decide +kernel) (by decide) hf (fun hc hf => ?_) (fun hc hf => ?_)
      · exact sf_weak [1, 3, 4, 5] rfl (t_House_range_71 hd hf)
      · refine sf_blk [(.iconst (-1), 0, 0, .int (-1 : Int32))] (lv' := [(6, .int b0), (0, .ref a0), (1, .int a1), (3, .int a3), (4, .int a4), (5, .int a5)]) (st' := [.int (-1 : Int32)]) (M1 := u3.2) (ob := []) (pc' := 70) (by decide +kernel) rfl rfl sw_a0 ?_
        cases hf
        exact sf_int rfl (by decide +kernel)
def f_House_range_45 (N : Nat) (a0 : Nat) (a1 : Int32) (a3 : Int32) (a4 : Int32) (a5 : Int32) (M : sw_M) : Option (Int32 × sw_M) :=
  f_House_range_46 N a0 a1 a3 a4 a5 (0 : Int32) M
set_option maxRecDepth 10000 in
theorem t_House_range_45 {g : sw_G} {d n0 : Nat} (hd : 7 ≤ d) {r : Int32 × sw_M} {N : Nat} {a0 : Nat} {a1 : Int32} {a3 : Int32} {a4 : Int32} {a5 : Int32} {M : sw_M} (hf : f_House_range_45 N a0 a1 a3 a4 a5 M = some r) : sw_F g k_House_range d n0 (some (.int r.1)) r.2 45 [(0, .ref a0), (1, .int a1), (3, .int a3), (4, .int a4), (5, .int a5)] [] M := by
  unfold f_House_range_45 at hf
  refine sf_blk [(.iconst (0), 0, 0, .int (0 : Int32))] (lv' := [(0, .ref a0), (1, .int a1), (3, .int a3), (4, .int a4), (5, .int a5)]) (st' := [.int (0 : Int32)]) (M1 := M) (ob := []) (pc' := 46) (by decide +kernel) rfl rfl sw_a0 ?_
  exact sf_weak [0, 1, 2, 3, 4] rfl (t_House_range_46 hd hf)
def f_House_range_24 (N : Nat) (a0 : Nat) (a1 : Int32) (a2 : Int32) (a3 : Int32) (a4 : Int32) (b0 : Int32) (M : sw_M) : Option (Int32 × sw_M) :=
  if a2 = (1 : Int32) then if a3 < 0 then f_House_range_45 N a0 a1 a3 a4 b0 M
  else if (64 : Int32) ≤ a3 then f_House_range_45 N a0 a1 a3 a4 b0 M
  else f_House_range_46 N a0 a1 a3 a4 b0 (1 : Int32) M
  else f_House_range_45 N a0 a1 a3 a4 b0 M
set_option maxRecDepth 10000 in
theorem t_House_range_24 {g : sw_G} {d n0 : Nat} (hd : 7 ≤ d) {r : Int32 × sw_M} {N : Nat} {a0 : Nat} {a1 : Int32} {a2 : Int32} {a3 : Int32} {a4 : Int32} {b0 : Int32} {M : sw_M} (hf : f_House_range_24 N a0 a1 a2 a3 a4 b0 M = some r) : sw_F g k_House_range d n0 (some (.int r.1)) r.2 24 [(0, .ref a0), (1, .int a1), (2, .int a2), (3, .int a3), (4, .int a4)] [.int b0] M := by
  unfold f_House_range_24 at hf
  refine sf_blk [(.istore 5, 0, 0, .null), (.iload_n 2, 0, 0, .null), (.iconst (1), 0, 0, .int (1 : Int32))] (lv' := [(5, .int b0), (0, .ref a0), (1, .int a1), (2, .int a2), (3, .int a3), (4, .int a4)]) (st' := [.int (1 : Int32), .int a2]) (M1 := M) (ob := []) (pc' := 28) (by decide +kernel) rfl rfl sw_a0 ?_
  refine sf_j_ne (off := 17) (tgt := 45) (by decide +kernel) (by decide) hf (fun hc hf => ?_) (fun hc hf => ?_)
  · exact sf_weak [1, 2, 4, 5, 0] rfl (t_House_range_45 hd hf)
  · refine sf_blk [(.iload_n 3, 0, 0, .null)] (lv' := [(5, .int b0), (0, .ref a0), (1, .int a1), (2, .int a2), (3, .int a3), (4, .int a4)]) (st' := [.int a3]) (M1 := M) (ob := []) (pc' := 32) (by decide +kernel) rfl rfl sw_a0 ?_
    refine sf_z_lt (off := 13) (tgt := 45) (by decide +kernel) (by decide) hf (fun hc hf => ?_) (fun hc hf => ?_)
    · exact sf_weak [1, 2, 4, 5, 0] rfl (t_House_range_45 hd hf)
    · refine sf_blk [(.iload_n 3, 0, 0, .null), (.bipush (64), 0, 0, .int (64 : Int32))] (lv' := [(5, .int b0), (0, .ref a0), (1, .int a1), (2, .int a2), (3, .int a3), (4, .int a4)]) (st' := [.int (64 : Int32), .int a3]) (M1 := M) (ob := []) (pc' := 38) (by decide +kernel) rfl rfl sw_a0 ?_
      refine sf_j_ge (off := 7) (tgt := 45) (by decide +kernel) (by decide) hf (fun hc hf => ?_) (fun hc hf => ?_)
      · exact sf_weak [1, 2, 4, 5, 0] rfl (t_House_range_45 hd hf)
      · refine sf_blk [(.iconst (1), 0, 0, .int (1 : Int32))] (lv' := [(5, .int b0), (0, .ref a0), (1, .int a1), (2, .int a2), (3, .int a3), (4, .int a4)]) (st' := [.int (1 : Int32)]) (M1 := M) (ob := []) (pc' := 42) (by decide +kernel) rfl rfl sw_a0 ?_
        refine sf_goto (off := 4) (tgt := 46) (by decide +kernel) (by decide) ?_
        exact sf_weak [1, 2, 4, 5, 0] rfl (t_House_range_46 hd hf)
def f_House_range_23 (N : Nat) (a0 : Nat) (a1 : Int32) (a2 : Int32) (a3 : Int32) (a4 : Int32) (M : sw_M) : Option (Int32 × sw_M) :=
  f_House_range_24 N a0 a1 a2 a3 a4 (0 : Int32) M
set_option maxRecDepth 10000 in
theorem t_House_range_23 {g : sw_G} {d n0 : Nat} (hd : 7 ≤ d) {r : Int32 × sw_M} {N : Nat} {a0 : Nat} {a1 : Int32} {a2 : Int32} {a3 : Int32} {a4 : Int32} {M : sw_M} (hf : f_House_range_23 N a0 a1 a2 a3 a4 M = some r) : sw_F g k_House_range d n0 (some (.int r.1)) r.2 23 [(0, .ref a0), (1, .int a1), (2, .int a2), (3, .int a3), (4, .int a4)] [] M := by
  unfold f_House_range_23 at hf
  refine sf_blk [(.iconst (0), 0, 0, .int (0 : Int32))] (lv' := [(0, .ref a0), (1, .int a1), (2, .int a2), (3, .int a3), (4, .int a4)]) (st' := [.int (0 : Int32)]) (M1 := M) (ob := []) (pc' := 24) (by decide +kernel) rfl rfl sw_a0 ?_
  exact sf_weak [0, 1, 2, 3, 4] rfl (t_House_range_24 hd hf)
def f_House_range (N : Nat) (a0 : Nat) (a1 : Int32) (a2 : Int32) (a3 : Int32) (a4 : Int32) (M : sw_M) : Option (Int32 × sw_M) :=
  if a2 = 0 then if a3 < 0 then f_House_range_23 N a0 a1 a2 a3 a4 M
  else sw_gd [sw_ok M a0 11] (sw_gd [sw_ok M (rd_R M a0 6) 10] (if (rd_I M (rd_R M a0 6) 3) ≤ a3 then f_House_range_23 N a0 a1 a2 a3 a4 M
  else f_House_range_24 N a0 a1 a2 a3 a4 (1 : Int32) M))
  else f_House_range_23 N a0 a1 a2 a3 a4 M
set_option maxRecDepth 10000 in
theorem t_House_range {g : sw_G} {d n0 : Nat} (hd : 7 ≤ d) {r : Int32 × sw_M} {N : Nat} {a0 : Nat} {a1 : Int32} {a2 : Int32} {a3 : Int32} {a4 : Int32} {M : sw_M} (hf : f_House_range N a0 a1 a2 a3 a4 M = some r) : sw_F g k_House_range d n0 (some (.int r.1)) r.2 0 [(0, .ref a0), (1, .int a1), (2, .int a2), (3, .int a3), (4, .int a4)] [] M := by
  unfold f_House_range at hf
  refine sf_blk [(.iload_n 2, 0, 0, .null)] (lv' := [(0, .ref a0), (1, .int a1), (2, .int a2), (3, .int a3), (4, .int a4)]) (st' := [.int a2]) (M1 := M) (ob := []) (pc' := 1) (by decide +kernel) rfl rfl sw_a0 ?_
  refine sf_z_ne (off := 22) (tgt := 23) (by decide +kernel) (by decide) hf (fun hc hf => ?_) (fun hc hf => ?_)
  · exact sf_weak [0, 1, 2, 3, 4] rfl (t_House_range_23 hd hf)
  · refine sf_blk [(.iload_n 3, 0, 0, .null)] (lv' := [(0, .ref a0), (1, .int a1), (2, .int a2), (3, .int a3), (4, .int a4)]) (st' := [.int a3]) (M1 := M) (ob := []) (pc' := 5) (by decide +kernel) rfl rfl sw_a0 ?_
    refine sf_z_lt (off := 18) (tgt := 23) (by decide +kernel) (by decide) hf (fun hc hf => ?_) (fun hc hf => ?_)
    · exact sf_weak [0, 1, 2, 3, 4] rfl (t_House_range_23 hd hf)
    · obtain ⟨h1, hf⟩ := sw_gd_1 hf
      obtain ⟨h2, hf⟩ := sw_gd_1 hf
      refine sf_blk [(.iload_n 3, 0, 0, .null), (.aload_n 0, 0, 0, .null), (.getfield 49, 11, 6, .null), (.getfield 280, 10, 3, .null)] (lv' := [(0, .ref a0), (1, .int a1), (2, .int a2), (3, .int a3), (4, .int a4)]) (st' := [.int (rd_I M (rd_R M a0 6) 3), .int a3]) (M1 := M) (ob := [sw_ok M a0 11, sw_ok M (rd_R M a0 6) 10]) (pc' := 16) (by decide +kernel) rfl rfl (sw_a1 h1 (sw_a1 h2 sw_a0)) ?_
      refine sf_j_ge (off := 7) (tgt := 23) (by decide +kernel) (by decide) hf (fun hc hf => ?_) (fun hc hf => ?_)
      · exact sf_weak [0, 1, 2, 3, 4] rfl (t_House_range_23 hd hf)
      · refine sf_blk [(.iconst (1), 0, 0, .int (1 : Int32))] (lv' := [(0, .ref a0), (1, .int a1), (2, .int a2), (3, .int a3), (4, .int a4)]) (st' := [.int (1 : Int32)]) (M1 := M) (ob := []) (pc' := 20) (by decide +kernel) rfl rfl sw_a0 ?_
        refine sf_goto (off := 4) (tgt := 24) (by decide +kernel) (by decide) ?_
        exact sf_weak [0, 1, 2, 3, 4] rfl (t_House_range_24 hd hf)
theorem o_House_range (g : sw_G) {d : Nat} (hd : 7 ≤ d) {N : Nat} {a0 : Nat} {a1 : Int32} {a2 : Int32} {a3 : Int32} {a4 : Int32} {M : sw_M} {r : Int32 × sw_M} (hf : f_House_range N a0 a1 a2 a3 a4 M = some r) : sw_Ok g k_House_range d [.ref a0, .int a1, .int a2, .int a3, .int a4] M (some (.int r.1)) r.2 := sf_met (by decide +kernel) rfl (by decide) (Nat.le_of_ble_eq_true rfl) (t_House_range hd hf)
