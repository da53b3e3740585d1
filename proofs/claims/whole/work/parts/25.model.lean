/-! printed by program: functions of methods, and that the bytes compute them -/
def f_Model_alike_82 (N : Nat) (M : sw_M) : Option (Int32 × sw_M) :=
  some ((1 : Int32), M)
set_option maxRecDepth 10000 in
theorem t_Model_alike_82 {g : sw_G} {d n0 : Nat} (hd : 6 ≤ d) {r : Int32 × sw_M} {N : Nat} {M : sw_M} (hf : f_Model_alike_82 N M = some r) : sw_F g k_Model_alike d n0 (some (.int r.1)) r.2 82 [] [] M := by
  unfold f_Model_alike_82 at hf
  refine sf_blk [(.iconst (1), 0, 0, .int (1 : Int32))] (lv' := []) (st' := [.int (1 : Int32)]) (M1 := M) (ob := []) (pc' := 83) (by decide +kernel) rfl rfl sw_a0 ?_
  refine sf_goto (off := 4) (tgt := 87) (by decide +kernel) (by decide) ?_
  cases hf
  exact sf_bool rfl rfl (by decide +kernel)
def f_Model_alike (N : Nat) (a0 : Nat) (a1 : Int32) (a2 : Int32) (M : sw_M) : Option (Int32 × sw_M) :=
  sw_gd [sw_ok M a0 12] ((f_Model_isOrbit N a0 a1 (wr_I M a0 0 (0 : Int32))).bind (fun u2 => if u2.1 = 0 then some ((0 : Int32), u2.2)
  else sw_gd [sw_ok u2.2 a0 12] ((f_Model_isOrbit N a0 a2 u2.2).bind (fun u4 => if u4.1 = 0 then some ((0 : Int32), u4.2)
  else sw_gd [sw_ok u4.2 a0 12] ((f_Model_goAll N a0 (rd_I u4.2 a0 15) u4.2).bind (fun u6 => sw_gd [sw_ok u6 a0 12] (sw_gd [sw_ar u6 (rd_R u6 a0 61) 14 a1 || sw_ar u6 (rd_R u6 a0 61) 15 a1] (if (rd_I u6 (rd_R u6 a0 61) a1.toNatClampNeg) = 0 then sw_gd [sw_ar u6 (rd_R u6 a0 61) 14 a2 || sw_ar u6 (rd_R u6 a0 61) 15 a2] (if (rd_I u6 (rd_R u6 a0 61) a2.toNatClampNeg) = 0 then sw_gd [sw_ar u6 (rd_R u6 a0 62) 13 a1] (sw_gd [sw_ar u6 (rd_R u6 a0 62) 13 a2] (if (rd_I u6 (rd_R u6 a0 62) a1.toNatClampNeg) = (rd_I u6 (rd_R u6 a0 62) a2.toNatClampNeg) then (f_Model_hasHalf N a0 a1 a2 u6).bind (fun u12 => if u12.1 = 0 then some ((0 : Int32), u12.2)
  else sw_gd [sw_ok u12.2 a0 12] ((f_Model_hasHalf N a0 a2 a1 u12.2).bind (fun u14 => if u14.1 = 0 then some ((0 : Int32), u14.2)
  else f_Model_alike_82 N u14.2)))
  else some ((0 : Int32), u6)))
  else some ((0 : Int32), u6))
  else some ((0 : Int32), u6)))))))))
set_option maxRecDepth 10000 in
theorem t_Model_alike {g : sw_G} {d n0 : Nat} (hd : 6 ≤ d) {r : Int32 × sw_M} {N : Nat} {a0 : Nat} {a1 : Int32} {a2 : Int32} {M : sw_M} (hf : f_Model_alike N a0 a1 a2 M = some r) : sw_F g k_Model_alike d n0 (some (.int r.1)) r.2 0 [(0, .ref a0), (1, .int a1), (2, .int a2)] [] M := by
  unfold f_Model_alike at hf
  obtain ⟨h1, hf⟩ := sw_gd_1 hf
  refine sf_blk [(.aload_n 0, 0, 0, .null), (.iconst (0), 0, 0, .int (0 : Int32)), (.putfield 166, 12, 0, .null), (.aload_n 0, 0, 0, .null), (.iload_n 1, 0, 0, .null)] (lv' := [(0, .ref a0), (1, .int a1), (2, .int a2)]) (st' := [.int a1, .ref a0]) (M1 := (wr_I M a0 0 (0 : Int32))) (ob := [sw_ok M a0 12]) (pc' := 7) (by decide +kernel) rfl rfl (sw_a1 h1 sw_a0) ?_
  obtain ⟨u2, hu2, hf⟩ := sw_bnd hf
  refine sf_callV (i := 439) (k2 := k_Model_isOrbit) (d2 := d - 1) (As := [.int a1]) (st := []) (q := a0) (ci := 12) mf_Model_isOrbit mi_Model_isOrbit ms_Model_isOrbit (sw_m7 182 (by decide +kernel)) rfl (by decide) (by decide +kernel) rfl (Nat.le_of_ble_eq_true rfl) (by omega) h1 (o_Model_isOrbit g (d := d - 1) (by omega) hu2) ?_
  show sw_F _ _ _ _ _ _ 10 [(0, .ref a0), (1, .int a1), (2, .int a2)] [.int u2.1] u2.2
  refine sf_z_eq (off := 11) (tgt := 21) (by decide +kernel) (by decide) hf (fun hc hf => ?_) (fun hc hf => ?_)
  · refine sf_blk [(.iconst (0), 0, 0, .int (0 : Int32))] (lv' := [(0, .ref a0), (1, .int a1), (2, .int a2)]) (st' := [.int (0 : Int32)]) (M1 := u2.2) (ob := []) (pc' := 22) (by decide +kernel) rfl rfl sw_a0 ?_
    cases hf
    exact sf_bool rfl rfl (by decide +kernel)
  · obtain ⟨h3, hf⟩ := sw_gd_1 hf
    refine sf_blk [(.aload_n 0, 0, 0, .null), (.iload_n 2, 0, 0, .null)] (lv' := [(0, .ref a0), (1, .int a1), (2, .int a2)]) (st' := [.int a2, .ref a0]) (M1 := u2.2) (ob := []) (pc' := 15) (by decide +kernel) rfl rfl sw_a0 ?_
    obtain ⟨u4, hu4, hf⟩ := sw_bnd hf
    refine sf_callV (i := 439) (k2 := k_Model_isOrbit) (d2 := d - 1) (As := [.int a2]) (st := []) (q := a0) (ci := 12) mf_Model_isOrbit mi_Model_isOrbit ms_Model_isOrbit (sw_m7 182 (by decide +kernel)) rfl (by decide) (by decide +kernel) rfl (Nat.le_of_ble_eq_true rfl) (by omega) h3 (o_Model_isOrbit g (d := d - 1) (by omega) hu4) ?_
    show sw_F _ _ _ _ _ _ 18 [(0, .ref a0), (1, .int a1), (2, .int a2)] [.int u4.1] u4.2
    refine sf_z_ne (off := 5) (tgt := 23) (by decide +kernel) (by decide) hf (fun hc hf => ?_) (fun hc hf => ?_)
    · obtain ⟨h5, hf⟩ := sw_gd_1 hf
      refine sf_blk [(.aload_n 0, 0, 0, .null), (.aload_n 0, 0, 0, .null), (.getfield 305, 12, 15, .null)] (lv' := [(0, .ref a0), (1, .int a1), (2, .int a2)]) (st' := [.int (rd_I u4.2 a0 15), .ref a0]) (M1 := u4.2) (ob := [sw_ok u4.2 a0 12]) (pc' := 28) (by decide +kernel) rfl rfl (sw_a1 h5 sw_a0) ?_
      obtain ⟨u6, hu6, hf⟩ := sw_bnd hf
      refine sf_callV (i := 444) (k2 := k_Model_goAll) (d2 := d - 1) (As := [.int (rd_I u4.2 a0 15)]) (st := []) (q := a0) (ci := 12) mf_Model_goAll mi_Model_goAll ms_Model_goAll (sw_m7 187 (by decide +kernel)) rfl (by decide) (by decide +kernel) rfl (Nat.le_of_ble_eq_true rfl) (by omega) h5 (o_Model_goAll g (d := d - 1) (by omega) hu6) ?_
      show sw_F _ _ _ _ _ _ 31 [(0, .ref a0), (1, .int a1), (2, .int a2)] [] u6
      obtain ⟨h7, hf⟩ := sw_gd_1 hf
      obtain ⟨h8, hf⟩ := sw_gd_1 hf
      refine sf_blk [(.aload_n 0, 0, 0, .null), (.getfield 86, 12, 61, .null), (.iload_n 1, 0, 0, .null), (.baload, 0, 0, .null)] (lv' := [(0, .ref a0), (1, .int a1), (2, .int a2)]) (st' := [.int (rd_I u6 (rd_R u6 a0 61) a1.toNatClampNeg)]) (M1 := u6) (ob := [sw_ok u6 a0 12, sw_ar u6 (rd_R u6 a0 61) 14 a1 || sw_ar u6 (rd_R u6 a0 61) 15 a1]) (pc' := 37) (by decide +kernel) rfl rfl (sw_a1 h7 (sw_a1 h8 sw_a0)) ?_
      refine sf_z_ne (off := 49) (tgt := 86) (by decide +kernel) (by decide) hf (fun hc hf => ?_) (fun hc hf => ?_)
      · refine sf_blk [(.iconst (0), 0, 0, .int (0 : Int32))] (lv' := [(0, .ref a0), (1, .int a1), (2, .int a2)]) (st' := [.int (0 : Int32)]) (M1 := u6) (ob := []) (pc' := 87) (by decide +kernel) rfl rfl sw_a0 ?_
        cases hf
        exact sf_bool rfl rfl (by decide +kernel)
      · obtain ⟨h9, hf⟩ := sw_gd_1 hf
        refine sf_blk [(.aload_n 0, 0, 0, .null), (.getfield 86, 12, 61, .null), (.iload_n 2, 0, 0, .null), (.baload, 0, 0, .null)] (lv' := [(0, .ref a0), (1, .int a1), (2, .int a2)]) (st' := [.int (rd_I u6 (rd_R u6 a0 61) a2.toNatClampNeg)]) (M1 := u6) (ob := [sw_ok u6 a0 12, sw_ar u6 (rd_R u6 a0 61) 14 a2 || sw_ar u6 (rd_R u6 a0 61) 15 a2]) (pc' := 46) (by decide +kernel) rfl rfl (sw_a1 h7 (sw_a1 h9 sw_a0)) ?_
        refine sf_z_ne (off := 40) (tgt := 86) (by decide +kernel) (by decide) hf (fun hc hf => ?_) (fun hc hf => ?_)
        · refine sf_blk [(.iconst (0), 0, 0, .int (0 : Int32))] (lv' := [(0, .ref a0), (1, .int a1), (2, .int a2)]) (st' := [.int (0 : Int32)]) (M1 := u6) (ob := []) (pc' := 87) (by decide +kernel) rfl rfl sw_a0 ?_
          cases hf
          exact sf_bool rfl rfl (by decide +kernel)
        · obtain ⟨h10, hf⟩ := sw_gd_1 hf
          obtain ⟨h11, hf⟩ := sw_gd_1 hf
          refine sf_blk [(.aload_n 0, 0, 0, .null), (.getfield 90, 12, 62, .null), (.iload_n 1, 0, 0, .null), (.iaload, 0, 0, .null), (.aload_n 0, 0, 0, .null), (.getfield 90, 12, 62, .null), (.iload_n 2, 0, 0, .null), (.iaload, 0, 0, .null)] (lv' := [(0, .ref a0), (1, .int a1), (2, .int a2)]) (st' := [.int (rd_I u6 (rd_R u6 a0 62) a2.toNatClampNeg), .int (rd_I u6 (rd_R u6 a0 62) a1.toNatClampNeg)]) (M1 := u6) (ob := [sw_ok u6 a0 12, sw_ar u6 (rd_R u6 a0 62) 13 a1, sw_ok u6 a0 12, sw_ar u6 (rd_R u6 a0 62) 13 a2]) (pc' := 61) (by decide +kernel) rfl rfl (sw_a1 h7 (sw_a1 h10 (sw_a1 h7 (sw_a1 h11 sw_a0)))) ?_
          refine sf_j_ne (off := 25) (tgt := 86) (by decide +kernel) (by decide) hf (fun hc hf => ?_) (fun hc hf => ?_)
          · refine sf_blk [(.iconst (0), 0, 0, .int (0 : Int32))] (lv' := [(0, .ref a0), (1, .int a1), (2, .int a2)]) (st' := [.int (0 : Int32)]) (M1 := u6) (ob := []) (pc' := 87) (by decide +kernel) rfl rfl sw_a0 ?_
            cases hf
            exact sf_bool rfl rfl (by decide +kernel)
          · refine sf_blk [(.aload_n 0, 0, 0, .null), (.iload_n 1, 0, 0, .null), (.iload_n 2, 0, 0, .null)] (lv' := [(0, .ref a0), (1, .int a1), (2, .int a2)]) (st' := [.int a2, .int a1, .ref a0]) (M1 := u6) (ob := []) (pc' := 67) (by decide +kernel) rfl rfl sw_a0 ?_
            obtain ⟨u12, hu12, hf⟩ := sw_bnd hf
            refine sf_callV (i := 452) (k2 := k_Model_hasHalf) (d2 := d - 1) (As := [.int a1, .int a2]) (st := []) (q := a0) (ci := 12) mf_Model_hasHalf mi_Model_hasHalf ms_Model_hasHalf (sw_m8 3 (by decide +kernel)) rfl (by decide) (by decide +kernel) rfl (Nat.le_of_ble_eq_true rfl) (by omega) h7 (o_Model_hasHalf g (d := d - 1) (by omega) hu12) ?_
            show sw_F _ _ _ _ _ _ 70 [(0, .ref a0), (1, .int a1), (2, .int a2)] [.int u12.1] u12.2
            refine sf_z_eq (off := 16) (tgt := 86) (by decide +kernel) (by decide) hf (fun hc hf => ?_) (fun hc hf => ?_)
            · refine sf_blk [(.iconst (0), 0, 0, .int (0 : Int32))] (lv' := [(0, .ref a0), (1, .int a1), (2, .int a2)]) (st' := [.int (0 : Int32)]) (M1 := u12.2) (ob := []) (pc' := 87) (by decide +kernel) rfl rfl sw_a0 ?_
              cases hf
              exact sf_bool rfl rfl (by decide +kernel)
            · obtain ⟨h13, hf⟩ := sw_gd_1 hf
              refine sf_blk [(.aload_n 0, 0, 0, .null), (.iload_n 2, 0, 0, .null), (.iload_n 1, 0, 0, .null)] (lv' := [(0, .ref a0), (1, .int a1), (2, .int a2)]) (st' := [.int a1, .int a2, .ref a0]) (M1 := u12.2) (ob := []) (pc' := 76) (by decide +kernel) rfl rfl sw_a0 ?_
              obtain ⟨u14, hu14, hf⟩ := sw_bnd hf
              refine sf_callV (i := 452) (k2 := k_Model_hasHalf) (d2 := d - 1) (As := [.int a2, .int a1]) (st := []) (q := a0) (ci := 12) mf_Model_hasHalf mi_Model_hasHalf ms_Model_hasHalf (sw_m8 3 (by decide +kernel)) rfl (by decide) (by decide +kernel) rfl (Nat.le_of_ble_eq_true rfl) (by omega) h13 (o_Model_hasHalf g (d := d - 1) (by omega) hu14) ?_
              show sw_F _ _ _ _ _ _ 79 [(0, .ref a0), (1, .int a1), (2, .int a2)] [.int u14.1] u14.2
              refine sf_z_eq (off := 7) (tgt := 86) (by decide +kernel) (by decide) hf (fun hc hf => ?_) (fun hc hf => ?_)
              · refine sf_blk [(.iconst (0), 0, 0, .int (0 : Int32))] (lv' := [(0, .ref a0), (1, .int a1), (2, .int a2)]) (st' := [.int (0 : Int32)]) (M1 := u14.2) (ob := []) (pc' := 87) (by decide +kernel) rfl rfl sw_a0 ?_
                cases hf
                exact sf_bool rfl rfl (by decide +kernel)
              · exact sf_weak [] rfl (t_Model_alike_82 hd hf)
    · refine sf_blk [(.iconst (0), 0, 0, .int (0 : Int32))] (lv' := [(0, .ref a0), (1, .int a1), (2, .int a2)]) (st' := [.int (0 : Int32)]) (M1 := u4.2) (ob := []) (pc' := 22) (by decide +kernel) rfl rfl sw_a0 ?_
      cases hf
      exact sf_bool rfl rfl (by decide +kernel)
theorem o_Model_alike (g : sw_G) {d : Nat} (hd : 6 ≤ d) {N : Nat} {a0 : Nat} {a1 : Int32} {a2 : Int32} {M : sw_M} {r : Int32 × sw_M} (hf : f_Model_alike N a0 a1 a2 M = some r) : sw_Ok g k_Model_alike d [.ref a0, .int a1, .int a2] M (some (.int r.1)) r.2 := sf_met (by decide +kernel) rfl (by decide) (Nat.le_of_ble_eq_true rfl) (t_Model_alike hd hf)
def f_Model_tune_150 (N : Nat) (M : sw_M) : Option (Int32 × sw_M) :=
  some ((1 : Int32), M)
set_option maxRecDepth 10000 in
theorem t_Model_tune_150 {g : sw_G} {d n0 : Nat} (hd : 6 ≤ d) {r : Int32 × sw_M} {N : Nat} {M : sw_M} (hf : f_Model_tune_150 N M = some r) : sw_F g k_Model_tune d n0 (some (.int r.1)) r.2 150 [] [] M := by
  unfold f_Model_tune_150 at hf
  refine sf_blk [(.iconst (1), 0, 0, .int (1 : Int32))] (lv' := []) (st' := [.int (1 : Int32)]) (M1 := M) (ob := []) (pc' := 151) (by decide +kernel) rfl rfl sw_a0 ?_
  refine sf_goto (off := 4) (tgt := 155) (by decide +kernel) (by decide) ?_
  cases hf
  exact sf_bool rfl rfl (by decide +kernel)
def f_Model_tune_116 (N : Nat) (a0 : Nat) (a2 : Int32) (a5 : Int32) (a6 : Int32) (M : sw_M) : Option (Int32 × sw_M) :=
  sw_gd [sw_ok M a0 12] (if (m_absI (a5 - (a2 * (rd_I M a0 51)))) ≤ a6 then f_Model_tune_150 N M
  else if a6 < (m_absI (a5 + (a2 * (rd_I M a0 51)))) then some ((0 : Int32), M)
  else f_Model_tune_150 N M)
set_option maxRecDepth 10000 in
theorem t_Model_tune_116 {g : sw_G} {d n0 : Nat} (hd : 6 ≤ d) {r : Int32 × sw_M} {N : Nat} {a0 : Nat} {a2 : Int32} {a5 : Int32} {a6 : Int32} {M : sw_M} (hf : f_Model_tune_116 N a0 a2 a5 a6 M = some r) : sw_F g k_Model_tune d n0 (some (.int r.1)) r.2 116 [(0, .ref a0), (2, .int a2), (5, .int a5), (6, .int a6)] [] M := by
  unfold f_Model_tune_116 at hf
  obtain ⟨h1, hf⟩ := sw_gd_1 hf
  refine sf_blk [(.iload 5, 0, 0, .null), (.iload_n 2, 0, 0, .null), (.aload_n 0, 0, 0, .null), (.getfield 56, 12, 51, .null), (.imul, 0, 0, .null), (.isub, 0, 0, .null)] (lv' := [(0, .ref a0), (2, .int a2), (5, .int a5), (6, .int a6)]) (st' := [.int (a5 - (a2 * (rd_I M a0 51)))]) (M1 := M) (ob := [sw_ok M a0 12]) (pc' := 125) (by decide +kernel) rfl rfl (sw_a1 h1 sw_a0) ?_
  refine sf_absI (i := 388) (st := []) (sw_m7 155 (by decide +kernel)) (by decide +kernel) (by omega) (Nat.le_of_ble_eq_true rfl) ?_
  show sw_F _ _ _ _ _ _ 128 [(0, .ref a0), (2, .int a2), (5, .int a5), (6, .int a6)] [.int (m_absI (a5 - (a2 * (rd_I M a0 51))))] M
  refine sf_blk [(.iload 6, 0, 0, .null)] (lv' := [(0, .ref a0), (2, .int a2), (5, .int a5), (6, .int a6)]) (st' := [.int a6, .int (m_absI (a5 - (a2 * (rd_I M a0 51))))]) (M1 := M) (ob := []) (pc' := 130) (by decide +kernel) rfl rfl sw_a0 ?_
  refine sf_j_le (off := 20) (tgt := 150) (by decide +kernel) (by decide) hf (fun hc hf => ?_) (fun hc hf => ?_)
  · exact sf_weak [] rfl (t_Model_tune_150 hd hf)
  · refine sf_blk [(.iload 5, 0, 0, .null), (.iload_n 2, 0, 0, .null), (.aload_n 0, 0, 0, .null), (.getfield 56, 12, 51, .null), (.imul, 0, 0, .null), (.iadd, 0, 0, .null)] (lv' := [(0, .ref a0), (2, .int a2), (5, .int a5), (6, .int a6)]) (st' := [.int (a5 + (a2 * (rd_I M a0 51)))]) (M1 := M) (ob := [sw_ok M a0 12]) (pc' := 142) (by decide +kernel) rfl rfl (sw_a1 h1 sw_a0) ?_
    refine sf_absI (i := 388) (st := []) (sw_m7 155 (by decide +kernel)) (by decide +kernel) (by omega) (Nat.le_of_ble_eq_true rfl) ?_
    show sw_F _ _ _ _ _ _ 145 [(0, .ref a0), (2, .int a2), (5, .int a5), (6, .int a6)] [.int (m_absI (a5 + (a2 * (rd_I M a0 51))))] M
    refine sf_blk [(.iload 6, 0, 0, .null)] (lv' := [(0, .ref a0), (2, .int a2), (5, .int a5), (6, .int a6)]) (st' := [.int a6, .int (m_absI (a5 + (a2 * (rd_I M a0 51))))]) (M1 := M) (ob := []) (pc' := 147) (by decide +kernel) rfl rfl sw_a0 ?_
    refine sf_j_gt (off := 7) (tgt := 154) (by decide +kernel) (by decide) hf (fun hc hf => ?_) (fun hc hf => ?_)
    · refine sf_blk [(.iconst (0), 0, 0, .int (0 : Int32))] (lv' := [(0, .ref a0), (2, .int a2), (5, .int a5), (6, .int a6)]) (st' := [.int (0 : Int32)]) (M1 := M) (ob := []) (pc' := 155) (by decide +kernel) rfl rfl sw_a0 ?_
      cases hf
      exact sf_bool rfl rfl (by decide +kernel)
    · exact sf_weak [] rfl (t_Model_tune_150 hd hf)
def f_Model_tune_34 (N : Nat) (a0 : Nat) (a1 : Int32) (a2 : Int32) (a3 : Int32) (a4 : Int32) (M : sw_M) : Option (Int32 × sw_M) :=
  sw_gd [sw_ok M a0 12] ((f_Model_isOrbit N a0 a1 M).bind (fun u2 => if u2.1 = 0 then some ((0 : Int32), u2.2)
  else if a2 < (1 : Int32) then some ((0 : Int32), u2.2)
  else if (9 : Int32) < a2 then some ((0 : Int32), u2.2)
  else if a3 < (1 : Int32) then some ((0 : Int32), u2.2)
  else if (9 : Int32) < a3 then some ((0 : Int32), u2.2)
  else sw_gd [sw_ok u2.2 a0 12] (if a4 = (rd_I u2.2 a0 10) then some ((0 : Int32), u2.2)
  else (f_Model_goAll N a0 (rd_I u2.2 a0 15) u2.2).bind (fun u4 => sw_gd [sw_ok u4 a0 12] (sw_gd [sw_ar u4 (rd_R u4 a0 66) 13 a1] (sw_gd [sw_ar u4 (rd_R u4 a0 9) 13 a4] (f_Model_tune_116 N a0 a2 (((a3 * (rd_I u4 (rd_R u4 a0 66) a1.toNatClampNeg)) * (2 : Int32)) * (rd_I u4 (rd_R u4 a0 9) a4.toNatClampNeg)) ((a3 * (2 : Int32)) * (rd_I u4 (rd_R u4 a0 9) a4.toNatClampNeg)) u4)))))))
set_option maxRecDepth 10000 in
theorem t_Model_tune_34 {g : sw_G} {d n0 : Nat} (hd : 6 ≤ d) {r : Int32 × sw_M} {N : Nat} {a0 : Nat} {a1 : Int32} {a2 : Int32} {a3 : Int32} {a4 : Int32} {M : sw_M} (hf : f_Model_tune_34 N a0 a1 a2 a3 a4 M = some r) : sw_F g k_Model_tune d n0 (some (.int r.1)) r.2 34 [(0, .ref a0), (1, .int a1), (2, .int a2), (3, .int a3), (4, .int a4)] [] M := by
  unfold f_Model_tune_34 at hf
  obtain ⟨h1, hf⟩ := sw_gd_1 hf
  refine sf_blk [(.aload_n 0, 0, 0, .null), (.iload_n 1, 0, 0, .null)] (lv' := [(0, .ref a0), (1, .int a1), (2, .int a2), (3, .int a3), (4, .int a4)]) (st' := [.int a1, .ref a0]) (M1 := M) (ob := []) (pc' := 36) (by decide +kernel) rfl rfl sw_a0 ?_
  obtain ⟨u2, hu2, hf⟩ := sw_bnd hf
  refine sf_callV (i := 439) (k2 := k_Model_isOrbit) (d2 := d - 1) (As := [.int a1]) (st := []) (q := a0) (ci := 12) mf_Model_isOrbit mi_Model_isOrbit ms_Model_isOrbit (sw_m7 182 (by decide +kernel)) rfl (by decide) (by decide +kernel) rfl (Nat.le_of_ble_eq_true rfl) (by omega) h1 (o_Model_isOrbit g (d := d - 1) (by omega) hu2) ?_
  show sw_F _ _ _ _ _ _ 39 [(0, .ref a0), (1, .int a1), (2, .int a2), (3, .int a3), (4, .int a4)] [.int u2.1] u2.2
  refine sf_z_eq (off := 34) (tgt := 73) (by decide +kernel) (by decide) hf (fun hc hf => ?_) (fun hc hf => ?_)
  · refine sf_blk [(.iconst (0), 0, 0, .int (0 : Int32))] (lv' := [(0, .ref a0), (1, .int a1), (2, .int a2), (3, .int a3), (4, .int a4)]) (st' := [.int (0 : Int32)]) (M1 := u2.2) (ob := []) (pc' := 74) (by decide +kernel) rfl rfl sw_a0 ?_
    cases hf
    exact sf_bool rfl rfl (by decide +kernel)
  · refine sf_blk [(.iload_n 2, 0, 0, .null), (.iconst (1), 0, 0, .int (1 : Int32))] (lv' := [(0, .ref a0), (1, .int a1), (2, .int a2), (3, .int a3), (4, .int a4)]) (st' := [.int (1 : Int32), .int a2]) (M1 := u2.2) (ob := []) (pc' := 44) (by decide +kernel) rfl rfl sw_a0 ?_
    refine sf_j_lt (off := 29) (tgt := 73) (by decide +kernel) (by decide) hf (fun hc hf => ?_) (fun hc hf => ?_)
    · refine sf_blk [(.iconst (0), 0, 0, .int (0 : Int32))] (lv' := [(0, .ref a0), (1, .int a1), (2, .int a2), (3, .int a3), (4, .int a4)]) (st' := [.int (0 : Int32)]) (M1 := u2.2) (ob := []) (pc' := 74) (by decide +kernel) rfl rfl sw_a0 ?_
      cases hf
      exact sf_bool rfl rfl (by decide +kernel)
    · refine sf_blk [(.iload_n 2, 0, 0, .null), (.bipush (9), 0, 0, .int (9 : Int32))] (lv' := [(0, .ref a0), (1, .int a1), (2, .int a2), (3, .int a3), (4, .int a4)]) (st' := [.int (9 : Int32), .int a2]) (M1 := u2.2) (ob := []) (pc' := 50) (by decide +kernel) rfl rfl sw_a0 ?_
      refine sf_j_gt (off := 23) (tgt := 73) (by decide +kernel) (by decide) hf (fun hc hf => ?_) (fun hc hf => ?_)
      · refine sf_blk [(.iconst (0), 0, 0, .int (0 : Int32))] (lv' := [(0, .ref a0), (1, .int a1), (2, .int a2), (3, .int a3), (4, .int a4)]) (st' := [.int (0 : Int32)]) (M1 := u2.2) (ob := []) (pc' := 74) (by decide +kernel) rfl rfl sw_a0 ?_
        cases hf
        exact sf_bool rfl rfl (by decide +kernel)
      · refine sf_blk [(.iload_n 3, 0, 0, .null), (.iconst (1), 0, 0, .int (1 : Int32))] (lv' := [(0, .ref a0), (1, .int a1), (2, .int a2), (3, .int a3), (4, .int a4)]) (st' := [.int (1 : Int32), .int a3]) (M1 := u2.2) (ob := []) (pc' := 55) (by decide +kernel) rfl rfl sw_a0 ?_
        refine sf_j_lt (off := 18) (tgt := 73) (by decide +kernel) (by decide) hf (fun hc hf => ?_) (fun hc hf => ?_)
        · refine sf_blk [(.iconst (0), 0, 0, .int (0 : Int32))] (lv' := [(0, .ref a0), (1, .int a1), (2, .int a2), (3, .int a3), (4, .int a4)]) (st' := [.int (0 : Int32)]) (M1 := u2.2) (ob := []) (pc' := 74) (by decide +kernel) rfl rfl sw_a0 ?_
          cases hf
          exact sf_bool rfl rfl (by decide +kernel)
        · refine sf_blk [(.iload_n 3, 0, 0, .null), (.bipush (9), 0, 0, .int (9 : Int32))] (lv' := [(0, .ref a0), (1, .int a1), (2, .int a2), (3, .int a3), (4, .int a4)]) (st' := [.int (9 : Int32), .int a3]) (M1 := u2.2) (ob := []) (pc' := 61) (by decide +kernel) rfl rfl sw_a0 ?_
          refine sf_j_gt (off := 12) (tgt := 73) (by decide +kernel) (by decide) hf (fun hc hf => ?_) (fun hc hf => ?_)
          · refine sf_blk [(.iconst (0), 0, 0, .int (0 : Int32))] (lv' := [(0, .ref a0), (1, .int a1), (2, .int a2), (3, .int a3), (4, .int a4)]) (st' := [.int (0 : Int32)]) (M1 := u2.2) (ob := []) (pc' := 74) (by decide +kernel) rfl rfl sw_a0 ?_
            cases hf
            exact sf_bool rfl rfl (by decide +kernel)
          · obtain ⟨h3, hf⟩ := sw_gd_1 hf
            refine sf_blk [(.iload 4, 0, 0, .null), (.aload_n 0, 0, 0, .null), (.getfield 296, 12, 10, .null)] (lv' := [(0, .ref a0), (1, .int a1), (2, .int a2), (3, .int a3), (4, .int a4)]) (st' := [.int (rd_I u2.2 a0 10), .int a4]) (M1 := u2.2) (ob := [sw_ok u2.2 a0 12]) (pc' := 70) (by decide +kernel) rfl rfl (sw_a1 h3 sw_a0) ?_
            refine sf_j_ne (off := 5) (tgt := 75) (by decide +kernel) (by decide) hf (fun hc hf => ?_) (fun hc hf => ?_)
            · refine sf_blk [(.aload_n 0, 0, 0, .null), (.aload_n 0, 0, 0, .null), (.getfield 305, 12, 15, .null)] (lv' := [(0, .ref a0), (1, .int a1), (2, .int a2), (3, .int a3), (4, .int a4)]) (st' := [.int (rd_I u2.2 a0 15), .ref a0]) (M1 := u2.2) (ob := [sw_ok u2.2 a0 12]) (pc' := 80) (by decide +kernel) rfl rfl (sw_a1 h3 sw_a0) ?_
              obtain ⟨u4, hu4, hf⟩ := sw_bnd hf
              refine sf_callV (i := 444) (k2 := k_Model_goAll) (d2 := d - 1) (As := [.int (rd_I u2.2 a0 15)]) (st := []) (q := a0) (ci := 12) mf_Model_goAll mi_Model_goAll ms_Model_goAll (sw_m7 187 (by decide +kernel)) rfl (by decide) (by decide +kernel) rfl (Nat.le_of_ble_eq_true rfl) (by omega) h3 (o_Model_goAll g (d := d - 1) (by omega) hu4) ?_
              show sw_F _ _ _ _ _ _ 83 [(0, .ref a0), (1, .int a1), (2, .int a2), (3, .int a3), (4, .int a4)] [] u4
              obtain ⟨h5, hf⟩ := sw_gd_1 hf
              obtain ⟨h6, hf⟩ := sw_gd_1 hf
              obtain ⟨h7, hf⟩ := sw_gd_1 hf
              refine sf_blk [(.iload_n 3, 0, 0, .null), (.aload_n 0, 0, 0, .null), (.getfield 103, 12, 66, .null), (.iload_n 1, 0, 0, .null), (.iaload, 0, 0, .null), (.imul, 0, 0, .null), (.iconst (2), 0, 0, .int (2 : Int32)), (.imul, 0, 0, .null), (.aload_n 0, 0, 0, .null), (.getfield 34, 12, 9, .null), (.iload 4, 0, 0, .null), (.iaload, 0, 0, .null), (.imul, 0, 0, .null), (.istore 5, 0, 0, .null), (.iload_n 3, 0, 0, .null), (.iconst (2), 0, 0, .int (2 : Int32)), (.imul, 0, 0, .null), (.aload_n 0, 0, 0, .null), (.getfield 34, 12, 9, .null), (.iload 4, 0, 0, .null), (.iaload, 0, 0, .null), (.imul, 0, 0, .null), (.istore 6, 0, 0, .null)] (lv' := [(6, .int ((a3 * (2 : Int32)) * (rd_I u4 (rd_R u4 a0 9) a4.toNatClampNeg))), (5, .int (((a3 * (rd_I u4 (rd_R u4 a0 66) a1.toNatClampNeg)) * (2 : Int32)) * (rd_I u4 (rd_R u4 a0 9) a4.toNatClampNeg))), (0, .ref a0), (1, .int a1), (2, .int a2), (3, .int a3), (4, .int a4)]) (st' := []) (M1 := u4) (ob := [sw_ok u4 a0 12, sw_ar u4 (rd_R u4 a0 66) 13 a1, sw_ok u4 a0 12, sw_ar u4 (rd_R u4 a0 9) 13 a4, sw_ok u4 a0 12, sw_ar u4 (rd_R u4 a0 9) 13 a4]) (pc' := 116) (by decide +kernel) rfl rfl (sw_a1 h5 (sw_a1 h6 (sw_a1 h5 (sw_a1 h7 (sw_a1 h5 (sw_a1 h7 sw_a0)))))) ?_
              exact sf_weak [2, 4, 1, 0] rfl (t_Model_tune_116 hd hf)
            · refine sf_blk [(.iconst (0), 0, 0, .int (0 : Int32))] (lv' := [(0, .ref a0), (1, .int a1), (2, .int a2), (3, .int a3), (4, .int a4)]) (st' := [.int (0 : Int32)]) (M1 := u2.2) (ob := []) (pc' := 74) (by decide +kernel) rfl rfl sw_a0 ?_
              cases hf
              exact sf_bool rfl rfl (by decide +kernel)
def f_Model_tune_8 (N : Nat) : Nat → Nat → Int32 → Int32 → Int32 → Int32 → sw_M → Option (Int32 × sw_M)
  | 0, _, _, _, _, _, _ => none
  | j + 1, a0, a1, a2, a3, a4, M =>
  sw_gd [sw_ok M a0 12] (if (rd_I M a0 10) ≤ a4 then f_Model_tune_34 N a0 a1 a2 a3 a4 M
  else sw_gd [sw_ar M (rd_R M a0 1) 13 a4] (if (rd_I M (rd_R M a0 1) a4.toNatClampNeg) = (3 : Int32) then f_Model_tune_34 N a0 a1 a2 a3 a4 M
  else f_Model_tune_8 N j a0 a1 a2 a3 (a4 + (1 : Int32)) M))
set_option maxRecDepth 10000 in
theorem t_Model_tune_8 {g : sw_G} {d n0 : Nat} (hd : 6 ≤ d) {r : Int32 × sw_M} {N : Nat} : ∀ (j : Nat) (a0 : Nat) (a1 : Int32) (a2 : Int32) (a3 : Int32) (a4 : Int32) (M : sw_M), f_Model_tune_8 N j a0 a1 a2 a3 a4 M = some r → sw_F g k_Model_tune d n0 (some (.int r.1)) r.2 8 [(0, .ref a0), (1, .int a1), (2, .int a2), (3, .int a3), (4, .int a4)] [] M := by
  intro j
  induction j with
  | zero =>
    intro a0 a1 a2 a3 a4 M hf
    rw [f_Model_tune_8] at hf
    cases hf
  | succ j ih =>
    intro a0 a1 a2 a3 a4 M hf
    rw [f_Model_tune_8] at hf
    obtain ⟨h1, hf⟩ := sw_gd_1 hf
    refine sf_blk [(.iload 4, 0, 0, .null), (.aload_n 0, 0, 0, .null), (.getfield 296, 12, 10, .null)] (lv' := [(0, .ref a0), (1, .int a1), (2, .int a2), (3, .int a3), (4, .int a4)]) (st' := [.int (rd_I M a0 10), .int a4]) (M1 := M) (ob := [sw_ok M a0 12]) (pc' := 14) (by decide +kernel) rfl rfl (sw_a1 h1 sw_a0) ?_
    refine sf_j_ge (off := 20) (tgt := 34) (by decide +kernel) (by decide) hf (fun hc hf => ?_) (fun hc hf => ?_)
    · exact sf_weak [0, 1, 2, 3, 4] rfl (t_Model_tune_34 hd hf)
    · obtain ⟨h2, hf⟩ := sw_gd_1 hf
      refine sf_blk [(.aload_n 0, 0, 0, .null), (.getfield 7, 12, 1, .null), (.iload 4, 0, 0, .null), (.iaload, 0, 0, .null), (.iconst (3), 0, 0, .int (3 : Int32))] (lv' := [(0, .ref a0), (1, .int a1), (2, .int a2), (3, .int a3), (4, .int a4)]) (st' := [.int (3 : Int32), .int (rd_I M (rd_R M a0 1) a4.toNatClampNeg)]) (M1 := M) (ob := [sw_ok M a0 12, sw_ar M (rd_R M a0 1) 13 a4]) (pc' := 25) (by decide +kernel) rfl rfl (sw_a1 h1 (sw_a1 h2 sw_a0)) ?_
      refine sf_j_eq (off := 9) (tgt := 34) (by decide +kernel) (by decide) hf (fun hc hf => ?_) (fun hc hf => ?_)
      · exact sf_weak [0, 1, 2, 3, 4] rfl (t_Model_tune_34 hd hf)
      · refine sf_blk [(.iinc 4 (1), 0, 0, .int (1 : Int32))] (lv' := [(4, .int (a4 + (1 : Int32))), (0, .ref a0), (1, .int a1), (2, .int a2), (3, .int a3)]) (st' := []) (M1 := M) (ob := []) (pc' := 31) (by decide +kernel) rfl rfl sw_a0 ?_
        refine sf_goto (off := -23) (tgt := 8) (by decide +kernel) (by decide) ?_
        exact sf_weak [1, 2, 3, 4, 0] rfl (ih _ _ _ _ _ _ hf)
def f_Model_tune (N : Nat) (a0 : Nat) (a1 : Int32) (a2 : Int32) (a3 : Int32) (M : sw_M) : Option (Int32 × sw_M) :=
  sw_gd [sw_ok M a0 12] (f_Model_tune_8 N N a0 a1 a2 a3 (0 : Int32) (wr_I M a0 0 (0 : Int32)))
set_option maxRecDepth 10000 in
theorem t_Model_tune {g : sw_G} {d n0 : Nat} (hd : 6 ≤ d) {r : Int32 × sw_M} {N : Nat} {a0 : Nat} {a1 : Int32} {a2 : Int32} {a3 : Int32} {M : sw_M} (hf : f_Model_tune N a0 a1 a2 a3 M = some r) : sw_F g k_Model_tune d n0 (some (.int r.1)) r.2 0 [(0, .ref a0), (1, .int a1), (2, .int a2), (3, .int a3)] [] M := by
  unfold f_Model_tune at hf
  obtain ⟨h1, hf⟩ := sw_gd_1 hf
  refine sf_blk [(.aload_n 0, 0, 0, .null), (.iconst (0), 0, 0, .int (0 : Int32)), (.putfield 166, 12, 0, .null), (.iconst (0), 0, 0, .int (0 : Int32)), (.istore 4, 0, 0, .null)] (lv' := [(4, .int (0 : Int32)), (0, .ref a0), (1, .int a1), (2, .int a2), (3, .int a3)]) (st' := []) (M1 := (wr_I M a0 0 (0 : Int32))) (ob := [sw_ok M a0 12]) (pc' := 8) (by decide +kernel) rfl rfl (sw_a1 h1 sw_a0) ?_
  exact sf_weak [1, 2, 3, 4, 0] rfl (t_Model_tune_8 hd _ _ _ _ _ _ _ hf)
theorem o_Model_tune (g : sw_G) {d : Nat} (hd : 6 ≤ d) {N : Nat} {a0 : Nat} {a1 : Int32} {a2 : Int32} {a3 : Int32} {M : sw_M} {r : Int32 × sw_M} (hf : f_Model_tune N a0 a1 a2 a3 M = some r) : sw_Ok g k_Model_tune d [.ref a0, .int a1, .int a2, .int a3] M (some (.int r.1)) r.2 := sf_met (by decide +kernel) rfl (by decide) (Nat.le_of_ble_eq_true rfl) (t_Model_tune hd hf)
def f_Model_cells (N : Nat) (a0 : Nat) (a1 : Int32) (a2 : Int32) (M : sw_M) : Option (Int32 × sw_M) :=
  sw_gd [sw_ok M a0 12] (if a1 < (2 : Int32) then some ((0 : Int32), (wr_I M a0 0 (0 : Int32)))
  else if (8 : Int32) < a1 then some ((0 : Int32), (wr_I M a0 0 (0 : Int32)))
  else if a2 < (8 : Int32) then some ((0 : Int32), (wr_I M a0 0 (0 : Int32)))
  else if a2 ≤ (20000 : Int32) then some ((1 : Int32), (wr_I (wr_I (wr_I M a0 0 (0 : Int32)) a0 71 a1) a0 72 a2))
  else some ((0 : Int32), (wr_I M a0 0 (0 : Int32))))
set_option maxRecDepth 10000 in
theorem t_Model_cells {g : sw_G} {d n0 : Nat} (hd : 1 ≤ d) {r : Int32 × sw_M} {N : Nat} {a0 : Nat} {a1 : Int32} {a2 : Int32} {M : sw_M} (hf : f_Model_cells N a0 a1 a2 M = some r) : sw_F g k_Model_cells d n0 (some (.int r.1)) r.2 0 [(0, .ref a0), (1, .int a1), (2, .int a2)] [] M := by
  unfold f_Model_cells at hf
  obtain ⟨h1, hf⟩ := sw_gd_1 hf
  refine sf_blk [(.aload_n 0, 0, 0, .null), (.iconst (0), 0, 0, .int (0 : Int32)), (.putfield 166, 12, 0, .null), (.iload_n 1, 0, 0, .null), (.iconst (2), 0, 0, .int (2 : Int32))] (lv' := [(0, .ref a0), (1, .int a1), (2, .int a2)]) (st' := [.int (2 : Int32), .int a1]) (M1 := (wr_I M a0 0 (0 : Int32))) (ob := [sw_ok M a0 12]) (pc' := 7) (by decide +kernel) rfl rfl (sw_a1 h1 sw_a0) ?_
  refine sf_j_lt (off := 22) (tgt := 29) (by decide +kernel) (by decide) hf (fun hc hf => ?_) (fun hc hf => ?_)
  · refine sf_blk [(.iconst (0), 0, 0, .int (0 : Int32))] (lv' := [(0, .ref a0), (1, .int a1), (2, .int a2)]) (st' := [.int (0 : Int32)]) (M1 := (wr_I M a0 0 (0 : Int32))) (ob := []) (pc' := 30) (by decide +kernel) rfl rfl sw_a0 ?_
    cases hf
    exact sf_bool rfl rfl (by decide +kernel)
  · refine sf_blk [(.iload_n 1, 0, 0, .null), (.bipush (8), 0, 0, .int (8 : Int32))] (lv' := [(0, .ref a0), (1, .int a1), (2, .int a2)]) (st' := [.int (8 : Int32), .int a1]) (M1 := (wr_I M a0 0 (0 : Int32))) (ob := []) (pc' := 13) (by decide +kernel) rfl rfl sw_a0 ?_
    refine sf_j_gt (off := 16) (tgt := 29) (by decide +kernel) (by decide) hf (fun hc hf => ?_) (fun hc hf => ?_)
    · refine sf_blk [(.iconst (0), 0, 0, .int (0 : Int32))] (lv' := [(0, .ref a0), (1, .int a1), (2, .int a2)]) (st' := [.int (0 : Int32)]) (M1 := (wr_I M a0 0 (0 : Int32))) (ob := []) (pc' := 30) (by decide +kernel) rfl rfl sw_a0 ?_
      cases hf
      exact sf_bool rfl rfl (by decide +kernel)
    · refine sf_blk [(.iload_n 2, 0, 0, .null), (.bipush (8), 0, 0, .int (8 : Int32))] (lv' := [(0, .ref a0), (1, .int a1), (2, .int a2)]) (st' := [.int (8 : Int32), .int a2]) (M1 := (wr_I M a0 0 (0 : Int32))) (ob := []) (pc' := 19) (by decide +kernel) rfl rfl sw_a0 ?_
      refine sf_j_lt (off := 10) (tgt := 29) (by decide +kernel) (by decide) hf (fun hc hf => ?_) (fun hc hf => ?_)
      · refine sf_blk [(.iconst (0), 0, 0, .int (0 : Int32))] (lv' := [(0, .ref a0), (1, .int a1), (2, .int a2)]) (st' := [.int (0 : Int32)]) (M1 := (wr_I M a0 0 (0 : Int32))) (ob := []) (pc' := 30) (by decide +kernel) rfl rfl sw_a0 ?_
        cases hf
        exact sf_bool rfl rfl (by decide +kernel)
      · refine sf_blk [(.iload_n 2, 0, 0, .null), (.sipush (20000), 0, 0, .int (20000 : Int32))] (lv' := [(0, .ref a0), (1, .int a1), (2, .int a2)]) (st' := [.int (20000 : Int32), .int a2]) (M1 := (wr_I M a0 0 (0 : Int32))) (ob := []) (pc' := 26) (by decide +kernel) rfl rfl sw_a0 ?_
        refine sf_j_le (off := 5) (tgt := 31) (by decide +kernel) (by decide) hf (fun hc hf => ?_) (fun hc hf => ?_)
        · refine sf_blk [(.aload_n 0, 0, 0, .null), (.iload_n 1, 0, 0, .null), (.putfield 115, 12, 71, .null), (.aload_n 0, 0, 0, .null), (.iload_n 2, 0, 0, .null), (.putfield 118, 12, 72, .null), (.iconst (1), 0, 0, .int (1 : Int32))] (lv' := [(0, .ref a0), (1, .int a1), (2, .int a2)]) (st' := [.int (1 : Int32)]) (M1 := (wr_I (wr_I (wr_I M a0 0 (0 : Int32)) a0 71 a1) a0 72 a2)) (ob := [sw_ok (wr_I M a0 0 (0 : Int32)) a0 12, sw_ok (wr_I (wr_I M a0 0 (0 : Int32)) a0 71 a1) a0 12]) (pc' := 42) (by decide +kernel) rfl rfl (sw_a1 h1 (sw_a1 h1 sw_a0)) ?_
          cases hf
          exact sf_bool rfl rfl (by decide +kernel)
        · refine sf_blk [(.iconst (0), 0, 0, .int (0 : Int32))] (lv' := [(0, .ref a0), (1, .int a1), (2, .int a2)]) (st' := [.int (0 : Int32)]) (M1 := (wr_I M a0 0 (0 : Int32))) (ob := []) (pc' := 30) (by decide +kernel) rfl rfl sw_a0 ?_
          cases hf
          exact sf_bool rfl rfl (by decide +kernel)
theorem o_Model_cells (g : sw_G) {d : Nat} (hd : 1 ≤ d) {N : Nat} {a0 : Nat} {a1 : Int32} {a2 : Int32} {M : sw_M} {r : Int32 × sw_M} (hf : f_Model_cells N a0 a1 a2 M = some r) : sw_Ok g k_Model_cells d [.ref a0, .int a1, .int a2] M (some (.int r.1)) r.2 := sf_met (by decide +kernel) rfl (by decide) (Nat.le_of_ble_eq_true rfl) (t_Model_cells hd hf)
def f_Model_cellOf (N : Nat) (a0 : Nat) (a1 : Int64) (a3 : Int64) (M : sw_M) : Option (Int32 × sw_M) :=
  sw_gd [sw_ok M a0 12] (if a1 < (-(rd_I M a0 72)).toInt64 then some ((-1 : Int32), M)
  else if (rd_I M a0 72).toInt64 ≤ a1 then some ((-1 : Int32), M)
  else if a3 < (-(rd_I M a0 72)).toInt64 then some ((-1 : Int32), M)
  else if a3 < (rd_I M a0 72).toInt64 then sw_gd [decide (¬ ((2 : Int64) * (rd_I M a0 72).toInt64) = 0)] (some ((((rd_I M a0 71) * (((a3 + (rd_I M a0 72).toInt64) * (rd_I M a0 71).toInt64) / ((2 : Int64) * (rd_I M a0 72).toInt64)).toInt32) + (((a1 + (rd_I M a0 72).toInt64) * (rd_I M a0 71).toInt64) / ((2 : Int64) * (rd_I M a0 72).toInt64)).toInt32), M))
  else some ((-1 : Int32), M))
set_option maxRecDepth 10000 in
theorem t_Model_cellOf {g : sw_G} {d n0 : Nat} (hd : 1 ≤ d) {r : Int32 × sw_M} {N : Nat} {a0 : Nat} {a1 : Int64} {a3 : Int64} {M : sw_M} (hf : f_Model_cellOf N a0 a1 a3 M = some r) : sw_F g k_Model_cellOf d n0 (some (.int r.1)) r.2 0 [(0, .ref a0), (1, .long a1), (3, .long a3)] [] M := by
  unfold f_Model_cellOf at hf
  obtain ⟨h1, hf⟩ := sw_gd_1 hf
  refine sf_blk [(.lload_n 1, 0, 0, .null), (.aload_n 0, 0, 0, .null), (.getfield 118, 12, 72, .null), (.ineg, 0, 0, .null), (.i2l, 0, 0, .null), (.lcmp, 0, 0, .null)] (lv' := [(0, .ref a0), (1, .long a1), (3, .long a3)]) (st' := [.int (lg_cmp a1 (-(rd_I M a0 72)).toInt64)]) (M1 := M) (ob := [sw_ok M a0 12]) (pc' := 8) (by decide +kernel) rfl rfl (sw_a1 h1 sw_a0) ?_
  refine sf_l_lt (off := 34) (tgt := 42) (by decide +kernel) (by decide) hf (fun hc hf => ?_) (fun hc hf => ?_)
  · refine sf_blk [(.iconst (-1), 0, 0, .int (-1 : Int32))] (lv' := [(0, .ref a0), (1, .long a1), (3, .long a3)]) (st' := [.int (-1 : Int32)]) (M1 := M) (ob := []) (pc' := 43) (by decide +kernel) rfl rfl sw_a0 ?_
    cases hf
    exact sf_int rfl (by decide +kernel)
  · refine sf_blk [(.lload_n 1, 0, 0, .null), (.aload_n 0, 0, 0, .null), (.getfield 118, 12, 72, .null), (.i2l, 0, 0, .null), (.lcmp, 0, 0, .null)] (lv' := [(0, .ref a0), (1, .long a1), (3, .long a3)]) (st' := [.int (lg_cmp a1 (rd_I M a0 72).toInt64)]) (M1 := M) (ob := [sw_ok M a0 12]) (pc' := 18) (by decide +kernel) rfl rfl (sw_a1 h1 sw_a0) ?_
    refine sf_l_ge (off := 24) (tgt := 42) (by decide +kernel) (by decide) hf (fun hc hf => ?_) (fun hc hf => ?_)
    · refine sf_blk [(.iconst (-1), 0, 0, .int (-1 : Int32))] (lv' := [(0, .ref a0), (1, .long a1), (3, .long a3)]) (st' := [.int (-1 : Int32)]) (M1 := M) (ob := []) (pc' := 43) (by decide +kernel) rfl rfl sw_a0 ?_
      cases hf
      exact sf_int rfl (by decide +kernel)
    · refine sf_blk [(.lload_n 3, 0, 0, .null), (.aload_n 0, 0, 0, .null), (.getfield 118, 12, 72, .null), (.ineg, 0, 0, .null), (.i2l, 0, 0, .null), (.lcmp, 0, 0, .null)] (lv' := [(0, .ref a0), (1, .long a1), (3, .long a3)]) (st' := [.int (lg_cmp a3 (-(rd_I M a0 72)).toInt64)]) (M1 := M) (ob := [sw_ok M a0 12]) (pc' := 29) (by decide +kernel) rfl rfl (sw_a1 h1 sw_a0) ?_
      refine sf_l_lt (off := 13) (tgt := 42) (by decide +kernel) (by decide) hf (fun hc hf => ?_) (fun hc hf => ?_)
      · refine sf_blk [(.iconst (-1), 0, 0, .int (-1 : Int32))] (lv' := [(0, .ref a0), (1, .long a1), (3, .long a3)]) (st' := [.int (-1 : Int32)]) (M1 := M) (ob := []) (pc' := 43) (by decide +kernel) rfl rfl sw_a0 ?_
        cases hf
        exact sf_int rfl (by decide +kernel)
      · refine sf_blk [(.lload_n 3, 0, 0, .null), (.aload_n 0, 0, 0, .null), (.getfield 118, 12, 72, .null), (.i2l, 0, 0, .null), (.lcmp, 0, 0, .null)] (lv' := [(0, .ref a0), (1, .long a1), (3, .long a3)]) (st' := [.int (lg_cmp a3 (rd_I M a0 72).toInt64)]) (M1 := M) (ob := [sw_ok M a0 12]) (pc' := 39) (by decide +kernel) rfl rfl (sw_a1 h1 sw_a0) ?_
        refine sf_l_lt (off := 5) (tgt := 44) (by decide +kernel) (by decide) hf (fun hc hf => ?_) (fun hc hf => ?_)
        · obtain ⟨h2, hf⟩ := sw_gd_1 hf
          refine sf_blk [(.aload_n 0, 0, 0, .null), (.getfield 115, 12, 71, .null), (.lload_n 3, 0, 0, .null), (.aload_n 0, 0, 0, .null), (.getfield 118, 12, 72, .null), (.i2l, 0, 0, .null), (.ladd, 0, 0, .null), (.aload_n 0, 0, 0, .null), (.getfield 115, 12, 71, .null), (.i2l, 0, 0, .null), (.lmul, 0, 0, .null), (.ldc2_w 331, 0, 0, .long (2 : Int64)), (.aload_n 0, 0, 0, .null), (.getfield 118, 12, 72, .null), (.i2l, 0, 0, .null), (.lmul, 0, 0, .null), (.ldiv, 0, 0, .null), (.l2i, 0, 0, .null), (.imul, 0, 0, .null), (.lload_n 1, 0, 0, .null), (.aload_n 0, 0, 0, .null), (.getfield 118, 12, 72, .null), (.i2l, 0, 0, .null), (.ladd, 0, 0, .null), (.aload_n 0, 0, 0, .null), (.getfield 115, 12, 71, .null), (.i2l, 0, 0, .null), (.lmul, 0, 0, .null), (.ldc2_w 331, 0, 0, .long (2 : Int64)), (.aload_n 0, 0, 0, .null), (.getfield 118, 12, 72, .null), (.i2l, 0, 0, .null), (.lmul, 0, 0, .null), (.ldiv, 0, 0, .null), (.l2i, 0, 0, .null), (.iadd, 0, 0, .null)] (lv' := [(0, .ref a0), (1, .long a1), (3, .long a3)]) (st' := [.int (((rd_I M a0 71) * (((a3 + (rd_I M a0 72).toInt64) * (rd_I M a0 71).toInt64) / ((2 : Int64) * (rd_I M a0 72).toInt64)).toInt32) + (((a1 + (rd_I M a0 72).toInt64) * (rd_I M a0 71).toInt64) / ((2 : Int64) * (rd_I M a0 72).toInt64)).toInt32)]) (M1 := M) (ob := [sw_ok M a0 12, sw_ok M a0 12, sw_ok M a0 12, sw_ok M a0 12, decide (¬ ((2 : Int64) * (rd_I M a0 72).toInt64) = 0), sw_ok M a0 12, sw_ok M a0 12, sw_ok M a0 12, decide (¬ ((2 : Int64) * (rd_I M a0 72).toInt64) = 0)]) (pc' := 98) (by decide +kernel) rfl rfl (sw_a1 h1 (sw_a1 h1 (sw_a1 h1 (sw_a1 h1 (sw_a1 h2 (sw_a1 h1 (sw_a1 h1 (sw_a1 h1 (sw_a1 h2 sw_a0))))))))) ?_
          cases hf
          exact sf_int rfl (by decide +kernel)
        · refine sf_blk [(.iconst (-1), 0, 0, .int (-1 : Int32))] (lv' := [(0, .ref a0), (1, .long a1), (3, .long a3)]) (st' := [.int (-1 : Int32)]) (M1 := M) (ob := []) (pc' := 43) (by decide +kernel) rfl rfl sw_a0 ?_
          cases hf
          exact sf_int rfl (by decide +kernel)
theorem o_Model_cellOf (g : sw_G) {d : Nat} (hd : 1 ≤ d) {N : Nat} {a0 : Nat} {a1 : Int64} {a3 : Int64} {M : sw_M} {r : Int32 × sw_M} (hf : f_Model_cellOf N a0 a1 a3 M = some r) : sw_Ok g k_Model_cellOf d [.ref a0, .long a1, .long a3] M (some (.int r.1)) r.2 := sf_met (by decide +kernel) rfl (by decide) (Nat.le_of_ble_eq_true rfl) (t_Model_cellOf hd hf)
def f_Model_spread_140 (N : Nat) (k36 : Nat → Int32 → sw_M → Option (sw_M)) (k46 : Nat → Int32 → Int32 → sw_M → Option (sw_M)) (a0 : Nat) (a2 : Int32) (a3 : Int32) (M : sw_M) : Option (sw_M) :=
  k46 a0 a2 (a3 + (1 : Int32)) M
set_option maxRecDepth 10000 in
theorem t_Model_spread_140 {g : sw_G} {d n0 : Nat} (hd : 6 ≤ d) {r : sw_M} (k36 : Nat → Int32 → sw_M → Option (sw_M)) (hk36 : ∀ (a0 : Nat) (a2 : Int32) (M : sw_M), k36 a0 a2 M = some r → sw_F g k_Model_spread d n0 none r 36 [(0, .ref a0), (2, .int a2)] [] M) (k46 : Nat → Int32 → Int32 → sw_M → Option (sw_M)) (hk46 : ∀ (a0 : Nat) (a2 : Int32) (a3 : Int32) (M : sw_M), k46 a0 a2 a3 M = some r → sw_F g k_Model_spread d n0 none r 46 [(0, .ref a0), (2, .int a2), (3, .int a3)] [] M) {N : Nat} {a0 : Nat} {a2 : Int32} {a3 : Int32} {M : sw_M} (hf : f_Model_spread_140 N k36 k46 a0 a2 a3 M = some r) : sw_F g k_Model_spread d n0 none r 140 [(0, .ref a0), (2, .int a2), (3, .int a3)] [] M := by
  unfold f_Model_spread_140 at hf
  refine sf_blk [(.iinc 3 (1), 0, 0, .int (1 : Int32))] (lv' := [(3, .int (a3 + (1 : Int32))), (0, .ref a0), (2, .int a2)]) (st' := []) (M1 := M) (ob := []) (pc' := 143) (by decide +kernel) rfl rfl sw_a0 ?_
  refine sf_goto (off := -97) (tgt := 46) (by decide +kernel) (by decide) ?_
  exact sf_weak [1, 2, 0] rfl (hk46 _ _ _ _ hf)
def f_Model_spread_46 (N : Nat) (k36 : Nat → Int32 → sw_M → Option (sw_M)) : Nat → Nat → Int32 → Int32 → sw_M → Option (sw_M)
  | 0, _, _, _, _ => none
  | j + 1, a0, a2, a3, M =>
  sw_gd [sw_ok M a0 12] (sw_gd [sw_ar M (rd_R M a0 60) 13 a2] (if (rd_I M (rd_R M a0 60) a2.toNatClampNeg) < a3 then k36 a0 (a2 + (1 : Int32)) M
  else sw_gd [sw_ar M (rd_R M a0 56) 13 (((241 : Int32) * a2) + a3)] (sw_gd [sw_ar M (rd_R M a0 57) 13 (((241 : Int32) * a2) + a3)] ((f_Model_cellOf N a0 (rd_I M (rd_R M a0 56) (((241 : Int32) * a2) + a3).toNatClampNeg).toInt64 (rd_I M (rd_R M a0 57) (((241 : Int32) * a2) + a3).toNatClampNeg).toInt64 M).bind (fun u5 => if u5.1 = (-1 : Int32) then f_Model_spread_140 N k36 (f_Model_spread_46 N k36 j) a0 a2 a3 u5.2
  else sw_gd [sw_ok u5.2 a0 12] (sw_gd [sw_ar u5.2 (rd_R u5.2 a0 73) 13 (((64 : Int32) * a2) + u5.1)] (sw_gd [sw_ar (wr_I u5.2 (rd_R u5.2 a0 73) (((64 : Int32) * a2) + u5.1).toNatClampNeg ((rd_I u5.2 (rd_R u5.2 a0 73) (((64 : Int32) * a2) + u5.1).toNatClampNeg) + (1 : Int32))) (rd_R (wr_I u5.2 (rd_R u5.2 a0 73) (((64 : Int32) * a2) + u5.1).toNatClampNeg ((rd_I u5.2 (rd_R u5.2 a0 73) (((64 : Int32) * a2) + u5.1).toNatClampNeg) + (1 : Int32))) a0 74) 13 (((64 : Int32) * a2) + u5.1)] (sw_gd [sw_ar (wr_I u5.2 (rd_R u5.2 a0 73) (((64 : Int32) * a2) + u5.1).toNatClampNeg ((rd_I u5.2 (rd_R u5.2 a0 73) (((64 : Int32) * a2) + u5.1).toNatClampNeg) + (1 : Int32))) (rd_R (wr_I u5.2 (rd_R u5.2 a0 73) (((64 : Int32) * a2) + u5.1).toNatClampNeg ((rd_I u5.2 (rd_R u5.2 a0 73) (((64 : Int32) * a2) + u5.1).toNatClampNeg) + (1 : Int32))) a0 58) 13 (((241 : Int32) * a2) + a3)] (f_Model_spread_140 N k36 (f_Model_spread_46 N k36 j) a0 a2 a3 (wr_I (wr_I u5.2 (rd_R u5.2 a0 73) (((64 : Int32) * a2) + u5.1).toNatClampNeg ((rd_I u5.2 (rd_R u5.2 a0 73) (((64 : Int32) * a2) + u5.1).toNatClampNeg) + (1 : Int32))) (rd_R (wr_I u5.2 (rd_R u5.2 a0 73) (((64 : Int32) * a2) + u5.1).toNatClampNeg ((rd_I u5.2 (rd_R u5.2 a0 73) (((64 : Int32) * a2) + u5.1).toNatClampNeg) + (1 : Int32))) a0 74) (((64 : Int32) * a2) + u5.1).toNatClampNeg ((rd_I (wr_I u5.2 (rd_R u5.2 a0 73) (((64 : Int32) * a2) + u5.1).toNatClampNeg ((rd_I u5.2 (rd_R u5.2 a0 73) (((64 : Int32) * a2) + u5.1).toNatClampNeg) + (1 : Int32))) (rd_R (wr_I u5.2 (rd_R u5.2 a0 73) (((64 : Int32) * a2) + u5.1).toNatClampNeg ((rd_I u5.2 (rd_R u5.2 a0 73) (((64 : Int32) * a2) + u5.1).toNatClampNeg) + (1 : Int32))) a0 74) (((64 : Int32) * a2) + u5.1).toNatClampNeg) + (rd_I (wr_I u5.2 (rd_R u5.2 a0 73) (((64 : Int32) * a2) + u5.1).toNatClampNeg ((rd_I u5.2 (rd_R u5.2 a0 73) (((64 : Int32) * a2) + u5.1).toNatClampNeg) + (1 : Int32))) (rd_R (wr_I u5.2 (rd_R u5.2 a0 73) (((64 : Int32) * a2) + u5.1).toNatClampNeg ((rd_I u5.2 (rd_R u5.2 a0 73) (((64 : Int32) * a2) + u5.1).toNatClampNeg) + (1 : Int32))) a0 58) (((241 : Int32) * a2) + a3).toNatClampNeg))))))))))))
set_option maxRecDepth 10000 in
theorem t_Model_spread_46 {g : sw_G} {d n0 : Nat} (hd : 6 ≤ d) {r : sw_M} (k36 : Nat → Int32 → sw_M → Option (sw_M)) (hk36 : ∀ (a0 : Nat) (a2 : Int32) (M : sw_M), k36 a0 a2 M = some r → sw_F g k_Model_spread d n0 none r 36 [(0, .ref a0), (2, .int a2)] [] M) {N : Nat} : ∀ (j : Nat) (a0 : Nat) (a2 : Int32) (a3 : Int32) (M : sw_M), f_Model_spread_46 N k36 j a0 a2 a3 M = some r → sw_F g k_Model_spread d n0 none r 46 [(0, .ref a0), (2, .int a2), (3, .int a3)] [] M := by
  intro j
  induction j with
  | zero =>
    intro a0 a2 a3 M hf
    rw [f_Model_spread_46] at hf
    cases hf
  | succ j ih =>
    intro a0 a2 a3 M hf
    rw [f_Model_spread_46] at hf
    obtain ⟨h1, hf⟩ := sw_gd_1 hf
    obtain ⟨h2, hf⟩ := sw_gd_1 hf
    refine sf_blk [(.iload_n 3, 0, 0, .null), (.aload_n 0, 0, 0, .null), (.getfield 83, 12, 60, .null), (.iload_n 2, 0, 0, .null), (.iaload, 0, 0, .null)] (lv' := [(0, .ref a0), (2, .int a2), (3, .int a3)]) (st' := [.int (rd_I M (rd_R M a0 60) a2.toNatClampNeg), .int a3]) (M1 := M) (ob := [sw_ok M a0 12, sw_ar M (rd_R M a0 60) 13 a2]) (pc' := 53) (by decide +kernel) rfl rfl (sw_a1 h1 (sw_a1 h2 sw_a0)) ?_
    refine sf_j_gt (off := 93) (tgt := 146) (by decide +kernel) (by decide) hf (fun hc hf => ?_) (fun hc hf => ?_)
    · refine sf_blk [(.iinc 2 (1), 0, 0, .int (1 : Int32))] (lv' := [(2, .int (a2 + (1 : Int32))), (0, .ref a0), (3, .int a3)]) (st' := []) (M1 := M) (ob := []) (pc' := 149) (by decide +kernel) rfl rfl sw_a0 ?_
      refine sf_goto (off := -113) (tgt := 36) (by decide +kernel) (by decide) ?_
      exact sf_weak [1, 0] rfl (hk36 _ _ _ hf)
    · obtain ⟨h3, hf⟩ := sw_gd_1 hf
      obtain ⟨h4, hf⟩ := sw_gd_1 hf
      refine sf_blk [(.aload_n 0, 0, 0, .null), (.aload_n 0, 0, 0, .null), (.getfield 71, 12, 56, .null), (.sipush (241), 0, 0, .int (241 : Int32)), (.iload_n 2, 0, 0, .null), (.imul, 0, 0, .null), (.iload_n 3, 0, 0, .null), (.iadd, 0, 0, .null), (.iaload, 0, 0, .null), (.i2l, 0, 0, .null), (.aload_n 0, 0, 0, .null), (.getfield 74, 12, 57, .null), (.sipush (241), 0, 0, .int (241 : Int32)), (.iload_n 2, 0, 0, .null), (.imul, 0, 0, .null), (.iload_n 3, 0, 0, .null), (.iadd, 0, 0, .null), (.iaload, 0, 0, .null), (.i2l, 0, 0, .null)] (lv' := [(0, .ref a0), (2, .int a2), (3, .int a3)]) (st' := [.long (rd_I M (rd_R M a0 57) (((241 : Int32) * a2) + a3).toNatClampNeg).toInt64, .long (rd_I M (rd_R M a0 56) (((241 : Int32) * a2) + a3).toNatClampNeg).toInt64, .ref a0]) (M1 := M) (ob := [sw_ok M a0 12, sw_ar M (rd_R M a0 56) 13 (((241 : Int32) * a2) + a3), sw_ok M a0 12, sw_ar M (rd_R M a0 57) 13 (((241 : Int32) * a2) + a3)]) (pc' := 83) (by decide +kernel) rfl rfl (sw_a1 h1 (sw_a1 h3 (sw_a1 h1 (sw_a1 h4 sw_a0)))) ?_
      obtain ⟨u5, hu5, hf⟩ := sw_bnd hf
      refine sf_callV (i := 455) (k2 := k_Model_cellOf) (d2 := d - 1) (As := [.long (rd_I M (rd_R M a0 56) (((241 : Int32) * a2) + a3).toNatClampNeg).toInt64, .long (rd_I M (rd_R M a0 57) (((241 : Int32) * a2) + a3).toNatClampNeg).toInt64]) (st := []) (q := a0) (ci := 12) mf_Model_cellOf mi_Model_cellOf ms_Model_cellOf (sw_m8 24 (by decide +kernel)) rfl (by decide) (by decide +kernel) rfl (Nat.le_of_ble_eq_true rfl) (by omega) h1 (o_Model_cellOf g (d := d - 1) (by omega) hu5) ?_
      show sw_F _ _ _ _ _ _ 86 [(0, .ref a0), (2, .int a2), (3, .int a3)] [.int u5.1] u5.2
      refine sf_blk [(.istore 4, 0, 0, .null), (.iload 4, 0, 0, .null), (.iconst (-1), 0, 0, .int (-1 : Int32))] (lv' := [(4, .int u5.1), (0, .ref a0), (2, .int a2), (3, .int a3)]) (st' := [.int (-1 : Int32), .int u5.1]) (M1 := u5.2) (ob := []) (pc' := 91) (by decide +kernel) rfl rfl sw_a0 ?_
      refine sf_j_ne (off := 6) (tgt := 97) (by decide +kernel) (by decide) hf (fun hc hf => ?_) (fun hc hf => ?_)
      · obtain ⟨h6, hf⟩ := sw_gd_1 hf
        obtain ⟨h7, hf⟩ := sw_gd_1 hf
        obtain ⟨h8, hf⟩ := sw_gd_1 hf
        obtain ⟨h9, hf⟩ := sw_gd_1 hf
        refine sf_blk [(.aload_n 0, 0, 0, .null), (.getfield 121, 12, 73, .null), (.bipush (64), 0, 0, .int (64 : Int32)), (.iload_n 2, 0, 0, .null), (.imul, 0, 0, .null), (.iload 4, 0, 0, .null), (.iadd, 0, 0, .null), (.dup2, 0, 0, .null), (.iaload, 0, 0, .null), (.iconst (1), 0, 0, .int (1 : Int32)), (.iadd, 0, 0, .null), (.iastore, 0, 0, .null), (.aload_n 0, 0, 0, .null), (.getfield 124, 12, 74, .null), (.bipush (64), 0, 0, .int (64 : Int32)), (.iload_n 2, 0, 0, .null), (.imul, 0, 0, .null), (.iload 4, 0, 0, .null), (.iadd, 0, 0, .null), (.dup2, 0, 0, .null), (.iaload, 0, 0, .null), (.aload_n 0, 0, 0, .null), (.getfield 77, 12, 58, .null), (.sipush (241), 0, 0, .int (241 : Int32)), (.iload_n 2, 0, 0, .null), (.imul, 0, 0, .null), (.iload_n 3, 0, 0, .null), (.iadd, 0, 0, .null), (.iaload, 0, 0, .null), (.iadd, 0, 0, .null), (.iastore, 0, 0, .null)] (lv' := [(4, .int u5.1), (0, .ref a0), (2, .int a2), (3, .int a3)]) (st' := []) (M1 := (wr_I (wr_I u5.2 (rd_R u5.2 a0 73) (((64 : Int32) * a2) + u5.1).toNatClampNeg ((rd_I u5.2 (rd_R u5.2 a0 73) (((64 : Int32) * a2) + u5.1).toNatClampNeg) + (1 : Int32))) (rd_R (wr_I u5.2 (rd_R u5.2 a0 73) (((64 : Int32) * a2) + u5.1).toNatClampNeg ((rd_I u5.2 (rd_R u5.2 a0 73) (((64 : Int32) * a2) + u5.1).toNatClampNeg) + (1 : Int32))) a0 74) (((64 : Int32) * a2) + u5.1).toNatClampNeg ((rd_I (wr_I u5.2 (rd_R u5.2 a0 73) (((64 : Int32) * a2) + u5.1).toNatClampNeg ((rd_I u5.2 (rd_R u5.2 a0 73) (((64 : Int32) * a2) + u5.1).toNatClampNeg) + (1 : Int32))) (rd_R (wr_I u5.2 (rd_R u5.2 a0 73) (((64 : Int32) * a2) + u5.1).toNatClampNeg ((rd_I u5.2 (rd_R u5.2 a0 73) (((64 : Int32) * a2) + u5.1).toNatClampNeg) + (1 : Int32))) a0 74) (((64 : Int32) * a2) + u5.1).toNatClampNeg) + (rd_I (wr_I u5.2 (rd_R u5.2 a0 73) (((64 : Int32) * a2) + u5.1).toNatClampNeg ((rd_I u5.2 (rd_R u5.2 a0 73) (((64 : Int32) * a2) + u5.1).toNatClampNeg) + (1 : Int32))) (rd_R (wr_I u5.2 (rd_R u5.2 a0 73) (((64 : Int32) * a2) + u5.1).toNatClampNeg ((rd_I u5.2 (rd_R u5.2 a0 73) (((64 : Int32) * a2) + u5.1).toNatClampNeg) + (1 : Int32))) a0 58) (((241 : Int32) * a2) + a3).toNatClampNeg)))) (ob := [sw_ok u5.2 a0 12, sw_ar u5.2 (rd_R u5.2 a0 73) 13 (((64 : Int32) * a2) + u5.1), sw_ar u5.2 (rd_R u5.2 a0 73) 13 (((64 : Int32) * a2) + u5.1), sw_ok (wr_I u5.2 (rd_R u5.2 a0 73) (((64 : Int32) * a2) + u5.1).toNatClampNeg ((rd_I u5.2 (rd_R u5.2 a0 73) (((64 : Int32) * a2) + u5.1).toNatClampNeg) + (1 : Int32))) a0 12, sw_ar (wr_I u5.2 (rd_R u5.2 a0 73) (((64 : Int32) * a2) + u5.1).toNatClampNeg ((rd_I u5.2 (rd_R u5.2 a0 73) (((64 : Int32) * a2) + u5.1).toNatClampNeg) + (1 : Int32))) (rd_R (wr_I u5.2 (rd_R u5.2 a0 73) (((64 : Int32) * a2) + u5.1).toNatClampNeg ((rd_I u5.2 (rd_R u5.2 a0 73) (((64 : Int32) * a2) + u5.1).toNatClampNeg) + (1 : Int32))) a0 74) 13 (((64 : Int32) * a2) + u5.1), sw_ok (wr_I u5.2 (rd_R u5.2 a0 73) (((64 : Int32) * a2) + u5.1).toNatClampNeg ((rd_I u5.2 (rd_R u5.2 a0 73) (((64 : Int32) * a2) + u5.1).toNatClampNeg) + (1 : Int32))) a0 12, sw_ar (wr_I u5.2 (rd_R u5.2 a0 73) (((64 : Int32) * a2) + u5.1).toNatClampNeg ((rd_I u5.2 (rd_R u5.2 a0 73) (((64 : Int32) * a2) + u5.1).toNatClampNeg) + (1 : Int32))) (rd_R (wr_I u5.2 (rd_R u5.2 a0 73) (((64 : Int32) * a2) + u5.1).toNatClampNeg ((rd_I u5.2 (rd_R u5.2 a0 73) (((64 : Int32) * a2) + u5.1).toNatClampNeg) + (1 : Int32))) a0 58) 13 (((241 : Int32) * a2) + a3), sw_ar (wr_I u5.2 (rd_R u5.2 a0 73) (((64 : Int32) * a2) + u5.1).toNatClampNeg ((rd_I u5.2 (rd_R u5.2 a0 73) (((64 : Int32) * a2) + u5.1).toNatClampNeg) + (1 : Int32))) (rd_R (wr_I u5.2 (rd_R u5.2 a0 73) (((64 : Int32) * a2) + u5.1).toNatClampNeg ((rd_I u5.2 (rd_R u5.2 a0 73) (((64 : Int32) * a2) + u5.1).toNatClampNeg) + (1 : Int32))) a0 74) 13 (((64 : Int32) * a2) + u5.1)]) (pc' := 140) (by decide +kernel) rfl rfl (sw_a1 h6 (sw_a1 h7 (sw_a1 h7 (sw_a1 h6 (sw_a1 h8 (sw_a1 h6 (sw_a1 h9 (sw_a1 h8 sw_a0)))))))) ?_
        exact sf_weak [1, 2, 3] rfl (t_Model_spread_140 hd _ hk36 _ ih hf)
      · refine sf_goto (off := 46) (tgt := 140) (by decide +kernel) (by decide) ?_
        exact sf_weak [1, 2, 3] rfl (t_Model_spread_140 hd _ hk36 _ ih hf)
def f_Model_spread_36 (N : Nat) : Nat → Nat → Int32 → sw_M → Option (sw_M)
  | 0, _, _, _ => none
  | j + 1, a0, a2, M =>
  sw_gd [sw_ok M a0 12] (if (rd_I M a0 50) ≤ a2 then some M
  else f_Model_spread_46 N (f_Model_spread_36 N j) N a0 a2 (1 : Int32) M)
set_option maxRecDepth 10000 in
theorem t_Model_spread_36 {g : sw_G} {d n0 : Nat} (hd : 6 ≤ d) {r : sw_M} {N : Nat} : ∀ (j : Nat) (a0 : Nat) (a2 : Int32) (M : sw_M), f_Model_spread_36 N j a0 a2 M = some r → sw_F g k_Model_spread d n0 none r 36 [(0, .ref a0), (2, .int a2)] [] M := by
  intro j
  induction j with
  | zero =>
    intro a0 a2 M hf
    rw [f_Model_spread_36] at hf
    cases hf
  | succ j ih =>
    intro a0 a2 M hf
    rw [f_Model_spread_36] at hf
    obtain ⟨h1, hf⟩ := sw_gd_1 hf
    refine sf_blk [(.iload_n 2, 0, 0, .null), (.aload_n 0, 0, 0, .null), (.getfield 397, 12, 50, .null)] (lv' := [(0, .ref a0), (2, .int a2)]) (st' := [.int (rd_I M a0 50), .int a2]) (M1 := M) (ob := [sw_ok M a0 12]) (pc' := 41) (by decide +kernel) rfl rfl (sw_a1 h1 sw_a0) ?_
    refine sf_j_ge (off := 111) (tgt := 152) (by decide +kernel) (by decide) hf (fun hc hf => ?_) (fun hc hf => ?_)
    · cases hf
      exact sf_void rfl (by decide +kernel)
    · refine sf_blk [(.iconst (1), 0, 0, .int (1 : Int32)), (.istore_n 3, 0, 0, .null)] (lv' := [(3, .int (1 : Int32)), (0, .ref a0), (2, .int a2)]) (st' := []) (M1 := M) (ob := []) (pc' := 46) (by decide +kernel) rfl rfl sw_a0 ?_
      exact sf_weak [1, 2, 0] rfl (t_Model_spread_46 hd _ ih _ _ _ _ _ hf)
def f_Model_spread_7 (N : Nat) : Nat → Nat → Int32 → sw_M → Option (sw_M)
  | 0, _, _, _ => none
  | j + 1, a0, a2, M =>
  if (384 : Int32) ≤ a2 then f_Model_spread_36 N N a0 (0 : Int32) M
  else sw_gd [sw_ok M a0 12] (sw_gd [sw_ar M (rd_R M a0 73) 13 a2] (sw_gd [sw_ar (wr_I M (rd_R M a0 73) a2.toNatClampNeg (0 : Int32)) (rd_R (wr_I M (rd_R M a0 73) a2.toNatClampNeg (0 : Int32)) a0 74) 13 a2] (f_Model_spread_7 N j a0 (a2 + (1 : Int32)) (wr_I (wr_I M (rd_R M a0 73) a2.toNatClampNeg (0 : Int32)) (rd_R (wr_I M (rd_R M a0 73) a2.toNatClampNeg (0 : Int32)) a0 74) a2.toNatClampNeg (0 : Int32)))))
set_option maxRecDepth 10000 in
theorem t_Model_spread_7 {g : sw_G} {d n0 : Nat} (hd : 6 ≤ d) {r : sw_M} {N : Nat} : ∀ (j : Nat) (a0 : Nat) (a2 : Int32) (M : sw_M), f_Model_spread_7 N j a0 a2 M = some r → sw_F g k_Model_spread d n0 none r 7 [(0, .ref a0), (2, .int a2)] [] M := by
  intro j
  induction j with
  | zero =>
    intro a0 a2 M hf
    rw [f_Model_spread_7] at hf
    cases hf
  | succ j ih =>
    intro a0 a2 M hf
    rw [f_Model_spread_7] at hf
    refine sf_blk [(.iload_n 2, 0, 0, .null), (.sipush (384), 0, 0, .int (384 : Int32))] (lv' := [(0, .ref a0), (2, .int a2)]) (st' := [.int (384 : Int32), .int a2]) (M1 := M) (ob := []) (pc' := 11) (by decide +kernel) rfl rfl sw_a0 ?_
    refine sf_j_ge (off := 23) (tgt := 34) (by decide +kernel) (by decide) hf (fun hc hf => ?_) (fun hc hf => ?_)
    · refine sf_blk [(.iconst (0), 0, 0, .int (0 : Int32)), (.istore_n 2, 0, 0, .null)] (lv' := [(2, .int (0 : Int32)), (0, .ref a0)]) (st' := []) (M1 := M) (ob := []) (pc' := 36) (by decide +kernel) rfl rfl sw_a0 ?_
      exact sf_weak [1, 0] rfl (t_Model_spread_36 hd _ _ _ _ hf)
    · obtain ⟨h1, hf⟩ := sw_gd_1 hf
      obtain ⟨h2, hf⟩ := sw_gd_1 hf
      obtain ⟨h3, hf⟩ := sw_gd_1 hf
      refine sf_blk [(.aload_n 0, 0, 0, .null), (.getfield 121, 12, 73, .null), (.iload_n 2, 0, 0, .null), (.iconst (0), 0, 0, .int (0 : Int32)), (.iastore, 0, 0, .null), (.aload_n 0, 0, 0, .null), (.getfield 124, 12, 74, .null), (.iload_n 2, 0, 0, .null), (.iconst (0), 0, 0, .int (0 : Int32)), (.iastore, 0, 0, .null), (.iinc 2 (1), 0, 0, .int (1 : Int32))] (lv' := [(2, .int (a2 + (1 : Int32))), (0, .ref a0)]) (st' := []) (M1 := (wr_I (wr_I M (rd_R M a0 73) a2.toNatClampNeg (0 : Int32)) (rd_R (wr_I M (rd_R M a0 73) a2.toNatClampNeg (0 : Int32)) a0 74) a2.toNatClampNeg (0 : Int32))) (ob := [sw_ok M a0 12, sw_ar M (rd_R M a0 73) 13 a2, sw_ok (wr_I M (rd_R M a0 73) a2.toNatClampNeg (0 : Int32)) a0 12, sw_ar (wr_I M (rd_R M a0 73) a2.toNatClampNeg (0 : Int32)) (rd_R (wr_I M (rd_R M a0 73) a2.toNatClampNeg (0 : Int32)) a0 74) 13 a2]) (pc' := 31) (by decide +kernel) rfl rfl (sw_a1 h1 (sw_a1 h2 (sw_a1 h1 (sw_a1 h3 sw_a0)))) ?_
      refine sf_goto (off := -24) (tgt := 7) (by decide +kernel) (by decide) ?_
      exact sf_weak [1, 0] rfl (ih _ _ _ hf)
def f_Model_spread (N : Nat) (a0 : Nat) (a1 : Int32) (M : sw_M) : Option (sw_M) :=
  sw_gd [sw_ok M a0 12] ((f_Model_goAll N a0 a1 M).bind (fun u2 => f_Model_spread_7 N N a0 (0 : Int32) u2))
set_option maxRecDepth 10000 in
theorem t_Model_spread {g : sw_G} {d n0 : Nat} (hd : 6 ≤ d) {r : sw_M} {N : Nat} {a0 : Nat} {a1 : Int32} {M : sw_M} (hf : f_Model_spread N a0 a1 M = some r) : sw_F g k_Model_spread d n0 none r 0 [(0, .ref a0), (1, .int a1)] [] M := by
  unfold f_Model_spread at hf
  obtain ⟨h1, hf⟩ := sw_gd_1 hf
  refine sf_blk [(.aload_n 0, 0, 0, .null), (.iload_n 1, 0, 0, .null)] (lv' := [(0, .ref a0), (1, .int a1)]) (st' := [.int a1, .ref a0]) (M1 := M) (ob := []) (pc' := 2) (by decide +kernel) rfl rfl sw_a0 ?_
  obtain ⟨u2, hu2, hf⟩ := sw_bnd hf
  refine sf_callV (i := 444) (k2 := k_Model_goAll) (d2 := d - 1) (As := [.int a1]) (st := []) (q := a0) (ci := 12) mf_Model_goAll mi_Model_goAll ms_Model_goAll (sw_m7 187 (by decide +kernel)) rfl (by decide) (by decide +kernel) rfl (Nat.le_of_ble_eq_true rfl) (by omega) h1 (o_Model_goAll g (d := d - 1) (by omega) hu2) ?_
  show sw_F _ _ _ _ _ _ 5 [(0, .ref a0), (1, .int a1)] [] u2
  refine sf_blk [(.iconst (0), 0, 0, .int (0 : Int32)), (.istore_n 2, 0, 0, .null)] (lv' := [(2, .int (0 : Int32)), (0, .ref a0), (1, .int a1)]) (st' := []) (M1 := u2) (ob := []) (pc' := 7) (by decide +kernel) rfl rfl sw_a0 ?_
  exact sf_weak [1, 0] rfl (t_Model_spread_7 hd _ _ _ _ hf)
theorem o_Model_spread (g : sw_G) {d : Nat} (hd : 6 ≤ d) {N : Nat} {a0 : Nat} {a1 : Int32} {M : sw_M} {r : sw_M} (hf : f_Model_spread N a0 a1 M = some r) : sw_Ok g k_Model_spread d [.ref a0, .int a1] M none r := sf_met (by decide +kernel) rfl (by decide) (Nat.le_of_ble_eq_true rfl) (t_Model_spread hd hf)
def f_Model_share (N : Nat) (a0 : Nat) (a1 : Int32) (a2 : Int32) (a3 : Int32) (M : sw_M) : Option (Int32 × sw_M) :=
  sw_gd [sw_ok M a0 12] ((f_Model_isOrbit N a0 a1 (wr_I M a0 0 (0 : Int32))).bind (fun u2 => if u2.1 = 0 then some ((-2147483648 : Int32), u2.2)
  else if a2 < 0 then some ((-2147483648 : Int32), u2.2)
  else if (63 : Int32) < a2 then some ((-2147483648 : Int32), u2.2)
  else if a3 < 0 then some ((-2147483648 : Int32), u2.2)
  else if a3 ≤ (1 : Int32) then sw_gd [sw_ok u2.2 a0 12] ((f_Model_spread N a0 (rd_I u2.2 a0 15) u2.2).bind (fun u4 => if a3 = 0 then sw_gd [sw_ok u4 a0 12] (sw_gd [sw_ar u4 (rd_R u4 a0 73) 13 (((64 : Int32) * a1) + a2)] (some ((rd_I u4 (rd_R u4 a0 73) (((64 : Int32) * a1) + a2).toNatClampNeg), u4)))
  else sw_gd [sw_ok u4 a0 12] (sw_gd [sw_ar u4 (rd_R u4 a0 74) 13 (((64 : Int32) * a1) + a2)] (some ((rd_I u4 (rd_R u4 a0 74) (((64 : Int32) * a1) + a2).toNatClampNeg), u4)))))
  else some ((-2147483648 : Int32), u2.2)))
set_option maxRecDepth 10000 in
theorem t_Model_share {g : sw_G} {d n0 : Nat} (hd : 7 ≤ d) {r : Int32 × sw_M} {N : Nat} {a0 : Nat} {a1 : Int32} {a2 : Int32} {a3 : Int32} {M : sw_M} (hf : f_Model_share N a0 a1 a2 a3 M = some r) : sw_F g k_Model_share d n0 (some (.int r.1)) r.2 0 [(0, .ref a0), (1, .int a1), (2, .int a2), (3, .int a3)] [] M := by
  unfold f_Model_share at hf
  obtain ⟨h1, hf⟩ := sw_gd_1 hf
  refine sf_blk [(.aload_n 0, 0, 0, .null), (.iconst (0), 0, 0, .int (0 : Int32)), (.putfield 166, 12, 0, .null), (.aload_n 0, 0, 0, .null), (.iload_n 1, 0, 0, .null)] (lv' := [(0, .ref a0), (1, .int a1), (2, .int a2), (3, .int a3)]) (st' := [.int a1, .ref a0]) (M1 := (wr_I M a0 0 (0 : Int32))) (ob := [sw_ok M a0 12]) (pc' := 7) (by decide +kernel) rfl rfl (sw_a1 h1 sw_a0) ?_
  obtain ⟨u2, hu2, hf⟩ := sw_bnd hf
  refine sf_callV (i := 439) (k2 := k_Model_isOrbit) (d2 := d - 1) (As := [.int a1]) (st := []) (q := a0) (ci := 12) mf_Model_isOrbit mi_Model_isOrbit ms_Model_isOrbit (sw_m7 182 (by decide +kernel)) rfl (by decide) (by decide +kernel) rfl (Nat.le_of_ble_eq_true rfl) (by omega) h1 (o_Model_isOrbit g (d := d - 1) (by omega) hu2) ?_
  show sw_F _ _ _ _ _ _ 10 [(0, .ref a0), (1, .int a1), (2, .int a2), (3, .int a3)] [.int u2.1] u2.2
  refine sf_z_eq (off := 22) (tgt := 32) (by decide +kernel) (by decide) hf (fun hc hf => ?_) (fun hc hf => ?_)
  · refine sf_blk [(.ldc_w 337, 0, 0, .int (-2147483648 : Int32))] (lv' := [(0, .ref a0), (1, .int a1), (2, .int a2), (3, .int a3)]) (st' := [.int (-2147483648 : Int32)]) (M1 := u2.2) (ob := []) (pc' := 35) (by decide +kernel) rfl rfl sw_a0 ?_
    cases hf
    exact sf_int rfl (by decide +kernel)
  · refine sf_blk [(.iload_n 2, 0, 0, .null)] (lv' := [(0, .ref a0), (1, .int a1), (2, .int a2), (3, .int a3)]) (st' := [.int a2]) (M1 := u2.2) (ob := []) (pc' := 14) (by decide +kernel) rfl rfl sw_a0 ?_
    refine sf_z_lt (off := 18) (tgt := 32) (by decide +kernel) (by decide) hf (fun hc hf => ?_) (fun hc hf => ?_)
    · refine sf_blk [(.ldc_w 337, 0, 0, .int (-2147483648 : Int32))] (lv' := [(0, .ref a0), (1, .int a1), (2, .int a2), (3, .int a3)]) (st' := [.int (-2147483648 : Int32)]) (M1 := u2.2) (ob := []) (pc' := 35) (by decide +kernel) rfl rfl sw_a0 ?_
      cases hf
      exact sf_int rfl (by decide +kernel)
    · refine sf_blk [(.iload_n 2, 0, 0, .null), (.bipush (63), 0, 0, .int (63 : Int32))] (lv' := [(0, .ref a0), (1, .int a1), (2, .int a2), (3, .int a3)]) (st' := [.int (63 : Int32), .int a2]) (M1 := u2.2) (ob := []) (pc' := 20) (by decide +kernel) rfl rfl sw_a0 ?_
      refine sf_j_gt (off := 12) (tgt := 32) (by decide +kernel) (by decide) hf (fun hc hf => ?_) (fun hc hf => ?_)
      · refine sf_blk [(.ldc_w 337, 0, 0, .int (-2147483648 : Int32))] (lv' := [(0, .ref a0), (1, .int a1), (2, .int a2), (3, .int a3)]) (st' := [.int (-2147483648 : Int32)]) (M1 := u2.2) (ob := []) (pc' := 35) (by decide +kernel) rfl rfl sw_a0 ?_
        cases hf
        exact sf_int rfl (by decide +kernel)
      · refine sf_blk [(.iload_n 3, 0, 0, .null)] (lv' := [(0, .ref a0), (1, .int a1), (2, .int a2), (3, .int a3)]) (st' := [.int a3]) (M1 := u2.2) (ob := []) (pc' := 24) (by decide +kernel) rfl rfl sw_a0 ?_
        refine sf_z_lt (off := 8) (tgt := 32) (by decide +kernel) (by decide) hf (fun hc hf => ?_) (fun hc hf => ?_)
        · refine sf_blk [(.ldc_w 337, 0, 0, .int (-2147483648 : Int32))] (lv' := [(0, .ref a0), (1, .int a1), (2, .int a2), (3, .int a3)]) (st' := [.int (-2147483648 : Int32)]) (M1 := u2.2) (ob := []) (pc' := 35) (by decide +kernel) rfl rfl sw_a0 ?_
          cases hf
          exact sf_int rfl (by decide +kernel)
        · refine sf_blk [(.iload_n 3, 0, 0, .null), (.iconst (1), 0, 0, .int (1 : Int32))] (lv' := [(0, .ref a0), (1, .int a1), (2, .int a2), (3, .int a3)]) (st' := [.int (1 : Int32), .int a3]) (M1 := u2.2) (ob := []) (pc' := 29) (by decide +kernel) rfl rfl sw_a0 ?_
          refine sf_j_le (off := 7) (tgt := 36) (by decide +kernel) (by decide) hf (fun hc hf => ?_) (fun hc hf => ?_)
          · obtain ⟨h3, hf⟩ := sw_gd_1 hf
            refine sf_blk [(.aload_n 0, 0, 0, .null), (.aload_n 0, 0, 0, .null), (.getfield 305, 12, 15, .null)] (lv' := [(0, .ref a0), (1, .int a1), (2, .int a2), (3, .int a3)]) (st' := [.int (rd_I u2.2 a0 15), .ref a0]) (M1 := u2.2) (ob := [sw_ok u2.2 a0 12]) (pc' := 41) (by decide +kernel) rfl rfl (sw_a1 h3 sw_a0) ?_
            obtain ⟨u4, hu4, hf⟩ := sw_bnd hf
            refine sf_callV (i := 459) (k2 := k_Model_spread) (d2 := d - 1) (As := [.int (rd_I u2.2 a0 15)]) (st := []) (q := a0) (ci := 12) mf_Model_spread mi_Model_spread ms_Model_spread (sw_m8 20 (by decide +kernel)) rfl (by decide) (by decide +kernel) rfl (Nat.le_of_ble_eq_true rfl) (by omega) h3 (o_Model_spread g (d := d - 1) (by omega) hu4) ?_
            show sw_F _ _ _ _ _ _ 44 [(0, .ref a0), (1, .int a1), (2, .int a2), (3, .int a3)] [] u4
            refine sf_blk [(.iload_n 3, 0, 0, .null)] (lv' := [(0, .ref a0), (1, .int a1), (2, .int a2), (3, .int a3)]) (st' := [.int a3]) (M1 := u4) (ob := []) (pc' := 45) (by decide +kernel) rfl rfl sw_a0 ?_
            refine sf_z_ne (off := 17) (tgt := 62) (by decide +kernel) (by decide) hf (fun hc hf => ?_) (fun hc hf => ?_)
            · obtain ⟨h5, hf⟩ := sw_gd_1 hf
              obtain ⟨h6, hf⟩ := sw_gd_1 hf
              refine sf_blk [(.aload_n 0, 0, 0, .null), (.getfield 124, 12, 74, .null), (.bipush (64), 0, 0, .int (64 : Int32)), (.iload_n 1, 0, 0, .null), (.imul, 0, 0, .null), (.iload_n 2, 0, 0, .null), (.iadd, 0, 0, .null), (.iaload, 0, 0, .null)] (lv' := [(0, .ref a0), (1, .int a1), (2, .int a2), (3, .int a3)]) (st' := [.int (rd_I u4 (rd_R u4 a0 74) (((64 : Int32) * a1) + a2).toNatClampNeg)]) (M1 := u4) (ob := [sw_ok u4 a0 12, sw_ar u4 (rd_R u4 a0 74) 13 (((64 : Int32) * a1) + a2)]) (pc' := 73) (by decide +kernel) rfl rfl (sw_a1 h5 (sw_a1 h6 sw_a0)) ?_
              cases hf
              exact sf_int rfl (by decide +kernel)
            · obtain ⟨h7, hf⟩ := sw_gd_1 hf
              obtain ⟨h8, hf⟩ := sw_gd_1 hf
              refine sf_blk [(.aload_n 0, 0, 0, .null), (.getfield 121, 12, 73, .null), (.bipush (64), 0, 0, .int (64 : Int32)), (.iload_n 1, 0, 0, .null), (.imul, 0, 0, .null), (.iload_n 2, 0, 0, .null), (.iadd, 0, 0, .null), (.iaload, 0, 0, .null)] (lv' := [(0, .ref a0), (1, .int a1), (2, .int a2), (3, .int a3)]) (st' := [.int (rd_I u4 (rd_R u4 a0 73) (((64 : Int32) * a1) + a2).toNatClampNeg)]) (M1 := u4) (ob := [sw_ok u4 a0 12, sw_ar u4 (rd_R u4 a0 73) 13 (((64 : Int32) * a1) + a2)]) (pc' := 59) (by decide +kernel) rfl rfl (sw_a1 h7 (sw_a1 h8 sw_a0)) ?_
              refine sf_goto (off := 14) (tgt := 73) (by decide +kernel) (by decide) ?_
              cases hf
              exact sf_int rfl (by decide +kernel)
          · refine sf_blk [(.ldc_w 337, 0, 0, .int (-2147483648 : Int32))] (lv' := [(0, .ref a0), (1, .int a1), (2, .int a2), (3, .int a3)]) (st' := [.int (-2147483648 : Int32)]) (M1 := u2.2) (ob := []) (pc' := 35) (by decide +kernel) rfl rfl sw_a0 ?_
            cases hf
            exact sf_int rfl (by decide +kernel)
theorem o_Model_share (g : sw_G) {d : Nat} (hd : 7 ≤ d) {N : Nat} {a0 : Nat} {a1 : Int32} {a2 : Int32} {a3 : Int32} {M : sw_M} {r : Int32 × sw_M} (hf : f_Model_share N a0 a1 a2 a3 M = some r) : sw_Ok g k_Model_share d [.ref a0, .int a1, .int a2, .int a3] M (some (.int r.1)) r.2 := sf_met (by decide +kernel) rfl (by decide) (Nat.le_of_ble_eq_true rfl) (t_Model_share hd hf)
def f_Model_portions (N : Nat) (a0 : Nat) (a1 : Int32) (M : sw_M) : Option (Int32 × sw_M) :=
  sw_gd [sw_ok M a0 12] (if a1 < (1 : Int32) then some ((0 : Int32), (wr_I M a0 0 (0 : Int32)))
  else if a1 ≤ (10 : Int32) then some ((1 : Int32), (wr_I (wr_I M a0 0 (0 : Int32)) a0 75 a1))
  else some ((0 : Int32), (wr_I M a0 0 (0 : Int32))))
set_option maxRecDepth 10000 in
theorem t_Model_portions {g : sw_G} {d n0 : Nat} (hd : 1 ≤ d) {r : Int32 × sw_M} {N : Nat} {a0 : Nat} {a1 : Int32} {M : sw_M} (hf : f_Model_portions N a0 a1 M = some r) : sw_F g k_Model_portions d n0 (some (.int r.1)) r.2 0 [(0, .ref a0), (1, .int a1)] [] M := by
  unfold f_Model_portions at hf
  obtain ⟨h1, hf⟩ := sw_gd_1 hf
  refine sf_blk [(.aload_n 0, 0, 0, .null), (.iconst (0), 0, 0, .int (0 : Int32)), (.putfield 166, 12, 0, .null), (.iload_n 1, 0, 0, .null), (.iconst (1), 0, 0, .int (1 : Int32))] (lv' := [(0, .ref a0), (1, .int a1)]) (st' := [.int (1 : Int32), .int a1]) (M1 := (wr_I M a0 0 (0 : Int32))) (ob := [sw_ok M a0 12]) (pc' := 7) (by decide +kernel) rfl rfl (sw_a1 h1 sw_a0) ?_
  refine sf_j_lt (off := 9) (tgt := 16) (by decide +kernel) (by decide) hf (fun hc hf => ?_) (fun hc hf => ?_)
  · refine sf_blk [(.iconst (0), 0, 0, .int (0 : Int32))] (lv' := [(0, .ref a0), (1, .int a1)]) (st' := [.int (0 : Int32)]) (M1 := (wr_I M a0 0 (0 : Int32))) (ob := []) (pc' := 17) (by decide +kernel) rfl rfl sw_a0 ?_
    cases hf
    exact sf_bool rfl rfl (by decide +kernel)
  · refine sf_blk [(.iload_n 1, 0, 0, .null), (.bipush (10), 0, 0, .int (10 : Int32))] (lv' := [(0, .ref a0), (1, .int a1)]) (st' := [.int (10 : Int32), .int a1]) (M1 := (wr_I M a0 0 (0 : Int32))) (ob := []) (pc' := 13) (by decide +kernel) rfl rfl sw_a0 ?_
    refine sf_j_le (off := 5) (tgt := 18) (by decide +kernel) (by decide) hf (fun hc hf => ?_) (fun hc hf => ?_)
    · refine sf_blk [(.aload_n 0, 0, 0, .null), (.iload_n 1, 0, 0, .null), (.putfield 127, 12, 75, .null), (.iconst (1), 0, 0, .int (1 : Int32))] (lv' := [(0, .ref a0), (1, .int a1)]) (st' := [.int (1 : Int32)]) (M1 := (wr_I (wr_I M a0 0 (0 : Int32)) a0 75 a1)) (ob := [sw_ok (wr_I M a0 0 (0 : Int32)) a0 12]) (pc' := 24) (by decide +kernel) rfl rfl (sw_a1 h1 sw_a0) ?_
      cases hf
      exact sf_bool rfl rfl (by decide +kernel)
    · refine sf_blk [(.iconst (0), 0, 0, .int (0 : Int32))] (lv' := [(0, .ref a0), (1, .int a1)]) (st' := [.int (0 : Int32)]) (M1 := (wr_I M a0 0 (0 : Int32))) (ob := []) (pc' := 17) (by decide +kernel) rfl rfl sw_a0 ?_
      cases hf
      exact sf_bool rfl rfl (by decide +kernel)
theorem o_Model_portions (g : sw_G) {d : Nat} (hd : 1 ≤ d) {N : Nat} {a0 : Nat} {a1 : Int32} {M : sw_M} {r : Int32 × sw_M} (hf : f_Model_portions N a0 a1 M = some r) : sw_Ok g k_Model_portions d [.ref a0, .int a1] M (some (.int r.1)) r.2 := sf_met (by decide +kernel) rfl (by decide) (Nat.le_of_ble_eq_true rfl) (t_Model_portions hd hf)
def f_Model_sight_122 (N : Nat) (a0 : Nat) (a4 : Int32) (M : sw_M) : Option (Int32 × sw_M) :=
  sw_gd [sw_ok M a0 12] (sw_gd [sw_ar M (rd_R M a0 81) 13 (rd_I M a0 76)] (some (((rd_I (wr_I (wr_I M (rd_R M a0 81) (rd_I M a0 76).toNatClampNeg a4) a0 76 ((rd_I (wr_I M (rd_R M a0 81) (rd_I M a0 76).toNatClampNeg a4) a0 76) + (1 : Int32))) a0 76) - (1 : Int32)), (wr_I (wr_I M (rd_R M a0 81) (rd_I M a0 76).toNatClampNeg a4) a0 76 ((rd_I (wr_I M (rd_R M a0 81) (rd_I M a0 76).toNatClampNeg a4) a0 76) + (1 : Int32))))))
set_option maxRecDepth 10000 in
theorem t_Model_sight_122 {g : sw_G} {d n0 : Nat} (hd : 1 ≤ d) {r : Int32 × sw_M} {N : Nat} {a0 : Nat} {a4 : Int32} {M : sw_M} (hf : f_Model_sight_122 N a0 a4 M = some r) : sw_F g k_Model_sight d n0 (some (.int r.1)) r.2 122 [(0, .ref a0), (4, .int a4)] [] M := by
  unfold f_Model_sight_122 at hf
  obtain ⟨h1, hf⟩ := sw_gd_1 hf
  obtain ⟨h2, hf⟩ := sw_gd_1 hf
  refine sf_blk [(.aload_n 0, 0, 0, .null), (.getfield 142, 12, 81, .null), (.aload_n 0, 0, 0, .null), (.getfield 462, 12, 76, .null), (.iload 4, 0, 0, .null), (.iastore, 0, 0, .null), (.aload_n 0, 0, 0, .null), (.dup, 0, 0, .null), (.getfield 462, 12, 76, .null), (.iconst (1), 0, 0, .int (1 : Int32)), (.iadd, 0, 0, .null), (.putfield 462, 12, 76, .null), (.aload_n 0, 0, 0, .null), (.getfield 462, 12, 76, .null), (.iconst (1), 0, 0, .int (1 : Int32)), (.isub, 0, 0, .null)] (lv' := [(0, .ref a0), (4, .int a4)]) (st' := [.int ((rd_I (wr_I (wr_I M (rd_R M a0 81) (rd_I M a0 76).toNatClampNeg a4) a0 76 ((rd_I (wr_I M (rd_R M a0 81) (rd_I M a0 76).toNatClampNeg a4) a0 76) + (1 : Int32))) a0 76) - (1 : Int32))]) (M1 := (wr_I (wr_I M (rd_R M a0 81) (rd_I M a0 76).toNatClampNeg a4) a0 76 ((rd_I (wr_I M (rd_R M a0 81) (rd_I M a0 76).toNatClampNeg a4) a0 76) + (1 : Int32)))) (ob := [sw_ok M a0 12, sw_ok M a0 12, sw_ar M (rd_R M a0 81) 13 (rd_I M a0 76), sw_ok (wr_I M (rd_R M a0 81) (rd_I M a0 76).toNatClampNeg a4) a0 12, sw_ok (wr_I M (rd_R M a0 81) (rd_I M a0 76).toNatClampNeg a4) a0 12, sw_ok (wr_I (wr_I M (rd_R M a0 81) (rd_I M a0 76).toNatClampNeg a4) a0 76 ((rd_I (wr_I M (rd_R M a0 81) (rd_I M a0 76).toNatClampNeg a4) a0 76) + (1 : Int32))) a0 12]) (pc' := 149) (by decide +kernel) rfl rfl (sw_a1 h1 (sw_a1 h1 (sw_a1 h2 (sw_a1 h1 (sw_a1 h1 (sw_a1 h1 sw_a0)))))) ?_
  cases hf
  exact sf_int rfl (by decide +kernel)
def f_Model_sight_31 (N : Nat) (a0 : Nat) (a1 : Int32) (a2 : Int32) (a3 : Int32) (a4 : Int32) (a5 : Int32) (b0 : Int32) (M : sw_M) : Option (Int32 × sw_M) :=
  if a1 < 0 then some ((-1 : Int32), M)
  else if (1 : Int32) < a1 then some ((-1 : Int32), M)
  else if a2 < 0 then some ((-1 : Int32), M)
  else if (63 : Int32) < a2 then some ((-1 : Int32), M)
  else if a3 < a5 then some ((-1 : Int32), M)
  else if a4 < a3 then some ((-1 : Int32), M)
  else if b0 < a4 then some ((-1 : Int32), M)
  else sw_gd [sw_ok M a0 12] (if (rd_I M a0 76) = (10 : Int32) then some ((-1 : Int32), M)
  else sw_gd [(sw_ar M (rd_R M a0 77) 14 (rd_I M a0 76) && decide ((0 : Int32).toInt8.toInt32 = (0 : Int32))) || (sw_ar M (rd_R M a0 77) 15 (rd_I M a0 76) && sw_bz (0 : Int32))] (sw_gd [sw_ar (wr_I M (rd_R M a0 77) (rd_I M a0 76).toNatClampNeg (0 : Int32)) (rd_R (wr_I M (rd_R M a0 77) (rd_I M a0 76).toNatClampNeg (0 : Int32)) a0 78) 13 (rd_I (wr_I M (rd_R M a0 77) (rd_I M a0 76).toNatClampNeg (0 : Int32)) a0 76)] (sw_gd [sw_ar (wr_I (wr_I M (rd_R M a0 77) (rd_I M a0 76).toNatClampNeg (0 : Int32)) (rd_R (wr_I M (rd_R M a0 77) (rd_I M a0 76).toNatClampNeg (0 : Int32)) a0 78) (rd_I (wr_I M (rd_R M a0 77) (rd_I M a0 76).toNatClampNeg (0 : Int32)) a0 76).toNatClampNeg a1) (rd_R (wr_I (wr_I M (rd_R M a0 77) (rd_I M a0 76).toNatClampNeg (0 : Int32)) (rd_R (wr_I M (rd_R M a0 77) (rd_I M a0 76).toNatClampNeg (0 : Int32)) a0 78) (rd_I (wr_I M (rd_R M a0 77) (rd_I M a0 76).toNatClampNeg (0 : Int32)) a0 76).toNatClampNeg a1) a0 79) 13 (rd_I (wr_I (wr_I M (rd_R M a0 77) (rd_I M a0 76).toNatClampNeg (0 : Int32)) (rd_R (wr_I M (rd_R M a0 77) (rd_I M a0 76).toNatClampNeg (0 : Int32)) a0 78) (rd_I (wr_I M (rd_R M a0 77) (rd_I M a0 76).toNatClampNeg (0 : Int32)) a0 76).toNatClampNeg a1) a0 76)] (sw_gd [sw_ar (wr_I (wr_I (wr_I M (rd_R M a0 77) (rd_I M a0 76).toNatClampNeg (0 : Int32)) (rd_R (wr_I M (rd_R M a0 77) (rd_I M a0 76).toNatClampNeg (0 : Int32)) a0 78) (rd_I (wr_I M (rd_R M a0 77) (rd_I M a0 76).toNatClampNeg (0 : Int32)) a0 76).toNatClampNeg a1) (rd_R (wr_I (wr_I M (rd_R M a0 77) (rd_I M a0 76).toNatClampNeg (0 : Int32)) (rd_R (wr_I M (rd_R M a0 77) (rd_I M a0 76).toNatClampNeg (0 : Int32)) a0 78) (rd_I (wr_I M (rd_R M a0 77) (rd_I M a0 76).toNatClampNeg (0 : Int32)) a0 76).toNatClampNeg a1) a0 79) (rd_I (wr_I (wr_I M (rd_R M a0 77) (rd_I M a0 76).toNatClampNeg (0 : Int32)) (rd_R (wr_I M (rd_R M a0 77) (rd_I M a0 76).toNatClampNeg (0 : Int32)) a0 78) (rd_I (wr_I M (rd_R M a0 77) (rd_I M a0 76).toNatClampNeg (0 : Int32)) a0 76).toNatClampNeg a1) a0 76).toNatClampNeg a2) (rd_R (wr_I (wr_I (wr_I M (rd_R M a0 77) (rd_I M a0 76).toNatClampNeg (0 : Int32)) (rd_R (wr_I M (rd_R M a0 77) (rd_I M a0 76).toNatClampNeg (0 : Int32)) a0 78) (rd_I (wr_I M (rd_R M a0 77) (rd_I M a0 76).toNatClampNeg (0 : Int32)) a0 76).toNatClampNeg a1) (rd_R (wr_I (wr_I M (rd_R M a0 77) (rd_I M a0 76).toNatClampNeg (0 : Int32)) (rd_R (wr_I M (rd_R M a0 77) (rd_I M a0 76).toNatClampNeg (0 : Int32)) a0 78) (rd_I (wr_I M (rd_R M a0 77) (rd_I M a0 76).toNatClampNeg (0 : Int32)) a0 76).toNatClampNeg a1) a0 79) (rd_I (wr_I (wr_I M (rd_R M a0 77) (rd_I M a0 76).toNatClampNeg (0 : Int32)) (rd_R (wr_I M (rd_R M a0 77) (rd_I M a0 76).toNatClampNeg (0 : Int32)) a0 78) (rd_I (wr_I M (rd_R M a0 77) (rd_I M a0 76).toNatClampNeg (0 : Int32)) a0 76).toNatClampNeg a1) a0 76).toNatClampNeg a2) a0 80) 13 (rd_I (wr_I (wr_I (wr_I M (rd_R M a0 77) (rd_I M a0 76).toNatClampNeg (0 : Int32)) (rd_R (wr_I M (rd_R M a0 77) (rd_I M a0 76).toNatClampNeg (0 : Int32)) a0 78) (rd_I (wr_I M (rd_R M a0 77) (rd_I M a0 76).toNatClampNeg (0 : Int32)) a0 76).toNatClampNeg a1) (rd_R (wr_I (wr_I M (rd_R M a0 77) (rd_I M a0 76).toNatClampNeg (0 : Int32)) (rd_R (wr_I M (rd_R M a0 77) (rd_I M a0 76).toNatClampNeg (0 : Int32)) a0 78) (rd_I (wr_I M (rd_R M a0 77) (rd_I M a0 76).toNatClampNeg (0 : Int32)) a0 76).toNatClampNeg a1) a0 79) (rd_I (wr_I (wr_I M (rd_R M a0 77) (rd_I M a0 76).toNatClampNeg (0 : Int32)) (rd_R (wr_I M (rd_R M a0 77) (rd_I M a0 76).toNatClampNeg (0 : Int32)) a0 78) (rd_I (wr_I M (rd_R M a0 77) (rd_I M a0 76).toNatClampNeg (0 : Int32)) a0 76).toNatClampNeg a1) a0 76).toNatClampNeg a2) a0 76)] (f_Model_sight_122 N a0 a4 (wr_I (wr_I (wr_I (wr_I M (rd_R M a0 77) (rd_I M a0 76).toNatClampNeg (0 : Int32)) (rd_R (wr_I M (rd_R M a0 77) (rd_I M a0 76).toNatClampNeg (0 : Int32)) a0 78) (rd_I (wr_I M (rd_R M a0 77) (rd_I M a0 76).toNatClampNeg (0 : Int32)) a0 76).toNatClampNeg a1) (rd_R (wr_I (wr_I M (rd_R M a0 77) (rd_I M a0 76).toNatClampNeg (0 : Int32)) (rd_R (wr_I M (rd_R M a0 77) (rd_I M a0 76).toNatClampNeg (0 : Int32)) a0 78) (rd_I (wr_I M (rd_R M a0 77) (rd_I M a0 76).toNatClampNeg (0 : Int32)) a0 76).toNatClampNeg a1) a0 79) (rd_I (wr_I (wr_I M (rd_R M a0 77) (rd_I M a0 76).toNatClampNeg (0 : Int32)) (rd_R (wr_I M (rd_R M a0 77) (rd_I M a0 76).toNatClampNeg (0 : Int32)) a0 78) (rd_I (wr_I M (rd_R M a0 77) (rd_I M a0 76).toNatClampNeg (0 : Int32)) a0 76).toNatClampNeg a1) a0 76).toNatClampNeg a2) (rd_R (wr_I (wr_I (wr_I M (rd_R M a0 77) (rd_I M a0 76).toNatClampNeg (0 : Int32)) (rd_R (wr_I M (rd_R M a0 77) (rd_I M a0 76).toNatClampNeg (0 : Int32)) a0 78) (rd_I (wr_I M (rd_R M a0 77) (rd_I M a0 76).toNatClampNeg (0 : Int32)) a0 76).toNatClampNeg a1) (rd_R (wr_I (wr_I M (rd_R M a0 77) (rd_I M a0 76).toNatClampNeg (0 : Int32)) (rd_R (wr_I M (rd_R M a0 77) (rd_I M a0 76).toNatClampNeg (0 : Int32)) a0 78) (rd_I (wr_I M (rd_R M a0 77) (rd_I M a0 76).toNatClampNeg (0 : Int32)) a0 76).toNatClampNeg a1) a0 79) (rd_I (wr_I (wr_I M (rd_R M a0 77) (rd_I M a0 76).toNatClampNeg (0 : Int32)) (rd_R (wr_I M (rd_R M a0 77) (rd_I M a0 76).toNatClampNeg (0 : Int32)) a0 78) (rd_I (wr_I M (rd_R M a0 77) (rd_I M a0 76).toNatClampNeg (0 : Int32)) a0 76).toNatClampNeg a1) a0 76).toNatClampNeg a2) a0 80) (rd_I (wr_I (wr_I (wr_I M (rd_R M a0 77) (rd_I M a0 76).toNatClampNeg (0 : Int32)) (rd_R (wr_I M (rd_R M a0 77) (rd_I M a0 76).toNatClampNeg (0 : Int32)) a0 78) (rd_I (wr_I M (rd_R M a0 77) (rd_I M a0 76).toNatClampNeg (0 : Int32)) a0 76).toNatClampNeg a1) (rd_R (wr_I (wr_I M (rd_R M a0 77) (rd_I M a0 76).toNatClampNeg (0 : Int32)) (rd_R (wr_I M (rd_R M a0 77) (rd_I M a0 76).toNatClampNeg (0 : Int32)) a0 78) (rd_I (wr_I M (rd_R M a0 77) (rd_I M a0 76).toNatClampNeg (0 : Int32)) a0 76).toNatClampNeg a1) a0 79) (rd_I (wr_I (wr_I M (rd_R M a0 77) (rd_I M a0 76).toNatClampNeg (0 : Int32)) (rd_R (wr_I M (rd_R M a0 77) (rd_I M a0 76).toNatClampNeg (0 : Int32)) a0 78) (rd_I (wr_I M (rd_R M a0 77) (rd_I M a0 76).toNatClampNeg (0 : Int32)) a0 76).toNatClampNeg a1) a0 76).toNatClampNeg a2) a0 76).toNatClampNeg a3))))))
set_option maxRecDepth 10000 in
theorem t_Model_sight_31 {g : sw_G} {d n0 : Nat} (hd : 1 ≤ d) {r : Int32 × sw_M} {N : Nat} {a0 : Nat} {a1 : Int32} {a2 : Int32} {a3 : Int32} {a4 : Int32} {a5 : Int32} {b0 : Int32} {M : sw_M} (hf : f_Model_sight_31 N a0 a1 a2 a3 a4 a5 b0 M = some r) : sw_F g k_Model_sight d n0 (some (.int r.1)) r.2 31 [(0, .ref a0), (1, .int a1), (2, .int a2), (3, .int a3), (4, .int a4), (5, .int a5)] [.int b0] M := by
  unfold f_Model_sight_31 at hf
  refine sf_blk [(.istore 6, 0, 0, .null), (.iload_n 1, 0, 0, .null)] (lv' := [(6, .int b0), (0, .ref a0), (1, .int a1), (2, .int a2), (3, .int a3), (4, .int a4), (5, .int a5)]) (st' := [.int a1]) (M1 := M) (ob := []) (pc' := 34) (by decide +kernel) rfl rfl sw_a0 ?_
  refine sf_z_lt (off := 46) (tgt := 80) (by decide +kernel) (by decide) hf (fun hc hf => ?_) (fun hc hf => ?_)
  · refine sf_blk [(.iconst (-1), 0, 0, .int (-1 : Int32))] (lv' := [(6, .int b0), (0, .ref a0), (1, .int a1), (2, .int a2), (3, .int a3), (4, .int a4), (5, .int a5)]) (st' := [.int (-1 : Int32)]) (M1 := M) (ob := []) (pc' := 81) (by decide +kernel) rfl rfl sw_a0 ?_
    cases hf
    exact sf_int rfl (by decide +kernel)
  · refine sf_blk [(.iload_n 1, 0, 0, .null), (.iconst (1), 0, 0, .int (1 : Int32))] (lv' := [(6, .int b0), (0, .ref a0), (1, .int a1), (2, .int a2), (3, .int a3), (4, .int a4), (5, .int a5)]) (st' := [.int (1 : Int32), .int a1]) (M1 := M) (ob := []) (pc' := 39) (by decide +kernel) rfl rfl sw_a0 ?_
    refine sf_j_gt (off := 41) (tgt := 80) (by decide +kernel) (by decide) hf (fun hc hf => ?_) (fun hc hf => ?_)
    · refine sf_blk [(.iconst (-1), 0, 0, .int (-1 : Int32))] (lv' := [(6, .int b0), (0, .ref a0), (1, .int a1), (2, .int a2), (3, .int a3), (4, .int a4), (5, .int a5)]) (st' := [.int (-1 : Int32)]) (M1 := M) (ob := []) (pc' := 81) (by decide +kernel) rfl rfl sw_a0 ?_
      cases hf
      exact sf_int rfl (by decide +kernel)
    · refine sf_blk [(.iload_n 2, 0, 0, .null)] (lv' := [(6, .int b0), (0, .ref a0), (1, .int a1), (2, .int a2), (3, .int a3), (4, .int a4), (5, .int a5)]) (st' := [.int a2]) (M1 := M) (ob := []) (pc' := 43) (by decide +kernel) rfl rfl sw_a0 ?_
      refine sf_z_lt (off := 37) (tgt := 80) (by decide +kernel) (by decide) hf (fun hc hf => ?_) (fun hc hf => ?_)
      · refine sf_blk [(.iconst (-1), 0, 0, .int (-1 : Int32))] (lv' := [(6, .int b0), (0, .ref a0), (1, .int a1), (2, .int a2), (3, .int a3), (4, .int a4), (5, .int a5)]) (st' := [.int (-1 : Int32)]) (M1 := M) (ob := []) (pc' := 81) (by decide +kernel) rfl rfl sw_a0 ?_
        cases hf
        exact sf_int rfl (by decide +kernel)
      · refine sf_blk [(.iload_n 2, 0, 0, .null), (.bipush (63), 0, 0, .int (63 : Int32))] (lv' := [(6, .int b0), (0, .ref a0), (1, .int a1), (2, .int a2), (3, .int a3), (4, .int a4), (5, .int a5)]) (st' := [.int (63 : Int32), .int a2]) (M1 := M) (ob := []) (pc' := 49) (by decide +kernel) rfl rfl sw_a0 ?_
        refine sf_j_gt (off := 31) (tgt := 80) (by decide +kernel) (by decide) hf (fun hc hf => ?_) (fun hc hf => ?_)
        · refine sf_blk [(.iconst (-1), 0, 0, .int (-1 : Int32))] (lv' := [(6, .int b0), (0, .ref a0), (1, .int a1), (2, .int a2), (3, .int a3), (4, .int a4), (5, .int a5)]) (st' := [.int (-1 : Int32)]) (M1 := M) (ob := []) (pc' := 81) (by decide +kernel) rfl rfl sw_a0 ?_
          cases hf
          exact sf_int rfl (by decide +kernel)
        · refine sf_blk [(.iload_n 3, 0, 0, .null), (.iload 5, 0, 0, .null)] (lv' := [(6, .int b0), (0, .ref a0), (1, .int a1), (2, .int a2), (3, .int a3), (4, .int a4), (5, .int a5)]) (st' := [.int a5, .int a3]) (M1 := M) (ob := []) (pc' := 55) (by decide +kernel) rfl rfl sw_a0 ?_
          refine sf_j_lt (off := 25) (tgt := 80) (by decide +kernel) (by decide) hf (fun hc hf => ?_) (fun hc hf => ?_)
          · refine sf_blk [(.iconst (-1), 0, 0, .int (-1 : Int32))] (lv' := [(6, .int b0), (0, .ref a0), (1, .int a1), (2, .int a2), (3, .int a3), (4, .int a4), (5, .int a5)]) (st' := [.int (-1 : Int32)]) (M1 := M) (ob := []) (pc' := 81) (by decide +kernel) rfl rfl sw_a0 ?_
            cases hf
            exact sf_int rfl (by decide +kernel)
          · refine sf_blk [(.iload_n 3, 0, 0, .null), (.iload 4, 0, 0, .null)] (lv' := [(6, .int b0), (0, .ref a0), (1, .int a1), (2, .int a2), (3, .int a3), (4, .int a4), (5, .int a5)]) (st' := [.int a4, .int a3]) (M1 := M) (ob := []) (pc' := 61) (by decide +kernel) rfl rfl sw_a0 ?_
            refine sf_j_gt (off := 19) (tgt := 80) (by decide +kernel) (by decide) hf (fun hc hf => ?_) (fun hc hf => ?_)
            · refine sf_blk [(.iconst (-1), 0, 0, .int (-1 : Int32))] (lv' := [(6, .int b0), (0, .ref a0), (1, .int a1), (2, .int a2), (3, .int a3), (4, .int a4), (5, .int a5)]) (st' := [.int (-1 : Int32)]) (M1 := M) (ob := []) (pc' := 81) (by decide +kernel) rfl rfl sw_a0 ?_
              cases hf
              exact sf_int rfl (by decide +kernel)
            · refine sf_blk [(.iload 4, 0, 0, .null), (.iload 6, 0, 0, .null)] (lv' := [(6, .int b0), (0, .ref a0), (1, .int a1), (2, .int a2), (3, .int a3), (4, .int a4), (5, .int a5)]) (st' := [.int b0, .int a4]) (M1 := M) (ob := []) (pc' := 68) (by decide +kernel) rfl rfl sw_a0 ?_
              refine sf_j_gt (off := 12) (tgt := 80) (by decide +kernel) (by decide) hf (fun hc hf => ?_) (fun hc hf => ?_)
              · refine sf_blk [(.iconst (-1), 0, 0, .int (-1 : Int32))] (lv' := [(6, .int b0), (0, .ref a0), (1, .int a1), (2, .int a2), (3, .int a3), (4, .int a4), (5, .int a5)]) (st' := [.int (-1 : Int32)]) (M1 := M) (ob := []) (pc' := 81) (by decide +kernel) rfl rfl sw_a0 ?_
                cases hf
                exact sf_int rfl (by decide +kernel)
              · obtain ⟨h1, hf⟩ := sw_gd_1 hf
                refine sf_blk [(.aload_n 0, 0, 0, .null), (.getfield 462, 12, 76, .null), (.bipush (10), 0, 0, .int (10 : Int32))] (lv' := [(6, .int b0), (0, .ref a0), (1, .int a1), (2, .int a2), (3, .int a3), (4, .int a4), (5, .int a5)]) (st' := [.int (10 : Int32), .int (rd_I M a0 76)]) (M1 := M) (ob := [sw_ok M a0 12]) (pc' := 77) (by decide +kernel) rfl rfl (sw_a1 h1 sw_a0) ?_
                refine sf_j_ne (off := 5) (tgt := 82) (by decide +kernel) (by decide) hf (fun hc hf => ?_) (fun hc hf => ?_)
                · obtain ⟨h2, hf⟩ := sw_gd_1 hf
                  obtain ⟨h3, hf⟩ := sw_gd_1 hf
                  obtain ⟨h4, hf⟩ := sw_gd_1 hf
                  obtain ⟨h5, hf⟩ := sw_gd_1 hf
                  refine sf_blk [(.aload_n 0, 0, 0, .null), (.getfield 130, 12, 77, .null), (.aload_n 0, 0, 0, .null), (.getfield 462, 12, 76, .null), (.iconst (0), 0, 0, .int (0 : Int32)), (.bastore, 0, 0, .null), (.aload_n 0, 0, 0, .null), (.getfield 133, 12, 78, .null), (.aload_n 0, 0, 0, .null), (.getfield 462, 12, 76, .null), (.iload_n 1, 0, 0, .null), (.iastore, 0, 0, .null), (.aload_n 0, 0, 0, .null), (.getfield 136, 12, 79, .null), (.aload_n 0, 0, 0, .null), (.getfield 462, 12, 76, .null), (.iload_n 2, 0, 0, .null), (.iastore, 0, 0, .null), (.aload_n 0, 0, 0, .null), (.getfield 139, 12, 80, .null), (.aload_n 0, 0, 0, .null), (.getfield 462, 12, 76, .null), (.iload_n 3, 0, 0, .null), (.iastore, 0, 0, .null)] (lv' := [(6, .int b0), (0, .ref a0), (1, .int a1), (2, .int a2), (3, .int a3), (4, .int a4), (5, .int a5)]) (st' := []) (M1 := (wr_I (wr_I (wr_I (wr_I M (rd_R M a0 77) (rd_I M a0 76).toNatClampNeg (0 : Int32)) (rd_R (wr_I M (rd_R M a0 77) (rd_I M a0 76).toNatClampNeg (0 : Int32)) a0 78) (rd_I (wr_I M (rd_R M a0 77) (rd_I M a0 76).toNatClampNeg (0 : Int32)) a0 76).toNatClampNeg a1) (rd_R (wr_I (wr_I M (rd_R M a0 77) (rd_I M a0 76).toNatClampNeg (0 : Int32)) (rd_R (wr_I M (rd_R M a0 77) (rd_I M a0 76).toNatClampNeg (0 : Int32)) a0 78) (rd_I (wr_I M (rd_R M a0 77) (rd_I M a0 76).toNatClampNeg (0 : Int32)) a0 76).toNatClampNeg a1) a0 79) (rd_I (wr_I (wr_I M (rd_R M a0 77) (rd_I M a0 76).toNatClampNeg (0 : Int32)) (rd_R (wr_I M (rd_R M a0 77) (rd_I M a0 76).toNatClampNeg (0 : Int32)) a0 78) (rd_I (wr_I M (rd_R M a0 77) (rd_I M a0 76).toNatClampNeg (0 : Int32)) a0 76).toNatClampNeg a1) a0 76).toNatClampNeg a2) (rd_R (wr_I (wr_I (wr_I M (rd_R M a0 77) (rd_I M a0 76).toNatClampNeg (0 : Int32)) (rd_R (wr_I M (rd_R M a0 77) (rd_I M a0 76).toNatClampNeg (0 : Int32)) a0 78) (rd_I (wr_I M (rd_R M a0 77) (rd_I M a0 76).toNatClampNeg (0 : Int32)) a0 76).toNatClampNeg a1) (rd_R (wr_I (wr_I M (rd_R M a0 77) (rd_I M a0 76).toNatClampNeg (0 : Int32)) (rd_R (wr_I M (rd_R M a0 77) (rd_I M a0 76).toNatClampNeg (0 : Int32)) a0 78) (rd_I (wr_I M (rd_R M a0 77) (rd_I M a0 76).toNatClampNeg (0 : Int32)) a0 76).toNatClampNeg a1) a0 79) (rd_I (wr_I (wr_I M (rd_R M a0 77) (rd_I M a0 76).toNatClampNeg (0 : Int32)) (rd_R (wr_I M (rd_R M a0 77) (rd_I M a0 76).toNatClampNeg (0 : Int32)) a0 78) (rd_I (wr_I M (rd_R M a0 77) (rd_I M a0 76).toNatClampNeg (0 : Int32)) a0 76).toNatClampNeg a1) a0 76).toNatClampNeg a2) a0 80) (rd_I (wr_I (wr_I (wr_I M (rd_R M a0 77) (rd_I M a0 76).toNatClampNeg (0 : Int32)) (rd_R (wr_I M (rd_R M a0 77) (rd_I M a0 76).toNatClampNeg (0 : Int32)) a0 78) (rd_I (wr_I M (rd_R M a0 77) (rd_I M a0 76).toNatClampNeg (0 : Int32)) a0 76).toNatClampNeg a1) (rd_R (wr_I (wr_I M (rd_R M a0 77) (rd_I M a0 76).toNatClampNeg (0 : Int32)) (rd_R (wr_I M (rd_R M a0 77) (rd_I M a0 76).toNatClampNeg (0 : Int32)) a0 78) (rd_I (wr_I M (rd_R M a0 77) (rd_I M a0 76).toNatClampNeg (0 : Int32)) a0 76).toNatClampNeg a1) a0 79) (rd_I (wr_I (wr_I M (rd_R M a0 77) (rd_I M a0 76).toNatClampNeg (0 : Int32)) (rd_R (wr_I M (rd_R M a0 77) (rd_I M a0 76).toNatClampNeg (0 : Int32)) a0 78) (rd_I (wr_I M (rd_R M a0 77) (rd_I M a0 76).toNatClampNeg (0 : Int32)) a0 76).toNatClampNeg a1) a0 76).toNatClampNeg a2) a0 76).toNatClampNeg a3)) (ob := [sw_ok M a0 12, sw_ok M a0 12, (sw_ar M (rd_R M a0 77) 14 (rd_I M a0 76) && decide ((0 : Int32).toInt8.toInt32 = (0 : Int32))) || (sw_ar M (rd_R M a0 77) 15 (rd_I M a0 76) && sw_bz (0 : Int32)), sw_ok (wr_I M (rd_R M a0 77) (rd_I M a0 76).toNatClampNeg (0 : Int32)) a0 12, sw_ok (wr_I M (rd_R M a0 77) (rd_I M a0 76).toNatClampNeg (0 : Int32)) a0 12, sw_ar (wr_I M (rd_R M a0 77) (rd_I M a0 76).toNatClampNeg (0 : Int32)) (rd_R (wr_I M (rd_R M a0 77) (rd_I M a0 76).toNatClampNeg (0 : Int32)) a0 78) 13 (rd_I (wr_I M (rd_R M a0 77) (rd_I M a0 76).toNatClampNeg (0 : Int32)) a0 76), sw_ok (wr_I (wr_I M (rd_R M a0 77) (rd_I M a0 76).toNatClampNeg (0 : Int32)) (rd_R (wr_I M (rd_R M a0 77) (rd_I M a0 76).toNatClampNeg (0 : Int32)) a0 78) (rd_I (wr_I M (rd_R M a0 77) (rd_I M a0 76).toNatClampNeg (0 : Int32)) a0 76).toNatClampNeg a1) a0 12, sw_ok (wr_I (wr_I M (rd_R M a0 77) (rd_I M a0 76).toNatClampNeg (0 : Int32)) (rd_R (wr_I M (rd_R M a0 77) (rd_I M a0 76).toNatClampNeg (0 : Int32)) a0 78) (rd_I (wr_I M (rd_R M a0 77) (rd_I M a0 76).toNatClampNeg (0 : Int32)) a0 76).toNatClampNeg a1) a0 12, sw_ar (wr_I (wr_I M (rd_R M a0 77) (rd_I M a0 76).toNatClampNeg (0 : Int32)) (rd_R (wr_I M (rd_R M a0 77) (rd_I M a0 76).toNatClampNeg (0 : Int32)) a0 78) (rd_I (wr_I M (rd_R M a0 77) (rd_I M a0 76).toNatClampNeg (0 : Int32)) a0 76).toNatClampNeg a1) (rd_R (wr_I (wr_I M (rd_R M a0 77) (rd_I M a0 76).toNatClampNeg (0 : Int32)) (rd_R (wr_I M (rd_R M a0 77) (rd_I M a0 76).toNatClampNeg (0 : Int32)) a0 78) (rd_I (wr_I M (rd_R M a0 77) (rd_I M a0 76).toNatClampNeg (0 : Int32)) a0 76).toNatClampNeg a1) a0 79) 13 (rd_I (wr_I (wr_I M (rd_R M a0 77) (rd_I M a0 76).toNatClampNeg (0 : Int32)) (rd_R (wr_I M (rd_R M a0 77) (rd_I M a0 76).toNatClampNeg (0 : Int32)) a0 78) (rd_I (wr_I M (rd_R M a0 77) (rd_I M a0 76).toNatClampNeg (0 : Int32)) a0 76).toNatClampNeg a1) a0 76), sw_ok (wr_I (wr_I (wr_I M (rd_R M a0 77) (rd_I M a0 76).toNatClampNeg (0 : Int32)) (rd_R (wr_I M (rd_R M a0 77) (rd_I M a0 76).toNatClampNeg (0 : Int32)) a0 78) (rd_I (wr_I M (rd_R M a0 77) (rd_I M a0 76).toNatClampNeg (0 : Int32)) a0 76).toNatClampNeg a1) (rd_R (wr_I (wr_I M (rd_R M a0 77) (rd_I M a0 76).toNatClampNeg (0 : Int32)) (rd_R (wr_I M (rd_R M a0 77) (rd_I M a0 76).toNatClampNeg (0 : Int32)) a0 78) (rd_I (wr_I M (rd_R M a0 77) (rd_I M a0 76).toNatClampNeg (0 : Int32)) a0 76).toNatClampNeg a1) a0 79) (rd_I (wr_I (wr_I M (rd_R M a0 77) (rd_I M a0 76).toNatClampNeg (0 : Int32)) (rd_R (wr_I M (rd_R M a0 77) (rd_I M a0 76).toNatClampNeg (0 : Int32)) a0 78) (rd_I (wr_I M (rd_R M a0 77) (rd_I M a0 76).toNatClampNeg (0 : Int32)) a0 76).toNatClampNeg a1) a0 76).toNatClampNeg a2) a0 12, sw_ok (wr_I (wr_I (wr_I M (rd_R M a0 77) (rd_I M a0 76).toNatClampNeg (0 : Int32)) (rd_R (wr_I M (rd_R M a0 77) (rd_I M a0 76).toNatClampNeg (0 : Int32)) a0 78) (rd_I (wr_I M (rd_R M a0 77) (rd_I M a0 76).toNatClampNeg (0 : Int32)) a0 76).toNatClampNeg a1) (rd_R (wr_I (wr_I M (rd_R M a0 77) (rd_I M a0 76).toNatClampNeg (0 : Int32)) (rd_R (wr_I M (rd_R M a0 77) (rd_I M a0 76).toNatClampNeg (0 : Int32)) a0 78) (rd_I (wr_I M (rd_R M a0 77) (rd_I M a0 76).toNatClampNeg (0 : Int32)) a0 76).toNatClampNeg a1) a0 79) (rd_I (wr_I (wr_I M (rd_R M a0 77) (rd_I M a0 76).toNatClampNeg (0 : Int32)) (rd_R (wr_I M (rd_R M a0 77) (rd_I M a0 76).toNatClampNeg (0 : Int32)) a0 78) (rd_I (wr_I M (rd_R M a0 77) (rd_I M a0 76).toNatClampNeg (0 : Int32)) a0 76).toNatClampNeg a1) a0 76).toNatClampNeg a2) a0 12, sw_ar (wr_I (wr_I (wr_I M (rd_R M a0 77) (rd_I M a0 76).toNatClampNeg (0 : Int32)) (rd_R (wr_I M (rd_R M a0 77) (rd_I M a0 76).toNatClampNeg (0 : Int32)) a0 78) (rd_I (wr_I M (rd_R M a0 77) (rd_I M a0 76).toNatClampNeg (0 : Int32)) a0 76).toNatClampNeg a1) (rd_R (wr_I (wr_I M (rd_R M a0 77) (rd_I M a0 76).toNatClampNeg (0 : Int32)) (rd_R (wr_I M (rd_R M a0 77) (rd_I M a0 76).toNatClampNeg (0 : Int32)) a0 78) (rd_I (wr_I M (rd_R M a0 77) (rd_I M a0 76).toNatClampNeg (0 : Int32)) a0 76).toNatClampNeg a1) a0 79) (rd_I (wr_I (wr_I M (rd_R M a0 77) (rd_I M a0 76).toNatClampNeg (0 : Int32)) (rd_R (wr_I M (rd_R M a0 77) (rd_I M a0 76).toNatClampNeg (0 : Int32)) a0 78) (rd_I (wr_I M (rd_R M a0 77) (rd_I M a0 76).toNatClampNeg (0 : Int32)) a0 76).toNatClampNeg a1) a0 76).toNatClampNeg a2) (rd_R (wr_I (wr_I (wr_I M (rd_R M a0 77) (rd_I M a0 76).toNatClampNeg (0 : Int32)) (rd_R (wr_I M (rd_R M a0 77) (rd_I M a0 76).toNatClampNeg (0 : Int32)) a0 78) (rd_I (wr_I M (rd_R M a0 77) (rd_I M a0 76).toNatClampNeg (0 : Int32)) a0 76).toNatClampNeg a1) (rd_R (wr_I (wr_I M (rd_R M a0 77) (rd_I M a0 76).toNatClampNeg (0 : Int32)) (rd_R (wr_I M (rd_R M a0 77) (rd_I M a0 76).toNatClampNeg (0 : Int32)) a0 78) (rd_I (wr_I M (rd_R M a0 77) (rd_I M a0 76).toNatClampNeg (0 : Int32)) a0 76).toNatClampNeg a1) a0 79) (rd_I (wr_I (wr_I M (rd_R M a0 77) (rd_I M a0 76).toNatClampNeg (0 : Int32)) (rd_R (wr_I M (rd_R M a0 77) (rd_I M a0 76).toNatClampNeg (0 : Int32)) a0 78) (rd_I (wr_I M (rd_R M a0 77) (rd_I M a0 76).toNatClampNeg (0 : Int32)) a0 76).toNatClampNeg a1) a0 76).toNatClampNeg a2) a0 80) 13 (rd_I (wr_I (wr_I (wr_I M (rd_R M a0 77) (rd_I M a0 76).toNatClampNeg (0 : Int32)) (rd_R (wr_I M (rd_R M a0 77) (rd_I M a0 76).toNatClampNeg (0 : Int32)) a0 78) (rd_I (wr_I M (rd_R M a0 77) (rd_I M a0 76).toNatClampNeg (0 : Int32)) a0 76).toNatClampNeg a1) (rd_R (wr_I (wr_I M (rd_R M a0 77) (rd_I M a0 76).toNatClampNeg (0 : Int32)) (rd_R (wr_I M (rd_R M a0 77) (rd_I M a0 76).toNatClampNeg (0 : Int32)) a0 78) (rd_I (wr_I M (rd_R M a0 77) (rd_I M a0 76).toNatClampNeg (0 : Int32)) a0 76).toNatClampNeg a1) a0 79) (rd_I (wr_I (wr_I M (rd_R M a0 77) (rd_I M a0 76).toNatClampNeg (0 : Int32)) (rd_R (wr_I M (rd_R M a0 77) (rd_I M a0 76).toNatClampNeg (0 : Int32)) a0 78) (rd_I (wr_I M (rd_R M a0 77) (rd_I M a0 76).toNatClampNeg (0 : Int32)) a0 76).toNatClampNeg a1) a0 76).toNatClampNeg a2) a0 76)]) (pc' := 122) (by decide +kernel) rfl rfl (sw_a1 h1 (sw_a1 h1 (sw_a1 h2 (sw_a1 h1 (sw_a1 h1 (sw_a1 h3 (sw_a1 h1 (sw_a1 h1 (sw_a1 h4 (sw_a1 h1 (sw_a1 h1 (sw_a1 h5 sw_a0)))))))))))) ?_
                  exact sf_weak [1, 5] rfl (t_Model_sight_122 hd hf)
                · refine sf_blk [(.iconst (-1), 0, 0, .int (-1 : Int32))] (lv' := [(6, .int b0), (0, .ref a0), (1, .int a1), (2, .int a2), (3, .int a3), (4, .int a4), (5, .int a5)]) (st' := [.int (-1 : Int32)]) (M1 := M) (ob := []) (pc' := 81) (by decide +kernel) rfl rfl sw_a0 ?_
                  cases hf
                  exact sf_int rfl (by decide +kernel)
def f_Model_sight_16 (N : Nat) (a0 : Nat) (a1 : Int32) (a2 : Int32) (a3 : Int32) (a4 : Int32) (b0 : Int32) (M : sw_M) : Option (Int32 × sw_M) :=
  if a1 = 0 then f_Model_sight_31 N a0 a1 a2 a3 a4 b0 (1000 : Int32) M
  else f_Model_sight_31 N a0 a1 a2 a3 a4 b0 (9999 : Int32) M
set_option maxRecDepth 10000 in
theorem t_Model_sight_16 {g : sw_G} {d n0 : Nat} (hd : 1 ≤ d) {r : Int32 × sw_M} {N : Nat} {a0 : Nat} {a1 : Int32} {a2 : Int32} {a3 : Int32} {a4 : Int32} {b0 : Int32} {M : sw_M} (hf : f_Model_sight_16 N a0 a1 a2 a3 a4 b0 M = some r) : sw_F g k_Model_sight d n0 (some (.int r.1)) r.2 16 [(0, .ref a0), (1, .int a1), (2, .int a2), (3, .int a3), (4, .int a4)] [.int b0] M := by
  unfold f_Model_sight_16 at hf
  refine sf_blk [(.istore 5, 0, 0, .null), (.iload_n 1, 0, 0, .null)] (lv' := [(5, .int b0), (0, .ref a0), (1, .int a1), (2, .int a2), (3, .int a3), (4, .int a4)]) (st' := [.int a1]) (M1 := M) (ob := []) (pc' := 19) (by decide +kernel) rfl rfl sw_a0 ?_
  refine sf_z_ne (off := 9) (tgt := 28) (by decide +kernel) (by decide) hf (fun hc hf => ?_) (fun hc hf => ?_)
  · refine sf_blk [(.sipush (9999), 0, 0, .int (9999 : Int32))] (lv' := [(5, .int b0), (0, .ref a0), (1, .int a1), (2, .int a2), (3, .int a3), (4, .int a4)]) (st' := [.int (9999 : Int32)]) (M1 := M) (ob := []) (pc' := 31) (by decide +kernel) rfl rfl sw_a0 ?_
    exact sf_weak [1, 2, 3, 4, 5, 0] rfl (t_Model_sight_31 hd hf)
  · refine sf_blk [(.sipush (1000), 0, 0, .int (1000 : Int32))] (lv' := [(5, .int b0), (0, .ref a0), (1, .int a1), (2, .int a2), (3, .int a3), (4, .int a4)]) (st' := [.int (1000 : Int32)]) (M1 := M) (ob := []) (pc' := 25) (by decide +kernel) rfl rfl sw_a0 ?_
    refine sf_goto (off := 6) (tgt := 31) (by decide +kernel) (by decide) ?_
    exact sf_weak [1, 2, 3, 4, 5, 0] rfl (t_Model_sight_31 hd hf)
def f_Model_sight (N : Nat) (a0 : Nat) (a1 : Int32) (a2 : Int32) (a3 : Int32) (a4 : Int32) (M : sw_M) : Option (Int32 × sw_M) :=
  sw_gd [sw_ok M a0 12] (if a1 = 0 then f_Model_sight_16 N a0 a1 a2 a3 a4 (0 : Int32) (wr_I M a0 0 (0 : Int32))
  else f_Model_sight_16 N a0 a1 a2 a3 a4 (-9999 : Int32) (wr_I M a0 0 (0 : Int32)))
set_option maxRecDepth 10000 in
theorem t_Model_sight {g : sw_G} {d n0 : Nat} (hd : 1 ≤ d) {r : Int32 × sw_M} {N : Nat} {a0 : Nat} {a1 : Int32} {a2 : Int32} {a3 : Int32} {a4 : Int32} {M : sw_M} (hf : f_Model_sight N a0 a1 a2 a3 a4 M = some r) : sw_F g k_Model_sight d n0 (some (.int r.1)) r.2 0 [(0, .ref a0), (1, .int a1), (2, .int a2), (3, .int a3), (4, .int a4)] [] M := by
  unfold f_Model_sight at hf
  obtain ⟨h1, hf⟩ := sw_gd_1 hf
  refine sf_blk [(.aload_n 0, 0, 0, .null), (.iconst (0), 0, 0, .int (0 : Int32)), (.putfield 166, 12, 0, .null), (.iload_n 1, 0, 0, .null)] (lv' := [(0, .ref a0), (1, .int a1), (2, .int a2), (3, .int a3), (4, .int a4)]) (st' := [.int a1]) (M1 := (wr_I M a0 0 (0 : Int32))) (ob := [sw_ok M a0 12]) (pc' := 6) (by decide +kernel) rfl rfl (sw_a1 h1 sw_a0) ?_
  refine sf_z_ne (off := 7) (tgt := 13) (by decide +kernel) (by decide) hf (fun hc hf => ?_) (fun hc hf => ?_)
  · refine sf_blk [(.sipush (-9999), 0, 0, .int (-9999 : Int32))] (lv' := [(0, .ref a0), (1, .int a1), (2, .int a2), (3, .int a3), (4, .int a4)]) (st' := [.int (-9999 : Int32)]) (M1 := (wr_I M a0 0 (0 : Int32))) (ob := []) (pc' := 16) (by decide +kernel) rfl rfl sw_a0 ?_
    exact sf_weak [0, 1, 2, 3, 4] rfl (t_Model_sight_16 hd hf)
  · refine sf_blk [(.iconst (0), 0, 0, .int (0 : Int32))] (lv' := [(0, .ref a0), (1, .int a1), (2, .int a2), (3, .int a3), (4, .int a4)]) (st' := [.int (0 : Int32)]) (M1 := (wr_I M a0 0 (0 : Int32))) (ob := []) (pc' := 10) (by decide +kernel) rfl rfl sw_a0 ?_
    refine sf_goto (off := 6) (tgt := 16) (by decide +kernel) (by decide) ?_
    exact sf_weak [0, 1, 2, 3, 4] rfl (t_Model_sight_16 hd hf)
theorem o_Model_sight (g : sw_G) {d : Nat} (hd : 1 ≤ d) {N : Nat} {a0 : Nat} {a1 : Int32} {a2 : Int32} {a3 : Int32} {a4 : Int32} {M : sw_M} {r : Int32 × sw_M} (hf : f_Model_sight N a0 a1 a2 a3 a4 M = some r) : sw_Ok g k_Model_sight d [.ref a0, .int a1, .int a2, .int a3, .int a4] M (some (.int r.1)) r.2 := sf_met (by decide +kernel) rfl (by decide) (Nat.le_of_ble_eq_true rfl) (t_Model_sight hd hf)
def f_Model_strike (N : Nat) (a0 : Nat) (a1 : Int32) (M : sw_M) : Option (Int32 × sw_M) :=
  sw_gd [sw_ok M a0 12] (if a1 < 0 then some ((-1 : Int32), (wr_I M a0 0 (0 : Int32)))
  else if (rd_I (wr_I M a0 0 (0 : Int32)) a0 76) ≤ a1 then some ((-1 : Int32), (wr_I M a0 0 (0 : Int32)))
  else if (rd_I (wr_I M a0 0 (0 : Int32)) a0 76) = (10 : Int32) then some ((-1 : Int32), (wr_I M a0 0 (0 : Int32)))
  else sw_gd [(sw_ar (wr_I M a0 0 (0 : Int32)) (rd_R (wr_I M a0 0 (0 : Int32)) a0 77) 14 (rd_I (wr_I M a0 0 (0 : Int32)) a0 76) && decide ((1 : Int32).toInt8.toInt32 = (1 : Int32))) || (sw_ar (wr_I M a0 0 (0 : Int32)) (rd_R (wr_I M a0 0 (0 : Int32)) a0 77) 15 (rd_I (wr_I M a0 0 (0 : Int32)) a0 76) && sw_bz (1 : Int32))] (sw_gd [sw_ar (wr_I (wr_I M a0 0 (0 : Int32)) (rd_R (wr_I M a0 0 (0 : Int32)) a0 77) (rd_I (wr_I M a0 0 (0 : Int32)) a0 76).toNatClampNeg (1 : Int32)) (rd_R (wr_I (wr_I M a0 0 (0 : Int32)) (rd_R (wr_I M a0 0 (0 : Int32)) a0 77) (rd_I (wr_I M a0 0 (0 : Int32)) a0 76).toNatClampNeg (1 : Int32)) a0 79) 13 (rd_I (wr_I (wr_I M a0 0 (0 : Int32)) (rd_R (wr_I M a0 0 (0 : Int32)) a0 77) (rd_I (wr_I M a0 0 (0 : Int32)) a0 76).toNatClampNeg (1 : Int32)) a0 76)] (some (((rd_I (wr_I (wr_I (wr_I (wr_I M a0 0 (0 : Int32)) (rd_R (wr_I M a0 0 (0 : Int32)) a0 77) (rd_I (wr_I M a0 0 (0 : Int32)) a0 76).toNatClampNeg (1 : Int32)) (rd_R (wr_I (wr_I M a0 0 (0 : Int32)) (rd_R (wr_I M a0 0 (0 : Int32)) a0 77) (rd_I (wr_I M a0 0 (0 : Int32)) a0 76).toNatClampNeg (1 : Int32)) a0 79) (rd_I (wr_I (wr_I M a0 0 (0 : Int32)) (rd_R (wr_I M a0 0 (0 : Int32)) a0 77) (rd_I (wr_I M a0 0 (0 : Int32)) a0 76).toNatClampNeg (1 : Int32)) a0 76).toNatClampNeg a1) a0 76 ((rd_I (wr_I (wr_I (wr_I M a0 0 (0 : Int32)) (rd_R (wr_I M a0 0 (0 : Int32)) a0 77) (rd_I (wr_I M a0 0 (0 : Int32)) a0 76).toNatClampNeg (1 : Int32)) (rd_R (wr_I (wr_I M a0 0 (0 : Int32)) (rd_R (wr_I M a0 0 (0 : Int32)) a0 77) (rd_I (wr_I M a0 0 (0 : Int32)) a0 76).toNatClampNeg (1 : Int32)) a0 79) (rd_I (wr_I (wr_I M a0 0 (0 : Int32)) (rd_R (wr_I M a0 0 (0 : Int32)) a0 77) (rd_I (wr_I M a0 0 (0 : Int32)) a0 76).toNatClampNeg (1 : Int32)) a0 76).toNatClampNeg a1) a0 76) + (1 : Int32))) a0 76) - (1 : Int32)), (wr_I (wr_I (wr_I (wr_I M a0 0 (0 : Int32)) (rd_R (wr_I M a0 0 (0 : Int32)) a0 77) (rd_I (wr_I M a0 0 (0 : Int32)) a0 76).toNatClampNeg (1 : Int32)) (rd_R (wr_I (wr_I M a0 0 (0 : Int32)) (rd_R (wr_I M a0 0 (0 : Int32)) a0 77) (rd_I (wr_I M a0 0 (0 : Int32)) a0 76).toNatClampNeg (1 : Int32)) a0 79) (rd_I (wr_I (wr_I M a0 0 (0 : Int32)) (rd_R (wr_I M a0 0 (0 : Int32)) a0 77) (rd_I (wr_I M a0 0 (0 : Int32)) a0 76).toNatClampNeg (1 : Int32)) a0 76).toNatClampNeg a1) a0 76 ((rd_I (wr_I (wr_I (wr_I M a0 0 (0 : Int32)) (rd_R (wr_I M a0 0 (0 : Int32)) a0 77) (rd_I (wr_I M a0 0 (0 : Int32)) a0 76).toNatClampNeg (1 : Int32)) (rd_R (wr_I (wr_I M a0 0 (0 : Int32)) (rd_R (wr_I M a0 0 (0 : Int32)) a0 77) (rd_I (wr_I M a0 0 (0 : Int32)) a0 76).toNatClampNeg (1 : Int32)) a0 79) (rd_I (wr_I (wr_I M a0 0 (0 : Int32)) (rd_R (wr_I M a0 0 (0 : Int32)) a0 77) (rd_I (wr_I M a0 0 (0 : Int32)) a0 76).toNatClampNeg (1 : Int32)) a0 76).toNatClampNeg a1) a0 76) + (1 : Int32)))))))
set_option maxRecDepth 10000 in
theorem t_Model_strike {g : sw_G} {d n0 : Nat} (hd : 1 ≤ d) {r : Int32 × sw_M} {N : Nat} {a0 : Nat} {a1 : Int32} {M : sw_M} (hf : f_Model_strike N a0 a1 M = some r) : sw_F g k_Model_strike d n0 (some (.int r.1)) r.2 0 [(0, .ref a0), (1, .int a1)] [] M := by
  unfold f_Model_strike at hf
  obtain ⟨h1, hf⟩ := sw_gd_1 hf
  refine sf_blk [(.aload_n 0, 0, 0, .null), (.iconst (0), 0, 0, .int (0 : Int32)), (.putfield 166, 12, 0, .null), (.iload_n 1, 0, 0, .null)] (lv' := [(0, .ref a0), (1, .int a1)]) (st' := [.int a1]) (M1 := (wr_I M a0 0 (0 : Int32))) (ob := [sw_ok M a0 12]) (pc' := 6) (by decide +kernel) rfl rfl (sw_a1 h1 sw_a0) ?_
  refine sf_z_lt (off := 20) (tgt := 26) (by decide +kernel) (by decide) hf (fun hc hf => ?_) (fun hc hf => ?_)
  · refine sf_blk [(.iconst (-1), 0, 0, .int (-1 : Int32))] (lv' := [(0, .ref a0), (1, .int a1)]) (st' := [.int (-1 : Int32)]) (M1 := (wr_I M a0 0 (0 : Int32))) (ob := []) (pc' := 27) (by decide +kernel) rfl rfl sw_a0 ?_
    cases hf
    exact sf_int rfl (by decide +kernel)
  · refine sf_blk [(.iload_n 1, 0, 0, .null), (.aload_n 0, 0, 0, .null), (.getfield 462, 12, 76, .null)] (lv' := [(0, .ref a0), (1, .int a1)]) (st' := [.int (rd_I (wr_I M a0 0 (0 : Int32)) a0 76), .int a1]) (M1 := (wr_I M a0 0 (0 : Int32))) (ob := [sw_ok (wr_I M a0 0 (0 : Int32)) a0 12]) (pc' := 14) (by decide +kernel) rfl rfl (sw_a1 h1 sw_a0) ?_
    refine sf_j_ge (off := 12) (tgt := 26) (by decide +kernel) (by decide) hf (fun hc hf => ?_) (fun hc hf => ?_)
    · refine sf_blk [(.iconst (-1), 0, 0, .int (-1 : Int32))] (lv' := [(0, .ref a0), (1, .int a1)]) (st' := [.int (-1 : Int32)]) (M1 := (wr_I M a0 0 (0 : Int32))) (ob := []) (pc' := 27) (by decide +kernel) rfl rfl sw_a0 ?_
      cases hf
      exact sf_int rfl (by decide +kernel)
    · refine sf_blk [(.aload_n 0, 0, 0, .null), (.getfield 462, 12, 76, .null), (.bipush (10), 0, 0, .int (10 : Int32))] (lv' := [(0, .ref a0), (1, .int a1)]) (st' := [.int (10 : Int32), .int (rd_I (wr_I M a0 0 (0 : Int32)) a0 76)]) (M1 := (wr_I M a0 0 (0 : Int32))) (ob := [sw_ok (wr_I M a0 0 (0 : Int32)) a0 12]) (pc' := 23) (by decide +kernel) rfl rfl (sw_a1 h1 sw_a0) ?_
      refine sf_j_ne (off := 5) (tgt := 28) (by decide +kernel) (by decide) hf (fun hc hf => ?_) (fun hc hf => ?_)
      · obtain ⟨h2, hf⟩ := sw_gd_1 hf
        obtain ⟨h3, hf⟩ := sw_gd_1 hf
        refine sf_blk [(.aload_n 0, 0, 0, .null), (.getfield 130, 12, 77, .null), (.aload_n 0, 0, 0, .null), (.getfield 462, 12, 76, .null), (.iconst (1), 0, 0, .int (1 : Int32)), (.bastore, 0, 0, .null), (.aload_n 0, 0, 0, .null), (.getfield 136, 12, 79, .null), (.aload_n 0, 0, 0, .null), (.getfield 462, 12, 76, .null), (.iload_n 1, 0, 0, .null), (.iastore, 0, 0, .null), (.aload_n 0, 0, 0, .null), (.dup, 0, 0, .null), (.getfield 462, 12, 76, .null), (.iconst (1), 0, 0, .int (1 : Int32)), (.iadd, 0, 0, .null), (.putfield 462, 12, 76, .null), (.aload_n 0, 0, 0, .null), (.getfield 462, 12, 76, .null), (.iconst (1), 0, 0, .int (1 : Int32)), (.isub, 0, 0, .null)] (lv' := [(0, .ref a0), (1, .int a1)]) (st' := [.int ((rd_I (wr_I (wr_I (wr_I (wr_I M a0 0 (0 : Int32)) (rd_R (wr_I M a0 0 (0 : Int32)) a0 77) (rd_I (wr_I M a0 0 (0 : Int32)) a0 76).toNatClampNeg (1 : Int32)) (rd_R (wr_I (wr_I M a0 0 (0 : Int32)) (rd_R (wr_I M a0 0 (0 : Int32)) a0 77) (rd_I (wr_I M a0 0 (0 : Int32)) a0 76).toNatClampNeg (1 : Int32)) a0 79) (rd_I (wr_I (wr_I M a0 0 (0 : Int32)) (rd_R (wr_I M a0 0 (0 : Int32)) a0 77) (rd_I (wr_I M a0 0 (0 : Int32)) a0 76).toNatClampNeg (1 : Int32)) a0 76).toNatClampNeg a1) a0 76 ((rd_I (wr_I (wr_I (wr_I M a0 0 (0 : Int32)) (rd_R (wr_I M a0 0 (0 : Int32)) a0 77) (rd_I (wr_I M a0 0 (0 : Int32)) a0 76).toNatClampNeg (1 : Int32)) (rd_R (wr_I (wr_I M a0 0 (0 : Int32)) (rd_R (wr_I M a0 0 (0 : Int32)) a0 77) (rd_I (wr_I M a0 0 (0 : Int32)) a0 76).toNatClampNeg (1 : Int32)) a0 79) (rd_I (wr_I (wr_I M a0 0 (0 : Int32)) (rd_R (wr_I M a0 0 (0 : Int32)) a0 77) (rd_I (wr_I M a0 0 (0 : Int32)) a0 76).toNatClampNeg (1 : Int32)) a0 76).toNatClampNeg a1) a0 76) + (1 : Int32))) a0 76) - (1 : Int32))]) (M1 := (wr_I (wr_I (wr_I (wr_I M a0 0 (0 : Int32)) (rd_R (wr_I M a0 0 (0 : Int32)) a0 77) (rd_I (wr_I M a0 0 (0 : Int32)) a0 76).toNatClampNeg (1 : Int32)) (rd_R (wr_I (wr_I M a0 0 (0 : Int32)) (rd_R (wr_I M a0 0 (0 : Int32)) a0 77) (rd_I (wr_I M a0 0 (0 : Int32)) a0 76).toNatClampNeg (1 : Int32)) a0 79) (rd_I (wr_I (wr_I M a0 0 (0 : Int32)) (rd_R (wr_I M a0 0 (0 : Int32)) a0 77) (rd_I (wr_I M a0 0 (0 : Int32)) a0 76).toNatClampNeg (1 : Int32)) a0 76).toNatClampNeg a1) a0 76 ((rd_I (wr_I (wr_I (wr_I M a0 0 (0 : Int32)) (rd_R (wr_I M a0 0 (0 : Int32)) a0 77) (rd_I (wr_I M a0 0 (0 : Int32)) a0 76).toNatClampNeg (1 : Int32)) (rd_R (wr_I (wr_I M a0 0 (0 : Int32)) (rd_R (wr_I M a0 0 (0 : Int32)) a0 77) (rd_I (wr_I M a0 0 (0 : Int32)) a0 76).toNatClampNeg (1 : Int32)) a0 79) (rd_I (wr_I (wr_I M a0 0 (0 : Int32)) (rd_R (wr_I M a0 0 (0 : Int32)) a0 77) (rd_I (wr_I M a0 0 (0 : Int32)) a0 76).toNatClampNeg (1 : Int32)) a0 76).toNatClampNeg a1) a0 76) + (1 : Int32)))) (ob := [sw_ok (wr_I M a0 0 (0 : Int32)) a0 12, sw_ok (wr_I M a0 0 (0 : Int32)) a0 12, (sw_ar (wr_I M a0 0 (0 : Int32)) (rd_R (wr_I M a0 0 (0 : Int32)) a0 77) 14 (rd_I (wr_I M a0 0 (0 : Int32)) a0 76) && decide ((1 : Int32).toInt8.toInt32 = (1 : Int32))) || (sw_ar (wr_I M a0 0 (0 : Int32)) (rd_R (wr_I M a0 0 (0 : Int32)) a0 77) 15 (rd_I (wr_I M a0 0 (0 : Int32)) a0 76) && sw_bz (1 : Int32)), sw_ok (wr_I (wr_I M a0 0 (0 : Int32)) (rd_R (wr_I M a0 0 (0 : Int32)) a0 77) (rd_I (wr_I M a0 0 (0 : Int32)) a0 76).toNatClampNeg (1 : Int32)) a0 12, sw_ok (wr_I (wr_I M a0 0 (0 : Int32)) (rd_R (wr_I M a0 0 (0 : Int32)) a0 77) (rd_I (wr_I M a0 0 (0 : Int32)) a0 76).toNatClampNeg (1 : Int32)) a0 12, sw_ar (wr_I (wr_I M a0 0 (0 : Int32)) (rd_R (wr_I M a0 0 (0 : Int32)) a0 77) (rd_I (wr_I M a0 0 (0 : Int32)) a0 76).toNatClampNeg (1 : Int32)) (rd_R (wr_I (wr_I M a0 0 (0 : Int32)) (rd_R (wr_I M a0 0 (0 : Int32)) a0 77) (rd_I (wr_I M a0 0 (0 : Int32)) a0 76).toNatClampNeg (1 : Int32)) a0 79) 13 (rd_I (wr_I (wr_I M a0 0 (0 : Int32)) (rd_R (wr_I M a0 0 (0 : Int32)) a0 77) (rd_I (wr_I M a0 0 (0 : Int32)) a0 76).toNatClampNeg (1 : Int32)) a0 76), sw_ok (wr_I (wr_I (wr_I M a0 0 (0 : Int32)) (rd_R (wr_I M a0 0 (0 : Int32)) a0 77) (rd_I (wr_I M a0 0 (0 : Int32)) a0 76).toNatClampNeg (1 : Int32)) (rd_R (wr_I (wr_I M a0 0 (0 : Int32)) (rd_R (wr_I M a0 0 (0 : Int32)) a0 77) (rd_I (wr_I M a0 0 (0 : Int32)) a0 76).toNatClampNeg (1 : Int32)) a0 79) (rd_I (wr_I (wr_I M a0 0 (0 : Int32)) (rd_R (wr_I M a0 0 (0 : Int32)) a0 77) (rd_I (wr_I M a0 0 (0 : Int32)) a0 76).toNatClampNeg (1 : Int32)) a0 76).toNatClampNeg a1) a0 12, sw_ok (wr_I (wr_I (wr_I M a0 0 (0 : Int32)) (rd_R (wr_I M a0 0 (0 : Int32)) a0 77) (rd_I (wr_I M a0 0 (0 : Int32)) a0 76).toNatClampNeg (1 : Int32)) (rd_R (wr_I (wr_I M a0 0 (0 : Int32)) (rd_R (wr_I M a0 0 (0 : Int32)) a0 77) (rd_I (wr_I M a0 0 (0 : Int32)) a0 76).toNatClampNeg (1 : Int32)) a0 79) (rd_I (wr_I (wr_I M a0 0 (0 : Int32)) (rd_R (wr_I M a0 0 (0 : Int32)) a0 77) (rd_I (wr_I M a0 0 (0 : Int32)) a0 76).toNatClampNeg (1 : Int32)) a0 76).toNatClampNeg a1) a0 12, sw_ok (wr_I (wr_I (wr_I (wr_I M a0 0 (0 : Int32)) (rd_R (wr_I M a0 0 (0 : Int32)) a0 77) (rd_I (wr_I M a0 0 (0 : Int32)) a0 76).toNatClampNeg (1 : Int32)) (rd_R (wr_I (wr_I M a0 0 (0 : Int32)) (rd_R (wr_I M a0 0 (0 : Int32)) a0 77) (rd_I (wr_I M a0 0 (0 : Int32)) a0 76).toNatClampNeg (1 : Int32)) a0 79) (rd_I (wr_I (wr_I M a0 0 (0 : Int32)) (rd_R (wr_I M a0 0 (0 : Int32)) a0 77) (rd_I (wr_I M a0 0 (0 : Int32)) a0 76).toNatClampNeg (1 : Int32)) a0 76).toNatClampNeg a1) a0 76 ((rd_I (wr_I (wr_I (wr_I M a0 0 (0 : Int32)) (rd_R (wr_I M a0 0 (0 : Int32)) a0 77) (rd_I (wr_I M a0 0 (0 : Int32)) a0 76).toNatClampNeg (1 : Int32)) (rd_R (wr_I (wr_I M a0 0 (0 : Int32)) (rd_R (wr_I M a0 0 (0 : Int32)) a0 77) (rd_I (wr_I M a0 0 (0 : Int32)) a0 76).toNatClampNeg (1 : Int32)) a0 79) (rd_I (wr_I (wr_I M a0 0 (0 : Int32)) (rd_R (wr_I M a0 0 (0 : Int32)) a0 77) (rd_I (wr_I M a0 0 (0 : Int32)) a0 76).toNatClampNeg (1 : Int32)) a0 76).toNatClampNeg a1) a0 76) + (1 : Int32))) a0 12]) (pc' := 64) (by decide +kernel) rfl rfl (sw_a1 h1 (sw_a1 h1 (sw_a1 h2 (sw_a1 h1 (sw_a1 h1 (sw_a1 h3 (sw_a1 h1 (sw_a1 h1 (sw_a1 h1 sw_a0))))))))) ?_
        cases hf
        exact sf_int rfl (by decide +kernel)
      · refine sf_blk [(.iconst (-1), 0, 0, .int (-1 : Int32))] (lv' := [(0, .ref a0), (1, .int a1)]) (st' := [.int (-1 : Int32)]) (M1 := (wr_I M a0 0 (0 : Int32))) (ob := []) (pc' := 27) (by decide +kernel) rfl rfl sw_a0 ?_
        cases hf
        exact sf_int rfl (by decide +kernel)
theorem o_Model_strike (g : sw_G) {d : Nat} (hd : 1 ≤ d) {N : Nat} {a0 : Nat} {a1 : Int32} {M : sw_M} {r : Int32 × sw_M} (hf : f_Model_strike N a0 a1 M = some r) : sw_Ok g k_Model_strike d [.ref a0, .int a1] M (some (.int r.1)) r.2 := sf_met (by decide +kernel) rfl (by decide) (Nat.le_of_ble_eq_true rfl) (t_Model_strike hd hf)
def f_Model_isKnown (N : Nat) (a0 : Nat) (a1 : Int32) (M : sw_M) : Option (Int32 × sw_M) :=
  if a1 < 0 then some ((0 : Int32), M)
  else sw_gd [sw_ok M a0 12] (if (rd_I M a0 76) < a1 then some ((0 : Int32), M)
  else some ((1 : Int32), M))
set_option maxRecDepth 10000 in
theorem t_Model_isKnown {g : sw_G} {d n0 : Nat} (hd : 1 ≤ d) {r : Int32 × sw_M} {N : Nat} {a0 : Nat} {a1 : Int32} {M : sw_M} (hf : f_Model_isKnown N a0 a1 M = some r) : sw_F g k_Model_isKnown d n0 (some (.int r.1)) r.2 0 [(0, .ref a0), (1, .int a1)] [] M := by
  unfold f_Model_isKnown at hf
  refine sf_blk [(.iload_n 1, 0, 0, .null)] (lv' := [(0, .ref a0), (1, .int a1)]) (st' := [.int a1]) (M1 := M) (ob := []) (pc' := 1) (by decide +kernel) rfl rfl sw_a0 ?_
  refine sf_z_lt (off := 15) (tgt := 16) (by decide +kernel) (by decide) hf (fun hc hf => ?_) (fun hc hf => ?_)
  · refine sf_blk [(.iconst (0), 0, 0, .int (0 : Int32))] (lv' := [(0, .ref a0), (1, .int a1)]) (st' := [.int (0 : Int32)]) (M1 := M) (ob := []) (pc' := 17) (by decide +kernel) rfl rfl sw_a0 ?_
    cases hf
    exact sf_bool rfl rfl (by decide +kernel)
  · obtain ⟨h1, hf⟩ := sw_gd_1 hf
    refine sf_blk [(.iload_n 1, 0, 0, .null), (.aload_n 0, 0, 0, .null), (.getfield 462, 12, 76, .null)] (lv' := [(0, .ref a0), (1, .int a1)]) (st' := [.int (rd_I M a0 76), .int a1]) (M1 := M) (ob := [sw_ok M a0 12]) (pc' := 9) (by decide +kernel) rfl rfl (sw_a1 h1 sw_a0) ?_
    refine sf_j_gt (off := 7) (tgt := 16) (by decide +kernel) (by decide) hf (fun hc hf => ?_) (fun hc hf => ?_)
    · refine sf_blk [(.iconst (0), 0, 0, .int (0 : Int32))] (lv' := [(0, .ref a0), (1, .int a1)]) (st' := [.int (0 : Int32)]) (M1 := M) (ob := []) (pc' := 17) (by decide +kernel) rfl rfl sw_a0 ?_
      cases hf
      exact sf_bool rfl rfl (by decide +kernel)
    · refine sf_blk [(.iconst (1), 0, 0, .int (1 : Int32))] (lv' := [(0, .ref a0), (1, .int a1)]) (st' := [.int (1 : Int32)]) (M1 := M) (ob := []) (pc' := 13) (by decide +kernel) rfl rfl sw_a0 ?_
      refine sf_goto (off := 4) (tgt := 17) (by decide +kernel) (by decide) ?_
      cases hf
      exact sf_bool rfl rfl (by decide +kernel)
theorem o_Model_isKnown (g : sw_G) {d : Nat} (hd : 1 ≤ d) {N : Nat} {a0 : Nat} {a1 : Int32} {M : sw_M} {r : Int32 × sw_M} (hf : f_Model_isKnown N a0 a1 M = some r) : sw_Ok g k_Model_isKnown d [.ref a0, .int a1] M (some (.int r.1)) r.2 := sf_met (by decide +kernel) rfl (by decide) (Nat.le_of_ble_eq_true rfl) (t_Model_isKnown hd hf)
def f_Model_knows_106 (N : Nat) (k71 : Nat → Int32 → Int32 → sw_M → Option (sw_M)) (a0 : Nat) (a1 : Int32) (a2 : Int32) (M : sw_M) : Option (sw_M) :=
  k71 a0 a1 (a2 + (1 : Int32)) M
set_option maxRecDepth 10000 in
theorem t_Model_knows_106 {g : sw_G} {d n0 : Nat} (hd : 1 ≤ d) {r : sw_M} (k71 : Nat → Int32 → Int32 → sw_M → Option (sw_M)) (hk71 : ∀ (a0 : Nat) (a1 : Int32) (a2 : Int32) (M : sw_M), k71 a0 a1 a2 M = some r → sw_F g k_Model_knows d n0 none r 71 [(0, .ref a0), (1, .int a1), (2, .int a2)] [] M) {N : Nat} {a0 : Nat} {a1 : Int32} {a2 : Int32} {M : sw_M} (hf : f_Model_knows_106 N k71 a0 a1 a2 M = some r) : sw_F g k_Model_knows d n0 none r 106 [(0, .ref a0), (1, .int a1), (2, .int a2)] [] M := by
  unfold f_Model_knows_106 at hf
  refine sf_blk [(.iinc 2 (1), 0, 0, .int (1 : Int32))] (lv' := [(2, .int (a2 + (1 : Int32))), (0, .ref a0), (1, .int a1)]) (st' := []) (M1 := M) (ob := []) (pc' := 109) (by decide +kernel) rfl rfl sw_a0 ?_
  refine sf_goto (off := -38) (tgt := 71) (by decide +kernel) (by decide) ?_
  exact sf_weak [1, 2, 0] rfl (hk71 _ _ _ _ hf)
def f_Model_knows_71 (N : Nat) : Nat → Nat → Int32 → Int32 → sw_M → Option (sw_M)
  | 0, _, _, _, _ => none
  | j + 1, a0, a1, a2, M =>
  if a1 ≤ a2 then some M
  else sw_gd [sw_ok M a0 12] (sw_gd [sw_ar M (rd_R M a0 77) 14 a2 || sw_ar M (rd_R M a0 77) 15 a2] (if (rd_I M (rd_R M a0 77) a2.toNatClampNeg) = 0 then sw_gd [sw_ar M (rd_R M a0 82) 14 a2 || sw_ar M (rd_R M a0 82) 15 a2] (if (rd_I M (rd_R M a0 82) a2.toNatClampNeg) = 0 then f_Model_knows_106 N (f_Model_knows_71 N j) a0 a1 a2 (wr_I M a0 83 ((rd_I M a0 83) ||| ((1 : Int32) <<< (a2 &&& 31))))
  else f_Model_knows_106 N (f_Model_knows_71 N j) a0 a1 a2 M)
  else f_Model_knows_106 N (f_Model_knows_71 N j) a0 a1 a2 M))
set_option maxRecDepth 10000 in
theorem t_Model_knows_71 {g : sw_G} {d n0 : Nat} (hd : 1 ≤ d) {r : sw_M} {N : Nat} : ∀ (j : Nat) (a0 : Nat) (a1 : Int32) (a2 : Int32) (M : sw_M), f_Model_knows_71 N j a0 a1 a2 M = some r → sw_F g k_Model_knows d n0 none r 71 [(0, .ref a0), (1, .int a1), (2, .int a2)] [] M := by
  intro j
  induction j with
  | zero =>
    intro a0 a1 a2 M hf
    rw [f_Model_knows_71] at hf
    cases hf
  | succ j ih =>
    intro a0 a1 a2 M hf
    rw [f_Model_knows_71] at hf
    refine sf_blk [(.iload_n 2, 0, 0, .null), (.iload_n 1, 0, 0, .null)] (lv' := [(0, .ref a0), (1, .int a1), (2, .int a2)]) (st' := [.int a1, .int a2]) (M1 := M) (ob := []) (pc' := 73) (by decide +kernel) rfl rfl sw_a0 ?_
    refine sf_j_ge (off := 39) (tgt := 112) (by decide +kernel) (by decide) hf (fun hc hf => ?_) (fun hc hf => ?_)
    · cases hf
      exact sf_void rfl (by decide +kernel)
    · obtain ⟨h1, hf⟩ := sw_gd_1 hf
      obtain ⟨h2, hf⟩ := sw_gd_1 hf
      refine sf_blk [(.aload_n 0, 0, 0, .null), (.getfield 130, 12, 77, .null), (.iload_n 2, 0, 0, .null), (.baload, 0, 0, .null)] (lv' := [(0, .ref a0), (1, .int a1), (2, .int a2)]) (st' := [.int (rd_I M (rd_R M a0 77) a2.toNatClampNeg)]) (M1 := M) (ob := [sw_ok M a0 12, sw_ar M (rd_R M a0 77) 14 a2 || sw_ar M (rd_R M a0 77) 15 a2]) (pc' := 82) (by decide +kernel) rfl rfl (sw_a1 h1 (sw_a1 h2 sw_a0)) ?_
      refine sf_z_ne (off := 24) (tgt := 106) (by decide +kernel) (by decide) hf (fun hc hf => ?_) (fun hc hf => ?_)
      · exact sf_weak [0, 1, 2] rfl (t_Model_knows_106 hd _ ih hf)
      · obtain ⟨h3, hf⟩ := sw_gd_1 hf
        refine sf_blk [(.aload_n 0, 0, 0, .null), (.getfield 145, 12, 82, .null), (.iload_n 2, 0, 0, .null), (.baload, 0, 0, .null)] (lv' := [(0, .ref a0), (1, .int a1), (2, .int a2)]) (st' := [.int (rd_I M (rd_R M a0 82) a2.toNatClampNeg)]) (M1 := M) (ob := [sw_ok M a0 12, sw_ar M (rd_R M a0 82) 14 a2 || sw_ar M (rd_R M a0 82) 15 a2]) (pc' := 91) (by decide +kernel) rfl rfl (sw_a1 h1 (sw_a1 h3 sw_a0)) ?_
        refine sf_z_ne (off := 15) (tgt := 106) (by decide +kernel) (by decide) hf (fun hc hf => ?_) (fun hc hf => ?_)
        · exact sf_weak [0, 1, 2] rfl (t_Model_knows_106 hd _ ih hf)
        · refine sf_blk [(.aload_n 0, 0, 0, .null), (.dup, 0, 0, .null), (.getfield 465, 12, 83, .null), (.iconst (1), 0, 0, .int (1 : Int32)), (.iload_n 2, 0, 0, .null), (.ishl, 0, 0, .null), (.ior, 0, 0, .null), (.putfield 465, 12, 83, .null)] (lv' := [(0, .ref a0), (1, .int a1), (2, .int a2)]) (st' := []) (M1 := (wr_I M a0 83 ((rd_I M a0 83) ||| ((1 : Int32) <<< (a2 &&& 31))))) (ob := [sw_ok M a0 12, sw_ok M a0 12]) (pc' := 106) (by decide +kernel) rfl rfl (sw_a1 h1 (sw_a1 h1 sw_a0)) ?_
          exact sf_weak [0, 1, 2] rfl (t_Model_knows_106 hd _ ih hf)
def f_Model_knows_63 (N : Nat) (k29 : Nat → Int32 → Int32 → sw_M → Option (sw_M)) (a0 : Nat) (a1 : Int32) (a2 : Int32) (M : sw_M) : Option (sw_M) :=
  k29 a0 a1 (a2 + (-1 : Int32)) M
set_option maxRecDepth 10000 in
theorem t_Model_knows_63 {g : sw_G} {d n0 : Nat} (hd : 1 ≤ d) {r : sw_M} (k29 : Nat → Int32 → Int32 → sw_M → Option (sw_M)) (hk29 : ∀ (a0 : Nat) (a1 : Int32) (a2 : Int32) (M : sw_M), k29 a0 a1 a2 M = some r → sw_F g k_Model_knows d n0 none r 29 [(0, .ref a0), (1, .int a1), (2, .int a2)] [] M) {N : Nat} {a0 : Nat} {a1 : Int32} {a2 : Int32} {M : sw_M} (hf : f_Model_knows_63 N k29 a0 a1 a2 M = some r) : sw_F g k_Model_knows d n0 none r 63 [(0, .ref a0), (1, .int a1), (2, .int a2)] [] M := by
  unfold f_Model_knows_63 at hf
  refine sf_blk [(.iinc 2 (-1), 0, 0, .int (-1 : Int32))] (lv' := [(2, .int (a2 + (-1 : Int32))), (0, .ref a0), (1, .int a1)]) (st' := []) (M1 := M) (ob := []) (pc' := 66) (by decide +kernel) rfl rfl sw_a0 ?_
  refine sf_goto (off := -37) (tgt := 29) (by decide +kernel) (by decide) ?_
  exact sf_weak [1, 2, 0] rfl (hk29 _ _ _ _ hf)
def f_Model_knows_29 (N : Nat) : Nat → Nat → Int32 → Int32 → sw_M → Option (sw_M)
  | 0, _, _, _, _ => none
  | j + 1, a0, a1, a2, M =>
  if a2 < 0 then f_Model_knows_71 N N a0 a1 (0 : Int32) M
  else sw_gd [sw_ok M a0 12] (sw_gd [sw_ar M (rd_R M a0 77) 14 a2 || sw_ar M (rd_R M a0 77) 15 a2] (if (rd_I M (rd_R M a0 77) a2.toNatClampNeg) = 0 then f_Model_knows_63 N (f_Model_knows_29 N j) a0 a1 a2 M
  else sw_gd [sw_ar M (rd_R M a0 82) 14 a2 || sw_ar M (rd_R M a0 82) 15 a2] (if (rd_I M (rd_R M a0 82) a2.toNatClampNeg) = 0 then sw_gd [sw_ar M (rd_R M a0 79) 13 a2] (sw_gd [(sw_ar M (rd_R M a0 82) 14 (rd_I M (rd_R M a0 79) a2.toNatClampNeg) && decide ((1 : Int32).toInt8.toInt32 = (1 : Int32))) || (sw_ar M (rd_R M a0 82) 15 (rd_I M (rd_R M a0 79) a2.toNatClampNeg) && sw_bz (1 : Int32))] (f_Model_knows_63 N (f_Model_knows_29 N j) a0 a1 a2 (wr_I M (rd_R M a0 82) (rd_I M (rd_R M a0 79) a2.toNatClampNeg).toNatClampNeg (1 : Int32))))
  else f_Model_knows_63 N (f_Model_knows_29 N j) a0 a1 a2 M)))
set_option maxRecDepth 10000 in
theorem t_Model_knows_29 {g : sw_G} {d n0 : Nat} (hd : 1 ≤ d) {r : sw_M} {N : Nat} : ∀ (j : Nat) (a0 : Nat) (a1 : Int32) (a2 : Int32) (M : sw_M), f_Model_knows_29 N j a0 a1 a2 M = some r → sw_F g k_Model_knows d n0 none r 29 [(0, .ref a0), (1, .int a1), (2, .int a2)] [] M := by
  intro j
  induction j with
  | zero =>
    intro a0 a1 a2 M hf
    rw [f_Model_knows_29] at hf
    cases hf
  | succ j ih =>
    intro a0 a1 a2 M hf
    rw [f_Model_knows_29] at hf
    refine sf_blk [(.iload_n 2, 0, 0, .null)] (lv' := [(0, .ref a0), (1, .int a1), (2, .int a2)]) (st' := [.int a2]) (M1 := M) (ob := []) (pc' := 30) (by decide +kernel) rfl rfl sw_a0 ?_
    refine sf_z_lt (off := 39) (tgt := 69) (by decide +kernel) (by decide) hf (fun hc hf => ?_) (fun hc hf => ?_)
    · refine sf_blk [(.iconst (0), 0, 0, .int (0 : Int32)), (.istore_n 2, 0, 0, .null)] (lv' := [(2, .int (0 : Int32)), (0, .ref a0), (1, .int a1)]) (st' := []) (M1 := M) (ob := []) (pc' := 71) (by decide +kernel) rfl rfl sw_a0 ?_
      exact sf_weak [1, 2, 0] rfl (t_Model_knows_71 hd _ _ _ _ _ hf)
    · obtain ⟨h1, hf⟩ := sw_gd_1 hf
      obtain ⟨h2, hf⟩ := sw_gd_1 hf
      refine sf_blk [(.aload_n 0, 0, 0, .null), (.getfield 130, 12, 77, .null), (.iload_n 2, 0, 0, .null), (.baload, 0, 0, .null)] (lv' := [(0, .ref a0), (1, .int a1), (2, .int a2)]) (st' := [.int (rd_I M (rd_R M a0 77) a2.toNatClampNeg)]) (M1 := M) (ob := [sw_ok M a0 12, sw_ar M (rd_R M a0 77) 14 a2 || sw_ar M (rd_R M a0 77) 15 a2]) (pc' := 39) (by decide +kernel) rfl rfl (sw_a1 h1 (sw_a1 h2 sw_a0)) ?_
      refine sf_z_eq (off := 24) (tgt := 63) (by decide +kernel) (by decide) hf (fun hc hf => ?_) (fun hc hf => ?_)
      · exact sf_weak [0, 1, 2] rfl (t_Model_knows_63 hd _ ih hf)
      · obtain ⟨h3, hf⟩ := sw_gd_1 hf
        refine sf_blk [(.aload_n 0, 0, 0, .null), (.getfield 145, 12, 82, .null), (.iload_n 2, 0, 0, .null), (.baload, 0, 0, .null)] (lv' := [(0, .ref a0), (1, .int a1), (2, .int a2)]) (st' := [.int (rd_I M (rd_R M a0 82) a2.toNatClampNeg)]) (M1 := M) (ob := [sw_ok M a0 12, sw_ar M (rd_R M a0 82) 14 a2 || sw_ar M (rd_R M a0 82) 15 a2]) (pc' := 48) (by decide +kernel) rfl rfl (sw_a1 h1 (sw_a1 h3 sw_a0)) ?_
        refine sf_z_ne (off := 15) (tgt := 63) (by decide +kernel) (by decide) hf (fun hc hf => ?_) (fun hc hf => ?_)
        · exact sf_weak [0, 1, 2] rfl (t_Model_knows_63 hd _ ih hf)
        · obtain ⟨h4, hf⟩ := sw_gd_1 hf
          obtain ⟨h5, hf⟩ := sw_gd_1 hf
          refine sf_blk [(.aload_n 0, 0, 0, .null), (.getfield 145, 12, 82, .null), (.aload_n 0, 0, 0, .null), (.getfield 136, 12, 79, .null), (.iload_n 2, 0, 0, .null), (.iaload, 0, 0, .null), (.iconst (1), 0, 0, .int (1 : Int32)), (.bastore, 0, 0, .null)] (lv' := [(0, .ref a0), (1, .int a1), (2, .int a2)]) (st' := []) (M1 := (wr_I M (rd_R M a0 82) (rd_I M (rd_R M a0 79) a2.toNatClampNeg).toNatClampNeg (1 : Int32))) (ob := [sw_ok M a0 12, sw_ok M a0 12, sw_ar M (rd_R M a0 79) 13 a2, (sw_ar M (rd_R M a0 82) 14 (rd_I M (rd_R M a0 79) a2.toNatClampNeg) && decide ((1 : Int32).toInt8.toInt32 = (1 : Int32))) || (sw_ar M (rd_R M a0 82) 15 (rd_I M (rd_R M a0 79) a2.toNatClampNeg) && sw_bz (1 : Int32))]) (pc' := 63) (by decide +kernel) rfl rfl (sw_a1 h1 (sw_a1 h1 (sw_a1 h4 (sw_a1 h5 sw_a0)))) ?_
          exact sf_weak [0, 1, 2] rfl (t_Model_knows_63 hd _ ih hf)
def f_Model_knows_7 (N : Nat) : Nat → Nat → Int32 → Int32 → sw_M → Option (sw_M)
  | 0, _, _, _, _ => none
  | j + 1, a0, a1, a2, M =>
  if a1 ≤ a2 then f_Model_knows_29 N N a0 a1 (a1 - (1 : Int32)) M
  else sw_gd [sw_ok M a0 12] (sw_gd [(sw_ar M (rd_R M a0 82) 14 a2 && decide ((0 : Int32).toInt8.toInt32 = (0 : Int32))) || (sw_ar M (rd_R M a0 82) 15 a2 && sw_bz (0 : Int32))] (f_Model_knows_7 N j a0 a1 (a2 + (1 : Int32)) (wr_I M (rd_R M a0 82) a2.toNatClampNeg (0 : Int32))))
set_option maxRecDepth 10000 in
theorem t_Model_knows_7 {g : sw_G} {d n0 : Nat} (hd : 1 ≤ d) {r : sw_M} {N : Nat} : ∀ (j : Nat) (a0 : Nat) (a1 : Int32) (a2 : Int32) (M : sw_M), f_Model_knows_7 N j a0 a1 a2 M = some r → sw_F g k_Model_knows d n0 none r 7 [(0, .ref a0), (1, .int a1), (2, .int a2)] [] M := by
  intro j
  induction j with
  | zero =>
    intro a0 a1 a2 M hf
    rw [f_Model_knows_7] at hf
    cases hf
  | succ j ih =>
    intro a0 a1 a2 M hf
    rw [f_Model_knows_7] at hf
    refine sf_blk [(.iload_n 2, 0, 0, .null), (.iload_n 1, 0, 0, .null)] (lv' := [(0, .ref a0), (1, .int a1), (2, .int a2)]) (st' := [.int a1, .int a2]) (M1 := M) (ob := []) (pc' := 9) (by decide +kernel) rfl rfl sw_a0 ?_
    refine sf_j_ge (off := 16) (tgt := 25) (by decide +kernel) (by decide) hf (fun hc hf => ?_) (fun hc hf => ?_)
    · refine sf_blk [(.iload_n 1, 0, 0, .null), (.iconst (1), 0, 0, .int (1 : Int32)), (.isub, 0, 0, .null), (.istore_n 2, 0, 0, .null)] (lv' := [(2, .int (a1 - (1 : Int32))), (0, .ref a0), (1, .int a1)]) (st' := []) (M1 := M) (ob := []) (pc' := 29) (by decide +kernel) rfl rfl sw_a0 ?_
      exact sf_weak [1, 2, 0] rfl (t_Model_knows_29 hd _ _ _ _ _ hf)
    · obtain ⟨h1, hf⟩ := sw_gd_1 hf
      obtain ⟨h2, hf⟩ := sw_gd_1 hf
      refine sf_blk [(.aload_n 0, 0, 0, .null), (.getfield 145, 12, 82, .null), (.iload_n 2, 0, 0, .null), (.iconst (0), 0, 0, .int (0 : Int32)), (.bastore, 0, 0, .null), (.iinc 2 (1), 0, 0, .int (1 : Int32))] (lv' := [(2, .int (a2 + (1 : Int32))), (0, .ref a0), (1, .int a1)]) (st' := []) (M1 := (wr_I M (rd_R M a0 82) a2.toNatClampNeg (0 : Int32))) (ob := [sw_ok M a0 12, (sw_ar M (rd_R M a0 82) 14 a2 && decide ((0 : Int32).toInt8.toInt32 = (0 : Int32))) || (sw_ar M (rd_R M a0 82) 15 a2 && sw_bz (0 : Int32))]) (pc' := 22) (by decide +kernel) rfl rfl (sw_a1 h1 (sw_a1 h2 sw_a0)) ?_
      refine sf_goto (off := -15) (tgt := 7) (by decide +kernel) (by decide) ?_
      exact sf_weak [1, 2, 0] rfl (ih _ _ _ _ hf)
def f_Model_knows (N : Nat) (a0 : Nat) (a1 : Int32) (M : sw_M) : Option (sw_M) :=
  sw_gd [sw_ok M a0 12] (f_Model_knows_7 N N a0 a1 (0 : Int32) (wr_I M a0 83 (0 : Int32)))
set_option maxRecDepth 10000 in
theorem t_Model_knows {g : sw_G} {d n0 : Nat} (hd : 1 ≤ d) {r : sw_M} {N : Nat} {a0 : Nat} {a1 : Int32} {M : sw_M} (hf : f_Model_knows N a0 a1 M = some r) : sw_F g k_Model_knows d n0 none r 0 [(0, .ref a0), (1, .int a1)] [] M := by
  unfold f_Model_knows at hf
  obtain ⟨h1, hf⟩ := sw_gd_1 hf
  refine sf_blk [(.aload_n 0, 0, 0, .null), (.iconst (0), 0, 0, .int (0 : Int32)), (.putfield 465, 12, 83, .null), (.iconst (0), 0, 0, .int (0 : Int32)), (.istore_n 2, 0, 0, .null)] (lv' := [(2, .int (0 : Int32)), (0, .ref a0), (1, .int a1)]) (st' := []) (M1 := (wr_I M a0 83 (0 : Int32))) (ob := [sw_ok M a0 12]) (pc' := 7) (by decide +kernel) rfl rfl (sw_a1 h1 sw_a0) ?_
  exact sf_weak [1, 2, 0] rfl (t_Model_knows_7 hd _ _ _ _ _ hf)
theorem o_Model_knows (g : sw_G) {d : Nat} (hd : 1 ≤ d) {N : Nat} {a0 : Nat} {a1 : Int32} {M : sw_M} {r : sw_M} (hf : f_Model_knows N a0 a1 M = some r) : sw_Ok g k_Model_knows d [.ref a0, .int a1] M none r := sf_met (by decide +kernel) rfl (by decide) (Nat.le_of_ble_eq_true rfl) (t_Model_knows hd hf)
def f_Model_firstWeights_54 (N : Nat) (k7 : Nat → Int32 → sw_M → Option (Int32 × sw_M)) (a0 : Nat) (a1 : Int32) (M : sw_M) : Option (Int32 × sw_M) :=
  k7 a0 (a1 + (1 : Int32)) M
set_option maxRecDepth 10000 in
theorem t_Model_firstWeights_54 {g : sw_G} {d n0 : Nat} (hd : 1 ≤ d) {r : Int32 × sw_M} (k7 : Nat → Int32 → sw_M → Option (Int32 × sw_M)) (hk7 : ∀ (a0 : Nat) (a1 : Int32) (M : sw_M), k7 a0 a1 M = some r → sw_F g k_Model_firstWeights d n0 (some (.int r.1)) r.2 7 [(0, .ref a0), (1, .int a1)] [] M) {N : Nat} {a0 : Nat} {a1 : Int32} {M : sw_M} (hf : f_Model_firstWeights_54 N k7 a0 a1 M = some r) : sw_F g k_Model_firstWeights d n0 (some (.int r.1)) r.2 54 [(0, .ref a0), (1, .int a1)] [] M := by
  unfold f_Model_firstWeights_54 at hf
  refine sf_blk [(.iinc 1 (1), 0, 0, .int (1 : Int32))] (lv' := [(1, .int (a1 + (1 : Int32))), (0, .ref a0)]) (st' := []) (M1 := M) (ob := []) (pc' := 57) (by decide +kernel) rfl rfl sw_a0 ?_
  refine sf_goto (off := -50) (tgt := 7) (by decide +kernel) (by decide) ?_
  exact sf_weak [1, 0] rfl (hk7 _ _ _ hf)
def f_Model_firstWeights_7 (N : Nat) : Nat → Nat → Int32 → sw_M → Option (Int32 × sw_M)
  | 0, _, _, _ => none
  | j + 1, a0, a1, M =>
  sw_gd [sw_ok M a0 12] (if (rd_I M a0 50) ≤ a1 then if (rd_I M a0 86) = 0 then some ((0 : Int32), M)
  else sw_gd [sw_ar M (rd_R M a0 85) 13 (0 : Int32)] (sw_gd [sw_ar M (rd_R M a0 84) 13 (rd_I M (rd_R M a0 85) (0 : Int32).toNatClampNeg)] (some ((1 : Int32), (wr_I M (rd_R M a0 84) (rd_I M (rd_R M a0 85) (0 : Int32).toNatClampNeg).toNatClampNeg (rd_I M a0 75)))))
  else sw_gd [sw_ar M (rd_R M a0 84) 13 a1] (sw_gd [sw_ar (wr_I M (rd_R M a0 84) a1.toNatClampNeg (0 : Int32)) (rd_R (wr_I M (rd_R M a0 84) a1.toNatClampNeg (0 : Int32)) a0 68) 14 a1 || sw_ar (wr_I M (rd_R M a0 84) a1.toNatClampNeg (0 : Int32)) (rd_R (wr_I M (rd_R M a0 84) a1.toNatClampNeg (0 : Int32)) a0 68) 15 a1] (if (rd_I (wr_I M (rd_R M a0 84) a1.toNatClampNeg (0 : Int32)) (rd_R (wr_I M (rd_R M a0 84) a1.toNatClampNeg (0 : Int32)) a0 68) a1.toNatClampNeg) = 0 then f_Model_firstWeights_54 N (f_Model_firstWeights_7 N j) a0 a1 (wr_I M (rd_R M a0 84) a1.toNatClampNeg (0 : Int32))
  else sw_gd [sw_ar (wr_I M (rd_R M a0 84) a1.toNatClampNeg (0 : Int32)) (rd_R (wr_I M (rd_R M a0 84) a1.toNatClampNeg (0 : Int32)) a0 85) 13 (rd_I (wr_I M (rd_R M a0 84) a1.toNatClampNeg (0 : Int32)) a0 86)] (f_Model_firstWeights_54 N (f_Model_firstWeights_7 N j) a0 a1 (wr_I (wr_I (wr_I M (rd_R M a0 84) a1.toNatClampNeg (0 : Int32)) (rd_R (wr_I M (rd_R M a0 84) a1.toNatClampNeg (0 : Int32)) a0 85) (rd_I (wr_I M (rd_R M a0 84) a1.toNatClampNeg (0 : Int32)) a0 86).toNatClampNeg a1) a0 86 ((rd_I (wr_I (wr_I M (rd_R M a0 84) a1.toNatClampNeg (0 : Int32)) (rd_R (wr_I M (rd_R M a0 84) a1.toNatClampNeg (0 : Int32)) a0 85) (rd_I (wr_I M (rd_R M a0 84) a1.toNatClampNeg (0 : Int32)) a0 86).toNatClampNeg a1) a0 86) + (1 : Int32)))))))
set_option maxRecDepth 10000 in
theorem t_Model_firstWeights_7 {g : sw_G} {d n0 : Nat} (hd : 1 ≤ d) {r : Int32 × sw_M} {N : Nat} : ∀ (j : Nat) (a0 : Nat) (a1 : Int32) (M : sw_M), f_Model_firstWeights_7 N j a0 a1 M = some r → sw_F g k_Model_firstWeights d n0 (some (.int r.1)) r.2 7 [(0, .ref a0), (1, .int a1)] [] M := by
  intro j
  induction j with
  | zero =>
    intro a0 a1 M hf
    rw [f_Model_firstWeights_7] at hf
    cases hf
  | succ j ih =>
    intro a0 a1 M hf
    rw [f_Model_firstWeights_7] at hf
    obtain ⟨h1, hf⟩ := sw_gd_1 hf
    refine sf_blk [(.iload_n 1, 0, 0, .null), (.aload_n 0, 0, 0, .null), (.getfield 397, 12, 50, .null)] (lv' := [(0, .ref a0), (1, .int a1)]) (st' := [.int (rd_I M a0 50), .int a1]) (M1 := M) (ob := [sw_ok M a0 12]) (pc' := 12) (by decide +kernel) rfl rfl (sw_a1 h1 sw_a0) ?_
    refine sf_j_ge (off := 48) (tgt := 60) (by decide +kernel) (by decide) hf (fun hc hf => ?_) (fun hc hf => ?_)
    · refine sf_blk [(.aload_n 0, 0, 0, .null), (.getfield 468, 12, 86, .null)] (lv' := [(0, .ref a0), (1, .int a1)]) (st' := [.int (rd_I M a0 86)]) (M1 := M) (ob := [sw_ok M a0 12]) (pc' := 64) (by decide +kernel) rfl rfl (sw_a1 h1 sw_a0) ?_
      refine sf_z_ne (off := 5) (tgt := 69) (by decide +kernel) (by decide) hf (fun hc hf => ?_) (fun hc hf => ?_)
      · obtain ⟨h2, hf⟩ := sw_gd_1 hf
        obtain ⟨h3, hf⟩ := sw_gd_1 hf
        refine sf_blk [(.aload_n 0, 0, 0, .null), (.getfield 148, 12, 84, .null), (.aload_n 0, 0, 0, .null), (.getfield 151, 12, 85, .null), (.iconst (0), 0, 0, .int (0 : Int32)), (.iaload, 0, 0, .null), (.aload_n 0, 0, 0, .null), (.getfield 127, 12, 75, .null), (.iastore, 0, 0, .null), (.iconst (1), 0, 0, .int (1 : Int32))] (lv' := [(0, .ref a0), (1, .int a1)]) (st' := [.int (1 : Int32)]) (M1 := (wr_I M (rd_R M a0 84) (rd_I M (rd_R M a0 85) (0 : Int32).toNatClampNeg).toNatClampNeg (rd_I M a0 75))) (ob := [sw_ok M a0 12, sw_ok M a0 12, sw_ar M (rd_R M a0 85) 13 (0 : Int32), sw_ok M a0 12, sw_ar M (rd_R M a0 84) 13 (rd_I M (rd_R M a0 85) (0 : Int32).toNatClampNeg)]) (pc' := 85) (by decide +kernel) rfl rfl (sw_a1 h1 (sw_a1 h1 (sw_a1 h2 (sw_a1 h1 (sw_a1 h3 sw_a0))))) ?_
        cases hf
        exact sf_bool rfl rfl (by decide +kernel)
      · refine sf_blk [(.iconst (0), 0, 0, .int (0 : Int32))] (lv' := [(0, .ref a0), (1, .int a1)]) (st' := [.int (0 : Int32)]) (M1 := M) (ob := []) (pc' := 68) (by decide +kernel) rfl rfl sw_a0 ?_
        cases hf
        exact sf_bool rfl rfl (by decide +kernel)
    · obtain ⟨h4, hf⟩ := sw_gd_1 hf
      obtain ⟨h5, hf⟩ := sw_gd_1 hf
      refine sf_blk [(.aload_n 0, 0, 0, .null), (.getfield 148, 12, 84, .null), (.iload_n 1, 0, 0, .null), (.iconst (0), 0, 0, .int (0 : Int32)), (.iastore, 0, 0, .null), (.aload_n 0, 0, 0, .null), (.getfield 109, 12, 68, .null), (.iload_n 1, 0, 0, .null), (.baload, 0, 0, .null)] (lv' := [(0, .ref a0), (1, .int a1)]) (st' := [.int (rd_I (wr_I M (rd_R M a0 84) a1.toNatClampNeg (0 : Int32)) (rd_R (wr_I M (rd_R M a0 84) a1.toNatClampNeg (0 : Int32)) a0 68) a1.toNatClampNeg)]) (M1 := (wr_I M (rd_R M a0 84) a1.toNatClampNeg (0 : Int32))) (ob := [sw_ok M a0 12, sw_ar M (rd_R M a0 84) 13 a1, sw_ok (wr_I M (rd_R M a0 84) a1.toNatClampNeg (0 : Int32)) a0 12, sw_ar (wr_I M (rd_R M a0 84) a1.toNatClampNeg (0 : Int32)) (rd_R (wr_I M (rd_R M a0 84) a1.toNatClampNeg (0 : Int32)) a0 68) 14 a1 || sw_ar (wr_I M (rd_R M a0 84) a1.toNatClampNeg (0 : Int32)) (rd_R (wr_I M (rd_R M a0 84) a1.toNatClampNeg (0 : Int32)) a0 68) 15 a1]) (pc' := 28) (by decide +kernel) rfl rfl (sw_a1 h1 (sw_a1 h4 (sw_a1 h1 (sw_a1 h5 sw_a0)))) ?_
      refine sf_z_ne (off := 6) (tgt := 34) (by decide +kernel) (by decide) hf (fun hc hf => ?_) (fun hc hf => ?_)
      · obtain ⟨h6, hf⟩ := sw_gd_1 hf
        refine sf_blk [(.aload_n 0, 0, 0, .null), (.getfield 151, 12, 85, .null), (.aload_n 0, 0, 0, .null), (.getfield 468, 12, 86, .null), (.iload_n 1, 0, 0, .null), (.iastore, 0, 0, .null), (.aload_n 0, 0, 0, .null), (.dup, 0, 0, .null), (.getfield 468, 12, 86, .null), (.iconst (1), 0, 0, .int (1 : Int32)), (.iadd, 0, 0, .null), (.putfield 468, 12, 86, .null)] (lv' := [(0, .ref a0), (1, .int a1)]) (st' := []) (M1 := (wr_I (wr_I (wr_I M (rd_R M a0 84) a1.toNatClampNeg (0 : Int32)) (rd_R (wr_I M (rd_R M a0 84) a1.toNatClampNeg (0 : Int32)) a0 85) (rd_I (wr_I M (rd_R M a0 84) a1.toNatClampNeg (0 : Int32)) a0 86).toNatClampNeg a1) a0 86 ((rd_I (wr_I (wr_I M (rd_R M a0 84) a1.toNatClampNeg (0 : Int32)) (rd_R (wr_I M (rd_R M a0 84) a1.toNatClampNeg (0 : Int32)) a0 85) (rd_I (wr_I M (rd_R M a0 84) a1.toNatClampNeg (0 : Int32)) a0 86).toNatClampNeg a1) a0 86) + (1 : Int32)))) (ob := [sw_ok (wr_I M (rd_R M a0 84) a1.toNatClampNeg (0 : Int32)) a0 12, sw_ok (wr_I M (rd_R M a0 84) a1.toNatClampNeg (0 : Int32)) a0 12, sw_ar (wr_I M (rd_R M a0 84) a1.toNatClampNeg (0 : Int32)) (rd_R (wr_I M (rd_R M a0 84) a1.toNatClampNeg (0 : Int32)) a0 85) 13 (rd_I (wr_I M (rd_R M a0 84) a1.toNatClampNeg (0 : Int32)) a0 86), sw_ok (wr_I (wr_I M (rd_R M a0 84) a1.toNatClampNeg (0 : Int32)) (rd_R (wr_I M (rd_R M a0 84) a1.toNatClampNeg (0 : Int32)) a0 85) (rd_I (wr_I M (rd_R M a0 84) a1.toNatClampNeg (0 : Int32)) a0 86).toNatClampNeg a1) a0 12, sw_ok (wr_I (wr_I M (rd_R M a0 84) a1.toNatClampNeg (0 : Int32)) (rd_R (wr_I M (rd_R M a0 84) a1.toNatClampNeg (0 : Int32)) a0 85) (rd_I (wr_I M (rd_R M a0 84) a1.toNatClampNeg (0 : Int32)) a0 86).toNatClampNeg a1) a0 12]) (pc' := 54) (by decide +kernel) rfl rfl (sw_a1 h1 (sw_a1 h1 (sw_a1 h6 (sw_a1 h1 (sw_a1 h1 sw_a0))))) ?_
        exact sf_weak [0, 1] rfl (t_Model_firstWeights_54 hd _ ih hf)
      · refine sf_goto (off := 23) (tgt := 54) (by decide +kernel) (by decide) ?_
        exact sf_weak [0, 1] rfl (t_Model_firstWeights_54 hd _ ih hf)
def f_Model_firstWeights (N : Nat) (a0 : Nat) (M : sw_M) : Option (Int32 × sw_M) :=
  sw_gd [sw_ok M a0 12] (f_Model_firstWeights_7 N N a0 (0 : Int32) (wr_I M a0 86 (0 : Int32)))
set_option maxRecDepth 10000 in
theorem t_Model_firstWeights {g : sw_G} {d n0 : Nat} (hd : 1 ≤ d) {r : Int32 × sw_M} {N : Nat} {a0 : Nat} {M : sw_M} (hf : f_Model_firstWeights N a0 M = some r) : sw_F g k_Model_firstWeights d n0 (some (.int r.1)) r.2 0 [(0, .ref a0)] [] M := by
  unfold f_Model_firstWeights at hf
  obtain ⟨h1, hf⟩ := sw_gd_1 hf
  refine sf_blk [(.aload_n 0, 0, 0, .null), (.iconst (0), 0, 0, .int (0 : Int32)), (.putfield 468, 12, 86, .null), (.iconst (0), 0, 0, .int (0 : Int32)), (.istore_n 1, 0, 0, .null)] (lv' := [(1, .int (0 : Int32)), (0, .ref a0)]) (st' := []) (M1 := (wr_I M a0 86 (0 : Int32))) (ob := [sw_ok M a0 12]) (pc' := 7) (by decide +kernel) rfl rfl (sw_a1 h1 sw_a0) ?_
  exact sf_weak [1, 0] rfl (t_Model_firstWeights_7 hd _ _ _ _ hf)
theorem o_Model_firstWeights (g : sw_G) {d : Nat} (hd : 1 ≤ d) {N : Nat} {a0 : Nat} {M : sw_M} {r : Int32 × sw_M} (hf : f_Model_firstWeights N a0 M = some r) : sw_Ok g k_Model_firstWeights d [.ref a0] M (some (.int r.1)) r.2 := sf_met (by decide +kernel) rfl (by decide) (Nat.le_of_ble_eq_true rfl) (t_Model_firstWeights hd hf)
def f_Model_nextWeights_102 (N : Nat) (M : sw_M) : Option (Int32 × sw_M) :=
  some ((1 : Int32), M)
set_option maxRecDepth 10000 in
theorem t_Model_nextWeights_102 {g : sw_G} {d n0 : Nat} (hd : 1 ≤ d) {r : Int32 × sw_M} {N : Nat} {M : sw_M} (hf : f_Model_nextWeights_102 N M = some r) : sw_F g k_Model_nextWeights d n0 (some (.int r.1)) r.2 102 [] [] M := by
  unfold f_Model_nextWeights_102 at hf
  refine sf_blk [(.iconst (1), 0, 0, .int (1 : Int32))] (lv' := []) (st' := [.int (1 : Int32)]) (M1 := M) (ob := []) (pc' := 103) (by decide +kernel) rfl rfl sw_a0 ?_
  cases hf
  exact sf_bool rfl rfl (by decide +kernel)
def f_Model_nextWeights_31 (N : Nat) (a0 : Nat) (a1 : Int32) (M : sw_M) : Option (Int32 × sw_M) :=
  if 0 ≤ a1 then sw_gd [sw_ok M a0 12] (sw_gd [sw_ar M (rd_R M a0 85) 13 ((rd_I M a0 86) - (1 : Int32))] (sw_gd [sw_ar M (rd_R M a0 84) 13 (rd_I M (rd_R M a0 85) ((rd_I M a0 86) - (1 : Int32)).toNatClampNeg)] (sw_gd [sw_ar (wr_I M (rd_R M a0 84) (rd_I M (rd_R M a0 85) ((rd_I M a0 86) - (1 : Int32)).toNatClampNeg).toNatClampNeg (0 : Int32)) (rd_R (wr_I M (rd_R M a0 84) (rd_I M (rd_R M a0 85) ((rd_I M a0 86) - (1 : Int32)).toNatClampNeg).toNatClampNeg (0 : Int32)) a0 85) 13 a1] (sw_gd [sw_ar (wr_I M (rd_R M a0 84) (rd_I M (rd_R M a0 85) ((rd_I M a0 86) - (1 : Int32)).toNatClampNeg).toNatClampNeg (0 : Int32)) (rd_R (wr_I M (rd_R M a0 84) (rd_I M (rd_R M a0 85) ((rd_I M a0 86) - (1 : Int32)).toNatClampNeg).toNatClampNeg (0 : Int32)) a0 84) 13 (rd_I (wr_I M (rd_R M a0 84) (rd_I M (rd_R M a0 85) ((rd_I M a0 86) - (1 : Int32)).toNatClampNeg).toNatClampNeg (0 : Int32)) (rd_R (wr_I M (rd_R M a0 84) (rd_I M (rd_R M a0 85) ((rd_I M a0 86) - (1 : Int32)).toNatClampNeg).toNatClampNeg (0 : Int32)) a0 85) a1.toNatClampNeg)] (sw_gd [sw_ar (wr_I (wr_I M (rd_R M a0 84) (rd_I M (rd_R M a0 85) ((rd_I M a0 86) - (1 : Int32)).toNatClampNeg).toNatClampNeg (0 : Int32)) (rd_R (wr_I M (rd_R M a0 84) (rd_I M (rd_R M a0 85) ((rd_I M a0 86) - (1 : Int32)).toNatClampNeg).toNatClampNeg (0 : Int32)) a0 84) (rd_I (wr_I M (rd_R M a0 84) (rd_I M (rd_R M a0 85) ((rd_I M a0 86) - (1 : Int32)).toNatClampNeg).toNatClampNeg (0 : Int32)) (rd_R (wr_I M (rd_R M a0 84) (rd_I M (rd_R M a0 85) ((rd_I M a0 86) - (1 : Int32)).toNatClampNeg).toNatClampNeg (0 : Int32)) a0 85) a1.toNatClampNeg).toNatClampNeg ((rd_I (wr_I M (rd_R M a0 84) (rd_I M (rd_R M a0 85) ((rd_I M a0 86) - (1 : Int32)).toNatClampNeg).toNatClampNeg (0 : Int32)) (rd_R (wr_I M (rd_R M a0 84) (rd_I M (rd_R M a0 85) ((rd_I M a0 86) - (1 : Int32)).toNatClampNeg).toNatClampNeg (0 : Int32)) a0 84) (rd_I (wr_I M (rd_R M a0 84) (rd_I M (rd_R M a0 85) ((rd_I M a0 86) - (1 : Int32)).toNatClampNeg).toNatClampNeg (0 : Int32)) (rd_R (wr_I M (rd_R M a0 84) (rd_I M (rd_R M a0 85) ((rd_I M a0 86) - (1 : Int32)).toNatClampNeg).toNatClampNeg (0 : Int32)) a0 85) a1.toNatClampNeg).toNatClampNeg) - (1 : Int32))) (rd_R (wr_I (wr_I M (rd_R M a0 84) (rd_I M (rd_R M a0 85) ((rd_I M a0 86) - (1 : Int32)).toNatClampNeg).toNatClampNeg (0 : Int32)) (rd_R (wr_I M (rd_R M a0 84) (rd_I M (rd_R M a0 85) ((rd_I M a0 86) - (1 : Int32)).toNatClampNeg).toNatClampNeg (0 : Int32)) a0 84) (rd_I (wr_I M (rd_R M a0 84) (rd_I M (rd_R M a0 85) ((rd_I M a0 86) - (1 : Int32)).toNatClampNeg).toNatClampNeg (0 : Int32)) (rd_R (wr_I M (rd_R M a0 84) (rd_I M (rd_R M a0 85) ((rd_I M a0 86) - (1 : Int32)).toNatClampNeg).toNatClampNeg (0 : Int32)) a0 85) a1.toNatClampNeg).toNatClampNeg ((rd_I (wr_I M (rd_R M a0 84) (rd_I M (rd_R M a0 85) ((rd_I M a0 86) - (1 : Int32)).toNatClampNeg).toNatClampNeg (0 : Int32)) (rd_R (wr_I M (rd_R M a0 84) (rd_I M (rd_R M a0 85) ((rd_I M a0 86) - (1 : Int32)).toNatClampNeg).toNatClampNeg (0 : Int32)) a0 84) (rd_I (wr_I M (rd_R M a0 84) (rd_I M (rd_R M a0 85) ((rd_I M a0 86) - (1 : Int32)).toNatClampNeg).toNatClampNeg (0 : Int32)) (rd_R (wr_I M (rd_R M a0 84) (rd_I M (rd_R M a0 85) ((rd_I M a0 86) - (1 : Int32)).toNatClampNeg).toNatClampNeg (0 : Int32)) a0 85) a1.toNatClampNeg).toNatClampNeg) - (1 : Int32))) a0 85) 13 (a1 + (1 : Int32))] (sw_gd [sw_ar (wr_I (wr_I M (rd_R M a0 84) (rd_I M (rd_R M a0 85) ((rd_I M a0 86) - (1 : Int32)).toNatClampNeg).toNatClampNeg (0 : Int32)) (rd_R (wr_I M (rd_R M a0 84) (rd_I M (rd_R M a0 85) ((rd_I M a0 86) - (1 : Int32)).toNatClampNeg).toNatClampNeg (0 : Int32)) a0 84) (rd_I (wr_I M (rd_R M a0 84) (rd_I M (rd_R M a0 85) ((rd_I M a0 86) - (1 : Int32)).toNatClampNeg).toNatClampNeg (0 : Int32)) (rd_R (wr_I M (rd_R M a0 84) (rd_I M (rd_R M a0 85) ((rd_I M a0 86) - (1 : Int32)).toNatClampNeg).toNatClampNeg (0 : Int32)) a0 85) a1.toNatClampNeg).toNatClampNeg ((rd_I (wr_I M (rd_R M a0 84) (rd_I M (rd_R M a0 85) ((rd_I M a0 86) - (1 : Int32)).toNatClampNeg).toNatClampNeg (0 : Int32)) (rd_R (wr_I M (rd_R M a0 84) (rd_I M (rd_R M a0 85) ((rd_I M a0 86) - (1 : Int32)).toNatClampNeg).toNatClampNeg (0 : Int32)) a0 84) (rd_I (wr_I M (rd_R M a0 84) (rd_I M (rd_R M a0 85) ((rd_I M a0 86) - (1 : Int32)).toNatClampNeg).toNatClampNeg (0 : Int32)) (rd_R (wr_I M (rd_R M a0 84) (rd_I M (rd_R M a0 85) ((rd_I M a0 86) - (1 : Int32)).toNatClampNeg).toNatClampNeg (0 : Int32)) a0 85) a1.toNatClampNeg).toNatClampNeg) - (1 : Int32))) (rd_R (wr_I (wr_I M (rd_R M a0 84) (rd_I M (rd_R M a0 85) ((rd_I M a0 86) - (1 : Int32)).toNatClampNeg).toNatClampNeg (0 : Int32)) (rd_R (wr_I M (rd_R M a0 84) (rd_I M (rd_R M a0 85) ((rd_I M a0 86) - (1 : Int32)).toNatClampNeg).toNatClampNeg (0 : Int32)) a0 84) (rd_I (wr_I M (rd_R M a0 84) (rd_I M (rd_R M a0 85) ((rd_I M a0 86) - (1 : Int32)).toNatClampNeg).toNatClampNeg (0 : Int32)) (rd_R (wr_I M (rd_R M a0 84) (rd_I M (rd_R M a0 85) ((rd_I M a0 86) - (1 : Int32)).toNatClampNeg).toNatClampNeg (0 : Int32)) a0 85) a1.toNatClampNeg).toNatClampNeg ((rd_I (wr_I M (rd_R M a0 84) (rd_I M (rd_R M a0 85) ((rd_I M a0 86) - (1 : Int32)).toNatClampNeg).toNatClampNeg (0 : Int32)) (rd_R (wr_I M (rd_R M a0 84) (rd_I M (rd_R M a0 85) ((rd_I M a0 86) - (1 : Int32)).toNatClampNeg).toNatClampNeg (0 : Int32)) a0 84) (rd_I (wr_I M (rd_R M a0 84) (rd_I M (rd_R M a0 85) ((rd_I M a0 86) - (1 : Int32)).toNatClampNeg).toNatClampNeg (0 : Int32)) (rd_R (wr_I M (rd_R M a0 84) (rd_I M (rd_R M a0 85) ((rd_I M a0 86) - (1 : Int32)).toNatClampNeg).toNatClampNeg (0 : Int32)) a0 85) a1.toNatClampNeg).toNatClampNeg) - (1 : Int32))) a0 84) 13 (rd_I (wr_I (wr_I M (rd_R M a0 84) (rd_I M (rd_R M a0 85) ((rd_I M a0 86) - (1 : Int32)).toNatClampNeg).toNatClampNeg (0 : Int32)) (rd_R (wr_I M (rd_R M a0 84) (rd_I M (rd_R M a0 85) ((rd_I M a0 86) - (1 : Int32)).toNatClampNeg).toNatClampNeg (0 : Int32)) a0 84) (rd_I (wr_I M (rd_R M a0 84) (rd_I M (rd_R M a0 85) ((rd_I M a0 86) - (1 : Int32)).toNatClampNeg).toNatClampNeg (0 : Int32)) (rd_R (wr_I M (rd_R M a0 84) (rd_I M (rd_R M a0 85) ((rd_I M a0 86) - (1 : Int32)).toNatClampNeg).toNatClampNeg (0 : Int32)) a0 85) a1.toNatClampNeg).toNatClampNeg ((rd_I (wr_I M (rd_R M a0 84) (rd_I M (rd_R M a0 85) ((rd_I M a0 86) - (1 : Int32)).toNatClampNeg).toNatClampNeg (0 : Int32)) (rd_R (wr_I M (rd_R M a0 84) (rd_I M (rd_R M a0 85) ((rd_I M a0 86) - (1 : Int32)).toNatClampNeg).toNatClampNeg (0 : Int32)) a0 84) (rd_I (wr_I M (rd_R M a0 84) (rd_I M (rd_R M a0 85) ((rd_I M a0 86) - (1 : Int32)).toNatClampNeg).toNatClampNeg (0 : Int32)) (rd_R (wr_I M (rd_R M a0 84) (rd_I M (rd_R M a0 85) ((rd_I M a0 86) - (1 : Int32)).toNatClampNeg).toNatClampNeg (0 : Int32)) a0 85) a1.toNatClampNeg).toNatClampNeg) - (1 : Int32))) (rd_R (wr_I (wr_I M (rd_R M a0 84) (rd_I M (rd_R M a0 85) ((rd_I M a0 86) - (1 : Int32)).toNatClampNeg).toNatClampNeg (0 : Int32)) (rd_R (wr_I M (rd_R M a0 84) (rd_I M (rd_R M a0 85) ((rd_I M a0 86) - (1 : Int32)).toNatClampNeg).toNatClampNeg (0 : Int32)) a0 84) (rd_I (wr_I M (rd_R M a0 84) (rd_I M (rd_R M a0 85) ((rd_I M a0 86) - (1 : Int32)).toNatClampNeg).toNatClampNeg (0 : Int32)) (rd_R (wr_I M (rd_R M a0 84) (rd_I M (rd_R M a0 85) ((rd_I M a0 86) - (1 : Int32)).toNatClampNeg).toNatClampNeg (0 : Int32)) a0 85) a1.toNatClampNeg).toNatClampNeg ((rd_I (wr_I M (rd_R M a0 84) (rd_I M (rd_R M a0 85) ((rd_I M a0 86) - (1 : Int32)).toNatClampNeg).toNatClampNeg (0 : Int32)) (rd_R (wr_I M (rd_R M a0 84) (rd_I M (rd_R M a0 85) ((rd_I M a0 86) - (1 : Int32)).toNatClampNeg).toNatClampNeg (0 : Int32)) a0 84) (rd_I (wr_I M (rd_R M a0 84) (rd_I M (rd_R M a0 85) ((rd_I M a0 86) - (1 : Int32)).toNatClampNeg).toNatClampNeg (0 : Int32)) (rd_R (wr_I M (rd_R M a0 84) (rd_I M (rd_R M a0 85) ((rd_I M a0 86) - (1 : Int32)).toNatClampNeg).toNatClampNeg (0 : Int32)) a0 85) a1.toNatClampNeg).toNatClampNeg) - (1 : Int32))) a0 85) (a1 + (1 : Int32)).toNatClampNeg)] (f_Model_nextWeights_102 N (wr_I (wr_I (wr_I M (rd_R M a0 84) (rd_I M (rd_R M a0 85) ((rd_I M a0 86) - (1 : Int32)).toNatClampNeg).toNatClampNeg (0 : Int32)) (rd_R (wr_I M (rd_R M a0 84) (rd_I M (rd_R M a0 85) ((rd_I M a0 86) - (1 : Int32)).toNatClampNeg).toNatClampNeg (0 : Int32)) a0 84) (rd_I (wr_I M (rd_R M a0 84) (rd_I M (rd_R M a0 85) ((rd_I M a0 86) - (1 : Int32)).toNatClampNeg).toNatClampNeg (0 : Int32)) (rd_R (wr_I M (rd_R M a0 84) (rd_I M (rd_R M a0 85) ((rd_I M a0 86) - (1 : Int32)).toNatClampNeg).toNatClampNeg (0 : Int32)) a0 85) a1.toNatClampNeg).toNatClampNeg ((rd_I (wr_I M (rd_R M a0 84) (rd_I M (rd_R M a0 85) ((rd_I M a0 86) - (1 : Int32)).toNatClampNeg).toNatClampNeg (0 : Int32)) (rd_R (wr_I M (rd_R M a0 84) (rd_I M (rd_R M a0 85) ((rd_I M a0 86) - (1 : Int32)).toNatClampNeg).toNatClampNeg (0 : Int32)) a0 84) (rd_I (wr_I M (rd_R M a0 84) (rd_I M (rd_R M a0 85) ((rd_I M a0 86) - (1 : Int32)).toNatClampNeg).toNatClampNeg (0 : Int32)) (rd_R (wr_I M (rd_R M a0 84) (rd_I M (rd_R M a0 85) ((rd_I M a0 86) - (1 : Int32)).toNatClampNeg).toNatClampNeg (0 : Int32)) a0 85) a1.toNatClampNeg).toNatClampNeg) - (1 : Int32))) (rd_R (wr_I (wr_I M (rd_R M a0 84) (rd_I M (rd_R M a0 85) ((rd_I M a0 86) - (1 : Int32)).toNatClampNeg).toNatClampNeg (0 : Int32)) (rd_R (wr_I M (rd_R M a0 84) (rd_I M (rd_R M a0 85) ((rd_I M a0 86) - (1 : Int32)).toNatClampNeg).toNatClampNeg (0 : Int32)) a0 84) (rd_I (wr_I M (rd_R M a0 84) (rd_I M (rd_R M a0 85) ((rd_I M a0 86) - (1 : Int32)).toNatClampNeg).toNatClampNeg (0 : Int32)) (rd_R (wr_I M (rd_R M a0 84) (rd_I M (rd_R M a0 85) ((rd_I M a0 86) - (1 : Int32)).toNatClampNeg).toNatClampNeg (0 : Int32)) a0 85) a1.toNatClampNeg).toNatClampNeg ((rd_I (wr_I M (rd_R M a0 84) (rd_I M (rd_R M a0 85) ((rd_I M a0 86) - (1 : Int32)).toNatClampNeg).toNatClampNeg (0 : Int32)) (rd_R (wr_I M (rd_R M a0 84) (rd_I M (rd_R M a0 85) ((rd_I M a0 86) - (1 : Int32)).toNatClampNeg).toNatClampNeg (0 : Int32)) a0 84) (rd_I (wr_I M (rd_R M a0 84) (rd_I M (rd_R M a0 85) ((rd_I M a0 86) - (1 : Int32)).toNatClampNeg).toNatClampNeg (0 : Int32)) (rd_R (wr_I M (rd_R M a0 84) (rd_I M (rd_R M a0 85) ((rd_I M a0 86) - (1 : Int32)).toNatClampNeg).toNatClampNeg (0 : Int32)) a0 85) a1.toNatClampNeg).toNatClampNeg) - (1 : Int32))) a0 84) (rd_I (wr_I (wr_I M (rd_R M a0 84) (rd_I M (rd_R M a0 85) ((rd_I M a0 86) - (1 : Int32)).toNatClampNeg).toNatClampNeg (0 : Int32)) (rd_R (wr_I M (rd_R M a0 84) (rd_I M (rd_R M a0 85) ((rd_I M a0 86) - (1 : Int32)).toNatClampNeg).toNatClampNeg (0 : Int32)) a0 84) (rd_I (wr_I M (rd_R M a0 84) (rd_I M (rd_R M a0 85) ((rd_I M a0 86) - (1 : Int32)).toNatClampNeg).toNatClampNeg (0 : Int32)) (rd_R (wr_I M (rd_R M a0 84) (rd_I M (rd_R M a0 85) ((rd_I M a0 86) - (1 : Int32)).toNatClampNeg).toNatClampNeg (0 : Int32)) a0 85) a1.toNatClampNeg).toNatClampNeg ((rd_I (wr_I M (rd_R M a0 84) (rd_I M (rd_R M a0 85) ((rd_I M a0 86) - (1 : Int32)).toNatClampNeg).toNatClampNeg (0 : Int32)) (rd_R (wr_I M (rd_R M a0 84) (rd_I M (rd_R M a0 85) ((rd_I M a0 86) - (1 : Int32)).toNatClampNeg).toNatClampNeg (0 : Int32)) a0 84) (rd_I (wr_I M (rd_R M a0 84) (rd_I M (rd_R M a0 85) ((rd_I M a0 86) - (1 : Int32)).toNatClampNeg).toNatClampNeg (0 : Int32)) (rd_R (wr_I M (rd_R M a0 84) (rd_I M (rd_R M a0 85) ((rd_I M a0 86) - (1 : Int32)).toNatClampNeg).toNatClampNeg (0 : Int32)) a0 85) a1.toNatClampNeg).toNatClampNeg) - (1 : Int32))) (rd_R (wr_I (wr_I M (rd_R M a0 84) (rd_I M (rd_R M a0 85) ((rd_I M a0 86) - (1 : Int32)).toNatClampNeg).toNatClampNeg (0 : Int32)) (rd_R (wr_I M (rd_R M a0 84) (rd_I M (rd_R M a0 85) ((rd_I M a0 86) - (1 : Int32)).toNatClampNeg).toNatClampNeg (0 : Int32)) a0 84) (rd_I (wr_I M (rd_R M a0 84) (rd_I M (rd_R M a0 85) ((rd_I M a0 86) - (1 : Int32)).toNatClampNeg).toNatClampNeg (0 : Int32)) (rd_R (wr_I M (rd_R M a0 84) (rd_I M (rd_R M a0 85) ((rd_I M a0 86) - (1 : Int32)).toNatClampNeg).toNatClampNeg (0 : Int32)) a0 85) a1.toNatClampNeg).toNatClampNeg ((rd_I (wr_I M (rd_R M a0 84) (rd_I M (rd_R M a0 85) ((rd_I M a0 86) - (1 : Int32)).toNatClampNeg).toNatClampNeg (0 : Int32)) (rd_R (wr_I M (rd_R M a0 84) (rd_I M (rd_R M a0 85) ((rd_I M a0 86) - (1 : Int32)).toNatClampNeg).toNatClampNeg (0 : Int32)) a0 84) (rd_I (wr_I M (rd_R M a0 84) (rd_I M (rd_R M a0 85) ((rd_I M a0 86) - (1 : Int32)).toNatClampNeg).toNatClampNeg (0 : Int32)) (rd_R (wr_I M (rd_R M a0 84) (rd_I M (rd_R M a0 85) ((rd_I M a0 86) - (1 : Int32)).toNatClampNeg).toNatClampNeg (0 : Int32)) a0 85) a1.toNatClampNeg).toNatClampNeg) - (1 : Int32))) a0 85) (a1 + (1 : Int32)).toNatClampNeg).toNatClampNeg ((rd_I M (rd_R M a0 84) (rd_I M (rd_R M a0 85) ((rd_I M a0 86) - (1 : Int32)).toNatClampNeg).toNatClampNeg) + (1 : Int32))))))))))
  else some ((0 : Int32), M)
set_option maxRecDepth 10000 in
theorem t_Model_nextWeights_31 {g : sw_G} {d n0 : Nat} (hd : 1 ≤ d) {r : Int32 × sw_M} {N : Nat} {a0 : Nat} {a1 : Int32} {M : sw_M} (hf : f_Model_nextWeights_31 N a0 a1 M = some r) : sw_F g k_Model_nextWeights d n0 (some (.int r.1)) r.2 31 [(0, .ref a0), (1, .int a1)] [] M := by
  unfold f_Model_nextWeights_31 at hf
  refine sf_blk [(.iload_n 1, 0, 0, .null)] (lv' := [(0, .ref a0), (1, .int a1)]) (st' := [.int a1]) (M1 := M) (ob := []) (pc' := 32) (by decide +kernel) rfl rfl sw_a0 ?_
  refine sf_z_ge (off := 5) (tgt := 37) (by decide +kernel) (by decide) hf (fun hc hf => ?_) (fun hc hf => ?_)
  · obtain ⟨h1, hf⟩ := sw_gd_1 hf
    obtain ⟨h2, hf⟩ := sw_gd_1 hf
    obtain ⟨h3, hf⟩ := sw_gd_1 hf
    obtain ⟨h4, hf⟩ := sw_gd_1 hf
    obtain ⟨h5, hf⟩ := sw_gd_1 hf
    obtain ⟨h6, hf⟩ := sw_gd_1 hf
    obtain ⟨h7, hf⟩ := sw_gd_1 hf
    refine sf_blk [(.aload_n 0, 0, 0, .null), (.getfield 148, 12, 84, .null), (.aload_n 0, 0, 0, .null), (.getfield 151, 12, 85, .null), (.aload_n 0, 0, 0, .null), (.getfield 468, 12, 86, .null), (.iconst (1), 0, 0, .int (1 : Int32)), (.isub, 0, 0, .null), (.iaload, 0, 0, .null), (.iaload, 0, 0, .null), (.istore_n 2, 0, 0, .null), (.aload_n 0, 0, 0, .null), (.getfield 148, 12, 84, .null), (.aload_n 0, 0, 0, .null), (.getfield 151, 12, 85, .null), (.aload_n 0, 0, 0, .null), (.getfield 468, 12, 86, .null), (.iconst (1), 0, 0, .int (1 : Int32)), (.isub, 0, 0, .null), (.iaload, 0, 0, .null), (.iconst (0), 0, 0, .int (0 : Int32)), (.iastore, 0, 0, .null), (.aload_n 0, 0, 0, .null), (.getfield 148, 12, 84, .null), (.aload_n 0, 0, 0, .null), (.getfield 151, 12, 85, .null), (.iload_n 1, 0, 0, .null), (.iaload, 0, 0, .null), (.dup2, 0, 0, .null), (.iaload, 0, 0, .null), (.iconst (1), 0, 0, .int (1 : Int32)), (.isub, 0, 0, .null), (.iastore, 0, 0, .null), (.aload_n 0, 0, 0, .null), (.getfield 148, 12, 84, .null), (.aload_n 0, 0, 0, .null), (.getfield 151, 12, 85, .null), (.iload_n 1, 0, 0, .null), (.iconst (1), 0, 0, .int (1 : Int32)), (.iadd, 0, 0, .null), (.iaload, 0, 0, .null), (.iload_n 2, 0, 0, .null), (.iconst (1), 0, 0, .int (1 : Int32)), (.iadd, 0, 0, .null), (.iastore, 0, 0, .null)] (lv' := [(2, .int (rd_I M (rd_R M a0 84) (rd_I M (rd_R M a0 85) ((rd_I M a0 86) - (1 : Int32)).toNatClampNeg).toNatClampNeg)), (0, .ref a0), (1, .int a1)]) (st' := []) (M1 := (wr_I (wr_I (wr_I M (rd_R M a0 84) (rd_I M (rd_R M a0 85) ((rd_I M a0 86) - (1 : Int32)).toNatClampNeg).toNatClampNeg (0 : Int32)) (rd_R (wr_I M (rd_R M a0 84) (rd_I M (rd_R M a0 85) ((rd_I M a0 86) - (1 : Int32)).toNatClampNeg).toNatClampNeg (0 : Int32)) a0 84) (rd_I (wr_I M (rd_R M a0 84) (rd_I M (rd_R M a0 85) ((rd_I M a0 86) - (1 : Int32)).toNatClampNeg).toNatClampNeg (0 : Int32)) (rd_R (wr_I M (rd_R M a0 84) (rd_I M (rd_R M a0 85) ((rd_I M a0 86) - (1 : Int32)).toNatClampNeg).toNatClampNeg (0 : Int32)) a0 85) a1.toNatClampNeg).toNatClampNeg ((rd_I (wr_I M (rd_R M a0 84) (rd_I M (rd_R M a0 85) ((rd_I M a0 86) - (1 : Int32)).toNatClampNeg).toNatClampNeg (0 : Int32)) (rd_R (wr_I M (rd_R M a0 84) (rd_I M (rd_R M a0 85) ((rd_I M a0 86) - (1 : Int32)).toNatClampNeg).toNatClampNeg (0 : Int32)) a0 84) (rd_I (wr_I M (rd_R M a0 84) (rd_I M (rd_R M a0 85) ((rd_I M a0 86) - (1 : Int32)).toNatClampNeg).toNatClampNeg (0 : Int32)) (rd_R (wr_I M (rd_R M a0 84) (rd_I M (rd_R M a0 85) ((rd_I M a0 86) - (1 : Int32)).toNatClampNeg).toNatClampNeg (0 : Int32)) a0 85) a1.toNatClampNeg).toNatClampNeg) - (1 : Int32))) (rd_R (wr_I (wr_I M (rd_R M a0 84) (rd_I M (rd_R M a0 85) ((rd_I M a0 86) - (1 : Int32)).toNatClampNeg).toNatClampNeg (0 : Int32)) (rd_R (wr_I M (rd_R M a0 84) (rd_I M (rd_R M a0 85) ((rd_I M a0 86) - (1 : Int32)).toNatClampNeg).toNatClampNeg (0 : Int32)) a0 84) (rd_I (wr_I M (rd_R M a0 84) (rd_I M (rd_R M a0 85) ((rd_I M a0 86) - (1 : Int32)).toNatClampNeg).toNatClampNeg (0 : Int32)) (rd_R (wr_I M (rd_R M a0 84) (rd_I M (rd_R M a0 85) ((rd_I M a0 86) - (1 : Int32)).toNatClampNeg).toNatClampNeg (0 : Int32)) a0 85) a1.toNatClampNeg).toNatClampNeg ((rd_I (wr_I M (rd_R M a0 84) (rd_I M (rd_R M a0 85) ((rd_I M a0 86) - (1 : Int32)).toNatClampNeg).toNatClampNeg (0 : Int32)) (rd_R (wr_I M (rd_R M a0 84) (rd_I M (rd_R M a0 85) ((rd_I M a0 86) - (1 : Int32)).toNatClampNeg).toNatClampNeg (0 : Int32)) a0 84) (rd_I (wr_I M (rd_R M a0 84) (rd_I M (rd_R M a0 85) ((rd_I M a0 86) - (1 : Int32)).toNatClampNeg).toNatClampNeg (0 : Int32)) (rd_R (wr_I M (rd_R M a0 84) (rd_I M (rd_R M a0 85) ((rd_I M a0 86) - (1 : Int32)).toNatClampNeg).toNatClampNeg (0 : Int32)) a0 85) a1.toNatClampNeg).toNatClampNeg) - (1 : Int32))) a0 84) (rd_I (wr_I (wr_I M (rd_R M a0 84) (rd_I M (rd_R M a0 85) ((rd_I M a0 86) - (1 : Int32)).toNatClampNeg).toNatClampNeg (0 : Int32)) (rd_R (wr_I M (rd_R M a0 84) (rd_I M (rd_R M a0 85) ((rd_I M a0 86) - (1 : Int32)).toNatClampNeg).toNatClampNeg (0 : Int32)) a0 84) (rd_I (wr_I M (rd_R M a0 84) (rd_I M (rd_R M a0 85) ((rd_I M a0 86) - (1 : Int32)).toNatClampNeg).toNatClampNeg (0 : Int32)) (rd_R (wr_I M (rd_R M a0 84) (rd_I M (rd_R M a0 85) ((rd_I M a0 86) - (1 : Int32)).toNatClampNeg).toNatClampNeg (0 : Int32)) a0 85) a1.toNatClampNeg).toNatClampNeg ((rd_I (wr_I M (rd_R M a0 84) (rd_I M (rd_R M a0 85) ((rd_I M a0 86) - (1 : Int32)).toNatClampNeg).toNatClampNeg (0 : Int32)) (rd_R (wr_I M (rd_R M a0 84) (rd_I M (rd_R M a0 85) ((rd_I M a0 86) - (1 : Int32)).toNatClampNeg).toNatClampNeg (0 : Int32)) a0 84) (rd_I (wr_I M (rd_R M a0 84) (rd_I M (rd_R M a0 85) ((rd_I M a0 86) - (1 : Int32)).toNatClampNeg).toNatClampNeg (0 : Int32)) (rd_R (wr_I M (rd_R M a0 84) (rd_I M (rd_R M a0 85) ((rd_I M a0 86) - (1 : Int32)).toNatClampNeg).toNatClampNeg (0 : Int32)) a0 85) a1.toNatClampNeg).toNatClampNeg) - (1 : Int32))) (rd_R (wr_I (wr_I M (rd_R M a0 84) (rd_I M (rd_R M a0 85) ((rd_I M a0 86) - (1 : Int32)).toNatClampNeg).toNatClampNeg (0 : Int32)) (rd_R (wr_I M (rd_R M a0 84) (rd_I M (rd_R M a0 85) ((rd_I M a0 86) - (1 : Int32)).toNatClampNeg).toNatClampNeg (0 : Int32)) a0 84) (rd_I (wr_I M (rd_R M a0 84) (rd_I M (rd_R M a0 85) ((rd_I M a0 86) - (1 : Int32)).toNatClampNeg).toNatClampNeg (0 : Int32)) (rd_R (wr_I M (rd_R M a0 84) (rd_I M (rd_R M a0 85) ((rd_I M a0 86) - (1 : Int32)).toNatClampNeg).toNatClampNeg (0 : Int32)) a0 85) a1.toNatClampNeg).toNatClampNeg ((rd_I (wr_I M (rd_R M a0 84) (rd_I M (rd_R M a0 85) ((rd_I M a0 86) - (1 : Int32)).toNatClampNeg).toNatClampNeg (0 : Int32)) (rd_R (wr_I M (rd_R M a0 84) (rd_I M (rd_R M a0 85) ((rd_I M a0 86) - (1 : Int32)).toNatClampNeg).toNatClampNeg (0 : Int32)) a0 84) (rd_I (wr_I M (rd_R M a0 84) (rd_I M (rd_R M a0 85) ((rd_I M a0 86) - (1 : Int32)).toNatClampNeg).toNatClampNeg (0 : Int32)) (rd_R (wr_I M (rd_R M a0 84) (rd_I M (rd_R M a0 85) ((rd_I M a0 86) - (1 : Int32)).toNatClampNeg).toNatClampNeg (0 : Int32)) a0 85) a1.toNatClampNeg).toNatClampNeg) - (1 : Int32))) a0 85) (a1 + (1 : Int32)).toNatClampNeg).toNatClampNeg ((rd_I M (rd_R M a0 84) (rd_I M (rd_R M a0 85) ((rd_I M a0 86) - (1 : Int32)).toNatClampNeg).toNatClampNeg) + (1 : Int32)))) (ob := [sw_ok M a0 12, sw_ok M a0 12, sw_ok M a0 12, sw_ar M (rd_R M a0 85) 13 ((rd_I M a0 86) - (1 : Int32)), sw_ar M (rd_R M a0 84) 13 (rd_I M (rd_R M a0 85) ((rd_I M a0 86) - (1 : Int32)).toNatClampNeg), sw_ok M a0 12, sw_ok M a0 12, sw_ok M a0 12, sw_ar M (rd_R M a0 85) 13 ((rd_I M a0 86) - (1 : Int32)), sw_ar M (rd_R M a0 84) 13 (rd_I M (rd_R M a0 85) ((rd_I M a0 86) - (1 : Int32)).toNatClampNeg), sw_ok (wr_I M (rd_R M a0 84) (rd_I M (rd_R M a0 85) ((rd_I M a0 86) - (1 : Int32)).toNatClampNeg).toNatClampNeg (0 : Int32)) a0 12, sw_ok (wr_I M (rd_R M a0 84) (rd_I M (rd_R M a0 85) ((rd_I M a0 86) - (1 : Int32)).toNatClampNeg).toNatClampNeg (0 : Int32)) a0 12, sw_ar (wr_I M (rd_R M a0 84) (rd_I M (rd_R M a0 85) ((rd_I M a0 86) - (1 : Int32)).toNatClampNeg).toNatClampNeg (0 : Int32)) (rd_R (wr_I M (rd_R M a0 84) (rd_I M (rd_R M a0 85) ((rd_I M a0 86) - (1 : Int32)).toNatClampNeg).toNatClampNeg (0 : Int32)) a0 85) 13 a1, sw_ar (wr_I M (rd_R M a0 84) (rd_I M (rd_R M a0 85) ((rd_I M a0 86) - (1 : Int32)).toNatClampNeg).toNatClampNeg (0 : Int32)) (rd_R (wr_I M (rd_R M a0 84) (rd_I M (rd_R M a0 85) ((rd_I M a0 86) - (1 : Int32)).toNatClampNeg).toNatClampNeg (0 : Int32)) a0 84) 13 (rd_I (wr_I M (rd_R M a0 84) (rd_I M (rd_R M a0 85) ((rd_I M a0 86) - (1 : Int32)).toNatClampNeg).toNatClampNeg (0 : Int32)) (rd_R (wr_I M (rd_R M a0 84) (rd_I M (rd_R M a0 85) ((rd_I M a0 86) - (1 : Int32)).toNatClampNeg).toNatClampNeg (0 : Int32)) a0 85) a1.toNatClampNeg), sw_ar (wr_I M (rd_R M a0 84) (rd_I M (rd_R M a0 85) ((rd_I M a0 86) - (1 : Int32)).toNatClampNeg).toNatClampNeg (0 : Int32)) (rd_R (wr_I M (rd_R M a0 84) (rd_I M (rd_R M a0 85) ((rd_I M a0 86) - (1 : Int32)).toNatClampNeg).toNatClampNeg (0 : Int32)) a0 84) 13 (rd_I (wr_I M (rd_R M a0 84) (rd_I M (rd_R M a0 85) ((rd_I M a0 86) - (1 : Int32)).toNatClampNeg).toNatClampNeg (0 : Int32)) (rd_R (wr_I M (rd_R M a0 84) (rd_I M (rd_R M a0 85) ((rd_I M a0 86) - (1 : Int32)).toNatClampNeg).toNatClampNeg (0 : Int32)) a0 85) a1.toNatClampNeg), sw_ok (wr_I (wr_I M (rd_R M a0 84) (rd_I M (rd_R M a0 85) ((rd_I M a0 86) - (1 : Int32)).toNatClampNeg).toNatClampNeg (0 : Int32)) (rd_R (wr_I M (rd_R M a0 84) (rd_I M (rd_R M a0 85) ((rd_I M a0 86) - (1 : Int32)).toNatClampNeg).toNatClampNeg (0 : Int32)) a0 84) (rd_I (wr_I M (rd_R M a0 84) (rd_I M (rd_R M a0 85) ((rd_I M a0 86) - (1 : Int32)).toNatClampNeg).toNatClampNeg (0 : Int32)) (rd_R (wr_I M (rd_R M a0 84) (rd_I M (rd_R M a0 85) ((rd_I M a0 86) - (1 : Int32)).toNatClampNeg).toNatClampNeg (0 : Int32)) a0 85) a1.toNatClampNeg).toNatClampNeg ((rd_I (wr_I M (rd_R M a0 84) (rd_I M (rd_R M a0 85) ((rd_I M a0 86) - (1 : Int32)).toNatClampNeg).toNatClampNeg (0 : Int32)) (rd_R (wr_I M (rd_R M a0 84) (rd_I M (rd_R M a0 85) ((rd_I M a0 86) - (1 : Int32)).toNatClampNeg).toNatClampNeg (0 : Int32)) a0 84) (rd_I (wr_I M (rd_R M a0 84) (rd_I M (rd_R M a0 85) ((rd_I M a0 86) - (1 : Int32)).toNatClampNeg).toNatClampNeg (0 : Int32)) (rd_R (wr_I M (rd_R M a0 84) (rd_I M (rd_R M a0 85) ((rd_I M a0 86) - (1 : Int32)).toNatClampNeg).toNatClampNeg (0 : Int32)) a0 85) a1.toNatClampNeg).toNatClampNeg) - (1 : Int32))) a0 12, sw_ok (wr_I (wr_I M (rd_R M a0 84) (rd_I M (rd_R M a0 85) ((rd_I M a0 86) - (1 : Int32)).toNatClampNeg).toNatClampNeg (0 : Int32)) (rd_R (wr_I M (rd_R M a0 84) (rd_I M (rd_R M a0 85) ((rd_I M a0 86) - (1 : Int32)).toNatClampNeg).toNatClampNeg (0 : Int32)) a0 84) (rd_I (wr_I M (rd_R M a0 84) (rd_I M (rd_R M a0 85) ((rd_I M a0 86) - (1 : Int32)).toNatClampNeg).toNatClampNeg (0 : Int32)) (rd_R (wr_I M (rd_R M a0 84) (rd_I M (rd_R M a0 85) ((rd_I M a0 86) - (1 : Int32)).toNatClampNeg).toNatClampNeg (0 : Int32)) a0 85) a1.toNatClampNeg).toNatClampNeg ((rd_I (wr_I M (rd_R M a0 84) (rd_I M (rd_R M a0 85) ((rd_I M a0 86) - (1 : Int32)).toNatClampNeg).toNatClampNeg (0 : Int32)) (rd_R (wr_I M (rd_R M a0 84) (rd_I M (rd_R M a0 85) ((rd_I M a0 86) - (1 : Int32)).toNatClampNeg).toNatClampNeg (0 : Int32)) a0 84) (rd_I (wr_I M (rd_R M a0 84) (rd_I M (rd_R M a0 85) ((rd_I M a0 86) - (1 : Int32)).toNatClampNeg).toNatClampNeg (0 : Int32)) (rd_R (wr_I M (rd_R M a0 84) (rd_I M (rd_R M a0 85) ((rd_I M a0 86) - (1 : Int32)).toNatClampNeg).toNatClampNeg (0 : Int32)) a0 85) a1.toNatClampNeg).toNatClampNeg) - (1 : Int32))) a0 12, sw_ar (wr_I (wr_I M (rd_R M a0 84) (rd_I M (rd_R M a0 85) ((rd_I M a0 86) - (1 : Int32)).toNatClampNeg).toNatClampNeg (0 : Int32)) (rd_R (wr_I M (rd_R M a0 84) (rd_I M (rd_R M a0 85) ((rd_I M a0 86) - (1 : Int32)).toNatClampNeg).toNatClampNeg (0 : Int32)) a0 84) (rd_I (wr_I M (rd_R M a0 84) (rd_I M (rd_R M a0 85) ((rd_I M a0 86) - (1 : Int32)).toNatClampNeg).toNatClampNeg (0 : Int32)) (rd_R (wr_I M (rd_R M a0 84) (rd_I M (rd_R M a0 85) ((rd_I M a0 86) - (1 : Int32)).toNatClampNeg).toNatClampNeg (0 : Int32)) a0 85) a1.toNatClampNeg).toNatClampNeg ((rd_I (wr_I M (rd_R M a0 84) (rd_I M (rd_R M a0 85) ((rd_I M a0 86) - (1 : Int32)).toNatClampNeg).toNatClampNeg (0 : Int32)) (rd_R (wr_I M (rd_R M a0 84) (rd_I M (rd_R M a0 85) ((rd_I M a0 86) - (1 : Int32)).toNatClampNeg).toNatClampNeg (0 : Int32)) a0 84) (rd_I (wr_I M (rd_R M a0 84) (rd_I M (rd_R M a0 85) ((rd_I M a0 86) - (1 : Int32)).toNatClampNeg).toNatClampNeg (0 : Int32)) (rd_R (wr_I M (rd_R M a0 84) (rd_I M (rd_R M a0 85) ((rd_I M a0 86) - (1 : Int32)).toNatClampNeg).toNatClampNeg (0 : Int32)) a0 85) a1.toNatClampNeg).toNatClampNeg) - (1 : Int32))) (rd_R (wr_I (wr_I M (rd_R M a0 84) (rd_I M (rd_R M a0 85) ((rd_I M a0 86) - (1 : Int32)).toNatClampNeg).toNatClampNeg (0 : Int32)) (rd_R (wr_I M (rd_R M a0 84) (rd_I M (rd_R M a0 85) ((rd_I M a0 86) - (1 : Int32)).toNatClampNeg).toNatClampNeg (0 : Int32)) a0 84) (rd_I (wr_I M (rd_R M a0 84) (rd_I M (rd_R M a0 85) ((rd_I M a0 86) - (1 : Int32)).toNatClampNeg).toNatClampNeg (0 : Int32)) (rd_R (wr_I M (rd_R M a0 84) (rd_I M (rd_R M a0 85) ((rd_I M a0 86) - (1 : Int32)).toNatClampNeg).toNatClampNeg (0 : Int32)) a0 85) a1.toNatClampNeg).toNatClampNeg ((rd_I (wr_I M (rd_R M a0 84) (rd_I M (rd_R M a0 85) ((rd_I M a0 86) - (1 : Int32)).toNatClampNeg).toNatClampNeg (0 : Int32)) (rd_R (wr_I M (rd_R M a0 84) (rd_I M (rd_R M a0 85) ((rd_I M a0 86) - (1 : Int32)).toNatClampNeg).toNatClampNeg (0 : Int32)) a0 84) (rd_I (wr_I M (rd_R M a0 84) (rd_I M (rd_R M a0 85) ((rd_I M a0 86) - (1 : Int32)).toNatClampNeg).toNatClampNeg (0 : Int32)) (rd_R (wr_I M (rd_R M a0 84) (rd_I M (rd_R M a0 85) ((rd_I M a0 86) - (1 : Int32)).toNatClampNeg).toNatClampNeg (0 : Int32)) a0 85) a1.toNatClampNeg).toNatClampNeg) - (1 : Int32))) a0 85) 13 (a1 + (1 : Int32)), sw_ar (wr_I (wr_I M (rd_R M a0 84) (rd_I M (rd_R M a0 85) ((rd_I M a0 86) - (1 : Int32)).toNatClampNeg).toNatClampNeg (0 : Int32)) (rd_R (wr_I M (rd_R M a0 84) (rd_I M (rd_R M a0 85) ((rd_I M a0 86) - (1 : Int32)).toNatClampNeg).toNatClampNeg (0 : Int32)) a0 84) (rd_I (wr_I M (rd_R M a0 84) (rd_I M (rd_R M a0 85) ((rd_I M a0 86) - (1 : Int32)).toNatClampNeg).toNatClampNeg (0 : Int32)) (rd_R (wr_I M (rd_R M a0 84) (rd_I M (rd_R M a0 85) ((rd_I M a0 86) - (1 : Int32)).toNatClampNeg).toNatClampNeg (0 : Int32)) a0 85) a1.toNatClampNeg).toNatClampNeg ((rd_I (wr_I M (rd_R M a0 84) (rd_I M (rd_R M a0 85) ((rd_I M a0 86) - (1 : Int32)).toNatClampNeg).toNatClampNeg (0 : Int32)) (rd_R (wr_I M (rd_R M a0 84) (rd_I M (rd_R M a0 85) ((rd_I M a0 86) - (1 : Int32)).toNatClampNeg).toNatClampNeg (0 : Int32)) a0 84) (rd_I (wr_I M (rd_R M a0 84) (rd_I M (rd_R M a0 85) ((rd_I M a0 86) - (1 : Int32)).toNatClampNeg).toNatClampNeg (0 : Int32)) (rd_R (wr_I M (rd_R M a0 84) (rd_I M (rd_R M a0 85) ((rd_I M a0 86) - (1 : Int32)).toNatClampNeg).toNatClampNeg (0 : Int32)) a0 85) a1.toNatClampNeg).toNatClampNeg) - (1 : Int32))) (rd_R (wr_I (wr_I M (rd_R M a0 84) (rd_I M (rd_R M a0 85) ((rd_I M a0 86) - (1 : Int32)).toNatClampNeg).toNatClampNeg (0 : Int32)) (rd_R (wr_I M (rd_R M a0 84) (rd_I M (rd_R M a0 85) ((rd_I M a0 86) - (1 : Int32)).toNatClampNeg).toNatClampNeg (0 : Int32)) a0 84) (rd_I (wr_I M (rd_R M a0 84) (rd_I M (rd_R M a0 85) ((rd_I M a0 86) - (1 : Int32)).toNatClampNeg).toNatClampNeg (0 : Int32)) (rd_R (wr_I M (rd_R M a0 84) (rd_I M (rd_R M a0 85) ((rd_I M a0 86) - (1 : Int32)).toNatClampNeg).toNatClampNeg (0 : Int32)) a0 85) a1.toNatClampNeg).toNatClampNeg ((rd_I (wr_I M (rd_R M a0 84) (rd_I M (rd_R M a0 85) ((rd_I M a0 86) - (1 : Int32)).toNatClampNeg).toNatClampNeg (0 : Int32)) (rd_R (wr_I M (rd_R M a0 84) (rd_I M (rd_R M a0 85) ((rd_I M a0 86) - (1 : Int32)).toNatClampNeg).toNatClampNeg (0 : Int32)) a0 84) (rd_I (wr_I M (rd_R M a0 84) (rd_I M (rd_R M a0 85) ((rd_I M a0 86) - (1 : Int32)).toNatClampNeg).toNatClampNeg (0 : Int32)) (rd_R (wr_I M (rd_R M a0 84) (rd_I M (rd_R M a0 85) ((rd_I M a0 86) - (1 : Int32)).toNatClampNeg).toNatClampNeg (0 : Int32)) a0 85) a1.toNatClampNeg).toNatClampNeg) - (1 : Int32))) a0 84) 13 (rd_I (wr_I (wr_I M (rd_R M a0 84) (rd_I M (rd_R M a0 85) ((rd_I M a0 86) - (1 : Int32)).toNatClampNeg).toNatClampNeg (0 : Int32)) (rd_R (wr_I M (rd_R M a0 84) (rd_I M (rd_R M a0 85) ((rd_I M a0 86) - (1 : Int32)).toNatClampNeg).toNatClampNeg (0 : Int32)) a0 84) (rd_I (wr_I M (rd_R M a0 84) (rd_I M (rd_R M a0 85) ((rd_I M a0 86) - (1 : Int32)).toNatClampNeg).toNatClampNeg (0 : Int32)) (rd_R (wr_I M (rd_R M a0 84) (rd_I M (rd_R M a0 85) ((rd_I M a0 86) - (1 : Int32)).toNatClampNeg).toNatClampNeg (0 : Int32)) a0 85) a1.toNatClampNeg).toNatClampNeg ((rd_I (wr_I M (rd_R M a0 84) (rd_I M (rd_R M a0 85) ((rd_I M a0 86) - (1 : Int32)).toNatClampNeg).toNatClampNeg (0 : Int32)) (rd_R (wr_I M (rd_R M a0 84) (rd_I M (rd_R M a0 85) ((rd_I M a0 86) - (1 : Int32)).toNatClampNeg).toNatClampNeg (0 : Int32)) a0 84) (rd_I (wr_I M (rd_R M a0 84) (rd_I M (rd_R M a0 85) ((rd_I M a0 86) - (1 : Int32)).toNatClampNeg).toNatClampNeg (0 : Int32)) (rd_R (wr_I M (rd_R M a0 84) (rd_I M (rd_R M a0 85) ((rd_I M a0 86) - (1 : Int32)).toNatClampNeg).toNatClampNeg (0 : Int32)) a0 85) a1.toNatClampNeg).toNatClampNeg) - (1 : Int32))) (rd_R (wr_I (wr_I M (rd_R M a0 84) (rd_I M (rd_R M a0 85) ((rd_I M a0 86) - (1 : Int32)).toNatClampNeg).toNatClampNeg (0 : Int32)) (rd_R (wr_I M (rd_R M a0 84) (rd_I M (rd_R M a0 85) ((rd_I M a0 86) - (1 : Int32)).toNatClampNeg).toNatClampNeg (0 : Int32)) a0 84) (rd_I (wr_I M (rd_R M a0 84) (rd_I M (rd_R M a0 85) ((rd_I M a0 86) - (1 : Int32)).toNatClampNeg).toNatClampNeg (0 : Int32)) (rd_R (wr_I M (rd_R M a0 84) (rd_I M (rd_R M a0 85) ((rd_I M a0 86) - (1 : Int32)).toNatClampNeg).toNatClampNeg (0 : Int32)) a0 85) a1.toNatClampNeg).toNatClampNeg ((rd_I (wr_I M (rd_R M a0 84) (rd_I M (rd_R M a0 85) ((rd_I M a0 86) - (1 : Int32)).toNatClampNeg).toNatClampNeg (0 : Int32)) (rd_R (wr_I M (rd_R M a0 84) (rd_I M (rd_R M a0 85) ((rd_I M a0 86) - (1 : Int32)).toNatClampNeg).toNatClampNeg (0 : Int32)) a0 84) (rd_I (wr_I M (rd_R M a0 84) (rd_I M (rd_R M a0 85) ((rd_I M a0 86) - (1 : Int32)).toNatClampNeg).toNatClampNeg (0 : Int32)) (rd_R (wr_I M (rd_R M a0 84) (rd_I M (rd_R M a0 85) ((rd_I M a0 86) - (1 : Int32)).toNatClampNeg).toNatClampNeg (0 : Int32)) a0 85) a1.toNatClampNeg).toNatClampNeg) - (1 : Int32))) a0 85) (a1 + (1 : Int32)).toNatClampNeg)]) (pc' := 102) (by decide +kernel) rfl rfl (sw_a1 h1 (sw_a1 h1 (sw_a1 h1 (sw_a1 h2 (sw_a1 h3 (sw_a1 h1 (sw_a1 h1 (sw_a1 h1 (sw_a1 h2 (sw_a1 h3 (sw_a1 h1 (sw_a1 h1 (sw_a1 h4 (sw_a1 h5 (sw_a1 h5 (sw_a1 h1 (sw_a1 h1 (sw_a1 h6 (sw_a1 h7 sw_a0))))))))))))))))))) ?_
    exact sf_weak [] rfl (t_Model_nextWeights_102 hd hf)
  · refine sf_blk [(.iconst (0), 0, 0, .int (0 : Int32))] (lv' := [(0, .ref a0), (1, .int a1)]) (st' := [.int (0 : Int32)]) (M1 := M) (ob := []) (pc' := 36) (by decide +kernel) rfl rfl sw_a0 ?_
    cases hf
    exact sf_bool rfl rfl (by decide +kernel)
def f_Model_nextWeights_7 (N : Nat) : Nat → Nat → Int32 → sw_M → Option (Int32 × sw_M)
  | 0, _, _, _ => none
  | j + 1, a0, a1, M =>
  if a1 < 0 then f_Model_nextWeights_31 N a0 a1 M
  else sw_gd [sw_ok M a0 12] (sw_gd [sw_ar M (rd_R M a0 85) 13 a1] (sw_gd [sw_ar M (rd_R M a0 84) 13 (rd_I M (rd_R M a0 85) a1.toNatClampNeg)] (if (rd_I M (rd_R M a0 84) (rd_I M (rd_R M a0 85) a1.toNatClampNeg).toNatClampNeg) = 0 then f_Model_nextWeights_7 N j a0 (a1 + (-1 : Int32)) M
  else f_Model_nextWeights_31 N a0 a1 M)))
set_option maxRecDepth 10000 in
theorem t_Model_nextWeights_7 {g : sw_G} {d n0 : Nat} (hd : 1 ≤ d) {r : Int32 × sw_M} {N : Nat} : ∀ (j : Nat) (a0 : Nat) (a1 : Int32) (M : sw_M), f_Model_nextWeights_7 N j a0 a1 M = some r → sw_F g k_Model_nextWeights d n0 (some (.int r.1)) r.2 7 [(0, .ref a0), (1, .int a1)] [] M := by
  intro j
  induction j with
  | zero =>
    intro a0 a1 M hf
    rw [f_Model_nextWeights_7] at hf
    cases hf
  | succ j ih =>
    intro a0 a1 M hf
    rw [f_Model_nextWeights_7] at hf
    refine sf_blk [(.iload_n 1, 0, 0, .null)] (lv' := [(0, .ref a0), (1, .int a1)]) (st' := [.int a1]) (M1 := M) (ob := []) (pc' := 8) (by decide +kernel) rfl rfl sw_a0 ?_
    refine sf_z_lt (off := 23) (tgt := 31) (by decide +kernel) (by decide) hf (fun hc hf => ?_) (fun hc hf => ?_)
    · exact sf_weak [0, 1] rfl (t_Model_nextWeights_31 hd hf)
    · obtain ⟨h1, hf⟩ := sw_gd_1 hf
      obtain ⟨h2, hf⟩ := sw_gd_1 hf
      obtain ⟨h3, hf⟩ := sw_gd_1 hf
      refine sf_blk [(.aload_n 0, 0, 0, .null), (.getfield 148, 12, 84, .null), (.aload_n 0, 0, 0, .null), (.getfield 151, 12, 85, .null), (.iload_n 1, 0, 0, .null), (.iaload, 0, 0, .null), (.iaload, 0, 0, .null)] (lv' := [(0, .ref a0), (1, .int a1)]) (st' := [.int (rd_I M (rd_R M a0 84) (rd_I M (rd_R M a0 85) a1.toNatClampNeg).toNatClampNeg)]) (M1 := M) (ob := [sw_ok M a0 12, sw_ok M a0 12, sw_ar M (rd_R M a0 85) 13 a1, sw_ar M (rd_R M a0 84) 13 (rd_I M (rd_R M a0 85) a1.toNatClampNeg)]) (pc' := 22) (by decide +kernel) rfl rfl (sw_a1 h1 (sw_a1 h1 (sw_a1 h2 (sw_a1 h3 sw_a0)))) ?_
      refine sf_z_ne (off := 9) (tgt := 31) (by decide +kernel) (by decide) hf (fun hc hf => ?_) (fun hc hf => ?_)
      · exact sf_weak [0, 1] rfl (t_Model_nextWeights_31 hd hf)
      · refine sf_blk [(.iinc 1 (-1), 0, 0, .int (-1 : Int32))] (lv' := [(1, .int (a1 + (-1 : Int32))), (0, .ref a0)]) (st' := []) (M1 := M) (ob := []) (pc' := 28) (by decide +kernel) rfl rfl sw_a0 ?_
        refine sf_goto (off := -21) (tgt := 7) (by decide +kernel) (by decide) ?_
        exact sf_weak [1, 0] rfl (ih _ _ _ hf)
def f_Model_nextWeights (N : Nat) (a0 : Nat) (M : sw_M) : Option (Int32 × sw_M) :=
  sw_gd [sw_ok M a0 12] (f_Model_nextWeights_7 N N a0 ((rd_I M a0 86) - (2 : Int32)) M)
set_option maxRecDepth 10000 in
theorem t_Model_nextWeights {g : sw_G} {d n0 : Nat} (hd : 1 ≤ d) {r : Int32 × sw_M} {N : Nat} {a0 : Nat} {M : sw_M} (hf : f_Model_nextWeights N a0 M = some r) : sw_F g k_Model_nextWeights d n0 (some (.int r.1)) r.2 0 [(0, .ref a0)] [] M := by
  unfold f_Model_nextWeights at hf
  obtain ⟨h1, hf⟩ := sw_gd_1 hf
  refine sf_blk [(.aload_n 0, 0, 0, .null), (.getfield 468, 12, 86, .null), (.iconst (2), 0, 0, .int (2 : Int32)), (.isub, 0, 0, .null), (.istore_n 1, 0, 0, .null)] (lv' := [(1, .int ((rd_I M a0 86) - (2 : Int32))), (0, .ref a0)]) (st' := []) (M1 := M) (ob := [sw_ok M a0 12]) (pc' := 7) (by decide +kernel) rfl rfl (sw_a1 h1 sw_a0) ?_
  exact sf_weak [1, 0] rfl (t_Model_nextWeights_7 hd _ _ _ _ hf)
theorem o_Model_nextWeights (g : sw_G) {d : Nat} (hd : 1 ≤ d) {N : Nat} {a0 : Nat} {M : sw_M} {r : Int32 × sw_M} (hf : f_Model_nextWeights N a0 M = some r) : sw_Ok g k_Model_nextWeights d [.ref a0] M (some (.int r.1)) r.2 := sf_met (by decide +kernel) rfl (by decide) (Nat.le_of_ble_eq_true rfl) (t_Model_nextWeights hd hf)
def f_Model_lightOf_4 (N : Nat) : Nat → Nat → Int32 → Int32 → Int32 → sw_M → Option (Int32 × sw_M)
  | 0, _, _, _, _, _ => none
  | j + 1, a0, a1, a2, a3, M =>
  sw_gd [sw_ok M a0 12] (if (rd_I M a0 50) ≤ a3 then some (a2, M)
  else sw_gd [sw_ar M (rd_R M a0 84) 13 a3] (sw_gd [sw_ar M (rd_R M a0 73) 13 (((64 : Int32) * a3) + a1)] (f_Model_lightOf_4 N j a0 a1 (a2 + ((rd_I M (rd_R M a0 84) a3.toNatClampNeg) * (rd_I M (rd_R M a0 73) (((64 : Int32) * a3) + a1).toNatClampNeg))) (a3 + (1 : Int32)) M)))
set_option maxRecDepth 10000 in
theorem t_Model_lightOf_4 {g : sw_G} {d n0 : Nat} (hd : 1 ≤ d) {r : Int32 × sw_M} {N : Nat} : ∀ (j : Nat) (a0 : Nat) (a1 : Int32) (a2 : Int32) (a3 : Int32) (M : sw_M), f_Model_lightOf_4 N j a0 a1 a2 a3 M = some r → sw_F g k_Model_lightOf d n0 (some (.int r.1)) r.2 4 [(0, .ref a0), (1, .int a1), (2, .int a2), (3, .int a3)] [] M := by
  intro j
  induction j with
  | zero =>
    intro a0 a1 a2 a3 M hf
    rw [f_Model_lightOf_4] at hf
    cases hf
  | succ j ih =>
    intro a0 a1 a2 a3 M hf
    rw [f_Model_lightOf_4] at hf
    obtain ⟨h1, hf⟩ := sw_gd_1 hf
    refine sf_blk [(.iload_n 3, 0, 0, .null), (.aload_n 0, 0, 0, .null), (.getfield 397, 12, 50, .null)] (lv' := [(0, .ref a0), (1, .int a1), (2, .int a2), (3, .int a3)]) (st' := [.int (rd_I M a0 50), .int a3]) (M1 := M) (ob := [sw_ok M a0 12]) (pc' := 9) (by decide +kernel) rfl rfl (sw_a1 h1 sw_a0) ?_
    refine sf_j_ge (off := 30) (tgt := 39) (by decide +kernel) (by decide) hf (fun hc hf => ?_) (fun hc hf => ?_)
    · refine sf_blk [(.iload_n 2, 0, 0, .null)] (lv' := [(0, .ref a0), (1, .int a1), (2, .int a2), (3, .int a3)]) (st' := [.int a2]) (M1 := M) (ob := []) (pc' := 40) (by decide +kernel) rfl rfl sw_a0 ?_
      cases hf
      exact sf_int rfl (by decide +kernel)
    · obtain ⟨h2, hf⟩ := sw_gd_1 hf
      obtain ⟨h3, hf⟩ := sw_gd_1 hf
      refine sf_blk [(.iload_n 2, 0, 0, .null), (.aload_n 0, 0, 0, .null), (.getfield 148, 12, 84, .null), (.iload_n 3, 0, 0, .null), (.iaload, 0, 0, .null), (.aload_n 0, 0, 0, .null), (.getfield 121, 12, 73, .null), (.bipush (64), 0, 0, .int (64 : Int32)), (.iload_n 3, 0, 0, .null), (.imul, 0, 0, .null), (.iload_n 1, 0, 0, .null), (.iadd, 0, 0, .null), (.iaload, 0, 0, .null), (.imul, 0, 0, .null), (.iadd, 0, 0, .null), (.istore_n 2, 0, 0, .null), (.iinc 3 (1), 0, 0, .int (1 : Int32))] (lv' := [(3, .int (a3 + (1 : Int32))), (2, .int (a2 + ((rd_I M (rd_R M a0 84) a3.toNatClampNeg) * (rd_I M (rd_R M a0 73) (((64 : Int32) * a3) + a1).toNatClampNeg)))), (0, .ref a0), (1, .int a1)]) (st' := []) (M1 := M) (ob := [sw_ok M a0 12, sw_ar M (rd_R M a0 84) 13 a3, sw_ok M a0 12, sw_ar M (rd_R M a0 73) 13 (((64 : Int32) * a3) + a1)]) (pc' := 36) (by decide +kernel) rfl rfl (sw_a1 h1 (sw_a1 h2 (sw_a1 h1 (sw_a1 h3 sw_a0)))) ?_
      refine sf_goto (off := -32) (tgt := 4) (by decide +kernel) (by decide) ?_
      exact sf_weak [2, 3, 1, 0] rfl (ih _ _ _ _ _ hf)
def f_Model_lightOf (N : Nat) (a0 : Nat) (a1 : Int32) (M : sw_M) : Option (Int32 × sw_M) :=
  f_Model_lightOf_4 N N a0 a1 (0 : Int32) (0 : Int32) M
set_option maxRecDepth 10000 in
theorem t_Model_lightOf {g : sw_G} {d n0 : Nat} (hd : 1 ≤ d) {r : Int32 × sw_M} {N : Nat} {a0 : Nat} {a1 : Int32} {M : sw_M} (hf : f_Model_lightOf N a0 a1 M = some r) : sw_F g k_Model_lightOf d n0 (some (.int r.1)) r.2 0 [(0, .ref a0), (1, .int a1)] [] M := by
  unfold f_Model_lightOf at hf
  refine sf_blk [(.iconst (0), 0, 0, .int (0 : Int32)), (.istore_n 2, 0, 0, .null), (.iconst (0), 0, 0, .int (0 : Int32)), (.istore_n 3, 0, 0, .null)] (lv' := [(3, .int (0 : Int32)), (2, .int (0 : Int32)), (0, .ref a0), (1, .int a1)]) (st' := []) (M1 := M) (ob := []) (pc' := 4) (by decide +kernel) rfl rfl sw_a0 ?_
  exact sf_weak [2, 3, 1, 0] rfl (t_Model_lightOf_4 hd _ _ _ _ _ _ hf)
theorem o_Model_lightOf (g : sw_G) {d : Nat} (hd : 1 ≤ d) {N : Nat} {a0 : Nat} {a1 : Int32} {M : sw_M} {r : Int32 × sw_M} (hf : f_Model_lightOf N a0 a1 M = some r) : sw_Ok g k_Model_lightOf d [.ref a0, .int a1] M (some (.int r.1)) r.2 := sf_met (by decide +kernel) rfl (by decide) (Nat.le_of_ble_eq_true rfl) (t_Model_lightOf hd hf)
def f_Model_holds_161 (N : Nat) (M : sw_M) : Option (Int32 × sw_M) :=
  some ((1 : Int32), M)
set_option maxRecDepth 10000 in
theorem t_Model_holds_161 {g : sw_G} {d n0 : Nat} (hd : 2 ≤ d) {r : Int32 × sw_M} {N : Nat} {M : sw_M} (hf : f_Model_holds_161 N M = some r) : sw_F g k_Model_holds d n0 (some (.int r.1)) r.2 161 [] [] M := by
  unfold f_Model_holds_161 at hf
  refine sf_blk [(.iconst (1), 0, 0, .int (1 : Int32))] (lv' := []) (st' := [.int (1 : Int32)]) (M1 := M) (ob := []) (pc' := 162) (by decide +kernel) rfl rfl sw_a0 ?_
  refine sf_goto (off := 4) (tgt := 166) (by decide +kernel) (by decide) ?_
  cases hf
  exact sf_bool rfl rfl (by decide +kernel)
def f_Model_holds_84 (N : Nat) : Nat → Nat → Int32 → Int64 → Int64 → Int32 → sw_M → Option (Int32 × sw_M)
  | 0, _, _, _, _, _, _ => none
  | j + 1, a0, a1, a2, a4, a6, M =>
  sw_gd [sw_ok M a0 12] (if (rd_I M a0 50) ≤ a6 then sw_gd [sw_ar M (rd_R M a0 80) 13 a1] (if a4 < ((rd_I M (rd_R M a0 80) a1.toNatClampNeg).toInt64 * a2) then some ((0 : Int32), M)
  else sw_gd [sw_ar M (rd_R M a0 81) 13 a1] (if ((rd_I M (rd_R M a0 81) a1.toNatClampNeg).toInt64 * a2) < a4 then some ((0 : Int32), M)
  else f_Model_holds_161 N M))
  else sw_gd [sw_ar M (rd_R M a0 84) 13 a6] (sw_gd [sw_ar M (rd_R M a0 79) 13 a1] (sw_gd [sw_ar M (rd_R M a0 74) 13 (((64 : Int32) * a6) + (rd_I M (rd_R M a0 79) a1.toNatClampNeg))] (f_Model_holds_84 N j a0 a1 a2 (a4 + ((rd_I M (rd_R M a0 84) a6.toNatClampNeg).toInt64 * (rd_I M (rd_R M a0 74) (((64 : Int32) * a6) + (rd_I M (rd_R M a0 79) a1.toNatClampNeg)).toNatClampNeg).toInt64)) (a6 + (1 : Int32)) M))))
set_option maxRecDepth 10000 in
theorem t_Model_holds_84 {g : sw_G} {d n0 : Nat} (hd : 2 ≤ d) {r : Int32 × sw_M} {N : Nat} : ∀ (j : Nat) (a0 : Nat) (a1 : Int32) (a2 : Int64) (a4 : Int64) (a6 : Int32) (M : sw_M), f_Model_holds_84 N j a0 a1 a2 a4 a6 M = some r → sw_F g k_Model_holds d n0 (some (.int r.1)) r.2 84 [(0, .ref a0), (1, .int a1), (2, .long a2), (4, .long a4), (6, .int a6)] [] M := by
  intro j
  induction j with
  | zero =>
    intro a0 a1 a2 a4 a6 M hf
    rw [f_Model_holds_84] at hf
    cases hf
  | succ j ih =>
    intro a0 a1 a2 a4 a6 M hf
    rw [f_Model_holds_84] at hf
    obtain ⟨h1, hf⟩ := sw_gd_1 hf
    refine sf_blk [(.iload 6, 0, 0, .null), (.aload_n 0, 0, 0, .null), (.getfield 397, 12, 50, .null)] (lv' := [(0, .ref a0), (1, .int a1), (2, .long a2), (4, .long a4), (6, .int a6)]) (st' := [.int (rd_I M a0 50), .int a6]) (M1 := M) (ob := [sw_ok M a0 12]) (pc' := 90) (by decide +kernel) rfl rfl (sw_a1 h1 sw_a0) ?_
    refine sf_j_ge (off := 41) (tgt := 131) (by decide +kernel) (by decide) hf (fun hc hf => ?_) (fun hc hf => ?_)
    · obtain ⟨h2, hf⟩ := sw_gd_1 hf
      refine sf_blk [(.lload 4, 0, 0, .null), (.aload_n 0, 0, 0, .null), (.getfield 139, 12, 80, .null), (.iload_n 1, 0, 0, .null), (.iaload, 0, 0, .null), (.i2l, 0, 0, .null), (.lload_n 2, 0, 0, .null), (.lmul, 0, 0, .null), (.lcmp, 0, 0, .null)] (lv' := [(0, .ref a0), (1, .int a1), (2, .long a2), (4, .long a4), (6, .int a6)]) (st' := [.int (lg_cmp a4 ((rd_I M (rd_R M a0 80) a1.toNatClampNeg).toInt64 * a2))]) (M1 := M) (ob := [sw_ok M a0 12, sw_ar M (rd_R M a0 80) 13 a1]) (pc' := 143) (by decide +kernel) rfl rfl (sw_a1 h1 (sw_a1 h2 sw_a0)) ?_
      refine sf_l_lt (off := 22) (tgt := 165) (by decide +kernel) (by decide) hf (fun hc hf => ?_) (fun hc hf => ?_)
      · refine sf_blk [(.iconst (0), 0, 0, .int (0 : Int32))] (lv' := [(0, .ref a0), (1, .int a1), (2, .long a2), (4, .long a4), (6, .int a6)]) (st' := [.int (0 : Int32)]) (M1 := M) (ob := []) (pc' := 166) (by decide +kernel) rfl rfl sw_a0 ?_
        cases hf
        exact sf_bool rfl rfl (by decide +kernel)
      · obtain ⟨h3, hf⟩ := sw_gd_1 hf
        refine sf_blk [(.lload 4, 0, 0, .null), (.aload_n 0, 0, 0, .null), (.getfield 142, 12, 81, .null), (.iload_n 1, 0, 0, .null), (.iaload, 0, 0, .null), (.i2l, 0, 0, .null), (.lload_n 2, 0, 0, .null), (.lmul, 0, 0, .null), (.lcmp, 0, 0, .null)] (lv' := [(0, .ref a0), (1, .int a1), (2, .long a2), (4, .long a4), (6, .int a6)]) (st' := [.int (lg_cmp a4 ((rd_I M (rd_R M a0 81) a1.toNatClampNeg).toInt64 * a2))]) (M1 := M) (ob := [sw_ok M a0 12, sw_ar M (rd_R M a0 81) 13 a1]) (pc' := 158) (by decide +kernel) rfl rfl (sw_a1 h1 (sw_a1 h3 sw_a0)) ?_
        refine sf_l_gt (off := 7) (tgt := 165) (by decide +kernel) (by decide) hf (fun hc hf => ?_) (fun hc hf => ?_)
        · refine sf_blk [(.iconst (0), 0, 0, .int (0 : Int32))] (lv' := [(0, .ref a0), (1, .int a1), (2, .long a2), (4, .long a4), (6, .int a6)]) (st' := [.int (0 : Int32)]) (M1 := M) (ob := []) (pc' := 166) (by decide +kernel) rfl rfl sw_a0 ?_
          cases hf
          exact sf_bool rfl rfl (by decide +kernel)
        · exact sf_weak [] rfl (t_Model_holds_161 hd hf)
    · obtain ⟨h4, hf⟩ := sw_gd_1 hf
      obtain ⟨h5, hf⟩ := sw_gd_1 hf
      obtain ⟨h6, hf⟩ := sw_gd_1 hf
      refine sf_blk [(.lload 4, 0, 0, .null), (.aload_n 0, 0, 0, .null), (.getfield 148, 12, 84, .null), (.iload 6, 0, 0, .null), (.iaload, 0, 0, .null), (.i2l, 0, 0, .null), (.aload_n 0, 0, 0, .null), (.getfield 124, 12, 74, .null), (.bipush (64), 0, 0, .int (64 : Int32)), (.iload 6, 0, 0, .null), (.imul, 0, 0, .null), (.aload_n 0, 0, 0, .null), (.getfield 136, 12, 79, .null), (.iload_n 1, 0, 0, .null), (.iaload, 0, 0, .null), (.iadd, 0, 0, .null), (.iaload, 0, 0, .null), (.i2l, 0, 0, .null), (.lmul, 0, 0, .null), (.ladd, 0, 0, .null), (.lstore 4, 0, 0, .null), (.iinc 6 (1), 0, 0, .int (1 : Int32))] (lv' := [(6, .int (a6 + (1 : Int32))), (4, .long (a4 + ((rd_I M (rd_R M a0 84) a6.toNatClampNeg).toInt64 * (rd_I M (rd_R M a0 74) (((64 : Int32) * a6) + (rd_I M (rd_R M a0 79) a1.toNatClampNeg)).toNatClampNeg).toInt64))), (0, .ref a0), (1, .int a1), (2, .long a2)]) (st' := []) (M1 := M) (ob := [sw_ok M a0 12, sw_ar M (rd_R M a0 84) 13 a6, sw_ok M a0 12, sw_ok M a0 12, sw_ar M (rd_R M a0 79) 13 a1, sw_ar M (rd_R M a0 74) 13 (((64 : Int32) * a6) + (rd_I M (rd_R M a0 79) a1.toNatClampNeg))]) (pc' := 128) (by decide +kernel) rfl rfl (sw_a1 h1 (sw_a1 h4 (sw_a1 h1 (sw_a1 h1 (sw_a1 h5 (sw_a1 h6 sw_a0)))))) ?_
      refine sf_goto (off := -44) (tgt := 84) (by decide +kernel) (by decide) ?_
      exact sf_weak [2, 3, 4, 1, 0] rfl (ih _ _ _ _ _ _ hf)
def f_Model_holds_72 (N : Nat) (M : sw_M) : Option (Int32 × sw_M) :=
  some ((1 : Int32), M)
set_option maxRecDepth 10000 in
theorem t_Model_holds_72 {g : sw_G} {d n0 : Nat} (hd : 2 ≤ d) {r : Int32 × sw_M} {N : Nat} {M : sw_M} (hf : f_Model_holds_72 N M = some r) : sw_F g k_Model_holds d n0 (some (.int r.1)) r.2 72 [] [] M := by
  unfold f_Model_holds_72 at hf
  refine sf_blk [(.iconst (1), 0, 0, .int (1 : Int32))] (lv' := []) (st' := [.int (1 : Int32)]) (M1 := M) (ob := []) (pc' := 73) (by decide +kernel) rfl rfl sw_a0 ?_
  refine sf_goto (off := 4) (tgt := 77) (by decide +kernel) (by decide) ?_
  cases hf
  exact sf_bool rfl rfl (by decide +kernel)
def f_Model_holds (N : Nat) (a0 : Nat) (a1 : Int32) (M : sw_M) : Option (Int32 × sw_M) :=
  sw_gd [sw_ok M a0 12] (sw_gd [sw_ar M (rd_R M a0 79) 13 a1] ((f_Model_lightOf N a0 (rd_I M (rd_R M a0 79) a1.toNatClampNeg) M).bind (fun u3 => sw_gd [sw_ok u3.2 a0 12] (sw_gd [sw_ar u3.2 (rd_R u3.2 a0 78) 13 a1] (if (rd_I u3.2 (rd_R u3.2 a0 78) a1.toNatClampNeg) = 0 then sw_gd [sw_ar u3.2 (rd_R u3.2 a0 80) 13 a1] (if ((1000 : Int64) * u3.1.toInt64) < ((rd_I u3.2 (rd_R u3.2 a0 80) a1.toNatClampNeg).toInt64 * ((rd_I u3.2 a0 75).toInt64 * (rd_I u3.2 a0 51).toInt64)) then some ((0 : Int32), u3.2)
  else sw_gd [sw_ar u3.2 (rd_R u3.2 a0 81) 13 a1] (if ((rd_I u3.2 (rd_R u3.2 a0 81) a1.toNatClampNeg).toInt64 * ((rd_I u3.2 a0 75).toInt64 * (rd_I u3.2 a0 51).toInt64)) < ((1000 : Int64) * u3.1.toInt64) then some ((0 : Int32), u3.2)
  else f_Model_holds_72 N u3.2))
  else f_Model_holds_84 N N a0 a1 u3.1.toInt64 (0 : Int64) (0 : Int32) u3.2)))))
set_option maxRecDepth 10000 in
theorem t_Model_holds {g : sw_G} {d n0 : Nat} (hd : 2 ≤ d) {r : Int32 × sw_M} {N : Nat} {a0 : Nat} {a1 : Int32} {M : sw_M} (hf : f_Model_holds N a0 a1 M = some r) : sw_F g k_Model_holds d n0 (some (.int r.1)) r.2 0 [(0, .ref a0), (1, .int a1)] [] M := by
  unfold f_Model_holds at hf
  obtain ⟨h1, hf⟩ := sw_gd_1 hf
  obtain ⟨h2, hf⟩ := sw_gd_1 hf
  refine sf_blk [(.aload_n 0, 0, 0, .null), (.aload_n 0, 0, 0, .null), (.getfield 136, 12, 79, .null), (.iload_n 1, 0, 0, .null), (.iaload, 0, 0, .null)] (lv' := [(0, .ref a0), (1, .int a1)]) (st' := [.int (rd_I M (rd_R M a0 79) a1.toNatClampNeg), .ref a0]) (M1 := M) (ob := [sw_ok M a0 12, sw_ar M (rd_R M a0 79) 13 a1]) (pc' := 7) (by decide +kernel) rfl rfl (sw_a1 h1 (sw_a1 h2 sw_a0)) ?_
  obtain ⟨u3, hu3, hf⟩ := sw_bnd hf
  refine sf_callV (i := 471) (k2 := k_Model_lightOf) (d2 := d - 1) (As := [.int (rd_I M (rd_R M a0 79) a1.toNatClampNeg)]) (st := []) (q := a0) (ci := 12) mf_Model_lightOf mi_Model_lightOf ms_Model_lightOf (sw_m8 76 (by decide +kernel)) rfl (by decide) (by decide +kernel) rfl (Nat.le_of_ble_eq_true rfl) (by omega) h1 (o_Model_lightOf g (d := d - 1) (by omega) hu3) ?_
  show sw_F _ _ _ _ _ _ 10 [(0, .ref a0), (1, .int a1)] [.int u3.1] u3.2
  obtain ⟨h4, hf⟩ := sw_gd_1 hf
  obtain ⟨h5, hf⟩ := sw_gd_1 hf
  refine sf_blk [(.i2l, 0, 0, .null), (.lstore_n 2, 0, 0, .null), (.aload_n 0, 0, 0, .null), (.getfield 133, 12, 78, .null), (.iload_n 1, 0, 0, .null), (.iaload, 0, 0, .null)] (lv' := [(2, .long u3.1.toInt64), (0, .ref a0), (1, .int a1)]) (st' := [.int (rd_I u3.2 (rd_R u3.2 a0 78) a1.toNatClampNeg)]) (M1 := u3.2) (ob := [sw_ok u3.2 a0 12, sw_ar u3.2 (rd_R u3.2 a0 78) 13 a1]) (pc' := 18) (by decide +kernel) rfl rfl (sw_a1 h4 (sw_a1 h5 sw_a0)) ?_
  refine sf_z_ne (off := 60) (tgt := 78) (by decide +kernel) (by decide) hf (fun hc hf => ?_) (fun hc hf => ?_)
  · refine sf_blk [(.lconst 0, 0, 0, .long (0 : Int64)), (.lstore 4, 0, 0, .null), (.iconst (0), 0, 0, .int (0 : Int32)), (.istore 6, 0, 0, .null)] (lv' := [(6, .int (0 : Int32)), (4, .long (0 : Int64)), (2, .long u3.1.toInt64), (0, .ref a0), (1, .int a1)]) (st' := []) (M1 := u3.2) (ob := []) (pc' := 84) (by decide +kernel) rfl rfl sw_a0 ?_
    exact sf_weak [3, 4, 2, 1, 0] rfl (t_Model_holds_84 hd _ _ _ _ _ _ _ hf)
  · obtain ⟨h6, hf⟩ := sw_gd_1 hf
    refine sf_blk [(.aload_n 0, 0, 0, .null), (.getfield 127, 12, 75, .null), (.i2l, 0, 0, .null), (.aload_n 0, 0, 0, .null), (.getfield 56, 12, 51, .null), (.i2l, 0, 0, .null), (.lmul, 0, 0, .null), (.lstore 4, 0, 0, .null), (.ldc2_w 474, 0, 0, .long (1000 : Int64)), (.lload_n 2, 0, 0, .null), (.lmul, 0, 0, .null), (.aload_n 0, 0, 0, .null), (.getfield 139, 12, 80, .null), (.iload_n 1, 0, 0, .null), (.iaload, 0, 0, .null), (.i2l, 0, 0, .null), (.lload 4, 0, 0, .null), (.lmul, 0, 0, .null), (.lcmp, 0, 0, .null)] (lv' := [(4, .long ((rd_I u3.2 a0 75).toInt64 * (rd_I u3.2 a0 51).toInt64)), (2, .long u3.1.toInt64), (0, .ref a0), (1, .int a1)]) (st' := [.int (lg_cmp ((1000 : Int64) * u3.1.toInt64) ((rd_I u3.2 (rd_R u3.2 a0 80) a1.toNatClampNeg).toInt64 * ((rd_I u3.2 a0 75).toInt64 * (rd_I u3.2 a0 51).toInt64)))]) (M1 := u3.2) (ob := [sw_ok u3.2 a0 12, sw_ok u3.2 a0 12, sw_ok u3.2 a0 12, sw_ar u3.2 (rd_R u3.2 a0 80) 13 a1]) (pc' := 50) (by decide +kernel) rfl rfl (sw_a1 h4 (sw_a1 h4 (sw_a1 h4 (sw_a1 h6 sw_a0)))) ?_
    refine sf_l_lt (off := 26) (tgt := 76) (by decide +kernel) (by decide) hf (fun hc hf => ?_) (fun hc hf => ?_)
    · refine sf_blk [(.iconst (0), 0, 0, .int (0 : Int32))] (lv' := [(4, .long ((rd_I u3.2 a0 75).toInt64 * (rd_I u3.2 a0 51).toInt64)), (2, .long u3.1.toInt64), (0, .ref a0), (1, .int a1)]) (st' := [.int (0 : Int32)]) (M1 := u3.2) (ob := []) (pc' := 77) (by decide +kernel) rfl rfl sw_a0 ?_
      cases hf
      exact sf_bool rfl rfl (by decide +kernel)
    · obtain ⟨h7, hf⟩ := sw_gd_1 hf
      refine sf_blk [(.ldc2_w 474, 0, 0, .long (1000 : Int64)), (.lload_n 2, 0, 0, .null), (.lmul, 0, 0, .null), (.aload_n 0, 0, 0, .null), (.getfield 142, 12, 81, .null), (.iload_n 1, 0, 0, .null), (.iaload, 0, 0, .null), (.i2l, 0, 0, .null), (.lload 4, 0, 0, .null), (.lmul, 0, 0, .null), (.lcmp, 0, 0, .null)] (lv' := [(4, .long ((rd_I u3.2 a0 75).toInt64 * (rd_I u3.2 a0 51).toInt64)), (2, .long u3.1.toInt64), (0, .ref a0), (1, .int a1)]) (st' := [.int (lg_cmp ((1000 : Int64) * u3.1.toInt64) ((rd_I u3.2 (rd_R u3.2 a0 81) a1.toNatClampNeg).toInt64 * ((rd_I u3.2 a0 75).toInt64 * (rd_I u3.2 a0 51).toInt64)))]) (M1 := u3.2) (ob := [sw_ok u3.2 a0 12, sw_ar u3.2 (rd_R u3.2 a0 81) 13 a1]) (pc' := 69) (by decide +kernel) rfl rfl (sw_a1 h4 (sw_a1 h7 sw_a0)) ?_
      refine sf_l_gt (off := 7) (tgt := 76) (by decide +kernel) (by decide) hf (fun hc hf => ?_) (fun hc hf => ?_)
      · refine sf_blk [(.iconst (0), 0, 0, .int (0 : Int32))] (lv' := [(4, .long ((rd_I u3.2 a0 75).toInt64 * (rd_I u3.2 a0 51).toInt64)), (2, .long u3.1.toInt64), (0, .ref a0), (1, .int a1)]) (st' := [.int (0 : Int32)]) (M1 := u3.2) (ob := []) (pc' := 77) (by decide +kernel) rfl rfl sw_a0 ?_
        cases hf
        exact sf_bool rfl rfl (by decide +kernel)
      · exact sf_weak [] rfl (t_Model_holds_72 hd hf)
theorem o_Model_holds (g : sw_G) {d : Nat} (hd : 2 ≤ d) {N : Nat} {a0 : Nat} {a1 : Int32} {M : sw_M} {r : Int32 × sw_M} (hf : f_Model_holds N a0 a1 M = some r) : sw_Ok g k_Model_holds d [.ref a0, .int a1] M (some (.int r.1)) r.2 := sf_met (by decide +kernel) rfl (by decide) (Nat.le_of_ble_eq_true rfl) (t_Model_holds hd hf)
def f_Model_holding_38 (N : Nat) (k4 : Nat → Int32 → Int32 → sw_M → Option (Int32 × sw_M)) (a0 : Nat) (a1 : Int32) (a2 : Int32) (M : sw_M) : Option (Int32 × sw_M) :=
  k4 a0 a1 (a2 + (1 : Int32)) M
set_option maxRecDepth 10000 in
theorem t_Model_holding_38 {g : sw_G} {d n0 : Nat} (hd : 3 ≤ d) {r : Int32 × sw_M} (k4 : Nat → Int32 → Int32 → sw_M → Option (Int32 × sw_M)) (hk4 : ∀ (a0 : Nat) (a1 : Int32) (a2 : Int32) (M : sw_M), k4 a0 a1 a2 M = some r → sw_F g k_Model_holding d n0 (some (.int r.1)) r.2 4 [(0, .ref a0), (1, .int a1), (2, .int a2)] [] M) {N : Nat} {a0 : Nat} {a1 : Int32} {a2 : Int32} {M : sw_M} (hf : f_Model_holding_38 N k4 a0 a1 a2 M = some r) : sw_F g k_Model_holding d n0 (some (.int r.1)) r.2 38 [(0, .ref a0), (1, .int a1), (2, .int a2)] [] M := by
  unfold f_Model_holding_38 at hf
  refine sf_blk [(.iinc 2 (1), 0, 0, .int (1 : Int32))] (lv' := [(2, .int (a2 + (1 : Int32))), (0, .ref a0), (1, .int a1)]) (st' := []) (M1 := M) (ob := []) (pc' := 41) (by decide +kernel) rfl rfl sw_a0 ?_
  refine sf_goto (off := -37) (tgt := 4) (by decide +kernel) (by decide) ?_
  exact sf_weak [1, 2, 0] rfl (hk4 _ _ _ _ hf)
def f_Model_holding_4 (N : Nat) : Nat → Nat → Int32 → Int32 → sw_M → Option (Int32 × sw_M)
  | 0, _, _, _, _ => none
  | j + 1, a0, a1, a2, M =>
  sw_gd [sw_ok M a0 12] (if (rd_I M a0 76) ≤ a2 then some (a1, M)
  else if (((rd_I M a0 83) >>> (a2 &&& 31)) &&& (1 : Int32)) = (1 : Int32) then (f_Model_holds N a0 a2 M).bind (fun u2 => if u2.1 = 0 then f_Model_holding_38 N (f_Model_holding_4 N j) a0 a1 a2 u2.2
  else f_Model_holding_38 N (f_Model_holding_4 N j) a0 (a1 ||| ((1 : Int32) <<< (a2 &&& 31))) a2 u2.2)
  else f_Model_holding_38 N (f_Model_holding_4 N j) a0 a1 a2 M)
set_option maxRecDepth 10000 in
theorem t_Model_holding_4 {g : sw_G} {d n0 : Nat} (hd : 3 ≤ d) {r : Int32 × sw_M} {N : Nat} : ∀ (j : Nat) (a0 : Nat) (a1 : Int32) (a2 : Int32) (M : sw_M), f_Model_holding_4 N j a0 a1 a2 M = some r → sw_F g k_Model_holding d n0 (some (.int r.1)) r.2 4 [(0, .ref a0), (1, .int a1), (2, .int a2)] [] M := by
  intro j
  induction j with
  | zero =>
    intro a0 a1 a2 M hf
    rw [f_Model_holding_4] at hf
    cases hf
  | succ j ih =>
    intro a0 a1 a2 M hf
    rw [f_Model_holding_4] at hf
    obtain ⟨h1, hf⟩ := sw_gd_1 hf
    refine sf_blk [(.iload_n 2, 0, 0, .null), (.aload_n 0, 0, 0, .null), (.getfield 462, 12, 76, .null)] (lv' := [(0, .ref a0), (1, .int a1), (2, .int a2)]) (st' := [.int (rd_I M a0 76), .int a2]) (M1 := M) (ob := [sw_ok M a0 12]) (pc' := 9) (by decide +kernel) rfl rfl (sw_a1 h1 sw_a0) ?_
    refine sf_j_ge (off := 35) (tgt := 44) (by decide +kernel) (by decide) hf (fun hc hf => ?_) (fun hc hf => ?_)
    · refine sf_blk [(.iload_n 1, 0, 0, .null)] (lv' := [(0, .ref a0), (1, .int a1), (2, .int a2)]) (st' := [.int a1]) (M1 := M) (ob := []) (pc' := 45) (by decide +kernel) rfl rfl sw_a0 ?_
      cases hf
      exact sf_int rfl (by decide +kernel)
    · refine sf_blk [(.aload_n 0, 0, 0, .null), (.getfield 465, 12, 83, .null), (.iload_n 2, 0, 0, .null), (.ishr, 0, 0, .null), (.iconst (1), 0, 0, .int (1 : Int32)), (.iand, 0, 0, .null), (.iconst (1), 0, 0, .int (1 : Int32))] (lv' := [(0, .ref a0), (1, .int a1), (2, .int a2)]) (st' := [.int (1 : Int32), .int (((rd_I M a0 83) >>> (a2 &&& 31)) &&& (1 : Int32))]) (M1 := M) (ob := [sw_ok M a0 12]) (pc' := 21) (by decide +kernel) rfl rfl (sw_a1 h1 sw_a0) ?_
      refine sf_j_ne (off := 17) (tgt := 38) (by decide +kernel) (by decide) hf (fun hc hf => ?_) (fun hc hf => ?_)
      · exact sf_weak [0, 1, 2] rfl (t_Model_holding_38 hd _ ih hf)
      · refine sf_blk [(.aload_n 0, 0, 0, .null), (.iload_n 2, 0, 0, .null)] (lv' := [(0, .ref a0), (1, .int a1), (2, .int a2)]) (st' := [.int a2, .ref a0]) (M1 := M) (ob := []) (pc' := 26) (by decide +kernel) rfl rfl sw_a0 ?_
        obtain ⟨u2, hu2, hf⟩ := sw_bnd hf
        refine sf_callV (i := 476) (k2 := k_Model_holds) (d2 := d - 1) (As := [.int a2]) (st := []) (q := a0) (ci := 12) mf_Model_holds mi_Model_holds ms_Model_holds (sw_m8 72 (by decide +kernel)) rfl (by decide) (by decide +kernel) rfl (Nat.le_of_ble_eq_true rfl) (by omega) h1 (o_Model_holds g (d := d - 1) (by omega) hu2) ?_
        show sw_F _ _ _ _ _ _ 29 [(0, .ref a0), (1, .int a1), (2, .int a2)] [.int u2.1] u2.2
        refine sf_z_eq (off := 9) (tgt := 38) (by decide +kernel) (by decide) hf (fun hc hf => ?_) (fun hc hf => ?_)
        · exact sf_weak [0, 1, 2] rfl (t_Model_holding_38 hd _ ih hf)
        · refine sf_blk [(.iload_n 1, 0, 0, .null), (.iconst (1), 0, 0, .int (1 : Int32)), (.iload_n 2, 0, 0, .null), (.ishl, 0, 0, .null), (.ior, 0, 0, .null), (.istore_n 1, 0, 0, .null)] (lv' := [(1, .int (a1 ||| ((1 : Int32) <<< (a2 &&& 31)))), (0, .ref a0), (2, .int a2)]) (st' := []) (M1 := u2.2) (ob := []) (pc' := 38) (by decide +kernel) rfl rfl sw_a0 ?_
          exact sf_weak [1, 0, 2] rfl (t_Model_holding_38 hd _ ih hf)
def f_Model_holding (N : Nat) (a0 : Nat) (M : sw_M) : Option (Int32 × sw_M) :=
  f_Model_holding_4 N N a0 (0 : Int32) (0 : Int32) M
set_option maxRecDepth 10000 in
theorem t_Model_holding {g : sw_G} {d n0 : Nat} (hd : 3 ≤ d) {r : Int32 × sw_M} {N : Nat} {a0 : Nat} {M : sw_M} (hf : f_Model_holding N a0 M = some r) : sw_F g k_Model_holding d n0 (some (.int r.1)) r.2 0 [(0, .ref a0)] [] M := by
  unfold f_Model_holding at hf
  refine sf_blk [(.iconst (0), 0, 0, .int (0 : Int32)), (.istore_n 1, 0, 0, .null), (.iconst (0), 0, 0, .int (0 : Int32)), (.istore_n 2, 0, 0, .null)] (lv' := [(2, .int (0 : Int32)), (1, .int (0 : Int32)), (0, .ref a0)]) (st' := []) (M1 := M) (ob := []) (pc' := 4) (by decide +kernel) rfl rfl sw_a0 ?_
  exact sf_weak [2, 1, 0] rfl (t_Model_holding_4 hd _ _ _ _ _ hf)
theorem o_Model_holding (g : sw_G) {d : Nat} (hd : 3 ≤ d) {N : Nat} {a0 : Nat} {M : sw_M} {r : Int32 × sw_M} (hf : f_Model_holding N a0 M = some r) : sw_Ok g k_Model_holding d [.ref a0] M (some (.int r.1)) r.2 := sf_met (by decide +kernel) rfl (by decide) (Nat.le_of_ble_eq_true rfl) (t_Model_holding hd hf)
def f_Model_fit (N : Nat) (a0 : Nat) (M : sw_M) : Option (Int32 × sw_M) :=
  sw_gd [sw_ok M a0 12] ((f_Model_holding N a0 M).bind (fun u2 => sw_gd [sw_ok u2.2 a0 12] (if u2.1 = (rd_I u2.2 a0 83) then some ((1 : Int32), u2.2)
  else some ((0 : Int32), u2.2))))
set_option maxRecDepth 10000 in
theorem t_Model_fit {g : sw_G} {d n0 : Nat} (hd : 4 ≤ d) {r : Int32 × sw_M} {N : Nat} {a0 : Nat} {M : sw_M} (hf : f_Model_fit N a0 M = some r) : sw_F g k_Model_fit d n0 (some (.int r.1)) r.2 0 [(0, .ref a0)] [] M := by
  unfold f_Model_fit at hf
  obtain ⟨h1, hf⟩ := sw_gd_1 hf
  refine sf_blk [(.aload_n 0, 0, 0, .null)] (lv' := [(0, .ref a0)]) (st' := [.ref a0]) (M1 := M) (ob := []) (pc' := 1) (by decide +kernel) rfl rfl sw_a0 ?_
  obtain ⟨u2, hu2, hf⟩ := sw_bnd hf
  refine sf_callV (i := 479) (k2 := k_Model_holding) (d2 := d - 1) (As := []) (st := []) (q := a0) (ci := 12) mf_Model_holding mi_Model_holding ms_Model_holding (sw_m8 68 (by decide +kernel)) rfl (by decide) (by decide +kernel) rfl (Nat.le_of_ble_eq_true rfl) (by omega) h1 (o_Model_holding g (d := d - 1) (by omega) hu2) ?_
  show sw_F _ _ _ _ _ _ 4 [(0, .ref a0)] [.int u2.1] u2.2
  obtain ⟨h3, hf⟩ := sw_gd_1 hf
  refine sf_blk [(.aload_n 0, 0, 0, .null), (.getfield 465, 12, 83, .null)] (lv' := [(0, .ref a0)]) (st' := [.int (rd_I u2.2 a0 83), .int u2.1]) (M1 := u2.2) (ob := [sw_ok u2.2 a0 12]) (pc' := 8) (by decide +kernel) rfl rfl (sw_a1 h3 sw_a0) ?_
  refine sf_j_ne (off := 7) (tgt := 15) (by decide +kernel) (by decide) hf (fun hc hf => ?_) (fun hc hf => ?_)
  · refine sf_blk [(.iconst (0), 0, 0, .int (0 : Int32))] (lv' := [(0, .ref a0)]) (st' := [.int (0 : Int32)]) (M1 := u2.2) (ob := []) (pc' := 16) (by decide +kernel) rfl rfl sw_a0 ?_
    cases hf
    exact sf_bool rfl rfl (by decide +kernel)
  · refine sf_blk [(.iconst (1), 0, 0, .int (1 : Int32))] (lv' := [(0, .ref a0)]) (st' := [.int (1 : Int32)]) (M1 := u2.2) (ob := []) (pc' := 12) (by decide +kernel) rfl rfl sw_a0 ?_
    refine sf_goto (off := 4) (tgt := 16) (by decide +kernel) (by decide) ?_
    cases hf
    exact sf_bool rfl rfl (by decide +kernel)
theorem o_Model_fit (g : sw_G) {d : Nat} (hd : 4 ≤ d) {N : Nat} {a0 : Nat} {M : sw_M} {r : Int32 × sw_M} (hf : f_Model_fit N a0 M = some r) : sw_Ok g k_Model_fit d [.ref a0] M (some (.int r.1)) r.2 := sf_met (by decide +kernel) rfl (by decide) (Nat.le_of_ble_eq_true rfl) (t_Model_fit hd hf)
def f_Model_toFit_16 (N : Nat) : Nat → Nat → Int32 → sw_M → Option (Int32 × sw_M)
  | 0, _, _, _ => none
  | j + 1, a0, a2, M =>
  if a2 = 0 then sw_gd [sw_bz a2] (some (a2, M))
  else sw_gd [sw_ok M a0 12] ((f_Model_fit N a0 M).bind (fun u3 => if u3.1 = 0 then sw_gd [sw_ok u3.2 a0 12] ((f_Model_nextWeights N a0 u3.2).bind (fun u6 => f_Model_toFit_16 N j a0 u6.1 u6.2))
  else sw_gd [sw_bz a2] (some (a2, u3.2))))
set_option maxRecDepth 10000 in
theorem t_Model_toFit_16 {g : sw_G} {d n0 : Nat} (hd : 5 ≤ d) {r : Int32 × sw_M} {N : Nat} : ∀ (j : Nat) (a0 : Nat) (a2 : Int32) (M : sw_M), f_Model_toFit_16 N j a0 a2 M = some r → sw_F g k_Model_toFit d n0 (some (.int r.1)) r.2 16 [(0, .ref a0), (2, .int a2)] [] M := by
  intro j
  induction j with
  | zero =>
    intro a0 a2 M hf
    rw [f_Model_toFit_16] at hf
    cases hf
  | succ j ih =>
    intro a0 a2 M hf
    rw [f_Model_toFit_16] at hf
    refine sf_blk [(.iload_n 2, 0, 0, .null)] (lv' := [(0, .ref a0), (2, .int a2)]) (st' := [.int a2]) (M1 := M) (ob := []) (pc' := 17) (by decide +kernel) rfl rfl sw_a0 ?_
    refine sf_z_eq (off := 18) (tgt := 35) (by decide +kernel) (by decide) hf (fun hc hf => ?_) (fun hc hf => ?_)
    · obtain ⟨h1, hf⟩ := sw_gd_1 hf
      refine sf_blk [(.iload_n 2, 0, 0, .null)] (lv' := [(0, .ref a0), (2, .int a2)]) (st' := [.int a2]) (M1 := M) (ob := []) (pc' := 36) (by decide +kernel) rfl rfl sw_a0 ?_
      cases hf
      exact sf_bool rfl h1 (by decide +kernel)
    · obtain ⟨h2, hf⟩ := sw_gd_1 hf
      refine sf_blk [(.aload_n 0, 0, 0, .null)] (lv' := [(0, .ref a0), (2, .int a2)]) (st' := [.ref a0]) (M1 := M) (ob := []) (pc' := 21) (by decide +kernel) rfl rfl sw_a0 ?_
      obtain ⟨u3, hu3, hf⟩ := sw_bnd hf
      refine sf_callV (i := 488) (k2 := k_Model_fit) (d2 := d - 1) (As := []) (st := []) (q := a0) (ci := 12) mf_Model_fit mi_Model_fit ms_Model_fit (sw_m8 64 (by decide +kernel)) rfl (by decide) (by decide +kernel) rfl (Nat.le_of_ble_eq_true rfl) (by omega) h2 (o_Model_fit g (d := d - 1) (by omega) hu3) ?_
      show sw_F _ _ _ _ _ _ 24 [(0, .ref a0), (2, .int a2)] [.int u3.1] u3.2
      refine sf_z_ne (off := 11) (tgt := 35) (by decide +kernel) (by decide) hf (fun hc hf => ?_) (fun hc hf => ?_)
      · obtain ⟨h4, hf⟩ := sw_gd_1 hf
        refine sf_blk [(.iload_n 2, 0, 0, .null)] (lv' := [(0, .ref a0), (2, .int a2)]) (st' := [.int a2]) (M1 := u3.2) (ob := []) (pc' := 36) (by decide +kernel) rfl rfl sw_a0 ?_
        cases hf
        exact sf_bool rfl h4 (by decide +kernel)
      · obtain ⟨h5, hf⟩ := sw_gd_1 hf
        refine sf_blk [(.aload_n 0, 0, 0, .null)] (lv' := [(0, .ref a0), (2, .int a2)]) (st' := [.ref a0]) (M1 := u3.2) (ob := []) (pc' := 28) (by decide +kernel) rfl rfl sw_a0 ?_
        obtain ⟨u6, hu6, hf⟩ := sw_bnd hf
        refine sf_callV (i := 485) (k2 := k_Model_nextWeights) (d2 := d - 1) (As := []) (st := []) (q := a0) (ci := 12) mf_Model_nextWeights mi_Model_nextWeights ms_Model_nextWeights (sw_m8 60 (by decide +kernel)) rfl (by decide) (by decide +kernel) rfl (Nat.le_of_ble_eq_true rfl) (by omega) h5 (o_Model_nextWeights g (d := d - 1) (by omega) hu6) ?_
        show sw_F _ _ _ _ _ _ 31 [(0, .ref a0), (2, .int a2)] [.int u6.1] u6.2
        refine sf_blk [(.istore_n 2, 0, 0, .null)] (lv' := [(2, .int u6.1), (0, .ref a0)]) (st' := []) (M1 := u6.2) (ob := []) (pc' := 32) (by decide +kernel) rfl rfl sw_a0 ?_
        refine sf_goto (off := -16) (tgt := 16) (by decide +kernel) (by decide) ?_
        exact sf_weak [1, 0] rfl (ih _ _ _ hf)
def f_Model_toFit_15 (N : Nat) (a0 : Nat) (b0 : Int32) (M : sw_M) : Option (Int32 × sw_M) :=
  f_Model_toFit_16 N N a0 b0 M
set_option maxRecDepth 10000 in
theorem t_Model_toFit_15 {g : sw_G} {d n0 : Nat} (hd : 5 ≤ d) {r : Int32 × sw_M} {N : Nat} {a0 : Nat} {b0 : Int32} {M : sw_M} (hf : f_Model_toFit_15 N a0 b0 M = some r) : sw_F g k_Model_toFit d n0 (some (.int r.1)) r.2 15 [(0, .ref a0)] [.int b0] M := by
  unfold f_Model_toFit_15 at hf
  refine sf_blk [(.istore_n 2, 0, 0, .null)] (lv' := [(2, .int b0), (0, .ref a0)]) (st' := []) (M1 := M) (ob := []) (pc' := 16) (by decide +kernel) rfl rfl sw_a0 ?_
  exact sf_weak [1, 0] rfl (t_Model_toFit_16 hd _ _ _ _ hf)
def f_Model_toFit (N : Nat) (a0 : Nat) (a1 : Int32) (M : sw_M) : Option (Int32 × sw_M) :=
  if a1 = 0 then sw_gd [sw_ok M a0 12] ((f_Model_nextWeights N a0 M).bind (fun u2 => f_Model_toFit_15 N a0 u2.1 u2.2))
  else sw_gd [sw_ok M a0 12] ((f_Model_firstWeights N a0 M).bind (fun u4 => f_Model_toFit_15 N a0 u4.1 u4.2))
set_option maxRecDepth 10000 in
theorem t_Model_toFit {g : sw_G} {d n0 : Nat} (hd : 5 ≤ d) {r : Int32 × sw_M} {N : Nat} {a0 : Nat} {a1 : Int32} {M : sw_M} (hf : f_Model_toFit N a0 a1 M = some r) : sw_F g k_Model_toFit d n0 (some (.int r.1)) r.2 0 [(0, .ref a0), (1, .int a1)] [] M := by
  unfold f_Model_toFit at hf
  refine sf_blk [(.iload_n 1, 0, 0, .null)] (lv' := [(0, .ref a0), (1, .int a1)]) (st' := [.int a1]) (M1 := M) (ob := []) (pc' := 1) (by decide +kernel) rfl rfl sw_a0 ?_
  refine sf_z_eq (off := 10) (tgt := 11) (by decide +kernel) (by decide) hf (fun hc hf => ?_) (fun hc hf => ?_)
  · obtain ⟨h1, hf⟩ := sw_gd_1 hf
    refine sf_blk [(.aload_n 0, 0, 0, .null)] (lv' := [(0, .ref a0), (1, .int a1)]) (st' := [.ref a0]) (M1 := M) (ob := []) (pc' := 12) (by decide +kernel) rfl rfl sw_a0 ?_
    obtain ⟨u2, hu2, hf⟩ := sw_bnd hf
    refine sf_callV (i := 485) (k2 := k_Model_nextWeights) (d2 := d - 1) (As := []) (st := []) (q := a0) (ci := 12) mf_Model_nextWeights mi_Model_nextWeights ms_Model_nextWeights (sw_m8 60 (by decide +kernel)) rfl (by decide) (by decide +kernel) rfl (Nat.le_of_ble_eq_true rfl) (by omega) h1 (o_Model_nextWeights g (d := d - 1) (by omega) hu2) ?_
    show sw_F _ _ _ _ _ _ 15 [(0, .ref a0), (1, .int a1)] [.int u2.1] u2.2
    exact sf_weak [0] rfl (t_Model_toFit_15 hd hf)
  · obtain ⟨h3, hf⟩ := sw_gd_1 hf
    refine sf_blk [(.aload_n 0, 0, 0, .null)] (lv' := [(0, .ref a0), (1, .int a1)]) (st' := [.ref a0]) (M1 := M) (ob := []) (pc' := 5) (by decide +kernel) rfl rfl sw_a0 ?_
    obtain ⟨u4, hu4, hf⟩ := sw_bnd hf
    refine sf_callV (i := 482) (k2 := k_Model_firstWeights) (d2 := d - 1) (As := []) (st := []) (q := a0) (ci := 12) mf_Model_firstWeights mi_Model_firstWeights ms_Model_firstWeights (sw_m8 56 (by decide +kernel)) rfl (by decide) (by decide +kernel) rfl (Nat.le_of_ble_eq_true rfl) (by omega) h3 (o_Model_firstWeights g (d := d - 1) (by omega) hu4) ?_
    show sw_F _ _ _ _ _ _ 8 [(0, .ref a0), (1, .int a1)] [.int u4.1] u4.2
    refine sf_goto (off := 7) (tgt := 15) (by decide +kernel) (by decide) ?_
    exact sf_weak [0] rfl (t_Model_toFit_15 hd hf)
theorem o_Model_toFit (g : sw_G) {d : Nat} (hd : 5 ≤ d) {N : Nat} {a0 : Nat} {a1 : Int32} {M : sw_M} {r : Int32 × sw_M} (hf : f_Model_toFit N a0 a1 M = some r) : sw_Ok g k_Model_toFit d [.ref a0, .int a1] M (some (.int r.1)) r.2 := sf_met (by decide +kernel) rfl (by decide) (Nat.le_of_ble_eq_true rfl) (t_Model_toFit hd hf)
