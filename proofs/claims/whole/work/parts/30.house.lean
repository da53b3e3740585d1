/-! printed by program: functions of methods, and that the bytes compute them -/
def f_Rule_init (N : Nat) (a0 : Nat) (M : sw_M) : Option (sw_M) :=
  sw_gd [sw_ok M a0 7] (sw_gd [sw_nxa M 13 (48 : Int32)] (sw_gd [sw_ok (wr_N M) a0 7] (sw_gd [sw_nxa (wr_R (wr_N M) a0 0 (rd_N M + 1)) 13 (48 : Int32)] (sw_gd [sw_ok (wr_N (wr_R (wr_N M) a0 0 (rd_N M + 1))) a0 7] (sw_gd [sw_nxa (wr_R (wr_N (wr_R (wr_N M) a0 0 (rd_N M + 1))) a0 1 (rd_N M + 2)) 16 (48 : Int32)] (sw_gd [sw_ok (wr_N (wr_R (wr_N (wr_R (wr_N M) a0 0 (rd_N M + 1))) a0 1 (rd_N M + 2))) a0 7] (some (wr_R (wr_N (wr_R (wr_N (wr_R (wr_N M) a0 0 (rd_N M + 1))) a0 1 (rd_N M + 2))) a0 2 (rd_N M + 3)))))))))
set_option maxRecDepth 10000 in
theorem t_Rule_init {g : sw_G} {d n0 : Nat} (hd : 2 ≤ d) {r : sw_M} {N : Nat} {a0 : Nat} {M : sw_M} (hf : f_Rule_init N a0 M = some r) : sw_F g k_Rule_init d n0 none r 0 [(0, .ref a0)] [] M := by
  unfold f_Rule_init at hf
  obtain ⟨h1, hf⟩ := sw_gd_1 hf
  refine sf_blk [(.aload_n 0, 0, 0, .null)] (lv' := [(0, .ref a0)]) (st' := [.ref a0]) (M1 := M) (ob := []) (pc' := 1) (by decide +kernel) rfl rfl sw_a0 ?_
  refine sf_obj (i := 3) (st := []) (sw_m1 43 (by decide +kernel)) sw_t_oi sw_t_oc (by decide +kernel) (by omega) (Nat.le_of_ble_eq_true rfl) (sw_ok_ne h1) ?_
  show sw_F _ _ _ _ _ _ 4 [(0, .ref a0)] [] M
  obtain ⟨h2, hf⟩ := sw_gd_1 hf
  obtain ⟨h3, hf⟩ := sw_gd_1 hf
  obtain ⟨h4, hf⟩ := sw_gd_1 hf
  obtain ⟨h5, hf⟩ := sw_gd_1 hf
  obtain ⟨h6, hf⟩ := sw_gd_1 hf
  obtain ⟨h7, hf⟩ := sw_gd_1 hf
  refine sf_blk [(.aload_n 0, 0, 0, .null), (.bipush (48), 0, 0, .int (48 : Int32)), (.newarray .int, 13, 0, .null), (.putfield 9, 7, 0, .null), (.aload_n 0, 0, 0, .null), (.bipush (48), 0, 0, .int (48 : Int32)), (.newarray .int, 13, 0, .null), (.putfield 15, 7, 1, .null), (.aload_n 0, 0, 0, .null), (.bipush (48), 0, 0, .int (48 : Int32)), (.newarray .long, 16, 0, .null), (.putfield 18, 7, 2, .null)] (lv' := [(0, .ref a0)]) (st' := []) (M1 := (wr_R (wr_N (wr_R (wr_N (wr_R (wr_N M) a0 0 (rd_N M + 1))) a0 1 (rd_N M + 2))) a0 2 (rd_N M + 3))) (ob := [sw_nxa M 13 (48 : Int32), sw_ok (wr_N M) a0 7, sw_nxa (wr_R (wr_N M) a0 0 (rd_N M + 1)) 13 (48 : Int32), sw_ok (wr_N (wr_R (wr_N M) a0 0 (rd_N M + 1))) a0 7, sw_nxa (wr_R (wr_N (wr_R (wr_N M) a0 0 (rd_N M + 1))) a0 1 (rd_N M + 2)) 16 (48 : Int32), sw_ok (wr_N (wr_R (wr_N (wr_R (wr_N M) a0 0 (rd_N M + 1))) a0 1 (rd_N M + 2))) a0 7]) (pc' := 28) (by decide +kernel) rfl rfl (sw_a1 h2 (sw_a1 h3 (sw_a1 h4 (sw_a1 h5 (sw_a1 h6 (sw_a1 h7 sw_a0)))))) ?_
  cases hf
  exact sf_void rfl (by decide +kernel)
theorem o_Rule_init (g : sw_G) {d : Nat} (hd : 2 ≤ d) {N : Nat} {a0 : Nat} {M : sw_M} {r : sw_M} (hf : f_Rule_init N a0 M = some r) : sw_Ok g k_Rule_init d [.ref a0] M none r := sf_met (by decide +kernel) rfl (by decide) (Nat.le_of_ble_eq_true rfl) (t_Rule_init hd hf)
def f_Part_init (N : Nat) (a0 : Nat) (M : sw_M) : Option (sw_M) :=
  sw_gd [sw_ok M a0 5] (some M)
set_option maxRecDepth 10000 in
theorem t_Part_init {g : sw_G} {d n0 : Nat} (hd : 2 ≤ d) {r : sw_M} {N : Nat} {a0 : Nat} {M : sw_M} (hf : f_Part_init N a0 M = some r) : sw_F g k_Part_init d n0 none r 0 [(0, .ref a0)] [] M := by
  unfold f_Part_init at hf
  obtain ⟨h1, hf⟩ := sw_gd_1 hf
  refine sf_blk [(.aload_n 0, 0, 0, .null)] (lv' := [(0, .ref a0)]) (st' := [.ref a0]) (M1 := M) (ob := []) (pc' := 1) (by decide +kernel) rfl rfl sw_a0 ?_
  refine sf_obj (i := 3) (st := []) (sw_m1 76 (by decide +kernel)) sw_t_oi sw_t_oc (by decide +kernel) (by omega) (Nat.le_of_ble_eq_true rfl) (sw_ok_ne h1) ?_
  show sw_F _ _ _ _ _ _ 4 [(0, .ref a0)] [] M
  cases hf
  exact sf_void rfl (by decide +kernel)
theorem o_Part_init (g : sw_G) {d : Nat} (hd : 2 ≤ d) {N : Nat} {a0 : Nat} {M : sw_M} {r : sw_M} (hf : f_Part_init N a0 M = some r) : sw_Ok g k_Part_init d [.ref a0] M none r := sf_met (by decide +kernel) rfl (by decide) (Nat.le_of_ble_eq_true rfl) (t_Part_init hd hf)
def f_Field_init_26 (N : Nat) : Nat → Nat → Int32 → sw_M → Option (sw_M)
  | 0, _, _, _ => none
  | j + 1, a0, a1, M =>
  sw_gd [sw_ok M a0 0] (sw_gd [sw_oka M (rd_R M a0 0)] (if (nI (sw_len (rd_R M a0 0))) ≤ a1 then some M
  else sw_gd [sw_nx M 5 0] (sw_gd [sw_ok (wr_N M) (rd_N M + 1) 5] ((f_Part_init N (rd_N M + 1) (wr_N M)).bind (fun u5 => sw_gd [(sw_ar u5 (rd_R M a0 0) 17 a1 && sw_ok u5 (rd_N M + 1) 4) || (sw_ar u5 (rd_R M a0 0) 18 a1 && sw_ok u5 (rd_N M + 1) 5)] (f_Field_init_26 N j a0 (a1 + (1 : Int32)) (wr_R u5 (rd_R M a0 0) a1.toNatClampNeg (rd_N M + 1))))))))
set_option maxRecDepth 10000 in
theorem t_Field_init_26 {g : sw_G} {d n0 : Nat} (hd : 3 ≤ d) {r : sw_M} {N : Nat} : ∀ (j : Nat) (a0 : Nat) (a1 : Int32) (M : sw_M), f_Field_init_26 N j a0 a1 M = some r → sw_F g k_Field_init d n0 none r 26 [(0, .ref a0), (1, .int a1)] [] M := by
  intro j
  induction j with
  | zero =>
    intro a0 a1 M hf
    rw [f_Field_init_26] at hf
    cases hf
  | succ j ih =>
    intro a0 a1 M hf
    rw [f_Field_init_26] at hf
    obtain ⟨h1, hf⟩ := sw_gd_1 hf
    obtain ⟨h2, hf⟩ := sw_gd_1 hf
    refine sf_blk [(.iload_n 1, 0, 0, .null), (.aload_n 0, 0, 0, .null), (.getfield 11, 0, 0, .null), (.arraylength, 0, 0, .null)] (lv' := [(0, .ref a0), (1, .int a1)]) (st' := [.int (nI (sw_len (rd_R M a0 0))), .int a1]) (M1 := M) (ob := [sw_ok M a0 0, sw_oka M (rd_R M a0 0)]) (pc' := 32) (by decide +kernel) rfl rfl (sw_a1 h1 (sw_a1 h2 sw_a0)) ?_
    refine sf_j_ge (off := 22) (tgt := 54) (by decide +kernel) (by decide) hf (fun hc hf => ?_) (fun hc hf => ?_)
    · cases hf
      exact sf_void rfl (by decide +kernel)
    · obtain ⟨h3, hf⟩ := sw_gd_1 hf
      obtain ⟨h4, hf⟩ := sw_gd_1 hf
      refine sf_blk [(.aload_n 0, 0, 0, .null), (.getfield 11, 0, 0, .null), (.iload_n 1, 0, 0, .null), (.new 9, 5, 0, .null), (.dup, 0, 0, .null)] (lv' := [(0, .ref a0), (1, .int a1)]) (st' := [.ref (rd_N M + 1), .ref (rd_N M + 1), .int a1, .ref (rd_R M a0 0)]) (M1 := (wr_N M)) (ob := [sw_ok M a0 0, sw_nx M 5 0]) (pc' := 44) (by decide +kernel) rfl rfl (sw_a1 h1 (sw_a1 h3 sw_a0)) ?_
      obtain ⟨u5, hu5, hf⟩ := sw_bnd hf
      refine sf_callIN (host := "SwarmHouse") (i := 24) (k2 := k_Part_init) (d2 := d - 1) (As := []) (st := [.ref (rd_N M + 1), .int a1, .ref (rd_R M a0 0)]) (q := (rd_N M + 1)) (ci := 5) mf_Part_init rfl rfl mi_Part_init (sw_m1 73 (by decide +kernel)) (by decide) (by decide +kernel) rfl (Nat.le_of_ble_eq_true rfl) (by omega) h4 (o_Part_init g (d := d - 1) (by omega) hu5) ?_
      show sw_F _ _ _ _ _ _ 47 [(0, .ref a0), (1, .int a1)] [.ref (rd_N M + 1), .int a1, .ref (rd_R M a0 0)] u5
      obtain ⟨h6, hf⟩ := sw_gd_1 hf
      refine sf_blk [(.aastore, 0, 0, .null), (.iinc 1 (1), 0, 0, .int (1 : Int32))] (lv' := [(1, .int (a1 + (1 : Int32))), (0, .ref a0)]) (st' := []) (M1 := (wr_R u5 (rd_R M a0 0) a1.toNatClampNeg (rd_N M + 1))) (ob := [(sw_ar u5 (rd_R M a0 0) 17 a1 && sw_ok u5 (rd_N M + 1) 4) || (sw_ar u5 (rd_R M a0 0) 18 a1 && sw_ok u5 (rd_N M + 1) 5)]) (pc' := 51) (by decide +kernel) rfl rfl (sw_a1 h6 sw_a0) ?_
      refine sf_goto (off := -25) (tgt := 26) (by decide +kernel) (by decide) ?_
      exact sf_weak [1, 0] rfl (ih _ _ _ hf)
def f_Field_init (N : Nat) (a0 : Nat) (M : sw_M) : Option (sw_M) :=
  sw_gd [sw_ok M a0 0] (sw_gd [sw_nxa M 18 (8 : Int32)] (sw_gd [sw_ok (wr_N M) a0 0] (sw_gd [sw_nx (wr_R (wr_N M) a0 0 (rd_N M + 1)) 7 0] (sw_gd [sw_ok (wr_N (wr_R (wr_N M) a0 0 (rd_N M + 1))) (rd_N M + 2) 7] ((f_Rule_init N (rd_N M + 2) (wr_N (wr_R (wr_N M) a0 0 (rd_N M + 1)))).bind (fun u6 => sw_gd [sw_ok u6 a0 0] (f_Field_init_26 N N a0 (0 : Int32) (wr_R u6 a0 1 (rd_N M + 2)))))))))
set_option maxRecDepth 10000 in
theorem t_Field_init {g : sw_G} {d n0 : Nat} (hd : 3 ≤ d) {r : sw_M} {N : Nat} {a0 : Nat} {M : sw_M} (hf : f_Field_init N a0 M = some r) : sw_F g k_Field_init d n0 none r 0 [(0, .ref a0)] [] M := by
  unfold f_Field_init at hf
  obtain ⟨h1, hf⟩ := sw_gd_1 hf
  refine sf_blk [(.aload_n 0, 0, 0, .null)] (lv' := [(0, .ref a0)]) (st' := [.ref a0]) (M1 := M) (ob := []) (pc' := 1) (by decide +kernel) rfl rfl sw_a0 ?_
  refine sf_obj (i := 3) (st := []) (sw_m1 35 (by decide +kernel)) sw_t_oi sw_t_oc (by decide +kernel) (by omega) (Nat.le_of_ble_eq_true rfl) (sw_ok_ne h1) ?_
  show sw_F _ _ _ _ _ _ 4 [(0, .ref a0)] [] M
  obtain ⟨h2, hf⟩ := sw_gd_1 hf
  obtain ⟨h3, hf⟩ := sw_gd_1 hf
  obtain ⟨h4, hf⟩ := sw_gd_1 hf
  obtain ⟨h5, hf⟩ := sw_gd_1 hf
  refine sf_blk [(.aload_n 0, 0, 0, .null), (.bipush (8), 0, 0, .int (8 : Int32)), (.anewarray 9, 18, 0, .null), (.putfield 11, 0, 0, .null), (.aload_n 0, 0, 0, .null), (.new 17, 7, 0, .null), (.dup, 0, 0, .null)] (lv' := [(0, .ref a0)]) (st' := [.ref (rd_N M + 2), .ref (rd_N M + 2), .ref a0]) (M1 := (wr_N (wr_R (wr_N M) a0 0 (rd_N M + 1)))) (ob := [sw_nxa M 18 (8 : Int32), sw_ok (wr_N M) a0 0, sw_nx (wr_R (wr_N M) a0 0 (rd_N M + 1)) 7 0]) (pc' := 18) (by decide +kernel) rfl rfl (sw_a1 h2 (sw_a1 h3 (sw_a1 h4 sw_a0))) ?_
  obtain ⟨u6, hu6, hf⟩ := sw_bnd hf
  refine sf_callIN (host := "SwarmHouse") (i := 19) (k2 := k_Rule_init) (d2 := d - 1) (As := []) (st := [.ref (rd_N M + 2), .ref a0]) (q := (rd_N M + 2)) (ci := 7) mf_Rule_init rfl rfl mi_Rule_init (sw_m1 40 (by decide +kernel)) (by decide) (by decide +kernel) rfl (Nat.le_of_ble_eq_true rfl) (by omega) h5 (o_Rule_init g (d := d - 1) (by omega) hu6) ?_
  show sw_F _ _ _ _ _ _ 21 [(0, .ref a0)] [.ref (rd_N M + 2), .ref a0] u6
  obtain ⟨h7, hf⟩ := sw_gd_1 hf
  refine sf_blk [(.putfield 20, 0, 1, .null), (.iconst (0), 0, 0, .int (0 : Int32)), (.istore_n 1, 0, 0, .null)] (lv' := [(1, .int (0 : Int32)), (0, .ref a0)]) (st' := []) (M1 := (wr_R u6 a0 1 (rd_N M + 2))) (ob := [sw_ok u6 a0 0]) (pc' := 26) (by decide +kernel) rfl rfl (sw_a1 h7 sw_a0) ?_
  exact sf_weak [1, 0] rfl (t_Field_init_26 hd _ _ _ _ hf)
theorem o_Field_init (g : sw_G) {d : Nat} (hd : 3 ≤ d) {N : Nat} {a0 : Nat} {M : sw_M} {r : sw_M} (hf : f_Field_init N a0 M = some r) : sw_Ok g k_Field_init d [.ref a0] M none r := sf_met (by decide +kernel) rfl (by decide) (Nat.le_of_ble_eq_true rfl) (t_Field_init hd hf)
def f_Reader_init (N : Nat) (a0 : Nat) (a1 : Nat) (M : sw_M) : Option (sw_M) :=
  sw_gd [sw_ok M a0 6] (sw_gd [sw_nx M 0 0] (sw_gd [sw_ok (wr_N M) (rd_N M + 1) 0] ((f_Field_init N (rd_N M + 1) (wr_N M)).bind (fun u4 => sw_gd [sw_ok u4 a0 6] (some (wr_R (wr_I (wr_I (wr_R u4 a0 1 (rd_N M + 1)) a0 9 (0 : Int32)) a0 10 (-1 : Int32)) a0 0 a1))))))
set_option maxRecDepth 10000 in
theorem t_Reader_init {g : sw_G} {d n0 : Nat} (hd : 4 ≤ d) {r : sw_M} {N : Nat} {a0 : Nat} {a1 : Nat} {M : sw_M} (hf : f_Reader_init N a0 a1 M = some r) : sw_F g k_Reader_init d n0 none r 0 [(0, .ref a0), (1, .ref a1)] [] M := by
  unfold f_Reader_init at hf
  obtain ⟨h1, hf⟩ := sw_gd_1 hf
  refine sf_blk [(.aload_n 0, 0, 0, .null)] (lv' := [(0, .ref a0), (1, .ref a1)]) (st' := [.ref a0]) (M1 := M) (ob := []) (pc' := 1) (by decide +kernel) rfl rfl sw_a0 ?_
  refine sf_obj (i := 3) (st := []) (sw_m1 162 (by decide +kernel)) sw_t_oi sw_t_oc (by decide +kernel) (by omega) (Nat.le_of_ble_eq_true rfl) (sw_ok_ne h1) ?_
  show sw_F _ _ _ _ _ _ 4 [(0, .ref a0), (1, .ref a1)] [] M
  obtain ⟨h2, hf⟩ := sw_gd_1 hf
  obtain ⟨h3, hf⟩ := sw_gd_1 hf
  refine sf_blk [(.aload_n 0, 0, 0, .null), (.new 9, 0, 0, .null), (.dup, 0, 0, .null)] (lv' := [(0, .ref a0), (1, .ref a1)]) (st' := [.ref (rd_N M + 1), .ref (rd_N M + 1), .ref a0]) (M1 := (wr_N M)) (ob := [sw_nx M 0 0]) (pc' := 9) (by decide +kernel) rfl rfl (sw_a1 h2 sw_a0) ?_
  obtain ⟨u4, hu4, hf⟩ := sw_bnd hf
  refine sf_callI (i := 11) (k2 := k_Field_init) (d2 := d - 1) (As := []) (st := [.ref (rd_N M + 1), .ref a0]) (q := (rd_N M + 1)) (ci := 0) mf_Field_init rfl rfl mi_Field_init (sw_m1 164 (by decide +kernel)) (by decide) (by decide +kernel) rfl (Nat.le_of_ble_eq_true rfl) (by omega) h3 (o_Field_init g (d := d - 1) (by omega) hu4) ?_
  show sw_F _ _ _ _ _ _ 12 [(0, .ref a0), (1, .ref a1)] [.ref (rd_N M + 1), .ref a0] u4
  obtain ⟨h5, hf⟩ := sw_gd_1 hf
  refine sf_blk [(.putfield 12, 6, 1, .null), (.aload_n 0, 0, 0, .null), (.iconst (0), 0, 0, .int (0 : Int32)), (.putfield 18, 6, 9, .null), (.aload_n 0, 0, 0, .null), (.iconst (-1), 0, 0, .int (-1 : Int32)), (.putfield 22, 6, 10, .null), (.aload_n 0, 0, 0, .null), (.aload_n 1, 0, 0, .null), (.putfield 25, 6, 0, .null)] (lv' := [(0, .ref a0), (1, .ref a1)]) (st' := []) (M1 := (wr_R (wr_I (wr_I (wr_R u4 a0 1 (rd_N M + 1)) a0 9 (0 : Int32)) a0 10 (-1 : Int32)) a0 0 a1)) (ob := [sw_ok u4 a0 6, sw_ok (wr_R u4 a0 1 (rd_N M + 1)) a0 6, sw_ok (wr_I (wr_R u4 a0 1 (rd_N M + 1)) a0 9 (0 : Int32)) a0 6, sw_ok (wr_I (wr_I (wr_R u4 a0 1 (rd_N M + 1)) a0 9 (0 : Int32)) a0 10 (-1 : Int32)) a0 6]) (pc' := 30) (by decide +kernel) rfl rfl (sw_a1 h5 (sw_a1 h5 (sw_a1 h5 (sw_a1 h5 sw_a0)))) ?_
  cases hf
  exact sf_void rfl (by decide +kernel)
theorem o_Reader_init (g : sw_G) {d : Nat} (hd : 4 ≤ d) {N : Nat} {a0 : Nat} {a1 : Nat} {M : sw_M} {r : sw_M} (hf : f_Reader_init N a0 a1 M = some r) : sw_Ok g k_Reader_init d [.ref a0, .ref a1] M none r := sf_met (by decide +kernel) rfl (by decide) (Nat.le_of_ble_eq_true rfl) (t_Reader_init hd hf)
def f_Star_init (N : Nat) (a0 : Nat) (M : sw_M) : Option (sw_M) :=
  sw_gd [sw_ok M a0 8] (some M)
set_option maxRecDepth 10000 in
theorem t_Star_init {g : sw_G} {d n0 : Nat} (hd : 2 ≤ d) {r : sw_M} {N : Nat} {a0 : Nat} {M : sw_M} (hf : f_Star_init N a0 M = some r) : sw_F g k_Star_init d n0 none r 0 [(0, .ref a0)] [] M := by
  unfold f_Star_init at hf
  obtain ⟨h1, hf⟩ := sw_gd_1 hf
  refine sf_blk [(.aload_n 0, 0, 0, .null)] (lv' := [(0, .ref a0)]) (st' := [.ref a0]) (M1 := M) (ob := []) (pc' := 1) (by decide +kernel) rfl rfl sw_a0 ?_
  refine sf_obj (i := 3) (st := []) (sw_m1 207 (by decide +kernel)) sw_t_oi sw_t_oc (by decide +kernel) (by omega) (Nat.le_of_ble_eq_true rfl) (sw_ok_ne h1) ?_
  show sw_F _ _ _ _ _ _ 4 [(0, .ref a0)] [] M
  cases hf
  exact sf_void rfl (by decide +kernel)
theorem o_Star_init (g : sw_G) {d : Nat} (hd : 2 ≤ d) {N : Nat} {a0 : Nat} {M : sw_M} {r : sw_M} (hf : f_Star_init N a0 M = some r) : sw_Ok g k_Star_init d [.ref a0] M none r := sf_met (by decide +kernel) rfl (by decide) (Nat.le_of_ble_eq_true rfl) (t_Star_init hd hf)
def f_Swarm_init_40 (N : Nat) (a0 : Nat) (a1 : Nat) (M : sw_M) : Option (sw_M) :=
  sw_gd [sw_ok M a0 10] (some (wr_R (wr_I (wr_I (wr_I M a0 6 (1000 : Int32)) a0 7 (0 : Int32)) a0 8 (0 : Int32)) a0 0 a1))
set_option maxRecDepth 10000 in
theorem t_Swarm_init_40 {g : sw_G} {d n0 : Nat} (hd : 3 ≤ d) {r : sw_M} {N : Nat} {a0 : Nat} {a1 : Nat} {M : sw_M} (hf : f_Swarm_init_40 N a0 a1 M = some r) : sw_F g k_Swarm_init d n0 none r 40 [(0, .ref a0), (1, .ref a1)] [] M := by
  unfold f_Swarm_init_40 at hf
  obtain ⟨h1, hf⟩ := sw_gd_1 hf
  refine sf_blk [(.aload_n 0, 0, 0, .null), (.sipush (1000), 0, 0, .int (1000 : Int32)), (.putfield 34, 10, 6, .null), (.aload_n 0, 0, 0, .null), (.iconst (0), 0, 0, .int (0 : Int32)), (.putfield 37, 10, 7, .null), (.aload_n 0, 0, 0, .null), (.iconst (0), 0, 0, .int (0 : Int32)), (.putfield 41, 10, 8, .null), (.aload_n 0, 0, 0, .null), (.aload_n 1, 0, 0, .null), (.putfield 44, 10, 0, .null)] (lv' := [(0, .ref a0), (1, .ref a1)]) (st' := []) (M1 := (wr_R (wr_I (wr_I (wr_I M a0 6 (1000 : Int32)) a0 7 (0 : Int32)) a0 8 (0 : Int32)) a0 0 a1)) (ob := [sw_ok M a0 10, sw_ok (wr_I M a0 6 (1000 : Int32)) a0 10, sw_bz (0 : Int32), sw_ok (wr_I (wr_I M a0 6 (1000 : Int32)) a0 7 (0 : Int32)) a0 10, sw_ok (wr_I (wr_I (wr_I M a0 6 (1000 : Int32)) a0 7 (0 : Int32)) a0 8 (0 : Int32)) a0 10]) (pc' := 62) (by decide +kernel) rfl rfl (sw_a1 h1 (sw_a1 h1 (sw_a1 rfl (sw_a1 h1 (sw_a1 h1 sw_a0))))) ?_
  cases hf
  exact sf_void rfl (by decide +kernel)
def f_Swarm_init (N : Nat) (a0 : Nat) (a1 : Nat) (M : sw_M) : Option (sw_M) :=
  sw_gd [sw_ok M a0 10] (sw_gd [sw_nxa M 17 (6 : Int32)] (sw_gd [sw_ok (wr_N M) a0 10] (sw_gd [sw_nx (wr_R (wr_N M) a0 1 (rd_N M + 1)) 8 0] (sw_gd [sw_ok (wr_N (wr_R (wr_N M) a0 1 (rd_N M + 1))) (rd_N M + 2) 8] ((f_Star_init N (rd_N M + 2) (wr_N (wr_R (wr_N M) a0 1 (rd_N M + 1)))).bind (fun u6 => sw_gd [sw_ok u6 a0 10] (f_Swarm_init_40 N a0 a1 (wr_I (wr_I (wr_I (wr_R u6 a0 2 (rd_N M + 2)) a0 3 (0 : Int32)) a0 4 (60 : Int32)) a0 5 (4 : Int32)))))))))
set_option maxRecDepth 10000 in
theorem t_Swarm_init {g : sw_G} {d n0 : Nat} (hd : 3 ≤ d) {r : sw_M} {N : Nat} {a0 : Nat} {a1 : Nat} {M : sw_M} (hf : f_Swarm_init N a0 a1 M = some r) : sw_F g k_Swarm_init d n0 none r 0 [(0, .ref a0), (1, .ref a1)] [] M := by
  unfold f_Swarm_init at hf
  obtain ⟨h1, hf⟩ := sw_gd_1 hf
  refine sf_blk [(.aload_n 0, 0, 0, .null)] (lv' := [(0, .ref a0), (1, .ref a1)]) (st' := [.ref a0]) (M1 := M) (ob := []) (pc' := 1) (by decide +kernel) rfl rfl sw_a0 ?_
  refine sf_obj (i := 3) (st := []) (sw_m2 5 (by decide +kernel)) sw_t_oi sw_t_oc (by decide +kernel) (by omega) (Nat.le_of_ble_eq_true rfl) (sw_ok_ne h1) ?_
  show sw_F _ _ _ _ _ _ 4 [(0, .ref a0), (1, .ref a1)] [] M
  obtain ⟨h2, hf⟩ := sw_gd_1 hf
  obtain ⟨h3, hf⟩ := sw_gd_1 hf
  obtain ⟨h4, hf⟩ := sw_gd_1 hf
  obtain ⟨h5, hf⟩ := sw_gd_1 hf
  refine sf_blk [(.aload_n 0, 0, 0, .null), (.bipush (6), 0, 0, .int (6 : Int32)), (.anewarray 9, 17, 0, .null), (.putfield 11, 10, 1, .null), (.aload_n 0, 0, 0, .null), (.new 17, 8, 0, .null), (.dup, 0, 0, .null)] (lv' := [(0, .ref a0), (1, .ref a1)]) (st' := [.ref (rd_N M + 2), .ref (rd_N M + 2), .ref a0]) (M1 := (wr_N (wr_R (wr_N M) a0 1 (rd_N M + 1)))) (ob := [sw_nxa M 17 (6 : Int32), sw_ok (wr_N M) a0 10, sw_nx (wr_R (wr_N M) a0 1 (rd_N M + 1)) 8 0]) (pc' := 18) (by decide +kernel) rfl rfl (sw_a1 h2 (sw_a1 h3 (sw_a1 h4 sw_a0))) ?_
  obtain ⟨u6, hu6, hf⟩ := sw_bnd hf
  refine sf_callIN (host := "SwarmHouse") (i := 19) (k2 := k_Star_init) (d2 := d - 1) (As := []) (st := [.ref (rd_N M + 2), .ref a0]) (q := (rd_N M + 2)) (ci := 8) mf_Star_init rfl rfl mi_Star_init (sw_m2 9 (by decide +kernel)) (by decide) (by decide +kernel) rfl (Nat.le_of_ble_eq_true rfl) (by omega) h5 (o_Star_init g (d := d - 1) (by omega) hu6) ?_
  show sw_F _ _ _ _ _ _ 21 [(0, .ref a0), (1, .ref a1)] [.ref (rd_N M + 2), .ref a0] u6
  obtain ⟨h7, hf⟩ := sw_gd_1 hf
  refine sf_blk [(.putfield 20, 10, 2, .null), (.aload_n 0, 0, 0, .null), (.iconst (0), 0, 0, .int (0 : Int32)), (.putfield 24, 10, 3, .null), (.aload_n 0, 0, 0, .null), (.bipush (60), 0, 0, .int (60 : Int32)), (.putfield 28, 10, 4, .null), (.aload_n 0, 0, 0, .null), (.iconst (4), 0, 0, .int (4 : Int32)), (.putfield 31, 10, 5, .null)] (lv' := [(0, .ref a0), (1, .ref a1)]) (st' := []) (M1 := (wr_I (wr_I (wr_I (wr_R u6 a0 2 (rd_N M + 2)) a0 3 (0 : Int32)) a0 4 (60 : Int32)) a0 5 (4 : Int32))) (ob := [sw_ok u6 a0 10, sw_ok (wr_R u6 a0 2 (rd_N M + 2)) a0 10, sw_ok (wr_I (wr_R u6 a0 2 (rd_N M + 2)) a0 3 (0 : Int32)) a0 10, sw_ok (wr_I (wr_I (wr_R u6 a0 2 (rd_N M + 2)) a0 3 (0 : Int32)) a0 4 (60 : Int32)) a0 10]) (pc' := 40) (by decide +kernel) rfl rfl (sw_a1 h7 (sw_a1 h7 (sw_a1 h7 (sw_a1 h7 sw_a0)))) ?_
  exact sf_weak [0, 1] rfl (t_Swarm_init_40 hd hf)
theorem o_Swarm_init (g : sw_G) {d : Nat} (hd : 3 ≤ d) {N : Nat} {a0 : Nat} {a1 : Nat} {M : sw_M} {r : sw_M} (hf : f_Swarm_init N a0 a1 M = some r) : sw_Ok g k_Swarm_init d [.ref a0, .ref a1] M none r := sf_met (by decide +kernel) rfl (by decide) (Nat.le_of_ble_eq_true rfl) (t_Swarm_init hd hf)
def f_Notes_init_44 (N : Nat) (a0 : Nat) (M : sw_M) : Option (sw_M) :=
  sw_gd [sw_ok M a0 3] (some (wr_I M a0 5 (0 : Int32)))
set_option maxRecDepth 10000 in
theorem t_Notes_init_44 {g : sw_G} {d n0 : Nat} (hd : 2 ≤ d) {r : sw_M} {N : Nat} {a0 : Nat} {M : sw_M} (hf : f_Notes_init_44 N a0 M = some r) : sw_F g k_Notes_init d n0 none r 44 [(0, .ref a0)] [] M := by
  unfold f_Notes_init_44 at hf
  obtain ⟨h1, hf⟩ := sw_gd_1 hf
  refine sf_blk [(.aload_n 0, 0, 0, .null), (.iconst (0), 0, 0, .int (0 : Int32)), (.putfield 28, 3, 5, .null)] (lv' := [(0, .ref a0)]) (st' := []) (M1 := (wr_I M a0 5 (0 : Int32))) (ob := [sw_ok M a0 3]) (pc' := 49) (by decide +kernel) rfl rfl (sw_a1 h1 sw_a0) ?_
  cases hf
  exact sf_void rfl (by decide +kernel)
def f_Notes_init (N : Nat) (a0 : Nat) (M : sw_M) : Option (sw_M) :=
  sw_gd [sw_ok M a0 3] (sw_gd [sw_nxa M 13 (10 : Int32)] (sw_gd [sw_ok (wr_N M) a0 3] (sw_gd [sw_nxa (wr_R (wr_N M) a0 0 (rd_N M + 1)) 13 (10 : Int32)] (sw_gd [sw_ok (wr_N (wr_R (wr_N M) a0 0 (rd_N M + 1))) a0 3] (sw_gd [sw_nxa (wr_R (wr_N (wr_R (wr_N M) a0 0 (rd_N M + 1))) a0 1 (rd_N M + 2)) 13 (10 : Int32)] (sw_gd [sw_ok (wr_N (wr_R (wr_N (wr_R (wr_N M) a0 0 (rd_N M + 1))) a0 1 (rd_N M + 2))) a0 3] (sw_gd [sw_nxa (wr_R (wr_N (wr_R (wr_N (wr_R (wr_N M) a0 0 (rd_N M + 1))) a0 1 (rd_N M + 2))) a0 2 (rd_N M + 3)) 13 (10 : Int32)] (sw_gd [sw_ok (wr_N (wr_R (wr_N (wr_R (wr_N (wr_R (wr_N M) a0 0 (rd_N M + 1))) a0 1 (rd_N M + 2))) a0 2 (rd_N M + 3))) a0 3] (sw_gd [sw_nxa (wr_R (wr_N (wr_R (wr_N (wr_R (wr_N (wr_R (wr_N M) a0 0 (rd_N M + 1))) a0 1 (rd_N M + 2))) a0 2 (rd_N M + 3))) a0 3 (rd_N M + 4)) 15 (10 : Int32)] (sw_gd [sw_ok (wr_N (wr_R (wr_N (wr_R (wr_N (wr_R (wr_N (wr_R (wr_N M) a0 0 (rd_N M + 1))) a0 1 (rd_N M + 2))) a0 2 (rd_N M + 3))) a0 3 (rd_N M + 4))) a0 3] (f_Notes_init_44 N a0 (wr_R (wr_N (wr_R (wr_N (wr_R (wr_N (wr_R (wr_N (wr_R (wr_N M) a0 0 (rd_N M + 1))) a0 1 (rd_N M + 2))) a0 2 (rd_N M + 3))) a0 3 (rd_N M + 4))) a0 4 (rd_N M + 5)))))))))))))
set_option maxRecDepth 10000 in
theorem t_Notes_init {g : sw_G} {d n0 : Nat} (hd : 2 ≤ d) {r : sw_M} {N : Nat} {a0 : Nat} {M : sw_M} (hf : f_Notes_init N a0 M = some r) : sw_F g k_Notes_init d n0 none r 0 [(0, .ref a0)] [] M := by
  unfold f_Notes_init at hf
  obtain ⟨h1, hf⟩ := sw_gd_1 hf
  refine sf_blk [(.aload_n 0, 0, 0, .null)] (lv' := [(0, .ref a0)]) (st' := [.ref a0]) (M1 := M) (ob := []) (pc' := 1) (by decide +kernel) rfl rfl sw_a0 ?_
  refine sf_obj (i := 3) (st := []) (sw_m2 50 (by decide +kernel)) sw_t_oi sw_t_oc (by decide +kernel) (by omega) (Nat.le_of_ble_eq_true rfl) (sw_ok_ne h1) ?_
  show sw_F _ _ _ _ _ _ 4 [(0, .ref a0)] [] M
  obtain ⟨h2, hf⟩ := sw_gd_1 hf
  obtain ⟨h3, hf⟩ := sw_gd_1 hf
  obtain ⟨h4, hf⟩ := sw_gd_1 hf
  obtain ⟨h5, hf⟩ := sw_gd_1 hf
  obtain ⟨h6, hf⟩ := sw_gd_1 hf
  obtain ⟨h7, hf⟩ := sw_gd_1 hf
  obtain ⟨h8, hf⟩ := sw_gd_1 hf
  obtain ⟨h9, hf⟩ := sw_gd_1 hf
  obtain ⟨h10, hf⟩ := sw_gd_1 hf
  obtain ⟨h11, hf⟩ := sw_gd_1 hf
  refine sf_blk [(.aload_n 0, 0, 0, .null), (.bipush (10), 0, 0, .int (10 : Int32)), (.newarray .int, 13, 0, .null), (.putfield 9, 3, 0, .null), (.aload_n 0, 0, 0, .null), (.bipush (10), 0, 0, .int (10 : Int32)), (.newarray .int, 13, 0, .null), (.putfield 15, 3, 1, .null), (.aload_n 0, 0, 0, .null), (.bipush (10), 0, 0, .int (10 : Int32)), (.newarray .int, 13, 0, .null), (.putfield 18, 3, 2, .null), (.aload_n 0, 0, 0, .null), (.bipush (10), 0, 0, .int (10 : Int32)), (.newarray .int, 13, 0, .null), (.putfield 21, 3, 3, .null), (.aload_n 0, 0, 0, .null), (.bipush (10), 0, 0, .int (10 : Int32)), (.newarray .boolean, 15, 0, .null), (.putfield 24, 3, 4, .null)] (lv' := [(0, .ref a0)]) (st' := []) (M1 := (wr_R (wr_N (wr_R (wr_N (wr_R (wr_N (wr_R (wr_N (wr_R (wr_N M) a0 0 (rd_N M + 1))) a0 1 (rd_N M + 2))) a0 2 (rd_N M + 3))) a0 3 (rd_N M + 4))) a0 4 (rd_N M + 5))) (ob := [sw_nxa M 13 (10 : Int32), sw_ok (wr_N M) a0 3, sw_nxa (wr_R (wr_N M) a0 0 (rd_N M + 1)) 13 (10 : Int32), sw_ok (wr_N (wr_R (wr_N M) a0 0 (rd_N M + 1))) a0 3, sw_nxa (wr_R (wr_N (wr_R (wr_N M) a0 0 (rd_N M + 1))) a0 1 (rd_N M + 2)) 13 (10 : Int32), sw_ok (wr_N (wr_R (wr_N (wr_R (wr_N M) a0 0 (rd_N M + 1))) a0 1 (rd_N M + 2))) a0 3, sw_nxa (wr_R (wr_N (wr_R (wr_N (wr_R (wr_N M) a0 0 (rd_N M + 1))) a0 1 (rd_N M + 2))) a0 2 (rd_N M + 3)) 13 (10 : Int32), sw_ok (wr_N (wr_R (wr_N (wr_R (wr_N (wr_R (wr_N M) a0 0 (rd_N M + 1))) a0 1 (rd_N M + 2))) a0 2 (rd_N M + 3))) a0 3, sw_nxa (wr_R (wr_N (wr_R (wr_N (wr_R (wr_N (wr_R (wr_N M) a0 0 (rd_N M + 1))) a0 1 (rd_N M + 2))) a0 2 (rd_N M + 3))) a0 3 (rd_N M + 4)) 15 (10 : Int32), sw_ok (wr_N (wr_R (wr_N (wr_R (wr_N (wr_R (wr_N (wr_R (wr_N M) a0 0 (rd_N M + 1))) a0 1 (rd_N M + 2))) a0 2 (rd_N M + 3))) a0 3 (rd_N M + 4))) a0 3]) (pc' := 44) (by decide +kernel) rfl rfl (sw_a1 h2 (sw_a1 h3 (sw_a1 h4 (sw_a1 h5 (sw_a1 h6 (sw_a1 h7 (sw_a1 h8 (sw_a1 h9 (sw_a1 h10 (sw_a1 h11 sw_a0)))))))))) ?_
  exact sf_weak [0] rfl (t_Notes_init_44 hd hf)
theorem o_Notes_init (g : sw_G) {d : Nat} (hd : 2 ≤ d) {N : Nat} {a0 : Nat} {M : sw_M} {r : sw_M} (hf : f_Notes_init N a0 M = some r) : sw_Ok g k_Notes_init d [.ref a0] M none r := sf_met (by decide +kernel) rfl (by decide) (Nat.le_of_ble_eq_true rfl) (t_Notes_init hd hf)
def f_Fits_init_44 (N : Nat) (a0 : Nat) (a1 : Nat) (a2 : Nat) (M : sw_M) : Option (sw_M) :=
  sw_gd [sw_nxa M 15 (1024 : Int32)] (sw_gd [sw_ok (wr_N M) a0 1] (some (wr_R (wr_R (wr_I (wr_R (wr_N M) a0 7 (rd_N M + 1)) a0 8 (6 : Int32)) a0 0 a1) a0 1 a2)))
set_option maxRecDepth 10000 in
theorem t_Fits_init_44 {g : sw_G} {d n0 : Nat} (hd : 2 ≤ d) {r : sw_M} {N : Nat} {a0 : Nat} {a1 : Nat} {a2 : Nat} {M : sw_M} (hf : f_Fits_init_44 N a0 a1 a2 M = some r) : sw_F g k_Fits_init d n0 none r 44 [(0, .ref a0), (1, .ref a1), (2, .ref a2)] [] M := by
  unfold f_Fits_init_44 at hf
  obtain ⟨h1, hf⟩ := sw_gd_1 hf
  obtain ⟨h2, hf⟩ := sw_gd_1 hf
  refine sf_blk [(.aload_n 0, 0, 0, .null), (.sipush (1024), 0, 0, .int (1024 : Int32)), (.newarray .boolean, 15, 0, .null), (.putfield 26, 1, 7, .null), (.aload_n 0, 0, 0, .null), (.bipush (6), 0, 0, .int (6 : Int32)), (.putfield 30, 1, 8, .null), (.aload_n 0, 0, 0, .null), (.aload_n 1, 0, 0, .null), (.putfield 34, 1, 0, .null), (.aload_n 0, 0, 0, .null), (.aload_n 2, 0, 0, .null), (.putfield 38, 1, 1, .null)] (lv' := [(0, .ref a0), (1, .ref a1), (2, .ref a2)]) (st' := []) (M1 := (wr_R (wr_R (wr_I (wr_R (wr_N M) a0 7 (rd_N M + 1)) a0 8 (6 : Int32)) a0 0 a1) a0 1 a2)) (ob := [sw_nxa M 15 (1024 : Int32), sw_ok (wr_N M) a0 1, sw_ok (wr_R (wr_N M) a0 7 (rd_N M + 1)) a0 1, sw_ok (wr_I (wr_R (wr_N M) a0 7 (rd_N M + 1)) a0 8 (6 : Int32)) a0 1, sw_ok (wr_R (wr_I (wr_R (wr_N M) a0 7 (rd_N M + 1)) a0 8 (6 : Int32)) a0 0 a1) a0 1]) (pc' := 69) (by decide +kernel) rfl rfl (sw_a1 h1 (sw_a1 h2 (sw_a1 h2 (sw_a1 h2 (sw_a1 h2 sw_a0))))) ?_
  cases hf
  exact sf_void rfl (by decide +kernel)
def f_Fits_init (N : Nat) (a0 : Nat) (a1 : Nat) (a2 : Nat) (M : sw_M) : Option (sw_M) :=
  sw_gd [sw_ok M a0 1] (sw_gd [sw_nxa M 13 (6 : Int32)] (sw_gd [sw_ok (wr_N M) a0 1] (sw_gd [sw_nxa (wr_R (wr_N M) a0 2 (rd_N M + 1)) 13 (6 : Int32)] (sw_gd [sw_ok (wr_N (wr_R (wr_N M) a0 2 (rd_N M + 1))) a0 1] (sw_gd [decide (¬ (10 : Int32) < 0) && (decide (¬ (6 : Int32) < 0) && (Nat.ble (10 : Int32).toNatClampNeg 60000 && (Nat.ble (6 : Int32).toNatClampNeg 60000 && sw_nxm (wr_R (wr_N (wr_R (wr_N M) a0 2 (rd_N M + 1))) a0 3 (rd_N M + 2)) (10 : Int32).toNatClampNeg (6 : Int32).toNatClampNeg)))] (sw_gd [sw_ok (sw_mk (wr_R (wr_N (wr_R (wr_N M) a0 2 (rd_N M + 1))) a0 3 (rd_N M + 2)) (10 : Int32).toNatClampNeg) a0 1] (sw_gd [decide (¬ (10 : Int32) < 0) && (decide (¬ (6 : Int32) < 0) && (Nat.ble (10 : Int32).toNatClampNeg 60000 && (Nat.ble (6 : Int32).toNatClampNeg 60000 && sw_nxm (wr_R (sw_mk (wr_R (wr_N (wr_R (wr_N M) a0 2 (rd_N M + 1))) a0 3 (rd_N M + 2)) (10 : Int32).toNatClampNeg) a0 5 (rd_N M + 3)) (10 : Int32).toNatClampNeg (6 : Int32).toNatClampNeg)))] (sw_gd [sw_ok (sw_mk (wr_R (sw_mk (wr_R (wr_N (wr_R (wr_N M) a0 2 (rd_N M + 1))) a0 3 (rd_N M + 2)) (10 : Int32).toNatClampNeg) a0 5 (rd_N M + 3)) (10 : Int32).toNatClampNeg) a0 1] (f_Fits_init_44 N a0 a1 a2 (wr_R (sw_mk (wr_R (sw_mk (wr_R (wr_N (wr_R (wr_N M) a0 2 (rd_N M + 1))) a0 3 (rd_N M + 2)) (10 : Int32).toNatClampNeg) a0 5 (rd_N M + 3)) (10 : Int32).toNatClampNeg) a0 6 (rd_N M + 14)))))))))))
set_option maxRecDepth 10000 in
theorem t_Fits_init {g : sw_G} {d n0 : Nat} (hd : 2 ≤ d) {r : sw_M} {N : Nat} {a0 : Nat} {a1 : Nat} {a2 : Nat} {M : sw_M} (hf : f_Fits_init N a0 a1 a2 M = some r) : sw_F g k_Fits_init d n0 none r 0 [(0, .ref a0), (1, .ref a1), (2, .ref a2)] [] M := by
  unfold f_Fits_init at hf
  obtain ⟨h1, hf⟩ := sw_gd_1 hf
  refine sf_blk [(.aload_n 0, 0, 0, .null)] (lv' := [(0, .ref a0), (1, .ref a1), (2, .ref a2)]) (st' := [.ref a0]) (M1 := M) (ob := []) (pc' := 1) (by decide +kernel) rfl rfl sw_a0 ?_
  refine sf_obj (i := 3) (st := []) (sw_m2 84 (by decide +kernel)) sw_t_oi sw_t_oc (by decide +kernel) (by omega) (Nat.le_of_ble_eq_true rfl) (sw_ok_ne h1) ?_
  show sw_F _ _ _ _ _ _ 4 [(0, .ref a0), (1, .ref a1), (2, .ref a2)] [] M
  obtain ⟨h2, hf⟩ := sw_gd_1 hf
  obtain ⟨h3, hf⟩ := sw_gd_1 hf
  obtain ⟨h4, hf⟩ := sw_gd_1 hf
  obtain ⟨h5, hf⟩ := sw_gd_1 hf
  obtain ⟨h6, hf⟩ := sw_gd_1 hf
  obtain ⟨h7, hf⟩ := sw_gd_1 hf
  obtain ⟨h8, hf⟩ := sw_gd_1 hf
  obtain ⟨h9, hf⟩ := sw_gd_1 hf
  refine sf_blk [(.aload_n 0, 0, 0, .null), (.bipush (6), 0, 0, .int (6 : Int32)), (.newarray .int, 13, 0, .null), (.putfield 9, 1, 2, .null), (.aload_n 0, 0, 0, .null), (.bipush (6), 0, 0, .int (6 : Int32)), (.newarray .int, 13, 0, .null), (.putfield 15, 1, 3, .null), (.aload_n 0, 0, 0, .null), (.bipush (10), 0, 0, .int (10 : Int32)), (.bipush (6), 0, 0, .int (6 : Int32)), (.multianewarray 18 2, 0, 0, .null), (.putfield 20, 1, 5, .null), (.aload_n 0, 0, 0, .null), (.bipush (10), 0, 0, .int (10 : Int32)), (.bipush (6), 0, 0, .int (6 : Int32)), (.multianewarray 18 2, 0, 0, .null), (.putfield 23, 1, 6, .null)] (lv' := [(0, .ref a0), (1, .ref a1), (2, .ref a2)]) (st' := []) (M1 := (wr_R (sw_mk (wr_R (sw_mk (wr_R (wr_N (wr_R (wr_N M) a0 2 (rd_N M + 1))) a0 3 (rd_N M + 2)) (10 : Int32).toNatClampNeg) a0 5 (rd_N M + 3)) (10 : Int32).toNatClampNeg) a0 6 (rd_N M + 14))) (ob := [sw_nxa M 13 (6 : Int32), sw_ok (wr_N M) a0 1, sw_nxa (wr_R (wr_N M) a0 2 (rd_N M + 1)) 13 (6 : Int32), sw_ok (wr_N (wr_R (wr_N M) a0 2 (rd_N M + 1))) a0 1, decide (¬ (10 : Int32) < 0) && (decide (¬ (6 : Int32) < 0) && (Nat.ble (10 : Int32).toNatClampNeg 60000 && (Nat.ble (6 : Int32).toNatClampNeg 60000 && sw_nxm (wr_R (wr_N (wr_R (wr_N M) a0 2 (rd_N M + 1))) a0 3 (rd_N M + 2)) (10 : Int32).toNatClampNeg (6 : Int32).toNatClampNeg))), sw_ok (sw_mk (wr_R (wr_N (wr_R (wr_N M) a0 2 (rd_N M + 1))) a0 3 (rd_N M + 2)) (10 : Int32).toNatClampNeg) a0 1, decide (¬ (10 : Int32) < 0) && (decide (¬ (6 : Int32) < 0) && (Nat.ble (10 : Int32).toNatClampNeg 60000 && (Nat.ble (6 : Int32).toNatClampNeg 60000 && sw_nxm (wr_R (sw_mk (wr_R (wr_N (wr_R (wr_N M) a0 2 (rd_N M + 1))) a0 3 (rd_N M + 2)) (10 : Int32).toNatClampNeg) a0 5 (rd_N M + 3)) (10 : Int32).toNatClampNeg (6 : Int32).toNatClampNeg))), sw_ok (sw_mk (wr_R (sw_mk (wr_R (wr_N (wr_R (wr_N M) a0 2 (rd_N M + 1))) a0 3 (rd_N M + 2)) (10 : Int32).toNatClampNeg) a0 5 (rd_N M + 3)) (10 : Int32).toNatClampNeg) a0 1]) (pc' := 44) (by decide +kernel) rfl rfl (sw_a1 h2 (sw_a1 h3 (sw_a1 h4 (sw_a1 h5 (sw_a1 h6 (sw_a1 h7 (sw_a1 h8 (sw_a1 h9 sw_a0)))))))) ?_
  exact sf_weak [0, 1, 2] rfl (t_Fits_init_44 hd hf)
theorem o_Fits_init (g : sw_G) {d : Nat} (hd : 2 ≤ d) {N : Nat} {a0 : Nat} {a1 : Nat} {a2 : Nat} {M : sw_M} {r : sw_M} (hf : f_Fits_init N a0 a1 a2 M = some r) : sw_Ok g k_Fits_init d [.ref a0, .ref a1, .ref a2] M none r := sf_met (by decide +kernel) rfl (by decide) (Nat.le_of_ble_eq_true rfl) (t_Fits_init hd hf)
def f_Models_init_42 (N : Nat) (M : sw_M) : Option (sw_M) :=
  some M
set_option maxRecDepth 10000 in
theorem t_Models_init_42 {g : sw_G} {d n0 : Nat} (hd : 2 ≤ d) {r : sw_M} {N : Nat} {M : sw_M} (hf : f_Models_init_42 N M = some r) : sw_F g k_Models_init d n0 none r 42 [] [] M := by
  unfold f_Models_init_42 at hf
  cases hf
  exact sf_void rfl (by decide +kernel)
def f_Models_init (N : Nat) (a0 : Nat) (a1 : Nat) (a2 : Nat) (a3 : Nat) (a4 : Nat) (M : sw_M) : Option (sw_M) :=
  sw_gd [sw_ok M a0 2] (sw_gd [decide (¬ (8 : Int32) < 0) && (decide (¬ (64 : Int32) < 0) && (Nat.ble (8 : Int32).toNatClampNeg 60000 && (Nat.ble (64 : Int32).toNatClampNeg 60000 && sw_nxm M (8 : Int32).toNatClampNeg (64 : Int32).toNatClampNeg)))] (sw_gd [sw_ok (sw_mk M (8 : Int32).toNatClampNeg) a0 2] (f_Models_init_42 N (wr_R (wr_R (wr_R (wr_R (wr_I (wr_R (sw_mk M (8 : Int32).toNatClampNeg) a0 4 (rd_N M + 1)) a0 5 (0 : Int32)) a0 0 a1) a0 1 a2) a0 2 a3) a0 3 a4))))
set_option maxRecDepth 10000 in
theorem t_Models_init {g : sw_G} {d n0 : Nat} (hd : 2 ≤ d) {r : sw_M} {N : Nat} {a0 : Nat} {a1 : Nat} {a2 : Nat} {a3 : Nat} {a4 : Nat} {M : sw_M} (hf : f_Models_init N a0 a1 a2 a3 a4 M = some r) : sw_F g k_Models_init d n0 none r 0 [(0, .ref a0), (1, .ref a1), (2, .ref a2), (3, .ref a3), (4, .ref a4)] [] M := by
  unfold f_Models_init at hf
  obtain ⟨h1, hf⟩ := sw_gd_1 hf
  refine sf_blk [(.aload_n 0, 0, 0, .null)] (lv' := [(0, .ref a0), (1, .ref a1), (2, .ref a2), (3, .ref a3), (4, .ref a4)]) (st' := [.ref a0]) (M1 := M) (ob := []) (pc' := 1) (by decide +kernel) rfl rfl sw_a0 ?_
  refine sf_obj (i := 3) (st := []) (sw_m2 121 (by decide +kernel)) sw_t_oi sw_t_oc (by decide +kernel) (by omega) (Nat.le_of_ble_eq_true rfl) (sw_ok_ne h1) ?_
  show sw_F _ _ _ _ _ _ 4 [(0, .ref a0), (1, .ref a1), (2, .ref a2), (3, .ref a3), (4, .ref a4)] [] M
  obtain ⟨h2, hf⟩ := sw_gd_1 hf
  obtain ⟨h3, hf⟩ := sw_gd_1 hf
  refine sf_blk [(.aload_n 0, 0, 0, .null), (.bipush (8), 0, 0, .int (8 : Int32)), (.bipush (64), 0, 0, .int (64 : Int32)), (.multianewarray 9 2, 0, 0, .null), (.putfield 11, 2, 4, .null), (.aload_n 0, 0, 0, .null), (.iconst (0), 0, 0, .int (0 : Int32)), (.putfield 16, 2, 5, .null), (.aload_n 0, 0, 0, .null), (.aload_n 1, 0, 0, .null), (.putfield 20, 2, 0, .null), (.aload_n 0, 0, 0, .null), (.aload_n 2, 0, 0, .null), (.putfield 24, 2, 1, .null), (.aload_n 0, 0, 0, .null), (.aload_n 3, 0, 0, .null), (.putfield 28, 2, 2, .null), (.aload_n 0, 0, 0, .null), (.aload 4, 0, 0, .null), (.putfield 32, 2, 3, .null)] (lv' := [(0, .ref a0), (1, .ref a1), (2, .ref a2), (3, .ref a3), (4, .ref a4)]) (st' := []) (M1 := (wr_R (wr_R (wr_R (wr_R (wr_I (wr_R (sw_mk M (8 : Int32).toNatClampNeg) a0 4 (rd_N M + 1)) a0 5 (0 : Int32)) a0 0 a1) a0 1 a2) a0 2 a3) a0 3 a4)) (ob := [decide (¬ (8 : Int32) < 0) && (decide (¬ (64 : Int32) < 0) && (Nat.ble (8 : Int32).toNatClampNeg 60000 && (Nat.ble (64 : Int32).toNatClampNeg 60000 && sw_nxm M (8 : Int32).toNatClampNeg (64 : Int32).toNatClampNeg))), sw_ok (sw_mk M (8 : Int32).toNatClampNeg) a0 2, sw_ok (wr_R (sw_mk M (8 : Int32).toNatClampNeg) a0 4 (rd_N M + 1)) a0 2, sw_ok (wr_I (wr_R (sw_mk M (8 : Int32).toNatClampNeg) a0 4 (rd_N M + 1)) a0 5 (0 : Int32)) a0 2, sw_ok (wr_R (wr_I (wr_R (sw_mk M (8 : Int32).toNatClampNeg) a0 4 (rd_N M + 1)) a0 5 (0 : Int32)) a0 0 a1) a0 2, sw_ok (wr_R (wr_R (wr_I (wr_R (sw_mk M (8 : Int32).toNatClampNeg) a0 4 (rd_N M + 1)) a0 5 (0 : Int32)) a0 0 a1) a0 1 a2) a0 2, sw_ok (wr_R (wr_R (wr_R (wr_I (wr_R (sw_mk M (8 : Int32).toNatClampNeg) a0 4 (rd_N M + 1)) a0 5 (0 : Int32)) a0 0 a1) a0 1 a2) a0 2 a3) a0 2]) (pc' := 42) (by decide +kernel) rfl rfl (sw_a1 h2 (sw_a1 h3 (sw_a1 h3 (sw_a1 h3 (sw_a1 h3 (sw_a1 h3 (sw_a1 h3 sw_a0))))))) ?_
  exact sf_weak [] rfl (t_Models_init_42 hd hf)
theorem o_Models_init (g : sw_G) {d : Nat} (hd : 2 ≤ d) {N : Nat} {a0 : Nat} {a1 : Nat} {a2 : Nat} {a3 : Nat} {a4 : Nat} {M : sw_M} {r : sw_M} (hf : f_Models_init N a0 a1 a2 a3 a4 M = some r) : sw_Ok g k_Models_init d [.ref a0, .ref a1, .ref a2, .ref a3, .ref a4] M none r := sf_met (by decide +kernel) rfl (by decide) (Nat.le_of_ble_eq_true rfl) (t_Models_init hd hf)
def f_Stream_init (N : Nat) (a0 : Nat) (M : sw_M) : Option (sw_M) :=
  sw_gd [sw_ok M a0 9] (sw_gd [sw_nx M 8 0] (sw_gd [sw_ok (wr_N M) (rd_N M + 1) 8] ((f_Star_init N (rd_N M + 1) (wr_N M)).bind (fun u4 => sw_gd [sw_ok u4 a0 9] (some (wr_I (wr_I (wr_R u4 a0 8 (rd_N M + 1)) a0 9 (0 : Int32)) a0 10 (0 : Int32)))))))
set_option maxRecDepth 10000 in
theorem t_Stream_init {g : sw_G} {d n0 : Nat} (hd : 3 ≤ d) {r : sw_M} {N : Nat} {a0 : Nat} {M : sw_M} (hf : f_Stream_init N a0 M = some r) : sw_F g k_Stream_init d n0 none r 0 [(0, .ref a0)] [] M := by
  unfold f_Stream_init at hf
  obtain ⟨h1, hf⟩ := sw_gd_1 hf
  refine sf_blk [(.aload_n 0, 0, 0, .null)] (lv' := [(0, .ref a0)]) (st' := [.ref a0]) (M1 := M) (ob := []) (pc' := 1) (by decide +kernel) rfl rfl sw_a0 ?_
  refine sf_obj (i := 3) (st := []) (sw_m2 164 (by decide +kernel)) sw_t_oi sw_t_oc (by decide +kernel) (by omega) (Nat.le_of_ble_eq_true rfl) (sw_ok_ne h1) ?_
  show sw_F _ _ _ _ _ _ 4 [(0, .ref a0)] [] M
  obtain ⟨h2, hf⟩ := sw_gd_1 hf
  obtain ⟨h3, hf⟩ := sw_gd_1 hf
  refine sf_blk [(.aload_n 0, 0, 0, .null), (.new 9, 8, 0, .null), (.dup, 0, 0, .null)] (lv' := [(0, .ref a0)]) (st' := [.ref (rd_N M + 1), .ref (rd_N M + 1), .ref a0]) (M1 := (wr_N M)) (ob := [sw_nx M 8 0]) (pc' := 9) (by decide +kernel) rfl rfl (sw_a1 h2 sw_a0) ?_
  obtain ⟨u4, hu4, hf⟩ := sw_bnd hf
  refine sf_callIN (host := "SwarmHouse") (i := 11) (k2 := k_Star_init) (d2 := d - 1) (As := []) (st := [.ref (rd_N M + 1), .ref a0]) (q := (rd_N M + 1)) (ci := 8) mf_Star_init rfl rfl mi_Star_init (sw_m2 166 (by decide +kernel)) (by decide) (by decide +kernel) rfl (Nat.le_of_ble_eq_true rfl) (by omega) h3 (o_Star_init g (d := d - 1) (by omega) hu4) ?_
  show sw_F _ _ _ _ _ _ 12 [(0, .ref a0)] [.ref (rd_N M + 1), .ref a0] u4
  obtain ⟨h5, hf⟩ := sw_gd_1 hf
  refine sf_blk [(.putfield 12, 9, 8, .null), (.aload_n 0, 0, 0, .null), (.iconst (0), 0, 0, .int (0 : Int32)), (.putfield 18, 9, 9, .null), (.aload_n 0, 0, 0, .null), (.iconst (0), 0, 0, .int (0 : Int32)), (.putfield 22, 9, 10, .null)] (lv' := [(0, .ref a0)]) (st' := []) (M1 := (wr_I (wr_I (wr_R u4 a0 8 (rd_N M + 1)) a0 9 (0 : Int32)) a0 10 (0 : Int32))) (ob := [sw_ok u4 a0 9, sw_ok (wr_R u4 a0 8 (rd_N M + 1)) a0 9, sw_ok (wr_I (wr_R u4 a0 8 (rd_N M + 1)) a0 9 (0 : Int32)) a0 9]) (pc' := 25) (by decide +kernel) rfl rfl (sw_a1 h5 (sw_a1 h5 (sw_a1 h5 sw_a0))) ?_
  cases hf
  exact sf_void rfl (by decide +kernel)
theorem o_Stream_init (g : sw_G) {d : Nat} (hd : 3 ≤ d) {N : Nat} {a0 : Nat} {M : sw_M} {r : sw_M} (hf : f_Stream_init N a0 M = some r) : sw_Ok g k_Stream_init d [.ref a0] M none r := sf_met (by decide +kernel) rfl (by decide) (Nat.le_of_ble_eq_true rfl) (t_Stream_init hd hf)
def f_House_init_105 (N : Nat) (a0 : Nat) (M : sw_M) : Option (sw_M) :=
  sw_gd [sw_nx M 2 0] (sw_gd [sw_ok (wr_N M) a0 11] (sw_gd [sw_ok (wr_N M) (rd_N M + 1) 2] ((f_Models_init N (rd_N M + 1) (rd_R (wr_N M) a0 2) (rd_R (wr_N M) a0 6) (rd_R (wr_N M) a0 7) (rd_R (wr_N M) a0 8) (wr_N M)).bind (fun u4 => sw_gd [sw_ok u4 a0 11] (sw_gd [sw_nx (wr_R u4 a0 9 (rd_N M + 1)) 9 0] (sw_gd [sw_ok (wr_N (wr_R u4 a0 9 (rd_N M + 1))) (rd_N u4 + 1) 9] ((f_Stream_init N (rd_N u4 + 1) (wr_N (wr_R u4 a0 9 (rd_N M + 1)))).bind (fun u8 => sw_gd [sw_ok u8 a0 11] (some (wr_R u8 a0 10 (rd_N u4 + 1)))))))))))
set_option maxRecDepth 10000 in
theorem t_House_init_105 {g : sw_G} {d n0 : Nat} (hd : 5 ≤ d) {r : sw_M} {N : Nat} {a0 : Nat} {M : sw_M} (hf : f_House_init_105 N a0 M = some r) : sw_F g k_House_init d n0 none r 105 [(0, .ref a0)] [] M := by
  unfold f_House_init_105 at hf
  obtain ⟨h1, hf⟩ := sw_gd_1 hf
  obtain ⟨h2, hf⟩ := sw_gd_1 hf
  obtain ⟨h3, hf⟩ := sw_gd_1 hf
  refine sf_blk [(.aload_n 0, 0, 0, .null), (.new 69, 2, 0, .null), (.dup, 0, 0, .null), (.aload_n 0, 0, 0, .null), (.getfield 20, 11, 2, .null), (.aload_n 0, 0, 0, .null), (.getfield 49, 11, 6, .null), (.aload_n 0, 0, 0, .null), (.getfield 56, 11, 7, .null), (.aload_n 0, 0, 0, .null), (.getfield 65, 11, 8, .null)] (lv' := [(0, .ref a0)]) (st' := [.ref (rd_R (wr_N M) a0 8), .ref (rd_R (wr_N M) a0 7), .ref (rd_R (wr_N M) a0 6), .ref (rd_R (wr_N M) a0 2), .ref (rd_N M + 1), .ref (rd_N M + 1), .ref a0]) (M1 := (wr_N M)) (ob := [sw_nx M 2 0, sw_ok (wr_N M) a0 11, sw_ok (wr_N M) a0 11, sw_ok (wr_N M) a0 11, sw_ok (wr_N M) a0 11]) (pc' := 126) (by decide +kernel) rfl rfl (sw_a1 h1 (sw_a1 h2 (sw_a1 h2 (sw_a1 h2 (sw_a1 h2 sw_a0))))) ?_
  obtain ⟨u4, hu4, hf⟩ := sw_bnd hf
  refine sf_callI (i := 71) (k2 := k_Models_init) (d2 := d - 1) (As := [.ref (rd_R (wr_N M) a0 2), .ref (rd_R (wr_N M) a0 6), .ref (rd_R (wr_N M) a0 7), .ref (rd_R (wr_N M) a0 8)]) (st := [.ref (rd_N M + 1), .ref a0]) (q := (rd_N M + 1)) (ci := 2) mf_Models_init rfl rfl mi_Models_init (sw_m2 118 (by decide +kernel)) (by decide) (by decide +kernel) rfl (Nat.le_of_ble_eq_true rfl) (by omega) h3 (o_Models_init g (d := d - 1) (by omega) hu4) ?_
  show sw_F _ _ _ _ _ _ 129 [(0, .ref a0)] [.ref (rd_N M + 1), .ref a0] u4
  obtain ⟨h5, hf⟩ := sw_gd_1 hf
  obtain ⟨h6, hf⟩ := sw_gd_1 hf
  obtain ⟨h7, hf⟩ := sw_gd_1 hf
  refine sf_blk [(.putfield 74, 11, 9, .null), (.aload_n 0, 0, 0, .null), (.new 78, 9, 0, .null), (.dup, 0, 0, .null)] (lv' := [(0, .ref a0)]) (st' := [.ref (rd_N u4 + 1), .ref (rd_N u4 + 1), .ref a0]) (M1 := (wr_N (wr_R u4 a0 9 (rd_N M + 1)))) (ob := [sw_ok u4 a0 11, sw_nx (wr_R u4 a0 9 (rd_N M + 1)) 9 0]) (pc' := 137) (by decide +kernel) rfl rfl (sw_a1 h5 (sw_a1 h6 sw_a0)) ?_
  obtain ⟨u8, hu8, hf⟩ := sw_bnd hf
  refine sf_callIN (host := "SwarmHouse") (i := 80) (k2 := k_Stream_init) (d2 := d - 1) (As := []) (st := [.ref (rd_N u4 + 1), .ref a0]) (q := (rd_N u4 + 1)) (ci := 9) mf_Stream_init rfl rfl mi_Stream_init (sw_m2 161 (by decide +kernel)) (by decide) (by decide +kernel) rfl (Nat.le_of_ble_eq_true rfl) (by omega) h7 (o_Stream_init g (d := d - 1) (by omega) hu8) ?_
  show sw_F _ _ _ _ _ _ 140 [(0, .ref a0)] [.ref (rd_N u4 + 1), .ref a0] u8
  obtain ⟨h9, hf⟩ := sw_gd_1 hf
  refine sf_blk [(.putfield 81, 11, 10, .null)] (lv' := [(0, .ref a0)]) (st' := []) (M1 := (wr_R u8 a0 10 (rd_N u4 + 1))) (ob := [sw_ok u8 a0 11]) (pc' := 143) (by decide +kernel) rfl rfl (sw_a1 h9 sw_a0) ?_
  cases hf
  exact sf_void rfl (by decide +kernel)
def f_House_init_44 (N : Nat) (a0 : Nat) (M : sw_M) : Option (sw_M) :=
  sw_gd [sw_nx M 8 0] (sw_gd [sw_ok (wr_N M) (rd_N M + 1) 8] ((f_Star_init N (rd_N M + 1) (wr_N M)).bind (fun u3 => sw_gd [sw_ok u3 a0 11] (sw_gd [sw_nx (wr_I (wr_R u3 a0 4 (rd_N M + 1)) a0 5 (0 : Int32)) 10 0] (sw_gd [sw_ok (wr_N (wr_I (wr_R u3 a0 4 (rd_N M + 1)) a0 5 (0 : Int32))) a0 11] (sw_gd [sw_ok (wr_N (wr_I (wr_R u3 a0 4 (rd_N M + 1)) a0 5 (0 : Int32))) (rd_N u3 + 1) 10] ((f_Swarm_init N (rd_N u3 + 1) (rd_R (wr_N (wr_I (wr_R u3 a0 4 (rd_N M + 1)) a0 5 (0 : Int32))) a0 2) (wr_N (wr_I (wr_R u3 a0 4 (rd_N M + 1)) a0 5 (0 : Int32)))).bind (fun u8 => sw_gd [sw_ok u8 a0 11] (sw_gd [sw_nx (wr_R u8 a0 6 (rd_N u3 + 1)) 3 0] (sw_gd [sw_ok (wr_N (wr_R u8 a0 6 (rd_N u3 + 1))) (rd_N u8 + 1) 3] ((f_Notes_init N (rd_N u8 + 1) (wr_N (wr_R u8 a0 6 (rd_N u3 + 1)))).bind (fun u12 => sw_gd [sw_ok u12 a0 11] (sw_gd [sw_nx (wr_R u12 a0 7 (rd_N u8 + 1)) 1 0] (sw_gd [sw_ok (wr_N (wr_R u12 a0 7 (rd_N u8 + 1))) a0 11] (sw_gd [sw_ok (wr_N (wr_R u12 a0 7 (rd_N u8 + 1))) (rd_N u12 + 1) 1] ((f_Fits_init N (rd_N u12 + 1) (rd_R (wr_N (wr_R u12 a0 7 (rd_N u8 + 1))) a0 6) (rd_R (wr_N (wr_R u12 a0 7 (rd_N u8 + 1))) a0 7) (wr_N (wr_R u12 a0 7 (rd_N u8 + 1)))).bind (fun u17 => sw_gd [sw_ok u17 a0 11] (f_House_init_105 N a0 (wr_R u17 a0 8 (rd_N u12 + 1))))))))))))))))))))
set_option maxRecDepth 10000 in
theorem t_House_init_44 {g : sw_G} {d n0 : Nat} (hd : 5 ≤ d) {r : sw_M} {N : Nat} {a0 : Nat} {M : sw_M} (hf : f_House_init_44 N a0 M = some r) : sw_F g k_House_init d n0 none r 44 [(0, .ref a0)] [] M := by
  unfold f_House_init_44 at hf
  obtain ⟨h1, hf⟩ := sw_gd_1 hf
  obtain ⟨h2, hf⟩ := sw_gd_1 hf
  refine sf_blk [(.aload_n 0, 0, 0, .null), (.new 33, 8, 0, .null), (.dup, 0, 0, .null)] (lv' := [(0, .ref a0)]) (st' := [.ref (rd_N M + 1), .ref (rd_N M + 1), .ref a0]) (M1 := (wr_N M)) (ob := [sw_nx M 8 0]) (pc' := 49) (by decide +kernel) rfl rfl (sw_a1 h1 sw_a0) ?_
  obtain ⟨u3, hu3, hf⟩ := sw_bnd hf
  refine sf_callIN (host := "SwarmHouse") (i := 35) (k2 := k_Star_init) (d2 := d - 1) (As := []) (st := [.ref (rd_N M + 1), .ref a0]) (q := (rd_N M + 1)) (ci := 8) mf_Star_init rfl rfl mi_Star_init (sw_m1 204 (by decide +kernel)) (by decide) (by decide +kernel) rfl (Nat.le_of_ble_eq_true rfl) (by omega) h2 (o_Star_init g (d := d - 1) (by omega) hu3) ?_
  show sw_F _ _ _ _ _ _ 52 [(0, .ref a0)] [.ref (rd_N M + 1), .ref a0] u3
  obtain ⟨h4, hf⟩ := sw_gd_1 hf
  obtain ⟨h5, hf⟩ := sw_gd_1 hf
  obtain ⟨h6, hf⟩ := sw_gd_1 hf
  obtain ⟨h7, hf⟩ := sw_gd_1 hf
  refine sf_blk [(.putfield 36, 11, 4, .null), (.aload_n 0, 0, 0, .null), (.iconst (0), 0, 0, .int (0 : Int32)), (.putfield 40, 11, 5, .null), (.aload_n 0, 0, 0, .null), (.new 44, 10, 0, .null), (.dup, 0, 0, .null), (.aload_n 0, 0, 0, .null), (.getfield 20, 11, 2, .null)] (lv' := [(0, .ref a0)]) (st' := [.ref (rd_R (wr_N (wr_I (wr_R u3 a0 4 (rd_N M + 1)) a0 5 (0 : Int32))) a0 2), .ref (rd_N u3 + 1), .ref (rd_N u3 + 1), .ref a0]) (M1 := (wr_N (wr_I (wr_R u3 a0 4 (rd_N M + 1)) a0 5 (0 : Int32)))) (ob := [sw_ok u3 a0 11, sw_ok (wr_R u3 a0 4 (rd_N M + 1)) a0 11, sw_bz (0 : Int32), sw_nx (wr_I (wr_R u3 a0 4 (rd_N M + 1)) a0 5 (0 : Int32)) 10 0, sw_ok (wr_N (wr_I (wr_R u3 a0 4 (rd_N M + 1)) a0 5 (0 : Int32))) a0 11]) (pc' := 69) (by decide +kernel) rfl rfl (sw_a1 h4 (sw_a1 h4 (sw_a1 rfl (sw_a1 h5 (sw_a1 h6 sw_a0))))) ?_
  obtain ⟨u8, hu8, hf⟩ := sw_bnd hf
  refine sf_callI (i := 46) (k2 := k_Swarm_init) (d2 := d - 1) (As := [.ref (rd_R (wr_N (wr_I (wr_R u3 a0 4 (rd_N M + 1)) a0 5 (0 : Int32))) a0 2)]) (st := [.ref (rd_N u3 + 1), .ref a0]) (q := (rd_N u3 + 1)) (ci := 10) mf_Swarm_init rfl rfl mi_Swarm_init (sw_m2 2 (by decide +kernel)) (by decide) (by decide +kernel) rfl (Nat.le_of_ble_eq_true rfl) (by omega) h7 (o_Swarm_init g (d := d - 1) (by omega) hu8) ?_
  show sw_F _ _ _ _ _ _ 72 [(0, .ref a0)] [.ref (rd_N u3 + 1), .ref a0] u8
  obtain ⟨h9, hf⟩ := sw_gd_1 hf
  obtain ⟨h10, hf⟩ := sw_gd_1 hf
  obtain ⟨h11, hf⟩ := sw_gd_1 hf
  refine sf_blk [(.putfield 49, 11, 6, .null), (.aload_n 0, 0, 0, .null), (.new 53, 3, 0, .null), (.dup, 0, 0, .null)] (lv' := [(0, .ref a0)]) (st' := [.ref (rd_N u8 + 1), .ref (rd_N u8 + 1), .ref a0]) (M1 := (wr_N (wr_R u8 a0 6 (rd_N u3 + 1)))) (ob := [sw_ok u8 a0 11, sw_nx (wr_R u8 a0 6 (rd_N u3 + 1)) 3 0]) (pc' := 80) (by decide +kernel) rfl rfl (sw_a1 h9 (sw_a1 h10 sw_a0)) ?_
  obtain ⟨u12, hu12, hf⟩ := sw_bnd hf
  refine sf_callIN (host := "SwarmHouse") (i := 55) (k2 := k_Notes_init) (d2 := d - 1) (As := []) (st := [.ref (rd_N u8 + 1), .ref a0]) (q := (rd_N u8 + 1)) (ci := 3) mf_Notes_init rfl rfl mi_Notes_init (sw_m2 47 (by decide +kernel)) (by decide) (by decide +kernel) rfl (Nat.le_of_ble_eq_true rfl) (by omega) h11 (o_Notes_init g (d := d - 1) (by omega) hu12) ?_
  show sw_F _ _ _ _ _ _ 83 [(0, .ref a0)] [.ref (rd_N u8 + 1), .ref a0] u12
  obtain ⟨h13, hf⟩ := sw_gd_1 hf
  obtain ⟨h14, hf⟩ := sw_gd_1 hf
  obtain ⟨h15, hf⟩ := sw_gd_1 hf
  obtain ⟨h16, hf⟩ := sw_gd_1 hf
  refine sf_blk [(.putfield 56, 11, 7, .null), (.aload_n 0, 0, 0, .null), (.new 60, 1, 0, .null), (.dup, 0, 0, .null), (.aload_n 0, 0, 0, .null), (.getfield 49, 11, 6, .null), (.aload_n 0, 0, 0, .null), (.getfield 56, 11, 7, .null)] (lv' := [(0, .ref a0)]) (st' := [.ref (rd_R (wr_N (wr_R u12 a0 7 (rd_N u8 + 1))) a0 7), .ref (rd_R (wr_N (wr_R u12 a0 7 (rd_N u8 + 1))) a0 6), .ref (rd_N u12 + 1), .ref (rd_N u12 + 1), .ref a0]) (M1 := (wr_N (wr_R u12 a0 7 (rd_N u8 + 1)))) (ob := [sw_ok u12 a0 11, sw_nx (wr_R u12 a0 7 (rd_N u8 + 1)) 1 0, sw_ok (wr_N (wr_R u12 a0 7 (rd_N u8 + 1))) a0 11, sw_ok (wr_N (wr_R u12 a0 7 (rd_N u8 + 1))) a0 11]) (pc' := 99) (by decide +kernel) rfl rfl (sw_a1 h13 (sw_a1 h14 (sw_a1 h15 (sw_a1 h15 sw_a0)))) ?_
  obtain ⟨u17, hu17, hf⟩ := sw_bnd hf
  refine sf_callI (i := 62) (k2 := k_Fits_init) (d2 := d - 1) (As := [.ref (rd_R (wr_N (wr_R u12 a0 7 (rd_N u8 + 1))) a0 6), .ref (rd_R (wr_N (wr_R u12 a0 7 (rd_N u8 + 1))) a0 7)]) (st := [.ref (rd_N u12 + 1), .ref a0]) (q := (rd_N u12 + 1)) (ci := 1) mf_Fits_init rfl rfl mi_Fits_init (sw_m2 81 (by decide +kernel)) (by decide) (by decide +kernel) rfl (Nat.le_of_ble_eq_true rfl) (by omega) h16 (o_Fits_init g (d := d - 1) (by omega) hu17) ?_
  show sw_F _ _ _ _ _ _ 102 [(0, .ref a0)] [.ref (rd_N u12 + 1), .ref a0] u17
  obtain ⟨h18, hf⟩ := sw_gd_1 hf
  refine sf_blk [(.putfield 65, 11, 8, .null)] (lv' := [(0, .ref a0)]) (st' := []) (M1 := (wr_R u17 a0 8 (rd_N u12 + 1))) (ob := [sw_ok u17 a0 11]) (pc' := 105) (by decide +kernel) rfl rfl (sw_a1 h18 sw_a0) ?_
  exact sf_weak [0] rfl (t_House_init_105 hd hf)
def f_House_init (N : Nat) (a0 : Nat) (M : sw_M) : Option (sw_M) :=
  sw_gd [sw_ok M a0 11] (sw_gd [sw_nxa M 14 (500 : Int32)] (sw_gd [sw_ok (wr_N M) a0 11] (sw_gd [sw_nx (wr_I (wr_R (wr_N M) a0 0 (rd_N M + 1)) a0 1 (0 : Int32)) 0 0] (sw_gd [sw_ok (wr_N (wr_I (wr_R (wr_N M) a0 0 (rd_N M + 1)) a0 1 (0 : Int32))) (rd_N M + 2) 0] ((f_Field_init N (rd_N M + 2) (wr_N (wr_I (wr_R (wr_N M) a0 0 (rd_N M + 1)) a0 1 (0 : Int32)))).bind (fun u6 => sw_gd [sw_ok u6 a0 11] (sw_gd [sw_nx (wr_R u6 a0 2 (rd_N M + 2)) 6 0] (sw_gd [sw_ok (wr_N (wr_R u6 a0 2 (rd_N M + 2))) a0 11] (sw_gd [sw_ok (wr_N (wr_R u6 a0 2 (rd_N M + 2))) (rd_N u6 + 1) 6] ((f_Reader_init N (rd_N u6 + 1) (rd_R (wr_N (wr_R u6 a0 2 (rd_N M + 2))) a0 0) (wr_N (wr_R u6 a0 2 (rd_N M + 2)))).bind (fun u11 => sw_gd [sw_ok u11 a0 11] (f_House_init_44 N a0 (wr_R u11 a0 3 (rd_N u6 + 1))))))))))))))
set_option maxRecDepth 10000 in
theorem t_House_init {g : sw_G} {d n0 : Nat} (hd : 5 ≤ d) {r : sw_M} {N : Nat} {a0 : Nat} {M : sw_M} (hf : f_House_init N a0 M = some r) : sw_F g k_House_init d n0 none r 0 [(0, .ref a0)] [] M := by
  unfold f_House_init at hf
  obtain ⟨h1, hf⟩ := sw_gd_1 hf
  refine sf_blk [(.aload_n 0, 0, 0, .null)] (lv' := [(0, .ref a0)]) (st' := [.ref a0]) (M1 := M) (ob := []) (pc' := 1) (by decide +kernel) rfl rfl sw_a0 ?_
  refine sf_obj (i := 1) (st := []) (sw_m1 27 (by decide +kernel)) sw_t_oi sw_t_oc (by decide +kernel) (by omega) (Nat.le_of_ble_eq_true rfl) (sw_ok_ne h1) ?_
  show sw_F _ _ _ _ _ _ 4 [(0, .ref a0)] [] M
  obtain ⟨h2, hf⟩ := sw_gd_1 hf
  obtain ⟨h3, hf⟩ := sw_gd_1 hf
  obtain ⟨h4, hf⟩ := sw_gd_1 hf
  obtain ⟨h5, hf⟩ := sw_gd_1 hf
  refine sf_blk [(.aload_n 0, 0, 0, .null), (.sipush (500), 0, 0, .int (500 : Int32)), (.newarray .byte, 14, 0, .null), (.putfield 9, 11, 0, .null), (.aload_n 0, 0, 0, .null), (.iconst (0), 0, 0, .int (0 : Int32)), (.putfield 13, 11, 1, .null), (.aload_n 0, 0, 0, .null), (.new 17, 0, 0, .null), (.dup, 0, 0, .null)] (lv' := [(0, .ref a0)]) (st' := [.ref (rd_N M + 2), .ref (rd_N M + 2), .ref a0]) (M1 := (wr_N (wr_I (wr_R (wr_N M) a0 0 (rd_N M + 1)) a0 1 (0 : Int32)))) (ob := [sw_nxa M 14 (500 : Int32), sw_ok (wr_N M) a0 11, sw_ok (wr_R (wr_N M) a0 0 (rd_N M + 1)) a0 11, sw_nx (wr_I (wr_R (wr_N M) a0 0 (rd_N M + 1)) a0 1 (0 : Int32)) 0 0]) (pc' := 23) (by decide +kernel) rfl rfl (sw_a1 h2 (sw_a1 h3 (sw_a1 h3 (sw_a1 h4 sw_a0)))) ?_
  obtain ⟨u6, hu6, hf⟩ := sw_bnd hf
  refine sf_callI (i := 19) (k2 := k_Field_init) (d2 := d - 1) (As := []) (st := [.ref (rd_N M + 2), .ref a0]) (q := (rd_N M + 2)) (ci := 0) mf_Field_init rfl rfl mi_Field_init (sw_m1 32 (by decide +kernel)) (by decide) (by decide +kernel) rfl (Nat.le_of_ble_eq_true rfl) (by omega) h5 (o_Field_init g (d := d - 1) (by omega) hu6) ?_
  show sw_F _ _ _ _ _ _ 26 [(0, .ref a0)] [.ref (rd_N M + 2), .ref a0] u6
  obtain ⟨h7, hf⟩ := sw_gd_1 hf
  obtain ⟨h8, hf⟩ := sw_gd_1 hf
  obtain ⟨h9, hf⟩ := sw_gd_1 hf
  obtain ⟨h10, hf⟩ := sw_gd_1 hf
  refine sf_blk [(.putfield 20, 11, 2, .null), (.aload_n 0, 0, 0, .null), (.new 24, 6, 0, .null), (.dup, 0, 0, .null), (.aload_n 0, 0, 0, .null), (.getfield 9, 11, 0, .null)] (lv' := [(0, .ref a0)]) (st' := [.ref (rd_R (wr_N (wr_R u6 a0 2 (rd_N M + 2))) a0 0), .ref (rd_N u6 + 1), .ref (rd_N u6 + 1), .ref a0]) (M1 := (wr_N (wr_R u6 a0 2 (rd_N M + 2)))) (ob := [sw_ok u6 a0 11, sw_nx (wr_R u6 a0 2 (rd_N M + 2)) 6 0, sw_ok (wr_N (wr_R u6 a0 2 (rd_N M + 2))) a0 11]) (pc' := 38) (by decide +kernel) rfl rfl (sw_a1 h7 (sw_a1 h8 (sw_a1 h9 sw_a0))) ?_
  obtain ⟨u11, hu11, hf⟩ := sw_bnd hf
  refine sf_callI (i := 26) (k2 := k_Reader_init) (d2 := d - 1) (As := [.ref (rd_R (wr_N (wr_R u6 a0 2 (rd_N M + 2))) a0 0)]) (st := [.ref (rd_N u6 + 1), .ref a0]) (q := (rd_N u6 + 1)) (ci := 6) mf_Reader_init rfl rfl mi_Reader_init (sw_m1 159 (by decide +kernel)) (by decide) (by decide +kernel) rfl (Nat.le_of_ble_eq_true rfl) (by omega) h10 (o_Reader_init g (d := d - 1) (by omega) hu11) ?_
  show sw_F _ _ _ _ _ _ 41 [(0, .ref a0)] [.ref (rd_N u6 + 1), .ref a0] u11
  obtain ⟨h12, hf⟩ := sw_gd_1 hf
  refine sf_blk [(.putfield 29, 11, 3, .null)] (lv' := [(0, .ref a0)]) (st' := []) (M1 := (wr_R u11 a0 3 (rd_N u6 + 1))) (ob := [sw_ok u11 a0 11]) (pc' := 44) (by decide +kernel) rfl rfl (sw_a1 h12 sw_a0) ?_
  exact sf_weak [0] rfl (t_House_init_44 hd hf)
theorem o_House_init (g : sw_G) {d : Nat} (hd : 5 ≤ d) {N : Nat} {a0 : Nat} {M : sw_M} {r : sw_M} (hf : f_House_init N a0 M = some r) : sw_Ok g k_House_init d [.ref a0] M none r := sf_met (by decide +kernel) rfl (by decide) (Nat.le_of_ble_eq_true rfl) (t_House_init hd hf)
def f_House_putBytes_42 (N : Nat) (k3 : Nat → Int32 → Int32 → sw_M → Option (sw_M)) (a0 : Nat) (a1 : Int32) (a2 : Int32) (M : sw_M) : Option (sw_M) :=
  k3 a0 a1 (a2 + (-8 : Int32)) M
set_option maxRecDepth 10000 in
theorem t_House_putBytes_42 {g : sw_G} {d n0 : Nat} (hd : 1 ≤ d) {r : sw_M} (k3 : Nat → Int32 → Int32 → sw_M → Option (sw_M)) (hk3 : ∀ (a0 : Nat) (a1 : Int32) (a2 : Int32) (M : sw_M), k3 a0 a1 a2 M = some r → sw_F g k_House_putBytes d n0 none r 3 [(0, .ref a0), (1, .int a1), (2, .int a2)] [] M) {N : Nat} {a0 : Nat} {a1 : Int32} {a2 : Int32} {M : sw_M} (hf : f_House_putBytes_42 N k3 a0 a1 a2 M = some r) : sw_F g k_House_putBytes d n0 none r 42 [(0, .ref a0), (1, .int a1), (2, .int a2)] [] M := by
  unfold f_House_putBytes_42 at hf
  refine sf_blk [(.iinc 2 (-8), 0, 0, .int (-8 : Int32))] (lv' := [(2, .int (a2 + (-8 : Int32))), (0, .ref a0), (1, .int a1)]) (st' := []) (M1 := M) (ob := []) (pc' := 45) (by decide +kernel) rfl rfl sw_a0 ?_
  refine sf_goto (off := -42) (tgt := 3) (by decide +kernel) (by decide) ?_
  exact sf_weak [1, 2, 0] rfl (hk3 _ _ _ _ hf)
def f_House_putBytes_3 (N : Nat) : Nat → Nat → Int32 → Int32 → sw_M → Option (sw_M)
  | 0, _, _, _, _ => none
  | j + 1, a0, a1, a2, M =>
  if a2 < 0 then some M
  else sw_gd [sw_ok M a0 11] (sw_gd [sw_oka M (rd_R M a0 0)] (if (nI (sw_len (rd_R M a0 0))) ≤ (rd_I M a0 1) then f_House_putBytes_42 N (f_House_putBytes_3 N j) a0 a1 a2 M
  else sw_gd [(sw_ar M (rd_R M a0 0) 14 (rd_I M a0 1) && decide ((a1 >>> (a2 &&& 31)).toInt8.toInt32.toInt8.toInt32 = (a1 >>> (a2 &&& 31)).toInt8.toInt32)) || (sw_ar M (rd_R M a0 0) 15 (rd_I M a0 1) && sw_bz (a1 >>> (a2 &&& 31)).toInt8.toInt32)] (f_House_putBytes_42 N (f_House_putBytes_3 N j) a0 a1 a2 (wr_I (wr_I M (rd_R M a0 0) (rd_I M a0 1).toNatClampNeg (a1 >>> (a2 &&& 31)).toInt8.toInt32) a0 1 ((rd_I (wr_I M (rd_R M a0 0) (rd_I M a0 1).toNatClampNeg (a1 >>> (a2 &&& 31)).toInt8.toInt32) a0 1) + (1 : Int32))))))
set_option maxRecDepth 10000 in
theorem t_House_putBytes_3 {g : sw_G} {d n0 : Nat} (hd : 1 ≤ d) {r : sw_M} {N : Nat} : ∀ (j : Nat) (a0 : Nat) (a1 : Int32) (a2 : Int32) (M : sw_M), f_House_putBytes_3 N j a0 a1 a2 M = some r → sw_F g k_House_putBytes d n0 none r 3 [(0, .ref a0), (1, .int a1), (2, .int a2)] [] M := by
  intro j
  induction j with
  | zero =>
    intro a0 a1 a2 M hf
    rw [f_House_putBytes_3] at hf
    cases hf
  | succ j ih =>
    intro a0 a1 a2 M hf
    rw [f_House_putBytes_3] at hf
    refine sf_blk [(.iload_n 2, 0, 0, .null)] (lv' := [(0, .ref a0), (1, .int a1), (2, .int a2)]) (st' := [.int a2]) (M1 := M) (ob := []) (pc' := 4) (by decide +kernel) rfl rfl sw_a0 ?_
    refine sf_z_lt (off := 44) (tgt := 48) (by decide +kernel) (by decide) hf (fun hc hf => ?_) (fun hc hf => ?_)
    · cases hf
      exact sf_void rfl (by decide +kernel)
    · obtain ⟨h1, hf⟩ := sw_gd_1 hf
      obtain ⟨h2, hf⟩ := sw_gd_1 hf
      refine sf_blk [(.aload_n 0, 0, 0, .null), (.getfield 13, 11, 1, .null), (.aload_n 0, 0, 0, .null), (.getfield 9, 11, 0, .null), (.arraylength, 0, 0, .null)] (lv' := [(0, .ref a0), (1, .int a1), (2, .int a2)]) (st' := [.int (nI (sw_len (rd_R M a0 0))), .int (rd_I M a0 1)]) (M1 := M) (ob := [sw_ok M a0 11, sw_ok M a0 11, sw_oka M (rd_R M a0 0)]) (pc' := 16) (by decide +kernel) rfl rfl (sw_a1 h1 (sw_a1 h1 (sw_a1 h2 sw_a0))) ?_
      refine sf_j_ge (off := 26) (tgt := 42) (by decide +kernel) (by decide) hf (fun hc hf => ?_) (fun hc hf => ?_)
      · exact sf_weak [0, 1, 2] rfl (t_House_putBytes_42 hd _ ih hf)
      · obtain ⟨h3, hf⟩ := sw_gd_1 hf
        refine sf_blk [(.aload_n 0, 0, 0, .null), (.getfield 9, 11, 0, .null), (.aload_n 0, 0, 0, .null), (.getfield 13, 11, 1, .null), (.iload_n 1, 0, 0, .null), (.iload_n 2, 0, 0, .null), (.ishr, 0, 0, .null), (.i2b, 0, 0, .null), (.bastore, 0, 0, .null), (.aload_n 0, 0, 0, .null), (.dup, 0, 0, .null), (.getfield 13, 11, 1, .null), (.iconst (1), 0, 0, .int (1 : Int32)), (.iadd, 0, 0, .null), (.putfield 13, 11, 1, .null)] (lv' := [(0, .ref a0), (1, .int a1), (2, .int a2)]) (st' := []) (M1 := (wr_I (wr_I M (rd_R M a0 0) (rd_I M a0 1).toNatClampNeg (a1 >>> (a2 &&& 31)).toInt8.toInt32) a0 1 ((rd_I (wr_I M (rd_R M a0 0) (rd_I M a0 1).toNatClampNeg (a1 >>> (a2 &&& 31)).toInt8.toInt32) a0 1) + (1 : Int32)))) (ob := [sw_ok M a0 11, sw_ok M a0 11, (sw_ar M (rd_R M a0 0) 14 (rd_I M a0 1) && decide ((a1 >>> (a2 &&& 31)).toInt8.toInt32.toInt8.toInt32 = (a1 >>> (a2 &&& 31)).toInt8.toInt32)) || (sw_ar M (rd_R M a0 0) 15 (rd_I M a0 1) && sw_bz (a1 >>> (a2 &&& 31)).toInt8.toInt32), sw_ok (wr_I M (rd_R M a0 0) (rd_I M a0 1).toNatClampNeg (a1 >>> (a2 &&& 31)).toInt8.toInt32) a0 11, sw_ok (wr_I M (rd_R M a0 0) (rd_I M a0 1).toNatClampNeg (a1 >>> (a2 &&& 31)).toInt8.toInt32) a0 11]) (pc' := 42) (by decide +kernel) rfl rfl (sw_a1 h1 (sw_a1 h1 (sw_a1 h3 (sw_a1 h1 (sw_a1 h1 sw_a0))))) ?_
        exact sf_weak [0, 1, 2] rfl (t_House_putBytes_42 hd _ ih hf)
def f_House_putBytes (N : Nat) (a0 : Nat) (a1 : Int32) (M : sw_M) : Option (sw_M) :=
  f_House_putBytes_3 N N a0 a1 (24 : Int32) M
set_option maxRecDepth 10000 in
theorem t_House_putBytes {g : sw_G} {d n0 : Nat} (hd : 1 ≤ d) {r : sw_M} {N : Nat} {a0 : Nat} {a1 : Int32} {M : sw_M} (hf : f_House_putBytes N a0 a1 M = some r) : sw_F g k_House_putBytes d n0 none r 0 [(0, .ref a0), (1, .int a1)] [] M := by
  unfold f_House_putBytes at hf
  refine sf_blk [(.bipush (24), 0, 0, .int (24 : Int32)), (.istore_n 2, 0, 0, .null)] (lv' := [(2, .int (24 : Int32)), (0, .ref a0), (1, .int a1)]) (st' := []) (M1 := M) (ob := []) (pc' := 3) (by decide +kernel) rfl rfl sw_a0 ?_
  exact sf_weak [1, 2, 0] rfl (t_House_putBytes_3 hd _ _ _ _ _ hf)
theorem o_House_putBytes (g : sw_G) {d : Nat} (hd : 1 ≤ d) {N : Nat} {a0 : Nat} {a1 : Int32} {M : sw_M} {r : sw_M} (hf : f_House_putBytes N a0 a1 M = some r) : sw_Ok g k_House_putBytes d [.ref a0, .int a1] M none r := sf_met (by decide +kernel) rfl (by decide) (Nat.le_of_ble_eq_true rfl) (t_House_putBytes hd hf)
def f_House_feed (N : Nat) (a0 : Nat) (a1 : Int32) (a2 : Int32) (a3 : Int32) (a4 : Int32) (a5 : Int32) (M : sw_M) : Option (Int32 × sw_M) :=
  sw_gd [sw_ok M a0 11] (if ((rd_I M a0 1) + (20 : Int32)) ≤ (500 : Int32) then (f_House_putBytes N a0 a1 M).bind (fun u2 => sw_gd [sw_ok u2 a0 11] ((f_House_putBytes N a0 a2 u2).bind (fun u4 => sw_gd [sw_ok u4 a0 11] ((f_House_putBytes N a0 a3 u4).bind (fun u6 => sw_gd [sw_ok u6 a0 11] ((f_House_putBytes N a0 a4 u6).bind (fun u8 => sw_gd [sw_ok u8 a0 11] ((f_House_putBytes N a0 a5 u8).bind (fun u10 => sw_gd [sw_ok u10 a0 11] (some ((rd_I u10 a0 1), u10)))))))))))
  else some ((-1 : Int32), M))
set_option maxRecDepth 10000 in
theorem t_House_feed {g : sw_G} {d n0 : Nat} (hd : 2 ≤ d) {r : Int32 × sw_M} {N : Nat} {a0 : Nat} {a1 : Int32} {a2 : Int32} {a3 : Int32} {a4 : Int32} {a5 : Int32} {M : sw_M} (hf : f_House_feed N a0 a1 a2 a3 a4 a5 M = some r) : sw_F g k_House_feed d n0 (some (.int r.1)) r.2 0 [(0, .ref a0), (1, .int a1), (2, .int a2), (3, .int a3), (4, .int a4), (5, .int a5)] [] M := by
  unfold f_House_feed at hf
  obtain ⟨h1, hf⟩ := sw_gd_1 hf
  refine sf_blk [(.aload_n 0, 0, 0, .null), (.getfield 13, 11, 1, .null), (.bipush (20), 0, 0, .int (20 : Int32)), (.iadd, 0, 0, .null), (.sipush (500), 0, 0, .int (500 : Int32))] (lv' := [(0, .ref a0), (1, .int a1), (2, .int a2), (3, .int a3), (4, .int a4), (5, .int a5)]) (st' := [.int (500 : Int32), .int ((rd_I M a0 1) + (20 : Int32))]) (M1 := M) (ob := [sw_ok M a0 11]) (pc' := 10) (by decide +kernel) rfl rfl (sw_a1 h1 sw_a0) ?_
  refine sf_j_le (off := 5) (tgt := 15) (by decide +kernel) (by decide) hf (fun hc hf => ?_) (fun hc hf => ?_)
  · refine sf_blk [(.aload_n 0, 0, 0, .null), (.iload_n 1, 0, 0, .null)] (lv' := [(0, .ref a0), (1, .int a1), (2, .int a2), (3, .int a3), (4, .int a4), (5, .int a5)]) (st' := [.int a1, .ref a0]) (M1 := M) (ob := []) (pc' := 17) (by decide +kernel) rfl rfl sw_a0 ?_
    obtain ⟨u2, hu2, hf⟩ := sw_bnd hf
    refine sf_callV (i := 85) (k2 := k_House_putBytes) (d2 := d - 1) (As := [.int a1]) (st := []) (q := a0) (ci := 11) mf_House_putBytes mi_House_putBytes ms_House_putBytes (sw_m3 1 (by decide +kernel)) rfl (by decide) (by decide +kernel) rfl (Nat.le_of_ble_eq_true rfl) (by omega) h1 (o_House_putBytes g (d := d - 1) (by omega) hu2) ?_
    show sw_F _ _ _ _ _ _ 20 [(0, .ref a0), (1, .int a1), (2, .int a2), (3, .int a3), (4, .int a4), (5, .int a5)] [] u2
    obtain ⟨h3, hf⟩ := sw_gd_1 hf
    refine sf_blk [(.aload_n 0, 0, 0, .null), (.iload_n 2, 0, 0, .null)] (lv' := [(0, .ref a0), (1, .int a1), (2, .int a2), (3, .int a3), (4, .int a4), (5, .int a5)]) (st' := [.int a2, .ref a0]) (M1 := u2) (ob := []) (pc' := 22) (by decide +kernel) rfl rfl sw_a0 ?_
    obtain ⟨u4, hu4, hf⟩ := sw_bnd hf
    refine sf_callV (i := 85) (k2 := k_House_putBytes) (d2 := d - 1) (As := [.int a2]) (st := []) (q := a0) (ci := 11) mf_House_putBytes mi_House_putBytes ms_House_putBytes (sw_m3 1 (by decide +kernel)) rfl (by decide) (by decide +kernel) rfl (Nat.le_of_ble_eq_true rfl) (by omega) h3 (o_House_putBytes g (d := d - 1) (by omega) hu4) ?_
    show sw_F _ _ _ _ _ _ 25 [(0, .ref a0), (1, .int a1), (2, .int a2), (3, .int a3), (4, .int a4), (5, .int a5)] [] u4
    obtain ⟨h5, hf⟩ := sw_gd_1 hf
    refine sf_blk [(.aload_n 0, 0, 0, .null), (.iload_n 3, 0, 0, .null)] (lv' := [(0, .ref a0), (1, .int a1), (2, .int a2), (3, .int a3), (4, .int a4), (5, .int a5)]) (st' := [.int a3, .ref a0]) (M1 := u4) (ob := []) (pc' := 27) (by decide +kernel) rfl rfl sw_a0 ?_
    obtain ⟨u6, hu6, hf⟩ := sw_bnd hf
    refine sf_callV (i := 85) (k2 := k_House_putBytes) (d2 := d - 1) (As := [.int a3]) (st := []) (q := a0) (ci := 11) mf_House_putBytes mi_House_putBytes ms_House_putBytes (sw_m3 1 (by decide +kernel)) rfl (by decide) (by decide +kernel) rfl (Nat.le_of_ble_eq_true rfl) (by omega) h5 (o_House_putBytes g (d := d - 1) (by omega) hu6) ?_
    show sw_F _ _ _ _ _ _ 30 [(0, .ref a0), (1, .int a1), (2, .int a2), (3, .int a3), (4, .int a4), (5, .int a5)] [] u6
    obtain ⟨h7, hf⟩ := sw_gd_1 hf
    refine sf_blk [(.aload_n 0, 0, 0, .null), (.iload 4, 0, 0, .null)] (lv' := [(0, .ref a0), (1, .int a1), (2, .int a2), (3, .int a3), (4, .int a4), (5, .int a5)]) (st' := [.int a4, .ref a0]) (M1 := u6) (ob := []) (pc' := 33) (by decide +kernel) rfl rfl sw_a0 ?_
    obtain ⟨u8, hu8, hf⟩ := sw_bnd hf
    refine sf_callV (i := 85) (k2 := k_House_putBytes) (d2 := d - 1) (As := [.int a4]) (st := []) (q := a0) (ci := 11) mf_House_putBytes mi_House_putBytes ms_House_putBytes (sw_m3 1 (by decide +kernel)) rfl (by decide) (by decide +kernel) rfl (Nat.le_of_ble_eq_true rfl) (by omega) h7 (o_House_putBytes g (d := d - 1) (by omega) hu8) ?_
    show sw_F _ _ _ _ _ _ 36 [(0, .ref a0), (1, .int a1), (2, .int a2), (3, .int a3), (4, .int a4), (5, .int a5)] [] u8
    obtain ⟨h9, hf⟩ := sw_gd_1 hf
    refine sf_blk [(.aload_n 0, 0, 0, .null), (.iload 5, 0, 0, .null)] (lv' := [(0, .ref a0), (1, .int a1), (2, .int a2), (3, .int a3), (4, .int a4), (5, .int a5)]) (st' := [.int a5, .ref a0]) (M1 := u8) (ob := []) (pc' := 39) (by decide +kernel) rfl rfl sw_a0 ?_
    obtain ⟨u10, hu10, hf⟩ := sw_bnd hf
    refine sf_callV (i := 85) (k2 := k_House_putBytes) (d2 := d - 1) (As := [.int a5]) (st := []) (q := a0) (ci := 11) mf_House_putBytes mi_House_putBytes ms_House_putBytes (sw_m3 1 (by decide +kernel)) rfl (by decide) (by decide +kernel) rfl (Nat.le_of_ble_eq_true rfl) (by omega) h9 (o_House_putBytes g (d := d - 1) (by omega) hu10) ?_
    show sw_F _ _ _ _ _ _ 42 [(0, .ref a0), (1, .int a1), (2, .int a2), (3, .int a3), (4, .int a4), (5, .int a5)] [] u10
    obtain ⟨h11, hf⟩ := sw_gd_1 hf
    refine sf_blk [(.aload_n 0, 0, 0, .null), (.getfield 13, 11, 1, .null)] (lv' := [(0, .ref a0), (1, .int a1), (2, .int a2), (3, .int a3), (4, .int a4), (5, .int a5)]) (st' := [.int (rd_I u10 a0 1)]) (M1 := u10) (ob := [sw_ok u10 a0 11]) (pc' := 46) (by decide +kernel) rfl rfl (sw_a1 h11 sw_a0) ?_
    cases hf
    exact sf_int rfl (by decide +kernel)
  · refine sf_blk [(.iconst (-1), 0, 0, .int (-1 : Int32))] (lv' := [(0, .ref a0), (1, .int a1), (2, .int a2), (3, .int a3), (4, .int a4), (5, .int a5)]) (st' := [.int (-1 : Int32)]) (M1 := M) (ob := []) (pc' := 14) (by decide +kernel) rfl rfl sw_a0 ?_
    cases hf
    exact sf_int rfl (by decide +kernel)
theorem o_House_feed (g : sw_G) {d : Nat} (hd : 2 ≤ d) {N : Nat} {a0 : Nat} {a1 : Int32} {a2 : Int32} {a3 : Int32} {a4 : Int32} {a5 : Int32} {M : sw_M} {r : Int32 × sw_M} (hf : f_House_feed N a0 a1 a2 a3 a4 a5 M = some r) : sw_Ok g k_House_feed d [.ref a0, .int a1, .int a2, .int a3, .int a4, .int a5] M (some (.int r.1)) r.2 := sf_met (by decide +kernel) rfl (by decide) (Nat.le_of_ble_eq_true rfl) (t_House_feed hd hf)
def f_Rule_clear (N : Nat) (a0 : Nat) (M : sw_M) : Option (sw_M) :=
  sw_gd [sw_ok M a0 7] (some (wr_I (wr_I (wr_I M a0 3 (0 : Int32)) a0 5 (0 : Int32)) a0 6 (0 : Int32)))
set_option maxRecDepth 10000 in
theorem t_Rule_clear {g : sw_G} {d n0 : Nat} (hd : 1 ≤ d) {r : sw_M} {N : Nat} {a0 : Nat} {M : sw_M} (hf : f_Rule_clear N a0 M = some r) : sw_F g k_Rule_clear d n0 none r 0 [(0, .ref a0)] [] M := by
  unfold f_Rule_clear at hf
  obtain ⟨h1, hf⟩ := sw_gd_1 hf
  refine sf_blk [(.aload_n 0, 0, 0, .null), (.iconst (0), 0, 0, .int (0 : Int32)), (.putfield 22, 7, 3, .null), (.aload_n 0, 0, 0, .null), (.iconst (0), 0, 0, .int (0 : Int32)), (.putfield 26, 7, 5, .null), (.aload_n 0, 0, 0, .null), (.iconst (0), 0, 0, .int (0 : Int32)), (.putfield 30, 7, 6, .null)] (lv' := [(0, .ref a0)]) (st' := []) (M1 := (wr_I (wr_I (wr_I M a0 3 (0 : Int32)) a0 5 (0 : Int32)) a0 6 (0 : Int32))) (ob := [sw_ok M a0 7, sw_ok (wr_I M a0 3 (0 : Int32)) a0 7, sw_bz (0 : Int32), sw_ok (wr_I (wr_I M a0 3 (0 : Int32)) a0 5 (0 : Int32)) a0 7]) (pc' := 15) (by decide +kernel) rfl rfl (sw_a1 h1 (sw_a1 h1 (sw_a1 rfl (sw_a1 h1 sw_a0)))) ?_
  cases hf
  exact sf_void rfl (by decide +kernel)
theorem o_Rule_clear (g : sw_G) {d : Nat} (hd : 1 ≤ d) {N : Nat} {a0 : Nat} {M : sw_M} {r : sw_M} (hf : f_Rule_clear N a0 M = some r) : sw_Ok g k_Rule_clear d [.ref a0] M none r := sf_met (by decide +kernel) rfl (by decide) (Nat.le_of_ble_eq_true rfl) (t_Rule_clear hd hf)
def f_Field_clear (N : Nat) (a0 : Nat) (M : sw_M) : Option (sw_M) :=
  sw_gd [sw_ok M a0 0] (sw_gd [sw_ok (wr_I (wr_I (wr_I (wr_I M a0 2 (0 : Int32)) a0 3 (0 : Int32)) a0 4 (0 : Int32)) a0 5 (0 : Int32)) (rd_R (wr_I (wr_I (wr_I (wr_I M a0 2 (0 : Int32)) a0 3 (0 : Int32)) a0 4 (0 : Int32)) a0 5 (0 : Int32)) a0 1) 7] ((f_Rule_clear N (rd_R (wr_I (wr_I (wr_I (wr_I M a0 2 (0 : Int32)) a0 3 (0 : Int32)) a0 4 (0 : Int32)) a0 5 (0 : Int32)) a0 1) (wr_I (wr_I (wr_I (wr_I M a0 2 (0 : Int32)) a0 3 (0 : Int32)) a0 4 (0 : Int32)) a0 5 (0 : Int32))).bind (fun u3 => some u3)))
set_option maxRecDepth 10000 in
theorem t_Field_clear {g : sw_G} {d n0 : Nat} (hd : 2 ≤ d) {r : sw_M} {N : Nat} {a0 : Nat} {M : sw_M} (hf : f_Field_clear N a0 M = some r) : sw_F g k_Field_clear d n0 none r 0 [(0, .ref a0)] [] M := by
  unfold f_Field_clear at hf
  obtain ⟨h1, hf⟩ := sw_gd_1 hf
  obtain ⟨h2, hf⟩ := sw_gd_1 hf
  refine sf_blk [(.aload_n 0, 0, 0, .null), (.iconst (0), 0, 0, .int (0 : Int32)), (.putfield 25, 0, 2, .null), (.aload_n 0, 0, 0, .null), (.iconst (0), 0, 0, .int (0 : Int32)), (.putfield 29, 0, 3, .null), (.aload_n 0, 0, 0, .null), (.iconst (0), 0, 0, .int (0 : Int32)), (.putfield 32, 0, 4, .null), (.aload_n 0, 0, 0, .null), (.iconst (0), 0, 0, .int (0 : Int32)), (.putfield 35, 0, 5, .null), (.aload_n 0, 0, 0, .null), (.getfield 20, 0, 1, .null)] (lv' := [(0, .ref a0)]) (st' := [.ref (rd_R (wr_I (wr_I (wr_I (wr_I M a0 2 (0 : Int32)) a0 3 (0 : Int32)) a0 4 (0 : Int32)) a0 5 (0 : Int32)) a0 1)]) (M1 := (wr_I (wr_I (wr_I (wr_I M a0 2 (0 : Int32)) a0 3 (0 : Int32)) a0 4 (0 : Int32)) a0 5 (0 : Int32))) (ob := [sw_ok M a0 0, sw_ok (wr_I M a0 2 (0 : Int32)) a0 0, sw_ok (wr_I (wr_I M a0 2 (0 : Int32)) a0 3 (0 : Int32)) a0 0, sw_ok (wr_I (wr_I (wr_I M a0 2 (0 : Int32)) a0 3 (0 : Int32)) a0 4 (0 : Int32)) a0 0, sw_ok (wr_I (wr_I (wr_I (wr_I M a0 2 (0 : Int32)) a0 3 (0 : Int32)) a0 4 (0 : Int32)) a0 5 (0 : Int32)) a0 0]) (pc' := 24) (by decide +kernel) rfl rfl (sw_a1 h1 (sw_a1 h1 (sw_a1 h1 (sw_a1 h1 (sw_a1 h1 sw_a0))))) ?_
  obtain ⟨u3, hu3, hf⟩ := sw_bnd hf
  refine sf_callV (i := 38) (k2 := k_Rule_clear) (d2 := d - 1) (As := []) (st := []) (q := (rd_R (wr_I (wr_I (wr_I (wr_I M a0 2 (0 : Int32)) a0 3 (0 : Int32)) a0 4 (0 : Int32)) a0 5 (0 : Int32)) a0 1)) (ci := 7) mf_Rule_clear mi_Rule_clear ms_Rule_clear (sw_m3 20 (by decide +kernel)) rfl (by decide) (by decide +kernel) rfl (Nat.le_of_ble_eq_true rfl) (by omega) h2 (o_Rule_clear g (d := d - 1) (by omega) hu3) ?_
  show sw_F _ _ _ _ _ _ 27 [(0, .ref a0)] [] u3
  cases hf
  exact sf_void rfl (by decide +kernel)
theorem o_Field_clear (g : sw_G) {d : Nat} (hd : 2 ≤ d) {N : Nat} {a0 : Nat} {M : sw_M} {r : sw_M} (hf : f_Field_clear N a0 M = some r) : sw_Ok g k_Field_clear d [.ref a0] M none r := sf_met (by decide +kernel) rfl (by decide) (Nat.le_of_ble_eq_true rfl) (t_Field_clear hd hf)
def f_Reader_scanWord_163 (N : Nat) (k59 : Nat → Int32 → sw_M → Option (sw_M)) (a0 : Nat) (a1 : Int32) (M : sw_M) : Option (sw_M) :=
  k59 a0 (a1 + (8 : Int32)) M
set_option maxRecDepth 10000 in
theorem t_Reader_scanWord_163 {g : sw_G} {d n0 : Nat} (hd : 6 ≤ d) {r : sw_M} (k59 : Nat → Int32 → sw_M → Option (sw_M)) (hk59 : ∀ (a0 : Nat) (a1 : Int32) (M : sw_M), k59 a0 a1 M = some r → sw_F g k_Reader_scanWord d n0 none r 59 [(0, .ref a0), (1, .int a1)] [] M) {N : Nat} {a0 : Nat} {a1 : Int32} {M : sw_M} (hf : f_Reader_scanWord_163 N k59 a0 a1 M = some r) : sw_F g k_Reader_scanWord d n0 none r 163 [(0, .ref a0), (1, .int a1)] [] M := by
  unfold f_Reader_scanWord_163 at hf
  refine sf_blk [(.iinc 1 (8), 0, 0, .int (8 : Int32))] (lv' := [(1, .int (a1 + (8 : Int32))), (0, .ref a0)]) (st' := []) (M1 := M) (ob := []) (pc' := 166) (by decide +kernel) rfl rfl sw_a0 ?_
  refine sf_goto (off := -107) (tgt := 59) (by decide +kernel) (by decide) ?_
  exact sf_weak [1, 0] rfl (hk59 _ _ _ hf)
def f_Reader_scanWord_120 (N : Nat) (k59 : Nat → Int32 → sw_M → Option (sw_M)) (a0 : Nat) (a1 : Int32) (a2 : Int32) (M : sw_M) : Option (sw_M) :=
  if (8 : Int32) ≤ a2 then f_Reader_scanWord_163 N k59 a0 a1 M
  else sw_gd [sw_ok M a0 6] (if ((rd_I M a0 4) + a2) = (rd_I M a0 5) then sw_gd [sw_ti (a1 + a2) 120] (if (tx_0 (a1 + a2)) = (32 : Int32) then f_Reader_scanWord_163 N k59 a0 a1 (wr_I M a0 6 ((20 : Int32) + (a1 / (8 : Int32))))
  else f_Reader_scanWord_163 N k59 a0 a1 M)
  else f_Reader_scanWord_163 N k59 a0 a1 M)
set_option maxRecDepth 10000 in
theorem t_Reader_scanWord_120 {g : sw_G} {d n0 : Nat} (hd : 6 ≤ d) {r : sw_M} (k59 : Nat → Int32 → sw_M → Option (sw_M)) (hk59 : ∀ (a0 : Nat) (a1 : Int32) (M : sw_M), k59 a0 a1 M = some r → sw_F g k_Reader_scanWord d n0 none r 59 [(0, .ref a0), (1, .int a1)] [] M) {N : Nat} {a0 : Nat} {a1 : Int32} {a2 : Int32} {M : sw_M} (hf : f_Reader_scanWord_120 N k59 a0 a1 a2 M = some r) : sw_F g k_Reader_scanWord d n0 none r 120 [(0, .ref a0), (1, .int a1), (2, .int a2)] [] M := by
  unfold f_Reader_scanWord_120 at hf
  refine sf_blk [(.iload_n 2, 0, 0, .null), (.bipush (8), 0, 0, .int (8 : Int32))] (lv' := [(0, .ref a0), (1, .int a1), (2, .int a2)]) (st' := [.int (8 : Int32), .int a2]) (M1 := M) (ob := []) (pc' := 123) (by decide +kernel) rfl rfl sw_a0 ?_
  refine sf_j_ge (off := 40) (tgt := 163) (by decide +kernel) (by decide) hf (fun hc hf => ?_) (fun hc hf => ?_)
  · exact sf_weak [0, 1] rfl (t_Reader_scanWord_163 hd _ hk59 hf)
  · obtain ⟨h1, hf⟩ := sw_gd_1 hf
    refine sf_blk [(.aload_n 0, 0, 0, .null), (.getfield 167, 6, 4, .null), (.iload_n 2, 0, 0, .null), (.iadd, 0, 0, .null), (.aload_n 0, 0, 0, .null), (.getfield 38, 6, 5, .null)] (lv' := [(0, .ref a0), (1, .int a1), (2, .int a2)]) (st' := [.int (rd_I M a0 5), .int ((rd_I M a0 4) + a2)]) (M1 := M) (ob := [sw_ok M a0 6, sw_ok M a0 6]) (pc' := 136) (by decide +kernel) rfl rfl (sw_a1 h1 (sw_a1 h1 sw_a0)) ?_
    refine sf_j_ne (off := 27) (tgt := 163) (by decide +kernel) (by decide) hf (fun hc hf => ?_) (fun hc hf => ?_)
    · exact sf_weak [0, 1] rfl (t_Reader_scanWord_163 hd _ hk59 hf)
    · refine sf_ldc0 rfl (by decide +kernel) ?_
      obtain ⟨h2, hf⟩ := sw_gd_1 hf
      refine sf_blk [(.iload_n 1, 0, 0, .null), (.iload_n 2, 0, 0, .null), (.iadd, 0, 0, .null)] (lv' := [(0, .ref a0), (1, .int a1), (2, .int a2)]) (st' := [.int (a1 + a2), .retAddr 0]) (M1 := M) (ob := []) (pc' := 144) (by decide +kernel) rfl rfl sw_a0 ?_
      refine sf_callT (i := 187) (k2 := k_Str_charAt) (d2 := d - 1) (As := [.int (a1 + a2)]) (st := []) (j := 0) mf_Str_charAt mi_Str_charAt ms_Str_charAt (sw_m3 43 (by decide +kernel)) rfl (by decide +kernel) rfl (Nat.le_of_ble_eq_true rfl) (by omega) (by decide) (o_chr0 g (d := d - 1) (by omega) M h2) ?_
      show sw_F _ _ _ _ _ _ 147 [(0, .ref a0), (1, .int a1), (2, .int a2)] [.int (tx_0 (a1 + a2))] M
      refine sf_blk [(.bipush (32), 0, 0, .int (32 : Int32))] (lv' := [(0, .ref a0), (1, .int a1), (2, .int a2)]) (st' := [.int (32 : Int32), .int (tx_0 (a1 + a2))]) (M1 := M) (ob := []) (pc' := 149) (by decide +kernel) rfl rfl sw_a0 ?_
      refine sf_j_ne (off := 14) (tgt := 163) (by decide +kernel) (by decide) hf (fun hc hf => ?_) (fun hc hf => ?_)
      · exact sf_weak [0, 1] rfl (t_Reader_scanWord_163 hd _ hk59 hf)
      · refine sf_blk [(.aload_n 0, 0, 0, .null), (.bipush (20), 0, 0, .int (20 : Int32)), (.iload_n 1, 0, 0, .null), (.bipush (8), 0, 0, .int (8 : Int32)), (.idiv, 0, 0, .null), (.iadd, 0, 0, .null), (.putfield 51, 6, 6, .null)] (lv' := [(0, .ref a0), (1, .int a1), (2, .int a2)]) (st' := []) (M1 := (wr_I M a0 6 ((20 : Int32) + (a1 / (8 : Int32))))) (ob := [decide (¬ (8 : Int32) = 0), sw_ok M a0 6]) (pc' := 163) (by decide +kernel) rfl rfl (sw_a1 (by decide) (sw_a1 h1 sw_a0)) ?_
        exact sf_weak [0, 1] rfl (t_Reader_scanWord_163 hd _ hk59 hf)
def f_Reader_scanWord_73 (N : Nat) (k59 : Nat → Int32 → sw_M → Option (sw_M)) : Nat → Nat → Int32 → Int32 → sw_M → Option (sw_M)
  | 0, _, _, _, _ => none
  | j + 1, a0, a1, a2, M =>
  if (8 : Int32) ≤ a2 then f_Reader_scanWord_120 N k59 a0 a1 a2 M
  else sw_gd [sw_ok M a0 6] (if (rd_I M a0 5) ≤ ((rd_I M a0 4) + a2) then f_Reader_scanWord_120 N k59 a0 a1 a2 M
  else sw_gd [sw_ar M (rd_R M a0 0) 14 ((rd_I M a0 4) + a2) || sw_ar M (rd_R M a0 0) 15 ((rd_I M a0 4) + a2)] (sw_gd [sw_ti (a1 + a2) 120] (if (rd_I M (rd_R M a0 0) ((rd_I M a0 4) + a2).toNatClampNeg) = (tx_0 (a1 + a2)) then f_Reader_scanWord_73 N k59 j a0 a1 (a2 + (1 : Int32)) M
  else f_Reader_scanWord_120 N k59 a0 a1 a2 M)))
set_option maxRecDepth 10000 in
theorem t_Reader_scanWord_73 {g : sw_G} {d n0 : Nat} (hd : 6 ≤ d) {r : sw_M} (k59 : Nat → Int32 → sw_M → Option (sw_M)) (hk59 : ∀ (a0 : Nat) (a1 : Int32) (M : sw_M), k59 a0 a1 M = some r → sw_F g k_Reader_scanWord d n0 none r 59 [(0, .ref a0), (1, .int a1)] [] M) {N : Nat} : ∀ (j : Nat) (a0 : Nat) (a1 : Int32) (a2 : Int32) (M : sw_M), f_Reader_scanWord_73 N k59 j a0 a1 a2 M = some r → sw_F g k_Reader_scanWord d n0 none r 73 [(0, .ref a0), (1, .int a1), (2, .int a2)] [] M := by
  intro j
  induction j with
  | zero =>
    intro a0 a1 a2 M hf
    rw [f_Reader_scanWord_73] at hf
    cases hf
  | succ j ih =>
    intro a0 a1 a2 M hf
    rw [f_Reader_scanWord_73] at hf
    refine sf_blk [(.iload_n 2, 0, 0, .null), (.bipush (8), 0, 0, .int (8 : Int32))] (lv' := [(0, .ref a0), (1, .int a1), (2, .int a2)]) (st' := [.int (8 : Int32), .int a2]) (M1 := M) (ob := []) (pc' := 76) (by decide +kernel) rfl rfl sw_a0 ?_
    refine sf_j_ge (off := 44) (tgt := 120) (by decide +kernel) (by decide) hf (fun hc hf => ?_) (fun hc hf => ?_)
    · exact sf_weak [0, 1, 2] rfl (t_Reader_scanWord_120 hd _ hk59 hf)
    · obtain ⟨h1, hf⟩ := sw_gd_1 hf
      refine sf_blk [(.aload_n 0, 0, 0, .null), (.getfield 167, 6, 4, .null), (.iload_n 2, 0, 0, .null), (.iadd, 0, 0, .null), (.aload_n 0, 0, 0, .null), (.getfield 38, 6, 5, .null)] (lv' := [(0, .ref a0), (1, .int a1), (2, .int a2)]) (st' := [.int (rd_I M a0 5), .int ((rd_I M a0 4) + a2)]) (M1 := M) (ob := [sw_ok M a0 6, sw_ok M a0 6]) (pc' := 89) (by decide +kernel) rfl rfl (sw_a1 h1 (sw_a1 h1 sw_a0)) ?_
      refine sf_j_ge (off := 31) (tgt := 120) (by decide +kernel) (by decide) hf (fun hc hf => ?_) (fun hc hf => ?_)
      · exact sf_weak [0, 1, 2] rfl (t_Reader_scanWord_120 hd _ hk59 hf)
      · obtain ⟨h2, hf⟩ := sw_gd_1 hf
        refine sf_blk [(.aload_n 0, 0, 0, .null), (.getfield 25, 6, 0, .null), (.aload_n 0, 0, 0, .null), (.getfield 167, 6, 4, .null), (.iload_n 2, 0, 0, .null), (.iadd, 0, 0, .null), (.baload, 0, 0, .null)] (lv' := [(0, .ref a0), (1, .int a1), (2, .int a2)]) (st' := [.int (rd_I M (rd_R M a0 0) ((rd_I M a0 4) + a2).toNatClampNeg)]) (M1 := M) (ob := [sw_ok M a0 6, sw_ok M a0 6, sw_ar M (rd_R M a0 0) 14 ((rd_I M a0 4) + a2) || sw_ar M (rd_R M a0 0) 15 ((rd_I M a0 4) + a2)]) (pc' := 103) (by decide +kernel) rfl rfl (sw_a1 h1 (sw_a1 h1 (sw_a1 h2 sw_a0))) ?_
        refine sf_ldc0 rfl (by decide +kernel) ?_
        obtain ⟨h3, hf⟩ := sw_gd_1 hf
        refine sf_blk [(.iload_n 1, 0, 0, .null), (.iload_n 2, 0, 0, .null), (.iadd, 0, 0, .null)] (lv' := [(0, .ref a0), (1, .int a1), (2, .int a2)]) (st' := [.int (a1 + a2), .retAddr 0, .int (rd_I M (rd_R M a0 0) ((rd_I M a0 4) + a2).toNatClampNeg)]) (M1 := M) (ob := []) (pc' := 108) (by decide +kernel) rfl rfl sw_a0 ?_
        refine sf_callT (i := 187) (k2 := k_Str_charAt) (d2 := d - 1) (As := [.int (a1 + a2)]) (st := [.int (rd_I M (rd_R M a0 0) ((rd_I M a0 4) + a2).toNatClampNeg)]) (j := 0) mf_Str_charAt mi_Str_charAt ms_Str_charAt (sw_m3 43 (by decide +kernel)) rfl (by decide +kernel) rfl (Nat.le_of_ble_eq_true rfl) (by omega) (by decide) (o_chr0 g (d := d - 1) (by omega) M h3) ?_
        show sw_F _ _ _ _ _ _ 111 [(0, .ref a0), (1, .int a1), (2, .int a2)] [.int (tx_0 (a1 + a2)), .int (rd_I M (rd_R M a0 0) ((rd_I M a0 4) + a2).toNatClampNeg)] M
        refine sf_j_ne (off := 9) (tgt := 120) (by decide +kernel) (by decide) hf (fun hc hf => ?_) (fun hc hf => ?_)
        · exact sf_weak [0, 1, 2] rfl (t_Reader_scanWord_120 hd _ hk59 hf)
        · refine sf_blk [(.iinc 2 (1), 0, 0, .int (1 : Int32))] (lv' := [(2, .int (a2 + (1 : Int32))), (0, .ref a0), (1, .int a1)]) (st' := []) (M1 := M) (ob := []) (pc' := 117) (by decide +kernel) rfl rfl sw_a0 ?_
          refine sf_goto (off := -44) (tgt := 73) (by decide +kernel) (by decide) ?_
          exact sf_weak [1, 2, 0] rfl (ih _ _ _ _ hf)
def f_Reader_scanWord_59 (N : Nat) : Nat → Nat → Int32 → sw_M → Option (sw_M)
  | 0, _, _, _ => none
  | j + 1, a0, a1, M =>
  if (120 : Int32) < (a1 + (8 : Int32)) then some M
  else f_Reader_scanWord_73 N (f_Reader_scanWord_59 N j) N a0 a1 (0 : Int32) M
set_option maxRecDepth 10000 in
theorem t_Reader_scanWord_59 {g : sw_G} {d n0 : Nat} (hd : 6 ≤ d) {r : sw_M} {N : Nat} : ∀ (j : Nat) (a0 : Nat) (a1 : Int32) (M : sw_M), f_Reader_scanWord_59 N j a0 a1 M = some r → sw_F g k_Reader_scanWord d n0 none r 59 [(0, .ref a0), (1, .int a1)] [] M := by
  intro j
  induction j with
  | zero =>
    intro a0 a1 M hf
    rw [f_Reader_scanWord_59] at hf
    cases hf
  | succ j ih =>
    intro a0 a1 M hf
    rw [f_Reader_scanWord_59] at hf
    refine sf_blk [(.iload_n 1, 0, 0, .null), (.bipush (8), 0, 0, .int (8 : Int32)), (.iadd, 0, 0, .null)] (lv' := [(0, .ref a0), (1, .int a1)]) (st' := [.int (a1 + (8 : Int32))]) (M1 := M) (ob := []) (pc' := 63) (by decide +kernel) rfl rfl sw_a0 ?_
    refine sf_ldc0 rfl (by decide +kernel) ?_
    refine sf_callT (i := 181) (k2 := k_Str_length) (d2 := d - 1) (As := []) (st := [.int (a1 + (8 : Int32))]) (j := 0) mf_Str_length mi_Str_length ms_Str_length (sw_m3 33 (by decide +kernel)) rfl (by decide +kernel) rfl (Nat.le_of_ble_eq_true rfl) (by omega) (by decide) (o_len0 g (d := d - 1) (by omega) M) ?_
    show sw_F _ _ _ _ _ _ 68 [(0, .ref a0), (1, .int a1)] [.int (120 : Int32), .int (a1 + (8 : Int32))] M
    refine sf_j_gt (off := 101) (tgt := 169) (by decide +kernel) (by decide) hf (fun hc hf => ?_) (fun hc hf => ?_)
    · cases hf
      exact sf_void rfl (by decide +kernel)
    · refine sf_blk [(.iconst (0), 0, 0, .int (0 : Int32)), (.istore_n 2, 0, 0, .null)] (lv' := [(2, .int (0 : Int32)), (0, .ref a0), (1, .int a1)]) (st' := []) (M1 := M) (ob := []) (pc' := 73) (by decide +kernel) rfl rfl sw_a0 ?_
      exact sf_weak [1, 2, 0] rfl (t_Reader_scanWord_73 hd _ ih _ _ _ _ _ hf)
def f_Reader_scanWord_52 (N : Nat) (a0 : Nat) (M : sw_M) : Option (sw_M) :=
  sw_gd [sw_ok M a0 6] (f_Reader_scanWord_59 N N a0 (0 : Int32) (wr_I M a0 6 (1 : Int32)))
set_option maxRecDepth 10000 in
theorem t_Reader_scanWord_52 {g : sw_G} {d n0 : Nat} (hd : 6 ≤ d) {r : sw_M} {N : Nat} {a0 : Nat} {M : sw_M} (hf : f_Reader_scanWord_52 N a0 M = some r) : sw_F g k_Reader_scanWord d n0 none r 52 [(0, .ref a0)] [] M := by
  unfold f_Reader_scanWord_52 at hf
  obtain ⟨h1, hf⟩ := sw_gd_1 hf
  refine sf_blk [(.aload_n 0, 0, 0, .null), (.iconst (1), 0, 0, .int (1 : Int32)), (.putfield 51, 6, 6, .null), (.iconst (0), 0, 0, .int (0 : Int32)), (.istore_n 1, 0, 0, .null)] (lv' := [(1, .int (0 : Int32)), (0, .ref a0)]) (st' := []) (M1 := (wr_I M a0 6 (1 : Int32))) (ob := [sw_ok M a0 6]) (pc' := 59) (by decide +kernel) rfl rfl (sw_a1 h1 sw_a0) ?_
  exact sf_weak [1, 0] rfl (t_Reader_scanWord_59 hd _ _ _ _ hf)
def f_Reader_scanWord_0 (N : Nat) : Nat → Nat → sw_M → Option (sw_M)
  | 0, _, _ => none
  | j + 1, a0, M =>
  sw_gd [sw_ok M a0 6] (if (rd_I M a0 3) ≤ (rd_I M a0 5) then f_Reader_scanWord_52 N a0 M
  else sw_gd [sw_ar M (rd_R M a0 0) 14 (rd_I M a0 5) || sw_ar M (rd_R M a0 0) 15 (rd_I M a0 5)] (if (rd_I M (rd_R M a0 0) (rd_I M a0 5).toNatClampNeg) < (97 : Int32) then f_Reader_scanWord_52 N a0 M
  else if (122 : Int32) < (rd_I M (rd_R M a0 0) (rd_I M a0 5).toNatClampNeg) then f_Reader_scanWord_52 N a0 M
  else f_Reader_scanWord_0 N j a0 (wr_I M a0 5 ((rd_I M a0 5) + (1 : Int32)))))
set_option maxRecDepth 10000 in
theorem t_Reader_scanWord_0 {g : sw_G} {d n0 : Nat} (hd : 6 ≤ d) {r : sw_M} {N : Nat} : ∀ (j : Nat) (a0 : Nat) (M : sw_M), f_Reader_scanWord_0 N j a0 M = some r → sw_F g k_Reader_scanWord d n0 none r 0 [(0, .ref a0)] [] M := by
  intro j
  induction j with
  | zero =>
    intro a0 M hf
    rw [f_Reader_scanWord_0] at hf
    cases hf
  | succ j ih =>
    intro a0 M hf
    rw [f_Reader_scanWord_0] at hf
    obtain ⟨h1, hf⟩ := sw_gd_1 hf
    refine sf_blk [(.aload_n 0, 0, 0, .null), (.getfield 38, 6, 5, .null), (.aload_n 0, 0, 0, .null), (.getfield 35, 6, 3, .null)] (lv' := [(0, .ref a0)]) (st' := [.int (rd_I M a0 3), .int (rd_I M a0 5)]) (M1 := M) (ob := [sw_ok M a0 6, sw_ok M a0 6]) (pc' := 8) (by decide +kernel) rfl rfl (sw_a1 h1 (sw_a1 h1 sw_a0)) ?_
    refine sf_j_ge (off := 44) (tgt := 52) (by decide +kernel) (by decide) hf (fun hc hf => ?_) (fun hc hf => ?_)
    · exact sf_weak [0] rfl (t_Reader_scanWord_52 hd hf)
    · obtain ⟨h2, hf⟩ := sw_gd_1 hf
      refine sf_blk [(.aload_n 0, 0, 0, .null), (.getfield 25, 6, 0, .null), (.aload_n 0, 0, 0, .null), (.getfield 38, 6, 5, .null), (.baload, 0, 0, .null), (.bipush (97), 0, 0, .int (97 : Int32))] (lv' := [(0, .ref a0)]) (st' := [.int (97 : Int32), .int (rd_I M (rd_R M a0 0) (rd_I M a0 5).toNatClampNeg)]) (M1 := M) (ob := [sw_ok M a0 6, sw_ok M a0 6, sw_ar M (rd_R M a0 0) 14 (rd_I M a0 5) || sw_ar M (rd_R M a0 0) 15 (rd_I M a0 5)]) (pc' := 22) (by decide +kernel) rfl rfl (sw_a1 h1 (sw_a1 h1 (sw_a1 h2 sw_a0))) ?_
      refine sf_j_lt (off := 30) (tgt := 52) (by decide +kernel) (by decide) hf (fun hc hf => ?_) (fun hc hf => ?_)
      · exact sf_weak [0] rfl (t_Reader_scanWord_52 hd hf)
      · refine sf_blk [(.aload_n 0, 0, 0, .null), (.getfield 25, 6, 0, .null), (.aload_n 0, 0, 0, .null), (.getfield 38, 6, 5, .null), (.baload, 0, 0, .null), (.bipush (122), 0, 0, .int (122 : Int32))] (lv' := [(0, .ref a0)]) (st' := [.int (122 : Int32), .int (rd_I M (rd_R M a0 0) (rd_I M a0 5).toNatClampNeg)]) (M1 := M) (ob := [sw_ok M a0 6, sw_ok M a0 6, sw_ar M (rd_R M a0 0) 14 (rd_I M a0 5) || sw_ar M (rd_R M a0 0) 15 (rd_I M a0 5)]) (pc' := 36) (by decide +kernel) rfl rfl (sw_a1 h1 (sw_a1 h1 (sw_a1 h2 sw_a0))) ?_
        refine sf_j_gt (off := 16) (tgt := 52) (by decide +kernel) (by decide) hf (fun hc hf => ?_) (fun hc hf => ?_)
        · exact sf_weak [0] rfl (t_Reader_scanWord_52 hd hf)
        · refine sf_blk [(.aload_n 0, 0, 0, .null), (.dup, 0, 0, .null), (.getfield 38, 6, 5, .null), (.iconst (1), 0, 0, .int (1 : Int32)), (.iadd, 0, 0, .null), (.putfield 38, 6, 5, .null)] (lv' := [(0, .ref a0)]) (st' := []) (M1 := (wr_I M a0 5 ((rd_I M a0 5) + (1 : Int32)))) (ob := [sw_ok M a0 6, sw_ok M a0 6]) (pc' := 49) (by decide +kernel) rfl rfl (sw_a1 h1 (sw_a1 h1 sw_a0)) ?_
          refine sf_goto (off := -49) (tgt := 0) (by decide +kernel) (by decide) ?_
          exact sf_weak [0] rfl (ih _ _ hf)
def f_Reader_scanWord (N : Nat) (a0 : Nat) (M : sw_M) : Option (sw_M) := f_Reader_scanWord_0 N N a0 M
theorem t_Reader_scanWord {g : sw_G} {d n0 : Nat} (hd : 6 ≤ d) {r : sw_M} {N : Nat} {a0 : Nat} {M : sw_M} (hf : f_Reader_scanWord N a0 M = some r) : sw_F g k_Reader_scanWord d n0 none r 0 [(0, .ref a0)] [] M := sf_weak [0] rfl (t_Reader_scanWord_0 hd _ _ _ hf)
theorem o_Reader_scanWord (g : sw_G) {d : Nat} (hd : 6 ≤ d) {N : Nat} {a0 : Nat} {M : sw_M} {r : sw_M} (hf : f_Reader_scanWord N a0 M = some r) : sw_Ok g k_Reader_scanWord d [.ref a0] M none r := sf_met (by decide +kernel) rfl (by decide) (Nat.le_of_ble_eq_true rfl) (t_Reader_scanWord hd hf)
def f_Reader_scanNumber_10 (N : Nat) : Nat → Nat → sw_M → Option (sw_M)
  | 0, _, _ => none
  | j + 1, a0, M =>
  sw_gd [sw_ok M a0 6] (if (rd_I M a0 3) ≤ (rd_I M a0 5) then some M
  else sw_gd [sw_ar M (rd_R M a0 0) 14 (rd_I M a0 5) || sw_ar M (rd_R M a0 0) 15 (rd_I M a0 5)] (if (rd_I M (rd_R M a0 0) (rd_I M a0 5).toNatClampNeg) < (48 : Int32) then some M
  else if (57 : Int32) < (rd_I M (rd_R M a0 0) (rd_I M a0 5).toNatClampNeg) then some M
  else f_Reader_scanNumber_10 N j a0 (wr_I (wr_I M a0 7 (m_minI ((((rd_I M a0 7) * (10 : Int32)) + (rd_I M (rd_R M a0 0) (rd_I M a0 5).toNatClampNeg)) - (48 : Int32)) (1000000 : Int32))) a0 5 ((rd_I (wr_I M a0 7 (m_minI ((((rd_I M a0 7) * (10 : Int32)) + (rd_I M (rd_R M a0 0) (rd_I M a0 5).toNatClampNeg)) - (48 : Int32)) (1000000 : Int32))) a0 5) + (1 : Int32)))))
set_option maxRecDepth 10000 in
theorem t_Reader_scanNumber_10 {g : sw_G} {d n0 : Nat} (hd : 2 ≤ d) {r : sw_M} {N : Nat} : ∀ (j : Nat) (a0 : Nat) (M : sw_M), f_Reader_scanNumber_10 N j a0 M = some r → sw_F g k_Reader_scanNumber d n0 none r 10 [(0, .ref a0)] [] M := by
  intro j
  induction j with
  | zero =>
    intro a0 M hf
    rw [f_Reader_scanNumber_10] at hf
    cases hf
  | succ j ih =>
    intro a0 M hf
    rw [f_Reader_scanNumber_10] at hf
    obtain ⟨h1, hf⟩ := sw_gd_1 hf
    refine sf_blk [(.aload_n 0, 0, 0, .null), (.getfield 38, 6, 5, .null), (.aload_n 0, 0, 0, .null), (.getfield 35, 6, 3, .null)] (lv' := [(0, .ref a0)]) (st' := [.int (rd_I M a0 3), .int (rd_I M a0 5)]) (M1 := M) (ob := [sw_ok M a0 6, sw_ok M a0 6]) (pc' := 18) (by decide +kernel) rfl rfl (sw_a1 h1 (sw_a1 h1 sw_a0)) ?_
    refine sf_j_ge (off := 73) (tgt := 91) (by decide +kernel) (by decide) hf (fun hc hf => ?_) (fun hc hf => ?_)
    · cases hf
      exact sf_void rfl (by decide +kernel)
    · obtain ⟨h2, hf⟩ := sw_gd_1 hf
      refine sf_blk [(.aload_n 0, 0, 0, .null), (.getfield 25, 6, 0, .null), (.aload_n 0, 0, 0, .null), (.getfield 38, 6, 5, .null), (.baload, 0, 0, .null), (.bipush (48), 0, 0, .int (48 : Int32))] (lv' := [(0, .ref a0)]) (st' := [.int (48 : Int32), .int (rd_I M (rd_R M a0 0) (rd_I M a0 5).toNatClampNeg)]) (M1 := M) (ob := [sw_ok M a0 6, sw_ok M a0 6, sw_ar M (rd_R M a0 0) 14 (rd_I M a0 5) || sw_ar M (rd_R M a0 0) 15 (rd_I M a0 5)]) (pc' := 32) (by decide +kernel) rfl rfl (sw_a1 h1 (sw_a1 h1 (sw_a1 h2 sw_a0))) ?_
      refine sf_j_lt (off := 59) (tgt := 91) (by decide +kernel) (by decide) hf (fun hc hf => ?_) (fun hc hf => ?_)
      · cases hf
        exact sf_void rfl (by decide +kernel)
      · refine sf_blk [(.aload_n 0, 0, 0, .null), (.getfield 25, 6, 0, .null), (.aload_n 0, 0, 0, .null), (.getfield 38, 6, 5, .null), (.baload, 0, 0, .null), (.bipush (57), 0, 0, .int (57 : Int32))] (lv' := [(0, .ref a0)]) (st' := [.int (57 : Int32), .int (rd_I M (rd_R M a0 0) (rd_I M a0 5).toNatClampNeg)]) (M1 := M) (ob := [sw_ok M a0 6, sw_ok M a0 6, sw_ar M (rd_R M a0 0) 14 (rd_I M a0 5) || sw_ar M (rd_R M a0 0) 15 (rd_I M a0 5)]) (pc' := 46) (by decide +kernel) rfl rfl (sw_a1 h1 (sw_a1 h1 (sw_a1 h2 sw_a0))) ?_
        refine sf_j_gt (off := 45) (tgt := 91) (by decide +kernel) (by decide) hf (fun hc hf => ?_) (fun hc hf => ?_)
        · cases hf
          exact sf_void rfl (by decide +kernel)
        · refine sf_blk [(.aload_n 0, 0, 0, .null), (.aload_n 0, 0, 0, .null), (.getfield 125, 6, 7, .null), (.bipush (10), 0, 0, .int (10 : Int32)), (.imul, 0, 0, .null), (.aload_n 0, 0, 0, .null), (.getfield 25, 6, 0, .null), (.aload_n 0, 0, 0, .null), (.getfield 38, 6, 5, .null), (.baload, 0, 0, .null), (.iadd, 0, 0, .null), (.bipush (48), 0, 0, .int (48 : Int32)), (.isub, 0, 0, .null), (.ldc 191, 0, 0, .int (1000000 : Int32))] (lv' := [(0, .ref a0)]) (st' := [.int (1000000 : Int32), .int ((((rd_I M a0 7) * (10 : Int32)) + (rd_I M (rd_R M a0 0) (rd_I M a0 5).toNatClampNeg)) - (48 : Int32)), .ref a0]) (M1 := M) (ob := [sw_ok M a0 6, sw_ok M a0 6, sw_ok M a0 6, sw_ar M (rd_R M a0 0) 14 (rd_I M a0 5) || sw_ar M (rd_R M a0 0) 15 (rd_I M a0 5)]) (pc' := 72) (by decide +kernel) rfl rfl (sw_a1 h1 (sw_a1 h1 (sw_a1 h1 (sw_a1 h2 sw_a0)))) ?_
          refine sf_minI (i := 29) (st := [.ref a0]) (sw_m3 13 (by decide +kernel)) (by decide +kernel) (by omega) (Nat.le_of_ble_eq_true rfl) ?_
          show sw_F _ _ _ _ _ _ 75 [(0, .ref a0)] [.int (m_minI ((((rd_I M a0 7) * (10 : Int32)) + (rd_I M (rd_R M a0 0) (rd_I M a0 5).toNatClampNeg)) - (48 : Int32)) (1000000 : Int32)), .ref a0] M
          refine sf_blk [(.putfield 125, 6, 7, .null), (.aload_n 0, 0, 0, .null), (.dup, 0, 0, .null), (.getfield 38, 6, 5, .null), (.iconst (1), 0, 0, .int (1 : Int32)), (.iadd, 0, 0, .null), (.putfield 38, 6, 5, .null)] (lv' := [(0, .ref a0)]) (st' := []) (M1 := (wr_I (wr_I M a0 7 (m_minI ((((rd_I M a0 7) * (10 : Int32)) + (rd_I M (rd_R M a0 0) (rd_I M a0 5).toNatClampNeg)) - (48 : Int32)) (1000000 : Int32))) a0 5 ((rd_I (wr_I M a0 7 (m_minI ((((rd_I M a0 7) * (10 : Int32)) + (rd_I M (rd_R M a0 0) (rd_I M a0 5).toNatClampNeg)) - (48 : Int32)) (1000000 : Int32))) a0 5) + (1 : Int32)))) (ob := [sw_ok M a0 6, sw_ok (wr_I M a0 7 (m_minI ((((rd_I M a0 7) * (10 : Int32)) + (rd_I M (rd_R M a0 0) (rd_I M a0 5).toNatClampNeg)) - (48 : Int32)) (1000000 : Int32))) a0 6, sw_ok (wr_I M a0 7 (m_minI ((((rd_I M a0 7) * (10 : Int32)) + (rd_I M (rd_R M a0 0) (rd_I M a0 5).toNatClampNeg)) - (48 : Int32)) (1000000 : Int32))) a0 6]) (pc' := 88) (by decide +kernel) rfl rfl (sw_a1 h1 (sw_a1 h1 (sw_a1 h1 sw_a0))) ?_
          refine sf_goto (off := -78) (tgt := 10) (by decide +kernel) (by decide) ?_
          exact sf_weak [0] rfl (ih _ _ hf)
def f_Reader_scanNumber (N : Nat) (a0 : Nat) (M : sw_M) : Option (sw_M) :=
  sw_gd [sw_ok M a0 6] (f_Reader_scanNumber_10 N N a0 (wr_I (wr_I M a0 6 (2 : Int32)) a0 7 (0 : Int32)))
set_option maxRecDepth 10000 in
theorem t_Reader_scanNumber {g : sw_G} {d n0 : Nat} (hd : 2 ≤ d) {r : sw_M} {N : Nat} {a0 : Nat} {M : sw_M} (hf : f_Reader_scanNumber N a0 M = some r) : sw_F g k_Reader_scanNumber d n0 none r 0 [(0, .ref a0)] [] M := by
  unfold f_Reader_scanNumber at hf
  obtain ⟨h1, hf⟩ := sw_gd_1 hf
  refine sf_blk [(.aload_n 0, 0, 0, .null), (.iconst (2), 0, 0, .int (2 : Int32)), (.putfield 51, 6, 6, .null), (.aload_n 0, 0, 0, .null), (.iconst (0), 0, 0, .int (0 : Int32)), (.putfield 125, 6, 7, .null)] (lv' := [(0, .ref a0)]) (st' := []) (M1 := (wr_I (wr_I M a0 6 (2 : Int32)) a0 7 (0 : Int32))) (ob := [sw_ok M a0 6, sw_ok (wr_I M a0 6 (2 : Int32)) a0 6]) (pc' := 10) (by decide +kernel) rfl rfl (sw_a1 h1 (sw_a1 h1 sw_a0)) ?_
  exact sf_weak [0] rfl (t_Reader_scanNumber_10 hd _ _ _ hf)
theorem o_Reader_scanNumber (g : sw_G) {d : Nat} (hd : 2 ≤ d) {N : Nat} {a0 : Nat} {M : sw_M} {r : sw_M} (hf : f_Reader_scanNumber N a0 M = some r) : sw_Ok g k_Reader_scanNumber d [.ref a0] M none r := sf_met (by decide +kernel) rfl (by decide) (Nat.le_of_ble_eq_true rfl) (t_Reader_scanNumber hd hf)
def f_Reader_scanSign_296 (N : Nat) (a0 : Nat) (a3 : Int32) (M : sw_M) : Option (sw_M) :=
  sw_gd [sw_ok M a0 6] (some (wr_I M a0 5 ((rd_I M a0 4) + a3)))
set_option maxRecDepth 10000 in
theorem t_Reader_scanSign_296 {g : sw_G} {d n0 : Nat} (hd : 1 ≤ d) {r : sw_M} {N : Nat} {a0 : Nat} {a3 : Int32} {M : sw_M} (hf : f_Reader_scanSign_296 N a0 a3 M = some r) : sw_F g k_Reader_scanSign d n0 none r 296 [(0, .ref a0), (3, .int a3)] [] M := by
  unfold f_Reader_scanSign_296 at hf
  obtain ⟨h1, hf⟩ := sw_gd_1 hf
  refine sf_blk [(.aload_n 0, 0, 0, .null), (.aload_n 0, 0, 0, .null), (.getfield 167, 6, 4, .null), (.iload_n 3, 0, 0, .null), (.iadd, 0, 0, .null), (.putfield 38, 6, 5, .null)] (lv' := [(0, .ref a0), (3, .int a3)]) (st' := []) (M1 := (wr_I M a0 5 ((rd_I M a0 4) + a3))) (ob := [sw_ok M a0 6, sw_ok M a0 6]) (pc' := 306) (by decide +kernel) rfl rfl (sw_a1 h1 (sw_a1 h1 sw_a0)) ?_
  cases hf
  exact sf_void rfl (by decide +kernel)
def f_Reader_scanSign_291 (N : Nat) (a0 : Nat) (a3 : Int32) (M : sw_M) : Option (sw_M) :=
  sw_gd [sw_ok M a0 6] (f_Reader_scanSign_296 N a0 a3 (wr_I M a0 6 (1 : Int32)))
set_option maxRecDepth 10000 in
theorem t_Reader_scanSign_291 {g : sw_G} {d n0 : Nat} (hd : 1 ≤ d) {r : sw_M} {N : Nat} {a0 : Nat} {a3 : Int32} {M : sw_M} (hf : f_Reader_scanSign_291 N a0 a3 M = some r) : sw_F g k_Reader_scanSign d n0 none r 291 [(0, .ref a0), (3, .int a3)] [] M := by
  unfold f_Reader_scanSign_291 at hf
  obtain ⟨h1, hf⟩ := sw_gd_1 hf
  refine sf_blk [(.aload_n 0, 0, 0, .null), (.iconst (1), 0, 0, .int (1 : Int32)), (.putfield 51, 6, 6, .null)] (lv' := [(0, .ref a0), (3, .int a3)]) (st' := []) (M1 := (wr_I M a0 6 (1 : Int32))) (ob := [sw_ok M a0 6]) (pc' := 296) (by decide +kernel) rfl rfl (sw_a1 h1 sw_a0) ?_
  exact sf_weak [0, 1] rfl (t_Reader_scanSign_296 hd hf)
def f_Reader_scanSign_287 (N : Nat) (a0 : Nat) (b0 : Int32) (M : sw_M) : Option (sw_M) :=
  f_Reader_scanSign_296 N a0 b0 M
set_option maxRecDepth 10000 in
theorem t_Reader_scanSign_287 {g : sw_G} {d n0 : Nat} (hd : 1 ≤ d) {r : sw_M} {N : Nat} {a0 : Nat} {b0 : Int32} {M : sw_M} (hf : f_Reader_scanSign_287 N a0 b0 M = some r) : sw_F g k_Reader_scanSign d n0 none r 287 [(0, .ref a0)] [.int b0] M := by
  unfold f_Reader_scanSign_287 at hf
  refine sf_blk [(.istore_n 3, 0, 0, .null)] (lv' := [(3, .int b0), (0, .ref a0)]) (st' := []) (M1 := M) (ob := []) (pc' := 288) (by decide +kernel) rfl rfl sw_a0 ?_
  refine sf_goto (off := 8) (tgt := 296) (by decide +kernel) (by decide) ?_
  exact sf_weak [1, 0] rfl (t_Reader_scanSign_296 hd hf)
def f_Reader_scanSign_271 (N : Nat) (a0 : Nat) (b0 : Int32) (b1 : Nat) (M : sw_M) : Option (sw_M) :=
  sw_gd [sw_ok M b1 6] (sw_gd [sw_ok (wr_I M b1 6 b0) a0 6] (if (rd_I (wr_I M b1 6 b0) a0 6) = (4 : Int32) then f_Reader_scanSign_287 N a0 (2 : Int32) (wr_I M b1 6 b0)
  else f_Reader_scanSign_287 N a0 (1 : Int32) (wr_I M b1 6 b0)))
set_option maxRecDepth 10000 in
theorem t_Reader_scanSign_271 {g : sw_G} {d n0 : Nat} (hd : 1 ≤ d) {r : sw_M} {N : Nat} {a0 : Nat} {b0 : Int32} {b1 : Nat} {M : sw_M} (hf : f_Reader_scanSign_271 N a0 b0 b1 M = some r) : sw_F g k_Reader_scanSign d n0 none r 271 [(0, .ref a0)] [.int b0, .ref b1] M := by
  unfold f_Reader_scanSign_271 at hf
  obtain ⟨h1, hf⟩ := sw_gd_1 hf
  obtain ⟨h2, hf⟩ := sw_gd_1 hf
  refine sf_blk [(.putfield 51, 6, 6, .null), (.aload_n 0, 0, 0, .null), (.getfield 51, 6, 6, .null), (.iconst (4), 0, 0, .int (4 : Int32))] (lv' := [(0, .ref a0)]) (st' := [.int (4 : Int32), .int (rd_I (wr_I M b1 6 b0) a0 6)]) (M1 := (wr_I M b1 6 b0)) (ob := [sw_ok M b1 6, sw_ok (wr_I M b1 6 b0) a0 6]) (pc' := 279) (by decide +kernel) rfl rfl (sw_a1 h1 (sw_a1 h2 sw_a0)) ?_
  refine sf_j_ne (off := 7) (tgt := 286) (by decide +kernel) (by decide) hf (fun hc hf => ?_) (fun hc hf => ?_)
  · refine sf_blk [(.iconst (1), 0, 0, .int (1 : Int32))] (lv' := [(0, .ref a0)]) (st' := [.int (1 : Int32)]) (M1 := (wr_I M b1 6 b0)) (ob := []) (pc' := 287) (by decide +kernel) rfl rfl sw_a0 ?_
    exact sf_weak [0] rfl (t_Reader_scanSign_287 hd hf)
  · refine sf_blk [(.iconst (2), 0, 0, .int (2 : Int32))] (lv' := [(0, .ref a0)]) (st' := [.int (2 : Int32)]) (M1 := (wr_I M b1 6 b0)) (ob := []) (pc' := 283) (by decide +kernel) rfl rfl sw_a0 ?_
    refine sf_goto (off := 4) (tgt := 287) (by decide +kernel) (by decide) ?_
    exact sf_weak [0] rfl (t_Reader_scanSign_287 hd hf)
def f_Reader_scanSign_220 (N : Nat) (a0 : Nat) (b0 : Int32) (M : sw_M) : Option (sw_M) :=
  f_Reader_scanSign_296 N a0 b0 M
set_option maxRecDepth 10000 in
theorem t_Reader_scanSign_220 {g : sw_G} {d n0 : Nat} (hd : 1 ≤ d) {r : sw_M} {N : Nat} {a0 : Nat} {b0 : Int32} {M : sw_M} (hf : f_Reader_scanSign_220 N a0 b0 M = some r) : sw_F g k_Reader_scanSign d n0 none r 220 [(0, .ref a0)] [.int b0] M := by
  unfold f_Reader_scanSign_220 at hf
  refine sf_blk [(.istore_n 3, 0, 0, .null)] (lv' := [(3, .int b0), (0, .ref a0)]) (st' := []) (M1 := M) (ob := []) (pc' := 221) (by decide +kernel) rfl rfl sw_a0 ?_
  refine sf_goto (off := 75) (tgt := 296) (by decide +kernel) (by decide) ?_
  exact sf_weak [1, 0] rfl (t_Reader_scanSign_296 hd hf)
def f_Reader_scanSign_203 (N : Nat) (a0 : Nat) (b0 : Int32) (b1 : Nat) (M : sw_M) : Option (sw_M) :=
  sw_gd [sw_ok M b1 6] (sw_gd [sw_ok (wr_I M b1 6 b0) a0 6] (if (rd_I (wr_I M b1 6 b0) a0 6) = (11 : Int32) then f_Reader_scanSign_220 N a0 (1 : Int32) (wr_I M b1 6 b0)
  else f_Reader_scanSign_220 N a0 (2 : Int32) (wr_I M b1 6 b0)))
set_option maxRecDepth 10000 in
theorem t_Reader_scanSign_203 {g : sw_G} {d n0 : Nat} (hd : 1 ≤ d) {r : sw_M} {N : Nat} {a0 : Nat} {b0 : Int32} {b1 : Nat} {M : sw_M} (hf : f_Reader_scanSign_203 N a0 b0 b1 M = some r) : sw_F g k_Reader_scanSign d n0 none r 203 [(0, .ref a0)] [.int b0, .ref b1] M := by
  unfold f_Reader_scanSign_203 at hf
  obtain ⟨h1, hf⟩ := sw_gd_1 hf
  obtain ⟨h2, hf⟩ := sw_gd_1 hf
  refine sf_blk [(.putfield 51, 6, 6, .null), (.aload_n 0, 0, 0, .null), (.getfield 51, 6, 6, .null), (.bipush (11), 0, 0, .int (11 : Int32))] (lv' := [(0, .ref a0)]) (st' := [.int (11 : Int32), .int (rd_I (wr_I M b1 6 b0) a0 6)]) (M1 := (wr_I M b1 6 b0)) (ob := [sw_ok M b1 6, sw_ok (wr_I M b1 6 b0) a0 6]) (pc' := 212) (by decide +kernel) rfl rfl (sw_a1 h1 (sw_a1 h2 sw_a0)) ?_
  refine sf_j_ne (off := 7) (tgt := 219) (by decide +kernel) (by decide) hf (fun hc hf => ?_) (fun hc hf => ?_)
  · refine sf_blk [(.iconst (2), 0, 0, .int (2 : Int32))] (lv' := [(0, .ref a0)]) (st' := [.int (2 : Int32)]) (M1 := (wr_I M b1 6 b0)) (ob := []) (pc' := 220) (by decide +kernel) rfl rfl sw_a0 ?_
    exact sf_weak [0] rfl (t_Reader_scanSign_220 hd hf)
  · refine sf_blk [(.iconst (1), 0, 0, .int (1 : Int32))] (lv' := [(0, .ref a0)]) (st' := [.int (1 : Int32)]) (M1 := (wr_I M b1 6 b0)) (ob := []) (pc' := 216) (by decide +kernel) rfl rfl sw_a0 ?_
    refine sf_goto (off := 4) (tgt := 220) (by decide +kernel) (by decide) ?_
    exact sf_weak [0] rfl (t_Reader_scanSign_220 hd hf)
def f_Reader_scanSign_255 (N : Nat) (a0 : Nat) (b0 : Int32) (M : sw_M) : Option (sw_M) :=
  f_Reader_scanSign_296 N a0 b0 M
set_option maxRecDepth 10000 in
theorem t_Reader_scanSign_255 {g : sw_G} {d n0 : Nat} (hd : 1 ≤ d) {r : sw_M} {N : Nat} {a0 : Nat} {b0 : Int32} {M : sw_M} (hf : f_Reader_scanSign_255 N a0 b0 M = some r) : sw_F g k_Reader_scanSign d n0 none r 255 [(0, .ref a0)] [.int b0] M := by
  unfold f_Reader_scanSign_255 at hf
  refine sf_blk [(.istore_n 3, 0, 0, .null)] (lv' := [(3, .int b0), (0, .ref a0)]) (st' := []) (M1 := M) (ob := []) (pc' := 256) (by decide +kernel) rfl rfl sw_a0 ?_
  refine sf_goto (off := 40) (tgt := 296) (by decide +kernel) (by decide) ?_
  exact sf_weak [1, 0] rfl (t_Reader_scanSign_296 hd hf)
def f_Reader_scanSign_238 (N : Nat) (a0 : Nat) (b0 : Int32) (b1 : Nat) (M : sw_M) : Option (sw_M) :=
  sw_gd [sw_ok M b1 6] (sw_gd [sw_ok (wr_I M b1 6 b0) a0 6] (if (rd_I (wr_I M b1 6 b0) a0 6) = (16 : Int32) then f_Reader_scanSign_255 N a0 (1 : Int32) (wr_I M b1 6 b0)
  else f_Reader_scanSign_255 N a0 (2 : Int32) (wr_I M b1 6 b0)))
set_option maxRecDepth 10000 in
theorem t_Reader_scanSign_238 {g : sw_G} {d n0 : Nat} (hd : 1 ≤ d) {r : sw_M} {N : Nat} {a0 : Nat} {b0 : Int32} {b1 : Nat} {M : sw_M} (hf : f_Reader_scanSign_238 N a0 b0 b1 M = some r) : sw_F g k_Reader_scanSign d n0 none r 238 [(0, .ref a0)] [.int b0, .ref b1] M := by
  unfold f_Reader_scanSign_238 at hf
  obtain ⟨h1, hf⟩ := sw_gd_1 hf
  obtain ⟨h2, hf⟩ := sw_gd_1 hf
  refine sf_blk [(.putfield 51, 6, 6, .null), (.aload_n 0, 0, 0, .null), (.getfield 51, 6, 6, .null), (.bipush (16), 0, 0, .int (16 : Int32))] (lv' := [(0, .ref a0)]) (st' := [.int (16 : Int32), .int (rd_I (wr_I M b1 6 b0) a0 6)]) (M1 := (wr_I M b1 6 b0)) (ob := [sw_ok M b1 6, sw_ok (wr_I M b1 6 b0) a0 6]) (pc' := 247) (by decide +kernel) rfl rfl (sw_a1 h1 (sw_a1 h2 sw_a0)) ?_
  refine sf_j_ne (off := 7) (tgt := 254) (by decide +kernel) (by decide) hf (fun hc hf => ?_) (fun hc hf => ?_)
  · refine sf_blk [(.iconst (2), 0, 0, .int (2 : Int32))] (lv' := [(0, .ref a0)]) (st' := [.int (2 : Int32)]) (M1 := (wr_I M b1 6 b0)) (ob := []) (pc' := 255) (by decide +kernel) rfl rfl sw_a0 ?_
    exact sf_weak [0] rfl (t_Reader_scanSign_255 hd hf)
  · refine sf_blk [(.iconst (1), 0, 0, .int (1 : Int32))] (lv' := [(0, .ref a0)]) (st' := [.int (1 : Int32)]) (M1 := (wr_I M b1 6 b0)) (ob := []) (pc' := 251) (by decide +kernel) rfl rfl sw_a0 ?_
    refine sf_goto (off := 4) (tgt := 255) (by decide +kernel) (by decide) ?_
    exact sf_weak [0] rfl (t_Reader_scanSign_255 hd hf)
def f_Reader_scanSign (N : Nat) (a0 : Nat) (a1 : Int32) (a2 : Int32) (M : sw_M) : Option (sw_M) :=
  if a1 = (40 : Int32) then sw_gd [sw_ok M a0 6] (f_Reader_scanSign_296 N a0 (1 : Int32) (wr_I M a0 6 (5 : Int32)))
  else if a1 = (41 : Int32) then sw_gd [sw_ok M a0 6] (f_Reader_scanSign_296 N a0 (1 : Int32) (wr_I M a0 6 (6 : Int32)))
  else if a1 = (42 : Int32) then sw_gd [sw_ok M a0 6] (f_Reader_scanSign_296 N a0 (1 : Int32) (wr_I M a0 6 (9 : Int32)))
  else if a1 = (43 : Int32) then sw_gd [sw_ok M a0 6] (f_Reader_scanSign_296 N a0 (1 : Int32) (wr_I M a0 6 (7 : Int32)))
  else if a1 = (44 : Int32) then f_Reader_scanSign_291 N a0 (1 : Int32) M
  else if a1 = (45 : Int32) then sw_gd [sw_ok M a0 6] (f_Reader_scanSign_296 N a0 (1 : Int32) (wr_I M a0 6 (8 : Int32)))
  else if a1 = (46 : Int32) then if a2 = (46 : Int32) then f_Reader_scanSign_271 N a0 (4 : Int32) a0 M
  else f_Reader_scanSign_271 N a0 (1 : Int32) a0 M
  else if a1 = (47 : Int32) then sw_gd [sw_ok M a0 6] (f_Reader_scanSign_296 N a0 (1 : Int32) (wr_I M a0 6 (10 : Int32)))
  else if a1 = (48 : Int32) then f_Reader_scanSign_291 N a0 (1 : Int32) M
  else if a1 = (49 : Int32) then f_Reader_scanSign_291 N a0 (1 : Int32) M
  else if a1 = (50 : Int32) then f_Reader_scanSign_291 N a0 (1 : Int32) M
  else if a1 = (51 : Int32) then f_Reader_scanSign_291 N a0 (1 : Int32) M
  else if a1 = (52 : Int32) then f_Reader_scanSign_291 N a0 (1 : Int32) M
  else if a1 = (53 : Int32) then f_Reader_scanSign_291 N a0 (1 : Int32) M
  else if a1 = (54 : Int32) then f_Reader_scanSign_291 N a0 (1 : Int32) M
  else if a1 = (55 : Int32) then f_Reader_scanSign_291 N a0 (1 : Int32) M
  else if a1 = (56 : Int32) then f_Reader_scanSign_291 N a0 (1 : Int32) M
  else if a1 = (57 : Int32) then f_Reader_scanSign_291 N a0 (1 : Int32) M
  else if a1 = (58 : Int32) then f_Reader_scanSign_291 N a0 (1 : Int32) M
  else if a1 = (59 : Int32) then sw_gd [sw_ok M a0 6] (f_Reader_scanSign_296 N a0 (1 : Int32) (wr_I M a0 6 (3 : Int32)))
  else if a1 = (60 : Int32) then if a2 = (61 : Int32) then f_Reader_scanSign_203 N a0 (12 : Int32) a0 M
  else if a2 = (62 : Int32) then f_Reader_scanSign_203 N a0 (14 : Int32) a0 M
  else f_Reader_scanSign_203 N a0 (11 : Int32) a0 M
  else if a1 = (61 : Int32) then sw_gd [sw_ok M a0 6] (f_Reader_scanSign_296 N a0 (1 : Int32) (wr_I M a0 6 (13 : Int32)))
  else if a1 = (62 : Int32) then if a2 = (61 : Int32) then f_Reader_scanSign_238 N a0 (15 : Int32) a0 M
  else f_Reader_scanSign_238 N a0 (16 : Int32) a0 M
  else f_Reader_scanSign_291 N a0 (1 : Int32) M
set_option maxRecDepth 10000 in
theorem t_Reader_scanSign {g : sw_G} {d n0 : Nat} (hd : 1 ≤ d) {r : sw_M} {N : Nat} {a0 : Nat} {a1 : Int32} {a2 : Int32} {M : sw_M} (hf : f_Reader_scanSign N a0 a1 a2 M = some r) : sw_F g k_Reader_scanSign d n0 none r 0 [(0, .ref a0), (1, .int a1), (2, .int a2)] [] M := by
  unfold f_Reader_scanSign at hf
  refine sf_blk [(.iconst (1), 0, 0, .int (1 : Int32)), (.istore_n 3, 0, 0, .null), (.iload_n 1, 0, 0, .null)] (lv' := [(3, .int (1 : Int32)), (0, .ref a0), (1, .int a1), (2, .int a2)]) (st' := [.int a1]) (M1 := M) (ob := []) (pc' := 3) (by decide +kernel) rfl rfl sw_a0 ?_
  rcases sw_ite hf with ⟨h1, hf⟩ | ⟨h1, hf⟩
  · refine sf_tin (a := a1) (off := 113) (tgt := 116) (len := 105) (show decode (k_c k_Reader_scanSign) 3 = .ok (.tableswitch (288) (40) (62) #[113, 121, 148, 130, 288, 139, 256, 157, 288, 288, 288, 288, 288, 288, 288, 288, 288, 288, 288, 105, 175, 166, 221], 105) by decide +kernel) (by rw [h1]; decide) (by rw [h1]; decide) (by rw [h1]; decide +kernel) (by decide) ?_
    obtain ⟨h2, hf⟩ := sw_gd_1 hf
    refine sf_blk [(.aload_n 0, 0, 0, .null), (.iconst (5), 0, 0, .int (5 : Int32)), (.putfield 51, 6, 6, .null)] (lv' := [(3, .int (1 : Int32)), (0, .ref a0), (1, .int a1), (2, .int a2)]) (st' := []) (M1 := (wr_I M a0 6 (5 : Int32))) (ob := [sw_ok M a0 6]) (pc' := 121) (by decide +kernel) rfl rfl (sw_a1 h2 sw_a0) ?_
    refine sf_goto (off := 175) (tgt := 296) (by decide +kernel) (by decide) ?_
    exact sf_weak [1, 0] rfl (t_Reader_scanSign_296 hd hf)
  ·
    rcases sw_ite hf with ⟨h3, hf⟩ | ⟨h3, hf⟩
    · refine sf_tin (a := a1) (off := 121) (tgt := 124) (len := 105) (show decode (k_c k_Reader_scanSign) 3 = .ok (.tableswitch (288) (40) (62) #[113, 121, 148, 130, 288, 139, 256, 157, 288, 288, 288, 288, 288, 288, 288, 288, 288, 288, 288, 105, 175, 166, 221], 105) by decide +kernel) (by rw [h3]; decide) (by rw [h3]; decide) (by rw [h3]; decide +kernel) (by decide) ?_
      obtain ⟨h4, hf⟩ := sw_gd_1 hf
      refine sf_blk [(.aload_n 0, 0, 0, .null), (.bipush (6), 0, 0, .int (6 : Int32)), (.putfield 51, 6, 6, .null)] (lv' := [(3, .int (1 : Int32)), (0, .ref a0), (1, .int a1), (2, .int a2)]) (st' := []) (M1 := (wr_I M a0 6 (6 : Int32))) (ob := [sw_ok M a0 6]) (pc' := 130) (by decide +kernel) rfl rfl (sw_a1 h4 sw_a0) ?_
      refine sf_goto (off := 166) (tgt := 296) (by decide +kernel) (by decide) ?_
      exact sf_weak [1, 0] rfl (t_Reader_scanSign_296 hd hf)
    ·
      rcases sw_ite hf with ⟨h5, hf⟩ | ⟨h5, hf⟩
      · refine sf_tin (a := a1) (off := 148) (tgt := 151) (len := 105) (show decode (k_c k_Reader_scanSign) 3 = .ok (.tableswitch (288) (40) (62) #[113, 121, 148, 130, 288, 139, 256, 157, 288, 288, 288, 288, 288, 288, 288, 288, 288, 288, 288, 105, 175, 166, 221], 105) by decide +kernel) (by rw [h5]; decide) (by rw [h5]; decide) (by rw [h5]; decide +kernel) (by decide) ?_
        obtain ⟨h6, hf⟩ := sw_gd_1 hf
        refine sf_blk [(.aload_n 0, 0, 0, .null), (.bipush (9), 0, 0, .int (9 : Int32)), (.putfield 51, 6, 6, .null)] (lv' := [(3, .int (1 : Int32)), (0, .ref a0), (1, .int a1), (2, .int a2)]) (st' := []) (M1 := (wr_I M a0 6 (9 : Int32))) (ob := [sw_ok M a0 6]) (pc' := 157) (by decide +kernel) rfl rfl (sw_a1 h6 sw_a0) ?_
        refine sf_goto (off := 139) (tgt := 296) (by decide +kernel) (by decide) ?_
        exact sf_weak [1, 0] rfl (t_Reader_scanSign_296 hd hf)
      ·
        rcases sw_ite hf with ⟨h7, hf⟩ | ⟨h7, hf⟩
        · refine sf_tin (a := a1) (off := 130) (tgt := 133) (len := 105) (show decode (k_c k_Reader_scanSign) 3 = .ok (.tableswitch (288) (40) (62) #[113, 121, 148, 130, 288, 139, 256, 157, 288, 288, 288, 288, 288, 288, 288, 288, 288, 288, 288, 105, 175, 166, 221], 105) by decide +kernel) (by rw [h7]; decide) (by rw [h7]; decide) (by rw [h7]; decide +kernel) (by decide) ?_
          obtain ⟨h8, hf⟩ := sw_gd_1 hf
          refine sf_blk [(.aload_n 0, 0, 0, .null), (.bipush (7), 0, 0, .int (7 : Int32)), (.putfield 51, 6, 6, .null)] (lv' := [(3, .int (1 : Int32)), (0, .ref a0), (1, .int a1), (2, .int a2)]) (st' := []) (M1 := (wr_I M a0 6 (7 : Int32))) (ob := [sw_ok M a0 6]) (pc' := 139) (by decide +kernel) rfl rfl (sw_a1 h8 sw_a0) ?_
          refine sf_goto (off := 157) (tgt := 296) (by decide +kernel) (by decide) ?_
          exact sf_weak [1, 0] rfl (t_Reader_scanSign_296 hd hf)
        ·
          rcases sw_ite hf with ⟨h9, hf⟩ | ⟨h9, hf⟩
          · refine sf_tin (a := a1) (off := 288) (tgt := 291) (len := 105) (show decode (k_c k_Reader_scanSign) 3 = .ok (.tableswitch (288) (40) (62) #[113, 121, 148, 130, 288, 139, 256, 157, 288, 288, 288, 288, 288, 288, 288, 288, 288, 288, 288, 105, 175, 166, 221], 105) by decide +kernel) (by rw [h9]; decide) (by rw [h9]; decide) (by rw [h9]; decide +kernel) (by decide) ?_
            exact sf_weak [1, 0] rfl (t_Reader_scanSign_291 hd hf)
          ·
            rcases sw_ite hf with ⟨h10, hf⟩ | ⟨h10, hf⟩
            · refine sf_tin (a := a1) (off := 139) (tgt := 142) (len := 105) (show decode (k_c k_Reader_scanSign) 3 = .ok (.tableswitch (288) (40) (62) #[113, 121, 148, 130, 288, 139, 256, 157, 288, 288, 288, 288, 288, 288, 288, 288, 288, 288, 288, 105, 175, 166, 221], 105) by decide +kernel) (by rw [h10]; decide) (by rw [h10]; decide) (by rw [h10]; decide +kernel) (by decide) ?_
              obtain ⟨h11, hf⟩ := sw_gd_1 hf
              refine sf_blk [(.aload_n 0, 0, 0, .null), (.bipush (8), 0, 0, .int (8 : Int32)), (.putfield 51, 6, 6, .null)] (lv' := [(3, .int (1 : Int32)), (0, .ref a0), (1, .int a1), (2, .int a2)]) (st' := []) (M1 := (wr_I M a0 6 (8 : Int32))) (ob := [sw_ok M a0 6]) (pc' := 148) (by decide +kernel) rfl rfl (sw_a1 h11 sw_a0) ?_
              refine sf_goto (off := 148) (tgt := 296) (by decide +kernel) (by decide) ?_
              exact sf_weak [1, 0] rfl (t_Reader_scanSign_296 hd hf)
            ·
              rcases sw_ite hf with ⟨h12, hf⟩ | ⟨h12, hf⟩
              · refine sf_tin (a := a1) (off := 256) (tgt := 259) (len := 105) (show decode (k_c k_Reader_scanSign) 3 = .ok (.tableswitch (288) (40) (62) #[113, 121, 148, 130, 288, 139, 256, 157, 288, 288, 288, 288, 288, 288, 288, 288, 288, 288, 288, 105, 175, 166, 221], 105) by decide +kernel) (by rw [h12]; decide) (by rw [h12]; decide) (by rw [h12]; decide +kernel) (by decide) ?_
                refine sf_blk [(.aload_n 0, 0, 0, .null), (.iload_n 2, 0, 0, .null), (.bipush (46), 0, 0, .int (46 : Int32))] (lv' := [(3, .int (1 : Int32)), (0, .ref a0), (1, .int a1), (2, .int a2)]) (st' := [.int (46 : Int32), .int a2, .ref a0]) (M1 := M) (ob := []) (pc' := 263) (by decide +kernel) rfl rfl sw_a0 ?_
                refine sf_j_ne (off := 7) (tgt := 270) (by decide +kernel) (by decide) hf (fun hc hf => ?_) (fun hc hf => ?_)
                · refine sf_blk [(.iconst (1), 0, 0, .int (1 : Int32))] (lv' := [(3, .int (1 : Int32)), (0, .ref a0), (1, .int a1), (2, .int a2)]) (st' := [.int (1 : Int32), .ref a0]) (M1 := M) (ob := []) (pc' := 271) (by decide +kernel) rfl rfl sw_a0 ?_
                  exact sf_weak [1] rfl (t_Reader_scanSign_271 hd hf)
                · refine sf_blk [(.iconst (4), 0, 0, .int (4 : Int32))] (lv' := [(3, .int (1 : Int32)), (0, .ref a0), (1, .int a1), (2, .int a2)]) (st' := [.int (4 : Int32), .ref a0]) (M1 := M) (ob := []) (pc' := 267) (by decide +kernel) rfl rfl sw_a0 ?_
                  refine sf_goto (off := 4) (tgt := 271) (by decide +kernel) (by decide) ?_
                  exact sf_weak [1] rfl (t_Reader_scanSign_271 hd hf)
              ·
                rcases sw_ite hf with ⟨h13, hf⟩ | ⟨h13, hf⟩
                · refine sf_tin (a := a1) (off := 157) (tgt := 160) (len := 105) (show decode (k_c k_Reader_scanSign) 3 = .ok (.tableswitch (288) (40) (62) #[113, 121, 148, 130, 288, 139, 256, 157, 288, 288, 288, 288, 288, 288, 288, 288, 288, 288, 288, 105, 175, 166, 221], 105) by decide +kernel) (by rw [h13]; decide) (by rw [h13]; decide) (by rw [h13]; decide +kernel) (by decide) ?_
                  obtain ⟨h14, hf⟩ := sw_gd_1 hf
                  refine sf_blk [(.aload_n 0, 0, 0, .null), (.bipush (10), 0, 0, .int (10 : Int32)), (.putfield 51, 6, 6, .null)] (lv' := [(3, .int (1 : Int32)), (0, .ref a0), (1, .int a1), (2, .int a2)]) (st' := []) (M1 := (wr_I M a0 6 (10 : Int32))) (ob := [sw_ok M a0 6]) (pc' := 166) (by decide +kernel) rfl rfl (sw_a1 h14 sw_a0) ?_
                  refine sf_goto (off := 130) (tgt := 296) (by decide +kernel) (by decide) ?_
                  exact sf_weak [1, 0] rfl (t_Reader_scanSign_296 hd hf)
                ·
                  rcases sw_ite hf with ⟨h15, hf⟩ | ⟨h15, hf⟩
                  · refine sf_tin (a := a1) (off := 288) (tgt := 291) (len := 105) (show decode (k_c k_Reader_scanSign) 3 = .ok (.tableswitch (288) (40) (62) #[113, 121, 148, 130, 288, 139, 256, 157, 288, 288, 288, 288, 288, 288, 288, 288, 288, 288, 288, 105, 175, 166, 221], 105) by decide +kernel) (by rw [h15]; decide) (by rw [h15]; decide) (by rw [h15]; decide +kernel) (by decide) ?_
                    exact sf_weak [1, 0] rfl (t_Reader_scanSign_291 hd hf)
                  ·
                    rcases sw_ite hf with ⟨h16, hf⟩ | ⟨h16, hf⟩
                    · refine sf_tin (a := a1) (off := 288) (tgt := 291) (len := 105) (show decode (k_c k_Reader_scanSign) 3 = .ok (.tableswitch (288) (40) (62) #[113, 121, 148, 130, 288, 139, 256, 157, 288, 288, 288, 288, 288, 288, 288, 288, 288, 288, 288, 105, 175, 166, 221], 105) by decide +kernel) (by rw [h16]; decide) (by rw [h16]; decide) (by rw [h16]; decide +kernel) (by decide) ?_
                      exact sf_weak [1, 0] rfl (t_Reader_scanSign_291 hd hf)
                    ·
                      rcases sw_ite hf with ⟨h17, hf⟩ | ⟨h17, hf⟩
                      · refine sf_tin (a := a1) (off := 288) (tgt := 291) (len := 105) (show decode (k_c k_Reader_scanSign) 3 = .ok (.tableswitch (288) (40) (62) #[113, 121, 148, 130, 288, 139, 256, 157, 288, 288, 288, 288, 288, 288, 288, 288, 288, 288, 288, 105, 175, 166, 221], 105) by decide +kernel) (by rw [h17]; decide) (by rw [h17]; decide) (by rw [h17]; decide +kernel) (by decide) ?_
                        exact sf_weak [1, 0] rfl (t_Reader_scanSign_291 hd hf)
                      ·
                        rcases sw_ite hf with ⟨h18, hf⟩ | ⟨h18, hf⟩
                        · refine sf_tin (a := a1) (off := 288) (tgt := 291) (len := 105) (show decode (k_c k_Reader_scanSign) 3 = .ok (.tableswitch (288) (40) (62) #[113, 121, 148, 130, 288, 139, 256, 157, 288, 288, 288, 288, 288, 288, 288, 288, 288, 288, 288, 105, 175, 166, 221], 105) by decide +kernel) (by rw [h18]; decide) (by rw [h18]; decide) (by rw [h18]; decide +kernel) (by decide) ?_
                          exact sf_weak [1, 0] rfl (t_Reader_scanSign_291 hd hf)
                        ·
                          rcases sw_ite hf with ⟨h19, hf⟩ | ⟨h19, hf⟩
                          · refine sf_tin (a := a1) (off := 288) (tgt := 291) (len := 105) (show decode (k_c k_Reader_scanSign) 3 = .ok (.tableswitch (288) (40) (62) #[113, 121, 148, 130, 288, 139, 256, 157, 288, 288, 288, 288, 288, 288, 288, 288, 288, 288, 288, 105, 175, 166, 221], 105) by decide +kernel) (by rw [h19]; decide) (by rw [h19]; decide) (by rw [h19]; decide +kernel) (by decide) ?_
                            exact sf_weak [1, 0] rfl (t_Reader_scanSign_291 hd hf)
                          ·
                            rcases sw_ite hf with ⟨h20, hf⟩ | ⟨h20, hf⟩
                            · refine sf_tin (a := a1) (off := 288) (tgt := 291) (len := 105) (show decode (k_c k_Reader_scanSign) 3 = .ok (.tableswitch (288) (40) (62) #[113, 121, 148, 130, 288, 139, 256, 157, 288, 288, 288, 288, 288, 288, 288, 288, 288, 288, 288, 105, 175, 166, 221], 105) by decide +kernel) (by rw [h20]; decide) (by rw [h20]; decide) (by rw [h20]; decide +kernel) (by decide) ?_
                              exact sf_weak [1, 0] rfl (t_Reader_scanSign_291 hd hf)
                            ·
                              rcases sw_ite hf with ⟨h21, hf⟩ | ⟨h21, hf⟩
                              · refine sf_tin (a := a1) (off := 288) (tgt := 291) (len := 105) (show decode (k_c k_Reader_scanSign) 3 = .ok (.tableswitch (288) (40) (62) #[113, 121, 148, 130, 288, 139, 256, 157, 288, 288, 288, 288, 288, 288, 288, 288, 288, 288, 288, 105, 175, 166, 221], 105) by decide +kernel) (by rw [h21]; decide) (by rw [h21]; decide) (by rw [h21]; decide +kernel) (by decide) ?_
                                exact sf_weak [1, 0] rfl (t_Reader_scanSign_291 hd hf)
                              ·
                                rcases sw_ite hf with ⟨h22, hf⟩ | ⟨h22, hf⟩
                                · refine sf_tin (a := a1) (off := 288) (tgt := 291) (len := 105) (show decode (k_c k_Reader_scanSign) 3 = .ok (.tableswitch (288) (40) (62) #[113, 121, 148, 130, 288, 139, 256, 157, 288, 288, 288, 288, 288, 288, 288, 288, 288, 288, 288, 105, 175, 166, 221], 105) by decide +kernel) (by rw [h22]; decide) (by rw [h22]; decide) (by rw [h22]; decide +kernel) (by decide) ?_
                                  exact sf_weak [1, 0] rfl (t_Reader_scanSign_291 hd hf)
                                ·
                                  rcases sw_ite hf with ⟨h23, hf⟩ | ⟨h23, hf⟩
                                  · refine sf_tin (a := a1) (off := 288) (tgt := 291) (len := 105) (show decode (k_c k_Reader_scanSign) 3 = .ok (.tableswitch (288) (40) (62) #[113, 121, 148, 130, 288, 139, 256, 157, 288, 288, 288, 288, 288, 288, 288, 288, 288, 288, 288, 105, 175, 166, 221], 105) by decide +kernel) (by rw [h23]; decide) (by rw [h23]; decide) (by rw [h23]; decide +kernel) (by decide) ?_
                                    exact sf_weak [1, 0] rfl (t_Reader_scanSign_291 hd hf)
                                  ·
                                    rcases sw_ite hf with ⟨h24, hf⟩ | ⟨h24, hf⟩
                                    · refine sf_tin (a := a1) (off := 288) (tgt := 291) (len := 105) (show decode (k_c k_Reader_scanSign) 3 = .ok (.tableswitch (288) (40) (62) #[113, 121, 148, 130, 288, 139, 256, 157, 288, 288, 288, 288, 288, 288, 288, 288, 288, 288, 288, 105, 175, 166, 221], 105) by decide +kernel) (by rw [h24]; decide) (by rw [h24]; decide) (by rw [h24]; decide +kernel) (by decide) ?_
                                      exact sf_weak [1, 0] rfl (t_Reader_scanSign_291 hd hf)
                                    ·
                                      rcases sw_ite hf with ⟨h25, hf⟩ | ⟨h25, hf⟩
                                      · refine sf_tin (a := a1) (off := 288) (tgt := 291) (len := 105) (show decode (k_c k_Reader_scanSign) 3 = .ok (.tableswitch (288) (40) (62) #[113, 121, 148, 130, 288, 139, 256, 157, 288, 288, 288, 288, 288, 288, 288, 288, 288, 288, 288, 105, 175, 166, 221], 105) by decide +kernel) (by rw [h25]; decide) (by rw [h25]; decide) (by rw [h25]; decide +kernel) (by decide) ?_
                                        exact sf_weak [1, 0] rfl (t_Reader_scanSign_291 hd hf)
                                      ·
                                        rcases sw_ite hf with ⟨h26, hf⟩ | ⟨h26, hf⟩
                                        · refine sf_tin (a := a1) (off := 105) (tgt := 108) (len := 105) (show decode (k_c k_Reader_scanSign) 3 = .ok (.tableswitch (288) (40) (62) #[113, 121, 148, 130, 288, 139, 256, 157, 288, 288, 288, 288, 288, 288, 288, 288, 288, 288, 288, 105, 175, 166, 221], 105) by decide +kernel) (by rw [h26]; decide) (by rw [h26]; decide) (by rw [h26]; decide +kernel) (by decide) ?_
                                          obtain ⟨h27, hf⟩ := sw_gd_1 hf
                                          refine sf_blk [(.aload_n 0, 0, 0, .null), (.iconst (3), 0, 0, .int (3 : Int32)), (.putfield 51, 6, 6, .null)] (lv' := [(3, .int (1 : Int32)), (0, .ref a0), (1, .int a1), (2, .int a2)]) (st' := []) (M1 := (wr_I M a0 6 (3 : Int32))) (ob := [sw_ok M a0 6]) (pc' := 113) (by decide +kernel) rfl rfl (sw_a1 h27 sw_a0) ?_
                                          refine sf_goto (off := 183) (tgt := 296) (by decide +kernel) (by decide) ?_
                                          exact sf_weak [1, 0] rfl (t_Reader_scanSign_296 hd hf)
                                        ·
                                          rcases sw_ite hf with ⟨h28, hf⟩ | ⟨h28, hf⟩
                                          · refine sf_tin (a := a1) (off := 175) (tgt := 178) (len := 105) (show decode (k_c k_Reader_scanSign) 3 = .ok (.tableswitch (288) (40) (62) #[113, 121, 148, 130, 288, 139, 256, 157, 288, 288, 288, 288, 288, 288, 288, 288, 288, 288, 288, 105, 175, 166, 221], 105) by decide +kernel) (by rw [h28]; decide) (by rw [h28]; decide) (by rw [h28]; decide +kernel) (by decide) ?_
                                            refine sf_blk [(.aload_n 0, 0, 0, .null), (.iload_n 2, 0, 0, .null), (.bipush (61), 0, 0, .int (61 : Int32))] (lv' := [(3, .int (1 : Int32)), (0, .ref a0), (1, .int a1), (2, .int a2)]) (st' := [.int (61 : Int32), .int a2, .ref a0]) (M1 := M) (ob := []) (pc' := 182) (by decide +kernel) rfl rfl sw_a0 ?_
                                            refine sf_j_ne (off := 8) (tgt := 190) (by decide +kernel) (by decide) hf (fun hc hf => ?_) (fun hc hf => ?_)
                                            · refine sf_blk [(.iload_n 2, 0, 0, .null), (.bipush (62), 0, 0, .int (62 : Int32))] (lv' := [(3, .int (1 : Int32)), (0, .ref a0), (1, .int a1), (2, .int a2)]) (st' := [.int (62 : Int32), .int a2, .ref a0]) (M1 := M) (ob := []) (pc' := 193) (by decide +kernel) rfl rfl sw_a0 ?_
                                              refine sf_j_ne (off := 8) (tgt := 201) (by decide +kernel) (by decide) hf (fun hc hf => ?_) (fun hc hf => ?_)
                                              · refine sf_blk [(.bipush (11), 0, 0, .int (11 : Int32))] (lv' := [(3, .int (1 : Int32)), (0, .ref a0), (1, .int a1), (2, .int a2)]) (st' := [.int (11 : Int32), .ref a0]) (M1 := M) (ob := []) (pc' := 203) (by decide +kernel) rfl rfl sw_a0 ?_
                                                exact sf_weak [1] rfl (t_Reader_scanSign_203 hd hf)
                                              · refine sf_blk [(.bipush (14), 0, 0, .int (14 : Int32))] (lv' := [(3, .int (1 : Int32)), (0, .ref a0), (1, .int a1), (2, .int a2)]) (st' := [.int (14 : Int32), .ref a0]) (M1 := M) (ob := []) (pc' := 198) (by decide +kernel) rfl rfl sw_a0 ?_
                                                refine sf_goto (off := 5) (tgt := 203) (by decide +kernel) (by decide) ?_
                                                exact sf_weak [1] rfl (t_Reader_scanSign_203 hd hf)
                                            · refine sf_blk [(.bipush (12), 0, 0, .int (12 : Int32))] (lv' := [(3, .int (1 : Int32)), (0, .ref a0), (1, .int a1), (2, .int a2)]) (st' := [.int (12 : Int32), .ref a0]) (M1 := M) (ob := []) (pc' := 187) (by decide +kernel) rfl rfl sw_a0 ?_
                                              refine sf_goto (off := 16) (tgt := 203) (by decide +kernel) (by decide) ?_
                                              exact sf_weak [1] rfl (t_Reader_scanSign_203 hd hf)
                                          ·
                                            rcases sw_ite hf with ⟨h29, hf⟩ | ⟨h29, hf⟩
                                            · refine sf_tin (a := a1) (off := 166) (tgt := 169) (len := 105) (show decode (k_c k_Reader_scanSign) 3 = .ok (.tableswitch (288) (40) (62) #[113, 121, 148, 130, 288, 139, 256, 157, 288, 288, 288, 288, 288, 288, 288, 288, 288, 288, 288, 105, 175, 166, 221], 105) by decide +kernel) (by rw [h29]; decide) (by rw [h29]; decide) (by rw [h29]; decide +kernel) (by decide) ?_
                                              obtain ⟨h30, hf⟩ := sw_gd_1 hf
                                              refine sf_blk [(.aload_n 0, 0, 0, .null), (.bipush (13), 0, 0, .int (13 : Int32)), (.putfield 51, 6, 6, .null)] (lv' := [(3, .int (1 : Int32)), (0, .ref a0), (1, .int a1), (2, .int a2)]) (st' := []) (M1 := (wr_I M a0 6 (13 : Int32))) (ob := [sw_ok M a0 6]) (pc' := 175) (by decide +kernel) rfl rfl (sw_a1 h30 sw_a0) ?_
                                              refine sf_goto (off := 121) (tgt := 296) (by decide +kernel) (by decide) ?_
                                              exact sf_weak [1, 0] rfl (t_Reader_scanSign_296 hd hf)
                                            ·
                                              rcases sw_ite hf with ⟨h31, hf⟩ | ⟨h31, hf⟩
                                              · refine sf_tin (a := a1) (off := 221) (tgt := 224) (len := 105) (show decode (k_c k_Reader_scanSign) 3 = .ok (.tableswitch (288) (40) (62) #[113, 121, 148, 130, 288, 139, 256, 157, 288, 288, 288, 288, 288, 288, 288, 288, 288, 288, 288, 105, 175, 166, 221], 105) by decide +kernel) (by rw [h31]; decide) (by rw [h31]; decide) (by rw [h31]; decide +kernel) (by decide) ?_
                                                refine sf_blk [(.aload_n 0, 0, 0, .null), (.iload_n 2, 0, 0, .null), (.bipush (61), 0, 0, .int (61 : Int32))] (lv' := [(3, .int (1 : Int32)), (0, .ref a0), (1, .int a1), (2, .int a2)]) (st' := [.int (61 : Int32), .int a2, .ref a0]) (M1 := M) (ob := []) (pc' := 228) (by decide +kernel) rfl rfl sw_a0 ?_
                                                refine sf_j_ne (off := 8) (tgt := 236) (by decide +kernel) (by decide) hf (fun hc hf => ?_) (fun hc hf => ?_)
                                                · refine sf_blk [(.bipush (16), 0, 0, .int (16 : Int32))] (lv' := [(3, .int (1 : Int32)), (0, .ref a0), (1, .int a1), (2, .int a2)]) (st' := [.int (16 : Int32), .ref a0]) (M1 := M) (ob := []) (pc' := 238) (by decide +kernel) rfl rfl sw_a0 ?_
                                                  exact sf_weak [1] rfl (t_Reader_scanSign_238 hd hf)
                                                · refine sf_blk [(.bipush (15), 0, 0, .int (15 : Int32))] (lv' := [(3, .int (1 : Int32)), (0, .ref a0), (1, .int a1), (2, .int a2)]) (st' := [.int (15 : Int32), .ref a0]) (M1 := M) (ob := []) (pc' := 233) (by decide +kernel) rfl rfl sw_a0 ?_
                                                  refine sf_goto (off := 5) (tgt := 238) (by decide +kernel) (by decide) ?_
                                                  exact sf_weak [1] rfl (t_Reader_scanSign_238 hd hf)
                                              ·
                                                have qh1 := sw_ne (n := 40) h1 (by decide)
                                                have qh3 := sw_ne (n := 41) h3 (by decide)
                                                have qh5 := sw_ne (n := 42) h5 (by decide)
                                                have qh7 := sw_ne (n := 43) h7 (by decide)
                                                have qh9 := sw_ne (n := 44) h9 (by decide)
                                                have qh10 := sw_ne (n := 45) h10 (by decide)
                                                have qh12 := sw_ne (n := 46) h12 (by decide)
                                                have qh13 := sw_ne (n := 47) h13 (by decide)
                                                have qh15 := sw_ne (n := 48) h15 (by decide)
                                                have qh16 := sw_ne (n := 49) h16 (by decide)
                                                have qh17 := sw_ne (n := 50) h17 (by decide)
                                                have qh18 := sw_ne (n := 51) h18 (by decide)
                                                have qh19 := sw_ne (n := 52) h19 (by decide)
                                                have qh20 := sw_ne (n := 53) h20 (by decide)
                                                have qh21 := sw_ne (n := 54) h21 (by decide)
                                                have qh22 := sw_ne (n := 55) h22 (by decide)
                                                have qh23 := sw_ne (n := 56) h23 (by decide)
                                                have qh24 := sw_ne (n := 57) h24 (by decide)
                                                have qh25 := sw_ne (n := 58) h25 (by decide)
                                                have qh26 := sw_ne (n := 59) h26 (by decide)
                                                have qh28 := sw_ne (n := 60) h28 (by decide)
                                                have qh29 := sw_ne (n := 61) h29 (by decide)
                                                have qh31 := sw_ne (n := 62) h31 (by decide)
                                                refine sf_tout (a := a1) (tgt := 291) (len := 105) (show decode (k_c k_Reader_scanSign) 3 = .ok (.tableswitch (288) (40) (62) #[113, 121, 148, 130, 288, 139, 256, 157, 288, 288, 288, 288, 288, 288, 288, 288, 288, 288, 288, 105, 175, 166, 221], 105) by decide +kernel) (by omega) (by decide) ?_
                                                exact sf_weak [1, 0] rfl (t_Reader_scanSign_291 hd hf)
theorem o_Reader_scanSign (g : sw_G) {d : Nat} (hd : 1 ≤ d) {N : Nat} {a0 : Nat} {a1 : Int32} {a2 : Int32} {M : sw_M} {r : sw_M} (hf : f_Reader_scanSign N a0 a1 a2 M = some r) : sw_Ok g k_Reader_scanSign d [.ref a0, .int a1, .int a2] M none r := sf_met (by decide +kernel) rfl (by decide) (Nat.le_of_ble_eq_true rfl) (t_Reader_scanSign hd hf)
def f_Reader_advance_195 (N : Nat) (b0 : Int32) (b1 : Int32) (b2 : Nat) (M : sw_M) : Option (sw_M) :=
  sw_gd [sw_ok M b2 6] ((f_Reader_scanSign N b2 b1 b0 M).bind (fun u2 => some u2))
set_option maxRecDepth 10000 in
theorem t_Reader_advance_195 {g : sw_G} {d n0 : Nat} (hd : 7 ≤ d) {r : sw_M} {N : Nat} {b0 : Int32} {b1 : Int32} {b2 : Nat} {M : sw_M} (hf : f_Reader_advance_195 N b0 b1 b2 M = some r) : sw_F g k_Reader_advance d n0 none r 195 [] [.int b0, .int b1, .ref b2] M := by
  unfold f_Reader_advance_195 at hf
  obtain ⟨h1, hf⟩ := sw_gd_1 hf
  obtain ⟨u2, hu2, hf⟩ := sw_bnd hf
  refine sf_callV (i := 176) (k2 := k_Reader_scanSign) (d2 := d - 1) (As := [.int b1, .int b0]) (st := []) (q := b2) (ci := 6) mf_Reader_scanSign mi_Reader_scanSign ms_Reader_scanSign (sw_m3 86 (by decide +kernel)) rfl (by decide) (by decide +kernel) rfl (Nat.le_of_ble_eq_true rfl) (by omega) h1 (o_Reader_scanSign g (d := d - 1) (by omega) hu2) ?_
  show sw_F _ _ _ _ _ _ 198 [] [] u2
  cases hf
  exact sf_void rfl (by decide +kernel)
def f_Reader_advance_157 (N : Nat) (a0 : Nat) (M : sw_M) : Option (sw_M) :=
  sw_gd [sw_ok M a0 6] (sw_gd [sw_ar M (rd_R M a0 0) 14 (rd_I M a0 4) || sw_ar M (rd_R M a0 0) 15 (rd_I M a0 4)] (if (rd_I M a0 3) ≤ ((rd_I M a0 4) + (1 : Int32)) then f_Reader_advance_195 N (0 : Int32) (rd_I M (rd_R M a0 0) (rd_I M a0 4).toNatClampNeg) a0 M
  else sw_gd [sw_ar M (rd_R M a0 0) 14 ((rd_I M a0 4) + (1 : Int32)) || sw_ar M (rd_R M a0 0) 15 ((rd_I M a0 4) + (1 : Int32))] (f_Reader_advance_195 N (rd_I M (rd_R M a0 0) ((rd_I M a0 4) + (1 : Int32)).toNatClampNeg) (rd_I M (rd_R M a0 0) (rd_I M a0 4).toNatClampNeg) a0 M)))
set_option maxRecDepth 10000 in
theorem t_Reader_advance_157 {g : sw_G} {d n0 : Nat} (hd : 7 ≤ d) {r : sw_M} {N : Nat} {a0 : Nat} {M : sw_M} (hf : f_Reader_advance_157 N a0 M = some r) : sw_F g k_Reader_advance d n0 none r 157 [(0, .ref a0)] [] M := by
  unfold f_Reader_advance_157 at hf
  obtain ⟨h1, hf⟩ := sw_gd_1 hf
  obtain ⟨h2, hf⟩ := sw_gd_1 hf
  refine sf_blk [(.aload_n 0, 0, 0, .null), (.aload_n 0, 0, 0, .null), (.getfield 25, 6, 0, .null), (.aload_n 0, 0, 0, .null), (.getfield 167, 6, 4, .null), (.baload, 0, 0, .null), (.aload_n 0, 0, 0, .null), (.getfield 167, 6, 4, .null), (.iconst (1), 0, 0, .int (1 : Int32)), (.iadd, 0, 0, .null), (.aload_n 0, 0, 0, .null), (.getfield 35, 6, 3, .null)] (lv' := [(0, .ref a0)]) (st' := [.int (rd_I M a0 3), .int ((rd_I M a0 4) + (1 : Int32)), .int (rd_I M (rd_R M a0 0) (rd_I M a0 4).toNatClampNeg), .ref a0]) (M1 := M) (ob := [sw_ok M a0 6, sw_ok M a0 6, sw_ar M (rd_R M a0 0) 14 (rd_I M a0 4) || sw_ar M (rd_R M a0 0) 15 (rd_I M a0 4), sw_ok M a0 6, sw_ok M a0 6]) (pc' := 177) (by decide +kernel) rfl rfl (sw_a1 h1 (sw_a1 h1 (sw_a1 h2 (sw_a1 h1 (sw_a1 h1 sw_a0))))) ?_
  refine sf_j_ge (off := 17) (tgt := 194) (by decide +kernel) (by decide) hf (fun hc hf => ?_) (fun hc hf => ?_)
  · refine sf_blk [(.iconst (0), 0, 0, .int (0 : Int32))] (lv' := [(0, .ref a0)]) (st' := [.int (0 : Int32), .int (rd_I M (rd_R M a0 0) (rd_I M a0 4).toNatClampNeg), .ref a0]) (M1 := M) (ob := []) (pc' := 195) (by decide +kernel) rfl rfl sw_a0 ?_
    exact sf_weak [] rfl (t_Reader_advance_195 hd hf)
  · obtain ⟨h3, hf⟩ := sw_gd_1 hf
    refine sf_blk [(.aload_n 0, 0, 0, .null), (.getfield 25, 6, 0, .null), (.aload_n 0, 0, 0, .null), (.getfield 167, 6, 4, .null), (.iconst (1), 0, 0, .int (1 : Int32)), (.iadd, 0, 0, .null), (.baload, 0, 0, .null)] (lv' := [(0, .ref a0)]) (st' := [.int (rd_I M (rd_R M a0 0) ((rd_I M a0 4) + (1 : Int32)).toNatClampNeg), .int (rd_I M (rd_R M a0 0) (rd_I M a0 4).toNatClampNeg), .ref a0]) (M1 := M) (ob := [sw_ok M a0 6, sw_ok M a0 6, sw_ar M (rd_R M a0 0) 14 ((rd_I M a0 4) + (1 : Int32)) || sw_ar M (rd_R M a0 0) 15 ((rd_I M a0 4) + (1 : Int32))]) (pc' := 191) (by decide +kernel) rfl rfl (sw_a1 h1 (sw_a1 h1 (sw_a1 h3 sw_a0))) ?_
    refine sf_goto (off := 4) (tgt := 195) (by decide +kernel) (by decide) ?_
    exact sf_weak [] rfl (t_Reader_advance_195 hd hf)
def f_Reader_advance_122 (N : Nat) (a0 : Nat) (M : sw_M) : Option (sw_M) :=
  sw_gd [sw_ok M a0 6] (sw_gd [sw_ar M (rd_R M a0 0) 14 (rd_I M a0 4) || sw_ar M (rd_R M a0 0) 15 (rd_I M a0 4)] (if (rd_I M (rd_R M a0 0) (rd_I M a0 4).toNatClampNeg) < (48 : Int32) then f_Reader_advance_157 N a0 M
  else if (57 : Int32) < (rd_I M (rd_R M a0 0) (rd_I M a0 4).toNatClampNeg) then f_Reader_advance_157 N a0 M
  else (f_Reader_scanNumber N a0 M).bind (fun u3 => some u3)))
set_option maxRecDepth 10000 in
theorem t_Reader_advance_122 {g : sw_G} {d n0 : Nat} (hd : 7 ≤ d) {r : sw_M} {N : Nat} {a0 : Nat} {M : sw_M} (hf : f_Reader_advance_122 N a0 M = some r) : sw_F g k_Reader_advance d n0 none r 122 [(0, .ref a0)] [] M := by
  unfold f_Reader_advance_122 at hf
  obtain ⟨h1, hf⟩ := sw_gd_1 hf
  obtain ⟨h2, hf⟩ := sw_gd_1 hf
  refine sf_blk [(.aload_n 0, 0, 0, .null), (.getfield 25, 6, 0, .null), (.aload_n 0, 0, 0, .null), (.getfield 167, 6, 4, .null), (.baload, 0, 0, .null), (.bipush (48), 0, 0, .int (48 : Int32))] (lv' := [(0, .ref a0)]) (st' := [.int (48 : Int32), .int (rd_I M (rd_R M a0 0) (rd_I M a0 4).toNatClampNeg)]) (M1 := M) (ob := [sw_ok M a0 6, sw_ok M a0 6, sw_ar M (rd_R M a0 0) 14 (rd_I M a0 4) || sw_ar M (rd_R M a0 0) 15 (rd_I M a0 4)]) (pc' := 133) (by decide +kernel) rfl rfl (sw_a1 h1 (sw_a1 h1 (sw_a1 h2 sw_a0))) ?_
  refine sf_j_lt (off := 24) (tgt := 157) (by decide +kernel) (by decide) hf (fun hc hf => ?_) (fun hc hf => ?_)
  · exact sf_weak [0] rfl (t_Reader_advance_157 hd hf)
  · refine sf_blk [(.aload_n 0, 0, 0, .null), (.getfield 25, 6, 0, .null), (.aload_n 0, 0, 0, .null), (.getfield 167, 6, 4, .null), (.baload, 0, 0, .null), (.bipush (57), 0, 0, .int (57 : Int32))] (lv' := [(0, .ref a0)]) (st' := [.int (57 : Int32), .int (rd_I M (rd_R M a0 0) (rd_I M a0 4).toNatClampNeg)]) (M1 := M) (ob := [sw_ok M a0 6, sw_ok M a0 6, sw_ar M (rd_R M a0 0) 14 (rd_I M a0 4) || sw_ar M (rd_R M a0 0) 15 (rd_I M a0 4)]) (pc' := 147) (by decide +kernel) rfl rfl (sw_a1 h1 (sw_a1 h1 (sw_a1 h2 sw_a0))) ?_
    refine sf_j_gt (off := 10) (tgt := 157) (by decide +kernel) (by decide) hf (fun hc hf => ?_) (fun hc hf => ?_)
    · exact sf_weak [0] rfl (t_Reader_advance_157 hd hf)
    · refine sf_blk [(.aload_n 0, 0, 0, .null)] (lv' := [(0, .ref a0)]) (st' := [.ref a0]) (M1 := M) (ob := []) (pc' := 151) (by decide +kernel) rfl rfl sw_a0 ?_
      obtain ⟨u3, hu3, hf⟩ := sw_bnd hf
      refine sf_callV (i := 173) (k2 := k_Reader_scanNumber) (d2 := d - 1) (As := []) (st := []) (q := a0) (ci := 6) mf_Reader_scanNumber mi_Reader_scanNumber ms_Reader_scanNumber (sw_m3 81 (by decide +kernel)) rfl (by decide) (by decide +kernel) rfl (Nat.le_of_ble_eq_true rfl) (by omega) h1 (o_Reader_scanNumber g (d := d - 1) (by omega) hu3) ?_
      show sw_F _ _ _ _ _ _ 154 [(0, .ref a0)] [] u3
      refine sf_goto (off := 44) (tgt := 198) (by decide +kernel) (by decide) ?_
      cases hf
      exact sf_void rfl (by decide +kernel)
def f_Reader_advance_60 (N : Nat) (a0 : Nat) (M : sw_M) : Option (sw_M) :=
  sw_gd [sw_ok M a0 6] (if (rd_I (wr_I M a0 5 (rd_I M a0 4)) a0 4) < (rd_I (wr_I M a0 5 (rd_I M a0 4)) a0 3) then sw_gd [sw_ar (wr_I M a0 5 (rd_I M a0 4)) (rd_R (wr_I M a0 5 (rd_I M a0 4)) a0 0) 14 (rd_I (wr_I M a0 5 (rd_I M a0 4)) a0 4) || sw_ar (wr_I M a0 5 (rd_I M a0 4)) (rd_R (wr_I M a0 5 (rd_I M a0 4)) a0 0) 15 (rd_I (wr_I M a0 5 (rd_I M a0 4)) a0 4)] (if (rd_I (wr_I M a0 5 (rd_I M a0 4)) (rd_R (wr_I M a0 5 (rd_I M a0 4)) a0 0) (rd_I (wr_I M a0 5 (rd_I M a0 4)) a0 4).toNatClampNeg) < (97 : Int32) then f_Reader_advance_122 N a0 (wr_I M a0 5 (rd_I M a0 4))
  else if (122 : Int32) < (rd_I (wr_I M a0 5 (rd_I M a0 4)) (rd_R (wr_I M a0 5 (rd_I M a0 4)) a0 0) (rd_I (wr_I M a0 5 (rd_I M a0 4)) a0 4).toNatClampNeg) then f_Reader_advance_122 N a0 (wr_I M a0 5 (rd_I M a0 4))
  else (f_Reader_scanWord N a0 (wr_I M a0 5 (rd_I M a0 4))).bind (fun u3 => some u3))
  else some (wr_I (wr_I M a0 5 (rd_I M a0 4)) a0 6 (0 : Int32)))
set_option maxRecDepth 10000 in
theorem t_Reader_advance_60 {g : sw_G} {d n0 : Nat} (hd : 7 ≤ d) {r : sw_M} {N : Nat} {a0 : Nat} {M : sw_M} (hf : f_Reader_advance_60 N a0 M = some r) : sw_F g k_Reader_advance d n0 none r 60 [(0, .ref a0)] [] M := by
  unfold f_Reader_advance_60 at hf
  obtain ⟨h1, hf⟩ := sw_gd_1 hf
  refine sf_blk [(.aload_n 0, 0, 0, .null), (.aload_n 0, 0, 0, .null), (.getfield 167, 6, 4, .null), (.putfield 38, 6, 5, .null), (.aload_n 0, 0, 0, .null), (.getfield 167, 6, 4, .null), (.aload_n 0, 0, 0, .null), (.getfield 35, 6, 3, .null)] (lv' := [(0, .ref a0)]) (st' := [.int (rd_I (wr_I M a0 5 (rd_I M a0 4)) a0 3), .int (rd_I (wr_I M a0 5 (rd_I M a0 4)) a0 4)]) (M1 := (wr_I M a0 5 (rd_I M a0 4))) (ob := [sw_ok M a0 6, sw_ok M a0 6, sw_ok (wr_I M a0 5 (rd_I M a0 4)) a0 6, sw_ok (wr_I M a0 5 (rd_I M a0 4)) a0 6]) (pc' := 76) (by decide +kernel) rfl rfl (sw_a1 h1 (sw_a1 h1 (sw_a1 h1 (sw_a1 h1 sw_a0)))) ?_
  refine sf_j_lt (off := 11) (tgt := 87) (by decide +kernel) (by decide) hf (fun hc hf => ?_) (fun hc hf => ?_)
  · obtain ⟨h2, hf⟩ := sw_gd_1 hf
    refine sf_blk [(.aload_n 0, 0, 0, .null), (.getfield 25, 6, 0, .null), (.aload_n 0, 0, 0, .null), (.getfield 167, 6, 4, .null), (.baload, 0, 0, .null), (.bipush (97), 0, 0, .int (97 : Int32))] (lv' := [(0, .ref a0)]) (st' := [.int (97 : Int32), .int (rd_I (wr_I M a0 5 (rd_I M a0 4)) (rd_R (wr_I M a0 5 (rd_I M a0 4)) a0 0) (rd_I (wr_I M a0 5 (rd_I M a0 4)) a0 4).toNatClampNeg)]) (M1 := (wr_I M a0 5 (rd_I M a0 4))) (ob := [sw_ok (wr_I M a0 5 (rd_I M a0 4)) a0 6, sw_ok (wr_I M a0 5 (rd_I M a0 4)) a0 6, sw_ar (wr_I M a0 5 (rd_I M a0 4)) (rd_R (wr_I M a0 5 (rd_I M a0 4)) a0 0) 14 (rd_I (wr_I M a0 5 (rd_I M a0 4)) a0 4) || sw_ar (wr_I M a0 5 (rd_I M a0 4)) (rd_R (wr_I M a0 5 (rd_I M a0 4)) a0 0) 15 (rd_I (wr_I M a0 5 (rd_I M a0 4)) a0 4)]) (pc' := 98) (by decide +kernel) rfl rfl (sw_a1 h1 (sw_a1 h1 (sw_a1 h2 sw_a0))) ?_
    refine sf_j_lt (off := 24) (tgt := 122) (by decide +kernel) (by decide) hf (fun hc hf => ?_) (fun hc hf => ?_)
    · exact sf_weak [0] rfl (t_Reader_advance_122 hd hf)
    · refine sf_blk [(.aload_n 0, 0, 0, .null), (.getfield 25, 6, 0, .null), (.aload_n 0, 0, 0, .null), (.getfield 167, 6, 4, .null), (.baload, 0, 0, .null), (.bipush (122), 0, 0, .int (122 : Int32))] (lv' := [(0, .ref a0)]) (st' := [.int (122 : Int32), .int (rd_I (wr_I M a0 5 (rd_I M a0 4)) (rd_R (wr_I M a0 5 (rd_I M a0 4)) a0 0) (rd_I (wr_I M a0 5 (rd_I M a0 4)) a0 4).toNatClampNeg)]) (M1 := (wr_I M a0 5 (rd_I M a0 4))) (ob := [sw_ok (wr_I M a0 5 (rd_I M a0 4)) a0 6, sw_ok (wr_I M a0 5 (rd_I M a0 4)) a0 6, sw_ar (wr_I M a0 5 (rd_I M a0 4)) (rd_R (wr_I M a0 5 (rd_I M a0 4)) a0 0) 14 (rd_I (wr_I M a0 5 (rd_I M a0 4)) a0 4) || sw_ar (wr_I M a0 5 (rd_I M a0 4)) (rd_R (wr_I M a0 5 (rd_I M a0 4)) a0 0) 15 (rd_I (wr_I M a0 5 (rd_I M a0 4)) a0 4)]) (pc' := 112) (by decide +kernel) rfl rfl (sw_a1 h1 (sw_a1 h1 (sw_a1 h2 sw_a0))) ?_
      refine sf_j_gt (off := 10) (tgt := 122) (by decide +kernel) (by decide) hf (fun hc hf => ?_) (fun hc hf => ?_)
      · exact sf_weak [0] rfl (t_Reader_advance_122 hd hf)
      · refine sf_blk [(.aload_n 0, 0, 0, .null)] (lv' := [(0, .ref a0)]) (st' := [.ref a0]) (M1 := (wr_I M a0 5 (rd_I M a0 4))) (ob := []) (pc' := 116) (by decide +kernel) rfl rfl sw_a0 ?_
        obtain ⟨u3, hu3, hf⟩ := sw_bnd hf
        refine sf_callV (i := 170) (k2 := k_Reader_scanWord) (d2 := d - 1) (As := []) (st := []) (q := a0) (ci := 6) mf_Reader_scanWord mi_Reader_scanWord ms_Reader_scanWord (sw_m3 28 (by decide +kernel)) rfl (by decide) (by decide +kernel) rfl (Nat.le_of_ble_eq_true rfl) (by omega) h1 (o_Reader_scanWord g (d := d - 1) (by omega) hu3) ?_
        show sw_F _ _ _ _ _ _ 119 [(0, .ref a0)] [] u3
        refine sf_goto (off := 79) (tgt := 198) (by decide +kernel) (by decide) ?_
        cases hf
        exact sf_void rfl (by decide +kernel)
  · refine sf_blk [(.aload_n 0, 0, 0, .null), (.iconst (0), 0, 0, .int (0 : Int32)), (.putfield 51, 6, 6, .null)] (lv' := [(0, .ref a0)]) (st' := []) (M1 := (wr_I (wr_I M a0 5 (rd_I M a0 4)) a0 6 (0 : Int32))) (ob := [sw_ok (wr_I M a0 5 (rd_I M a0 4)) a0 6]) (pc' := 84) (by decide +kernel) rfl rfl (sw_a1 h1 sw_a0) ?_
    refine sf_goto (off := 114) (tgt := 198) (by decide +kernel) (by decide) ?_
    cases hf
    exact sf_void rfl (by decide +kernel)
def f_Reader_advance_47 (N : Nat) (k8 : Nat → sw_M → Option (sw_M)) (a0 : Nat) (M : sw_M) : Option (sw_M) :=
  sw_gd [sw_ok M a0 6] (k8 a0 (wr_I M a0 4 ((rd_I M a0 4) + (1 : Int32))))
set_option maxRecDepth 10000 in
theorem t_Reader_advance_47 {g : sw_G} {d n0 : Nat} (hd : 7 ≤ d) {r : sw_M} (k8 : Nat → sw_M → Option (sw_M)) (hk8 : ∀ (a0 : Nat) (M : sw_M), k8 a0 M = some r → sw_F g k_Reader_advance d n0 none r 8 [(0, .ref a0)] [] M) {N : Nat} {a0 : Nat} {M : sw_M} (hf : f_Reader_advance_47 N k8 a0 M = some r) : sw_F g k_Reader_advance d n0 none r 47 [(0, .ref a0)] [] M := by
  unfold f_Reader_advance_47 at hf
  obtain ⟨h1, hf⟩ := sw_gd_1 hf
  refine sf_blk [(.aload_n 0, 0, 0, .null), (.dup, 0, 0, .null), (.getfield 167, 6, 4, .null), (.iconst (1), 0, 0, .int (1 : Int32)), (.iadd, 0, 0, .null), (.putfield 167, 6, 4, .null)] (lv' := [(0, .ref a0)]) (st' := []) (M1 := (wr_I M a0 4 ((rd_I M a0 4) + (1 : Int32)))) (ob := [sw_ok M a0 6, sw_ok M a0 6]) (pc' := 57) (by decide +kernel) rfl rfl (sw_a1 h1 (sw_a1 h1 sw_a0)) ?_
  refine sf_goto (off := -49) (tgt := 8) (by decide +kernel) (by decide) ?_
  exact sf_weak [0] rfl (hk8 _ _ hf)
def f_Reader_advance_8 (N : Nat) : Nat → Nat → sw_M → Option (sw_M)
  | 0, _, _ => none
  | j + 1, a0, M =>
  sw_gd [sw_ok M a0 6] (if (rd_I M a0 3) ≤ (rd_I M a0 4) then f_Reader_advance_60 N a0 M
  else sw_gd [sw_ar M (rd_R M a0 0) 14 (rd_I M a0 4) || sw_ar M (rd_R M a0 0) 15 (rd_I M a0 4)] (if (rd_I M (rd_R M a0 0) (rd_I M a0 4).toNatClampNeg) = (10 : Int32) then f_Reader_advance_47 N (f_Reader_advance_8 N j) a0 M
  else if (rd_I M (rd_R M a0 0) (rd_I M a0 4).toNatClampNeg) = (32 : Int32) then f_Reader_advance_47 N (f_Reader_advance_8 N j) a0 M
  else f_Reader_advance_60 N a0 M))
set_option maxRecDepth 10000 in
theorem t_Reader_advance_8 {g : sw_G} {d n0 : Nat} (hd : 7 ≤ d) {r : sw_M} {N : Nat} : ∀ (j : Nat) (a0 : Nat) (M : sw_M), f_Reader_advance_8 N j a0 M = some r → sw_F g k_Reader_advance d n0 none r 8 [(0, .ref a0)] [] M := by
  intro j
  induction j with
  | zero =>
    intro a0 M hf
    rw [f_Reader_advance_8] at hf
    cases hf
  | succ j ih =>
    intro a0 M hf
    rw [f_Reader_advance_8] at hf
    obtain ⟨h1, hf⟩ := sw_gd_1 hf
    refine sf_blk [(.aload_n 0, 0, 0, .null), (.getfield 167, 6, 4, .null), (.aload_n 0, 0, 0, .null), (.getfield 35, 6, 3, .null)] (lv' := [(0, .ref a0)]) (st' := [.int (rd_I M a0 3), .int (rd_I M a0 4)]) (M1 := M) (ob := [sw_ok M a0 6, sw_ok M a0 6]) (pc' := 16) (by decide +kernel) rfl rfl (sw_a1 h1 (sw_a1 h1 sw_a0)) ?_
    refine sf_j_ge (off := 44) (tgt := 60) (by decide +kernel) (by decide) hf (fun hc hf => ?_) (fun hc hf => ?_)
    · exact sf_weak [0] rfl (t_Reader_advance_60 hd hf)
    · obtain ⟨h2, hf⟩ := sw_gd_1 hf
      refine sf_blk [(.aload_n 0, 0, 0, .null), (.getfield 25, 6, 0, .null), (.aload_n 0, 0, 0, .null), (.getfield 167, 6, 4, .null), (.baload, 0, 0, .null), (.bipush (10), 0, 0, .int (10 : Int32))] (lv' := [(0, .ref a0)]) (st' := [.int (10 : Int32), .int (rd_I M (rd_R M a0 0) (rd_I M a0 4).toNatClampNeg)]) (M1 := M) (ob := [sw_ok M a0 6, sw_ok M a0 6, sw_ar M (rd_R M a0 0) 14 (rd_I M a0 4) || sw_ar M (rd_R M a0 0) 15 (rd_I M a0 4)]) (pc' := 30) (by decide +kernel) rfl rfl (sw_a1 h1 (sw_a1 h1 (sw_a1 h2 sw_a0))) ?_
      refine sf_j_eq (off := 17) (tgt := 47) (by decide +kernel) (by decide) hf (fun hc hf => ?_) (fun hc hf => ?_)
      · exact sf_weak [0] rfl (t_Reader_advance_47 hd _ ih hf)
      · refine sf_blk [(.aload_n 0, 0, 0, .null), (.getfield 25, 6, 0, .null), (.aload_n 0, 0, 0, .null), (.getfield 167, 6, 4, .null), (.baload, 0, 0, .null), (.bipush (32), 0, 0, .int (32 : Int32))] (lv' := [(0, .ref a0)]) (st' := [.int (32 : Int32), .int (rd_I M (rd_R M a0 0) (rd_I M a0 4).toNatClampNeg)]) (M1 := M) (ob := [sw_ok M a0 6, sw_ok M a0 6, sw_ar M (rd_R M a0 0) 14 (rd_I M a0 4) || sw_ar M (rd_R M a0 0) 15 (rd_I M a0 4)]) (pc' := 44) (by decide +kernel) rfl rfl (sw_a1 h1 (sw_a1 h1 (sw_a1 h2 sw_a0))) ?_
        refine sf_j_ne (off := 16) (tgt := 60) (by decide +kernel) (by decide) hf (fun hc hf => ?_) (fun hc hf => ?_)
        · exact sf_weak [0] rfl (t_Reader_advance_60 hd hf)
        · exact sf_weak [0] rfl (t_Reader_advance_47 hd _ ih hf)
def f_Reader_advance (N : Nat) (a0 : Nat) (M : sw_M) : Option (sw_M) :=
  sw_gd [sw_ok M a0 6] (f_Reader_advance_8 N N a0 (wr_I M a0 4 (rd_I M a0 5)))
set_option maxRecDepth 10000 in
theorem t_Reader_advance {g : sw_G} {d n0 : Nat} (hd : 7 ≤ d) {r : sw_M} {N : Nat} {a0 : Nat} {M : sw_M} (hf : f_Reader_advance N a0 M = some r) : sw_F g k_Reader_advance d n0 none r 0 [(0, .ref a0)] [] M := by
  unfold f_Reader_advance at hf
  obtain ⟨h1, hf⟩ := sw_gd_1 hf
  refine sf_blk [(.aload_n 0, 0, 0, .null), (.aload_n 0, 0, 0, .null), (.getfield 38, 6, 5, .null), (.putfield 167, 6, 4, .null)] (lv' := [(0, .ref a0)]) (st' := []) (M1 := (wr_I M a0 4 (rd_I M a0 5))) (ob := [sw_ok M a0 6, sw_ok M a0 6]) (pc' := 8) (by decide +kernel) rfl rfl (sw_a1 h1 (sw_a1 h1 sw_a0)) ?_
  exact sf_weak [0] rfl (t_Reader_advance_8 hd _ _ _ hf)
theorem o_Reader_advance (g : sw_G) {d : Nat} (hd : 7 ≤ d) {N : Nat} {a0 : Nat} {M : sw_M} {r : sw_M} (hf : f_Reader_advance N a0 M = some r) : sw_Ok g k_Reader_advance d [.ref a0] M none r := sf_met (by decide +kernel) rfl (by decide) (Nat.le_of_ble_eq_true rfl) (t_Reader_advance hd hf)
def f_Part_clear (N : Nat) (a0 : Nat) (a1 : Int32) (M : sw_M) : Option (sw_M) :=
  sw_gd [sw_ok M a0 5] (some (wr_I (wr_I (wr_I (wr_I (wr_I (wr_I (wr_I (wr_I (wr_I M a0 0 a1) a0 1 (0 : Int32)) a0 2 (0 : Int32)) a0 3 (0 : Int32)) a0 4 (0 : Int32)) a0 5 (0 : Int32)) a0 6 (1 : Int32)) a0 7 (1 : Int32)) a0 8 (0 : Int32)))
set_option maxRecDepth 10000 in
theorem t_Part_clear {g : sw_G} {d n0 : Nat} (hd : 1 ≤ d) {r : sw_M} {N : Nat} {a0 : Nat} {a1 : Int32} {M : sw_M} (hf : f_Part_clear N a0 a1 M = some r) : sw_F g k_Part_clear d n0 none r 0 [(0, .ref a0), (1, .int a1)] [] M := by
  unfold f_Part_clear at hf
  obtain ⟨h1, hf⟩ := sw_gd_1 hf
  refine sf_blk [(.aload_n 0, 0, 0, .null), (.iload_n 1, 0, 0, .null), (.putfield 9, 5, 0, .null), (.aload_n 0, 0, 0, .null), (.iconst (0), 0, 0, .int (0 : Int32)), (.putfield 15, 5, 1, .null), (.aload_n 0, 0, 0, .null), (.iconst (0), 0, 0, .int (0 : Int32)), (.putfield 18, 5, 2, .null), (.aload_n 0, 0, 0, .null), (.iconst (0), 0, 0, .int (0 : Int32)), (.putfield 21, 5, 3, .null), (.aload_n 0, 0, 0, .null), (.iconst (0), 0, 0, .int (0 : Int32)), (.putfield 24, 5, 4, .null), (.aload_n 0, 0, 0, .null), (.iconst (0), 0, 0, .int (0 : Int32)), (.putfield 27, 5, 5, .null), (.aload_n 0, 0, 0, .null), (.iconst (1), 0, 0, .int (1 : Int32)), (.putfield 30, 5, 6, .null), (.aload_n 0, 0, 0, .null), (.iconst (1), 0, 0, .int (1 : Int32)), (.putfield 33, 5, 7, .null), (.aload_n 0, 0, 0, .null), (.iconst (0), 0, 0, .int (0 : Int32)), (.putfield 36, 5, 8, .null)] (lv' := [(0, .ref a0), (1, .int a1)]) (st' := []) (M1 := (wr_I (wr_I (wr_I (wr_I (wr_I (wr_I (wr_I (wr_I (wr_I M a0 0 a1) a0 1 (0 : Int32)) a0 2 (0 : Int32)) a0 3 (0 : Int32)) a0 4 (0 : Int32)) a0 5 (0 : Int32)) a0 6 (1 : Int32)) a0 7 (1 : Int32)) a0 8 (0 : Int32))) (ob := [sw_ok M a0 5, sw_ok (wr_I M a0 0 a1) a0 5, sw_ok (wr_I (wr_I M a0 0 a1) a0 1 (0 : Int32)) a0 5, sw_ok (wr_I (wr_I (wr_I M a0 0 a1) a0 1 (0 : Int32)) a0 2 (0 : Int32)) a0 5, sw_ok (wr_I (wr_I (wr_I (wr_I M a0 0 a1) a0 1 (0 : Int32)) a0 2 (0 : Int32)) a0 3 (0 : Int32)) a0 5, sw_ok (wr_I (wr_I (wr_I (wr_I (wr_I M a0 0 a1) a0 1 (0 : Int32)) a0 2 (0 : Int32)) a0 3 (0 : Int32)) a0 4 (0 : Int32)) a0 5, sw_ok (wr_I (wr_I (wr_I (wr_I (wr_I (wr_I M a0 0 a1) a0 1 (0 : Int32)) a0 2 (0 : Int32)) a0 3 (0 : Int32)) a0 4 (0 : Int32)) a0 5 (0 : Int32)) a0 5, sw_ok (wr_I (wr_I (wr_I (wr_I (wr_I (wr_I (wr_I M a0 0 a1) a0 1 (0 : Int32)) a0 2 (0 : Int32)) a0 3 (0 : Int32)) a0 4 (0 : Int32)) a0 5 (0 : Int32)) a0 6 (1 : Int32)) a0 5, sw_ok (wr_I (wr_I (wr_I (wr_I (wr_I (wr_I (wr_I (wr_I M a0 0 a1) a0 1 (0 : Int32)) a0 2 (0 : Int32)) a0 3 (0 : Int32)) a0 4 (0 : Int32)) a0 5 (0 : Int32)) a0 6 (1 : Int32)) a0 7 (1 : Int32)) a0 5, sw_bz (0 : Int32)]) (pc' := 45) (by decide +kernel) rfl rfl (sw_a1 h1 (sw_a1 h1 (sw_a1 h1 (sw_a1 h1 (sw_a1 h1 (sw_a1 h1 (sw_a1 h1 (sw_a1 h1 (sw_a1 h1 (sw_a1 rfl sw_a0)))))))))) ?_
  cases hf
  exact sf_void rfl (by decide +kernel)
theorem o_Part_clear (g : sw_G) {d : Nat} (hd : 1 ≤ d) {N : Nat} {a0 : Nat} {a1 : Int32} {M : sw_M} {r : sw_M} (hf : f_Part_clear N a0 a1 M = some r) : sw_Ok g k_Part_clear d [.ref a0, .int a1] M none r := sf_met (by decide +kernel) rfl (by decide) (Nat.le_of_ble_eq_true rfl) (t_Part_clear hd hf)
def f_Field_addPart (N : Nat) (a0 : Nat) (a1 : Int32) (M : sw_M) : Option (Nat × sw_M) :=
  sw_gd [sw_ok M a0 0] (if (rd_I M a0 2) < 0 then some (0, M)
  else sw_gd [sw_oka M (rd_R M a0 0)] (if (rd_I M a0 2) < (nI (sw_len (rd_R M a0 0))) then sw_gd [sw_ar M (rd_R M a0 0) 17 (rd_I M a0 2) || (sw_ar M (rd_R M a0 0) 18 (rd_I M a0 2) || sw_ar M (rd_R M a0 0) 19 (rd_I M a0 2))] (if (rd_R M (rd_R M a0 0) (rd_I M a0 2).toNatClampNeg) = 0 then some ((rd_R M (rd_R M a0 0) (rd_I M a0 2).toNatClampNeg), M)
  else sw_gd [sw_ok M (rd_R M (rd_R M a0 0) (rd_I M a0 2).toNatClampNeg) 5] ((f_Part_clear N (rd_R M (rd_R M a0 0) (rd_I M a0 2).toNatClampNeg) a1 M).bind (fun u5 => sw_gd [sw_ok u5 a0 0] (some ((rd_R M (rd_R M a0 0) (rd_I M a0 2).toNatClampNeg), (wr_I u5 a0 2 ((rd_I u5 a0 2) + (1 : Int32))))))))
  else some (0, M)))
set_option maxRecDepth 10000 in
theorem t_Field_addPart {g : sw_G} {d n0 : Nat} (hd : 2 ≤ d) {r : Nat × sw_M} {N : Nat} {a0 : Nat} {a1 : Int32} {M : sw_M} (hf : f_Field_addPart N a0 a1 M = some r) : sw_F g k_Field_addPart d n0 (some (.ref r.1)) r.2 0 [(0, .ref a0), (1, .int a1)] [] M := by
  unfold f_Field_addPart at hf
  obtain ⟨h1, hf⟩ := sw_gd_1 hf
  refine sf_blk [(.aload_n 0, 0, 0, .null), (.getfield 25, 0, 2, .null)] (lv' := [(0, .ref a0), (1, .int a1)]) (st' := [.int (rd_I M a0 2)]) (M1 := M) (ob := [sw_ok M a0 0]) (pc' := 4) (by decide +kernel) rfl rfl (sw_a1 h1 sw_a0) ?_
  refine sf_z_lt (off := 15) (tgt := 19) (by decide +kernel) (by decide) hf (fun hc hf => ?_) (fun hc hf => ?_)
  · refine sf_blk [(.aconst_null, 0, 0, .null)] (lv' := [(0, .ref a0), (1, .int a1)]) (st' := [.ref 0]) (M1 := M) (ob := []) (pc' := 20) (by decide +kernel) rfl rfl sw_a0 ?_
    cases hf
    exact sf_ref rfl (by decide +kernel)
  · obtain ⟨h2, hf⟩ := sw_gd_1 hf
    refine sf_blk [(.aload_n 0, 0, 0, .null), (.getfield 25, 0, 2, .null), (.aload_n 0, 0, 0, .null), (.getfield 11, 0, 0, .null), (.arraylength, 0, 0, .null)] (lv' := [(0, .ref a0), (1, .int a1)]) (st' := [.int (nI (sw_len (rd_R M a0 0))), .int (rd_I M a0 2)]) (M1 := M) (ob := [sw_ok M a0 0, sw_ok M a0 0, sw_oka M (rd_R M a0 0)]) (pc' := 16) (by decide +kernel) rfl rfl (sw_a1 h1 (sw_a1 h1 (sw_a1 h2 sw_a0))) ?_
    refine sf_j_lt (off := 5) (tgt := 21) (by decide +kernel) (by decide) hf (fun hc hf => ?_) (fun hc hf => ?_)
    · obtain ⟨h3, hf⟩ := sw_gd_1 hf
      refine sf_blk [(.aload_n 0, 0, 0, .null), (.getfield 11, 0, 0, .null), (.aload_n 0, 0, 0, .null), (.getfield 25, 0, 2, .null), (.aaload, 0, 0, .null), (.astore_n 2, 0, 0, .null), (.aload_n 2, 0, 0, .null)] (lv' := [(2, .ref (rd_R M (rd_R M a0 0) (rd_I M a0 2).toNatClampNeg)), (0, .ref a0), (1, .int a1)]) (st' := [.ref (rd_R M (rd_R M a0 0) (rd_I M a0 2).toNatClampNeg)]) (M1 := M) (ob := [sw_ok M a0 0, sw_ok M a0 0, sw_ar M (rd_R M a0 0) 17 (rd_I M a0 2) || (sw_ar M (rd_R M a0 0) 18 (rd_I M a0 2) || sw_ar M (rd_R M a0 0) 19 (rd_I M a0 2))]) (pc' := 32) (by decide +kernel) rfl rfl (sw_a1 h1 (sw_a1 h1 (sw_a1 h3 sw_a0))) ?_
      refine sf_n_null (off := 18) (tgt := 50) (by decide +kernel) (by decide) hf (fun hc hf => ?_) (fun hc hf => ?_)
      · refine sf_blk [(.aload_n 2, 0, 0, .null)] (lv' := [(2, .ref (rd_R M (rd_R M a0 0) (rd_I M a0 2).toNatClampNeg)), (0, .ref a0), (1, .int a1)]) (st' := [.ref (rd_R M (rd_R M a0 0) (rd_I M a0 2).toNatClampNeg)]) (M1 := M) (ob := []) (pc' := 51) (by decide +kernel) rfl rfl sw_a0 ?_
        cases hf
        exact sf_ref rfl (by decide +kernel)
      · obtain ⟨h4, hf⟩ := sw_gd_1 hf
        refine sf_blk [(.aload_n 2, 0, 0, .null), (.iload_n 1, 0, 0, .null)] (lv' := [(2, .ref (rd_R M (rd_R M a0 0) (rd_I M a0 2).toNatClampNeg)), (0, .ref a0), (1, .int a1)]) (st' := [.int a1, .ref (rd_R M (rd_R M a0 0) (rd_I M a0 2).toNatClampNeg)]) (M1 := M) (ob := []) (pc' := 37) (by decide +kernel) rfl rfl sw_a0 ?_
        obtain ⟨u5, hu5, hf⟩ := sw_bnd hf
        refine sf_callV (i := 41) (k2 := k_Part_clear) (d2 := d - 1) (As := [.int a1]) (st := []) (q := (rd_R M (rd_R M a0 0) (rd_I M a0 2).toNatClampNeg)) (ci := 5) mf_Part_clear mi_Part_clear ms_Part_clear (sw_m3 98 (by decide +kernel)) rfl (by decide) (by decide +kernel) rfl (Nat.le_of_ble_eq_true rfl) (by omega) h4 (o_Part_clear g (d := d - 1) (by omega) hu5) ?_
        show sw_F _ _ _ _ _ _ 40 [(2, .ref (rd_R M (rd_R M a0 0) (rd_I M a0 2).toNatClampNeg)), (0, .ref a0), (1, .int a1)] [] u5
        obtain ⟨h6, hf⟩ := sw_gd_1 hf
        refine sf_blk [(.aload_n 0, 0, 0, .null), (.dup, 0, 0, .null), (.getfield 25, 0, 2, .null), (.iconst (1), 0, 0, .int (1 : Int32)), (.iadd, 0, 0, .null), (.putfield 25, 0, 2, .null), (.aload_n 2, 0, 0, .null)] (lv' := [(2, .ref (rd_R M (rd_R M a0 0) (rd_I M a0 2).toNatClampNeg)), (0, .ref a0), (1, .int a1)]) (st' := [.ref (rd_R M (rd_R M a0 0) (rd_I M a0 2).toNatClampNeg)]) (M1 := (wr_I u5 a0 2 ((rd_I u5 a0 2) + (1 : Int32)))) (ob := [sw_ok u5 a0 0, sw_ok u5 a0 0]) (pc' := 51) (by decide +kernel) rfl rfl (sw_a1 h6 (sw_a1 h6 sw_a0)) ?_
        cases hf
        exact sf_ref rfl (by decide +kernel)
    · refine sf_blk [(.aconst_null, 0, 0, .null)] (lv' := [(0, .ref a0), (1, .int a1)]) (st' := [.ref 0]) (M1 := M) (ob := []) (pc' := 20) (by decide +kernel) rfl rfl sw_a0 ?_
      cases hf
      exact sf_ref rfl (by decide +kernel)
theorem o_Field_addPart (g : sw_G) {d : Nat} (hd : 2 ≤ d) {N : Nat} {a0 : Nat} {a1 : Int32} {M : sw_M} {r : Nat × sw_M} (hf : f_Field_addPart N a0 a1 M = some r) : sw_Ok g k_Field_addPart d [.ref a0, .int a1] M (some (.ref r.1)) r.2 := sf_met (by decide +kernel) rfl (by decide) (Nat.le_of_ble_eq_true rfl) (t_Field_addPart hd hf)
def f_Reader_wrong (N : Nat) (a0 : Nat) (a1 : Int32) (M : sw_M) : Option (Int32 × sw_M) :=
  sw_gd [sw_ok M a0 6] (some ((0 : Int32), (wr_I (wr_I M a0 9 a1) a0 10 (rd_I (wr_I M a0 9 a1) a0 4))))
set_option maxRecDepth 10000 in
theorem t_Reader_wrong {g : sw_G} {d n0 : Nat} (hd : 1 ≤ d) {r : Int32 × sw_M} {N : Nat} {a0 : Nat} {a1 : Int32} {M : sw_M} (hf : f_Reader_wrong N a0 a1 M = some r) : sw_F g k_Reader_wrong d n0 (some (.int r.1)) r.2 0 [(0, .ref a0), (1, .int a1)] [] M := by
  unfold f_Reader_wrong at hf
  obtain ⟨h1, hf⟩ := sw_gd_1 hf
  refine sf_blk [(.aload_n 0, 0, 0, .null), (.iload_n 1, 0, 0, .null), (.putfield 18, 6, 9, .null), (.aload_n 0, 0, 0, .null), (.aload_n 0, 0, 0, .null), (.getfield 167, 6, 4, .null), (.putfield 22, 6, 10, .null), (.iconst (0), 0, 0, .int (0 : Int32))] (lv' := [(0, .ref a0), (1, .int a1)]) (st' := [.int (0 : Int32)]) (M1 := (wr_I (wr_I M a0 9 a1) a0 10 (rd_I (wr_I M a0 9 a1) a0 4))) (ob := [sw_ok M a0 6, sw_ok (wr_I M a0 9 a1) a0 6, sw_ok (wr_I M a0 9 a1) a0 6]) (pc' := 14) (by decide +kernel) rfl rfl (sw_a1 h1 (sw_a1 h1 (sw_a1 h1 sw_a0))) ?_
  cases hf
  exact sf_bool rfl rfl (by decide +kernel)
theorem o_Reader_wrong (g : sw_G) {d : Nat} (hd : 1 ≤ d) {N : Nat} {a0 : Nat} {a1 : Int32} {M : sw_M} {r : Int32 × sw_M} (hf : f_Reader_wrong N a0 a1 M = some r) : sw_Ok g k_Reader_wrong d [.ref a0, .int a1] M (some (.int r.1)) r.2 := sf_met (by decide +kernel) rfl (by decide) (Nat.le_of_ble_eq_true rfl) (t_Reader_wrong hd hf)
def f_Reader_number_30 (N : Nat) (a0 : Nat) (M : sw_M) : Option (Int32 × sw_M) :=
  sw_gd [sw_ok M a0 6] ((f_Reader_wrong N a0 (2 : Int32) M).bind (fun u2 => sw_gd [sw_bz u2.1] (some (u2.1, u2.2))))
set_option maxRecDepth 10000 in
theorem t_Reader_number_30 {g : sw_G} {d n0 : Nat} (hd : 8 ≤ d) {r : Int32 × sw_M} {N : Nat} {a0 : Nat} {M : sw_M} (hf : f_Reader_number_30 N a0 M = some r) : sw_F g k_Reader_number d n0 (some (.int r.1)) r.2 30 [(0, .ref a0)] [] M := by
  unfold f_Reader_number_30 at hf
  obtain ⟨h1, hf⟩ := sw_gd_1 hf
  refine sf_blk [(.aload_n 0, 0, 0, .null), (.iconst (2), 0, 0, .int (2 : Int32))] (lv' := [(0, .ref a0)]) (st' := [.int (2 : Int32), .ref a0]) (M1 := M) (ob := []) (pc' := 32) (by decide +kernel) rfl rfl sw_a0 ?_
  obtain ⟨u2, hu2, hf⟩ := sw_bnd hf
  refine sf_callV (i := 62) (k2 := k_Reader_wrong) (d2 := d - 1) (As := [.int (2 : Int32)]) (st := []) (q := a0) (ci := 6) mf_Reader_wrong mi_Reader_wrong ms_Reader_wrong (sw_m3 102 (by decide +kernel)) rfl (by decide) (by decide +kernel) rfl (Nat.le_of_ble_eq_true rfl) (by omega) h1 (o_Reader_wrong g (d := d - 1) (by omega) hu2) ?_
  show sw_F _ _ _ _ _ _ 35 [(0, .ref a0)] [.int u2.1] u2.2
  obtain ⟨h3, hf⟩ := sw_gd_1 hf
  cases hf
  exact sf_bool rfl h3 (by decide +kernel)
def f_Reader_number (N : Nat) (a0 : Nat) (a1 : Int32) (a2 : Int32) (M : sw_M) : Option (Int32 × sw_M) :=
  sw_gd [sw_ok M a0 6] (if (rd_I M a0 6) = (2 : Int32) then if (rd_I M a0 7) < a1 then f_Reader_number_30 N a0 M
  else if (rd_I M a0 7) ≤ a2 then (f_Reader_advance N a0 (wr_I M a0 8 (rd_I M a0 7))).bind (fun u2 => some ((1 : Int32), u2))
  else f_Reader_number_30 N a0 M
  else (f_Reader_wrong N a0 (1 : Int32) M).bind (fun u3 => sw_gd [sw_bz u3.1] (some (u3.1, u3.2))))
set_option maxRecDepth 10000 in
theorem t_Reader_number {g : sw_G} {d n0 : Nat} (hd : 8 ≤ d) {r : Int32 × sw_M} {N : Nat} {a0 : Nat} {a1 : Int32} {a2 : Int32} {M : sw_M} (hf : f_Reader_number N a0 a1 a2 M = some r) : sw_F g k_Reader_number d n0 (some (.int r.1)) r.2 0 [(0, .ref a0), (1, .int a1), (2, .int a2)] [] M := by
  unfold f_Reader_number at hf
  obtain ⟨h1, hf⟩ := sw_gd_1 hf
  refine sf_blk [(.aload_n 0, 0, 0, .null), (.getfield 51, 6, 6, .null), (.iconst (2), 0, 0, .int (2 : Int32))] (lv' := [(0, .ref a0), (1, .int a1), (2, .int a2)]) (st' := [.int (2 : Int32), .int (rd_I M a0 6)]) (M1 := M) (ob := [sw_ok M a0 6]) (pc' := 5) (by decide +kernel) rfl rfl (sw_a1 h1 sw_a0) ?_
  refine sf_j_eq (off := 9) (tgt := 14) (by decide +kernel) (by decide) hf (fun hc hf => ?_) (fun hc hf => ?_)
  · refine sf_blk [(.aload_n 0, 0, 0, .null), (.getfield 125, 6, 7, .null), (.iload_n 1, 0, 0, .null)] (lv' := [(0, .ref a0), (1, .int a1), (2, .int a2)]) (st' := [.int a1, .int (rd_I M a0 7)]) (M1 := M) (ob := [sw_ok M a0 6]) (pc' := 19) (by decide +kernel) rfl rfl (sw_a1 h1 sw_a0) ?_
    refine sf_j_lt (off := 11) (tgt := 30) (by decide +kernel) (by decide) hf (fun hc hf => ?_) (fun hc hf => ?_)
    · exact sf_weak [0] rfl (t_Reader_number_30 hd hf)
    · refine sf_blk [(.aload_n 0, 0, 0, .null), (.getfield 125, 6, 7, .null), (.iload_n 2, 0, 0, .null)] (lv' := [(0, .ref a0), (1, .int a1), (2, .int a2)]) (st' := [.int a2, .int (rd_I M a0 7)]) (M1 := M) (ob := [sw_ok M a0 6]) (pc' := 27) (by decide +kernel) rfl rfl (sw_a1 h1 sw_a0) ?_
      refine sf_j_le (off := 9) (tgt := 36) (by decide +kernel) (by decide) hf (fun hc hf => ?_) (fun hc hf => ?_)
      · refine sf_blk [(.aload_n 0, 0, 0, .null), (.aload_n 0, 0, 0, .null), (.getfield 125, 6, 7, .null), (.putfield 84, 6, 8, .null), (.aload_n 0, 0, 0, .null)] (lv' := [(0, .ref a0), (1, .int a1), (2, .int a2)]) (st' := [.ref a0]) (M1 := (wr_I M a0 8 (rd_I M a0 7))) (ob := [sw_ok M a0 6, sw_ok M a0 6]) (pc' := 45) (by decide +kernel) rfl rfl (sw_a1 h1 (sw_a1 h1 sw_a0)) ?_
        obtain ⟨u2, hu2, hf⟩ := sw_bnd hf
        refine sf_callV (i := 48) (k2 := k_Reader_advance) (d2 := d - 1) (As := []) (st := []) (q := a0) (ci := 6) mf_Reader_advance mi_Reader_advance ms_Reader_advance (sw_m3 24 (by decide +kernel)) rfl (by decide) (by decide +kernel) rfl (Nat.le_of_ble_eq_true rfl) (by omega) h1 (o_Reader_advance g (d := d - 1) (by omega) hu2) ?_
        show sw_F _ _ _ _ _ _ 48 [(0, .ref a0), (1, .int a1), (2, .int a2)] [] u2
        refine sf_blk [(.iconst (1), 0, 0, .int (1 : Int32))] (lv' := [(0, .ref a0), (1, .int a1), (2, .int a2)]) (st' := [.int (1 : Int32)]) (M1 := u2) (ob := []) (pc' := 49) (by decide +kernel) rfl rfl sw_a0 ?_
        cases hf
        exact sf_bool rfl rfl (by decide +kernel)
      · exact sf_weak [0] rfl (t_Reader_number_30 hd hf)
  · refine sf_blk [(.aload_n 0, 0, 0, .null), (.iconst (1), 0, 0, .int (1 : Int32))] (lv' := [(0, .ref a0), (1, .int a1), (2, .int a2)]) (st' := [.int (1 : Int32), .ref a0]) (M1 := M) (ob := []) (pc' := 10) (by decide +kernel) rfl rfl sw_a0 ?_
    obtain ⟨u3, hu3, hf⟩ := sw_bnd hf
    refine sf_callV (i := 62) (k2 := k_Reader_wrong) (d2 := d - 1) (As := [.int (1 : Int32)]) (st := []) (q := a0) (ci := 6) mf_Reader_wrong mi_Reader_wrong ms_Reader_wrong (sw_m3 102 (by decide +kernel)) rfl (by decide) (by decide +kernel) rfl (Nat.le_of_ble_eq_true rfl) (by omega) h1 (o_Reader_wrong g (d := d - 1) (by omega) hu3) ?_
    show sw_F _ _ _ _ _ _ 13 [(0, .ref a0), (1, .int a1), (2, .int a2)] [.int u3.1] u3.2
    obtain ⟨h4, hf⟩ := sw_gd_1 hf
    cases hf
    exact sf_bool rfl h4 (by decide +kernel)
theorem o_Reader_number (g : sw_G) {d : Nat} (hd : 8 ≤ d) {N : Nat} {a0 : Nat} {a1 : Int32} {a2 : Int32} {M : sw_M} {r : Int32 × sw_M} (hf : f_Reader_number N a0 a1 a2 M = some r) : sw_Ok g k_Reader_number d [.ref a0, .int a1, .int a2] M (some (.int r.1)) r.2 := sf_met (by decide +kernel) rfl (by decide) (Nat.le_of_ble_eq_true rfl) (t_Reader_number hd hf)
def f_Reader_signed_23 (N : Nat) (a0 : Nat) (a1 : Int32) (a2 : Int32) (M : sw_M) : Option (Int32 × sw_M) :=
  sw_gd [sw_ok M a0 6] ((f_Reader_number N a0 (0 : Int32) a1 M).bind (fun u2 => if u2.1 = 0 then some ((0 : Int32), u2.2)
  else if a2 = 0 then sw_gd [sw_ok u2.2 a0 6] (some ((1 : Int32), (wr_I u2.2 a0 8 (rd_I u2.2 a0 8))))
  else sw_gd [sw_ok u2.2 a0 6] (some ((1 : Int32), (wr_I u2.2 a0 8 (-(rd_I u2.2 a0 8)))))))
set_option maxRecDepth 10000 in
theorem t_Reader_signed_23 {g : sw_G} {d n0 : Nat} (hd : 9 ≤ d) {r : Int32 × sw_M} {N : Nat} {a0 : Nat} {a1 : Int32} {a2 : Int32} {M : sw_M} (hf : f_Reader_signed_23 N a0 a1 a2 M = some r) : sw_F g k_Reader_signed d n0 (some (.int r.1)) r.2 23 [(0, .ref a0), (1, .int a1), (2, .int a2)] [] M := by
  unfold f_Reader_signed_23 at hf
  obtain ⟨h1, hf⟩ := sw_gd_1 hf
  refine sf_blk [(.aload_n 0, 0, 0, .null), (.iconst (0), 0, 0, .int (0 : Int32)), (.iload_n 1, 0, 0, .null)] (lv' := [(0, .ref a0), (1, .int a1), (2, .int a2)]) (st' := [.int a1, .int (0 : Int32), .ref a0]) (M1 := M) (ob := []) (pc' := 26) (by decide +kernel) rfl rfl sw_a0 ?_
  obtain ⟨u2, hu2, hf⟩ := sw_bnd hf
  refine sf_callV (i := 80) (k2 := k_Reader_number) (d2 := d - 1) (As := [.int (0 : Int32), .int a1]) (st := []) (q := a0) (ci := 6) mf_Reader_number mi_Reader_number ms_Reader_number (sw_m3 114 (by decide +kernel)) rfl (by decide) (by decide +kernel) rfl (Nat.le_of_ble_eq_true rfl) (by omega) h1 (o_Reader_number g (d := d - 1) (by omega) hu2) ?_
  show sw_F _ _ _ _ _ _ 29 [(0, .ref a0), (1, .int a1), (2, .int a2)] [.int u2.1] u2.2
  refine sf_z_ne (off := 5) (tgt := 34) (by decide +kernel) (by decide) hf (fun hc hf => ?_) (fun hc hf => ?_)
  · refine sf_blk [(.aload_n 0, 0, 0, .null), (.iload_n 2, 0, 0, .null)] (lv' := [(0, .ref a0), (1, .int a1), (2, .int a2)]) (st' := [.int a2, .ref a0]) (M1 := u2.2) (ob := []) (pc' := 36) (by decide +kernel) rfl rfl sw_a0 ?_
    refine sf_z_eq (off := 11) (tgt := 47) (by decide +kernel) (by decide) hf (fun hc hf => ?_) (fun hc hf => ?_)
    · obtain ⟨h3, hf⟩ := sw_gd_1 hf
      refine sf_blk [(.aload_n 0, 0, 0, .null), (.getfield 84, 6, 8, .null), (.putfield 84, 6, 8, .null), (.iconst (1), 0, 0, .int (1 : Int32))] (lv' := [(0, .ref a0), (1, .int a1), (2, .int a2)]) (st' := [.int (1 : Int32)]) (M1 := (wr_I u2.2 a0 8 (rd_I u2.2 a0 8))) (ob := [sw_ok u2.2 a0 6, sw_ok u2.2 a0 6]) (pc' := 55) (by decide +kernel) rfl rfl (sw_a1 h3 (sw_a1 h3 sw_a0)) ?_
      cases hf
      exact sf_bool rfl rfl (by decide +kernel)
    · obtain ⟨h4, hf⟩ := sw_gd_1 hf
      refine sf_blk [(.aload_n 0, 0, 0, .null), (.getfield 84, 6, 8, .null), (.ineg, 0, 0, .null)] (lv' := [(0, .ref a0), (1, .int a1), (2, .int a2)]) (st' := [.int (-(rd_I u2.2 a0 8)), .ref a0]) (M1 := u2.2) (ob := [sw_ok u2.2 a0 6]) (pc' := 44) (by decide +kernel) rfl rfl (sw_a1 h4 sw_a0) ?_
      refine sf_goto (off := 7) (tgt := 51) (by decide +kernel) (by decide) ?_
      refine sf_blk [(.putfield 84, 6, 8, .null), (.iconst (1), 0, 0, .int (1 : Int32))] (lv' := [(0, .ref a0), (1, .int a1), (2, .int a2)]) (st' := [.int (1 : Int32)]) (M1 := (wr_I u2.2 a0 8 (-(rd_I u2.2 a0 8)))) (ob := [sw_ok u2.2 a0 6]) (pc' := 55) (by decide +kernel) rfl rfl (sw_a1 h4 sw_a0) ?_
      cases hf
      exact sf_bool rfl rfl (by decide +kernel)
  · refine sf_blk [(.iconst (0), 0, 0, .int (0 : Int32))] (lv' := [(0, .ref a0), (1, .int a1), (2, .int a2)]) (st' := [.int (0 : Int32)]) (M1 := u2.2) (ob := []) (pc' := 33) (by decide +kernel) rfl rfl sw_a0 ?_
    cases hf
    exact sf_bool rfl rfl (by decide +kernel)
def f_Reader_signed_14 (N : Nat) (a0 : Nat) (a1 : Int32) (b0 : Int32) (M : sw_M) : Option (Int32 × sw_M) :=
  if b0 = 0 then f_Reader_signed_23 N a0 a1 b0 M
  else sw_gd [sw_ok M a0 6] ((f_Reader_advance N a0 M).bind (fun u2 => f_Reader_signed_23 N a0 a1 b0 u2))
set_option maxRecDepth 10000 in
theorem t_Reader_signed_14 {g : sw_G} {d n0 : Nat} (hd : 9 ≤ d) {r : Int32 × sw_M} {N : Nat} {a0 : Nat} {a1 : Int32} {b0 : Int32} {M : sw_M} (hf : f_Reader_signed_14 N a0 a1 b0 M = some r) : sw_F g k_Reader_signed d n0 (some (.int r.1)) r.2 14 [(0, .ref a0), (1, .int a1)] [.int b0] M := by
  unfold f_Reader_signed_14 at hf
  refine sf_blk [(.istore_n 2, 0, 0, .null), (.iload_n 2, 0, 0, .null)] (lv' := [(2, .int b0), (0, .ref a0), (1, .int a1)]) (st' := [.int b0]) (M1 := M) (ob := []) (pc' := 16) (by decide +kernel) rfl rfl sw_a0 ?_
  refine sf_z_eq (off := 7) (tgt := 23) (by decide +kernel) (by decide) hf (fun hc hf => ?_) (fun hc hf => ?_)
  · exact sf_weak [1, 2, 0] rfl (t_Reader_signed_23 hd hf)
  · obtain ⟨h1, hf⟩ := sw_gd_1 hf
    refine sf_blk [(.aload_n 0, 0, 0, .null)] (lv' := [(2, .int b0), (0, .ref a0), (1, .int a1)]) (st' := [.ref a0]) (M1 := M) (ob := []) (pc' := 20) (by decide +kernel) rfl rfl sw_a0 ?_
    obtain ⟨u2, hu2, hf⟩ := sw_bnd hf
    refine sf_callV (i := 48) (k2 := k_Reader_advance) (d2 := d - 1) (As := []) (st := []) (q := a0) (ci := 6) mf_Reader_advance mi_Reader_advance ms_Reader_advance (sw_m3 24 (by decide +kernel)) rfl (by decide) (by decide +kernel) rfl (Nat.le_of_ble_eq_true rfl) (by omega) h1 (o_Reader_advance g (d := d - 1) (by omega) hu2) ?_
    show sw_F _ _ _ _ _ _ 23 [(2, .int b0), (0, .ref a0), (1, .int a1)] [] u2
    exact sf_weak [1, 2, 0] rfl (t_Reader_signed_23 hd hf)
def f_Reader_signed (N : Nat) (a0 : Nat) (a1 : Int32) (M : sw_M) : Option (Int32 × sw_M) :=
  sw_gd [sw_ok M a0 6] (if (rd_I M a0 6) = (8 : Int32) then f_Reader_signed_14 N a0 a1 (1 : Int32) M
  else f_Reader_signed_14 N a0 a1 (0 : Int32) M)
set_option maxRecDepth 10000 in
theorem t_Reader_signed {g : sw_G} {d n0 : Nat} (hd : 9 ≤ d) {r : Int32 × sw_M} {N : Nat} {a0 : Nat} {a1 : Int32} {M : sw_M} (hf : f_Reader_signed N a0 a1 M = some r) : sw_F g k_Reader_signed d n0 (some (.int r.1)) r.2 0 [(0, .ref a0), (1, .int a1)] [] M := by
  unfold f_Reader_signed at hf
  obtain ⟨h1, hf⟩ := sw_gd_1 hf
  refine sf_blk [(.aload_n 0, 0, 0, .null), (.getfield 51, 6, 6, .null), (.bipush (8), 0, 0, .int (8 : Int32))] (lv' := [(0, .ref a0), (1, .int a1)]) (st' := [.int (8 : Int32), .int (rd_I M a0 6)]) (M1 := M) (ob := [sw_ok M a0 6]) (pc' := 6) (by decide +kernel) rfl rfl (sw_a1 h1 sw_a0) ?_
  refine sf_j_ne (off := 7) (tgt := 13) (by decide +kernel) (by decide) hf (fun hc hf => ?_) (fun hc hf => ?_)
  · refine sf_blk [(.iconst (0), 0, 0, .int (0 : Int32))] (lv' := [(0, .ref a0), (1, .int a1)]) (st' := [.int (0 : Int32)]) (M1 := M) (ob := []) (pc' := 14) (by decide +kernel) rfl rfl sw_a0 ?_
    exact sf_weak [0, 1] rfl (t_Reader_signed_14 hd hf)
  · refine sf_blk [(.iconst (1), 0, 0, .int (1 : Int32))] (lv' := [(0, .ref a0), (1, .int a1)]) (st' := [.int (1 : Int32)]) (M1 := M) (ob := []) (pc' := 10) (by decide +kernel) rfl rfl sw_a0 ?_
    refine sf_goto (off := 4) (tgt := 14) (by decide +kernel) (by decide) ?_
    exact sf_weak [0, 1] rfl (t_Reader_signed_14 hd hf)
theorem o_Reader_signed (g : sw_G) {d : Nat} (hd : 9 ≤ d) {N : Nat} {a0 : Nat} {a1 : Int32} {M : sw_M} {r : Int32 × sw_M} (hf : f_Reader_signed N a0 a1 M = some r) : sw_Ok g k_Reader_signed d [.ref a0, .int a1] M (some (.int r.1)) r.2 := sf_met (by decide +kernel) rfl (by decide) (Nat.le_of_ble_eq_true rfl) (t_Reader_signed hd hf)
def f_Reader_spot (N : Nat) (a0 : Nat) (a1 : Nat) (M : sw_M) : Option (Int32 × sw_M) :=
  sw_gd [sw_ok M a0 6] ((f_Reader_signed N a0 (9999 : Int32) M).bind (fun u2 => if u2.1 = 0 then some ((0 : Int32), u2.2)
  else sw_gd [sw_ok u2.2 a0 6] (sw_gd [sw_ok u2.2 a1 5] ((f_Reader_signed N a0 (9999 : Int32) (wr_I u2.2 a1 1 (rd_I u2.2 a0 8))).bind (fun u5 => if u5.1 = 0 then some ((0 : Int32), u5.2)
  else sw_gd [sw_ok u5.2 a0 6] (sw_gd [sw_ok u5.2 a1 5] (some ((1 : Int32), (wr_I u5.2 a1 2 (rd_I u5.2 a0 8))))))))))
set_option maxRecDepth 10000 in
theorem t_Reader_spot {g : sw_G} {d n0 : Nat} (hd : 10 ≤ d) {r : Int32 × sw_M} {N : Nat} {a0 : Nat} {a1 : Nat} {M : sw_M} (hf : f_Reader_spot N a0 a1 M = some r) : sw_F g k_Reader_spot d n0 (some (.int r.1)) r.2 0 [(0, .ref a0), (1, .ref a1)] [] M := by
  unfold f_Reader_spot at hf
  obtain ⟨h1, hf⟩ := sw_gd_1 hf
  refine sf_blk [(.aload_n 0, 0, 0, .null), (.sipush (9999), 0, 0, .int (9999 : Int32))] (lv' := [(0, .ref a0), (1, .ref a1)]) (st' := [.int (9999 : Int32), .ref a0]) (M1 := M) (ob := []) (pc' := 4) (by decide +kernel) rfl rfl sw_a0 ?_
  obtain ⟨u2, hu2, hf⟩ := sw_bnd hf
  refine sf_callV (i := 101) (k2 := k_Reader_signed) (d2 := d - 1) (As := [.int (9999 : Int32)]) (st := []) (q := a0) (ci := 6) mf_Reader_signed mi_Reader_signed ms_Reader_signed (sw_m3 110 (by decide +kernel)) rfl (by decide) (by decide +kernel) rfl (Nat.le_of_ble_eq_true rfl) (by omega) h1 (o_Reader_signed g (d := d - 1) (by omega) hu2) ?_
  show sw_F _ _ _ _ _ _ 7 [(0, .ref a0), (1, .ref a1)] [.int u2.1] u2.2
  refine sf_z_ne (off := 5) (tgt := 12) (by decide +kernel) (by decide) hf (fun hc hf => ?_) (fun hc hf => ?_)
  · obtain ⟨h3, hf⟩ := sw_gd_1 hf
    obtain ⟨h4, hf⟩ := sw_gd_1 hf
    refine sf_blk [(.aload_n 1, 0, 0, .null), (.aload_n 0, 0, 0, .null), (.getfield 84, 6, 8, .null), (.putfield 104, 5, 1, .null), (.aload_n 0, 0, 0, .null), (.sipush (9999), 0, 0, .int (9999 : Int32))] (lv' := [(0, .ref a0), (1, .ref a1)]) (st' := [.int (9999 : Int32), .ref a0]) (M1 := (wr_I u2.2 a1 1 (rd_I u2.2 a0 8))) (ob := [sw_ok u2.2 a0 6, sw_ok u2.2 a1 5]) (pc' := 24) (by decide +kernel) rfl rfl (sw_a1 h3 (sw_a1 h4 sw_a0)) ?_
    obtain ⟨u5, hu5, hf⟩ := sw_bnd hf
    refine sf_callV (i := 101) (k2 := k_Reader_signed) (d2 := d - 1) (As := [.int (9999 : Int32)]) (st := []) (q := a0) (ci := 6) mf_Reader_signed mi_Reader_signed ms_Reader_signed (sw_m3 110 (by decide +kernel)) rfl (by decide) (by decide +kernel) rfl (Nat.le_of_ble_eq_true rfl) (by omega) h3 (o_Reader_signed g (d := d - 1) (by omega) hu5) ?_
    show sw_F _ _ _ _ _ _ 27 [(0, .ref a0), (1, .ref a1)] [.int u5.1] u5.2
    refine sf_z_ne (off := 5) (tgt := 32) (by decide +kernel) (by decide) hf (fun hc hf => ?_) (fun hc hf => ?_)
    · obtain ⟨h6, hf⟩ := sw_gd_1 hf
      obtain ⟨h7, hf⟩ := sw_gd_1 hf
      refine sf_blk [(.aload_n 1, 0, 0, .null), (.aload_n 0, 0, 0, .null), (.getfield 84, 6, 8, .null), (.putfield 107, 5, 2, .null), (.iconst (1), 0, 0, .int (1 : Int32))] (lv' := [(0, .ref a0), (1, .ref a1)]) (st' := [.int (1 : Int32)]) (M1 := (wr_I u5.2 a1 2 (rd_I u5.2 a0 8))) (ob := [sw_ok u5.2 a0 6, sw_ok u5.2 a1 5]) (pc' := 41) (by decide +kernel) rfl rfl (sw_a1 h6 (sw_a1 h7 sw_a0)) ?_
      cases hf
      exact sf_bool rfl rfl (by decide +kernel)
    · refine sf_blk [(.iconst (0), 0, 0, .int (0 : Int32))] (lv' := [(0, .ref a0), (1, .ref a1)]) (st' := [.int (0 : Int32)]) (M1 := u5.2) (ob := []) (pc' := 31) (by decide +kernel) rfl rfl sw_a0 ?_
      cases hf
      exact sf_bool rfl rfl (by decide +kernel)
  · refine sf_blk [(.iconst (0), 0, 0, .int (0 : Int32))] (lv' := [(0, .ref a0), (1, .ref a1)]) (st' := [.int (0 : Int32)]) (M1 := u2.2) (ob := []) (pc' := 11) (by decide +kernel) rfl rfl sw_a0 ?_
    cases hf
    exact sf_bool rfl rfl (by decide +kernel)
theorem o_Reader_spot (g : sw_G) {d : Nat} (hd : 10 ≤ d) {N : Nat} {a0 : Nat} {a1 : Nat} {M : sw_M} {r : Int32 × sw_M} (hf : f_Reader_spot N a0 a1 M = some r) : sw_Ok g k_Reader_spot d [.ref a0, .ref a1] M (some (.int r.1)) r.2 := sf_met (by decide +kernel) rfl (by decide) (Nat.le_of_ble_eq_true rfl) (t_Reader_spot hd hf)
def f_Reader_speed (N : Nat) (a0 : Nat) (a1 : Nat) (M : sw_M) : Option (Int32 × sw_M) :=
  sw_gd [sw_ok M a0 6] ((f_Reader_signed N a0 (99 : Int32) M).bind (fun u2 => if u2.1 = 0 then some ((0 : Int32), u2.2)
  else sw_gd [sw_ok u2.2 a0 6] (sw_gd [sw_ok u2.2 a1 5] ((f_Reader_signed N a0 (99 : Int32) (wr_I u2.2 a1 3 (rd_I u2.2 a0 8))).bind (fun u5 => if u5.1 = 0 then some ((0 : Int32), u5.2)
  else sw_gd [sw_ok u5.2 a0 6] (sw_gd [sw_ok u5.2 a1 5] (some ((1 : Int32), (wr_I u5.2 a1 4 (rd_I u5.2 a0 8))))))))))
set_option maxRecDepth 10000 in
theorem t_Reader_speed {g : sw_G} {d n0 : Nat} (hd : 10 ≤ d) {r : Int32 × sw_M} {N : Nat} {a0 : Nat} {a1 : Nat} {M : sw_M} (hf : f_Reader_speed N a0 a1 M = some r) : sw_F g k_Reader_speed d n0 (some (.int r.1)) r.2 0 [(0, .ref a0), (1, .ref a1)] [] M := by
  unfold f_Reader_speed at hf
  obtain ⟨h1, hf⟩ := sw_gd_1 hf
  refine sf_blk [(.aload_n 0, 0, 0, .null), (.bipush (99), 0, 0, .int (99 : Int32))] (lv' := [(0, .ref a0), (1, .ref a1)]) (st' := [.int (99 : Int32), .ref a0]) (M1 := M) (ob := []) (pc' := 3) (by decide +kernel) rfl rfl sw_a0 ?_
  obtain ⟨u2, hu2, hf⟩ := sw_bnd hf
  refine sf_callV (i := 101) (k2 := k_Reader_signed) (d2 := d - 1) (As := [.int (99 : Int32)]) (st := []) (q := a0) (ci := 6) mf_Reader_signed mi_Reader_signed ms_Reader_signed (sw_m3 110 (by decide +kernel)) rfl (by decide) (by decide +kernel) rfl (Nat.le_of_ble_eq_true rfl) (by omega) h1 (o_Reader_signed g (d := d - 1) (by omega) hu2) ?_
  show sw_F _ _ _ _ _ _ 6 [(0, .ref a0), (1, .ref a1)] [.int u2.1] u2.2
  refine sf_z_ne (off := 5) (tgt := 11) (by decide +kernel) (by decide) hf (fun hc hf => ?_) (fun hc hf => ?_)
  · obtain ⟨h3, hf⟩ := sw_gd_1 hf
    obtain ⟨h4, hf⟩ := sw_gd_1 hf
    refine sf_blk [(.aload_n 1, 0, 0, .null), (.aload_n 0, 0, 0, .null), (.getfield 84, 6, 8, .null), (.putfield 110, 5, 3, .null), (.aload_n 0, 0, 0, .null), (.bipush (99), 0, 0, .int (99 : Int32))] (lv' := [(0, .ref a0), (1, .ref a1)]) (st' := [.int (99 : Int32), .ref a0]) (M1 := (wr_I u2.2 a1 3 (rd_I u2.2 a0 8))) (ob := [sw_ok u2.2 a0 6, sw_ok u2.2 a1 5]) (pc' := 22) (by decide +kernel) rfl rfl (sw_a1 h3 (sw_a1 h4 sw_a0)) ?_
    obtain ⟨u5, hu5, hf⟩ := sw_bnd hf
    refine sf_callV (i := 101) (k2 := k_Reader_signed) (d2 := d - 1) (As := [.int (99 : Int32)]) (st := []) (q := a0) (ci := 6) mf_Reader_signed mi_Reader_signed ms_Reader_signed (sw_m3 110 (by decide +kernel)) rfl (by decide) (by decide +kernel) rfl (Nat.le_of_ble_eq_true rfl) (by omega) h3 (o_Reader_signed g (d := d - 1) (by omega) hu5) ?_
    show sw_F _ _ _ _ _ _ 25 [(0, .ref a0), (1, .ref a1)] [.int u5.1] u5.2
    refine sf_z_ne (off := 5) (tgt := 30) (by decide +kernel) (by decide) hf (fun hc hf => ?_) (fun hc hf => ?_)
    · obtain ⟨h6, hf⟩ := sw_gd_1 hf
      obtain ⟨h7, hf⟩ := sw_gd_1 hf
      refine sf_blk [(.aload_n 1, 0, 0, .null), (.aload_n 0, 0, 0, .null), (.getfield 84, 6, 8, .null), (.putfield 113, 5, 4, .null), (.iconst (1), 0, 0, .int (1 : Int32))] (lv' := [(0, .ref a0), (1, .ref a1)]) (st' := [.int (1 : Int32)]) (M1 := (wr_I u5.2 a1 4 (rd_I u5.2 a0 8))) (ob := [sw_ok u5.2 a0 6, sw_ok u5.2 a1 5]) (pc' := 39) (by decide +kernel) rfl rfl (sw_a1 h6 (sw_a1 h7 sw_a0)) ?_
      cases hf
      exact sf_bool rfl rfl (by decide +kernel)
    · refine sf_blk [(.iconst (0), 0, 0, .int (0 : Int32))] (lv' := [(0, .ref a0), (1, .ref a1)]) (st' := [.int (0 : Int32)]) (M1 := u5.2) (ob := []) (pc' := 29) (by decide +kernel) rfl rfl sw_a0 ?_
      cases hf
      exact sf_bool rfl rfl (by decide +kernel)
  · refine sf_blk [(.iconst (0), 0, 0, .int (0 : Int32))] (lv' := [(0, .ref a0), (1, .ref a1)]) (st' := [.int (0 : Int32)]) (M1 := u2.2) (ob := []) (pc' := 10) (by decide +kernel) rfl rfl sw_a0 ?_
    cases hf
    exact sf_bool rfl rfl (by decide +kernel)
theorem o_Reader_speed (g : sw_G) {d : Nat} (hd : 10 ≤ d) {N : Nat} {a0 : Nat} {a1 : Nat} {M : sw_M} {r : Int32 × sw_M} (hf : f_Reader_speed N a0 a1 M = some r) : sw_Ok g k_Reader_speed d [.ref a0, .ref a1] M (some (.int r.1)) r.2 := sf_met (by decide +kernel) rfl (by decide) (Nat.le_of_ble_eq_true rfl) (t_Reader_speed hd hf)
def f_Field_setSpan (N : Nat) (a0 : Nat) (a1 : Int32) (a2 : Int32) (M : sw_M) : Option (sw_M) :=
  sw_gd [sw_ok M a0 0] (some (wr_I (wr_I (wr_I M a0 3 a1) a0 4 a2) a0 5 a1))
set_option maxRecDepth 10000 in
theorem t_Field_setSpan {g : sw_G} {d n0 : Nat} (hd : 1 ≤ d) {r : sw_M} {N : Nat} {a0 : Nat} {a1 : Int32} {a2 : Int32} {M : sw_M} (hf : f_Field_setSpan N a0 a1 a2 M = some r) : sw_F g k_Field_setSpan d n0 none r 0 [(0, .ref a0), (1, .int a1), (2, .int a2)] [] M := by
  unfold f_Field_setSpan at hf
  obtain ⟨h1, hf⟩ := sw_gd_1 hf
  refine sf_blk [(.aload_n 0, 0, 0, .null), (.iload_n 1, 0, 0, .null), (.putfield 29, 0, 3, .null), (.aload_n 0, 0, 0, .null), (.iload_n 2, 0, 0, .null), (.putfield 32, 0, 4, .null), (.aload_n 0, 0, 0, .null), (.iload_n 1, 0, 0, .null), (.putfield 35, 0, 5, .null)] (lv' := [(0, .ref a0), (1, .int a1), (2, .int a2)]) (st' := []) (M1 := (wr_I (wr_I (wr_I M a0 3 a1) a0 4 a2) a0 5 a1)) (ob := [sw_ok M a0 0, sw_ok (wr_I M a0 3 a1) a0 0, sw_ok (wr_I (wr_I M a0 3 a1) a0 4 a2) a0 0]) (pc' := 15) (by decide +kernel) rfl rfl (sw_a1 h1 (sw_a1 h1 (sw_a1 h1 sw_a0))) ?_
  cases hf
  exact sf_void rfl (by decide +kernel)
theorem o_Field_setSpan (g : sw_G) {d : Nat} (hd : 1 ≤ d) {N : Nat} {a0 : Nat} {a1 : Int32} {a2 : Int32} {M : sw_M} {r : sw_M} (hf : f_Field_setSpan N a0 a1 a2 M = some r) : sw_Ok g k_Field_setSpan d [.ref a0, .int a1, .int a2] M none r := sf_met (by decide +kernel) rfl (by decide) (Nat.le_of_ble_eq_true rfl) (t_Field_setSpan hd hf)
def f_Reader_span (N : Nat) (a0 : Nat) (a1 : Nat) (M : sw_M) : Option (Int32 × sw_M) :=
  sw_gd [sw_ok M a0 6] (if (rd_I M a0 2) = 0 then (f_Reader_advance N a0 M).bind (fun u2 => sw_gd [sw_ok u2 a1 5] (sw_gd [sw_ok u2 a0 6] ((f_Reader_number N a0 (rd_I u2 a1 5) (99999 : Int32) u2).bind (fun u5 => if u5.1 = 0 then some ((0 : Int32), u5.2)
  else sw_gd [sw_ok u5.2 a1 5] (sw_gd [sw_ok (wr_I u5.2 a1 8 (1 : Int32)) a0 6] (sw_gd [sw_ok (wr_I (wr_I u5.2 a1 8 (1 : Int32)) a0 2 (1 : Int32)) (rd_R (wr_I (wr_I u5.2 a1 8 (1 : Int32)) a0 2 (1 : Int32)) a0 1) 0] ((f_Field_setSpan N (rd_R (wr_I (wr_I u5.2 a1 8 (1 : Int32)) a0 2 (1 : Int32)) a0 1) (rd_I (wr_I (wr_I u5.2 a1 8 (1 : Int32)) a0 2 (1 : Int32)) a1 5) (rd_I (wr_I (wr_I u5.2 a1 8 (1 : Int32)) a0 2 (1 : Int32)) a0 8) (wr_I (wr_I u5.2 a1 8 (1 : Int32)) a0 2 (1 : Int32))).bind (fun u9 => some ((1 : Int32), u9)))))))))
  else (f_Reader_wrong N a0 (3 : Int32) M).bind (fun u10 => sw_gd [sw_bz u10.1] (some (u10.1, u10.2))))
set_option maxRecDepth 10000 in
theorem t_Reader_span {g : sw_G} {d n0 : Nat} (hd : 9 ≤ d) {r : Int32 × sw_M} {N : Nat} {a0 : Nat} {a1 : Nat} {M : sw_M} (hf : f_Reader_span N a0 a1 M = some r) : sw_F g k_Reader_span d n0 (some (.int r.1)) r.2 0 [(0, .ref a0), (1, .ref a1)] [] M := by
  unfold f_Reader_span at hf
  obtain ⟨h1, hf⟩ := sw_gd_1 hf
  refine sf_blk [(.aload_n 0, 0, 0, .null), (.getfield 41, 6, 2, .null)] (lv' := [(0, .ref a0), (1, .ref a1)]) (st' := [.int (rd_I M a0 2)]) (M1 := M) (ob := [sw_ok M a0 6]) (pc' := 4) (by decide +kernel) rfl rfl (sw_a1 h1 sw_a0) ?_
  refine sf_z_eq (off := 9) (tgt := 13) (by decide +kernel) (by decide) hf (fun hc hf => ?_) (fun hc hf => ?_)
  · refine sf_blk [(.aload_n 0, 0, 0, .null)] (lv' := [(0, .ref a0), (1, .ref a1)]) (st' := [.ref a0]) (M1 := M) (ob := []) (pc' := 14) (by decide +kernel) rfl rfl sw_a0 ?_
    obtain ⟨u2, hu2, hf⟩ := sw_bnd hf
    refine sf_callV (i := 48) (k2 := k_Reader_advance) (d2 := d - 1) (As := []) (st := []) (q := a0) (ci := 6) mf_Reader_advance mi_Reader_advance ms_Reader_advance (sw_m3 24 (by decide +kernel)) rfl (by decide) (by decide +kernel) rfl (Nat.le_of_ble_eq_true rfl) (by omega) h1 (o_Reader_advance g (d := d - 1) (by omega) hu2) ?_
    show sw_F _ _ _ _ _ _ 17 [(0, .ref a0), (1, .ref a1)] [] u2
    obtain ⟨h3, hf⟩ := sw_gd_1 hf
    obtain ⟨h4, hf⟩ := sw_gd_1 hf
    refine sf_blk [(.aload_n 0, 0, 0, .null), (.aload_n 1, 0, 0, .null), (.getfield 87, 5, 5, .null), (.ldc 79, 0, 0, .int (99999 : Int32))] (lv' := [(0, .ref a0), (1, .ref a1)]) (st' := [.int (99999 : Int32), .int (rd_I u2 a1 5), .ref a0]) (M1 := u2) (ob := [sw_ok u2 a1 5]) (pc' := 24) (by decide +kernel) rfl rfl (sw_a1 h3 sw_a0) ?_
    obtain ⟨u5, hu5, hf⟩ := sw_bnd hf
    refine sf_callV (i := 80) (k2 := k_Reader_number) (d2 := d - 1) (As := [.int (rd_I u2 a1 5), .int (99999 : Int32)]) (st := []) (q := a0) (ci := 6) mf_Reader_number mi_Reader_number ms_Reader_number (sw_m3 114 (by decide +kernel)) rfl (by decide) (by decide +kernel) rfl (Nat.le_of_ble_eq_true rfl) (by omega) h4 (o_Reader_number g (d := d - 1) (by omega) hu5) ?_
    show sw_F _ _ _ _ _ _ 27 [(0, .ref a0), (1, .ref a1)] [.int u5.1] u5.2
    refine sf_z_ne (off := 5) (tgt := 32) (by decide +kernel) (by decide) hf (fun hc hf => ?_) (fun hc hf => ?_)
    · obtain ⟨h6, hf⟩ := sw_gd_1 hf
      obtain ⟨h7, hf⟩ := sw_gd_1 hf
      obtain ⟨h8, hf⟩ := sw_gd_1 hf
      refine sf_blk [(.aload_n 1, 0, 0, .null), (.iconst (1), 0, 0, .int (1 : Int32)), (.putfield 116, 5, 8, .null), (.aload_n 0, 0, 0, .null), (.iconst (1), 0, 0, .int (1 : Int32)), (.putfield 41, 6, 2, .null), (.aload_n 0, 0, 0, .null), (.getfield 12, 6, 1, .null), (.aload_n 1, 0, 0, .null), (.getfield 87, 5, 5, .null), (.aload_n 0, 0, 0, .null), (.getfield 84, 6, 8, .null)] (lv' := [(0, .ref a0), (1, .ref a1)]) (st' := [.int (rd_I (wr_I (wr_I u5.2 a1 8 (1 : Int32)) a0 2 (1 : Int32)) a0 8), .int (rd_I (wr_I (wr_I u5.2 a1 8 (1 : Int32)) a0 2 (1 : Int32)) a1 5), .ref (rd_R (wr_I (wr_I u5.2 a1 8 (1 : Int32)) a0 2 (1 : Int32)) a0 1)]) (M1 := (wr_I (wr_I u5.2 a1 8 (1 : Int32)) a0 2 (1 : Int32))) (ob := [sw_ok u5.2 a1 5, sw_bz (1 : Int32), sw_ok (wr_I u5.2 a1 8 (1 : Int32)) a0 6, sw_bz (1 : Int32), sw_ok (wr_I (wr_I u5.2 a1 8 (1 : Int32)) a0 2 (1 : Int32)) a0 6, sw_ok (wr_I (wr_I u5.2 a1 8 (1 : Int32)) a0 2 (1 : Int32)) a1 5, sw_ok (wr_I (wr_I u5.2 a1 8 (1 : Int32)) a0 2 (1 : Int32)) a0 6]) (pc' := 54) (by decide +kernel) rfl rfl (sw_a1 h6 (sw_a1 rfl (sw_a1 h7 (sw_a1 rfl (sw_a1 h7 (sw_a1 h6 (sw_a1 h7 sw_a0))))))) ?_
      obtain ⟨u9, hu9, hf⟩ := sw_bnd hf
      refine sf_callV (i := 119) (k2 := k_Field_setSpan) (d2 := d - 1) (As := [.int (rd_I (wr_I (wr_I u5.2 a1 8 (1 : Int32)) a0 2 (1 : Int32)) a1 5), .int (rd_I (wr_I (wr_I u5.2 a1 8 (1 : Int32)) a0 2 (1 : Int32)) a0 8)]) (st := []) (q := (rd_R (wr_I (wr_I u5.2 a1 8 (1 : Int32)) a0 2 (1 : Int32)) a0 1)) (ci := 0) mf_Field_setSpan mi_Field_setSpan ms_Field_setSpan (sw_m3 127 (by decide +kernel)) rfl (by decide) (by decide +kernel) rfl (Nat.le_of_ble_eq_true rfl) (by omega) h8 (o_Field_setSpan g (d := d - 1) (by omega) hu9) ?_
      show sw_F _ _ _ _ _ _ 57 [(0, .ref a0), (1, .ref a1)] [] u9
      refine sf_blk [(.iconst (1), 0, 0, .int (1 : Int32))] (lv' := [(0, .ref a0), (1, .ref a1)]) (st' := [.int (1 : Int32)]) (M1 := u9) (ob := []) (pc' := 58) (by decide +kernel) rfl rfl sw_a0 ?_
      cases hf
      exact sf_bool rfl rfl (by decide +kernel)
    · refine sf_blk [(.iconst (0), 0, 0, .int (0 : Int32))] (lv' := [(0, .ref a0), (1, .ref a1)]) (st' := [.int (0 : Int32)]) (M1 := u5.2) (ob := []) (pc' := 31) (by decide +kernel) rfl rfl sw_a0 ?_
      cases hf
      exact sf_bool rfl rfl (by decide +kernel)
  · refine sf_blk [(.aload_n 0, 0, 0, .null), (.iconst (3), 0, 0, .int (3 : Int32))] (lv' := [(0, .ref a0), (1, .ref a1)]) (st' := [.int (3 : Int32), .ref a0]) (M1 := M) (ob := []) (pc' := 9) (by decide +kernel) rfl rfl sw_a0 ?_
    obtain ⟨u10, hu10, hf⟩ := sw_bnd hf
    refine sf_callV (i := 62) (k2 := k_Reader_wrong) (d2 := d - 1) (As := [.int (3 : Int32)]) (st := []) (q := a0) (ci := 6) mf_Reader_wrong mi_Reader_wrong ms_Reader_wrong (sw_m3 102 (by decide +kernel)) rfl (by decide) (by decide +kernel) rfl (Nat.le_of_ble_eq_true rfl) (by omega) h1 (o_Reader_wrong g (d := d - 1) (by omega) hu10) ?_
    show sw_F _ _ _ _ _ _ 12 [(0, .ref a0), (1, .ref a1)] [.int u10.1] u10.2
    obtain ⟨h11, hf⟩ := sw_gd_1 hf
    cases hf
    exact sf_bool rfl h11 (by decide +kernel)
theorem o_Reader_span (g : sw_G) {d : Nat} (hd : 9 ≤ d) {N : Nat} {a0 : Nat} {a1 : Nat} {M : sw_M} {r : Int32 × sw_M} (hf : f_Reader_span N a0 a1 M = some r) : sw_Ok g k_Reader_span d [.ref a0, .ref a1] M (some (.int r.1)) r.2 := sf_met (by decide +kernel) rfl (by decide) (Nat.le_of_ble_eq_true rfl) (t_Reader_span hd hf)
