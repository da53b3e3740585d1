/-! printed by program: functions of methods, and that the bytes compute them -/
def f_Model_init_373 (N : Nat) (a0 : Nat) (M : sw_M) : Option (sw_M) :=
  sw_gd [sw_nxa M 15 (1024 : Int32)] (sw_gd [sw_ok (wr_N M) a0 12] (sw_gd [sw_nxa (wr_R (wr_N M) a0 87 (rd_N M + 1)) 13 (512 : Int32)] (sw_gd [sw_ok (wr_N (wr_R (wr_N M) a0 87 (rd_N M + 1))) a0 12] (sw_gd [sw_nxa (wr_R (wr_N (wr_R (wr_N M) a0 87 (rd_N M + 1))) a0 88 (rd_N M + 2)) 13 (10 : Int32)] (sw_gd [sw_ok (wr_N (wr_R (wr_N (wr_R (wr_N M) a0 87 (rd_N M + 1))) a0 88 (rd_N M + 2))) a0 12] (some (wr_I (wr_R (wr_N (wr_R (wr_N (wr_R (wr_N M) a0 87 (rd_N M + 1))) a0 88 (rd_N M + 2))) a0 90 (rd_N M + 3)) a0 12 (0 : Int32))))))))
set_option maxRecDepth 10000 in
theorem t_Model_init_373 {g : sw_G} {d n0 : Nat} (hd : 2 ≤ d) {r : sw_M} {N : Nat} {a0 : Nat} {M : sw_M} (hf : f_Model_init_373 N a0 M = some r) : sw_F g k_Model_init d n0 none r 373 [(0, .ref a0)] [] M := by
  unfold f_Model_init_373 at hf
  obtain ⟨h1, hf⟩ := sw_gd_1 hf
  obtain ⟨h2, hf⟩ := sw_gd_1 hf
  obtain ⟨h3, hf⟩ := sw_gd_1 hf
  obtain ⟨h4, hf⟩ := sw_gd_1 hf
  obtain ⟨h5, hf⟩ := sw_gd_1 hf
  obtain ⟨h6, hf⟩ := sw_gd_1 hf
  refine sf_blk [(.aload_n 0, 0, 0, .null), (.sipush (1024), 0, 0, .int (1024 : Int32)), (.newarray .boolean, 15, 0, .null), (.putfield 154, 12, 87, .null), (.aload_n 0, 0, 0, .null), (.sipush (512), 0, 0, .int (512 : Int32)), (.newarray .int, 13, 0, .null), (.putfield 157, 12, 88, .null), (.aload_n 0, 0, 0, .null), (.bipush (10), 0, 0, .int (10 : Int32)), (.newarray .int, 13, 0, .null), (.putfield 160, 12, 90, .null), (.aload_n 0, 0, 0, .null), (.iconst (0), 0, 0, .int (0 : Int32)), (.putfield 163, 12, 12, .null)] (lv' := [(0, .ref a0)]) (st' := []) (M1 := (wr_I (wr_R (wr_N (wr_R (wr_N (wr_R (wr_N M) a0 87 (rd_N M + 1))) a0 88 (rd_N M + 2))) a0 90 (rd_N M + 3)) a0 12 (0 : Int32))) (ob := [sw_nxa M 15 (1024 : Int32), sw_ok (wr_N M) a0 12, sw_nxa (wr_R (wr_N M) a0 87 (rd_N M + 1)) 13 (512 : Int32), sw_ok (wr_N (wr_R (wr_N M) a0 87 (rd_N M + 1))) a0 12, sw_nxa (wr_R (wr_N (wr_R (wr_N M) a0 87 (rd_N M + 1))) a0 88 (rd_N M + 2)) 13 (10 : Int32), sw_ok (wr_N (wr_R (wr_N (wr_R (wr_N M) a0 87 (rd_N M + 1))) a0 88 (rd_N M + 2))) a0 12, sw_ok (wr_R (wr_N (wr_R (wr_N (wr_R (wr_N M) a0 87 (rd_N M + 1))) a0 88 (rd_N M + 2))) a0 90 (rd_N M + 3)) a0 12]) (pc' := 404) (by decide +kernel) rfl rfl (sw_a1 h1 (sw_a1 h2 (sw_a1 h3 (sw_a1 h4 (sw_a1 h5 (sw_a1 h6 (sw_a1 h6 sw_a0))))))) ?_
  cases hf
  exact sf_void rfl (by decide +kernel)
def f_Model_init_325 (N : Nat) (a0 : Nat) (M : sw_M) : Option (sw_M) :=
  sw_gd [sw_nxa M 13 (10 : Int32)] (sw_gd [sw_ok (wr_N M) a0 12] (sw_gd [sw_nxa (wr_R (wr_N M) a0 79 (rd_N M + 1)) 13 (10 : Int32)] (sw_gd [sw_ok (wr_N (wr_R (wr_N M) a0 79 (rd_N M + 1))) a0 12] (sw_gd [sw_nxa (wr_R (wr_N (wr_R (wr_N M) a0 79 (rd_N M + 1))) a0 80 (rd_N M + 2)) 13 (10 : Int32)] (sw_gd [sw_ok (wr_N (wr_R (wr_N (wr_R (wr_N M) a0 79 (rd_N M + 1))) a0 80 (rd_N M + 2))) a0 12] (sw_gd [sw_nxa (wr_R (wr_N (wr_R (wr_N (wr_R (wr_N M) a0 79 (rd_N M + 1))) a0 80 (rd_N M + 2))) a0 81 (rd_N M + 3)) 15 (10 : Int32)] (sw_gd [sw_ok (wr_N (wr_R (wr_N (wr_R (wr_N (wr_R (wr_N M) a0 79 (rd_N M + 1))) a0 80 (rd_N M + 2))) a0 81 (rd_N M + 3))) a0 12] (sw_gd [sw_nxa (wr_R (wr_N (wr_R (wr_N (wr_R (wr_N (wr_R (wr_N M) a0 79 (rd_N M + 1))) a0 80 (rd_N M + 2))) a0 81 (rd_N M + 3))) a0 82 (rd_N M + 4)) 13 (6 : Int32)] (sw_gd [sw_ok (wr_N (wr_R (wr_N (wr_R (wr_N (wr_R (wr_N (wr_R (wr_N M) a0 79 (rd_N M + 1))) a0 80 (rd_N M + 2))) a0 81 (rd_N M + 3))) a0 82 (rd_N M + 4))) a0 12] (sw_gd [sw_nxa (wr_R (wr_N (wr_R (wr_N (wr_R (wr_N (wr_R (wr_N (wr_R (wr_N M) a0 79 (rd_N M + 1))) a0 80 (rd_N M + 2))) a0 81 (rd_N M + 3))) a0 82 (rd_N M + 4))) a0 84 (rd_N M + 5)) 13 (6 : Int32)] (sw_gd [sw_ok (wr_N (wr_R (wr_N (wr_R (wr_N (wr_R (wr_N (wr_R (wr_N (wr_R (wr_N M) a0 79 (rd_N M + 1))) a0 80 (rd_N M + 2))) a0 81 (rd_N M + 3))) a0 82 (rd_N M + 4))) a0 84 (rd_N M + 5))) a0 12] (f_Model_init_373 N a0 (wr_R (wr_N (wr_R (wr_N (wr_R (wr_N (wr_R (wr_N (wr_R (wr_N (wr_R (wr_N M) a0 79 (rd_N M + 1))) a0 80 (rd_N M + 2))) a0 81 (rd_N M + 3))) a0 82 (rd_N M + 4))) a0 84 (rd_N M + 5))) a0 85 (rd_N M + 6))))))))))))))
set_option maxRecDepth 10000 in
theorem t_Model_init_325 {g : sw_G} {d n0 : Nat} (hd : 2 ≤ d) {r : sw_M} {N : Nat} {a0 : Nat} {M : sw_M} (hf : f_Model_init_325 N a0 M = some r) : sw_F g k_Model_init d n0 none r 325 [(0, .ref a0)] [] M := by
  unfold f_Model_init_325 at hf
  obtain ⟨h1, hf⟩ := sw_gd_1 hf
  obtain ⟨h2, hf⟩ := sw_gd_1 hf
  obtain ⟨h3, hf⟩ := sw_gd_1 hf
  obtain ⟨h4, hf⟩ := sw_gd_1 hf
  obtain ⟨h5, hf⟩ := sw_gd_1 hf
  obtain ⟨h6, hf⟩ := sw_gd_1 hf
  obtain ⟨h7, hf⟩ := sw_gd_1 hf
  obtain ⟨h8, hf⟩ := sw_gd_1 hf
  obtain ⟨h9, hf⟩ := sw_gd_1 hf
  obtain ⟨h10, hf⟩ := sw_gd_1 hf
  obtain ⟨h11, hf⟩ := sw_gd_1 hf
  obtain ⟨h12, hf⟩ := sw_gd_1 hf
  refine sf_blk [(.aload_n 0, 0, 0, .null), (.bipush (10), 0, 0, .int (10 : Int32)), (.newarray .int, 13, 0, .null), (.putfield 136, 12, 79, .null), (.aload_n 0, 0, 0, .null), (.bipush (10), 0, 0, .int (10 : Int32)), (.newarray .int, 13, 0, .null), (.putfield 139, 12, 80, .null), (.aload_n 0, 0, 0, .null), (.bipush (10), 0, 0, .int (10 : Int32)), (.newarray .int, 13, 0, .null), (.putfield 142, 12, 81, .null), (.aload_n 0, 0, 0, .null), (.bipush (10), 0, 0, .int (10 : Int32)), (.newarray .boolean, 15, 0, .null), (.putfield 145, 12, 82, .null), (.aload_n 0, 0, 0, .null), (.bipush (6), 0, 0, .int (6 : Int32)), (.newarray .int, 13, 0, .null), (.putfield 148, 12, 84, .null), (.aload_n 0, 0, 0, .null), (.bipush (6), 0, 0, .int (6 : Int32)), (.newarray .int, 13, 0, .null), (.putfield 151, 12, 85, .null)] (lv' := [(0, .ref a0)]) (st' := []) (M1 := (wr_R (wr_N (wr_R (wr_N (wr_R (wr_N (wr_R (wr_N (wr_R (wr_N (wr_R (wr_N M) a0 79 (rd_N M + 1))) a0 80 (rd_N M + 2))) a0 81 (rd_N M + 3))) a0 82 (rd_N M + 4))) a0 84 (rd_N M + 5))) a0 85 (rd_N M + 6))) (ob := [sw_nxa M 13 (10 : Int32), sw_ok (wr_N M) a0 12, sw_nxa (wr_R (wr_N M) a0 79 (rd_N M + 1)) 13 (10 : Int32), sw_ok (wr_N (wr_R (wr_N M) a0 79 (rd_N M + 1))) a0 12, sw_nxa (wr_R (wr_N (wr_R (wr_N M) a0 79 (rd_N M + 1))) a0 80 (rd_N M + 2)) 13 (10 : Int32), sw_ok (wr_N (wr_R (wr_N (wr_R (wr_N M) a0 79 (rd_N M + 1))) a0 80 (rd_N M + 2))) a0 12, sw_nxa (wr_R (wr_N (wr_R (wr_N (wr_R (wr_N M) a0 79 (rd_N M + 1))) a0 80 (rd_N M + 2))) a0 81 (rd_N M + 3)) 15 (10 : Int32), sw_ok (wr_N (wr_R (wr_N (wr_R (wr_N (wr_R (wr_N M) a0 79 (rd_N M + 1))) a0 80 (rd_N M + 2))) a0 81 (rd_N M + 3))) a0 12, sw_nxa (wr_R (wr_N (wr_R (wr_N (wr_R (wr_N (wr_R (wr_N M) a0 79 (rd_N M + 1))) a0 80 (rd_N M + 2))) a0 81 (rd_N M + 3))) a0 82 (rd_N M + 4)) 13 (6 : Int32), sw_ok (wr_N (wr_R (wr_N (wr_R (wr_N (wr_R (wr_N (wr_R (wr_N M) a0 79 (rd_N M + 1))) a0 80 (rd_N M + 2))) a0 81 (rd_N M + 3))) a0 82 (rd_N M + 4))) a0 12, sw_nxa (wr_R (wr_N (wr_R (wr_N (wr_R (wr_N (wr_R (wr_N (wr_R (wr_N M) a0 79 (rd_N M + 1))) a0 80 (rd_N M + 2))) a0 81 (rd_N M + 3))) a0 82 (rd_N M + 4))) a0 84 (rd_N M + 5)) 13 (6 : Int32), sw_ok (wr_N (wr_R (wr_N (wr_R (wr_N (wr_R (wr_N (wr_R (wr_N (wr_R (wr_N M) a0 79 (rd_N M + 1))) a0 80 (rd_N M + 2))) a0 81 (rd_N M + 3))) a0 82 (rd_N M + 4))) a0 84 (rd_N M + 5))) a0 12]) (pc' := 373) (by decide +kernel) rfl rfl (sw_a1 h1 (sw_a1 h2 (sw_a1 h3 (sw_a1 h4 (sw_a1 h5 (sw_a1 h6 (sw_a1 h7 (sw_a1 h8 (sw_a1 h9 (sw_a1 h10 (sw_a1 h11 (sw_a1 h12 sw_a0)))))))))))) ?_
  exact sf_weak [0] rfl (t_Model_init_373 hd hf)
def f_Model_init_278 (N : Nat) (a0 : Nat) (M : sw_M) : Option (sw_M) :=
  sw_gd [sw_ok M a0 12] (sw_gd [sw_nxa (wr_I M a0 72 (1000 : Int32)) 13 (384 : Int32)] (sw_gd [sw_ok (wr_N (wr_I M a0 72 (1000 : Int32))) a0 12] (sw_gd [sw_nxa (wr_R (wr_N (wr_I M a0 72 (1000 : Int32))) a0 73 (rd_N M + 1)) 13 (384 : Int32)] (sw_gd [sw_ok (wr_N (wr_R (wr_N (wr_I M a0 72 (1000 : Int32))) a0 73 (rd_N M + 1))) a0 12] (sw_gd [sw_nxa (wr_I (wr_R (wr_N (wr_R (wr_N (wr_I M a0 72 (1000 : Int32))) a0 73 (rd_N M + 1))) a0 74 (rd_N M + 2)) a0 75 (6 : Int32)) 15 (10 : Int32)] (sw_gd [sw_ok (wr_N (wr_I (wr_R (wr_N (wr_R (wr_N (wr_I M a0 72 (1000 : Int32))) a0 73 (rd_N M + 1))) a0 74 (rd_N M + 2)) a0 75 (6 : Int32))) a0 12] (sw_gd [sw_nxa (wr_R (wr_N (wr_I (wr_R (wr_N (wr_R (wr_N (wr_I M a0 72 (1000 : Int32))) a0 73 (rd_N M + 1))) a0 74 (rd_N M + 2)) a0 75 (6 : Int32))) a0 77 (rd_N M + 3)) 13 (10 : Int32)] (sw_gd [sw_ok (wr_N (wr_R (wr_N (wr_I (wr_R (wr_N (wr_R (wr_N (wr_I M a0 72 (1000 : Int32))) a0 73 (rd_N M + 1))) a0 74 (rd_N M + 2)) a0 75 (6 : Int32))) a0 77 (rd_N M + 3))) a0 12] (f_Model_init_325 N a0 (wr_R (wr_N (wr_R (wr_N (wr_I (wr_R (wr_N (wr_R (wr_N (wr_I M a0 72 (1000 : Int32))) a0 73 (rd_N M + 1))) a0 74 (rd_N M + 2)) a0 75 (6 : Int32))) a0 77 (rd_N M + 3))) a0 78 (rd_N M + 4)))))))))))
set_option maxRecDepth 10000 in
theorem t_Model_init_278 {g : sw_G} {d n0 : Nat} (hd : 2 ≤ d) {r : sw_M} {N : Nat} {a0 : Nat} {M : sw_M} (hf : f_Model_init_278 N a0 M = some r) : sw_F g k_Model_init d n0 none r 278 [(0, .ref a0)] [] M := by
  unfold f_Model_init_278 at hf
  obtain ⟨h1, hf⟩ := sw_gd_1 hf
  obtain ⟨h2, hf⟩ := sw_gd_1 hf
  obtain ⟨h3, hf⟩ := sw_gd_1 hf
  obtain ⟨h4, hf⟩ := sw_gd_1 hf
  obtain ⟨h5, hf⟩ := sw_gd_1 hf
  obtain ⟨h6, hf⟩ := sw_gd_1 hf
  obtain ⟨h7, hf⟩ := sw_gd_1 hf
  obtain ⟨h8, hf⟩ := sw_gd_1 hf
  obtain ⟨h9, hf⟩ := sw_gd_1 hf
  refine sf_blk [(.aload_n 0, 0, 0, .null), (.sipush (1000), 0, 0, .int (1000 : Int32)), (.putfield 118, 12, 72, .null), (.aload_n 0, 0, 0, .null), (.sipush (384), 0, 0, .int (384 : Int32)), (.newarray .int, 13, 0, .null), (.putfield 121, 12, 73, .null), (.aload_n 0, 0, 0, .null), (.sipush (384), 0, 0, .int (384 : Int32)), (.newarray .int, 13, 0, .null), (.putfield 124, 12, 74, .null), (.aload_n 0, 0, 0, .null), (.bipush (6), 0, 0, .int (6 : Int32)), (.putfield 127, 12, 75, .null), (.aload_n 0, 0, 0, .null), (.bipush (10), 0, 0, .int (10 : Int32)), (.newarray .boolean, 15, 0, .null), (.putfield 130, 12, 77, .null), (.aload_n 0, 0, 0, .null), (.bipush (10), 0, 0, .int (10 : Int32)), (.newarray .int, 13, 0, .null), (.putfield 133, 12, 78, .null)] (lv' := [(0, .ref a0)]) (st' := []) (M1 := (wr_R (wr_N (wr_R (wr_N (wr_I (wr_R (wr_N (wr_R (wr_N (wr_I M a0 72 (1000 : Int32))) a0 73 (rd_N M + 1))) a0 74 (rd_N M + 2)) a0 75 (6 : Int32))) a0 77 (rd_N M + 3))) a0 78 (rd_N M + 4))) (ob := [sw_ok M a0 12, sw_nxa (wr_I M a0 72 (1000 : Int32)) 13 (384 : Int32), sw_ok (wr_N (wr_I M a0 72 (1000 : Int32))) a0 12, sw_nxa (wr_R (wr_N (wr_I M a0 72 (1000 : Int32))) a0 73 (rd_N M + 1)) 13 (384 : Int32), sw_ok (wr_N (wr_R (wr_N (wr_I M a0 72 (1000 : Int32))) a0 73 (rd_N M + 1))) a0 12, sw_ok (wr_R (wr_N (wr_R (wr_N (wr_I M a0 72 (1000 : Int32))) a0 73 (rd_N M + 1))) a0 74 (rd_N M + 2)) a0 12, sw_nxa (wr_I (wr_R (wr_N (wr_R (wr_N (wr_I M a0 72 (1000 : Int32))) a0 73 (rd_N M + 1))) a0 74 (rd_N M + 2)) a0 75 (6 : Int32)) 15 (10 : Int32), sw_ok (wr_N (wr_I (wr_R (wr_N (wr_R (wr_N (wr_I M a0 72 (1000 : Int32))) a0 73 (rd_N M + 1))) a0 74 (rd_N M + 2)) a0 75 (6 : Int32))) a0 12, sw_nxa (wr_R (wr_N (wr_I (wr_R (wr_N (wr_R (wr_N (wr_I M a0 72 (1000 : Int32))) a0 73 (rd_N M + 1))) a0 74 (rd_N M + 2)) a0 75 (6 : Int32))) a0 77 (rd_N M + 3)) 13 (10 : Int32), sw_ok (wr_N (wr_R (wr_N (wr_I (wr_R (wr_N (wr_R (wr_N (wr_I M a0 72 (1000 : Int32))) a0 73 (rd_N M + 1))) a0 74 (rd_N M + 2)) a0 75 (6 : Int32))) a0 77 (rd_N M + 3))) a0 12]) (pc' := 325) (by decide +kernel) rfl rfl (sw_a1 h1 (sw_a1 h2 (sw_a1 h3 (sw_a1 h4 (sw_a1 h5 (sw_a1 h5 (sw_a1 h6 (sw_a1 h7 (sw_a1 h8 (sw_a1 h9 sw_a0)))))))))) ?_
  exact sf_weak [0] rfl (t_Model_init_325 hd hf)
def f_Model_init_233 (N : Nat) (a0 : Nat) (M : sw_M) : Option (sw_M) :=
  sw_gd [sw_nxa M 16 (6 : Int32)] (sw_gd [sw_ok (wr_N M) a0 12] (sw_gd [sw_nxa (wr_R (wr_N M) a0 65 (rd_N M + 1)) 13 (6 : Int32)] (sw_gd [sw_ok (wr_N (wr_R (wr_N M) a0 65 (rd_N M + 1))) a0 12] (sw_gd [sw_nxa (wr_R (wr_N (wr_R (wr_N M) a0 65 (rd_N M + 1))) a0 66 (rd_N M + 2)) 13 (6 : Int32)] (sw_gd [sw_ok (wr_N (wr_R (wr_N (wr_R (wr_N M) a0 65 (rd_N M + 1))) a0 66 (rd_N M + 2))) a0 12] (sw_gd [sw_nxa (wr_R (wr_N (wr_R (wr_N (wr_R (wr_N M) a0 65 (rd_N M + 1))) a0 66 (rd_N M + 2))) a0 67 (rd_N M + 3)) 15 (6 : Int32)] (sw_gd [sw_ok (wr_N (wr_R (wr_N (wr_R (wr_N (wr_R (wr_N M) a0 65 (rd_N M + 1))) a0 66 (rd_N M + 2))) a0 67 (rd_N M + 3))) a0 12] (sw_gd [sw_nxa (wr_R (wr_N (wr_R (wr_N (wr_R (wr_N (wr_R (wr_N M) a0 65 (rd_N M + 1))) a0 66 (rd_N M + 2))) a0 67 (rd_N M + 3))) a0 68 (rd_N M + 4)) 16 (64 : Int32)] (sw_gd [sw_ok (wr_N (wr_R (wr_N (wr_R (wr_N (wr_R (wr_N (wr_R (wr_N M) a0 65 (rd_N M + 1))) a0 66 (rd_N M + 2))) a0 67 (rd_N M + 3))) a0 68 (rd_N M + 4))) a0 12] (f_Model_init_278 N a0 (wr_I (wr_R (wr_N (wr_R (wr_N (wr_R (wr_N (wr_R (wr_N (wr_R (wr_N M) a0 65 (rd_N M + 1))) a0 66 (rd_N M + 2))) a0 67 (rd_N M + 3))) a0 68 (rd_N M + 4))) a0 69 (rd_N M + 5)) a0 71 (4 : Int32))))))))))))
set_option maxRecDepth 10000 in
theorem t_Model_init_233 {g : sw_G} {d n0 : Nat} (hd : 2 ≤ d) {r : sw_M} {N : Nat} {a0 : Nat} {M : sw_M} (hf : f_Model_init_233 N a0 M = some r) : sw_F g k_Model_init d n0 none r 233 [(0, .ref a0)] [] M := by
  unfold f_Model_init_233 at hf
  obtain ⟨h1, hf⟩ := sw_gd_1 hf
  obtain ⟨h2, hf⟩ := sw_gd_1 hf
  obtain ⟨h3, hf⟩ := sw_gd_1 hf
  obtain ⟨h4, hf⟩ := sw_gd_1 hf
  obtain ⟨h5, hf⟩ := sw_gd_1 hf
  obtain ⟨h6, hf⟩ := sw_gd_1 hf
  obtain ⟨h7, hf⟩ := sw_gd_1 hf
  obtain ⟨h8, hf⟩ := sw_gd_1 hf
  obtain ⟨h9, hf⟩ := sw_gd_1 hf
  obtain ⟨h10, hf⟩ := sw_gd_1 hf
  refine sf_blk [(.aload_n 0, 0, 0, .null), (.bipush (6), 0, 0, .int (6 : Int32)), (.newarray .long, 16, 0, .null), (.putfield 100, 12, 65, .null), (.aload_n 0, 0, 0, .null), (.bipush (6), 0, 0, .int (6 : Int32)), (.newarray .int, 13, 0, .null), (.putfield 103, 12, 66, .null), (.aload_n 0, 0, 0, .null), (.bipush (6), 0, 0, .int (6 : Int32)), (.newarray .int, 13, 0, .null), (.putfield 106, 12, 67, .null), (.aload_n 0, 0, 0, .null), (.bipush (6), 0, 0, .int (6 : Int32)), (.newarray .boolean, 15, 0, .null), (.putfield 109, 12, 68, .null), (.aload_n 0, 0, 0, .null), (.bipush (64), 0, 0, .int (64 : Int32)), (.newarray .long, 16, 0, .null), (.putfield 112, 12, 69, .null), (.aload_n 0, 0, 0, .null), (.iconst (4), 0, 0, .int (4 : Int32)), (.putfield 115, 12, 71, .null)] (lv' := [(0, .ref a0)]) (st' := []) (M1 := (wr_I (wr_R (wr_N (wr_R (wr_N (wr_R (wr_N (wr_R (wr_N (wr_R (wr_N M) a0 65 (rd_N M + 1))) a0 66 (rd_N M + 2))) a0 67 (rd_N M + 3))) a0 68 (rd_N M + 4))) a0 69 (rd_N M + 5)) a0 71 (4 : Int32))) (ob := [sw_nxa M 16 (6 : Int32), sw_ok (wr_N M) a0 12, sw_nxa (wr_R (wr_N M) a0 65 (rd_N M + 1)) 13 (6 : Int32), sw_ok (wr_N (wr_R (wr_N M) a0 65 (rd_N M + 1))) a0 12, sw_nxa (wr_R (wr_N (wr_R (wr_N M) a0 65 (rd_N M + 1))) a0 66 (rd_N M + 2)) 13 (6 : Int32), sw_ok (wr_N (wr_R (wr_N (wr_R (wr_N M) a0 65 (rd_N M + 1))) a0 66 (rd_N M + 2))) a0 12, sw_nxa (wr_R (wr_N (wr_R (wr_N (wr_R (wr_N M) a0 65 (rd_N M + 1))) a0 66 (rd_N M + 2))) a0 67 (rd_N M + 3)) 15 (6 : Int32), sw_ok (wr_N (wr_R (wr_N (wr_R (wr_N (wr_R (wr_N M) a0 65 (rd_N M + 1))) a0 66 (rd_N M + 2))) a0 67 (rd_N M + 3))) a0 12, sw_nxa (wr_R (wr_N (wr_R (wr_N (wr_R (wr_N (wr_R (wr_N M) a0 65 (rd_N M + 1))) a0 66 (rd_N M + 2))) a0 67 (rd_N M + 3))) a0 68 (rd_N M + 4)) 16 (64 : Int32), sw_ok (wr_N (wr_R (wr_N (wr_R (wr_N (wr_R (wr_N (wr_R (wr_N M) a0 65 (rd_N M + 1))) a0 66 (rd_N M + 2))) a0 67 (rd_N M + 3))) a0 68 (rd_N M + 4))) a0 12, sw_ok (wr_R (wr_N (wr_R (wr_N (wr_R (wr_N (wr_R (wr_N (wr_R (wr_N M) a0 65 (rd_N M + 1))) a0 66 (rd_N M + 2))) a0 67 (rd_N M + 3))) a0 68 (rd_N M + 4))) a0 69 (rd_N M + 5)) a0 12]) (pc' := 278) (by decide +kernel) rfl rfl (sw_a1 h1 (sw_a1 h2 (sw_a1 h3 (sw_a1 h4 (sw_a1 h5 (sw_a1 h6 (sw_a1 h7 (sw_a1 h8 (sw_a1 h9 (sw_a1 h10 (sw_a1 h10 sw_a0))))))))))) ?_
  exact sf_weak [0] rfl (t_Model_init_278 hd hf)
def f_Model_init_184 (N : Nat) (a0 : Nat) (M : sw_M) : Option (sw_M) :=
  sw_gd [sw_nxa M 13 (1446 : Int32)] (sw_gd [sw_ok (wr_N M) a0 12] (sw_gd [sw_nxa (wr_R (wr_N M) a0 59 (rd_N M + 1)) 13 (6 : Int32)] (sw_gd [sw_ok (wr_N (wr_R (wr_N M) a0 59 (rd_N M + 1))) a0 12] (sw_gd [sw_nxa (wr_R (wr_N (wr_R (wr_N M) a0 59 (rd_N M + 1))) a0 60 (rd_N M + 2)) 15 (6 : Int32)] (sw_gd [sw_ok (wr_N (wr_R (wr_N (wr_R (wr_N M) a0 59 (rd_N M + 1))) a0 60 (rd_N M + 2))) a0 12] (sw_gd [sw_nxa (wr_R (wr_N (wr_R (wr_N (wr_R (wr_N M) a0 59 (rd_N M + 1))) a0 60 (rd_N M + 2))) a0 61 (rd_N M + 3)) 13 (6 : Int32)] (sw_gd [sw_ok (wr_N (wr_R (wr_N (wr_R (wr_N (wr_R (wr_N M) a0 59 (rd_N M + 1))) a0 60 (rd_N M + 2))) a0 61 (rd_N M + 3))) a0 12] (sw_gd [sw_nxa (wr_R (wr_N (wr_R (wr_N (wr_R (wr_N (wr_R (wr_N M) a0 59 (rd_N M + 1))) a0 60 (rd_N M + 2))) a0 61 (rd_N M + 3))) a0 62 (rd_N M + 4)) 16 (6 : Int32)] (sw_gd [sw_ok (wr_N (wr_R (wr_N (wr_R (wr_N (wr_R (wr_N (wr_R (wr_N M) a0 59 (rd_N M + 1))) a0 60 (rd_N M + 2))) a0 61 (rd_N M + 3))) a0 62 (rd_N M + 4))) a0 12] (sw_gd [sw_nxa (wr_R (wr_N (wr_R (wr_N (wr_R (wr_N (wr_R (wr_N (wr_R (wr_N M) a0 59 (rd_N M + 1))) a0 60 (rd_N M + 2))) a0 61 (rd_N M + 3))) a0 62 (rd_N M + 4))) a0 63 (rd_N M + 5)) 16 (6 : Int32)] (sw_gd [sw_ok (wr_N (wr_R (wr_N (wr_R (wr_N (wr_R (wr_N (wr_R (wr_N (wr_R (wr_N M) a0 59 (rd_N M + 1))) a0 60 (rd_N M + 2))) a0 61 (rd_N M + 3))) a0 62 (rd_N M + 4))) a0 63 (rd_N M + 5))) a0 12] (f_Model_init_233 N a0 (wr_R (wr_N (wr_R (wr_N (wr_R (wr_N (wr_R (wr_N (wr_R (wr_N (wr_R (wr_N M) a0 59 (rd_N M + 1))) a0 60 (rd_N M + 2))) a0 61 (rd_N M + 3))) a0 62 (rd_N M + 4))) a0 63 (rd_N M + 5))) a0 64 (rd_N M + 6))))))))))))))
set_option maxRecDepth 10000 in
theorem t_Model_init_184 {g : sw_G} {d n0 : Nat} (hd : 2 ≤ d) {r : sw_M} {N : Nat} {a0 : Nat} {M : sw_M} (hf : f_Model_init_184 N a0 M = some r) : sw_F g k_Model_init d n0 none r 184 [(0, .ref a0)] [] M := by
  unfold f_Model_init_184 at hf
  obtain ⟨h1, hf⟩ := sw_gd_1 hf
  obtain ⟨h2, hf⟩ := sw_gd_1 hf
  obtain ⟨h3, hf⟩ := sw_gd_1 hf
  obtain ⟨h4, hf⟩ := sw_gd_1 hf
  obtain ⟨h5, hf⟩ := sw_gd_1 hf
  obtain ⟨h6, hf⟩ := sw_gd_1 hf
  obtain ⟨h7, hf⟩ := sw_gd_1 hf
  obtain ⟨h8, hf⟩ := sw_gd_1 hf
  obtain ⟨h9, hf⟩ := sw_gd_1 hf
  obtain ⟨h10, hf⟩ := sw_gd_1 hf
  obtain ⟨h11, hf⟩ := sw_gd_1 hf
  obtain ⟨h12, hf⟩ := sw_gd_1 hf
  refine sf_blk [(.aload_n 0, 0, 0, .null), (.sipush (1446), 0, 0, .int (1446 : Int32)), (.newarray .int, 13, 0, .null), (.putfield 80, 12, 59, .null), (.aload_n 0, 0, 0, .null), (.bipush (6), 0, 0, .int (6 : Int32)), (.newarray .int, 13, 0, .null), (.putfield 83, 12, 60, .null), (.aload_n 0, 0, 0, .null), (.bipush (6), 0, 0, .int (6 : Int32)), (.newarray .boolean, 15, 0, .null), (.putfield 86, 12, 61, .null), (.aload_n 0, 0, 0, .null), (.bipush (6), 0, 0, .int (6 : Int32)), (.newarray .int, 13, 0, .null), (.putfield 90, 12, 62, .null), (.aload_n 0, 0, 0, .null), (.bipush (6), 0, 0, .int (6 : Int32)), (.newarray .long, 16, 0, .null), (.putfield 93, 12, 63, .null), (.aload_n 0, 0, 0, .null), (.bipush (6), 0, 0, .int (6 : Int32)), (.newarray .long, 16, 0, .null), (.putfield 97, 12, 64, .null)] (lv' := [(0, .ref a0)]) (st' := []) (M1 := (wr_R (wr_N (wr_R (wr_N (wr_R (wr_N (wr_R (wr_N (wr_R (wr_N (wr_R (wr_N M) a0 59 (rd_N M + 1))) a0 60 (rd_N M + 2))) a0 61 (rd_N M + 3))) a0 62 (rd_N M + 4))) a0 63 (rd_N M + 5))) a0 64 (rd_N M + 6))) (ob := [sw_nxa M 13 (1446 : Int32), sw_ok (wr_N M) a0 12, sw_nxa (wr_R (wr_N M) a0 59 (rd_N M + 1)) 13 (6 : Int32), sw_ok (wr_N (wr_R (wr_N M) a0 59 (rd_N M + 1))) a0 12, sw_nxa (wr_R (wr_N (wr_R (wr_N M) a0 59 (rd_N M + 1))) a0 60 (rd_N M + 2)) 15 (6 : Int32), sw_ok (wr_N (wr_R (wr_N (wr_R (wr_N M) a0 59 (rd_N M + 1))) a0 60 (rd_N M + 2))) a0 12, sw_nxa (wr_R (wr_N (wr_R (wr_N (wr_R (wr_N M) a0 59 (rd_N M + 1))) a0 60 (rd_N M + 2))) a0 61 (rd_N M + 3)) 13 (6 : Int32), sw_ok (wr_N (wr_R (wr_N (wr_R (wr_N (wr_R (wr_N M) a0 59 (rd_N M + 1))) a0 60 (rd_N M + 2))) a0 61 (rd_N M + 3))) a0 12, sw_nxa (wr_R (wr_N (wr_R (wr_N (wr_R (wr_N (wr_R (wr_N M) a0 59 (rd_N M + 1))) a0 60 (rd_N M + 2))) a0 61 (rd_N M + 3))) a0 62 (rd_N M + 4)) 16 (6 : Int32), sw_ok (wr_N (wr_R (wr_N (wr_R (wr_N (wr_R (wr_N (wr_R (wr_N M) a0 59 (rd_N M + 1))) a0 60 (rd_N M + 2))) a0 61 (rd_N M + 3))) a0 62 (rd_N M + 4))) a0 12, sw_nxa (wr_R (wr_N (wr_R (wr_N (wr_R (wr_N (wr_R (wr_N (wr_R (wr_N M) a0 59 (rd_N M + 1))) a0 60 (rd_N M + 2))) a0 61 (rd_N M + 3))) a0 62 (rd_N M + 4))) a0 63 (rd_N M + 5)) 16 (6 : Int32), sw_ok (wr_N (wr_R (wr_N (wr_R (wr_N (wr_R (wr_N (wr_R (wr_N (wr_R (wr_N M) a0 59 (rd_N M + 1))) a0 60 (rd_N M + 2))) a0 61 (rd_N M + 3))) a0 62 (rd_N M + 4))) a0 63 (rd_N M + 5))) a0 12]) (pc' := 233) (by decide +kernel) rfl rfl (sw_a1 h1 (sw_a1 h2 (sw_a1 h3 (sw_a1 h4 (sw_a1 h5 (sw_a1 h6 (sw_a1 h7 (sw_a1 h8 (sw_a1 h9 (sw_a1 h10 (sw_a1 h11 (sw_a1 h12 sw_a0)))))))))))) ?_
  exact sf_weak [0] rfl (t_Model_init_233 hd hf)
def f_Model_init_133 (N : Nat) (a0 : Nat) (M : sw_M) : Option (sw_M) :=
  sw_gd [sw_nxa M 13 (6 : Int32)] (sw_gd [sw_ok (wr_N M) a0 12] (sw_gd [sw_nxa (wr_R (wr_N M) a0 53 (rd_N M + 1)) 13 (6 : Int32)] (sw_gd [sw_ok (wr_N (wr_R (wr_N M) a0 53 (rd_N M + 1))) a0 12] (sw_gd [sw_nxa (wr_R (wr_N (wr_R (wr_N M) a0 53 (rd_N M + 1))) a0 54 (rd_N M + 2)) 13 (6 : Int32)] (sw_gd [sw_ok (wr_N (wr_R (wr_N (wr_R (wr_N M) a0 53 (rd_N M + 1))) a0 54 (rd_N M + 2))) a0 12] (sw_gd [sw_nxa (wr_R (wr_N (wr_R (wr_N (wr_R (wr_N M) a0 53 (rd_N M + 1))) a0 54 (rd_N M + 2))) a0 55 (rd_N M + 3)) 13 (1446 : Int32)] (sw_gd [sw_ok (wr_N (wr_R (wr_N (wr_R (wr_N (wr_R (wr_N M) a0 53 (rd_N M + 1))) a0 54 (rd_N M + 2))) a0 55 (rd_N M + 3))) a0 12] (sw_gd [sw_nxa (wr_R (wr_N (wr_R (wr_N (wr_R (wr_N (wr_R (wr_N M) a0 53 (rd_N M + 1))) a0 54 (rd_N M + 2))) a0 55 (rd_N M + 3))) a0 56 (rd_N M + 4)) 13 (1446 : Int32)] (sw_gd [sw_ok (wr_N (wr_R (wr_N (wr_R (wr_N (wr_R (wr_N (wr_R (wr_N M) a0 53 (rd_N M + 1))) a0 54 (rd_N M + 2))) a0 55 (rd_N M + 3))) a0 56 (rd_N M + 4))) a0 12] (sw_gd [sw_nxa (wr_R (wr_N (wr_R (wr_N (wr_R (wr_N (wr_R (wr_N (wr_R (wr_N M) a0 53 (rd_N M + 1))) a0 54 (rd_N M + 2))) a0 55 (rd_N M + 3))) a0 56 (rd_N M + 4))) a0 57 (rd_N M + 5)) 13 (1446 : Int32)] (sw_gd [sw_ok (wr_N (wr_R (wr_N (wr_R (wr_N (wr_R (wr_N (wr_R (wr_N (wr_R (wr_N M) a0 53 (rd_N M + 1))) a0 54 (rd_N M + 2))) a0 55 (rd_N M + 3))) a0 56 (rd_N M + 4))) a0 57 (rd_N M + 5))) a0 12] (f_Model_init_184 N a0 (wr_R (wr_N (wr_R (wr_N (wr_R (wr_N (wr_R (wr_N (wr_R (wr_N (wr_R (wr_N M) a0 53 (rd_N M + 1))) a0 54 (rd_N M + 2))) a0 55 (rd_N M + 3))) a0 56 (rd_N M + 4))) a0 57 (rd_N M + 5))) a0 58 (rd_N M + 6))))))))))))))
set_option maxRecDepth 10000 in
theorem t_Model_init_133 {g : sw_G} {d n0 : Nat} (hd : 2 ≤ d) {r : sw_M} {N : Nat} {a0 : Nat} {M : sw_M} (hf : f_Model_init_133 N a0 M = some r) : sw_F g k_Model_init d n0 none r 133 [(0, .ref a0)] [] M := by
  unfold f_Model_init_133 at hf
  obtain ⟨h1, hf⟩ := sw_gd_1 hf
  obtain ⟨h2, hf⟩ := sw_gd_1 hf
  obtain ⟨h3, hf⟩ := sw_gd_1 hf
  obtain ⟨h4, hf⟩ := sw_gd_1 hf
  obtain ⟨h5, hf⟩ := sw_gd_1 hf
  obtain ⟨h6, hf⟩ := sw_gd_1 hf
  obtain ⟨h7, hf⟩ := sw_gd_1 hf
  obtain ⟨h8, hf⟩ := sw_gd_1 hf
  obtain ⟨h9, hf⟩ := sw_gd_1 hf
  obtain ⟨h10, hf⟩ := sw_gd_1 hf
  obtain ⟨h11, hf⟩ := sw_gd_1 hf
  obtain ⟨h12, hf⟩ := sw_gd_1 hf
  refine sf_blk [(.aload_n 0, 0, 0, .null), (.bipush (6), 0, 0, .int (6 : Int32)), (.newarray .int, 13, 0, .null), (.putfield 62, 12, 53, .null), (.aload_n 0, 0, 0, .null), (.bipush (6), 0, 0, .int (6 : Int32)), (.newarray .int, 13, 0, .null), (.putfield 65, 12, 54, .null), (.aload_n 0, 0, 0, .null), (.bipush (6), 0, 0, .int (6 : Int32)), (.newarray .int, 13, 0, .null), (.putfield 68, 12, 55, .null), (.aload_n 0, 0, 0, .null), (.sipush (1446), 0, 0, .int (1446 : Int32)), (.newarray .int, 13, 0, .null), (.putfield 71, 12, 56, .null), (.aload_n 0, 0, 0, .null), (.sipush (1446), 0, 0, .int (1446 : Int32)), (.newarray .int, 13, 0, .null), (.putfield 74, 12, 57, .null), (.aload_n 0, 0, 0, .null), (.sipush (1446), 0, 0, .int (1446 : Int32)), (.newarray .int, 13, 0, .null), (.putfield 77, 12, 58, .null)] (lv' := [(0, .ref a0)]) (st' := []) (M1 := (wr_R (wr_N (wr_R (wr_N (wr_R (wr_N (wr_R (wr_N (wr_R (wr_N (wr_R (wr_N M) a0 53 (rd_N M + 1))) a0 54 (rd_N M + 2))) a0 55 (rd_N M + 3))) a0 56 (rd_N M + 4))) a0 57 (rd_N M + 5))) a0 58 (rd_N M + 6))) (ob := [sw_nxa M 13 (6 : Int32), sw_ok (wr_N M) a0 12, sw_nxa (wr_R (wr_N M) a0 53 (rd_N M + 1)) 13 (6 : Int32), sw_ok (wr_N (wr_R (wr_N M) a0 53 (rd_N M + 1))) a0 12, sw_nxa (wr_R (wr_N (wr_R (wr_N M) a0 53 (rd_N M + 1))) a0 54 (rd_N M + 2)) 13 (6 : Int32), sw_ok (wr_N (wr_R (wr_N (wr_R (wr_N M) a0 53 (rd_N M + 1))) a0 54 (rd_N M + 2))) a0 12, sw_nxa (wr_R (wr_N (wr_R (wr_N (wr_R (wr_N M) a0 53 (rd_N M + 1))) a0 54 (rd_N M + 2))) a0 55 (rd_N M + 3)) 13 (1446 : Int32), sw_ok (wr_N (wr_R (wr_N (wr_R (wr_N (wr_R (wr_N M) a0 53 (rd_N M + 1))) a0 54 (rd_N M + 2))) a0 55 (rd_N M + 3))) a0 12, sw_nxa (wr_R (wr_N (wr_R (wr_N (wr_R (wr_N (wr_R (wr_N M) a0 53 (rd_N M + 1))) a0 54 (rd_N M + 2))) a0 55 (rd_N M + 3))) a0 56 (rd_N M + 4)) 13 (1446 : Int32), sw_ok (wr_N (wr_R (wr_N (wr_R (wr_N (wr_R (wr_N (wr_R (wr_N M) a0 53 (rd_N M + 1))) a0 54 (rd_N M + 2))) a0 55 (rd_N M + 3))) a0 56 (rd_N M + 4))) a0 12, sw_nxa (wr_R (wr_N (wr_R (wr_N (wr_R (wr_N (wr_R (wr_N (wr_R (wr_N M) a0 53 (rd_N M + 1))) a0 54 (rd_N M + 2))) a0 55 (rd_N M + 3))) a0 56 (rd_N M + 4))) a0 57 (rd_N M + 5)) 13 (1446 : Int32), sw_ok (wr_N (wr_R (wr_N (wr_R (wr_N (wr_R (wr_N (wr_R (wr_N (wr_R (wr_N M) a0 53 (rd_N M + 1))) a0 54 (rd_N M + 2))) a0 55 (rd_N M + 3))) a0 56 (rd_N M + 4))) a0 57 (rd_N M + 5))) a0 12]) (pc' := 184) (by decide +kernel) rfl rfl (sw_a1 h1 (sw_a1 h2 (sw_a1 h3 (sw_a1 h4 (sw_a1 h5 (sw_a1 h6 (sw_a1 h7 (sw_a1 h8 (sw_a1 h9 (sw_a1 h10 (sw_a1 h11 (sw_a1 h12 sw_a0)))))))))))) ?_
  exact sf_weak [0] rfl (t_Model_init_184 hd hf)
def f_Model_init_89 (N : Nat) (a0 : Nat) (M : sw_M) : Option (sw_M) :=
  sw_gd [sw_nxa M 13 (96 : Int32)] (sw_gd [sw_ok (wr_N M) a0 12] (sw_gd [sw_nxa (wr_R (wr_N M) a0 17 (rd_N M + 1)) 13 (500 : Int32)] (sw_gd [sw_ok (wr_N (wr_R (wr_N M) a0 17 (rd_N M + 1))) a0 12] (sw_gd [sw_nxa (wr_I (wr_R (wr_N (wr_R (wr_N M) a0 17 (rd_N M + 1))) a0 22 (rd_N M + 2)) a0 33 (-1 : Int32)) 13 (64 : Int32)] (sw_gd [sw_ok (wr_N (wr_I (wr_R (wr_N (wr_R (wr_N M) a0 17 (rd_N M + 1))) a0 22 (rd_N M + 2)) a0 33 (-1 : Int32))) a0 12] (sw_gd [sw_nxa (wr_I (wr_R (wr_N (wr_I (wr_R (wr_N (wr_R (wr_N M) a0 17 (rd_N M + 1))) a0 22 (rd_N M + 2)) a0 33 (-1 : Int32))) a0 34 (rd_N M + 3)) a0 51 (60 : Int32)) 13 (6 : Int32)] (sw_gd [sw_ok (wr_N (wr_I (wr_R (wr_N (wr_I (wr_R (wr_N (wr_R (wr_N M) a0 17 (rd_N M + 1))) a0 22 (rd_N M + 2)) a0 33 (-1 : Int32))) a0 34 (rd_N M + 3)) a0 51 (60 : Int32))) a0 12] (f_Model_init_133 N a0 (wr_R (wr_N (wr_I (wr_R (wr_N (wr_I (wr_R (wr_N (wr_R (wr_N M) a0 17 (rd_N M + 1))) a0 22 (rd_N M + 2)) a0 33 (-1 : Int32))) a0 34 (rd_N M + 3)) a0 51 (60 : Int32))) a0 52 (rd_N M + 4))))))))))
set_option maxRecDepth 10000 in
theorem t_Model_init_89 {g : sw_G} {d n0 : Nat} (hd : 2 ≤ d) {r : sw_M} {N : Nat} {a0 : Nat} {M : sw_M} (hf : f_Model_init_89 N a0 M = some r) : sw_F g k_Model_init d n0 none r 89 [(0, .ref a0)] [] M := by
  unfold f_Model_init_89 at hf
  obtain ⟨h1, hf⟩ := sw_gd_1 hf
  obtain ⟨h2, hf⟩ := sw_gd_1 hf
  obtain ⟨h3, hf⟩ := sw_gd_1 hf
  obtain ⟨h4, hf⟩ := sw_gd_1 hf
  obtain ⟨h5, hf⟩ := sw_gd_1 hf
  obtain ⟨h6, hf⟩ := sw_gd_1 hf
  obtain ⟨h7, hf⟩ := sw_gd_1 hf
  obtain ⟨h8, hf⟩ := sw_gd_1 hf
  refine sf_blk [(.aload_n 0, 0, 0, .null), (.bipush (96), 0, 0, .int (96 : Int32)), (.newarray .int, 13, 0, .null), (.putfield 44, 12, 17, .null), (.aload_n 0, 0, 0, .null), (.sipush (500), 0, 0, .int (500 : Int32)), (.newarray .int, 13, 0, .null), (.putfield 47, 12, 22, .null), (.aload_n 0, 0, 0, .null), (.iconst (-1), 0, 0, .int (-1 : Int32)), (.putfield 50, 12, 33, .null), (.aload_n 0, 0, 0, .null), (.bipush (64), 0, 0, .int (64 : Int32)), (.newarray .int, 13, 0, .null), (.putfield 53, 12, 34, .null), (.aload_n 0, 0, 0, .null), (.bipush (60), 0, 0, .int (60 : Int32)), (.putfield 56, 12, 51, .null), (.aload_n 0, 0, 0, .null), (.bipush (6), 0, 0, .int (6 : Int32)), (.newarray .int, 13, 0, .null), (.putfield 59, 12, 52, .null)] (lv' := [(0, .ref a0)]) (st' := []) (M1 := (wr_R (wr_N (wr_I (wr_R (wr_N (wr_I (wr_R (wr_N (wr_R (wr_N M) a0 17 (rd_N M + 1))) a0 22 (rd_N M + 2)) a0 33 (-1 : Int32))) a0 34 (rd_N M + 3)) a0 51 (60 : Int32))) a0 52 (rd_N M + 4))) (ob := [sw_nxa M 13 (96 : Int32), sw_ok (wr_N M) a0 12, sw_nxa (wr_R (wr_N M) a0 17 (rd_N M + 1)) 13 (500 : Int32), sw_ok (wr_N (wr_R (wr_N M) a0 17 (rd_N M + 1))) a0 12, sw_ok (wr_R (wr_N (wr_R (wr_N M) a0 17 (rd_N M + 1))) a0 22 (rd_N M + 2)) a0 12, sw_nxa (wr_I (wr_R (wr_N (wr_R (wr_N M) a0 17 (rd_N M + 1))) a0 22 (rd_N M + 2)) a0 33 (-1 : Int32)) 13 (64 : Int32), sw_ok (wr_N (wr_I (wr_R (wr_N (wr_R (wr_N M) a0 17 (rd_N M + 1))) a0 22 (rd_N M + 2)) a0 33 (-1 : Int32))) a0 12, sw_ok (wr_R (wr_N (wr_I (wr_R (wr_N (wr_R (wr_N M) a0 17 (rd_N M + 1))) a0 22 (rd_N M + 2)) a0 33 (-1 : Int32))) a0 34 (rd_N M + 3)) a0 12, sw_nxa (wr_I (wr_R (wr_N (wr_I (wr_R (wr_N (wr_R (wr_N M) a0 17 (rd_N M + 1))) a0 22 (rd_N M + 2)) a0 33 (-1 : Int32))) a0 34 (rd_N M + 3)) a0 51 (60 : Int32)) 13 (6 : Int32), sw_ok (wr_N (wr_I (wr_R (wr_N (wr_I (wr_R (wr_N (wr_R (wr_N M) a0 17 (rd_N M + 1))) a0 22 (rd_N M + 2)) a0 33 (-1 : Int32))) a0 34 (rd_N M + 3)) a0 51 (60 : Int32))) a0 12]) (pc' := 133) (by decide +kernel) rfl rfl (sw_a1 h1 (sw_a1 h2 (sw_a1 h3 (sw_a1 h4 (sw_a1 h4 (sw_a1 h5 (sw_a1 h6 (sw_a1 h6 (sw_a1 h7 (sw_a1 h8 sw_a0)))))))))) ?_
  exact sf_weak [0] rfl (t_Model_init_133 hd hf)
def f_Model_init_44 (N : Nat) (a0 : Nat) (M : sw_M) : Option (sw_M) :=
  sw_gd [sw_nxa M 13 (16 : Int32)] (sw_gd [sw_ok (wr_N M) a0 12] (sw_gd [sw_nxa (wr_R (wr_N M) a0 6 (rd_N M + 1)) 13 (16 : Int32)] (sw_gd [sw_ok (wr_N (wr_R (wr_N M) a0 6 (rd_N M + 1))) a0 12] (sw_gd [sw_nxa (wr_R (wr_N (wr_R (wr_N M) a0 6 (rd_N M + 1))) a0 7 (rd_N M + 2)) 13 (16 : Int32)] (sw_gd [sw_ok (wr_N (wr_R (wr_N (wr_R (wr_N M) a0 6 (rd_N M + 1))) a0 7 (rd_N M + 2))) a0 12] (sw_gd [sw_nxa (wr_R (wr_N (wr_R (wr_N (wr_R (wr_N M) a0 6 (rd_N M + 1))) a0 7 (rd_N M + 2))) a0 8 (rd_N M + 3)) 13 (16 : Int32)] (sw_gd [sw_ok (wr_N (wr_R (wr_N (wr_R (wr_N (wr_R (wr_N M) a0 6 (rd_N M + 1))) a0 7 (rd_N M + 2))) a0 8 (rd_N M + 3))) a0 12] (sw_gd [sw_nxa (wr_I (wr_R (wr_N (wr_R (wr_N (wr_R (wr_N (wr_R (wr_N M) a0 6 (rd_N M + 1))) a0 7 (rd_N M + 2))) a0 8 (rd_N M + 3))) a0 9 (rd_N M + 4)) a0 13 (-1 : Int32)) 13 (96 : Int32)] (sw_gd [sw_ok (wr_N (wr_I (wr_R (wr_N (wr_R (wr_N (wr_R (wr_N (wr_R (wr_N M) a0 6 (rd_N M + 1))) a0 7 (rd_N M + 2))) a0 8 (rd_N M + 3))) a0 9 (rd_N M + 4)) a0 13 (-1 : Int32))) a0 12] (f_Model_init_89 N a0 (wr_R (wr_N (wr_I (wr_R (wr_N (wr_R (wr_N (wr_R (wr_N (wr_R (wr_N M) a0 6 (rd_N M + 1))) a0 7 (rd_N M + 2))) a0 8 (rd_N M + 3))) a0 9 (rd_N M + 4)) a0 13 (-1 : Int32))) a0 16 (rd_N M + 5))))))))))))
set_option maxRecDepth 10000 in
theorem t_Model_init_44 {g : sw_G} {d n0 : Nat} (hd : 2 ≤ d) {r : sw_M} {N : Nat} {a0 : Nat} {M : sw_M} (hf : f_Model_init_44 N a0 M = some r) : sw_F g k_Model_init d n0 none r 44 [(0, .ref a0)] [] M := by
  unfold f_Model_init_44 at hf
  obtain ⟨h1, hf⟩ := sw_gd_1 hf
  obtain ⟨h2, hf⟩ := sw_gd_1 hf
  obtain ⟨h3, hf⟩ := sw_gd_1 hf
  obtain ⟨h4, hf⟩ := sw_gd_1 hf
  obtain ⟨h5, hf⟩ := sw_gd_1 hf
  obtain ⟨h6, hf⟩ := sw_gd_1 hf
  obtain ⟨h7, hf⟩ := sw_gd_1 hf
  obtain ⟨h8, hf⟩ := sw_gd_1 hf
  obtain ⟨h9, hf⟩ := sw_gd_1 hf
  obtain ⟨h10, hf⟩ := sw_gd_1 hf
  refine sf_blk [(.aload_n 0, 0, 0, .null), (.bipush (16), 0, 0, .int (16 : Int32)), (.newarray .int, 13, 0, .null), (.putfield 25, 12, 6, .null), (.aload_n 0, 0, 0, .null), (.bipush (16), 0, 0, .int (16 : Int32)), (.newarray .int, 13, 0, .null), (.putfield 28, 12, 7, .null), (.aload_n 0, 0, 0, .null), (.bipush (16), 0, 0, .int (16 : Int32)), (.newarray .int, 13, 0, .null), (.putfield 31, 12, 8, .null), (.aload_n 0, 0, 0, .null), (.bipush (16), 0, 0, .int (16 : Int32)), (.newarray .int, 13, 0, .null), (.putfield 34, 12, 9, .null), (.aload_n 0, 0, 0, .null), (.iconst (-1), 0, 0, .int (-1 : Int32)), (.putfield 37, 12, 13, .null), (.aload_n 0, 0, 0, .null), (.bipush (96), 0, 0, .int (96 : Int32)), (.newarray .int, 13, 0, .null), (.putfield 41, 12, 16, .null)] (lv' := [(0, .ref a0)]) (st' := []) (M1 := (wr_R (wr_N (wr_I (wr_R (wr_N (wr_R (wr_N (wr_R (wr_N (wr_R (wr_N M) a0 6 (rd_N M + 1))) a0 7 (rd_N M + 2))) a0 8 (rd_N M + 3))) a0 9 (rd_N M + 4)) a0 13 (-1 : Int32))) a0 16 (rd_N M + 5))) (ob := [sw_nxa M 13 (16 : Int32), sw_ok (wr_N M) a0 12, sw_nxa (wr_R (wr_N M) a0 6 (rd_N M + 1)) 13 (16 : Int32), sw_ok (wr_N (wr_R (wr_N M) a0 6 (rd_N M + 1))) a0 12, sw_nxa (wr_R (wr_N (wr_R (wr_N M) a0 6 (rd_N M + 1))) a0 7 (rd_N M + 2)) 13 (16 : Int32), sw_ok (wr_N (wr_R (wr_N (wr_R (wr_N M) a0 6 (rd_N M + 1))) a0 7 (rd_N M + 2))) a0 12, sw_nxa (wr_R (wr_N (wr_R (wr_N (wr_R (wr_N M) a0 6 (rd_N M + 1))) a0 7 (rd_N M + 2))) a0 8 (rd_N M + 3)) 13 (16 : Int32), sw_ok (wr_N (wr_R (wr_N (wr_R (wr_N (wr_R (wr_N M) a0 6 (rd_N M + 1))) a0 7 (rd_N M + 2))) a0 8 (rd_N M + 3))) a0 12, sw_ok (wr_R (wr_N (wr_R (wr_N (wr_R (wr_N (wr_R (wr_N M) a0 6 (rd_N M + 1))) a0 7 (rd_N M + 2))) a0 8 (rd_N M + 3))) a0 9 (rd_N M + 4)) a0 12, sw_nxa (wr_I (wr_R (wr_N (wr_R (wr_N (wr_R (wr_N (wr_R (wr_N M) a0 6 (rd_N M + 1))) a0 7 (rd_N M + 2))) a0 8 (rd_N M + 3))) a0 9 (rd_N M + 4)) a0 13 (-1 : Int32)) 13 (96 : Int32), sw_ok (wr_N (wr_I (wr_R (wr_N (wr_R (wr_N (wr_R (wr_N (wr_R (wr_N M) a0 6 (rd_N M + 1))) a0 7 (rd_N M + 2))) a0 8 (rd_N M + 3))) a0 9 (rd_N M + 4)) a0 13 (-1 : Int32))) a0 12]) (pc' := 89) (by decide +kernel) rfl rfl (sw_a1 h1 (sw_a1 h2 (sw_a1 h3 (sw_a1 h4 (sw_a1 h5 (sw_a1 h6 (sw_a1 h7 (sw_a1 h8 (sw_a1 h8 (sw_a1 h9 (sw_a1 h10 sw_a0))))))))))) ?_
  exact sf_weak [0] rfl (t_Model_init_89 hd hf)
def f_Model_init (N : Nat) (a0 : Nat) (M : sw_M) : Option (sw_M) :=
  sw_gd [sw_ok M a0 12] (sw_gd [sw_nxa M 13 (16 : Int32)] (sw_gd [sw_ok (wr_N M) a0 12] (sw_gd [sw_nxa (wr_R (wr_N M) a0 1 (rd_N M + 1)) 13 (16 : Int32)] (sw_gd [sw_ok (wr_N (wr_R (wr_N M) a0 1 (rd_N M + 1))) a0 12] (sw_gd [sw_nxa (wr_R (wr_N (wr_R (wr_N M) a0 1 (rd_N M + 1))) a0 2 (rd_N M + 2)) 13 (16 : Int32)] (sw_gd [sw_ok (wr_N (wr_R (wr_N (wr_R (wr_N M) a0 1 (rd_N M + 1))) a0 2 (rd_N M + 2))) a0 12] (sw_gd [sw_nxa (wr_R (wr_N (wr_R (wr_N (wr_R (wr_N M) a0 1 (rd_N M + 1))) a0 2 (rd_N M + 2))) a0 3 (rd_N M + 3)) 13 (16 : Int32)] (sw_gd [sw_ok (wr_N (wr_R (wr_N (wr_R (wr_N (wr_R (wr_N M) a0 1 (rd_N M + 1))) a0 2 (rd_N M + 2))) a0 3 (rd_N M + 3))) a0 12] (sw_gd [sw_nxa (wr_R (wr_N (wr_R (wr_N (wr_R (wr_N (wr_R (wr_N M) a0 1 (rd_N M + 1))) a0 2 (rd_N M + 2))) a0 3 (rd_N M + 3))) a0 4 (rd_N M + 4)) 13 (16 : Int32)] (sw_gd [sw_ok (wr_N (wr_R (wr_N (wr_R (wr_N (wr_R (wr_N (wr_R (wr_N M) a0 1 (rd_N M + 1))) a0 2 (rd_N M + 2))) a0 3 (rd_N M + 3))) a0 4 (rd_N M + 4))) a0 12] (f_Model_init_44 N a0 (wr_R (wr_N (wr_R (wr_N (wr_R (wr_N (wr_R (wr_N (wr_R (wr_N M) a0 1 (rd_N M + 1))) a0 2 (rd_N M + 2))) a0 3 (rd_N M + 3))) a0 4 (rd_N M + 4))) a0 5 (rd_N M + 5)))))))))))))
set_option maxRecDepth 10000 in
theorem t_Model_init {g : sw_G} {d n0 : Nat} (hd : 2 ≤ d) {r : sw_M} {N : Nat} {a0 : Nat} {M : sw_M} (hf : f_Model_init N a0 M = some r) : sw_F g k_Model_init d n0 none r 0 [(0, .ref a0)] [] M := by
  unfold f_Model_init at hf
  obtain ⟨h1, hf⟩ := sw_gd_1 hf
  refine sf_blk [(.aload_n 0, 0, 0, .null)] (lv' := [(0, .ref a0)]) (st' := [.ref a0]) (M1 := M) (ob := []) (pc' := 1) (by decide +kernel) rfl rfl sw_a0 ?_
  refine sf_obj (i := 1) (st := []) (sw_m5 224 (by decide +kernel)) sw_t_oi sw_t_oc (by decide +kernel) (by omega) (Nat.le_of_ble_eq_true rfl) (sw_ok_ne h1) ?_
  show sw_F _ _ _ _ _ _ 4 [(0, .ref a0)] [] M
  obtain ⟨h2, hf⟩ := sw_gd_1 hf
  obtain ⟨h3, hf⟩ := sw_gd_1 hf
  obtain ⟨h4, hf⟩ := sw_gd_1 hf
  obtain ⟨h5, hf⟩ := sw_gd_1 hf
  obtain ⟨h6, hf⟩ := sw_gd_1 hf
  obtain ⟨h7, hf⟩ := sw_gd_1 hf
  obtain ⟨h8, hf⟩ := sw_gd_1 hf
  obtain ⟨h9, hf⟩ := sw_gd_1 hf
  obtain ⟨h10, hf⟩ := sw_gd_1 hf
  obtain ⟨h11, hf⟩ := sw_gd_1 hf
  refine sf_blk [(.aload_n 0, 0, 0, .null), (.bipush (16), 0, 0, .int (16 : Int32)), (.newarray .int, 13, 0, .null), (.putfield 7, 12, 1, .null), (.aload_n 0, 0, 0, .null), (.bipush (16), 0, 0, .int (16 : Int32)), (.newarray .int, 13, 0, .null), (.putfield 13, 12, 2, .null), (.aload_n 0, 0, 0, .null), (.bipush (16), 0, 0, .int (16 : Int32)), (.newarray .int, 13, 0, .null), (.putfield 16, 12, 3, .null), (.aload_n 0, 0, 0, .null), (.bipush (16), 0, 0, .int (16 : Int32)), (.newarray .int, 13, 0, .null), (.putfield 19, 12, 4, .null), (.aload_n 0, 0, 0, .null), (.bipush (16), 0, 0, .int (16 : Int32)), (.newarray .int, 13, 0, .null), (.putfield 22, 12, 5, .null)] (lv' := [(0, .ref a0)]) (st' := []) (M1 := (wr_R (wr_N (wr_R (wr_N (wr_R (wr_N (wr_R (wr_N (wr_R (wr_N M) a0 1 (rd_N M + 1))) a0 2 (rd_N M + 2))) a0 3 (rd_N M + 3))) a0 4 (rd_N M + 4))) a0 5 (rd_N M + 5))) (ob := [sw_nxa M 13 (16 : Int32), sw_ok (wr_N M) a0 12, sw_nxa (wr_R (wr_N M) a0 1 (rd_N M + 1)) 13 (16 : Int32), sw_ok (wr_N (wr_R (wr_N M) a0 1 (rd_N M + 1))) a0 12, sw_nxa (wr_R (wr_N (wr_R (wr_N M) a0 1 (rd_N M + 1))) a0 2 (rd_N M + 2)) 13 (16 : Int32), sw_ok (wr_N (wr_R (wr_N (wr_R (wr_N M) a0 1 (rd_N M + 1))) a0 2 (rd_N M + 2))) a0 12, sw_nxa (wr_R (wr_N (wr_R (wr_N (wr_R (wr_N M) a0 1 (rd_N M + 1))) a0 2 (rd_N M + 2))) a0 3 (rd_N M + 3)) 13 (16 : Int32), sw_ok (wr_N (wr_R (wr_N (wr_R (wr_N (wr_R (wr_N M) a0 1 (rd_N M + 1))) a0 2 (rd_N M + 2))) a0 3 (rd_N M + 3))) a0 12, sw_nxa (wr_R (wr_N (wr_R (wr_N (wr_R (wr_N (wr_R (wr_N M) a0 1 (rd_N M + 1))) a0 2 (rd_N M + 2))) a0 3 (rd_N M + 3))) a0 4 (rd_N M + 4)) 13 (16 : Int32), sw_ok (wr_N (wr_R (wr_N (wr_R (wr_N (wr_R (wr_N (wr_R (wr_N M) a0 1 (rd_N M + 1))) a0 2 (rd_N M + 2))) a0 3 (rd_N M + 3))) a0 4 (rd_N M + 4))) a0 12]) (pc' := 44) (by decide +kernel) rfl rfl (sw_a1 h2 (sw_a1 h3 (sw_a1 h4 (sw_a1 h5 (sw_a1 h6 (sw_a1 h7 (sw_a1 h8 (sw_a1 h9 (sw_a1 h10 (sw_a1 h11 sw_a0)))))))))) ?_
  exact sf_weak [0] rfl (t_Model_init_44 hd hf)
theorem o_Model_init (g : sw_G) {d : Nat} (hd : 2 ≤ d) {N : Nat} {a0 : Nat} {M : sw_M} {r : sw_M} (hf : f_Model_init N a0 M = some r) : sw_Ok g k_Model_init d [.ref a0] M none r := sf_met (by decide +kernel) rfl (by decide) (Nat.le_of_ble_eq_true rfl) (t_Model_init hd hf)
def f_Model_feed_73 (N : Nat) (k20 : Nat → Int32 → Int32 → Int32 → Int32 → Int32 → Int32 → sw_M → Option (Int32 × sw_M)) (a0 : Nat) (a1 : Int32) (a2 : Int32) (a3 : Int32) (a4 : Int32) (a5 : Int32) (a6 : Int32) (b0 : Int32) (M : sw_M) : Option (Int32 × sw_M) :=
  sw_gd [sw_ok M a0 12] (sw_gd [sw_ar M (rd_R M a0 22) 13 ((rd_I M a0 23) + a6)] (k20 a0 a1 a2 a3 a4 a5 (a6 + (1 : Int32)) (wr_I M (rd_R M a0 22) ((rd_I M a0 23) + a6).toNatClampNeg ((b0 >>> (((24 : Int32) - ((8 : Int32) * (a6 - a6 / (4 : Int32) * (4 : Int32)))) &&& 31)) &&& (255 : Int32)))))
set_option maxRecDepth 10000 in
theorem t_Model_feed_73 {g : sw_G} {d n0 : Nat} (hd : 1 ≤ d) {r : Int32 × sw_M} (k20 : Nat → Int32 → Int32 → Int32 → Int32 → Int32 → Int32 → sw_M → Option (Int32 × sw_M)) (hk20 : ∀ (a0 : Nat) (a1 : Int32) (a2 : Int32) (a3 : Int32) (a4 : Int32) (a5 : Int32) (a6 : Int32) (M : sw_M), k20 a0 a1 a2 a3 a4 a5 a6 M = some r → sw_F g k_Model_feed d n0 (some (.int r.1)) r.2 20 [(0, .ref a0), (1, .int a1), (2, .int a2), (3, .int a3), (4, .int a4), (5, .int a5), (6, .int a6)] [] M) {N : Nat} {a0 : Nat} {a1 : Int32} {a2 : Int32} {a3 : Int32} {a4 : Int32} {a5 : Int32} {a6 : Int32} {b0 : Int32} {M : sw_M} (hf : f_Model_feed_73 N k20 a0 a1 a2 a3 a4 a5 a6 b0 M = some r) : sw_F g k_Model_feed d n0 (some (.int r.1)) r.2 73 [(0, .ref a0), (1, .int a1), (2, .int a2), (3, .int a3), (4, .int a4), (5, .int a5), (6, .int a6)] [.int b0] M := by
  unfold f_Model_feed_73 at hf
  obtain ⟨h1, hf⟩ := sw_gd_1 hf
  obtain ⟨h2, hf⟩ := sw_gd_1 hf
  refine sf_blk [(.istore 7, 0, 0, .null), (.aload_n 0, 0, 0, .null), (.getfield 47, 12, 22, .null), (.aload_n 0, 0, 0, .null), (.getfield 169, 12, 23, .null), (.iload 6, 0, 0, .null), (.iadd, 0, 0, .null), (.iload 7, 0, 0, .null), (.bipush (24), 0, 0, .int (24 : Int32)), (.bipush (8), 0, 0, .int (8 : Int32)), (.iload 6, 0, 0, .null), (.iconst (4), 0, 0, .int (4 : Int32)), (.irem, 0, 0, .null), (.imul, 0, 0, .null), (.isub, 0, 0, .null), (.ishr, 0, 0, .null), (.sipush (255), 0, 0, .int (255 : Int32)), (.iand, 0, 0, .null), (.iastore, 0, 0, .null), (.iinc 6 (1), 0, 0, .int (1 : Int32))] (lv' := [(6, .int (a6 + (1 : Int32))), (7, .int b0), (0, .ref a0), (1, .int a1), (2, .int a2), (3, .int a3), (4, .int a4), (5, .int a5)]) (st' := []) (M1 := (wr_I M (rd_R M a0 22) ((rd_I M a0 23) + a6).toNatClampNeg ((b0 >>> (((24 : Int32) - ((8 : Int32) * (a6 - a6 / (4 : Int32) * (4 : Int32)))) &&& 31)) &&& (255 : Int32)))) (ob := [sw_ok M a0 12, sw_ok M a0 12, decide (¬ (4 : Int32) = 0), sw_ar M (rd_R M a0 22) 13 ((rd_I M a0 23) + a6)]) (pc' := 107) (by decide +kernel) rfl rfl (sw_a1 h1 (sw_a1 h1 (sw_a1 (by decide) (sw_a1 h2 sw_a0)))) ?_
  refine sf_goto (off := -87) (tgt := 20) (by decide +kernel) (by decide) ?_
  exact sf_weak [2, 3, 4, 5, 6, 7, 0] rfl (hk20 _ _ _ _ _ _ _ _ hf)
def f_Model_feed_20 (N : Nat) : Nat → Nat → Int32 → Int32 → Int32 → Int32 → Int32 → Int32 → sw_M → Option (Int32 × sw_M)
  | 0, _, _, _, _, _, _, _, _ => none
  | j + 1, a0, a1, a2, a3, a4, a5, a6, M =>
  if (20 : Int32) ≤ a6 then sw_gd [sw_ok M a0 12] (some ((rd_I (wr_I M a0 23 ((rd_I M a0 23) + (20 : Int32))) a0 23), (wr_I M a0 23 ((rd_I M a0 23) + (20 : Int32)))))
  else if (4 : Int32) ≤ a6 then if (8 : Int32) ≤ a6 then if (12 : Int32) ≤ a6 then if (16 : Int32) ≤ a6 then f_Model_feed_73 N (f_Model_feed_20 N j) a0 a1 a2 a3 a4 a5 a6 a5 M
  else f_Model_feed_73 N (f_Model_feed_20 N j) a0 a1 a2 a3 a4 a5 a6 a4 M
  else f_Model_feed_73 N (f_Model_feed_20 N j) a0 a1 a2 a3 a4 a5 a6 a3 M
  else f_Model_feed_73 N (f_Model_feed_20 N j) a0 a1 a2 a3 a4 a5 a6 a2 M
  else f_Model_feed_73 N (f_Model_feed_20 N j) a0 a1 a2 a3 a4 a5 a6 a1 M
set_option maxRecDepth 10000 in
theorem t_Model_feed_20 {g : sw_G} {d n0 : Nat} (hd : 1 ≤ d) {r : Int32 × sw_M} {N : Nat} : ∀ (j : Nat) (a0 : Nat) (a1 : Int32) (a2 : Int32) (a3 : Int32) (a4 : Int32) (a5 : Int32) (a6 : Int32) (M : sw_M), f_Model_feed_20 N j a0 a1 a2 a3 a4 a5 a6 M = some r → sw_F g k_Model_feed d n0 (some (.int r.1)) r.2 20 [(0, .ref a0), (1, .int a1), (2, .int a2), (3, .int a3), (4, .int a4), (5, .int a5), (6, .int a6)] [] M := by
  intro j
  induction j with
  | zero =>
    intro a0 a1 a2 a3 a4 a5 a6 M hf
    rw [f_Model_feed_20] at hf
    cases hf
  | succ j ih =>
    intro a0 a1 a2 a3 a4 a5 a6 M hf
    rw [f_Model_feed_20] at hf
    refine sf_blk [(.iload 6, 0, 0, .null), (.bipush (20), 0, 0, .int (20 : Int32))] (lv' := [(0, .ref a0), (1, .int a1), (2, .int a2), (3, .int a3), (4, .int a4), (5, .int a5), (6, .int a6)]) (st' := [.int (20 : Int32), .int a6]) (M1 := M) (ob := []) (pc' := 24) (by decide +kernel) rfl rfl sw_a0 ?_
    refine sf_j_ge (off := 86) (tgt := 110) (by decide +kernel) (by decide) hf (fun hc hf => ?_) (fun hc hf => ?_)
    · obtain ⟨h1, hf⟩ := sw_gd_1 hf
      refine sf_blk [(.aload_n 0, 0, 0, .null), (.dup, 0, 0, .null), (.getfield 169, 12, 23, .null), (.bipush (20), 0, 0, .int (20 : Int32)), (.iadd, 0, 0, .null), (.putfield 169, 12, 23, .null), (.aload_n 0, 0, 0, .null), (.getfield 169, 12, 23, .null)] (lv' := [(0, .ref a0), (1, .int a1), (2, .int a2), (3, .int a3), (4, .int a4), (5, .int a5), (6, .int a6)]) (st' := [.int (rd_I (wr_I M a0 23 ((rd_I M a0 23) + (20 : Int32))) a0 23)]) (M1 := (wr_I M a0 23 ((rd_I M a0 23) + (20 : Int32)))) (ob := [sw_ok M a0 12, sw_ok M a0 12, sw_ok (wr_I M a0 23 ((rd_I M a0 23) + (20 : Int32))) a0 12]) (pc' := 125) (by decide +kernel) rfl rfl (sw_a1 h1 (sw_a1 h1 (sw_a1 h1 sw_a0))) ?_
      cases hf
      exact sf_int rfl (by decide +kernel)
    · refine sf_blk [(.iload 6, 0, 0, .null), (.iconst (4), 0, 0, .int (4 : Int32))] (lv' := [(0, .ref a0), (1, .int a1), (2, .int a2), (3, .int a3), (4, .int a4), (5, .int a5), (6, .int a6)]) (st' := [.int (4 : Int32), .int a6]) (M1 := M) (ob := []) (pc' := 30) (by decide +kernel) rfl rfl sw_a0 ?_
      refine sf_j_ge (off := 7) (tgt := 37) (by decide +kernel) (by decide) hf (fun hc hf => ?_) (fun hc hf => ?_)
      · refine sf_blk [(.iload 6, 0, 0, .null), (.bipush (8), 0, 0, .int (8 : Int32))] (lv' := [(0, .ref a0), (1, .int a1), (2, .int a2), (3, .int a3), (4, .int a4), (5, .int a5), (6, .int a6)]) (st' := [.int (8 : Int32), .int a6]) (M1 := M) (ob := []) (pc' := 41) (by decide +kernel) rfl rfl sw_a0 ?_
        refine sf_j_ge (off := 7) (tgt := 48) (by decide +kernel) (by decide) hf (fun hc hf => ?_) (fun hc hf => ?_)
        · refine sf_blk [(.iload 6, 0, 0, .null), (.bipush (12), 0, 0, .int (12 : Int32))] (lv' := [(0, .ref a0), (1, .int a1), (2, .int a2), (3, .int a3), (4, .int a4), (5, .int a5), (6, .int a6)]) (st' := [.int (12 : Int32), .int a6]) (M1 := M) (ob := []) (pc' := 52) (by decide +kernel) rfl rfl sw_a0 ?_
          refine sf_j_ge (off := 7) (tgt := 59) (by decide +kernel) (by decide) hf (fun hc hf => ?_) (fun hc hf => ?_)
          · refine sf_blk [(.iload 6, 0, 0, .null), (.bipush (16), 0, 0, .int (16 : Int32))] (lv' := [(0, .ref a0), (1, .int a1), (2, .int a2), (3, .int a3), (4, .int a4), (5, .int a5), (6, .int a6)]) (st' := [.int (16 : Int32), .int a6]) (M1 := M) (ob := []) (pc' := 63) (by decide +kernel) rfl rfl sw_a0 ?_
            refine sf_j_ge (off := 8) (tgt := 71) (by decide +kernel) (by decide) hf (fun hc hf => ?_) (fun hc hf => ?_)
            · refine sf_blk [(.iload 5, 0, 0, .null)] (lv' := [(0, .ref a0), (1, .int a1), (2, .int a2), (3, .int a3), (4, .int a4), (5, .int a5), (6, .int a6)]) (st' := [.int a5]) (M1 := M) (ob := []) (pc' := 73) (by decide +kernel) rfl rfl sw_a0 ?_
              exact sf_weak [0, 1, 2, 3, 4, 5, 6] rfl (t_Model_feed_73 hd _ ih hf)
            · refine sf_blk [(.iload 4, 0, 0, .null)] (lv' := [(0, .ref a0), (1, .int a1), (2, .int a2), (3, .int a3), (4, .int a4), (5, .int a5), (6, .int a6)]) (st' := [.int a4]) (M1 := M) (ob := []) (pc' := 68) (by decide +kernel) rfl rfl sw_a0 ?_
              refine sf_goto (off := 5) (tgt := 73) (by decide +kernel) (by decide) ?_
              exact sf_weak [0, 1, 2, 3, 4, 5, 6] rfl (t_Model_feed_73 hd _ ih hf)
          · refine sf_blk [(.iload_n 3, 0, 0, .null)] (lv' := [(0, .ref a0), (1, .int a1), (2, .int a2), (3, .int a3), (4, .int a4), (5, .int a5), (6, .int a6)]) (st' := [.int a3]) (M1 := M) (ob := []) (pc' := 56) (by decide +kernel) rfl rfl sw_a0 ?_
            refine sf_goto (off := 17) (tgt := 73) (by decide +kernel) (by decide) ?_
            exact sf_weak [0, 1, 2, 3, 4, 5, 6] rfl (t_Model_feed_73 hd _ ih hf)
        · refine sf_blk [(.iload_n 2, 0, 0, .null)] (lv' := [(0, .ref a0), (1, .int a1), (2, .int a2), (3, .int a3), (4, .int a4), (5, .int a5), (6, .int a6)]) (st' := [.int a2]) (M1 := M) (ob := []) (pc' := 45) (by decide +kernel) rfl rfl sw_a0 ?_
          refine sf_goto (off := 28) (tgt := 73) (by decide +kernel) (by decide) ?_
          exact sf_weak [0, 1, 2, 3, 4, 5, 6] rfl (t_Model_feed_73 hd _ ih hf)
      · refine sf_blk [(.iload_n 1, 0, 0, .null)] (lv' := [(0, .ref a0), (1, .int a1), (2, .int a2), (3, .int a3), (4, .int a4), (5, .int a5), (6, .int a6)]) (st' := [.int a1]) (M1 := M) (ob := []) (pc' := 34) (by decide +kernel) rfl rfl sw_a0 ?_
        refine sf_goto (off := 39) (tgt := 73) (by decide +kernel) (by decide) ?_
        exact sf_weak [0, 1, 2, 3, 4, 5, 6] rfl (t_Model_feed_73 hd _ ih hf)
def f_Model_feed (N : Nat) (a0 : Nat) (a1 : Int32) (a2 : Int32) (a3 : Int32) (a4 : Int32) (a5 : Int32) (M : sw_M) : Option (Int32 × sw_M) :=
  sw_gd [sw_ok M a0 12] (if (rd_I (wr_I M a0 0 (0 : Int32)) a0 23) ≤ (480 : Int32) then f_Model_feed_20 N N a0 a1 a2 a3 a4 a5 (0 : Int32) (wr_I M a0 0 (0 : Int32))
  else some ((-1 : Int32), (wr_I M a0 0 (0 : Int32))))
set_option maxRecDepth 10000 in
theorem t_Model_feed {g : sw_G} {d n0 : Nat} (hd : 1 ≤ d) {r : Int32 × sw_M} {N : Nat} {a0 : Nat} {a1 : Int32} {a2 : Int32} {a3 : Int32} {a4 : Int32} {a5 : Int32} {M : sw_M} (hf : f_Model_feed N a0 a1 a2 a3 a4 a5 M = some r) : sw_F g k_Model_feed d n0 (some (.int r.1)) r.2 0 [(0, .ref a0), (1, .int a1), (2, .int a2), (3, .int a3), (4, .int a4), (5, .int a5)] [] M := by
  unfold f_Model_feed at hf
  obtain ⟨h1, hf⟩ := sw_gd_1 hf
  refine sf_blk [(.aload_n 0, 0, 0, .null), (.iconst (0), 0, 0, .int (0 : Int32)), (.putfield 166, 12, 0, .null), (.aload_n 0, 0, 0, .null), (.getfield 169, 12, 23, .null), (.sipush (480), 0, 0, .int (480 : Int32))] (lv' := [(0, .ref a0), (1, .int a1), (2, .int a2), (3, .int a3), (4, .int a4), (5, .int a5)]) (st' := [.int (480 : Int32), .int (rd_I (wr_I M a0 0 (0 : Int32)) a0 23)]) (M1 := (wr_I M a0 0 (0 : Int32))) (ob := [sw_ok M a0 12, sw_ok (wr_I M a0 0 (0 : Int32)) a0 12]) (pc' := 12) (by decide +kernel) rfl rfl (sw_a1 h1 (sw_a1 h1 sw_a0)) ?_
  refine sf_j_le (off := 5) (tgt := 17) (by decide +kernel) (by decide) hf (fun hc hf => ?_) (fun hc hf => ?_)
  · refine sf_blk [(.iconst (0), 0, 0, .int (0 : Int32)), (.istore 6, 0, 0, .null)] (lv' := [(6, .int (0 : Int32)), (0, .ref a0), (1, .int a1), (2, .int a2), (3, .int a3), (4, .int a4), (5, .int a5)]) (st' := []) (M1 := (wr_I M a0 0 (0 : Int32))) (ob := []) (pc' := 20) (by decide +kernel) rfl rfl sw_a0 ?_
    exact sf_weak [1, 2, 3, 4, 5, 6, 0] rfl (t_Model_feed_20 hd _ _ _ _ _ _ _ _ _ hf)
  · refine sf_blk [(.iconst (-1), 0, 0, .int (-1 : Int32))] (lv' := [(0, .ref a0), (1, .int a1), (2, .int a2), (3, .int a3), (4, .int a4), (5, .int a5)]) (st' := [.int (-1 : Int32)]) (M1 := (wr_I M a0 0 (0 : Int32))) (ob := []) (pc' := 16) (by decide +kernel) rfl rfl sw_a0 ?_
    cases hf
    exact sf_int rfl (by decide +kernel)
theorem o_Model_feed (g : sw_G) {d : Nat} (hd : 1 ≤ d) {N : Nat} {a0 : Nat} {a1 : Int32} {a2 : Int32} {a3 : Int32} {a4 : Int32} {a5 : Int32} {M : sw_M} {r : Int32 × sw_M} (hf : f_Model_feed N a0 a1 a2 a3 a4 a5 M = some r) : sw_Ok g k_Model_feed d [.ref a0, .int a1, .int a2, .int a3, .int a4, .int a5] M (some (.int r.1)) r.2 := sf_met (by decide +kernel) rfl (by decide) (Nat.le_of_ble_eq_true rfl) (t_Model_feed hd hf)
def f_Model_here (N : Nat) (a0 : Nat) (M : sw_M) : Option (Int32 × sw_M) :=
  sw_gd [sw_ok M a0 12] (if (rd_I M a0 24) ≤ (rd_I M a0 25) then some ((-1 : Int32), M)
  else sw_gd [sw_ar M (rd_R M a0 22) 13 (rd_I M a0 25)] (some ((rd_I M (rd_R M a0 22) (rd_I M a0 25).toNatClampNeg), M)))
set_option maxRecDepth 10000 in
theorem t_Model_here {g : sw_G} {d n0 : Nat} (hd : 1 ≤ d) {r : Int32 × sw_M} {N : Nat} {a0 : Nat} {M : sw_M} (hf : f_Model_here N a0 M = some r) : sw_F g k_Model_here d n0 (some (.int r.1)) r.2 0 [(0, .ref a0)] [] M := by
  unfold f_Model_here at hf
  obtain ⟨h1, hf⟩ := sw_gd_1 hf
  refine sf_blk [(.aload_n 0, 0, 0, .null), (.getfield 172, 12, 25, .null), (.aload_n 0, 0, 0, .null), (.getfield 175, 12, 24, .null)] (lv' := [(0, .ref a0)]) (st' := [.int (rd_I M a0 24), .int (rd_I M a0 25)]) (M1 := M) (ob := [sw_ok M a0 12, sw_ok M a0 12]) (pc' := 8) (by decide +kernel) rfl rfl (sw_a1 h1 (sw_a1 h1 sw_a0)) ?_
  refine sf_j_ge (off := 15) (tgt := 23) (by decide +kernel) (by decide) hf (fun hc hf => ?_) (fun hc hf => ?_)
  · refine sf_blk [(.iconst (-1), 0, 0, .int (-1 : Int32))] (lv' := [(0, .ref a0)]) (st' := [.int (-1 : Int32)]) (M1 := M) (ob := []) (pc' := 24) (by decide +kernel) rfl rfl sw_a0 ?_
    cases hf
    exact sf_int rfl (by decide +kernel)
  · obtain ⟨h2, hf⟩ := sw_gd_1 hf
    refine sf_blk [(.aload_n 0, 0, 0, .null), (.getfield 47, 12, 22, .null), (.aload_n 0, 0, 0, .null), (.getfield 172, 12, 25, .null), (.iaload, 0, 0, .null)] (lv' := [(0, .ref a0)]) (st' := [.int (rd_I M (rd_R M a0 22) (rd_I M a0 25).toNatClampNeg)]) (M1 := M) (ob := [sw_ok M a0 12, sw_ok M a0 12, sw_ar M (rd_R M a0 22) 13 (rd_I M a0 25)]) (pc' := 20) (by decide +kernel) rfl rfl (sw_a1 h1 (sw_a1 h1 (sw_a1 h2 sw_a0))) ?_
    refine sf_goto (off := 4) (tgt := 24) (by decide +kernel) (by decide) ?_
    cases hf
    exact sf_int rfl (by decide +kernel)
theorem o_Model_here (g : sw_G) {d : Nat} (hd : 1 ≤ d) {N : Nat} {a0 : Nat} {M : sw_M} {r : Int32 × sw_M} (hf : f_Model_here N a0 M = some r) : sw_Ok g k_Model_here d [.ref a0] M (some (.int r.1)) r.2 := sf_met (by decide +kernel) rfl (by decide) (Nat.le_of_ble_eq_true rfl) (t_Model_here hd hf)
def f_Model_isSmall (N : Nat) (a0 : Int32) (M : sw_M) : Option (Int32 × sw_M) :=
  if a0 < (97 : Int32) then some ((0 : Int32), M)
  else if (122 : Int32) < a0 then some ((0 : Int32), M)
  else some ((1 : Int32), M)
set_option maxRecDepth 10000 in
theorem t_Model_isSmall {g : sw_G} {d n0 : Nat} (hd : 1 ≤ d) {r : Int32 × sw_M} {N : Nat} {a0 : Int32} {M : sw_M} (hf : f_Model_isSmall N a0 M = some r) : sw_F g k_Model_isSmall d n0 (some (.int r.1)) r.2 0 [(0, .int a0)] [] M := by
  unfold f_Model_isSmall at hf
  refine sf_blk [(.iload_n 0, 0, 0, .null), (.bipush (97), 0, 0, .int (97 : Int32))] (lv' := [(0, .int a0)]) (st' := [.int (97 : Int32), .int a0]) (M1 := M) (ob := []) (pc' := 3) (by decide +kernel) rfl rfl sw_a0 ?_
  refine sf_j_lt (off := 13) (tgt := 16) (by decide +kernel) (by decide) hf (fun hc hf => ?_) (fun hc hf => ?_)
  · refine sf_blk [(.iconst (0), 0, 0, .int (0 : Int32))] (lv' := [(0, .int a0)]) (st' := [.int (0 : Int32)]) (M1 := M) (ob := []) (pc' := 17) (by decide +kernel) rfl rfl sw_a0 ?_
    cases hf
    exact sf_bool rfl rfl (by decide +kernel)
  · refine sf_blk [(.iload_n 0, 0, 0, .null), (.bipush (122), 0, 0, .int (122 : Int32))] (lv' := [(0, .int a0)]) (st' := [.int (122 : Int32), .int a0]) (M1 := M) (ob := []) (pc' := 9) (by decide +kernel) rfl rfl sw_a0 ?_
    refine sf_j_gt (off := 7) (tgt := 16) (by decide +kernel) (by decide) hf (fun hc hf => ?_) (fun hc hf => ?_)
    · refine sf_blk [(.iconst (0), 0, 0, .int (0 : Int32))] (lv' := [(0, .int a0)]) (st' := [.int (0 : Int32)]) (M1 := M) (ob := []) (pc' := 17) (by decide +kernel) rfl rfl sw_a0 ?_
      cases hf
      exact sf_bool rfl rfl (by decide +kernel)
    · refine sf_blk [(.iconst (1), 0, 0, .int (1 : Int32))] (lv' := [(0, .int a0)]) (st' := [.int (1 : Int32)]) (M1 := M) (ob := []) (pc' := 13) (by decide +kernel) rfl rfl sw_a0 ?_
      refine sf_goto (off := 4) (tgt := 17) (by decide +kernel) (by decide) ?_
      cases hf
      exact sf_bool rfl rfl (by decide +kernel)
theorem o_Model_isSmall (g : sw_G) {d : Nat} (hd : 1 ≤ d) {N : Nat} {a0 : Int32} {M : sw_M} {r : Int32 × sw_M} (hf : f_Model_isSmall N a0 M = some r) : sw_Ok g k_Model_isSmall d [.int a0] M (some (.int r.1)) r.2 := sf_met (by decide +kernel) rfl (by decide) (Nat.le_of_ble_eq_true rfl) (t_Model_isSmall hd hf)
def f_Model_word_97 (N : Nat) (k4 : Nat → Int32 → Int32 → sw_M → Option (Int32 × sw_M)) : Nat → Nat → Int32 → Int32 → sw_M → Option (Int32 × sw_M)
  | 0, _, _, _, _ => none
  | j + 1, a0, a1, a2, M =>
  sw_gd [sw_ti a2 73] (if (tx_1 a2) = (32 : Int32) then k4 a0 (a1 + (1 : Int32)) (a2 + (1 : Int32)) M
  else f_Model_word_97 N k4 j a0 a1 (a2 + (1 : Int32)) M)
set_option maxRecDepth 10000 in
theorem t_Model_word_97 {g : sw_G} {d n0 : Nat} (hd : 6 ≤ d) {r : Int32 × sw_M} (k4 : Nat → Int32 → Int32 → sw_M → Option (Int32 × sw_M)) (hk4 : ∀ (a0 : Nat) (a1 : Int32) (a2 : Int32) (M : sw_M), k4 a0 a1 a2 M = some r → sw_F g k_Model_word d n0 (some (.int r.1)) r.2 4 [(0, .ref a0), (1, .int a1), (2, .int a2)] [] M) {N : Nat} : ∀ (j : Nat) (a0 : Nat) (a1 : Int32) (a2 : Int32) (M : sw_M), f_Model_word_97 N k4 j a0 a1 a2 M = some r → sw_F g k_Model_word d n0 (some (.int r.1)) r.2 97 [(0, .ref a0), (1, .int a1), (2, .int a2)] [] M := by
  intro j
  induction j with
  | zero =>
    intro a0 a1 a2 M hf
    rw [f_Model_word_97] at hf
    cases hf
  | succ j ih =>
    intro a0 a1 a2 M hf
    rw [f_Model_word_97] at hf
    refine sf_ldc1 rfl (by decide +kernel) ?_
    obtain ⟨h1, hf⟩ := sw_gd_1 hf
    refine sf_blk [(.iload_n 2, 0, 0, .null)] (lv' := [(0, .ref a0), (1, .int a1), (2, .int a2)]) (st' := [.int a2, .retAddr 1]) (M1 := M) (ob := []) (pc' := 100) (by decide +kernel) rfl rfl sw_a0 ?_
    refine sf_callT (i := 208) (k2 := k_Str_charAt) (d2 := d - 1) (As := [.int a2]) (st := []) (j := 1) mf_Str_charAt mi_Str_charAt ms_Str_charAt (sw_m7 44 (by decide +kernel)) rfl (by decide +kernel) rfl (Nat.le_of_ble_eq_true rfl) (by omega) (by decide) (o_chr1 g (d := d - 1) (by omega) M h1) ?_
    show sw_F _ _ _ _ _ _ 103 [(0, .ref a0), (1, .int a1), (2, .int a2)] [.int (tx_1 a2)] M
    refine sf_blk [(.bipush (32), 0, 0, .int (32 : Int32))] (lv' := [(0, .ref a0), (1, .int a1), (2, .int a2)]) (st' := [.int (32 : Int32), .int (tx_1 a2)]) (M1 := M) (ob := []) (pc' := 105) (by decide +kernel) rfl rfl sw_a0 ?_
    refine sf_j_eq (off := 9) (tgt := 114) (by decide +kernel) (by decide) hf (fun hc hf => ?_) (fun hc hf => ?_)
    · refine sf_blk [(.iinc 2 (1), 0, 0, .int (1 : Int32)), (.iinc 1 (1), 0, 0, .int (1 : Int32))] (lv' := [(1, .int (a1 + (1 : Int32))), (2, .int (a2 + (1 : Int32))), (0, .ref a0)]) (st' := []) (M1 := M) (ob := []) (pc' := 120) (by decide +kernel) rfl rfl sw_a0 ?_
      refine sf_goto (off := -116) (tgt := 4) (by decide +kernel) (by decide) ?_
      exact sf_weak [2, 0, 1] rfl (hk4 _ _ _ _ hf)
    · refine sf_blk [(.iinc 2 (1), 0, 0, .int (1 : Int32))] (lv' := [(2, .int (a2 + (1 : Int32))), (0, .ref a0), (1, .int a1)]) (st' := []) (M1 := M) (ob := []) (pc' := 111) (by decide +kernel) rfl rfl sw_a0 ?_
      refine sf_goto (off := -14) (tgt := 97) (by decide +kernel) (by decide) ?_
      exact sf_weak [1, 2, 0] rfl (ih _ _ _ _ hf)
def f_Model_word_69 (N : Nat) (k4 : Nat → Int32 → Int32 → sw_M → Option (Int32 × sw_M)) (a0 : Nat) (a1 : Int32) (a2 : Int32) (a3 : Int32) (M : sw_M) : Option (Int32 × sw_M) :=
  sw_gd [sw_ti (a2 + a3) 73] (if (tx_1 (a2 + a3)) = (32 : Int32) then sw_gd [sw_ok M a0 12] (if ((rd_I M a0 26) + a3) = (rd_I M a0 25) then some (a1, M)
  else f_Model_word_97 N k4 N a0 a1 a2 M)
  else f_Model_word_97 N k4 N a0 a1 a2 M)
set_option maxRecDepth 10000 in
theorem t_Model_word_69 {g : sw_G} {d n0 : Nat} (hd : 6 ≤ d) {r : Int32 × sw_M} (k4 : Nat → Int32 → Int32 → sw_M → Option (Int32 × sw_M)) (hk4 : ∀ (a0 : Nat) (a1 : Int32) (a2 : Int32) (M : sw_M), k4 a0 a1 a2 M = some r → sw_F g k_Model_word d n0 (some (.int r.1)) r.2 4 [(0, .ref a0), (1, .int a1), (2, .int a2)] [] M) {N : Nat} {a0 : Nat} {a1 : Int32} {a2 : Int32} {a3 : Int32} {M : sw_M} (hf : f_Model_word_69 N k4 a0 a1 a2 a3 M = some r) : sw_F g k_Model_word d n0 (some (.int r.1)) r.2 69 [(0, .ref a0), (1, .int a1), (2, .int a2), (3, .int a3)] [] M := by
  unfold f_Model_word_69 at hf
  refine sf_ldc1 rfl (by decide +kernel) ?_
  obtain ⟨h1, hf⟩ := sw_gd_1 hf
  refine sf_blk [(.iload_n 2, 0, 0, .null), (.iload_n 3, 0, 0, .null), (.iadd, 0, 0, .null)] (lv' := [(0, .ref a0), (1, .int a1), (2, .int a2), (3, .int a3)]) (st' := [.int (a2 + a3), .retAddr 1]) (M1 := M) (ob := []) (pc' := 74) (by decide +kernel) rfl rfl sw_a0 ?_
  refine sf_callT (i := 208) (k2 := k_Str_charAt) (d2 := d - 1) (As := [.int (a2 + a3)]) (st := []) (j := 1) mf_Str_charAt mi_Str_charAt ms_Str_charAt (sw_m7 44 (by decide +kernel)) rfl (by decide +kernel) rfl (Nat.le_of_ble_eq_true rfl) (by omega) (by decide) (o_chr1 g (d := d - 1) (by omega) M h1) ?_
  show sw_F _ _ _ _ _ _ 77 [(0, .ref a0), (1, .int a1), (2, .int a2), (3, .int a3)] [.int (tx_1 (a2 + a3))] M
  refine sf_blk [(.bipush (32), 0, 0, .int (32 : Int32))] (lv' := [(0, .ref a0), (1, .int a1), (2, .int a2), (3, .int a3)]) (st' := [.int (32 : Int32), .int (tx_1 (a2 + a3))]) (M1 := M) (ob := []) (pc' := 79) (by decide +kernel) rfl rfl sw_a0 ?_
  refine sf_j_ne (off := 18) (tgt := 97) (by decide +kernel) (by decide) hf (fun hc hf => ?_) (fun hc hf => ?_)
  · exact sf_weak [0, 1, 2] rfl (t_Model_word_97 hd _ hk4 _ _ _ _ _ hf)
  · obtain ⟨h2, hf⟩ := sw_gd_1 hf
    refine sf_blk [(.aload_n 0, 0, 0, .null), (.getfield 182, 12, 26, .null), (.iload_n 3, 0, 0, .null), (.iadd, 0, 0, .null), (.aload_n 0, 0, 0, .null), (.getfield 172, 12, 25, .null)] (lv' := [(0, .ref a0), (1, .int a1), (2, .int a2), (3, .int a3)]) (st' := [.int (rd_I M a0 25), .int ((rd_I M a0 26) + a3)]) (M1 := M) (ob := [sw_ok M a0 12, sw_ok M a0 12]) (pc' := 92) (by decide +kernel) rfl rfl (sw_a1 h2 (sw_a1 h2 sw_a0)) ?_
    refine sf_j_ne (off := 5) (tgt := 97) (by decide +kernel) (by decide) hf (fun hc hf => ?_) (fun hc hf => ?_)
    · exact sf_weak [0, 1, 2] rfl (t_Model_word_97 hd _ hk4 _ _ _ _ _ hf)
    · refine sf_blk [(.iload_n 1, 0, 0, .null)] (lv' := [(0, .ref a0), (1, .int a1), (2, .int a2), (3, .int a3)]) (st' := [.int a1]) (M1 := M) (ob := []) (pc' := 96) (by decide +kernel) rfl rfl sw_a0 ?_
      cases hf
      exact sf_int rfl (by decide +kernel)
def f_Model_word_15 (N : Nat) (k4 : Nat → Int32 → Int32 → sw_M → Option (Int32 × sw_M)) : Nat → Nat → Int32 → Int32 → Int32 → sw_M → Option (Int32 × sw_M)
  | 0, _, _, _, _, _ => none
  | j + 1, a0, a1, a2, a3, M =>
  sw_gd [sw_ti (a2 + a3) 73] (if (tx_1 (a2 + a3)) = (32 : Int32) then f_Model_word_69 N k4 a0 a1 a2 a3 M
  else sw_gd [sw_ok M a0 12] (if (rd_I M a0 25) ≤ ((rd_I M a0 26) + a3) then f_Model_word_69 N k4 a0 a1 a2 a3 M
  else sw_gd [sw_ar M (rd_R M a0 22) 13 ((rd_I M a0 26) + a3)] (if (rd_I M (rd_R M a0 22) ((rd_I M a0 26) + a3).toNatClampNeg) = (tx_1 (a2 + a3)) then f_Model_word_15 N k4 j a0 a1 a2 (a3 + (1 : Int32)) M
  else f_Model_word_69 N k4 a0 a1 a2 a3 M)))
set_option maxRecDepth 10000 in
theorem t_Model_word_15 {g : sw_G} {d n0 : Nat} (hd : 6 ≤ d) {r : Int32 × sw_M} (k4 : Nat → Int32 → Int32 → sw_M → Option (Int32 × sw_M)) (hk4 : ∀ (a0 : Nat) (a1 : Int32) (a2 : Int32) (M : sw_M), k4 a0 a1 a2 M = some r → sw_F g k_Model_word d n0 (some (.int r.1)) r.2 4 [(0, .ref a0), (1, .int a1), (2, .int a2)] [] M) {N : Nat} : ∀ (j : Nat) (a0 : Nat) (a1 : Int32) (a2 : Int32) (a3 : Int32) (M : sw_M), f_Model_word_15 N k4 j a0 a1 a2 a3 M = some r → sw_F g k_Model_word d n0 (some (.int r.1)) r.2 15 [(0, .ref a0), (1, .int a1), (2, .int a2), (3, .int a3)] [] M := by
  intro j
  induction j with
  | zero =>
    intro a0 a1 a2 a3 M hf
    rw [f_Model_word_15] at hf
    cases hf
  | succ j ih =>
    intro a0 a1 a2 a3 M hf
    rw [f_Model_word_15] at hf
    refine sf_ldc1 rfl (by decide +kernel) ?_
    obtain ⟨h1, hf⟩ := sw_gd_1 hf
    refine sf_blk [(.iload_n 2, 0, 0, .null), (.iload_n 3, 0, 0, .null), (.iadd, 0, 0, .null)] (lv' := [(0, .ref a0), (1, .int a1), (2, .int a2), (3, .int a3)]) (st' := [.int (a2 + a3), .retAddr 1]) (M1 := M) (ob := []) (pc' := 20) (by decide +kernel) rfl rfl sw_a0 ?_
    refine sf_callT (i := 208) (k2 := k_Str_charAt) (d2 := d - 1) (As := [.int (a2 + a3)]) (st := []) (j := 1) mf_Str_charAt mi_Str_charAt ms_Str_charAt (sw_m7 44 (by decide +kernel)) rfl (by decide +kernel) rfl (Nat.le_of_ble_eq_true rfl) (by omega) (by decide) (o_chr1 g (d := d - 1) (by omega) M h1) ?_
    show sw_F _ _ _ _ _ _ 23 [(0, .ref a0), (1, .int a1), (2, .int a2), (3, .int a3)] [.int (tx_1 (a2 + a3))] M
    refine sf_blk [(.bipush (32), 0, 0, .int (32 : Int32))] (lv' := [(0, .ref a0), (1, .int a1), (2, .int a2), (3, .int a3)]) (st' := [.int (32 : Int32), .int (tx_1 (a2 + a3))]) (M1 := M) (ob := []) (pc' := 25) (by decide +kernel) rfl rfl sw_a0 ?_
    refine sf_j_eq (off := 44) (tgt := 69) (by decide +kernel) (by decide) hf (fun hc hf => ?_) (fun hc hf => ?_)
    · exact sf_weak [0, 1, 2, 3] rfl (t_Model_word_69 hd _ hk4 hf)
    · obtain ⟨h2, hf⟩ := sw_gd_1 hf
      refine sf_blk [(.aload_n 0, 0, 0, .null), (.getfield 182, 12, 26, .null), (.iload_n 3, 0, 0, .null), (.iadd, 0, 0, .null), (.aload_n 0, 0, 0, .null), (.getfield 172, 12, 25, .null)] (lv' := [(0, .ref a0), (1, .int a1), (2, .int a2), (3, .int a3)]) (st' := [.int (rd_I M a0 25), .int ((rd_I M a0 26) + a3)]) (M1 := M) (ob := [sw_ok M a0 12, sw_ok M a0 12]) (pc' := 38) (by decide +kernel) rfl rfl (sw_a1 h2 (sw_a1 h2 sw_a0)) ?_
      refine sf_j_ge (off := 31) (tgt := 69) (by decide +kernel) (by decide) hf (fun hc hf => ?_) (fun hc hf => ?_)
      · exact sf_weak [0, 1, 2, 3] rfl (t_Model_word_69 hd _ hk4 hf)
      · obtain ⟨h3, hf⟩ := sw_gd_1 hf
        refine sf_blk [(.aload_n 0, 0, 0, .null), (.getfield 47, 12, 22, .null), (.aload_n 0, 0, 0, .null), (.getfield 182, 12, 26, .null), (.iload_n 3, 0, 0, .null), (.iadd, 0, 0, .null), (.iaload, 0, 0, .null)] (lv' := [(0, .ref a0), (1, .int a1), (2, .int a2), (3, .int a3)]) (st' := [.int (rd_I M (rd_R M a0 22) ((rd_I M a0 26) + a3).toNatClampNeg)]) (M1 := M) (ob := [sw_ok M a0 12, sw_ok M a0 12, sw_ar M (rd_R M a0 22) 13 ((rd_I M a0 26) + a3)]) (pc' := 52) (by decide +kernel) rfl rfl (sw_a1 h2 (sw_a1 h2 (sw_a1 h3 sw_a0))) ?_
        refine sf_ldc1 rfl (by decide +kernel) ?_
        refine sf_blk [(.iload_n 2, 0, 0, .null), (.iload_n 3, 0, 0, .null), (.iadd, 0, 0, .null)] (lv' := [(0, .ref a0), (1, .int a1), (2, .int a2), (3, .int a3)]) (st' := [.int (a2 + a3), .retAddr 1, .int (rd_I M (rd_R M a0 22) ((rd_I M a0 26) + a3).toNatClampNeg)]) (M1 := M) (ob := []) (pc' := 57) (by decide +kernel) rfl rfl sw_a0 ?_
        refine sf_callT (i := 208) (k2 := k_Str_charAt) (d2 := d - 1) (As := [.int (a2 + a3)]) (st := [.int (rd_I M (rd_R M a0 22) ((rd_I M a0 26) + a3).toNatClampNeg)]) (j := 1) mf_Str_charAt mi_Str_charAt ms_Str_charAt (sw_m7 44 (by decide +kernel)) rfl (by decide +kernel) rfl (Nat.le_of_ble_eq_true rfl) (by omega) (by decide) (o_chr1 g (d := d - 1) (by omega) M h1) ?_
        show sw_F _ _ _ _ _ _ 60 [(0, .ref a0), (1, .int a1), (2, .int a2), (3, .int a3)] [.int (tx_1 (a2 + a3)), .int (rd_I M (rd_R M a0 22) ((rd_I M a0 26) + a3).toNatClampNeg)] M
        refine sf_j_ne (off := 9) (tgt := 69) (by decide +kernel) (by decide) hf (fun hc hf => ?_) (fun hc hf => ?_)
        · exact sf_weak [0, 1, 2, 3] rfl (t_Model_word_69 hd _ hk4 hf)
        · refine sf_blk [(.iinc 3 (1), 0, 0, .int (1 : Int32))] (lv' := [(3, .int (a3 + (1 : Int32))), (0, .ref a0), (1, .int a1), (2, .int a2)]) (st' := []) (M1 := M) (ob := []) (pc' := 66) (by decide +kernel) rfl rfl sw_a0 ?_
          refine sf_goto (off := -51) (tgt := 15) (by decide +kernel) (by decide) ?_
          exact sf_weak [1, 2, 3, 0] rfl (ih _ _ _ _ _ hf)
def f_Model_word_4 (N : Nat) : Nat → Nat → Int32 → Int32 → sw_M → Option (Int32 × sw_M)
  | 0, _, _, _, _ => none
  | j + 1, a0, a1, a2, M =>
  if (73 : Int32) ≤ a2 then some ((-1 : Int32), M)
  else f_Model_word_15 N (f_Model_word_4 N j) N a0 a1 a2 (0 : Int32) M
set_option maxRecDepth 10000 in
theorem t_Model_word_4 {g : sw_G} {d n0 : Nat} (hd : 6 ≤ d) {r : Int32 × sw_M} {N : Nat} : ∀ (j : Nat) (a0 : Nat) (a1 : Int32) (a2 : Int32) (M : sw_M), f_Model_word_4 N j a0 a1 a2 M = some r → sw_F g k_Model_word d n0 (some (.int r.1)) r.2 4 [(0, .ref a0), (1, .int a1), (2, .int a2)] [] M := by
  intro j
  induction j with
  | zero =>
    intro a0 a1 a2 M hf
    rw [f_Model_word_4] at hf
    cases hf
  | succ j ih =>
    intro a0 a1 a2 M hf
    rw [f_Model_word_4] at hf
    refine sf_blk [(.iload_n 2, 0, 0, .null)] (lv' := [(0, .ref a0), (1, .int a1), (2, .int a2)]) (st' := [.int a2]) (M1 := M) (ob := []) (pc' := 5) (by decide +kernel) rfl rfl sw_a0 ?_
    refine sf_ldc1 rfl (by decide +kernel) ?_
    refine sf_callT (i := 204) (k2 := k_Str_length) (d2 := d - 1) (As := []) (st := [.int a2]) (j := 1) mf_Str_length mi_Str_length ms_Str_length (sw_m7 43 (by decide +kernel)) rfl (by decide +kernel) rfl (Nat.le_of_ble_eq_true rfl) (by omega) (by decide) (o_len1 g (d := d - 1) (by omega) M) ?_
    show sw_F _ _ _ _ _ _ 10 [(0, .ref a0), (1, .int a1), (2, .int a2)] [.int (73 : Int32), .int a2] M
    refine sf_j_ge (off := 113) (tgt := 123) (by decide +kernel) (by decide) hf (fun hc hf => ?_) (fun hc hf => ?_)
    · refine sf_blk [(.iconst (-1), 0, 0, .int (-1 : Int32))] (lv' := [(0, .ref a0), (1, .int a1), (2, .int a2)]) (st' := [.int (-1 : Int32)]) (M1 := M) (ob := []) (pc' := 124) (by decide +kernel) rfl rfl sw_a0 ?_
      cases hf
      exact sf_int rfl (by decide +kernel)
    · refine sf_blk [(.iconst (0), 0, 0, .int (0 : Int32)), (.istore_n 3, 0, 0, .null)] (lv' := [(3, .int (0 : Int32)), (0, .ref a0), (1, .int a1), (2, .int a2)]) (st' := []) (M1 := M) (ob := []) (pc' := 15) (by decide +kernel) rfl rfl sw_a0 ?_
      exact sf_weak [1, 2, 3, 0] rfl (t_Model_word_15 hd _ ih _ _ _ _ _ _ hf)
def f_Model_word (N : Nat) (a0 : Nat) (M : sw_M) : Option (Int32 × sw_M) :=
  f_Model_word_4 N N a0 (0 : Int32) (0 : Int32) M
set_option maxRecDepth 10000 in
theorem t_Model_word {g : sw_G} {d n0 : Nat} (hd : 6 ≤ d) {r : Int32 × sw_M} {N : Nat} {a0 : Nat} {M : sw_M} (hf : f_Model_word N a0 M = some r) : sw_F g k_Model_word d n0 (some (.int r.1)) r.2 0 [(0, .ref a0)] [] M := by
  unfold f_Model_word at hf
  refine sf_blk [(.iconst (0), 0, 0, .int (0 : Int32)), (.istore_n 1, 0, 0, .null), (.iconst (0), 0, 0, .int (0 : Int32)), (.istore_n 2, 0, 0, .null)] (lv' := [(2, .int (0 : Int32)), (1, .int (0 : Int32)), (0, .ref a0)]) (st' := []) (M1 := M) (ob := []) (pc' := 4) (by decide +kernel) rfl rfl sw_a0 ?_
  exact sf_weak [2, 1, 0] rfl (t_Model_word_4 hd _ _ _ _ _ hf)
theorem o_Model_word (g : sw_G) {d : Nat} (hd : 6 ≤ d) {N : Nat} {a0 : Nat} {M : sw_M} {r : Int32 × sw_M} (hf : f_Model_word N a0 M = some r) : sw_Ok g k_Model_word d [.ref a0] M (some (.int r.1)) r.2 := sf_met (by decide +kernel) rfl (by decide) (Nat.le_of_ble_eq_true rfl) (t_Model_word hd hf)
def f_Model_isDigit (N : Nat) (a0 : Int32) (M : sw_M) : Option (Int32 × sw_M) :=
  if a0 < (48 : Int32) then some ((0 : Int32), M)
  else if (57 : Int32) < a0 then some ((0 : Int32), M)
  else some ((1 : Int32), M)
set_option maxRecDepth 10000 in
theorem t_Model_isDigit {g : sw_G} {d n0 : Nat} (hd : 1 ≤ d) {r : Int32 × sw_M} {N : Nat} {a0 : Int32} {M : sw_M} (hf : f_Model_isDigit N a0 M = some r) : sw_F g k_Model_isDigit d n0 (some (.int r.1)) r.2 0 [(0, .int a0)] [] M := by
  unfold f_Model_isDigit at hf
  refine sf_blk [(.iload_n 0, 0, 0, .null), (.bipush (48), 0, 0, .int (48 : Int32))] (lv' := [(0, .int a0)]) (st' := [.int (48 : Int32), .int a0]) (M1 := M) (ob := []) (pc' := 3) (by decide +kernel) rfl rfl sw_a0 ?_
  refine sf_j_lt (off := 13) (tgt := 16) (by decide +kernel) (by decide) hf (fun hc hf => ?_) (fun hc hf => ?_)
  · refine sf_blk [(.iconst (0), 0, 0, .int (0 : Int32))] (lv' := [(0, .int a0)]) (st' := [.int (0 : Int32)]) (M1 := M) (ob := []) (pc' := 17) (by decide +kernel) rfl rfl sw_a0 ?_
    cases hf
    exact sf_bool rfl rfl (by decide +kernel)
  · refine sf_blk [(.iload_n 0, 0, 0, .null), (.bipush (57), 0, 0, .int (57 : Int32))] (lv' := [(0, .int a0)]) (st' := [.int (57 : Int32), .int a0]) (M1 := M) (ob := []) (pc' := 9) (by decide +kernel) rfl rfl sw_a0 ?_
    refine sf_j_gt (off := 7) (tgt := 16) (by decide +kernel) (by decide) hf (fun hc hf => ?_) (fun hc hf => ?_)
    · refine sf_blk [(.iconst (0), 0, 0, .int (0 : Int32))] (lv' := [(0, .int a0)]) (st' := [.int (0 : Int32)]) (M1 := M) (ob := []) (pc' := 17) (by decide +kernel) rfl rfl sw_a0 ?_
      cases hf
      exact sf_bool rfl rfl (by decide +kernel)
    · refine sf_blk [(.iconst (1), 0, 0, .int (1 : Int32))] (lv' := [(0, .int a0)]) (st' := [.int (1 : Int32)]) (M1 := M) (ob := []) (pc' := 13) (by decide +kernel) rfl rfl sw_a0 ?_
      refine sf_goto (off := 4) (tgt := 17) (by decide +kernel) (by decide) ?_
      cases hf
      exact sf_bool rfl rfl (by decide +kernel)
theorem o_Model_isDigit (g : sw_G) {d : Nat} (hd : 1 ≤ d) {N : Nat} {a0 : Int32} {M : sw_M} {r : Int32 × sw_M} (hf : f_Model_isDigit N a0 M = some r) : sw_Ok g k_Model_isDigit d [.int a0] M (some (.int r.1)) r.2 := sf_met (by decide +kernel) rfl (by decide) (Nat.le_of_ble_eq_true rfl) (t_Model_isDigit hd hf)
def f_Model_next_18 (N : Nat) (k0 : Nat → sw_M → Option (sw_M)) (a0 : Nat) (M : sw_M) : Option (sw_M) :=
  sw_gd [sw_ok M a0 12] (k0 a0 (wr_I M a0 25 ((rd_I M a0 25) + (1 : Int32))))
set_option maxRecDepth 10000 in
theorem t_Model_next_18 {g : sw_G} {d n0 : Nat} (hd : 7 ≤ d) {r : sw_M} (k0 : Nat → sw_M → Option (sw_M)) (hk0 : ∀ (a0 : Nat) (M : sw_M), k0 a0 M = some r → sw_F g k_Model_next d n0 none r 0 [(0, .ref a0)] [] M) {N : Nat} {a0 : Nat} {M : sw_M} (hf : f_Model_next_18 N k0 a0 M = some r) : sw_F g k_Model_next d n0 none r 18 [(0, .ref a0)] [] M := by
  unfold f_Model_next_18 at hf
  obtain ⟨h1, hf⟩ := sw_gd_1 hf
  refine sf_blk [(.aload_n 0, 0, 0, .null), (.dup, 0, 0, .null), (.getfield 172, 12, 25, .null), (.iconst (1), 0, 0, .int (1 : Int32)), (.iadd, 0, 0, .null), (.putfield 172, 12, 25, .null)] (lv' := [(0, .ref a0)]) (st' := []) (M1 := (wr_I M a0 25 ((rd_I M a0 25) + (1 : Int32)))) (ob := [sw_ok M a0 12, sw_ok M a0 12]) (pc' := 28) (by decide +kernel) rfl rfl (sw_a1 h1 (sw_a1 h1 sw_a0)) ?_
  refine sf_goto (off := -28) (tgt := 0) (by decide +kernel) (by decide) ?_
  exact sf_weak [0] rfl (hk0 _ _ hf)
def f_Model_next_304 (N : Nat) (a0 : Nat) (a1 : Int32) (M : sw_M) : Option (sw_M) :=
  sw_gd [sw_ok M a0 12] (if (rd_I M a0 28) = a1 then if a1 = (59 : Int32) then some M
  else if a1 = (45 : Int32) then some M
  else if a1 = (43 : Int32) then some M
  else if a1 = (42 : Int32) then some M
  else if a1 = (47 : Int32) then some M
  else if a1 = (40 : Int32) then some M
  else if a1 = (41 : Int32) then some M
  else if a1 = (60 : Int32) then some M
  else if a1 = (61 : Int32) then some M
  else if a1 = (62 : Int32) then some M
  else some (wr_I M a0 27 (4 : Int32))
  else some (wr_I M a0 25 ((rd_I M a0 25) + (1 : Int32))))
set_option maxRecDepth 10000 in
theorem t_Model_next_304 {g : sw_G} {d n0 : Nat} (hd : 7 ≤ d) {r : sw_M} {N : Nat} {a0 : Nat} {a1 : Int32} {M : sw_M} (hf : f_Model_next_304 N a0 a1 M = some r) : sw_F g k_Model_next d n0 none r 304 [(0, .ref a0), (1, .int a1)] [] M := by
  unfold f_Model_next_304 at hf
  obtain ⟨h1, hf⟩ := sw_gd_1 hf
  refine sf_blk [(.aload_n 0, 0, 0, .null), (.getfield 195, 12, 28, .null), (.iload_n 1, 0, 0, .null)] (lv' := [(0, .ref a0), (1, .int a1)]) (st' := [.int a1, .int (rd_I M a0 28)]) (M1 := M) (ob := [sw_ok M a0 12]) (pc' := 309) (by decide +kernel) rfl rfl (sw_a1 h1 sw_a0) ?_
  refine sf_j_eq (off := 16) (tgt := 325) (by decide +kernel) (by decide) hf (fun hc hf => ?_) (fun hc hf => ?_)
  · refine sf_blk [(.iload_n 1, 0, 0, .null), (.bipush (59), 0, 0, .int (59 : Int32))] (lv' := [(0, .ref a0), (1, .int a1)]) (st' := [.int (59 : Int32), .int a1]) (M1 := M) (ob := []) (pc' := 328) (by decide +kernel) rfl rfl sw_a0 ?_
    refine sf_j_eq (off := 62) (tgt := 390) (by decide +kernel) (by decide) hf (fun hc hf => ?_) (fun hc hf => ?_)
    · cases hf
      exact sf_void rfl (by decide +kernel)
    · refine sf_blk [(.iload_n 1, 0, 0, .null), (.bipush (45), 0, 0, .int (45 : Int32))] (lv' := [(0, .ref a0), (1, .int a1)]) (st' := [.int (45 : Int32), .int a1]) (M1 := M) (ob := []) (pc' := 334) (by decide +kernel) rfl rfl sw_a0 ?_
      refine sf_j_eq (off := 56) (tgt := 390) (by decide +kernel) (by decide) hf (fun hc hf => ?_) (fun hc hf => ?_)
      · cases hf
        exact sf_void rfl (by decide +kernel)
      · refine sf_blk [(.iload_n 1, 0, 0, .null), (.bipush (43), 0, 0, .int (43 : Int32))] (lv' := [(0, .ref a0), (1, .int a1)]) (st' := [.int (43 : Int32), .int a1]) (M1 := M) (ob := []) (pc' := 340) (by decide +kernel) rfl rfl sw_a0 ?_
        refine sf_j_eq (off := 50) (tgt := 390) (by decide +kernel) (by decide) hf (fun hc hf => ?_) (fun hc hf => ?_)
        · cases hf
          exact sf_void rfl (by decide +kernel)
        · refine sf_blk [(.iload_n 1, 0, 0, .null), (.bipush (42), 0, 0, .int (42 : Int32))] (lv' := [(0, .ref a0), (1, .int a1)]) (st' := [.int (42 : Int32), .int a1]) (M1 := M) (ob := []) (pc' := 346) (by decide +kernel) rfl rfl sw_a0 ?_
          refine sf_j_eq (off := 44) (tgt := 390) (by decide +kernel) (by decide) hf (fun hc hf => ?_) (fun hc hf => ?_)
          · cases hf
            exact sf_void rfl (by decide +kernel)
          · refine sf_blk [(.iload_n 1, 0, 0, .null), (.bipush (47), 0, 0, .int (47 : Int32))] (lv' := [(0, .ref a0), (1, .int a1)]) (st' := [.int (47 : Int32), .int a1]) (M1 := M) (ob := []) (pc' := 352) (by decide +kernel) rfl rfl sw_a0 ?_
            refine sf_j_eq (off := 38) (tgt := 390) (by decide +kernel) (by decide) hf (fun hc hf => ?_) (fun hc hf => ?_)
            · cases hf
              exact sf_void rfl (by decide +kernel)
            · refine sf_blk [(.iload_n 1, 0, 0, .null), (.bipush (40), 0, 0, .int (40 : Int32))] (lv' := [(0, .ref a0), (1, .int a1)]) (st' := [.int (40 : Int32), .int a1]) (M1 := M) (ob := []) (pc' := 358) (by decide +kernel) rfl rfl sw_a0 ?_
              refine sf_j_eq (off := 32) (tgt := 390) (by decide +kernel) (by decide) hf (fun hc hf => ?_) (fun hc hf => ?_)
              · cases hf
                exact sf_void rfl (by decide +kernel)
              · refine sf_blk [(.iload_n 1, 0, 0, .null), (.bipush (41), 0, 0, .int (41 : Int32))] (lv' := [(0, .ref a0), (1, .int a1)]) (st' := [.int (41 : Int32), .int a1]) (M1 := M) (ob := []) (pc' := 364) (by decide +kernel) rfl rfl sw_a0 ?_
                refine sf_j_eq (off := 26) (tgt := 390) (by decide +kernel) (by decide) hf (fun hc hf => ?_) (fun hc hf => ?_)
                · cases hf
                  exact sf_void rfl (by decide +kernel)
                · refine sf_blk [(.iload_n 1, 0, 0, .null), (.bipush (60), 0, 0, .int (60 : Int32))] (lv' := [(0, .ref a0), (1, .int a1)]) (st' := [.int (60 : Int32), .int a1]) (M1 := M) (ob := []) (pc' := 370) (by decide +kernel) rfl rfl sw_a0 ?_
                  refine sf_j_eq (off := 20) (tgt := 390) (by decide +kernel) (by decide) hf (fun hc hf => ?_) (fun hc hf => ?_)
                  · cases hf
                    exact sf_void rfl (by decide +kernel)
                  · refine sf_blk [(.iload_n 1, 0, 0, .null), (.bipush (61), 0, 0, .int (61 : Int32))] (lv' := [(0, .ref a0), (1, .int a1)]) (st' := [.int (61 : Int32), .int a1]) (M1 := M) (ob := []) (pc' := 376) (by decide +kernel) rfl rfl sw_a0 ?_
                    refine sf_j_eq (off := 14) (tgt := 390) (by decide +kernel) (by decide) hf (fun hc hf => ?_) (fun hc hf => ?_)
                    · cases hf
                      exact sf_void rfl (by decide +kernel)
                    · refine sf_blk [(.iload_n 1, 0, 0, .null), (.bipush (62), 0, 0, .int (62 : Int32))] (lv' := [(0, .ref a0), (1, .int a1)]) (st' := [.int (62 : Int32), .int a1]) (M1 := M) (ob := []) (pc' := 382) (by decide +kernel) rfl rfl sw_a0 ?_
                      refine sf_j_eq (off := 8) (tgt := 390) (by decide +kernel) (by decide) hf (fun hc hf => ?_) (fun hc hf => ?_)
                      · cases hf
                        exact sf_void rfl (by decide +kernel)
                      · refine sf_blk [(.aload_n 0, 0, 0, .null), (.iconst (4), 0, 0, .int (4 : Int32)), (.putfield 185, 12, 27, .null)] (lv' := [(0, .ref a0), (1, .int a1)]) (st' := []) (M1 := (wr_I M a0 27 (4 : Int32))) (ob := [sw_ok M a0 12]) (pc' := 390) (by decide +kernel) rfl rfl (sw_a1 h1 sw_a0) ?_
                        cases hf
                        exact sf_void rfl (by decide +kernel)
  · refine sf_blk [(.aload_n 0, 0, 0, .null), (.dup, 0, 0, .null), (.getfield 172, 12, 25, .null), (.iconst (1), 0, 0, .int (1 : Int32)), (.iadd, 0, 0, .null), (.putfield 172, 12, 25, .null)] (lv' := [(0, .ref a0), (1, .int a1)]) (st' := []) (M1 := (wr_I M a0 25 ((rd_I M a0 25) + (1 : Int32)))) (ob := [sw_ok M a0 12, sw_ok M a0 12]) (pc' := 322) (by decide +kernel) rfl rfl (sw_a1 h1 (sw_a1 h1 sw_a0)) ?_
    refine sf_goto (off := 68) (tgt := 390) (by decide +kernel) (by decide) ?_
    cases hf
    exact sf_void rfl (by decide +kernel)
def f_Model_next_282 (N : Nat) (a0 : Nat) (a1 : Int32) (M : sw_M) : Option (sw_M) :=
  if a1 = (46 : Int32) then sw_gd [sw_ok M a0 12] ((f_Model_here N a0 M).bind (fun u2 => if u2.1 = (46 : Int32) then sw_gd [sw_ok u2.2 a0 12] (f_Model_next_304 N a0 a1 (wr_I u2.2 a0 28 (259 : Int32)))
  else f_Model_next_304 N a0 a1 u2.2))
  else f_Model_next_304 N a0 a1 M
set_option maxRecDepth 10000 in
theorem t_Model_next_282 {g : sw_G} {d n0 : Nat} (hd : 7 ≤ d) {r : sw_M} {N : Nat} {a0 : Nat} {a1 : Int32} {M : sw_M} (hf : f_Model_next_282 N a0 a1 M = some r) : sw_F g k_Model_next d n0 none r 282 [(0, .ref a0), (1, .int a1)] [] M := by
  unfold f_Model_next_282 at hf
  refine sf_blk [(.iload_n 1, 0, 0, .null), (.bipush (46), 0, 0, .int (46 : Int32))] (lv' := [(0, .ref a0), (1, .int a1)]) (st' := [.int (46 : Int32), .int a1]) (M1 := M) (ob := []) (pc' := 285) (by decide +kernel) rfl rfl sw_a0 ?_
  refine sf_j_ne (off := 19) (tgt := 304) (by decide +kernel) (by decide) hf (fun hc hf => ?_) (fun hc hf => ?_)
  · exact sf_weak [0, 1] rfl (t_Model_next_304 hd hf)
  · obtain ⟨h1, hf⟩ := sw_gd_1 hf
    refine sf_blk [(.aload_n 0, 0, 0, .null)] (lv' := [(0, .ref a0), (1, .int a1)]) (st' := [.ref a0]) (M1 := M) (ob := []) (pc' := 289) (by decide +kernel) rfl rfl sw_a0 ?_
    obtain ⟨u2, hu2, hf⟩ := sw_bnd hf
    refine sf_callV (i := 178) (k2 := k_Model_here) (d2 := d - 1) (As := []) (st := []) (q := a0) (ci := 12) mf_Model_here mi_Model_here ms_Model_here (sw_m7 31 (by decide +kernel)) rfl (by decide) (by decide +kernel) rfl (Nat.le_of_ble_eq_true rfl) (by omega) h1 (o_Model_here g (d := d - 1) (by omega) hu2) ?_
    show sw_F _ _ _ _ _ _ 292 [(0, .ref a0), (1, .int a1)] [.int u2.1] u2.2
    refine sf_blk [(.bipush (46), 0, 0, .int (46 : Int32))] (lv' := [(0, .ref a0), (1, .int a1)]) (st' := [.int (46 : Int32), .int u2.1]) (M1 := u2.2) (ob := []) (pc' := 294) (by decide +kernel) rfl rfl sw_a0 ?_
    refine sf_j_ne (off := 10) (tgt := 304) (by decide +kernel) (by decide) hf (fun hc hf => ?_) (fun hc hf => ?_)
    · exact sf_weak [0, 1] rfl (t_Model_next_304 hd hf)
    · obtain ⟨h3, hf⟩ := sw_gd_1 hf
      refine sf_blk [(.aload_n 0, 0, 0, .null), (.sipush (259), 0, 0, .int (259 : Int32)), (.putfield 195, 12, 28, .null)] (lv' := [(0, .ref a0), (1, .int a1)]) (st' := []) (M1 := (wr_I u2.2 a0 28 (259 : Int32))) (ob := [sw_ok u2.2 a0 12]) (pc' := 304) (by decide +kernel) rfl rfl (sw_a1 h3 sw_a0) ?_
      exact sf_weak [0, 1] rfl (t_Model_next_304 hd hf)
def f_Model_next_257 (N : Nat) (a0 : Nat) (a1 : Int32) (M : sw_M) : Option (sw_M) :=
  if a1 = (62 : Int32) then sw_gd [sw_ok M a0 12] ((f_Model_here N a0 M).bind (fun u2 => if u2.1 = (61 : Int32) then sw_gd [sw_ok u2.2 a0 12] (f_Model_next_304 N a0 a1 (wr_I u2.2 a0 28 (258 : Int32)))
  else f_Model_next_282 N a0 a1 u2.2))
  else f_Model_next_282 N a0 a1 M
set_option maxRecDepth 10000 in
theorem t_Model_next_257 {g : sw_G} {d n0 : Nat} (hd : 7 ≤ d) {r : sw_M} {N : Nat} {a0 : Nat} {a1 : Int32} {M : sw_M} (hf : f_Model_next_257 N a0 a1 M = some r) : sw_F g k_Model_next d n0 none r 257 [(0, .ref a0), (1, .int a1)] [] M := by
  unfold f_Model_next_257 at hf
  refine sf_blk [(.iload_n 1, 0, 0, .null), (.bipush (62), 0, 0, .int (62 : Int32))] (lv' := [(0, .ref a0), (1, .int a1)]) (st' := [.int (62 : Int32), .int a1]) (M1 := M) (ob := []) (pc' := 260) (by decide +kernel) rfl rfl sw_a0 ?_
  refine sf_j_ne (off := 22) (tgt := 282) (by decide +kernel) (by decide) hf (fun hc hf => ?_) (fun hc hf => ?_)
  · exact sf_weak [0, 1] rfl (t_Model_next_282 hd hf)
  · obtain ⟨h1, hf⟩ := sw_gd_1 hf
    refine sf_blk [(.aload_n 0, 0, 0, .null)] (lv' := [(0, .ref a0), (1, .int a1)]) (st' := [.ref a0]) (M1 := M) (ob := []) (pc' := 264) (by decide +kernel) rfl rfl sw_a0 ?_
    obtain ⟨u2, hu2, hf⟩ := sw_bnd hf
    refine sf_callV (i := 178) (k2 := k_Model_here) (d2 := d - 1) (As := []) (st := []) (q := a0) (ci := 12) mf_Model_here mi_Model_here ms_Model_here (sw_m7 31 (by decide +kernel)) rfl (by decide) (by decide +kernel) rfl (Nat.le_of_ble_eq_true rfl) (by omega) h1 (o_Model_here g (d := d - 1) (by omega) hu2) ?_
    show sw_F _ _ _ _ _ _ 267 [(0, .ref a0), (1, .int a1)] [.int u2.1] u2.2
    refine sf_blk [(.bipush (61), 0, 0, .int (61 : Int32))] (lv' := [(0, .ref a0), (1, .int a1)]) (st' := [.int (61 : Int32), .int u2.1]) (M1 := u2.2) (ob := []) (pc' := 269) (by decide +kernel) rfl rfl sw_a0 ?_
    refine sf_j_ne (off := 13) (tgt := 282) (by decide +kernel) (by decide) hf (fun hc hf => ?_) (fun hc hf => ?_)
    · exact sf_weak [0, 1] rfl (t_Model_next_282 hd hf)
    · obtain ⟨h3, hf⟩ := sw_gd_1 hf
      refine sf_blk [(.aload_n 0, 0, 0, .null), (.sipush (258), 0, 0, .int (258 : Int32)), (.putfield 195, 12, 28, .null)] (lv' := [(0, .ref a0), (1, .int a1)]) (st' := []) (M1 := (wr_I u2.2 a0 28 (258 : Int32))) (ob := [sw_ok u2.2 a0 12]) (pc' := 279) (by decide +kernel) rfl rfl (sw_a1 h3 sw_a0) ?_
      refine sf_goto (off := 25) (tgt := 304) (by decide +kernel) (by decide) ?_
      exact sf_weak [0, 1] rfl (t_Model_next_304 hd hf)
def f_Model_next_232 (N : Nat) (a0 : Nat) (a1 : Int32) (M : sw_M) : Option (sw_M) :=
  if a1 = (60 : Int32) then sw_gd [sw_ok M a0 12] ((f_Model_here N a0 M).bind (fun u2 => if u2.1 = (62 : Int32) then sw_gd [sw_ok u2.2 a0 12] (f_Model_next_304 N a0 a1 (wr_I u2.2 a0 28 (257 : Int32)))
  else f_Model_next_257 N a0 a1 u2.2))
  else f_Model_next_257 N a0 a1 M
set_option maxRecDepth 10000 in
theorem t_Model_next_232 {g : sw_G} {d n0 : Nat} (hd : 7 ≤ d) {r : sw_M} {N : Nat} {a0 : Nat} {a1 : Int32} {M : sw_M} (hf : f_Model_next_232 N a0 a1 M = some r) : sw_F g k_Model_next d n0 none r 232 [(0, .ref a0), (1, .int a1)] [] M := by
  unfold f_Model_next_232 at hf
  refine sf_blk [(.iload_n 1, 0, 0, .null), (.bipush (60), 0, 0, .int (60 : Int32))] (lv' := [(0, .ref a0), (1, .int a1)]) (st' := [.int (60 : Int32), .int a1]) (M1 := M) (ob := []) (pc' := 235) (by decide +kernel) rfl rfl sw_a0 ?_
  refine sf_j_ne (off := 22) (tgt := 257) (by decide +kernel) (by decide) hf (fun hc hf => ?_) (fun hc hf => ?_)
  · exact sf_weak [0, 1] rfl (t_Model_next_257 hd hf)
  · obtain ⟨h1, hf⟩ := sw_gd_1 hf
    refine sf_blk [(.aload_n 0, 0, 0, .null)] (lv' := [(0, .ref a0), (1, .int a1)]) (st' := [.ref a0]) (M1 := M) (ob := []) (pc' := 239) (by decide +kernel) rfl rfl sw_a0 ?_
    obtain ⟨u2, hu2, hf⟩ := sw_bnd hf
    refine sf_callV (i := 178) (k2 := k_Model_here) (d2 := d - 1) (As := []) (st := []) (q := a0) (ci := 12) mf_Model_here mi_Model_here ms_Model_here (sw_m7 31 (by decide +kernel)) rfl (by decide) (by decide +kernel) rfl (Nat.le_of_ble_eq_true rfl) (by omega) h1 (o_Model_here g (d := d - 1) (by omega) hu2) ?_
    show sw_F _ _ _ _ _ _ 242 [(0, .ref a0), (1, .int a1)] [.int u2.1] u2.2
    refine sf_blk [(.bipush (62), 0, 0, .int (62 : Int32))] (lv' := [(0, .ref a0), (1, .int a1)]) (st' := [.int (62 : Int32), .int u2.1]) (M1 := u2.2) (ob := []) (pc' := 244) (by decide +kernel) rfl rfl sw_a0 ?_
    refine sf_j_ne (off := 13) (tgt := 257) (by decide +kernel) (by decide) hf (fun hc hf => ?_) (fun hc hf => ?_)
    · exact sf_weak [0, 1] rfl (t_Model_next_257 hd hf)
    · obtain ⟨h3, hf⟩ := sw_gd_1 hf
      refine sf_blk [(.aload_n 0, 0, 0, .null), (.sipush (257), 0, 0, .int (257 : Int32)), (.putfield 195, 12, 28, .null)] (lv' := [(0, .ref a0), (1, .int a1)]) (st' := []) (M1 := (wr_I u2.2 a0 28 (257 : Int32))) (ob := [sw_ok u2.2 a0 12]) (pc' := 254) (by decide +kernel) rfl rfl (sw_a1 h3 sw_a0) ?_
      refine sf_goto (off := 50) (tgt := 304) (by decide +kernel) (by decide) ?_
      exact sf_weak [0, 1] rfl (t_Model_next_304 hd hf)
def f_Model_next_170 (N : Nat) (k128 : Nat → sw_M → Option (sw_M)) (a0 : Nat) (b0 : Int32) (b1 : Nat) (M : sw_M) : Option (sw_M) :=
  sw_gd [sw_ok M b1 12] (sw_gd [sw_ok (wr_I M b1 28 b0) a0 12] (k128 a0 (wr_I (wr_I M b1 28 b0) a0 25 ((rd_I (wr_I M b1 28 b0) a0 25) + (1 : Int32)))))
set_option maxRecDepth 10000 in
theorem t_Model_next_170 {g : sw_G} {d n0 : Nat} (hd : 7 ≤ d) {r : sw_M} (k128 : Nat → sw_M → Option (sw_M)) (hk128 : ∀ (a0 : Nat) (M : sw_M), k128 a0 M = some r → sw_F g k_Model_next d n0 none r 128 [(0, .ref a0)] [] M) {N : Nat} {a0 : Nat} {b0 : Int32} {b1 : Nat} {M : sw_M} (hf : f_Model_next_170 N k128 a0 b0 b1 M = some r) : sw_F g k_Model_next d n0 none r 170 [(0, .ref a0)] [.int b0, .ref b1] M := by
  unfold f_Model_next_170 at hf
  obtain ⟨h1, hf⟩ := sw_gd_1 hf
  obtain ⟨h2, hf⟩ := sw_gd_1 hf
  refine sf_blk [(.putfield 195, 12, 28, .null), (.aload_n 0, 0, 0, .null), (.dup, 0, 0, .null), (.getfield 172, 12, 25, .null), (.iconst (1), 0, 0, .int (1 : Int32)), (.iadd, 0, 0, .null), (.putfield 172, 12, 25, .null)] (lv' := [(0, .ref a0)]) (st' := []) (M1 := (wr_I (wr_I M b1 28 b0) a0 25 ((rd_I (wr_I M b1 28 b0) a0 25) + (1 : Int32)))) (ob := [sw_ok M b1 12, sw_ok (wr_I M b1 28 b0) a0 12, sw_ok (wr_I M b1 28 b0) a0 12]) (pc' := 183) (by decide +kernel) rfl rfl (sw_a1 h1 (sw_a1 h2 (sw_a1 h2 sw_a0))) ?_
  refine sf_goto (off := -55) (tgt := 128) (by decide +kernel) (by decide) ?_
  exact sf_weak [0] rfl (hk128 _ _ hf)
def f_Model_next_128 (N : Nat) : Nat → Nat → sw_M → Option (sw_M)
  | 0, _, _ => none
  | j + 1, a0, M =>
  sw_gd [sw_ok M a0 12] ((f_Model_here N a0 M).bind (fun u2 => (f_Model_isDigit N u2.1 u2.2).bind (fun u3 => if u3.1 = 0 then some u3.2
  else sw_gd [sw_ok u3.2 a0 12] (if (rd_I u3.2 a0 28) ≤ (99999 : Int32) then (f_Model_here N a0 u3.2).bind (fun u5 => f_Model_next_170 N (f_Model_next_128 N j) a0 ((((10 : Int32) * (rd_I u3.2 a0 28)) + u5.1) - (48 : Int32)) a0 u5.2)
  else f_Model_next_170 N (f_Model_next_128 N j) a0 (rd_I u3.2 a0 28) a0 u3.2))))
set_option maxRecDepth 10000 in
theorem t_Model_next_128 {g : sw_G} {d n0 : Nat} (hd : 7 ≤ d) {r : sw_M} {N : Nat} : ∀ (j : Nat) (a0 : Nat) (M : sw_M), f_Model_next_128 N j a0 M = some r → sw_F g k_Model_next d n0 none r 128 [(0, .ref a0)] [] M := by
  intro j
  induction j with
  | zero =>
    intro a0 M hf
    rw [f_Model_next_128] at hf
    cases hf
  | succ j ih =>
    intro a0 M hf
    rw [f_Model_next_128] at hf
    obtain ⟨h1, hf⟩ := sw_gd_1 hf
    refine sf_blk [(.aload_n 0, 0, 0, .null)] (lv' := [(0, .ref a0)]) (st' := [.ref a0]) (M1 := M) (ob := []) (pc' := 129) (by decide +kernel) rfl rfl sw_a0 ?_
    obtain ⟨u2, hu2, hf⟩ := sw_bnd hf
    refine sf_callV (i := 178) (k2 := k_Model_here) (d2 := d - 1) (As := []) (st := []) (q := a0) (ci := 12) mf_Model_here mi_Model_here ms_Model_here (sw_m7 31 (by decide +kernel)) rfl (by decide) (by decide +kernel) rfl (Nat.le_of_ble_eq_true rfl) (by omega) h1 (o_Model_here g (d := d - 1) (by omega) hu2) ?_
    show sw_F _ _ _ _ _ _ 132 [(0, .ref a0)] [.int u2.1] u2.2
    obtain ⟨u3, hu3, hf⟩ := sw_bnd hf
    refine sf_callS (i := 198) (k2 := k_Model_isDigit) (d2 := d - 1) (As := [.int u2.1]) (st := []) mf_Model_isDigit mi_Model_isDigit (sw_m7 45 (by decide +kernel)) (by decide +kernel) rfl (Nat.le_of_ble_eq_true rfl) (by omega) (o_Model_isDigit g (d := d - 1) (by omega) hu3) ?_
    show sw_F _ _ _ _ _ _ 135 [(0, .ref a0)] [.int u3.1] u3.2
    refine sf_z_eq (off := 51) (tgt := 186) (by decide +kernel) (by decide) hf (fun hc hf => ?_) (fun hc hf => ?_)
    · cases hf
      exact sf_void rfl (by decide +kernel)
    · obtain ⟨h4, hf⟩ := sw_gd_1 hf
      refine sf_blk [(.aload_n 0, 0, 0, .null), (.aload_n 0, 0, 0, .null), (.getfield 195, 12, 28, .null), (.ldc 201, 0, 0, .int (99999 : Int32))] (lv' := [(0, .ref a0)]) (st' := [.int (99999 : Int32), .int (rd_I u3.2 a0 28), .ref a0]) (M1 := u3.2) (ob := [sw_ok u3.2 a0 12]) (pc' := 145) (by decide +kernel) rfl rfl (sw_a1 h4 sw_a0) ?_
      refine sf_j_le (off := 10) (tgt := 155) (by decide +kernel) (by decide) hf (fun hc hf => ?_) (fun hc hf => ?_)
      · refine sf_blk [(.bipush (10), 0, 0, .int (10 : Int32)), (.aload_n 0, 0, 0, .null), (.getfield 195, 12, 28, .null), (.imul, 0, 0, .null), (.aload_n 0, 0, 0, .null)] (lv' := [(0, .ref a0)]) (st' := [.ref a0, .int ((10 : Int32) * (rd_I u3.2 a0 28)), .ref a0]) (M1 := u3.2) (ob := [sw_ok u3.2 a0 12]) (pc' := 163) (by decide +kernel) rfl rfl (sw_a1 h4 sw_a0) ?_
        obtain ⟨u5, hu5, hf⟩ := sw_bnd hf
        refine sf_callV (i := 178) (k2 := k_Model_here) (d2 := d - 1) (As := []) (st := [.int ((10 : Int32) * (rd_I u3.2 a0 28)), .ref a0]) (q := a0) (ci := 12) mf_Model_here mi_Model_here ms_Model_here (sw_m7 31 (by decide +kernel)) rfl (by decide) (by decide +kernel) rfl (Nat.le_of_ble_eq_true rfl) (by omega) h4 (o_Model_here g (d := d - 1) (by omega) hu5) ?_
        show sw_F _ _ _ _ _ _ 166 [(0, .ref a0)] [.int u5.1, .int ((10 : Int32) * (rd_I u3.2 a0 28)), .ref a0] u5.2
        refine sf_blk [(.iadd, 0, 0, .null), (.bipush (48), 0, 0, .int (48 : Int32)), (.isub, 0, 0, .null)] (lv' := [(0, .ref a0)]) (st' := [.int ((((10 : Int32) * (rd_I u3.2 a0 28)) + u5.1) - (48 : Int32)), .ref a0]) (M1 := u5.2) (ob := []) (pc' := 170) (by decide +kernel) rfl rfl sw_a0 ?_
        exact sf_weak [0] rfl (t_Model_next_170 hd _ ih hf)
      · refine sf_blk [(.aload_n 0, 0, 0, .null), (.getfield 195, 12, 28, .null)] (lv' := [(0, .ref a0)]) (st' := [.int (rd_I u3.2 a0 28), .ref a0]) (M1 := u3.2) (ob := [sw_ok u3.2 a0 12]) (pc' := 152) (by decide +kernel) rfl rfl (sw_a1 h4 sw_a0) ?_
        refine sf_goto (off := 18) (tgt := 170) (by decide +kernel) (by decide) ?_
        exact sf_weak [0] rfl (t_Model_next_170 hd _ ih hf)
def f_Model_next_62 (N : Nat) : Nat → Nat → sw_M → Option (sw_M)
  | 0, _, _ => none
  | j + 1, a0, M =>
  sw_gd [sw_ok M a0 12] ((f_Model_here N a0 M).bind (fun u2 => (f_Model_isSmall N u2.1 u2.2).bind (fun u3 => if u3.1 = 0 then sw_gd [sw_ok u3.2 a0 12] ((f_Model_word N a0 u3.2).bind (fun u5 => sw_gd [sw_ok u5.2 a0 12] (if (rd_I (wr_I u5.2 a0 28 u5.1) a0 28) = (-1 : Int32) then some (wr_I (wr_I u5.2 a0 28 u5.1) a0 27 (4 : Int32))
  else some (wr_I (wr_I u5.2 a0 28 u5.1) a0 27 (0 : Int32)))))
  else sw_gd [sw_ok u3.2 a0 12] (f_Model_next_62 N j a0 (wr_I u3.2 a0 25 ((rd_I u3.2 a0 25) + (1 : Int32)))))))
set_option maxRecDepth 10000 in
theorem t_Model_next_62 {g : sw_G} {d n0 : Nat} (hd : 7 ≤ d) {r : sw_M} {N : Nat} : ∀ (j : Nat) (a0 : Nat) (M : sw_M), f_Model_next_62 N j a0 M = some r → sw_F g k_Model_next d n0 none r 62 [(0, .ref a0)] [] M := by
  intro j
  induction j with
  | zero =>
    intro a0 M hf
    rw [f_Model_next_62] at hf
    cases hf
  | succ j ih =>
    intro a0 M hf
    rw [f_Model_next_62] at hf
    obtain ⟨h1, hf⟩ := sw_gd_1 hf
    refine sf_blk [(.aload_n 0, 0, 0, .null)] (lv' := [(0, .ref a0)]) (st' := [.ref a0]) (M1 := M) (ob := []) (pc' := 63) (by decide +kernel) rfl rfl sw_a0 ?_
    obtain ⟨u2, hu2, hf⟩ := sw_bnd hf
    refine sf_callV (i := 178) (k2 := k_Model_here) (d2 := d - 1) (As := []) (st := []) (q := a0) (ci := 12) mf_Model_here mi_Model_here ms_Model_here (sw_m7 31 (by decide +kernel)) rfl (by decide) (by decide +kernel) rfl (Nat.le_of_ble_eq_true rfl) (by omega) h1 (o_Model_here g (d := d - 1) (by omega) hu2) ?_
    show sw_F _ _ _ _ _ _ 66 [(0, .ref a0)] [.int u2.1] u2.2
    obtain ⟨u3, hu3, hf⟩ := sw_bnd hf
    refine sf_callS (i := 188) (k2 := k_Model_isSmall) (d2 := d - 1) (As := [.int u2.1]) (st := []) mf_Model_isSmall mi_Model_isSmall (sw_m7 35 (by decide +kernel)) (by decide +kernel) rfl (Nat.le_of_ble_eq_true rfl) (by omega) (o_Model_isSmall g (d := d - 1) (by omega) hu3) ?_
    show sw_F _ _ _ _ _ _ 69 [(0, .ref a0)] [.int u3.1] u3.2
    refine sf_z_eq (off := 16) (tgt := 85) (by decide +kernel) (by decide) hf (fun hc hf => ?_) (fun hc hf => ?_)
    · obtain ⟨h4, hf⟩ := sw_gd_1 hf
      refine sf_blk [(.aload_n 0, 0, 0, .null), (.aload_n 0, 0, 0, .null)] (lv' := [(0, .ref a0)]) (st' := [.ref a0, .ref a0]) (M1 := u3.2) (ob := []) (pc' := 87) (by decide +kernel) rfl rfl sw_a0 ?_
      obtain ⟨u5, hu5, hf⟩ := sw_bnd hf
      refine sf_callV (i := 192) (k2 := k_Model_word) (d2 := d - 1) (As := []) (st := [.ref a0]) (q := a0) (ci := 12) mf_Model_word mi_Model_word ms_Model_word (sw_m7 38 (by decide +kernel)) rfl (by decide) (by decide +kernel) rfl (Nat.le_of_ble_eq_true rfl) (by omega) h4 (o_Model_word g (d := d - 1) (by omega) hu5) ?_
      show sw_F _ _ _ _ _ _ 90 [(0, .ref a0)] [.int u5.1, .ref a0] u5.2
      obtain ⟨h6, hf⟩ := sw_gd_1 hf
      refine sf_blk [(.putfield 195, 12, 28, .null), (.aload_n 0, 0, 0, .null), (.aload_n 0, 0, 0, .null), (.getfield 195, 12, 28, .null), (.iconst (-1), 0, 0, .int (-1 : Int32))] (lv' := [(0, .ref a0)]) (st' := [.int (-1 : Int32), .int (rd_I (wr_I u5.2 a0 28 u5.1) a0 28), .ref a0]) (M1 := (wr_I u5.2 a0 28 u5.1)) (ob := [sw_ok u5.2 a0 12, sw_ok (wr_I u5.2 a0 28 u5.1) a0 12]) (pc' := 99) (by decide +kernel) rfl rfl (sw_a1 h6 (sw_a1 h6 sw_a0)) ?_
      refine sf_j_ne (off := 7) (tgt := 106) (by decide +kernel) (by decide) hf (fun hc hf => ?_) (fun hc hf => ?_)
      · refine sf_blk [(.iconst (0), 0, 0, .int (0 : Int32)), (.putfield 185, 12, 27, .null)] (lv' := [(0, .ref a0)]) (st' := []) (M1 := (wr_I (wr_I u5.2 a0 28 u5.1) a0 27 (0 : Int32))) (ob := [sw_ok (wr_I u5.2 a0 28 u5.1) a0 12]) (pc' := 110) (by decide +kernel) rfl rfl (sw_a1 h6 sw_a0) ?_
        cases hf
        exact sf_void rfl (by decide +kernel)
      · refine sf_blk [(.iconst (4), 0, 0, .int (4 : Int32))] (lv' := [(0, .ref a0)]) (st' := [.int (4 : Int32), .ref a0]) (M1 := (wr_I u5.2 a0 28 u5.1)) (ob := []) (pc' := 103) (by decide +kernel) rfl rfl sw_a0 ?_
        refine sf_goto (off := 4) (tgt := 107) (by decide +kernel) (by decide) ?_
        refine sf_blk [(.putfield 185, 12, 27, .null)] (lv' := [(0, .ref a0)]) (st' := []) (M1 := (wr_I (wr_I u5.2 a0 28 u5.1) a0 27 (4 : Int32))) (ob := [sw_ok (wr_I u5.2 a0 28 u5.1) a0 12]) (pc' := 110) (by decide +kernel) rfl rfl (sw_a1 h6 sw_a0) ?_
        cases hf
        exact sf_void rfl (by decide +kernel)
    · obtain ⟨h7, hf⟩ := sw_gd_1 hf
      refine sf_blk [(.aload_n 0, 0, 0, .null), (.dup, 0, 0, .null), (.getfield 172, 12, 25, .null), (.iconst (1), 0, 0, .int (1 : Int32)), (.iadd, 0, 0, .null), (.putfield 172, 12, 25, .null)] (lv' := [(0, .ref a0)]) (st' := []) (M1 := (wr_I u3.2 a0 25 ((rd_I u3.2 a0 25) + (1 : Int32)))) (ob := [sw_ok u3.2 a0 12, sw_ok u3.2 a0 12]) (pc' := 82) (by decide +kernel) rfl rfl (sw_a1 h7 (sw_a1 h7 sw_a0)) ?_
      refine sf_goto (off := -20) (tgt := 62) (by decide +kernel) (by decide) ?_
      exact sf_weak [0] rfl (ih _ _ hf)
def f_Model_next_0 (N : Nat) : Nat → Nat → sw_M → Option (sw_M)
  | 0, _, _ => none
  | j + 1, a0, M =>
  sw_gd [sw_ok M a0 12] ((f_Model_here N a0 M).bind (fun u2 => if u2.1 = (10 : Int32) then f_Model_next_18 N (f_Model_next_0 N j) a0 u2.2
  else sw_gd [sw_ok u2.2 a0 12] ((f_Model_here N a0 u2.2).bind (fun u4 => if u4.1 = (32 : Int32) then f_Model_next_18 N (f_Model_next_0 N j) a0 u4.2
  else sw_gd [sw_ok u4.2 a0 12] ((f_Model_here N a0 (wr_I u4.2 a0 26 (rd_I u4.2 a0 25))).bind (fun u6 => if u6.1 = (-1 : Int32) then sw_gd [sw_ok u6.2 a0 12] (some (wr_I u6.2 a0 27 (3 : Int32)))
  else (f_Model_isSmall N u6.1 u6.2).bind (fun u7 => if u7.1 = 0 then (f_Model_isDigit N u6.1 u7.2).bind (fun u8 => if u8.1 = 0 then sw_gd [sw_ok u8.2 a0 12] (if u6.1 = (60 : Int32) then (f_Model_here N a0 (wr_I (wr_I (wr_I u8.2 a0 25 ((rd_I u8.2 a0 25) + (1 : Int32))) a0 27 (2 : Int32)) a0 28 u6.1)).bind (fun u10 => if u10.1 = (61 : Int32) then sw_gd [sw_ok u10.2 a0 12] (f_Model_next_304 N a0 u6.1 (wr_I u10.2 a0 28 (256 : Int32)))
  else f_Model_next_232 N a0 u6.1 u10.2)
  else f_Model_next_232 N a0 u6.1 (wr_I (wr_I (wr_I u8.2 a0 25 ((rd_I u8.2 a0 25) + (1 : Int32))) a0 27 (2 : Int32)) a0 28 u6.1))
  else sw_gd [sw_ok u8.2 a0 12] (f_Model_next_128 N N a0 (wr_I (wr_I u8.2 a0 27 (1 : Int32)) a0 28 (0 : Int32))))
  else f_Model_next_62 N N a0 u7.2)))))))
set_option maxRecDepth 10000 in
theorem t_Model_next_0 {g : sw_G} {d n0 : Nat} (hd : 7 ≤ d) {r : sw_M} {N : Nat} : ∀ (j : Nat) (a0 : Nat) (M : sw_M), f_Model_next_0 N j a0 M = some r → sw_F g k_Model_next d n0 none r 0 [(0, .ref a0)] [] M := by
  intro j
  induction j with
  | zero =>
    intro a0 M hf
    rw [f_Model_next_0] at hf
    cases hf
  | succ j ih =>
    intro a0 M hf
    rw [f_Model_next_0] at hf
    obtain ⟨h1, hf⟩ := sw_gd_1 hf
    refine sf_blk [(.aload_n 0, 0, 0, .null)] (lv' := [(0, .ref a0)]) (st' := [.ref a0]) (M1 := M) (ob := []) (pc' := 1) (by decide +kernel) rfl rfl sw_a0 ?_
    obtain ⟨u2, hu2, hf⟩ := sw_bnd hf
    refine sf_callV (i := 178) (k2 := k_Model_here) (d2 := d - 1) (As := []) (st := []) (q := a0) (ci := 12) mf_Model_here mi_Model_here ms_Model_here (sw_m7 31 (by decide +kernel)) rfl (by decide) (by decide +kernel) rfl (Nat.le_of_ble_eq_true rfl) (by omega) h1 (o_Model_here g (d := d - 1) (by omega) hu2) ?_
    show sw_F _ _ _ _ _ _ 4 [(0, .ref a0)] [.int u2.1] u2.2
    refine sf_blk [(.bipush (10), 0, 0, .int (10 : Int32))] (lv' := [(0, .ref a0)]) (st' := [.int (10 : Int32), .int u2.1]) (M1 := u2.2) (ob := []) (pc' := 6) (by decide +kernel) rfl rfl sw_a0 ?_
    refine sf_j_eq (off := 12) (tgt := 18) (by decide +kernel) (by decide) hf (fun hc hf => ?_) (fun hc hf => ?_)
    · exact sf_weak [0] rfl (t_Model_next_18 hd _ ih hf)
    · obtain ⟨h3, hf⟩ := sw_gd_1 hf
      refine sf_blk [(.aload_n 0, 0, 0, .null)] (lv' := [(0, .ref a0)]) (st' := [.ref a0]) (M1 := u2.2) (ob := []) (pc' := 10) (by decide +kernel) rfl rfl sw_a0 ?_
      obtain ⟨u4, hu4, hf⟩ := sw_bnd hf
      refine sf_callV (i := 178) (k2 := k_Model_here) (d2 := d - 1) (As := []) (st := []) (q := a0) (ci := 12) mf_Model_here mi_Model_here ms_Model_here (sw_m7 31 (by decide +kernel)) rfl (by decide) (by decide +kernel) rfl (Nat.le_of_ble_eq_true rfl) (by omega) h3 (o_Model_here g (d := d - 1) (by omega) hu4) ?_
      show sw_F _ _ _ _ _ _ 13 [(0, .ref a0)] [.int u4.1] u4.2
      refine sf_blk [(.bipush (32), 0, 0, .int (32 : Int32))] (lv' := [(0, .ref a0)]) (st' := [.int (32 : Int32), .int u4.1]) (M1 := u4.2) (ob := []) (pc' := 15) (by decide +kernel) rfl rfl sw_a0 ?_
      refine sf_j_ne (off := 16) (tgt := 31) (by decide +kernel) (by decide) hf (fun hc hf => ?_) (fun hc hf => ?_)
      · obtain ⟨h5, hf⟩ := sw_gd_1 hf
        refine sf_blk [(.aload_n 0, 0, 0, .null), (.aload_n 0, 0, 0, .null), (.getfield 172, 12, 25, .null), (.putfield 182, 12, 26, .null), (.aload_n 0, 0, 0, .null)] (lv' := [(0, .ref a0)]) (st' := [.ref a0]) (M1 := (wr_I u4.2 a0 26 (rd_I u4.2 a0 25))) (ob := [sw_ok u4.2 a0 12, sw_ok u4.2 a0 12]) (pc' := 40) (by decide +kernel) rfl rfl (sw_a1 h5 (sw_a1 h5 sw_a0)) ?_
        obtain ⟨u6, hu6, hf⟩ := sw_bnd hf
        refine sf_callV (i := 178) (k2 := k_Model_here) (d2 := d - 1) (As := []) (st := []) (q := a0) (ci := 12) mf_Model_here mi_Model_here ms_Model_here (sw_m7 31 (by decide +kernel)) rfl (by decide) (by decide +kernel) rfl (Nat.le_of_ble_eq_true rfl) (by omega) h5 (o_Model_here g (d := d - 1) (by omega) hu6) ?_
        show sw_F _ _ _ _ _ _ 43 [(0, .ref a0)] [.int u6.1] u6.2
        refine sf_blk [(.istore_n 1, 0, 0, .null), (.iload_n 1, 0, 0, .null), (.iconst (-1), 0, 0, .int (-1 : Int32))] (lv' := [(1, .int u6.1), (0, .ref a0)]) (st' := [.int (-1 : Int32), .int u6.1]) (M1 := u6.2) (ob := []) (pc' := 46) (by decide +kernel) rfl rfl sw_a0 ?_
        refine sf_j_ne (off := 9) (tgt := 55) (by decide +kernel) (by decide) hf (fun hc hf => ?_) (fun hc hf => ?_)
        · refine sf_blk [(.iload_n 1, 0, 0, .null)] (lv' := [(1, .int u6.1), (0, .ref a0)]) (st' := [.int u6.1]) (M1 := u6.2) (ob := []) (pc' := 56) (by decide +kernel) rfl rfl sw_a0 ?_
          obtain ⟨u7, hu7, hf⟩ := sw_bnd hf
          refine sf_callS (i := 188) (k2 := k_Model_isSmall) (d2 := d - 1) (As := [.int u6.1]) (st := []) mf_Model_isSmall mi_Model_isSmall (sw_m7 35 (by decide +kernel)) (by decide +kernel) rfl (Nat.le_of_ble_eq_true rfl) (by omega) (o_Model_isSmall g (d := d - 1) (by omega) hu7) ?_
          show sw_F _ _ _ _ _ _ 59 [(1, .int u6.1), (0, .ref a0)] [.int u7.1] u7.2
          refine sf_z_eq (off := 52) (tgt := 111) (by decide +kernel) (by decide) hf (fun hc hf => ?_) (fun hc hf => ?_)
          · refine sf_blk [(.iload_n 1, 0, 0, .null)] (lv' := [(1, .int u6.1), (0, .ref a0)]) (st' := [.int u6.1]) (M1 := u7.2) (ob := []) (pc' := 112) (by decide +kernel) rfl rfl sw_a0 ?_
            obtain ⟨u8, hu8, hf⟩ := sw_bnd hf
            refine sf_callS (i := 198) (k2 := k_Model_isDigit) (d2 := d - 1) (As := [.int u6.1]) (st := []) mf_Model_isDigit mi_Model_isDigit (sw_m7 45 (by decide +kernel)) (by decide +kernel) rfl (Nat.le_of_ble_eq_true rfl) (by omega) (o_Model_isDigit g (d := d - 1) (by omega) hu8) ?_
            show sw_F _ _ _ _ _ _ 115 [(1, .int u6.1), (0, .ref a0)] [.int u8.1] u8.2
            refine sf_z_eq (off := 72) (tgt := 187) (by decide +kernel) (by decide) hf (fun hc hf => ?_) (fun hc hf => ?_)
            · obtain ⟨h9, hf⟩ := sw_gd_1 hf
              refine sf_blk [(.aload_n 0, 0, 0, .null), (.dup, 0, 0, .null), (.getfield 172, 12, 25, .null), (.iconst (1), 0, 0, .int (1 : Int32)), (.iadd, 0, 0, .null), (.putfield 172, 12, 25, .null), (.aload_n 0, 0, 0, .null), (.iconst (2), 0, 0, .int (2 : Int32)), (.putfield 185, 12, 27, .null), (.aload_n 0, 0, 0, .null), (.iload_n 1, 0, 0, .null), (.putfield 195, 12, 28, .null), (.iload_n 1, 0, 0, .null), (.bipush (60), 0, 0, .int (60 : Int32))] (lv' := [(1, .int u6.1), (0, .ref a0)]) (st' := [.int (60 : Int32), .int u6.1]) (M1 := (wr_I (wr_I (wr_I u8.2 a0 25 ((rd_I u8.2 a0 25) + (1 : Int32))) a0 27 (2 : Int32)) a0 28 u6.1)) (ob := [sw_ok u8.2 a0 12, sw_ok u8.2 a0 12, sw_ok (wr_I u8.2 a0 25 ((rd_I u8.2 a0 25) + (1 : Int32))) a0 12, sw_ok (wr_I (wr_I u8.2 a0 25 ((rd_I u8.2 a0 25) + (1 : Int32))) a0 27 (2 : Int32)) a0 12]) (pc' := 210) (by decide +kernel) rfl rfl (sw_a1 h9 (sw_a1 h9 (sw_a1 h9 (sw_a1 h9 sw_a0)))) ?_
              refine sf_j_ne (off := 22) (tgt := 232) (by decide +kernel) (by decide) hf (fun hc hf => ?_) (fun hc hf => ?_)
              · exact sf_weak [1, 0] rfl (t_Model_next_232 hd hf)
              · refine sf_blk [(.aload_n 0, 0, 0, .null)] (lv' := [(1, .int u6.1), (0, .ref a0)]) (st' := [.ref a0]) (M1 := (wr_I (wr_I (wr_I u8.2 a0 25 ((rd_I u8.2 a0 25) + (1 : Int32))) a0 27 (2 : Int32)) a0 28 u6.1)) (ob := []) (pc' := 214) (by decide +kernel) rfl rfl sw_a0 ?_
                obtain ⟨u10, hu10, hf⟩ := sw_bnd hf
                refine sf_callV (i := 178) (k2 := k_Model_here) (d2 := d - 1) (As := []) (st := []) (q := a0) (ci := 12) mf_Model_here mi_Model_here ms_Model_here (sw_m7 31 (by decide +kernel)) rfl (by decide) (by decide +kernel) rfl (Nat.le_of_ble_eq_true rfl) (by omega) h9 (o_Model_here g (d := d - 1) (by omega) hu10) ?_
                show sw_F _ _ _ _ _ _ 217 [(1, .int u6.1), (0, .ref a0)] [.int u10.1] u10.2
                refine sf_blk [(.bipush (61), 0, 0, .int (61 : Int32))] (lv' := [(1, .int u6.1), (0, .ref a0)]) (st' := [.int (61 : Int32), .int u10.1]) (M1 := u10.2) (ob := []) (pc' := 219) (by decide +kernel) rfl rfl sw_a0 ?_
                refine sf_j_ne (off := 13) (tgt := 232) (by decide +kernel) (by decide) hf (fun hc hf => ?_) (fun hc hf => ?_)
                · exact sf_weak [1, 0] rfl (t_Model_next_232 hd hf)
                · obtain ⟨h11, hf⟩ := sw_gd_1 hf
                  refine sf_blk [(.aload_n 0, 0, 0, .null), (.sipush (256), 0, 0, .int (256 : Int32)), (.putfield 195, 12, 28, .null)] (lv' := [(1, .int u6.1), (0, .ref a0)]) (st' := []) (M1 := (wr_I u10.2 a0 28 (256 : Int32))) (ob := [sw_ok u10.2 a0 12]) (pc' := 229) (by decide +kernel) rfl rfl (sw_a1 h11 sw_a0) ?_
                  refine sf_goto (off := 75) (tgt := 304) (by decide +kernel) (by decide) ?_
                  exact sf_weak [1, 0] rfl (t_Model_next_304 hd hf)
            · obtain ⟨h12, hf⟩ := sw_gd_1 hf
              refine sf_blk [(.aload_n 0, 0, 0, .null), (.iconst (1), 0, 0, .int (1 : Int32)), (.putfield 185, 12, 27, .null), (.aload_n 0, 0, 0, .null), (.iconst (0), 0, 0, .int (0 : Int32)), (.putfield 195, 12, 28, .null)] (lv' := [(1, .int u6.1), (0, .ref a0)]) (st' := []) (M1 := (wr_I (wr_I u8.2 a0 27 (1 : Int32)) a0 28 (0 : Int32))) (ob := [sw_ok u8.2 a0 12, sw_ok (wr_I u8.2 a0 27 (1 : Int32)) a0 12]) (pc' := 128) (by decide +kernel) rfl rfl (sw_a1 h12 (sw_a1 h12 sw_a0)) ?_
              exact sf_weak [1] rfl (t_Model_next_128 hd _ _ _ hf)
          · exact sf_weak [1] rfl (t_Model_next_62 hd _ _ _ hf)
        · obtain ⟨h13, hf⟩ := sw_gd_1 hf
          refine sf_blk [(.aload_n 0, 0, 0, .null), (.iconst (3), 0, 0, .int (3 : Int32)), (.putfield 185, 12, 27, .null)] (lv' := [(1, .int u6.1), (0, .ref a0)]) (st' := []) (M1 := (wr_I u6.2 a0 27 (3 : Int32))) (ob := [sw_ok u6.2 a0 12]) (pc' := 54) (by decide +kernel) rfl rfl (sw_a1 h13 sw_a0) ?_
          cases hf
          exact sf_void rfl (by decide +kernel)
      · exact sf_weak [0] rfl (t_Model_next_18 hd _ ih hf)
def f_Model_next (N : Nat) (a0 : Nat) (M : sw_M) : Option (sw_M) := f_Model_next_0 N N a0 M
theorem t_Model_next {g : sw_G} {d n0 : Nat} (hd : 7 ≤ d) {r : sw_M} {N : Nat} {a0 : Nat} {M : sw_M} (hf : f_Model_next N a0 M = some r) : sw_F g k_Model_next d n0 none r 0 [(0, .ref a0)] [] M := sf_weak [0] rfl (t_Model_next_0 hd _ _ _ hf)
theorem o_Model_next (g : sw_G) {d : Nat} (hd : 7 ≤ d) {N : Nat} {a0 : Nat} {M : sw_M} {r : sw_M} (hf : f_Model_next N a0 M = some r) : sw_Ok g k_Model_next d [.ref a0] M none r := sf_met (by decide +kernel) rfl (by decide) (Nat.le_of_ble_eq_true rfl) (t_Model_next hd hf)
def f_Model_wrong (N : Nat) (a0 : Nat) (a1 : Int32) (M : sw_M) : Option (sw_M) :=
  sw_gd [sw_ok M a0 12] (if (rd_I M a0 30) = 0 then some (wr_I (wr_I M a0 30 a1) a0 31 (rd_I (wr_I M a0 30 a1) a0 26))
  else some M)
set_option maxRecDepth 10000 in
theorem t_Model_wrong {g : sw_G} {d n0 : Nat} (hd : 1 ≤ d) {r : sw_M} {N : Nat} {a0 : Nat} {a1 : Int32} {M : sw_M} (hf : f_Model_wrong N a0 a1 M = some r) : sw_F g k_Model_wrong d n0 none r 0 [(0, .ref a0), (1, .int a1)] [] M := by
  unfold f_Model_wrong at hf
  obtain ⟨h1, hf⟩ := sw_gd_1 hf
  refine sf_blk [(.aload_n 0, 0, 0, .null), (.getfield 212, 12, 30, .null)] (lv' := [(0, .ref a0), (1, .int a1)]) (st' := [.int (rd_I M a0 30)]) (M1 := M) (ob := [sw_ok M a0 12]) (pc' := 4) (by decide +kernel) rfl rfl (sw_a1 h1 sw_a0) ?_
  refine sf_z_eq (off := 4) (tgt := 8) (by decide +kernel) (by decide) hf (fun hc hf => ?_) (fun hc hf => ?_)
  · refine sf_blk [(.aload_n 0, 0, 0, .null), (.iload_n 1, 0, 0, .null), (.putfield 212, 12, 30, .null), (.aload_n 0, 0, 0, .null), (.aload_n 0, 0, 0, .null), (.getfield 182, 12, 26, .null), (.putfield 215, 12, 31, .null)] (lv' := [(0, .ref a0), (1, .int a1)]) (st' := []) (M1 := (wr_I (wr_I M a0 30 a1) a0 31 (rd_I (wr_I M a0 30 a1) a0 26))) (ob := [sw_ok M a0 12, sw_ok (wr_I M a0 30 a1) a0 12, sw_ok (wr_I M a0 30 a1) a0 12]) (pc' := 21) (by decide +kernel) rfl rfl (sw_a1 h1 (sw_a1 h1 (sw_a1 h1 sw_a0))) ?_
    cases hf
    exact sf_void rfl (by decide +kernel)
  · cases hf
    exact sf_void rfl (by decide +kernel)
theorem o_Model_wrong (g : sw_G) {d : Nat} (hd : 1 ≤ d) {N : Nat} {a0 : Nat} {a1 : Int32} {M : sw_M} {r : sw_M} (hf : f_Model_wrong N a0 a1 M = some r) : sw_Ok g k_Model_wrong d [.ref a0, .int a1] M none r := sf_met (by decide +kernel) rfl (by decide) (Nat.le_of_ble_eq_true rfl) (t_Model_wrong hd hf)
def f_Model_knot (N : Nat) (a0 : Nat) (M : sw_M) : Option (sw_M) :=
  sw_gd [sw_ok M a0 12] (if (rd_I M a0 36) = (48 : Int32) then (f_Model_wrong N a0 (2 : Int32) M).bind (fun u2 => some u2)
  else some (wr_I M a0 36 ((rd_I M a0 36) + (1 : Int32))))
set_option maxRecDepth 10000 in
theorem t_Model_knot {g : sw_G} {d n0 : Nat} (hd : 2 ≤ d) {r : sw_M} {N : Nat} {a0 : Nat} {M : sw_M} (hf : f_Model_knot N a0 M = some r) : sw_F g k_Model_knot d n0 none r 0 [(0, .ref a0)] [] M := by
  unfold f_Model_knot at hf
  obtain ⟨h1, hf⟩ := sw_gd_1 hf
  refine sf_blk [(.aload_n 0, 0, 0, .null), (.getfield 252, 12, 36, .null), (.bipush (48), 0, 0, .int (48 : Int32))] (lv' := [(0, .ref a0)]) (st' := [.int (48 : Int32), .int (rd_I M a0 36)]) (M1 := M) (ob := [sw_ok M a0 12]) (pc' := 6) (by decide +kernel) rfl rfl (sw_a1 h1 sw_a0) ?_
  refine sf_j_ne (off := 11) (tgt := 17) (by decide +kernel) (by decide) hf (fun hc hf => ?_) (fun hc hf => ?_)
  · refine sf_blk [(.aload_n 0, 0, 0, .null), (.dup, 0, 0, .null), (.getfield 252, 12, 36, .null), (.iconst (1), 0, 0, .int (1 : Int32)), (.iadd, 0, 0, .null), (.putfield 252, 12, 36, .null)] (lv' := [(0, .ref a0)]) (st' := []) (M1 := (wr_I M a0 36 ((rd_I M a0 36) + (1 : Int32)))) (ob := [sw_ok M a0 12, sw_ok M a0 12]) (pc' := 27) (by decide +kernel) rfl rfl (sw_a1 h1 (sw_a1 h1 sw_a0)) ?_
    cases hf
    exact sf_void rfl (by decide +kernel)
  · refine sf_blk [(.aload_n 0, 0, 0, .null), (.iconst (2), 0, 0, .int (2 : Int32))] (lv' := [(0, .ref a0)]) (st' := [.int (2 : Int32), .ref a0]) (M1 := M) (ob := []) (pc' := 11) (by decide +kernel) rfl rfl sw_a0 ?_
    obtain ⟨u2, hu2, hf⟩ := sw_bnd hf
    refine sf_callV (i := 218) (k2 := k_Model_wrong) (d2 := d - 1) (As := [.int (2 : Int32)]) (st := []) (q := a0) (ci := 12) mf_Model_wrong mi_Model_wrong ms_Model_wrong (sw_m7 53 (by decide +kernel)) rfl (by decide) (by decide +kernel) rfl (Nat.le_of_ble_eq_true rfl) (by omega) h1 (o_Model_wrong g (d := d - 1) (by omega) hu2) ?_
    show sw_F _ _ _ _ _ _ 14 [(0, .ref a0)] [] u2
    refine sf_goto (off := 13) (tgt := 27) (by decide +kernel) (by decide) ?_
    cases hf
    exact sf_void rfl (by decide +kernel)
theorem o_Model_knot (g : sw_G) {d : Nat} (hd : 2 ≤ d) {N : Nat} {a0 : Nat} {M : sw_M} {r : sw_M} (hf : f_Model_knot N a0 M = some r) : sw_Ok g k_Model_knot d [.ref a0] M none r := sf_met (by decide +kernel) rfl (by decide) (Nat.le_of_ble_eq_true rfl) (t_Model_knot hd hf)
def f_Model_out (N : Nat) (a0 : Nat) (a1 : Int32) (a2 : Int32) (M : sw_M) : Option (sw_M) :=
  sw_gd [sw_ok M a0 12] (sw_gd [sw_ar M (rd_R M a0 16) 13 ((48 : Int32) + (rd_I M a0 19))] (sw_gd [sw_ar (wr_I M (rd_R M a0 16) ((48 : Int32) + (rd_I M a0 19)).toNatClampNeg a1) (rd_R (wr_I M (rd_R M a0 16) ((48 : Int32) + (rd_I M a0 19)).toNatClampNeg a1) a0 17) 13 ((48 : Int32) + (rd_I (wr_I M (rd_R M a0 16) ((48 : Int32) + (rd_I M a0 19)).toNatClampNeg a1) a0 19))] (some (wr_I (wr_I (wr_I M (rd_R M a0 16) ((48 : Int32) + (rd_I M a0 19)).toNatClampNeg a1) (rd_R (wr_I M (rd_R M a0 16) ((48 : Int32) + (rd_I M a0 19)).toNatClampNeg a1) a0 17) ((48 : Int32) + (rd_I (wr_I M (rd_R M a0 16) ((48 : Int32) + (rd_I M a0 19)).toNatClampNeg a1) a0 19)).toNatClampNeg a2) a0 19 ((rd_I (wr_I (wr_I M (rd_R M a0 16) ((48 : Int32) + (rd_I M a0 19)).toNatClampNeg a1) (rd_R (wr_I M (rd_R M a0 16) ((48 : Int32) + (rd_I M a0 19)).toNatClampNeg a1) a0 17) ((48 : Int32) + (rd_I (wr_I M (rd_R M a0 16) ((48 : Int32) + (rd_I M a0 19)).toNatClampNeg a1) a0 19)).toNatClampNeg a2) a0 19) + (1 : Int32))))))
set_option maxRecDepth 10000 in
theorem t_Model_out {g : sw_G} {d n0 : Nat} (hd : 1 ≤ d) {r : sw_M} {N : Nat} {a0 : Nat} {a1 : Int32} {a2 : Int32} {M : sw_M} (hf : f_Model_out N a0 a1 a2 M = some r) : sw_F g k_Model_out d n0 none r 0 [(0, .ref a0), (1, .int a1), (2, .int a2)] [] M := by
  unfold f_Model_out at hf
  obtain ⟨h1, hf⟩ := sw_gd_1 hf
  obtain ⟨h2, hf⟩ := sw_gd_1 hf
  obtain ⟨h3, hf⟩ := sw_gd_1 hf
  refine sf_blk [(.aload_n 0, 0, 0, .null), (.getfield 41, 12, 16, .null), (.bipush (48), 0, 0, .int (48 : Int32)), (.aload_n 0, 0, 0, .null), (.getfield 255, 12, 19, .null), (.iadd, 0, 0, .null), (.iload_n 1, 0, 0, .null), (.iastore, 0, 0, .null), (.aload_n 0, 0, 0, .null), (.getfield 44, 12, 17, .null), (.bipush (48), 0, 0, .int (48 : Int32)), (.aload_n 0, 0, 0, .null), (.getfield 255, 12, 19, .null), (.iadd, 0, 0, .null), (.iload_n 2, 0, 0, .null), (.iastore, 0, 0, .null), (.aload_n 0, 0, 0, .null), (.dup, 0, 0, .null), (.getfield 255, 12, 19, .null), (.iconst (1), 0, 0, .int (1 : Int32)), (.iadd, 0, 0, .null), (.putfield 255, 12, 19, .null)] (lv' := [(0, .ref a0), (1, .int a1), (2, .int a2)]) (st' := []) (M1 := (wr_I (wr_I (wr_I M (rd_R M a0 16) ((48 : Int32) + (rd_I M a0 19)).toNatClampNeg a1) (rd_R (wr_I M (rd_R M a0 16) ((48 : Int32) + (rd_I M a0 19)).toNatClampNeg a1) a0 17) ((48 : Int32) + (rd_I (wr_I M (rd_R M a0 16) ((48 : Int32) + (rd_I M a0 19)).toNatClampNeg a1) a0 19)).toNatClampNeg a2) a0 19 ((rd_I (wr_I (wr_I M (rd_R M a0 16) ((48 : Int32) + (rd_I M a0 19)).toNatClampNeg a1) (rd_R (wr_I M (rd_R M a0 16) ((48 : Int32) + (rd_I M a0 19)).toNatClampNeg a1) a0 17) ((48 : Int32) + (rd_I (wr_I M (rd_R M a0 16) ((48 : Int32) + (rd_I M a0 19)).toNatClampNeg a1) a0 19)).toNatClampNeg a2) a0 19) + (1 : Int32)))) (ob := [sw_ok M a0 12, sw_ok M a0 12, sw_ar M (rd_R M a0 16) 13 ((48 : Int32) + (rd_I M a0 19)), sw_ok (wr_I M (rd_R M a0 16) ((48 : Int32) + (rd_I M a0 19)).toNatClampNeg a1) a0 12, sw_ok (wr_I M (rd_R M a0 16) ((48 : Int32) + (rd_I M a0 19)).toNatClampNeg a1) a0 12, sw_ar (wr_I M (rd_R M a0 16) ((48 : Int32) + (rd_I M a0 19)).toNatClampNeg a1) (rd_R (wr_I M (rd_R M a0 16) ((48 : Int32) + (rd_I M a0 19)).toNatClampNeg a1) a0 17) 13 ((48 : Int32) + (rd_I (wr_I M (rd_R M a0 16) ((48 : Int32) + (rd_I M a0 19)).toNatClampNeg a1) a0 19)), sw_ok (wr_I (wr_I M (rd_R M a0 16) ((48 : Int32) + (rd_I M a0 19)).toNatClampNeg a1) (rd_R (wr_I M (rd_R M a0 16) ((48 : Int32) + (rd_I M a0 19)).toNatClampNeg a1) a0 17) ((48 : Int32) + (rd_I (wr_I M (rd_R M a0 16) ((48 : Int32) + (rd_I M a0 19)).toNatClampNeg a1) a0 19)).toNatClampNeg a2) a0 12, sw_ok (wr_I (wr_I M (rd_R M a0 16) ((48 : Int32) + (rd_I M a0 19)).toNatClampNeg a1) (rd_R (wr_I M (rd_R M a0 16) ((48 : Int32) + (rd_I M a0 19)).toNatClampNeg a1) a0 17) ((48 : Int32) + (rd_I (wr_I M (rd_R M a0 16) ((48 : Int32) + (rd_I M a0 19)).toNatClampNeg a1) a0 19)).toNatClampNeg a2) a0 12]) (pc' := 36) (by decide +kernel) rfl rfl (sw_a1 h1 (sw_a1 h1 (sw_a1 h2 (sw_a1 h1 (sw_a1 h1 (sw_a1 h3 (sw_a1 h1 (sw_a1 h1 sw_a0)))))))) ?_
  cases hf
  exact sf_void rfl (by decide +kernel)
theorem o_Model_out (g : sw_G) {d : Nat} (hd : 1 ≤ d) {N : Nat} {a0 : Nat} {a1 : Int32} {a2 : Int32} {M : sw_M} {r : sw_M} (hf : f_Model_out N a0 a1 a2 M = some r) : sw_Ok g k_Model_out d [.ref a0, .int a1, .int a2] M none r := sf_met (by decide +kernel) rfl (by decide) (Nat.le_of_ble_eq_true rfl) (t_Model_out hd hf)
def f_Model_isSign (N : Nat) (a0 : Nat) (a1 : Int32) (M : sw_M) : Option (Int32 × sw_M) :=
  sw_gd [sw_ok M a0 12] (if (rd_I M a0 27) = (2 : Int32) then if (rd_I M a0 28) = a1 then some ((1 : Int32), M)
  else some ((0 : Int32), M)
  else some ((0 : Int32), M))
set_option maxRecDepth 10000 in
theorem t_Model_isSign {g : sw_G} {d n0 : Nat} (hd : 1 ≤ d) {r : Int32 × sw_M} {N : Nat} {a0 : Nat} {a1 : Int32} {M : sw_M} (hf : f_Model_isSign N a0 a1 M = some r) : sw_F g k_Model_isSign d n0 (some (.int r.1)) r.2 0 [(0, .ref a0), (1, .int a1)] [] M := by
  unfold f_Model_isSign at hf
  obtain ⟨h1, hf⟩ := sw_gd_1 hf
  refine sf_blk [(.aload_n 0, 0, 0, .null), (.getfield 185, 12, 27, .null), (.iconst (2), 0, 0, .int (2 : Int32))] (lv' := [(0, .ref a0), (1, .int a1)]) (st' := [.int (2 : Int32), .int (rd_I M a0 27)]) (M1 := M) (ob := [sw_ok M a0 12]) (pc' := 5) (by decide +kernel) rfl rfl (sw_a1 h1 sw_a0) ?_
  refine sf_j_ne (off := 15) (tgt := 20) (by decide +kernel) (by decide) hf (fun hc hf => ?_) (fun hc hf => ?_)
  · refine sf_blk [(.iconst (0), 0, 0, .int (0 : Int32))] (lv' := [(0, .ref a0), (1, .int a1)]) (st' := [.int (0 : Int32)]) (M1 := M) (ob := []) (pc' := 21) (by decide +kernel) rfl rfl sw_a0 ?_
    cases hf
    exact sf_bool rfl rfl (by decide +kernel)
  · refine sf_blk [(.aload_n 0, 0, 0, .null), (.getfield 195, 12, 28, .null), (.iload_n 1, 0, 0, .null)] (lv' := [(0, .ref a0), (1, .int a1)]) (st' := [.int a1, .int (rd_I M a0 28)]) (M1 := M) (ob := [sw_ok M a0 12]) (pc' := 13) (by decide +kernel) rfl rfl (sw_a1 h1 sw_a0) ?_
    refine sf_j_ne (off := 7) (tgt := 20) (by decide +kernel) (by decide) hf (fun hc hf => ?_) (fun hc hf => ?_)
    · refine sf_blk [(.iconst (0), 0, 0, .int (0 : Int32))] (lv' := [(0, .ref a0), (1, .int a1)]) (st' := [.int (0 : Int32)]) (M1 := M) (ob := []) (pc' := 21) (by decide +kernel) rfl rfl sw_a0 ?_
      cases hf
      exact sf_bool rfl rfl (by decide +kernel)
    · refine sf_blk [(.iconst (1), 0, 0, .int (1 : Int32))] (lv' := [(0, .ref a0), (1, .int a1)]) (st' := [.int (1 : Int32)]) (M1 := M) (ob := []) (pc' := 17) (by decide +kernel) rfl rfl sw_a0 ?_
      refine sf_goto (off := 4) (tgt := 21) (by decide +kernel) (by decide) ?_
      cases hf
      exact sf_bool rfl rfl (by decide +kernel)
theorem o_Model_isSign (g : sw_G) {d : Nat} (hd : 1 ≤ d) {N : Nat} {a0 : Nat} {a1 : Int32} {M : sw_M} {r : Int32 × sw_M} (hf : f_Model_isSign N a0 a1 M = some r) : sw_Ok g k_Model_isSign d [.ref a0, .int a1] M (some (.int r.1)) r.2 := sf_met (by decide +kernel) rfl (by decide) (Nat.le_of_ble_eq_true rfl) (t_Model_isSign hd hf)
def f_Model_waits (N : Nat) (a0 : Nat) (a1 : Int32) (M : sw_M) : Option (sw_M) :=
  sw_gd [sw_ok M a0 12] (sw_gd [sw_ar M (rd_R M a0 34) 13 (rd_I M a0 35)] ((f_Model_next N a0 (wr_I (wr_I M (rd_R M a0 34) (rd_I M a0 35).toNatClampNeg a1) a0 35 ((rd_I (wr_I M (rd_R M a0 34) (rd_I M a0 35).toNatClampNeg a1) a0 35) + (1 : Int32)))).bind (fun u3 => some u3)))
set_option maxRecDepth 10000 in
theorem t_Model_waits {g : sw_G} {d n0 : Nat} (hd : 8 ≤ d) {r : sw_M} {N : Nat} {a0 : Nat} {a1 : Int32} {M : sw_M} (hf : f_Model_waits N a0 a1 M = some r) : sw_F g k_Model_waits d n0 none r 0 [(0, .ref a0), (1, .int a1)] [] M := by
  unfold f_Model_waits at hf
  obtain ⟨h1, hf⟩ := sw_gd_1 hf
  obtain ⟨h2, hf⟩ := sw_gd_1 hf
  refine sf_blk [(.aload_n 0, 0, 0, .null), (.getfield 53, 12, 34, .null), (.aload_n 0, 0, 0, .null), (.getfield 258, 12, 35, .null), (.iload_n 1, 0, 0, .null), (.iastore, 0, 0, .null), (.aload_n 0, 0, 0, .null), (.dup, 0, 0, .null), (.getfield 258, 12, 35, .null), (.iconst (1), 0, 0, .int (1 : Int32)), (.iadd, 0, 0, .null), (.putfield 258, 12, 35, .null), (.aload_n 0, 0, 0, .null)] (lv' := [(0, .ref a0), (1, .int a1)]) (st' := [.ref a0]) (M1 := (wr_I (wr_I M (rd_R M a0 34) (rd_I M a0 35).toNatClampNeg a1) a0 35 ((rd_I (wr_I M (rd_R M a0 34) (rd_I M a0 35).toNatClampNeg a1) a0 35) + (1 : Int32)))) (ob := [sw_ok M a0 12, sw_ok M a0 12, sw_ar M (rd_R M a0 34) 13 (rd_I M a0 35), sw_ok (wr_I M (rd_R M a0 34) (rd_I M a0 35).toNatClampNeg a1) a0 12, sw_ok (wr_I M (rd_R M a0 34) (rd_I M a0 35).toNatClampNeg a1) a0 12]) (pc' := 21) (by decide +kernel) rfl rfl (sw_a1 h1 (sw_a1 h1 (sw_a1 h2 (sw_a1 h1 (sw_a1 h1 sw_a0))))) ?_
  obtain ⟨u3, hu3, hf⟩ := sw_bnd hf
  refine sf_callV (i := 222) (k2 := k_Model_next) (d2 := d - 1) (As := []) (st := []) (q := a0) (ci := 12) mf_Model_next mi_Model_next ms_Model_next (sw_m7 27 (by decide +kernel)) rfl (by decide) (by decide +kernel) rfl (Nat.le_of_ble_eq_true rfl) (by omega) h1 (o_Model_next g (d := d - 1) (by omega) hu3) ?_
  show sw_F _ _ _ _ _ _ 24 [(0, .ref a0), (1, .int a1)] [] u3
  cases hf
  exact sf_void rfl (by decide +kernel)
theorem o_Model_waits (g : sw_G) {d : Nat} (hd : 8 ≤ d) {N : Nat} {a0 : Nat} {a1 : Int32} {M : sw_M} {r : sw_M} (hf : f_Model_waits N a0 a1 M = some r) : sw_Ok g k_Model_waits d [.ref a0, .int a1] M none r := sf_met (by decide +kernel) rfl (by decide) (Nat.le_of_ble_eq_true rfl) (t_Model_waits hd hf)
def f_Model_bind (N : Nat) (a0 : Int32) (M : sw_M) : Option (Int32 × sw_M) :=
  if a0 = (42 : Int32) then some ((6 : Int32), M)
  else if a0 = (43 : Int32) then some ((5 : Int32), M)
  else if a0 = (45 : Int32) then some ((5 : Int32), M)
  else if a0 = (47 : Int32) then some ((6 : Int32), M)
  else if a0 = (60 : Int32) then some ((4 : Int32), M)
  else if a0 = (61 : Int32) then some ((4 : Int32), M)
  else if a0 = (62 : Int32) then some ((4 : Int32), M)
  else if a0 = (256 : Int32) then some ((4 : Int32), M)
  else if a0 = (257 : Int32) then some ((4 : Int32), M)
  else if a0 = (258 : Int32) then some ((4 : Int32), M)
  else if a0 = (260 : Int32) then some ((3 : Int32), M)
  else if a0 = (261 : Int32) then some ((2 : Int32), M)
  else if a0 = (262 : Int32) then some ((1 : Int32), M)
  else some ((0 : Int32), M)
set_option maxRecDepth 10000 in
theorem t_Model_bind {g : sw_G} {d n0 : Nat} (hd : 1 ≤ d) {r : Int32 × sw_M} {N : Nat} {a0 : Int32} {M : sw_M} (hf : f_Model_bind N a0 M = some r) : sw_F g k_Model_bind d n0 (some (.int r.1)) r.2 0 [(0, .int a0)] [] M := by
  unfold f_Model_bind at hf
  refine sf_blk [(.iload_n 0, 0, 0, .null)] (lv' := [(0, .int a0)]) (st' := [.int a0]) (M1 := M) (ob := []) (pc' := 1) (by decide +kernel) rfl rfl sw_a0 ?_
  rcases sw_ite hf with ⟨h1, hf⟩ | ⟨h1, hf⟩
  · refine sf_look (a := a0) (off := 125) (tgt := 126) (len := 115) (show decode (k_c k_Model_bind) 1 = .ok (.lookupswitch (128) #[(42, 125), (43, 123), (45, 123), (47, 125), (60, 121), (61, 121), (62, 121), (256, 121), (257, 121), (258, 121), (260, 119), (261, 117), (262, 115)], 115) by decide +kernel) (by decide +kernel) (by rw [h1]; decide +kernel) (by decide) ?_
    refine sf_blk [(.bipush (6), 0, 0, .int (6 : Int32))] (lv' := [(0, .int a0)]) (st' := [.int (6 : Int32)]) (M1 := M) (ob := []) (pc' := 128) (by decide +kernel) rfl rfl sw_a0 ?_
    cases hf
    exact sf_int rfl (by decide +kernel)
  ·
    rcases sw_ite hf with ⟨h2, hf⟩ | ⟨h2, hf⟩
    · refine sf_look (a := a0) (off := 123) (tgt := 124) (len := 115) (show decode (k_c k_Model_bind) 1 = .ok (.lookupswitch (128) #[(42, 125), (43, 123), (45, 123), (47, 125), (60, 121), (61, 121), (62, 121), (256, 121), (257, 121), (258, 121), (260, 119), (261, 117), (262, 115)], 115) by decide +kernel) (by decide +kernel) (by rw [h2]; decide +kernel) (by decide) ?_
      refine sf_blk [(.iconst (5), 0, 0, .int (5 : Int32))] (lv' := [(0, .int a0)]) (st' := [.int (5 : Int32)]) (M1 := M) (ob := []) (pc' := 125) (by decide +kernel) rfl rfl sw_a0 ?_
      cases hf
      exact sf_int rfl (by decide +kernel)
    ·
      rcases sw_ite hf with ⟨h3, hf⟩ | ⟨h3, hf⟩
      · refine sf_look (a := a0) (off := 123) (tgt := 124) (len := 115) (show decode (k_c k_Model_bind) 1 = .ok (.lookupswitch (128) #[(42, 125), (43, 123), (45, 123), (47, 125), (60, 121), (61, 121), (62, 121), (256, 121), (257, 121), (258, 121), (260, 119), (261, 117), (262, 115)], 115) by decide +kernel) (by decide +kernel) (by rw [h3]; decide +kernel) (by decide) ?_
        refine sf_blk [(.iconst (5), 0, 0, .int (5 : Int32))] (lv' := [(0, .int a0)]) (st' := [.int (5 : Int32)]) (M1 := M) (ob := []) (pc' := 125) (by decide +kernel) rfl rfl sw_a0 ?_
        cases hf
        exact sf_int rfl (by decide +kernel)
      ·
        rcases sw_ite hf with ⟨h4, hf⟩ | ⟨h4, hf⟩
        · refine sf_look (a := a0) (off := 125) (tgt := 126) (len := 115) (show decode (k_c k_Model_bind) 1 = .ok (.lookupswitch (128) #[(42, 125), (43, 123), (45, 123), (47, 125), (60, 121), (61, 121), (62, 121), (256, 121), (257, 121), (258, 121), (260, 119), (261, 117), (262, 115)], 115) by decide +kernel) (by decide +kernel) (by rw [h4]; decide +kernel) (by decide) ?_
          refine sf_blk [(.bipush (6), 0, 0, .int (6 : Int32))] (lv' := [(0, .int a0)]) (st' := [.int (6 : Int32)]) (M1 := M) (ob := []) (pc' := 128) (by decide +kernel) rfl rfl sw_a0 ?_
          cases hf
          exact sf_int rfl (by decide +kernel)
        ·
          rcases sw_ite hf with ⟨h5, hf⟩ | ⟨h5, hf⟩
          · refine sf_look (a := a0) (off := 121) (tgt := 122) (len := 115) (show decode (k_c k_Model_bind) 1 = .ok (.lookupswitch (128) #[(42, 125), (43, 123), (45, 123), (47, 125), (60, 121), (61, 121), (62, 121), (256, 121), (257, 121), (258, 121), (260, 119), (261, 117), (262, 115)], 115) by decide +kernel) (by decide +kernel) (by rw [h5]; decide +kernel) (by decide) ?_
            refine sf_blk [(.iconst (4), 0, 0, .int (4 : Int32))] (lv' := [(0, .int a0)]) (st' := [.int (4 : Int32)]) (M1 := M) (ob := []) (pc' := 123) (by decide +kernel) rfl rfl sw_a0 ?_
            cases hf
            exact sf_int rfl (by decide +kernel)
          ·
            rcases sw_ite hf with ⟨h6, hf⟩ | ⟨h6, hf⟩
            · refine sf_look (a := a0) (off := 121) (tgt := 122) (len := 115) (show decode (k_c k_Model_bind) 1 = .ok (.lookupswitch (128) #[(42, 125), (43, 123), (45, 123), (47, 125), (60, 121), (61, 121), (62, 121), (256, 121), (257, 121), (258, 121), (260, 119), (261, 117), (262, 115)], 115) by decide +kernel) (by decide +kernel) (by rw [h6]; decide +kernel) (by decide) ?_
              refine sf_blk [(.iconst (4), 0, 0, .int (4 : Int32))] (lv' := [(0, .int a0)]) (st' := [.int (4 : Int32)]) (M1 := M) (ob := []) (pc' := 123) (by decide +kernel) rfl rfl sw_a0 ?_
              cases hf
              exact sf_int rfl (by decide +kernel)
            ·
              rcases sw_ite hf with ⟨h7, hf⟩ | ⟨h7, hf⟩
              · refine sf_look (a := a0) (off := 121) (tgt := 122) (len := 115) (show decode (k_c k_Model_bind) 1 = .ok (.lookupswitch (128) #[(42, 125), (43, 123), (45, 123), (47, 125), (60, 121), (61, 121), (62, 121), (256, 121), (257, 121), (258, 121), (260, 119), (261, 117), (262, 115)], 115) by decide +kernel) (by decide +kernel) (by rw [h7]; decide +kernel) (by decide) ?_
                refine sf_blk [(.iconst (4), 0, 0, .int (4 : Int32))] (lv' := [(0, .int a0)]) (st' := [.int (4 : Int32)]) (M1 := M) (ob := []) (pc' := 123) (by decide +kernel) rfl rfl sw_a0 ?_
                cases hf
                exact sf_int rfl (by decide +kernel)
              ·
                rcases sw_ite hf with ⟨h8, hf⟩ | ⟨h8, hf⟩
                · refine sf_look (a := a0) (off := 121) (tgt := 122) (len := 115) (show decode (k_c k_Model_bind) 1 = .ok (.lookupswitch (128) #[(42, 125), (43, 123), (45, 123), (47, 125), (60, 121), (61, 121), (62, 121), (256, 121), (257, 121), (258, 121), (260, 119), (261, 117), (262, 115)], 115) by decide +kernel) (by decide +kernel) (by rw [h8]; decide +kernel) (by decide) ?_
                  refine sf_blk [(.iconst (4), 0, 0, .int (4 : Int32))] (lv' := [(0, .int a0)]) (st' := [.int (4 : Int32)]) (M1 := M) (ob := []) (pc' := 123) (by decide +kernel) rfl rfl sw_a0 ?_
                  cases hf
                  exact sf_int rfl (by decide +kernel)
                ·
                  rcases sw_ite hf with ⟨h9, hf⟩ | ⟨h9, hf⟩
                  · refine sf_look (a := a0) (off := 121) (tgt := 122) (len := 115) (show decode (k_c k_Model_bind) 1 = .ok (.lookupswitch (128) #[(42, 125), (43, 123), (45, 123), (47, 125), (60, 121), (61, 121), (62, 121), (256, 121), (257, 121), (258, 121), (260, 119), (261, 117), (262, 115)], 115) by decide +kernel) (by decide +kernel) (by rw [h9]; decide +kernel) (by decide) ?_
                    refine sf_blk [(.iconst (4), 0, 0, .int (4 : Int32))] (lv' := [(0, .int a0)]) (st' := [.int (4 : Int32)]) (M1 := M) (ob := []) (pc' := 123) (by decide +kernel) rfl rfl sw_a0 ?_
                    cases hf
                    exact sf_int rfl (by decide +kernel)
                  ·
                    rcases sw_ite hf with ⟨h10, hf⟩ | ⟨h10, hf⟩
                    · refine sf_look (a := a0) (off := 121) (tgt := 122) (len := 115) (show decode (k_c k_Model_bind) 1 = .ok (.lookupswitch (128) #[(42, 125), (43, 123), (45, 123), (47, 125), (60, 121), (61, 121), (62, 121), (256, 121), (257, 121), (258, 121), (260, 119), (261, 117), (262, 115)], 115) by decide +kernel) (by decide +kernel) (by rw [h10]; decide +kernel) (by decide) ?_
                      refine sf_blk [(.iconst (4), 0, 0, .int (4 : Int32))] (lv' := [(0, .int a0)]) (st' := [.int (4 : Int32)]) (M1 := M) (ob := []) (pc' := 123) (by decide +kernel) rfl rfl sw_a0 ?_
                      cases hf
                      exact sf_int rfl (by decide +kernel)
                    ·
                      rcases sw_ite hf with ⟨h11, hf⟩ | ⟨h11, hf⟩
                      · refine sf_look (a := a0) (off := 119) (tgt := 120) (len := 115) (show decode (k_c k_Model_bind) 1 = .ok (.lookupswitch (128) #[(42, 125), (43, 123), (45, 123), (47, 125), (60, 121), (61, 121), (62, 121), (256, 121), (257, 121), (258, 121), (260, 119), (261, 117), (262, 115)], 115) by decide +kernel) (by decide +kernel) (by rw [h11]; decide +kernel) (by decide) ?_
                        refine sf_blk [(.iconst (3), 0, 0, .int (3 : Int32))] (lv' := [(0, .int a0)]) (st' := [.int (3 : Int32)]) (M1 := M) (ob := []) (pc' := 121) (by decide +kernel) rfl rfl sw_a0 ?_
                        cases hf
                        exact sf_int rfl (by decide +kernel)
                      ·
                        rcases sw_ite hf with ⟨h12, hf⟩ | ⟨h12, hf⟩
                        · refine sf_look (a := a0) (off := 117) (tgt := 118) (len := 115) (show decode (k_c k_Model_bind) 1 = .ok (.lookupswitch (128) #[(42, 125), (43, 123), (45, 123), (47, 125), (60, 121), (61, 121), (62, 121), (256, 121), (257, 121), (258, 121), (260, 119), (261, 117), (262, 115)], 115) by decide +kernel) (by decide +kernel) (by rw [h12]; decide +kernel) (by decide) ?_
                          refine sf_blk [(.iconst (2), 0, 0, .int (2 : Int32))] (lv' := [(0, .int a0)]) (st' := [.int (2 : Int32)]) (M1 := M) (ob := []) (pc' := 119) (by decide +kernel) rfl rfl sw_a0 ?_
                          cases hf
                          exact sf_int rfl (by decide +kernel)
                        ·
                          rcases sw_ite hf with ⟨h13, hf⟩ | ⟨h13, hf⟩
                          · refine sf_look (a := a0) (off := 115) (tgt := 116) (len := 115) (show decode (k_c k_Model_bind) 1 = .ok (.lookupswitch (128) #[(42, 125), (43, 123), (45, 123), (47, 125), (60, 121), (61, 121), (62, 121), (256, 121), (257, 121), (258, 121), (260, 119), (261, 117), (262, 115)], 115) by decide +kernel) (by decide +kernel) (by rw [h13]; decide +kernel) (by decide) ?_
                            refine sf_blk [(.iconst (1), 0, 0, .int (1 : Int32))] (lv' := [(0, .int a0)]) (st' := [.int (1 : Int32)]) (M1 := M) (ob := []) (pc' := 117) (by decide +kernel) rfl rfl sw_a0 ?_
                            cases hf
                            exact sf_int rfl (by decide +kernel)
                          ·
                            refine sf_look (a := a0) (off := 128) (tgt := 129) (len := 115) (show decode (k_c k_Model_bind) 1 = .ok (.lookupswitch (128) #[(42, 125), (43, 123), (45, 123), (47, 125), (60, 121), (61, 121), (62, 121), (256, 121), (257, 121), (258, 121), (260, 119), (261, 117), (262, 115)], 115) by decide +kernel) (by decide +kernel) (by rw [lv_osw h1 (by decide), lv_osw h2 (by decide), lv_osw h3 (by decide), lv_osw h4 (by decide), lv_osw h5 (by decide), lv_osw h6 (by decide), lv_osw h7 (by decide), lv_osw h8 (by decide), lv_osw h9 (by decide), lv_osw h10 (by decide), lv_osw h11 (by decide), lv_osw h12 (by decide), lv_osw h13 (by decide)]; rfl) (by decide) ?_
                            refine sf_blk [(.iconst (0), 0, 0, .int (0 : Int32))] (lv' := [(0, .int a0)]) (st' := [.int (0 : Int32)]) (M1 := M) (ob := []) (pc' := 130) (by decide +kernel) rfl rfl sw_a0 ?_
                            cases hf
                            exact sf_int rfl (by decide +kernel)
theorem o_Model_bind (g : sw_G) {d : Nat} (hd : 1 ≤ d) {N : Nat} {a0 : Int32} {M : sw_M} {r : Int32 × sw_M} (hf : f_Model_bind N a0 M = some r) : sw_Ok g k_Model_bind d [.int a0] M (some (.int r.1)) r.2 := sf_met (by decide +kernel) rfl (by decide) (Nat.le_of_ble_eq_true rfl) (t_Model_bind hd hf)
def f_Model_operand_205 (N : Nat) (a0 : Nat) (M : sw_M) : Option (Int32 × sw_M) :=
  sw_gd [sw_ok M a0 12] ((f_Model_wrong N a0 (1 : Int32) M).bind (fun u2 => some ((0 : Int32), u2)))
set_option maxRecDepth 10000 in
theorem t_Model_operand_205 {g : sw_G} {d n0 : Nat} (hd : 9 ≤ d) {r : Int32 × sw_M} {N : Nat} {a0 : Nat} {M : sw_M} (hf : f_Model_operand_205 N a0 M = some r) : sw_F g k_Model_operand d n0 (some (.int r.1)) r.2 205 [(0, .ref a0)] [] M := by
  unfold f_Model_operand_205 at hf
  obtain ⟨h1, hf⟩ := sw_gd_1 hf
  refine sf_blk [(.aload_n 0, 0, 0, .null), (.iconst (1), 0, 0, .int (1 : Int32))] (lv' := [(0, .ref a0)]) (st' := [.int (1 : Int32), .ref a0]) (M1 := M) (ob := []) (pc' := 207) (by decide +kernel) rfl rfl sw_a0 ?_
  obtain ⟨u2, hu2, hf⟩ := sw_bnd hf
  refine sf_callV (i := 218) (k2 := k_Model_wrong) (d2 := d - 1) (As := [.int (1 : Int32)]) (st := []) (q := a0) (ci := 12) mf_Model_wrong mi_Model_wrong ms_Model_wrong (sw_m7 53 (by decide +kernel)) rfl (by decide) (by decide +kernel) rfl (Nat.le_of_ble_eq_true rfl) (by omega) h1 (o_Model_wrong g (d := d - 1) (by omega) hu2) ?_
  show sw_F _ _ _ _ _ _ 210 [(0, .ref a0)] [] u2
  refine sf_blk [(.iconst (0), 0, 0, .int (0 : Int32))] (lv' := [(0, .ref a0)]) (st' := [.int (0 : Int32)]) (M1 := u2) (ob := []) (pc' := 211) (by decide +kernel) rfl rfl sw_a0 ?_
  cases hf
  exact sf_bool rfl rfl (by decide +kernel)
def f_Model_operand_184 (N : Nat) (a0 : Nat) (b0 : Int32) (M : sw_M) : Option (Int32 × sw_M) :=
  sw_gd [sw_ok M a0 12] (if (rd_I M a0 27) = 0 then if (rd_I M a0 28) = (8 : Int32) then if b0 = 0 then f_Model_operand_205 N a0 M
  else (f_Model_knot N a0 M).bind (fun u2 => sw_gd [sw_ok u2 a0 12] (if (rd_I u2 a0 30) = 0 then (f_Model_waits N a0 (260 : Int32) u2).bind (fun u4 => some ((0 : Int32), u4))
  else some ((0 : Int32), u2)))
  else f_Model_operand_205 N a0 M
  else f_Model_operand_205 N a0 M)
set_option maxRecDepth 10000 in
theorem t_Model_operand_184 {g : sw_G} {d n0 : Nat} (hd : 9 ≤ d) {r : Int32 × sw_M} {N : Nat} {a0 : Nat} {b0 : Int32} {M : sw_M} (hf : f_Model_operand_184 N a0 b0 M = some r) : sw_F g k_Model_operand d n0 (some (.int r.1)) r.2 184 [(0, .ref a0)] [.int b0] M := by
  unfold f_Model_operand_184 at hf
  obtain ⟨h1, hf⟩ := sw_gd_1 hf
  refine sf_blk [(.istore_n 1, 0, 0, .null), (.aload_n 0, 0, 0, .null), (.getfield 185, 12, 27, .null)] (lv' := [(1, .int b0), (0, .ref a0)]) (st' := [.int (rd_I M a0 27)]) (M1 := M) (ob := [sw_ok M a0 12]) (pc' := 189) (by decide +kernel) rfl rfl (sw_a1 h1 sw_a0) ?_
  refine sf_z_ne (off := 16) (tgt := 205) (by decide +kernel) (by decide) hf (fun hc hf => ?_) (fun hc hf => ?_)
  · exact sf_weak [1] rfl (t_Model_operand_205 hd hf)
  · refine sf_blk [(.aload_n 0, 0, 0, .null), (.getfield 195, 12, 28, .null), (.bipush (8), 0, 0, .int (8 : Int32))] (lv' := [(1, .int b0), (0, .ref a0)]) (st' := [.int (8 : Int32), .int (rd_I M a0 28)]) (M1 := M) (ob := [sw_ok M a0 12]) (pc' := 198) (by decide +kernel) rfl rfl (sw_a1 h1 sw_a0) ?_
    refine sf_j_ne (off := 7) (tgt := 205) (by decide +kernel) (by decide) hf (fun hc hf => ?_) (fun hc hf => ?_)
    · exact sf_weak [1] rfl (t_Model_operand_205 hd hf)
    · refine sf_blk [(.iload_n 1, 0, 0, .null)] (lv' := [(1, .int b0), (0, .ref a0)]) (st' := [.int b0]) (M1 := M) (ob := []) (pc' := 202) (by decide +kernel) rfl rfl sw_a0 ?_
      refine sf_z_ne (off := 10) (tgt := 212) (by decide +kernel) (by decide) hf (fun hc hf => ?_) (fun hc hf => ?_)
      · refine sf_blk [(.aload_n 0, 0, 0, .null)] (lv' := [(1, .int b0), (0, .ref a0)]) (st' := [.ref a0]) (M1 := M) (ob := []) (pc' := 213) (by decide +kernel) rfl rfl sw_a0 ?_
        obtain ⟨u2, hu2, hf⟩ := sw_bnd hf
        refine sf_callV (i := 284) (k2 := k_Model_knot) (d2 := d - 1) (As := []) (st := []) (q := a0) (ci := 12) mf_Model_knot mi_Model_knot ms_Model_knot (sw_m7 65 (by decide +kernel)) rfl (by decide) (by decide +kernel) rfl (Nat.le_of_ble_eq_true rfl) (by omega) h1 (o_Model_knot g (d := d - 1) (by omega) hu2) ?_
        show sw_F _ _ _ _ _ _ 216 [(1, .int b0), (0, .ref a0)] [] u2
        obtain ⟨h3, hf⟩ := sw_gd_1 hf
        refine sf_blk [(.aload_n 0, 0, 0, .null), (.getfield 212, 12, 30, .null)] (lv' := [(1, .int b0), (0, .ref a0)]) (st' := [.int (rd_I u2 a0 30)]) (M1 := u2) (ob := [sw_ok u2 a0 12]) (pc' := 220) (by decide +kernel) rfl rfl (sw_a1 h3 sw_a0) ?_
        refine sf_z_ne (off := 10) (tgt := 230) (by decide +kernel) (by decide) hf (fun hc hf => ?_) (fun hc hf => ?_)
        · refine sf_blk [(.iconst (0), 0, 0, .int (0 : Int32))] (lv' := [(1, .int b0), (0, .ref a0)]) (st' := [.int (0 : Int32)]) (M1 := u2) (ob := []) (pc' := 231) (by decide +kernel) rfl rfl sw_a0 ?_
          cases hf
          exact sf_bool rfl rfl (by decide +kernel)
        · refine sf_blk [(.aload_n 0, 0, 0, .null), (.sipush (260), 0, 0, .int (260 : Int32))] (lv' := [(1, .int b0), (0, .ref a0)]) (st' := [.int (260 : Int32), .ref a0]) (M1 := u2) (ob := []) (pc' := 227) (by decide +kernel) rfl rfl sw_a0 ?_
          obtain ⟨u4, hu4, hf⟩ := sw_bnd hf
          refine sf_callV (i := 287) (k2 := k_Model_waits) (d2 := d - 1) (As := [.int (260 : Int32)]) (st := []) (q := a0) (ci := 12) mf_Model_waits mi_Model_waits ms_Model_waits (sw_m7 77 (by decide +kernel)) rfl (by decide) (by decide +kernel) rfl (Nat.le_of_ble_eq_true rfl) (by omega) h3 (o_Model_waits g (d := d - 1) (by omega) hu4) ?_
          show sw_F _ _ _ _ _ _ 230 [(1, .int b0), (0, .ref a0)] [] u4
          refine sf_blk [(.iconst (0), 0, 0, .int (0 : Int32))] (lv' := [(1, .int b0), (0, .ref a0)]) (st' := [.int (0 : Int32)]) (M1 := u4) (ob := []) (pc' := 231) (by decide +kernel) rfl rfl sw_a0 ?_
          cases hf
          exact sf_bool rfl rfl (by decide +kernel)
      · exact sf_weak [1] rfl (t_Model_operand_205 hd hf)
def f_Model_operand_179 (N : Nat) (a0 : Nat) (M : sw_M) : Option (Int32 × sw_M) :=
  f_Model_operand_184 N a0 (1 : Int32) M
set_option maxRecDepth 10000 in
theorem t_Model_operand_179 {g : sw_G} {d n0 : Nat} (hd : 9 ≤ d) {r : Int32 × sw_M} {N : Nat} {a0 : Nat} {M : sw_M} (hf : f_Model_operand_179 N a0 M = some r) : sw_F g k_Model_operand d n0 (some (.int r.1)) r.2 179 [(0, .ref a0)] [] M := by
  unfold f_Model_operand_179 at hf
  refine sf_blk [(.iconst (1), 0, 0, .int (1 : Int32))] (lv' := [(0, .ref a0)]) (st' := [.int (1 : Int32)]) (M1 := M) (ob := []) (pc' := 180) (by decide +kernel) rfl rfl sw_a0 ?_
  refine sf_goto (off := 4) (tgt := 184) (by decide +kernel) (by decide) ?_
  exact sf_weak [0] rfl (t_Model_operand_184 hd hf)
def f_Model_operand_127 (N : Nat) (a0 : Nat) (M : sw_M) : Option (Int32 × sw_M) :=
  sw_gd [sw_ok M a0 12] (if (rd_I M a0 30) = 0 then (f_Model_waits N a0 (40 : Int32) (wr_I M a0 29 ((rd_I M a0 29) + (1 : Int32)))).bind (fun u2 => some ((0 : Int32), u2))
  else some ((0 : Int32), M))
set_option maxRecDepth 10000 in
theorem t_Model_operand_127 {g : sw_G} {d n0 : Nat} (hd : 9 ≤ d) {r : Int32 × sw_M} {N : Nat} {a0 : Nat} {M : sw_M} (hf : f_Model_operand_127 N a0 M = some r) : sw_F g k_Model_operand d n0 (some (.int r.1)) r.2 127 [(0, .ref a0)] [] M := by
  unfold f_Model_operand_127 at hf
  obtain ⟨h1, hf⟩ := sw_gd_1 hf
  refine sf_blk [(.aload_n 0, 0, 0, .null), (.getfield 212, 12, 30, .null)] (lv' := [(0, .ref a0)]) (st' := [.int (rd_I M a0 30)]) (M1 := M) (ob := [sw_ok M a0 12]) (pc' := 131) (by decide +kernel) rfl rfl (sw_a1 h1 sw_a0) ?_
  refine sf_z_eq (off := 5) (tgt := 136) (by decide +kernel) (by decide) hf (fun hc hf => ?_) (fun hc hf => ?_)
  · refine sf_blk [(.aload_n 0, 0, 0, .null), (.dup, 0, 0, .null), (.getfield 268, 12, 29, .null), (.iconst (1), 0, 0, .int (1 : Int32)), (.iadd, 0, 0, .null), (.putfield 268, 12, 29, .null), (.aload_n 0, 0, 0, .null), (.bipush (40), 0, 0, .int (40 : Int32))] (lv' := [(0, .ref a0)]) (st' := [.int (40 : Int32), .ref a0]) (M1 := (wr_I M a0 29 ((rd_I M a0 29) + (1 : Int32)))) (ob := [sw_ok M a0 12, sw_ok M a0 12]) (pc' := 149) (by decide +kernel) rfl rfl (sw_a1 h1 (sw_a1 h1 sw_a0)) ?_
    obtain ⟨u2, hu2, hf⟩ := sw_bnd hf
    refine sf_callV (i := 287) (k2 := k_Model_waits) (d2 := d - 1) (As := [.int (40 : Int32)]) (st := []) (q := a0) (ci := 12) mf_Model_waits mi_Model_waits ms_Model_waits (sw_m7 77 (by decide +kernel)) rfl (by decide) (by decide +kernel) rfl (Nat.le_of_ble_eq_true rfl) (by omega) h1 (o_Model_waits g (d := d - 1) (by omega) hu2) ?_
    show sw_F _ _ _ _ _ _ 152 [(0, .ref a0)] [] u2
    refine sf_blk [(.iconst (0), 0, 0, .int (0 : Int32))] (lv' := [(0, .ref a0)]) (st' := [.int (0 : Int32)]) (M1 := u2) (ob := []) (pc' := 153) (by decide +kernel) rfl rfl sw_a0 ?_
    cases hf
    exact sf_bool rfl rfl (by decide +kernel)
  · refine sf_blk [(.iconst (0), 0, 0, .int (0 : Int32))] (lv' := [(0, .ref a0)]) (st' := [.int (0 : Int32)]) (M1 := M) (ob := []) (pc' := 135) (by decide +kernel) rfl rfl sw_a0 ?_
    cases hf
    exact sf_bool rfl rfl (by decide +kernel)
def f_Model_operand_104 (N : Nat) (a0 : Nat) (M : sw_M) : Option (Int32 × sw_M) :=
  sw_gd [sw_ok M a0 12] ((f_Model_isSign N a0 (40 : Int32) M).bind (fun u2 => if u2.1 = 0 then sw_gd [sw_ok u2.2 a0 12] (if (rd_I u2.2 a0 35) = 0 then f_Model_operand_179 N a0 u2.2
  else sw_gd [sw_ar u2.2 (rd_R u2.2 a0 34) 13 ((rd_I u2.2 a0 35) - (1 : Int32))] ((f_Model_bind N (rd_I u2.2 (rd_R u2.2 a0 34) ((rd_I u2.2 a0 35) - (1 : Int32)).toNatClampNeg) u2.2).bind (fun u5 => if (4 : Int32) ≤ u5.1 then f_Model_operand_184 N a0 (0 : Int32) u5.2
  else f_Model_operand_179 N a0 u5.2)))
  else sw_gd [sw_ok u2.2 a0 12] (if (rd_I u2.2 a0 29) = (8 : Int32) then (f_Model_wrong N a0 (2 : Int32) u2.2).bind (fun u7 => f_Model_operand_127 N a0 u7)
  else f_Model_operand_127 N a0 u2.2)))
set_option maxRecDepth 10000 in
theorem t_Model_operand_104 {g : sw_G} {d n0 : Nat} (hd : 9 ≤ d) {r : Int32 × sw_M} {N : Nat} {a0 : Nat} {M : sw_M} (hf : f_Model_operand_104 N a0 M = some r) : sw_F g k_Model_operand d n0 (some (.int r.1)) r.2 104 [(0, .ref a0)] [] M := by
  unfold f_Model_operand_104 at hf
  obtain ⟨h1, hf⟩ := sw_gd_1 hf
  refine sf_blk [(.aload_n 0, 0, 0, .null), (.bipush (40), 0, 0, .int (40 : Int32))] (lv' := [(0, .ref a0)]) (st' := [.int (40 : Int32), .ref a0]) (M1 := M) (ob := []) (pc' := 107) (by decide +kernel) rfl rfl sw_a0 ?_
  obtain ⟨u2, hu2, hf⟩ := sw_bnd hf
  refine sf_callV (i := 225) (k2 := k_Model_isSign) (d2 := d - 1) (As := [.int (40 : Int32)]) (st := []) (q := a0) (ci := 12) mf_Model_isSign mi_Model_isSign ms_Model_isSign (sw_m7 73 (by decide +kernel)) rfl (by decide) (by decide +kernel) rfl (Nat.le_of_ble_eq_true rfl) (by omega) h1 (o_Model_isSign g (d := d - 1) (by omega) hu2) ?_
  show sw_F _ _ _ _ _ _ 110 [(0, .ref a0)] [.int u2.1] u2.2
  refine sf_z_eq (off := 44) (tgt := 154) (by decide +kernel) (by decide) hf (fun hc hf => ?_) (fun hc hf => ?_)
  · obtain ⟨h3, hf⟩ := sw_gd_1 hf
    refine sf_blk [(.aload_n 0, 0, 0, .null), (.getfield 258, 12, 35, .null)] (lv' := [(0, .ref a0)]) (st' := [.int (rd_I u2.2 a0 35)]) (M1 := u2.2) (ob := [sw_ok u2.2 a0 12]) (pc' := 158) (by decide +kernel) rfl rfl (sw_a1 h3 sw_a0) ?_
    refine sf_z_eq (off := 21) (tgt := 179) (by decide +kernel) (by decide) hf (fun hc hf => ?_) (fun hc hf => ?_)
    · exact sf_weak [0] rfl (t_Model_operand_179 hd hf)
    · obtain ⟨h4, hf⟩ := sw_gd_1 hf
      refine sf_blk [(.aload_n 0, 0, 0, .null), (.getfield 53, 12, 34, .null), (.aload_n 0, 0, 0, .null), (.getfield 258, 12, 35, .null), (.iconst (1), 0, 0, .int (1 : Int32)), (.isub, 0, 0, .null), (.iaload, 0, 0, .null)] (lv' := [(0, .ref a0)]) (st' := [.int (rd_I u2.2 (rd_R u2.2 a0 34) ((rd_I u2.2 a0 35) - (1 : Int32)).toNatClampNeg)]) (M1 := u2.2) (ob := [sw_ok u2.2 a0 12, sw_ok u2.2 a0 12, sw_ar u2.2 (rd_R u2.2 a0 34) 13 ((rd_I u2.2 a0 35) - (1 : Int32))]) (pc' := 172) (by decide +kernel) rfl rfl (sw_a1 h3 (sw_a1 h3 (sw_a1 h4 sw_a0))) ?_
      obtain ⟨u5, hu5, hf⟩ := sw_bnd hf
      refine sf_callS (i := 261) (k2 := k_Model_bind) (d2 := d - 1) (As := [.int (rd_I u2.2 (rd_R u2.2 a0 34) ((rd_I u2.2 a0 35) - (1 : Int32)).toNatClampNeg)]) (st := []) mf_Model_bind mi_Model_bind (sw_m7 81 (by decide +kernel)) (by decide +kernel) rfl (Nat.le_of_ble_eq_true rfl) (by omega) (o_Model_bind g (d := d - 1) (by omega) hu5) ?_
      show sw_F _ _ _ _ _ _ 175 [(0, .ref a0)] [.int u5.1] u5.2
      refine sf_blk [(.iconst (4), 0, 0, .int (4 : Int32))] (lv' := [(0, .ref a0)]) (st' := [.int (4 : Int32), .int u5.1]) (M1 := u5.2) (ob := []) (pc' := 176) (by decide +kernel) rfl rfl sw_a0 ?_
      refine sf_j_ge (off := 7) (tgt := 183) (by decide +kernel) (by decide) hf (fun hc hf => ?_) (fun hc hf => ?_)
      · refine sf_blk [(.iconst (0), 0, 0, .int (0 : Int32))] (lv' := [(0, .ref a0)]) (st' := [.int (0 : Int32)]) (M1 := u5.2) (ob := []) (pc' := 184) (by decide +kernel) rfl rfl sw_a0 ?_
        exact sf_weak [0] rfl (t_Model_operand_184 hd hf)
      · exact sf_weak [0] rfl (t_Model_operand_179 hd hf)
  · obtain ⟨h6, hf⟩ := sw_gd_1 hf
    refine sf_blk [(.aload_n 0, 0, 0, .null), (.getfield 268, 12, 29, .null), (.bipush (8), 0, 0, .int (8 : Int32))] (lv' := [(0, .ref a0)]) (st' := [.int (8 : Int32), .int (rd_I u2.2 a0 29)]) (M1 := u2.2) (ob := [sw_ok u2.2 a0 12]) (pc' := 119) (by decide +kernel) rfl rfl (sw_a1 h6 sw_a0) ?_
    refine sf_j_ne (off := 8) (tgt := 127) (by decide +kernel) (by decide) hf (fun hc hf => ?_) (fun hc hf => ?_)
    · exact sf_weak [0] rfl (t_Model_operand_127 hd hf)
    · refine sf_blk [(.aload_n 0, 0, 0, .null), (.iconst (2), 0, 0, .int (2 : Int32))] (lv' := [(0, .ref a0)]) (st' := [.int (2 : Int32), .ref a0]) (M1 := u2.2) (ob := []) (pc' := 124) (by decide +kernel) rfl rfl sw_a0 ?_
      obtain ⟨u7, hu7, hf⟩ := sw_bnd hf
      refine sf_callV (i := 218) (k2 := k_Model_wrong) (d2 := d - 1) (As := [.int (2 : Int32)]) (st := []) (q := a0) (ci := 12) mf_Model_wrong mi_Model_wrong ms_Model_wrong (sw_m7 53 (by decide +kernel)) rfl (by decide) (by decide +kernel) rfl (Nat.le_of_ble_eq_true rfl) (by omega) h6 (o_Model_wrong g (d := d - 1) (by omega) hu7) ?_
      show sw_F _ _ _ _ _ _ 127 [(0, .ref a0)] [] u7
      exact sf_weak [0] rfl (t_Model_operand_127 hd hf)
def f_Model_operand_33 (N : Nat) (a0 : Nat) (M : sw_M) : Option (Int32 × sw_M) :=
  sw_gd [sw_ok M a0 12] (if (rd_I M a0 30) = 0 then (f_Model_out N a0 (0 : Int32) (rd_I M a0 28) M).bind (fun u2 => sw_gd [sw_ok u2 a0 12] ((f_Model_next N a0 u2).bind (fun u4 => some ((1 : Int32), u4))))
  else some ((0 : Int32), M))
set_option maxRecDepth 10000 in
theorem t_Model_operand_33 {g : sw_G} {d n0 : Nat} (hd : 9 ≤ d) {r : Int32 × sw_M} {N : Nat} {a0 : Nat} {M : sw_M} (hf : f_Model_operand_33 N a0 M = some r) : sw_F g k_Model_operand d n0 (some (.int r.1)) r.2 33 [(0, .ref a0)] [] M := by
  unfold f_Model_operand_33 at hf
  obtain ⟨h1, hf⟩ := sw_gd_1 hf
  refine sf_blk [(.aload_n 0, 0, 0, .null), (.getfield 212, 12, 30, .null)] (lv' := [(0, .ref a0)]) (st' := [.int (rd_I M a0 30)]) (M1 := M) (ob := [sw_ok M a0 12]) (pc' := 37) (by decide +kernel) rfl rfl (sw_a1 h1 sw_a0) ?_
  refine sf_z_eq (off := 5) (tgt := 42) (by decide +kernel) (by decide) hf (fun hc hf => ?_) (fun hc hf => ?_)
  · refine sf_blk [(.aload_n 0, 0, 0, .null), (.iconst (0), 0, 0, .int (0 : Int32)), (.aload_n 0, 0, 0, .null), (.getfield 195, 12, 28, .null)] (lv' := [(0, .ref a0)]) (st' := [.int (rd_I M a0 28), .int (0 : Int32), .ref a0]) (M1 := M) (ob := [sw_ok M a0 12]) (pc' := 48) (by decide +kernel) rfl rfl (sw_a1 h1 sw_a0) ?_
    obtain ⟨u2, hu2, hf⟩ := sw_bnd hf
    refine sf_callV (i := 264) (k2 := k_Model_out) (d2 := d - 1) (As := [.int (0 : Int32), .int (rd_I M a0 28)]) (st := []) (q := a0) (ci := 12) mf_Model_out mi_Model_out ms_Model_out (sw_m7 69 (by decide +kernel)) rfl (by decide) (by decide +kernel) rfl (Nat.le_of_ble_eq_true rfl) (by omega) h1 (o_Model_out g (d := d - 1) (by omega) hu2) ?_
    show sw_F _ _ _ _ _ _ 51 [(0, .ref a0)] [] u2
    obtain ⟨h3, hf⟩ := sw_gd_1 hf
    refine sf_blk [(.aload_n 0, 0, 0, .null)] (lv' := [(0, .ref a0)]) (st' := [.ref a0]) (M1 := u2) (ob := []) (pc' := 52) (by decide +kernel) rfl rfl sw_a0 ?_
    obtain ⟨u4, hu4, hf⟩ := sw_bnd hf
    refine sf_callV (i := 222) (k2 := k_Model_next) (d2 := d - 1) (As := []) (st := []) (q := a0) (ci := 12) mf_Model_next mi_Model_next ms_Model_next (sw_m7 27 (by decide +kernel)) rfl (by decide) (by decide +kernel) rfl (Nat.le_of_ble_eq_true rfl) (by omega) h3 (o_Model_next g (d := d - 1) (by omega) hu4) ?_
    show sw_F _ _ _ _ _ _ 55 [(0, .ref a0)] [] u4
    refine sf_blk [(.iconst (1), 0, 0, .int (1 : Int32))] (lv' := [(0, .ref a0)]) (st' := [.int (1 : Int32)]) (M1 := u4) (ob := []) (pc' := 56) (by decide +kernel) rfl rfl sw_a0 ?_
    cases hf
    exact sf_bool rfl rfl (by decide +kernel)
  · refine sf_blk [(.iconst (0), 0, 0, .int (0 : Int32))] (lv' := [(0, .ref a0)]) (st' := [.int (0 : Int32)]) (M1 := M) (ob := []) (pc' := 41) (by decide +kernel) rfl rfl sw_a0 ?_
    cases hf
    exact sf_bool rfl rfl (by decide +kernel)
def f_Model_operand_22 (N : Nat) (a0 : Nat) (M : sw_M) : Option (Int32 × sw_M) :=
  sw_gd [sw_ok M a0 12] (if (rd_I M a0 30) = 0 then (f_Model_knot N a0 M).bind (fun u2 => f_Model_operand_33 N a0 u2)
  else f_Model_operand_33 N a0 M)
set_option maxRecDepth 10000 in
theorem t_Model_operand_22 {g : sw_G} {d n0 : Nat} (hd : 9 ≤ d) {r : Int32 × sw_M} {N : Nat} {a0 : Nat} {M : sw_M} (hf : f_Model_operand_22 N a0 M = some r) : sw_F g k_Model_operand d n0 (some (.int r.1)) r.2 22 [(0, .ref a0)] [] M := by
  unfold f_Model_operand_22 at hf
  obtain ⟨h1, hf⟩ := sw_gd_1 hf
  refine sf_blk [(.aload_n 0, 0, 0, .null), (.getfield 212, 12, 30, .null)] (lv' := [(0, .ref a0)]) (st' := [.int (rd_I M a0 30)]) (M1 := M) (ob := [sw_ok M a0 12]) (pc' := 26) (by decide +kernel) rfl rfl (sw_a1 h1 sw_a0) ?_
  refine sf_z_ne (off := 7) (tgt := 33) (by decide +kernel) (by decide) hf (fun hc hf => ?_) (fun hc hf => ?_)
  · exact sf_weak [0] rfl (t_Model_operand_33 hd hf)
  · refine sf_blk [(.aload_n 0, 0, 0, .null)] (lv' := [(0, .ref a0)]) (st' := [.ref a0]) (M1 := M) (ob := []) (pc' := 30) (by decide +kernel) rfl rfl sw_a0 ?_
    obtain ⟨u2, hu2, hf⟩ := sw_bnd hf
    refine sf_callV (i := 284) (k2 := k_Model_knot) (d2 := d - 1) (As := []) (st := []) (q := a0) (ci := 12) mf_Model_knot mi_Model_knot ms_Model_knot (sw_m7 65 (by decide +kernel)) rfl (by decide) (by decide +kernel) rfl (Nat.le_of_ble_eq_true rfl) (by omega) h1 (o_Model_knot g (d := d - 1) (by omega) hu2) ?_
    show sw_F _ _ _ _ _ _ 33 [(0, .ref a0)] [] u2
    exact sf_weak [0] rfl (t_Model_operand_33 hd hf)
def f_Model_operand (N : Nat) (a0 : Nat) (M : sw_M) : Option (Int32 × sw_M) :=
  sw_gd [sw_ok M a0 12] (if (rd_I M a0 27) = (1 : Int32) then if (rd_I M a0 28) ≤ (99999 : Int32) then f_Model_operand_22 N a0 M
  else (f_Model_wrong N a0 (2 : Int32) M).bind (fun u7 => f_Model_operand_22 N a0 u7)
  else if (rd_I M a0 27) = 0 then if (rd_I M a0 28) < (9 : Int32) then f_Model_operand_104 N a0 M
  else (f_Model_knot N a0 M).bind (fun u2 => sw_gd [sw_ok u2 a0 12] (if (rd_I u2 a0 30) = 0 then (f_Model_out N a0 (1 : Int32) ((rd_I u2 a0 28) - (9 : Int32)) u2).bind (fun u4 => sw_gd [sw_ok u4 a0 12] ((f_Model_next N a0 u4).bind (fun u6 => some ((1 : Int32), u6))))
  else some ((0 : Int32), u2)))
  else f_Model_operand_104 N a0 M)
set_option maxRecDepth 10000 in
theorem t_Model_operand {g : sw_G} {d n0 : Nat} (hd : 9 ≤ d) {r : Int32 × sw_M} {N : Nat} {a0 : Nat} {M : sw_M} (hf : f_Model_operand N a0 M = some r) : sw_F g k_Model_operand d n0 (some (.int r.1)) r.2 0 [(0, .ref a0)] [] M := by
  unfold f_Model_operand at hf
  obtain ⟨h1, hf⟩ := sw_gd_1 hf
  refine sf_blk [(.aload_n 0, 0, 0, .null), (.getfield 185, 12, 27, .null), (.iconst (1), 0, 0, .int (1 : Int32))] (lv' := [(0, .ref a0)]) (st' := [.int (1 : Int32), .int (rd_I M a0 27)]) (M1 := M) (ob := [sw_ok M a0 12]) (pc' := 5) (by decide +kernel) rfl rfl (sw_a1 h1 sw_a0) ?_
  refine sf_j_ne (off := 52) (tgt := 57) (by decide +kernel) (by decide) hf (fun hc hf => ?_) (fun hc hf => ?_)
  · refine sf_blk [(.aload_n 0, 0, 0, .null), (.getfield 185, 12, 27, .null)] (lv' := [(0, .ref a0)]) (st' := [.int (rd_I M a0 27)]) (M1 := M) (ob := [sw_ok M a0 12]) (pc' := 61) (by decide +kernel) rfl rfl (sw_a1 h1 sw_a0) ?_
    refine sf_z_ne (off := 43) (tgt := 104) (by decide +kernel) (by decide) hf (fun hc hf => ?_) (fun hc hf => ?_)
    · exact sf_weak [0] rfl (t_Model_operand_104 hd hf)
    · refine sf_blk [(.aload_n 0, 0, 0, .null), (.getfield 195, 12, 28, .null), (.bipush (9), 0, 0, .int (9 : Int32))] (lv' := [(0, .ref a0)]) (st' := [.int (9 : Int32), .int (rd_I M a0 28)]) (M1 := M) (ob := [sw_ok M a0 12]) (pc' := 70) (by decide +kernel) rfl rfl (sw_a1 h1 sw_a0) ?_
      refine sf_j_lt (off := 34) (tgt := 104) (by decide +kernel) (by decide) hf (fun hc hf => ?_) (fun hc hf => ?_)
      · exact sf_weak [0] rfl (t_Model_operand_104 hd hf)
      · refine sf_blk [(.aload_n 0, 0, 0, .null)] (lv' := [(0, .ref a0)]) (st' := [.ref a0]) (M1 := M) (ob := []) (pc' := 74) (by decide +kernel) rfl rfl sw_a0 ?_
        obtain ⟨u2, hu2, hf⟩ := sw_bnd hf
        refine sf_callV (i := 284) (k2 := k_Model_knot) (d2 := d - 1) (As := []) (st := []) (q := a0) (ci := 12) mf_Model_knot mi_Model_knot ms_Model_knot (sw_m7 65 (by decide +kernel)) rfl (by decide) (by decide +kernel) rfl (Nat.le_of_ble_eq_true rfl) (by omega) h1 (o_Model_knot g (d := d - 1) (by omega) hu2) ?_
        show sw_F _ _ _ _ _ _ 77 [(0, .ref a0)] [] u2
        obtain ⟨h3, hf⟩ := sw_gd_1 hf
        refine sf_blk [(.aload_n 0, 0, 0, .null), (.getfield 212, 12, 30, .null)] (lv' := [(0, .ref a0)]) (st' := [.int (rd_I u2 a0 30)]) (M1 := u2) (ob := [sw_ok u2 a0 12]) (pc' := 81) (by decide +kernel) rfl rfl (sw_a1 h3 sw_a0) ?_
        refine sf_z_eq (off := 5) (tgt := 86) (by decide +kernel) (by decide) hf (fun hc hf => ?_) (fun hc hf => ?_)
        · refine sf_blk [(.aload_n 0, 0, 0, .null), (.iconst (1), 0, 0, .int (1 : Int32)), (.aload_n 0, 0, 0, .null), (.getfield 195, 12, 28, .null), (.bipush (9), 0, 0, .int (9 : Int32)), (.isub, 0, 0, .null)] (lv' := [(0, .ref a0)]) (st' := [.int ((rd_I u2 a0 28) - (9 : Int32)), .int (1 : Int32), .ref a0]) (M1 := u2) (ob := [sw_ok u2 a0 12]) (pc' := 95) (by decide +kernel) rfl rfl (sw_a1 h3 sw_a0) ?_
          obtain ⟨u4, hu4, hf⟩ := sw_bnd hf
          refine sf_callV (i := 264) (k2 := k_Model_out) (d2 := d - 1) (As := [.int (1 : Int32), .int ((rd_I u2 a0 28) - (9 : Int32))]) (st := []) (q := a0) (ci := 12) mf_Model_out mi_Model_out ms_Model_out (sw_m7 69 (by decide +kernel)) rfl (by decide) (by decide +kernel) rfl (Nat.le_of_ble_eq_true rfl) (by omega) h3 (o_Model_out g (d := d - 1) (by omega) hu4) ?_
          show sw_F _ _ _ _ _ _ 98 [(0, .ref a0)] [] u4
          obtain ⟨h5, hf⟩ := sw_gd_1 hf
          refine sf_blk [(.aload_n 0, 0, 0, .null)] (lv' := [(0, .ref a0)]) (st' := [.ref a0]) (M1 := u4) (ob := []) (pc' := 99) (by decide +kernel) rfl rfl sw_a0 ?_
          obtain ⟨u6, hu6, hf⟩ := sw_bnd hf
          refine sf_callV (i := 222) (k2 := k_Model_next) (d2 := d - 1) (As := []) (st := []) (q := a0) (ci := 12) mf_Model_next mi_Model_next ms_Model_next (sw_m7 27 (by decide +kernel)) rfl (by decide) (by decide +kernel) rfl (Nat.le_of_ble_eq_true rfl) (by omega) h5 (o_Model_next g (d := d - 1) (by omega) hu6) ?_
          show sw_F _ _ _ _ _ _ 102 [(0, .ref a0)] [] u6
          refine sf_blk [(.iconst (1), 0, 0, .int (1 : Int32))] (lv' := [(0, .ref a0)]) (st' := [.int (1 : Int32)]) (M1 := u6) (ob := []) (pc' := 103) (by decide +kernel) rfl rfl sw_a0 ?_
          cases hf
          exact sf_bool rfl rfl (by decide +kernel)
        · refine sf_blk [(.iconst (0), 0, 0, .int (0 : Int32))] (lv' := [(0, .ref a0)]) (st' := [.int (0 : Int32)]) (M1 := u2) (ob := []) (pc' := 85) (by decide +kernel) rfl rfl sw_a0 ?_
          cases hf
          exact sf_bool rfl rfl (by decide +kernel)
  · refine sf_blk [(.aload_n 0, 0, 0, .null), (.getfield 195, 12, 28, .null), (.ldc 201, 0, 0, .int (99999 : Int32))] (lv' := [(0, .ref a0)]) (st' := [.int (99999 : Int32), .int (rd_I M a0 28)]) (M1 := M) (ob := [sw_ok M a0 12]) (pc' := 14) (by decide +kernel) rfl rfl (sw_a1 h1 sw_a0) ?_
    refine sf_j_le (off := 8) (tgt := 22) (by decide +kernel) (by decide) hf (fun hc hf => ?_) (fun hc hf => ?_)
    · exact sf_weak [0] rfl (t_Model_operand_22 hd hf)
    · refine sf_blk [(.aload_n 0, 0, 0, .null), (.iconst (2), 0, 0, .int (2 : Int32))] (lv' := [(0, .ref a0)]) (st' := [.int (2 : Int32), .ref a0]) (M1 := M) (ob := []) (pc' := 19) (by decide +kernel) rfl rfl sw_a0 ?_
      obtain ⟨u7, hu7, hf⟩ := sw_bnd hf
      refine sf_callV (i := 218) (k2 := k_Model_wrong) (d2 := d - 1) (As := [.int (2 : Int32)]) (st := []) (q := a0) (ci := 12) mf_Model_wrong mi_Model_wrong ms_Model_wrong (sw_m7 53 (by decide +kernel)) rfl (by decide) (by decide +kernel) rfl (Nat.le_of_ble_eq_true rfl) (by omega) h1 (o_Model_wrong g (d := d - 1) (by omega) hu7) ?_
      show sw_F _ _ _ _ _ _ 22 [(0, .ref a0)] [] u7
      exact sf_weak [0] rfl (t_Model_operand_22 hd hf)
theorem o_Model_operand (g : sw_G) {d : Nat} (hd : 9 ≤ d) {N : Nat} {a0 : Nat} {M : sw_M} {r : Int32 × sw_M} (hf : f_Model_operand N a0 M = some r) : sw_Ok g k_Model_operand d [.ref a0] M (some (.int r.1)) r.2 := sf_met (by decide +kernel) rfl (by decide) (Nat.le_of_ble_eq_true rfl) (t_Model_operand hd hf)
def f_Model_between (N : Nat) (a0 : Nat) (M : sw_M) : Option (Int32 × sw_M) :=
  sw_gd [sw_ok M a0 12] (if (rd_I M a0 27) = 0 then if (rd_I M a0 28) = (6 : Int32) then some ((262 : Int32), M)
  else if (rd_I M a0 28) = (7 : Int32) then some ((261 : Int32), M)
  else some ((0 : Int32), M)
  else if (rd_I M a0 27) = (2 : Int32) then if (rd_I M a0 28) = (40 : Int32) then some ((0 : Int32), M)
  else if (rd_I M a0 28) = (41 : Int32) then some ((0 : Int32), M)
  else (f_Model_bind N (rd_I M a0 28) M).bind (fun u2 => if u2.1 ≤ 0 then some ((0 : Int32), u2.2)
  else sw_gd [sw_ok u2.2 a0 12] (some ((rd_I u2.2 a0 28), u2.2)))
  else some ((0 : Int32), M))
set_option maxRecDepth 10000 in
theorem t_Model_between {g : sw_G} {d n0 : Nat} (hd : 2 ≤ d) {r : Int32 × sw_M} {N : Nat} {a0 : Nat} {M : sw_M} (hf : f_Model_between N a0 M = some r) : sw_F g k_Model_between d n0 (some (.int r.1)) r.2 0 [(0, .ref a0)] [] M := by
  unfold f_Model_between at hf
  obtain ⟨h1, hf⟩ := sw_gd_1 hf
  refine sf_blk [(.aload_n 0, 0, 0, .null), (.getfield 185, 12, 27, .null)] (lv' := [(0, .ref a0)]) (st' := [.int (rd_I M a0 27)]) (M1 := M) (ob := [sw_ok M a0 12]) (pc' := 4) (by decide +kernel) rfl rfl (sw_a1 h1 sw_a0) ?_
  refine sf_z_ne (off := 35) (tgt := 39) (by decide +kernel) (by decide) hf (fun hc hf => ?_) (fun hc hf => ?_)
  · refine sf_blk [(.aload_n 0, 0, 0, .null), (.getfield 185, 12, 27, .null), (.iconst (2), 0, 0, .int (2 : Int32))] (lv' := [(0, .ref a0)]) (st' := [.int (2 : Int32), .int (rd_I M a0 27)]) (M1 := M) (ob := [sw_ok M a0 12]) (pc' := 44) (by decide +kernel) rfl rfl (sw_a1 h1 sw_a0) ?_
    refine sf_j_ne (off := 38) (tgt := 82) (by decide +kernel) (by decide) hf (fun hc hf => ?_) (fun hc hf => ?_)
    · refine sf_blk [(.iconst (0), 0, 0, .int (0 : Int32))] (lv' := [(0, .ref a0)]) (st' := [.int (0 : Int32)]) (M1 := M) (ob := []) (pc' := 83) (by decide +kernel) rfl rfl sw_a0 ?_
      cases hf
      exact sf_int rfl (by decide +kernel)
    · refine sf_blk [(.aload_n 0, 0, 0, .null), (.getfield 195, 12, 28, .null), (.bipush (40), 0, 0, .int (40 : Int32))] (lv' := [(0, .ref a0)]) (st' := [.int (40 : Int32), .int (rd_I M a0 28)]) (M1 := M) (ob := [sw_ok M a0 12]) (pc' := 53) (by decide +kernel) rfl rfl (sw_a1 h1 sw_a0) ?_
      refine sf_j_eq (off := 29) (tgt := 82) (by decide +kernel) (by decide) hf (fun hc hf => ?_) (fun hc hf => ?_)
      · refine sf_blk [(.iconst (0), 0, 0, .int (0 : Int32))] (lv' := [(0, .ref a0)]) (st' := [.int (0 : Int32)]) (M1 := M) (ob := []) (pc' := 83) (by decide +kernel) rfl rfl sw_a0 ?_
        cases hf
        exact sf_int rfl (by decide +kernel)
      · refine sf_blk [(.aload_n 0, 0, 0, .null), (.getfield 195, 12, 28, .null), (.bipush (41), 0, 0, .int (41 : Int32))] (lv' := [(0, .ref a0)]) (st' := [.int (41 : Int32), .int (rd_I M a0 28)]) (M1 := M) (ob := [sw_ok M a0 12]) (pc' := 62) (by decide +kernel) rfl rfl (sw_a1 h1 sw_a0) ?_
        refine sf_j_eq (off := 20) (tgt := 82) (by decide +kernel) (by decide) hf (fun hc hf => ?_) (fun hc hf => ?_)
        · refine sf_blk [(.iconst (0), 0, 0, .int (0 : Int32))] (lv' := [(0, .ref a0)]) (st' := [.int (0 : Int32)]) (M1 := M) (ob := []) (pc' := 83) (by decide +kernel) rfl rfl sw_a0 ?_
          cases hf
          exact sf_int rfl (by decide +kernel)
        · refine sf_blk [(.aload_n 0, 0, 0, .null), (.getfield 195, 12, 28, .null)] (lv' := [(0, .ref a0)]) (st' := [.int (rd_I M a0 28)]) (M1 := M) (ob := [sw_ok M a0 12]) (pc' := 69) (by decide +kernel) rfl rfl (sw_a1 h1 sw_a0) ?_
          obtain ⟨u2, hu2, hf⟩ := sw_bnd hf
          refine sf_callS (i := 261) (k2 := k_Model_bind) (d2 := d - 1) (As := [.int (rd_I M a0 28)]) (st := []) mf_Model_bind mi_Model_bind (sw_m7 81 (by decide +kernel)) (by decide +kernel) rfl (Nat.le_of_ble_eq_true rfl) (by omega) (o_Model_bind g (d := d - 1) (by omega) hu2) ?_
          show sw_F _ _ _ _ _ _ 72 [(0, .ref a0)] [.int u2.1] u2.2
          refine sf_z_le (off := 10) (tgt := 82) (by decide +kernel) (by decide) hf (fun hc hf => ?_) (fun hc hf => ?_)
          · refine sf_blk [(.iconst (0), 0, 0, .int (0 : Int32))] (lv' := [(0, .ref a0)]) (st' := [.int (0 : Int32)]) (M1 := u2.2) (ob := []) (pc' := 83) (by decide +kernel) rfl rfl sw_a0 ?_
            cases hf
            exact sf_int rfl (by decide +kernel)
          · obtain ⟨h3, hf⟩ := sw_gd_1 hf
            refine sf_blk [(.aload_n 0, 0, 0, .null), (.getfield 195, 12, 28, .null)] (lv' := [(0, .ref a0)]) (st' := [.int (rd_I u2.2 a0 28)]) (M1 := u2.2) (ob := [sw_ok u2.2 a0 12]) (pc' := 79) (by decide +kernel) rfl rfl (sw_a1 h3 sw_a0) ?_
            refine sf_goto (off := 4) (tgt := 83) (by decide +kernel) (by decide) ?_
            cases hf
            exact sf_int rfl (by decide +kernel)
  · refine sf_blk [(.aload_n 0, 0, 0, .null), (.getfield 195, 12, 28, .null), (.bipush (6), 0, 0, .int (6 : Int32))] (lv' := [(0, .ref a0)]) (st' := [.int (6 : Int32), .int (rd_I M a0 28)]) (M1 := M) (ob := [sw_ok M a0 12]) (pc' := 13) (by decide +kernel) rfl rfl (sw_a1 h1 sw_a0) ?_
    refine sf_j_ne (off := 9) (tgt := 22) (by decide +kernel) (by decide) hf (fun hc hf => ?_) (fun hc hf => ?_)
    · refine sf_blk [(.aload_n 0, 0, 0, .null), (.getfield 195, 12, 28, .null), (.bipush (7), 0, 0, .int (7 : Int32))] (lv' := [(0, .ref a0)]) (st' := [.int (7 : Int32), .int (rd_I M a0 28)]) (M1 := M) (ob := [sw_ok M a0 12]) (pc' := 28) (by decide +kernel) rfl rfl (sw_a1 h1 sw_a0) ?_
      refine sf_j_ne (off := 9) (tgt := 37) (by decide +kernel) (by decide) hf (fun hc hf => ?_) (fun hc hf => ?_)
      · refine sf_blk [(.iconst (0), 0, 0, .int (0 : Int32))] (lv' := [(0, .ref a0)]) (st' := [.int (0 : Int32)]) (M1 := M) (ob := []) (pc' := 38) (by decide +kernel) rfl rfl sw_a0 ?_
        cases hf
        exact sf_int rfl (by decide +kernel)
      · refine sf_blk [(.sipush (261), 0, 0, .int (261 : Int32))] (lv' := [(0, .ref a0)]) (st' := [.int (261 : Int32)]) (M1 := M) (ob := []) (pc' := 34) (by decide +kernel) rfl rfl sw_a0 ?_
        refine sf_goto (off := 4) (tgt := 38) (by decide +kernel) (by decide) ?_
        cases hf
        exact sf_int rfl (by decide +kernel)
    · refine sf_blk [(.sipush (262), 0, 0, .int (262 : Int32))] (lv' := [(0, .ref a0)]) (st' := [.int (262 : Int32)]) (M1 := M) (ob := []) (pc' := 19) (by decide +kernel) rfl rfl sw_a0 ?_
      refine sf_goto (off := 19) (tgt := 38) (by decide +kernel) (by decide) ?_
      cases hf
      exact sf_int rfl (by decide +kernel)
theorem o_Model_between (g : sw_G) {d : Nat} (hd : 2 ≤ d) {N : Nat} {a0 : Nat} {M : sw_M} {r : Int32 × sw_M} (hf : f_Model_between N a0 M = some r) : sw_Ok g k_Model_between d [.ref a0] M (some (.int r.1)) r.2 := sf_met (by decide +kernel) rfl (by decide) (Nat.le_of_ble_eq_true rfl) (t_Model_between hd hf)
def f_Model_pour_0 (N : Nat) : Nat → Nat → Int32 → sw_M → Option (sw_M)
  | 0, _, _, _ => none
  | j + 1, a0, a1, M =>
  sw_gd [sw_ok M a0 12] (if (rd_I M a0 35) ≤ 0 then some M
  else sw_gd [sw_ar M (rd_R M a0 34) 13 ((rd_I M a0 35) - (1 : Int32))] ((f_Model_bind N (rd_I M (rd_R M a0 34) ((rd_I M a0 35) - (1 : Int32)).toNatClampNeg) M).bind (fun u3 => if u3.1 < a1 then some u3.2
  else sw_gd [sw_ok u3.2 a0 12] (sw_gd [sw_ar (wr_I u3.2 a0 35 ((rd_I u3.2 a0 35) - (1 : Int32))) (rd_R (wr_I u3.2 a0 35 ((rd_I u3.2 a0 35) - (1 : Int32))) a0 34) 13 (rd_I (wr_I u3.2 a0 35 ((rd_I u3.2 a0 35) - (1 : Int32))) a0 35)] ((f_Model_out N a0 (2 : Int32) (rd_I (wr_I u3.2 a0 35 ((rd_I u3.2 a0 35) - (1 : Int32))) (rd_R (wr_I u3.2 a0 35 ((rd_I u3.2 a0 35) - (1 : Int32))) a0 34) (rd_I (wr_I u3.2 a0 35 ((rd_I u3.2 a0 35) - (1 : Int32))) a0 35).toNatClampNeg) (wr_I u3.2 a0 35 ((rd_I u3.2 a0 35) - (1 : Int32)))).bind (fun u6 => f_Model_pour_0 N j a0 a1 u6))))))
set_option maxRecDepth 10000 in
theorem t_Model_pour_0 {g : sw_G} {d n0 : Nat} (hd : 2 ≤ d) {r : sw_M} {N : Nat} : ∀ (j : Nat) (a0 : Nat) (a1 : Int32) (M : sw_M), f_Model_pour_0 N j a0 a1 M = some r → sw_F g k_Model_pour d n0 none r 0 [(0, .ref a0), (1, .int a1)] [] M := by
  intro j
  induction j with
  | zero =>
    intro a0 a1 M hf
    rw [f_Model_pour_0] at hf
    cases hf
  | succ j ih =>
    intro a0 a1 M hf
    rw [f_Model_pour_0] at hf
    obtain ⟨h1, hf⟩ := sw_gd_1 hf
    refine sf_blk [(.aload_n 0, 0, 0, .null), (.getfield 258, 12, 35, .null)] (lv' := [(0, .ref a0), (1, .int a1)]) (st' := [.int (rd_I M a0 35)]) (M1 := M) (ob := [sw_ok M a0 12]) (pc' := 4) (by decide +kernel) rfl rfl (sw_a1 h1 sw_a0) ?_
    refine sf_z_le (off := 48) (tgt := 52) (by decide +kernel) (by decide) hf (fun hc hf => ?_) (fun hc hf => ?_)
    · cases hf
      exact sf_void rfl (by decide +kernel)
    · obtain ⟨h2, hf⟩ := sw_gd_1 hf
      refine sf_blk [(.aload_n 0, 0, 0, .null), (.getfield 53, 12, 34, .null), (.aload_n 0, 0, 0, .null), (.getfield 258, 12, 35, .null), (.iconst (1), 0, 0, .int (1 : Int32)), (.isub, 0, 0, .null), (.iaload, 0, 0, .null)] (lv' := [(0, .ref a0), (1, .int a1)]) (st' := [.int (rd_I M (rd_R M a0 34) ((rd_I M a0 35) - (1 : Int32)).toNatClampNeg)]) (M1 := M) (ob := [sw_ok M a0 12, sw_ok M a0 12, sw_ar M (rd_R M a0 34) 13 ((rd_I M a0 35) - (1 : Int32))]) (pc' := 18) (by decide +kernel) rfl rfl (sw_a1 h1 (sw_a1 h1 (sw_a1 h2 sw_a0))) ?_
      obtain ⟨u3, hu3, hf⟩ := sw_bnd hf
      refine sf_callS (i := 261) (k2 := k_Model_bind) (d2 := d - 1) (As := [.int (rd_I M (rd_R M a0 34) ((rd_I M a0 35) - (1 : Int32)).toNatClampNeg)]) (st := []) mf_Model_bind mi_Model_bind (sw_m7 81 (by decide +kernel)) (by decide +kernel) rfl (Nat.le_of_ble_eq_true rfl) (by omega) (o_Model_bind g (d := d - 1) (by omega) hu3) ?_
      show sw_F _ _ _ _ _ _ 21 [(0, .ref a0), (1, .int a1)] [.int u3.1] u3.2
      refine sf_blk [(.iload_n 1, 0, 0, .null)] (lv' := [(0, .ref a0), (1, .int a1)]) (st' := [.int a1, .int u3.1]) (M1 := u3.2) (ob := []) (pc' := 22) (by decide +kernel) rfl rfl sw_a0 ?_
      refine sf_j_lt (off := 30) (tgt := 52) (by decide +kernel) (by decide) hf (fun hc hf => ?_) (fun hc hf => ?_)
      · cases hf
        exact sf_void rfl (by decide +kernel)
      · obtain ⟨h4, hf⟩ := sw_gd_1 hf
        obtain ⟨h5, hf⟩ := sw_gd_1 hf
        refine sf_blk [(.aload_n 0, 0, 0, .null), (.dup, 0, 0, .null), (.getfield 258, 12, 35, .null), (.iconst (1), 0, 0, .int (1 : Int32)), (.isub, 0, 0, .null), (.putfield 258, 12, 35, .null), (.aload_n 0, 0, 0, .null), (.iconst (2), 0, 0, .int (2 : Int32)), (.aload_n 0, 0, 0, .null), (.getfield 53, 12, 34, .null), (.aload_n 0, 0, 0, .null), (.getfield 258, 12, 35, .null), (.iaload, 0, 0, .null)] (lv' := [(0, .ref a0), (1, .int a1)]) (st' := [.int (rd_I (wr_I u3.2 a0 35 ((rd_I u3.2 a0 35) - (1 : Int32))) (rd_R (wr_I u3.2 a0 35 ((rd_I u3.2 a0 35) - (1 : Int32))) a0 34) (rd_I (wr_I u3.2 a0 35 ((rd_I u3.2 a0 35) - (1 : Int32))) a0 35).toNatClampNeg), .int (2 : Int32), .ref a0]) (M1 := (wr_I u3.2 a0 35 ((rd_I u3.2 a0 35) - (1 : Int32)))) (ob := [sw_ok u3.2 a0 12, sw_ok u3.2 a0 12, sw_ok (wr_I u3.2 a0 35 ((rd_I u3.2 a0 35) - (1 : Int32))) a0 12, sw_ok (wr_I u3.2 a0 35 ((rd_I u3.2 a0 35) - (1 : Int32))) a0 12, sw_ar (wr_I u3.2 a0 35 ((rd_I u3.2 a0 35) - (1 : Int32))) (rd_R (wr_I u3.2 a0 35 ((rd_I u3.2 a0 35) - (1 : Int32))) a0 34) 13 (rd_I (wr_I u3.2 a0 35 ((rd_I u3.2 a0 35) - (1 : Int32))) a0 35)]) (pc' := 46) (by decide +kernel) rfl rfl (sw_a1 h4 (sw_a1 h4 (sw_a1 h4 (sw_a1 h4 (sw_a1 h5 sw_a0))))) ?_
        obtain ⟨u6, hu6, hf⟩ := sw_bnd hf
        refine sf_callV (i := 264) (k2 := k_Model_out) (d2 := d - 1) (As := [.int (2 : Int32), .int (rd_I (wr_I u3.2 a0 35 ((rd_I u3.2 a0 35) - (1 : Int32))) (rd_R (wr_I u3.2 a0 35 ((rd_I u3.2 a0 35) - (1 : Int32))) a0 34) (rd_I (wr_I u3.2 a0 35 ((rd_I u3.2 a0 35) - (1 : Int32))) a0 35).toNatClampNeg)]) (st := []) (q := a0) (ci := 12) mf_Model_out mi_Model_out ms_Model_out (sw_m7 69 (by decide +kernel)) rfl (by decide) (by decide +kernel) rfl (Nat.le_of_ble_eq_true rfl) (by omega) h4 (o_Model_out g (d := d - 1) (by omega) hu6) ?_
        show sw_F _ _ _ _ _ _ 49 [(0, .ref a0), (1, .int a1)] [] u6
        refine sf_goto (off := -49) (tgt := 0) (by decide +kernel) (by decide) ?_
        exact sf_weak [0, 1] rfl (ih _ _ _ hf)
def f_Model_pour (N : Nat) (a0 : Nat) (a1 : Int32) (M : sw_M) : Option (sw_M) := f_Model_pour_0 N N a0 a1 M
theorem t_Model_pour {g : sw_G} {d n0 : Nat} (hd : 2 ≤ d) {r : sw_M} {N : Nat} {a0 : Nat} {a1 : Int32} {M : sw_M} (hf : f_Model_pour N a0 a1 M = some r) : sw_F g k_Model_pour d n0 none r 0 [(0, .ref a0), (1, .int a1)] [] M := sf_weak [0, 1] rfl (t_Model_pour_0 hd _ _ _ _ hf)
theorem o_Model_pour (g : sw_G) {d : Nat} (hd : 2 ≤ d) {N : Nat} {a0 : Nat} {a1 : Int32} {M : sw_M} {r : sw_M} (hf : f_Model_pour N a0 a1 M = some r) : sw_Ok g k_Model_pour d [.ref a0, .int a1] M none r := sf_met (by decide +kernel) rfl (by decide) (Nat.le_of_ble_eq_true rfl) (t_Model_pour hd hf)
def f_Model_sign_65 (N : Nat) (a0 : Nat) (a1 : Int32) (M : sw_M) : Option (sw_M) :=
  sw_gd [sw_ok M a0 12] (if (rd_I M a0 30) = 0 then (f_Model_waits N a0 a1 M).bind (fun u2 => some u2)
  else some M)
set_option maxRecDepth 10000 in
theorem t_Model_sign_65 {g : sw_G} {d n0 : Nat} (hd : 9 ≤ d) {r : sw_M} {N : Nat} {a0 : Nat} {a1 : Int32} {M : sw_M} (hf : f_Model_sign_65 N a0 a1 M = some r) : sw_F g k_Model_sign d n0 none r 65 [(0, .ref a0), (1, .int a1)] [] M := by
  unfold f_Model_sign_65 at hf
  obtain ⟨h1, hf⟩ := sw_gd_1 hf
  refine sf_blk [(.aload_n 0, 0, 0, .null), (.getfield 212, 12, 30, .null)] (lv' := [(0, .ref a0), (1, .int a1)]) (st' := [.int (rd_I M a0 30)]) (M1 := M) (ob := [sw_ok M a0 12]) (pc' := 69) (by decide +kernel) rfl rfl (sw_a1 h1 sw_a0) ?_
  refine sf_z_ne (off := 8) (tgt := 77) (by decide +kernel) (by decide) hf (fun hc hf => ?_) (fun hc hf => ?_)
  · cases hf
    exact sf_void rfl (by decide +kernel)
  · refine sf_blk [(.aload_n 0, 0, 0, .null), (.iload_n 1, 0, 0, .null)] (lv' := [(0, .ref a0), (1, .int a1)]) (st' := [.int a1, .ref a0]) (M1 := M) (ob := []) (pc' := 74) (by decide +kernel) rfl rfl sw_a0 ?_
    obtain ⟨u2, hu2, hf⟩ := sw_bnd hf
    refine sf_callV (i := 287) (k2 := k_Model_waits) (d2 := d - 1) (As := [.int a1]) (st := []) (q := a0) (ci := 12) mf_Model_waits mi_Model_waits ms_Model_waits (sw_m7 77 (by decide +kernel)) rfl (by decide) (by decide +kernel) rfl (Nat.le_of_ble_eq_true rfl) (by omega) h1 (o_Model_waits g (d := d - 1) (by omega) hu2) ?_
    show sw_F _ _ _ _ _ _ 77 [(0, .ref a0), (1, .int a1)] [] u2
    cases hf
    exact sf_void rfl (by decide +kernel)
def f_Model_sign_54 (N : Nat) (a0 : Nat) (a1 : Int32) (M : sw_M) : Option (sw_M) :=
  sw_gd [sw_ok M a0 12] (if (rd_I M a0 30) = 0 then (f_Model_knot N a0 M).bind (fun u2 => f_Model_sign_65 N a0 a1 u2)
  else f_Model_sign_65 N a0 a1 M)
set_option maxRecDepth 10000 in
theorem t_Model_sign_54 {g : sw_G} {d n0 : Nat} (hd : 9 ≤ d) {r : sw_M} {N : Nat} {a0 : Nat} {a1 : Int32} {M : sw_M} (hf : f_Model_sign_54 N a0 a1 M = some r) : sw_F g k_Model_sign d n0 none r 54 [(0, .ref a0), (1, .int a1)] [] M := by
  unfold f_Model_sign_54 at hf
  obtain ⟨h1, hf⟩ := sw_gd_1 hf
  refine sf_blk [(.aload_n 0, 0, 0, .null), (.getfield 212, 12, 30, .null)] (lv' := [(0, .ref a0), (1, .int a1)]) (st' := [.int (rd_I M a0 30)]) (M1 := M) (ob := [sw_ok M a0 12]) (pc' := 58) (by decide +kernel) rfl rfl (sw_a1 h1 sw_a0) ?_
  refine sf_z_ne (off := 7) (tgt := 65) (by decide +kernel) (by decide) hf (fun hc hf => ?_) (fun hc hf => ?_)
  · exact sf_weak [0, 1] rfl (t_Model_sign_65 hd hf)
  · refine sf_blk [(.aload_n 0, 0, 0, .null)] (lv' := [(0, .ref a0), (1, .int a1)]) (st' := [.ref a0]) (M1 := M) (ob := []) (pc' := 62) (by decide +kernel) rfl rfl sw_a0 ?_
    obtain ⟨u2, hu2, hf⟩ := sw_bnd hf
    refine sf_callV (i := 284) (k2 := k_Model_knot) (d2 := d - 1) (As := []) (st := []) (q := a0) (ci := 12) mf_Model_knot mi_Model_knot ms_Model_knot (sw_m7 65 (by decide +kernel)) rfl (by decide) (by decide +kernel) rfl (Nat.le_of_ble_eq_true rfl) (by omega) h1 (o_Model_knot g (d := d - 1) (by omega) hu2) ?_
    show sw_F _ _ _ _ _ _ 65 [(0, .ref a0), (1, .int a1)] [] u2
    exact sf_weak [0, 1] rfl (t_Model_sign_65 hd hf)
def f_Model_sign (N : Nat) (a0 : Nat) (a1 : Int32) (M : sw_M) : Option (sw_M) :=
  (f_Model_bind N a1 M).bind (fun u1 => if u1.1 = (4 : Int32) then sw_gd [sw_ok u1.2 a0 12] ((f_Model_pour N a0 (5 : Int32) u1.2).bind (fun u6 => sw_gd [sw_ok u6 a0 12] (if (rd_I u6 a0 35) ≤ 0 then f_Model_sign_54 N a0 a1 u6
  else sw_gd [sw_ar u6 (rd_R u6 a0 34) 13 ((rd_I u6 a0 35) - (1 : Int32))] ((f_Model_bind N (rd_I u6 (rd_R u6 a0 34) ((rd_I u6 a0 35) - (1 : Int32)).toNatClampNeg) u6).bind (fun u9 => if u9.1 = (4 : Int32) then sw_gd [sw_ok u9.2 a0 12] ((f_Model_wrong N a0 (1 : Int32) u9.2).bind (fun u11 => f_Model_sign_54 N a0 a1 u11))
  else f_Model_sign_54 N a0 a1 u9.2)))))
  else (f_Model_bind N a1 u1.2).bind (fun u2 => sw_gd [sw_ok u2.2 a0 12] ((f_Model_pour N a0 u2.1 u2.2).bind (fun u4 => f_Model_sign_54 N a0 a1 u4))))
set_option maxRecDepth 10000 in
theorem t_Model_sign {g : sw_G} {d n0 : Nat} (hd : 9 ≤ d) {r : sw_M} {N : Nat} {a0 : Nat} {a1 : Int32} {M : sw_M} (hf : f_Model_sign N a0 a1 M = some r) : sw_F g k_Model_sign d n0 none r 0 [(0, .ref a0), (1, .int a1)] [] M := by
  unfold f_Model_sign at hf
  refine sf_blk [(.iload_n 1, 0, 0, .null)] (lv' := [(0, .ref a0), (1, .int a1)]) (st' := [.int a1]) (M1 := M) (ob := []) (pc' := 1) (by decide +kernel) rfl rfl sw_a0 ?_
  obtain ⟨u1, hu1, hf⟩ := sw_bnd hf
  refine sf_callS (i := 261) (k2 := k_Model_bind) (d2 := d - 1) (As := [.int a1]) (st := []) mf_Model_bind mi_Model_bind (sw_m7 81 (by decide +kernel)) (by decide +kernel) rfl (Nat.le_of_ble_eq_true rfl) (by omega) (o_Model_bind g (d := d - 1) (by omega) hu1) ?_
  show sw_F _ _ _ _ _ _ 4 [(0, .ref a0), (1, .int a1)] [.int u1.1] u1.2
  refine sf_blk [(.iconst (4), 0, 0, .int (4 : Int32))] (lv' := [(0, .ref a0), (1, .int a1)]) (st' := [.int (4 : Int32), .int u1.1]) (M1 := u1.2) (ob := []) (pc' := 5) (by decide +kernel) rfl rfl sw_a0 ?_
  refine sf_j_ne (off := 41) (tgt := 46) (by decide +kernel) (by decide) hf (fun hc hf => ?_) (fun hc hf => ?_)
  · refine sf_blk [(.aload_n 0, 0, 0, .null), (.iload_n 1, 0, 0, .null)] (lv' := [(0, .ref a0), (1, .int a1)]) (st' := [.int a1, .ref a0]) (M1 := u1.2) (ob := []) (pc' := 48) (by decide +kernel) rfl rfl sw_a0 ?_
    obtain ⟨u2, hu2, hf⟩ := sw_bnd hf
    refine sf_callS (i := 261) (k2 := k_Model_bind) (d2 := d - 1) (As := [.int a1]) (st := [.ref a0]) mf_Model_bind mi_Model_bind (sw_m7 81 (by decide +kernel)) (by decide +kernel) rfl (Nat.le_of_ble_eq_true rfl) (by omega) (o_Model_bind g (d := d - 1) (by omega) hu2) ?_
    show sw_F _ _ _ _ _ _ 51 [(0, .ref a0), (1, .int a1)] [.int u2.1, .ref a0] u2.2
    obtain ⟨h3, hf⟩ := sw_gd_1 hf
    obtain ⟨u4, hu4, hf⟩ := sw_bnd hf
    refine sf_callV (i := 281) (k2 := k_Model_pour) (d2 := d - 1) (As := [.int u2.1]) (st := []) (q := a0) (ci := 12) mf_Model_pour mi_Model_pour ms_Model_pour (sw_m7 92 (by decide +kernel)) rfl (by decide) (by decide +kernel) rfl (Nat.le_of_ble_eq_true rfl) (by omega) h3 (o_Model_pour g (d := d - 1) (by omega) hu4) ?_
    show sw_F _ _ _ _ _ _ 54 [(0, .ref a0), (1, .int a1)] [] u4
    exact sf_weak [0, 1] rfl (t_Model_sign_54 hd hf)
  · obtain ⟨h5, hf⟩ := sw_gd_1 hf
    refine sf_blk [(.aload_n 0, 0, 0, .null), (.iconst (5), 0, 0, .int (5 : Int32))] (lv' := [(0, .ref a0), (1, .int a1)]) (st' := [.int (5 : Int32), .ref a0]) (M1 := u1.2) (ob := []) (pc' := 10) (by decide +kernel) rfl rfl sw_a0 ?_
    obtain ⟨u6, hu6, hf⟩ := sw_bnd hf
    refine sf_callV (i := 281) (k2 := k_Model_pour) (d2 := d - 1) (As := [.int (5 : Int32)]) (st := []) (q := a0) (ci := 12) mf_Model_pour mi_Model_pour ms_Model_pour (sw_m7 92 (by decide +kernel)) rfl (by decide) (by decide +kernel) rfl (Nat.le_of_ble_eq_true rfl) (by omega) h5 (o_Model_pour g (d := d - 1) (by omega) hu6) ?_
    show sw_F _ _ _ _ _ _ 13 [(0, .ref a0), (1, .int a1)] [] u6
    obtain ⟨h7, hf⟩ := sw_gd_1 hf
    refine sf_blk [(.aload_n 0, 0, 0, .null), (.getfield 258, 12, 35, .null)] (lv' := [(0, .ref a0), (1, .int a1)]) (st' := [.int (rd_I u6 a0 35)]) (M1 := u6) (ob := [sw_ok u6 a0 12]) (pc' := 17) (by decide +kernel) rfl rfl (sw_a1 h7 sw_a0) ?_
    refine sf_z_le (off := 37) (tgt := 54) (by decide +kernel) (by decide) hf (fun hc hf => ?_) (fun hc hf => ?_)
    · exact sf_weak [0, 1] rfl (t_Model_sign_54 hd hf)
    · obtain ⟨h8, hf⟩ := sw_gd_1 hf
      refine sf_blk [(.aload_n 0, 0, 0, .null), (.getfield 53, 12, 34, .null), (.aload_n 0, 0, 0, .null), (.getfield 258, 12, 35, .null), (.iconst (1), 0, 0, .int (1 : Int32)), (.isub, 0, 0, .null), (.iaload, 0, 0, .null)] (lv' := [(0, .ref a0), (1, .int a1)]) (st' := [.int (rd_I u6 (rd_R u6 a0 34) ((rd_I u6 a0 35) - (1 : Int32)).toNatClampNeg)]) (M1 := u6) (ob := [sw_ok u6 a0 12, sw_ok u6 a0 12, sw_ar u6 (rd_R u6 a0 34) 13 ((rd_I u6 a0 35) - (1 : Int32))]) (pc' := 31) (by decide +kernel) rfl rfl (sw_a1 h7 (sw_a1 h7 (sw_a1 h8 sw_a0))) ?_
      obtain ⟨u9, hu9, hf⟩ := sw_bnd hf
      refine sf_callS (i := 261) (k2 := k_Model_bind) (d2 := d - 1) (As := [.int (rd_I u6 (rd_R u6 a0 34) ((rd_I u6 a0 35) - (1 : Int32)).toNatClampNeg)]) (st := []) mf_Model_bind mi_Model_bind (sw_m7 81 (by decide +kernel)) (by decide +kernel) rfl (Nat.le_of_ble_eq_true rfl) (by omega) (o_Model_bind g (d := d - 1) (by omega) hu9) ?_
      show sw_F _ _ _ _ _ _ 34 [(0, .ref a0), (1, .int a1)] [.int u9.1] u9.2
      refine sf_blk [(.iconst (4), 0, 0, .int (4 : Int32))] (lv' := [(0, .ref a0), (1, .int a1)]) (st' := [.int (4 : Int32), .int u9.1]) (M1 := u9.2) (ob := []) (pc' := 35) (by decide +kernel) rfl rfl sw_a0 ?_
      refine sf_j_ne (off := 19) (tgt := 54) (by decide +kernel) (by decide) hf (fun hc hf => ?_) (fun hc hf => ?_)
      · exact sf_weak [0, 1] rfl (t_Model_sign_54 hd hf)
      · obtain ⟨h10, hf⟩ := sw_gd_1 hf
        refine sf_blk [(.aload_n 0, 0, 0, .null), (.iconst (1), 0, 0, .int (1 : Int32))] (lv' := [(0, .ref a0), (1, .int a1)]) (st' := [.int (1 : Int32), .ref a0]) (M1 := u9.2) (ob := []) (pc' := 40) (by decide +kernel) rfl rfl sw_a0 ?_
        obtain ⟨u11, hu11, hf⟩ := sw_bnd hf
        refine sf_callV (i := 218) (k2 := k_Model_wrong) (d2 := d - 1) (As := [.int (1 : Int32)]) (st := []) (q := a0) (ci := 12) mf_Model_wrong mi_Model_wrong ms_Model_wrong (sw_m7 53 (by decide +kernel)) rfl (by decide) (by decide +kernel) rfl (Nat.le_of_ble_eq_true rfl) (by omega) h10 (o_Model_wrong g (d := d - 1) (by omega) hu11) ?_
        show sw_F _ _ _ _ _ _ 43 [(0, .ref a0), (1, .int a1)] [] u11
        refine sf_goto (off := 11) (tgt := 54) (by decide +kernel) (by decide) ?_
        exact sf_weak [0, 1] rfl (t_Model_sign_54 hd hf)
theorem o_Model_sign (g : sw_G) {d : Nat} (hd : 9 ≤ d) {N : Nat} {a0 : Nat} {a1 : Int32} {M : sw_M} {r : sw_M} (hf : f_Model_sign N a0 a1 M = some r) : sw_Ok g k_Model_sign d [.ref a0, .int a1] M none r := sf_met (by decide +kernel) rfl (by decide) (Nat.le_of_ble_eq_true rfl) (t_Model_sign hd hf)
