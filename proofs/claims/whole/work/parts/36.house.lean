/-! printed by program: functions of methods, and that the bytes compute them -/
def f_House_count_151 (N : Nat) (M : sw_M) : Option (Int32 × sw_M) :=
  some ((-1 : Int32), M)
set_option maxRecDepth 10000 in
theorem t_House_count_151 {g : sw_G} {d n0 : Nat} (hd : 1 ≤ d) {r : Int32 × sw_M} {N : Nat} {M : sw_M} (hf : f_House_count_151 N M = some r) : sw_F g k_House_count d n0 (some (.int r.1)) r.2 151 [] [] M := by
  unfold f_House_count_151 at hf
  refine sf_blk [(.iconst (-1), 0, 0, .int (-1 : Int32))] (lv' := []) (st' := [.int (-1 : Int32)]) (M1 := M) (ob := []) (pc' := 152) (by decide +kernel) rfl rfl sw_a0 ?_
  cases hf
  exact sf_int rfl (by decide +kernel)
def f_House_count (N : Nat) (a0 : Nat) (a1 : Int32) (M : sw_M) : Option (Int32 × sw_M) :=
  if a1 = (0 : Int32) then sw_gd [sw_ok M a0 11] (sw_gd [sw_ok M (rd_R M a0 2) 0] (some ((rd_I M (rd_R M a0 2) 2), M)))
  else if a1 = (1 : Int32) then sw_gd [sw_ok M a0 11] (sw_gd [sw_ok M (rd_R M a0 6) 10] (some ((rd_I M (rd_R M a0 6) 3), M)))
  else if a1 = (2 : Int32) then sw_gd [sw_ok M a0 11] (sw_gd [sw_ok M (rd_R M a0 7) 3] (some ((rd_I M (rd_R M a0 7) 5), M)))
  else if a1 = (3 : Int32) then sw_gd [sw_ok M a0 11] (sw_gd [sw_ok M (rd_R M a0 2) 0] (some ((rd_I M (rd_R M a0 2) 5), M)))
  else if a1 = (4 : Int32) then sw_gd [sw_ok M a0 11] (sw_gd [sw_ok M (rd_R M a0 2) 0] (some ((rd_I M (rd_R M a0 2) 3), M)))
  else if a1 = (5 : Int32) then sw_gd [sw_ok M a0 11] (sw_gd [sw_ok M (rd_R M a0 2) 0] (some ((rd_I M (rd_R M a0 2) 4), M)))
  else if a1 = (6 : Int32) then sw_gd [sw_ok M a0 11] (sw_gd [sw_ok M (rd_R M a0 2) 0] (sw_gd [sw_ok M (rd_R M (rd_R M a0 2) 1) 7] (some ((rd_I M (rd_R M (rd_R M a0 2) 1) 6), M))))
  else if a1 = (7 : Int32) then sw_gd [sw_ok M a0 11] (sw_gd [sw_ok M (rd_R M a0 6) 10] (some ((rd_I M (rd_R M a0 6) 4), M)))
  else if a1 = (8 : Int32) then sw_gd [sw_ok M a0 11] (sw_gd [sw_ok M (rd_R M a0 6) 10] (some ((rd_I M (rd_R M a0 6) 5), M)))
  else if a1 = (9 : Int32) then sw_gd [sw_ok M a0 11] (sw_gd [sw_ok M (rd_R M a0 6) 10] (some ((rd_I M (rd_R M a0 6) 6), M)))
  else if a1 = (10 : Int32) then sw_gd [sw_ok M a0 11] (sw_gd [sw_ok M (rd_R M a0 8) 1] (some ((rd_I M (rd_R M a0 8) 8), M)))
  else f_House_count_151 N M
set_option maxRecDepth 10000 in
theorem t_House_count {g : sw_G} {d n0 : Nat} (hd : 1 ≤ d) {r : Int32 × sw_M} {N : Nat} {a0 : Nat} {a1 : Int32} {M : sw_M} (hf : f_House_count N a0 a1 M = some r) : sw_F g k_House_count d n0 (some (.int r.1)) r.2 0 [(0, .ref a0), (1, .int a1)] [] M := by
  unfold f_House_count at hf
  refine sf_blk [(.iload_n 1, 0, 0, .null)] (lv' := [(0, .ref a0), (1, .int a1)]) (st' := [.int a1]) (M1 := M) (ob := []) (pc' := 1) (by decide +kernel) rfl rfl sw_a0 ?_
  rcases sw_ite hf with ⟨h1, hf⟩ | ⟨h1, hf⟩
  · refine sf_tin (a := a1) (off := 59) (tgt := 60) (len := 59) (show decode (k_c k_House_count) 1 = .ok (.tableswitch (150) (0) (10) #[59, 67, 75, 83, 91, 99, 107, 118, 126, 134, 142], 59) by decide +kernel) (by rw [h1]; decide) (by rw [h1]; decide) (by rw [h1]; decide +kernel) (by decide) ?_
    obtain ⟨h2, hf⟩ := sw_gd_1 hf
    obtain ⟨h3, hf⟩ := sw_gd_1 hf
    refine sf_blk [(.aload_n 0, 0, 0, .null), (.getfield 20, 11, 2, .null), (.getfield 104, 0, 2, .null)] (lv' := [(0, .ref a0), (1, .int a1)]) (st' := [.int (rd_I M (rd_R M a0 2) 2)]) (M1 := M) (ob := [sw_ok M a0 11, sw_ok M (rd_R M a0 2) 0]) (pc' := 67) (by decide +kernel) rfl rfl (sw_a1 h2 (sw_a1 h3 sw_a0)) ?_
    cases hf
    exact sf_int rfl (by decide +kernel)
  ·
    rcases sw_ite hf with ⟨h4, hf⟩ | ⟨h4, hf⟩
    · refine sf_tin (a := a1) (off := 67) (tgt := 68) (len := 59) (show decode (k_c k_House_count) 1 = .ok (.tableswitch (150) (0) (10) #[59, 67, 75, 83, 91, 99, 107, 118, 126, 134, 142], 59) by decide +kernel) (by rw [h4]; decide) (by rw [h4]; decide) (by rw [h4]; decide +kernel) (by decide) ?_
      obtain ⟨h5, hf⟩ := sw_gd_1 hf
      obtain ⟨h6, hf⟩ := sw_gd_1 hf
      refine sf_blk [(.aload_n 0, 0, 0, .null), (.getfield 49, 11, 6, .null), (.getfield 280, 10, 3, .null)] (lv' := [(0, .ref a0), (1, .int a1)]) (st' := [.int (rd_I M (rd_R M a0 6) 3)]) (M1 := M) (ob := [sw_ok M a0 11, sw_ok M (rd_R M a0 6) 10]) (pc' := 75) (by decide +kernel) rfl rfl (sw_a1 h5 (sw_a1 h6 sw_a0)) ?_
      cases hf
      exact sf_int rfl (by decide +kernel)
    ·
      rcases sw_ite hf with ⟨h7, hf⟩ | ⟨h7, hf⟩
      · refine sf_tin (a := a1) (off := 75) (tgt := 76) (len := 59) (show decode (k_c k_House_count) 1 = .ok (.tableswitch (150) (0) (10) #[59, 67, 75, 83, 91, 99, 107, 118, 126, 134, 142], 59) by decide +kernel) (by rw [h7]; decide) (by rw [h7]; decide) (by rw [h7]; decide +kernel) (by decide) ?_
        obtain ⟨h8, hf⟩ := sw_gd_1 hf
        obtain ⟨h9, hf⟩ := sw_gd_1 hf
        refine sf_blk [(.aload_n 0, 0, 0, .null), (.getfield 56, 11, 7, .null), (.getfield 262, 3, 5, .null)] (lv' := [(0, .ref a0), (1, .int a1)]) (st' := [.int (rd_I M (rd_R M a0 7) 5)]) (M1 := M) (ob := [sw_ok M a0 11, sw_ok M (rd_R M a0 7) 3]) (pc' := 83) (by decide +kernel) rfl rfl (sw_a1 h8 (sw_a1 h9 sw_a0)) ?_
        cases hf
        exact sf_int rfl (by decide +kernel)
      ·
        rcases sw_ite hf with ⟨h10, hf⟩ | ⟨h10, hf⟩
        · refine sf_tin (a := a1) (off := 83) (tgt := 84) (len := 59) (show decode (k_c k_House_count) 1 = .ok (.tableswitch (150) (0) (10) #[59, 67, 75, 83, 91, 99, 107, 118, 126, 134, 142], 59) by decide +kernel) (by rw [h10]; decide) (by rw [h10]; decide) (by rw [h10]; decide +kernel) (by decide) ?_
          obtain ⟨h11, hf⟩ := sw_gd_1 hf
          obtain ⟨h12, hf⟩ := sw_gd_1 hf
          refine sf_blk [(.aload_n 0, 0, 0, .null), (.getfield 20, 11, 2, .null), (.getfield 116, 0, 5, .null)] (lv' := [(0, .ref a0), (1, .int a1)]) (st' := [.int (rd_I M (rd_R M a0 2) 5)]) (M1 := M) (ob := [sw_ok M a0 11, sw_ok M (rd_R M a0 2) 0]) (pc' := 91) (by decide +kernel) rfl rfl (sw_a1 h11 (sw_a1 h12 sw_a0)) ?_
          cases hf
          exact sf_int rfl (by decide +kernel)
        ·
          rcases sw_ite hf with ⟨h13, hf⟩ | ⟨h13, hf⟩
          · refine sf_tin (a := a1) (off := 91) (tgt := 92) (len := 59) (show decode (k_c k_House_count) 1 = .ok (.tableswitch (150) (0) (10) #[59, 67, 75, 83, 91, 99, 107, 118, 126, 134, 142], 59) by decide +kernel) (by rw [h13]; decide) (by rw [h13]; decide) (by rw [h13]; decide +kernel) (by decide) ?_
            obtain ⟨h14, hf⟩ := sw_gd_1 hf
            obtain ⟨h15, hf⟩ := sw_gd_1 hf
            refine sf_blk [(.aload_n 0, 0, 0, .null), (.getfield 20, 11, 2, .null), (.getfield 110, 0, 3, .null)] (lv' := [(0, .ref a0), (1, .int a1)]) (st' := [.int (rd_I M (rd_R M a0 2) 3)]) (M1 := M) (ob := [sw_ok M a0 11, sw_ok M (rd_R M a0 2) 0]) (pc' := 99) (by decide +kernel) rfl rfl (sw_a1 h14 (sw_a1 h15 sw_a0)) ?_
            cases hf
            exact sf_int rfl (by decide +kernel)
          ·
            rcases sw_ite hf with ⟨h16, hf⟩ | ⟨h16, hf⟩
            · refine sf_tin (a := a1) (off := 99) (tgt := 100) (len := 59) (show decode (k_c k_House_count) 1 = .ok (.tableswitch (150) (0) (10) #[59, 67, 75, 83, 91, 99, 107, 118, 126, 134, 142], 59) by decide +kernel) (by rw [h16]; decide) (by rw [h16]; decide) (by rw [h16]; decide +kernel) (by decide) ?_
              obtain ⟨h17, hf⟩ := sw_gd_1 hf
              obtain ⟨h18, hf⟩ := sw_gd_1 hf
              refine sf_blk [(.aload_n 0, 0, 0, .null), (.getfield 20, 11, 2, .null), (.getfield 113, 0, 4, .null)] (lv' := [(0, .ref a0), (1, .int a1)]) (st' := [.int (rd_I M (rd_R M a0 2) 4)]) (M1 := M) (ob := [sw_ok M a0 11, sw_ok M (rd_R M a0 2) 0]) (pc' := 107) (by decide +kernel) rfl rfl (sw_a1 h17 (sw_a1 h18 sw_a0)) ?_
              cases hf
              exact sf_int rfl (by decide +kernel)
            ·
              rcases sw_ite hf with ⟨h19, hf⟩ | ⟨h19, hf⟩
              · refine sf_tin (a := a1) (off := 107) (tgt := 108) (len := 59) (show decode (k_c k_House_count) 1 = .ok (.tableswitch (150) (0) (10) #[59, 67, 75, 83, 91, 99, 107, 118, 126, 134, 142], 59) by decide +kernel) (by rw [h19]; decide) (by rw [h19]; decide) (by rw [h19]; decide +kernel) (by decide) ?_
                obtain ⟨h20, hf⟩ := sw_gd_1 hf
                obtain ⟨h21, hf⟩ := sw_gd_1 hf
                obtain ⟨h22, hf⟩ := sw_gd_1 hf
                refine sf_blk [(.aload_n 0, 0, 0, .null), (.getfield 20, 11, 2, .null), (.getfield 339, 0, 1, .null), (.getfield 343, 7, 6, .null)] (lv' := [(0, .ref a0), (1, .int a1)]) (st' := [.int (rd_I M (rd_R M (rd_R M a0 2) 1) 6)]) (M1 := M) (ob := [sw_ok M a0 11, sw_ok M (rd_R M a0 2) 0, sw_ok M (rd_R M (rd_R M a0 2) 1) 7]) (pc' := 118) (by decide +kernel) rfl rfl (sw_a1 h20 (sw_a1 h21 (sw_a1 h22 sw_a0))) ?_
                cases hf
                exact sf_int rfl (by decide +kernel)
              ·
                rcases sw_ite hf with ⟨h23, hf⟩ | ⟨h23, hf⟩
                · refine sf_tin (a := a1) (off := 118) (tgt := 119) (len := 59) (show decode (k_c k_House_count) 1 = .ok (.tableswitch (150) (0) (10) #[59, 67, 75, 83, 91, 99, 107, 118, 126, 134, 142], 59) by decide +kernel) (by rw [h23]; decide) (by rw [h23]; decide) (by rw [h23]; decide +kernel) (by decide) ?_
                  obtain ⟨h24, hf⟩ := sw_gd_1 hf
                  obtain ⟨h25, hf⟩ := sw_gd_1 hf
                  refine sf_blk [(.aload_n 0, 0, 0, .null), (.getfield 49, 11, 6, .null), (.getfield 178, 10, 4, .null)] (lv' := [(0, .ref a0), (1, .int a1)]) (st' := [.int (rd_I M (rd_R M a0 6) 4)]) (M1 := M) (ob := [sw_ok M a0 11, sw_ok M (rd_R M a0 6) 10]) (pc' := 126) (by decide +kernel) rfl rfl (sw_a1 h24 (sw_a1 h25 sw_a0)) ?_
                  cases hf
                  exact sf_int rfl (by decide +kernel)
                ·
                  rcases sw_ite hf with ⟨h26, hf⟩ | ⟨h26, hf⟩
                  · refine sf_tin (a := a1) (off := 126) (tgt := 127) (len := 59) (show decode (k_c k_House_count) 1 = .ok (.tableswitch (150) (0) (10) #[59, 67, 75, 83, 91, 99, 107, 118, 126, 134, 142], 59) by decide +kernel) (by rw [h26]; decide) (by rw [h26]; decide) (by rw [h26]; decide +kernel) (by decide) ?_
                    obtain ⟨h27, hf⟩ := sw_gd_1 hf
                    obtain ⟨h28, hf⟩ := sw_gd_1 hf
                    refine sf_blk [(.aload_n 0, 0, 0, .null), (.getfield 49, 11, 6, .null), (.getfield 243, 10, 5, .null)] (lv' := [(0, .ref a0), (1, .int a1)]) (st' := [.int (rd_I M (rd_R M a0 6) 5)]) (M1 := M) (ob := [sw_ok M a0 11, sw_ok M (rd_R M a0 6) 10]) (pc' := 134) (by decide +kernel) rfl rfl (sw_a1 h27 (sw_a1 h28 sw_a0)) ?_
                    cases hf
                    exact sf_int rfl (by decide +kernel)
                  ·
                    rcases sw_ite hf with ⟨h29, hf⟩ | ⟨h29, hf⟩
                    · refine sf_tin (a := a1) (off := 134) (tgt := 135) (len := 59) (show decode (k_c k_House_count) 1 = .ok (.tableswitch (150) (0) (10) #[59, 67, 75, 83, 91, 99, 107, 118, 126, 134, 142], 59) by decide +kernel) (by rw [h29]; decide) (by rw [h29]; decide) (by rw [h29]; decide +kernel) (by decide) ?_
                      obtain ⟨h30, hf⟩ := sw_gd_1 hf
                      obtain ⟨h31, hf⟩ := sw_gd_1 hf
                      refine sf_blk [(.aload_n 0, 0, 0, .null), (.getfield 49, 11, 6, .null), (.getfield 246, 10, 6, .null)] (lv' := [(0, .ref a0), (1, .int a1)]) (st' := [.int (rd_I M (rd_R M a0 6) 6)]) (M1 := M) (ob := [sw_ok M a0 11, sw_ok M (rd_R M a0 6) 10]) (pc' := 142) (by decide +kernel) rfl rfl (sw_a1 h30 (sw_a1 h31 sw_a0)) ?_
                      cases hf
                      exact sf_int rfl (by decide +kernel)
                    ·
                      rcases sw_ite hf with ⟨h32, hf⟩ | ⟨h32, hf⟩
                      · refine sf_tin (a := a1) (off := 142) (tgt := 143) (len := 59) (show decode (k_c k_House_count) 1 = .ok (.tableswitch (150) (0) (10) #[59, 67, 75, 83, 91, 99, 107, 118, 126, 134, 142], 59) by decide +kernel) (by rw [h32]; decide) (by rw [h32]; decide) (by rw [h32]; decide +kernel) (by decide) ?_
                        obtain ⟨h33, hf⟩ := sw_gd_1 hf
                        obtain ⟨h34, hf⟩ := sw_gd_1 hf
                        refine sf_blk [(.aload_n 0, 0, 0, .null), (.getfield 65, 11, 8, .null), (.getfield 255, 1, 8, .null)] (lv' := [(0, .ref a0), (1, .int a1)]) (st' := [.int (rd_I M (rd_R M a0 8) 8)]) (M1 := M) (ob := [sw_ok M a0 11, sw_ok M (rd_R M a0 8) 1]) (pc' := 150) (by decide +kernel) rfl rfl (sw_a1 h33 (sw_a1 h34 sw_a0)) ?_
                        cases hf
                        exact sf_int rfl (by decide +kernel)
                      ·
                        have qh1 := sw_ne (n := 0) h1 (by decide)
                        have qh4 := sw_ne (n := 1) h4 (by decide)
                        have qh7 := sw_ne (n := 2) h7 (by decide)
                        have qh10 := sw_ne (n := 3) h10 (by decide)
                        have qh13 := sw_ne (n := 4) h13 (by decide)
                        have qh16 := sw_ne (n := 5) h16 (by decide)
                        have qh19 := sw_ne (n := 6) h19 (by decide)
                        have qh23 := sw_ne (n := 7) h23 (by decide)
                        have qh26 := sw_ne (n := 8) h26 (by decide)
                        have qh29 := sw_ne (n := 9) h29 (by decide)
                        have qh32 := sw_ne (n := 10) h32 (by decide)
                        refine sf_tout (a := a1) (tgt := 151) (len := 59) (show decode (k_c k_House_count) 1 = .ok (.tableswitch (150) (0) (10) #[59, 67, 75, 83, 91, 99, 107, 118, 126, 134, 142], 59) by decide +kernel) (by omega) (by decide) ?_
                        exact sf_weak [] rfl (t_House_count_151 hd hf)
theorem o_House_count (g : sw_G) {d : Nat} (hd : 1 ≤ d) {N : Nat} {a0 : Nat} {a1 : Int32} {M : sw_M} {r : Int32 × sw_M} (hf : f_House_count N a0 a1 M = some r) : sw_Ok g k_House_count d [.ref a0, .int a1] M (some (.int r.1)) r.2 := sf_met (by decide +kernel) rfl (by decide) (Nat.le_of_ble_eq_true rfl) (t_House_count hd hf)
