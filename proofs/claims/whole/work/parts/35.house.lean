/-! printed by program: functions of methods, and that the bytes compute them -/
def f_Fits_holding_46 (N : Nat) (k4 : Nat → Int32 → Int32 → sw_M → Option (Int32 × sw_M)) (a0 : Nat) (a1 : Int32) (a2 : Int32) (M : sw_M) : Option (Int32 × sw_M) :=
  k4 a0 a1 (a2 + (1 : Int32)) M
set_option maxRecDepth 10000 in
theorem t_Fits_holding_46 {g : sw_G} {d n0 : Nat} (hd : 3 ≤ d) {r : Int32 × sw_M} (k4 : Nat → Int32 → Int32 → sw_M → Option (Int32 × sw_M)) (hk4 : ∀ (a0 : Nat) (a1 : Int32) (a2 : Int32) (M : sw_M), k4 a0 a1 a2 M = some r → sw_F g k_Fits_holding d n0 (some (.int r.1)) r.2 4 [(0, .ref a0), (1, .int a1), (2, .int a2)] [] M) {N : Nat} {a0 : Nat} {a1 : Int32} {a2 : Int32} {M : sw_M} (hf : f_Fits_holding_46 N k4 a0 a1 a2 M = some r) : sw_F g k_Fits_holding d n0 (some (.int r.1)) r.2 46 [(0, .ref a0), (1, .int a1), (2, .int a2)] [] M := by
  unfold f_Fits_holding_46 at hf
  refine sf_blk [(.iinc 2 (1), 0, 0, .int (1 : Int32))] (lv' := [(2, .int (a2 + (1 : Int32))), (0, .ref a0), (1, .int a1)]) (st' := []) (M1 := M) (ob := []) (pc' := 49) (by decide +kernel) rfl rfl sw_a0 ?_
  refine sf_goto (off := -45) (tgt := 4) (by decide +kernel) (by decide) ?_
  exact sf_weak [1, 2, 0] rfl (hk4 _ _ _ _ hf)
def f_Fits_holding_4 (N : Nat) : Nat → Nat → Int32 → Int32 → sw_M → Option (Int32 × sw_M)
  | 0, _, _, _, _ => none
  | j + 1, a0, a1, a2, M =>
  sw_gd [sw_ok M a0 1] (sw_gd [sw_ok M (rd_R M a0 1) 3] (if (rd_I M (rd_R M a0 1) 5) ≤ a2 then some (a1, M)
  else if (10 : Int32) ≤ a2 then some (a1, M)
  else (f_Notes_isSight N (rd_R M a0 1) a2 M).bind (fun u3 => if u3.1 = 0 then f_Fits_holding_46 N (f_Fits_holding_4 N j) a0 a1 a2 u3.2
  else sw_gd [sw_ok u3.2 a0 1] ((f_Fits_holds N a0 a2 u3.2).bind (fun u5 => if u5.1 = 0 then f_Fits_holding_46 N (f_Fits_holding_4 N j) a0 a1 a2 u5.2
  else f_Fits_holding_46 N (f_Fits_holding_4 N j) a0 (a1 ||| ((1 : Int32) <<< (a2 &&& 31))) a2 u5.2)))))
set_option maxRecDepth 10000 in
theorem t_Fits_holding_4 {g : sw_G} {d n0 : Nat} (hd : 3 ≤ d) {r : Int32 × sw_M} {N : Nat} : ∀ (j : Nat) (a0 : Nat) (a1 : Int32) (a2 : Int32) (M : sw_M), f_Fits_holding_4 N j a0 a1 a2 M = some r → sw_F g k_Fits_holding d n0 (some (.int r.1)) r.2 4 [(0, .ref a0), (1, .int a1), (2, .int a2)] [] M := by
  intro j
  induction j with
  | zero =>
    intro a0 a1 a2 M hf
    rw [f_Fits_holding_4] at hf
    cases hf
  | succ j ih =>
    intro a0 a1 a2 M hf
    rw [f_Fits_holding_4] at hf
    obtain ⟨h1, hf⟩ := sw_gd_1 hf
    obtain ⟨h2, hf⟩ := sw_gd_1 hf
    refine sf_blk [(.iload_n 2, 0, 0, .null), (.aload_n 0, 0, 0, .null), (.getfield 38, 1, 1, .null), (.getfield 101, 3, 5, .null)] (lv' := [(0, .ref a0), (1, .int a1), (2, .int a2)]) (st' := [.int (rd_I M (rd_R M a0 1) 5), .int a2]) (M1 := M) (ob := [sw_ok M a0 1, sw_ok M (rd_R M a0 1) 3]) (pc' := 12) (by decide +kernel) rfl rfl (sw_a1 h1 (sw_a1 h2 sw_a0)) ?_
    refine sf_j_ge (off := 40) (tgt := 52) (by decide +kernel) (by decide) hf (fun hc hf => ?_) (fun hc hf => ?_)
    · refine sf_blk [(.iload_n 1, 0, 0, .null)] (lv' := [(0, .ref a0), (1, .int a1), (2, .int a2)]) (st' := [.int a1]) (M1 := M) (ob := []) (pc' := 53) (by decide +kernel) rfl rfl sw_a0 ?_
      cases hf
      exact sf_int rfl (by decide +kernel)
    · refine sf_blk [(.iload_n 2, 0, 0, .null), (.bipush (10), 0, 0, .int (10 : Int32))] (lv' := [(0, .ref a0), (1, .int a1), (2, .int a2)]) (st' := [.int (10 : Int32), .int a2]) (M1 := M) (ob := []) (pc' := 18) (by decide +kernel) rfl rfl sw_a0 ?_
      refine sf_j_ge (off := 34) (tgt := 52) (by decide +kernel) (by decide) hf (fun hc hf => ?_) (fun hc hf => ?_)
      · refine sf_blk [(.iload_n 1, 0, 0, .null)] (lv' := [(0, .ref a0), (1, .int a1), (2, .int a2)]) (st' := [.int a1]) (M1 := M) (ob := []) (pc' := 53) (by decide +kernel) rfl rfl sw_a0 ?_
        cases hf
        exact sf_int rfl (by decide +kernel)
      · refine sf_blk [(.aload_n 0, 0, 0, .null), (.getfield 38, 1, 1, .null), (.iload_n 2, 0, 0, .null)] (lv' := [(0, .ref a0), (1, .int a1), (2, .int a2)]) (st' := [.int a2, .ref (rd_R M a0 1)]) (M1 := M) (ob := [sw_ok M a0 1]) (pc' := 26) (by decide +kernel) rfl rfl (sw_a1 h1 sw_a0) ?_
        obtain ⟨u3, hu3, hf⟩ := sw_bnd hf
        refine sf_callV (i := 95) (k2 := k_Notes_isSight) (d2 := d - 1) (As := [.int a2]) (st := []) (q := (rd_R M a0 1)) (ci := 3) mf_Notes_isSight mi_Notes_isSight ms_Notes_isSight (sw_m5 49 (by decide +kernel)) rfl (by decide) (by decide +kernel) rfl (Nat.le_of_ble_eq_true rfl) (by omega) h2 (o_Notes_isSight g (d := d - 1) (by omega) hu3) ?_
        show sw_F _ _ _ _ _ _ 29 [(0, .ref a0), (1, .int a1), (2, .int a2)] [.int u3.1] u3.2
        refine sf_z_eq (off := 17) (tgt := 46) (by decide +kernel) (by decide) hf (fun hc hf => ?_) (fun hc hf => ?_)
        · exact sf_weak [0, 1, 2] rfl (t_Fits_holding_46 hd _ ih hf)
        · obtain ⟨h4, hf⟩ := sw_gd_1 hf
          refine sf_blk [(.aload_n 0, 0, 0, .null), (.iload_n 2, 0, 0, .null)] (lv' := [(0, .ref a0), (1, .int a1), (2, .int a2)]) (st' := [.int a2, .ref a0]) (M1 := u3.2) (ob := []) (pc' := 34) (by decide +kernel) rfl rfl sw_a0 ?_
          obtain ⟨u5, hu5, hf⟩ := sw_bnd hf
          refine sf_callV (i := 102) (k2 := k_Fits_holds) (d2 := d - 1) (As := [.int a2]) (st := []) (q := a0) (ci := 1) mf_Fits_holds mi_Fits_holds ms_Fits_holds (sw_m5 57 (by decide +kernel)) rfl (by decide) (by decide +kernel) rfl (Nat.le_of_ble_eq_true rfl) (by omega) h4 (o_Fits_holds g (d := d - 1) (by omega) hu5) ?_
          show sw_F _ _ _ _ _ _ 37 [(0, .ref a0), (1, .int a1), (2, .int a2)] [.int u5.1] u5.2
          refine sf_z_eq (off := 9) (tgt := 46) (by decide +kernel) (by decide) hf (fun hc hf => ?_) (fun hc hf => ?_)
          · exact sf_weak [0, 1, 2] rfl (t_Fits_holding_46 hd _ ih hf)
          · refine sf_blk [(.iload_n 1, 0, 0, .null), (.iconst (1), 0, 0, .int (1 : Int32)), (.iload_n 2, 0, 0, .null), (.ishl, 0, 0, .null), (.ior, 0, 0, .null), (.istore_n 1, 0, 0, .null)] (lv' := [(1, .int (a1 ||| ((1 : Int32) <<< (a2 &&& 31)))), (0, .ref a0), (2, .int a2)]) (st' := []) (M1 := u5.2) (ob := []) (pc' := 46) (by decide +kernel) rfl rfl sw_a0 ?_
            exact sf_weak [1, 0, 2] rfl (t_Fits_holding_46 hd _ ih hf)
def f_Fits_holding (N : Nat) (a0 : Nat) (M : sw_M) : Option (Int32 × sw_M) :=
  f_Fits_holding_4 N N a0 (0 : Int32) (0 : Int32) M
set_option maxRecDepth 10000 in
theorem t_Fits_holding {g : sw_G} {d n0 : Nat} (hd : 3 ≤ d) {r : Int32 × sw_M} {N : Nat} {a0 : Nat} {M : sw_M} (hf : f_Fits_holding N a0 M = some r) : sw_F g k_Fits_holding d n0 (some (.int r.1)) r.2 0 [(0, .ref a0)] [] M := by
  unfold f_Fits_holding at hf
  refine sf_blk [(.iconst (0), 0, 0, .int (0 : Int32)), (.istore_n 1, 0, 0, .null), (.iconst (0), 0, 0, .int (0 : Int32)), (.istore_n 2, 0, 0, .null)] (lv' := [(2, .int (0 : Int32)), (1, .int (0 : Int32)), (0, .ref a0)]) (st' := []) (M1 := M) (ob := []) (pc' := 4) (by decide +kernel) rfl rfl sw_a0 ?_
  exact sf_weak [2, 1, 0] rfl (t_Fits_holding_4 hd _ _ _ _ _ hf)
theorem o_Fits_holding (g : sw_G) {d : Nat} (hd : 3 ≤ d) {N : Nat} {a0 : Nat} {M : sw_M} {r : Int32 × sw_M} (hf : f_Fits_holding N a0 M = some r) : sw_Ok g k_Fits_holding d [.ref a0] M (some (.int r.1)) r.2 := sf_met (by decide +kernel) rfl (by decide) (Nat.le_of_ble_eq_true rfl) (t_Fits_holding hd hf)
def f_Fits_markParts_46 (N : Nat) (k2 : Nat → Int32 → sw_M → Option (sw_M)) (k13 : Nat → Int32 → Int32 → sw_M → Option (sw_M)) (a0 : Nat) (a1 : Int32) (a2 : Int32) (M : sw_M) : Option (sw_M) :=
  k13 a0 a1 (a2 + (1 : Int32)) M
set_option maxRecDepth 10000 in
theorem t_Fits_markParts_46 {g : sw_G} {d n0 : Nat} (hd : 1 ≤ d) {r : sw_M} (k2 : Nat → Int32 → sw_M → Option (sw_M)) (hk2 : ∀ (a0 : Nat) (a1 : Int32) (M : sw_M), k2 a0 a1 M = some r → sw_F g k_Fits_markParts d n0 none r 2 [(0, .ref a0), (1, .int a1)] [] M) (k13 : Nat → Int32 → Int32 → sw_M → Option (sw_M)) (hk13 : ∀ (a0 : Nat) (a1 : Int32) (a2 : Int32) (M : sw_M), k13 a0 a1 a2 M = some r → sw_F g k_Fits_markParts d n0 none r 13 [(0, .ref a0), (1, .int a1), (2, .int a2)] [] M) {N : Nat} {a0 : Nat} {a1 : Int32} {a2 : Int32} {M : sw_M} (hf : f_Fits_markParts_46 N k2 k13 a0 a1 a2 M = some r) : sw_F g k_Fits_markParts d n0 none r 46 [(0, .ref a0), (1, .int a1), (2, .int a2)] [] M := by
  unfold f_Fits_markParts_46 at hf
  refine sf_blk [(.iinc 2 (1), 0, 0, .int (1 : Int32))] (lv' := [(2, .int (a2 + (1 : Int32))), (0, .ref a0), (1, .int a1)]) (st' := []) (M1 := M) (ob := []) (pc' := 49) (by decide +kernel) rfl rfl sw_a0 ?_
  refine sf_goto (off := -36) (tgt := 13) (by decide +kernel) (by decide) ?_
  exact sf_weak [1, 2, 0] rfl (hk13 _ _ _ _ hf)
def f_Fits_markParts_13 (N : Nat) (k2 : Nat → Int32 → sw_M → Option (sw_M)) : Nat → Nat → Int32 → Int32 → sw_M → Option (sw_M)
  | 0, _, _, _, _ => none
  | j + 1, a0, a1, a2, M =>
  sw_gd [sw_ok M a0 1] (sw_gd [sw_oka M (rd_R M a0 7)] (if (nI (sw_len (rd_R M a0 7))) ≤ a2 then k2 a0 (a1 <<< ((1 : Int32) &&& 31)) M
  else if (a2 &&& a1) = 0 then f_Fits_markParts_46 N k2 (f_Fits_markParts_13 N k2 j) a0 a1 a2 M
  else sw_gd [sw_ar M (rd_R M a0 7) 14 a2 || sw_ar M (rd_R M a0 7) 15 a2] (if (rd_I M (rd_R M a0 7) a2.toNatClampNeg) = 0 then f_Fits_markParts_46 N k2 (f_Fits_markParts_13 N k2 j) a0 a1 a2 M
  else sw_gd [(sw_ar M (rd_R M a0 7) 14 (a2 ^^^ a1) && decide ((1 : Int32).toInt8.toInt32 = (1 : Int32))) || (sw_ar M (rd_R M a0 7) 15 (a2 ^^^ a1) && sw_bz (1 : Int32))] (f_Fits_markParts_46 N k2 (f_Fits_markParts_13 N k2 j) a0 a1 a2 (wr_I M (rd_R M a0 7) (a2 ^^^ a1).toNatClampNeg (1 : Int32))))))
set_option maxRecDepth 10000 in
theorem t_Fits_markParts_13 {g : sw_G} {d n0 : Nat} (hd : 1 ≤ d) {r : sw_M} (k2 : Nat → Int32 → sw_M → Option (sw_M)) (hk2 : ∀ (a0 : Nat) (a1 : Int32) (M : sw_M), k2 a0 a1 M = some r → sw_F g k_Fits_markParts d n0 none r 2 [(0, .ref a0), (1, .int a1)] [] M) {N : Nat} : ∀ (j : Nat) (a0 : Nat) (a1 : Int32) (a2 : Int32) (M : sw_M), f_Fits_markParts_13 N k2 j a0 a1 a2 M = some r → sw_F g k_Fits_markParts d n0 none r 13 [(0, .ref a0), (1, .int a1), (2, .int a2)] [] M := by
  intro j
  induction j with
  | zero =>
    intro a0 a1 a2 M hf
    rw [f_Fits_markParts_13] at hf
    cases hf
  | succ j ih =>
    intro a0 a1 a2 M hf
    rw [f_Fits_markParts_13] at hf
    obtain ⟨h1, hf⟩ := sw_gd_1 hf
    obtain ⟨h2, hf⟩ := sw_gd_1 hf
    refine sf_blk [(.iload_n 2, 0, 0, .null), (.aload_n 0, 0, 0, .null), (.getfield 26, 1, 7, .null), (.arraylength, 0, 0, .null)] (lv' := [(0, .ref a0), (1, .int a1), (2, .int a2)]) (st' := [.int (nI (sw_len (rd_R M a0 7))), .int a2]) (M1 := M) (ob := [sw_ok M a0 1, sw_oka M (rd_R M a0 7)]) (pc' := 19) (by decide +kernel) rfl rfl (sw_a1 h1 (sw_a1 h2 sw_a0)) ?_
    refine sf_j_ge (off := 33) (tgt := 52) (by decide +kernel) (by decide) hf (fun hc hf => ?_) (fun hc hf => ?_)
    · refine sf_blk [(.iload_n 1, 0, 0, .null), (.iconst (1), 0, 0, .int (1 : Int32)), (.ishl, 0, 0, .null), (.istore_n 1, 0, 0, .null)] (lv' := [(1, .int (a1 <<< ((1 : Int32) &&& 31))), (0, .ref a0), (2, .int a2)]) (st' := []) (M1 := M) (ob := []) (pc' := 56) (by decide +kernel) rfl rfl sw_a0 ?_
      refine sf_goto (off := -54) (tgt := 2) (by decide +kernel) (by decide) ?_
      exact sf_weak [1, 0] rfl (hk2 _ _ _ hf)
    · refine sf_blk [(.iload_n 2, 0, 0, .null), (.iload_n 1, 0, 0, .null), (.iand, 0, 0, .null)] (lv' := [(0, .ref a0), (1, .int a1), (2, .int a2)]) (st' := [.int (a2 &&& a1)]) (M1 := M) (ob := []) (pc' := 25) (by decide +kernel) rfl rfl sw_a0 ?_
      refine sf_z_eq (off := 21) (tgt := 46) (by decide +kernel) (by decide) hf (fun hc hf => ?_) (fun hc hf => ?_)
      · exact sf_weak [0, 1, 2] rfl (t_Fits_markParts_46 hd _ hk2 _ ih hf)
      · obtain ⟨h3, hf⟩ := sw_gd_1 hf
        refine sf_blk [(.aload_n 0, 0, 0, .null), (.getfield 26, 1, 7, .null), (.iload_n 2, 0, 0, .null), (.baload, 0, 0, .null)] (lv' := [(0, .ref a0), (1, .int a1), (2, .int a2)]) (st' := [.int (rd_I M (rd_R M a0 7) a2.toNatClampNeg)]) (M1 := M) (ob := [sw_ok M a0 1, sw_ar M (rd_R M a0 7) 14 a2 || sw_ar M (rd_R M a0 7) 15 a2]) (pc' := 34) (by decide +kernel) rfl rfl (sw_a1 h1 (sw_a1 h3 sw_a0)) ?_
        refine sf_z_eq (off := 12) (tgt := 46) (by decide +kernel) (by decide) hf (fun hc hf => ?_) (fun hc hf => ?_)
        · exact sf_weak [0, 1, 2] rfl (t_Fits_markParts_46 hd _ hk2 _ ih hf)
        · obtain ⟨h4, hf⟩ := sw_gd_1 hf
          refine sf_blk [(.aload_n 0, 0, 0, .null), (.getfield 26, 1, 7, .null), (.iload_n 2, 0, 0, .null), (.iload_n 1, 0, 0, .null), (.ixor, 0, 0, .null), (.iconst (1), 0, 0, .int (1 : Int32)), (.bastore, 0, 0, .null)] (lv' := [(0, .ref a0), (1, .int a1), (2, .int a2)]) (st' := []) (M1 := (wr_I M (rd_R M a0 7) (a2 ^^^ a1).toNatClampNeg (1 : Int32))) (ob := [sw_ok M a0 1, (sw_ar M (rd_R M a0 7) 14 (a2 ^^^ a1) && decide ((1 : Int32).toInt8.toInt32 = (1 : Int32))) || (sw_ar M (rd_R M a0 7) 15 (a2 ^^^ a1) && sw_bz (1 : Int32))]) (pc' := 46) (by decide +kernel) rfl rfl (sw_a1 h1 (sw_a1 h4 sw_a0)) ?_
          exact sf_weak [0, 1, 2] rfl (t_Fits_markParts_46 hd _ hk2 _ ih hf)
def f_Fits_markParts_2 (N : Nat) : Nat → Nat → Int32 → sw_M → Option (sw_M)
  | 0, _, _, _ => none
  | j + 1, a0, a1, M =>
  sw_gd [sw_ok M a0 1] (sw_gd [sw_oka M (rd_R M a0 7)] (if (nI (sw_len (rd_R M a0 7))) ≤ a1 then some M
  else f_Fits_markParts_13 N (f_Fits_markParts_2 N j) N a0 a1 (0 : Int32) M))
set_option maxRecDepth 10000 in
theorem t_Fits_markParts_2 {g : sw_G} {d n0 : Nat} (hd : 1 ≤ d) {r : sw_M} {N : Nat} : ∀ (j : Nat) (a0 : Nat) (a1 : Int32) (M : sw_M), f_Fits_markParts_2 N j a0 a1 M = some r → sw_F g k_Fits_markParts d n0 none r 2 [(0, .ref a0), (1, .int a1)] [] M := by
  intro j
  induction j with
  | zero =>
    intro a0 a1 M hf
    rw [f_Fits_markParts_2] at hf
    cases hf
  | succ j ih =>
    intro a0 a1 M hf
    rw [f_Fits_markParts_2] at hf
    obtain ⟨h1, hf⟩ := sw_gd_1 hf
    obtain ⟨h2, hf⟩ := sw_gd_1 hf
    refine sf_blk [(.iload_n 1, 0, 0, .null), (.aload_n 0, 0, 0, .null), (.getfield 26, 1, 7, .null), (.arraylength, 0, 0, .null)] (lv' := [(0, .ref a0), (1, .int a1)]) (st' := [.int (nI (sw_len (rd_R M a0 7))), .int a1]) (M1 := M) (ob := [sw_ok M a0 1, sw_oka M (rd_R M a0 7)]) (pc' := 8) (by decide +kernel) rfl rfl (sw_a1 h1 (sw_a1 h2 sw_a0)) ?_
    refine sf_j_ge (off := 51) (tgt := 59) (by decide +kernel) (by decide) hf (fun hc hf => ?_) (fun hc hf => ?_)
    · cases hf
      exact sf_void rfl (by decide +kernel)
    · refine sf_blk [(.iconst (0), 0, 0, .int (0 : Int32)), (.istore_n 2, 0, 0, .null)] (lv' := [(2, .int (0 : Int32)), (0, .ref a0), (1, .int a1)]) (st' := []) (M1 := M) (ob := []) (pc' := 13) (by decide +kernel) rfl rfl sw_a0 ?_
      exact sf_weak [1, 2, 0] rfl (t_Fits_markParts_13 hd _ ih _ _ _ _ _ hf)
def f_Fits_markParts (N : Nat) (a0 : Nat) (M : sw_M) : Option (sw_M) :=
  f_Fits_markParts_2 N N a0 (1 : Int32) M
set_option maxRecDepth 10000 in
theorem t_Fits_markParts {g : sw_G} {d n0 : Nat} (hd : 1 ≤ d) {r : sw_M} {N : Nat} {a0 : Nat} {M : sw_M} (hf : f_Fits_markParts N a0 M = some r) : sw_F g k_Fits_markParts d n0 none r 0 [(0, .ref a0)] [] M := by
  unfold f_Fits_markParts at hf
  refine sf_blk [(.iconst (1), 0, 0, .int (1 : Int32)), (.istore_n 1, 0, 0, .null)] (lv' := [(1, .int (1 : Int32)), (0, .ref a0)]) (st' := []) (M1 := M) (ob := []) (pc' := 2) (by decide +kernel) rfl rfl sw_a0 ?_
  exact sf_weak [1, 0] rfl (t_Fits_markParts_2 hd _ _ _ _ hf)
theorem o_Fits_markParts (g : sw_G) {d : Nat} (hd : 1 ≤ d) {N : Nat} {a0 : Nat} {M : sw_M} {r : sw_M} (hf : f_Fits_markParts N a0 M = some r) : sw_Ok g k_Fits_markParts d [.ref a0] M none r := sf_met (by decide +kernel) rfl (by decide) (Nat.le_of_ble_eq_true rfl) (t_Fits_markParts hd hf)
def f_Fits_knownBits_27 (N : Nat) (k4 : Nat → Int32 → Int32 → sw_M → Option (Int32 × sw_M)) (a0 : Nat) (a1 : Int32) (a2 : Int32) (M : sw_M) : Option (Int32 × sw_M) :=
  k4 a0 a1 (a2 + (1 : Int32)) M
set_option maxRecDepth 10000 in
theorem t_Fits_knownBits_27 {g : sw_G} {d n0 : Nat} (hd : 2 ≤ d) {r : Int32 × sw_M} (k4 : Nat → Int32 → Int32 → sw_M → Option (Int32 × sw_M)) (hk4 : ∀ (a0 : Nat) (a1 : Int32) (a2 : Int32) (M : sw_M), k4 a0 a1 a2 M = some r → sw_F g k_Fits_knownBits d n0 (some (.int r.1)) r.2 4 [(0, .ref a0), (1, .int a1), (2, .int a2)] [] M) {N : Nat} {a0 : Nat} {a1 : Int32} {a2 : Int32} {M : sw_M} (hf : f_Fits_knownBits_27 N k4 a0 a1 a2 M = some r) : sw_F g k_Fits_knownBits d n0 (some (.int r.1)) r.2 27 [(0, .ref a0), (1, .int a1), (2, .int a2)] [] M := by
  unfold f_Fits_knownBits_27 at hf
  refine sf_blk [(.iinc 2 (1), 0, 0, .int (1 : Int32))] (lv' := [(2, .int (a2 + (1 : Int32))), (0, .ref a0), (1, .int a1)]) (st' := []) (M1 := M) (ob := []) (pc' := 30) (by decide +kernel) rfl rfl sw_a0 ?_
  refine sf_goto (off := -26) (tgt := 4) (by decide +kernel) (by decide) ?_
  exact sf_weak [1, 2, 0] rfl (hk4 _ _ _ _ hf)
def f_Fits_knownBits_4 (N : Nat) : Nat → Nat → Int32 → Int32 → sw_M → Option (Int32 × sw_M)
  | 0, _, _, _, _ => none
  | j + 1, a0, a1, a2, M =>
  if (10 : Int32) ≤ a2 then some (a1, M)
  else sw_gd [sw_ok M a0 1] (sw_gd [sw_ok M (rd_R M a0 1) 3] ((f_Notes_isSight N (rd_R M a0 1) a2 M).bind (fun u3 => if u3.1 = 0 then f_Fits_knownBits_27 N (f_Fits_knownBits_4 N j) a0 a1 a2 u3.2
  else f_Fits_knownBits_27 N (f_Fits_knownBits_4 N j) a0 (a1 ||| ((1 : Int32) <<< (a2 &&& 31))) a2 u3.2)))
set_option maxRecDepth 10000 in
theorem t_Fits_knownBits_4 {g : sw_G} {d n0 : Nat} (hd : 2 ≤ d) {r : Int32 × sw_M} {N : Nat} : ∀ (j : Nat) (a0 : Nat) (a1 : Int32) (a2 : Int32) (M : sw_M), f_Fits_knownBits_4 N j a0 a1 a2 M = some r → sw_F g k_Fits_knownBits d n0 (some (.int r.1)) r.2 4 [(0, .ref a0), (1, .int a1), (2, .int a2)] [] M := by
  intro j
  induction j with
  | zero =>
    intro a0 a1 a2 M hf
    rw [f_Fits_knownBits_4] at hf
    cases hf
  | succ j ih =>
    intro a0 a1 a2 M hf
    rw [f_Fits_knownBits_4] at hf
    refine sf_blk [(.iload_n 2, 0, 0, .null), (.bipush (10), 0, 0, .int (10 : Int32))] (lv' := [(0, .ref a0), (1, .int a1), (2, .int a2)]) (st' := [.int (10 : Int32), .int a2]) (M1 := M) (ob := []) (pc' := 7) (by decide +kernel) rfl rfl sw_a0 ?_
    refine sf_j_ge (off := 26) (tgt := 33) (by decide +kernel) (by decide) hf (fun hc hf => ?_) (fun hc hf => ?_)
    · refine sf_blk [(.iload_n 1, 0, 0, .null)] (lv' := [(0, .ref a0), (1, .int a1), (2, .int a2)]) (st' := [.int a1]) (M1 := M) (ob := []) (pc' := 34) (by decide +kernel) rfl rfl sw_a0 ?_
      cases hf
      exact sf_int rfl (by decide +kernel)
    · obtain ⟨h1, hf⟩ := sw_gd_1 hf
      obtain ⟨h2, hf⟩ := sw_gd_1 hf
      refine sf_blk [(.aload_n 0, 0, 0, .null), (.getfield 38, 1, 1, .null), (.iload_n 2, 0, 0, .null)] (lv' := [(0, .ref a0), (1, .int a1), (2, .int a2)]) (st' := [.int a2, .ref (rd_R M a0 1)]) (M1 := M) (ob := [sw_ok M a0 1]) (pc' := 15) (by decide +kernel) rfl rfl (sw_a1 h1 sw_a0) ?_
      obtain ⟨u3, hu3, hf⟩ := sw_bnd hf
      refine sf_callV (i := 95) (k2 := k_Notes_isSight) (d2 := d - 1) (As := [.int a2]) (st := []) (q := (rd_R M a0 1)) (ci := 3) mf_Notes_isSight mi_Notes_isSight ms_Notes_isSight (sw_m5 49 (by decide +kernel)) rfl (by decide) (by decide +kernel) rfl (Nat.le_of_ble_eq_true rfl) (by omega) h2 (o_Notes_isSight g (d := d - 1) (by omega) hu3) ?_
      show sw_F _ _ _ _ _ _ 18 [(0, .ref a0), (1, .int a1), (2, .int a2)] [.int u3.1] u3.2
      refine sf_z_eq (off := 9) (tgt := 27) (by decide +kernel) (by decide) hf (fun hc hf => ?_) (fun hc hf => ?_)
      · exact sf_weak [0, 1, 2] rfl (t_Fits_knownBits_27 hd _ ih hf)
      · refine sf_blk [(.iload_n 1, 0, 0, .null), (.iconst (1), 0, 0, .int (1 : Int32)), (.iload_n 2, 0, 0, .null), (.ishl, 0, 0, .null), (.ior, 0, 0, .null), (.istore_n 1, 0, 0, .null)] (lv' := [(1, .int (a1 ||| ((1 : Int32) <<< (a2 &&& 31)))), (0, .ref a0), (2, .int a2)]) (st' := []) (M1 := u3.2) (ob := []) (pc' := 27) (by decide +kernel) rfl rfl sw_a0 ?_
        exact sf_weak [1, 0, 2] rfl (t_Fits_knownBits_27 hd _ ih hf)
def f_Fits_knownBits (N : Nat) (a0 : Nat) (M : sw_M) : Option (Int32 × sw_M) :=
  f_Fits_knownBits_4 N N a0 (0 : Int32) (0 : Int32) M
set_option maxRecDepth 10000 in
theorem t_Fits_knownBits {g : sw_G} {d n0 : Nat} (hd : 2 ≤ d) {r : Int32 × sw_M} {N : Nat} {a0 : Nat} {M : sw_M} (hf : f_Fits_knownBits N a0 M = some r) : sw_F g k_Fits_knownBits d n0 (some (.int r.1)) r.2 0 [(0, .ref a0)] [] M := by
  unfold f_Fits_knownBits at hf
  refine sf_blk [(.iconst (0), 0, 0, .int (0 : Int32)), (.istore_n 1, 0, 0, .null), (.iconst (0), 0, 0, .int (0 : Int32)), (.istore_n 2, 0, 0, .null)] (lv' := [(2, .int (0 : Int32)), (1, .int (0 : Int32)), (0, .ref a0)]) (st' := []) (M1 := M) (ob := []) (pc' := 4) (by decide +kernel) rfl rfl sw_a0 ?_
  exact sf_weak [2, 1, 0] rfl (t_Fits_knownBits_4 hd _ _ _ _ _ hf)
theorem o_Fits_knownBits (g : sw_G) {d : Nat} (hd : 2 ≤ d) {N : Nat} {a0 : Nat} {M : sw_M} {r : Int32 × sw_M} (hf : f_Fits_knownBits N a0 M = some r) : sw_Ok g k_Fits_knownBits d [.ref a0] M (some (.int r.1)) r.2 := sf_met (by decide +kernel) rfl (by decide) (Nat.le_of_ble_eq_true rfl) (t_Fits_knownBits hd hf)
def f_Fits_fewestApart_142 (N : Nat) (k82 : Nat → Int32 → Int32 → Int32 → sw_M → Option (Int32 × sw_M)) (a0 : Nat) (a2 : Int32) (a3 : Int32) (a4 : Int32) (M : sw_M) : Option (Int32 × sw_M) :=
  k82 a0 a2 a3 (a4 + (1 : Int32)) M
set_option maxRecDepth 10000 in
theorem t_Fits_fewestApart_142 {g : sw_G} {d n0 : Nat} (hd : 4 ≤ d) {r : Int32 × sw_M} (k82 : Nat → Int32 → Int32 → Int32 → sw_M → Option (Int32 × sw_M)) (hk82 : ∀ (a0 : Nat) (a2 : Int32) (a3 : Int32) (a4 : Int32) (M : sw_M), k82 a0 a2 a3 a4 M = some r → sw_F g k_Fits_fewestApart d n0 (some (.int r.1)) r.2 82 [(0, .ref a0), (2, .int a2), (3, .int a3), (4, .int a4)] [] M) {N : Nat} {a0 : Nat} {a2 : Int32} {a3 : Int32} {a4 : Int32} {M : sw_M} (hf : f_Fits_fewestApart_142 N k82 a0 a2 a3 a4 M = some r) : sw_F g k_Fits_fewestApart d n0 (some (.int r.1)) r.2 142 [(0, .ref a0), (2, .int a2), (3, .int a3), (4, .int a4)] [] M := by
  unfold f_Fits_fewestApart_142 at hf
  refine sf_blk [(.iinc 4 (1), 0, 0, .int (1 : Int32))] (lv' := [(4, .int (a4 + (1 : Int32))), (0, .ref a0), (2, .int a2), (3, .int a3)]) (st' := []) (M1 := M) (ob := []) (pc' := 145) (by decide +kernel) rfl rfl sw_a0 ?_
  refine sf_goto (off := -63) (tgt := 82) (by decide +kernel) (by decide) ?_
  exact sf_weak [1, 2, 3, 0] rfl (hk82 _ _ _ _ _ hf)
def f_Fits_fewestApart_139 (N : Nat) (k82 : Nat → Int32 → Int32 → Int32 → sw_M → Option (Int32 × sw_M)) (a0 : Nat) (a3 : Int32) (a4 : Int32) (M : sw_M) : Option (Int32 × sw_M) :=
  f_Fits_fewestApart_142 N k82 a0 a4 a3 a4 M
set_option maxRecDepth 10000 in
theorem t_Fits_fewestApart_139 {g : sw_G} {d n0 : Nat} (hd : 4 ≤ d) {r : Int32 × sw_M} (k82 : Nat → Int32 → Int32 → Int32 → sw_M → Option (Int32 × sw_M)) (hk82 : ∀ (a0 : Nat) (a2 : Int32) (a3 : Int32) (a4 : Int32) (M : sw_M), k82 a0 a2 a3 a4 M = some r → sw_F g k_Fits_fewestApart d n0 (some (.int r.1)) r.2 82 [(0, .ref a0), (2, .int a2), (3, .int a3), (4, .int a4)] [] M) {N : Nat} {a0 : Nat} {a3 : Int32} {a4 : Int32} {M : sw_M} (hf : f_Fits_fewestApart_139 N k82 a0 a3 a4 M = some r) : sw_F g k_Fits_fewestApart d n0 (some (.int r.1)) r.2 139 [(0, .ref a0), (3, .int a3), (4, .int a4)] [] M := by
  unfold f_Fits_fewestApart_139 at hf
  refine sf_blk [(.iload 4, 0, 0, .null), (.istore_n 2, 0, 0, .null)] (lv' := [(2, .int a4), (0, .ref a0), (3, .int a3), (4, .int a4)]) (st' := []) (M1 := M) (ob := []) (pc' := 142) (by decide +kernel) rfl rfl sw_a0 ?_
  exact sf_weak [1, 0, 2, 3] rfl (t_Fits_fewestApart_142 hd _ hk82 hf)
def f_Fits_fewestApart_116 (N : Nat) (k82 : Nat → Int32 → Int32 → Int32 → sw_M → Option (Int32 × sw_M)) (a0 : Nat) (a2 : Int32) (a3 : Int32) (a4 : Int32) (b0 : Int32) (M : sw_M) : Option (Int32 × sw_M) :=
  if b0 = 0 then f_Fits_fewestApart_142 N k82 a0 a2 a3 a4 M
  else if a2 = 0 then f_Fits_fewestApart_139 N k82 a0 a3 a4 M
  else (f_Int_bitCount N a4 M).bind (fun u1 => (f_Int_bitCount N a2 u1.2).bind (fun u2 => if u2.1 ≤ u1.1 then f_Fits_fewestApart_142 N k82 a0 a2 a3 a4 u2.2
  else f_Fits_fewestApart_139 N k82 a0 a3 a4 u2.2))
set_option maxRecDepth 10000 in
theorem t_Fits_fewestApart_116 {g : sw_G} {d n0 : Nat} (hd : 4 ≤ d) {r : Int32 × sw_M} (k82 : Nat → Int32 → Int32 → Int32 → sw_M → Option (Int32 × sw_M)) (hk82 : ∀ (a0 : Nat) (a2 : Int32) (a3 : Int32) (a4 : Int32) (M : sw_M), k82 a0 a2 a3 a4 M = some r → sw_F g k_Fits_fewestApart d n0 (some (.int r.1)) r.2 82 [(0, .ref a0), (2, .int a2), (3, .int a3), (4, .int a4)] [] M) {N : Nat} {a0 : Nat} {a2 : Int32} {a3 : Int32} {a4 : Int32} {b0 : Int32} {M : sw_M} (hf : f_Fits_fewestApart_116 N k82 a0 a2 a3 a4 b0 M = some r) : sw_F g k_Fits_fewestApart d n0 (some (.int r.1)) r.2 116 [(0, .ref a0), (2, .int a2), (3, .int a3), (4, .int a4)] [.int b0] M := by
  unfold f_Fits_fewestApart_116 at hf
  refine sf_blk [(.istore 5, 0, 0, .null), (.iload 5, 0, 0, .null)] (lv' := [(5, .int b0), (0, .ref a0), (2, .int a2), (3, .int a3), (4, .int a4)]) (st' := [.int b0]) (M1 := M) (ob := []) (pc' := 120) (by decide +kernel) rfl rfl sw_a0 ?_
  refine sf_z_eq (off := 22) (tgt := 142) (by decide +kernel) (by decide) hf (fun hc hf => ?_) (fun hc hf => ?_)
  · exact sf_weak [1, 2, 3, 4] rfl (t_Fits_fewestApart_142 hd _ hk82 hf)
  · refine sf_blk [(.iload_n 2, 0, 0, .null)] (lv' := [(5, .int b0), (0, .ref a0), (2, .int a2), (3, .int a3), (4, .int a4)]) (st' := [.int a2]) (M1 := M) (ob := []) (pc' := 124) (by decide +kernel) rfl rfl sw_a0 ?_
    refine sf_z_eq (off := 15) (tgt := 139) (by decide +kernel) (by decide) hf (fun hc hf => ?_) (fun hc hf => ?_)
    · exact sf_weak [1, 3, 4] rfl (t_Fits_fewestApart_139 hd _ hk82 hf)
    · refine sf_blk [(.iload 4, 0, 0, .null)] (lv' := [(5, .int b0), (0, .ref a0), (2, .int a2), (3, .int a3), (4, .int a4)]) (st' := [.int a4]) (M1 := M) (ob := []) (pc' := 129) (by decide +kernel) rfl rfl sw_a0 ?_
      obtain ⟨u1, hu1, hf⟩ := sw_bnd hf
      refine sf_callS (i := 133) (k2 := k_Int_bitCount) (d2 := d - 1) (As := [.int a4]) (st := []) mf_Int_bitCount mi_Int_bitCount (sw_m5 114 (by decide +kernel)) (by decide +kernel) rfl (Nat.le_of_ble_eq_true rfl) (by omega) (o_Int_bitCount g (d := d - 1) (by omega) hu1) ?_
      show sw_F _ _ _ _ _ _ 132 [(5, .int b0), (0, .ref a0), (2, .int a2), (3, .int a3), (4, .int a4)] [.int u1.1] u1.2
      refine sf_blk [(.iload_n 2, 0, 0, .null)] (lv' := [(5, .int b0), (0, .ref a0), (2, .int a2), (3, .int a3), (4, .int a4)]) (st' := [.int a2, .int u1.1]) (M1 := u1.2) (ob := []) (pc' := 133) (by decide +kernel) rfl rfl sw_a0 ?_
      obtain ⟨u2, hu2, hf⟩ := sw_bnd hf
      refine sf_callS (i := 133) (k2 := k_Int_bitCount) (d2 := d - 1) (As := [.int a2]) (st := [.int u1.1]) mf_Int_bitCount mi_Int_bitCount (sw_m5 114 (by decide +kernel)) (by decide +kernel) rfl (Nat.le_of_ble_eq_true rfl) (by omega) (o_Int_bitCount g (d := d - 1) (by omega) hu2) ?_
      show sw_F _ _ _ _ _ _ 136 [(5, .int b0), (0, .ref a0), (2, .int a2), (3, .int a3), (4, .int a4)] [.int u2.1, .int u1.1] u2.2
      refine sf_j_ge (off := 6) (tgt := 142) (by decide +kernel) (by decide) hf (fun hc hf => ?_) (fun hc hf => ?_)
      · exact sf_weak [1, 2, 3, 4] rfl (t_Fits_fewestApart_142 hd _ hk82 hf)
      · exact sf_weak [1, 3, 4] rfl (t_Fits_fewestApart_139 hd _ hk82 hf)
def f_Fits_fewestApart_115 (N : Nat) (k82 : Nat → Int32 → Int32 → Int32 → sw_M → Option (Int32 × sw_M)) (a0 : Nat) (a2 : Int32) (a3 : Int32) (a4 : Int32) (M : sw_M) : Option (Int32 × sw_M) :=
  f_Fits_fewestApart_116 N k82 a0 a2 a3 a4 (0 : Int32) M
set_option maxRecDepth 10000 in
theorem t_Fits_fewestApart_115 {g : sw_G} {d n0 : Nat} (hd : 4 ≤ d) {r : Int32 × sw_M} (k82 : Nat → Int32 → Int32 → Int32 → sw_M → Option (Int32 × sw_M)) (hk82 : ∀ (a0 : Nat) (a2 : Int32) (a3 : Int32) (a4 : Int32) (M : sw_M), k82 a0 a2 a3 a4 M = some r → sw_F g k_Fits_fewestApart d n0 (some (.int r.1)) r.2 82 [(0, .ref a0), (2, .int a2), (3, .int a3), (4, .int a4)] [] M) {N : Nat} {a0 : Nat} {a2 : Int32} {a3 : Int32} {a4 : Int32} {M : sw_M} (hf : f_Fits_fewestApart_115 N k82 a0 a2 a3 a4 M = some r) : sw_F g k_Fits_fewestApart d n0 (some (.int r.1)) r.2 115 [(0, .ref a0), (2, .int a2), (3, .int a3), (4, .int a4)] [] M := by
  unfold f_Fits_fewestApart_115 at hf
  refine sf_blk [(.iconst (0), 0, 0, .int (0 : Int32))] (lv' := [(0, .ref a0), (2, .int a2), (3, .int a3), (4, .int a4)]) (st' := [.int (0 : Int32)]) (M1 := M) (ob := []) (pc' := 116) (by decide +kernel) rfl rfl sw_a0 ?_
  exact sf_weak [0, 1, 2, 3] rfl (t_Fits_fewestApart_116 hd _ hk82 hf)
def f_Fits_fewestApart_82 (N : Nat) : Nat → Nat → Int32 → Int32 → Int32 → sw_M → Option (Int32 × sw_M)
  | 0, _, _, _, _, _ => none
  | j + 1, a0, a2, a3, a4, M =>
  sw_gd [sw_ok M a0 1] (sw_gd [sw_oka M (rd_R M a0 7)] (if (nI (sw_len (rd_R M a0 7))) ≤ a4 then some (a2, M)
  else if (a4 &&& (a3 ^^^ (-1 : Int32))) = 0 then sw_gd [sw_ar M (rd_R M a0 7) 14 a4 || sw_ar M (rd_R M a0 7) 15 a4] (if (rd_I M (rd_R M a0 7) a4.toNatClampNeg) = 0 then f_Fits_fewestApart_116 N (f_Fits_fewestApart_82 N j) a0 a2 a3 a4 (1 : Int32) M
  else f_Fits_fewestApart_115 N (f_Fits_fewestApart_82 N j) a0 a2 a3 a4 M)
  else f_Fits_fewestApart_115 N (f_Fits_fewestApart_82 N j) a0 a2 a3 a4 M))
set_option maxRecDepth 10000 in
theorem t_Fits_fewestApart_82 {g : sw_G} {d n0 : Nat} (hd : 4 ≤ d) {r : Int32 × sw_M} {N : Nat} : ∀ (j : Nat) (a0 : Nat) (a2 : Int32) (a3 : Int32) (a4 : Int32) (M : sw_M), f_Fits_fewestApart_82 N j a0 a2 a3 a4 M = some r → sw_F g k_Fits_fewestApart d n0 (some (.int r.1)) r.2 82 [(0, .ref a0), (2, .int a2), (3, .int a3), (4, .int a4)] [] M := by
  intro j
  induction j with
  | zero =>
    intro a0 a2 a3 a4 M hf
    rw [f_Fits_fewestApart_82] at hf
    cases hf
  | succ j ih =>
    intro a0 a2 a3 a4 M hf
    rw [f_Fits_fewestApart_82] at hf
    obtain ⟨h1, hf⟩ := sw_gd_1 hf
    obtain ⟨h2, hf⟩ := sw_gd_1 hf
    refine sf_blk [(.iload 4, 0, 0, .null), (.aload_n 0, 0, 0, .null), (.getfield 26, 1, 7, .null), (.arraylength, 0, 0, .null)] (lv' := [(0, .ref a0), (2, .int a2), (3, .int a3), (4, .int a4)]) (st' := [.int (nI (sw_len (rd_R M a0 7))), .int a4]) (M1 := M) (ob := [sw_ok M a0 1, sw_oka M (rd_R M a0 7)]) (pc' := 89) (by decide +kernel) rfl rfl (sw_a1 h1 (sw_a1 h2 sw_a0)) ?_
    refine sf_j_ge (off := 59) (tgt := 148) (by decide +kernel) (by decide) hf (fun hc hf => ?_) (fun hc hf => ?_)
    · refine sf_blk [(.iload_n 2, 0, 0, .null)] (lv' := [(0, .ref a0), (2, .int a2), (3, .int a3), (4, .int a4)]) (st' := [.int a2]) (M1 := M) (ob := []) (pc' := 149) (by decide +kernel) rfl rfl sw_a0 ?_
      cases hf
      exact sf_int rfl (by decide +kernel)
    · refine sf_blk [(.iload 4, 0, 0, .null), (.iload_n 3, 0, 0, .null), (.iconst (-1), 0, 0, .int (-1 : Int32)), (.ixor, 0, 0, .null), (.iand, 0, 0, .null)] (lv' := [(0, .ref a0), (2, .int a2), (3, .int a3), (4, .int a4)]) (st' := [.int (a4 &&& (a3 ^^^ (-1 : Int32)))]) (M1 := M) (ob := []) (pc' := 98) (by decide +kernel) rfl rfl sw_a0 ?_
      refine sf_z_ne (off := 17) (tgt := 115) (by decide +kernel) (by decide) hf (fun hc hf => ?_) (fun hc hf => ?_)
      · exact sf_weak [0, 1, 2, 3] rfl (t_Fits_fewestApart_115 hd _ ih hf)
      · obtain ⟨h3, hf⟩ := sw_gd_1 hf
        refine sf_blk [(.aload_n 0, 0, 0, .null), (.getfield 26, 1, 7, .null), (.iload 4, 0, 0, .null), (.baload, 0, 0, .null)] (lv' := [(0, .ref a0), (2, .int a2), (3, .int a3), (4, .int a4)]) (st' := [.int (rd_I M (rd_R M a0 7) a4.toNatClampNeg)]) (M1 := M) (ob := [sw_ok M a0 1, sw_ar M (rd_R M a0 7) 14 a4 || sw_ar M (rd_R M a0 7) 15 a4]) (pc' := 108) (by decide +kernel) rfl rfl (sw_a1 h1 (sw_a1 h3 sw_a0)) ?_
        refine sf_z_ne (off := 7) (tgt := 115) (by decide +kernel) (by decide) hf (fun hc hf => ?_) (fun hc hf => ?_)
        · exact sf_weak [0, 1, 2, 3] rfl (t_Fits_fewestApart_115 hd _ ih hf)
        · refine sf_blk [(.iconst (1), 0, 0, .int (1 : Int32))] (lv' := [(0, .ref a0), (2, .int a2), (3, .int a3), (4, .int a4)]) (st' := [.int (1 : Int32)]) (M1 := M) (ob := []) (pc' := 112) (by decide +kernel) rfl rfl sw_a0 ?_
          refine sf_goto (off := 4) (tgt := 116) (by decide +kernel) (by decide) ?_
          exact sf_weak [0, 1, 2, 3] rfl (t_Fits_fewestApart_116 hd _ ih hf)
def f_Fits_fewestApart_68 (N : Nat) (a0 : Nat) (M : sw_M) : Option (Int32 × sw_M) :=
  sw_gd [sw_ok M a0 1] ((f_Fits_markParts N a0 M).bind (fun u2 => sw_gd [sw_ok u2 a0 1] ((f_Fits_knownBits N a0 u2).bind (fun u4 => f_Fits_fewestApart_82 N N a0 (0 : Int32) u4.1 (1 : Int32) u4.2))))
set_option maxRecDepth 10000 in
theorem t_Fits_fewestApart_68 {g : sw_G} {d n0 : Nat} (hd : 4 ≤ d) {r : Int32 × sw_M} {N : Nat} {a0 : Nat} {M : sw_M} (hf : f_Fits_fewestApart_68 N a0 M = some r) : sw_F g k_Fits_fewestApart d n0 (some (.int r.1)) r.2 68 [(0, .ref a0)] [] M := by
  unfold f_Fits_fewestApart_68 at hf
  obtain ⟨h1, hf⟩ := sw_gd_1 hf
  refine sf_blk [(.aload_n 0, 0, 0, .null)] (lv' := [(0, .ref a0)]) (st' := [.ref a0]) (M1 := M) (ob := []) (pc' := 69) (by decide +kernel) rfl rfl sw_a0 ?_
  obtain ⟨u2, hu2, hf⟩ := sw_bnd hf
  refine sf_callV (i := 127) (k2 := k_Fits_markParts) (d2 := d - 1) (As := []) (st := []) (q := a0) (ci := 1) mf_Fits_markParts mi_Fits_markParts ms_Fits_markParts (sw_m5 106 (by decide +kernel)) rfl (by decide) (by decide +kernel) rfl (Nat.le_of_ble_eq_true rfl) (by omega) h1 (o_Fits_markParts g (d := d - 1) (by omega) hu2) ?_
  show sw_F _ _ _ _ _ _ 72 [(0, .ref a0)] [] u2
  obtain ⟨h3, hf⟩ := sw_gd_1 hf
  refine sf_blk [(.iconst (0), 0, 0, .int (0 : Int32)), (.istore_n 2, 0, 0, .null), (.aload_n 0, 0, 0, .null)] (lv' := [(2, .int (0 : Int32)), (0, .ref a0)]) (st' := [.ref a0]) (M1 := u2) (ob := []) (pc' := 75) (by decide +kernel) rfl rfl sw_a0 ?_
  obtain ⟨u4, hu4, hf⟩ := sw_bnd hf
  refine sf_callV (i := 130) (k2 := k_Fits_knownBits) (d2 := d - 1) (As := []) (st := []) (q := a0) (ci := 1) mf_Fits_knownBits mi_Fits_knownBits ms_Fits_knownBits (sw_m5 110 (by decide +kernel)) rfl (by decide) (by decide +kernel) rfl (Nat.le_of_ble_eq_true rfl) (by omega) h3 (o_Fits_knownBits g (d := d - 1) (by omega) hu4) ?_
  show sw_F _ _ _ _ _ _ 78 [(2, .int (0 : Int32)), (0, .ref a0)] [.int u4.1] u4.2
  refine sf_blk [(.istore_n 3, 0, 0, .null), (.iconst (1), 0, 0, .int (1 : Int32)), (.istore 4, 0, 0, .null)] (lv' := [(4, .int (1 : Int32)), (3, .int u4.1), (2, .int (0 : Int32)), (0, .ref a0)]) (st' := []) (M1 := u4.2) (ob := []) (pc' := 82) (by decide +kernel) rfl rfl sw_a0 ?_
  exact sf_weak [3, 2, 1, 0] rfl (t_Fits_fewestApart_82 hd _ _ _ _ _ _ hf)
def f_Fits_fewestApart_37 (N : Nat) : Nat → Nat → Int32 → Int32 → sw_M → Option (Int32 × sw_M)
  | 0, _, _, _, _ => none
  | j + 1, a0, a1, a2, M =>
  if (1000000 : Int32) ≤ a2 then f_Fits_fewestApart_68 N a0 M
  else if a1 = 0 then f_Fits_fewestApart_68 N a0 M
  else sw_gd [sw_ok M a0 1] ((f_Fits_holding N a0 M).bind (fun u2 => sw_gd [(sw_ar u2.2 (rd_R M a0 7) 14 u2.1 && decide ((1 : Int32).toInt8.toInt32 = (1 : Int32))) || (sw_ar u2.2 (rd_R M a0 7) 15 u2.1 && sw_bz (1 : Int32))] (sw_gd [sw_ok (wr_I u2.2 (rd_R M a0 7) u2.1.toNatClampNeg (1 : Int32)) a0 1] ((f_Fits_shift N a0 (wr_I u2.2 (rd_R M a0 7) u2.1.toNatClampNeg (1 : Int32))).bind (fun u5 => f_Fits_fewestApart_37 N j a0 u5.1 (a2 + (1 : Int32)) u5.2)))))
set_option maxRecDepth 10000 in
theorem t_Fits_fewestApart_37 {g : sw_G} {d n0 : Nat} (hd : 4 ≤ d) {r : Int32 × sw_M} {N : Nat} : ∀ (j : Nat) (a0 : Nat) (a1 : Int32) (a2 : Int32) (M : sw_M), f_Fits_fewestApart_37 N j a0 a1 a2 M = some r → sw_F g k_Fits_fewestApart d n0 (some (.int r.1)) r.2 37 [(0, .ref a0), (1, .int a1), (2, .int a2)] [] M := by
  intro j
  induction j with
  | zero =>
    intro a0 a1 a2 M hf
    rw [f_Fits_fewestApart_37] at hf
    cases hf
  | succ j ih =>
    intro a0 a1 a2 M hf
    rw [f_Fits_fewestApart_37] at hf
    refine sf_blk [(.iload_n 2, 0, 0, .null), (.ldc 52, 0, 0, .int (1000000 : Int32))] (lv' := [(0, .ref a0), (1, .int a1), (2, .int a2)]) (st' := [.int (1000000 : Int32), .int a2]) (M1 := M) (ob := []) (pc' := 40) (by decide +kernel) rfl rfl sw_a0 ?_
    refine sf_j_ge (off := 28) (tgt := 68) (by decide +kernel) (by decide) hf (fun hc hf => ?_) (fun hc hf => ?_)
    · exact sf_weak [0] rfl (t_Fits_fewestApart_68 hd hf)
    · refine sf_blk [(.iload_n 1, 0, 0, .null)] (lv' := [(0, .ref a0), (1, .int a1), (2, .int a2)]) (st' := [.int a1]) (M1 := M) (ob := []) (pc' := 44) (by decide +kernel) rfl rfl sw_a0 ?_
      refine sf_z_eq (off := 24) (tgt := 68) (by decide +kernel) (by decide) hf (fun hc hf => ?_) (fun hc hf => ?_)
      · exact sf_weak [0] rfl (t_Fits_fewestApart_68 hd hf)
      · obtain ⟨h1, hf⟩ := sw_gd_1 hf
        refine sf_blk [(.aload_n 0, 0, 0, .null), (.getfield 26, 1, 7, .null), (.aload_n 0, 0, 0, .null)] (lv' := [(0, .ref a0), (1, .int a1), (2, .int a2)]) (st' := [.ref a0, .ref (rd_R M a0 7)]) (M1 := M) (ob := [sw_ok M a0 1]) (pc' := 52) (by decide +kernel) rfl rfl (sw_a1 h1 sw_a0) ?_
        obtain ⟨u2, hu2, hf⟩ := sw_bnd hf
        refine sf_callV (i := 123) (k2 := k_Fits_holding) (d2 := d - 1) (As := []) (st := [.ref (rd_R M a0 7)]) (q := a0) (ci := 1) mf_Fits_holding mi_Fits_holding ms_Fits_holding (sw_m5 102 (by decide +kernel)) rfl (by decide) (by decide +kernel) rfl (Nat.le_of_ble_eq_true rfl) (by omega) h1 (o_Fits_holding g (d := d - 1) (by omega) hu2) ?_
        show sw_F _ _ _ _ _ _ 55 [(0, .ref a0), (1, .int a1), (2, .int a2)] [.int u2.1, .ref (rd_R M a0 7)] u2.2
        obtain ⟨h3, hf⟩ := sw_gd_1 hf
        obtain ⟨h4, hf⟩ := sw_gd_1 hf
        refine sf_blk [(.iconst (1), 0, 0, .int (1 : Int32)), (.bastore, 0, 0, .null), (.aload_n 0, 0, 0, .null)] (lv' := [(0, .ref a0), (1, .int a1), (2, .int a2)]) (st' := [.ref a0]) (M1 := (wr_I u2.2 (rd_R M a0 7) u2.1.toNatClampNeg (1 : Int32))) (ob := [(sw_ar u2.2 (rd_R M a0 7) 14 u2.1 && decide ((1 : Int32).toInt8.toInt32 = (1 : Int32))) || (sw_ar u2.2 (rd_R M a0 7) 15 u2.1 && sw_bz (1 : Int32))]) (pc' := 58) (by decide +kernel) rfl rfl (sw_a1 h3 sw_a0) ?_
        obtain ⟨u5, hu5, hf⟩ := sw_bnd hf
        refine sf_callV (i := 53) (k2 := k_Fits_shift) (d2 := d - 1) (As := []) (st := []) (q := a0) (ci := 1) mf_Fits_shift mi_Fits_shift ms_Fits_shift (sw_m5 71 (by decide +kernel)) rfl (by decide) (by decide +kernel) rfl (Nat.le_of_ble_eq_true rfl) (by omega) h4 (o_Fits_shift g (d := d - 1) (by omega) hu5) ?_
        show sw_F _ _ _ _ _ _ 61 [(0, .ref a0), (1, .int a1), (2, .int a2)] [.int u5.1] u5.2
        refine sf_blk [(.istore_n 1, 0, 0, .null), (.iinc 2 (1), 0, 0, .int (1 : Int32))] (lv' := [(2, .int (a2 + (1 : Int32))), (1, .int u5.1), (0, .ref a0)]) (st' := []) (M1 := u5.2) (ob := []) (pc' := 65) (by decide +kernel) rfl rfl sw_a0 ?_
        refine sf_goto (off := -28) (tgt := 37) (by decide +kernel) (by decide) ?_
        exact sf_weak [2, 1, 0] rfl (ih _ _ _ _ hf)
def f_Fits_fewestApart_2 (N : Nat) : Nat → Nat → Int32 → sw_M → Option (Int32 × sw_M)
  | 0, _, _, _ => none
  | j + 1, a0, a1, M =>
  sw_gd [sw_ok M a0 1] (sw_gd [sw_oka M (rd_R M a0 7)] (if (nI (sw_len (rd_R M a0 7))) ≤ a1 then (f_Fits_begin N a0 M).bind (fun u3 => if u3.1 = 0 then some ((0 : Int32), u3.2)
  else f_Fits_fewestApart_37 N N a0 u3.1 (0 : Int32) u3.2)
  else sw_gd [(sw_ar M (rd_R M a0 7) 14 a1 && decide ((0 : Int32).toInt8.toInt32 = (0 : Int32))) || (sw_ar M (rd_R M a0 7) 15 a1 && sw_bz (0 : Int32))] (f_Fits_fewestApart_2 N j a0 (a1 + (1 : Int32)) (wr_I M (rd_R M a0 7) a1.toNatClampNeg (0 : Int32)))))
set_option maxRecDepth 10000 in
theorem t_Fits_fewestApart_2 {g : sw_G} {d n0 : Nat} (hd : 4 ≤ d) {r : Int32 × sw_M} {N : Nat} : ∀ (j : Nat) (a0 : Nat) (a1 : Int32) (M : sw_M), f_Fits_fewestApart_2 N j a0 a1 M = some r → sw_F g k_Fits_fewestApart d n0 (some (.int r.1)) r.2 2 [(0, .ref a0), (1, .int a1)] [] M := by
  intro j
  induction j with
  | zero =>
    intro a0 a1 M hf
    rw [f_Fits_fewestApart_2] at hf
    cases hf
  | succ j ih =>
    intro a0 a1 M hf
    rw [f_Fits_fewestApart_2] at hf
    obtain ⟨h1, hf⟩ := sw_gd_1 hf
    obtain ⟨h2, hf⟩ := sw_gd_1 hf
    refine sf_blk [(.iload_n 1, 0, 0, .null), (.aload_n 0, 0, 0, .null), (.getfield 26, 1, 7, .null), (.arraylength, 0, 0, .null)] (lv' := [(0, .ref a0), (1, .int a1)]) (st' := [.int (nI (sw_len (rd_R M a0 7))), .int a1]) (M1 := M) (ob := [sw_ok M a0 1, sw_oka M (rd_R M a0 7)]) (pc' := 8) (by decide +kernel) rfl rfl (sw_a1 h1 (sw_a1 h2 sw_a0)) ?_
    refine sf_j_ge (off := 16) (tgt := 24) (by decide +kernel) (by decide) hf (fun hc hf => ?_) (fun hc hf => ?_)
    · refine sf_blk [(.aload_n 0, 0, 0, .null)] (lv' := [(0, .ref a0), (1, .int a1)]) (st' := [.ref a0]) (M1 := M) (ob := []) (pc' := 25) (by decide +kernel) rfl rfl sw_a0 ?_
      obtain ⟨u3, hu3, hf⟩ := sw_bnd hf
      refine sf_callV (i := 42) (k2 := k_Fits_begin) (d2 := d - 1) (As := []) (st := []) (q := a0) (ci := 1) mf_Fits_begin mi_Fits_begin ms_Fits_begin (sw_m5 39 (by decide +kernel)) rfl (by decide) (by decide +kernel) rfl (Nat.le_of_ble_eq_true rfl) (by omega) h1 (o_Fits_begin g (d := d - 1) (by omega) hu3) ?_
      show sw_F _ _ _ _ _ _ 28 [(0, .ref a0), (1, .int a1)] [.int u3.1] u3.2
      refine sf_blk [(.istore_n 1, 0, 0, .null), (.iload_n 1, 0, 0, .null)] (lv' := [(1, .int u3.1), (0, .ref a0)]) (st' := [.int u3.1]) (M1 := u3.2) (ob := []) (pc' := 30) (by decide +kernel) rfl rfl sw_a0 ?_
      refine sf_z_ne (off := 5) (tgt := 35) (by decide +kernel) (by decide) hf (fun hc hf => ?_) (fun hc hf => ?_)
      · refine sf_blk [(.iconst (0), 0, 0, .int (0 : Int32)), (.istore_n 2, 0, 0, .null)] (lv' := [(2, .int (0 : Int32)), (1, .int u3.1), (0, .ref a0)]) (st' := []) (M1 := u3.2) (ob := []) (pc' := 37) (by decide +kernel) rfl rfl sw_a0 ?_
        exact sf_weak [2, 1, 0] rfl (t_Fits_fewestApart_37 hd _ _ _ _ _ hf)
      · refine sf_blk [(.iconst (0), 0, 0, .int (0 : Int32))] (lv' := [(1, .int u3.1), (0, .ref a0)]) (st' := [.int (0 : Int32)]) (M1 := u3.2) (ob := []) (pc' := 34) (by decide +kernel) rfl rfl sw_a0 ?_
        cases hf
        exact sf_int rfl (by decide +kernel)
    · obtain ⟨h4, hf⟩ := sw_gd_1 hf
      refine sf_blk [(.aload_n 0, 0, 0, .null), (.getfield 26, 1, 7, .null), (.iload_n 1, 0, 0, .null), (.iconst (0), 0, 0, .int (0 : Int32)), (.bastore, 0, 0, .null), (.iinc 1 (1), 0, 0, .int (1 : Int32))] (lv' := [(1, .int (a1 + (1 : Int32))), (0, .ref a0)]) (st' := []) (M1 := (wr_I M (rd_R M a0 7) a1.toNatClampNeg (0 : Int32))) (ob := [sw_ok M a0 1, (sw_ar M (rd_R M a0 7) 14 a1 && decide ((0 : Int32).toInt8.toInt32 = (0 : Int32))) || (sw_ar M (rd_R M a0 7) 15 a1 && sw_bz (0 : Int32))]) (pc' := 21) (by decide +kernel) rfl rfl (sw_a1 h1 (sw_a1 h4 sw_a0)) ?_
      refine sf_goto (off := -19) (tgt := 2) (by decide +kernel) (by decide) ?_
      exact sf_weak [1, 0] rfl (ih _ _ _ hf)
def f_Fits_fewestApart (N : Nat) (a0 : Nat) (M : sw_M) : Option (Int32 × sw_M) :=
  f_Fits_fewestApart_2 N N a0 (0 : Int32) M
set_option maxRecDepth 10000 in
theorem t_Fits_fewestApart {g : sw_G} {d n0 : Nat} (hd : 4 ≤ d) {r : Int32 × sw_M} {N : Nat} {a0 : Nat} {M : sw_M} (hf : f_Fits_fewestApart N a0 M = some r) : sw_F g k_Fits_fewestApart d n0 (some (.int r.1)) r.2 0 [(0, .ref a0)] [] M := by
  unfold f_Fits_fewestApart at hf
  refine sf_blk [(.iconst (0), 0, 0, .int (0 : Int32)), (.istore_n 1, 0, 0, .null)] (lv' := [(1, .int (0 : Int32)), (0, .ref a0)]) (st' := []) (M1 := M) (ob := []) (pc' := 2) (by decide +kernel) rfl rfl sw_a0 ?_
  exact sf_weak [1, 0] rfl (t_Fits_fewestApart_2 hd _ _ _ _ hf)
theorem o_Fits_fewestApart (g : sw_G) {d : Nat} (hd : 4 ≤ d) {N : Nat} {a0 : Nat} {M : sw_M} {r : Int32 × sw_M} (hf : f_Fits_fewestApart N a0 M = some r) : sw_Ok g k_Fits_fewestApart d [.ref a0] M (some (.int r.1)) r.2 := sf_met (by decide +kernel) rfl (by decide) (Nat.le_of_ble_eq_true rfl) (t_Fits_fewestApart hd hf)
def f_House_quarrel (N : Nat) (a0 : Nat) (a1 : Int32) (M : sw_M) : Option (Int32 × sw_M) :=
  sw_gd [sw_ok M a0 11] (sw_gd [sw_ok M (rd_R M a0 7) 3] ((f_Notes_know N (rd_R M a0 7) a1 M).bind (fun u3 => if u3.1 = 0 then some ((-1 : Int32), u3.2)
  else sw_gd [sw_ok u3.2 a0 11] (sw_gd [sw_ok u3.2 (rd_R u3.2 a0 6) 10] ((f_Swarm_refresh N (rd_R u3.2 a0 6) u3.2).bind (fun u6 => sw_gd [sw_ok u6 a0 11] (sw_gd [sw_ok u6 (rd_R u6 a0 8) 1] ((f_Fits_fewestApart N (rd_R u6 a0 8) u6).bind (fun u9 => some (u9.1, u9.2))))))))))
set_option maxRecDepth 10000 in
theorem t_House_quarrel {g : sw_G} {d n0 : Nat} (hd : 7 ≤ d) {r : Int32 × sw_M} {N : Nat} {a0 : Nat} {a1 : Int32} {M : sw_M} (hf : f_House_quarrel N a0 a1 M = some r) : sw_F g k_House_quarrel d n0 (some (.int r.1)) r.2 0 [(0, .ref a0), (1, .int a1)] [] M := by
  unfold f_House_quarrel at hf
  obtain ⟨h1, hf⟩ := sw_gd_1 hf
  obtain ⟨h2, hf⟩ := sw_gd_1 hf
  refine sf_blk [(.aload_n 0, 0, 0, .null), (.getfield 56, 11, 7, .null), (.iload_n 1, 0, 0, .null)] (lv' := [(0, .ref a0), (1, .int a1)]) (st' := [.int a1, .ref (rd_R M a0 7)]) (M1 := M) (ob := [sw_ok M a0 11]) (pc' := 5) (by decide +kernel) rfl rfl (sw_a1 h1 sw_a0) ?_
  obtain ⟨u3, hu3, hf⟩ := sw_bnd hf
  refine sf_callV (i := 263) (k2 := k_Notes_know) (d2 := d - 1) (As := [.int a1]) (st := []) (q := (rd_R M a0 7)) (ci := 3) mf_Notes_know mi_Notes_know ms_Notes_know (sw_m5 29 (by decide +kernel)) rfl (by decide) (by decide +kernel) rfl (Nat.le_of_ble_eq_true rfl) (by omega) h2 (o_Notes_know g (d := d - 1) (by omega) hu3) ?_
  show sw_F _ _ _ _ _ _ 8 [(0, .ref a0), (1, .int a1)] [.int u3.1] u3.2
  refine sf_z_ne (off := 5) (tgt := 13) (by decide +kernel) (by decide) hf (fun hc hf => ?_) (fun hc hf => ?_)
  · obtain ⟨h4, hf⟩ := sw_gd_1 hf
    obtain ⟨h5, hf⟩ := sw_gd_1 hf
    refine sf_blk [(.aload_n 0, 0, 0, .null), (.getfield 49, 11, 6, .null)] (lv' := [(0, .ref a0), (1, .int a1)]) (st' := [.ref (rd_R u3.2 a0 6)]) (M1 := u3.2) (ob := [sw_ok u3.2 a0 11]) (pc' := 17) (by decide +kernel) rfl rfl (sw_a1 h4 sw_a0) ?_
    obtain ⟨u6, hu6, hf⟩ := sw_bnd hf
    refine sf_callV (i := 267) (k2 := k_Swarm_refresh) (d2 := d - 1) (As := []) (st := []) (q := (rd_R u3.2 a0 6)) (ci := 10) mf_Swarm_refresh mi_Swarm_refresh ms_Swarm_refresh (sw_m5 34 (by decide +kernel)) rfl (by decide) (by decide +kernel) rfl (Nat.le_of_ble_eq_true rfl) (by omega) h5 (o_Swarm_refresh g (d := d - 1) (by omega) hu6) ?_
    show sw_F _ _ _ _ _ _ 20 [(0, .ref a0), (1, .int a1)] [] u6
    obtain ⟨h7, hf⟩ := sw_gd_1 hf
    obtain ⟨h8, hf⟩ := sw_gd_1 hf
    refine sf_blk [(.aload_n 0, 0, 0, .null), (.getfield 65, 11, 8, .null)] (lv' := [(0, .ref a0), (1, .int a1)]) (st' := [.ref (rd_R u6 a0 8)]) (M1 := u6) (ob := [sw_ok u6 a0 11]) (pc' := 24) (by decide +kernel) rfl rfl (sw_a1 h7 sw_a0) ?_
    obtain ⟨u9, hu9, hf⟩ := sw_bnd hf
    refine sf_callV (i := 284) (k2 := k_Fits_fewestApart) (d2 := d - 1) (As := []) (st := []) (q := (rd_R u6 a0 8)) (ci := 1) mf_Fits_fewestApart mi_Fits_fewestApart ms_Fits_fewestApart (sw_m5 98 (by decide +kernel)) rfl (by decide) (by decide +kernel) rfl (Nat.le_of_ble_eq_true rfl) (by omega) h8 (o_Fits_fewestApart g (d := d - 1) (by omega) hu9) ?_
    show sw_F _ _ _ _ _ _ 27 [(0, .ref a0), (1, .int a1)] [.int u9.1] u9.2
    cases hf
    exact sf_int rfl (by decide +kernel)
  · refine sf_blk [(.iconst (-1), 0, 0, .int (-1 : Int32))] (lv' := [(0, .ref a0), (1, .int a1)]) (st' := [.int (-1 : Int32)]) (M1 := u3.2) (ob := []) (pc' := 12) (by decide +kernel) rfl rfl sw_a0 ?_
    cases hf
    exact sf_int rfl (by decide +kernel)
theorem o_House_quarrel (g : sw_G) {d : Nat} (hd : 7 ≤ d) {N : Nat} {a0 : Nat} {a1 : Int32} {M : sw_M} {r : Int32 × sw_M} (hf : f_House_quarrel N a0 a1 M = some r) : sw_Ok g k_House_quarrel d [.ref a0, .int a1] M (some (.int r.1)) r.2 := sf_met (by decide +kernel) rfl (by decide) (Nat.le_of_ble_eq_true rfl) (t_House_quarrel hd hf)
def f_Field_massesBy (N : Nat) (a0 : Nat) (a1 : Int32) (M : sw_M) : Option (Int32 × sw_M) :=
  if (1 : Int32) ≤ a1 then sw_gd [sw_ok M a0 0] (sw_gd [decide (¬ a1 = 0)] (some ((m_minI (8 : Int32) ((((rd_I M a0 4) - (rd_I M a0 3)) / a1) + (1 : Int32))), M)))
  else some ((0 : Int32), M)
set_option maxRecDepth 10000 in
theorem t_Field_massesBy {g : sw_G} {d n0 : Nat} (hd : 2 ≤ d) {r : Int32 × sw_M} {N : Nat} {a0 : Nat} {a1 : Int32} {M : sw_M} (hf : f_Field_massesBy N a0 a1 M = some r) : sw_F g k_Field_massesBy d n0 (some (.int r.1)) r.2 0 [(0, .ref a0), (1, .int a1)] [] M := by
  unfold f_Field_massesBy at hf
  refine sf_blk [(.iload_n 1, 0, 0, .null), (.iconst (1), 0, 0, .int (1 : Int32))] (lv' := [(0, .ref a0), (1, .int a1)]) (st' := [.int (1 : Int32), .int a1]) (M1 := M) (ob := []) (pc' := 2) (by decide +kernel) rfl rfl sw_a0 ?_
  refine sf_j_ge (off := 7) (tgt := 9) (by decide +kernel) (by decide) hf (fun hc hf => ?_) (fun hc hf => ?_)
  · obtain ⟨h1, hf⟩ := sw_gd_1 hf
    obtain ⟨h2, hf⟩ := sw_gd_1 hf
    refine sf_blk [(.bipush (8), 0, 0, .int (8 : Int32)), (.aload_n 0, 0, 0, .null), (.getfield 32, 0, 4, .null), (.aload_n 0, 0, 0, .null), (.getfield 29, 0, 3, .null), (.isub, 0, 0, .null), (.iload_n 1, 0, 0, .null), (.idiv, 0, 0, .null), (.iconst (1), 0, 0, .int (1 : Int32)), (.iadd, 0, 0, .null)] (lv' := [(0, .ref a0), (1, .int a1)]) (st' := [.int ((((rd_I M a0 4) - (rd_I M a0 3)) / a1) + (1 : Int32)), .int (8 : Int32)]) (M1 := M) (ob := [sw_ok M a0 0, sw_ok M a0 0, decide (¬ a1 = 0)]) (pc' := 24) (by decide +kernel) rfl rfl (sw_a1 h1 (sw_a1 h1 (sw_a1 h2 sw_a0))) ?_
    refine sf_minI (i := 61) (st := []) (sw_m5 133 (by decide +kernel)) (by decide +kernel) (by omega) (Nat.le_of_ble_eq_true rfl) ?_
    show sw_F _ _ _ _ _ _ 27 [(0, .ref a0), (1, .int a1)] [.int (m_minI (8 : Int32) ((((rd_I M a0 4) - (rd_I M a0 3)) / a1) + (1 : Int32)))] M
    cases hf
    exact sf_int rfl (by decide +kernel)
  · refine sf_blk [(.iconst (0), 0, 0, .int (0 : Int32))] (lv' := [(0, .ref a0), (1, .int a1)]) (st' := [.int (0 : Int32)]) (M1 := M) (ob := []) (pc' := 6) (by decide +kernel) rfl rfl sw_a0 ?_
    refine sf_goto (off := 21) (tgt := 27) (by decide +kernel) (by decide) ?_
    cases hf
    exact sf_int rfl (by decide +kernel)
theorem o_Field_massesBy (g : sw_G) {d : Nat} (hd : 2 ≤ d) {N : Nat} {a0 : Nat} {a1 : Int32} {M : sw_M} {r : Int32 × sw_M} (hf : f_Field_massesBy N a0 a1 M = some r) : sw_Ok g k_Field_massesBy d [.ref a0, .int a1] M (some (.int r.1)) r.2 := sf_met (by decide +kernel) rfl (by decide) (Nat.le_of_ble_eq_true rfl) (t_Field_massesBy hd hf)
def f_Models_massOf (N : Nat) (a0 : Nat) (a1 : Int32) (M : sw_M) : Option (Int32 × sw_M) :=
  sw_gd [sw_ok M a0 2] (sw_gd [sw_ok M (rd_R M a0 0) 0] (some (((rd_I M (rd_R M a0 0) 3) + (a1 * (rd_I M a0 5))), M)))
set_option maxRecDepth 10000 in
theorem t_Models_massOf {g : sw_G} {d n0 : Nat} (hd : 1 ≤ d) {r : Int32 × sw_M} {N : Nat} {a0 : Nat} {a1 : Int32} {M : sw_M} (hf : f_Models_massOf N a0 a1 M = some r) : sw_F g k_Models_massOf d n0 (some (.int r.1)) r.2 0 [(0, .ref a0), (1, .int a1)] [] M := by
  unfold f_Models_massOf at hf
  obtain ⟨h1, hf⟩ := sw_gd_1 hf
  obtain ⟨h2, hf⟩ := sw_gd_1 hf
  refine sf_blk [(.aload_n 0, 0, 0, .null), (.getfield 20, 2, 0, .null), (.getfield 82, 0, 3, .null), (.iload_n 1, 0, 0, .null), (.aload_n 0, 0, 0, .null), (.getfield 16, 2, 5, .null), (.imul, 0, 0, .null), (.iadd, 0, 0, .null)] (lv' := [(0, .ref a0), (1, .int a1)]) (st' := [.int ((rd_I M (rd_R M a0 0) 3) + (a1 * (rd_I M a0 5)))]) (M1 := M) (ob := [sw_ok M a0 2, sw_ok M (rd_R M a0 0) 0, sw_ok M a0 2]) (pc' := 14) (by decide +kernel) rfl rfl (sw_a1 h1 (sw_a1 h2 (sw_a1 h1 sw_a0))) ?_
  cases hf
  exact sf_int rfl (by decide +kernel)
theorem o_Models_massOf (g : sw_G) {d : Nat} (hd : 1 ≤ d) {N : Nat} {a0 : Nat} {a1 : Int32} {M : sw_M} {r : Int32 × sw_M} (hf : f_Models_massOf N a0 a1 M = some r) : sw_Ok g k_Models_massOf d [.ref a0, .int a1] M (some (.int r.1)) r.2 := sf_met (by decide +kernel) rfl (by decide) (Nat.le_of_ble_eq_true rfl) (t_Models_massOf hd hf)
def f_Models_tell_2 (N : Nat) : Nat → Nat → Int32 → Int32 → sw_M → Option (sw_M)
  | 0, _, _, _, _ => none
  | j + 1, a0, a1, a2, M =>
  if (64 : Int32) ≤ a2 then some M
  else sw_gd [sw_ok M a0 2] (sw_gd [sw_ar M (rd_R M a0 4) 17 a1 || (sw_ar M (rd_R M a0 4) 18 a1 || sw_ar M (rd_R M a0 4) 19 a1)] (sw_gd [sw_ok M (rd_R M a0 3) 1] ((f_Fits_lightOf N (rd_R M a0 3) a2 M).bind (fun u4 => sw_gd [sw_ar u4.2 (rd_R M (rd_R M a0 4) a1.toNatClampNeg) 13 a2] (f_Models_tell_2 N j a0 a1 (a2 + (1 : Int32)) (wr_I u4.2 (rd_R M (rd_R M a0 4) a1.toNatClampNeg) a2.toNatClampNeg u4.1))))))
set_option maxRecDepth 10000 in
theorem t_Models_tell_2 {g : sw_G} {d n0 : Nat} (hd : 3 ≤ d) {r : sw_M} {N : Nat} : ∀ (j : Nat) (a0 : Nat) (a1 : Int32) (a2 : Int32) (M : sw_M), f_Models_tell_2 N j a0 a1 a2 M = some r → sw_F g k_Models_tell d n0 none r 2 [(0, .ref a0), (1, .int a1), (2, .int a2)] [] M := by
  intro j
  induction j with
  | zero =>
    intro a0 a1 a2 M hf
    rw [f_Models_tell_2] at hf
    cases hf
  | succ j ih =>
    intro a0 a1 a2 M hf
    rw [f_Models_tell_2] at hf
    refine sf_blk [(.iload_n 2, 0, 0, .null), (.bipush (64), 0, 0, .int (64 : Int32))] (lv' := [(0, .ref a0), (1, .int a1), (2, .int a2)]) (st' := [.int (64 : Int32), .int a2]) (M1 := M) (ob := []) (pc' := 5) (by decide +kernel) rfl rfl sw_a0 ?_
    refine sf_j_ge (off := 25) (tgt := 30) (by decide +kernel) (by decide) hf (fun hc hf => ?_) (fun hc hf => ?_)
    · cases hf
      exact sf_void rfl (by decide +kernel)
    · obtain ⟨h1, hf⟩ := sw_gd_1 hf
      obtain ⟨h2, hf⟩ := sw_gd_1 hf
      obtain ⟨h3, hf⟩ := sw_gd_1 hf
      refine sf_blk [(.aload_n 0, 0, 0, .null), (.getfield 11, 2, 4, .null), (.iload_n 1, 0, 0, .null), (.aaload, 0, 0, .null), (.iload_n 2, 0, 0, .null), (.aload_n 0, 0, 0, .null), (.getfield 32, 2, 3, .null), (.iload_n 2, 0, 0, .null)] (lv' := [(0, .ref a0), (1, .int a1), (2, .int a2)]) (st' := [.int a2, .ref (rd_R M a0 3), .int a2, .ref (rd_R M (rd_R M a0 4) a1.toNatClampNeg)]) (M1 := M) (ob := [sw_ok M a0 2, sw_ar M (rd_R M a0 4) 17 a1 || (sw_ar M (rd_R M a0 4) 18 a1 || sw_ar M (rd_R M a0 4) 19 a1), sw_ok M a0 2]) (pc' := 20) (by decide +kernel) rfl rfl (sw_a1 h1 (sw_a1 h2 (sw_a1 h1 sw_a0))) ?_
      obtain ⟨u4, hu4, hf⟩ := sw_bnd hf
      refine sf_callV (i := 79) (k2 := k_Fits_lightOf) (d2 := d - 1) (As := [.int a2]) (st := [.int a2, .ref (rd_R M (rd_R M a0 4) a1.toNatClampNeg)]) (q := (rd_R M a0 3)) (ci := 1) mf_Fits_lightOf mi_Fits_lightOf ms_Fits_lightOf (sw_m5 145 (by decide +kernel)) rfl (by decide) (by decide +kernel) rfl (Nat.le_of_ble_eq_true rfl) (by omega) h3 (o_Fits_lightOf g (d := d - 1) (by omega) hu4) ?_
      show sw_F _ _ _ _ _ _ 23 [(0, .ref a0), (1, .int a1), (2, .int a2)] [.int u4.1, .int a2, .ref (rd_R M (rd_R M a0 4) a1.toNatClampNeg)] u4.2
      obtain ⟨h5, hf⟩ := sw_gd_1 hf
      refine sf_blk [(.iastore, 0, 0, .null), (.iinc 2 (1), 0, 0, .int (1 : Int32))] (lv' := [(2, .int (a2 + (1 : Int32))), (0, .ref a0), (1, .int a1)]) (st' := []) (M1 := (wr_I u4.2 (rd_R M (rd_R M a0 4) a1.toNatClampNeg) a2.toNatClampNeg u4.1)) (ob := [sw_ar u4.2 (rd_R M (rd_R M a0 4) a1.toNatClampNeg) 13 a2]) (pc' := 27) (by decide +kernel) rfl rfl (sw_a1 h5 sw_a0) ?_
      refine sf_goto (off := -25) (tgt := 2) (by decide +kernel) (by decide) ?_
      exact sf_weak [1, 2, 0] rfl (ih _ _ _ _ hf)
def f_Models_tell (N : Nat) (a0 : Nat) (a1 : Int32) (M : sw_M) : Option (sw_M) :=
  f_Models_tell_2 N N a0 a1 (0 : Int32) M
set_option maxRecDepth 10000 in
theorem t_Models_tell {g : sw_G} {d n0 : Nat} (hd : 3 ≤ d) {r : sw_M} {N : Nat} {a0 : Nat} {a1 : Int32} {M : sw_M} (hf : f_Models_tell N a0 a1 M = some r) : sw_F g k_Models_tell d n0 none r 0 [(0, .ref a0), (1, .int a1)] [] M := by
  unfold f_Models_tell at hf
  refine sf_blk [(.iconst (0), 0, 0, .int (0 : Int32)), (.istore_n 2, 0, 0, .null)] (lv' := [(2, .int (0 : Int32)), (0, .ref a0), (1, .int a1)]) (st' := []) (M1 := M) (ob := []) (pc' := 2) (by decide +kernel) rfl rfl sw_a0 ?_
  exact sf_weak [1, 2, 0] rfl (t_Models_tell_2 hd _ _ _ _ _ hf)
theorem o_Models_tell (g : sw_G) {d : Nat} (hd : 3 ≤ d) {N : Nat} {a0 : Nat} {a1 : Int32} {M : sw_M} {r : sw_M} (hf : f_Models_tell N a0 a1 M = some r) : sw_Ok g k_Models_tell d [.ref a0, .int a1] M none r := sf_met (by decide +kernel) rfl (by decide) (Nat.le_of_ble_eq_true rfl) (t_Models_tell hd hf)
def f_Models_isKept (N : Nat) (a0 : Nat) (a1 : Int32) (M : sw_M) : Option (Int32 × sw_M) :=
  sw_gd [sw_ok M a0 2] (if (((rd_I M a0 7) >>> (a1 &&& 31)) &&& (1 : Int32)) = (1 : Int32) then some ((1 : Int32), M)
  else some ((0 : Int32), M))
set_option maxRecDepth 10000 in
theorem t_Models_isKept {g : sw_G} {d n0 : Nat} (hd : 1 ≤ d) {r : Int32 × sw_M} {N : Nat} {a0 : Nat} {a1 : Int32} {M : sw_M} (hf : f_Models_isKept N a0 a1 M = some r) : sw_F g k_Models_isKept d n0 (some (.int r.1)) r.2 0 [(0, .ref a0), (1, .int a1)] [] M := by
  unfold f_Models_isKept at hf
  obtain ⟨h1, hf⟩ := sw_gd_1 hf
  refine sf_blk [(.aload_n 0, 0, 0, .null), (.getfield 45, 2, 7, .null), (.iload_n 1, 0, 0, .null), (.ishr, 0, 0, .null), (.iconst (1), 0, 0, .int (1 : Int32)), (.iand, 0, 0, .null), (.iconst (1), 0, 0, .int (1 : Int32))] (lv' := [(0, .ref a0), (1, .int a1)]) (st' := [.int (1 : Int32), .int (((rd_I M a0 7) >>> (a1 &&& 31)) &&& (1 : Int32))]) (M1 := M) (ob := [sw_ok M a0 2]) (pc' := 9) (by decide +kernel) rfl rfl (sw_a1 h1 sw_a0) ?_
  refine sf_j_ne (off := 7) (tgt := 16) (by decide +kernel) (by decide) hf (fun hc hf => ?_) (fun hc hf => ?_)
  · refine sf_blk [(.iconst (0), 0, 0, .int (0 : Int32))] (lv' := [(0, .ref a0), (1, .int a1)]) (st' := [.int (0 : Int32)]) (M1 := M) (ob := []) (pc' := 17) (by decide +kernel) rfl rfl sw_a0 ?_
    cases hf
    exact sf_bool rfl rfl (by decide +kernel)
  · refine sf_blk [(.iconst (1), 0, 0, .int (1 : Int32))] (lv' := [(0, .ref a0), (1, .int a1)]) (st' := [.int (1 : Int32)]) (M1 := M) (ob := []) (pc' := 13) (by decide +kernel) rfl rfl sw_a0 ?_
    refine sf_goto (off := 4) (tgt := 17) (by decide +kernel) (by decide) ?_
    cases hf
    exact sf_bool rfl rfl (by decide +kernel)
theorem o_Models_isKept (g : sw_G) {d : Nat} (hd : 1 ≤ d) {N : Nat} {a0 : Nat} {a1 : Int32} {M : sw_M} {r : Int32 × sw_M} (hf : f_Models_isKept N a0 a1 M = some r) : sw_Ok g k_Models_isKept d [.ref a0, .int a1] M (some (.int r.1)) r.2 := sf_met (by decide +kernel) rfl (by decide) (Nat.le_of_ble_eq_true rfl) (t_Models_isKept hd hf)
def f_Models_seenAlike_76 (N : Nat) (k2 : Nat → Int32 → Int32 → Int32 → sw_M → Option (Int32 × sw_M)) (a0 : Nat) (a1 : Int32) (a2 : Int32) (a3 : Int32) (M : sw_M) : Option (Int32 × sw_M) :=
  k2 a0 a1 a2 (a3 + (1 : Int32)) M
set_option maxRecDepth 10000 in
theorem t_Models_seenAlike_76 {g : sw_G} {d n0 : Nat} (hd : 2 ≤ d) {r : Int32 × sw_M} (k2 : Nat → Int32 → Int32 → Int32 → sw_M → Option (Int32 × sw_M)) (hk2 : ∀ (a0 : Nat) (a1 : Int32) (a2 : Int32) (a3 : Int32) (M : sw_M), k2 a0 a1 a2 a3 M = some r → sw_F g k_Models_seenAlike d n0 (some (.int r.1)) r.2 2 [(0, .ref a0), (1, .int a1), (2, .int a2), (3, .int a3)] [] M) {N : Nat} {a0 : Nat} {a1 : Int32} {a2 : Int32} {a3 : Int32} {M : sw_M} (hf : f_Models_seenAlike_76 N k2 a0 a1 a2 a3 M = some r) : sw_F g k_Models_seenAlike d n0 (some (.int r.1)) r.2 76 [(0, .ref a0), (1, .int a1), (2, .int a2), (3, .int a3)] [] M := by
  unfold f_Models_seenAlike_76 at hf
  refine sf_blk [(.iinc 3 (1), 0, 0, .int (1 : Int32))] (lv' := [(3, .int (a3 + (1 : Int32))), (0, .ref a0), (1, .int a1), (2, .int a2)]) (st' := []) (M1 := M) (ob := []) (pc' := 79) (by decide +kernel) rfl rfl sw_a0 ?_
  refine sf_goto (off := -77) (tgt := 2) (by decide +kernel) (by decide) ?_
  exact sf_weak [1, 2, 3, 0] rfl (hk2 _ _ _ _ _ hf)
def f_Models_seenAlike_2 (N : Nat) : Nat → Nat → Int32 → Int32 → Int32 → sw_M → Option (Int32 × sw_M)
  | 0, _, _, _, _, _ => none
  | j + 1, a0, a1, a2, a3, M =>
  sw_gd [sw_ok M a0 2] (sw_gd [sw_ok M (rd_R M a0 2) 3] (if (rd_I M (rd_R M a0 2) 5) ≤ a3 then some ((1 : Int32), M)
  else if (10 : Int32) ≤ a3 then some ((1 : Int32), M)
  else sw_gd [sw_ar M (rd_R M (rd_R M a0 2) 1) 13 a3] ((f_Notes_isSight N (rd_R M a0 2) a3 M).bind (fun u4 => if u4.1 = 0 then f_Models_seenAlike_76 N (f_Models_seenAlike_2 N j) a0 a1 a2 a3 u4.2
  else if (rd_I M (rd_R M (rd_R M a0 2) 1) a3.toNatClampNeg) < 0 then f_Models_seenAlike_76 N (f_Models_seenAlike_2 N j) a0 a1 a2 a3 u4.2
  else if (64 : Int32) ≤ (rd_I M (rd_R M (rd_R M a0 2) 1) a3.toNatClampNeg) then f_Models_seenAlike_76 N (f_Models_seenAlike_2 N j) a0 a1 a2 a3 u4.2
  else sw_gd [sw_ok u4.2 a0 2] (sw_gd [sw_ar u4.2 (rd_R u4.2 a0 4) 17 a1 || (sw_ar u4.2 (rd_R u4.2 a0 4) 18 a1 || sw_ar u4.2 (rd_R u4.2 a0 4) 19 a1)] (sw_gd [sw_ar u4.2 (rd_R u4.2 (rd_R u4.2 a0 4) a1.toNatClampNeg) 13 (rd_I M (rd_R M (rd_R M a0 2) 1) a3.toNatClampNeg)] (sw_gd [sw_ar u4.2 (rd_R u4.2 a0 4) 17 a2 || (sw_ar u4.2 (rd_R u4.2 a0 4) 18 a2 || sw_ar u4.2 (rd_R u4.2 a0 4) 19 a2)] (sw_gd [sw_ar u4.2 (rd_R u4.2 (rd_R u4.2 a0 4) a2.toNatClampNeg) 13 (rd_I M (rd_R M (rd_R M a0 2) 1) a3.toNatClampNeg)] (if (rd_I u4.2 (rd_R u4.2 (rd_R u4.2 a0 4) a1.toNatClampNeg) (rd_I M (rd_R M (rd_R M a0 2) 1) a3.toNatClampNeg).toNatClampNeg) = (rd_I u4.2 (rd_R u4.2 (rd_R u4.2 a0 4) a2.toNatClampNeg) (rd_I M (rd_R M (rd_R M a0 2) 1) a3.toNatClampNeg).toNatClampNeg) then f_Models_seenAlike_76 N (f_Models_seenAlike_2 N j) a0 a1 a2 a3 u4.2
  else some ((0 : Int32), u4.2))))))))))
set_option maxRecDepth 10000 in
theorem t_Models_seenAlike_2 {g : sw_G} {d n0 : Nat} (hd : 2 ≤ d) {r : Int32 × sw_M} {N : Nat} : ∀ (j : Nat) (a0 : Nat) (a1 : Int32) (a2 : Int32) (a3 : Int32) (M : sw_M), f_Models_seenAlike_2 N j a0 a1 a2 a3 M = some r → sw_F g k_Models_seenAlike d n0 (some (.int r.1)) r.2 2 [(0, .ref a0), (1, .int a1), (2, .int a2), (3, .int a3)] [] M := by
  intro j
  induction j with
  | zero =>
    intro a0 a1 a2 a3 M hf
    rw [f_Models_seenAlike_2] at hf
    cases hf
  | succ j ih =>
    intro a0 a1 a2 a3 M hf
    rw [f_Models_seenAlike_2] at hf
    obtain ⟨h1, hf⟩ := sw_gd_1 hf
    obtain ⟨h2, hf⟩ := sw_gd_1 hf
    refine sf_blk [(.iload_n 3, 0, 0, .null), (.aload_n 0, 0, 0, .null), (.getfield 28, 2, 2, .null), (.getfield 48, 3, 5, .null)] (lv' := [(0, .ref a0), (1, .int a1), (2, .int a2), (3, .int a3)]) (st' := [.int (rd_I M (rd_R M a0 2) 5), .int a3]) (M1 := M) (ob := [sw_ok M a0 2, sw_ok M (rd_R M a0 2) 3]) (pc' := 10) (by decide +kernel) rfl rfl (sw_a1 h1 (sw_a1 h2 sw_a0)) ?_
    refine sf_j_ge (off := 72) (tgt := 82) (by decide +kernel) (by decide) hf (fun hc hf => ?_) (fun hc hf => ?_)
    · refine sf_blk [(.iconst (1), 0, 0, .int (1 : Int32))] (lv' := [(0, .ref a0), (1, .int a1), (2, .int a2), (3, .int a3)]) (st' := [.int (1 : Int32)]) (M1 := M) (ob := []) (pc' := 83) (by decide +kernel) rfl rfl sw_a0 ?_
      cases hf
      exact sf_bool rfl rfl (by decide +kernel)
    · refine sf_blk [(.iload_n 3, 0, 0, .null), (.bipush (10), 0, 0, .int (10 : Int32))] (lv' := [(0, .ref a0), (1, .int a1), (2, .int a2), (3, .int a3)]) (st' := [.int (10 : Int32), .int a3]) (M1 := M) (ob := []) (pc' := 16) (by decide +kernel) rfl rfl sw_a0 ?_
      refine sf_j_ge (off := 66) (tgt := 82) (by decide +kernel) (by decide) hf (fun hc hf => ?_) (fun hc hf => ?_)
      · refine sf_blk [(.iconst (1), 0, 0, .int (1 : Int32))] (lv' := [(0, .ref a0), (1, .int a1), (2, .int a2), (3, .int a3)]) (st' := [.int (1 : Int32)]) (M1 := M) (ob := []) (pc' := 83) (by decide +kernel) rfl rfl sw_a0 ?_
        cases hf
        exact sf_bool rfl rfl (by decide +kernel)
      · obtain ⟨h3, hf⟩ := sw_gd_1 hf
        refine sf_blk [(.aload_n 0, 0, 0, .null), (.getfield 28, 2, 2, .null), (.getfield 111, 3, 1, .null), (.iload_n 3, 0, 0, .null), (.iaload, 0, 0, .null), (.istore 4, 0, 0, .null), (.aload_n 0, 0, 0, .null), (.getfield 28, 2, 2, .null), (.iload_n 3, 0, 0, .null)] (lv' := [(4, .int (rd_I M (rd_R M (rd_R M a0 2) 1) a3.toNatClampNeg)), (0, .ref a0), (1, .int a1), (2, .int a2), (3, .int a3)]) (st' := [.int a3, .ref (rd_R M a0 2)]) (M1 := M) (ob := [sw_ok M a0 2, sw_ok M (rd_R M a0 2) 3, sw_ar M (rd_R M (rd_R M a0 2) 1) 13 a3, sw_ok M a0 2]) (pc' := 35) (by decide +kernel) rfl rfl (sw_a1 h1 (sw_a1 h2 (sw_a1 h3 (sw_a1 h1 sw_a0)))) ?_
        obtain ⟨u4, hu4, hf⟩ := sw_bnd hf
        refine sf_callV (i := 115) (k2 := k_Notes_isSight) (d2 := d - 1) (As := [.int a3]) (st := []) (q := (rd_R M a0 2)) (ci := 3) mf_Notes_isSight mi_Notes_isSight ms_Notes_isSight (sw_m5 158 (by decide +kernel)) rfl (by decide) (by decide +kernel) rfl (Nat.le_of_ble_eq_true rfl) (by omega) h2 (o_Notes_isSight g (d := d - 1) (by omega) hu4) ?_
        show sw_F _ _ _ _ _ _ 38 [(4, .int (rd_I M (rd_R M (rd_R M a0 2) 1) a3.toNatClampNeg)), (0, .ref a0), (1, .int a1), (2, .int a2), (3, .int a3)] [.int u4.1] u4.2
        refine sf_z_eq (off := 38) (tgt := 76) (by decide +kernel) (by decide) hf (fun hc hf => ?_) (fun hc hf => ?_)
        · exact sf_weak [1, 2, 3, 4] rfl (t_Models_seenAlike_76 hd _ ih hf)
        · refine sf_blk [(.iload 4, 0, 0, .null)] (lv' := [(4, .int (rd_I M (rd_R M (rd_R M a0 2) 1) a3.toNatClampNeg)), (0, .ref a0), (1, .int a1), (2, .int a2), (3, .int a3)]) (st' := [.int (rd_I M (rd_R M (rd_R M a0 2) 1) a3.toNatClampNeg)]) (M1 := u4.2) (ob := []) (pc' := 43) (by decide +kernel) rfl rfl sw_a0 ?_
          refine sf_z_lt (off := 33) (tgt := 76) (by decide +kernel) (by decide) hf (fun hc hf => ?_) (fun hc hf => ?_)
          · exact sf_weak [1, 2, 3, 4] rfl (t_Models_seenAlike_76 hd _ ih hf)
          · refine sf_blk [(.iload 4, 0, 0, .null), (.bipush (64), 0, 0, .int (64 : Int32))] (lv' := [(4, .int (rd_I M (rd_R M (rd_R M a0 2) 1) a3.toNatClampNeg)), (0, .ref a0), (1, .int a1), (2, .int a2), (3, .int a3)]) (st' := [.int (64 : Int32), .int (rd_I M (rd_R M (rd_R M a0 2) 1) a3.toNatClampNeg)]) (M1 := u4.2) (ob := []) (pc' := 50) (by decide +kernel) rfl rfl sw_a0 ?_
            refine sf_j_ge (off := 26) (tgt := 76) (by decide +kernel) (by decide) hf (fun hc hf => ?_) (fun hc hf => ?_)
            · exact sf_weak [1, 2, 3, 4] rfl (t_Models_seenAlike_76 hd _ ih hf)
            · obtain ⟨h5, hf⟩ := sw_gd_1 hf
              obtain ⟨h6, hf⟩ := sw_gd_1 hf
              obtain ⟨h7, hf⟩ := sw_gd_1 hf
              obtain ⟨h8, hf⟩ := sw_gd_1 hf
              obtain ⟨h9, hf⟩ := sw_gd_1 hf
              refine sf_blk [(.aload_n 0, 0, 0, .null), (.getfield 11, 2, 4, .null), (.iload_n 1, 0, 0, .null), (.aaload, 0, 0, .null), (.iload 4, 0, 0, .null), (.iaload, 0, 0, .null), (.aload_n 0, 0, 0, .null), (.getfield 11, 2, 4, .null), (.iload_n 2, 0, 0, .null), (.aaload, 0, 0, .null), (.iload 4, 0, 0, .null), (.iaload, 0, 0, .null)] (lv' := [(4, .int (rd_I M (rd_R M (rd_R M a0 2) 1) a3.toNatClampNeg)), (0, .ref a0), (1, .int a1), (2, .int a2), (3, .int a3)]) (st' := [.int (rd_I u4.2 (rd_R u4.2 (rd_R u4.2 a0 4) a2.toNatClampNeg) (rd_I M (rd_R M (rd_R M a0 2) 1) a3.toNatClampNeg).toNatClampNeg), .int (rd_I u4.2 (rd_R u4.2 (rd_R u4.2 a0 4) a1.toNatClampNeg) (rd_I M (rd_R M (rd_R M a0 2) 1) a3.toNatClampNeg).toNatClampNeg)]) (M1 := u4.2) (ob := [sw_ok u4.2 a0 2, sw_ar u4.2 (rd_R u4.2 a0 4) 17 a1 || (sw_ar u4.2 (rd_R u4.2 a0 4) 18 a1 || sw_ar u4.2 (rd_R u4.2 a0 4) 19 a1), sw_ar u4.2 (rd_R u4.2 (rd_R u4.2 a0 4) a1.toNatClampNeg) 13 (rd_I M (rd_R M (rd_R M a0 2) 1) a3.toNatClampNeg), sw_ok u4.2 a0 2, sw_ar u4.2 (rd_R u4.2 a0 4) 17 a2 || (sw_ar u4.2 (rd_R u4.2 a0 4) 18 a2 || sw_ar u4.2 (rd_R u4.2 a0 4) 19 a2), sw_ar u4.2 (rd_R u4.2 (rd_R u4.2 a0 4) a2.toNatClampNeg) 13 (rd_I M (rd_R M (rd_R M a0 2) 1) a3.toNatClampNeg)]) (pc' := 71) (by decide +kernel) rfl rfl (sw_a1 h5 (sw_a1 h6 (sw_a1 h7 (sw_a1 h5 (sw_a1 h8 (sw_a1 h9 sw_a0)))))) ?_
              refine sf_j_eq (off := 5) (tgt := 76) (by decide +kernel) (by decide) hf (fun hc hf => ?_) (fun hc hf => ?_)
              · exact sf_weak [1, 2, 3, 4] rfl (t_Models_seenAlike_76 hd _ ih hf)
              · refine sf_blk [(.iconst (0), 0, 0, .int (0 : Int32))] (lv' := [(4, .int (rd_I M (rd_R M (rd_R M a0 2) 1) a3.toNatClampNeg)), (0, .ref a0), (1, .int a1), (2, .int a2), (3, .int a3)]) (st' := [.int (0 : Int32)]) (M1 := u4.2) (ob := []) (pc' := 75) (by decide +kernel) rfl rfl sw_a0 ?_
                cases hf
                exact sf_bool rfl rfl (by decide +kernel)
def f_Models_seenAlike (N : Nat) (a0 : Nat) (a1 : Int32) (a2 : Int32) (M : sw_M) : Option (Int32 × sw_M) :=
  f_Models_seenAlike_2 N N a0 a1 a2 (0 : Int32) M
set_option maxRecDepth 10000 in
theorem t_Models_seenAlike {g : sw_G} {d n0 : Nat} (hd : 2 ≤ d) {r : Int32 × sw_M} {N : Nat} {a0 : Nat} {a1 : Int32} {a2 : Int32} {M : sw_M} (hf : f_Models_seenAlike N a0 a1 a2 M = some r) : sw_F g k_Models_seenAlike d n0 (some (.int r.1)) r.2 0 [(0, .ref a0), (1, .int a1), (2, .int a2)] [] M := by
  unfold f_Models_seenAlike at hf
  refine sf_blk [(.iconst (0), 0, 0, .int (0 : Int32)), (.istore_n 3, 0, 0, .null)] (lv' := [(3, .int (0 : Int32)), (0, .ref a0), (1, .int a1), (2, .int a2)]) (st' := []) (M1 := M) (ob := []) (pc' := 2) (by decide +kernel) rfl rfl sw_a0 ?_
  exact sf_weak [1, 2, 3, 0] rfl (t_Models_seenAlike_2 hd _ _ _ _ _ _ hf)
theorem o_Models_seenAlike (g : sw_G) {d : Nat} (hd : 2 ≤ d) {N : Nat} {a0 : Nat} {a1 : Int32} {a2 : Int32} {M : sw_M} {r : Int32 × sw_M} (hf : f_Models_seenAlike N a0 a1 a2 M = some r) : sw_Ok g k_Models_seenAlike d [.ref a0, .int a1, .int a2] M (some (.int r.1)) r.2 := sf_met (by decide +kernel) rfl (by decide) (Nat.le_of_ble_eq_true rfl) (t_Models_seenAlike hd hf)
def f_Models_findTwins_93 (N : Nat) (k12 : Nat → Int32 → sw_M → Option (sw_M)) (a0 : Nat) (a1 : Int32) (M : sw_M) : Option (sw_M) :=
  k12 a0 (a1 + (1 : Int32)) M
set_option maxRecDepth 10000 in
theorem t_Models_findTwins_93 {g : sw_G} {d n0 : Nat} (hd : 3 ≤ d) {r : sw_M} (k12 : Nat → Int32 → sw_M → Option (sw_M)) (hk12 : ∀ (a0 : Nat) (a1 : Int32) (M : sw_M), k12 a0 a1 M = some r → sw_F g k_Models_findTwins d n0 none r 12 [(0, .ref a0), (1, .int a1)] [] M) {N : Nat} {a0 : Nat} {a1 : Int32} {M : sw_M} (hf : f_Models_findTwins_93 N k12 a0 a1 M = some r) : sw_F g k_Models_findTwins d n0 none r 93 [(0, .ref a0), (1, .int a1)] [] M := by
  unfold f_Models_findTwins_93 at hf
  refine sf_blk [(.iinc 1 (1), 0, 0, .int (1 : Int32))] (lv' := [(1, .int (a1 + (1 : Int32))), (0, .ref a0)]) (st' := []) (M1 := M) (ob := []) (pc' := 96) (by decide +kernel) rfl rfl sw_a0 ?_
  refine sf_goto (off := -84) (tgt := 12) (by decide +kernel) (by decide) ?_
  exact sf_weak [1, 0] rfl (hk12 _ _ _ hf)
def f_Models_findTwins_87 (N : Nat) (k12 : Nat → Int32 → sw_M → Option (sw_M)) (k30 : Nat → Int32 → Int32 → sw_M → Option (sw_M)) (a0 : Nat) (a1 : Int32) (a2 : Int32) (M : sw_M) : Option (sw_M) :=
  k30 a0 a1 (a2 + (1 : Int32)) M
set_option maxRecDepth 10000 in
theorem t_Models_findTwins_87 {g : sw_G} {d n0 : Nat} (hd : 3 ≤ d) {r : sw_M} (k12 : Nat → Int32 → sw_M → Option (sw_M)) (hk12 : ∀ (a0 : Nat) (a1 : Int32) (M : sw_M), k12 a0 a1 M = some r → sw_F g k_Models_findTwins d n0 none r 12 [(0, .ref a0), (1, .int a1)] [] M) (k30 : Nat → Int32 → Int32 → sw_M → Option (sw_M)) (hk30 : ∀ (a0 : Nat) (a1 : Int32) (a2 : Int32) (M : sw_M), k30 a0 a1 a2 M = some r → sw_F g k_Models_findTwins d n0 none r 30 [(0, .ref a0), (1, .int a1), (2, .int a2)] [] M) {N : Nat} {a0 : Nat} {a1 : Int32} {a2 : Int32} {M : sw_M} (hf : f_Models_findTwins_87 N k12 k30 a0 a1 a2 M = some r) : sw_F g k_Models_findTwins d n0 none r 87 [(0, .ref a0), (1, .int a1), (2, .int a2)] [] M := by
  unfold f_Models_findTwins_87 at hf
  refine sf_blk [(.iinc 2 (1), 0, 0, .int (1 : Int32))] (lv' := [(2, .int (a2 + (1 : Int32))), (0, .ref a0), (1, .int a1)]) (st' := []) (M1 := M) (ob := []) (pc' := 90) (by decide +kernel) rfl rfl sw_a0 ?_
  refine sf_goto (off := -60) (tgt := 30) (by decide +kernel) (by decide) ?_
  exact sf_weak [1, 2, 0] rfl (hk30 _ _ _ _ hf)
def f_Models_findTwins_30 (N : Nat) (k12 : Nat → Int32 → sw_M → Option (sw_M)) : Nat → Nat → Int32 → Int32 → sw_M → Option (sw_M)
  | 0, _, _, _, _ => none
  | j + 1, a0, a1, a2, M =>
  sw_gd [sw_ok M a0 2] (if (rd_I M a0 6) ≤ a2 then f_Models_findTwins_93 N k12 a0 a1 M
  else if (8 : Int32) ≤ a2 then f_Models_findTwins_93 N k12 a0 a1 M
  else if (rd_I M a0 8) = (-1 : Int32) then (f_Models_isKept N a0 a1 M).bind (fun u2 => if u2.1 = 0 then f_Models_findTwins_87 N k12 (f_Models_findTwins_30 N k12 j) a0 a1 a2 u2.2
  else sw_gd [sw_ok u2.2 a0 2] ((f_Models_isKept N a0 a2 u2.2).bind (fun u4 => if u4.1 = 0 then f_Models_findTwins_87 N k12 (f_Models_findTwins_30 N k12 j) a0 a1 a2 u4.2
  else sw_gd [sw_ok u4.2 a0 2] ((f_Models_seenAlike N a0 a1 a2 u4.2).bind (fun u6 => if u6.1 = 0 then f_Models_findTwins_87 N k12 (f_Models_findTwins_30 N k12 j) a0 a1 a2 u6.2
  else sw_gd [sw_ok u6.2 a0 2] (f_Models_findTwins_87 N k12 (f_Models_findTwins_30 N k12 j) a0 a1 a2 (wr_I (wr_I u6.2 a0 8 a1) a0 9 a2)))))))
  else f_Models_findTwins_87 N k12 (f_Models_findTwins_30 N k12 j) a0 a1 a2 M)
set_option maxRecDepth 10000 in
theorem t_Models_findTwins_30 {g : sw_G} {d n0 : Nat} (hd : 3 ≤ d) {r : sw_M} (k12 : Nat → Int32 → sw_M → Option (sw_M)) (hk12 : ∀ (a0 : Nat) (a1 : Int32) (M : sw_M), k12 a0 a1 M = some r → sw_F g k_Models_findTwins d n0 none r 12 [(0, .ref a0), (1, .int a1)] [] M) {N : Nat} : ∀ (j : Nat) (a0 : Nat) (a1 : Int32) (a2 : Int32) (M : sw_M), f_Models_findTwins_30 N k12 j a0 a1 a2 M = some r → sw_F g k_Models_findTwins d n0 none r 30 [(0, .ref a0), (1, .int a1), (2, .int a2)] [] M := by
  intro j
  induction j with
  | zero =>
    intro a0 a1 a2 M hf
    rw [f_Models_findTwins_30] at hf
    cases hf
  | succ j ih =>
    intro a0 a1 a2 M hf
    rw [f_Models_findTwins_30] at hf
    obtain ⟨h1, hf⟩ := sw_gd_1 hf
    refine sf_blk [(.iload_n 2, 0, 0, .null), (.aload_n 0, 0, 0, .null), (.getfield 42, 2, 6, .null)] (lv' := [(0, .ref a0), (1, .int a1), (2, .int a2)]) (st' := [.int (rd_I M a0 6), .int a2]) (M1 := M) (ob := [sw_ok M a0 2]) (pc' := 35) (by decide +kernel) rfl rfl (sw_a1 h1 sw_a0) ?_
    refine sf_j_ge (off := 58) (tgt := 93) (by decide +kernel) (by decide) hf (fun hc hf => ?_) (fun hc hf => ?_)
    · exact sf_weak [0, 1] rfl (t_Models_findTwins_93 hd _ hk12 hf)
    · refine sf_blk [(.iload_n 2, 0, 0, .null), (.bipush (8), 0, 0, .int (8 : Int32))] (lv' := [(0, .ref a0), (1, .int a1), (2, .int a2)]) (st' := [.int (8 : Int32), .int a2]) (M1 := M) (ob := []) (pc' := 41) (by decide +kernel) rfl rfl sw_a0 ?_
      refine sf_j_ge (off := 52) (tgt := 93) (by decide +kernel) (by decide) hf (fun hc hf => ?_) (fun hc hf => ?_)
      · exact sf_weak [0, 1] rfl (t_Models_findTwins_93 hd _ hk12 hf)
      · refine sf_blk [(.aload_n 0, 0, 0, .null), (.getfield 101, 2, 8, .null), (.iconst (-1), 0, 0, .int (-1 : Int32))] (lv' := [(0, .ref a0), (1, .int a1), (2, .int a2)]) (st' := [.int (-1 : Int32), .int (rd_I M a0 8)]) (M1 := M) (ob := [sw_ok M a0 2]) (pc' := 49) (by decide +kernel) rfl rfl (sw_a1 h1 sw_a0) ?_
        refine sf_j_ne (off := 38) (tgt := 87) (by decide +kernel) (by decide) hf (fun hc hf => ?_) (fun hc hf => ?_)
        · exact sf_weak [0, 1, 2] rfl (t_Models_findTwins_87 hd _ hk12 _ ih hf)
        · refine sf_blk [(.aload_n 0, 0, 0, .null), (.iload_n 1, 0, 0, .null)] (lv' := [(0, .ref a0), (1, .int a1), (2, .int a2)]) (st' := [.int a1, .ref a0]) (M1 := M) (ob := []) (pc' := 54) (by decide +kernel) rfl rfl sw_a0 ?_
          obtain ⟨u2, hu2, hf⟩ := sw_bnd hf
          refine sf_callV (i := 84) (k2 := k_Models_isKept) (d2 := d - 1) (As := [.int a1]) (st := []) (q := a0) (ci := 2) mf_Models_isKept mi_Models_isKept ms_Models_isKept (sw_m5 150 (by decide +kernel)) rfl (by decide) (by decide +kernel) rfl (Nat.le_of_ble_eq_true rfl) (by omega) h1 (o_Models_isKept g (d := d - 1) (by omega) hu2) ?_
          show sw_F _ _ _ _ _ _ 57 [(0, .ref a0), (1, .int a1), (2, .int a2)] [.int u2.1] u2.2
          refine sf_z_eq (off := 30) (tgt := 87) (by decide +kernel) (by decide) hf (fun hc hf => ?_) (fun hc hf => ?_)
          · exact sf_weak [0, 1, 2] rfl (t_Models_findTwins_87 hd _ hk12 _ ih hf)
          · obtain ⟨h3, hf⟩ := sw_gd_1 hf
            refine sf_blk [(.aload_n 0, 0, 0, .null), (.iload_n 2, 0, 0, .null)] (lv' := [(0, .ref a0), (1, .int a1), (2, .int a2)]) (st' := [.int a2, .ref a0]) (M1 := u2.2) (ob := []) (pc' := 62) (by decide +kernel) rfl rfl sw_a0 ?_
            obtain ⟨u4, hu4, hf⟩ := sw_bnd hf
            refine sf_callV (i := 84) (k2 := k_Models_isKept) (d2 := d - 1) (As := [.int a2]) (st := []) (q := a0) (ci := 2) mf_Models_isKept mi_Models_isKept ms_Models_isKept (sw_m5 150 (by decide +kernel)) rfl (by decide) (by decide +kernel) rfl (Nat.le_of_ble_eq_true rfl) (by omega) h3 (o_Models_isKept g (d := d - 1) (by omega) hu4) ?_
            show sw_F _ _ _ _ _ _ 65 [(0, .ref a0), (1, .int a1), (2, .int a2)] [.int u4.1] u4.2
            refine sf_z_eq (off := 22) (tgt := 87) (by decide +kernel) (by decide) hf (fun hc hf => ?_) (fun hc hf => ?_)
            · exact sf_weak [0, 1, 2] rfl (t_Models_findTwins_87 hd _ hk12 _ ih hf)
            · obtain ⟨h5, hf⟩ := sw_gd_1 hf
              refine sf_blk [(.aload_n 0, 0, 0, .null), (.iload_n 1, 0, 0, .null), (.iload_n 2, 0, 0, .null)] (lv' := [(0, .ref a0), (1, .int a1), (2, .int a2)]) (st' := [.int a2, .int a1, .ref a0]) (M1 := u4.2) (ob := []) (pc' := 71) (by decide +kernel) rfl rfl sw_a0 ?_
              obtain ⟨u6, hu6, hf⟩ := sw_bnd hf
              refine sf_callV (i := 107) (k2 := k_Models_seenAlike) (d2 := d - 1) (As := [.int a1, .int a2]) (st := []) (q := a0) (ci := 2) mf_Models_seenAlike mi_Models_seenAlike ms_Models_seenAlike (sw_m5 154 (by decide +kernel)) rfl (by decide) (by decide +kernel) rfl (Nat.le_of_ble_eq_true rfl) (by omega) h5 (o_Models_seenAlike g (d := d - 1) (by omega) hu6) ?_
              show sw_F _ _ _ _ _ _ 74 [(0, .ref a0), (1, .int a1), (2, .int a2)] [.int u6.1] u6.2
              refine sf_z_eq (off := 13) (tgt := 87) (by decide +kernel) (by decide) hf (fun hc hf => ?_) (fun hc hf => ?_)
              · exact sf_weak [0, 1, 2] rfl (t_Models_findTwins_87 hd _ hk12 _ ih hf)
              · obtain ⟨h7, hf⟩ := sw_gd_1 hf
                refine sf_blk [(.aload_n 0, 0, 0, .null), (.iload_n 1, 0, 0, .null), (.putfield 101, 2, 8, .null), (.aload_n 0, 0, 0, .null), (.iload_n 2, 0, 0, .null), (.putfield 104, 2, 9, .null)] (lv' := [(0, .ref a0), (1, .int a1), (2, .int a2)]) (st' := []) (M1 := (wr_I (wr_I u6.2 a0 8 a1) a0 9 a2)) (ob := [sw_ok u6.2 a0 2, sw_ok (wr_I u6.2 a0 8 a1) a0 2]) (pc' := 87) (by decide +kernel) rfl rfl (sw_a1 h7 (sw_a1 h7 sw_a0)) ?_
                exact sf_weak [0, 1, 2] rfl (t_Models_findTwins_87 hd _ hk12 _ ih hf)
def f_Models_findTwins_12 (N : Nat) : Nat → Nat → Int32 → sw_M → Option (sw_M)
  | 0, _, _, _ => none
  | j + 1, a0, a1, M =>
  sw_gd [sw_ok M a0 2] (if (rd_I M a0 6) ≤ a1 then some M
  else if (8 : Int32) ≤ a1 then some M
  else f_Models_findTwins_30 N (f_Models_findTwins_12 N j) N a0 a1 (a1 + (1 : Int32)) M)
set_option maxRecDepth 10000 in
theorem t_Models_findTwins_12 {g : sw_G} {d n0 : Nat} (hd : 3 ≤ d) {r : sw_M} {N : Nat} : ∀ (j : Nat) (a0 : Nat) (a1 : Int32) (M : sw_M), f_Models_findTwins_12 N j a0 a1 M = some r → sw_F g k_Models_findTwins d n0 none r 12 [(0, .ref a0), (1, .int a1)] [] M := by
  intro j
  induction j with
  | zero =>
    intro a0 a1 M hf
    rw [f_Models_findTwins_12] at hf
    cases hf
  | succ j ih =>
    intro a0 a1 M hf
    rw [f_Models_findTwins_12] at hf
    obtain ⟨h1, hf⟩ := sw_gd_1 hf
    refine sf_blk [(.iload_n 1, 0, 0, .null), (.aload_n 0, 0, 0, .null), (.getfield 42, 2, 6, .null)] (lv' := [(0, .ref a0), (1, .int a1)]) (st' := [.int (rd_I M a0 6), .int a1]) (M1 := M) (ob := [sw_ok M a0 2]) (pc' := 17) (by decide +kernel) rfl rfl (sw_a1 h1 sw_a0) ?_
    refine sf_j_ge (off := 82) (tgt := 99) (by decide +kernel) (by decide) hf (fun hc hf => ?_) (fun hc hf => ?_)
    · cases hf
      exact sf_void rfl (by decide +kernel)
    · refine sf_blk [(.iload_n 1, 0, 0, .null), (.bipush (8), 0, 0, .int (8 : Int32))] (lv' := [(0, .ref a0), (1, .int a1)]) (st' := [.int (8 : Int32), .int a1]) (M1 := M) (ob := []) (pc' := 23) (by decide +kernel) rfl rfl sw_a0 ?_
      refine sf_j_ge (off := 76) (tgt := 99) (by decide +kernel) (by decide) hf (fun hc hf => ?_) (fun hc hf => ?_)
      · cases hf
        exact sf_void rfl (by decide +kernel)
      · refine sf_blk [(.iload_n 1, 0, 0, .null), (.iconst (1), 0, 0, .int (1 : Int32)), (.iadd, 0, 0, .null), (.istore_n 2, 0, 0, .null)] (lv' := [(2, .int (a1 + (1 : Int32))), (0, .ref a0), (1, .int a1)]) (st' := []) (M1 := M) (ob := []) (pc' := 30) (by decide +kernel) rfl rfl sw_a0 ?_
        exact sf_weak [1, 2, 0] rfl (t_Models_findTwins_30 hd _ ih _ _ _ _ _ hf)
def f_Models_findTwins (N : Nat) (a0 : Nat) (M : sw_M) : Option (sw_M) :=
  sw_gd [sw_ok M a0 2] (f_Models_findTwins_12 N N a0 (0 : Int32) (wr_I (wr_I M a0 8 (-1 : Int32)) a0 9 (-1 : Int32)))
set_option maxRecDepth 10000 in
theorem t_Models_findTwins {g : sw_G} {d n0 : Nat} (hd : 3 ≤ d) {r : sw_M} {N : Nat} {a0 : Nat} {M : sw_M} (hf : f_Models_findTwins N a0 M = some r) : sw_F g k_Models_findTwins d n0 none r 0 [(0, .ref a0)] [] M := by
  unfold f_Models_findTwins at hf
  obtain ⟨h1, hf⟩ := sw_gd_1 hf
  refine sf_blk [(.aload_n 0, 0, 0, .null), (.iconst (-1), 0, 0, .int (-1 : Int32)), (.putfield 101, 2, 8, .null), (.aload_n 0, 0, 0, .null), (.iconst (-1), 0, 0, .int (-1 : Int32)), (.putfield 104, 2, 9, .null), (.iconst (0), 0, 0, .int (0 : Int32)), (.istore_n 1, 0, 0, .null)] (lv' := [(1, .int (0 : Int32)), (0, .ref a0)]) (st' := []) (M1 := (wr_I (wr_I M a0 8 (-1 : Int32)) a0 9 (-1 : Int32))) (ob := [sw_ok M a0 2, sw_ok (wr_I M a0 8 (-1 : Int32)) a0 2]) (pc' := 12) (by decide +kernel) rfl rfl (sw_a1 h1 (sw_a1 h1 sw_a0)) ?_
  exact sf_weak [1, 0] rfl (t_Models_findTwins_12 hd _ _ _ _ hf)
theorem o_Models_findTwins (g : sw_G) {d : Nat} (hd : 3 ≤ d) {N : Nat} {a0 : Nat} {M : sw_M} {r : sw_M} (hf : f_Models_findTwins N a0 M = some r) : sw_Ok g k_Models_findTwins d [.ref a0] M none r := sf_met (by decide +kernel) rfl (by decide) (Nat.le_of_ble_eq_true rfl) (t_Models_findTwins hd hf)
def f_Models_make_122 (N : Nat) (a0 : Nat) (a2 : Int32) (M : sw_M) : Option (sw_M) :=
  sw_gd [sw_ok M a0 2] (sw_gd [sw_ok M (rd_R M a0 0) 0] ((f_Models_findTwins N a0 (wr_I M (rd_R M a0 0) 5 a2)).bind (fun u3 => some u3)))
set_option maxRecDepth 10000 in
theorem t_Models_make_122 {g : sw_G} {d n0 : Nat} (hd : 7 ≤ d) {r : sw_M} {N : Nat} {a0 : Nat} {a2 : Int32} {M : sw_M} (hf : f_Models_make_122 N a0 a2 M = some r) : sw_F g k_Models_make d n0 none r 122 [(0, .ref a0), (2, .int a2)] [] M := by
  unfold f_Models_make_122 at hf
  obtain ⟨h1, hf⟩ := sw_gd_1 hf
  obtain ⟨h2, hf⟩ := sw_gd_1 hf
  refine sf_blk [(.aload_n 0, 0, 0, .null), (.getfield 20, 2, 0, .null), (.iload_n 2, 0, 0, .null), (.putfield 55, 0, 5, .null), (.aload_n 0, 0, 0, .null)] (lv' := [(0, .ref a0), (2, .int a2)]) (st' := [.ref a0]) (M1 := (wr_I M (rd_R M a0 0) 5 a2)) (ob := [sw_ok M a0 2, sw_ok M (rd_R M a0 0) 0]) (pc' := 131) (by decide +kernel) rfl rfl (sw_a1 h1 (sw_a1 h2 sw_a0)) ?_
  obtain ⟨u3, hu3, hf⟩ := sw_bnd hf
  refine sf_callV (i := 76) (k2 := k_Models_findTwins) (d2 := d - 1) (As := []) (st := []) (q := a0) (ci := 2) mf_Models_findTwins mi_Models_findTwins ms_Models_findTwins (sw_m5 146 (by decide +kernel)) rfl (by decide) (by decide +kernel) rfl (Nat.le_of_ble_eq_true rfl) (by omega) h1 (o_Models_findTwins g (d := d - 1) (by omega) hu3) ?_
  show sw_F _ _ _ _ _ _ 134 [(0, .ref a0), (2, .int a2)] [] u3
  cases hf
  exact sf_void rfl (by decide +kernel)
def f_Models_make_116 (N : Nat) (k56 : Nat → Int32 → Int32 → sw_M → Option (sw_M)) (a0 : Nat) (a2 : Int32) (a3 : Int32) (M : sw_M) : Option (sw_M) :=
  k56 a0 a2 (a3 + (1 : Int32)) M
set_option maxRecDepth 10000 in
theorem t_Models_make_116 {g : sw_G} {d n0 : Nat} (hd : 7 ≤ d) {r : sw_M} (k56 : Nat → Int32 → Int32 → sw_M → Option (sw_M)) (hk56 : ∀ (a0 : Nat) (a2 : Int32) (a3 : Int32) (M : sw_M), k56 a0 a2 a3 M = some r → sw_F g k_Models_make d n0 none r 56 [(0, .ref a0), (2, .int a2), (3, .int a3)] [] M) {N : Nat} {a0 : Nat} {a2 : Int32} {a3 : Int32} {M : sw_M} (hf : f_Models_make_116 N k56 a0 a2 a3 M = some r) : sw_F g k_Models_make d n0 none r 116 [(0, .ref a0), (2, .int a2), (3, .int a3)] [] M := by
  unfold f_Models_make_116 at hf
  refine sf_blk [(.iinc 3 (1), 0, 0, .int (1 : Int32))] (lv' := [(3, .int (a3 + (1 : Int32))), (0, .ref a0), (2, .int a2)]) (st' := []) (M1 := M) (ob := []) (pc' := 119) (by decide +kernel) rfl rfl sw_a0 ?_
  refine sf_goto (off := -63) (tgt := 56) (by decide +kernel) (by decide) ?_
  exact sf_weak [1, 2, 0] rfl (hk56 _ _ _ _ hf)
def f_Models_make_56 (N : Nat) : Nat → Nat → Int32 → Int32 → sw_M → Option (sw_M)
  | 0, _, _, _, _ => none
  | j + 1, a0, a2, a3, M =>
  sw_gd [sw_ok M a0 2] (if (rd_I M a0 6) ≤ a3 then f_Models_make_122 N a0 a2 M
  else if (8 : Int32) ≤ a3 then f_Models_make_122 N a0 a2 M
  else (f_Models_massOf N a0 a3 M).bind (fun u2 => sw_gd [sw_ok u2.2 (rd_R M a0 0) 0] (sw_gd [sw_ok (wr_I u2.2 (rd_R M a0 0) 5 u2.1) a0 2] (sw_gd [sw_ok (wr_I u2.2 (rd_R M a0 0) 5 u2.1) (rd_R (wr_I u2.2 (rd_R M a0 0) 5 u2.1) a0 1) 10] ((f_Swarm_refresh N (rd_R (wr_I u2.2 (rd_R M a0 0) 5 u2.1) a0 1) (wr_I u2.2 (rd_R M a0 0) 5 u2.1)).bind (fun u6 => sw_gd [sw_ok u6 a0 2] (sw_gd [sw_ok u6 (rd_R u6 a0 3) 1] ((f_Fits_first N (rd_R u6 a0 3) u6).bind (fun u9 => if u9.1 = 0 then f_Models_make_116 N (f_Models_make_56 N j) a0 a2 a3 u9.2
  else sw_gd [sw_ok u9.2 a0 2] ((f_Models_tell N a0 a3 (wr_I u9.2 a0 7 ((rd_I u9.2 a0 7) ||| ((1 : Int32) <<< (a3 &&& 31))))).bind (fun u11 => f_Models_make_116 N (f_Models_make_56 N j) a0 a2 a3 u11)))))))))))
set_option maxRecDepth 10000 in
theorem t_Models_make_56 {g : sw_G} {d n0 : Nat} (hd : 7 ≤ d) {r : sw_M} {N : Nat} : ∀ (j : Nat) (a0 : Nat) (a2 : Int32) (a3 : Int32) (M : sw_M), f_Models_make_56 N j a0 a2 a3 M = some r → sw_F g k_Models_make d n0 none r 56 [(0, .ref a0), (2, .int a2), (3, .int a3)] [] M := by
  intro j
  induction j with
  | zero =>
    intro a0 a2 a3 M hf
    rw [f_Models_make_56] at hf
    cases hf
  | succ j ih =>
    intro a0 a2 a3 M hf
    rw [f_Models_make_56] at hf
    obtain ⟨h1, hf⟩ := sw_gd_1 hf
    refine sf_blk [(.iload_n 3, 0, 0, .null), (.aload_n 0, 0, 0, .null), (.getfield 42, 2, 6, .null)] (lv' := [(0, .ref a0), (2, .int a2), (3, .int a3)]) (st' := [.int (rd_I M a0 6), .int a3]) (M1 := M) (ob := [sw_ok M a0 2]) (pc' := 61) (by decide +kernel) rfl rfl (sw_a1 h1 sw_a0) ?_
    refine sf_j_ge (off := 61) (tgt := 122) (by decide +kernel) (by decide) hf (fun hc hf => ?_) (fun hc hf => ?_)
    · exact sf_weak [0, 1] rfl (t_Models_make_122 hd hf)
    · refine sf_blk [(.iload_n 3, 0, 0, .null), (.bipush (8), 0, 0, .int (8 : Int32))] (lv' := [(0, .ref a0), (2, .int a2), (3, .int a3)]) (st' := [.int (8 : Int32), .int a3]) (M1 := M) (ob := []) (pc' := 67) (by decide +kernel) rfl rfl sw_a0 ?_
      refine sf_j_ge (off := 55) (tgt := 122) (by decide +kernel) (by decide) hf (fun hc hf => ?_) (fun hc hf => ?_)
      · exact sf_weak [0, 1] rfl (t_Models_make_122 hd hf)
      · refine sf_blk [(.aload_n 0, 0, 0, .null), (.getfield 20, 2, 0, .null), (.aload_n 0, 0, 0, .null), (.iload_n 3, 0, 0, .null)] (lv' := [(0, .ref a0), (2, .int a2), (3, .int a3)]) (st' := [.int a3, .ref a0, .ref (rd_R M a0 0)]) (M1 := M) (ob := [sw_ok M a0 2]) (pc' := 76) (by decide +kernel) rfl rfl (sw_a1 h1 sw_a0) ?_
        obtain ⟨u2, hu2, hf⟩ := sw_bnd hf
        refine sf_callV (i := 58) (k2 := k_Models_massOf) (d2 := d - 1) (As := [.int a3]) (st := [.ref (rd_R M a0 0)]) (q := a0) (ci := 2) mf_Models_massOf mi_Models_massOf ms_Models_massOf (sw_m5 135 (by decide +kernel)) rfl (by decide) (by decide +kernel) rfl (Nat.le_of_ble_eq_true rfl) (by omega) h1 (o_Models_massOf g (d := d - 1) (by omega) hu2) ?_
        show sw_F _ _ _ _ _ _ 79 [(0, .ref a0), (2, .int a2), (3, .int a3)] [.int u2.1, .ref (rd_R M a0 0)] u2.2
        obtain ⟨h3, hf⟩ := sw_gd_1 hf
        obtain ⟨h4, hf⟩ := sw_gd_1 hf
        obtain ⟨h5, hf⟩ := sw_gd_1 hf
        refine sf_blk [(.putfield 55, 0, 5, .null), (.aload_n 0, 0, 0, .null), (.getfield 24, 2, 1, .null)] (lv' := [(0, .ref a0), (2, .int a2), (3, .int a3)]) (st' := [.ref (rd_R (wr_I u2.2 (rd_R M a0 0) 5 u2.1) a0 1)]) (M1 := (wr_I u2.2 (rd_R M a0 0) 5 u2.1)) (ob := [sw_ok u2.2 (rd_R M a0 0) 0, sw_ok (wr_I u2.2 (rd_R M a0 0) 5 u2.1) a0 2]) (pc' := 86) (by decide +kernel) rfl rfl (sw_a1 h3 (sw_a1 h4 sw_a0)) ?_
        obtain ⟨u6, hu6, hf⟩ := sw_bnd hf
        refine sf_callV (i := 61) (k2 := k_Swarm_refresh) (d2 := d - 1) (As := []) (st := []) (q := (rd_R (wr_I u2.2 (rd_R M a0 0) 5 u2.1) a0 1)) (ci := 10) mf_Swarm_refresh mi_Swarm_refresh ms_Swarm_refresh (sw_m5 139 (by decide +kernel)) rfl (by decide) (by decide +kernel) rfl (Nat.le_of_ble_eq_true rfl) (by omega) h5 (o_Swarm_refresh g (d := d - 1) (by omega) hu6) ?_
        show sw_F _ _ _ _ _ _ 89 [(0, .ref a0), (2, .int a2), (3, .int a3)] [] u6
        obtain ⟨h7, hf⟩ := sw_gd_1 hf
        obtain ⟨h8, hf⟩ := sw_gd_1 hf
        refine sf_blk [(.aload_n 0, 0, 0, .null), (.getfield 32, 2, 3, .null)] (lv' := [(0, .ref a0), (2, .int a2), (3, .int a3)]) (st' := [.ref (rd_R u6 a0 3)]) (M1 := u6) (ob := [sw_ok u6 a0 2]) (pc' := 93) (by decide +kernel) rfl rfl (sw_a1 h7 sw_a0) ?_
        obtain ⟨u9, hu9, hf⟩ := sw_bnd hf
        refine sf_callV (i := 66) (k2 := k_Fits_first) (d2 := d - 1) (As := []) (st := []) (q := (rd_R u6 a0 3)) (ci := 1) mf_Fits_first mi_Fits_first ms_Fits_first (sw_m5 140 (by decide +kernel)) rfl (by decide) (by decide +kernel) rfl (Nat.le_of_ble_eq_true rfl) (by omega) h8 (o_Fits_first g (d := d - 1) (by omega) hu9) ?_
        show sw_F _ _ _ _ _ _ 96 [(0, .ref a0), (2, .int a2), (3, .int a3)] [.int u9.1] u9.2
        refine sf_z_eq (off := 20) (tgt := 116) (by decide +kernel) (by decide) hf (fun hc hf => ?_) (fun hc hf => ?_)
        · exact sf_weak [0, 1, 2] rfl (t_Models_make_116 hd _ ih hf)
        · obtain ⟨h10, hf⟩ := sw_gd_1 hf
          refine sf_blk [(.aload_n 0, 0, 0, .null), (.dup, 0, 0, .null), (.getfield 45, 2, 7, .null), (.iconst (1), 0, 0, .int (1 : Int32)), (.iload_n 3, 0, 0, .null), (.ishl, 0, 0, .null), (.ior, 0, 0, .null), (.putfield 45, 2, 7, .null), (.aload_n 0, 0, 0, .null), (.iload_n 3, 0, 0, .null)] (lv' := [(0, .ref a0), (2, .int a2), (3, .int a3)]) (st' := [.int a3, .ref a0]) (M1 := (wr_I u9.2 a0 7 ((rd_I u9.2 a0 7) ||| ((1 : Int32) <<< (a3 &&& 31))))) (ob := [sw_ok u9.2 a0 2, sw_ok u9.2 a0 2]) (pc' := 113) (by decide +kernel) rfl rfl (sw_a1 h10 (sw_a1 h10 sw_a0)) ?_
          obtain ⟨u11, hu11, hf⟩ := sw_bnd hf
          refine sf_callV (i := 72) (k2 := k_Models_tell) (d2 := d - 1) (As := [.int a3]) (st := []) (q := a0) (ci := 2) mf_Models_tell mi_Models_tell ms_Models_tell (sw_m5 141 (by decide +kernel)) rfl (by decide) (by decide +kernel) rfl (Nat.le_of_ble_eq_true rfl) (by omega) h10 (o_Models_tell g (d := d - 1) (by omega) hu11) ?_
          show sw_F _ _ _ _ _ _ 116 [(0, .ref a0), (2, .int a2), (3, .int a3)] [] u11
          exact sf_weak [0, 1, 2] rfl (t_Models_make_116 hd _ ih hf)
def f_Models_make (N : Nat) (a0 : Nat) (a1 : Int32) (M : sw_M) : Option (sw_M) :=
  sw_gd [sw_ok M a0 2] (if (rd_I M a0 5) = a1 then some M
  else sw_gd [sw_ok (wr_I M a0 5 a1) (rd_R (wr_I M a0 5 a1) a0 0) 0] ((f_Field_massesBy N (rd_R (wr_I M a0 5 a1) a0 0) a1 (wr_I M a0 5 a1)).bind (fun u3 => sw_gd [sw_ok u3.2 a0 2] (sw_gd [sw_ok (wr_I (wr_I u3.2 a0 6 u3.1) a0 7 (0 : Int32)) (rd_R (wr_I (wr_I u3.2 a0 6 u3.1) a0 7 (0 : Int32)) a0 2) 3] ((f_Notes_know N (rd_R (wr_I (wr_I u3.2 a0 6 u3.1) a0 7 (0 : Int32)) a0 2) (rd_I (wr_I (wr_I u3.2 a0 6 u3.1) a0 7 (0 : Int32)) (rd_R (wr_I (wr_I u3.2 a0 6 u3.1) a0 7 (0 : Int32)) a0 2) 5) (wr_I (wr_I u3.2 a0 6 u3.1) a0 7 (0 : Int32))).bind (fun u6 => sw_gd [sw_ok u6.2 a0 2] (sw_gd [sw_ok u6.2 (rd_R u6.2 a0 0) 0] (f_Models_make_56 N N a0 (rd_I u6.2 (rd_R u6.2 a0 0) 5) (0 : Int32) u6.2))))))))
set_option maxRecDepth 10000 in
theorem t_Models_make {g : sw_G} {d n0 : Nat} (hd : 7 ≤ d) {r : sw_M} {N : Nat} {a0 : Nat} {a1 : Int32} {M : sw_M} (hf : f_Models_make N a0 a1 M = some r) : sw_F g k_Models_make d n0 none r 0 [(0, .ref a0), (1, .int a1)] [] M := by
  unfold f_Models_make at hf
  obtain ⟨h1, hf⟩ := sw_gd_1 hf
  refine sf_blk [(.aload_n 0, 0, 0, .null), (.getfield 16, 2, 5, .null), (.iload_n 1, 0, 0, .null)] (lv' := [(0, .ref a0), (1, .int a1)]) (st' := [.int a1, .int (rd_I M a0 5)]) (M1 := M) (ob := [sw_ok M a0 2]) (pc' := 5) (by decide +kernel) rfl rfl (sw_a1 h1 sw_a0) ?_
  refine sf_j_ne (off := 4) (tgt := 9) (by decide +kernel) (by decide) hf (fun hc hf => ?_) (fun hc hf => ?_)
  · obtain ⟨h2, hf⟩ := sw_gd_1 hf
    refine sf_blk [(.aload_n 0, 0, 0, .null), (.iload_n 1, 0, 0, .null), (.putfield 16, 2, 5, .null), (.aload_n 0, 0, 0, .null), (.aload_n 0, 0, 0, .null), (.getfield 20, 2, 0, .null), (.iload_n 1, 0, 0, .null)] (lv' := [(0, .ref a0), (1, .int a1)]) (st' := [.int a1, .ref (rd_R (wr_I M a0 5 a1) a0 0), .ref a0]) (M1 := (wr_I M a0 5 a1)) (ob := [sw_ok M a0 2, sw_ok (wr_I M a0 5 a1) a0 2]) (pc' := 20) (by decide +kernel) rfl rfl (sw_a1 h1 (sw_a1 h1 sw_a0)) ?_
    obtain ⟨u3, hu3, hf⟩ := sw_bnd hf
    refine sf_callV (i := 36) (k2 := k_Field_massesBy) (d2 := d - 1) (As := [.int a1]) (st := [.ref a0]) (q := (rd_R (wr_I M a0 5 a1) a0 0)) (ci := 0) mf_Field_massesBy mi_Field_massesBy ms_Field_massesBy (sw_m5 129 (by decide +kernel)) rfl (by decide) (by decide +kernel) rfl (Nat.le_of_ble_eq_true rfl) (by omega) h2 (o_Field_massesBy g (d := d - 1) (by omega) hu3) ?_
    show sw_F _ _ _ _ _ _ 23 [(0, .ref a0), (1, .int a1)] [.int u3.1, .ref a0] u3.2
    obtain ⟨h4, hf⟩ := sw_gd_1 hf
    obtain ⟨h5, hf⟩ := sw_gd_1 hf
    refine sf_blk [(.putfield 42, 2, 6, .null), (.aload_n 0, 0, 0, .null), (.iconst (0), 0, 0, .int (0 : Int32)), (.putfield 45, 2, 7, .null), (.aload_n 0, 0, 0, .null), (.getfield 28, 2, 2, .null), (.aload_n 0, 0, 0, .null), (.getfield 28, 2, 2, .null), (.getfield 48, 3, 5, .null)] (lv' := [(0, .ref a0), (1, .int a1)]) (st' := [.int (rd_I (wr_I (wr_I u3.2 a0 6 u3.1) a0 7 (0 : Int32)) (rd_R (wr_I (wr_I u3.2 a0 6 u3.1) a0 7 (0 : Int32)) a0 2) 5), .ref (rd_R (wr_I (wr_I u3.2 a0 6 u3.1) a0 7 (0 : Int32)) a0 2)]) (M1 := (wr_I (wr_I u3.2 a0 6 u3.1) a0 7 (0 : Int32))) (ob := [sw_ok u3.2 a0 2, sw_ok (wr_I u3.2 a0 6 u3.1) a0 2, sw_ok (wr_I (wr_I u3.2 a0 6 u3.1) a0 7 (0 : Int32)) a0 2, sw_ok (wr_I (wr_I u3.2 a0 6 u3.1) a0 7 (0 : Int32)) a0 2, sw_ok (wr_I (wr_I u3.2 a0 6 u3.1) a0 7 (0 : Int32)) (rd_R (wr_I (wr_I u3.2 a0 6 u3.1) a0 7 (0 : Int32)) a0 2) 3]) (pc' := 42) (by decide +kernel) rfl rfl (sw_a1 h4 (sw_a1 h4 (sw_a1 h4 (sw_a1 h4 (sw_a1 h5 sw_a0))))) ?_
    obtain ⟨u6, hu6, hf⟩ := sw_bnd hf
    refine sf_callV (i := 51) (k2 := k_Notes_know) (d2 := d - 1) (As := [.int (rd_I (wr_I (wr_I u3.2 a0 6 u3.1) a0 7 (0 : Int32)) (rd_R (wr_I (wr_I u3.2 a0 6 u3.1) a0 7 (0 : Int32)) a0 2) 5)]) (st := []) (q := (rd_R (wr_I (wr_I u3.2 a0 6 u3.1) a0 7 (0 : Int32)) a0 2)) (ci := 3) mf_Notes_know mi_Notes_know ms_Notes_know (sw_m5 134 (by decide +kernel)) rfl (by decide) (by decide +kernel) rfl (Nat.le_of_ble_eq_true rfl) (by omega) h5 (o_Notes_know g (d := d - 1) (by omega) hu6) ?_
    show sw_F _ _ _ _ _ _ 45 [(0, .ref a0), (1, .int a1)] [.int u6.1] u6.2
    obtain ⟨h7, hf⟩ := sw_gd_1 hf
    obtain ⟨h8, hf⟩ := sw_gd_1 hf
    refine sf_blk [(.pop, 0, 0, .null), (.aload_n 0, 0, 0, .null), (.getfield 20, 2, 0, .null), (.getfield 55, 0, 5, .null), (.istore_n 2, 0, 0, .null), (.iconst (0), 0, 0, .int (0 : Int32)), (.istore_n 3, 0, 0, .null)] (lv' := [(3, .int (0 : Int32)), (2, .int (rd_I u6.2 (rd_R u6.2 a0 0) 5)), (0, .ref a0), (1, .int a1)]) (st' := []) (M1 := u6.2) (ob := [sw_ok u6.2 a0 2, sw_ok u6.2 (rd_R u6.2 a0 0) 0]) (pc' := 56) (by decide +kernel) rfl rfl (sw_a1 h7 (sw_a1 h8 sw_a0)) ?_
    exact sf_weak [2, 1, 0] rfl (t_Models_make_56 hd _ _ _ _ _ hf)
  · cases hf
    exact sf_void rfl (by decide +kernel)
theorem o_Models_make (g : sw_G) {d : Nat} (hd : 7 ≤ d) {N : Nat} {a0 : Nat} {a1 : Int32} {M : sw_M} {r : sw_M} (hf : f_Models_make N a0 a1 M = some r) : sw_Ok g k_Models_make d [.ref a0, .int a1] M none r := sf_met (by decide +kernel) rfl (by decide) (Nat.le_of_ble_eq_true rfl) (t_Models_make hd hf)
def f_Models_leastMass_2 (N : Nat) : Nat → Nat → Int32 → sw_M → Option (Int32 × sw_M)
  | 0, _, _, _ => none
  | j + 1, a0, a1, M =>
  sw_gd [sw_ok M a0 2] (if (rd_I M a0 6) ≤ a1 then some ((-1 : Int32), M)
  else (f_Models_isKept N a0 a1 M).bind (fun u2 => if u2.1 = 0 then f_Models_leastMass_2 N j a0 (a1 + (1 : Int32)) u2.2
  else sw_gd [sw_ok u2.2 a0 2] ((f_Models_massOf N a0 a1 u2.2).bind (fun u4 => some (u4.1, u4.2)))))
set_option maxRecDepth 10000 in
theorem t_Models_leastMass_2 {g : sw_G} {d n0 : Nat} (hd : 2 ≤ d) {r : Int32 × sw_M} {N : Nat} : ∀ (j : Nat) (a0 : Nat) (a1 : Int32) (M : sw_M), f_Models_leastMass_2 N j a0 a1 M = some r → sw_F g k_Models_leastMass d n0 (some (.int r.1)) r.2 2 [(0, .ref a0), (1, .int a1)] [] M := by
  intro j
  induction j with
  | zero =>
    intro a0 a1 M hf
    rw [f_Models_leastMass_2] at hf
    cases hf
  | succ j ih =>
    intro a0 a1 M hf
    rw [f_Models_leastMass_2] at hf
    obtain ⟨h1, hf⟩ := sw_gd_1 hf
    refine sf_blk [(.iload_n 1, 0, 0, .null), (.aload_n 0, 0, 0, .null), (.getfield 42, 2, 6, .null)] (lv' := [(0, .ref a0), (1, .int a1)]) (st' := [.int (rd_I M a0 6), .int a1]) (M1 := M) (ob := [sw_ok M a0 2]) (pc' := 7) (by decide +kernel) rfl rfl (sw_a1 h1 sw_a0) ?_
    refine sf_j_ge (off := 23) (tgt := 30) (by decide +kernel) (by decide) hf (fun hc hf => ?_) (fun hc hf => ?_)
    · refine sf_blk [(.iconst (-1), 0, 0, .int (-1 : Int32))] (lv' := [(0, .ref a0), (1, .int a1)]) (st' := [.int (-1 : Int32)]) (M1 := M) (ob := []) (pc' := 31) (by decide +kernel) rfl rfl sw_a0 ?_
      cases hf
      exact sf_int rfl (by decide +kernel)
    · refine sf_blk [(.aload_n 0, 0, 0, .null), (.iload_n 1, 0, 0, .null)] (lv' := [(0, .ref a0), (1, .int a1)]) (st' := [.int a1, .ref a0]) (M1 := M) (ob := []) (pc' := 12) (by decide +kernel) rfl rfl sw_a0 ?_
      obtain ⟨u2, hu2, hf⟩ := sw_bnd hf
      refine sf_callV (i := 84) (k2 := k_Models_isKept) (d2 := d - 1) (As := [.int a1]) (st := []) (q := a0) (ci := 2) mf_Models_isKept mi_Models_isKept ms_Models_isKept (sw_m5 150 (by decide +kernel)) rfl (by decide) (by decide +kernel) rfl (Nat.le_of_ble_eq_true rfl) (by omega) h1 (o_Models_isKept g (d := d - 1) (by omega) hu2) ?_
      show sw_F _ _ _ _ _ _ 15 [(0, .ref a0), (1, .int a1)] [.int u2.1] u2.2
      refine sf_z_eq (off := 9) (tgt := 24) (by decide +kernel) (by decide) hf (fun hc hf => ?_) (fun hc hf => ?_)
      · refine sf_blk [(.iinc 1 (1), 0, 0, .int (1 : Int32))] (lv' := [(1, .int (a1 + (1 : Int32))), (0, .ref a0)]) (st' := []) (M1 := u2.2) (ob := []) (pc' := 27) (by decide +kernel) rfl rfl sw_a0 ?_
        refine sf_goto (off := -25) (tgt := 2) (by decide +kernel) (by decide) ?_
        exact sf_weak [1, 0] rfl (ih _ _ _ hf)
      · obtain ⟨h3, hf⟩ := sw_gd_1 hf
        refine sf_blk [(.aload_n 0, 0, 0, .null), (.iload_n 1, 0, 0, .null)] (lv' := [(0, .ref a0), (1, .int a1)]) (st' := [.int a1, .ref a0]) (M1 := u2.2) (ob := []) (pc' := 20) (by decide +kernel) rfl rfl sw_a0 ?_
        obtain ⟨u4, hu4, hf⟩ := sw_bnd hf
        refine sf_callV (i := 58) (k2 := k_Models_massOf) (d2 := d - 1) (As := [.int a1]) (st := []) (q := a0) (ci := 2) mf_Models_massOf mi_Models_massOf ms_Models_massOf (sw_m5 135 (by decide +kernel)) rfl (by decide) (by decide +kernel) rfl (Nat.le_of_ble_eq_true rfl) (by omega) h3 (o_Models_massOf g (d := d - 1) (by omega) hu4) ?_
        show sw_F _ _ _ _ _ _ 23 [(0, .ref a0), (1, .int a1)] [.int u4.1] u4.2
        cases hf
        exact sf_int rfl (by decide +kernel)
def f_Models_leastMass (N : Nat) (a0 : Nat) (M : sw_M) : Option (Int32 × sw_M) :=
  f_Models_leastMass_2 N N a0 (0 : Int32) M
set_option maxRecDepth 10000 in
theorem t_Models_leastMass {g : sw_G} {d n0 : Nat} (hd : 2 ≤ d) {r : Int32 × sw_M} {N : Nat} {a0 : Nat} {M : sw_M} (hf : f_Models_leastMass N a0 M = some r) : sw_F g k_Models_leastMass d n0 (some (.int r.1)) r.2 0 [(0, .ref a0)] [] M := by
  unfold f_Models_leastMass at hf
  refine sf_blk [(.iconst (0), 0, 0, .int (0 : Int32)), (.istore_n 1, 0, 0, .null)] (lv' := [(1, .int (0 : Int32)), (0, .ref a0)]) (st' := []) (M1 := M) (ob := []) (pc' := 2) (by decide +kernel) rfl rfl sw_a0 ?_
  exact sf_weak [1, 0] rfl (t_Models_leastMass_2 hd _ _ _ _ hf)
theorem o_Models_leastMass (g : sw_G) {d : Nat} (hd : 2 ≤ d) {N : Nat} {a0 : Nat} {M : sw_M} {r : Int32 × sw_M} (hf : f_Models_leastMass N a0 M = some r) : sw_Ok g k_Models_leastMass d [.ref a0] M (some (.int r.1)) r.2 := sf_met (by decide +kernel) rfl (by decide) (Nat.le_of_ble_eq_true rfl) (t_Models_leastMass hd hf)
def f_Models_greatestMass_7 (N : Nat) : Nat → Nat → Int32 → sw_M → Option (Int32 × sw_M)
  | 0, _, _, _ => none
  | j + 1, a0, a1, M =>
  if a1 < 0 then some ((-1 : Int32), M)
  else sw_gd [sw_ok M a0 2] ((f_Models_isKept N a0 a1 M).bind (fun u2 => if u2.1 = 0 then f_Models_greatestMass_7 N j a0 (a1 + (-1 : Int32)) u2.2
  else sw_gd [sw_ok u2.2 a0 2] ((f_Models_massOf N a0 a1 u2.2).bind (fun u4 => some (u4.1, u4.2)))))
set_option maxRecDepth 10000 in
theorem t_Models_greatestMass_7 {g : sw_G} {d n0 : Nat} (hd : 2 ≤ d) {r : Int32 × sw_M} {N : Nat} : ∀ (j : Nat) (a0 : Nat) (a1 : Int32) (M : sw_M), f_Models_greatestMass_7 N j a0 a1 M = some r → sw_F g k_Models_greatestMass d n0 (some (.int r.1)) r.2 7 [(0, .ref a0), (1, .int a1)] [] M := by
  intro j
  induction j with
  | zero =>
    intro a0 a1 M hf
    rw [f_Models_greatestMass_7] at hf
    cases hf
  | succ j ih =>
    intro a0 a1 M hf
    rw [f_Models_greatestMass_7] at hf
    refine sf_blk [(.iload_n 1, 0, 0, .null)] (lv' := [(0, .ref a0), (1, .int a1)]) (st' := [.int a1]) (M1 := M) (ob := []) (pc' := 8) (by decide +kernel) rfl rfl sw_a0 ?_
    refine sf_z_lt (off := 23) (tgt := 31) (by decide +kernel) (by decide) hf (fun hc hf => ?_) (fun hc hf => ?_)
    · refine sf_blk [(.iconst (-1), 0, 0, .int (-1 : Int32))] (lv' := [(0, .ref a0), (1, .int a1)]) (st' := [.int (-1 : Int32)]) (M1 := M) (ob := []) (pc' := 32) (by decide +kernel) rfl rfl sw_a0 ?_
      cases hf
      exact sf_int rfl (by decide +kernel)
    · obtain ⟨h1, hf⟩ := sw_gd_1 hf
      refine sf_blk [(.aload_n 0, 0, 0, .null), (.iload_n 1, 0, 0, .null)] (lv' := [(0, .ref a0), (1, .int a1)]) (st' := [.int a1, .ref a0]) (M1 := M) (ob := []) (pc' := 13) (by decide +kernel) rfl rfl sw_a0 ?_
      obtain ⟨u2, hu2, hf⟩ := sw_bnd hf
      refine sf_callV (i := 84) (k2 := k_Models_isKept) (d2 := d - 1) (As := [.int a1]) (st := []) (q := a0) (ci := 2) mf_Models_isKept mi_Models_isKept ms_Models_isKept (sw_m5 150 (by decide +kernel)) rfl (by decide) (by decide +kernel) rfl (Nat.le_of_ble_eq_true rfl) (by omega) h1 (o_Models_isKept g (d := d - 1) (by omega) hu2) ?_
      show sw_F _ _ _ _ _ _ 16 [(0, .ref a0), (1, .int a1)] [.int u2.1] u2.2
      refine sf_z_eq (off := 9) (tgt := 25) (by decide +kernel) (by decide) hf (fun hc hf => ?_) (fun hc hf => ?_)
      · refine sf_blk [(.iinc 1 (-1), 0, 0, .int (-1 : Int32))] (lv' := [(1, .int (a1 + (-1 : Int32))), (0, .ref a0)]) (st' := []) (M1 := u2.2) (ob := []) (pc' := 28) (by decide +kernel) rfl rfl sw_a0 ?_
        refine sf_goto (off := -21) (tgt := 7) (by decide +kernel) (by decide) ?_
        exact sf_weak [1, 0] rfl (ih _ _ _ hf)
      · obtain ⟨h3, hf⟩ := sw_gd_1 hf
        refine sf_blk [(.aload_n 0, 0, 0, .null), (.iload_n 1, 0, 0, .null)] (lv' := [(0, .ref a0), (1, .int a1)]) (st' := [.int a1, .ref a0]) (M1 := u2.2) (ob := []) (pc' := 21) (by decide +kernel) rfl rfl sw_a0 ?_
        obtain ⟨u4, hu4, hf⟩ := sw_bnd hf
        refine sf_callV (i := 58) (k2 := k_Models_massOf) (d2 := d - 1) (As := [.int a1]) (st := []) (q := a0) (ci := 2) mf_Models_massOf mi_Models_massOf ms_Models_massOf (sw_m5 135 (by decide +kernel)) rfl (by decide) (by decide +kernel) rfl (Nat.le_of_ble_eq_true rfl) (by omega) h3 (o_Models_massOf g (d := d - 1) (by omega) hu4) ?_
        show sw_F _ _ _ _ _ _ 24 [(0, .ref a0), (1, .int a1)] [.int u4.1] u4.2
        cases hf
        exact sf_int rfl (by decide +kernel)
def f_Models_greatestMass (N : Nat) (a0 : Nat) (M : sw_M) : Option (Int32 × sw_M) :=
  sw_gd [sw_ok M a0 2] (f_Models_greatestMass_7 N N a0 ((rd_I M a0 6) - (1 : Int32)) M)
set_option maxRecDepth 10000 in
theorem t_Models_greatestMass {g : sw_G} {d n0 : Nat} (hd : 2 ≤ d) {r : Int32 × sw_M} {N : Nat} {a0 : Nat} {M : sw_M} (hf : f_Models_greatestMass N a0 M = some r) : sw_F g k_Models_greatestMass d n0 (some (.int r.1)) r.2 0 [(0, .ref a0)] [] M := by
  unfold f_Models_greatestMass at hf
  obtain ⟨h1, hf⟩ := sw_gd_1 hf
  refine sf_blk [(.aload_n 0, 0, 0, .null), (.getfield 42, 2, 6, .null), (.iconst (1), 0, 0, .int (1 : Int32)), (.isub, 0, 0, .null), (.istore_n 1, 0, 0, .null)] (lv' := [(1, .int ((rd_I M a0 6) - (1 : Int32))), (0, .ref a0)]) (st' := []) (M1 := M) (ob := [sw_ok M a0 2]) (pc' := 7) (by decide +kernel) rfl rfl (sw_a1 h1 sw_a0) ?_
  exact sf_weak [1, 0] rfl (t_Models_greatestMass_7 hd _ _ _ _ hf)
theorem o_Models_greatestMass (g : sw_G) {d : Nat} (hd : 2 ≤ d) {N : Nat} {a0 : Nat} {M : sw_M} {r : Int32 × sw_M} (hf : f_Models_greatestMass N a0 M = some r) : sw_Ok g k_Models_greatestMass d [.ref a0] M (some (.int r.1)) r.2 := sf_met (by decide +kernel) rfl (by decide) (Nat.le_of_ble_eq_true rfl) (t_Models_greatestMass hd hf)
def f_Models_mostAlike_86 (N : Nat) (k4 : Nat → Int32 → Int32 → Int32 → sw_M → Option (Int32 × sw_M)) (a0 : Nat) (a1 : Int32) (a2 : Int32) (a3 : Int32) (a4 : Int32) (M : sw_M) : Option (Int32 × sw_M) :=
  k4 a0 a1 (m_maxI a2 a4) (a3 + (1 : Int32)) M
set_option maxRecDepth 10000 in
theorem t_Models_mostAlike_86 {g : sw_G} {d n0 : Nat} (hd : 2 ≤ d) {r : Int32 × sw_M} (k4 : Nat → Int32 → Int32 → Int32 → sw_M → Option (Int32 × sw_M)) (hk4 : ∀ (a0 : Nat) (a1 : Int32) (a2 : Int32) (a3 : Int32) (M : sw_M), k4 a0 a1 a2 a3 M = some r → sw_F g k_Models_mostAlike d n0 (some (.int r.1)) r.2 4 [(0, .ref a0), (1, .int a1), (2, .int a2), (3, .int a3)] [] M) {N : Nat} {a0 : Nat} {a1 : Int32} {a2 : Int32} {a3 : Int32} {a4 : Int32} {M : sw_M} (hf : f_Models_mostAlike_86 N k4 a0 a1 a2 a3 a4 M = some r) : sw_F g k_Models_mostAlike d n0 (some (.int r.1)) r.2 86 [(0, .ref a0), (1, .int a1), (2, .int a2), (3, .int a3), (4, .int a4)] [] M := by
  unfold f_Models_mostAlike_86 at hf
  refine sf_blk [(.iload_n 2, 0, 0, .null), (.iload 4, 0, 0, .null)] (lv' := [(0, .ref a0), (1, .int a1), (2, .int a2), (3, .int a3), (4, .int a4)]) (st' := [.int a4, .int a2]) (M1 := M) (ob := []) (pc' := 89) (by decide +kernel) rfl rfl sw_a0 ?_
  refine sf_maxI (i := 95) (st := []) (sw_m5 176 (by decide +kernel)) (by decide +kernel) (by omega) (Nat.le_of_ble_eq_true rfl) ?_
  show sw_F _ _ _ _ _ _ 92 [(0, .ref a0), (1, .int a1), (2, .int a2), (3, .int a3), (4, .int a4)] [.int (m_maxI a2 a4)] M
  refine sf_blk [(.istore_n 2, 0, 0, .null), (.iinc 3 (1), 0, 0, .int (1 : Int32))] (lv' := [(3, .int (a3 + (1 : Int32))), (2, .int (m_maxI a2 a4)), (0, .ref a0), (1, .int a1), (4, .int a4)]) (st' := []) (M1 := M) (ob := []) (pc' := 96) (by decide +kernel) rfl rfl sw_a0 ?_
  refine sf_goto (off := -92) (tgt := 4) (by decide +kernel) (by decide) ?_
  exact sf_weak [2, 3, 1, 0] rfl (hk4 _ _ _ _ _ hf)
def f_Models_mostAlike_80 (N : Nat) (k4 : Nat → Int32 → Int32 → Int32 → sw_M → Option (Int32 × sw_M)) (k24 : Nat → Int32 → Int32 → Int32 → Int32 → Int32 → sw_M → Option (Int32 × sw_M)) (a0 : Nat) (a1 : Int32) (a2 : Int32) (a3 : Int32) (a4 : Int32) (a5 : Int32) (M : sw_M) : Option (Int32 × sw_M) :=
  k24 a0 a1 a2 a3 a4 (a5 + (1 : Int32)) M
set_option maxRecDepth 10000 in
theorem t_Models_mostAlike_80 {g : sw_G} {d n0 : Nat} (hd : 2 ≤ d) {r : Int32 × sw_M} (k4 : Nat → Int32 → Int32 → Int32 → sw_M → Option (Int32 × sw_M)) (hk4 : ∀ (a0 : Nat) (a1 : Int32) (a2 : Int32) (a3 : Int32) (M : sw_M), k4 a0 a1 a2 a3 M = some r → sw_F g k_Models_mostAlike d n0 (some (.int r.1)) r.2 4 [(0, .ref a0), (1, .int a1), (2, .int a2), (3, .int a3)] [] M) (k24 : Nat → Int32 → Int32 → Int32 → Int32 → Int32 → sw_M → Option (Int32 × sw_M)) (hk24 : ∀ (a0 : Nat) (a1 : Int32) (a2 : Int32) (a3 : Int32) (a4 : Int32) (a5 : Int32) (M : sw_M), k24 a0 a1 a2 a3 a4 a5 M = some r → sw_F g k_Models_mostAlike d n0 (some (.int r.1)) r.2 24 [(0, .ref a0), (1, .int a1), (2, .int a2), (3, .int a3), (4, .int a4), (5, .int a5)] [] M) {N : Nat} {a0 : Nat} {a1 : Int32} {a2 : Int32} {a3 : Int32} {a4 : Int32} {a5 : Int32} {M : sw_M} (hf : f_Models_mostAlike_80 N k4 k24 a0 a1 a2 a3 a4 a5 M = some r) : sw_F g k_Models_mostAlike d n0 (some (.int r.1)) r.2 80 [(0, .ref a0), (1, .int a1), (2, .int a2), (3, .int a3), (4, .int a4), (5, .int a5)] [] M := by
  unfold f_Models_mostAlike_80 at hf
  refine sf_blk [(.iinc 5 (1), 0, 0, .int (1 : Int32))] (lv' := [(5, .int (a5 + (1 : Int32))), (0, .ref a0), (1, .int a1), (2, .int a2), (3, .int a3), (4, .int a4)]) (st' := []) (M1 := M) (ob := []) (pc' := 83) (by decide +kernel) rfl rfl sw_a0 ?_
  refine sf_goto (off := -59) (tgt := 24) (by decide +kernel) (by decide) ?_
  exact sf_weak [1, 2, 3, 4, 5, 0] rfl (hk24 _ _ _ _ _ _ _ hf)
def f_Models_mostAlike_24 (N : Nat) (k4 : Nat → Int32 → Int32 → Int32 → sw_M → Option (Int32 × sw_M)) : Nat → Nat → Int32 → Int32 → Int32 → Int32 → Int32 → sw_M → Option (Int32 × sw_M)
  | 0, _, _, _, _, _, _, _ => none
  | j + 1, a0, a1, a2, a3, a4, a5, M =>
  sw_gd [sw_ok M a0 2] (if (rd_I M a0 6) ≤ a5 then f_Models_mostAlike_86 N k4 a0 a1 a2 a3 a4 M
  else if (8 : Int32) ≤ a5 then f_Models_mostAlike_86 N k4 a0 a1 a2 a3 a4 M
  else (f_Models_isKept N a0 a3 M).bind (fun u2 => if u2.1 = 0 then f_Models_mostAlike_80 N k4 (f_Models_mostAlike_24 N k4 j) a0 a1 a2 a3 a4 a5 u2.2
  else sw_gd [sw_ok u2.2 a0 2] ((f_Models_isKept N a0 a5 u2.2).bind (fun u4 => if u4.1 = 0 then f_Models_mostAlike_80 N k4 (f_Models_mostAlike_24 N k4 j) a0 a1 a2 a3 a4 a5 u4.2
  else sw_gd [sw_ok u4.2 a0 2] (sw_gd [sw_ar u4.2 (rd_R u4.2 a0 4) 17 a3 || (sw_ar u4.2 (rd_R u4.2 a0 4) 18 a3 || sw_ar u4.2 (rd_R u4.2 a0 4) 19 a3)] (sw_gd [sw_ar u4.2 (rd_R u4.2 (rd_R u4.2 a0 4) a3.toNatClampNeg) 13 a1] (sw_gd [sw_ar u4.2 (rd_R u4.2 a0 4) 17 a5 || (sw_ar u4.2 (rd_R u4.2 a0 4) 18 a5 || sw_ar u4.2 (rd_R u4.2 a0 4) 19 a5)] (sw_gd [sw_ar u4.2 (rd_R u4.2 (rd_R u4.2 a0 4) a5.toNatClampNeg) 13 a1] (if (rd_I u4.2 (rd_R u4.2 (rd_R u4.2 a0 4) a3.toNatClampNeg) a1.toNatClampNeg) = (rd_I u4.2 (rd_R u4.2 (rd_R u4.2 a0 4) a5.toNatClampNeg) a1.toNatClampNeg) then f_Models_mostAlike_80 N k4 (f_Models_mostAlike_24 N k4 j) a0 a1 a2 a3 (a4 + (1 : Int32)) a5 u4.2
  else f_Models_mostAlike_80 N k4 (f_Models_mostAlike_24 N k4 j) a0 a1 a2 a3 a4 a5 u4.2)))))))))
set_option maxRecDepth 10000 in
theorem t_Models_mostAlike_24 {g : sw_G} {d n0 : Nat} (hd : 2 ≤ d) {r : Int32 × sw_M} (k4 : Nat → Int32 → Int32 → Int32 → sw_M → Option (Int32 × sw_M)) (hk4 : ∀ (a0 : Nat) (a1 : Int32) (a2 : Int32) (a3 : Int32) (M : sw_M), k4 a0 a1 a2 a3 M = some r → sw_F g k_Models_mostAlike d n0 (some (.int r.1)) r.2 4 [(0, .ref a0), (1, .int a1), (2, .int a2), (3, .int a3)] [] M) {N : Nat} : ∀ (j : Nat) (a0 : Nat) (a1 : Int32) (a2 : Int32) (a3 : Int32) (a4 : Int32) (a5 : Int32) (M : sw_M), f_Models_mostAlike_24 N k4 j a0 a1 a2 a3 a4 a5 M = some r → sw_F g k_Models_mostAlike d n0 (some (.int r.1)) r.2 24 [(0, .ref a0), (1, .int a1), (2, .int a2), (3, .int a3), (4, .int a4), (5, .int a5)] [] M := by
  intro j
  induction j with
  | zero =>
    intro a0 a1 a2 a3 a4 a5 M hf
    rw [f_Models_mostAlike_24] at hf
    cases hf
  | succ j ih =>
    intro a0 a1 a2 a3 a4 a5 M hf
    rw [f_Models_mostAlike_24] at hf
    obtain ⟨h1, hf⟩ := sw_gd_1 hf
    refine sf_blk [(.iload 5, 0, 0, .null), (.aload_n 0, 0, 0, .null), (.getfield 42, 2, 6, .null)] (lv' := [(0, .ref a0), (1, .int a1), (2, .int a2), (3, .int a3), (4, .int a4), (5, .int a5)]) (st' := [.int (rd_I M a0 6), .int a5]) (M1 := M) (ob := [sw_ok M a0 2]) (pc' := 30) (by decide +kernel) rfl rfl (sw_a1 h1 sw_a0) ?_
    refine sf_j_ge (off := 56) (tgt := 86) (by decide +kernel) (by decide) hf (fun hc hf => ?_) (fun hc hf => ?_)
    · exact sf_weak [0, 1, 2, 3, 4] rfl (t_Models_mostAlike_86 hd _ hk4 hf)
    · refine sf_blk [(.iload 5, 0, 0, .null), (.bipush (8), 0, 0, .int (8 : Int32))] (lv' := [(0, .ref a0), (1, .int a1), (2, .int a2), (3, .int a3), (4, .int a4), (5, .int a5)]) (st' := [.int (8 : Int32), .int a5]) (M1 := M) (ob := []) (pc' := 37) (by decide +kernel) rfl rfl sw_a0 ?_
      refine sf_j_ge (off := 49) (tgt := 86) (by decide +kernel) (by decide) hf (fun hc hf => ?_) (fun hc hf => ?_)
      · exact sf_weak [0, 1, 2, 3, 4] rfl (t_Models_mostAlike_86 hd _ hk4 hf)
      · refine sf_blk [(.aload_n 0, 0, 0, .null), (.iload_n 3, 0, 0, .null)] (lv' := [(0, .ref a0), (1, .int a1), (2, .int a2), (3, .int a3), (4, .int a4), (5, .int a5)]) (st' := [.int a3, .ref a0]) (M1 := M) (ob := []) (pc' := 42) (by decide +kernel) rfl rfl sw_a0 ?_
        obtain ⟨u2, hu2, hf⟩ := sw_bnd hf
        refine sf_callV (i := 84) (k2 := k_Models_isKept) (d2 := d - 1) (As := [.int a3]) (st := []) (q := a0) (ci := 2) mf_Models_isKept mi_Models_isKept ms_Models_isKept (sw_m5 150 (by decide +kernel)) rfl (by decide) (by decide +kernel) rfl (Nat.le_of_ble_eq_true rfl) (by omega) h1 (o_Models_isKept g (d := d - 1) (by omega) hu2) ?_
        show sw_F _ _ _ _ _ _ 45 [(0, .ref a0), (1, .int a1), (2, .int a2), (3, .int a3), (4, .int a4), (5, .int a5)] [.int u2.1] u2.2
        refine sf_z_eq (off := 35) (tgt := 80) (by decide +kernel) (by decide) hf (fun hc hf => ?_) (fun hc hf => ?_)
        · exact sf_weak [0, 1, 2, 3, 4, 5] rfl (t_Models_mostAlike_80 hd _ hk4 _ ih hf)
        · obtain ⟨h3, hf⟩ := sw_gd_1 hf
          refine sf_blk [(.aload_n 0, 0, 0, .null), (.iload 5, 0, 0, .null)] (lv' := [(0, .ref a0), (1, .int a1), (2, .int a2), (3, .int a3), (4, .int a4), (5, .int a5)]) (st' := [.int a5, .ref a0]) (M1 := u2.2) (ob := []) (pc' := 51) (by decide +kernel) rfl rfl sw_a0 ?_
          obtain ⟨u4, hu4, hf⟩ := sw_bnd hf
          refine sf_callV (i := 84) (k2 := k_Models_isKept) (d2 := d - 1) (As := [.int a5]) (st := []) (q := a0) (ci := 2) mf_Models_isKept mi_Models_isKept ms_Models_isKept (sw_m5 150 (by decide +kernel)) rfl (by decide) (by decide +kernel) rfl (Nat.le_of_ble_eq_true rfl) (by omega) h3 (o_Models_isKept g (d := d - 1) (by omega) hu4) ?_
          show sw_F _ _ _ _ _ _ 54 [(0, .ref a0), (1, .int a1), (2, .int a2), (3, .int a3), (4, .int a4), (5, .int a5)] [.int u4.1] u4.2
          refine sf_z_eq (off := 26) (tgt := 80) (by decide +kernel) (by decide) hf (fun hc hf => ?_) (fun hc hf => ?_)
          · exact sf_weak [0, 1, 2, 3, 4, 5] rfl (t_Models_mostAlike_80 hd _ hk4 _ ih hf)
          · obtain ⟨h5, hf⟩ := sw_gd_1 hf
            obtain ⟨h6, hf⟩ := sw_gd_1 hf
            obtain ⟨h7, hf⟩ := sw_gd_1 hf
            obtain ⟨h8, hf⟩ := sw_gd_1 hf
            obtain ⟨h9, hf⟩ := sw_gd_1 hf
            refine sf_blk [(.aload_n 0, 0, 0, .null), (.getfield 11, 2, 4, .null), (.iload_n 3, 0, 0, .null), (.aaload, 0, 0, .null), (.iload_n 1, 0, 0, .null), (.iaload, 0, 0, .null), (.aload_n 0, 0, 0, .null), (.getfield 11, 2, 4, .null), (.iload 5, 0, 0, .null), (.aaload, 0, 0, .null), (.iload_n 1, 0, 0, .null), (.iaload, 0, 0, .null)] (lv' := [(0, .ref a0), (1, .int a1), (2, .int a2), (3, .int a3), (4, .int a4), (5, .int a5)]) (st' := [.int (rd_I u4.2 (rd_R u4.2 (rd_R u4.2 a0 4) a5.toNatClampNeg) a1.toNatClampNeg), .int (rd_I u4.2 (rd_R u4.2 (rd_R u4.2 a0 4) a3.toNatClampNeg) a1.toNatClampNeg)]) (M1 := u4.2) (ob := [sw_ok u4.2 a0 2, sw_ar u4.2 (rd_R u4.2 a0 4) 17 a3 || (sw_ar u4.2 (rd_R u4.2 a0 4) 18 a3 || sw_ar u4.2 (rd_R u4.2 a0 4) 19 a3), sw_ar u4.2 (rd_R u4.2 (rd_R u4.2 a0 4) a3.toNatClampNeg) 13 a1, sw_ok u4.2 a0 2, sw_ar u4.2 (rd_R u4.2 a0 4) 17 a5 || (sw_ar u4.2 (rd_R u4.2 a0 4) 18 a5 || sw_ar u4.2 (rd_R u4.2 a0 4) 19 a5), sw_ar u4.2 (rd_R u4.2 (rd_R u4.2 a0 4) a5.toNatClampNeg) 13 a1]) (pc' := 74) (by decide +kernel) rfl rfl (sw_a1 h5 (sw_a1 h6 (sw_a1 h7 (sw_a1 h5 (sw_a1 h8 (sw_a1 h9 sw_a0)))))) ?_
            refine sf_j_ne (off := 6) (tgt := 80) (by decide +kernel) (by decide) hf (fun hc hf => ?_) (fun hc hf => ?_)
            · exact sf_weak [0, 1, 2, 3, 4, 5] rfl (t_Models_mostAlike_80 hd _ hk4 _ ih hf)
            · refine sf_blk [(.iinc 4 (1), 0, 0, .int (1 : Int32))] (lv' := [(4, .int (a4 + (1 : Int32))), (0, .ref a0), (1, .int a1), (2, .int a2), (3, .int a3), (5, .int a5)]) (st' := []) (M1 := u4.2) (ob := []) (pc' := 80) (by decide +kernel) rfl rfl sw_a0 ?_
              exact sf_weak [1, 2, 3, 4, 0, 5] rfl (t_Models_mostAlike_80 hd _ hk4 _ ih hf)
def f_Models_mostAlike_4 (N : Nat) : Nat → Nat → Int32 → Int32 → Int32 → sw_M → Option (Int32 × sw_M)
  | 0, _, _, _, _, _ => none
  | j + 1, a0, a1, a2, a3, M =>
  sw_gd [sw_ok M a0 2] (if (rd_I M a0 6) ≤ a3 then some (a2, M)
  else if (8 : Int32) ≤ a3 then some (a2, M)
  else f_Models_mostAlike_24 N (f_Models_mostAlike_4 N j) N a0 a1 a2 a3 (0 : Int32) (0 : Int32) M)
set_option maxRecDepth 10000 in
theorem t_Models_mostAlike_4 {g : sw_G} {d n0 : Nat} (hd : 2 ≤ d) {r : Int32 × sw_M} {N : Nat} : ∀ (j : Nat) (a0 : Nat) (a1 : Int32) (a2 : Int32) (a3 : Int32) (M : sw_M), f_Models_mostAlike_4 N j a0 a1 a2 a3 M = some r → sw_F g k_Models_mostAlike d n0 (some (.int r.1)) r.2 4 [(0, .ref a0), (1, .int a1), (2, .int a2), (3, .int a3)] [] M := by
  intro j
  induction j with
  | zero =>
    intro a0 a1 a2 a3 M hf
    rw [f_Models_mostAlike_4] at hf
    cases hf
  | succ j ih =>
    intro a0 a1 a2 a3 M hf
    rw [f_Models_mostAlike_4] at hf
    obtain ⟨h1, hf⟩ := sw_gd_1 hf
    refine sf_blk [(.iload_n 3, 0, 0, .null), (.aload_n 0, 0, 0, .null), (.getfield 42, 2, 6, .null)] (lv' := [(0, .ref a0), (1, .int a1), (2, .int a2), (3, .int a3)]) (st' := [.int (rd_I M a0 6), .int a3]) (M1 := M) (ob := [sw_ok M a0 2]) (pc' := 9) (by decide +kernel) rfl rfl (sw_a1 h1 sw_a0) ?_
    refine sf_j_ge (off := 90) (tgt := 99) (by decide +kernel) (by decide) hf (fun hc hf => ?_) (fun hc hf => ?_)
    · refine sf_blk [(.iload_n 2, 0, 0, .null)] (lv' := [(0, .ref a0), (1, .int a1), (2, .int a2), (3, .int a3)]) (st' := [.int a2]) (M1 := M) (ob := []) (pc' := 100) (by decide +kernel) rfl rfl sw_a0 ?_
      cases hf
      exact sf_int rfl (by decide +kernel)
    · refine sf_blk [(.iload_n 3, 0, 0, .null), (.bipush (8), 0, 0, .int (8 : Int32))] (lv' := [(0, .ref a0), (1, .int a1), (2, .int a2), (3, .int a3)]) (st' := [.int (8 : Int32), .int a3]) (M1 := M) (ob := []) (pc' := 15) (by decide +kernel) rfl rfl sw_a0 ?_
      refine sf_j_ge (off := 84) (tgt := 99) (by decide +kernel) (by decide) hf (fun hc hf => ?_) (fun hc hf => ?_)
      · refine sf_blk [(.iload_n 2, 0, 0, .null)] (lv' := [(0, .ref a0), (1, .int a1), (2, .int a2), (3, .int a3)]) (st' := [.int a2]) (M1 := M) (ob := []) (pc' := 100) (by decide +kernel) rfl rfl sw_a0 ?_
        cases hf
        exact sf_int rfl (by decide +kernel)
      · refine sf_blk [(.iconst (0), 0, 0, .int (0 : Int32)), (.istore 4, 0, 0, .null), (.iconst (0), 0, 0, .int (0 : Int32)), (.istore 5, 0, 0, .null)] (lv' := [(5, .int (0 : Int32)), (4, .int (0 : Int32)), (0, .ref a0), (1, .int a1), (2, .int a2), (3, .int a3)]) (st' := []) (M1 := M) (ob := []) (pc' := 24) (by decide +kernel) rfl rfl sw_a0 ?_
        exact sf_weak [2, 3, 4, 5, 1, 0] rfl (t_Models_mostAlike_24 hd _ ih _ _ _ _ _ _ _ _ hf)
def f_Models_mostAlike (N : Nat) (a0 : Nat) (a1 : Int32) (M : sw_M) : Option (Int32 × sw_M) :=
  f_Models_mostAlike_4 N N a0 a1 (0 : Int32) (0 : Int32) M
set_option maxRecDepth 10000 in
theorem t_Models_mostAlike {g : sw_G} {d n0 : Nat} (hd : 2 ≤ d) {r : Int32 × sw_M} {N : Nat} {a0 : Nat} {a1 : Int32} {M : sw_M} (hf : f_Models_mostAlike N a0 a1 M = some r) : sw_F g k_Models_mostAlike d n0 (some (.int r.1)) r.2 0 [(0, .ref a0), (1, .int a1)] [] M := by
  unfold f_Models_mostAlike at hf
  refine sf_blk [(.iconst (0), 0, 0, .int (0 : Int32)), (.istore_n 2, 0, 0, .null), (.iconst (0), 0, 0, .int (0 : Int32)), (.istore_n 3, 0, 0, .null)] (lv' := [(3, .int (0 : Int32)), (2, .int (0 : Int32)), (0, .ref a0), (1, .int a1)]) (st' := []) (M1 := M) (ob := []) (pc' := 4) (by decide +kernel) rfl rfl sw_a0 ?_
  exact sf_weak [2, 3, 1, 0] rfl (t_Models_mostAlike_4 hd _ _ _ _ _ _ hf)
theorem o_Models_mostAlike (g : sw_G) {d : Nat} (hd : 2 ≤ d) {N : Nat} {a0 : Nat} {a1 : Int32} {M : sw_M} {r : Int32 × sw_M} (hf : f_Models_mostAlike N a0 a1 M = some r) : sw_Ok g k_Models_mostAlike d [.ref a0, .int a1] M (some (.int r.1)) r.2 := sf_met (by decide +kernel) rfl (by decide) (Nat.le_of_ble_eq_true rfl) (t_Models_mostAlike hd hf)
def f_Models_look_54 (N : Nat) (k21 : Nat → Int32 → Int32 → Int32 → Int32 → sw_M → Option (Int32 × sw_M)) (a0 : Nat) (a1 : Int32) (a2 : Int32) (a3 : Int32) (a4 : Int32) (M : sw_M) : Option (Int32 × sw_M) :=
  k21 a0 a1 a2 a3 (a4 + (1 : Int32)) M
set_option maxRecDepth 10000 in
theorem t_Models_look_54 {g : sw_G} {d n0 : Nat} (hd : 3 ≤ d) {r : Int32 × sw_M} (k21 : Nat → Int32 → Int32 → Int32 → Int32 → sw_M → Option (Int32 × sw_M)) (hk21 : ∀ (a0 : Nat) (a1 : Int32) (a2 : Int32) (a3 : Int32) (a4 : Int32) (M : sw_M), k21 a0 a1 a2 a3 a4 M = some r → sw_F g k_Models_look d n0 (some (.int r.1)) r.2 21 [(0, .ref a0), (1, .int a1), (2, .int a2), (3, .int a3), (4, .int a4)] [] M) {N : Nat} {a0 : Nat} {a1 : Int32} {a2 : Int32} {a3 : Int32} {a4 : Int32} {M : sw_M} (hf : f_Models_look_54 N k21 a0 a1 a2 a3 a4 M = some r) : sw_F g k_Models_look d n0 (some (.int r.1)) r.2 54 [(0, .ref a0), (1, .int a1), (2, .int a2), (3, .int a3), (4, .int a4)] [] M := by
  unfold f_Models_look_54 at hf
  refine sf_blk [(.iinc 4 (1), 0, 0, .int (1 : Int32))] (lv' := [(4, .int (a4 + (1 : Int32))), (0, .ref a0), (1, .int a1), (2, .int a2), (3, .int a3)]) (st' := []) (M1 := M) (ob := []) (pc' := 57) (by decide +kernel) rfl rfl sw_a0 ?_
  refine sf_goto (off := -36) (tgt := 21) (by decide +kernel) (by decide) ?_
  exact sf_weak [1, 2, 3, 4, 0] rfl (hk21 _ _ _ _ _ _ hf)
def f_Models_look_21 (N : Nat) : Nat → Nat → Int32 → Int32 → Int32 → Int32 → sw_M → Option (Int32 × sw_M)
  | 0, _, _, _, _, _, _ => none
  | j + 1, a0, a1, a2, a3, a4, M =>
  if a1 ≤ a4 then some (a2, M)
  else if (64 : Int32) ≤ a4 then some (a2, M)
  else sw_gd [sw_ok M a0 2] ((f_Models_mostAlike N a0 a4 M).bind (fun u2 => if a3 ≤ u2.1 then f_Models_look_54 N (f_Models_look_21 N j) a0 a1 a2 a3 a4 u2.2
  else f_Models_look_54 N (f_Models_look_21 N j) a0 a1 a4 u2.1 a4 u2.2))
set_option maxRecDepth 10000 in
theorem t_Models_look_21 {g : sw_G} {d n0 : Nat} (hd : 3 ≤ d) {r : Int32 × sw_M} {N : Nat} : ∀ (j : Nat) (a0 : Nat) (a1 : Int32) (a2 : Int32) (a3 : Int32) (a4 : Int32) (M : sw_M), f_Models_look_21 N j a0 a1 a2 a3 a4 M = some r → sw_F g k_Models_look d n0 (some (.int r.1)) r.2 21 [(0, .ref a0), (1, .int a1), (2, .int a2), (3, .int a3), (4, .int a4)] [] M := by
  intro j
  induction j with
  | zero =>
    intro a0 a1 a2 a3 a4 M hf
    rw [f_Models_look_21] at hf
    cases hf
  | succ j ih =>
    intro a0 a1 a2 a3 a4 M hf
    rw [f_Models_look_21] at hf
    refine sf_blk [(.iload 4, 0, 0, .null), (.iload_n 1, 0, 0, .null)] (lv' := [(0, .ref a0), (1, .int a1), (2, .int a2), (3, .int a3), (4, .int a4)]) (st' := [.int a1, .int a4]) (M1 := M) (ob := []) (pc' := 24) (by decide +kernel) rfl rfl sw_a0 ?_
    refine sf_j_ge (off := 36) (tgt := 60) (by decide +kernel) (by decide) hf (fun hc hf => ?_) (fun hc hf => ?_)
    · refine sf_blk [(.iload_n 2, 0, 0, .null)] (lv' := [(0, .ref a0), (1, .int a1), (2, .int a2), (3, .int a3), (4, .int a4)]) (st' := [.int a2]) (M1 := M) (ob := []) (pc' := 61) (by decide +kernel) rfl rfl sw_a0 ?_
      cases hf
      exact sf_int rfl (by decide +kernel)
    · refine sf_blk [(.iload 4, 0, 0, .null), (.bipush (64), 0, 0, .int (64 : Int32))] (lv' := [(0, .ref a0), (1, .int a1), (2, .int a2), (3, .int a3), (4, .int a4)]) (st' := [.int (64 : Int32), .int a4]) (M1 := M) (ob := []) (pc' := 31) (by decide +kernel) rfl rfl sw_a0 ?_
      refine sf_j_ge (off := 29) (tgt := 60) (by decide +kernel) (by decide) hf (fun hc hf => ?_) (fun hc hf => ?_)
      · refine sf_blk [(.iload_n 2, 0, 0, .null)] (lv' := [(0, .ref a0), (1, .int a1), (2, .int a2), (3, .int a3), (4, .int a4)]) (st' := [.int a2]) (M1 := M) (ob := []) (pc' := 61) (by decide +kernel) rfl rfl sw_a0 ?_
        cases hf
        exact sf_int rfl (by decide +kernel)
      · obtain ⟨h1, hf⟩ := sw_gd_1 hf
        refine sf_blk [(.aload_n 0, 0, 0, .null), (.iload 4, 0, 0, .null)] (lv' := [(0, .ref a0), (1, .int a1), (2, .int a2), (3, .int a3), (4, .int a4)]) (st' := [.int a4, .ref a0]) (M1 := M) (ob := []) (pc' := 37) (by decide +kernel) rfl rfl sw_a0 ?_
        obtain ⟨u2, hu2, hf⟩ := sw_bnd hf
        refine sf_callV (i := 92) (k2 := k_Models_mostAlike) (d2 := d - 1) (As := [.int a4]) (st := []) (q := a0) (ci := 2) mf_Models_mostAlike mi_Models_mostAlike ms_Models_mostAlike (sw_m5 172 (by decide +kernel)) rfl (by decide) (by decide +kernel) rfl (Nat.le_of_ble_eq_true rfl) (by omega) h1 (o_Models_mostAlike g (d := d - 1) (by omega) hu2) ?_
        show sw_F _ _ _ _ _ _ 40 [(0, .ref a0), (1, .int a1), (2, .int a2), (3, .int a3), (4, .int a4)] [.int u2.1] u2.2
        refine sf_blk [(.istore 5, 0, 0, .null), (.iload 5, 0, 0, .null), (.iload_n 3, 0, 0, .null)] (lv' := [(5, .int u2.1), (0, .ref a0), (1, .int a1), (2, .int a2), (3, .int a3), (4, .int a4)]) (st' := [.int a3, .int u2.1]) (M1 := u2.2) (ob := []) (pc' := 45) (by decide +kernel) rfl rfl sw_a0 ?_
        refine sf_j_ge (off := 9) (tgt := 54) (by decide +kernel) (by decide) hf (fun hc hf => ?_) (fun hc hf => ?_)
        · exact sf_weak [1, 2, 3, 4, 5] rfl (t_Models_look_54 hd _ ih hf)
        · refine sf_blk [(.iload 5, 0, 0, .null), (.istore_n 3, 0, 0, .null), (.iload 4, 0, 0, .null), (.istore_n 2, 0, 0, .null)] (lv' := [(2, .int a4), (3, .int u2.1), (5, .int u2.1), (0, .ref a0), (1, .int a1), (4, .int a4)]) (st' := []) (M1 := u2.2) (ob := []) (pc' := 54) (by decide +kernel) rfl rfl sw_a0 ?_
          exact sf_weak [3, 4, 0, 1, 5] rfl (t_Models_look_54 hd _ ih hf)
def f_Models_look (N : Nat) (a0 : Nat) (a1 : Int32) (M : sw_M) : Option (Int32 × sw_M) :=
  sw_gd [sw_ok M a0 2] ((f_Int_bitCount N (rd_I M a0 7) M).bind (fun u2 => if (2 : Int32) ≤ u2.1 then f_Models_look_21 N N a0 a1 (-1 : Int32) (9 : Int32) (0 : Int32) u2.2
  else some ((-1 : Int32), u2.2)))
set_option maxRecDepth 10000 in
theorem t_Models_look {g : sw_G} {d n0 : Nat} (hd : 3 ≤ d) {r : Int32 × sw_M} {N : Nat} {a0 : Nat} {a1 : Int32} {M : sw_M} (hf : f_Models_look N a0 a1 M = some r) : sw_F g k_Models_look d n0 (some (.int r.1)) r.2 0 [(0, .ref a0), (1, .int a1)] [] M := by
  unfold f_Models_look at hf
  obtain ⟨h1, hf⟩ := sw_gd_1 hf
  refine sf_blk [(.aload_n 0, 0, 0, .null), (.getfield 45, 2, 7, .null)] (lv' := [(0, .ref a0), (1, .int a1)]) (st' := [.int (rd_I M a0 7)]) (M1 := M) (ob := [sw_ok M a0 2]) (pc' := 4) (by decide +kernel) rfl rfl (sw_a1 h1 sw_a0) ?_
  obtain ⟨u2, hu2, hf⟩ := sw_bnd hf
  refine sf_callS (i := 87) (k2 := k_Int_bitCount) (d2 := d - 1) (As := [.int (rd_I M a0 7)]) (st := []) mf_Int_bitCount mi_Int_bitCount (sw_m5 171 (by decide +kernel)) (by decide +kernel) rfl (Nat.le_of_ble_eq_true rfl) (by omega) (o_Int_bitCount g (d := d - 1) (by omega) hu2) ?_
  show sw_F _ _ _ _ _ _ 7 [(0, .ref a0), (1, .int a1)] [.int u2.1] u2.2
  refine sf_blk [(.iconst (2), 0, 0, .int (2 : Int32))] (lv' := [(0, .ref a0), (1, .int a1)]) (st' := [.int (2 : Int32), .int u2.1]) (M1 := u2.2) (ob := []) (pc' := 8) (by decide +kernel) rfl rfl sw_a0 ?_
  refine sf_j_ge (off := 5) (tgt := 13) (by decide +kernel) (by decide) hf (fun hc hf => ?_) (fun hc hf => ?_)
  · refine sf_blk [(.iconst (-1), 0, 0, .int (-1 : Int32)), (.istore_n 2, 0, 0, .null), (.bipush (9), 0, 0, .int (9 : Int32)), (.istore_n 3, 0, 0, .null), (.iconst (0), 0, 0, .int (0 : Int32)), (.istore 4, 0, 0, .null)] (lv' := [(4, .int (0 : Int32)), (3, .int (9 : Int32)), (2, .int (-1 : Int32)), (0, .ref a0), (1, .int a1)]) (st' := []) (M1 := u2.2) (ob := []) (pc' := 21) (by decide +kernel) rfl rfl sw_a0 ?_
    exact sf_weak [3, 4, 2, 1, 0] rfl (t_Models_look_21 hd _ _ _ _ _ _ _ hf)
  · refine sf_blk [(.iconst (-1), 0, 0, .int (-1 : Int32))] (lv' := [(0, .ref a0), (1, .int a1)]) (st' := [.int (-1 : Int32)]) (M1 := u2.2) (ob := []) (pc' := 12) (by decide +kernel) rfl rfl sw_a0 ?_
    cases hf
    exact sf_int rfl (by decide +kernel)
theorem o_Models_look (g : sw_G) {d : Nat} (hd : 3 ≤ d) {N : Nat} {a0 : Nat} {a1 : Int32} {M : sw_M} {r : Int32 × sw_M} (hf : f_Models_look N a0 a1 M = some r) : sw_Ok g k_Models_look d [.ref a0, .int a1] M (some (.int r.1)) r.2 := sf_met (by decide +kernel) rfl (by decide) (Nat.le_of_ble_eq_true rfl) (t_Models_look hd hf)
def f_Models_partingCell_18 (N : Nat) : Nat → Nat → Int32 → sw_M → Option (Int32 × sw_M)
  | 0, _, _, _ => none
  | j + 1, a0, a1, M =>
  if (64 : Int32) ≤ a1 then some ((-1 : Int32), M)
  else sw_gd [sw_ok M a0 2] (sw_gd [sw_ar M (rd_R M a0 4) 17 (rd_I M a0 8) || (sw_ar M (rd_R M a0 4) 18 (rd_I M a0 8) || sw_ar M (rd_R M a0 4) 19 (rd_I M a0 8))] (sw_gd [sw_ar M (rd_R M (rd_R M a0 4) (rd_I M a0 8).toNatClampNeg) 13 a1] (sw_gd [sw_ar M (rd_R M a0 4) 17 (rd_I M a0 9) || (sw_ar M (rd_R M a0 4) 18 (rd_I M a0 9) || sw_ar M (rd_R M a0 4) 19 (rd_I M a0 9))] (sw_gd [sw_ar M (rd_R M (rd_R M a0 4) (rd_I M a0 9).toNatClampNeg) 13 a1] (if (rd_I M (rd_R M (rd_R M a0 4) (rd_I M a0 8).toNatClampNeg) a1.toNatClampNeg) = (rd_I M (rd_R M (rd_R M a0 4) (rd_I M a0 9).toNatClampNeg) a1.toNatClampNeg) then f_Models_partingCell_18 N j a0 (a1 + (1 : Int32)) M
  else some (a1, M))))))
set_option maxRecDepth 10000 in
theorem t_Models_partingCell_18 {g : sw_G} {d n0 : Nat} (hd : 1 ≤ d) {r : Int32 × sw_M} {N : Nat} : ∀ (j : Nat) (a0 : Nat) (a1 : Int32) (M : sw_M), f_Models_partingCell_18 N j a0 a1 M = some r → sw_F g k_Models_partingCell d n0 (some (.int r.1)) r.2 18 [(0, .ref a0), (1, .int a1)] [] M := by
  intro j
  induction j with
  | zero =>
    intro a0 a1 M hf
    rw [f_Models_partingCell_18] at hf
    cases hf
  | succ j ih =>
    intro a0 a1 M hf
    rw [f_Models_partingCell_18] at hf
    refine sf_blk [(.iload_n 1, 0, 0, .null), (.bipush (64), 0, 0, .int (64 : Int32))] (lv' := [(0, .ref a0), (1, .int a1)]) (st' := [.int (64 : Int32), .int a1]) (M1 := M) (ob := []) (pc' := 21) (by decide +kernel) rfl rfl sw_a0 ?_
    refine sf_j_ge (off := 36) (tgt := 57) (by decide +kernel) (by decide) hf (fun hc hf => ?_) (fun hc hf => ?_)
    · refine sf_blk [(.iconst (-1), 0, 0, .int (-1 : Int32))] (lv' := [(0, .ref a0), (1, .int a1)]) (st' := [.int (-1 : Int32)]) (M1 := M) (ob := []) (pc' := 58) (by decide +kernel) rfl rfl sw_a0 ?_
      cases hf
      exact sf_int rfl (by decide +kernel)
    · obtain ⟨h1, hf⟩ := sw_gd_1 hf
      obtain ⟨h2, hf⟩ := sw_gd_1 hf
      obtain ⟨h3, hf⟩ := sw_gd_1 hf
      obtain ⟨h4, hf⟩ := sw_gd_1 hf
      obtain ⟨h5, hf⟩ := sw_gd_1 hf
      refine sf_blk [(.aload_n 0, 0, 0, .null), (.getfield 11, 2, 4, .null), (.aload_n 0, 0, 0, .null), (.getfield 101, 2, 8, .null), (.aaload, 0, 0, .null), (.iload_n 1, 0, 0, .null), (.iaload, 0, 0, .null), (.aload_n 0, 0, 0, .null), (.getfield 11, 2, 4, .null), (.aload_n 0, 0, 0, .null), (.getfield 104, 2, 9, .null), (.aaload, 0, 0, .null), (.iload_n 1, 0, 0, .null), (.iaload, 0, 0, .null)] (lv' := [(0, .ref a0), (1, .int a1)]) (st' := [.int (rd_I M (rd_R M (rd_R M a0 4) (rd_I M a0 9).toNatClampNeg) a1.toNatClampNeg), .int (rd_I M (rd_R M (rd_R M a0 4) (rd_I M a0 8).toNatClampNeg) a1.toNatClampNeg)]) (M1 := M) (ob := [sw_ok M a0 2, sw_ok M a0 2, sw_ar M (rd_R M a0 4) 17 (rd_I M a0 8) || (sw_ar M (rd_R M a0 4) 18 (rd_I M a0 8) || sw_ar M (rd_R M a0 4) 19 (rd_I M a0 8)), sw_ar M (rd_R M (rd_R M a0 4) (rd_I M a0 8).toNatClampNeg) 13 a1, sw_ok M a0 2, sw_ok M a0 2, sw_ar M (rd_R M a0 4) 17 (rd_I M a0 9) || (sw_ar M (rd_R M a0 4) 18 (rd_I M a0 9) || sw_ar M (rd_R M a0 4) 19 (rd_I M a0 9)), sw_ar M (rd_R M (rd_R M a0 4) (rd_I M a0 9).toNatClampNeg) 13 a1]) (pc' := 46) (by decide +kernel) rfl rfl (sw_a1 h1 (sw_a1 h1 (sw_a1 h2 (sw_a1 h3 (sw_a1 h1 (sw_a1 h1 (sw_a1 h4 (sw_a1 h5 sw_a0)))))))) ?_
      refine sf_j_eq (off := 5) (tgt := 51) (by decide +kernel) (by decide) hf (fun hc hf => ?_) (fun hc hf => ?_)
      · refine sf_blk [(.iinc 1 (1), 0, 0, .int (1 : Int32))] (lv' := [(1, .int (a1 + (1 : Int32))), (0, .ref a0)]) (st' := []) (M1 := M) (ob := []) (pc' := 54) (by decide +kernel) rfl rfl sw_a0 ?_
        refine sf_goto (off := -36) (tgt := 18) (by decide +kernel) (by decide) ?_
        exact sf_weak [1, 0] rfl (ih _ _ _ hf)
      · refine sf_blk [(.iload_n 1, 0, 0, .null)] (lv' := [(0, .ref a0), (1, .int a1)]) (st' := [.int a1]) (M1 := M) (ob := []) (pc' := 50) (by decide +kernel) rfl rfl sw_a0 ?_
        cases hf
        exact sf_int rfl (by decide +kernel)
def f_Models_partingCell (N : Nat) (a0 : Nat) (M : sw_M) : Option (Int32 × sw_M) :=
  sw_gd [sw_ok M a0 2] (if (rd_I M a0 8) < 0 then some ((-1 : Int32), M)
  else if 0 ≤ (rd_I M a0 9) then f_Models_partingCell_18 N N a0 (0 : Int32) M
  else some ((-1 : Int32), M))
set_option maxRecDepth 10000 in
theorem t_Models_partingCell {g : sw_G} {d n0 : Nat} (hd : 1 ≤ d) {r : Int32 × sw_M} {N : Nat} {a0 : Nat} {M : sw_M} (hf : f_Models_partingCell N a0 M = some r) : sw_F g k_Models_partingCell d n0 (some (.int r.1)) r.2 0 [(0, .ref a0)] [] M := by
  unfold f_Models_partingCell at hf
  obtain ⟨h1, hf⟩ := sw_gd_1 hf
  refine sf_blk [(.aload_n 0, 0, 0, .null), (.getfield 101, 2, 8, .null)] (lv' := [(0, .ref a0)]) (st' := [.int (rd_I M a0 8)]) (M1 := M) (ob := [sw_ok M a0 2]) (pc' := 4) (by decide +kernel) rfl rfl (sw_a1 h1 sw_a0) ?_
  refine sf_z_lt (off := 10) (tgt := 14) (by decide +kernel) (by decide) hf (fun hc hf => ?_) (fun hc hf => ?_)
  · refine sf_blk [(.iconst (-1), 0, 0, .int (-1 : Int32))] (lv' := [(0, .ref a0)]) (st' := [.int (-1 : Int32)]) (M1 := M) (ob := []) (pc' := 15) (by decide +kernel) rfl rfl sw_a0 ?_
    cases hf
    exact sf_int rfl (by decide +kernel)
  · refine sf_blk [(.aload_n 0, 0, 0, .null), (.getfield 104, 2, 9, .null)] (lv' := [(0, .ref a0)]) (st' := [.int (rd_I M a0 9)]) (M1 := M) (ob := [sw_ok M a0 2]) (pc' := 11) (by decide +kernel) rfl rfl (sw_a1 h1 sw_a0) ?_
    refine sf_z_ge (off := 5) (tgt := 16) (by decide +kernel) (by decide) hf (fun hc hf => ?_) (fun hc hf => ?_)
    · refine sf_blk [(.iconst (0), 0, 0, .int (0 : Int32)), (.istore_n 1, 0, 0, .null)] (lv' := [(1, .int (0 : Int32)), (0, .ref a0)]) (st' := []) (M1 := M) (ob := []) (pc' := 18) (by decide +kernel) rfl rfl sw_a0 ?_
      exact sf_weak [1, 0] rfl (t_Models_partingCell_18 hd _ _ _ _ hf)
    · refine sf_blk [(.iconst (-1), 0, 0, .int (-1 : Int32))] (lv' := [(0, .ref a0)]) (st' := [.int (-1 : Int32)]) (M1 := M) (ob := []) (pc' := 15) (by decide +kernel) rfl rfl sw_a0 ?_
      cases hf
      exact sf_int rfl (by decide +kernel)
theorem o_Models_partingCell (g : sw_G) {d : Nat} (hd : 1 ≤ d) {N : Nat} {a0 : Nat} {M : sw_M} {r : Int32 × sw_M} (hf : f_Models_partingCell N a0 M = some r) : sw_Ok g k_Models_partingCell d [.ref a0] M (some (.int r.1)) r.2 := sf_met (by decide +kernel) rfl (by decide) (Nat.le_of_ble_eq_true rfl) (t_Models_partingCell hd hf)
def f_House_models_131 (N : Nat) (a0 : Nat) (M : sw_M) : Option (Int32 × sw_M) :=
  sw_gd [sw_ok M a0 11] (sw_gd [sw_ok M (rd_R M a0 9) 2] (some ((rd_I M (rd_R M a0 9) 8), M)))
set_option maxRecDepth 10000 in
theorem t_House_models_131 {g : sw_G} {d n0 : Nat} (hd : 8 ≤ d) {r : Int32 × sw_M} {N : Nat} {a0 : Nat} {M : sw_M} (hf : f_House_models_131 N a0 M = some r) : sw_F g k_House_models d n0 (some (.int r.1)) r.2 131 [(0, .ref a0)] [] M := by
  unfold f_House_models_131 at hf
  obtain ⟨h1, hf⟩ := sw_gd_1 hf
  obtain ⟨h2, hf⟩ := sw_gd_1 hf
  refine sf_blk [(.aload_n 0, 0, 0, .null), (.getfield 74, 11, 9, .null), (.getfield 304, 2, 8, .null)] (lv' := [(0, .ref a0)]) (st' := [.int (rd_I M (rd_R M a0 9) 8)]) (M1 := M) (ob := [sw_ok M a0 11, sw_ok M (rd_R M a0 9) 2]) (pc' := 138) (by decide +kernel) rfl rfl (sw_a1 h1 (sw_a1 h2 sw_a0)) ?_
  cases hf
  exact sf_int rfl (by decide +kernel)
def f_House_models (N : Nat) (a0 : Nat) (a1 : Int32) (a2 : Int32) (M : sw_M) : Option (Int32 × sw_M) :=
  if a1 < (1 : Int32) then some ((-1 : Int32), M)
  else if (99999 : Int32) < a1 then some ((-1 : Int32), M)
  else if a2 < 0 then some ((-1 : Int32), M)
  else if a2 ≤ (7 : Int32) then sw_gd [sw_ok M a0 11] (sw_gd [sw_ok M (rd_R M a0 9) 2] ((f_Models_make N (rd_R M a0 9) a1 M).bind (fun u3 => if a2 = (0 : Int32) then sw_gd [sw_ok u3 a0 11] (sw_gd [sw_ok u3 (rd_R u3 a0 9) 2] (some ((rd_I u3 (rd_R u3 a0 9) 6), u3)))
  else if a2 = (1 : Int32) then sw_gd [sw_ok u3 a0 11] (sw_gd [sw_ok u3 (rd_R u3 a0 9) 2] (some ((rd_I u3 (rd_R u3 a0 9) 7), u3)))
  else if a2 = (2 : Int32) then sw_gd [sw_ok u3 a0 11] (sw_gd [sw_ok u3 (rd_R u3 a0 9) 2] ((f_Models_leastMass N (rd_R u3 a0 9) u3).bind (fun u13 => some (u13.1, u13.2))))
  else if a2 = (3 : Int32) then sw_gd [sw_ok u3 a0 11] (sw_gd [sw_ok u3 (rd_R u3 a0 9) 2] ((f_Models_greatestMass N (rd_R u3 a0 9) u3).bind (fun u17 => some (u17.1, u17.2))))
  else if a2 = (4 : Int32) then sw_gd [sw_ok u3 a0 11] (sw_gd [sw_ok u3 (rd_R u3 a0 6) 10] (sw_gd [sw_ok u3 (rd_R u3 a0 9) 2] ((f_Models_look N (rd_R u3 a0 9) ((rd_I u3 (rd_R u3 a0 6) 5) * (rd_I u3 (rd_R u3 a0 6) 5)) u3).bind (fun u22 => some (u22.1, u22.2)))))
  else if a2 = (5 : Int32) then f_House_models_131 N a0 u3
  else if a2 = (6 : Int32) then sw_gd [sw_ok u3 a0 11] (sw_gd [sw_ok u3 (rd_R u3 a0 9) 2] (some ((rd_I u3 (rd_R u3 a0 9) 9), u3)))
  else sw_gd [sw_ok u3 a0 11] (sw_gd [sw_ok u3 (rd_R u3 a0 9) 2] ((f_Models_partingCell N (rd_R u3 a0 9) u3).bind (fun u29 => some (u29.1, u29.2)))))))
  else some ((-1 : Int32), M)
set_option maxRecDepth 10000 in
theorem t_House_models {g : sw_G} {d n0 : Nat} (hd : 8 ≤ d) {r : Int32 × sw_M} {N : Nat} {a0 : Nat} {a1 : Int32} {a2 : Int32} {M : sw_M} (hf : f_House_models N a0 a1 a2 M = some r) : sw_F g k_House_models d n0 (some (.int r.1)) r.2 0 [(0, .ref a0), (1, .int a1), (2, .int a2)] [] M := by
  unfold f_House_models at hf
  refine sf_blk [(.iload_n 1, 0, 0, .null), (.iconst (1), 0, 0, .int (1 : Int32))] (lv' := [(0, .ref a0), (1, .int a1), (2, .int a2)]) (st' := [.int (1 : Int32), .int a1]) (M1 := M) (ob := []) (pc' := 2) (by decide +kernel) rfl rfl sw_a0 ?_
  refine sf_j_lt (off := 20) (tgt := 22) (by decide +kernel) (by decide) hf (fun hc hf => ?_) (fun hc hf => ?_)
  · refine sf_blk [(.iconst (-1), 0, 0, .int (-1 : Int32))] (lv' := [(0, .ref a0), (1, .int a1), (2, .int a2)]) (st' := [.int (-1 : Int32)]) (M1 := M) (ob := []) (pc' := 23) (by decide +kernel) rfl rfl sw_a0 ?_
    cases hf
    exact sf_int rfl (by decide +kernel)
  · refine sf_blk [(.iload_n 1, 0, 0, .null), (.ldc_w 287, 0, 0, .int (99999 : Int32))] (lv' := [(0, .ref a0), (1, .int a1), (2, .int a2)]) (st' := [.int (99999 : Int32), .int a1]) (M1 := M) (ob := []) (pc' := 9) (by decide +kernel) rfl rfl sw_a0 ?_
    refine sf_j_gt (off := 13) (tgt := 22) (by decide +kernel) (by decide) hf (fun hc hf => ?_) (fun hc hf => ?_)
    · refine sf_blk [(.iconst (-1), 0, 0, .int (-1 : Int32))] (lv' := [(0, .ref a0), (1, .int a1), (2, .int a2)]) (st' := [.int (-1 : Int32)]) (M1 := M) (ob := []) (pc' := 23) (by decide +kernel) rfl rfl sw_a0 ?_
      cases hf
      exact sf_int rfl (by decide +kernel)
    · refine sf_blk [(.iload_n 2, 0, 0, .null)] (lv' := [(0, .ref a0), (1, .int a1), (2, .int a2)]) (st' := [.int a2]) (M1 := M) (ob := []) (pc' := 13) (by decide +kernel) rfl rfl sw_a0 ?_
      refine sf_z_lt (off := 9) (tgt := 22) (by decide +kernel) (by decide) hf (fun hc hf => ?_) (fun hc hf => ?_)
      · refine sf_blk [(.iconst (-1), 0, 0, .int (-1 : Int32))] (lv' := [(0, .ref a0), (1, .int a1), (2, .int a2)]) (st' := [.int (-1 : Int32)]) (M1 := M) (ob := []) (pc' := 23) (by decide +kernel) rfl rfl sw_a0 ?_
        cases hf
        exact sf_int rfl (by decide +kernel)
      · refine sf_blk [(.iload_n 2, 0, 0, .null), (.bipush (7), 0, 0, .int (7 : Int32))] (lv' := [(0, .ref a0), (1, .int a1), (2, .int a2)]) (st' := [.int (7 : Int32), .int a2]) (M1 := M) (ob := []) (pc' := 19) (by decide +kernel) rfl rfl sw_a0 ?_
        refine sf_j_le (off := 5) (tgt := 24) (by decide +kernel) (by decide) hf (fun hc hf => ?_) (fun hc hf => ?_)
        · obtain ⟨h1, hf⟩ := sw_gd_1 hf
          obtain ⟨h2, hf⟩ := sw_gd_1 hf
          refine sf_blk [(.aload_n 0, 0, 0, .null), (.getfield 74, 11, 9, .null), (.iload_n 1, 0, 0, .null)] (lv' := [(0, .ref a0), (1, .int a1), (2, .int a2)]) (st' := [.int a1, .ref (rd_R M a0 9)]) (M1 := M) (ob := [sw_ok M a0 11]) (pc' := 29) (by decide +kernel) rfl rfl (sw_a1 h1 sw_a0) ?_
          obtain ⟨u3, hu3, hf⟩ := sw_bnd hf
          refine sf_callV (i := 288) (k2 := k_Models_make) (d2 := d - 1) (As := [.int a1]) (st := []) (q := (rd_R M a0 9)) (ci := 2) mf_Models_make mi_Models_make ms_Models_make (sw_m5 125 (by decide +kernel)) rfl (by decide) (by decide +kernel) rfl (Nat.le_of_ble_eq_true rfl) (by omega) h2 (o_Models_make g (d := d - 1) (by omega) hu3) ?_
          show sw_F _ _ _ _ _ _ 32 [(0, .ref a0), (1, .int a1), (2, .int a2)] [] u3
          refine sf_blk [(.iload_n 2, 0, 0, .null)] (lv' := [(0, .ref a0), (1, .int a1), (2, .int a2)]) (st' := [.int a2]) (M1 := u3) (ob := []) (pc' := 33) (by decide +kernel) rfl rfl sw_a0 ?_
          rcases sw_ite hf with ⟨h4, hf⟩ | ⟨h4, hf⟩
          · refine sf_tin (a := a2) (off := 43) (tgt := 76) (len := 43) (show decode (k_c k_House_models) 33 = .ok (.tableswitch (114) (0) (6) #[43, 51, 59, 67, 75, 98, 106], 43) by decide +kernel) (by rw [h4]; decide) (by rw [h4]; decide) (by rw [h4]; decide +kernel) (by decide) ?_
            obtain ⟨h5, hf⟩ := sw_gd_1 hf
            obtain ⟨h6, hf⟩ := sw_gd_1 hf
            refine sf_blk [(.aload_n 0, 0, 0, .null), (.getfield 74, 11, 9, .null), (.getfield 291, 2, 6, .null)] (lv' := [(0, .ref a0), (1, .int a1), (2, .int a2)]) (st' := [.int (rd_I u3 (rd_R u3 a0 9) 6)]) (M1 := u3) (ob := [sw_ok u3 a0 11, sw_ok u3 (rd_R u3 a0 9) 2]) (pc' := 83) (by decide +kernel) rfl rfl (sw_a1 h5 (sw_a1 h6 sw_a0)) ?_
            cases hf
            exact sf_int rfl (by decide +kernel)
          ·
            rcases sw_ite hf with ⟨h7, hf⟩ | ⟨h7, hf⟩
            · refine sf_tin (a := a2) (off := 51) (tgt := 84) (len := 43) (show decode (k_c k_House_models) 33 = .ok (.tableswitch (114) (0) (6) #[43, 51, 59, 67, 75, 98, 106], 43) by decide +kernel) (by rw [h7]; decide) (by rw [h7]; decide) (by rw [h7]; decide +kernel) (by decide) ?_
              obtain ⟨h8, hf⟩ := sw_gd_1 hf
              obtain ⟨h9, hf⟩ := sw_gd_1 hf
              refine sf_blk [(.aload_n 0, 0, 0, .null), (.getfield 74, 11, 9, .null), (.getfield 292, 2, 7, .null)] (lv' := [(0, .ref a0), (1, .int a1), (2, .int a2)]) (st' := [.int (rd_I u3 (rd_R u3 a0 9) 7)]) (M1 := u3) (ob := [sw_ok u3 a0 11, sw_ok u3 (rd_R u3 a0 9) 2]) (pc' := 91) (by decide +kernel) rfl rfl (sw_a1 h8 (sw_a1 h9 sw_a0)) ?_
              cases hf
              exact sf_int rfl (by decide +kernel)
            ·
              rcases sw_ite hf with ⟨h10, hf⟩ | ⟨h10, hf⟩
              · refine sf_tin (a := a2) (off := 59) (tgt := 92) (len := 43) (show decode (k_c k_House_models) 33 = .ok (.tableswitch (114) (0) (6) #[43, 51, 59, 67, 75, 98, 106], 43) by decide +kernel) (by rw [h10]; decide) (by rw [h10]; decide) (by rw [h10]; decide +kernel) (by decide) ?_
                obtain ⟨h11, hf⟩ := sw_gd_1 hf
                obtain ⟨h12, hf⟩ := sw_gd_1 hf
                refine sf_blk [(.aload_n 0, 0, 0, .null), (.getfield 74, 11, 9, .null)] (lv' := [(0, .ref a0), (1, .int a1), (2, .int a2)]) (st' := [.ref (rd_R u3 a0 9)]) (M1 := u3) (ob := [sw_ok u3 a0 11]) (pc' := 96) (by decide +kernel) rfl rfl (sw_a1 h11 sw_a0) ?_
                obtain ⟨u13, hu13, hf⟩ := sw_bnd hf
                refine sf_callV (i := 295) (k2 := k_Models_leastMass) (d2 := d - 1) (As := []) (st := []) (q := (rd_R u3 a0 9)) (ci := 2) mf_Models_leastMass mi_Models_leastMass ms_Models_leastMass (sw_m5 159 (by decide +kernel)) rfl (by decide) (by decide +kernel) rfl (Nat.le_of_ble_eq_true rfl) (by omega) h12 (o_Models_leastMass g (d := d - 1) (by omega) hu13) ?_
                show sw_F _ _ _ _ _ _ 99 [(0, .ref a0), (1, .int a1), (2, .int a2)] [.int u13.1] u13.2
                cases hf
                exact sf_int rfl (by decide +kernel)
              ·
                rcases sw_ite hf with ⟨h14, hf⟩ | ⟨h14, hf⟩
                · refine sf_tin (a := a2) (off := 67) (tgt := 100) (len := 43) (show decode (k_c k_House_models) 33 = .ok (.tableswitch (114) (0) (6) #[43, 51, 59, 67, 75, 98, 106], 43) by decide +kernel) (by rw [h14]; decide) (by rw [h14]; decide) (by rw [h14]; decide +kernel) (by decide) ?_
                  obtain ⟨h15, hf⟩ := sw_gd_1 hf
                  obtain ⟨h16, hf⟩ := sw_gd_1 hf
                  refine sf_blk [(.aload_n 0, 0, 0, .null), (.getfield 74, 11, 9, .null)] (lv' := [(0, .ref a0), (1, .int a1), (2, .int a2)]) (st' := [.ref (rd_R u3 a0 9)]) (M1 := u3) (ob := [sw_ok u3 a0 11]) (pc' := 104) (by decide +kernel) rfl rfl (sw_a1 h15 sw_a0) ?_
                  obtain ⟨u17, hu17, hf⟩ := sw_bnd hf
                  refine sf_callV (i := 298) (k2 := k_Models_greatestMass) (d2 := d - 1) (As := []) (st := []) (q := (rd_R u3 a0 9)) (ci := 2) mf_Models_greatestMass mi_Models_greatestMass ms_Models_greatestMass (sw_m5 163 (by decide +kernel)) rfl (by decide) (by decide +kernel) rfl (Nat.le_of_ble_eq_true rfl) (by omega) h16 (o_Models_greatestMass g (d := d - 1) (by omega) hu17) ?_
                  show sw_F _ _ _ _ _ _ 107 [(0, .ref a0), (1, .int a1), (2, .int a2)] [.int u17.1] u17.2
                  cases hf
                  exact sf_int rfl (by decide +kernel)
                ·
                  rcases sw_ite hf with ⟨h18, hf⟩ | ⟨h18, hf⟩
                  · refine sf_tin (a := a2) (off := 75) (tgt := 108) (len := 43) (show decode (k_c k_House_models) 33 = .ok (.tableswitch (114) (0) (6) #[43, 51, 59, 67, 75, 98, 106], 43) by decide +kernel) (by rw [h18]; decide) (by rw [h18]; decide) (by rw [h18]; decide +kernel) (by decide) ?_
                    obtain ⟨h19, hf⟩ := sw_gd_1 hf
                    obtain ⟨h20, hf⟩ := sw_gd_1 hf
                    obtain ⟨h21, hf⟩ := sw_gd_1 hf
                    refine sf_blk [(.aload_n 0, 0, 0, .null), (.getfield 74, 11, 9, .null), (.aload_n 0, 0, 0, .null), (.getfield 49, 11, 6, .null), (.getfield 243, 10, 5, .null), (.aload_n 0, 0, 0, .null), (.getfield 49, 11, 6, .null), (.getfield 243, 10, 5, .null), (.imul, 0, 0, .null)] (lv' := [(0, .ref a0), (1, .int a1), (2, .int a2)]) (st' := [.int ((rd_I u3 (rd_R u3 a0 6) 5) * (rd_I u3 (rd_R u3 a0 6) 5)), .ref (rd_R u3 a0 9)]) (M1 := u3) (ob := [sw_ok u3 a0 11, sw_ok u3 a0 11, sw_ok u3 (rd_R u3 a0 6) 10, sw_ok u3 a0 11, sw_ok u3 (rd_R u3 a0 6) 10]) (pc' := 127) (by decide +kernel) rfl rfl (sw_a1 h19 (sw_a1 h19 (sw_a1 h20 (sw_a1 h19 (sw_a1 h20 sw_a0))))) ?_
                    obtain ⟨u22, hu22, hf⟩ := sw_bnd hf
                    refine sf_callV (i := 301) (k2 := k_Models_look) (d2 := d - 1) (As := [.int ((rd_I u3 (rd_R u3 a0 6) 5) * (rd_I u3 (rd_R u3 a0 6) 5))]) (st := []) (q := (rd_R u3 a0 9)) (ci := 2) mf_Models_look mi_Models_look ms_Models_look (sw_m5 167 (by decide +kernel)) rfl (by decide) (by decide +kernel) rfl (Nat.le_of_ble_eq_true rfl) (by omega) h21 (o_Models_look g (d := d - 1) (by omega) hu22) ?_
                    show sw_F _ _ _ _ _ _ 130 [(0, .ref a0), (1, .int a1), (2, .int a2)] [.int u22.1] u22.2
                    cases hf
                    exact sf_int rfl (by decide +kernel)
                  ·
                    rcases sw_ite hf with ⟨h23, hf⟩ | ⟨h23, hf⟩
                    · refine sf_tin (a := a2) (off := 98) (tgt := 131) (len := 43) (show decode (k_c k_House_models) 33 = .ok (.tableswitch (114) (0) (6) #[43, 51, 59, 67, 75, 98, 106], 43) by decide +kernel) (by rw [h23]; decide) (by rw [h23]; decide) (by rw [h23]; decide +kernel) (by decide) ?_
                      exact sf_weak [0] rfl (t_House_models_131 hd hf)
                    ·
                      rcases sw_ite hf with ⟨h24, hf⟩ | ⟨h24, hf⟩
                      · refine sf_tin (a := a2) (off := 106) (tgt := 139) (len := 43) (show decode (k_c k_House_models) 33 = .ok (.tableswitch (114) (0) (6) #[43, 51, 59, 67, 75, 98, 106], 43) by decide +kernel) (by rw [h24]; decide) (by rw [h24]; decide) (by rw [h24]; decide +kernel) (by decide) ?_
                        obtain ⟨h25, hf⟩ := sw_gd_1 hf
                        obtain ⟨h26, hf⟩ := sw_gd_1 hf
                        refine sf_blk [(.aload_n 0, 0, 0, .null), (.getfield 74, 11, 9, .null), (.getfield 307, 2, 9, .null)] (lv' := [(0, .ref a0), (1, .int a1), (2, .int a2)]) (st' := [.int (rd_I u3 (rd_R u3 a0 9) 9)]) (M1 := u3) (ob := [sw_ok u3 a0 11, sw_ok u3 (rd_R u3 a0 9) 2]) (pc' := 146) (by decide +kernel) rfl rfl (sw_a1 h25 (sw_a1 h26 sw_a0)) ?_
                        cases hf
                        exact sf_int rfl (by decide +kernel)
                      ·
                        have qh4 := sw_ne (n := 0) h4 (by decide)
                        have qh7 := sw_ne (n := 1) h7 (by decide)
                        have qh10 := sw_ne (n := 2) h10 (by decide)
                        have qh14 := sw_ne (n := 3) h14 (by decide)
                        have qh18 := sw_ne (n := 4) h18 (by decide)
                        have qh23 := sw_ne (n := 5) h23 (by decide)
                        have qh24 := sw_ne (n := 6) h24 (by decide)
                        refine sf_tout (a := a2) (tgt := 147) (len := 43) (show decode (k_c k_House_models) 33 = .ok (.tableswitch (114) (0) (6) #[43, 51, 59, 67, 75, 98, 106], 43) by decide +kernel) (by omega) (by decide) ?_
                        obtain ⟨h27, hf⟩ := sw_gd_1 hf
                        obtain ⟨h28, hf⟩ := sw_gd_1 hf
                        refine sf_blk [(.aload_n 0, 0, 0, .null), (.getfield 74, 11, 9, .null)] (lv' := [(0, .ref a0), (1, .int a1), (2, .int a2)]) (st' := [.ref (rd_R u3 a0 9)]) (M1 := u3) (ob := [sw_ok u3 a0 11]) (pc' := 151) (by decide +kernel) rfl rfl (sw_a1 h27 sw_a0) ?_
                        obtain ⟨u29, hu29, hf⟩ := sw_bnd hf
                        refine sf_callV (i := 310) (k2 := k_Models_partingCell) (d2 := d - 1) (As := []) (st := []) (q := (rd_R u3 a0 9)) (ci := 2) mf_Models_partingCell mi_Models_partingCell ms_Models_partingCell (sw_m5 177 (by decide +kernel)) rfl (by decide) (by decide +kernel) rfl (Nat.le_of_ble_eq_true rfl) (by omega) h28 (o_Models_partingCell g (d := d - 1) (by omega) hu29) ?_
                        show sw_F _ _ _ _ _ _ 154 [(0, .ref a0), (1, .int a1), (2, .int a2)] [.int u29.1] u29.2
                        cases hf
                        exact sf_int rfl (by decide +kernel)
        · refine sf_blk [(.iconst (-1), 0, 0, .int (-1 : Int32))] (lv' := [(0, .ref a0), (1, .int a1), (2, .int a2)]) (st' := [.int (-1 : Int32)]) (M1 := M) (ob := []) (pc' := 23) (by decide +kernel) rfl rfl sw_a0 ?_
          cases hf
          exact sf_int rfl (by decide +kernel)
theorem o_House_models (g : sw_G) {d : Nat} (hd : 8 ≤ d) {N : Nat} {a0 : Nat} {a1 : Int32} {a2 : Int32} {M : sw_M} {r : Int32 × sw_M} (hf : f_House_models N a0 a1 a2 M = some r) : sw_Ok g k_House_models d [.ref a0, .int a1, .int a2] M (some (.int r.1)) r.2 := sf_met (by decide +kernel) rfl (by decide) (Nat.le_of_ble_eq_true rfl) (t_House_models hd hf)
def f_Stream_begin (N : Nat) (a0 : Nat) (a1 : Int32) (a2 : Int32) (a3 : Int32) (a4 : Int32) (M : sw_M) : Option (sw_M) :=
  sw_gd [sw_ok M a0 9] (some (wr_I (wr_I (wr_I (wr_I M a0 0 a1) a0 1 a2) a0 2 a3) a0 3 a4))
set_option maxRecDepth 10000 in
theorem t_Stream_begin {g : sw_G} {d n0 : Nat} (hd : 1 ≤ d) {r : sw_M} {N : Nat} {a0 : Nat} {a1 : Int32} {a2 : Int32} {a3 : Int32} {a4 : Int32} {M : sw_M} (hf : f_Stream_begin N a0 a1 a2 a3 a4 M = some r) : sw_F g k_Stream_begin d n0 none r 0 [(0, .ref a0), (1, .int a1), (2, .int a2), (3, .int a3), (4, .int a4)] [] M := by
  unfold f_Stream_begin at hf
  obtain ⟨h1, hf⟩ := sw_gd_1 hf
  refine sf_blk [(.aload_n 0, 0, 0, .null), (.iload_n 1, 0, 0, .null), (.putfield 25, 9, 0, .null), (.aload_n 0, 0, 0, .null), (.iload_n 2, 0, 0, .null), (.putfield 28, 9, 1, .null), (.aload_n 0, 0, 0, .null), (.iload_n 3, 0, 0, .null), (.putfield 31, 9, 2, .null), (.aload_n 0, 0, 0, .null), (.iload 4, 0, 0, .null), (.putfield 34, 9, 3, .null)] (lv' := [(0, .ref a0), (1, .int a1), (2, .int a2), (3, .int a3), (4, .int a4)]) (st' := []) (M1 := (wr_I (wr_I (wr_I (wr_I M a0 0 a1) a0 1 a2) a0 2 a3) a0 3 a4)) (ob := [sw_ok M a0 9, sw_ok (wr_I M a0 0 a1) a0 9, sw_ok (wr_I (wr_I M a0 0 a1) a0 1 a2) a0 9, sw_ok (wr_I (wr_I (wr_I M a0 0 a1) a0 1 a2) a0 2 a3) a0 9]) (pc' := 21) (by decide +kernel) rfl rfl (sw_a1 h1 (sw_a1 h1 (sw_a1 h1 (sw_a1 h1 sw_a0)))) ?_
  cases hf
  exact sf_void rfl (by decide +kernel)
theorem o_Stream_begin (g : sw_G) {d : Nat} (hd : 1 ≤ d) {N : Nat} {a0 : Nat} {a1 : Int32} {a2 : Int32} {a3 : Int32} {a4 : Int32} {M : sw_M} {r : sw_M} (hf : f_Stream_begin N a0 a1 a2 a3 a4 M = some r) : sw_Ok g k_Stream_begin d [.ref a0, .int a1, .int a2, .int a3, .int a4] M none r := sf_met (by decide +kernel) rfl (by decide) (Nat.le_of_ble_eq_true rfl) (t_Stream_begin hd hf)
def f_Stream_apart (N : Nat) (a0 : Nat) (a1 : Int32) (a2 : Int32) (a3 : Int32) (a4 : Int32) (M : sw_M) : Option (sw_M) :=
  sw_gd [sw_ok M a0 9] (some (wr_I (wr_I (wr_I (wr_I M a0 4 a1) a0 5 a2) a0 6 a3) a0 7 a4))
set_option maxRecDepth 10000 in
theorem t_Stream_apart {g : sw_G} {d n0 : Nat} (hd : 1 ≤ d) {r : sw_M} {N : Nat} {a0 : Nat} {a1 : Int32} {a2 : Int32} {a3 : Int32} {a4 : Int32} {M : sw_M} (hf : f_Stream_apart N a0 a1 a2 a3 a4 M = some r) : sw_F g k_Stream_apart d n0 none r 0 [(0, .ref a0), (1, .int a1), (2, .int a2), (3, .int a3), (4, .int a4)] [] M := by
  unfold f_Stream_apart at hf
  obtain ⟨h1, hf⟩ := sw_gd_1 hf
  refine sf_blk [(.aload_n 0, 0, 0, .null), (.iload_n 1, 0, 0, .null), (.putfield 37, 9, 4, .null), (.aload_n 0, 0, 0, .null), (.iload_n 2, 0, 0, .null), (.putfield 40, 9, 5, .null), (.aload_n 0, 0, 0, .null), (.iload_n 3, 0, 0, .null), (.putfield 43, 9, 6, .null), (.aload_n 0, 0, 0, .null), (.iload 4, 0, 0, .null), (.putfield 46, 9, 7, .null)] (lv' := [(0, .ref a0), (1, .int a1), (2, .int a2), (3, .int a3), (4, .int a4)]) (st' := []) (M1 := (wr_I (wr_I (wr_I (wr_I M a0 4 a1) a0 5 a2) a0 6 a3) a0 7 a4)) (ob := [sw_ok M a0 9, sw_ok (wr_I M a0 4 a1) a0 9, sw_ok (wr_I (wr_I M a0 4 a1) a0 5 a2) a0 9, sw_ok (wr_I (wr_I (wr_I M a0 4 a1) a0 5 a2) a0 6 a3) a0 9]) (pc' := 21) (by decide +kernel) rfl rfl (sw_a1 h1 (sw_a1 h1 (sw_a1 h1 (sw_a1 h1 sw_a0)))) ?_
  cases hf
  exact sf_void rfl (by decide +kernel)
theorem o_Stream_apart (g : sw_G) {d : Nat} (hd : 1 ≤ d) {N : Nat} {a0 : Nat} {a1 : Int32} {a2 : Int32} {a3 : Int32} {a4 : Int32} {M : sw_M} {r : sw_M} (hf : f_Stream_apart N a0 a1 a2 a3 a4 M = some r) : sw_Ok g k_Stream_apart d [.ref a0, .int a1, .int a2, .int a3, .int a4] M none r := sf_met (by decide +kernel) rfl (by decide) (Nat.le_of_ble_eq_true rfl) (t_Stream_apart hd hf)
def f_Stream_cellBits_146 (N : Nat) (k5 : Nat → Nat → Nat → Int64 → Int32 → sw_M → Option (Int64 × sw_M)) (a0 : Nat) (a1 : Nat) (a2 : Nat) (a3 : Int64) (a5 : Int32) (M : sw_M) : Option (Int64 × sw_M) :=
  k5 a0 a1 a2 a3 (a5 + (1 : Int32)) M
set_option maxRecDepth 10000 in
theorem t_Stream_cellBits_146 {g : sw_G} {d n0 : Nat} (hd : 5 ≤ d) {r : Int64 × sw_M} (k5 : Nat → Nat → Nat → Int64 → Int32 → sw_M → Option (Int64 × sw_M)) (hk5 : ∀ (a0 : Nat) (a1 : Nat) (a2 : Nat) (a3 : Int64) (a5 : Int32) (M : sw_M), k5 a0 a1 a2 a3 a5 M = some r → sw_F g k_Stream_cellBits d n0 (some (.long r.1)) r.2 5 [(0, .ref a0), (1, .ref a1), (2, .ref a2), (3, .long a3), (5, .int a5)] [] M) {N : Nat} {a0 : Nat} {a1 : Nat} {a2 : Nat} {a3 : Int64} {a5 : Int32} {M : sw_M} (hf : f_Stream_cellBits_146 N k5 a0 a1 a2 a3 a5 M = some r) : sw_F g k_Stream_cellBits d n0 (some (.long r.1)) r.2 146 [(0, .ref a0), (1, .ref a1), (2, .ref a2), (3, .long a3), (5, .int a5)] [] M := by
  unfold f_Stream_cellBits_146 at hf
  refine sf_blk [(.iinc 5 (1), 0, 0, .int (1 : Int32))] (lv' := [(5, .int (a5 + (1 : Int32))), (0, .ref a0), (1, .ref a1), (2, .ref a2), (3, .long a3)]) (st' := []) (M1 := M) (ob := []) (pc' := 149) (by decide +kernel) rfl rfl sw_a0 ?_
  refine sf_goto (off := -144) (tgt := 5) (by decide +kernel) (by decide) ?_
  exact sf_weak [1, 2, 3, 4, 0] rfl (hk5 _ _ _ _ _ _ hf)
def f_Stream_cellBits_131 (N : Nat) (k5 : Nat → Nat → Nat → Int64 → Int32 → sw_M → Option (Int64 × sw_M)) (a0 : Nat) (a1 : Nat) (a2 : Nat) (a3 : Int64) (a5 : Int32) (b0 : Int32) (M : sw_M) : Option (Int64 × sw_M) :=
  if b0 = (-1 : Int32) then f_Stream_cellBits_146 N k5 a0 a1 a2 a3 a5 M
  else f_Stream_cellBits_146 N k5 a0 a1 a2 (a3 ||| ((1 : Int64) <<< (b0.toInt64 &&& 63))) a5 M
set_option maxRecDepth 10000 in
theorem t_Stream_cellBits_131 {g : sw_G} {d n0 : Nat} (hd : 5 ≤ d) {r : Int64 × sw_M} (k5 : Nat → Nat → Nat → Int64 → Int32 → sw_M → Option (Int64 × sw_M)) (hk5 : ∀ (a0 : Nat) (a1 : Nat) (a2 : Nat) (a3 : Int64) (a5 : Int32) (M : sw_M), k5 a0 a1 a2 a3 a5 M = some r → sw_F g k_Stream_cellBits d n0 (some (.long r.1)) r.2 5 [(0, .ref a0), (1, .ref a1), (2, .ref a2), (3, .long a3), (5, .int a5)] [] M) {N : Nat} {a0 : Nat} {a1 : Nat} {a2 : Nat} {a3 : Int64} {a5 : Int32} {b0 : Int32} {M : sw_M} (hf : f_Stream_cellBits_131 N k5 a0 a1 a2 a3 a5 b0 M = some r) : sw_F g k_Stream_cellBits d n0 (some (.long r.1)) r.2 131 [(0, .ref a0), (1, .ref a1), (2, .ref a2), (3, .long a3), (5, .int a5)] [.int b0] M := by
  unfold f_Stream_cellBits_131 at hf
  refine sf_blk [(.istore 7, 0, 0, .null), (.iload 7, 0, 0, .null), (.iconst (-1), 0, 0, .int (-1 : Int32))] (lv' := [(7, .int b0), (0, .ref a0), (1, .ref a1), (2, .ref a2), (3, .long a3), (5, .int a5)]) (st' := [.int (-1 : Int32), .int b0]) (M1 := M) (ob := []) (pc' := 136) (by decide +kernel) rfl rfl sw_a0 ?_
  refine sf_j_eq (off := 10) (tgt := 146) (by decide +kernel) (by decide) hf (fun hc hf => ?_) (fun hc hf => ?_)
  · exact sf_weak [1, 2, 3, 4, 5] rfl (t_Stream_cellBits_146 hd _ hk5 hf)
  · refine sf_blk [(.lload_n 3, 0, 0, .null), (.lconst 1, 0, 0, .long (1 : Int64)), (.iload 7, 0, 0, .null), (.lshl, 0, 0, .null), (.lor, 0, 0, .null), (.lstore_n 3, 0, 0, .null)] (lv' := [(3, .long (a3 ||| ((1 : Int64) <<< (b0.toInt64 &&& 63)))), (7, .int b0), (0, .ref a0), (1, .ref a1), (2, .ref a2), (5, .int a5)]) (st' := []) (M1 := M) (ob := []) (pc' := 146) (by decide +kernel) rfl rfl sw_a0 ?_
    exact sf_weak [2, 3, 4, 0, 5] rfl (t_Stream_cellBits_146 hd _ hk5 hf)
def f_Stream_cellBits_99 (N : Nat) (k5 : Nat → Nat → Nat → Int64 → Int32 → sw_M → Option (Int64 × sw_M)) (a0 : Nat) (a1 : Nat) (a2 : Nat) (a3 : Int64) (a5 : Int32) (M : sw_M) : Option (Int64 × sw_M) :=
  sw_gd [sw_ok M a0 9] (sw_gd [sw_ok M (rd_R M a0 8) 8] (if (rd_I M (rd_R M a0 8) 5) = 0 then sw_gd [sw_ok M a2 10] ((f_Swarm_cellOf N a2 (rd_L M (rd_R M a0 8) 0) (rd_L M (rd_R M a0 8) 1) M).bind (fun u4 => f_Stream_cellBits_131 N k5 a0 a1 a2 a3 a5 u4.1 u4.2))
  else f_Stream_cellBits_131 N k5 a0 a1 a2 a3 a5 (-1 : Int32) M))
set_option maxRecDepth 10000 in
theorem t_Stream_cellBits_99 {g : sw_G} {d n0 : Nat} (hd : 5 ≤ d) {r : Int64 × sw_M} (k5 : Nat → Nat → Nat → Int64 → Int32 → sw_M → Option (Int64 × sw_M)) (hk5 : ∀ (a0 : Nat) (a1 : Nat) (a2 : Nat) (a3 : Int64) (a5 : Int32) (M : sw_M), k5 a0 a1 a2 a3 a5 M = some r → sw_F g k_Stream_cellBits d n0 (some (.long r.1)) r.2 5 [(0, .ref a0), (1, .ref a1), (2, .ref a2), (3, .long a3), (5, .int a5)] [] M) {N : Nat} {a0 : Nat} {a1 : Nat} {a2 : Nat} {a3 : Int64} {a5 : Int32} {M : sw_M} (hf : f_Stream_cellBits_99 N k5 a0 a1 a2 a3 a5 M = some r) : sw_F g k_Stream_cellBits d n0 (some (.long r.1)) r.2 99 [(0, .ref a0), (1, .ref a1), (2, .ref a2), (3, .long a3), (5, .int a5)] [] M := by
  unfold f_Stream_cellBits_99 at hf
  obtain ⟨h1, hf⟩ := sw_gd_1 hf
  obtain ⟨h2, hf⟩ := sw_gd_1 hf
  refine sf_blk [(.aload_n 0, 0, 0, .null), (.getfield 12, 9, 8, .null), (.getfield 57, 8, 5, .null)] (lv' := [(0, .ref a0), (1, .ref a1), (2, .ref a2), (3, .long a3), (5, .int a5)]) (st' := [.int (rd_I M (rd_R M a0 8) 5)]) (M1 := M) (ob := [sw_ok M a0 9, sw_ok M (rd_R M a0 8) 8]) (pc' := 106) (by decide +kernel) rfl rfl (sw_a1 h1 (sw_a1 h2 sw_a0)) ?_
  refine sf_z_ne (off := 24) (tgt := 130) (by decide +kernel) (by decide) hf (fun hc hf => ?_) (fun hc hf => ?_)
  · refine sf_blk [(.iconst (-1), 0, 0, .int (-1 : Int32))] (lv' := [(0, .ref a0), (1, .ref a1), (2, .ref a2), (3, .long a3), (5, .int a5)]) (st' := [.int (-1 : Int32)]) (M1 := M) (ob := []) (pc' := 131) (by decide +kernel) rfl rfl sw_a0 ?_
    exact sf_weak [0, 1, 2, 3, 4] rfl (t_Stream_cellBits_131 hd _ hk5 hf)
  · obtain ⟨h3, hf⟩ := sw_gd_1 hf
    refine sf_blk [(.aload_n 2, 0, 0, .null), (.aload_n 0, 0, 0, .null), (.getfield 12, 9, 8, .null), (.getfield 60, 8, 0, .null), (.aload_n 0, 0, 0, .null), (.getfield 12, 9, 8, .null), (.getfield 63, 8, 1, .null)] (lv' := [(0, .ref a0), (1, .ref a1), (2, .ref a2), (3, .long a3), (5, .int a5)]) (st' := [.long (rd_L M (rd_R M a0 8) 1), .long (rd_L M (rd_R M a0 8) 0), .ref a2]) (M1 := M) (ob := [sw_ok M a0 9, sw_ok M (rd_R M a0 8) 8, sw_ok M a0 9, sw_ok M (rd_R M a0 8) 8]) (pc' := 124) (by decide +kernel) rfl rfl (sw_a1 h1 (sw_a1 h2 (sw_a1 h1 (sw_a1 h2 sw_a0)))) ?_
    obtain ⟨u4, hu4, hf⟩ := sw_bnd hf
    refine sf_callV (i := 65) (k2 := k_Swarm_cellOf) (d2 := d - 1) (As := [.long (rd_L M (rd_R M a0 8) 0), .long (rd_L M (rd_R M a0 8) 1)]) (st := []) (q := a2) (ci := 10) mf_Swarm_cellOf mi_Swarm_cellOf ms_Swarm_cellOf (sw_m5 199 (by decide +kernel)) rfl (by decide) (by decide +kernel) rfl (Nat.le_of_ble_eq_true rfl) (by omega) h3 (o_Swarm_cellOf g (d := d - 1) (by omega) hu4) ?_
    show sw_F _ _ _ _ _ _ 127 [(0, .ref a0), (1, .ref a1), (2, .ref a2), (3, .long a3), (5, .int a5)] [.int u4.1] u4.2
    refine sf_goto (off := 4) (tgt := 131) (by decide +kernel) (by decide) ?_
    exact sf_weak [0, 1, 2, 3, 4] rfl (t_Stream_cellBits_131 hd _ hk5 hf)
def f_Stream_cellBits_73 (N : Nat) (k5 : Nat → Nat → Nat → Int64 → Int32 → sw_M → Option (Int64 × sw_M)) : Nat → Nat → Nat → Nat → Int64 → Int32 → Int32 → sw_M → Option (Int64 × sw_M)
  | 0, _, _, _, _, _, _, _ => none
  | j + 1, a0, a1, a2, a3, a5, a6, M =>
  sw_gd [sw_ok M a0 9] (if (rd_I M a0 10) ≤ a6 then f_Stream_cellBits_99 N k5 a0 a1 a2 a3 a5 M
  else sw_gd [sw_ok M (rd_R M a0 8) 8] ((f_Star_step N (rd_R M a0 8) a1 M).bind (fun u3 => if u3.1 = 0 then f_Stream_cellBits_99 N k5 a0 a1 a2 a3 a5 u3.2
  else f_Stream_cellBits_73 N k5 j a0 a1 a2 a3 a5 (a6 + (1 : Int32)) u3.2)))
set_option maxRecDepth 10000 in
theorem t_Stream_cellBits_73 {g : sw_G} {d n0 : Nat} (hd : 5 ≤ d) {r : Int64 × sw_M} (k5 : Nat → Nat → Nat → Int64 → Int32 → sw_M → Option (Int64 × sw_M)) (hk5 : ∀ (a0 : Nat) (a1 : Nat) (a2 : Nat) (a3 : Int64) (a5 : Int32) (M : sw_M), k5 a0 a1 a2 a3 a5 M = some r → sw_F g k_Stream_cellBits d n0 (some (.long r.1)) r.2 5 [(0, .ref a0), (1, .ref a1), (2, .ref a2), (3, .long a3), (5, .int a5)] [] M) {N : Nat} : ∀ (j : Nat) (a0 : Nat) (a1 : Nat) (a2 : Nat) (a3 : Int64) (a5 : Int32) (a6 : Int32) (M : sw_M), f_Stream_cellBits_73 N k5 j a0 a1 a2 a3 a5 a6 M = some r → sw_F g k_Stream_cellBits d n0 (some (.long r.1)) r.2 73 [(0, .ref a0), (1, .ref a1), (2, .ref a2), (3, .long a3), (5, .int a5), (6, .int a6)] [] M := by
  intro j
  induction j with
  | zero =>
    intro a0 a1 a2 a3 a5 a6 M hf
    rw [f_Stream_cellBits_73] at hf
    cases hf
  | succ j ih =>
    intro a0 a1 a2 a3 a5 a6 M hf
    rw [f_Stream_cellBits_73] at hf
    obtain ⟨h1, hf⟩ := sw_gd_1 hf
    refine sf_blk [(.iload 6, 0, 0, .null), (.aload_n 0, 0, 0, .null), (.getfield 22, 9, 10, .null)] (lv' := [(0, .ref a0), (1, .ref a1), (2, .ref a2), (3, .long a3), (5, .int a5), (6, .int a6)]) (st' := [.int (rd_I M a0 10), .int a6]) (M1 := M) (ob := [sw_ok M a0 9]) (pc' := 79) (by decide +kernel) rfl rfl (sw_a1 h1 sw_a0) ?_
    refine sf_j_ge (off := 20) (tgt := 99) (by decide +kernel) (by decide) hf (fun hc hf => ?_) (fun hc hf => ?_)
    · exact sf_weak [0, 1, 2, 3, 4] rfl (t_Stream_cellBits_99 hd _ hk5 hf)
    · obtain ⟨h2, hf⟩ := sw_gd_1 hf
      refine sf_blk [(.aload_n 0, 0, 0, .null), (.getfield 12, 9, 8, .null), (.aload_n 1, 0, 0, .null)] (lv' := [(0, .ref a0), (1, .ref a1), (2, .ref a2), (3, .long a3), (5, .int a5), (6, .int a6)]) (st' := [.ref a1, .ref (rd_R M a0 8)]) (M1 := M) (ob := [sw_ok M a0 9]) (pc' := 87) (by decide +kernel) rfl rfl (sw_a1 h1 sw_a0) ?_
      obtain ⟨u3, hu3, hf⟩ := sw_bnd hf
      refine sf_callV (i := 53) (k2 := k_Star_step) (d2 := d - 1) (As := [.ref a1]) (st := []) (q := (rd_R M a0 8)) (ci := 8) mf_Star_step mi_Star_step ms_Star_step (sw_m5 198 (by decide +kernel)) rfl (by decide) (by decide +kernel) rfl (Nat.le_of_ble_eq_true rfl) (by omega) h2 (o_Star_step g (d := d - 1) (by omega) hu3) ?_
      show sw_F _ _ _ _ _ _ 90 [(0, .ref a0), (1, .ref a1), (2, .ref a2), (3, .long a3), (5, .int a5), (6, .int a6)] [.int u3.1] u3.2
      refine sf_z_eq (off := 9) (tgt := 99) (by decide +kernel) (by decide) hf (fun hc hf => ?_) (fun hc hf => ?_)
      · exact sf_weak [0, 1, 2, 3, 4] rfl (t_Stream_cellBits_99 hd _ hk5 hf)
      · refine sf_blk [(.iinc 6 (1), 0, 0, .int (1 : Int32))] (lv' := [(6, .int (a6 + (1 : Int32))), (0, .ref a0), (1, .ref a1), (2, .ref a2), (3, .long a3), (5, .int a5)]) (st' := []) (M1 := u3.2) (ob := []) (pc' := 96) (by decide +kernel) rfl rfl sw_a0 ?_
        refine sf_goto (off := -23) (tgt := 73) (by decide +kernel) (by decide) ?_
        exact sf_weak [1, 2, 3, 4, 5, 0] rfl (ih _ _ _ _ _ _ _ hf)
def f_Stream_cellBits_5 (N : Nat) : Nat → Nat → Nat → Nat → Int64 → Int32 → sw_M → Option (Int64 × sw_M)
  | 0, _, _, _, _, _, _ => none
  | j + 1, a0, a1, a2, a3, a5, M =>
  sw_gd [sw_ok M a0 9] (if (rd_I M a0 9) ≤ a5 then some (a3, M)
  else sw_gd [sw_ok M (rd_R M a0 8) 8] ((f_Star_put N (rd_R M a0 8) ((rd_I M a0 0) + (a5 * (rd_I M a0 4))) ((rd_I M a0 1) + (a5 * (rd_I M a0 5))) ((rd_I M a0 2) + (a5 * (rd_I M a0 6))) ((rd_I M a0 3) + (a5 * (rd_I M a0 7))) (0 : Int32) M).bind (fun u3 => f_Stream_cellBits_73 N (f_Stream_cellBits_5 N j) N a0 a1 a2 a3 a5 (0 : Int32) u3)))
set_option maxRecDepth 10000 in
theorem t_Stream_cellBits_5 {g : sw_G} {d n0 : Nat} (hd : 5 ≤ d) {r : Int64 × sw_M} {N : Nat} : ∀ (j : Nat) (a0 : Nat) (a1 : Nat) (a2 : Nat) (a3 : Int64) (a5 : Int32) (M : sw_M), f_Stream_cellBits_5 N j a0 a1 a2 a3 a5 M = some r → sw_F g k_Stream_cellBits d n0 (some (.long r.1)) r.2 5 [(0, .ref a0), (1, .ref a1), (2, .ref a2), (3, .long a3), (5, .int a5)] [] M := by
  intro j
  induction j with
  | zero =>
    intro a0 a1 a2 a3 a5 M hf
    rw [f_Stream_cellBits_5] at hf
    cases hf
  | succ j ih =>
    intro a0 a1 a2 a3 a5 M hf
    rw [f_Stream_cellBits_5] at hf
    obtain ⟨h1, hf⟩ := sw_gd_1 hf
    refine sf_blk [(.iload 5, 0, 0, .null), (.aload_n 0, 0, 0, .null), (.getfield 18, 9, 9, .null)] (lv' := [(0, .ref a0), (1, .ref a1), (2, .ref a2), (3, .long a3), (5, .int a5)]) (st' := [.int (rd_I M a0 9), .int a5]) (M1 := M) (ob := [sw_ok M a0 9]) (pc' := 11) (by decide +kernel) rfl rfl (sw_a1 h1 sw_a0) ?_
    refine sf_j_ge (off := 141) (tgt := 152) (by decide +kernel) (by decide) hf (fun hc hf => ?_) (fun hc hf => ?_)
    · refine sf_blk [(.lload_n 3, 0, 0, .null)] (lv' := [(0, .ref a0), (1, .ref a1), (2, .ref a2), (3, .long a3), (5, .int a5)]) (st' := [.long a3]) (M1 := M) (ob := []) (pc' := 153) (by decide +kernel) rfl rfl sw_a0 ?_
      cases hf
      exact sf_long rfl (by decide +kernel)
    · obtain ⟨h2, hf⟩ := sw_gd_1 hf
      refine sf_blk [(.aload_n 0, 0, 0, .null), (.getfield 12, 9, 8, .null), (.aload_n 0, 0, 0, .null), (.getfield 25, 9, 0, .null), (.iload 5, 0, 0, .null), (.aload_n 0, 0, 0, .null), (.getfield 37, 9, 4, .null), (.imul, 0, 0, .null), (.iadd, 0, 0, .null), (.aload_n 0, 0, 0, .null), (.getfield 28, 9, 1, .null), (.iload 5, 0, 0, .null), (.aload_n 0, 0, 0, .null), (.getfield 40, 9, 5, .null), (.imul, 0, 0, .null), (.iadd, 0, 0, .null), (.aload_n 0, 0, 0, .null), (.getfield 31, 9, 2, .null), (.iload 5, 0, 0, .null), (.aload_n 0, 0, 0, .null), (.getfield 43, 9, 6, .null), (.imul, 0, 0, .null), (.iadd, 0, 0, .null), (.aload_n 0, 0, 0, .null), (.getfield 34, 9, 3, .null), (.iload 5, 0, 0, .null), (.aload_n 0, 0, 0, .null), (.getfield 46, 9, 7, .null), (.imul, 0, 0, .null), (.iadd, 0, 0, .null), (.iconst (0), 0, 0, .int (0 : Int32))] (lv' := [(0, .ref a0), (1, .ref a1), (2, .ref a2), (3, .long a3), (5, .int a5)]) (st' := [.int (0 : Int32), .int ((rd_I M a0 3) + (a5 * (rd_I M a0 7))), .int ((rd_I M a0 2) + (a5 * (rd_I M a0 6))), .int ((rd_I M a0 1) + (a5 * (rd_I M a0 5))), .int ((rd_I M a0 0) + (a5 * (rd_I M a0 4))), .ref (rd_R M a0 8)]) (M1 := M) (ob := [sw_ok M a0 9, sw_ok M a0 9, sw_ok M a0 9, sw_ok M a0 9, sw_ok M a0 9, sw_ok M a0 9, sw_ok M a0 9, sw_ok M a0 9, sw_ok M a0 9]) (pc' := 67) (by decide +kernel) rfl rfl (sw_a1 h1 (sw_a1 h1 (sw_a1 h1 (sw_a1 h1 (sw_a1 h1 (sw_a1 h1 (sw_a1 h1 (sw_a1 h1 (sw_a1 h1 sw_a0))))))))) ?_
      obtain ⟨u3, hu3, hf⟩ := sw_bnd hf
      refine sf_callV (i := 49) (k2 := k_Star_put) (d2 := d - 1) (As := [.int ((rd_I M a0 0) + (a5 * (rd_I M a0 4))), .int ((rd_I M a0 1) + (a5 * (rd_I M a0 5))), .int ((rd_I M a0 2) + (a5 * (rd_I M a0 6))), .int ((rd_I M a0 3) + (a5 * (rd_I M a0 7))), .int (0 : Int32)]) (st := []) (q := (rd_R M a0 8)) (ci := 8) mf_Star_put mi_Star_put ms_Star_put (sw_m5 197 (by decide +kernel)) rfl (by decide) (by decide +kernel) rfl (Nat.le_of_ble_eq_true rfl) (by omega) h2 (o_Star_put g (d := d - 1) (by omega) hu3) ?_
      show sw_F _ _ _ _ _ _ 70 [(0, .ref a0), (1, .ref a1), (2, .ref a2), (3, .long a3), (5, .int a5)] [] u3
      refine sf_blk [(.iconst (0), 0, 0, .int (0 : Int32)), (.istore 6, 0, 0, .null)] (lv' := [(6, .int (0 : Int32)), (0, .ref a0), (1, .ref a1), (2, .ref a2), (3, .long a3), (5, .int a5)]) (st' := []) (M1 := u3) (ob := []) (pc' := 73) (by decide +kernel) rfl rfl sw_a0 ?_
      exact sf_weak [1, 2, 3, 4, 5, 0] rfl (t_Stream_cellBits_73 hd _ ih _ _ _ _ _ _ _ _ hf)
def f_Stream_cellBits (N : Nat) (a0 : Nat) (a1 : Nat) (a2 : Nat) (M : sw_M) : Option (Int64 × sw_M) :=
  f_Stream_cellBits_5 N N a0 a1 a2 (0 : Int64) (0 : Int32) M
set_option maxRecDepth 10000 in
theorem t_Stream_cellBits {g : sw_G} {d n0 : Nat} (hd : 5 ≤ d) {r : Int64 × sw_M} {N : Nat} {a0 : Nat} {a1 : Nat} {a2 : Nat} {M : sw_M} (hf : f_Stream_cellBits N a0 a1 a2 M = some r) : sw_F g k_Stream_cellBits d n0 (some (.long r.1)) r.2 0 [(0, .ref a0), (1, .ref a1), (2, .ref a2)] [] M := by
  unfold f_Stream_cellBits at hf
  refine sf_blk [(.lconst 0, 0, 0, .long (0 : Int64)), (.lstore_n 3, 0, 0, .null), (.iconst (0), 0, 0, .int (0 : Int32)), (.istore 5, 0, 0, .null)] (lv' := [(5, .int (0 : Int32)), (3, .long (0 : Int64)), (0, .ref a0), (1, .ref a1), (2, .ref a2)]) (st' := []) (M1 := M) (ob := []) (pc' := 5) (by decide +kernel) rfl rfl sw_a0 ?_
  exact sf_weak [2, 3, 4, 1, 0] rfl (t_Stream_cellBits_5 hd _ _ _ _ _ _ _ hf)
theorem o_Stream_cellBits (g : sw_G) {d : Nat} (hd : 5 ≤ d) {N : Nat} {a0 : Nat} {a1 : Nat} {a2 : Nat} {M : sw_M} {r : Int64 × sw_M} (hf : f_Stream_cellBits N a0 a1 a2 M = some r) : sw_Ok g k_Stream_cellBits d [.ref a0, .ref a1, .ref a2] M (some (.long r.1)) r.2 := sf_met (by decide +kernel) rfl (by decide) (Nat.le_of_ble_eq_true rfl) (t_Stream_cellBits hd hf)
def f_House_stream_127 (N : Nat) (M : sw_M) : Option (Int32 × sw_M) :=
  some ((-1 : Int32), M)
set_option maxRecDepth 10000 in
theorem t_House_stream_127 {g : sw_G} {d n0 : Nat} (hd : 6 ≤ d) {r : Int32 × sw_M} {N : Nat} {M : sw_M} (hf : f_House_stream_127 N M = some r) : sw_F g k_House_stream d n0 (some (.int r.1)) r.2 127 [] [] M := by
  unfold f_House_stream_127 at hf
  refine sf_blk [(.iconst (-1), 0, 0, .int (-1 : Int32))] (lv' := []) (st' := [.int (-1 : Int32)]) (M1 := M) (ob := []) (pc' := 128) (by decide +kernel) rfl rfl sw_a0 ?_
  cases hf
  exact sf_int rfl (by decide +kernel)
def f_House_stream (N : Nat) (a0 : Nat) (a1 : Int32) (a2 : Int32) (a3 : Int32) (a4 : Int32) (a5 : Int32) (a6 : Int32) (a7 : Int32) (a8 : Int32) (a9 : Int32) (a10 : Int32) (M : sw_M) : Option (Int32 × sw_M) :=
  if a9 < (2 : Int32) then some ((-1 : Int32), M)
  else if (16 : Int32) < a9 then some ((-1 : Int32), M)
  else if a10 < (1 : Int32) then some ((-1 : Int32), M)
  else if a10 ≤ (240 : Int32) then (f_House_canStart N a1 a2 a3 a4 M).bind (fun u1 => if u1.1 = 0 then some ((-1 : Int32), u1.2)
  else (f_House_within N a5 (999 : Int32) u1.2).bind (fun u2 => if u2.1 = 0 then some ((-1 : Int32), u2.2)
  else (f_House_within N a6 (999 : Int32) u2.2).bind (fun u3 => if u3.1 = 0 then some ((-1 : Int32), u3.2)
  else (f_House_within N a7 (999 : Int32) u3.2).bind (fun u4 => if u4.1 = 0 then some ((-1 : Int32), u4.2)
  else (f_House_within N a8 (999 : Int32) u4.2).bind (fun u5 => if u5.1 = 0 then some ((-1 : Int32), u5.2)
  else (f_House_canStart N (a1 + ((a9 - (1 : Int32)) * a5)) (a2 + ((a9 - (1 : Int32)) * a6)) (a3 + ((a9 - (1 : Int32)) * a7)) (a4 + ((a9 - (1 : Int32)) * a8)) u5.2).bind (fun u6 => if u6.1 = 0 then f_House_stream_127 N u6.2
  else sw_gd [sw_ok u6.2 a0 11] (sw_gd [sw_ok u6.2 (rd_R u6.2 a0 10) 9] ((f_Stream_begin N (rd_R u6.2 a0 10) a1 a2 a3 a4 u6.2).bind (fun u9 => sw_gd [sw_ok u9 a0 11] (sw_gd [sw_ok u9 (rd_R u9 a0 10) 9] ((f_Stream_apart N (rd_R u9 a0 10) a5 a6 a7 a8 u9).bind (fun u12 => sw_gd [sw_ok u12 a0 11] (sw_gd [sw_ok u12 (rd_R u12 a0 10) 9] (sw_gd [sw_ok (wr_I u12 (rd_R u12 a0 10) 9 a9) (rd_R (wr_I u12 (rd_R u12 a0 10) 9 a9) a0 10) 9] (sw_gd [sw_ok (wr_I (wr_I u12 (rd_R u12 a0 10) 9 a9) (rd_R (wr_I u12 (rd_R u12 a0 10) 9 a9) a0 10) 10 a10) (rd_R (wr_I (wr_I u12 (rd_R u12 a0 10) 9 a9) (rd_R (wr_I u12 (rd_R u12 a0 10) 9 a9) a0 10) 10 a10) a0 10) 9] ((f_Stream_cellBits N (rd_R (wr_I (wr_I u12 (rd_R u12 a0 10) 9 a9) (rd_R (wr_I u12 (rd_R u12 a0 10) 9 a9) a0 10) 10 a10) a0 10) (rd_R (wr_I (wr_I u12 (rd_R u12 a0 10) 9 a9) (rd_R (wr_I u12 (rd_R u12 a0 10) 9 a9) a0 10) 10 a10) a0 2) (rd_R (wr_I (wr_I u12 (rd_R u12 a0 10) 9 a9) (rd_R (wr_I u12 (rd_R u12 a0 10) 9 a9) a0 10) 10 a10) a0 6) (wr_I (wr_I u12 (rd_R u12 a0 10) 9 a9) (rd_R (wr_I u12 (rd_R u12 a0 10) 9 a9) a0 10) 10 a10)).bind (fun u17 => (f_Lng_bitCount N u17.1 u17.2).bind (fun u18 => some (u18.1, u18.2)))))))))))))))))))
  else some ((-1 : Int32), M)
set_option maxRecDepth 10000 in
theorem t_House_stream {g : sw_G} {d n0 : Nat} (hd : 6 ≤ d) {r : Int32 × sw_M} {N : Nat} {a0 : Nat} {a1 : Int32} {a2 : Int32} {a3 : Int32} {a4 : Int32} {a5 : Int32} {a6 : Int32} {a7 : Int32} {a8 : Int32} {a9 : Int32} {a10 : Int32} {M : sw_M} (hf : f_House_stream N a0 a1 a2 a3 a4 a5 a6 a7 a8 a9 a10 M = some r) : sw_F g k_House_stream d n0 (some (.int r.1)) r.2 0 [(0, .ref a0), (1, .int a1), (2, .int a2), (3, .int a3), (4, .int a4), (5, .int a5), (6, .int a6), (7, .int a7), (8, .int a8), (9, .int a9), (10, .int a10)] [] M := by
  unfold f_House_stream at hf
  refine sf_blk [(.iload 9, 0, 0, .null), (.iconst (2), 0, 0, .int (2 : Int32))] (lv' := [(0, .ref a0), (1, .int a1), (2, .int a2), (3, .int a3), (4, .int a4), (5, .int a5), (6, .int a6), (7, .int a7), (8, .int a8), (9, .int a9), (10, .int a10)]) (st' := [.int (2 : Int32), .int a9]) (M1 := M) (ob := []) (pc' := 3) (by decide +kernel) rfl rfl sw_a0 ?_
  refine sf_j_lt (off := 24) (tgt := 27) (by decide +kernel) (by decide) hf (fun hc hf => ?_) (fun hc hf => ?_)
  · refine sf_blk [(.iconst (-1), 0, 0, .int (-1 : Int32))] (lv' := [(0, .ref a0), (1, .int a1), (2, .int a2), (3, .int a3), (4, .int a4), (5, .int a5), (6, .int a6), (7, .int a7), (8, .int a8), (9, .int a9), (10, .int a10)]) (st' := [.int (-1 : Int32)]) (M1 := M) (ob := []) (pc' := 28) (by decide +kernel) rfl rfl sw_a0 ?_
    cases hf
    exact sf_int rfl (by decide +kernel)
  · refine sf_blk [(.iload 9, 0, 0, .null), (.bipush (16), 0, 0, .int (16 : Int32))] (lv' := [(0, .ref a0), (1, .int a1), (2, .int a2), (3, .int a3), (4, .int a4), (5, .int a5), (6, .int a6), (7, .int a7), (8, .int a8), (9, .int a9), (10, .int a10)]) (st' := [.int (16 : Int32), .int a9]) (M1 := M) (ob := []) (pc' := 10) (by decide +kernel) rfl rfl sw_a0 ?_
    refine sf_j_gt (off := 17) (tgt := 27) (by decide +kernel) (by decide) hf (fun hc hf => ?_) (fun hc hf => ?_)
    · refine sf_blk [(.iconst (-1), 0, 0, .int (-1 : Int32))] (lv' := [(0, .ref a0), (1, .int a1), (2, .int a2), (3, .int a3), (4, .int a4), (5, .int a5), (6, .int a6), (7, .int a7), (8, .int a8), (9, .int a9), (10, .int a10)]) (st' := [.int (-1 : Int32)]) (M1 := M) (ob := []) (pc' := 28) (by decide +kernel) rfl rfl sw_a0 ?_
      cases hf
      exact sf_int rfl (by decide +kernel)
    · refine sf_blk [(.iload 10, 0, 0, .null), (.iconst (1), 0, 0, .int (1 : Int32))] (lv' := [(0, .ref a0), (1, .int a1), (2, .int a2), (3, .int a3), (4, .int a4), (5, .int a5), (6, .int a6), (7, .int a7), (8, .int a8), (9, .int a9), (10, .int a10)]) (st' := [.int (1 : Int32), .int a10]) (M1 := M) (ob := []) (pc' := 16) (by decide +kernel) rfl rfl sw_a0 ?_
      refine sf_j_lt (off := 11) (tgt := 27) (by decide +kernel) (by decide) hf (fun hc hf => ?_) (fun hc hf => ?_)
      · refine sf_blk [(.iconst (-1), 0, 0, .int (-1 : Int32))] (lv' := [(0, .ref a0), (1, .int a1), (2, .int a2), (3, .int a3), (4, .int a4), (5, .int a5), (6, .int a6), (7, .int a7), (8, .int a8), (9, .int a9), (10, .int a10)]) (st' := [.int (-1 : Int32)]) (M1 := M) (ob := []) (pc' := 28) (by decide +kernel) rfl rfl sw_a0 ?_
        cases hf
        exact sf_int rfl (by decide +kernel)
      · refine sf_blk [(.iload 10, 0, 0, .null), (.sipush (240), 0, 0, .int (240 : Int32))] (lv' := [(0, .ref a0), (1, .int a1), (2, .int a2), (3, .int a3), (4, .int a4), (5, .int a5), (6, .int a6), (7, .int a7), (8, .int a8), (9, .int a9), (10, .int a10)]) (st' := [.int (240 : Int32), .int a10]) (M1 := M) (ob := []) (pc' := 24) (by decide +kernel) rfl rfl sw_a0 ?_
        refine sf_j_le (off := 5) (tgt := 29) (by decide +kernel) (by decide) hf (fun hc hf => ?_) (fun hc hf => ?_)
        · refine sf_blk [(.iload_n 1, 0, 0, .null), (.iload_n 2, 0, 0, .null), (.iload_n 3, 0, 0, .null), (.iload 4, 0, 0, .null)] (lv' := [(0, .ref a0), (1, .int a1), (2, .int a2), (3, .int a3), (4, .int a4), (5, .int a5), (6, .int a6), (7, .int a7), (8, .int a8), (9, .int a9), (10, .int a10)]) (st' := [.int a4, .int a3, .int a2, .int a1]) (M1 := M) (ob := []) (pc' := 34) (by decide +kernel) rfl rfl sw_a0 ?_
          obtain ⟨u1, hu1, hf⟩ := sw_bnd hf
          refine sf_callS (i := 148) (k2 := k_House_canStart) (d2 := d - 1) (As := [.int a1, .int a2, .int a3, .int a4]) (st := []) mf_House_canStart mi_House_canStart (sw_m3 237 (by decide +kernel)) (by decide +kernel) rfl (Nat.le_of_ble_eq_true rfl) (by omega) (o_House_canStart g (d := d - 1) (by omega) hu1) ?_
          show sw_F _ _ _ _ _ _ 37 [(0, .ref a0), (1, .int a1), (2, .int a2), (3, .int a3), (4, .int a4), (5, .int a5), (6, .int a6), (7, .int a7), (8, .int a8), (9, .int a9), (10, .int a10)] [.int u1.1] u1.2
          refine sf_z_eq (off := 47) (tgt := 84) (by decide +kernel) (by decide) hf (fun hc hf => ?_) (fun hc hf => ?_)
          · refine sf_blk [(.iconst (-1), 0, 0, .int (-1 : Int32))] (lv' := [(0, .ref a0), (1, .int a1), (2, .int a2), (3, .int a3), (4, .int a4), (5, .int a5), (6, .int a6), (7, .int a7), (8, .int a8), (9, .int a9), (10, .int a10)]) (st' := [.int (-1 : Int32)]) (M1 := u1.2) (ob := []) (pc' := 85) (by decide +kernel) rfl rfl sw_a0 ?_
            cases hf
            exact sf_int rfl (by decide +kernel)
          · refine sf_blk [(.iload 5, 0, 0, .null), (.sipush (999), 0, 0, .int (999 : Int32))] (lv' := [(0, .ref a0), (1, .int a1), (2, .int a2), (3, .int a3), (4, .int a4), (5, .int a5), (6, .int a6), (7, .int a7), (8, .int a8), (9, .int a9), (10, .int a10)]) (st' := [.int (999 : Int32), .int a5]) (M1 := u1.2) (ob := []) (pc' := 45) (by decide +kernel) rfl rfl sw_a0 ?_
            obtain ⟨u2, hu2, hf⟩ := sw_bnd hf
            refine sf_callS (i := 119) (k2 := k_House_within) (d2 := d - 1) (As := [.int a5, .int (999 : Int32)]) (st := []) mf_House_within mi_House_within (sw_m3 199 (by decide +kernel)) (by decide +kernel) rfl (Nat.le_of_ble_eq_true rfl) (by omega) (o_House_within g (d := d - 1) (by omega) hu2) ?_
            show sw_F _ _ _ _ _ _ 48 [(0, .ref a0), (1, .int a1), (2, .int a2), (3, .int a3), (4, .int a4), (5, .int a5), (6, .int a6), (7, .int a7), (8, .int a8), (9, .int a9), (10, .int a10)] [.int u2.1] u2.2
            refine sf_z_eq (off := 36) (tgt := 84) (by decide +kernel) (by decide) hf (fun hc hf => ?_) (fun hc hf => ?_)
            · refine sf_blk [(.iconst (-1), 0, 0, .int (-1 : Int32))] (lv' := [(0, .ref a0), (1, .int a1), (2, .int a2), (3, .int a3), (4, .int a4), (5, .int a5), (6, .int a6), (7, .int a7), (8, .int a8), (9, .int a9), (10, .int a10)]) (st' := [.int (-1 : Int32)]) (M1 := u2.2) (ob := []) (pc' := 85) (by decide +kernel) rfl rfl sw_a0 ?_
              cases hf
              exact sf_int rfl (by decide +kernel)
            · refine sf_blk [(.iload 6, 0, 0, .null), (.sipush (999), 0, 0, .int (999 : Int32))] (lv' := [(0, .ref a0), (1, .int a1), (2, .int a2), (3, .int a3), (4, .int a4), (5, .int a5), (6, .int a6), (7, .int a7), (8, .int a8), (9, .int a9), (10, .int a10)]) (st' := [.int (999 : Int32), .int a6]) (M1 := u2.2) (ob := []) (pc' := 56) (by decide +kernel) rfl rfl sw_a0 ?_
              obtain ⟨u3, hu3, hf⟩ := sw_bnd hf
              refine sf_callS (i := 119) (k2 := k_House_within) (d2 := d - 1) (As := [.int a6, .int (999 : Int32)]) (st := []) mf_House_within mi_House_within (sw_m3 199 (by decide +kernel)) (by decide +kernel) rfl (Nat.le_of_ble_eq_true rfl) (by omega) (o_House_within g (d := d - 1) (by omega) hu3) ?_
              show sw_F _ _ _ _ _ _ 59 [(0, .ref a0), (1, .int a1), (2, .int a2), (3, .int a3), (4, .int a4), (5, .int a5), (6, .int a6), (7, .int a7), (8, .int a8), (9, .int a9), (10, .int a10)] [.int u3.1] u3.2
              refine sf_z_eq (off := 25) (tgt := 84) (by decide +kernel) (by decide) hf (fun hc hf => ?_) (fun hc hf => ?_)
              · refine sf_blk [(.iconst (-1), 0, 0, .int (-1 : Int32))] (lv' := [(0, .ref a0), (1, .int a1), (2, .int a2), (3, .int a3), (4, .int a4), (5, .int a5), (6, .int a6), (7, .int a7), (8, .int a8), (9, .int a9), (10, .int a10)]) (st' := [.int (-1 : Int32)]) (M1 := u3.2) (ob := []) (pc' := 85) (by decide +kernel) rfl rfl sw_a0 ?_
                cases hf
                exact sf_int rfl (by decide +kernel)
              · refine sf_blk [(.iload 7, 0, 0, .null), (.sipush (999), 0, 0, .int (999 : Int32))] (lv' := [(0, .ref a0), (1, .int a1), (2, .int a2), (3, .int a3), (4, .int a4), (5, .int a5), (6, .int a6), (7, .int a7), (8, .int a8), (9, .int a9), (10, .int a10)]) (st' := [.int (999 : Int32), .int a7]) (M1 := u3.2) (ob := []) (pc' := 67) (by decide +kernel) rfl rfl sw_a0 ?_
                obtain ⟨u4, hu4, hf⟩ := sw_bnd hf
                refine sf_callS (i := 119) (k2 := k_House_within) (d2 := d - 1) (As := [.int a7, .int (999 : Int32)]) (st := []) mf_House_within mi_House_within (sw_m3 199 (by decide +kernel)) (by decide +kernel) rfl (Nat.le_of_ble_eq_true rfl) (by omega) (o_House_within g (d := d - 1) (by omega) hu4) ?_
                show sw_F _ _ _ _ _ _ 70 [(0, .ref a0), (1, .int a1), (2, .int a2), (3, .int a3), (4, .int a4), (5, .int a5), (6, .int a6), (7, .int a7), (8, .int a8), (9, .int a9), (10, .int a10)] [.int u4.1] u4.2
                refine sf_z_eq (off := 14) (tgt := 84) (by decide +kernel) (by decide) hf (fun hc hf => ?_) (fun hc hf => ?_)
                · refine sf_blk [(.iconst (-1), 0, 0, .int (-1 : Int32))] (lv' := [(0, .ref a0), (1, .int a1), (2, .int a2), (3, .int a3), (4, .int a4), (5, .int a5), (6, .int a6), (7, .int a7), (8, .int a8), (9, .int a9), (10, .int a10)]) (st' := [.int (-1 : Int32)]) (M1 := u4.2) (ob := []) (pc' := 85) (by decide +kernel) rfl rfl sw_a0 ?_
                  cases hf
                  exact sf_int rfl (by decide +kernel)
                · refine sf_blk [(.iload 8, 0, 0, .null), (.sipush (999), 0, 0, .int (999 : Int32))] (lv' := [(0, .ref a0), (1, .int a1), (2, .int a2), (3, .int a3), (4, .int a4), (5, .int a5), (6, .int a6), (7, .int a7), (8, .int a8), (9, .int a9), (10, .int a10)]) (st' := [.int (999 : Int32), .int a8]) (M1 := u4.2) (ob := []) (pc' := 78) (by decide +kernel) rfl rfl sw_a0 ?_
                  obtain ⟨u5, hu5, hf⟩ := sw_bnd hf
                  refine sf_callS (i := 119) (k2 := k_House_within) (d2 := d - 1) (As := [.int a8, .int (999 : Int32)]) (st := []) mf_House_within mi_House_within (sw_m3 199 (by decide +kernel)) (by decide +kernel) rfl (Nat.le_of_ble_eq_true rfl) (by omega) (o_House_within g (d := d - 1) (by omega) hu5) ?_
                  show sw_F _ _ _ _ _ _ 81 [(0, .ref a0), (1, .int a1), (2, .int a2), (3, .int a3), (4, .int a4), (5, .int a5), (6, .int a6), (7, .int a7), (8, .int a8), (9, .int a9), (10, .int a10)] [.int u5.1] u5.2
                  refine sf_z_ne (off := 5) (tgt := 86) (by decide +kernel) (by decide) hf (fun hc hf => ?_) (fun hc hf => ?_)
                  · refine sf_blk [(.iload 9, 0, 0, .null), (.iconst (1), 0, 0, .int (1 : Int32)), (.isub, 0, 0, .null), (.istore 11, 0, 0, .null), (.iload_n 1, 0, 0, .null), (.iload 11, 0, 0, .null), (.iload 5, 0, 0, .null), (.imul, 0, 0, .null), (.iadd, 0, 0, .null), (.iload_n 2, 0, 0, .null), (.iload 11, 0, 0, .null), (.iload 6, 0, 0, .null), (.imul, 0, 0, .null), (.iadd, 0, 0, .null), (.iload_n 3, 0, 0, .null), (.iload 11, 0, 0, .null), (.iload 7, 0, 0, .null), (.imul, 0, 0, .null), (.iadd, 0, 0, .null), (.iload 4, 0, 0, .null), (.iload 11, 0, 0, .null), (.iload 8, 0, 0, .null), (.imul, 0, 0, .null), (.iadd, 0, 0, .null)] (lv' := [(11, .int (a9 - (1 : Int32))), (0, .ref a0), (1, .int a1), (2, .int a2), (3, .int a3), (4, .int a4), (5, .int a5), (6, .int a6), (7, .int a7), (8, .int a8), (9, .int a9), (10, .int a10)]) (st' := [.int (a4 + ((a9 - (1 : Int32)) * a8)), .int (a3 + ((a9 - (1 : Int32)) * a7)), .int (a2 + ((a9 - (1 : Int32)) * a6)), .int (a1 + ((a9 - (1 : Int32)) * a5))]) (M1 := u5.2) (ob := []) (pc' := 121) (by decide +kernel) rfl rfl sw_a0 ?_
                    obtain ⟨u6, hu6, hf⟩ := sw_bnd hf
                    refine sf_callS (i := 148) (k2 := k_House_canStart) (d2 := d - 1) (As := [.int (a1 + ((a9 - (1 : Int32)) * a5)), .int (a2 + ((a9 - (1 : Int32)) * a6)), .int (a3 + ((a9 - (1 : Int32)) * a7)), .int (a4 + ((a9 - (1 : Int32)) * a8))]) (st := []) mf_House_canStart mi_House_canStart (sw_m3 237 (by decide +kernel)) (by decide +kernel) rfl (Nat.le_of_ble_eq_true rfl) (by omega) (o_House_canStart g (d := d - 1) (by omega) hu6) ?_
                    show sw_F _ _ _ _ _ _ 124 [(11, .int (a9 - (1 : Int32))), (0, .ref a0), (1, .int a1), (2, .int a2), (3, .int a3), (4, .int a4), (5, .int a5), (6, .int a6), (7, .int a7), (8, .int a8), (9, .int a9), (10, .int a10)] [.int u6.1] u6.2
                    refine sf_z_ne (off := 5) (tgt := 129) (by decide +kernel) (by decide) hf (fun hc hf => ?_) (fun hc hf => ?_)
                    · obtain ⟨h7, hf⟩ := sw_gd_1 hf
                      obtain ⟨h8, hf⟩ := sw_gd_1 hf
                      refine sf_blk [(.aload_n 0, 0, 0, .null), (.getfield 81, 11, 10, .null), (.iload_n 1, 0, 0, .null), (.iload_n 2, 0, 0, .null), (.iload_n 3, 0, 0, .null), (.iload 4, 0, 0, .null)] (lv' := [(11, .int (a9 - (1 : Int32))), (0, .ref a0), (1, .int a1), (2, .int a2), (3, .int a3), (4, .int a4), (5, .int a5), (6, .int a6), (7, .int a7), (8, .int a8), (9, .int a9), (10, .int a10)]) (st' := [.int a4, .int a3, .int a2, .int a1, .ref (rd_R u6.2 a0 10)]) (M1 := u6.2) (ob := [sw_ok u6.2 a0 11]) (pc' := 138) (by decide +kernel) rfl rfl (sw_a1 h7 sw_a0) ?_
                      obtain ⟨u9, hu9, hf⟩ := sw_bnd hf
                      refine sf_callV (i := 313) (k2 := k_Stream_begin) (d2 := d - 1) (As := [.int a1, .int a2, .int a3, .int a4]) (st := []) (q := (rd_R u6.2 a0 10)) (ci := 9) mf_Stream_begin mi_Stream_begin ms_Stream_begin (sw_m5 185 (by decide +kernel)) rfl (by decide) (by decide +kernel) rfl (Nat.le_of_ble_eq_true rfl) (by omega) h8 (o_Stream_begin g (d := d - 1) (by omega) hu9) ?_
                      show sw_F _ _ _ _ _ _ 141 [(11, .int (a9 - (1 : Int32))), (0, .ref a0), (1, .int a1), (2, .int a2), (3, .int a3), (4, .int a4), (5, .int a5), (6, .int a6), (7, .int a7), (8, .int a8), (9, .int a9), (10, .int a10)] [] u9
                      obtain ⟨h10, hf⟩ := sw_gd_1 hf
                      obtain ⟨h11, hf⟩ := sw_gd_1 hf
                      refine sf_blk [(.aload_n 0, 0, 0, .null), (.getfield 81, 11, 10, .null), (.iload 5, 0, 0, .null), (.iload 6, 0, 0, .null), (.iload 7, 0, 0, .null), (.iload 8, 0, 0, .null)] (lv' := [(11, .int (a9 - (1 : Int32))), (0, .ref a0), (1, .int a1), (2, .int a2), (3, .int a3), (4, .int a4), (5, .int a5), (6, .int a6), (7, .int a7), (8, .int a8), (9, .int a9), (10, .int a10)]) (st' := [.int a8, .int a7, .int a6, .int a5, .ref (rd_R u9 a0 10)]) (M1 := u9) (ob := [sw_ok u9 a0 11]) (pc' := 153) (by decide +kernel) rfl rfl (sw_a1 h10 sw_a0) ?_
                      obtain ⟨u12, hu12, hf⟩ := sw_bnd hf
                      refine sf_callV (i := 317) (k2 := k_Stream_apart) (d2 := d - 1) (As := [.int a5, .int a6, .int a7, .int a8]) (st := []) (q := (rd_R u9 a0 10)) (ci := 9) mf_Stream_apart mi_Stream_apart ms_Stream_apart (sw_m5 189 (by decide +kernel)) rfl (by decide) (by decide +kernel) rfl (Nat.le_of_ble_eq_true rfl) (by omega) h11 (o_Stream_apart g (d := d - 1) (by omega) hu12) ?_
                      show sw_F _ _ _ _ _ _ 156 [(11, .int (a9 - (1 : Int32))), (0, .ref a0), (1, .int a1), (2, .int a2), (3, .int a3), (4, .int a4), (5, .int a5), (6, .int a6), (7, .int a7), (8, .int a8), (9, .int a9), (10, .int a10)] [] u12
                      obtain ⟨h13, hf⟩ := sw_gd_1 hf
                      obtain ⟨h14, hf⟩ := sw_gd_1 hf
                      obtain ⟨h15, hf⟩ := sw_gd_1 hf
                      obtain ⟨h16, hf⟩ := sw_gd_1 hf
                      refine sf_blk [(.aload_n 0, 0, 0, .null), (.getfield 81, 11, 10, .null), (.iload 9, 0, 0, .null), (.putfield 320, 9, 9, .null), (.aload_n 0, 0, 0, .null), (.getfield 81, 11, 10, .null), (.iload 10, 0, 0, .null), (.putfield 323, 9, 10, .null), (.aload_n 0, 0, 0, .null), (.getfield 81, 11, 10, .null), (.aload_n 0, 0, 0, .null), (.getfield 20, 11, 2, .null), (.aload_n 0, 0, 0, .null), (.getfield 49, 11, 6, .null)] (lv' := [(11, .int (a9 - (1 : Int32))), (0, .ref a0), (1, .int a1), (2, .int a2), (3, .int a3), (4, .int a4), (5, .int a5), (6, .int a6), (7, .int a7), (8, .int a8), (9, .int a9), (10, .int a10)]) (st' := [.ref (rd_R (wr_I (wr_I u12 (rd_R u12 a0 10) 9 a9) (rd_R (wr_I u12 (rd_R u12 a0 10) 9 a9) a0 10) 10 a10) a0 6), .ref (rd_R (wr_I (wr_I u12 (rd_R u12 a0 10) 9 a9) (rd_R (wr_I u12 (rd_R u12 a0 10) 9 a9) a0 10) 10 a10) a0 2), .ref (rd_R (wr_I (wr_I u12 (rd_R u12 a0 10) 9 a9) (rd_R (wr_I u12 (rd_R u12 a0 10) 9 a9) a0 10) 10 a10) a0 10)]) (M1 := (wr_I (wr_I u12 (rd_R u12 a0 10) 9 a9) (rd_R (wr_I u12 (rd_R u12 a0 10) 9 a9) a0 10) 10 a10)) (ob := [sw_ok u12 a0 11, sw_ok u12 (rd_R u12 a0 10) 9, sw_ok (wr_I u12 (rd_R u12 a0 10) 9 a9) a0 11, sw_ok (wr_I u12 (rd_R u12 a0 10) 9 a9) (rd_R (wr_I u12 (rd_R u12 a0 10) 9 a9) a0 10) 9, sw_ok (wr_I (wr_I u12 (rd_R u12 a0 10) 9 a9) (rd_R (wr_I u12 (rd_R u12 a0 10) 9 a9) a0 10) 10 a10) a0 11, sw_ok (wr_I (wr_I u12 (rd_R u12 a0 10) 9 a9) (rd_R (wr_I u12 (rd_R u12 a0 10) 9 a9) a0 10) 10 a10) a0 11, sw_ok (wr_I (wr_I u12 (rd_R u12 a0 10) 9 a9) (rd_R (wr_I u12 (rd_R u12 a0 10) 9 a9) a0 10) 10 a10) a0 11]) (pc' := 186) (by decide +kernel) rfl rfl (sw_a1 h13 (sw_a1 h14 (sw_a1 h13 (sw_a1 h15 (sw_a1 h13 (sw_a1 h13 (sw_a1 h13 sw_a0))))))) ?_
                      obtain ⟨u17, hu17, hf⟩ := sw_bnd hf
                      refine sf_callV (i := 326) (k2 := k_Stream_cellBits) (d2 := d - 1) (As := [.ref (rd_R (wr_I (wr_I u12 (rd_R u12 a0 10) 9 a9) (rd_R (wr_I u12 (rd_R u12 a0 10) 9 a9) a0 10) 10 a10) a0 2), .ref (rd_R (wr_I (wr_I u12 (rd_R u12 a0 10) 9 a9) (rd_R (wr_I u12 (rd_R u12 a0 10) 9 a9) a0 10) 10 a10) a0 6)]) (st := []) (q := (rd_R (wr_I (wr_I u12 (rd_R u12 a0 10) 9 a9) (rd_R (wr_I u12 (rd_R u12 a0 10) 9 a9) a0 10) 10 a10) a0 10)) (ci := 9) mf_Stream_cellBits mi_Stream_cellBits ms_Stream_cellBits (sw_m5 193 (by decide +kernel)) rfl (by decide) (by decide +kernel) rfl (Nat.le_of_ble_eq_true rfl) (by omega) h16 (o_Stream_cellBits g (d := d - 1) (by omega) hu17) ?_
                      show sw_F _ _ _ _ _ _ 189 [(11, .int (a9 - (1 : Int32))), (0, .ref a0), (1, .int a1), (2, .int a2), (3, .int a3), (4, .int a4), (5, .int a5), (6, .int a6), (7, .int a7), (8, .int a8), (9, .int a9), (10, .int a10)] [.long u17.1] u17.2
                      obtain ⟨u18, hu18, hf⟩ := sw_bnd hf
                      refine sf_callS (i := 330) (k2 := k_Lng_bitCount) (d2 := d - 1) (As := [.long u17.1]) (st := []) mf_Lng_bitCount mi_Lng_bitCount (sw_m5 200 (by decide +kernel)) (by decide +kernel) rfl (Nat.le_of_ble_eq_true rfl) (by omega) (o_Lng_bitCount g (d := d - 1) (by omega) hu18) ?_
                      show sw_F _ _ _ _ _ _ 192 [(11, .int (a9 - (1 : Int32))), (0, .ref a0), (1, .int a1), (2, .int a2), (3, .int a3), (4, .int a4), (5, .int a5), (6, .int a6), (7, .int a7), (8, .int a8), (9, .int a9), (10, .int a10)] [.int u18.1] u18.2
                      cases hf
                      exact sf_int rfl (by decide +kernel)
                    · exact sf_weak [] rfl (t_House_stream_127 hd hf)
                  · refine sf_blk [(.iconst (-1), 0, 0, .int (-1 : Int32))] (lv' := [(0, .ref a0), (1, .int a1), (2, .int a2), (3, .int a3), (4, .int a4), (5, .int a5), (6, .int a6), (7, .int a7), (8, .int a8), (9, .int a9), (10, .int a10)]) (st' := [.int (-1 : Int32)]) (M1 := u5.2) (ob := []) (pc' := 85) (by decide +kernel) rfl rfl sw_a0 ?_
                    cases hf
                    exact sf_int rfl (by decide +kernel)
        · refine sf_blk [(.iconst (-1), 0, 0, .int (-1 : Int32))] (lv' := [(0, .ref a0), (1, .int a1), (2, .int a2), (3, .int a3), (4, .int a4), (5, .int a5), (6, .int a6), (7, .int a7), (8, .int a8), (9, .int a9), (10, .int a10)]) (st' := [.int (-1 : Int32)]) (M1 := M) (ob := []) (pc' := 28) (by decide +kernel) rfl rfl sw_a0 ?_
          cases hf
          exact sf_int rfl (by decide +kernel)
theorem o_House_stream (g : sw_G) {d : Nat} (hd : 6 ≤ d) {N : Nat} {a0 : Nat} {a1 : Int32} {a2 : Int32} {a3 : Int32} {a4 : Int32} {a5 : Int32} {a6 : Int32} {a7 : Int32} {a8 : Int32} {a9 : Int32} {a10 : Int32} {M : sw_M} {r : Int32 × sw_M} (hf : f_House_stream N a0 a1 a2 a3 a4 a5 a6 a7 a8 a9 a10 M = some r) : sw_Ok g k_House_stream d [.ref a0, .int a1, .int a2, .int a3, .int a4, .int a5, .int a6, .int a7, .int a8, .int a9, .int a10] M (some (.int r.1)) r.2 := sf_met (by decide +kernel) rfl (by decide) (Nat.le_of_ble_eq_true rfl) (t_House_stream hd hf)
def f_House_trail (N : Nat) (a0 : Nat) (M : sw_M) : Option (Int64 × sw_M) :=
  sw_gd [sw_ok M a0 11] (sw_gd [sw_ok M (rd_R M a0 10) 9] ((f_Stream_cellBits N (rd_R M a0 10) (rd_R M a0 2) (rd_R M a0 6) M).bind (fun u3 => some (u3.1, u3.2))))
set_option maxRecDepth 10000 in
theorem t_House_trail {g : sw_G} {d n0 : Nat} (hd : 6 ≤ d) {r : Int64 × sw_M} {N : Nat} {a0 : Nat} {M : sw_M} (hf : f_House_trail N a0 M = some r) : sw_F g k_House_trail d n0 (some (.long r.1)) r.2 0 [(0, .ref a0)] [] M := by
  unfold f_House_trail at hf
  obtain ⟨h1, hf⟩ := sw_gd_1 hf
  obtain ⟨h2, hf⟩ := sw_gd_1 hf
  refine sf_blk [(.aload_n 0, 0, 0, .null), (.getfield 81, 11, 10, .null), (.aload_n 0, 0, 0, .null), (.getfield 20, 11, 2, .null), (.aload_n 0, 0, 0, .null), (.getfield 49, 11, 6, .null)] (lv' := [(0, .ref a0)]) (st' := [.ref (rd_R M a0 6), .ref (rd_R M a0 2), .ref (rd_R M a0 10)]) (M1 := M) (ob := [sw_ok M a0 11, sw_ok M a0 11, sw_ok M a0 11]) (pc' := 12) (by decide +kernel) rfl rfl (sw_a1 h1 (sw_a1 h1 (sw_a1 h1 sw_a0))) ?_
  obtain ⟨u3, hu3, hf⟩ := sw_bnd hf
  refine sf_callV (i := 326) (k2 := k_Stream_cellBits) (d2 := d - 1) (As := [.ref (rd_R M a0 2), .ref (rd_R M a0 6)]) (st := []) (q := (rd_R M a0 10)) (ci := 9) mf_Stream_cellBits mi_Stream_cellBits ms_Stream_cellBits (sw_m5 193 (by decide +kernel)) rfl (by decide) (by decide +kernel) rfl (Nat.le_of_ble_eq_true rfl) (by omega) h2 (o_Stream_cellBits g (d := d - 1) (by omega) hu3) ?_
  show sw_F _ _ _ _ _ _ 15 [(0, .ref a0)] [.long u3.1] u3.2
  cases hf
  exact sf_long rfl (by decide +kernel)
theorem o_House_trail (g : sw_G) {d : Nat} (hd : 6 ≤ d) {N : Nat} {a0 : Nat} {M : sw_M} {r : Int64 × sw_M} (hf : f_House_trail N a0 M = some r) : sw_Ok g k_House_trail d [.ref a0] M (some (.long r.1)) r.2 := sf_met (by decide +kernel) rfl (by decide) (Nat.le_of_ble_eq_true rfl) (t_House_trail hd hf)
