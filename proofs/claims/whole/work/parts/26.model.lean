/-! printed by program: functions of methods, and that the bytes compute them -/
def f_Model_fits_36 (N : Nat) : Nat → Nat → Int32 → Int32 → sw_M → Option (Int32 × sw_M)
  | 0, _, _, _, _ => none
  | j + 1, a0, a2, a3, M =>
  if a3 = 0 then some (a2, M)
  else sw_gd [sw_ok M a0 12] ((f_Model_toFit N a0 (0 : Int32) M).bind (fun u2 => f_Model_fits_36 N j a0 (a2 + (1 : Int32)) u2.1 u2.2))
set_option maxRecDepth 10000 in
theorem t_Model_fits_36 {g : sw_G} {d n0 : Nat} (hd : 7 ≤ d) {r : Int32 × sw_M} {N : Nat} : ∀ (j : Nat) (a0 : Nat) (a2 : Int32) (a3 : Int32) (M : sw_M), f_Model_fits_36 N j a0 a2 a3 M = some r → sw_F g k_Model_fits d n0 (some (.int r.1)) r.2 36 [(0, .ref a0), (2, .int a2), (3, .int a3)] [] M := by
  intro j
  induction j with
  | zero =>
    intro a0 a2 a3 M hf
    rw [f_Model_fits_36] at hf
    cases hf
  | succ j ih =>
    intro a0 a2 a3 M hf
    rw [f_Model_fits_36] at hf
    refine sf_blk [(.iload_n 3, 0, 0, .null)] (lv' := [(0, .ref a0), (2, .int a2), (3, .int a3)]) (st' := [.int a3]) (M1 := M) (ob := []) (pc' := 37) (by decide +kernel) rfl rfl sw_a0 ?_
    refine sf_z_eq (off := 15) (tgt := 52) (by decide +kernel) (by decide) hf (fun hc hf => ?_) (fun hc hf => ?_)
    · refine sf_blk [(.iload_n 2, 0, 0, .null)] (lv' := [(0, .ref a0), (2, .int a2), (3, .int a3)]) (st' := [.int a2]) (M1 := M) (ob := []) (pc' := 53) (by decide +kernel) rfl rfl sw_a0 ?_
      cases hf
      exact sf_int rfl (by decide +kernel)
    · obtain ⟨h1, hf⟩ := sw_gd_1 hf
      refine sf_blk [(.iinc 2 (1), 0, 0, .int (1 : Int32)), (.aload_n 0, 0, 0, .null), (.iconst (0), 0, 0, .int (0 : Int32))] (lv' := [(2, .int (a2 + (1 : Int32))), (0, .ref a0), (3, .int a3)]) (st' := [.int (0 : Int32), .ref a0]) (M1 := M) (ob := []) (pc' := 45) (by decide +kernel) rfl rfl sw_a0 ?_
      obtain ⟨u2, hu2, hf⟩ := sw_bnd hf
      refine sf_callV (i := 497) (k2 := k_Model_toFit) (d2 := d - 1) (As := [.int (0 : Int32)]) (st := []) (q := a0) (ci := 12) mf_Model_toFit mi_Model_toFit ms_Model_toFit (sw_m8 52 (by decide +kernel)) rfl (by decide) (by decide +kernel) rfl (Nat.le_of_ble_eq_true rfl) (by omega) h1 (o_Model_toFit g (d := d - 1) (by omega) hu2) ?_
      show sw_F _ _ _ _ _ _ 48 [(2, .int (a2 + (1 : Int32))), (0, .ref a0), (3, .int a3)] [.int u2.1] u2.2
      refine sf_blk [(.istore_n 3, 0, 0, .null)] (lv' := [(3, .int u2.1), (2, .int (a2 + (1 : Int32))), (0, .ref a0)]) (st' := []) (M1 := u2.2) (ob := []) (pc' := 49) (by decide +kernel) rfl rfl sw_a0 ?_
      refine sf_goto (off := -13) (tgt := 36) (by decide +kernel) (by decide) ?_
      exact sf_weak [2, 1, 0] rfl (ih _ _ _ _ hf)
def f_Model_fits (N : Nat) (a0 : Nat) (a1 : Int32) (M : sw_M) : Option (Int32 × sw_M) :=
  sw_gd [sw_ok M a0 12] ((f_Model_isKnown N a0 a1 (wr_I M a0 0 (0 : Int32))).bind (fun u2 => if u2.1 = 0 then some ((-1 : Int32), u2.2)
  else sw_gd [sw_ok u2.2 a0 12] ((f_Model_spread N a0 (rd_I u2.2 a0 15) u2.2).bind (fun u4 => sw_gd [sw_ok u4 a0 12] ((f_Model_knows N a0 a1 u4).bind (fun u6 => sw_gd [sw_ok u6 a0 12] ((f_Model_toFit N a0 (1 : Int32) u6).bind (fun u8 => f_Model_fits_36 N N a0 (0 : Int32) u8.1 u8.2))))))))
set_option maxRecDepth 10000 in
theorem t_Model_fits {g : sw_G} {d n0 : Nat} (hd : 7 ≤ d) {r : Int32 × sw_M} {N : Nat} {a0 : Nat} {a1 : Int32} {M : sw_M} (hf : f_Model_fits N a0 a1 M = some r) : sw_F g k_Model_fits d n0 (some (.int r.1)) r.2 0 [(0, .ref a0), (1, .int a1)] [] M := by
  unfold f_Model_fits at hf
  obtain ⟨h1, hf⟩ := sw_gd_1 hf
  refine sf_blk [(.aload_n 0, 0, 0, .null), (.iconst (0), 0, 0, .int (0 : Int32)), (.putfield 166, 12, 0, .null), (.aload_n 0, 0, 0, .null), (.iload_n 1, 0, 0, .null)] (lv' := [(0, .ref a0), (1, .int a1)]) (st' := [.int a1, .ref a0]) (M1 := (wr_I M a0 0 (0 : Int32))) (ob := [sw_ok M a0 12]) (pc' := 7) (by decide +kernel) rfl rfl (sw_a1 h1 sw_a0) ?_
  obtain ⟨u2, hu2, hf⟩ := sw_bnd hf
  refine sf_callV (i := 491) (k2 := k_Model_isKnown) (d2 := d - 1) (As := [.int a1]) (st := []) (q := a0) (ci := 12) mf_Model_isKnown mi_Model_isKnown ms_Model_isKnown (sw_m8 44 (by decide +kernel)) rfl (by decide) (by decide +kernel) rfl (Nat.le_of_ble_eq_true rfl) (by omega) h1 (o_Model_isKnown g (d := d - 1) (by omega) hu2) ?_
  show sw_F _ _ _ _ _ _ 10 [(0, .ref a0), (1, .int a1)] [.int u2.1] u2.2
  refine sf_z_ne (off := 5) (tgt := 15) (by decide +kernel) (by decide) hf (fun hc hf => ?_) (fun hc hf => ?_)
  · obtain ⟨h3, hf⟩ := sw_gd_1 hf
    refine sf_blk [(.aload_n 0, 0, 0, .null), (.aload_n 0, 0, 0, .null), (.getfield 305, 12, 15, .null)] (lv' := [(0, .ref a0), (1, .int a1)]) (st' := [.int (rd_I u2.2 a0 15), .ref a0]) (M1 := u2.2) (ob := [sw_ok u2.2 a0 12]) (pc' := 20) (by decide +kernel) rfl rfl (sw_a1 h3 sw_a0) ?_
    obtain ⟨u4, hu4, hf⟩ := sw_bnd hf
    refine sf_callV (i := 459) (k2 := k_Model_spread) (d2 := d - 1) (As := [.int (rd_I u2.2 a0 15)]) (st := []) (q := a0) (ci := 12) mf_Model_spread mi_Model_spread ms_Model_spread (sw_m8 20 (by decide +kernel)) rfl (by decide) (by decide +kernel) rfl (Nat.le_of_ble_eq_true rfl) (by omega) h3 (o_Model_spread g (d := d - 1) (by omega) hu4) ?_
    show sw_F _ _ _ _ _ _ 23 [(0, .ref a0), (1, .int a1)] [] u4
    obtain ⟨h5, hf⟩ := sw_gd_1 hf
    refine sf_blk [(.aload_n 0, 0, 0, .null), (.iload_n 1, 0, 0, .null)] (lv' := [(0, .ref a0), (1, .int a1)]) (st' := [.int a1, .ref a0]) (M1 := u4) (ob := []) (pc' := 25) (by decide +kernel) rfl rfl sw_a0 ?_
    obtain ⟨u6, hu6, hf⟩ := sw_bnd hf
    refine sf_callV (i := 494) (k2 := k_Model_knows) (d2 := d - 1) (As := [.int a1]) (st := []) (q := a0) (ci := 12) mf_Model_knows mi_Model_knows ms_Model_knows (sw_m8 48 (by decide +kernel)) rfl (by decide) (by decide +kernel) rfl (Nat.le_of_ble_eq_true rfl) (by omega) h5 (o_Model_knows g (d := d - 1) (by omega) hu6) ?_
    show sw_F _ _ _ _ _ _ 28 [(0, .ref a0), (1, .int a1)] [] u6
    obtain ⟨h7, hf⟩ := sw_gd_1 hf
    refine sf_blk [(.iconst (0), 0, 0, .int (0 : Int32)), (.istore_n 2, 0, 0, .null), (.aload_n 0, 0, 0, .null), (.iconst (1), 0, 0, .int (1 : Int32))] (lv' := [(2, .int (0 : Int32)), (0, .ref a0), (1, .int a1)]) (st' := [.int (1 : Int32), .ref a0]) (M1 := u6) (ob := []) (pc' := 32) (by decide +kernel) rfl rfl sw_a0 ?_
    obtain ⟨u8, hu8, hf⟩ := sw_bnd hf
    refine sf_callV (i := 497) (k2 := k_Model_toFit) (d2 := d - 1) (As := [.int (1 : Int32)]) (st := []) (q := a0) (ci := 12) mf_Model_toFit mi_Model_toFit ms_Model_toFit (sw_m8 52 (by decide +kernel)) rfl (by decide) (by decide +kernel) rfl (Nat.le_of_ble_eq_true rfl) (by omega) h7 (o_Model_toFit g (d := d - 1) (by omega) hu8) ?_
    show sw_F _ _ _ _ _ _ 35 [(2, .int (0 : Int32)), (0, .ref a0), (1, .int a1)] [.int u8.1] u8.2
    refine sf_blk [(.istore_n 3, 0, 0, .null)] (lv' := [(3, .int u8.1), (2, .int (0 : Int32)), (0, .ref a0), (1, .int a1)]) (st' := []) (M1 := u8.2) (ob := []) (pc' := 36) (by decide +kernel) rfl rfl sw_a0 ?_
    exact sf_weak [2, 1, 0] rfl (t_Model_fits_36 hd _ _ _ _ _ hf)
  · refine sf_blk [(.iconst (-1), 0, 0, .int (-1 : Int32))] (lv' := [(0, .ref a0), (1, .int a1)]) (st' := [.int (-1 : Int32)]) (M1 := u2.2) (ob := []) (pc' := 14) (by decide +kernel) rfl rfl sw_a0 ?_
    cases hf
    exact sf_int rfl (by decide +kernel)
theorem o_Model_fits (g : sw_G) {d : Nat} (hd : 7 ≤ d) {N : Nat} {a0 : Nat} {a1 : Int32} {M : sw_M} {r : Int32 × sw_M} (hf : f_Model_fits N a0 a1 M = some r) : sw_Ok g k_Model_fits d [.ref a0, .int a1] M (some (.int r.1)) r.2 := sf_met (by decide +kernel) rfl (by decide) (Nat.le_of_ble_eq_true rfl) (t_Model_fits hd hf)
def f_Model_weight_74 (N : Nat) (a0 : Nat) (a3 : Int32) (a4 : Int32) (M : sw_M) : Option (Int32 × sw_M) :=
  if a4 = 0 then some ((-1 : Int32), M)
  else sw_gd [sw_ok M a0 12] (sw_gd [sw_ar M (rd_R M a0 84) 13 a3] (some ((rd_I M (rd_R M a0 84) a3.toNatClampNeg), M)))
set_option maxRecDepth 10000 in
theorem t_Model_weight_74 {g : sw_G} {d n0 : Nat} (hd : 7 ≤ d) {r : Int32 × sw_M} {N : Nat} {a0 : Nat} {a3 : Int32} {a4 : Int32} {M : sw_M} (hf : f_Model_weight_74 N a0 a3 a4 M = some r) : sw_F g k_Model_weight d n0 (some (.int r.1)) r.2 74 [(0, .ref a0), (3, .int a3), (4, .int a4)] [] M := by
  unfold f_Model_weight_74 at hf
  refine sf_blk [(.iload 4, 0, 0, .null)] (lv' := [(0, .ref a0), (3, .int a3), (4, .int a4)]) (st' := [.int a4]) (M1 := M) (ob := []) (pc' := 76) (by decide +kernel) rfl rfl sw_a0 ?_
  refine sf_z_eq (off := 12) (tgt := 88) (by decide +kernel) (by decide) hf (fun hc hf => ?_) (fun hc hf => ?_)
  · refine sf_blk [(.iconst (-1), 0, 0, .int (-1 : Int32))] (lv' := [(0, .ref a0), (3, .int a3), (4, .int a4)]) (st' := [.int (-1 : Int32)]) (M1 := M) (ob := []) (pc' := 89) (by decide +kernel) rfl rfl sw_a0 ?_
    cases hf
    exact sf_int rfl (by decide +kernel)
  · obtain ⟨h1, hf⟩ := sw_gd_1 hf
    obtain ⟨h2, hf⟩ := sw_gd_1 hf
    refine sf_blk [(.aload_n 0, 0, 0, .null), (.getfield 148, 12, 84, .null), (.iload_n 3, 0, 0, .null), (.iaload, 0, 0, .null)] (lv' := [(0, .ref a0), (3, .int a3), (4, .int a4)]) (st' := [.int (rd_I M (rd_R M a0 84) a3.toNatClampNeg)]) (M1 := M) (ob := [sw_ok M a0 12, sw_ar M (rd_R M a0 84) 13 a3]) (pc' := 85) (by decide +kernel) rfl rfl (sw_a1 h1 (sw_a1 h2 sw_a0)) ?_
    refine sf_goto (off := 4) (tgt := 89) (by decide +kernel) (by decide) ?_
    cases hf
    exact sf_int rfl (by decide +kernel)
def f_Model_weight_50 (N : Nat) : Nat → Nat → Int32 → Int32 → Int32 → Int32 → sw_M → Option (Int32 × sw_M)
  | 0, _, _, _, _, _, _ => none
  | j + 1, a0, a2, a3, a4, a5, M =>
  if a2 ≤ a5 then f_Model_weight_74 N a0 a3 a4 M
  else if a4 = 0 then f_Model_weight_74 N a0 a3 a4 M
  else sw_gd [sw_ok M a0 12] ((f_Model_toFit N a0 (0 : Int32) M).bind (fun u2 => f_Model_weight_50 N j a0 a2 a3 u2.1 (a5 + (1 : Int32)) u2.2))
set_option maxRecDepth 10000 in
theorem t_Model_weight_50 {g : sw_G} {d n0 : Nat} (hd : 7 ≤ d) {r : Int32 × sw_M} {N : Nat} : ∀ (j : Nat) (a0 : Nat) (a2 : Int32) (a3 : Int32) (a4 : Int32) (a5 : Int32) (M : sw_M), f_Model_weight_50 N j a0 a2 a3 a4 a5 M = some r → sw_F g k_Model_weight d n0 (some (.int r.1)) r.2 50 [(0, .ref a0), (2, .int a2), (3, .int a3), (4, .int a4), (5, .int a5)] [] M := by
  intro j
  induction j with
  | zero =>
    intro a0 a2 a3 a4 a5 M hf
    rw [f_Model_weight_50] at hf
    cases hf
  | succ j ih =>
    intro a0 a2 a3 a4 a5 M hf
    rw [f_Model_weight_50] at hf
    refine sf_blk [(.iload 5, 0, 0, .null), (.iload_n 2, 0, 0, .null)] (lv' := [(0, .ref a0), (2, .int a2), (3, .int a3), (4, .int a4), (5, .int a5)]) (st' := [.int a2, .int a5]) (M1 := M) (ob := []) (pc' := 53) (by decide +kernel) rfl rfl sw_a0 ?_
    refine sf_j_ge (off := 21) (tgt := 74) (by decide +kernel) (by decide) hf (fun hc hf => ?_) (fun hc hf => ?_)
    · exact sf_weak [0, 2, 3] rfl (t_Model_weight_74 hd hf)
    · refine sf_blk [(.iload 4, 0, 0, .null)] (lv' := [(0, .ref a0), (2, .int a2), (3, .int a3), (4, .int a4), (5, .int a5)]) (st' := [.int a4]) (M1 := M) (ob := []) (pc' := 58) (by decide +kernel) rfl rfl sw_a0 ?_
      refine sf_z_eq (off := 16) (tgt := 74) (by decide +kernel) (by decide) hf (fun hc hf => ?_) (fun hc hf => ?_)
      · exact sf_weak [0, 2, 3] rfl (t_Model_weight_74 hd hf)
      · obtain ⟨h1, hf⟩ := sw_gd_1 hf
        refine sf_blk [(.aload_n 0, 0, 0, .null), (.iconst (0), 0, 0, .int (0 : Int32))] (lv' := [(0, .ref a0), (2, .int a2), (3, .int a3), (4, .int a4), (5, .int a5)]) (st' := [.int (0 : Int32), .ref a0]) (M1 := M) (ob := []) (pc' := 63) (by decide +kernel) rfl rfl sw_a0 ?_
        obtain ⟨u2, hu2, hf⟩ := sw_bnd hf
        refine sf_callV (i := 497) (k2 := k_Model_toFit) (d2 := d - 1) (As := [.int (0 : Int32)]) (st := []) (q := a0) (ci := 12) mf_Model_toFit mi_Model_toFit ms_Model_toFit (sw_m8 52 (by decide +kernel)) rfl (by decide) (by decide +kernel) rfl (Nat.le_of_ble_eq_true rfl) (by omega) h1 (o_Model_toFit g (d := d - 1) (by omega) hu2) ?_
        show sw_F _ _ _ _ _ _ 66 [(0, .ref a0), (2, .int a2), (3, .int a3), (4, .int a4), (5, .int a5)] [.int u2.1] u2.2
        refine sf_blk [(.istore 4, 0, 0, .null), (.iinc 5 (1), 0, 0, .int (1 : Int32))] (lv' := [(5, .int (a5 + (1 : Int32))), (4, .int u2.1), (0, .ref a0), (2, .int a2), (3, .int a3)]) (st' := []) (M1 := u2.2) (ob := []) (pc' := 71) (by decide +kernel) rfl rfl sw_a0 ?_
        refine sf_goto (off := -21) (tgt := 50) (by decide +kernel) (by decide) ?_
        exact sf_weak [2, 3, 4, 1, 0] rfl (ih _ _ _ _ _ _ hf)
def f_Model_weight (N : Nat) (a0 : Nat) (a1 : Int32) (a2 : Int32) (a3 : Int32) (M : sw_M) : Option (Int32 × sw_M) :=
  sw_gd [sw_ok M a0 12] ((f_Model_isKnown N a0 a1 (wr_I M a0 0 (0 : Int32))).bind (fun u2 => if u2.1 = 0 then some ((-1 : Int32), u2.2)
  else if a2 < 0 then some ((-1 : Int32), u2.2)
  else sw_gd [sw_ok u2.2 a0 12] ((f_Model_isOrbit N a0 a3 u2.2).bind (fun u4 => if u4.1 = 0 then some ((-1 : Int32), u4.2)
  else sw_gd [sw_ok u4.2 a0 12] ((f_Model_spread N a0 (rd_I u4.2 a0 15) u4.2).bind (fun u6 => sw_gd [sw_ok u6 a0 12] ((f_Model_knows N a0 a1 u6).bind (fun u8 => sw_gd [sw_ok u8 a0 12] ((f_Model_toFit N a0 (1 : Int32) u8).bind (fun u10 => f_Model_weight_50 N N a0 a2 a3 u10.1 (0 : Int32) u10.2))))))))))
set_option maxRecDepth 10000 in
theorem t_Model_weight {g : sw_G} {d n0 : Nat} (hd : 7 ≤ d) {r : Int32 × sw_M} {N : Nat} {a0 : Nat} {a1 : Int32} {a2 : Int32} {a3 : Int32} {M : sw_M} (hf : f_Model_weight N a0 a1 a2 a3 M = some r) : sw_F g k_Model_weight d n0 (some (.int r.1)) r.2 0 [(0, .ref a0), (1, .int a1), (2, .int a2), (3, .int a3)] [] M := by
  unfold f_Model_weight at hf
  obtain ⟨h1, hf⟩ := sw_gd_1 hf
  refine sf_blk [(.aload_n 0, 0, 0, .null), (.iconst (0), 0, 0, .int (0 : Int32)), (.putfield 166, 12, 0, .null), (.aload_n 0, 0, 0, .null), (.iload_n 1, 0, 0, .null)] (lv' := [(0, .ref a0), (1, .int a1), (2, .int a2), (3, .int a3)]) (st' := [.int a1, .ref a0]) (M1 := (wr_I M a0 0 (0 : Int32))) (ob := [sw_ok M a0 12]) (pc' := 7) (by decide +kernel) rfl rfl (sw_a1 h1 sw_a0) ?_
  obtain ⟨u2, hu2, hf⟩ := sw_bnd hf
  refine sf_callV (i := 491) (k2 := k_Model_isKnown) (d2 := d - 1) (As := [.int a1]) (st := []) (q := a0) (ci := 12) mf_Model_isKnown mi_Model_isKnown ms_Model_isKnown (sw_m8 44 (by decide +kernel)) rfl (by decide) (by decide +kernel) rfl (Nat.le_of_ble_eq_true rfl) (by omega) h1 (o_Model_isKnown g (d := d - 1) (by omega) hu2) ?_
  show sw_F _ _ _ _ _ _ 10 [(0, .ref a0), (1, .int a1), (2, .int a2), (3, .int a3)] [.int u2.1] u2.2
  refine sf_z_eq (off := 15) (tgt := 25) (by decide +kernel) (by decide) hf (fun hc hf => ?_) (fun hc hf => ?_)
  · refine sf_blk [(.iconst (-1), 0, 0, .int (-1 : Int32))] (lv' := [(0, .ref a0), (1, .int a1), (2, .int a2), (3, .int a3)]) (st' := [.int (-1 : Int32)]) (M1 := u2.2) (ob := []) (pc' := 26) (by decide +kernel) rfl rfl sw_a0 ?_
    cases hf
    exact sf_int rfl (by decide +kernel)
  · refine sf_blk [(.iload_n 2, 0, 0, .null)] (lv' := [(0, .ref a0), (1, .int a1), (2, .int a2), (3, .int a3)]) (st' := [.int a2]) (M1 := u2.2) (ob := []) (pc' := 14) (by decide +kernel) rfl rfl sw_a0 ?_
    refine sf_z_lt (off := 11) (tgt := 25) (by decide +kernel) (by decide) hf (fun hc hf => ?_) (fun hc hf => ?_)
    · refine sf_blk [(.iconst (-1), 0, 0, .int (-1 : Int32))] (lv' := [(0, .ref a0), (1, .int a1), (2, .int a2), (3, .int a3)]) (st' := [.int (-1 : Int32)]) (M1 := u2.2) (ob := []) (pc' := 26) (by decide +kernel) rfl rfl sw_a0 ?_
      cases hf
      exact sf_int rfl (by decide +kernel)
    · obtain ⟨h3, hf⟩ := sw_gd_1 hf
      refine sf_blk [(.aload_n 0, 0, 0, .null), (.iload_n 3, 0, 0, .null)] (lv' := [(0, .ref a0), (1, .int a1), (2, .int a2), (3, .int a3)]) (st' := [.int a3, .ref a0]) (M1 := u2.2) (ob := []) (pc' := 19) (by decide +kernel) rfl rfl sw_a0 ?_
      obtain ⟨u4, hu4, hf⟩ := sw_bnd hf
      refine sf_callV (i := 439) (k2 := k_Model_isOrbit) (d2 := d - 1) (As := [.int a3]) (st := []) (q := a0) (ci := 12) mf_Model_isOrbit mi_Model_isOrbit ms_Model_isOrbit (sw_m7 182 (by decide +kernel)) rfl (by decide) (by decide +kernel) rfl (Nat.le_of_ble_eq_true rfl) (by omega) h3 (o_Model_isOrbit g (d := d - 1) (by omega) hu4) ?_
      show sw_F _ _ _ _ _ _ 22 [(0, .ref a0), (1, .int a1), (2, .int a2), (3, .int a3)] [.int u4.1] u4.2
      refine sf_z_ne (off := 5) (tgt := 27) (by decide +kernel) (by decide) hf (fun hc hf => ?_) (fun hc hf => ?_)
      · obtain ⟨h5, hf⟩ := sw_gd_1 hf
        refine sf_blk [(.aload_n 0, 0, 0, .null), (.aload_n 0, 0, 0, .null), (.getfield 305, 12, 15, .null)] (lv' := [(0, .ref a0), (1, .int a1), (2, .int a2), (3, .int a3)]) (st' := [.int (rd_I u4.2 a0 15), .ref a0]) (M1 := u4.2) (ob := [sw_ok u4.2 a0 12]) (pc' := 32) (by decide +kernel) rfl rfl (sw_a1 h5 sw_a0) ?_
        obtain ⟨u6, hu6, hf⟩ := sw_bnd hf
        refine sf_callV (i := 459) (k2 := k_Model_spread) (d2 := d - 1) (As := [.int (rd_I u4.2 a0 15)]) (st := []) (q := a0) (ci := 12) mf_Model_spread mi_Model_spread ms_Model_spread (sw_m8 20 (by decide +kernel)) rfl (by decide) (by decide +kernel) rfl (Nat.le_of_ble_eq_true rfl) (by omega) h5 (o_Model_spread g (d := d - 1) (by omega) hu6) ?_
        show sw_F _ _ _ _ _ _ 35 [(0, .ref a0), (1, .int a1), (2, .int a2), (3, .int a3)] [] u6
        obtain ⟨h7, hf⟩ := sw_gd_1 hf
        refine sf_blk [(.aload_n 0, 0, 0, .null), (.iload_n 1, 0, 0, .null)] (lv' := [(0, .ref a0), (1, .int a1), (2, .int a2), (3, .int a3)]) (st' := [.int a1, .ref a0]) (M1 := u6) (ob := []) (pc' := 37) (by decide +kernel) rfl rfl sw_a0 ?_
        obtain ⟨u8, hu8, hf⟩ := sw_bnd hf
        refine sf_callV (i := 494) (k2 := k_Model_knows) (d2 := d - 1) (As := [.int a1]) (st := []) (q := a0) (ci := 12) mf_Model_knows mi_Model_knows ms_Model_knows (sw_m8 48 (by decide +kernel)) rfl (by decide) (by decide +kernel) rfl (Nat.le_of_ble_eq_true rfl) (by omega) h7 (o_Model_knows g (d := d - 1) (by omega) hu8) ?_
        show sw_F _ _ _ _ _ _ 40 [(0, .ref a0), (1, .int a1), (2, .int a2), (3, .int a3)] [] u8
        obtain ⟨h9, hf⟩ := sw_gd_1 hf
        refine sf_blk [(.aload_n 0, 0, 0, .null), (.iconst (1), 0, 0, .int (1 : Int32))] (lv' := [(0, .ref a0), (1, .int a1), (2, .int a2), (3, .int a3)]) (st' := [.int (1 : Int32), .ref a0]) (M1 := u8) (ob := []) (pc' := 42) (by decide +kernel) rfl rfl sw_a0 ?_
        obtain ⟨u10, hu10, hf⟩ := sw_bnd hf
        refine sf_callV (i := 497) (k2 := k_Model_toFit) (d2 := d - 1) (As := [.int (1 : Int32)]) (st := []) (q := a0) (ci := 12) mf_Model_toFit mi_Model_toFit ms_Model_toFit (sw_m8 52 (by decide +kernel)) rfl (by decide) (by decide +kernel) rfl (Nat.le_of_ble_eq_true rfl) (by omega) h9 (o_Model_toFit g (d := d - 1) (by omega) hu10) ?_
        show sw_F _ _ _ _ _ _ 45 [(0, .ref a0), (1, .int a1), (2, .int a2), (3, .int a3)] [.int u10.1] u10.2
        refine sf_blk [(.istore 4, 0, 0, .null), (.iconst (0), 0, 0, .int (0 : Int32)), (.istore 5, 0, 0, .null)] (lv' := [(5, .int (0 : Int32)), (4, .int u10.1), (0, .ref a0), (1, .int a1), (2, .int a2), (3, .int a3)]) (st' := []) (M1 := u10.2) (ob := []) (pc' := 50) (by decide +kernel) rfl rfl sw_a0 ?_
        exact sf_weak [2, 4, 5, 1, 0] rfl (t_Model_weight_50 hd _ _ _ _ _ _ _ hf)
      · refine sf_blk [(.iconst (-1), 0, 0, .int (-1 : Int32))] (lv' := [(0, .ref a0), (1, .int a1), (2, .int a2), (3, .int a3)]) (st' := [.int (-1 : Int32)]) (M1 := u4.2) (ob := []) (pc' := 26) (by decide +kernel) rfl rfl sw_a0 ?_
        cases hf
        exact sf_int rfl (by decide +kernel)
theorem o_Model_weight (g : sw_G) {d : Nat} (hd : 7 ≤ d) {N : Nat} {a0 : Nat} {a1 : Int32} {a2 : Int32} {a3 : Int32} {M : sw_M} {r : Int32 × sw_M} (hf : f_Model_weight N a0 a1 a2 a3 M = some r) : sw_Ok g k_Model_weight d [.ref a0, .int a1, .int a2, .int a3] M (some (.int r.1)) r.2 := sf_met (by decide +kernel) rfl (by decide) (Nat.le_of_ble_eq_true rfl) (t_Model_weight hd hf)
def f_Model_range_130 (N : Nat) (k72 : Nat → Int32 → Int32 → Int32 → Int32 → Int32 → sw_M → Option (Int32 × sw_M)) (a0 : Nat) (a2 : Int32) (a3 : Int32) (a4 : Int32) (b0 : Int32) (M : sw_M) : Option (Int32 × sw_M) :=
  sw_gd [sw_ok M a0 12] ((f_Model_toFit N a0 (0 : Int32) M).bind (fun u2 => k72 a0 a2 a3 a4 b0 u2.1 u2.2))
set_option maxRecDepth 10000 in
theorem t_Model_range_130 {g : sw_G} {d n0 : Nat} (hd : 7 ≤ d) {r : Int32 × sw_M} (k72 : Nat → Int32 → Int32 → Int32 → Int32 → Int32 → sw_M → Option (Int32 × sw_M)) (hk72 : ∀ (a0 : Nat) (a2 : Int32) (a3 : Int32) (a4 : Int32) (a5 : Int32) (a6 : Int32) (M : sw_M), k72 a0 a2 a3 a4 a5 a6 M = some r → sw_F g k_Model_range d n0 (some (.int r.1)) r.2 72 [(0, .ref a0), (2, .int a2), (3, .int a3), (4, .int a4), (5, .int a5), (6, .int a6)] [] M) {N : Nat} {a0 : Nat} {a2 : Int32} {a3 : Int32} {a4 : Int32} {b0 : Int32} {M : sw_M} (hf : f_Model_range_130 N k72 a0 a2 a3 a4 b0 M = some r) : sw_F g k_Model_range d n0 (some (.int r.1)) r.2 130 [(0, .ref a0), (2, .int a2), (3, .int a3), (4, .int a4)] [.int b0] M := by
  unfold f_Model_range_130 at hf
  obtain ⟨h1, hf⟩ := sw_gd_1 hf
  refine sf_blk [(.istore 5, 0, 0, .null), (.aload_n 0, 0, 0, .null), (.iconst (0), 0, 0, .int (0 : Int32))] (lv' := [(5, .int b0), (0, .ref a0), (2, .int a2), (3, .int a3), (4, .int a4)]) (st' := [.int (0 : Int32), .ref a0]) (M1 := M) (ob := []) (pc' := 134) (by decide +kernel) rfl rfl sw_a0 ?_
  obtain ⟨u2, hu2, hf⟩ := sw_bnd hf
  refine sf_callV (i := 497) (k2 := k_Model_toFit) (d2 := d - 1) (As := [.int (0 : Int32)]) (st := []) (q := a0) (ci := 12) mf_Model_toFit mi_Model_toFit ms_Model_toFit (sw_m8 52 (by decide +kernel)) rfl (by decide) (by decide +kernel) rfl (Nat.le_of_ble_eq_true rfl) (by omega) h1 (o_Model_toFit g (d := d - 1) (by omega) hu2) ?_
  show sw_F _ _ _ _ _ _ 137 [(5, .int b0), (0, .ref a0), (2, .int a2), (3, .int a3), (4, .int a4)] [.int u2.1] u2.2
  refine sf_blk [(.istore 6, 0, 0, .null)] (lv' := [(6, .int u2.1), (5, .int b0), (0, .ref a0), (2, .int a2), (3, .int a3), (4, .int a4)]) (st' := []) (M1 := u2.2) (ob := []) (pc' := 139) (by decide +kernel) rfl rfl sw_a0 ?_
  refine sf_goto (off := -67) (tgt := 72) (by decide +kernel) (by decide) ?_
  exact sf_weak [2, 3, 4, 5, 1, 0] rfl (hk72 _ _ _ _ _ _ _ hf)
def f_Model_range_95 (N : Nat) (k72 : Nat → Int32 → Int32 → Int32 → Int32 → Int32 → sw_M → Option (Int32 × sw_M)) (a0 : Nat) (a2 : Int32) (a3 : Int32) (a4 : Int32) (a5 : Int32) (b0 : Int32) (M : sw_M) : Option (Int32 × sw_M) :=
  if a5 = (-1 : Int32) then f_Model_range_130 N k72 a0 a2 a3 a4 b0 M
  else if a4 = 0 then f_Model_range_130 N k72 a0 a2 a3 a4 (m_minI a5 b0) M
  else f_Model_range_130 N k72 a0 a2 a3 a4 (m_maxI a5 b0) M
set_option maxRecDepth 10000 in
theorem t_Model_range_95 {g : sw_G} {d n0 : Nat} (hd : 7 ≤ d) {r : Int32 × sw_M} (k72 : Nat → Int32 → Int32 → Int32 → Int32 → Int32 → sw_M → Option (Int32 × sw_M)) (hk72 : ∀ (a0 : Nat) (a2 : Int32) (a3 : Int32) (a4 : Int32) (a5 : Int32) (a6 : Int32) (M : sw_M), k72 a0 a2 a3 a4 a5 a6 M = some r → sw_F g k_Model_range d n0 (some (.int r.1)) r.2 72 [(0, .ref a0), (2, .int a2), (3, .int a3), (4, .int a4), (5, .int a5), (6, .int a6)] [] M) {N : Nat} {a0 : Nat} {a2 : Int32} {a3 : Int32} {a4 : Int32} {a5 : Int32} {b0 : Int32} {M : sw_M} (hf : f_Model_range_95 N k72 a0 a2 a3 a4 a5 b0 M = some r) : sw_F g k_Model_range d n0 (some (.int r.1)) r.2 95 [(0, .ref a0), (2, .int a2), (3, .int a3), (4, .int a4), (5, .int a5)] [.int b0] M := by
  unfold f_Model_range_95 at hf
  refine sf_blk [(.istore 7, 0, 0, .null), (.iload 5, 0, 0, .null), (.iconst (-1), 0, 0, .int (-1 : Int32))] (lv' := [(7, .int b0), (0, .ref a0), (2, .int a2), (3, .int a3), (4, .int a4), (5, .int a5)]) (st' := [.int (-1 : Int32), .int a5]) (M1 := M) (ob := []) (pc' := 100) (by decide +kernel) rfl rfl sw_a0 ?_
  refine sf_j_ne (off := 8) (tgt := 108) (by decide +kernel) (by decide) hf (fun hc hf => ?_) (fun hc hf => ?_)
  · refine sf_blk [(.iload 4, 0, 0, .null)] (lv' := [(7, .int b0), (0, .ref a0), (2, .int a2), (3, .int a3), (4, .int a4), (5, .int a5)]) (st' := [.int a4]) (M1 := M) (ob := []) (pc' := 110) (by decide +kernel) rfl rfl sw_a0 ?_
    refine sf_z_eq (off := 13) (tgt := 123) (by decide +kernel) (by decide) hf (fun hc hf => ?_) (fun hc hf => ?_)
    · refine sf_blk [(.iload 5, 0, 0, .null), (.iload 7, 0, 0, .null)] (lv' := [(7, .int b0), (0, .ref a0), (2, .int a2), (3, .int a3), (4, .int a4), (5, .int a5)]) (st' := [.int b0, .int a5]) (M1 := M) (ob := []) (pc' := 127) (by decide +kernel) rfl rfl sw_a0 ?_
      refine sf_minI (i := 503) (st := []) (sw_m8 90 (by decide +kernel)) (by decide +kernel) (by omega) (Nat.le_of_ble_eq_true rfl) ?_
      show sw_F _ _ _ _ _ _ 130 [(7, .int b0), (0, .ref a0), (2, .int a2), (3, .int a3), (4, .int a4), (5, .int a5)] [.int (m_minI a5 b0)] M
      exact sf_weak [1, 2, 3, 4] rfl (t_Model_range_130 hd _ hk72 hf)
    · refine sf_blk [(.iload 5, 0, 0, .null), (.iload 7, 0, 0, .null)] (lv' := [(7, .int b0), (0, .ref a0), (2, .int a2), (3, .int a3), (4, .int a4), (5, .int a5)]) (st' := [.int b0, .int a5]) (M1 := M) (ob := []) (pc' := 117) (by decide +kernel) rfl rfl sw_a0 ?_
      refine sf_maxI (i := 501) (st := []) (sw_m8 89 (by decide +kernel)) (by decide +kernel) (by omega) (Nat.le_of_ble_eq_true rfl) ?_
      show sw_F _ _ _ _ _ _ 120 [(7, .int b0), (0, .ref a0), (2, .int a2), (3, .int a3), (4, .int a4), (5, .int a5)] [.int (m_maxI a5 b0)] M
      refine sf_goto (off := 10) (tgt := 130) (by decide +kernel) (by decide) ?_
      exact sf_weak [1, 2, 3, 4] rfl (t_Model_range_130 hd _ hk72 hf)
  · refine sf_blk [(.iload 7, 0, 0, .null)] (lv' := [(7, .int b0), (0, .ref a0), (2, .int a2), (3, .int a3), (4, .int a4), (5, .int a5)]) (st' := [.int b0]) (M1 := M) (ob := []) (pc' := 105) (by decide +kernel) rfl rfl sw_a0 ?_
    refine sf_goto (off := 25) (tgt := 130) (by decide +kernel) (by decide) ?_
    exact sf_weak [1, 2, 3, 4] rfl (t_Model_range_130 hd _ hk72 hf)
def f_Model_range_72 (N : Nat) : Nat → Nat → Int32 → Int32 → Int32 → Int32 → Int32 → sw_M → Option (Int32 × sw_M)
  | 0, _, _, _, _, _, _, _ => none
  | j + 1, a0, a2, a3, a4, a5, a6, M =>
  if a6 = 0 then some (a5, M)
  else if a2 = 0 then sw_gd [sw_ok M a0 12] (sw_gd [sw_ar M (rd_R M a0 84) 13 a3] (f_Model_range_95 N (f_Model_range_72 N j) a0 a2 a3 a4 a5 (rd_I M (rd_R M a0 84) a3.toNatClampNeg) M))
  else sw_gd [sw_ok M a0 12] ((f_Model_lightOf N a0 a3 M).bind (fun u2 => f_Model_range_95 N (f_Model_range_72 N j) a0 a2 a3 a4 a5 u2.1 u2.2))
set_option maxRecDepth 10000 in
theorem t_Model_range_72 {g : sw_G} {d n0 : Nat} (hd : 7 ≤ d) {r : Int32 × sw_M} {N : Nat} : ∀ (j : Nat) (a0 : Nat) (a2 : Int32) (a3 : Int32) (a4 : Int32) (a5 : Int32) (a6 : Int32) (M : sw_M), f_Model_range_72 N j a0 a2 a3 a4 a5 a6 M = some r → sw_F g k_Model_range d n0 (some (.int r.1)) r.2 72 [(0, .ref a0), (2, .int a2), (3, .int a3), (4, .int a4), (5, .int a5), (6, .int a6)] [] M := by
  intro j
  induction j with
  | zero =>
    intro a0 a2 a3 a4 a5 a6 M hf
    rw [f_Model_range_72] at hf
    cases hf
  | succ j ih =>
    intro a0 a2 a3 a4 a5 a6 M hf
    rw [f_Model_range_72] at hf
    refine sf_blk [(.iload 6, 0, 0, .null)] (lv' := [(0, .ref a0), (2, .int a2), (3, .int a3), (4, .int a4), (5, .int a5), (6, .int a6)]) (st' := [.int a6]) (M1 := M) (ob := []) (pc' := 74) (by decide +kernel) rfl rfl sw_a0 ?_
    refine sf_z_eq (off := 68) (tgt := 142) (by decide +kernel) (by decide) hf (fun hc hf => ?_) (fun hc hf => ?_)
    · refine sf_blk [(.iload 5, 0, 0, .null)] (lv' := [(0, .ref a0), (2, .int a2), (3, .int a3), (4, .int a4), (5, .int a5), (6, .int a6)]) (st' := [.int a5]) (M1 := M) (ob := []) (pc' := 144) (by decide +kernel) rfl rfl sw_a0 ?_
      cases hf
      exact sf_int rfl (by decide +kernel)
    · refine sf_blk [(.iload_n 2, 0, 0, .null)] (lv' := [(0, .ref a0), (2, .int a2), (3, .int a3), (4, .int a4), (5, .int a5), (6, .int a6)]) (st' := [.int a2]) (M1 := M) (ob := []) (pc' := 78) (by decide +kernel) rfl rfl sw_a0 ?_
      refine sf_z_ne (off := 12) (tgt := 90) (by decide +kernel) (by decide) hf (fun hc hf => ?_) (fun hc hf => ?_)
      · obtain ⟨h1, hf⟩ := sw_gd_1 hf
        refine sf_blk [(.aload_n 0, 0, 0, .null), (.iload_n 3, 0, 0, .null)] (lv' := [(0, .ref a0), (2, .int a2), (3, .int a3), (4, .int a4), (5, .int a5), (6, .int a6)]) (st' := [.int a3, .ref a0]) (M1 := M) (ob := []) (pc' := 92) (by decide +kernel) rfl rfl sw_a0 ?_
        obtain ⟨u2, hu2, hf⟩ := sw_bnd hf
        refine sf_callV (i := 471) (k2 := k_Model_lightOf) (d2 := d - 1) (As := [.int a3]) (st := []) (q := a0) (ci := 12) mf_Model_lightOf mi_Model_lightOf ms_Model_lightOf (sw_m8 76 (by decide +kernel)) rfl (by decide) (by decide +kernel) rfl (Nat.le_of_ble_eq_true rfl) (by omega) h1 (o_Model_lightOf g (d := d - 1) (by omega) hu2) ?_
        show sw_F _ _ _ _ _ _ 95 [(0, .ref a0), (2, .int a2), (3, .int a3), (4, .int a4), (5, .int a5), (6, .int a6)] [.int u2.1] u2.2
        exact sf_weak [0, 1, 2, 3, 4] rfl (t_Model_range_95 hd _ ih hf)
      · obtain ⟨h3, hf⟩ := sw_gd_1 hf
        obtain ⟨h4, hf⟩ := sw_gd_1 hf
        refine sf_blk [(.aload_n 0, 0, 0, .null), (.getfield 148, 12, 84, .null), (.iload_n 3, 0, 0, .null), (.iaload, 0, 0, .null)] (lv' := [(0, .ref a0), (2, .int a2), (3, .int a3), (4, .int a4), (5, .int a5), (6, .int a6)]) (st' := [.int (rd_I M (rd_R M a0 84) a3.toNatClampNeg)]) (M1 := M) (ob := [sw_ok M a0 12, sw_ar M (rd_R M a0 84) 13 a3]) (pc' := 87) (by decide +kernel) rfl rfl (sw_a1 h3 (sw_a1 h4 sw_a0)) ?_
        refine sf_goto (off := 8) (tgt := 95) (by decide +kernel) (by decide) ?_
        exact sf_weak [0, 1, 2, 3, 4] rfl (t_Model_range_95 hd _ ih hf)
def f_Model_range_49 (N : Nat) (a0 : Nat) (a1 : Int32) (a2 : Int32) (a3 : Int32) (a4 : Int32) (M : sw_M) : Option (Int32 × sw_M) :=
  sw_gd [sw_ok M a0 12] ((f_Model_spread N a0 (rd_I M a0 15) M).bind (fun u2 => sw_gd [sw_ok u2 a0 12] ((f_Model_knows N a0 a1 u2).bind (fun u4 => sw_gd [sw_ok u4 a0 12] ((f_Model_toFit N a0 (1 : Int32) u4).bind (fun u6 => f_Model_range_72 N N a0 a2 a3 a4 (-1 : Int32) u6.1 u6.2))))))
set_option maxRecDepth 10000 in
theorem t_Model_range_49 {g : sw_G} {d n0 : Nat} (hd : 7 ≤ d) {r : Int32 × sw_M} {N : Nat} {a0 : Nat} {a1 : Int32} {a2 : Int32} {a3 : Int32} {a4 : Int32} {M : sw_M} (hf : f_Model_range_49 N a0 a1 a2 a3 a4 M = some r) : sw_F g k_Model_range d n0 (some (.int r.1)) r.2 49 [(0, .ref a0), (1, .int a1), (2, .int a2), (3, .int a3), (4, .int a4)] [] M := by
  unfold f_Model_range_49 at hf
  obtain ⟨h1, hf⟩ := sw_gd_1 hf
  refine sf_blk [(.aload_n 0, 0, 0, .null), (.aload_n 0, 0, 0, .null), (.getfield 305, 12, 15, .null)] (lv' := [(0, .ref a0), (1, .int a1), (2, .int a2), (3, .int a3), (4, .int a4)]) (st' := [.int (rd_I M a0 15), .ref a0]) (M1 := M) (ob := [sw_ok M a0 12]) (pc' := 54) (by decide +kernel) rfl rfl (sw_a1 h1 sw_a0) ?_
  obtain ⟨u2, hu2, hf⟩ := sw_bnd hf
  refine sf_callV (i := 459) (k2 := k_Model_spread) (d2 := d - 1) (As := [.int (rd_I M a0 15)]) (st := []) (q := a0) (ci := 12) mf_Model_spread mi_Model_spread ms_Model_spread (sw_m8 20 (by decide +kernel)) rfl (by decide) (by decide +kernel) rfl (Nat.le_of_ble_eq_true rfl) (by omega) h1 (o_Model_spread g (d := d - 1) (by omega) hu2) ?_
  show sw_F _ _ _ _ _ _ 57 [(0, .ref a0), (1, .int a1), (2, .int a2), (3, .int a3), (4, .int a4)] [] u2
  obtain ⟨h3, hf⟩ := sw_gd_1 hf
  refine sf_blk [(.aload_n 0, 0, 0, .null), (.iload_n 1, 0, 0, .null)] (lv' := [(0, .ref a0), (1, .int a1), (2, .int a2), (3, .int a3), (4, .int a4)]) (st' := [.int a1, .ref a0]) (M1 := u2) (ob := []) (pc' := 59) (by decide +kernel) rfl rfl sw_a0 ?_
  obtain ⟨u4, hu4, hf⟩ := sw_bnd hf
  refine sf_callV (i := 494) (k2 := k_Model_knows) (d2 := d - 1) (As := [.int a1]) (st := []) (q := a0) (ci := 12) mf_Model_knows mi_Model_knows ms_Model_knows (sw_m8 48 (by decide +kernel)) rfl (by decide) (by decide +kernel) rfl (Nat.le_of_ble_eq_true rfl) (by omega) h3 (o_Model_knows g (d := d - 1) (by omega) hu4) ?_
  show sw_F _ _ _ _ _ _ 62 [(0, .ref a0), (1, .int a1), (2, .int a2), (3, .int a3), (4, .int a4)] [] u4
  obtain ⟨h5, hf⟩ := sw_gd_1 hf
  refine sf_blk [(.iconst (-1), 0, 0, .int (-1 : Int32)), (.istore 5, 0, 0, .null), (.aload_n 0, 0, 0, .null), (.iconst (1), 0, 0, .int (1 : Int32))] (lv' := [(5, .int (-1 : Int32)), (0, .ref a0), (1, .int a1), (2, .int a2), (3, .int a3), (4, .int a4)]) (st' := [.int (1 : Int32), .ref a0]) (M1 := u4) (ob := []) (pc' := 67) (by decide +kernel) rfl rfl sw_a0 ?_
  obtain ⟨u6, hu6, hf⟩ := sw_bnd hf
  refine sf_callV (i := 497) (k2 := k_Model_toFit) (d2 := d - 1) (As := [.int (1 : Int32)]) (st := []) (q := a0) (ci := 12) mf_Model_toFit mi_Model_toFit ms_Model_toFit (sw_m8 52 (by decide +kernel)) rfl (by decide) (by decide +kernel) rfl (Nat.le_of_ble_eq_true rfl) (by omega) h5 (o_Model_toFit g (d := d - 1) (by omega) hu6) ?_
  show sw_F _ _ _ _ _ _ 70 [(5, .int (-1 : Int32)), (0, .ref a0), (1, .int a1), (2, .int a2), (3, .int a3), (4, .int a4)] [.int u6.1] u6.2
  refine sf_blk [(.istore 6, 0, 0, .null)] (lv' := [(6, .int u6.1), (5, .int (-1 : Int32)), (0, .ref a0), (1, .int a1), (2, .int a2), (3, .int a3), (4, .int a4)]) (st' := []) (M1 := u6.2) (ob := []) (pc' := 72) (by decide +kernel) rfl rfl sw_a0 ?_
  exact sf_weak [2, 4, 5, 6, 1, 0] rfl (t_Model_range_72 hd _ _ _ _ _ _ _ _ hf)
def f_Model_range (N : Nat) (a0 : Nat) (a1 : Int32) (a2 : Int32) (a3 : Int32) (a4 : Int32) (M : sw_M) : Option (Int32 × sw_M) :=
  sw_gd [sw_ok M a0 12] ((f_Model_isKnown N a0 a1 (wr_I M a0 0 (0 : Int32))).bind (fun u2 => if u2.1 = 0 then some ((-1 : Int32), u2.2)
  else if a2 < 0 then some ((-1 : Int32), u2.2)
  else if (1 : Int32) < a2 then some ((-1 : Int32), u2.2)
  else if a2 = 0 then sw_gd [sw_ok u2.2 a0 12] ((f_Model_isOrbit N a0 a3 u2.2).bind (fun u4 => if u4.1 = 0 then some ((-1 : Int32), u4.2)
  else f_Model_range_49 N a0 a1 a2 a3 a4 u4.2))
  else if a3 < 0 then some ((-1 : Int32), u2.2)
  else if a3 ≤ (63 : Int32) then f_Model_range_49 N a0 a1 a2 a3 a4 u2.2
  else some ((-1 : Int32), u2.2)))
set_option maxRecDepth 10000 in
theorem t_Model_range {g : sw_G} {d n0 : Nat} (hd : 7 ≤ d) {r : Int32 × sw_M} {N : Nat} {a0 : Nat} {a1 : Int32} {a2 : Int32} {a3 : Int32} {a4 : Int32} {M : sw_M} (hf : f_Model_range N a0 a1 a2 a3 a4 M = some r) : sw_F g k_Model_range d n0 (some (.int r.1)) r.2 0 [(0, .ref a0), (1, .int a1), (2, .int a2), (3, .int a3), (4, .int a4)] [] M := by
  unfold f_Model_range at hf
  obtain ⟨h1, hf⟩ := sw_gd_1 hf
  refine sf_blk [(.aload_n 0, 0, 0, .null), (.iconst (0), 0, 0, .int (0 : Int32)), (.putfield 166, 12, 0, .null), (.aload_n 0, 0, 0, .null), (.iload_n 1, 0, 0, .null)] (lv' := [(0, .ref a0), (1, .int a1), (2, .int a2), (3, .int a3), (4, .int a4)]) (st' := [.int a1, .ref a0]) (M1 := (wr_I M a0 0 (0 : Int32))) (ob := [sw_ok M a0 12]) (pc' := 7) (by decide +kernel) rfl rfl (sw_a1 h1 sw_a0) ?_
  obtain ⟨u2, hu2, hf⟩ := sw_bnd hf
  refine sf_callV (i := 491) (k2 := k_Model_isKnown) (d2 := d - 1) (As := [.int a1]) (st := []) (q := a0) (ci := 12) mf_Model_isKnown mi_Model_isKnown ms_Model_isKnown (sw_m8 44 (by decide +kernel)) rfl (by decide) (by decide +kernel) rfl (Nat.le_of_ble_eq_true rfl) (by omega) h1 (o_Model_isKnown g (d := d - 1) (by omega) hu2) ?_
  show sw_F _ _ _ _ _ _ 10 [(0, .ref a0), (1, .int a1), (2, .int a2), (3, .int a3), (4, .int a4)] [.int u2.1] u2.2
  refine sf_z_eq (off := 37) (tgt := 47) (by decide +kernel) (by decide) hf (fun hc hf => ?_) (fun hc hf => ?_)
  · refine sf_blk [(.iconst (-1), 0, 0, .int (-1 : Int32))] (lv' := [(0, .ref a0), (1, .int a1), (2, .int a2), (3, .int a3), (4, .int a4)]) (st' := [.int (-1 : Int32)]) (M1 := u2.2) (ob := []) (pc' := 48) (by decide +kernel) rfl rfl sw_a0 ?_
    cases hf
    exact sf_int rfl (by decide +kernel)
  · refine sf_blk [(.iload_n 2, 0, 0, .null)] (lv' := [(0, .ref a0), (1, .int a1), (2, .int a2), (3, .int a3), (4, .int a4)]) (st' := [.int a2]) (M1 := u2.2) (ob := []) (pc' := 14) (by decide +kernel) rfl rfl sw_a0 ?_
    refine sf_z_lt (off := 33) (tgt := 47) (by decide +kernel) (by decide) hf (fun hc hf => ?_) (fun hc hf => ?_)
    · refine sf_blk [(.iconst (-1), 0, 0, .int (-1 : Int32))] (lv' := [(0, .ref a0), (1, .int a1), (2, .int a2), (3, .int a3), (4, .int a4)]) (st' := [.int (-1 : Int32)]) (M1 := u2.2) (ob := []) (pc' := 48) (by decide +kernel) rfl rfl sw_a0 ?_
      cases hf
      exact sf_int rfl (by decide +kernel)
    · refine sf_blk [(.iload_n 2, 0, 0, .null), (.iconst (1), 0, 0, .int (1 : Int32))] (lv' := [(0, .ref a0), (1, .int a1), (2, .int a2), (3, .int a3), (4, .int a4)]) (st' := [.int (1 : Int32), .int a2]) (M1 := u2.2) (ob := []) (pc' := 19) (by decide +kernel) rfl rfl sw_a0 ?_
      refine sf_j_gt (off := 28) (tgt := 47) (by decide +kernel) (by decide) hf (fun hc hf => ?_) (fun hc hf => ?_)
      · refine sf_blk [(.iconst (-1), 0, 0, .int (-1 : Int32))] (lv' := [(0, .ref a0), (1, .int a1), (2, .int a2), (3, .int a3), (4, .int a4)]) (st' := [.int (-1 : Int32)]) (M1 := u2.2) (ob := []) (pc' := 48) (by decide +kernel) rfl rfl sw_a0 ?_
        cases hf
        exact sf_int rfl (by decide +kernel)
      · refine sf_blk [(.iload_n 2, 0, 0, .null)] (lv' := [(0, .ref a0), (1, .int a1), (2, .int a2), (3, .int a3), (4, .int a4)]) (st' := [.int a2]) (M1 := u2.2) (ob := []) (pc' := 23) (by decide +kernel) rfl rfl sw_a0 ?_
        refine sf_z_ne (off := 14) (tgt := 37) (by decide +kernel) (by decide) hf (fun hc hf => ?_) (fun hc hf => ?_)
        · refine sf_blk [(.iload_n 3, 0, 0, .null)] (lv' := [(0, .ref a0), (1, .int a1), (2, .int a2), (3, .int a3), (4, .int a4)]) (st' := [.int a3]) (M1 := u2.2) (ob := []) (pc' := 38) (by decide +kernel) rfl rfl sw_a0 ?_
          refine sf_z_lt (off := 9) (tgt := 47) (by decide +kernel) (by decide) hf (fun hc hf => ?_) (fun hc hf => ?_)
          · refine sf_blk [(.iconst (-1), 0, 0, .int (-1 : Int32))] (lv' := [(0, .ref a0), (1, .int a1), (2, .int a2), (3, .int a3), (4, .int a4)]) (st' := [.int (-1 : Int32)]) (M1 := u2.2) (ob := []) (pc' := 48) (by decide +kernel) rfl rfl sw_a0 ?_
            cases hf
            exact sf_int rfl (by decide +kernel)
          · refine sf_blk [(.iload_n 3, 0, 0, .null), (.bipush (63), 0, 0, .int (63 : Int32))] (lv' := [(0, .ref a0), (1, .int a1), (2, .int a2), (3, .int a3), (4, .int a4)]) (st' := [.int (63 : Int32), .int a3]) (M1 := u2.2) (ob := []) (pc' := 44) (by decide +kernel) rfl rfl sw_a0 ?_
            refine sf_j_le (off := 5) (tgt := 49) (by decide +kernel) (by decide) hf (fun hc hf => ?_) (fun hc hf => ?_)
            · exact sf_weak [0, 1, 2, 3, 4] rfl (t_Model_range_49 hd hf)
            · refine sf_blk [(.iconst (-1), 0, 0, .int (-1 : Int32))] (lv' := [(0, .ref a0), (1, .int a1), (2, .int a2), (3, .int a3), (4, .int a4)]) (st' := [.int (-1 : Int32)]) (M1 := u2.2) (ob := []) (pc' := 48) (by decide +kernel) rfl rfl sw_a0 ?_
              cases hf
              exact sf_int rfl (by decide +kernel)
        · obtain ⟨h3, hf⟩ := sw_gd_1 hf
          refine sf_blk [(.aload_n 0, 0, 0, .null), (.iload_n 3, 0, 0, .null)] (lv' := [(0, .ref a0), (1, .int a1), (2, .int a2), (3, .int a3), (4, .int a4)]) (st' := [.int a3, .ref a0]) (M1 := u2.2) (ob := []) (pc' := 28) (by decide +kernel) rfl rfl sw_a0 ?_
          obtain ⟨u4, hu4, hf⟩ := sw_bnd hf
          refine sf_callV (i := 439) (k2 := k_Model_isOrbit) (d2 := d - 1) (As := [.int a3]) (st := []) (q := a0) (ci := 12) mf_Model_isOrbit mi_Model_isOrbit ms_Model_isOrbit (sw_m7 182 (by decide +kernel)) rfl (by decide) (by decide +kernel) rfl (Nat.le_of_ble_eq_true rfl) (by omega) h3 (o_Model_isOrbit g (d := d - 1) (by omega) hu4) ?_
          show sw_F _ _ _ _ _ _ 31 [(0, .ref a0), (1, .int a1), (2, .int a2), (3, .int a3), (4, .int a4)] [.int u4.1] u4.2
          refine sf_z_ne (off := 18) (tgt := 49) (by decide +kernel) (by decide) hf (fun hc hf => ?_) (fun hc hf => ?_)
          · exact sf_weak [0, 1, 2, 3, 4] rfl (t_Model_range_49 hd hf)
          · refine sf_goto (off := 13) (tgt := 47) (by decide +kernel) (by decide) ?_
            refine sf_blk [(.iconst (-1), 0, 0, .int (-1 : Int32))] (lv' := [(0, .ref a0), (1, .int a1), (2, .int a2), (3, .int a3), (4, .int a4)]) (st' := [.int (-1 : Int32)]) (M1 := u4.2) (ob := []) (pc' := 48) (by decide +kernel) rfl rfl sw_a0 ?_
            cases hf
            exact sf_int rfl (by decide +kernel)
theorem o_Model_range (g : sw_G) {d : Nat} (hd : 7 ≤ d) {N : Nat} {a0 : Nat} {a1 : Int32} {a2 : Int32} {a3 : Int32} {a4 : Int32} {M : sw_M} {r : Int32 × sw_M} (hf : f_Model_range N a0 a1 a2 a3 a4 M = some r) : sw_Ok g k_Model_range d [.ref a0, .int a1, .int a2, .int a3, .int a4] M (some (.int r.1)) r.2 := sf_met (by decide +kernel) rfl (by decide) (Nat.le_of_ble_eq_true rfl) (t_Model_range hd hf)
def f_Model_many_4 (N : Nat) : Nat → Int32 → Int32 → Int32 → sw_M → Option (Int32 × sw_M)
  | 0, _, _, _, _ => none
  | j + 1, a0, a1, a2, M =>
  if (10 : Int32) ≤ a2 then some (a1, M)
  else f_Model_many_4 N j a0 (a1 + ((a0 >>> (a2 &&& 31)) &&& (1 : Int32))) (a2 + (1 : Int32)) M
set_option maxRecDepth 10000 in
theorem t_Model_many_4 {g : sw_G} {d n0 : Nat} (hd : 1 ≤ d) {r : Int32 × sw_M} {N : Nat} : ∀ (j : Nat) (a0 : Int32) (a1 : Int32) (a2 : Int32) (M : sw_M), f_Model_many_4 N j a0 a1 a2 M = some r → sw_F g k_Model_many d n0 (some (.int r.1)) r.2 4 [(0, .int a0), (1, .int a1), (2, .int a2)] [] M := by
  intro j
  induction j with
  | zero =>
    intro a0 a1 a2 M hf
    rw [f_Model_many_4] at hf
    cases hf
  | succ j ih =>
    intro a0 a1 a2 M hf
    rw [f_Model_many_4] at hf
    refine sf_blk [(.iload_n 2, 0, 0, .null), (.bipush (10), 0, 0, .int (10 : Int32))] (lv' := [(0, .int a0), (1, .int a1), (2, .int a2)]) (st' := [.int (10 : Int32), .int a2]) (M1 := M) (ob := []) (pc' := 7) (by decide +kernel) rfl rfl sw_a0 ?_
    refine sf_j_ge (off := 17) (tgt := 24) (by decide +kernel) (by decide) hf (fun hc hf => ?_) (fun hc hf => ?_)
    · refine sf_blk [(.iload_n 1, 0, 0, .null)] (lv' := [(0, .int a0), (1, .int a1), (2, .int a2)]) (st' := [.int a1]) (M1 := M) (ob := []) (pc' := 25) (by decide +kernel) rfl rfl sw_a0 ?_
      cases hf
      exact sf_int rfl (by decide +kernel)
    · refine sf_blk [(.iload_n 1, 0, 0, .null), (.iload_n 0, 0, 0, .null), (.iload_n 2, 0, 0, .null), (.ishr, 0, 0, .null), (.iconst (1), 0, 0, .int (1 : Int32)), (.iand, 0, 0, .null), (.iadd, 0, 0, .null), (.istore_n 1, 0, 0, .null), (.iinc 2 (1), 0, 0, .int (1 : Int32))] (lv' := [(2, .int (a2 + (1 : Int32))), (1, .int (a1 + ((a0 >>> (a2 &&& 31)) &&& (1 : Int32)))), (0, .int a0)]) (st' := []) (M1 := M) (ob := []) (pc' := 21) (by decide +kernel) rfl rfl sw_a0 ?_
      refine sf_goto (off := -17) (tgt := 4) (by decide +kernel) (by decide) ?_
      exact sf_weak [2, 1, 0] rfl (ih _ _ _ _ hf)
def f_Model_many (N : Nat) (a0 : Int32) (M : sw_M) : Option (Int32 × sw_M) :=
  f_Model_many_4 N N a0 (0 : Int32) (0 : Int32) M
set_option maxRecDepth 10000 in
theorem t_Model_many {g : sw_G} {d n0 : Nat} (hd : 1 ≤ d) {r : Int32 × sw_M} {N : Nat} {a0 : Int32} {M : sw_M} (hf : f_Model_many N a0 M = some r) : sw_F g k_Model_many d n0 (some (.int r.1)) r.2 0 [(0, .int a0)] [] M := by
  unfold f_Model_many at hf
  refine sf_blk [(.iconst (0), 0, 0, .int (0 : Int32)), (.istore_n 1, 0, 0, .null), (.iconst (0), 0, 0, .int (0 : Int32)), (.istore_n 2, 0, 0, .null)] (lv' := [(2, .int (0 : Int32)), (1, .int (0 : Int32)), (0, .int a0)]) (st' := []) (M1 := M) (ob := []) (pc' := 4) (by decide +kernel) rfl rfl sw_a0 ?_
  exact sf_weak [2, 1, 0] rfl (t_Model_many_4 hd _ _ _ _ _ hf)
theorem o_Model_many (g : sw_G) {d : Nat} (hd : 1 ≤ d) {N : Nat} {a0 : Int32} {M : sw_M} {r : Int32 × sw_M} (hf : f_Model_many N a0 M = some r) : sw_Ok g k_Model_many d [.int a0] M (some (.int r.1)) r.2 := sf_met (by decide +kernel) rfl (by decide) (Nat.le_of_ble_eq_true rfl) (t_Model_many hd hf)
def f_Model_quarrel_221 (N : Nat) (k158 : Nat → Int32 → Int32 → sw_M → Option (Int32 × sw_M)) (a0 : Nat) (a3 : Int32) (a4 : Int32) (M : sw_M) : Option (Int32 × sw_M) :=
  k158 a0 a3 (a4 + (1 : Int32)) M
set_option maxRecDepth 10000 in
theorem t_Model_quarrel_221 {g : sw_G} {d n0 : Nat} (hd : 7 ≤ d) {r : Int32 × sw_M} (k158 : Nat → Int32 → Int32 → sw_M → Option (Int32 × sw_M)) (hk158 : ∀ (a0 : Nat) (a3 : Int32) (a4 : Int32) (M : sw_M), k158 a0 a3 a4 M = some r → sw_F g k_Model_quarrel d n0 (some (.int r.1)) r.2 158 [(0, .ref a0), (3, .int a3), (4, .int a4)] [] M) {N : Nat} {a0 : Nat} {a3 : Int32} {a4 : Int32} {M : sw_M} (hf : f_Model_quarrel_221 N k158 a0 a3 a4 M = some r) : sw_F g k_Model_quarrel d n0 (some (.int r.1)) r.2 221 [(0, .ref a0), (3, .int a3), (4, .int a4)] [] M := by
  unfold f_Model_quarrel_221 at hf
  refine sf_blk [(.iinc 4 (1), 0, 0, .int (1 : Int32))] (lv' := [(4, .int (a4 + (1 : Int32))), (0, .ref a0), (3, .int a3)]) (st' := []) (M1 := M) (ob := []) (pc' := 224) (by decide +kernel) rfl rfl sw_a0 ?_
  refine sf_goto (off := -66) (tgt := 158) (by decide +kernel) (by decide) ?_
  exact sf_weak [1, 2, 0] rfl (hk158 _ _ _ _ hf)
def f_Model_quarrel_218 (N : Nat) (k158 : Nat → Int32 → Int32 → sw_M → Option (Int32 × sw_M)) (a0 : Nat) (a4 : Int32) (M : sw_M) : Option (Int32 × sw_M) :=
  f_Model_quarrel_221 N k158 a0 a4 a4 M
set_option maxRecDepth 10000 in
theorem t_Model_quarrel_218 {g : sw_G} {d n0 : Nat} (hd : 7 ≤ d) {r : Int32 × sw_M} (k158 : Nat → Int32 → Int32 → sw_M → Option (Int32 × sw_M)) (hk158 : ∀ (a0 : Nat) (a3 : Int32) (a4 : Int32) (M : sw_M), k158 a0 a3 a4 M = some r → sw_F g k_Model_quarrel d n0 (some (.int r.1)) r.2 158 [(0, .ref a0), (3, .int a3), (4, .int a4)] [] M) {N : Nat} {a0 : Nat} {a4 : Int32} {M : sw_M} (hf : f_Model_quarrel_218 N k158 a0 a4 M = some r) : sw_F g k_Model_quarrel d n0 (some (.int r.1)) r.2 218 [(0, .ref a0), (4, .int a4)] [] M := by
  unfold f_Model_quarrel_218 at hf
  refine sf_blk [(.iload 4, 0, 0, .null), (.istore_n 3, 0, 0, .null)] (lv' := [(3, .int a4), (0, .ref a0), (4, .int a4)]) (st' := []) (M1 := M) (ob := []) (pc' := 221) (by decide +kernel) rfl rfl sw_a0 ?_
  exact sf_weak [1, 0, 2] rfl (t_Model_quarrel_221 hd _ hk158 hf)
def f_Model_quarrel_158 (N : Nat) : Nat → Nat → Int32 → Int32 → sw_M → Option (Int32 × sw_M)
  | 0, _, _, _, _ => none
  | j + 1, a0, a3, a4, M =>
  if (1024 : Int32) ≤ a4 then some (a3, M)
  else sw_gd [sw_ok M a0 12] (if (a4 &&& ((rd_I M a0 83) ^^^ (-1 : Int32))) = 0 then sw_gd [sw_ar M (rd_R M a0 87) 14 a4 || sw_ar M (rd_R M a0 87) 15 a4] (if (rd_I M (rd_R M a0 87) a4.toNatClampNeg) = 0 then (f_Model_many N a4 M).bind (fun u3 => (f_Model_many N a3 u3.2).bind (fun u4 => if u3.1 < u4.1 then f_Model_quarrel_218 N (f_Model_quarrel_158 N j) a0 a4 u4.2
  else (f_Model_many N a4 u4.2).bind (fun u5 => (f_Model_many N a3 u5.2).bind (fun u6 => if u5.1 = u6.1 then if a3 ≤ a4 then f_Model_quarrel_221 N (f_Model_quarrel_158 N j) a0 a3 a4 u6.2
  else f_Model_quarrel_218 N (f_Model_quarrel_158 N j) a0 a4 u6.2
  else f_Model_quarrel_221 N (f_Model_quarrel_158 N j) a0 a3 a4 u6.2))))
  else f_Model_quarrel_221 N (f_Model_quarrel_158 N j) a0 a3 a4 M)
  else f_Model_quarrel_221 N (f_Model_quarrel_158 N j) a0 a3 a4 M)
set_option maxRecDepth 10000 in
theorem t_Model_quarrel_158 {g : sw_G} {d n0 : Nat} (hd : 7 ≤ d) {r : Int32 × sw_M} {N : Nat} : ∀ (j : Nat) (a0 : Nat) (a3 : Int32) (a4 : Int32) (M : sw_M), f_Model_quarrel_158 N j a0 a3 a4 M = some r → sw_F g k_Model_quarrel d n0 (some (.int r.1)) r.2 158 [(0, .ref a0), (3, .int a3), (4, .int a4)] [] M := by
  intro j
  induction j with
  | zero =>
    intro a0 a3 a4 M hf
    rw [f_Model_quarrel_158] at hf
    cases hf
  | succ j ih =>
    intro a0 a3 a4 M hf
    rw [f_Model_quarrel_158] at hf
    refine sf_blk [(.iload 4, 0, 0, .null), (.sipush (1024), 0, 0, .int (1024 : Int32))] (lv' := [(0, .ref a0), (3, .int a3), (4, .int a4)]) (st' := [.int (1024 : Int32), .int a4]) (M1 := M) (ob := []) (pc' := 163) (by decide +kernel) rfl rfl sw_a0 ?_
    refine sf_j_ge (off := 64) (tgt := 227) (by decide +kernel) (by decide) hf (fun hc hf => ?_) (fun hc hf => ?_)
    · refine sf_blk [(.iload_n 3, 0, 0, .null)] (lv' := [(0, .ref a0), (3, .int a3), (4, .int a4)]) (st' := [.int a3]) (M1 := M) (ob := []) (pc' := 228) (by decide +kernel) rfl rfl sw_a0 ?_
      cases hf
      exact sf_int rfl (by decide +kernel)
    · obtain ⟨h1, hf⟩ := sw_gd_1 hf
      refine sf_blk [(.iload 4, 0, 0, .null), (.aload_n 0, 0, 0, .null), (.getfield 465, 12, 83, .null), (.iconst (-1), 0, 0, .int (-1 : Int32)), (.ixor, 0, 0, .null), (.iand, 0, 0, .null)] (lv' := [(0, .ref a0), (3, .int a3), (4, .int a4)]) (st' := [.int (a4 &&& ((rd_I M a0 83) ^^^ (-1 : Int32)))]) (M1 := M) (ob := [sw_ok M a0 12]) (pc' := 175) (by decide +kernel) rfl rfl (sw_a1 h1 sw_a0) ?_
      refine sf_z_ne (off := 46) (tgt := 221) (by decide +kernel) (by decide) hf (fun hc hf => ?_) (fun hc hf => ?_)
      · exact sf_weak [0, 1, 2] rfl (t_Model_quarrel_221 hd _ ih hf)
      · obtain ⟨h2, hf⟩ := sw_gd_1 hf
        refine sf_blk [(.aload_n 0, 0, 0, .null), (.getfield 154, 12, 87, .null), (.iload 4, 0, 0, .null), (.baload, 0, 0, .null)] (lv' := [(0, .ref a0), (3, .int a3), (4, .int a4)]) (st' := [.int (rd_I M (rd_R M a0 87) a4.toNatClampNeg)]) (M1 := M) (ob := [sw_ok M a0 12, sw_ar M (rd_R M a0 87) 14 a4 || sw_ar M (rd_R M a0 87) 15 a4]) (pc' := 185) (by decide +kernel) rfl rfl (sw_a1 h1 (sw_a1 h2 sw_a0)) ?_
        refine sf_z_ne (off := 36) (tgt := 221) (by decide +kernel) (by decide) hf (fun hc hf => ?_) (fun hc hf => ?_)
        · exact sf_weak [0, 1, 2] rfl (t_Model_quarrel_221 hd _ ih hf)
        · refine sf_blk [(.iload 4, 0, 0, .null)] (lv' := [(0, .ref a0), (3, .int a3), (4, .int a4)]) (st' := [.int a4]) (M1 := M) (ob := []) (pc' := 190) (by decide +kernel) rfl rfl sw_a0 ?_
          obtain ⟨u3, hu3, hf⟩ := sw_bnd hf
          refine sf_callS (i := 505) (k2 := k_Model_many) (d2 := d - 1) (As := [.int a4]) (st := []) mf_Model_many mi_Model_many (sw_m8 95 (by decide +kernel)) (by decide +kernel) rfl (Nat.le_of_ble_eq_true rfl) (by omega) (o_Model_many g (d := d - 1) (by omega) hu3) ?_
          show sw_F _ _ _ _ _ _ 193 [(0, .ref a0), (3, .int a3), (4, .int a4)] [.int u3.1] u3.2
          refine sf_blk [(.iload_n 3, 0, 0, .null)] (lv' := [(0, .ref a0), (3, .int a3), (4, .int a4)]) (st' := [.int a3, .int u3.1]) (M1 := u3.2) (ob := []) (pc' := 194) (by decide +kernel) rfl rfl sw_a0 ?_
          obtain ⟨u4, hu4, hf⟩ := sw_bnd hf
          refine sf_callS (i := 505) (k2 := k_Model_many) (d2 := d - 1) (As := [.int a3]) (st := [.int u3.1]) mf_Model_many mi_Model_many (sw_m8 95 (by decide +kernel)) (by decide +kernel) rfl (Nat.le_of_ble_eq_true rfl) (by omega) (o_Model_many g (d := d - 1) (by omega) hu4) ?_
          show sw_F _ _ _ _ _ _ 197 [(0, .ref a0), (3, .int a3), (4, .int a4)] [.int u4.1, .int u3.1] u4.2
          refine sf_j_lt (off := 21) (tgt := 218) (by decide +kernel) (by decide) hf (fun hc hf => ?_) (fun hc hf => ?_)
          · exact sf_weak [0, 2] rfl (t_Model_quarrel_218 hd _ ih hf)
          · refine sf_blk [(.iload 4, 0, 0, .null)] (lv' := [(0, .ref a0), (3, .int a3), (4, .int a4)]) (st' := [.int a4]) (M1 := u4.2) (ob := []) (pc' := 202) (by decide +kernel) rfl rfl sw_a0 ?_
            obtain ⟨u5, hu5, hf⟩ := sw_bnd hf
            refine sf_callS (i := 505) (k2 := k_Model_many) (d2 := d - 1) (As := [.int a4]) (st := []) mf_Model_many mi_Model_many (sw_m8 95 (by decide +kernel)) (by decide +kernel) rfl (Nat.le_of_ble_eq_true rfl) (by omega) (o_Model_many g (d := d - 1) (by omega) hu5) ?_
            show sw_F _ _ _ _ _ _ 205 [(0, .ref a0), (3, .int a3), (4, .int a4)] [.int u5.1] u5.2
            refine sf_blk [(.iload_n 3, 0, 0, .null)] (lv' := [(0, .ref a0), (3, .int a3), (4, .int a4)]) (st' := [.int a3, .int u5.1]) (M1 := u5.2) (ob := []) (pc' := 206) (by decide +kernel) rfl rfl sw_a0 ?_
            obtain ⟨u6, hu6, hf⟩ := sw_bnd hf
            refine sf_callS (i := 505) (k2 := k_Model_many) (d2 := d - 1) (As := [.int a3]) (st := [.int u5.1]) mf_Model_many mi_Model_many (sw_m8 95 (by decide +kernel)) (by decide +kernel) rfl (Nat.le_of_ble_eq_true rfl) (by omega) (o_Model_many g (d := d - 1) (by omega) hu6) ?_
            show sw_F _ _ _ _ _ _ 209 [(0, .ref a0), (3, .int a3), (4, .int a4)] [.int u6.1, .int u5.1] u6.2
            refine sf_j_ne (off := 12) (tgt := 221) (by decide +kernel) (by decide) hf (fun hc hf => ?_) (fun hc hf => ?_)
            · exact sf_weak [0, 1, 2] rfl (t_Model_quarrel_221 hd _ ih hf)
            · refine sf_blk [(.iload 4, 0, 0, .null), (.iload_n 3, 0, 0, .null)] (lv' := [(0, .ref a0), (3, .int a3), (4, .int a4)]) (st' := [.int a3, .int a4]) (M1 := u6.2) (ob := []) (pc' := 215) (by decide +kernel) rfl rfl sw_a0 ?_
              refine sf_j_ge (off := 6) (tgt := 221) (by decide +kernel) (by decide) hf (fun hc hf => ?_) (fun hc hf => ?_)
              · exact sf_weak [0, 1, 2] rfl (t_Model_quarrel_221 hd _ ih hf)
              · exact sf_weak [0, 2] rfl (t_Model_quarrel_218 hd _ ih hf)
def f_Model_quarrel_130 (N : Nat) (k87 : Nat → Int32 → sw_M → Option (Int32 × sw_M)) (a0 : Nat) (a3 : Int32) (M : sw_M) : Option (Int32 × sw_M) :=
  k87 a0 (a3 + (-1 : Int32)) M
set_option maxRecDepth 10000 in
theorem t_Model_quarrel_130 {g : sw_G} {d n0 : Nat} (hd : 7 ≤ d) {r : Int32 × sw_M} (k87 : Nat → Int32 → sw_M → Option (Int32 × sw_M)) (hk87 : ∀ (a0 : Nat) (a3 : Int32) (M : sw_M), k87 a0 a3 M = some r → sw_F g k_Model_quarrel d n0 (some (.int r.1)) r.2 87 [(0, .ref a0), (3, .int a3)] [] M) {N : Nat} {a0 : Nat} {a3 : Int32} {M : sw_M} (hf : f_Model_quarrel_130 N k87 a0 a3 M = some r) : sw_F g k_Model_quarrel d n0 (some (.int r.1)) r.2 130 [(0, .ref a0), (3, .int a3)] [] M := by
  unfold f_Model_quarrel_130 at hf
  refine sf_blk [(.iinc 3 (-1), 0, 0, .int (-1 : Int32))] (lv' := [(3, .int (a3 + (-1 : Int32))), (0, .ref a0)]) (st' := []) (M1 := M) (ob := []) (pc' := 133) (by decide +kernel) rfl rfl sw_a0 ?_
  refine sf_goto (off := -46) (tgt := 87) (by decide +kernel) (by decide) ?_
  exact sf_weak [1, 0] rfl (hk87 _ _ _ hf)
def f_Model_quarrel_94 (N : Nat) (k87 : Nat → Int32 → sw_M → Option (Int32 × sw_M)) : Nat → Nat → Int32 → Int32 → sw_M → Option (Int32 × sw_M)
  | 0, _, _, _, _ => none
  | j + 1, a0, a3, a4, M =>
  if (10 : Int32) ≤ a4 then f_Model_quarrel_130 N k87 a0 a3 M
  else sw_gd [sw_ok M a0 12] (sw_gd [sw_ar M (rd_R M a0 87) 14 a3 || sw_ar M (rd_R M a0 87) 15 a3] (if (rd_I M (rd_R M a0 87) a3.toNatClampNeg) = 0 then f_Model_quarrel_130 N k87 a0 a3 M
  else sw_gd [(sw_ar M (rd_R M a0 87) 14 (a3 &&& (((1 : Int32) <<< (a4 &&& 31)) ^^^ (-1 : Int32))) && decide ((1 : Int32).toInt8.toInt32 = (1 : Int32))) || (sw_ar M (rd_R M a0 87) 15 (a3 &&& (((1 : Int32) <<< (a4 &&& 31)) ^^^ (-1 : Int32))) && sw_bz (1 : Int32))] (f_Model_quarrel_94 N k87 j a0 a3 (a4 + (1 : Int32)) (wr_I M (rd_R M a0 87) (a3 &&& (((1 : Int32) <<< (a4 &&& 31)) ^^^ (-1 : Int32))).toNatClampNeg (1 : Int32)))))
set_option maxRecDepth 10000 in
theorem t_Model_quarrel_94 {g : sw_G} {d n0 : Nat} (hd : 7 ≤ d) {r : Int32 × sw_M} (k87 : Nat → Int32 → sw_M → Option (Int32 × sw_M)) (hk87 : ∀ (a0 : Nat) (a3 : Int32) (M : sw_M), k87 a0 a3 M = some r → sw_F g k_Model_quarrel d n0 (some (.int r.1)) r.2 87 [(0, .ref a0), (3, .int a3)] [] M) {N : Nat} : ∀ (j : Nat) (a0 : Nat) (a3 : Int32) (a4 : Int32) (M : sw_M), f_Model_quarrel_94 N k87 j a0 a3 a4 M = some r → sw_F g k_Model_quarrel d n0 (some (.int r.1)) r.2 94 [(0, .ref a0), (3, .int a3), (4, .int a4)] [] M := by
  intro j
  induction j with
  | zero =>
    intro a0 a3 a4 M hf
    rw [f_Model_quarrel_94] at hf
    cases hf
  | succ j ih =>
    intro a0 a3 a4 M hf
    rw [f_Model_quarrel_94] at hf
    refine sf_blk [(.iload 4, 0, 0, .null), (.bipush (10), 0, 0, .int (10 : Int32))] (lv' := [(0, .ref a0), (3, .int a3), (4, .int a4)]) (st' := [.int (10 : Int32), .int a4]) (M1 := M) (ob := []) (pc' := 98) (by decide +kernel) rfl rfl sw_a0 ?_
    refine sf_j_ge (off := 32) (tgt := 130) (by decide +kernel) (by decide) hf (fun hc hf => ?_) (fun hc hf => ?_)
    · exact sf_weak [0, 1] rfl (t_Model_quarrel_130 hd _ hk87 hf)
    · obtain ⟨h1, hf⟩ := sw_gd_1 hf
      obtain ⟨h2, hf⟩ := sw_gd_1 hf
      refine sf_blk [(.aload_n 0, 0, 0, .null), (.getfield 154, 12, 87, .null), (.iload_n 3, 0, 0, .null), (.baload, 0, 0, .null)] (lv' := [(0, .ref a0), (3, .int a3), (4, .int a4)]) (st' := [.int (rd_I M (rd_R M a0 87) a3.toNatClampNeg)]) (M1 := M) (ob := [sw_ok M a0 12, sw_ar M (rd_R M a0 87) 14 a3 || sw_ar M (rd_R M a0 87) 15 a3]) (pc' := 107) (by decide +kernel) rfl rfl (sw_a1 h1 (sw_a1 h2 sw_a0)) ?_
      refine sf_z_eq (off := 23) (tgt := 130) (by decide +kernel) (by decide) hf (fun hc hf => ?_) (fun hc hf => ?_)
      · exact sf_weak [0, 1] rfl (t_Model_quarrel_130 hd _ hk87 hf)
      · obtain ⟨h3, hf⟩ := sw_gd_1 hf
        refine sf_blk [(.aload_n 0, 0, 0, .null), (.getfield 154, 12, 87, .null), (.iload_n 3, 0, 0, .null), (.iconst (1), 0, 0, .int (1 : Int32)), (.iload 4, 0, 0, .null), (.ishl, 0, 0, .null), (.iconst (-1), 0, 0, .int (-1 : Int32)), (.ixor, 0, 0, .null), (.iand, 0, 0, .null), (.iconst (1), 0, 0, .int (1 : Int32)), (.bastore, 0, 0, .null), (.iinc 4 (1), 0, 0, .int (1 : Int32))] (lv' := [(4, .int (a4 + (1 : Int32))), (0, .ref a0), (3, .int a3)]) (st' := []) (M1 := (wr_I M (rd_R M a0 87) (a3 &&& (((1 : Int32) <<< (a4 &&& 31)) ^^^ (-1 : Int32))).toNatClampNeg (1 : Int32))) (ob := [sw_ok M a0 12, (sw_ar M (rd_R M a0 87) 14 (a3 &&& (((1 : Int32) <<< (a4 &&& 31)) ^^^ (-1 : Int32))) && decide ((1 : Int32).toInt8.toInt32 = (1 : Int32))) || (sw_ar M (rd_R M a0 87) 15 (a3 &&& (((1 : Int32) <<< (a4 &&& 31)) ^^^ (-1 : Int32))) && sw_bz (1 : Int32))]) (pc' := 127) (by decide +kernel) rfl rfl (sw_a1 h1 (sw_a1 h3 sw_a0)) ?_
        refine sf_goto (off := -33) (tgt := 94) (by decide +kernel) (by decide) ?_
        exact sf_weak [1, 2, 0] rfl (ih _ _ _ _ hf)
def f_Model_quarrel_87 (N : Nat) : Nat → Nat → Int32 → sw_M → Option (Int32 × sw_M)
  | 0, _, _, _ => none
  | j + 1, a0, a3, M =>
  if a3 ≤ 0 then sw_gd [sw_ok M a0 12] (sw_gd [sw_ar M (rd_R M a0 87) 14 (rd_I M a0 83) || sw_ar M (rd_R M a0 87) 15 (rd_I M a0 83)] (if (rd_I M (rd_R M a0 87) (rd_I M a0 83).toNatClampNeg) = 0 then f_Model_quarrel_158 N N a0 (rd_I M a0 83) (0 : Int32) M
  else some ((0 : Int32), M)))
  else f_Model_quarrel_94 N (f_Model_quarrel_87 N j) N a0 a3 (0 : Int32) M
set_option maxRecDepth 10000 in
theorem t_Model_quarrel_87 {g : sw_G} {d n0 : Nat} (hd : 7 ≤ d) {r : Int32 × sw_M} {N : Nat} : ∀ (j : Nat) (a0 : Nat) (a3 : Int32) (M : sw_M), f_Model_quarrel_87 N j a0 a3 M = some r → sw_F g k_Model_quarrel d n0 (some (.int r.1)) r.2 87 [(0, .ref a0), (3, .int a3)] [] M := by
  intro j
  induction j with
  | zero =>
    intro a0 a3 M hf
    rw [f_Model_quarrel_87] at hf
    cases hf
  | succ j ih =>
    intro a0 a3 M hf
    rw [f_Model_quarrel_87] at hf
    refine sf_blk [(.iload_n 3, 0, 0, .null)] (lv' := [(0, .ref a0), (3, .int a3)]) (st' := [.int a3]) (M1 := M) (ob := []) (pc' := 88) (by decide +kernel) rfl rfl sw_a0 ?_
    refine sf_z_le (off := 48) (tgt := 136) (by decide +kernel) (by decide) hf (fun hc hf => ?_) (fun hc hf => ?_)
    · obtain ⟨h1, hf⟩ := sw_gd_1 hf
      obtain ⟨h2, hf⟩ := sw_gd_1 hf
      refine sf_blk [(.aload_n 0, 0, 0, .null), (.getfield 154, 12, 87, .null), (.aload_n 0, 0, 0, .null), (.getfield 465, 12, 83, .null), (.baload, 0, 0, .null)] (lv' := [(0, .ref a0), (3, .int a3)]) (st' := [.int (rd_I M (rd_R M a0 87) (rd_I M a0 83).toNatClampNeg)]) (M1 := M) (ob := [sw_ok M a0 12, sw_ok M a0 12, sw_ar M (rd_R M a0 87) 14 (rd_I M a0 83) || sw_ar M (rd_R M a0 87) 15 (rd_I M a0 83)]) (pc' := 145) (by decide +kernel) rfl rfl (sw_a1 h1 (sw_a1 h1 (sw_a1 h2 sw_a0))) ?_
      refine sf_z_eq (off := 5) (tgt := 150) (by decide +kernel) (by decide) hf (fun hc hf => ?_) (fun hc hf => ?_)
      · refine sf_blk [(.aload_n 0, 0, 0, .null), (.getfield 465, 12, 83, .null), (.istore_n 3, 0, 0, .null), (.iconst (0), 0, 0, .int (0 : Int32)), (.istore 4, 0, 0, .null)] (lv' := [(4, .int (0 : Int32)), (3, .int (rd_I M a0 83)), (0, .ref a0)]) (st' := []) (M1 := M) (ob := [sw_ok M a0 12]) (pc' := 158) (by decide +kernel) rfl rfl (sw_a1 h1 sw_a0) ?_
        exact sf_weak [2, 1, 0] rfl (t_Model_quarrel_158 hd _ _ _ _ _ hf)
      · refine sf_blk [(.iconst (0), 0, 0, .int (0 : Int32))] (lv' := [(0, .ref a0), (3, .int a3)]) (st' := [.int (0 : Int32)]) (M1 := M) (ob := []) (pc' := 149) (by decide +kernel) rfl rfl sw_a0 ?_
        cases hf
        exact sf_int rfl (by decide +kernel)
    · refine sf_blk [(.iconst (0), 0, 0, .int (0 : Int32)), (.istore 4, 0, 0, .null)] (lv' := [(4, .int (0 : Int32)), (0, .ref a0), (3, .int a3)]) (st' := []) (M1 := M) (ob := []) (pc' := 94) (by decide +kernel) rfl rfl sw_a0 ?_
      exact sf_weak [1, 2, 0] rfl (t_Model_quarrel_94 hd _ ih _ _ _ _ _ hf)
def f_Model_quarrel_61 (N : Nat) : Nat → Nat → Int32 → sw_M → Option (Int32 × sw_M)
  | 0, _, _, _ => none
  | j + 1, a0, a2, M =>
  if a2 = 0 then f_Model_quarrel_87 N N a0 (1023 : Int32) M
  else sw_gd [sw_ok M a0 12] ((f_Model_holding N a0 M).bind (fun u2 => sw_gd [(sw_ar u2.2 (rd_R M a0 87) 14 u2.1 && decide ((1 : Int32).toInt8.toInt32 = (1 : Int32))) || (sw_ar u2.2 (rd_R M a0 87) 15 u2.1 && sw_bz (1 : Int32))] (sw_gd [sw_ok (wr_I u2.2 (rd_R M a0 87) u2.1.toNatClampNeg (1 : Int32)) a0 12] ((f_Model_nextWeights N a0 (wr_I u2.2 (rd_R M a0 87) u2.1.toNatClampNeg (1 : Int32))).bind (fun u5 => f_Model_quarrel_61 N j a0 u5.1 u5.2)))))
set_option maxRecDepth 10000 in
theorem t_Model_quarrel_61 {g : sw_G} {d n0 : Nat} (hd : 7 ≤ d) {r : Int32 × sw_M} {N : Nat} : ∀ (j : Nat) (a0 : Nat) (a2 : Int32) (M : sw_M), f_Model_quarrel_61 N j a0 a2 M = some r → sw_F g k_Model_quarrel d n0 (some (.int r.1)) r.2 61 [(0, .ref a0), (2, .int a2)] [] M := by
  intro j
  induction j with
  | zero =>
    intro a0 a2 M hf
    rw [f_Model_quarrel_61] at hf
    cases hf
  | succ j ih =>
    intro a0 a2 M hf
    rw [f_Model_quarrel_61] at hf
    refine sf_blk [(.iload_n 2, 0, 0, .null)] (lv' := [(0, .ref a0), (2, .int a2)]) (st' := [.int a2]) (M1 := M) (ob := []) (pc' := 62) (by decide +kernel) rfl rfl sw_a0 ?_
    refine sf_z_eq (off := 21) (tgt := 83) (by decide +kernel) (by decide) hf (fun hc hf => ?_) (fun hc hf => ?_)
    · refine sf_blk [(.sipush (1023), 0, 0, .int (1023 : Int32)), (.istore_n 3, 0, 0, .null)] (lv' := [(3, .int (1023 : Int32)), (0, .ref a0), (2, .int a2)]) (st' := []) (M1 := M) (ob := []) (pc' := 87) (by decide +kernel) rfl rfl sw_a0 ?_
      exact sf_weak [1, 0] rfl (t_Model_quarrel_87 hd _ _ _ _ hf)
    · obtain ⟨h1, hf⟩ := sw_gd_1 hf
      refine sf_blk [(.aload_n 0, 0, 0, .null), (.getfield 154, 12, 87, .null), (.aload_n 0, 0, 0, .null)] (lv' := [(0, .ref a0), (2, .int a2)]) (st' := [.ref a0, .ref (rd_R M a0 87)]) (M1 := M) (ob := [sw_ok M a0 12]) (pc' := 70) (by decide +kernel) rfl rfl (sw_a1 h1 sw_a0) ?_
      obtain ⟨u2, hu2, hf⟩ := sw_bnd hf
      refine sf_callV (i := 479) (k2 := k_Model_holding) (d2 := d - 1) (As := []) (st := [.ref (rd_R M a0 87)]) (q := a0) (ci := 12) mf_Model_holding mi_Model_holding ms_Model_holding (sw_m8 68 (by decide +kernel)) rfl (by decide) (by decide +kernel) rfl (Nat.le_of_ble_eq_true rfl) (by omega) h1 (o_Model_holding g (d := d - 1) (by omega) hu2) ?_
      show sw_F _ _ _ _ _ _ 73 [(0, .ref a0), (2, .int a2)] [.int u2.1, .ref (rd_R M a0 87)] u2.2
      obtain ⟨h3, hf⟩ := sw_gd_1 hf
      obtain ⟨h4, hf⟩ := sw_gd_1 hf
      refine sf_blk [(.iconst (1), 0, 0, .int (1 : Int32)), (.bastore, 0, 0, .null), (.aload_n 0, 0, 0, .null)] (lv' := [(0, .ref a0), (2, .int a2)]) (st' := [.ref a0]) (M1 := (wr_I u2.2 (rd_R M a0 87) u2.1.toNatClampNeg (1 : Int32))) (ob := [(sw_ar u2.2 (rd_R M a0 87) 14 u2.1 && decide ((1 : Int32).toInt8.toInt32 = (1 : Int32))) || (sw_ar u2.2 (rd_R M a0 87) 15 u2.1 && sw_bz (1 : Int32))]) (pc' := 76) (by decide +kernel) rfl rfl (sw_a1 h3 sw_a0) ?_
      obtain ⟨u5, hu5, hf⟩ := sw_bnd hf
      refine sf_callV (i := 485) (k2 := k_Model_nextWeights) (d2 := d - 1) (As := []) (st := []) (q := a0) (ci := 12) mf_Model_nextWeights mi_Model_nextWeights ms_Model_nextWeights (sw_m8 60 (by decide +kernel)) rfl (by decide) (by decide +kernel) rfl (Nat.le_of_ble_eq_true rfl) (by omega) h4 (o_Model_nextWeights g (d := d - 1) (by omega) hu5) ?_
      show sw_F _ _ _ _ _ _ 79 [(0, .ref a0), (2, .int a2)] [.int u5.1] u5.2
      refine sf_blk [(.istore_n 2, 0, 0, .null)] (lv' := [(2, .int u5.1), (0, .ref a0)]) (st' := []) (M1 := u5.2) (ob := []) (pc' := 80) (by decide +kernel) rfl rfl sw_a0 ?_
      refine sf_goto (off := -19) (tgt := 61) (by decide +kernel) (by decide) ?_
      exact sf_weak [1, 0] rfl (ih _ _ _ hf)
def f_Model_quarrel_30 (N : Nat) : Nat → Nat → Int32 → sw_M → Option (Int32 × sw_M)
  | 0, _, _, _ => none
  | j + 1, a0, a2, M =>
  if (1024 : Int32) ≤ a2 then sw_gd [sw_ok M a0 12] ((f_Model_firstWeights N a0 M).bind (fun u2 => if u2.1 = 0 then some ((0 : Int32), u2.2)
  else f_Model_quarrel_61 N N a0 u2.1 u2.2))
  else sw_gd [sw_ok M a0 12] (sw_gd [(sw_ar M (rd_R M a0 87) 14 a2 && decide ((0 : Int32).toInt8.toInt32 = (0 : Int32))) || (sw_ar M (rd_R M a0 87) 15 a2 && sw_bz (0 : Int32))] (f_Model_quarrel_30 N j a0 (a2 + (1 : Int32)) (wr_I M (rd_R M a0 87) a2.toNatClampNeg (0 : Int32))))
set_option maxRecDepth 10000 in
theorem t_Model_quarrel_30 {g : sw_G} {d n0 : Nat} (hd : 7 ≤ d) {r : Int32 × sw_M} {N : Nat} : ∀ (j : Nat) (a0 : Nat) (a2 : Int32) (M : sw_M), f_Model_quarrel_30 N j a0 a2 M = some r → sw_F g k_Model_quarrel d n0 (some (.int r.1)) r.2 30 [(0, .ref a0), (2, .int a2)] [] M := by
  intro j
  induction j with
  | zero =>
    intro a0 a2 M hf
    rw [f_Model_quarrel_30] at hf
    cases hf
  | succ j ih =>
    intro a0 a2 M hf
    rw [f_Model_quarrel_30] at hf
    refine sf_blk [(.iload_n 2, 0, 0, .null), (.sipush (1024), 0, 0, .int (1024 : Int32))] (lv' := [(0, .ref a0), (2, .int a2)]) (st' := [.int (1024 : Int32), .int a2]) (M1 := M) (ob := []) (pc' := 34) (by decide +kernel) rfl rfl sw_a0 ?_
    refine sf_j_ge (off := 16) (tgt := 50) (by decide +kernel) (by decide) hf (fun hc hf => ?_) (fun hc hf => ?_)
    · obtain ⟨h1, hf⟩ := sw_gd_1 hf
      refine sf_blk [(.aload_n 0, 0, 0, .null)] (lv' := [(0, .ref a0), (2, .int a2)]) (st' := [.ref a0]) (M1 := M) (ob := []) (pc' := 51) (by decide +kernel) rfl rfl sw_a0 ?_
      obtain ⟨u2, hu2, hf⟩ := sw_bnd hf
      refine sf_callV (i := 482) (k2 := k_Model_firstWeights) (d2 := d - 1) (As := []) (st := []) (q := a0) (ci := 12) mf_Model_firstWeights mi_Model_firstWeights ms_Model_firstWeights (sw_m8 56 (by decide +kernel)) rfl (by decide) (by decide +kernel) rfl (Nat.le_of_ble_eq_true rfl) (by omega) h1 (o_Model_firstWeights g (d := d - 1) (by omega) hu2) ?_
      show sw_F _ _ _ _ _ _ 54 [(0, .ref a0), (2, .int a2)] [.int u2.1] u2.2
      refine sf_blk [(.istore_n 2, 0, 0, .null), (.iload_n 2, 0, 0, .null)] (lv' := [(2, .int u2.1), (0, .ref a0)]) (st' := [.int u2.1]) (M1 := u2.2) (ob := []) (pc' := 56) (by decide +kernel) rfl rfl sw_a0 ?_
      refine sf_z_ne (off := 5) (tgt := 61) (by decide +kernel) (by decide) hf (fun hc hf => ?_) (fun hc hf => ?_)
      · exact sf_weak [1, 0] rfl (t_Model_quarrel_61 hd _ _ _ _ hf)
      · refine sf_blk [(.iconst (0), 0, 0, .int (0 : Int32))] (lv' := [(2, .int u2.1), (0, .ref a0)]) (st' := [.int (0 : Int32)]) (M1 := u2.2) (ob := []) (pc' := 60) (by decide +kernel) rfl rfl sw_a0 ?_
        cases hf
        exact sf_int rfl (by decide +kernel)
    · obtain ⟨h3, hf⟩ := sw_gd_1 hf
      obtain ⟨h4, hf⟩ := sw_gd_1 hf
      refine sf_blk [(.aload_n 0, 0, 0, .null), (.getfield 154, 12, 87, .null), (.iload_n 2, 0, 0, .null), (.iconst (0), 0, 0, .int (0 : Int32)), (.bastore, 0, 0, .null), (.iinc 2 (1), 0, 0, .int (1 : Int32))] (lv' := [(2, .int (a2 + (1 : Int32))), (0, .ref a0)]) (st' := []) (M1 := (wr_I M (rd_R M a0 87) a2.toNatClampNeg (0 : Int32))) (ob := [sw_ok M a0 12, (sw_ar M (rd_R M a0 87) 14 a2 && decide ((0 : Int32).toInt8.toInt32 = (0 : Int32))) || (sw_ar M (rd_R M a0 87) 15 a2 && sw_bz (0 : Int32))]) (pc' := 47) (by decide +kernel) rfl rfl (sw_a1 h3 (sw_a1 h4 sw_a0)) ?_
      refine sf_goto (off := -17) (tgt := 30) (by decide +kernel) (by decide) ?_
      exact sf_weak [1, 0] rfl (ih _ _ _ hf)
def f_Model_quarrel (N : Nat) (a0 : Nat) (a1 : Int32) (M : sw_M) : Option (Int32 × sw_M) :=
  sw_gd [sw_ok M a0 12] ((f_Model_isKnown N a0 a1 (wr_I M a0 0 (0 : Int32))).bind (fun u2 => if u2.1 = 0 then some ((-1 : Int32), u2.2)
  else sw_gd [sw_ok u2.2 a0 12] ((f_Model_spread N a0 (rd_I u2.2 a0 15) u2.2).bind (fun u4 => sw_gd [sw_ok u4 a0 12] ((f_Model_knows N a0 a1 u4).bind (fun u6 => f_Model_quarrel_30 N N a0 (0 : Int32) u6))))))
set_option maxRecDepth 10000 in
theorem t_Model_quarrel {g : sw_G} {d n0 : Nat} (hd : 7 ≤ d) {r : Int32 × sw_M} {N : Nat} {a0 : Nat} {a1 : Int32} {M : sw_M} (hf : f_Model_quarrel N a0 a1 M = some r) : sw_F g k_Model_quarrel d n0 (some (.int r.1)) r.2 0 [(0, .ref a0), (1, .int a1)] [] M := by
  unfold f_Model_quarrel at hf
  obtain ⟨h1, hf⟩ := sw_gd_1 hf
  refine sf_blk [(.aload_n 0, 0, 0, .null), (.iconst (0), 0, 0, .int (0 : Int32)), (.putfield 166, 12, 0, .null), (.aload_n 0, 0, 0, .null), (.iload_n 1, 0, 0, .null)] (lv' := [(0, .ref a0), (1, .int a1)]) (st' := [.int a1, .ref a0]) (M1 := (wr_I M a0 0 (0 : Int32))) (ob := [sw_ok M a0 12]) (pc' := 7) (by decide +kernel) rfl rfl (sw_a1 h1 sw_a0) ?_
  obtain ⟨u2, hu2, hf⟩ := sw_bnd hf
  refine sf_callV (i := 491) (k2 := k_Model_isKnown) (d2 := d - 1) (As := [.int a1]) (st := []) (q := a0) (ci := 12) mf_Model_isKnown mi_Model_isKnown ms_Model_isKnown (sw_m8 44 (by decide +kernel)) rfl (by decide) (by decide +kernel) rfl (Nat.le_of_ble_eq_true rfl) (by omega) h1 (o_Model_isKnown g (d := d - 1) (by omega) hu2) ?_
  show sw_F _ _ _ _ _ _ 10 [(0, .ref a0), (1, .int a1)] [.int u2.1] u2.2
  refine sf_z_ne (off := 5) (tgt := 15) (by decide +kernel) (by decide) hf (fun hc hf => ?_) (fun hc hf => ?_)
  · obtain ⟨h3, hf⟩ := sw_gd_1 hf
    refine sf_blk [(.aload_n 0, 0, 0, .null), (.aload_n 0, 0, 0, .null), (.getfield 305, 12, 15, .null)] (lv' := [(0, .ref a0), (1, .int a1)]) (st' := [.int (rd_I u2.2 a0 15), .ref a0]) (M1 := u2.2) (ob := [sw_ok u2.2 a0 12]) (pc' := 20) (by decide +kernel) rfl rfl (sw_a1 h3 sw_a0) ?_
    obtain ⟨u4, hu4, hf⟩ := sw_bnd hf
    refine sf_callV (i := 459) (k2 := k_Model_spread) (d2 := d - 1) (As := [.int (rd_I u2.2 a0 15)]) (st := []) (q := a0) (ci := 12) mf_Model_spread mi_Model_spread ms_Model_spread (sw_m8 20 (by decide +kernel)) rfl (by decide) (by decide +kernel) rfl (Nat.le_of_ble_eq_true rfl) (by omega) h3 (o_Model_spread g (d := d - 1) (by omega) hu4) ?_
    show sw_F _ _ _ _ _ _ 23 [(0, .ref a0), (1, .int a1)] [] u4
    obtain ⟨h5, hf⟩ := sw_gd_1 hf
    refine sf_blk [(.aload_n 0, 0, 0, .null), (.iload_n 1, 0, 0, .null)] (lv' := [(0, .ref a0), (1, .int a1)]) (st' := [.int a1, .ref a0]) (M1 := u4) (ob := []) (pc' := 25) (by decide +kernel) rfl rfl sw_a0 ?_
    obtain ⟨u6, hu6, hf⟩ := sw_bnd hf
    refine sf_callV (i := 494) (k2 := k_Model_knows) (d2 := d - 1) (As := [.int a1]) (st := []) (q := a0) (ci := 12) mf_Model_knows mi_Model_knows ms_Model_knows (sw_m8 48 (by decide +kernel)) rfl (by decide) (by decide +kernel) rfl (Nat.le_of_ble_eq_true rfl) (by omega) h5 (o_Model_knows g (d := d - 1) (by omega) hu6) ?_
    show sw_F _ _ _ _ _ _ 28 [(0, .ref a0), (1, .int a1)] [] u6
    refine sf_blk [(.iconst (0), 0, 0, .int (0 : Int32)), (.istore_n 2, 0, 0, .null)] (lv' := [(2, .int (0 : Int32)), (0, .ref a0), (1, .int a1)]) (st' := []) (M1 := u6) (ob := []) (pc' := 30) (by decide +kernel) rfl rfl sw_a0 ?_
    exact sf_weak [1, 0] rfl (t_Model_quarrel_30 hd _ _ _ _ hf)
  · refine sf_blk [(.iconst (-1), 0, 0, .int (-1 : Int32))] (lv' := [(0, .ref a0), (1, .int a1)]) (st' := [.int (-1 : Int32)]) (M1 := u2.2) (ob := []) (pc' := 14) (by decide +kernel) rfl rfl sw_a0 ?_
    cases hf
    exact sf_int rfl (by decide +kernel)
theorem o_Model_quarrel (g : sw_G) {d : Nat} (hd : 7 ≤ d) {N : Nat} {a0 : Nat} {a1 : Int32} {M : sw_M} {r : Int32 × sw_M} (hf : f_Model_quarrel N a0 a1 M = some r) : sw_Ok g k_Model_quarrel d [.ref a0, .int a1] M (some (.int r.1)) r.2 := sf_met (by decide +kernel) rfl (by decide) (Nat.le_of_ble_eq_true rfl) (t_Model_quarrel hd hf)
def f_Model_modelMany_2 (N : Nat) : Nat → Nat → Int32 → Int32 → sw_M → Option (Int32 × sw_M)
  | 0, _, _, _, _ => none
  | j + 1, a0, a1, a2, M =>
  if (8 : Int32) ≤ a2 then some (a2, M)
  else sw_gd [sw_ok M a0 12] ((f_Model_spanLow N a0 M).bind (fun u2 => sw_gd [sw_ok u2.2 a0 12] ((f_Model_spanHigh N a0 u2.2).bind (fun u4 => if u4.1.toInt64 < (u2.1.toInt64 + (a2.toInt64 * a1.toInt64)) then some (a2, u4.2)
  else f_Model_modelMany_2 N j a0 a1 (a2 + (1 : Int32)) u4.2))))
set_option maxRecDepth 10000 in
theorem t_Model_modelMany_2 {g : sw_G} {d n0 : Nat} (hd : 2 ≤ d) {r : Int32 × sw_M} {N : Nat} : ∀ (j : Nat) (a0 : Nat) (a1 : Int32) (a2 : Int32) (M : sw_M), f_Model_modelMany_2 N j a0 a1 a2 M = some r → sw_F g k_Model_modelMany d n0 (some (.int r.1)) r.2 2 [(0, .ref a0), (1, .int a1), (2, .int a2)] [] M := by
  intro j
  induction j with
  | zero =>
    intro a0 a1 a2 M hf
    rw [f_Model_modelMany_2] at hf
    cases hf
  | succ j ih =>
    intro a0 a1 a2 M hf
    rw [f_Model_modelMany_2] at hf
    refine sf_blk [(.iload_n 2, 0, 0, .null), (.bipush (8), 0, 0, .int (8 : Int32))] (lv' := [(0, .ref a0), (1, .int a1), (2, .int a2)]) (st' := [.int (8 : Int32), .int a2]) (M1 := M) (ob := []) (pc' := 5) (by decide +kernel) rfl rfl sw_a0 ?_
    refine sf_j_ge (off := 29) (tgt := 34) (by decide +kernel) (by decide) hf (fun hc hf => ?_) (fun hc hf => ?_)
    · refine sf_blk [(.iload_n 2, 0, 0, .null)] (lv' := [(0, .ref a0), (1, .int a1), (2, .int a2)]) (st' := [.int a2]) (M1 := M) (ob := []) (pc' := 35) (by decide +kernel) rfl rfl sw_a0 ?_
      cases hf
      exact sf_int rfl (by decide +kernel)
    · obtain ⟨h1, hf⟩ := sw_gd_1 hf
      refine sf_blk [(.aload_n 0, 0, 0, .null)] (lv' := [(0, .ref a0), (1, .int a1), (2, .int a2)]) (st' := [.ref a0]) (M1 := M) (ob := []) (pc' := 9) (by decide +kernel) rfl rfl sw_a0 ?_
      obtain ⟨u2, hu2, hf⟩ := sw_bnd hf
      refine sf_callV (i := 308) (k2 := k_Model_spanLow) (d2 := d - 1) (As := []) (st := []) (q := a0) (ci := 12) mf_Model_spanLow mi_Model_spanLow ms_Model_spanLow (sw_m7 116 (by decide +kernel)) rfl (by decide) (by decide +kernel) rfl (Nat.le_of_ble_eq_true rfl) (by omega) h1 (o_Model_spanLow g (d := d - 1) (by omega) hu2) ?_
      show sw_F _ _ _ _ _ _ 12 [(0, .ref a0), (1, .int a1), (2, .int a2)] [.int u2.1] u2.2
      obtain ⟨h3, hf⟩ := sw_gd_1 hf
      refine sf_blk [(.i2l, 0, 0, .null), (.iload_n 2, 0, 0, .null), (.i2l, 0, 0, .null), (.iload_n 1, 0, 0, .null), (.i2l, 0, 0, .null), (.lmul, 0, 0, .null), (.ladd, 0, 0, .null), (.aload_n 0, 0, 0, .null)] (lv' := [(0, .ref a0), (1, .int a1), (2, .int a2)]) (st' := [.ref a0, .long (u2.1.toInt64 + (a2.toInt64 * a1.toInt64))]) (M1 := u2.2) (ob := []) (pc' := 20) (by decide +kernel) rfl rfl sw_a0 ?_
      obtain ⟨u4, hu4, hf⟩ := sw_bnd hf
      refine sf_callV (i := 311) (k2 := k_Model_spanHigh) (d2 := d - 1) (As := []) (st := [.long (u2.1.toInt64 + (a2.toInt64 * a1.toInt64))]) (q := a0) (ci := 12) mf_Model_spanHigh mi_Model_spanHigh ms_Model_spanHigh (sw_m7 120 (by decide +kernel)) rfl (by decide) (by decide +kernel) rfl (Nat.le_of_ble_eq_true rfl) (by omega) h3 (o_Model_spanHigh g (d := d - 1) (by omega) hu4) ?_
      show sw_F _ _ _ _ _ _ 23 [(0, .ref a0), (1, .int a1), (2, .int a2)] [.int u4.1, .long (u2.1.toInt64 + (a2.toInt64 * a1.toInt64))] u4.2
      refine sf_blk [(.i2l, 0, 0, .null), (.lcmp, 0, 0, .null)] (lv' := [(0, .ref a0), (1, .int a1), (2, .int a2)]) (st' := [.int (lg_cmp (u2.1.toInt64 + (a2.toInt64 * a1.toInt64)) u4.1.toInt64)]) (M1 := u4.2) (ob := []) (pc' := 25) (by decide +kernel) rfl rfl sw_a0 ?_
      refine sf_l_gt (off := 9) (tgt := 34) (by decide +kernel) (by decide) hf (fun hc hf => ?_) (fun hc hf => ?_)
      · refine sf_blk [(.iload_n 2, 0, 0, .null)] (lv' := [(0, .ref a0), (1, .int a1), (2, .int a2)]) (st' := [.int a2]) (M1 := u4.2) (ob := []) (pc' := 35) (by decide +kernel) rfl rfl sw_a0 ?_
        cases hf
        exact sf_int rfl (by decide +kernel)
      · refine sf_blk [(.iinc 2 (1), 0, 0, .int (1 : Int32))] (lv' := [(2, .int (a2 + (1 : Int32))), (0, .ref a0), (1, .int a1)]) (st' := []) (M1 := u4.2) (ob := []) (pc' := 31) (by decide +kernel) rfl rfl sw_a0 ?_
        refine sf_goto (off := -29) (tgt := 2) (by decide +kernel) (by decide) ?_
        exact sf_weak [1, 2, 0] rfl (ih _ _ _ _ hf)
def f_Model_modelMany (N : Nat) (a0 : Nat) (a1 : Int32) (M : sw_M) : Option (Int32 × sw_M) :=
  f_Model_modelMany_2 N N a0 a1 (1 : Int32) M
set_option maxRecDepth 10000 in
theorem t_Model_modelMany {g : sw_G} {d n0 : Nat} (hd : 2 ≤ d) {r : Int32 × sw_M} {N : Nat} {a0 : Nat} {a1 : Int32} {M : sw_M} (hf : f_Model_modelMany N a0 a1 M = some r) : sw_F g k_Model_modelMany d n0 (some (.int r.1)) r.2 0 [(0, .ref a0), (1, .int a1)] [] M := by
  unfold f_Model_modelMany at hf
  refine sf_blk [(.iconst (1), 0, 0, .int (1 : Int32)), (.istore_n 2, 0, 0, .null)] (lv' := [(2, .int (1 : Int32)), (0, .ref a0), (1, .int a1)]) (st' := []) (M1 := M) (ob := []) (pc' := 2) (by decide +kernel) rfl rfl sw_a0 ?_
  exact sf_weak [1, 2, 0] rfl (t_Model_modelMany_2 hd _ _ _ _ _ hf)
theorem o_Model_modelMany (g : sw_G) {d : Nat} (hd : 2 ≤ d) {N : Nat} {a0 : Nat} {a1 : Int32} {M : sw_M} {r : Int32 × sw_M} (hf : f_Model_modelMany N a0 a1 M = some r) : sw_Ok g k_Model_modelMany d [.ref a0, .int a1] M (some (.int r.1)) r.2 := sf_met (by decide +kernel) rfl (by decide) (Nat.le_of_ble_eq_true rfl) (t_Model_modelMany hd hf)
def f_Model_keptOf_84 (N : Nat) (k12 : Nat → Int32 → Int32 → Int32 → sw_M → Option (Int32 × sw_M)) (a0 : Nat) (a1 : Int32) (a2 : Int32) (a3 : Int32) (M : sw_M) : Option (Int32 × sw_M) :=
  k12 a0 a1 a2 (a3 + (1 : Int32)) M
set_option maxRecDepth 10000 in
theorem t_Model_keptOf_84 {g : sw_G} {d n0 : Nat} (hd : 7 ≤ d) {r : Int32 × sw_M} (k12 : Nat → Int32 → Int32 → Int32 → sw_M → Option (Int32 × sw_M)) (hk12 : ∀ (a0 : Nat) (a1 : Int32) (a2 : Int32) (a3 : Int32) (M : sw_M), k12 a0 a1 a2 a3 M = some r → sw_F g k_Model_keptOf d n0 (some (.int r.1)) r.2 12 [(0, .ref a0), (1, .int a1), (2, .int a2), (3, .int a3)] [] M) {N : Nat} {a0 : Nat} {a1 : Int32} {a2 : Int32} {a3 : Int32} {M : sw_M} (hf : f_Model_keptOf_84 N k12 a0 a1 a2 a3 M = some r) : sw_F g k_Model_keptOf d n0 (some (.int r.1)) r.2 84 [(0, .ref a0), (1, .int a1), (2, .int a2), (3, .int a3)] [] M := by
  unfold f_Model_keptOf_84 at hf
  refine sf_blk [(.iinc 3 (1), 0, 0, .int (1 : Int32))] (lv' := [(3, .int (a3 + (1 : Int32))), (0, .ref a0), (1, .int a1), (2, .int a2)]) (st' := []) (M1 := M) (ob := []) (pc' := 87) (by decide +kernel) rfl rfl sw_a0 ?_
  refine sf_goto (off := -75) (tgt := 12) (by decide +kernel) (by decide) ?_
  exact sf_weak [1, 2, 3, 0] rfl (hk12 _ _ _ _ _ hf)
def f_Model_keptOf_53 (N : Nat) (k12 : Nat → Int32 → Int32 → Int32 → sw_M → Option (Int32 × sw_M)) : Nat → Nat → Int32 → Int32 → Int32 → Int32 → sw_M → Option (Int32 × sw_M)
  | 0, _, _, _, _, _, _ => none
  | j + 1, a0, a1, a2, a3, a4, M =>
  if (64 : Int32) ≤ a4 then f_Model_keptOf_84 N k12 a0 a1 a2 a3 M
  else sw_gd [sw_ok M a0 12] ((f_Model_lightOf N a0 a4 M).bind (fun u2 => sw_gd [sw_ar u2.2 (rd_R M a0 88) 13 (((64 : Int32) * a3) + a4)] (f_Model_keptOf_53 N k12 j a0 a1 a2 a3 (a4 + (1 : Int32)) (wr_I u2.2 (rd_R M a0 88) (((64 : Int32) * a3) + a4).toNatClampNeg u2.1))))
set_option maxRecDepth 10000 in
theorem t_Model_keptOf_53 {g : sw_G} {d n0 : Nat} (hd : 7 ≤ d) {r : Int32 × sw_M} (k12 : Nat → Int32 → Int32 → Int32 → sw_M → Option (Int32 × sw_M)) (hk12 : ∀ (a0 : Nat) (a1 : Int32) (a2 : Int32) (a3 : Int32) (M : sw_M), k12 a0 a1 a2 a3 M = some r → sw_F g k_Model_keptOf d n0 (some (.int r.1)) r.2 12 [(0, .ref a0), (1, .int a1), (2, .int a2), (3, .int a3)] [] M) {N : Nat} : ∀ (j : Nat) (a0 : Nat) (a1 : Int32) (a2 : Int32) (a3 : Int32) (a4 : Int32) (M : sw_M), f_Model_keptOf_53 N k12 j a0 a1 a2 a3 a4 M = some r → sw_F g k_Model_keptOf d n0 (some (.int r.1)) r.2 53 [(0, .ref a0), (1, .int a1), (2, .int a2), (3, .int a3), (4, .int a4)] [] M := by
  intro j
  induction j with
  | zero =>
    intro a0 a1 a2 a3 a4 M hf
    rw [f_Model_keptOf_53] at hf
    cases hf
  | succ j ih =>
    intro a0 a1 a2 a3 a4 M hf
    rw [f_Model_keptOf_53] at hf
    refine sf_blk [(.iload 4, 0, 0, .null), (.bipush (64), 0, 0, .int (64 : Int32))] (lv' := [(0, .ref a0), (1, .int a1), (2, .int a2), (3, .int a3), (4, .int a4)]) (st' := [.int (64 : Int32), .int a4]) (M1 := M) (ob := []) (pc' := 57) (by decide +kernel) rfl rfl sw_a0 ?_
    refine sf_j_ge (off := 27) (tgt := 84) (by decide +kernel) (by decide) hf (fun hc hf => ?_) (fun hc hf => ?_)
    · exact sf_weak [0, 1, 2, 3] rfl (t_Model_keptOf_84 hd _ hk12 hf)
    · obtain ⟨h1, hf⟩ := sw_gd_1 hf
      refine sf_blk [(.aload_n 0, 0, 0, .null), (.getfield 157, 12, 88, .null), (.bipush (64), 0, 0, .int (64 : Int32)), (.iload_n 3, 0, 0, .null), (.imul, 0, 0, .null), (.iload 4, 0, 0, .null), (.iadd, 0, 0, .null), (.aload_n 0, 0, 0, .null), (.iload 4, 0, 0, .null)] (lv' := [(0, .ref a0), (1, .int a1), (2, .int a2), (3, .int a3), (4, .int a4)]) (st' := [.int a4, .ref a0, .int (((64 : Int32) * a3) + a4), .ref (rd_R M a0 88)]) (M1 := M) (ob := [sw_ok M a0 12]) (pc' := 74) (by decide +kernel) rfl rfl (sw_a1 h1 sw_a0) ?_
      obtain ⟨u2, hu2, hf⟩ := sw_bnd hf
      refine sf_callV (i := 471) (k2 := k_Model_lightOf) (d2 := d - 1) (As := [.int a4]) (st := [.int (((64 : Int32) * a3) + a4), .ref (rd_R M a0 88)]) (q := a0) (ci := 12) mf_Model_lightOf mi_Model_lightOf ms_Model_lightOf (sw_m8 76 (by decide +kernel)) rfl (by decide) (by decide +kernel) rfl (Nat.le_of_ble_eq_true rfl) (by omega) h1 (o_Model_lightOf g (d := d - 1) (by omega) hu2) ?_
      show sw_F _ _ _ _ _ _ 77 [(0, .ref a0), (1, .int a1), (2, .int a2), (3, .int a3), (4, .int a4)] [.int u2.1, .int (((64 : Int32) * a3) + a4), .ref (rd_R M a0 88)] u2.2
      obtain ⟨h3, hf⟩ := sw_gd_1 hf
      refine sf_blk [(.iastore, 0, 0, .null), (.iinc 4 (1), 0, 0, .int (1 : Int32))] (lv' := [(4, .int (a4 + (1 : Int32))), (0, .ref a0), (1, .int a1), (2, .int a2), (3, .int a3)]) (st' := []) (M1 := (wr_I u2.2 (rd_R M a0 88) (((64 : Int32) * a3) + a4).toNatClampNeg u2.1)) (ob := [sw_ar u2.2 (rd_R M a0 88) 13 (((64 : Int32) * a3) + a4)]) (pc' := 81) (by decide +kernel) rfl rfl (sw_a1 h3 sw_a0) ?_
      refine sf_goto (off := -28) (tgt := 53) (by decide +kernel) (by decide) ?_
      exact sf_weak [1, 2, 3, 4, 0] rfl (ih _ _ _ _ _ _ hf)
def f_Model_keptOf_12 (N : Nat) : Nat → Nat → Int32 → Int32 → Int32 → sw_M → Option (Int32 × sw_M)
  | 0, _, _, _, _, _ => none
  | j + 1, a0, a1, a2, a3, M =>
  sw_gd [sw_ok M a0 12] ((f_Model_modelMany N a0 a1 M).bind (fun u2 => if u2.1 ≤ a3 then some (a2, u2.2)
  else sw_gd [sw_ok u2.2 a0 12] ((f_Model_spanLow N a0 u2.2).bind (fun u4 => sw_gd [sw_ok u4.2 a0 12] ((f_Model_spread N a0 (u4.1 + (a3 * a1)) u4.2).bind (fun u6 => sw_gd [sw_ok u6 a0 12] ((f_Model_toFit N a0 (1 : Int32) u6).bind (fun u8 => if u8.1 = 0 then f_Model_keptOf_84 N (f_Model_keptOf_12 N j) a0 a1 a2 a3 u8.2
  else f_Model_keptOf_53 N (f_Model_keptOf_12 N j) N a0 a1 (a2 ||| ((1 : Int32) <<< (a3 &&& 31))) a3 (0 : Int32) u8.2))))))))
set_option maxRecDepth 10000 in
theorem t_Model_keptOf_12 {g : sw_G} {d n0 : Nat} (hd : 7 ≤ d) {r : Int32 × sw_M} {N : Nat} : ∀ (j : Nat) (a0 : Nat) (a1 : Int32) (a2 : Int32) (a3 : Int32) (M : sw_M), f_Model_keptOf_12 N j a0 a1 a2 a3 M = some r → sw_F g k_Model_keptOf d n0 (some (.int r.1)) r.2 12 [(0, .ref a0), (1, .int a1), (2, .int a2), (3, .int a3)] [] M := by
  intro j
  induction j with
  | zero =>
    intro a0 a1 a2 a3 M hf
    rw [f_Model_keptOf_12] at hf
    cases hf
  | succ j ih =>
    intro a0 a1 a2 a3 M hf
    rw [f_Model_keptOf_12] at hf
    obtain ⟨h1, hf⟩ := sw_gd_1 hf
    refine sf_blk [(.iload_n 3, 0, 0, .null), (.aload_n 0, 0, 0, .null), (.iload_n 1, 0, 0, .null)] (lv' := [(0, .ref a0), (1, .int a1), (2, .int a2), (3, .int a3)]) (st' := [.int a1, .ref a0, .int a3]) (M1 := M) (ob := []) (pc' := 15) (by decide +kernel) rfl rfl sw_a0 ?_
    obtain ⟨u2, hu2, hf⟩ := sw_bnd hf
    refine sf_callV (i := 508) (k2 := k_Model_modelMany) (d2 := d - 1) (As := [.int a1]) (st := [.int a3]) (q := a0) (ci := 12) mf_Model_modelMany mi_Model_modelMany ms_Model_modelMany (sw_m8 102 (by decide +kernel)) rfl (by decide) (by decide +kernel) rfl (Nat.le_of_ble_eq_true rfl) (by omega) h1 (o_Model_modelMany g (d := d - 1) (by omega) hu2) ?_
    show sw_F _ _ _ _ _ _ 18 [(0, .ref a0), (1, .int a1), (2, .int a2), (3, .int a3)] [.int u2.1, .int a3] u2.2
    refine sf_j_ge (off := 72) (tgt := 90) (by decide +kernel) (by decide) hf (fun hc hf => ?_) (fun hc hf => ?_)
    · refine sf_blk [(.iload_n 2, 0, 0, .null)] (lv' := [(0, .ref a0), (1, .int a1), (2, .int a2), (3, .int a3)]) (st' := [.int a2]) (M1 := u2.2) (ob := []) (pc' := 91) (by decide +kernel) rfl rfl sw_a0 ?_
      cases hf
      exact sf_int rfl (by decide +kernel)
    · obtain ⟨h3, hf⟩ := sw_gd_1 hf
      refine sf_blk [(.aload_n 0, 0, 0, .null), (.aload_n 0, 0, 0, .null)] (lv' := [(0, .ref a0), (1, .int a1), (2, .int a2), (3, .int a3)]) (st' := [.ref a0, .ref a0]) (M1 := u2.2) (ob := []) (pc' := 23) (by decide +kernel) rfl rfl sw_a0 ?_
      obtain ⟨u4, hu4, hf⟩ := sw_bnd hf
      refine sf_callV (i := 308) (k2 := k_Model_spanLow) (d2 := d - 1) (As := []) (st := [.ref a0]) (q := a0) (ci := 12) mf_Model_spanLow mi_Model_spanLow ms_Model_spanLow (sw_m7 116 (by decide +kernel)) rfl (by decide) (by decide +kernel) rfl (Nat.le_of_ble_eq_true rfl) (by omega) h3 (o_Model_spanLow g (d := d - 1) (by omega) hu4) ?_
      show sw_F _ _ _ _ _ _ 26 [(0, .ref a0), (1, .int a1), (2, .int a2), (3, .int a3)] [.int u4.1, .ref a0] u4.2
      obtain ⟨h5, hf⟩ := sw_gd_1 hf
      refine sf_blk [(.iload_n 3, 0, 0, .null), (.iload_n 1, 0, 0, .null), (.imul, 0, 0, .null), (.iadd, 0, 0, .null)] (lv' := [(0, .ref a0), (1, .int a1), (2, .int a2), (3, .int a3)]) (st' := [.int (u4.1 + (a3 * a1)), .ref a0]) (M1 := u4.2) (ob := []) (pc' := 30) (by decide +kernel) rfl rfl sw_a0 ?_
      obtain ⟨u6, hu6, hf⟩ := sw_bnd hf
      refine sf_callV (i := 459) (k2 := k_Model_spread) (d2 := d - 1) (As := [.int (u4.1 + (a3 * a1))]) (st := []) (q := a0) (ci := 12) mf_Model_spread mi_Model_spread ms_Model_spread (sw_m8 20 (by decide +kernel)) rfl (by decide) (by decide +kernel) rfl (Nat.le_of_ble_eq_true rfl) (by omega) h5 (o_Model_spread g (d := d - 1) (by omega) hu6) ?_
      show sw_F _ _ _ _ _ _ 33 [(0, .ref a0), (1, .int a1), (2, .int a2), (3, .int a3)] [] u6
      obtain ⟨h7, hf⟩ := sw_gd_1 hf
      refine sf_blk [(.aload_n 0, 0, 0, .null), (.iconst (1), 0, 0, .int (1 : Int32))] (lv' := [(0, .ref a0), (1, .int a1), (2, .int a2), (3, .int a3)]) (st' := [.int (1 : Int32), .ref a0]) (M1 := u6) (ob := []) (pc' := 35) (by decide +kernel) rfl rfl sw_a0 ?_
      obtain ⟨u8, hu8, hf⟩ := sw_bnd hf
      refine sf_callV (i := 497) (k2 := k_Model_toFit) (d2 := d - 1) (As := [.int (1 : Int32)]) (st := []) (q := a0) (ci := 12) mf_Model_toFit mi_Model_toFit ms_Model_toFit (sw_m8 52 (by decide +kernel)) rfl (by decide) (by decide +kernel) rfl (Nat.le_of_ble_eq_true rfl) (by omega) h7 (o_Model_toFit g (d := d - 1) (by omega) hu8) ?_
      show sw_F _ _ _ _ _ _ 38 [(0, .ref a0), (1, .int a1), (2, .int a2), (3, .int a3)] [.int u8.1] u8.2
      refine sf_z_ne (off := 6) (tgt := 44) (by decide +kernel) (by decide) hf (fun hc hf => ?_) (fun hc hf => ?_)
      · refine sf_blk [(.iload_n 2, 0, 0, .null), (.iconst (1), 0, 0, .int (1 : Int32)), (.iload_n 3, 0, 0, .null), (.ishl, 0, 0, .null), (.ior, 0, 0, .null), (.istore_n 2, 0, 0, .null), (.iconst (0), 0, 0, .int (0 : Int32)), (.istore 4, 0, 0, .null)] (lv' := [(4, .int (0 : Int32)), (2, .int (a2 ||| ((1 : Int32) <<< (a3 &&& 31)))), (0, .ref a0), (1, .int a1), (3, .int a3)]) (st' := []) (M1 := u8.2) (ob := []) (pc' := 53) (by decide +kernel) rfl rfl sw_a0 ?_
        exact sf_weak [2, 3, 1, 4, 0] rfl (t_Model_keptOf_53 hd _ ih _ _ _ _ _ _ _ hf)
      · refine sf_goto (off := 43) (tgt := 84) (by decide +kernel) (by decide) ?_
        exact sf_weak [0, 1, 2, 3] rfl (t_Model_keptOf_84 hd _ ih hf)
def f_Model_keptOf (N : Nat) (a0 : Nat) (a1 : Int32) (M : sw_M) : Option (Int32 × sw_M) :=
  sw_gd [sw_ok M a0 12] ((f_Model_knows N a0 (rd_I M a0 76) M).bind (fun u2 => f_Model_keptOf_12 N N a0 a1 (0 : Int32) (0 : Int32) u2))
set_option maxRecDepth 10000 in
theorem t_Model_keptOf {g : sw_G} {d n0 : Nat} (hd : 7 ≤ d) {r : Int32 × sw_M} {N : Nat} {a0 : Nat} {a1 : Int32} {M : sw_M} (hf : f_Model_keptOf N a0 a1 M = some r) : sw_F g k_Model_keptOf d n0 (some (.int r.1)) r.2 0 [(0, .ref a0), (1, .int a1)] [] M := by
  unfold f_Model_keptOf at hf
  obtain ⟨h1, hf⟩ := sw_gd_1 hf
  refine sf_blk [(.iconst (0), 0, 0, .int (0 : Int32)), (.istore_n 2, 0, 0, .null), (.aload_n 0, 0, 0, .null), (.aload_n 0, 0, 0, .null), (.getfield 462, 12, 76, .null)] (lv' := [(2, .int (0 : Int32)), (0, .ref a0), (1, .int a1)]) (st' := [.int (rd_I M a0 76), .ref a0]) (M1 := M) (ob := [sw_ok M a0 12]) (pc' := 7) (by decide +kernel) rfl rfl (sw_a1 h1 sw_a0) ?_
  obtain ⟨u2, hu2, hf⟩ := sw_bnd hf
  refine sf_callV (i := 494) (k2 := k_Model_knows) (d2 := d - 1) (As := [.int (rd_I M a0 76)]) (st := []) (q := a0) (ci := 12) mf_Model_knows mi_Model_knows ms_Model_knows (sw_m8 48 (by decide +kernel)) rfl (by decide) (by decide +kernel) rfl (Nat.le_of_ble_eq_true rfl) (by omega) h1 (o_Model_knows g (d := d - 1) (by omega) hu2) ?_
  show sw_F _ _ _ _ _ _ 10 [(2, .int (0 : Int32)), (0, .ref a0), (1, .int a1)] [] u2
  refine sf_blk [(.iconst (0), 0, 0, .int (0 : Int32)), (.istore_n 3, 0, 0, .null)] (lv' := [(3, .int (0 : Int32)), (2, .int (0 : Int32)), (0, .ref a0), (1, .int a1)]) (st' := []) (M1 := u2) (ob := []) (pc' := 12) (by decide +kernel) rfl rfl sw_a0 ?_
  exact sf_weak [2, 3, 1, 0] rfl (t_Model_keptOf_12 hd _ _ _ _ _ _ hf)
theorem o_Model_keptOf (g : sw_G) {d : Nat} (hd : 7 ≤ d) {N : Nat} {a0 : Nat} {a1 : Int32} {M : sw_M} {r : Int32 × sw_M} (hf : f_Model_keptOf N a0 a1 M = some r) : sw_Ok g k_Model_keptOf d [.ref a0, .int a1] M (some (.int r.1)) r.2 := sf_met (by decide +kernel) rfl (by decide) (Nat.le_of_ble_eq_true rfl) (t_Model_keptOf hd hf)
def f_Model_areTwins_59 (N : Nat) (k2 : Nat → Int32 → Int32 → Int32 → sw_M → Option (Int32 × sw_M)) (a0 : Nat) (a1 : Int32) (a2 : Int32) (a3 : Int32) (M : sw_M) : Option (Int32 × sw_M) :=
  k2 a0 a1 a2 (a3 + (1 : Int32)) M
set_option maxRecDepth 10000 in
theorem t_Model_areTwins_59 {g : sw_G} {d n0 : Nat} (hd : 1 ≤ d) {r : Int32 × sw_M} (k2 : Nat → Int32 → Int32 → Int32 → sw_M → Option (Int32 × sw_M)) (hk2 : ∀ (a0 : Nat) (a1 : Int32) (a2 : Int32) (a3 : Int32) (M : sw_M), k2 a0 a1 a2 a3 M = some r → sw_F g k_Model_areTwins d n0 (some (.int r.1)) r.2 2 [(0, .ref a0), (1, .int a1), (2, .int a2), (3, .int a3)] [] M) {N : Nat} {a0 : Nat} {a1 : Int32} {a2 : Int32} {a3 : Int32} {M : sw_M} (hf : f_Model_areTwins_59 N k2 a0 a1 a2 a3 M = some r) : sw_F g k_Model_areTwins d n0 (some (.int r.1)) r.2 59 [(0, .ref a0), (1, .int a1), (2, .int a2), (3, .int a3)] [] M := by
  unfold f_Model_areTwins_59 at hf
  refine sf_blk [(.iinc 3 (1), 0, 0, .int (1 : Int32))] (lv' := [(3, .int (a3 + (1 : Int32))), (0, .ref a0), (1, .int a1), (2, .int a2)]) (st' := []) (M1 := M) (ob := []) (pc' := 62) (by decide +kernel) rfl rfl sw_a0 ?_
  refine sf_goto (off := -60) (tgt := 2) (by decide +kernel) (by decide) ?_
  exact sf_weak [1, 2, 3, 0] rfl (hk2 _ _ _ _ _ hf)
def f_Model_areTwins_2 (N : Nat) : Nat → Nat → Int32 → Int32 → Int32 → sw_M → Option (Int32 × sw_M)
  | 0, _, _, _, _, _ => none
  | j + 1, a0, a1, a2, a3, M =>
  sw_gd [sw_ok M a0 12] (if (rd_I M a0 76) ≤ a3 then some ((1 : Int32), M)
  else sw_gd [sw_ar M (rd_R M a0 79) 13 a3] (if (((rd_I M a0 83) >>> (a3 &&& 31)) &&& (1 : Int32)) = (1 : Int32) then sw_gd [sw_ar M (rd_R M a0 88) 13 (((64 : Int32) * a1) + (rd_I M (rd_R M a0 79) a3.toNatClampNeg))] (sw_gd [sw_ar M (rd_R M a0 88) 13 (((64 : Int32) * a2) + (rd_I M (rd_R M a0 79) a3.toNatClampNeg))] (if (rd_I M (rd_R M a0 88) (((64 : Int32) * a1) + (rd_I M (rd_R M a0 79) a3.toNatClampNeg)).toNatClampNeg) = (rd_I M (rd_R M a0 88) (((64 : Int32) * a2) + (rd_I M (rd_R M a0 79) a3.toNatClampNeg)).toNatClampNeg) then f_Model_areTwins_59 N (f_Model_areTwins_2 N j) a0 a1 a2 a3 M
  else some ((0 : Int32), M)))
  else f_Model_areTwins_59 N (f_Model_areTwins_2 N j) a0 a1 a2 a3 M))
set_option maxRecDepth 10000 in
theorem t_Model_areTwins_2 {g : sw_G} {d n0 : Nat} (hd : 1 ≤ d) {r : Int32 × sw_M} {N : Nat} : ∀ (j : Nat) (a0 : Nat) (a1 : Int32) (a2 : Int32) (a3 : Int32) (M : sw_M), f_Model_areTwins_2 N j a0 a1 a2 a3 M = some r → sw_F g k_Model_areTwins d n0 (some (.int r.1)) r.2 2 [(0, .ref a0), (1, .int a1), (2, .int a2), (3, .int a3)] [] M := by
  intro j
  induction j with
  | zero =>
    intro a0 a1 a2 a3 M hf
    rw [f_Model_areTwins_2] at hf
    cases hf
  | succ j ih =>
    intro a0 a1 a2 a3 M hf
    rw [f_Model_areTwins_2] at hf
    obtain ⟨h1, hf⟩ := sw_gd_1 hf
    refine sf_blk [(.iload_n 3, 0, 0, .null), (.aload_n 0, 0, 0, .null), (.getfield 462, 12, 76, .null)] (lv' := [(0, .ref a0), (1, .int a1), (2, .int a2), (3, .int a3)]) (st' := [.int (rd_I M a0 76), .int a3]) (M1 := M) (ob := [sw_ok M a0 12]) (pc' := 7) (by decide +kernel) rfl rfl (sw_a1 h1 sw_a0) ?_
    refine sf_j_ge (off := 58) (tgt := 65) (by decide +kernel) (by decide) hf (fun hc hf => ?_) (fun hc hf => ?_)
    · refine sf_blk [(.iconst (1), 0, 0, .int (1 : Int32))] (lv' := [(0, .ref a0), (1, .int a1), (2, .int a2), (3, .int a3)]) (st' := [.int (1 : Int32)]) (M1 := M) (ob := []) (pc' := 66) (by decide +kernel) rfl rfl sw_a0 ?_
      cases hf
      exact sf_bool rfl rfl (by decide +kernel)
    · obtain ⟨h2, hf⟩ := sw_gd_1 hf
      refine sf_blk [(.aload_n 0, 0, 0, .null), (.getfield 136, 12, 79, .null), (.iload_n 3, 0, 0, .null), (.iaload, 0, 0, .null), (.istore 4, 0, 0, .null), (.aload_n 0, 0, 0, .null), (.getfield 465, 12, 83, .null), (.iload_n 3, 0, 0, .null), (.ishr, 0, 0, .null), (.iconst (1), 0, 0, .int (1 : Int32)), (.iand, 0, 0, .null), (.iconst (1), 0, 0, .int (1 : Int32))] (lv' := [(4, .int (rd_I M (rd_R M a0 79) a3.toNatClampNeg)), (0, .ref a0), (1, .int a1), (2, .int a2), (3, .int a3)]) (st' := [.int (1 : Int32), .int (((rd_I M a0 83) >>> (a3 &&& 31)) &&& (1 : Int32))]) (M1 := M) (ob := [sw_ok M a0 12, sw_ar M (rd_R M a0 79) 13 a3, sw_ok M a0 12]) (pc' := 27) (by decide +kernel) rfl rfl (sw_a1 h1 (sw_a1 h2 (sw_a1 h1 sw_a0))) ?_
      refine sf_j_ne (off := 32) (tgt := 59) (by decide +kernel) (by decide) hf (fun hc hf => ?_) (fun hc hf => ?_)
      · exact sf_weak [1, 2, 3, 4] rfl (t_Model_areTwins_59 hd _ ih hf)
      · obtain ⟨h3, hf⟩ := sw_gd_1 hf
        obtain ⟨h4, hf⟩ := sw_gd_1 hf
        refine sf_blk [(.aload_n 0, 0, 0, .null), (.getfield 157, 12, 88, .null), (.bipush (64), 0, 0, .int (64 : Int32)), (.iload_n 1, 0, 0, .null), (.imul, 0, 0, .null), (.iload 4, 0, 0, .null), (.iadd, 0, 0, .null), (.iaload, 0, 0, .null), (.aload_n 0, 0, 0, .null), (.getfield 157, 12, 88, .null), (.bipush (64), 0, 0, .int (64 : Int32)), (.iload_n 2, 0, 0, .null), (.imul, 0, 0, .null), (.iload 4, 0, 0, .null), (.iadd, 0, 0, .null), (.iaload, 0, 0, .null)] (lv' := [(4, .int (rd_I M (rd_R M a0 79) a3.toNatClampNeg)), (0, .ref a0), (1, .int a1), (2, .int a2), (3, .int a3)]) (st' := [.int (rd_I M (rd_R M a0 88) (((64 : Int32) * a2) + (rd_I M (rd_R M a0 79) a3.toNatClampNeg)).toNatClampNeg), .int (rd_I M (rd_R M a0 88) (((64 : Int32) * a1) + (rd_I M (rd_R M a0 79) a3.toNatClampNeg)).toNatClampNeg)]) (M1 := M) (ob := [sw_ok M a0 12, sw_ar M (rd_R M a0 88) 13 (((64 : Int32) * a1) + (rd_I M (rd_R M a0 79) a3.toNatClampNeg)), sw_ok M a0 12, sw_ar M (rd_R M a0 88) 13 (((64 : Int32) * a2) + (rd_I M (rd_R M a0 79) a3.toNatClampNeg))]) (pc' := 54) (by decide +kernel) rfl rfl (sw_a1 h1 (sw_a1 h3 (sw_a1 h1 (sw_a1 h4 sw_a0)))) ?_
        refine sf_j_eq (off := 5) (tgt := 59) (by decide +kernel) (by decide) hf (fun hc hf => ?_) (fun hc hf => ?_)
        · exact sf_weak [1, 2, 3, 4] rfl (t_Model_areTwins_59 hd _ ih hf)
        · refine sf_blk [(.iconst (0), 0, 0, .int (0 : Int32))] (lv' := [(4, .int (rd_I M (rd_R M a0 79) a3.toNatClampNeg)), (0, .ref a0), (1, .int a1), (2, .int a2), (3, .int a3)]) (st' := [.int (0 : Int32)]) (M1 := M) (ob := []) (pc' := 58) (by decide +kernel) rfl rfl sw_a0 ?_
          cases hf
          exact sf_bool rfl rfl (by decide +kernel)
def f_Model_areTwins (N : Nat) (a0 : Nat) (a1 : Int32) (a2 : Int32) (M : sw_M) : Option (Int32 × sw_M) :=
  f_Model_areTwins_2 N N a0 a1 a2 (0 : Int32) M
set_option maxRecDepth 10000 in
theorem t_Model_areTwins {g : sw_G} {d n0 : Nat} (hd : 1 ≤ d) {r : Int32 × sw_M} {N : Nat} {a0 : Nat} {a1 : Int32} {a2 : Int32} {M : sw_M} (hf : f_Model_areTwins N a0 a1 a2 M = some r) : sw_F g k_Model_areTwins d n0 (some (.int r.1)) r.2 0 [(0, .ref a0), (1, .int a1), (2, .int a2)] [] M := by
  unfold f_Model_areTwins at hf
  refine sf_blk [(.iconst (0), 0, 0, .int (0 : Int32)), (.istore_n 3, 0, 0, .null)] (lv' := [(3, .int (0 : Int32)), (0, .ref a0), (1, .int a1), (2, .int a2)]) (st' := []) (M1 := M) (ob := []) (pc' := 2) (by decide +kernel) rfl rfl sw_a0 ?_
  exact sf_weak [1, 2, 3, 0] rfl (t_Model_areTwins_2 hd _ _ _ _ _ _ hf)
theorem o_Model_areTwins (g : sw_G) {d : Nat} (hd : 1 ≤ d) {N : Nat} {a0 : Nat} {a1 : Int32} {a2 : Int32} {M : sw_M} {r : Int32 × sw_M} (hf : f_Model_areTwins N a0 a1 a2 M = some r) : sw_Ok g k_Model_areTwins d [.ref a0, .int a1, .int a2] M (some (.int r.1)) r.2 := sf_met (by decide +kernel) rfl (by decide) (Nat.le_of_ble_eq_true rfl) (t_Model_areTwins hd hf)
def f_Model_twinsOf_52 (N : Nat) (k2 : Nat → Int32 → Int32 → sw_M → Option (Int32 × sw_M)) (k12 : Nat → Int32 → Int32 → Int32 → sw_M → Option (Int32 × sw_M)) (a0 : Nat) (a1 : Int32) (a2 : Int32) (a3 : Int32) (M : sw_M) : Option (Int32 × sw_M) :=
  k12 a0 a1 a2 (a3 + (1 : Int32)) M
set_option maxRecDepth 10000 in
theorem t_Model_twinsOf_52 {g : sw_G} {d n0 : Nat} (hd : 2 ≤ d) {r : Int32 × sw_M} (k2 : Nat → Int32 → Int32 → sw_M → Option (Int32 × sw_M)) (hk2 : ∀ (a0 : Nat) (a1 : Int32) (a2 : Int32) (M : sw_M), k2 a0 a1 a2 M = some r → sw_F g k_Model_twinsOf d n0 (some (.int r.1)) r.2 2 [(0, .ref a0), (1, .int a1), (2, .int a2)] [] M) (k12 : Nat → Int32 → Int32 → Int32 → sw_M → Option (Int32 × sw_M)) (hk12 : ∀ (a0 : Nat) (a1 : Int32) (a2 : Int32) (a3 : Int32) (M : sw_M), k12 a0 a1 a2 a3 M = some r → sw_F g k_Model_twinsOf d n0 (some (.int r.1)) r.2 12 [(0, .ref a0), (1, .int a1), (2, .int a2), (3, .int a3)] [] M) {N : Nat} {a0 : Nat} {a1 : Int32} {a2 : Int32} {a3 : Int32} {M : sw_M} (hf : f_Model_twinsOf_52 N k2 k12 a0 a1 a2 a3 M = some r) : sw_F g k_Model_twinsOf d n0 (some (.int r.1)) r.2 52 [(0, .ref a0), (1, .int a1), (2, .int a2), (3, .int a3)] [] M := by
  unfold f_Model_twinsOf_52 at hf
  refine sf_blk [(.iinc 3 (1), 0, 0, .int (1 : Int32))] (lv' := [(3, .int (a3 + (1 : Int32))), (0, .ref a0), (1, .int a1), (2, .int a2)]) (st' := []) (M1 := M) (ob := []) (pc' := 55) (by decide +kernel) rfl rfl sw_a0 ?_
  refine sf_goto (off := -43) (tgt := 12) (by decide +kernel) (by decide) ?_
  exact sf_weak [1, 2, 3, 0] rfl (hk12 _ _ _ _ _ hf)
def f_Model_twinsOf_12 (N : Nat) (k2 : Nat → Int32 → Int32 → sw_M → Option (Int32 × sw_M)) : Nat → Nat → Int32 → Int32 → Int32 → sw_M → Option (Int32 × sw_M)
  | 0, _, _, _, _, _ => none
  | j + 1, a0, a1, a2, a3, M =>
  if (8 : Int32) ≤ a3 then k2 a0 a1 (a2 + (1 : Int32)) M
  else if ((a1 >>> (a2 &&& 31)) &&& (1 : Int32)) = (1 : Int32) then if ((a1 >>> (a3 &&& 31)) &&& (1 : Int32)) = (1 : Int32) then sw_gd [sw_ok M a0 12] ((f_Model_areTwins N a0 a2 a3 M).bind (fun u2 => if u2.1 = 0 then f_Model_twinsOf_52 N k2 (f_Model_twinsOf_12 N k2 j) a0 a1 a2 a3 u2.2
  else some ((((8 : Int32) * a2) + a3), u2.2)))
  else f_Model_twinsOf_52 N k2 (f_Model_twinsOf_12 N k2 j) a0 a1 a2 a3 M
  else f_Model_twinsOf_52 N k2 (f_Model_twinsOf_12 N k2 j) a0 a1 a2 a3 M
set_option maxRecDepth 10000 in
theorem t_Model_twinsOf_12 {g : sw_G} {d n0 : Nat} (hd : 2 ≤ d) {r : Int32 × sw_M} (k2 : Nat → Int32 → Int32 → sw_M → Option (Int32 × sw_M)) (hk2 : ∀ (a0 : Nat) (a1 : Int32) (a2 : Int32) (M : sw_M), k2 a0 a1 a2 M = some r → sw_F g k_Model_twinsOf d n0 (some (.int r.1)) r.2 2 [(0, .ref a0), (1, .int a1), (2, .int a2)] [] M) {N : Nat} : ∀ (j : Nat) (a0 : Nat) (a1 : Int32) (a2 : Int32) (a3 : Int32) (M : sw_M), f_Model_twinsOf_12 N k2 j a0 a1 a2 a3 M = some r → sw_F g k_Model_twinsOf d n0 (some (.int r.1)) r.2 12 [(0, .ref a0), (1, .int a1), (2, .int a2), (3, .int a3)] [] M := by
  intro j
  induction j with
  | zero =>
    intro a0 a1 a2 a3 M hf
    rw [f_Model_twinsOf_12] at hf
    cases hf
  | succ j ih =>
    intro a0 a1 a2 a3 M hf
    rw [f_Model_twinsOf_12] at hf
    refine sf_blk [(.iload_n 3, 0, 0, .null), (.bipush (8), 0, 0, .int (8 : Int32))] (lv' := [(0, .ref a0), (1, .int a1), (2, .int a2), (3, .int a3)]) (st' := [.int (8 : Int32), .int a3]) (M1 := M) (ob := []) (pc' := 15) (by decide +kernel) rfl rfl sw_a0 ?_
    refine sf_j_ge (off := 43) (tgt := 58) (by decide +kernel) (by decide) hf (fun hc hf => ?_) (fun hc hf => ?_)
    · refine sf_blk [(.iinc 2 (1), 0, 0, .int (1 : Int32))] (lv' := [(2, .int (a2 + (1 : Int32))), (0, .ref a0), (1, .int a1), (3, .int a3)]) (st' := []) (M1 := M) (ob := []) (pc' := 61) (by decide +kernel) rfl rfl sw_a0 ?_
      refine sf_goto (off := -59) (tgt := 2) (by decide +kernel) (by decide) ?_
      exact sf_weak [1, 2, 0] rfl (hk2 _ _ _ _ hf)
    · refine sf_blk [(.iload_n 1, 0, 0, .null), (.iload_n 2, 0, 0, .null), (.ishr, 0, 0, .null), (.iconst (1), 0, 0, .int (1 : Int32)), (.iand, 0, 0, .null), (.iconst (1), 0, 0, .int (1 : Int32))] (lv' := [(0, .ref a0), (1, .int a1), (2, .int a2), (3, .int a3)]) (st' := [.int (1 : Int32), .int ((a1 >>> (a2 &&& 31)) &&& (1 : Int32))]) (M1 := M) (ob := []) (pc' := 24) (by decide +kernel) rfl rfl sw_a0 ?_
      refine sf_j_ne (off := 28) (tgt := 52) (by decide +kernel) (by decide) hf (fun hc hf => ?_) (fun hc hf => ?_)
      · exact sf_weak [0, 1, 2, 3] rfl (t_Model_twinsOf_52 hd _ hk2 _ ih hf)
      · refine sf_blk [(.iload_n 1, 0, 0, .null), (.iload_n 3, 0, 0, .null), (.ishr, 0, 0, .null), (.iconst (1), 0, 0, .int (1 : Int32)), (.iand, 0, 0, .null), (.iconst (1), 0, 0, .int (1 : Int32))] (lv' := [(0, .ref a0), (1, .int a1), (2, .int a2), (3, .int a3)]) (st' := [.int (1 : Int32), .int ((a1 >>> (a3 &&& 31)) &&& (1 : Int32))]) (M1 := M) (ob := []) (pc' := 33) (by decide +kernel) rfl rfl sw_a0 ?_
        refine sf_j_ne (off := 19) (tgt := 52) (by decide +kernel) (by decide) hf (fun hc hf => ?_) (fun hc hf => ?_)
        · exact sf_weak [0, 1, 2, 3] rfl (t_Model_twinsOf_52 hd _ hk2 _ ih hf)
        · obtain ⟨h1, hf⟩ := sw_gd_1 hf
          refine sf_blk [(.aload_n 0, 0, 0, .null), (.iload_n 2, 0, 0, .null), (.iload_n 3, 0, 0, .null)] (lv' := [(0, .ref a0), (1, .int a1), (2, .int a2), (3, .int a3)]) (st' := [.int a3, .int a2, .ref a0]) (M1 := M) (ob := []) (pc' := 39) (by decide +kernel) rfl rfl sw_a0 ?_
          obtain ⟨u2, hu2, hf⟩ := sw_bnd hf
          refine sf_callV (i := 511) (k2 := k_Model_areTwins) (d2 := d - 1) (As := [.int a2, .int a3]) (st := []) (q := a0) (ci := 12) mf_Model_areTwins mi_Model_areTwins ms_Model_areTwins (sw_m8 114 (by decide +kernel)) rfl (by decide) (by decide +kernel) rfl (Nat.le_of_ble_eq_true rfl) (by omega) h1 (o_Model_areTwins g (d := d - 1) (by omega) hu2) ?_
          show sw_F _ _ _ _ _ _ 42 [(0, .ref a0), (1, .int a1), (2, .int a2), (3, .int a3)] [.int u2.1] u2.2
          refine sf_z_eq (off := 10) (tgt := 52) (by decide +kernel) (by decide) hf (fun hc hf => ?_) (fun hc hf => ?_)
          · exact sf_weak [0, 1, 2, 3] rfl (t_Model_twinsOf_52 hd _ hk2 _ ih hf)
          · refine sf_blk [(.bipush (8), 0, 0, .int (8 : Int32)), (.iload_n 2, 0, 0, .null), (.imul, 0, 0, .null), (.iload_n 3, 0, 0, .null), (.iadd, 0, 0, .null)] (lv' := [(0, .ref a0), (1, .int a1), (2, .int a2), (3, .int a3)]) (st' := [.int (((8 : Int32) * a2) + a3)]) (M1 := u2.2) (ob := []) (pc' := 51) (by decide +kernel) rfl rfl sw_a0 ?_
            cases hf
            exact sf_int rfl (by decide +kernel)
def f_Model_twinsOf_2 (N : Nat) : Nat → Nat → Int32 → Int32 → sw_M → Option (Int32 × sw_M)
  | 0, _, _, _, _ => none
  | j + 1, a0, a1, a2, M =>
  if (8 : Int32) ≤ a2 then some ((-1 : Int32), M)
  else f_Model_twinsOf_12 N (f_Model_twinsOf_2 N j) N a0 a1 a2 (a2 + (1 : Int32)) M
set_option maxRecDepth 10000 in
theorem t_Model_twinsOf_2 {g : sw_G} {d n0 : Nat} (hd : 2 ≤ d) {r : Int32 × sw_M} {N : Nat} : ∀ (j : Nat) (a0 : Nat) (a1 : Int32) (a2 : Int32) (M : sw_M), f_Model_twinsOf_2 N j a0 a1 a2 M = some r → sw_F g k_Model_twinsOf d n0 (some (.int r.1)) r.2 2 [(0, .ref a0), (1, .int a1), (2, .int a2)] [] M := by
  intro j
  induction j with
  | zero =>
    intro a0 a1 a2 M hf
    rw [f_Model_twinsOf_2] at hf
    cases hf
  | succ j ih =>
    intro a0 a1 a2 M hf
    rw [f_Model_twinsOf_2] at hf
    refine sf_blk [(.iload_n 2, 0, 0, .null), (.bipush (8), 0, 0, .int (8 : Int32))] (lv' := [(0, .ref a0), (1, .int a1), (2, .int a2)]) (st' := [.int (8 : Int32), .int a2]) (M1 := M) (ob := []) (pc' := 5) (by decide +kernel) rfl rfl sw_a0 ?_
    refine sf_j_ge (off := 59) (tgt := 64) (by decide +kernel) (by decide) hf (fun hc hf => ?_) (fun hc hf => ?_)
    · refine sf_blk [(.iconst (-1), 0, 0, .int (-1 : Int32))] (lv' := [(0, .ref a0), (1, .int a1), (2, .int a2)]) (st' := [.int (-1 : Int32)]) (M1 := M) (ob := []) (pc' := 65) (by decide +kernel) rfl rfl sw_a0 ?_
      cases hf
      exact sf_int rfl (by decide +kernel)
    · refine sf_blk [(.iload_n 2, 0, 0, .null), (.iconst (1), 0, 0, .int (1 : Int32)), (.iadd, 0, 0, .null), (.istore_n 3, 0, 0, .null)] (lv' := [(3, .int (a2 + (1 : Int32))), (0, .ref a0), (1, .int a1), (2, .int a2)]) (st' := []) (M1 := M) (ob := []) (pc' := 12) (by decide +kernel) rfl rfl sw_a0 ?_
      exact sf_weak [1, 2, 3, 0] rfl (t_Model_twinsOf_12 hd _ ih _ _ _ _ _ _ hf)
def f_Model_twinsOf (N : Nat) (a0 : Nat) (a1 : Int32) (M : sw_M) : Option (Int32 × sw_M) :=
  f_Model_twinsOf_2 N N a0 a1 (0 : Int32) M
set_option maxRecDepth 10000 in
theorem t_Model_twinsOf {g : sw_G} {d n0 : Nat} (hd : 2 ≤ d) {r : Int32 × sw_M} {N : Nat} {a0 : Nat} {a1 : Int32} {M : sw_M} (hf : f_Model_twinsOf N a0 a1 M = some r) : sw_F g k_Model_twinsOf d n0 (some (.int r.1)) r.2 0 [(0, .ref a0), (1, .int a1)] [] M := by
  unfold f_Model_twinsOf at hf
  refine sf_blk [(.iconst (0), 0, 0, .int (0 : Int32)), (.istore_n 2, 0, 0, .null)] (lv' := [(2, .int (0 : Int32)), (0, .ref a0), (1, .int a1)]) (st' := []) (M1 := M) (ob := []) (pc' := 2) (by decide +kernel) rfl rfl sw_a0 ?_
  exact sf_weak [1, 2, 0] rfl (t_Model_twinsOf_2 hd _ _ _ _ _ hf)
theorem o_Model_twinsOf (g : sw_G) {d : Nat} (hd : 2 ≤ d) {N : Nat} {a0 : Nat} {a1 : Int32} {M : sw_M} {r : Int32 × sw_M} (hf : f_Model_twinsOf N a0 a1 M = some r) : sw_Ok g k_Model_twinsOf d [.ref a0, .int a1] M (some (.int r.1)) r.2 := sf_met (by decide +kernel) rfl (by decide) (Nat.le_of_ble_eq_true rfl) (t_Model_twinsOf hd hf)
def f_Model_lookOf_157 (N : Nat) (k17 : Nat → Int32 → Int32 → Int32 → Int32 → sw_M → Option (Int32 × sw_M)) (a0 : Nat) (a1 : Int32) (a2 : Int32) (a3 : Int32) (a4 : Int32) (M : sw_M) : Option (Int32 × sw_M) :=
  k17 a0 a1 a2 a3 (a4 + (1 : Int32)) M
set_option maxRecDepth 10000 in
theorem t_Model_lookOf_157 {g : sw_G} {d n0 : Nat} (hd : 2 ≤ d) {r : Int32 × sw_M} (k17 : Nat → Int32 → Int32 → Int32 → Int32 → sw_M → Option (Int32 × sw_M)) (hk17 : ∀ (a0 : Nat) (a1 : Int32) (a2 : Int32) (a3 : Int32) (a4 : Int32) (M : sw_M), k17 a0 a1 a2 a3 a4 M = some r → sw_F g k_Model_lookOf d n0 (some (.int r.1)) r.2 17 [(0, .ref a0), (1, .int a1), (2, .int a2), (3, .int a3), (4, .int a4)] [] M) {N : Nat} {a0 : Nat} {a1 : Int32} {a2 : Int32} {a3 : Int32} {a4 : Int32} {M : sw_M} (hf : f_Model_lookOf_157 N k17 a0 a1 a2 a3 a4 M = some r) : sw_F g k_Model_lookOf d n0 (some (.int r.1)) r.2 157 [(0, .ref a0), (1, .int a1), (2, .int a2), (3, .int a3), (4, .int a4)] [] M := by
  unfold f_Model_lookOf_157 at hf
  refine sf_blk [(.iinc 4 (1), 0, 0, .int (1 : Int32))] (lv' := [(4, .int (a4 + (1 : Int32))), (0, .ref a0), (1, .int a1), (2, .int a2), (3, .int a3)]) (st' := []) (M1 := M) (ob := []) (pc' := 160) (by decide +kernel) rfl rfl sw_a0 ?_
  refine sf_goto (off := -143) (tgt := 17) (by decide +kernel) (by decide) ?_
  exact sf_weak [1, 2, 3, 4, 0] rfl (hk17 _ _ _ _ _ _ hf)
def f_Model_lookOf_151 (N : Nat) (k17 : Nat → Int32 → Int32 → Int32 → Int32 → sw_M → Option (Int32 × sw_M)) (a0 : Nat) (a1 : Int32) (a4 : Int32) (a5 : Int32) (M : sw_M) : Option (Int32 × sw_M) :=
  f_Model_lookOf_157 N k17 a0 a1 a4 a5 a4 M
set_option maxRecDepth 10000 in
theorem t_Model_lookOf_151 {g : sw_G} {d n0 : Nat} (hd : 2 ≤ d) {r : Int32 × sw_M} (k17 : Nat → Int32 → Int32 → Int32 → Int32 → sw_M → Option (Int32 × sw_M)) (hk17 : ∀ (a0 : Nat) (a1 : Int32) (a2 : Int32) (a3 : Int32) (a4 : Int32) (M : sw_M), k17 a0 a1 a2 a3 a4 M = some r → sw_F g k_Model_lookOf d n0 (some (.int r.1)) r.2 17 [(0, .ref a0), (1, .int a1), (2, .int a2), (3, .int a3), (4, .int a4)] [] M) {N : Nat} {a0 : Nat} {a1 : Int32} {a4 : Int32} {a5 : Int32} {M : sw_M} (hf : f_Model_lookOf_151 N k17 a0 a1 a4 a5 M = some r) : sw_F g k_Model_lookOf d n0 (some (.int r.1)) r.2 151 [(0, .ref a0), (1, .int a1), (4, .int a4), (5, .int a5)] [] M := by
  unfold f_Model_lookOf_151 at hf
  refine sf_blk [(.iload 4, 0, 0, .null), (.istore_n 2, 0, 0, .null), (.iload 5, 0, 0, .null), (.istore_n 3, 0, 0, .null)] (lv' := [(3, .int a5), (2, .int a4), (0, .ref a0), (1, .int a1), (4, .int a4), (5, .int a5)]) (st' := []) (M1 := M) (ob := []) (pc' := 157) (by decide +kernel) rfl rfl sw_a0 ?_
  exact sf_weak [2, 3, 1, 0, 4] rfl (t_Model_lookOf_157 hd _ hk17 hf)
def f_Model_lookOf_113 (N : Nat) (k17 : Nat → Int32 → Int32 → Int32 → Int32 → sw_M → Option (Int32 × sw_M)) (k37 : Nat → Int32 → Int32 → Int32 → Int32 → Int32 → Int32 → sw_M → Option (Int32 × sw_M)) (k50 : Nat → Int32 → Int32 → Int32 → Int32 → Int32 → Int32 → Int32 → Int32 → sw_M → Option (Int32 × sw_M)) (a0 : Nat) (a1 : Int32) (a2 : Int32) (a3 : Int32) (a4 : Int32) (a5 : Int32) (a6 : Int32) (a8 : Int32) (b0 : Int32) (b1 : Int32) (M : sw_M) : Option (Int32 × sw_M) :=
  k50 a0 a1 a2 a3 a4 a5 a6 (b1 + b0) (a8 + (1 : Int32)) M
set_option maxRecDepth 10000 in
theorem t_Model_lookOf_113 {g : sw_G} {d n0 : Nat} (hd : 2 ≤ d) {r : Int32 × sw_M} (k17 : Nat → Int32 → Int32 → Int32 → Int32 → sw_M → Option (Int32 × sw_M)) (hk17 : ∀ (a0 : Nat) (a1 : Int32) (a2 : Int32) (a3 : Int32) (a4 : Int32) (M : sw_M), k17 a0 a1 a2 a3 a4 M = some r → sw_F g k_Model_lookOf d n0 (some (.int r.1)) r.2 17 [(0, .ref a0), (1, .int a1), (2, .int a2), (3, .int a3), (4, .int a4)] [] M) (k37 : Nat → Int32 → Int32 → Int32 → Int32 → Int32 → Int32 → sw_M → Option (Int32 × sw_M)) (hk37 : ∀ (a0 : Nat) (a1 : Int32) (a2 : Int32) (a3 : Int32) (a4 : Int32) (a5 : Int32) (a6 : Int32) (M : sw_M), k37 a0 a1 a2 a3 a4 a5 a6 M = some r → sw_F g k_Model_lookOf d n0 (some (.int r.1)) r.2 37 [(0, .ref a0), (1, .int a1), (2, .int a2), (3, .int a3), (4, .int a4), (5, .int a5), (6, .int a6)] [] M) (k50 : Nat → Int32 → Int32 → Int32 → Int32 → Int32 → Int32 → Int32 → Int32 → sw_M → Option (Int32 × sw_M)) (hk50 : ∀ (a0 : Nat) (a1 : Int32) (a2 : Int32) (a3 : Int32) (a4 : Int32) (a5 : Int32) (a6 : Int32) (a7 : Int32) (a8 : Int32) (M : sw_M), k50 a0 a1 a2 a3 a4 a5 a6 a7 a8 M = some r → sw_F g k_Model_lookOf d n0 (some (.int r.1)) r.2 50 [(0, .ref a0), (1, .int a1), (2, .int a2), (3, .int a3), (4, .int a4), (5, .int a5), (6, .int a6), (7, .int a7), (8, .int a8)] [] M) {N : Nat} {a0 : Nat} {a1 : Int32} {a2 : Int32} {a3 : Int32} {a4 : Int32} {a5 : Int32} {a6 : Int32} {a8 : Int32} {b0 : Int32} {b1 : Int32} {M : sw_M} (hf : f_Model_lookOf_113 N k17 k37 k50 a0 a1 a2 a3 a4 a5 a6 a8 b0 b1 M = some r) : sw_F g k_Model_lookOf d n0 (some (.int r.1)) r.2 113 [(0, .ref a0), (1, .int a1), (2, .int a2), (3, .int a3), (4, .int a4), (5, .int a5), (6, .int a6), (8, .int a8)] [.int b0, .int b1] M := by
  unfold f_Model_lookOf_113 at hf
  refine sf_blk [(.iadd, 0, 0, .null), (.istore 7, 0, 0, .null), (.iinc 8 (1), 0, 0, .int (1 : Int32))] (lv' := [(8, .int (a8 + (1 : Int32))), (7, .int (b1 + b0)), (0, .ref a0), (1, .int a1), (2, .int a2), (3, .int a3), (4, .int a4), (5, .int a5), (6, .int a6)]) (st' := []) (M1 := M) (ob := []) (pc' := 119) (by decide +kernel) rfl rfl sw_a0 ?_
  refine sf_goto (off := -69) (tgt := 50) (by decide +kernel) (by decide) ?_
  exact sf_weak [2, 3, 4, 5, 6, 7, 8, 1, 0] rfl (hk50 _ _ _ _ _ _ _ _ _ _ hf)
def f_Model_lookOf_112 (N : Nat) (k17 : Nat → Int32 → Int32 → Int32 → Int32 → sw_M → Option (Int32 × sw_M)) (k37 : Nat → Int32 → Int32 → Int32 → Int32 → Int32 → Int32 → sw_M → Option (Int32 × sw_M)) (k50 : Nat → Int32 → Int32 → Int32 → Int32 → Int32 → Int32 → Int32 → Int32 → sw_M → Option (Int32 × sw_M)) (a0 : Nat) (a1 : Int32) (a2 : Int32) (a3 : Int32) (a4 : Int32) (a5 : Int32) (a6 : Int32) (a8 : Int32) (b0 : Int32) (M : sw_M) : Option (Int32 × sw_M) :=
  f_Model_lookOf_113 N k17 k37 k50 a0 a1 a2 a3 a4 a5 a6 a8 (0 : Int32) b0 M
set_option maxRecDepth 10000 in
theorem t_Model_lookOf_112 {g : sw_G} {d n0 : Nat} (hd : 2 ≤ d) {r : Int32 × sw_M} (k17 : Nat → Int32 → Int32 → Int32 → Int32 → sw_M → Option (Int32 × sw_M)) (hk17 : ∀ (a0 : Nat) (a1 : Int32) (a2 : Int32) (a3 : Int32) (a4 : Int32) (M : sw_M), k17 a0 a1 a2 a3 a4 M = some r → sw_F g k_Model_lookOf d n0 (some (.int r.1)) r.2 17 [(0, .ref a0), (1, .int a1), (2, .int a2), (3, .int a3), (4, .int a4)] [] M) (k37 : Nat → Int32 → Int32 → Int32 → Int32 → Int32 → Int32 → sw_M → Option (Int32 × sw_M)) (hk37 : ∀ (a0 : Nat) (a1 : Int32) (a2 : Int32) (a3 : Int32) (a4 : Int32) (a5 : Int32) (a6 : Int32) (M : sw_M), k37 a0 a1 a2 a3 a4 a5 a6 M = some r → sw_F g k_Model_lookOf d n0 (some (.int r.1)) r.2 37 [(0, .ref a0), (1, .int a1), (2, .int a2), (3, .int a3), (4, .int a4), (5, .int a5), (6, .int a6)] [] M) (k50 : Nat → Int32 → Int32 → Int32 → Int32 → Int32 → Int32 → Int32 → Int32 → sw_M → Option (Int32 × sw_M)) (hk50 : ∀ (a0 : Nat) (a1 : Int32) (a2 : Int32) (a3 : Int32) (a4 : Int32) (a5 : Int32) (a6 : Int32) (a7 : Int32) (a8 : Int32) (M : sw_M), k50 a0 a1 a2 a3 a4 a5 a6 a7 a8 M = some r → sw_F g k_Model_lookOf d n0 (some (.int r.1)) r.2 50 [(0, .ref a0), (1, .int a1), (2, .int a2), (3, .int a3), (4, .int a4), (5, .int a5), (6, .int a6), (7, .int a7), (8, .int a8)] [] M) {N : Nat} {a0 : Nat} {a1 : Int32} {a2 : Int32} {a3 : Int32} {a4 : Int32} {a5 : Int32} {a6 : Int32} {a8 : Int32} {b0 : Int32} {M : sw_M} (hf : f_Model_lookOf_112 N k17 k37 k50 a0 a1 a2 a3 a4 a5 a6 a8 b0 M = some r) : sw_F g k_Model_lookOf d n0 (some (.int r.1)) r.2 112 [(0, .ref a0), (1, .int a1), (2, .int a2), (3, .int a3), (4, .int a4), (5, .int a5), (6, .int a6), (8, .int a8)] [.int b0] M := by
  unfold f_Model_lookOf_112 at hf
  refine sf_blk [(.iconst (0), 0, 0, .int (0 : Int32))] (lv' := [(0, .ref a0), (1, .int a1), (2, .int a2), (3, .int a3), (4, .int a4), (5, .int a5), (6, .int a6), (8, .int a8)]) (st' := [.int (0 : Int32), .int b0]) (M1 := M) (ob := []) (pc' := 113) (by decide +kernel) rfl rfl sw_a0 ?_
  exact sf_weak [0, 1, 2, 3, 4, 5, 6, 7] rfl (t_Model_lookOf_113 hd _ hk17 _ hk37 _ hk50 hf)
def f_Model_lookOf_50 (N : Nat) (k17 : Nat → Int32 → Int32 → Int32 → Int32 → sw_M → Option (Int32 × sw_M)) (k37 : Nat → Int32 → Int32 → Int32 → Int32 → Int32 → Int32 → sw_M → Option (Int32 × sw_M)) : Nat → Nat → Int32 → Int32 → Int32 → Int32 → Int32 → Int32 → Int32 → Int32 → sw_M → Option (Int32 × sw_M)
  | 0, _, _, _, _, _, _, _, _, _, _ => none
  | j + 1, a0, a1, a2, a3, a4, a5, a6, a7, a8, M =>
  if (8 : Int32) ≤ a8 then k37 a0 a1 a2 a3 a4 (m_maxI a5 a7) (a6 + (1 : Int32)) M
  else if ((a1 >>> (a6 &&& 31)) &&& (1 : Int32)) = (1 : Int32) then if ((a1 >>> (a8 &&& 31)) &&& (1 : Int32)) = (1 : Int32) then sw_gd [sw_ok M a0 12] (sw_gd [sw_ar M (rd_R M a0 88) 13 (((64 : Int32) * a6) + a4)] (sw_gd [sw_ar M (rd_R M a0 88) 13 (((64 : Int32) * a8) + a4)] (if (rd_I M (rd_R M a0 88) (((64 : Int32) * a6) + a4).toNatClampNeg) = (rd_I M (rd_R M a0 88) (((64 : Int32) * a8) + a4).toNatClampNeg) then f_Model_lookOf_113 N k17 k37 (f_Model_lookOf_50 N k17 k37 j) a0 a1 a2 a3 a4 a5 a6 a8 (1 : Int32) a7 M
  else f_Model_lookOf_112 N k17 k37 (f_Model_lookOf_50 N k17 k37 j) a0 a1 a2 a3 a4 a5 a6 a8 a7 M)))
  else f_Model_lookOf_112 N k17 k37 (f_Model_lookOf_50 N k17 k37 j) a0 a1 a2 a3 a4 a5 a6 a8 a7 M
  else f_Model_lookOf_112 N k17 k37 (f_Model_lookOf_50 N k17 k37 j) a0 a1 a2 a3 a4 a5 a6 a8 a7 M
set_option maxRecDepth 10000 in
theorem t_Model_lookOf_50 {g : sw_G} {d n0 : Nat} (hd : 2 ≤ d) {r : Int32 × sw_M} (k17 : Nat → Int32 → Int32 → Int32 → Int32 → sw_M → Option (Int32 × sw_M)) (hk17 : ∀ (a0 : Nat) (a1 : Int32) (a2 : Int32) (a3 : Int32) (a4 : Int32) (M : sw_M), k17 a0 a1 a2 a3 a4 M = some r → sw_F g k_Model_lookOf d n0 (some (.int r.1)) r.2 17 [(0, .ref a0), (1, .int a1), (2, .int a2), (3, .int a3), (4, .int a4)] [] M) (k37 : Nat → Int32 → Int32 → Int32 → Int32 → Int32 → Int32 → sw_M → Option (Int32 × sw_M)) (hk37 : ∀ (a0 : Nat) (a1 : Int32) (a2 : Int32) (a3 : Int32) (a4 : Int32) (a5 : Int32) (a6 : Int32) (M : sw_M), k37 a0 a1 a2 a3 a4 a5 a6 M = some r → sw_F g k_Model_lookOf d n0 (some (.int r.1)) r.2 37 [(0, .ref a0), (1, .int a1), (2, .int a2), (3, .int a3), (4, .int a4), (5, .int a5), (6, .int a6)] [] M) {N : Nat} : ∀ (j : Nat) (a0 : Nat) (a1 : Int32) (a2 : Int32) (a3 : Int32) (a4 : Int32) (a5 : Int32) (a6 : Int32) (a7 : Int32) (a8 : Int32) (M : sw_M), f_Model_lookOf_50 N k17 k37 j a0 a1 a2 a3 a4 a5 a6 a7 a8 M = some r → sw_F g k_Model_lookOf d n0 (some (.int r.1)) r.2 50 [(0, .ref a0), (1, .int a1), (2, .int a2), (3, .int a3), (4, .int a4), (5, .int a5), (6, .int a6), (7, .int a7), (8, .int a8)] [] M := by
  intro j
  induction j with
  | zero =>
    intro a0 a1 a2 a3 a4 a5 a6 a7 a8 M hf
    rw [f_Model_lookOf_50] at hf
    cases hf
  | succ j ih =>
    intro a0 a1 a2 a3 a4 a5 a6 a7 a8 M hf
    rw [f_Model_lookOf_50] at hf
    refine sf_blk [(.iload 8, 0, 0, .null), (.bipush (8), 0, 0, .int (8 : Int32))] (lv' := [(0, .ref a0), (1, .int a1), (2, .int a2), (3, .int a3), (4, .int a4), (5, .int a5), (6, .int a6), (7, .int a7), (8, .int a8)]) (st' := [.int (8 : Int32), .int a8]) (M1 := M) (ob := []) (pc' := 54) (by decide +kernel) rfl rfl sw_a0 ?_
    refine sf_j_ge (off := 68) (tgt := 122) (by decide +kernel) (by decide) hf (fun hc hf => ?_) (fun hc hf => ?_)
    · refine sf_blk [(.iload 5, 0, 0, .null), (.iload 7, 0, 0, .null)] (lv' := [(0, .ref a0), (1, .int a1), (2, .int a2), (3, .int a3), (4, .int a4), (5, .int a5), (6, .int a6), (7, .int a7), (8, .int a8)]) (st' := [.int a7, .int a5]) (M1 := M) (ob := []) (pc' := 126) (by decide +kernel) rfl rfl sw_a0 ?_
      refine sf_maxI (i := 501) (st := []) (sw_m8 89 (by decide +kernel)) (by decide +kernel) (by omega) (Nat.le_of_ble_eq_true rfl) ?_
      show sw_F _ _ _ _ _ _ 129 [(0, .ref a0), (1, .int a1), (2, .int a2), (3, .int a3), (4, .int a4), (5, .int a5), (6, .int a6), (7, .int a7), (8, .int a8)] [.int (m_maxI a5 a7)] M
      refine sf_blk [(.istore 5, 0, 0, .null), (.iinc 6 (1), 0, 0, .int (1 : Int32))] (lv' := [(6, .int (a6 + (1 : Int32))), (5, .int (m_maxI a5 a7)), (0, .ref a0), (1, .int a1), (2, .int a2), (3, .int a3), (4, .int a4), (7, .int a7), (8, .int a8)]) (st' := []) (M1 := M) (ob := []) (pc' := 134) (by decide +kernel) rfl rfl sw_a0 ?_
      refine sf_goto (off := -97) (tgt := 37) (by decide +kernel) (by decide) ?_
      exact sf_weak [2, 3, 4, 5, 6, 1, 0] rfl (hk37 _ _ _ _ _ _ _ _ hf)
    · refine sf_blk [(.iload 7, 0, 0, .null), (.iload_n 1, 0, 0, .null), (.iload 6, 0, 0, .null), (.ishr, 0, 0, .null), (.iconst (1), 0, 0, .int (1 : Int32)), (.iand, 0, 0, .null), (.iconst (1), 0, 0, .int (1 : Int32))] (lv' := [(0, .ref a0), (1, .int a1), (2, .int a2), (3, .int a3), (4, .int a4), (5, .int a5), (6, .int a6), (7, .int a7), (8, .int a8)]) (st' := [.int (1 : Int32), .int ((a1 >>> (a6 &&& 31)) &&& (1 : Int32)), .int a7]) (M1 := M) (ob := []) (pc' := 66) (by decide +kernel) rfl rfl sw_a0 ?_
      refine sf_j_ne (off := 46) (tgt := 112) (by decide +kernel) (by decide) hf (fun hc hf => ?_) (fun hc hf => ?_)
      · exact sf_weak [0, 1, 2, 3, 4, 5, 6, 8] rfl (t_Model_lookOf_112 hd _ hk17 _ hk37 _ ih hf)
      · refine sf_blk [(.iload_n 1, 0, 0, .null), (.iload 8, 0, 0, .null), (.ishr, 0, 0, .null), (.iconst (1), 0, 0, .int (1 : Int32)), (.iand, 0, 0, .null), (.iconst (1), 0, 0, .int (1 : Int32))] (lv' := [(0, .ref a0), (1, .int a1), (2, .int a2), (3, .int a3), (4, .int a4), (5, .int a5), (6, .int a6), (7, .int a7), (8, .int a8)]) (st' := [.int (1 : Int32), .int ((a1 >>> (a8 &&& 31)) &&& (1 : Int32)), .int a7]) (M1 := M) (ob := []) (pc' := 76) (by decide +kernel) rfl rfl sw_a0 ?_
        refine sf_j_ne (off := 36) (tgt := 112) (by decide +kernel) (by decide) hf (fun hc hf => ?_) (fun hc hf => ?_)
        · exact sf_weak [0, 1, 2, 3, 4, 5, 6, 8] rfl (t_Model_lookOf_112 hd _ hk17 _ hk37 _ ih hf)
        · obtain ⟨h1, hf⟩ := sw_gd_1 hf
          obtain ⟨h2, hf⟩ := sw_gd_1 hf
          obtain ⟨h3, hf⟩ := sw_gd_1 hf
          refine sf_blk [(.aload_n 0, 0, 0, .null), (.getfield 157, 12, 88, .null), (.bipush (64), 0, 0, .int (64 : Int32)), (.iload 6, 0, 0, .null), (.imul, 0, 0, .null), (.iload 4, 0, 0, .null), (.iadd, 0, 0, .null), (.iaload, 0, 0, .null), (.aload_n 0, 0, 0, .null), (.getfield 157, 12, 88, .null), (.bipush (64), 0, 0, .int (64 : Int32)), (.iload 8, 0, 0, .null), (.imul, 0, 0, .null), (.iload 4, 0, 0, .null), (.iadd, 0, 0, .null), (.iaload, 0, 0, .null)] (lv' := [(0, .ref a0), (1, .int a1), (2, .int a2), (3, .int a3), (4, .int a4), (5, .int a5), (6, .int a6), (7, .int a7), (8, .int a8)]) (st' := [.int (rd_I M (rd_R M a0 88) (((64 : Int32) * a8) + a4).toNatClampNeg), .int (rd_I M (rd_R M a0 88) (((64 : Int32) * a6) + a4).toNatClampNeg), .int a7]) (M1 := M) (ob := [sw_ok M a0 12, sw_ar M (rd_R M a0 88) 13 (((64 : Int32) * a6) + a4), sw_ok M a0 12, sw_ar M (rd_R M a0 88) 13 (((64 : Int32) * a8) + a4)]) (pc' := 105) (by decide +kernel) rfl rfl (sw_a1 h1 (sw_a1 h2 (sw_a1 h1 (sw_a1 h3 sw_a0)))) ?_
          refine sf_j_ne (off := 7) (tgt := 112) (by decide +kernel) (by decide) hf (fun hc hf => ?_) (fun hc hf => ?_)
          · exact sf_weak [0, 1, 2, 3, 4, 5, 6, 8] rfl (t_Model_lookOf_112 hd _ hk17 _ hk37 _ ih hf)
          · refine sf_blk [(.iconst (1), 0, 0, .int (1 : Int32))] (lv' := [(0, .ref a0), (1, .int a1), (2, .int a2), (3, .int a3), (4, .int a4), (5, .int a5), (6, .int a6), (7, .int a7), (8, .int a8)]) (st' := [.int (1 : Int32), .int a7]) (M1 := M) (ob := []) (pc' := 109) (by decide +kernel) rfl rfl sw_a0 ?_
            refine sf_goto (off := 4) (tgt := 113) (by decide +kernel) (by decide) ?_
            exact sf_weak [0, 1, 2, 3, 4, 5, 6, 8] rfl (t_Model_lookOf_113 hd _ hk17 _ hk37 _ ih hf)
def f_Model_lookOf_37 (N : Nat) (k17 : Nat → Int32 → Int32 → Int32 → Int32 → sw_M → Option (Int32 × sw_M)) : Nat → Nat → Int32 → Int32 → Int32 → Int32 → Int32 → Int32 → sw_M → Option (Int32 × sw_M)
  | 0, _, _, _, _, _, _, _, _ => none
  | j + 1, a0, a1, a2, a3, a4, a5, a6, M =>
  if (8 : Int32) ≤ a6 then if a2 = (-1 : Int32) then f_Model_lookOf_151 N k17 a0 a1 a4 a5 M
  else if a5 < a3 then f_Model_lookOf_151 N k17 a0 a1 a4 a5 M
  else f_Model_lookOf_157 N k17 a0 a1 a2 a3 a4 M
  else f_Model_lookOf_50 N k17 (f_Model_lookOf_37 N k17 j) N a0 a1 a2 a3 a4 a5 a6 (0 : Int32) (0 : Int32) M
set_option maxRecDepth 10000 in
theorem t_Model_lookOf_37 {g : sw_G} {d n0 : Nat} (hd : 2 ≤ d) {r : Int32 × sw_M} (k17 : Nat → Int32 → Int32 → Int32 → Int32 → sw_M → Option (Int32 × sw_M)) (hk17 : ∀ (a0 : Nat) (a1 : Int32) (a2 : Int32) (a3 : Int32) (a4 : Int32) (M : sw_M), k17 a0 a1 a2 a3 a4 M = some r → sw_F g k_Model_lookOf d n0 (some (.int r.1)) r.2 17 [(0, .ref a0), (1, .int a1), (2, .int a2), (3, .int a3), (4, .int a4)] [] M) {N : Nat} : ∀ (j : Nat) (a0 : Nat) (a1 : Int32) (a2 : Int32) (a3 : Int32) (a4 : Int32) (a5 : Int32) (a6 : Int32) (M : sw_M), f_Model_lookOf_37 N k17 j a0 a1 a2 a3 a4 a5 a6 M = some r → sw_F g k_Model_lookOf d n0 (some (.int r.1)) r.2 37 [(0, .ref a0), (1, .int a1), (2, .int a2), (3, .int a3), (4, .int a4), (5, .int a5), (6, .int a6)] [] M := by
  intro j
  induction j with
  | zero =>
    intro a0 a1 a2 a3 a4 a5 a6 M hf
    rw [f_Model_lookOf_37] at hf
    cases hf
  | succ j ih =>
    intro a0 a1 a2 a3 a4 a5 a6 M hf
    rw [f_Model_lookOf_37] at hf
    refine sf_blk [(.iload 6, 0, 0, .null), (.bipush (8), 0, 0, .int (8 : Int32))] (lv' := [(0, .ref a0), (1, .int a1), (2, .int a2), (3, .int a3), (4, .int a4), (5, .int a5), (6, .int a6)]) (st' := [.int (8 : Int32), .int a6]) (M1 := M) (ob := []) (pc' := 41) (by decide +kernel) rfl rfl sw_a0 ?_
    refine sf_j_ge (off := 96) (tgt := 137) (by decide +kernel) (by decide) hf (fun hc hf => ?_) (fun hc hf => ?_)
    · refine sf_blk [(.iload_n 2, 0, 0, .null), (.iconst (-1), 0, 0, .int (-1 : Int32))] (lv' := [(0, .ref a0), (1, .int a1), (2, .int a2), (3, .int a3), (4, .int a4), (5, .int a5), (6, .int a6)]) (st' := [.int (-1 : Int32), .int a2]) (M1 := M) (ob := []) (pc' := 139) (by decide +kernel) rfl rfl sw_a0 ?_
      refine sf_j_eq (off := 12) (tgt := 151) (by decide +kernel) (by decide) hf (fun hc hf => ?_) (fun hc hf => ?_)
      · exact sf_weak [0, 1, 4, 5] rfl (t_Model_lookOf_151 hd _ hk17 hf)
      · refine sf_blk [(.iload 5, 0, 0, .null), (.iload_n 3, 0, 0, .null)] (lv' := [(0, .ref a0), (1, .int a1), (2, .int a2), (3, .int a3), (4, .int a4), (5, .int a5), (6, .int a6)]) (st' := [.int a3, .int a5]) (M1 := M) (ob := []) (pc' := 145) (by decide +kernel) rfl rfl sw_a0 ?_
        refine sf_j_lt (off := 6) (tgt := 151) (by decide +kernel) (by decide) hf (fun hc hf => ?_) (fun hc hf => ?_)
        · exact sf_weak [0, 1, 4, 5] rfl (t_Model_lookOf_151 hd _ hk17 hf)
        · refine sf_goto (off := 9) (tgt := 157) (by decide +kernel) (by decide) ?_
          exact sf_weak [0, 1, 2, 3, 4] rfl (t_Model_lookOf_157 hd _ hk17 hf)
    · refine sf_blk [(.iconst (0), 0, 0, .int (0 : Int32)), (.istore 7, 0, 0, .null), (.iconst (0), 0, 0, .int (0 : Int32)), (.istore 8, 0, 0, .null)] (lv' := [(8, .int (0 : Int32)), (7, .int (0 : Int32)), (0, .ref a0), (1, .int a1), (2, .int a2), (3, .int a3), (4, .int a4), (5, .int a5), (6, .int a6)]) (st' := []) (M1 := M) (ob := []) (pc' := 50) (by decide +kernel) rfl rfl sw_a0 ?_
      exact sf_weak [2, 3, 4, 5, 6, 7, 8, 1, 0] rfl (t_Model_lookOf_50 hd _ hk17 _ ih _ _ _ _ _ _ _ _ _ _ _ hf)
def f_Model_lookOf_17 (N : Nat) : Nat → Nat → Int32 → Int32 → Int32 → Int32 → sw_M → Option (Int32 × sw_M)
  | 0, _, _, _, _, _, _ => none
  | j + 1, a0, a1, a2, a3, a4, M =>
  sw_gd [sw_ok M a0 12] (if ((rd_I M a0 71) * (rd_I M a0 71)) ≤ a4 then some (a2, M)
  else f_Model_lookOf_37 N (f_Model_lookOf_17 N j) N a0 a1 a2 a3 a4 (0 : Int32) (0 : Int32) M)
set_option maxRecDepth 10000 in
theorem t_Model_lookOf_17 {g : sw_G} {d n0 : Nat} (hd : 2 ≤ d) {r : Int32 × sw_M} {N : Nat} : ∀ (j : Nat) (a0 : Nat) (a1 : Int32) (a2 : Int32) (a3 : Int32) (a4 : Int32) (M : sw_M), f_Model_lookOf_17 N j a0 a1 a2 a3 a4 M = some r → sw_F g k_Model_lookOf d n0 (some (.int r.1)) r.2 17 [(0, .ref a0), (1, .int a1), (2, .int a2), (3, .int a3), (4, .int a4)] [] M := by
  intro j
  induction j with
  | zero =>
    intro a0 a1 a2 a3 a4 M hf
    rw [f_Model_lookOf_17] at hf
    cases hf
  | succ j ih =>
    intro a0 a1 a2 a3 a4 M hf
    rw [f_Model_lookOf_17] at hf
    obtain ⟨h1, hf⟩ := sw_gd_1 hf
    refine sf_blk [(.iload 4, 0, 0, .null), (.aload_n 0, 0, 0, .null), (.getfield 115, 12, 71, .null), (.aload_n 0, 0, 0, .null), (.getfield 115, 12, 71, .null), (.imul, 0, 0, .null)] (lv' := [(0, .ref a0), (1, .int a1), (2, .int a2), (3, .int a3), (4, .int a4)]) (st' := [.int ((rd_I M a0 71) * (rd_I M a0 71)), .int a4]) (M1 := M) (ob := [sw_ok M a0 12, sw_ok M a0 12]) (pc' := 28) (by decide +kernel) rfl rfl (sw_a1 h1 (sw_a1 h1 sw_a0)) ?_
    refine sf_j_ge (off := 135) (tgt := 163) (by decide +kernel) (by decide) hf (fun hc hf => ?_) (fun hc hf => ?_)
    · refine sf_blk [(.iload_n 2, 0, 0, .null)] (lv' := [(0, .ref a0), (1, .int a1), (2, .int a2), (3, .int a3), (4, .int a4)]) (st' := [.int a2]) (M1 := M) (ob := []) (pc' := 164) (by decide +kernel) rfl rfl sw_a0 ?_
      cases hf
      exact sf_int rfl (by decide +kernel)
    · refine sf_blk [(.iconst (0), 0, 0, .int (0 : Int32)), (.istore 5, 0, 0, .null), (.iconst (0), 0, 0, .int (0 : Int32)), (.istore 6, 0, 0, .null)] (lv' := [(6, .int (0 : Int32)), (5, .int (0 : Int32)), (0, .ref a0), (1, .int a1), (2, .int a2), (3, .int a3), (4, .int a4)]) (st' := []) (M1 := M) (ob := []) (pc' := 37) (by decide +kernel) rfl rfl sw_a0 ?_
      exact sf_weak [2, 3, 4, 5, 6, 1, 0] rfl (t_Model_lookOf_37 hd _ ih _ _ _ _ _ _ _ _ _ hf)
def f_Model_lookOf (N : Nat) (a0 : Nat) (a1 : Int32) (M : sw_M) : Option (Int32 × sw_M) :=
  (f_Model_many N a1 M).bind (fun u1 => if (2 : Int32) ≤ u1.1 then f_Model_lookOf_17 N N a0 a1 (-1 : Int32) (0 : Int32) (0 : Int32) u1.2
  else some ((-1 : Int32), u1.2))
set_option maxRecDepth 10000 in
theorem t_Model_lookOf {g : sw_G} {d n0 : Nat} (hd : 2 ≤ d) {r : Int32 × sw_M} {N : Nat} {a0 : Nat} {a1 : Int32} {M : sw_M} (hf : f_Model_lookOf N a0 a1 M = some r) : sw_F g k_Model_lookOf d n0 (some (.int r.1)) r.2 0 [(0, .ref a0), (1, .int a1)] [] M := by
  unfold f_Model_lookOf at hf
  refine sf_blk [(.iload_n 1, 0, 0, .null)] (lv' := [(0, .ref a0), (1, .int a1)]) (st' := [.int a1]) (M1 := M) (ob := []) (pc' := 1) (by decide +kernel) rfl rfl sw_a0 ?_
  obtain ⟨u1, hu1, hf⟩ := sw_bnd hf
  refine sf_callS (i := 505) (k2 := k_Model_many) (d2 := d - 1) (As := [.int a1]) (st := []) mf_Model_many mi_Model_many (sw_m8 95 (by decide +kernel)) (by decide +kernel) rfl (Nat.le_of_ble_eq_true rfl) (by omega) (o_Model_many g (d := d - 1) (by omega) hu1) ?_
  show sw_F _ _ _ _ _ _ 4 [(0, .ref a0), (1, .int a1)] [.int u1.1] u1.2
  refine sf_blk [(.iconst (2), 0, 0, .int (2 : Int32))] (lv' := [(0, .ref a0), (1, .int a1)]) (st' := [.int (2 : Int32), .int u1.1]) (M1 := u1.2) (ob := []) (pc' := 5) (by decide +kernel) rfl rfl sw_a0 ?_
  refine sf_j_ge (off := 5) (tgt := 10) (by decide +kernel) (by decide) hf (fun hc hf => ?_) (fun hc hf => ?_)
  · refine sf_blk [(.iconst (-1), 0, 0, .int (-1 : Int32)), (.istore_n 2, 0, 0, .null), (.iconst (0), 0, 0, .int (0 : Int32)), (.istore_n 3, 0, 0, .null), (.iconst (0), 0, 0, .int (0 : Int32)), (.istore 4, 0, 0, .null)] (lv' := [(4, .int (0 : Int32)), (3, .int (0 : Int32)), (2, .int (-1 : Int32)), (0, .ref a0), (1, .int a1)]) (st' := []) (M1 := u1.2) (ob := []) (pc' := 17) (by decide +kernel) rfl rfl sw_a0 ?_
    exact sf_weak [3, 4, 2, 1, 0] rfl (t_Model_lookOf_17 hd _ _ _ _ _ _ _ hf)
  · refine sf_blk [(.iconst (-1), 0, 0, .int (-1 : Int32))] (lv' := [(0, .ref a0), (1, .int a1)]) (st' := [.int (-1 : Int32)]) (M1 := u1.2) (ob := []) (pc' := 9) (by decide +kernel) rfl rfl sw_a0 ?_
    cases hf
    exact sf_int rfl (by decide +kernel)
theorem o_Model_lookOf (g : sw_G) {d : Nat} (hd : 2 ≤ d) {N : Nat} {a0 : Nat} {a1 : Int32} {M : sw_M} {r : Int32 × sw_M} (hf : f_Model_lookOf N a0 a1 M = some r) : sw_Ok g k_Model_lookOf d [.ref a0, .int a1] M (some (.int r.1)) r.2 := sf_met (by decide +kernel) rfl (by decide) (Nat.le_of_ble_eq_true rfl) (t_Model_lookOf hd hf)
def f_Model_parting_2 (N : Nat) : Nat → Nat → Int32 → Int32 → Int32 → sw_M → Option (Int32 × sw_M)
  | 0, _, _, _, _, _ => none
  | j + 1, a0, a1, a2, a3, M =>
  sw_gd [sw_ok M a0 12] (if ((rd_I M a0 71) * (rd_I M a0 71)) ≤ a3 then some ((-1 : Int32), M)
  else sw_gd [sw_ar M (rd_R M a0 88) 13 (((64 : Int32) * a1) + a3)] (sw_gd [sw_ar M (rd_R M a0 88) 13 (((64 : Int32) * a2) + a3)] (if (rd_I M (rd_R M a0 88) (((64 : Int32) * a1) + a3).toNatClampNeg) = (rd_I M (rd_R M a0 88) (((64 : Int32) * a2) + a3).toNatClampNeg) then f_Model_parting_2 N j a0 a1 a2 (a3 + (1 : Int32)) M
  else some (a3, M))))
set_option maxRecDepth 10000 in
theorem t_Model_parting_2 {g : sw_G} {d n0 : Nat} (hd : 1 ≤ d) {r : Int32 × sw_M} {N : Nat} : ∀ (j : Nat) (a0 : Nat) (a1 : Int32) (a2 : Int32) (a3 : Int32) (M : sw_M), f_Model_parting_2 N j a0 a1 a2 a3 M = some r → sw_F g k_Model_parting d n0 (some (.int r.1)) r.2 2 [(0, .ref a0), (1, .int a1), (2, .int a2), (3, .int a3)] [] M := by
  intro j
  induction j with
  | zero =>
    intro a0 a1 a2 a3 M hf
    rw [f_Model_parting_2] at hf
    cases hf
  | succ j ih =>
    intro a0 a1 a2 a3 M hf
    rw [f_Model_parting_2] at hf
    obtain ⟨h1, hf⟩ := sw_gd_1 hf
    refine sf_blk [(.iload_n 3, 0, 0, .null), (.aload_n 0, 0, 0, .null), (.getfield 115, 12, 71, .null), (.aload_n 0, 0, 0, .null), (.getfield 115, 12, 71, .null), (.imul, 0, 0, .null)] (lv' := [(0, .ref a0), (1, .int a1), (2, .int a2), (3, .int a3)]) (st' := [.int ((rd_I M a0 71) * (rd_I M a0 71)), .int a3]) (M1 := M) (ob := [sw_ok M a0 12, sw_ok M a0 12]) (pc' := 12) (by decide +kernel) rfl rfl (sw_a1 h1 (sw_a1 h1 sw_a0)) ?_
    refine sf_j_ge (off := 36) (tgt := 48) (by decide +kernel) (by decide) hf (fun hc hf => ?_) (fun hc hf => ?_)
    · refine sf_blk [(.iconst (-1), 0, 0, .int (-1 : Int32))] (lv' := [(0, .ref a0), (1, .int a1), (2, .int a2), (3, .int a3)]) (st' := [.int (-1 : Int32)]) (M1 := M) (ob := []) (pc' := 49) (by decide +kernel) rfl rfl sw_a0 ?_
      cases hf
      exact sf_int rfl (by decide +kernel)
    · obtain ⟨h2, hf⟩ := sw_gd_1 hf
      obtain ⟨h3, hf⟩ := sw_gd_1 hf
      refine sf_blk [(.aload_n 0, 0, 0, .null), (.getfield 157, 12, 88, .null), (.bipush (64), 0, 0, .int (64 : Int32)), (.iload_n 1, 0, 0, .null), (.imul, 0, 0, .null), (.iload_n 3, 0, 0, .null), (.iadd, 0, 0, .null), (.iaload, 0, 0, .null), (.aload_n 0, 0, 0, .null), (.getfield 157, 12, 88, .null), (.bipush (64), 0, 0, .int (64 : Int32)), (.iload_n 2, 0, 0, .null), (.imul, 0, 0, .null), (.iload_n 3, 0, 0, .null), (.iadd, 0, 0, .null), (.iaload, 0, 0, .null)] (lv' := [(0, .ref a0), (1, .int a1), (2, .int a2), (3, .int a3)]) (st' := [.int (rd_I M (rd_R M a0 88) (((64 : Int32) * a2) + a3).toNatClampNeg), .int (rd_I M (rd_R M a0 88) (((64 : Int32) * a1) + a3).toNatClampNeg)]) (M1 := M) (ob := [sw_ok M a0 12, sw_ar M (rd_R M a0 88) 13 (((64 : Int32) * a1) + a3), sw_ok M a0 12, sw_ar M (rd_R M a0 88) 13 (((64 : Int32) * a2) + a3)]) (pc' := 37) (by decide +kernel) rfl rfl (sw_a1 h1 (sw_a1 h2 (sw_a1 h1 (sw_a1 h3 sw_a0)))) ?_
      refine sf_j_eq (off := 5) (tgt := 42) (by decide +kernel) (by decide) hf (fun hc hf => ?_) (fun hc hf => ?_)
      · refine sf_blk [(.iinc 3 (1), 0, 0, .int (1 : Int32))] (lv' := [(3, .int (a3 + (1 : Int32))), (0, .ref a0), (1, .int a1), (2, .int a2)]) (st' := []) (M1 := M) (ob := []) (pc' := 45) (by decide +kernel) rfl rfl sw_a0 ?_
        refine sf_goto (off := -43) (tgt := 2) (by decide +kernel) (by decide) ?_
        exact sf_weak [1, 2, 3, 0] rfl (ih _ _ _ _ _ hf)
      · refine sf_blk [(.iload_n 3, 0, 0, .null)] (lv' := [(0, .ref a0), (1, .int a1), (2, .int a2), (3, .int a3)]) (st' := [.int a3]) (M1 := M) (ob := []) (pc' := 41) (by decide +kernel) rfl rfl sw_a0 ?_
        cases hf
        exact sf_int rfl (by decide +kernel)
def f_Model_parting (N : Nat) (a0 : Nat) (a1 : Int32) (a2 : Int32) (M : sw_M) : Option (Int32 × sw_M) :=
  f_Model_parting_2 N N a0 a1 a2 (0 : Int32) M
set_option maxRecDepth 10000 in
theorem t_Model_parting {g : sw_G} {d n0 : Nat} (hd : 1 ≤ d) {r : Int32 × sw_M} {N : Nat} {a0 : Nat} {a1 : Int32} {a2 : Int32} {M : sw_M} (hf : f_Model_parting N a0 a1 a2 M = some r) : sw_F g k_Model_parting d n0 (some (.int r.1)) r.2 0 [(0, .ref a0), (1, .int a1), (2, .int a2)] [] M := by
  unfold f_Model_parting at hf
  refine sf_blk [(.iconst (0), 0, 0, .int (0 : Int32)), (.istore_n 3, 0, 0, .null)] (lv' := [(3, .int (0 : Int32)), (0, .ref a0), (1, .int a1), (2, .int a2)]) (st' := []) (M1 := M) (ob := []) (pc' := 2) (by decide +kernel) rfl rfl sw_a0 ?_
  exact sf_weak [1, 2, 3, 0] rfl (t_Model_parting_2 hd _ _ _ _ _ _ hf)
theorem o_Model_parting (g : sw_G) {d : Nat} (hd : 1 ≤ d) {N : Nat} {a0 : Nat} {a1 : Int32} {a2 : Int32} {M : sw_M} {r : Int32 × sw_M} (hf : f_Model_parting N a0 a1 a2 M = some r) : sw_Ok g k_Model_parting d [.ref a0, .int a1, .int a2] M (some (.int r.1)) r.2 := sf_met (by decide +kernel) rfl (by decide) (Nat.le_of_ble_eq_true rfl) (t_Model_parting hd hf)
def f_Model_models_224 (N : Nat) (a0 : Nat) (a5 : Int32) (M : sw_M) : Option (Int32 × sw_M) :=
  if a5 = (-1 : Int32) then some ((-1 : Int32), M)
  else sw_gd [sw_ok M a0 12] ((f_Model_parting N a0 (a5 / (8 : Int32)) (a5 - a5 / (8 : Int32) * (8 : Int32)) M).bind (fun u2 => some (u2.1, u2.2)))
set_option maxRecDepth 10000 in
theorem t_Model_models_224 {g : sw_G} {d n0 : Nat} (hd : 8 ≤ d) {r : Int32 × sw_M} {N : Nat} {a0 : Nat} {a5 : Int32} {M : sw_M} (hf : f_Model_models_224 N a0 a5 M = some r) : sw_F g k_Model_models d n0 (some (.int r.1)) r.2 224 [(0, .ref a0), (5, .int a5)] [] M := by
  unfold f_Model_models_224 at hf
  refine sf_blk [(.iload 5, 0, 0, .null), (.iconst (-1), 0, 0, .int (-1 : Int32))] (lv' := [(0, .ref a0), (5, .int a5)]) (st' := [.int (-1 : Int32), .int a5]) (M1 := M) (ob := []) (pc' := 227) (by decide +kernel) rfl rfl sw_a0 ?_
  refine sf_j_ne (off := 7) (tgt := 234) (by decide +kernel) (by decide) hf (fun hc hf => ?_) (fun hc hf => ?_)
  · obtain ⟨h1, hf⟩ := sw_gd_1 hf
    refine sf_blk [(.aload_n 0, 0, 0, .null), (.iload 5, 0, 0, .null), (.bipush (8), 0, 0, .int (8 : Int32)), (.idiv, 0, 0, .null), (.iload 5, 0, 0, .null), (.bipush (8), 0, 0, .int (8 : Int32)), (.irem, 0, 0, .null)] (lv' := [(0, .ref a0), (5, .int a5)]) (st' := [.int (a5 - a5 / (8 : Int32) * (8 : Int32)), .int (a5 / (8 : Int32)), .ref a0]) (M1 := M) (ob := [decide (¬ (8 : Int32) = 0), decide (¬ (8 : Int32) = 0)]) (pc' := 245) (by decide +kernel) rfl rfl (sw_a1 (by decide) (sw_a1 (by decide) sw_a0)) ?_
    obtain ⟨u2, hu2, hf⟩ := sw_bnd hf
    refine sf_callV (i := 523) (k2 := k_Model_parting) (d2 := d - 1) (As := [.int (a5 / (8 : Int32)), .int (a5 - a5 / (8 : Int32) * (8 : Int32))]) (st := []) (q := a0) (ci := 12) mf_Model_parting mi_Model_parting ms_Model_parting (sw_m8 122 (by decide +kernel)) rfl (by decide) (by decide +kernel) rfl (Nat.le_of_ble_eq_true rfl) (by omega) h1 (o_Model_parting g (d := d - 1) (by omega) hu2) ?_
    show sw_F _ _ _ _ _ _ 248 [(0, .ref a0), (5, .int a5)] [.int u2.1] u2.2
    cases hf
    exact sf_int rfl (by decide +kernel)
  · refine sf_blk [(.iconst (-1), 0, 0, .int (-1 : Int32))] (lv' := [(0, .ref a0), (5, .int a5)]) (st' := [.int (-1 : Int32)]) (M1 := M) (ob := []) (pc' := 231) (by decide +kernel) rfl rfl sw_a0 ?_
    refine sf_goto (off := 17) (tgt := 248) (by decide +kernel) (by decide) ?_
    cases hf
    exact sf_int rfl (by decide +kernel)
def f_Model_models_105 (N : Nat) (a0 : Nat) (a1 : Int32) (a2 : Int32) (a4 : Int32) (a5 : Int32) (a6 : Int32) (a7 : Int32) (M : sw_M) : Option (Int32 × sw_M) :=
  if a2 = (1 : Int32) then some (a4, M)
  else if a2 = (2 : Int32) then if a4 = 0 then some ((-1 : Int32), M)
  else sw_gd [sw_ok M a0 12] ((f_Model_spanLow N a0 M).bind (fun u4 => some ((u4.1 + (a6 * a1)), u4.2)))
  else if a2 = (3 : Int32) then if a4 = 0 then some ((-1 : Int32), M)
  else sw_gd [sw_ok M a0 12] ((f_Model_spanLow N a0 M).bind (fun u7 => some ((u7.1 + (a7 * a1)), u7.2)))
  else if a2 = (4 : Int32) then sw_gd [sw_ok M a0 12] ((f_Model_lookOf N a0 a4 M).bind (fun u10 => some (u10.1, u10.2)))
  else if a2 = (5 : Int32) then if a5 = (-1 : Int32) then some ((-1 : Int32), M)
  else some ((a5 / (8 : Int32)), M)
  else if a2 = (6 : Int32) then if a5 = (-1 : Int32) then some ((-1 : Int32), M)
  else some ((a5 - a5 / (8 : Int32) * (8 : Int32)), M)
  else f_Model_models_224 N a0 a5 M
set_option maxRecDepth 10000 in
theorem t_Model_models_105 {g : sw_G} {d n0 : Nat} (hd : 8 ≤ d) {r : Int32 × sw_M} {N : Nat} {a0 : Nat} {a1 : Int32} {a2 : Int32} {a4 : Int32} {a5 : Int32} {a6 : Int32} {a7 : Int32} {M : sw_M} (hf : f_Model_models_105 N a0 a1 a2 a4 a5 a6 a7 M = some r) : sw_F g k_Model_models d n0 (some (.int r.1)) r.2 105 [(0, .ref a0), (1, .int a1), (2, .int a2), (4, .int a4), (5, .int a5), (6, .int a6), (7, .int a7)] [] M := by
  unfold f_Model_models_105 at hf
  refine sf_blk [(.iload_n 2, 0, 0, .null)] (lv' := [(0, .ref a0), (1, .int a1), (2, .int a2), (4, .int a4), (5, .int a5), (6, .int a6), (7, .int a7)]) (st' := [.int a2]) (M1 := M) (ob := []) (pc' := 106) (by decide +kernel) rfl rfl sw_a0 ?_
  rcases sw_ite hf with ⟨h1, hf⟩ | ⟨h1, hf⟩
  · refine sf_tin (a := a2) (off := 38) (tgt := 144) (len := 38) (show decode (k_c k_Model_models) 106 = .ok (.tableswitch (118) (1) (6) #[38, 41, 60, 79, 86, 102], 38) by decide +kernel) (by rw [h1]; decide) (by rw [h1]; decide) (by rw [h1]; decide +kernel) (by decide) ?_
    refine sf_blk [(.iload 4, 0, 0, .null)] (lv' := [(0, .ref a0), (1, .int a1), (2, .int a2), (4, .int a4), (5, .int a5), (6, .int a6), (7, .int a7)]) (st' := [.int a4]) (M1 := M) (ob := []) (pc' := 146) (by decide +kernel) rfl rfl sw_a0 ?_
    cases hf
    exact sf_int rfl (by decide +kernel)
  ·
    rcases sw_ite hf with ⟨h2, hf⟩ | ⟨h2, hf⟩
    · refine sf_tin (a := a2) (off := 41) (tgt := 147) (len := 38) (show decode (k_c k_Model_models) 106 = .ok (.tableswitch (118) (1) (6) #[38, 41, 60, 79, 86, 102], 38) by decide +kernel) (by rw [h2]; decide) (by rw [h2]; decide) (by rw [h2]; decide +kernel) (by decide) ?_
      refine sf_blk [(.iload 4, 0, 0, .null)] (lv' := [(0, .ref a0), (1, .int a1), (2, .int a2), (4, .int a4), (5, .int a5), (6, .int a6), (7, .int a7)]) (st' := [.int a4]) (M1 := M) (ob := []) (pc' := 149) (by decide +kernel) rfl rfl sw_a0 ?_
      refine sf_z_ne (off := 7) (tgt := 156) (by decide +kernel) (by decide) hf (fun hc hf => ?_) (fun hc hf => ?_)
      · obtain ⟨h3, hf⟩ := sw_gd_1 hf
        refine sf_blk [(.aload_n 0, 0, 0, .null)] (lv' := [(0, .ref a0), (1, .int a1), (2, .int a2), (4, .int a4), (5, .int a5), (6, .int a6), (7, .int a7)]) (st' := [.ref a0]) (M1 := M) (ob := []) (pc' := 157) (by decide +kernel) rfl rfl sw_a0 ?_
        obtain ⟨u4, hu4, hf⟩ := sw_bnd hf
        refine sf_callV (i := 308) (k2 := k_Model_spanLow) (d2 := d - 1) (As := []) (st := []) (q := a0) (ci := 12) mf_Model_spanLow mi_Model_spanLow ms_Model_spanLow (sw_m7 116 (by decide +kernel)) rfl (by decide) (by decide +kernel) rfl (Nat.le_of_ble_eq_true rfl) (by omega) h3 (o_Model_spanLow g (d := d - 1) (by omega) hu4) ?_
        show sw_F _ _ _ _ _ _ 160 [(0, .ref a0), (1, .int a1), (2, .int a2), (4, .int a4), (5, .int a5), (6, .int a6), (7, .int a7)] [.int u4.1] u4.2
        refine sf_blk [(.iload 6, 0, 0, .null), (.iload_n 1, 0, 0, .null), (.imul, 0, 0, .null), (.iadd, 0, 0, .null)] (lv' := [(0, .ref a0), (1, .int a1), (2, .int a2), (4, .int a4), (5, .int a5), (6, .int a6), (7, .int a7)]) (st' := [.int (u4.1 + (a6 * a1))]) (M1 := u4.2) (ob := []) (pc' := 165) (by decide +kernel) rfl rfl sw_a0 ?_
        cases hf
        exact sf_int rfl (by decide +kernel)
      · refine sf_blk [(.iconst (-1), 0, 0, .int (-1 : Int32))] (lv' := [(0, .ref a0), (1, .int a1), (2, .int a2), (4, .int a4), (5, .int a5), (6, .int a6), (7, .int a7)]) (st' := [.int (-1 : Int32)]) (M1 := M) (ob := []) (pc' := 153) (by decide +kernel) rfl rfl sw_a0 ?_
        refine sf_goto (off := 12) (tgt := 165) (by decide +kernel) (by decide) ?_
        cases hf
        exact sf_int rfl (by decide +kernel)
    ·
      rcases sw_ite hf with ⟨h5, hf⟩ | ⟨h5, hf⟩
      · refine sf_tin (a := a2) (off := 60) (tgt := 166) (len := 38) (show decode (k_c k_Model_models) 106 = .ok (.tableswitch (118) (1) (6) #[38, 41, 60, 79, 86, 102], 38) by decide +kernel) (by rw [h5]; decide) (by rw [h5]; decide) (by rw [h5]; decide +kernel) (by decide) ?_
        refine sf_blk [(.iload 4, 0, 0, .null)] (lv' := [(0, .ref a0), (1, .int a1), (2, .int a2), (4, .int a4), (5, .int a5), (6, .int a6), (7, .int a7)]) (st' := [.int a4]) (M1 := M) (ob := []) (pc' := 168) (by decide +kernel) rfl rfl sw_a0 ?_
        refine sf_z_ne (off := 7) (tgt := 175) (by decide +kernel) (by decide) hf (fun hc hf => ?_) (fun hc hf => ?_)
        · obtain ⟨h6, hf⟩ := sw_gd_1 hf
          refine sf_blk [(.aload_n 0, 0, 0, .null)] (lv' := [(0, .ref a0), (1, .int a1), (2, .int a2), (4, .int a4), (5, .int a5), (6, .int a6), (7, .int a7)]) (st' := [.ref a0]) (M1 := M) (ob := []) (pc' := 176) (by decide +kernel) rfl rfl sw_a0 ?_
          obtain ⟨u7, hu7, hf⟩ := sw_bnd hf
          refine sf_callV (i := 308) (k2 := k_Model_spanLow) (d2 := d - 1) (As := []) (st := []) (q := a0) (ci := 12) mf_Model_spanLow mi_Model_spanLow ms_Model_spanLow (sw_m7 116 (by decide +kernel)) rfl (by decide) (by decide +kernel) rfl (Nat.le_of_ble_eq_true rfl) (by omega) h6 (o_Model_spanLow g (d := d - 1) (by omega) hu7) ?_
          show sw_F _ _ _ _ _ _ 179 [(0, .ref a0), (1, .int a1), (2, .int a2), (4, .int a4), (5, .int a5), (6, .int a6), (7, .int a7)] [.int u7.1] u7.2
          refine sf_blk [(.iload 7, 0, 0, .null), (.iload_n 1, 0, 0, .null), (.imul, 0, 0, .null), (.iadd, 0, 0, .null)] (lv' := [(0, .ref a0), (1, .int a1), (2, .int a2), (4, .int a4), (5, .int a5), (6, .int a6), (7, .int a7)]) (st' := [.int (u7.1 + (a7 * a1))]) (M1 := u7.2) (ob := []) (pc' := 184) (by decide +kernel) rfl rfl sw_a0 ?_
          cases hf
          exact sf_int rfl (by decide +kernel)
        · refine sf_blk [(.iconst (-1), 0, 0, .int (-1 : Int32))] (lv' := [(0, .ref a0), (1, .int a1), (2, .int a2), (4, .int a4), (5, .int a5), (6, .int a6), (7, .int a7)]) (st' := [.int (-1 : Int32)]) (M1 := M) (ob := []) (pc' := 172) (by decide +kernel) rfl rfl sw_a0 ?_
          refine sf_goto (off := 12) (tgt := 184) (by decide +kernel) (by decide) ?_
          cases hf
          exact sf_int rfl (by decide +kernel)
      ·
        rcases sw_ite hf with ⟨h8, hf⟩ | ⟨h8, hf⟩
        · refine sf_tin (a := a2) (off := 79) (tgt := 185) (len := 38) (show decode (k_c k_Model_models) 106 = .ok (.tableswitch (118) (1) (6) #[38, 41, 60, 79, 86, 102], 38) by decide +kernel) (by rw [h8]; decide) (by rw [h8]; decide) (by rw [h8]; decide +kernel) (by decide) ?_
          obtain ⟨h9, hf⟩ := sw_gd_1 hf
          refine sf_blk [(.aload_n 0, 0, 0, .null), (.iload 4, 0, 0, .null)] (lv' := [(0, .ref a0), (1, .int a1), (2, .int a2), (4, .int a4), (5, .int a5), (6, .int a6), (7, .int a7)]) (st' := [.int a4, .ref a0]) (M1 := M) (ob := []) (pc' := 188) (by decide +kernel) rfl rfl sw_a0 ?_
          obtain ⟨u10, hu10, hf⟩ := sw_bnd hf
          refine sf_callV (i := 520) (k2 := k_Model_lookOf) (d2 := d - 1) (As := [.int a4]) (st := []) (q := a0) (ci := 12) mf_Model_lookOf mi_Model_lookOf ms_Model_lookOf (sw_m8 118 (by decide +kernel)) rfl (by decide) (by decide +kernel) rfl (Nat.le_of_ble_eq_true rfl) (by omega) h9 (o_Model_lookOf g (d := d - 1) (by omega) hu10) ?_
          show sw_F _ _ _ _ _ _ 191 [(0, .ref a0), (1, .int a1), (2, .int a2), (4, .int a4), (5, .int a5), (6, .int a6), (7, .int a7)] [.int u10.1] u10.2
          cases hf
          exact sf_int rfl (by decide +kernel)
        ·
          rcases sw_ite hf with ⟨h11, hf⟩ | ⟨h11, hf⟩
          · refine sf_tin (a := a2) (off := 86) (tgt := 192) (len := 38) (show decode (k_c k_Model_models) 106 = .ok (.tableswitch (118) (1) (6) #[38, 41, 60, 79, 86, 102], 38) by decide +kernel) (by rw [h11]; decide) (by rw [h11]; decide) (by rw [h11]; decide +kernel) (by decide) ?_
            refine sf_blk [(.iload 5, 0, 0, .null), (.iconst (-1), 0, 0, .int (-1 : Int32))] (lv' := [(0, .ref a0), (1, .int a1), (2, .int a2), (4, .int a4), (5, .int a5), (6, .int a6), (7, .int a7)]) (st' := [.int (-1 : Int32), .int a5]) (M1 := M) (ob := []) (pc' := 195) (by decide +kernel) rfl rfl sw_a0 ?_
            refine sf_j_ne (off := 7) (tgt := 202) (by decide +kernel) (by decide) hf (fun hc hf => ?_) (fun hc hf => ?_)
            · refine sf_blk [(.iload 5, 0, 0, .null), (.bipush (8), 0, 0, .int (8 : Int32)), (.idiv, 0, 0, .null)] (lv' := [(0, .ref a0), (1, .int a1), (2, .int a2), (4, .int a4), (5, .int a5), (6, .int a6), (7, .int a7)]) (st' := [.int (a5 / (8 : Int32))]) (M1 := M) (ob := [decide (¬ (8 : Int32) = 0)]) (pc' := 207) (by decide +kernel) rfl rfl (sw_a1 (by decide) sw_a0) ?_
              cases hf
              exact sf_int rfl (by decide +kernel)
            · refine sf_blk [(.iconst (-1), 0, 0, .int (-1 : Int32))] (lv' := [(0, .ref a0), (1, .int a1), (2, .int a2), (4, .int a4), (5, .int a5), (6, .int a6), (7, .int a7)]) (st' := [.int (-1 : Int32)]) (M1 := M) (ob := []) (pc' := 199) (by decide +kernel) rfl rfl sw_a0 ?_
              refine sf_goto (off := 8) (tgt := 207) (by decide +kernel) (by decide) ?_
              cases hf
              exact sf_int rfl (by decide +kernel)
          ·
            rcases sw_ite hf with ⟨h12, hf⟩ | ⟨h12, hf⟩
            · refine sf_tin (a := a2) (off := 102) (tgt := 208) (len := 38) (show decode (k_c k_Model_models) 106 = .ok (.tableswitch (118) (1) (6) #[38, 41, 60, 79, 86, 102], 38) by decide +kernel) (by rw [h12]; decide) (by rw [h12]; decide) (by rw [h12]; decide +kernel) (by decide) ?_
              refine sf_blk [(.iload 5, 0, 0, .null), (.iconst (-1), 0, 0, .int (-1 : Int32))] (lv' := [(0, .ref a0), (1, .int a1), (2, .int a2), (4, .int a4), (5, .int a5), (6, .int a6), (7, .int a7)]) (st' := [.int (-1 : Int32), .int a5]) (M1 := M) (ob := []) (pc' := 211) (by decide +kernel) rfl rfl sw_a0 ?_
              refine sf_j_ne (off := 7) (tgt := 218) (by decide +kernel) (by decide) hf (fun hc hf => ?_) (fun hc hf => ?_)
              · refine sf_blk [(.iload 5, 0, 0, .null), (.bipush (8), 0, 0, .int (8 : Int32)), (.irem, 0, 0, .null)] (lv' := [(0, .ref a0), (1, .int a1), (2, .int a2), (4, .int a4), (5, .int a5), (6, .int a6), (7, .int a7)]) (st' := [.int (a5 - a5 / (8 : Int32) * (8 : Int32))]) (M1 := M) (ob := [decide (¬ (8 : Int32) = 0)]) (pc' := 223) (by decide +kernel) rfl rfl (sw_a1 (by decide) sw_a0) ?_
                cases hf
                exact sf_int rfl (by decide +kernel)
              · refine sf_blk [(.iconst (-1), 0, 0, .int (-1 : Int32))] (lv' := [(0, .ref a0), (1, .int a1), (2, .int a2), (4, .int a4), (5, .int a5), (6, .int a6), (7, .int a7)]) (st' := [.int (-1 : Int32)]) (M1 := M) (ob := []) (pc' := 215) (by decide +kernel) rfl rfl sw_a0 ?_
                refine sf_goto (off := 8) (tgt := 223) (by decide +kernel) (by decide) ?_
                cases hf
                exact sf_int rfl (by decide +kernel)
            ·
              have qh1 := sw_ne (n := 1) h1 (by decide)
              have qh2 := sw_ne (n := 2) h2 (by decide)
              have qh5 := sw_ne (n := 3) h5 (by decide)
              have qh8 := sw_ne (n := 4) h8 (by decide)
              have qh11 := sw_ne (n := 5) h11 (by decide)
              have qh12 := sw_ne (n := 6) h12 (by decide)
              refine sf_tout (a := a2) (tgt := 224) (len := 38) (show decode (k_c k_Model_models) 106 = .ok (.tableswitch (118) (1) (6) #[38, 41, 60, 79, 86, 102], 38) by decide +kernel) (by omega) (by decide) ?_
              exact sf_weak [0, 4] rfl (t_Model_models_224 hd hf)
def f_Model_models_84 (N : Nat) : Nat → Nat → Int32 → Int32 → Int32 → Int32 → Int32 → Int32 → sw_M → Option (Int32 × sw_M)
  | 0, _, _, _, _, _, _, _, _ => none
  | j + 1, a0, a1, a2, a4, a5, a6, a7, M =>
  if a4 = 0 then f_Model_models_105 N a0 a1 a2 a4 a5 a6 a7 M
  else if ((a4 >>> (a7 &&& 31)) &&& (1 : Int32)) = 0 then f_Model_models_84 N j a0 a1 a2 a4 a5 a6 (a7 + (-1 : Int32)) M
  else f_Model_models_105 N a0 a1 a2 a4 a5 a6 a7 M
set_option maxRecDepth 10000 in
theorem t_Model_models_84 {g : sw_G} {d n0 : Nat} (hd : 8 ≤ d) {r : Int32 × sw_M} {N : Nat} : ∀ (j : Nat) (a0 : Nat) (a1 : Int32) (a2 : Int32) (a4 : Int32) (a5 : Int32) (a6 : Int32) (a7 : Int32) (M : sw_M), f_Model_models_84 N j a0 a1 a2 a4 a5 a6 a7 M = some r → sw_F g k_Model_models d n0 (some (.int r.1)) r.2 84 [(0, .ref a0), (1, .int a1), (2, .int a2), (4, .int a4), (5, .int a5), (6, .int a6), (7, .int a7)] [] M := by
  intro j
  induction j with
  | zero =>
    intro a0 a1 a2 a4 a5 a6 a7 M hf
    rw [f_Model_models_84] at hf
    cases hf
  | succ j ih =>
    intro a0 a1 a2 a4 a5 a6 a7 M hf
    rw [f_Model_models_84] at hf
    refine sf_blk [(.iload 4, 0, 0, .null)] (lv' := [(0, .ref a0), (1, .int a1), (2, .int a2), (4, .int a4), (5, .int a5), (6, .int a6), (7, .int a7)]) (st' := [.int a4]) (M1 := M) (ob := []) (pc' := 86) (by decide +kernel) rfl rfl sw_a0 ?_
    refine sf_z_eq (off := 19) (tgt := 105) (by decide +kernel) (by decide) hf (fun hc hf => ?_) (fun hc hf => ?_)
    · exact sf_weak [0, 1, 2, 3, 4, 5, 6] rfl (t_Model_models_105 hd hf)
    · refine sf_blk [(.iload 4, 0, 0, .null), (.iload 7, 0, 0, .null), (.ishr, 0, 0, .null), (.iconst (1), 0, 0, .int (1 : Int32)), (.iand, 0, 0, .null)] (lv' := [(0, .ref a0), (1, .int a1), (2, .int a2), (4, .int a4), (5, .int a5), (6, .int a6), (7, .int a7)]) (st' := [.int ((a4 >>> (a7 &&& 31)) &&& (1 : Int32))]) (M1 := M) (ob := []) (pc' := 96) (by decide +kernel) rfl rfl sw_a0 ?_
      refine sf_z_ne (off := 9) (tgt := 105) (by decide +kernel) (by decide) hf (fun hc hf => ?_) (fun hc hf => ?_)
      · exact sf_weak [0, 1, 2, 3, 4, 5, 6] rfl (t_Model_models_105 hd hf)
      · refine sf_blk [(.iinc 7 (-1), 0, 0, .int (-1 : Int32))] (lv' := [(7, .int (a7 + (-1 : Int32))), (0, .ref a0), (1, .int a1), (2, .int a2), (4, .int a4), (5, .int a5), (6, .int a6)]) (st' := []) (M1 := M) (ob := []) (pc' := 102) (by decide +kernel) rfl rfl sw_a0 ?_
        refine sf_goto (off := -18) (tgt := 84) (by decide +kernel) (by decide) ?_
        exact sf_weak [1, 2, 3, 4, 5, 6, 0] rfl (ih _ _ _ _ _ _ _ _ hf)
def f_Model_models_63 (N : Nat) : Nat → Nat → Int32 → Int32 → Int32 → Int32 → Int32 → Int32 → sw_M → Option (Int32 × sw_M)
  | 0, _, _, _, _, _, _, _, _ => none
  | j + 1, a0, a1, a2, a4, a5, a6, a7, M =>
  if a4 = 0 then f_Model_models_84 N N a0 a1 a2 a4 a5 a6 a7 M
  else if ((a4 >>> (a6 &&& 31)) &&& (1 : Int32)) = 0 then f_Model_models_63 N j a0 a1 a2 a4 a5 (a6 + (1 : Int32)) a7 M
  else f_Model_models_84 N N a0 a1 a2 a4 a5 a6 a7 M
set_option maxRecDepth 10000 in
theorem t_Model_models_63 {g : sw_G} {d n0 : Nat} (hd : 8 ≤ d) {r : Int32 × sw_M} {N : Nat} : ∀ (j : Nat) (a0 : Nat) (a1 : Int32) (a2 : Int32) (a4 : Int32) (a5 : Int32) (a6 : Int32) (a7 : Int32) (M : sw_M), f_Model_models_63 N j a0 a1 a2 a4 a5 a6 a7 M = some r → sw_F g k_Model_models d n0 (some (.int r.1)) r.2 63 [(0, .ref a0), (1, .int a1), (2, .int a2), (4, .int a4), (5, .int a5), (6, .int a6), (7, .int a7)] [] M := by
  intro j
  induction j with
  | zero =>
    intro a0 a1 a2 a4 a5 a6 a7 M hf
    rw [f_Model_models_63] at hf
    cases hf
  | succ j ih =>
    intro a0 a1 a2 a4 a5 a6 a7 M hf
    rw [f_Model_models_63] at hf
    refine sf_blk [(.iload 4, 0, 0, .null)] (lv' := [(0, .ref a0), (1, .int a1), (2, .int a2), (4, .int a4), (5, .int a5), (6, .int a6), (7, .int a7)]) (st' := [.int a4]) (M1 := M) (ob := []) (pc' := 65) (by decide +kernel) rfl rfl sw_a0 ?_
    refine sf_z_eq (off := 19) (tgt := 84) (by decide +kernel) (by decide) hf (fun hc hf => ?_) (fun hc hf => ?_)
    · exact sf_weak [0, 1, 2, 3, 4, 5, 6] rfl (t_Model_models_84 hd _ _ _ _ _ _ _ _ _ hf)
    · refine sf_blk [(.iload 4, 0, 0, .null), (.iload 6, 0, 0, .null), (.ishr, 0, 0, .null), (.iconst (1), 0, 0, .int (1 : Int32)), (.iand, 0, 0, .null)] (lv' := [(0, .ref a0), (1, .int a1), (2, .int a2), (4, .int a4), (5, .int a5), (6, .int a6), (7, .int a7)]) (st' := [.int ((a4 >>> (a6 &&& 31)) &&& (1 : Int32))]) (M1 := M) (ob := []) (pc' := 75) (by decide +kernel) rfl rfl sw_a0 ?_
      refine sf_z_ne (off := 9) (tgt := 84) (by decide +kernel) (by decide) hf (fun hc hf => ?_) (fun hc hf => ?_)
      · exact sf_weak [0, 1, 2, 3, 4, 5, 6] rfl (t_Model_models_84 hd _ _ _ _ _ _ _ _ _ hf)
      · refine sf_blk [(.iinc 6 (1), 0, 0, .int (1 : Int32))] (lv' := [(6, .int (a6 + (1 : Int32))), (0, .ref a0), (1, .int a1), (2, .int a2), (4, .int a4), (5, .int a5), (7, .int a7)]) (st' := []) (M1 := M) (ob := []) (pc' := 81) (by decide +kernel) rfl rfl sw_a0 ?_
        refine sf_goto (off := -18) (tgt := 63) (by decide +kernel) (by decide) ?_
        exact sf_weak [1, 2, 3, 4, 5, 0, 6] rfl (ih _ _ _ _ _ _ _ _ hf)
def f_Model_models (N : Nat) (a0 : Nat) (a1 : Int32) (a2 : Int32) (M : sw_M) : Option (Int32 × sw_M) :=
  sw_gd [sw_ok M a0 12] (if a1 < (1 : Int32) then some ((-1 : Int32), (wr_I M a0 0 (0 : Int32)))
  else if (99999 : Int32) < a1 then some ((-1 : Int32), (wr_I M a0 0 (0 : Int32)))
  else if a2 < 0 then some ((-1 : Int32), (wr_I M a0 0 (0 : Int32)))
  else if a2 ≤ (7 : Int32) then (f_Model_modelMany N a0 a1 (wr_I M a0 0 (0 : Int32))).bind (fun u2 => if a2 = 0 then some (u2.1, u2.2)
  else sw_gd [sw_ok u2.2 a0 12] ((f_Model_keptOf N a0 a1 u2.2).bind (fun u4 => sw_gd [sw_ok u4.2 a0 12] ((f_Model_twinsOf N a0 u4.1 u4.2).bind (fun u6 => f_Model_models_63 N N a0 a1 a2 u4.1 u6.1 (0 : Int32) (u2.1 - (1 : Int32)) u6.2)))))
  else some ((-1 : Int32), (wr_I M a0 0 (0 : Int32))))
set_option maxRecDepth 10000 in
theorem t_Model_models {g : sw_G} {d n0 : Nat} (hd : 8 ≤ d) {r : Int32 × sw_M} {N : Nat} {a0 : Nat} {a1 : Int32} {a2 : Int32} {M : sw_M} (hf : f_Model_models N a0 a1 a2 M = some r) : sw_F g k_Model_models d n0 (some (.int r.1)) r.2 0 [(0, .ref a0), (1, .int a1), (2, .int a2)] [] M := by
  unfold f_Model_models at hf
  obtain ⟨h1, hf⟩ := sw_gd_1 hf
  refine sf_blk [(.aload_n 0, 0, 0, .null), (.iconst (0), 0, 0, .int (0 : Int32)), (.putfield 166, 12, 0, .null), (.iload_n 1, 0, 0, .null), (.iconst (1), 0, 0, .int (1 : Int32))] (lv' := [(0, .ref a0), (1, .int a1), (2, .int a2)]) (st' := [.int (1 : Int32), .int a1]) (M1 := (wr_I M a0 0 (0 : Int32))) (ob := [sw_ok M a0 12]) (pc' := 7) (by decide +kernel) rfl rfl (sw_a1 h1 sw_a0) ?_
  refine sf_j_lt (off := 19) (tgt := 26) (by decide +kernel) (by decide) hf (fun hc hf => ?_) (fun hc hf => ?_)
  · refine sf_blk [(.iconst (-1), 0, 0, .int (-1 : Int32))] (lv' := [(0, .ref a0), (1, .int a1), (2, .int a2)]) (st' := [.int (-1 : Int32)]) (M1 := (wr_I M a0 0 (0 : Int32))) (ob := []) (pc' := 27) (by decide +kernel) rfl rfl sw_a0 ?_
    cases hf
    exact sf_int rfl (by decide +kernel)
  · refine sf_blk [(.iload_n 1, 0, 0, .null), (.ldc 201, 0, 0, .int (99999 : Int32))] (lv' := [(0, .ref a0), (1, .int a1), (2, .int a2)]) (st' := [.int (99999 : Int32), .int a1]) (M1 := (wr_I M a0 0 (0 : Int32))) (ob := []) (pc' := 13) (by decide +kernel) rfl rfl sw_a0 ?_
    refine sf_j_gt (off := 13) (tgt := 26) (by decide +kernel) (by decide) hf (fun hc hf => ?_) (fun hc hf => ?_)
    · refine sf_blk [(.iconst (-1), 0, 0, .int (-1 : Int32))] (lv' := [(0, .ref a0), (1, .int a1), (2, .int a2)]) (st' := [.int (-1 : Int32)]) (M1 := (wr_I M a0 0 (0 : Int32))) (ob := []) (pc' := 27) (by decide +kernel) rfl rfl sw_a0 ?_
      cases hf
      exact sf_int rfl (by decide +kernel)
    · refine sf_blk [(.iload_n 2, 0, 0, .null)] (lv' := [(0, .ref a0), (1, .int a1), (2, .int a2)]) (st' := [.int a2]) (M1 := (wr_I M a0 0 (0 : Int32))) (ob := []) (pc' := 17) (by decide +kernel) rfl rfl sw_a0 ?_
      refine sf_z_lt (off := 9) (tgt := 26) (by decide +kernel) (by decide) hf (fun hc hf => ?_) (fun hc hf => ?_)
      · refine sf_blk [(.iconst (-1), 0, 0, .int (-1 : Int32))] (lv' := [(0, .ref a0), (1, .int a1), (2, .int a2)]) (st' := [.int (-1 : Int32)]) (M1 := (wr_I M a0 0 (0 : Int32))) (ob := []) (pc' := 27) (by decide +kernel) rfl rfl sw_a0 ?_
        cases hf
        exact sf_int rfl (by decide +kernel)
      · refine sf_blk [(.iload_n 2, 0, 0, .null), (.bipush (7), 0, 0, .int (7 : Int32))] (lv' := [(0, .ref a0), (1, .int a1), (2, .int a2)]) (st' := [.int (7 : Int32), .int a2]) (M1 := (wr_I M a0 0 (0 : Int32))) (ob := []) (pc' := 23) (by decide +kernel) rfl rfl sw_a0 ?_
        refine sf_j_le (off := 5) (tgt := 28) (by decide +kernel) (by decide) hf (fun hc hf => ?_) (fun hc hf => ?_)
        · refine sf_blk [(.aload_n 0, 0, 0, .null), (.iload_n 1, 0, 0, .null)] (lv' := [(0, .ref a0), (1, .int a1), (2, .int a2)]) (st' := [.int a1, .ref a0]) (M1 := (wr_I M a0 0 (0 : Int32))) (ob := []) (pc' := 30) (by decide +kernel) rfl rfl sw_a0 ?_
          obtain ⟨u2, hu2, hf⟩ := sw_bnd hf
          refine sf_callV (i := 508) (k2 := k_Model_modelMany) (d2 := d - 1) (As := [.int a1]) (st := []) (q := a0) (ci := 12) mf_Model_modelMany mi_Model_modelMany ms_Model_modelMany (sw_m8 102 (by decide +kernel)) rfl (by decide) (by decide +kernel) rfl (Nat.le_of_ble_eq_true rfl) (by omega) h1 (o_Model_modelMany g (d := d - 1) (by omega) hu2) ?_
          show sw_F _ _ _ _ _ _ 33 [(0, .ref a0), (1, .int a1), (2, .int a2)] [.int u2.1] u2.2
          refine sf_blk [(.istore_n 3, 0, 0, .null), (.iload_n 2, 0, 0, .null)] (lv' := [(3, .int u2.1), (0, .ref a0), (1, .int a1), (2, .int a2)]) (st' := [.int a2]) (M1 := u2.2) (ob := []) (pc' := 35) (by decide +kernel) rfl rfl sw_a0 ?_
          refine sf_z_ne (off := 5) (tgt := 40) (by decide +kernel) (by decide) hf (fun hc hf => ?_) (fun hc hf => ?_)
          · obtain ⟨h3, hf⟩ := sw_gd_1 hf
            refine sf_blk [(.aload_n 0, 0, 0, .null), (.iload_n 1, 0, 0, .null)] (lv' := [(3, .int u2.1), (0, .ref a0), (1, .int a1), (2, .int a2)]) (st' := [.int a1, .ref a0]) (M1 := u2.2) (ob := []) (pc' := 42) (by decide +kernel) rfl rfl sw_a0 ?_
            obtain ⟨u4, hu4, hf⟩ := sw_bnd hf
            refine sf_callV (i := 514) (k2 := k_Model_keptOf) (d2 := d - 1) (As := [.int a1]) (st := []) (q := a0) (ci := 12) mf_Model_keptOf mi_Model_keptOf ms_Model_keptOf (sw_m8 106 (by decide +kernel)) rfl (by decide) (by decide +kernel) rfl (Nat.le_of_ble_eq_true rfl) (by omega) h3 (o_Model_keptOf g (d := d - 1) (by omega) hu4) ?_
            show sw_F _ _ _ _ _ _ 45 [(3, .int u2.1), (0, .ref a0), (1, .int a1), (2, .int a2)] [.int u4.1] u4.2
            obtain ⟨h5, hf⟩ := sw_gd_1 hf
            refine sf_blk [(.istore 4, 0, 0, .null), (.aload_n 0, 0, 0, .null), (.iload 4, 0, 0, .null)] (lv' := [(4, .int u4.1), (3, .int u2.1), (0, .ref a0), (1, .int a1), (2, .int a2)]) (st' := [.int u4.1, .ref a0]) (M1 := u4.2) (ob := []) (pc' := 50) (by decide +kernel) rfl rfl sw_a0 ?_
            obtain ⟨u6, hu6, hf⟩ := sw_bnd hf
            refine sf_callV (i := 517) (k2 := k_Model_twinsOf) (d2 := d - 1) (As := [.int u4.1]) (st := []) (q := a0) (ci := 12) mf_Model_twinsOf mi_Model_twinsOf ms_Model_twinsOf (sw_m8 110 (by decide +kernel)) rfl (by decide) (by decide +kernel) rfl (Nat.le_of_ble_eq_true rfl) (by omega) h5 (o_Model_twinsOf g (d := d - 1) (by omega) hu6) ?_
            show sw_F _ _ _ _ _ _ 53 [(4, .int u4.1), (3, .int u2.1), (0, .ref a0), (1, .int a1), (2, .int a2)] [.int u6.1] u6.2
            refine sf_blk [(.istore 5, 0, 0, .null), (.iconst (0), 0, 0, .int (0 : Int32)), (.istore 6, 0, 0, .null), (.iload_n 3, 0, 0, .null), (.iconst (1), 0, 0, .int (1 : Int32)), (.isub, 0, 0, .null), (.istore 7, 0, 0, .null)] (lv' := [(7, .int (u2.1 - (1 : Int32))), (6, .int (0 : Int32)), (5, .int u6.1), (4, .int u4.1), (3, .int u2.1), (0, .ref a0), (1, .int a1), (2, .int a2)]) (st' := []) (M1 := u6.2) (ob := []) (pc' := 63) (by decide +kernel) rfl rfl sw_a0 ?_
            exact sf_weak [5, 6, 7, 3, 2, 1, 0] rfl (t_Model_models_63 hd _ _ _ _ _ _ _ _ _ hf)
          · refine sf_blk [(.iload_n 3, 0, 0, .null)] (lv' := [(3, .int u2.1), (0, .ref a0), (1, .int a1), (2, .int a2)]) (st' := [.int u2.1]) (M1 := u2.2) (ob := []) (pc' := 39) (by decide +kernel) rfl rfl sw_a0 ?_
            cases hf
            exact sf_int rfl (by decide +kernel)
        · refine sf_blk [(.iconst (-1), 0, 0, .int (-1 : Int32))] (lv' := [(0, .ref a0), (1, .int a1), (2, .int a2)]) (st' := [.int (-1 : Int32)]) (M1 := (wr_I M a0 0 (0 : Int32))) (ob := []) (pc' := 27) (by decide +kernel) rfl rfl sw_a0 ?_
          cases hf
          exact sf_int rfl (by decide +kernel)
theorem o_Model_models (g : sw_G) {d : Nat} (hd : 8 ≤ d) {N : Nat} {a0 : Nat} {a1 : Int32} {a2 : Int32} {M : sw_M} {r : Int32 × sw_M} (hf : f_Model_models N a0 a1 a2 M = some r) : sw_Ok g k_Model_models d [.ref a0, .int a1, .int a2] M (some (.int r.1)) r.2 := sf_met (by decide +kernel) rfl (by decide) (Nat.le_of_ble_eq_true rfl) (t_Model_models hd hf)
def f_Model_isLine (N : Nat) (a0 : Int32) (a1 : Int32) (a2 : Int32) (a3 : Int32) (M : sw_M) : Option (Int32 × sw_M) :=
  (f_Model_isWithin N a0 a3 M).bind (fun u1 => if u1.1 = 0 then some ((0 : Int32), u1.2)
  else (f_Model_isWithin N a1 (999 : Int32) u1.2).bind (fun u2 => if u2.1 = 0 then some ((0 : Int32), u2.2)
  else (f_Model_isWithin N (a0 + ((a2 - (1 : Int32)) * a1)) a3 u2.2).bind (fun u3 => if u3.1 = 0 then some ((0 : Int32), u3.2)
  else some ((1 : Int32), u3.2))))
set_option maxRecDepth 10000 in
theorem t_Model_isLine {g : sw_G} {d n0 : Nat} (hd : 2 ≤ d) {r : Int32 × sw_M} {N : Nat} {a0 : Int32} {a1 : Int32} {a2 : Int32} {a3 : Int32} {M : sw_M} (hf : f_Model_isLine N a0 a1 a2 a3 M = some r) : sw_F g k_Model_isLine d n0 (some (.int r.1)) r.2 0 [(0, .int a0), (1, .int a1), (2, .int a2), (3, .int a3)] [] M := by
  unfold f_Model_isLine at hf
  refine sf_blk [(.iload_n 0, 0, 0, .null), (.iload_n 3, 0, 0, .null)] (lv' := [(0, .int a0), (1, .int a1), (2, .int a2), (3, .int a3)]) (st' := [.int a3, .int a0]) (M1 := M) (ob := []) (pc' := 2) (by decide +kernel) rfl rfl sw_a0 ?_
  obtain ⟨u1, hu1, hf⟩ := sw_bnd hf
  refine sf_callS (i := 333) (k2 := k_Model_isWithin) (d2 := d - 1) (As := [.int a0, .int a3]) (st := []) mf_Model_isWithin mi_Model_isWithin (sw_m7 128 (by decide +kernel)) (by decide +kernel) rfl (Nat.le_of_ble_eq_true rfl) (by omega) (o_Model_isWithin g (d := d - 1) (by omega) hu1) ?_
  show sw_F _ _ _ _ _ _ 5 [(0, .int a0), (1, .int a1), (2, .int a2), (3, .int a3)] [.int u1.1] u1.2
  refine sf_z_eq (off := 31) (tgt := 36) (by decide +kernel) (by decide) hf (fun hc hf => ?_) (fun hc hf => ?_)
  · refine sf_blk [(.iconst (0), 0, 0, .int (0 : Int32))] (lv' := [(0, .int a0), (1, .int a1), (2, .int a2), (3, .int a3)]) (st' := [.int (0 : Int32)]) (M1 := u1.2) (ob := []) (pc' := 37) (by decide +kernel) rfl rfl sw_a0 ?_
    cases hf
    exact sf_bool rfl rfl (by decide +kernel)
  · refine sf_blk [(.iload_n 1, 0, 0, .null), (.sipush (999), 0, 0, .int (999 : Int32))] (lv' := [(0, .int a0), (1, .int a1), (2, .int a2), (3, .int a3)]) (st' := [.int (999 : Int32), .int a1]) (M1 := u1.2) (ob := []) (pc' := 12) (by decide +kernel) rfl rfl sw_a0 ?_
    obtain ⟨u2, hu2, hf⟩ := sw_bnd hf
    refine sf_callS (i := 333) (k2 := k_Model_isWithin) (d2 := d - 1) (As := [.int a1, .int (999 : Int32)]) (st := []) mf_Model_isWithin mi_Model_isWithin (sw_m7 128 (by decide +kernel)) (by decide +kernel) rfl (Nat.le_of_ble_eq_true rfl) (by omega) (o_Model_isWithin g (d := d - 1) (by omega) hu2) ?_
    show sw_F _ _ _ _ _ _ 15 [(0, .int a0), (1, .int a1), (2, .int a2), (3, .int a3)] [.int u2.1] u2.2
    refine sf_z_eq (off := 21) (tgt := 36) (by decide +kernel) (by decide) hf (fun hc hf => ?_) (fun hc hf => ?_)
    · refine sf_blk [(.iconst (0), 0, 0, .int (0 : Int32))] (lv' := [(0, .int a0), (1, .int a1), (2, .int a2), (3, .int a3)]) (st' := [.int (0 : Int32)]) (M1 := u2.2) (ob := []) (pc' := 37) (by decide +kernel) rfl rfl sw_a0 ?_
      cases hf
      exact sf_bool rfl rfl (by decide +kernel)
    · refine sf_blk [(.iload_n 0, 0, 0, .null), (.iload_n 2, 0, 0, .null), (.iconst (1), 0, 0, .int (1 : Int32)), (.isub, 0, 0, .null), (.iload_n 1, 0, 0, .null), (.imul, 0, 0, .null), (.iadd, 0, 0, .null), (.iload_n 3, 0, 0, .null)] (lv' := [(0, .int a0), (1, .int a1), (2, .int a2), (3, .int a3)]) (st' := [.int a3, .int (a0 + ((a2 - (1 : Int32)) * a1))]) (M1 := u2.2) (ob := []) (pc' := 26) (by decide +kernel) rfl rfl sw_a0 ?_
      obtain ⟨u3, hu3, hf⟩ := sw_bnd hf
      refine sf_callS (i := 333) (k2 := k_Model_isWithin) (d2 := d - 1) (As := [.int (a0 + ((a2 - (1 : Int32)) * a1)), .int a3]) (st := []) mf_Model_isWithin mi_Model_isWithin (sw_m7 128 (by decide +kernel)) (by decide +kernel) rfl (Nat.le_of_ble_eq_true rfl) (by omega) (o_Model_isWithin g (d := d - 1) (by omega) hu3) ?_
      show sw_F _ _ _ _ _ _ 29 [(0, .int a0), (1, .int a1), (2, .int a2), (3, .int a3)] [.int u3.1] u3.2
      refine sf_z_eq (off := 7) (tgt := 36) (by decide +kernel) (by decide) hf (fun hc hf => ?_) (fun hc hf => ?_)
      · refine sf_blk [(.iconst (0), 0, 0, .int (0 : Int32))] (lv' := [(0, .int a0), (1, .int a1), (2, .int a2), (3, .int a3)]) (st' := [.int (0 : Int32)]) (M1 := u3.2) (ob := []) (pc' := 37) (by decide +kernel) rfl rfl sw_a0 ?_
        cases hf
        exact sf_bool rfl rfl (by decide +kernel)
      · refine sf_blk [(.iconst (1), 0, 0, .int (1 : Int32))] (lv' := [(0, .int a0), (1, .int a1), (2, .int a2), (3, .int a3)]) (st' := [.int (1 : Int32)]) (M1 := u3.2) (ob := []) (pc' := 33) (by decide +kernel) rfl rfl sw_a0 ?_
        refine sf_goto (off := 4) (tgt := 37) (by decide +kernel) (by decide) ?_
        cases hf
        exact sf_bool rfl rfl (by decide +kernel)
theorem o_Model_isLine (g : sw_G) {d : Nat} (hd : 2 ≤ d) {N : Nat} {a0 : Int32} {a1 : Int32} {a2 : Int32} {a3 : Int32} {M : sw_M} {r : Int32 × sw_M} (hf : f_Model_isLine N a0 a1 a2 a3 M = some r) : sw_Ok g k_Model_isLine d [.int a0, .int a1, .int a2, .int a3] M (some (.int r.1)) r.2 := sf_met (by decide +kernel) rfl (by decide) (Nat.le_of_ble_eq_true rfl) (t_Model_isLine hd hf)
def f_Model_trailOf_176 (N : Nat) (k5 : Nat → Int32 → Int64 → Int32 → sw_M → Option (Int64 × sw_M)) (a0 : Nat) (a1 : Int32) (a2 : Int64) (a4 : Int32) (M : sw_M) : Option (Int64 × sw_M) :=
  k5 a0 a1 a2 (a4 + (1 : Int32)) M
set_option maxRecDepth 10000 in
theorem t_Model_trailOf_176 {g : sw_G} {d n0 : Nat} (hd : 4 ≤ d) {r : Int64 × sw_M} (k5 : Nat → Int32 → Int64 → Int32 → sw_M → Option (Int64 × sw_M)) (hk5 : ∀ (a0 : Nat) (a1 : Int32) (a2 : Int64) (a4 : Int32) (M : sw_M), k5 a0 a1 a2 a4 M = some r → sw_F g k_Model_trailOf d n0 (some (.long r.1)) r.2 5 [(0, .ref a0), (1, .int a1), (2, .long a2), (4, .int a4)] [] M) {N : Nat} {a0 : Nat} {a1 : Int32} {a2 : Int64} {a4 : Int32} {M : sw_M} (hf : f_Model_trailOf_176 N k5 a0 a1 a2 a4 M = some r) : sw_F g k_Model_trailOf d n0 (some (.long r.1)) r.2 176 [(0, .ref a0), (1, .int a1), (2, .long a2), (4, .int a4)] [] M := by
  unfold f_Model_trailOf_176 at hf
  refine sf_blk [(.iinc 4 (1), 0, 0, .int (1 : Int32))] (lv' := [(4, .int (a4 + (1 : Int32))), (0, .ref a0), (1, .int a1), (2, .long a2)]) (st' := []) (M1 := M) (ob := []) (pc' := 179) (by decide +kernel) rfl rfl sw_a0 ?_
  refine sf_goto (off := -174) (tgt := 5) (by decide +kernel) (by decide) ?_
  exact sf_weak [1, 2, 3, 0] rfl (hk5 _ _ _ _ _ hf)
def f_Model_trailOf_161 (N : Nat) (k5 : Nat → Int32 → Int64 → Int32 → sw_M → Option (Int64 × sw_M)) (a0 : Nat) (a1 : Int32) (a2 : Int64) (a4 : Int32) (b0 : Int32) (M : sw_M) : Option (Int64 × sw_M) :=
  if b0 = (-1 : Int32) then f_Model_trailOf_176 N k5 a0 a1 a2 a4 M
  else f_Model_trailOf_176 N k5 a0 a1 (a2 ||| ((1 : Int64) <<< (b0.toInt64 &&& 63))) a4 M
set_option maxRecDepth 10000 in
theorem t_Model_trailOf_161 {g : sw_G} {d n0 : Nat} (hd : 4 ≤ d) {r : Int64 × sw_M} (k5 : Nat → Int32 → Int64 → Int32 → sw_M → Option (Int64 × sw_M)) (hk5 : ∀ (a0 : Nat) (a1 : Int32) (a2 : Int64) (a4 : Int32) (M : sw_M), k5 a0 a1 a2 a4 M = some r → sw_F g k_Model_trailOf d n0 (some (.long r.1)) r.2 5 [(0, .ref a0), (1, .int a1), (2, .long a2), (4, .int a4)] [] M) {N : Nat} {a0 : Nat} {a1 : Int32} {a2 : Int64} {a4 : Int32} {b0 : Int32} {M : sw_M} (hf : f_Model_trailOf_161 N k5 a0 a1 a2 a4 b0 M = some r) : sw_F g k_Model_trailOf d n0 (some (.long r.1)) r.2 161 [(0, .ref a0), (1, .int a1), (2, .long a2), (4, .int a4)] [.int b0] M := by
  unfold f_Model_trailOf_161 at hf
  refine sf_blk [(.istore 5, 0, 0, .null), (.iload 5, 0, 0, .null), (.iconst (-1), 0, 0, .int (-1 : Int32))] (lv' := [(5, .int b0), (0, .ref a0), (1, .int a1), (2, .long a2), (4, .int a4)]) (st' := [.int (-1 : Int32), .int b0]) (M1 := M) (ob := []) (pc' := 166) (by decide +kernel) rfl rfl sw_a0 ?_
  refine sf_j_eq (off := 10) (tgt := 176) (by decide +kernel) (by decide) hf (fun hc hf => ?_) (fun hc hf => ?_)
  · exact sf_weak [1, 2, 3, 4] rfl (t_Model_trailOf_176 hd _ hk5 hf)
  · refine sf_blk [(.lload_n 2, 0, 0, .null), (.lconst 1, 0, 0, .long (1 : Int64)), (.iload 5, 0, 0, .null), (.lshl, 0, 0, .null), (.lor, 0, 0, .null), (.lstore_n 2, 0, 0, .null)] (lv' := [(2, .long (a2 ||| ((1 : Int64) <<< (b0.toInt64 &&& 63)))), (5, .int b0), (0, .ref a0), (1, .int a1), (4, .int a4)]) (st' := []) (M1 := M) (ob := []) (pc' := 176) (by decide +kernel) rfl rfl sw_a0 ?_
    exact sf_weak [2, 3, 0, 4] rfl (t_Model_trailOf_176 hd _ hk5 hf)
def f_Model_trailOf_138 (N : Nat) (k5 : Nat → Int32 → Int64 → Int32 → sw_M → Option (Int64 × sw_M)) (a0 : Nat) (a1 : Int32) (a2 : Int64) (a4 : Int32) (M : sw_M) : Option (Int64 × sw_M) :=
  sw_gd [sw_ok M a0 12] ((f_Model_isGone N a0 M).bind (fun u2 => if u2.1 = 0 then sw_gd [sw_ok u2.2 a0 12] ((f_Model_cellOf N a0 (rd_L u2.2 a0 39) (rd_L u2.2 a0 40) u2.2).bind (fun u4 => f_Model_trailOf_161 N k5 a0 a1 a2 a4 u4.1 u4.2))
  else f_Model_trailOf_161 N k5 a0 a1 a2 a4 (-1 : Int32) u2.2))
set_option maxRecDepth 10000 in
theorem t_Model_trailOf_138 {g : sw_G} {d n0 : Nat} (hd : 4 ≤ d) {r : Int64 × sw_M} (k5 : Nat → Int32 → Int64 → Int32 → sw_M → Option (Int64 × sw_M)) (hk5 : ∀ (a0 : Nat) (a1 : Int32) (a2 : Int64) (a4 : Int32) (M : sw_M), k5 a0 a1 a2 a4 M = some r → sw_F g k_Model_trailOf d n0 (some (.long r.1)) r.2 5 [(0, .ref a0), (1, .int a1), (2, .long a2), (4, .int a4)] [] M) {N : Nat} {a0 : Nat} {a1 : Int32} {a2 : Int64} {a4 : Int32} {M : sw_M} (hf : f_Model_trailOf_138 N k5 a0 a1 a2 a4 M = some r) : sw_F g k_Model_trailOf d n0 (some (.long r.1)) r.2 138 [(0, .ref a0), (1, .int a1), (2, .long a2), (4, .int a4)] [] M := by
  unfold f_Model_trailOf_138 at hf
  obtain ⟨h1, hf⟩ := sw_gd_1 hf
  refine sf_blk [(.aload_n 0, 0, 0, .null)] (lv' := [(0, .ref a0), (1, .int a1), (2, .long a2), (4, .int a4)]) (st' := [.ref a0]) (M1 := M) (ob := []) (pc' := 139) (by decide +kernel) rfl rfl sw_a0 ?_
  obtain ⟨u2, hu2, hf⟩ := sw_bnd hf
  refine sf_callV (i := 394) (k2 := k_Model_isGone) (d2 := d - 1) (As := []) (st := []) (q := a0) (ci := 12) mf_Model_isGone mi_Model_isGone ms_Model_isGone (sw_m7 160 (by decide +kernel)) rfl (by decide) (by decide +kernel) rfl (Nat.le_of_ble_eq_true rfl) (by omega) h1 (o_Model_isGone g (d := d - 1) (by omega) hu2) ?_
  show sw_F _ _ _ _ _ _ 142 [(0, .ref a0), (1, .int a1), (2, .long a2), (4, .int a4)] [.int u2.1] u2.2
  refine sf_z_eq (off := 7) (tgt := 149) (by decide +kernel) (by decide) hf (fun hc hf => ?_) (fun hc hf => ?_)
  · obtain ⟨h3, hf⟩ := sw_gd_1 hf
    refine sf_blk [(.aload_n 0, 0, 0, .null), (.aload_n 0, 0, 0, .null), (.getfield 351, 12, 39, .null), (.aload_n 0, 0, 0, .null), (.getfield 354, 12, 40, .null)] (lv' := [(0, .ref a0), (1, .int a1), (2, .long a2), (4, .int a4)]) (st' := [.long (rd_L u2.2 a0 40), .long (rd_L u2.2 a0 39), .ref a0]) (M1 := u2.2) (ob := [sw_ok u2.2 a0 12, sw_ok u2.2 a0 12]) (pc' := 158) (by decide +kernel) rfl rfl (sw_a1 h3 (sw_a1 h3 sw_a0)) ?_
    obtain ⟨u4, hu4, hf⟩ := sw_bnd hf
    refine sf_callV (i := 455) (k2 := k_Model_cellOf) (d2 := d - 1) (As := [.long (rd_L u2.2 a0 39), .long (rd_L u2.2 a0 40)]) (st := []) (q := a0) (ci := 12) mf_Model_cellOf mi_Model_cellOf ms_Model_cellOf (sw_m8 24 (by decide +kernel)) rfl (by decide) (by decide +kernel) rfl (Nat.le_of_ble_eq_true rfl) (by omega) h3 (o_Model_cellOf g (d := d - 1) (by omega) hu4) ?_
    show sw_F _ _ _ _ _ _ 161 [(0, .ref a0), (1, .int a1), (2, .long a2), (4, .int a4)] [.int u4.1] u4.2
    exact sf_weak [0, 1, 2, 3] rfl (t_Model_trailOf_161 hd _ hk5 hf)
  · refine sf_blk [(.iconst (-1), 0, 0, .int (-1 : Int32))] (lv' := [(0, .ref a0), (1, .int a1), (2, .long a2), (4, .int a4)]) (st' := [.int (-1 : Int32)]) (M1 := u2.2) (ob := []) (pc' := 146) (by decide +kernel) rfl rfl sw_a0 ?_
    refine sf_goto (off := 15) (tgt := 161) (by decide +kernel) (by decide) ?_
    exact sf_weak [0, 1, 2, 3] rfl (t_Model_trailOf_161 hd _ hk5 hf)
def f_Model_trailOf_106 (N : Nat) (k5 : Nat → Int32 → Int64 → Int32 → sw_M → Option (Int64 × sw_M)) : Nat → Nat → Int32 → Int64 → Int32 → Int32 → sw_M → Option (Int64 × sw_M)
  | 0, _, _, _, _, _, _ => none
  | j + 1, a0, a1, a2, a4, a5, M =>
  sw_gd [sw_ok M a0 12] (sw_gd [sw_ar M (rd_R M a0 90) 13 (9 : Int32)] (if (rd_I M (rd_R M a0 90) (9 : Int32).toNatClampNeg) ≤ a5 then f_Model_trailOf_138 N k5 a0 a1 a2 a4 M
  else (f_Model_isGone N a0 M).bind (fun u3 => if u3.1 = 0 then sw_gd [sw_ok u3.2 a0 12] ((f_Model_steps N a0 a5 a1 u3.2).bind (fun u5 => f_Model_trailOf_106 N k5 j a0 a1 a2 a4 (a5 + (1 : Int32)) u5))
  else f_Model_trailOf_138 N k5 a0 a1 a2 a4 u3.2)))
set_option maxRecDepth 10000 in
theorem t_Model_trailOf_106 {g : sw_G} {d n0 : Nat} (hd : 4 ≤ d) {r : Int64 × sw_M} (k5 : Nat → Int32 → Int64 → Int32 → sw_M → Option (Int64 × sw_M)) (hk5 : ∀ (a0 : Nat) (a1 : Int32) (a2 : Int64) (a4 : Int32) (M : sw_M), k5 a0 a1 a2 a4 M = some r → sw_F g k_Model_trailOf d n0 (some (.long r.1)) r.2 5 [(0, .ref a0), (1, .int a1), (2, .long a2), (4, .int a4)] [] M) {N : Nat} : ∀ (j : Nat) (a0 : Nat) (a1 : Int32) (a2 : Int64) (a4 : Int32) (a5 : Int32) (M : sw_M), f_Model_trailOf_106 N k5 j a0 a1 a2 a4 a5 M = some r → sw_F g k_Model_trailOf d n0 (some (.long r.1)) r.2 106 [(0, .ref a0), (1, .int a1), (2, .long a2), (4, .int a4), (5, .int a5)] [] M := by
  intro j
  induction j with
  | zero =>
    intro a0 a1 a2 a4 a5 M hf
    rw [f_Model_trailOf_106] at hf
    cases hf
  | succ j ih =>
    intro a0 a1 a2 a4 a5 M hf
    rw [f_Model_trailOf_106] at hf
    obtain ⟨h1, hf⟩ := sw_gd_1 hf
    obtain ⟨h2, hf⟩ := sw_gd_1 hf
    refine sf_blk [(.iload 5, 0, 0, .null), (.aload_n 0, 0, 0, .null), (.getfield 160, 12, 90, .null), (.bipush (9), 0, 0, .int (9 : Int32)), (.iaload, 0, 0, .null)] (lv' := [(0, .ref a0), (1, .int a1), (2, .long a2), (4, .int a4), (5, .int a5)]) (st' := [.int (rd_I M (rd_R M a0 90) (9 : Int32).toNatClampNeg), .int a5]) (M1 := M) (ob := [sw_ok M a0 12, sw_ar M (rd_R M a0 90) 13 (9 : Int32)]) (pc' := 115) (by decide +kernel) rfl rfl (sw_a1 h1 (sw_a1 h2 sw_a0)) ?_
    refine sf_j_ge (off := 23) (tgt := 138) (by decide +kernel) (by decide) hf (fun hc hf => ?_) (fun hc hf => ?_)
    · exact sf_weak [0, 1, 2, 3] rfl (t_Model_trailOf_138 hd _ hk5 hf)
    · refine sf_blk [(.aload_n 0, 0, 0, .null)] (lv' := [(0, .ref a0), (1, .int a1), (2, .long a2), (4, .int a4), (5, .int a5)]) (st' := [.ref a0]) (M1 := M) (ob := []) (pc' := 119) (by decide +kernel) rfl rfl sw_a0 ?_
      obtain ⟨u3, hu3, hf⟩ := sw_bnd hf
      refine sf_callV (i := 394) (k2 := k_Model_isGone) (d2 := d - 1) (As := []) (st := []) (q := a0) (ci := 12) mf_Model_isGone mi_Model_isGone ms_Model_isGone (sw_m7 160 (by decide +kernel)) rfl (by decide) (by decide +kernel) rfl (Nat.le_of_ble_eq_true rfl) (by omega) h1 (o_Model_isGone g (d := d - 1) (by omega) hu3) ?_
      show sw_F _ _ _ _ _ _ 122 [(0, .ref a0), (1, .int a1), (2, .long a2), (4, .int a4), (5, .int a5)] [.int u3.1] u3.2
      refine sf_z_ne (off := 16) (tgt := 138) (by decide +kernel) (by decide) hf (fun hc hf => ?_) (fun hc hf => ?_)
      · exact sf_weak [0, 1, 2, 3] rfl (t_Model_trailOf_138 hd _ hk5 hf)
      · obtain ⟨h4, hf⟩ := sw_gd_1 hf
        refine sf_blk [(.aload_n 0, 0, 0, .null), (.iload 5, 0, 0, .null), (.iload_n 1, 0, 0, .null)] (lv' := [(0, .ref a0), (1, .int a1), (2, .long a2), (4, .int a4), (5, .int a5)]) (st' := [.int a1, .int a5, .ref a0]) (M1 := u3.2) (ob := []) (pc' := 129) (by decide +kernel) rfl rfl sw_a0 ?_
        obtain ⟨u5, hu5, hf⟩ := sw_bnd hf
        refine sf_callV (i := 391) (k2 := k_Model_steps) (d2 := d - 1) (As := [.int a5, .int a1]) (st := []) (q := a0) (ci := 12) mf_Model_steps mi_Model_steps ms_Model_steps (sw_m7 156 (by decide +kernel)) rfl (by decide) (by decide +kernel) rfl (Nat.le_of_ble_eq_true rfl) (by omega) h4 (o_Model_steps g (d := d - 1) (by omega) hu5) ?_
        show sw_F _ _ _ _ _ _ 132 [(0, .ref a0), (1, .int a1), (2, .long a2), (4, .int a4), (5, .int a5)] [] u5
        refine sf_blk [(.iinc 5 (1), 0, 0, .int (1 : Int32))] (lv' := [(5, .int (a5 + (1 : Int32))), (0, .ref a0), (1, .int a1), (2, .long a2), (4, .int a4)]) (st' := []) (M1 := u5) (ob := []) (pc' := 135) (by decide +kernel) rfl rfl sw_a0 ?_
        refine sf_goto (off := -29) (tgt := 106) (by decide +kernel) (by decide) ?_
        exact sf_weak [1, 2, 3, 4, 0] rfl (ih _ _ _ _ _ _ hf)
def f_Model_trailOf_81 (N : Nat) (k5 : Nat → Int32 → Int64 → Int32 → sw_M → Option (Int64 × sw_M)) (a0 : Nat) (a1 : Int32) (a2 : Int64) (a4 : Int32) (M : sw_M) : Option (Int64 × sw_M) :=
  sw_gd [sw_ok M a0 12] (sw_gd [sw_ar M (rd_R M a0 90) 13 (3 : Int32)] (sw_gd [sw_ar M (rd_R M a0 90) 13 (7 : Int32)] (f_Model_trailOf_106 N k5 N a0 a1 a2 a4 (0 : Int32) (wr_L M a0 42 ((rd_I M (rd_R M a0 90) (3 : Int32).toNatClampNeg) + (a4 * (rd_I M (rd_R M a0 90) (7 : Int32).toNatClampNeg))).toInt64))))
set_option maxRecDepth 10000 in
theorem t_Model_trailOf_81 {g : sw_G} {d n0 : Nat} (hd : 4 ≤ d) {r : Int64 × sw_M} (k5 : Nat → Int32 → Int64 → Int32 → sw_M → Option (Int64 × sw_M)) (hk5 : ∀ (a0 : Nat) (a1 : Int32) (a2 : Int64) (a4 : Int32) (M : sw_M), k5 a0 a1 a2 a4 M = some r → sw_F g k_Model_trailOf d n0 (some (.long r.1)) r.2 5 [(0, .ref a0), (1, .int a1), (2, .long a2), (4, .int a4)] [] M) {N : Nat} {a0 : Nat} {a1 : Int32} {a2 : Int64} {a4 : Int32} {M : sw_M} (hf : f_Model_trailOf_81 N k5 a0 a1 a2 a4 M = some r) : sw_F g k_Model_trailOf d n0 (some (.long r.1)) r.2 81 [(0, .ref a0), (1, .int a1), (2, .long a2), (4, .int a4)] [] M := by
  unfold f_Model_trailOf_81 at hf
  obtain ⟨h1, hf⟩ := sw_gd_1 hf
  obtain ⟨h2, hf⟩ := sw_gd_1 hf
  obtain ⟨h3, hf⟩ := sw_gd_1 hf
  refine sf_blk [(.aload_n 0, 0, 0, .null), (.aload_n 0, 0, 0, .null), (.getfield 160, 12, 90, .null), (.iconst (3), 0, 0, .int (3 : Int32)), (.iaload, 0, 0, .null), (.iload 4, 0, 0, .null), (.aload_n 0, 0, 0, .null), (.getfield 160, 12, 90, .null), (.bipush (7), 0, 0, .int (7 : Int32)), (.iaload, 0, 0, .null), (.imul, 0, 0, .null), (.iadd, 0, 0, .null), (.i2l, 0, 0, .null), (.putfield 360, 12, 42, .null), (.iconst (0), 0, 0, .int (0 : Int32)), (.istore 5, 0, 0, .null)] (lv' := [(5, .int (0 : Int32)), (0, .ref a0), (1, .int a1), (2, .long a2), (4, .int a4)]) (st' := []) (M1 := (wr_L M a0 42 ((rd_I M (rd_R M a0 90) (3 : Int32).toNatClampNeg) + (a4 * (rd_I M (rd_R M a0 90) (7 : Int32).toNatClampNeg))).toInt64)) (ob := [sw_ok M a0 12, sw_ar M (rd_R M a0 90) 13 (3 : Int32), sw_ok M a0 12, sw_ar M (rd_R M a0 90) 13 (7 : Int32), sw_ok M a0 12]) (pc' := 106) (by decide +kernel) rfl rfl (sw_a1 h1 (sw_a1 h2 (sw_a1 h1 (sw_a1 h3 (sw_a1 h1 sw_a0))))) ?_
  exact sf_weak [1, 2, 3, 4, 0] rfl (t_Model_trailOf_106 hd _ hk5 _ _ _ _ _ _ _ hf)
def f_Model_trailOf_5 (N : Nat) : Nat → Nat → Int32 → Int64 → Int32 → sw_M → Option (Int64 × sw_M)
  | 0, _, _, _, _, _ => none
  | j + 1, a0, a1, a2, a4, M =>
  sw_gd [sw_ok M a0 12] (sw_gd [sw_ar M (rd_R M a0 90) 13 (8 : Int32)] (if (rd_I M (rd_R M a0 90) (8 : Int32).toNatClampNeg) ≤ a4 then some (a2, M)
  else sw_gd [sw_ar M (rd_R M a0 90) 13 (0 : Int32)] (sw_gd [sw_ar M (rd_R M a0 90) 13 (4 : Int32)] (sw_gd [sw_ar (wr_L M a0 39 ((rd_I M (rd_R M a0 90) (0 : Int32).toNatClampNeg) + (a4 * (rd_I M (rd_R M a0 90) (4 : Int32).toNatClampNeg))).toInt64) (rd_R (wr_L M a0 39 ((rd_I M (rd_R M a0 90) (0 : Int32).toNatClampNeg) + (a4 * (rd_I M (rd_R M a0 90) (4 : Int32).toNatClampNeg))).toInt64) a0 90) 13 (1 : Int32)] (sw_gd [sw_ar (wr_L M a0 39 ((rd_I M (rd_R M a0 90) (0 : Int32).toNatClampNeg) + (a4 * (rd_I M (rd_R M a0 90) (4 : Int32).toNatClampNeg))).toInt64) (rd_R (wr_L M a0 39 ((rd_I M (rd_R M a0 90) (0 : Int32).toNatClampNeg) + (a4 * (rd_I M (rd_R M a0 90) (4 : Int32).toNatClampNeg))).toInt64) a0 90) 13 (5 : Int32)] (sw_gd [sw_ar (wr_L (wr_L M a0 39 ((rd_I M (rd_R M a0 90) (0 : Int32).toNatClampNeg) + (a4 * (rd_I M (rd_R M a0 90) (4 : Int32).toNatClampNeg))).toInt64) a0 40 ((rd_I (wr_L M a0 39 ((rd_I M (rd_R M a0 90) (0 : Int32).toNatClampNeg) + (a4 * (rd_I M (rd_R M a0 90) (4 : Int32).toNatClampNeg))).toInt64) (rd_R (wr_L M a0 39 ((rd_I M (rd_R M a0 90) (0 : Int32).toNatClampNeg) + (a4 * (rd_I M (rd_R M a0 90) (4 : Int32).toNatClampNeg))).toInt64) a0 90) (1 : Int32).toNatClampNeg) + (a4 * (rd_I (wr_L M a0 39 ((rd_I M (rd_R M a0 90) (0 : Int32).toNatClampNeg) + (a4 * (rd_I M (rd_R M a0 90) (4 : Int32).toNatClampNeg))).toInt64) (rd_R (wr_L M a0 39 ((rd_I M (rd_R M a0 90) (0 : Int32).toNatClampNeg) + (a4 * (rd_I M (rd_R M a0 90) (4 : Int32).toNatClampNeg))).toInt64) a0 90) (5 : Int32).toNatClampNeg))).toInt64) (rd_R (wr_L (wr_L M a0 39 ((rd_I M (rd_R M a0 90) (0 : Int32).toNatClampNeg) + (a4 * (rd_I M (rd_R M a0 90) (4 : Int32).toNatClampNeg))).toInt64) a0 40 ((rd_I (wr_L M a0 39 ((rd_I M (rd_R M a0 90) (0 : Int32).toNatClampNeg) + (a4 * (rd_I M (rd_R M a0 90) (4 : Int32).toNatClampNeg))).toInt64) (rd_R (wr_L M a0 39 ((rd_I M (rd_R M a0 90) (0 : Int32).toNatClampNeg) + (a4 * (rd_I M (rd_R M a0 90) (4 : Int32).toNatClampNeg))).toInt64) a0 90) (1 : Int32).toNatClampNeg) + (a4 * (rd_I (wr_L M a0 39 ((rd_I M (rd_R M a0 90) (0 : Int32).toNatClampNeg) + (a4 * (rd_I M (rd_R M a0 90) (4 : Int32).toNatClampNeg))).toInt64) (rd_R (wr_L M a0 39 ((rd_I M (rd_R M a0 90) (0 : Int32).toNatClampNeg) + (a4 * (rd_I M (rd_R M a0 90) (4 : Int32).toNatClampNeg))).toInt64) a0 90) (5 : Int32).toNatClampNeg))).toInt64) a0 90) 13 (2 : Int32)] (sw_gd [sw_ar (wr_L (wr_L M a0 39 ((rd_I M (rd_R M a0 90) (0 : Int32).toNatClampNeg) + (a4 * (rd_I M (rd_R M a0 90) (4 : Int32).toNatClampNeg))).toInt64) a0 40 ((rd_I (wr_L M a0 39 ((rd_I M (rd_R M a0 90) (0 : Int32).toNatClampNeg) + (a4 * (rd_I M (rd_R M a0 90) (4 : Int32).toNatClampNeg))).toInt64) (rd_R (wr_L M a0 39 ((rd_I M (rd_R M a0 90) (0 : Int32).toNatClampNeg) + (a4 * (rd_I M (rd_R M a0 90) (4 : Int32).toNatClampNeg))).toInt64) a0 90) (1 : Int32).toNatClampNeg) + (a4 * (rd_I (wr_L M a0 39 ((rd_I M (rd_R M a0 90) (0 : Int32).toNatClampNeg) + (a4 * (rd_I M (rd_R M a0 90) (4 : Int32).toNatClampNeg))).toInt64) (rd_R (wr_L M a0 39 ((rd_I M (rd_R M a0 90) (0 : Int32).toNatClampNeg) + (a4 * (rd_I M (rd_R M a0 90) (4 : Int32).toNatClampNeg))).toInt64) a0 90) (5 : Int32).toNatClampNeg))).toInt64) (rd_R (wr_L (wr_L M a0 39 ((rd_I M (rd_R M a0 90) (0 : Int32).toNatClampNeg) + (a4 * (rd_I M (rd_R M a0 90) (4 : Int32).toNatClampNeg))).toInt64) a0 40 ((rd_I (wr_L M a0 39 ((rd_I M (rd_R M a0 90) (0 : Int32).toNatClampNeg) + (a4 * (rd_I M (rd_R M a0 90) (4 : Int32).toNatClampNeg))).toInt64) (rd_R (wr_L M a0 39 ((rd_I M (rd_R M a0 90) (0 : Int32).toNatClampNeg) + (a4 * (rd_I M (rd_R M a0 90) (4 : Int32).toNatClampNeg))).toInt64) a0 90) (1 : Int32).toNatClampNeg) + (a4 * (rd_I (wr_L M a0 39 ((rd_I M (rd_R M a0 90) (0 : Int32).toNatClampNeg) + (a4 * (rd_I M (rd_R M a0 90) (4 : Int32).toNatClampNeg))).toInt64) (rd_R (wr_L M a0 39 ((rd_I M (rd_R M a0 90) (0 : Int32).toNatClampNeg) + (a4 * (rd_I M (rd_R M a0 90) (4 : Int32).toNatClampNeg))).toInt64) a0 90) (5 : Int32).toNatClampNeg))).toInt64) a0 90) 13 (6 : Int32)] (f_Model_trailOf_81 N (f_Model_trailOf_5 N j) a0 a1 a2 a4 (wr_L (wr_L (wr_L M a0 39 ((rd_I M (rd_R M a0 90) (0 : Int32).toNatClampNeg) + (a4 * (rd_I M (rd_R M a0 90) (4 : Int32).toNatClampNeg))).toInt64) a0 40 ((rd_I (wr_L M a0 39 ((rd_I M (rd_R M a0 90) (0 : Int32).toNatClampNeg) + (a4 * (rd_I M (rd_R M a0 90) (4 : Int32).toNatClampNeg))).toInt64) (rd_R (wr_L M a0 39 ((rd_I M (rd_R M a0 90) (0 : Int32).toNatClampNeg) + (a4 * (rd_I M (rd_R M a0 90) (4 : Int32).toNatClampNeg))).toInt64) a0 90) (1 : Int32).toNatClampNeg) + (a4 * (rd_I (wr_L M a0 39 ((rd_I M (rd_R M a0 90) (0 : Int32).toNatClampNeg) + (a4 * (rd_I M (rd_R M a0 90) (4 : Int32).toNatClampNeg))).toInt64) (rd_R (wr_L M a0 39 ((rd_I M (rd_R M a0 90) (0 : Int32).toNatClampNeg) + (a4 * (rd_I M (rd_R M a0 90) (4 : Int32).toNatClampNeg))).toInt64) a0 90) (5 : Int32).toNatClampNeg))).toInt64) a0 41 ((rd_I (wr_L (wr_L M a0 39 ((rd_I M (rd_R M a0 90) (0 : Int32).toNatClampNeg) + (a4 * (rd_I M (rd_R M a0 90) (4 : Int32).toNatClampNeg))).toInt64) a0 40 ((rd_I (wr_L M a0 39 ((rd_I M (rd_R M a0 90) (0 : Int32).toNatClampNeg) + (a4 * (rd_I M (rd_R M a0 90) (4 : Int32).toNatClampNeg))).toInt64) (rd_R (wr_L M a0 39 ((rd_I M (rd_R M a0 90) (0 : Int32).toNatClampNeg) + (a4 * (rd_I M (rd_R M a0 90) (4 : Int32).toNatClampNeg))).toInt64) a0 90) (1 : Int32).toNatClampNeg) + (a4 * (rd_I (wr_L M a0 39 ((rd_I M (rd_R M a0 90) (0 : Int32).toNatClampNeg) + (a4 * (rd_I M (rd_R M a0 90) (4 : Int32).toNatClampNeg))).toInt64) (rd_R (wr_L M a0 39 ((rd_I M (rd_R M a0 90) (0 : Int32).toNatClampNeg) + (a4 * (rd_I M (rd_R M a0 90) (4 : Int32).toNatClampNeg))).toInt64) a0 90) (5 : Int32).toNatClampNeg))).toInt64) (rd_R (wr_L (wr_L M a0 39 ((rd_I M (rd_R M a0 90) (0 : Int32).toNatClampNeg) + (a4 * (rd_I M (rd_R M a0 90) (4 : Int32).toNatClampNeg))).toInt64) a0 40 ((rd_I (wr_L M a0 39 ((rd_I M (rd_R M a0 90) (0 : Int32).toNatClampNeg) + (a4 * (rd_I M (rd_R M a0 90) (4 : Int32).toNatClampNeg))).toInt64) (rd_R (wr_L M a0 39 ((rd_I M (rd_R M a0 90) (0 : Int32).toNatClampNeg) + (a4 * (rd_I M (rd_R M a0 90) (4 : Int32).toNatClampNeg))).toInt64) a0 90) (1 : Int32).toNatClampNeg) + (a4 * (rd_I (wr_L M a0 39 ((rd_I M (rd_R M a0 90) (0 : Int32).toNatClampNeg) + (a4 * (rd_I M (rd_R M a0 90) (4 : Int32).toNatClampNeg))).toInt64) (rd_R (wr_L M a0 39 ((rd_I M (rd_R M a0 90) (0 : Int32).toNatClampNeg) + (a4 * (rd_I M (rd_R M a0 90) (4 : Int32).toNatClampNeg))).toInt64) a0 90) (5 : Int32).toNatClampNeg))).toInt64) a0 90) (2 : Int32).toNatClampNeg) + (a4 * (rd_I (wr_L (wr_L M a0 39 ((rd_I M (rd_R M a0 90) (0 : Int32).toNatClampNeg) + (a4 * (rd_I M (rd_R M a0 90) (4 : Int32).toNatClampNeg))).toInt64) a0 40 ((rd_I (wr_L M a0 39 ((rd_I M (rd_R M a0 90) (0 : Int32).toNatClampNeg) + (a4 * (rd_I M (rd_R M a0 90) (4 : Int32).toNatClampNeg))).toInt64) (rd_R (wr_L M a0 39 ((rd_I M (rd_R M a0 90) (0 : Int32).toNatClampNeg) + (a4 * (rd_I M (rd_R M a0 90) (4 : Int32).toNatClampNeg))).toInt64) a0 90) (1 : Int32).toNatClampNeg) + (a4 * (rd_I (wr_L M a0 39 ((rd_I M (rd_R M a0 90) (0 : Int32).toNatClampNeg) + (a4 * (rd_I M (rd_R M a0 90) (4 : Int32).toNatClampNeg))).toInt64) (rd_R (wr_L M a0 39 ((rd_I M (rd_R M a0 90) (0 : Int32).toNatClampNeg) + (a4 * (rd_I M (rd_R M a0 90) (4 : Int32).toNatClampNeg))).toInt64) a0 90) (5 : Int32).toNatClampNeg))).toInt64) (rd_R (wr_L (wr_L M a0 39 ((rd_I M (rd_R M a0 90) (0 : Int32).toNatClampNeg) + (a4 * (rd_I M (rd_R M a0 90) (4 : Int32).toNatClampNeg))).toInt64) a0 40 ((rd_I (wr_L M a0 39 ((rd_I M (rd_R M a0 90) (0 : Int32).toNatClampNeg) + (a4 * (rd_I M (rd_R M a0 90) (4 : Int32).toNatClampNeg))).toInt64) (rd_R (wr_L M a0 39 ((rd_I M (rd_R M a0 90) (0 : Int32).toNatClampNeg) + (a4 * (rd_I M (rd_R M a0 90) (4 : Int32).toNatClampNeg))).toInt64) a0 90) (1 : Int32).toNatClampNeg) + (a4 * (rd_I (wr_L M a0 39 ((rd_I M (rd_R M a0 90) (0 : Int32).toNatClampNeg) + (a4 * (rd_I M (rd_R M a0 90) (4 : Int32).toNatClampNeg))).toInt64) (rd_R (wr_L M a0 39 ((rd_I M (rd_R M a0 90) (0 : Int32).toNatClampNeg) + (a4 * (rd_I M (rd_R M a0 90) (4 : Int32).toNatClampNeg))).toInt64) a0 90) (5 : Int32).toNatClampNeg))).toInt64) a0 90) (6 : Int32).toNatClampNeg))).toInt64)))))))))
set_option maxRecDepth 10000 in
theorem t_Model_trailOf_5 {g : sw_G} {d n0 : Nat} (hd : 4 ≤ d) {r : Int64 × sw_M} {N : Nat} : ∀ (j : Nat) (a0 : Nat) (a1 : Int32) (a2 : Int64) (a4 : Int32) (M : sw_M), f_Model_trailOf_5 N j a0 a1 a2 a4 M = some r → sw_F g k_Model_trailOf d n0 (some (.long r.1)) r.2 5 [(0, .ref a0), (1, .int a1), (2, .long a2), (4, .int a4)] [] M := by
  intro j
  induction j with
  | zero =>
    intro a0 a1 a2 a4 M hf
    rw [f_Model_trailOf_5] at hf
    cases hf
  | succ j ih =>
    intro a0 a1 a2 a4 M hf
    rw [f_Model_trailOf_5] at hf
    obtain ⟨h1, hf⟩ := sw_gd_1 hf
    obtain ⟨h2, hf⟩ := sw_gd_1 hf
    refine sf_blk [(.iload 4, 0, 0, .null), (.aload_n 0, 0, 0, .null), (.getfield 160, 12, 90, .null), (.bipush (8), 0, 0, .int (8 : Int32)), (.iaload, 0, 0, .null)] (lv' := [(0, .ref a0), (1, .int a1), (2, .long a2), (4, .int a4)]) (st' := [.int (rd_I M (rd_R M a0 90) (8 : Int32).toNatClampNeg), .int a4]) (M1 := M) (ob := [sw_ok M a0 12, sw_ar M (rd_R M a0 90) 13 (8 : Int32)]) (pc' := 14) (by decide +kernel) rfl rfl (sw_a1 h1 (sw_a1 h2 sw_a0)) ?_
    refine sf_j_ge (off := 168) (tgt := 182) (by decide +kernel) (by decide) hf (fun hc hf => ?_) (fun hc hf => ?_)
    · refine sf_blk [(.lload_n 2, 0, 0, .null)] (lv' := [(0, .ref a0), (1, .int a1), (2, .long a2), (4, .int a4)]) (st' := [.long a2]) (M1 := M) (ob := []) (pc' := 183) (by decide +kernel) rfl rfl sw_a0 ?_
      cases hf
      exact sf_long rfl (by decide +kernel)
    · obtain ⟨h3, hf⟩ := sw_gd_1 hf
      obtain ⟨h4, hf⟩ := sw_gd_1 hf
      obtain ⟨h5, hf⟩ := sw_gd_1 hf
      obtain ⟨h6, hf⟩ := sw_gd_1 hf
      obtain ⟨h7, hf⟩ := sw_gd_1 hf
      obtain ⟨h8, hf⟩ := sw_gd_1 hf
      refine sf_blk [(.aload_n 0, 0, 0, .null), (.aload_n 0, 0, 0, .null), (.getfield 160, 12, 90, .null), (.iconst (0), 0, 0, .int (0 : Int32)), (.iaload, 0, 0, .null), (.iload 4, 0, 0, .null), (.aload_n 0, 0, 0, .null), (.getfield 160, 12, 90, .null), (.iconst (4), 0, 0, .int (4 : Int32)), (.iaload, 0, 0, .null), (.imul, 0, 0, .null), (.iadd, 0, 0, .null), (.i2l, 0, 0, .null), (.putfield 351, 12, 39, .null), (.aload_n 0, 0, 0, .null), (.aload_n 0, 0, 0, .null), (.getfield 160, 12, 90, .null), (.iconst (1), 0, 0, .int (1 : Int32)), (.iaload, 0, 0, .null), (.iload 4, 0, 0, .null), (.aload_n 0, 0, 0, .null), (.getfield 160, 12, 90, .null), (.iconst (5), 0, 0, .int (5 : Int32)), (.iaload, 0, 0, .null), (.imul, 0, 0, .null), (.iadd, 0, 0, .null), (.i2l, 0, 0, .null), (.putfield 354, 12, 40, .null), (.aload_n 0, 0, 0, .null), (.aload_n 0, 0, 0, .null), (.getfield 160, 12, 90, .null), (.iconst (2), 0, 0, .int (2 : Int32)), (.iaload, 0, 0, .null), (.iload 4, 0, 0, .null), (.aload_n 0, 0, 0, .null), (.getfield 160, 12, 90, .null), (.bipush (6), 0, 0, .int (6 : Int32)), (.iaload, 0, 0, .null), (.imul, 0, 0, .null), (.iadd, 0, 0, .null), (.i2l, 0, 0, .null), (.putfield 357, 12, 41, .null)] (lv' := [(0, .ref a0), (1, .int a1), (2, .long a2), (4, .int a4)]) (st' := []) (M1 := (wr_L (wr_L (wr_L M a0 39 ((rd_I M (rd_R M a0 90) (0 : Int32).toNatClampNeg) + (a4 * (rd_I M (rd_R M a0 90) (4 : Int32).toNatClampNeg))).toInt64) a0 40 ((rd_I (wr_L M a0 39 ((rd_I M (rd_R M a0 90) (0 : Int32).toNatClampNeg) + (a4 * (rd_I M (rd_R M a0 90) (4 : Int32).toNatClampNeg))).toInt64) (rd_R (wr_L M a0 39 ((rd_I M (rd_R M a0 90) (0 : Int32).toNatClampNeg) + (a4 * (rd_I M (rd_R M a0 90) (4 : Int32).toNatClampNeg))).toInt64) a0 90) (1 : Int32).toNatClampNeg) + (a4 * (rd_I (wr_L M a0 39 ((rd_I M (rd_R M a0 90) (0 : Int32).toNatClampNeg) + (a4 * (rd_I M (rd_R M a0 90) (4 : Int32).toNatClampNeg))).toInt64) (rd_R (wr_L M a0 39 ((rd_I M (rd_R M a0 90) (0 : Int32).toNatClampNeg) + (a4 * (rd_I M (rd_R M a0 90) (4 : Int32).toNatClampNeg))).toInt64) a0 90) (5 : Int32).toNatClampNeg))).toInt64) a0 41 ((rd_I (wr_L (wr_L M a0 39 ((rd_I M (rd_R M a0 90) (0 : Int32).toNatClampNeg) + (a4 * (rd_I M (rd_R M a0 90) (4 : Int32).toNatClampNeg))).toInt64) a0 40 ((rd_I (wr_L M a0 39 ((rd_I M (rd_R M a0 90) (0 : Int32).toNatClampNeg) + (a4 * (rd_I M (rd_R M a0 90) (4 : Int32).toNatClampNeg))).toInt64) (rd_R (wr_L M a0 39 ((rd_I M (rd_R M a0 90) (0 : Int32).toNatClampNeg) + (a4 * (rd_I M (rd_R M a0 90) (4 : Int32).toNatClampNeg))).toInt64) a0 90) (1 : Int32).toNatClampNeg) + (a4 * (rd_I (wr_L M a0 39 ((rd_I M (rd_R M a0 90) (0 : Int32).toNatClampNeg) + (a4 * (rd_I M (rd_R M a0 90) (4 : Int32).toNatClampNeg))).toInt64) (rd_R (wr_L M a0 39 ((rd_I M (rd_R M a0 90) (0 : Int32).toNatClampNeg) + (a4 * (rd_I M (rd_R M a0 90) (4 : Int32).toNatClampNeg))).toInt64) a0 90) (5 : Int32).toNatClampNeg))).toInt64) (rd_R (wr_L (wr_L M a0 39 ((rd_I M (rd_R M a0 90) (0 : Int32).toNatClampNeg) + (a4 * (rd_I M (rd_R M a0 90) (4 : Int32).toNatClampNeg))).toInt64) a0 40 ((rd_I (wr_L M a0 39 ((rd_I M (rd_R M a0 90) (0 : Int32).toNatClampNeg) + (a4 * (rd_I M (rd_R M a0 90) (4 : Int32).toNatClampNeg))).toInt64) (rd_R (wr_L M a0 39 ((rd_I M (rd_R M a0 90) (0 : Int32).toNatClampNeg) + (a4 * (rd_I M (rd_R M a0 90) (4 : Int32).toNatClampNeg))).toInt64) a0 90) (1 : Int32).toNatClampNeg) + (a4 * (rd_I (wr_L M a0 39 ((rd_I M (rd_R M a0 90) (0 : Int32).toNatClampNeg) + (a4 * (rd_I M (rd_R M a0 90) (4 : Int32).toNatClampNeg))).toInt64) (rd_R (wr_L M a0 39 ((rd_I M (rd_R M a0 90) (0 : Int32).toNatClampNeg) + (a4 * (rd_I M (rd_R M a0 90) (4 : Int32).toNatClampNeg))).toInt64) a0 90) (5 : Int32).toNatClampNeg))).toInt64) a0 90) (2 : Int32).toNatClampNeg) + (a4 * (rd_I (wr_L (wr_L M a0 39 ((rd_I M (rd_R M a0 90) (0 : Int32).toNatClampNeg) + (a4 * (rd_I M (rd_R M a0 90) (4 : Int32).toNatClampNeg))).toInt64) a0 40 ((rd_I (wr_L M a0 39 ((rd_I M (rd_R M a0 90) (0 : Int32).toNatClampNeg) + (a4 * (rd_I M (rd_R M a0 90) (4 : Int32).toNatClampNeg))).toInt64) (rd_R (wr_L M a0 39 ((rd_I M (rd_R M a0 90) (0 : Int32).toNatClampNeg) + (a4 * (rd_I M (rd_R M a0 90) (4 : Int32).toNatClampNeg))).toInt64) a0 90) (1 : Int32).toNatClampNeg) + (a4 * (rd_I (wr_L M a0 39 ((rd_I M (rd_R M a0 90) (0 : Int32).toNatClampNeg) + (a4 * (rd_I M (rd_R M a0 90) (4 : Int32).toNatClampNeg))).toInt64) (rd_R (wr_L M a0 39 ((rd_I M (rd_R M a0 90) (0 : Int32).toNatClampNeg) + (a4 * (rd_I M (rd_R M a0 90) (4 : Int32).toNatClampNeg))).toInt64) a0 90) (5 : Int32).toNatClampNeg))).toInt64) (rd_R (wr_L (wr_L M a0 39 ((rd_I M (rd_R M a0 90) (0 : Int32).toNatClampNeg) + (a4 * (rd_I M (rd_R M a0 90) (4 : Int32).toNatClampNeg))).toInt64) a0 40 ((rd_I (wr_L M a0 39 ((rd_I M (rd_R M a0 90) (0 : Int32).toNatClampNeg) + (a4 * (rd_I M (rd_R M a0 90) (4 : Int32).toNatClampNeg))).toInt64) (rd_R (wr_L M a0 39 ((rd_I M (rd_R M a0 90) (0 : Int32).toNatClampNeg) + (a4 * (rd_I M (rd_R M a0 90) (4 : Int32).toNatClampNeg))).toInt64) a0 90) (1 : Int32).toNatClampNeg) + (a4 * (rd_I (wr_L M a0 39 ((rd_I M (rd_R M a0 90) (0 : Int32).toNatClampNeg) + (a4 * (rd_I M (rd_R M a0 90) (4 : Int32).toNatClampNeg))).toInt64) (rd_R (wr_L M a0 39 ((rd_I M (rd_R M a0 90) (0 : Int32).toNatClampNeg) + (a4 * (rd_I M (rd_R M a0 90) (4 : Int32).toNatClampNeg))).toInt64) a0 90) (5 : Int32).toNatClampNeg))).toInt64) a0 90) (6 : Int32).toNatClampNeg))).toInt64)) (ob := [sw_ok M a0 12, sw_ar M (rd_R M a0 90) 13 (0 : Int32), sw_ok M a0 12, sw_ar M (rd_R M a0 90) 13 (4 : Int32), sw_ok M a0 12, sw_ok (wr_L M a0 39 ((rd_I M (rd_R M a0 90) (0 : Int32).toNatClampNeg) + (a4 * (rd_I M (rd_R M a0 90) (4 : Int32).toNatClampNeg))).toInt64) a0 12, sw_ar (wr_L M a0 39 ((rd_I M (rd_R M a0 90) (0 : Int32).toNatClampNeg) + (a4 * (rd_I M (rd_R M a0 90) (4 : Int32).toNatClampNeg))).toInt64) (rd_R (wr_L M a0 39 ((rd_I M (rd_R M a0 90) (0 : Int32).toNatClampNeg) + (a4 * (rd_I M (rd_R M a0 90) (4 : Int32).toNatClampNeg))).toInt64) a0 90) 13 (1 : Int32), sw_ok (wr_L M a0 39 ((rd_I M (rd_R M a0 90) (0 : Int32).toNatClampNeg) + (a4 * (rd_I M (rd_R M a0 90) (4 : Int32).toNatClampNeg))).toInt64) a0 12, sw_ar (wr_L M a0 39 ((rd_I M (rd_R M a0 90) (0 : Int32).toNatClampNeg) + (a4 * (rd_I M (rd_R M a0 90) (4 : Int32).toNatClampNeg))).toInt64) (rd_R (wr_L M a0 39 ((rd_I M (rd_R M a0 90) (0 : Int32).toNatClampNeg) + (a4 * (rd_I M (rd_R M a0 90) (4 : Int32).toNatClampNeg))).toInt64) a0 90) 13 (5 : Int32), sw_ok (wr_L M a0 39 ((rd_I M (rd_R M a0 90) (0 : Int32).toNatClampNeg) + (a4 * (rd_I M (rd_R M a0 90) (4 : Int32).toNatClampNeg))).toInt64) a0 12, sw_ok (wr_L (wr_L M a0 39 ((rd_I M (rd_R M a0 90) (0 : Int32).toNatClampNeg) + (a4 * (rd_I M (rd_R M a0 90) (4 : Int32).toNatClampNeg))).toInt64) a0 40 ((rd_I (wr_L M a0 39 ((rd_I M (rd_R M a0 90) (0 : Int32).toNatClampNeg) + (a4 * (rd_I M (rd_R M a0 90) (4 : Int32).toNatClampNeg))).toInt64) (rd_R (wr_L M a0 39 ((rd_I M (rd_R M a0 90) (0 : Int32).toNatClampNeg) + (a4 * (rd_I M (rd_R M a0 90) (4 : Int32).toNatClampNeg))).toInt64) a0 90) (1 : Int32).toNatClampNeg) + (a4 * (rd_I (wr_L M a0 39 ((rd_I M (rd_R M a0 90) (0 : Int32).toNatClampNeg) + (a4 * (rd_I M (rd_R M a0 90) (4 : Int32).toNatClampNeg))).toInt64) (rd_R (wr_L M a0 39 ((rd_I M (rd_R M a0 90) (0 : Int32).toNatClampNeg) + (a4 * (rd_I M (rd_R M a0 90) (4 : Int32).toNatClampNeg))).toInt64) a0 90) (5 : Int32).toNatClampNeg))).toInt64) a0 12, sw_ar (wr_L (wr_L M a0 39 ((rd_I M (rd_R M a0 90) (0 : Int32).toNatClampNeg) + (a4 * (rd_I M (rd_R M a0 90) (4 : Int32).toNatClampNeg))).toInt64) a0 40 ((rd_I (wr_L M a0 39 ((rd_I M (rd_R M a0 90) (0 : Int32).toNatClampNeg) + (a4 * (rd_I M (rd_R M a0 90) (4 : Int32).toNatClampNeg))).toInt64) (rd_R (wr_L M a0 39 ((rd_I M (rd_R M a0 90) (0 : Int32).toNatClampNeg) + (a4 * (rd_I M (rd_R M a0 90) (4 : Int32).toNatClampNeg))).toInt64) a0 90) (1 : Int32).toNatClampNeg) + (a4 * (rd_I (wr_L M a0 39 ((rd_I M (rd_R M a0 90) (0 : Int32).toNatClampNeg) + (a4 * (rd_I M (rd_R M a0 90) (4 : Int32).toNatClampNeg))).toInt64) (rd_R (wr_L M a0 39 ((rd_I M (rd_R M a0 90) (0 : Int32).toNatClampNeg) + (a4 * (rd_I M (rd_R M a0 90) (4 : Int32).toNatClampNeg))).toInt64) a0 90) (5 : Int32).toNatClampNeg))).toInt64) (rd_R (wr_L (wr_L M a0 39 ((rd_I M (rd_R M a0 90) (0 : Int32).toNatClampNeg) + (a4 * (rd_I M (rd_R M a0 90) (4 : Int32).toNatClampNeg))).toInt64) a0 40 ((rd_I (wr_L M a0 39 ((rd_I M (rd_R M a0 90) (0 : Int32).toNatClampNeg) + (a4 * (rd_I M (rd_R M a0 90) (4 : Int32).toNatClampNeg))).toInt64) (rd_R (wr_L M a0 39 ((rd_I M (rd_R M a0 90) (0 : Int32).toNatClampNeg) + (a4 * (rd_I M (rd_R M a0 90) (4 : Int32).toNatClampNeg))).toInt64) a0 90) (1 : Int32).toNatClampNeg) + (a4 * (rd_I (wr_L M a0 39 ((rd_I M (rd_R M a0 90) (0 : Int32).toNatClampNeg) + (a4 * (rd_I M (rd_R M a0 90) (4 : Int32).toNatClampNeg))).toInt64) (rd_R (wr_L M a0 39 ((rd_I M (rd_R M a0 90) (0 : Int32).toNatClampNeg) + (a4 * (rd_I M (rd_R M a0 90) (4 : Int32).toNatClampNeg))).toInt64) a0 90) (5 : Int32).toNatClampNeg))).toInt64) a0 90) 13 (2 : Int32), sw_ok (wr_L (wr_L M a0 39 ((rd_I M (rd_R M a0 90) (0 : Int32).toNatClampNeg) + (a4 * (rd_I M (rd_R M a0 90) (4 : Int32).toNatClampNeg))).toInt64) a0 40 ((rd_I (wr_L M a0 39 ((rd_I M (rd_R M a0 90) (0 : Int32).toNatClampNeg) + (a4 * (rd_I M (rd_R M a0 90) (4 : Int32).toNatClampNeg))).toInt64) (rd_R (wr_L M a0 39 ((rd_I M (rd_R M a0 90) (0 : Int32).toNatClampNeg) + (a4 * (rd_I M (rd_R M a0 90) (4 : Int32).toNatClampNeg))).toInt64) a0 90) (1 : Int32).toNatClampNeg) + (a4 * (rd_I (wr_L M a0 39 ((rd_I M (rd_R M a0 90) (0 : Int32).toNatClampNeg) + (a4 * (rd_I M (rd_R M a0 90) (4 : Int32).toNatClampNeg))).toInt64) (rd_R (wr_L M a0 39 ((rd_I M (rd_R M a0 90) (0 : Int32).toNatClampNeg) + (a4 * (rd_I M (rd_R M a0 90) (4 : Int32).toNatClampNeg))).toInt64) a0 90) (5 : Int32).toNatClampNeg))).toInt64) a0 12, sw_ar (wr_L (wr_L M a0 39 ((rd_I M (rd_R M a0 90) (0 : Int32).toNatClampNeg) + (a4 * (rd_I M (rd_R M a0 90) (4 : Int32).toNatClampNeg))).toInt64) a0 40 ((rd_I (wr_L M a0 39 ((rd_I M (rd_R M a0 90) (0 : Int32).toNatClampNeg) + (a4 * (rd_I M (rd_R M a0 90) (4 : Int32).toNatClampNeg))).toInt64) (rd_R (wr_L M a0 39 ((rd_I M (rd_R M a0 90) (0 : Int32).toNatClampNeg) + (a4 * (rd_I M (rd_R M a0 90) (4 : Int32).toNatClampNeg))).toInt64) a0 90) (1 : Int32).toNatClampNeg) + (a4 * (rd_I (wr_L M a0 39 ((rd_I M (rd_R M a0 90) (0 : Int32).toNatClampNeg) + (a4 * (rd_I M (rd_R M a0 90) (4 : Int32).toNatClampNeg))).toInt64) (rd_R (wr_L M a0 39 ((rd_I M (rd_R M a0 90) (0 : Int32).toNatClampNeg) + (a4 * (rd_I M (rd_R M a0 90) (4 : Int32).toNatClampNeg))).toInt64) a0 90) (5 : Int32).toNatClampNeg))).toInt64) (rd_R (wr_L (wr_L M a0 39 ((rd_I M (rd_R M a0 90) (0 : Int32).toNatClampNeg) + (a4 * (rd_I M (rd_R M a0 90) (4 : Int32).toNatClampNeg))).toInt64) a0 40 ((rd_I (wr_L M a0 39 ((rd_I M (rd_R M a0 90) (0 : Int32).toNatClampNeg) + (a4 * (rd_I M (rd_R M a0 90) (4 : Int32).toNatClampNeg))).toInt64) (rd_R (wr_L M a0 39 ((rd_I M (rd_R M a0 90) (0 : Int32).toNatClampNeg) + (a4 * (rd_I M (rd_R M a0 90) (4 : Int32).toNatClampNeg))).toInt64) a0 90) (1 : Int32).toNatClampNeg) + (a4 * (rd_I (wr_L M a0 39 ((rd_I M (rd_R M a0 90) (0 : Int32).toNatClampNeg) + (a4 * (rd_I M (rd_R M a0 90) (4 : Int32).toNatClampNeg))).toInt64) (rd_R (wr_L M a0 39 ((rd_I M (rd_R M a0 90) (0 : Int32).toNatClampNeg) + (a4 * (rd_I M (rd_R M a0 90) (4 : Int32).toNatClampNeg))).toInt64) a0 90) (5 : Int32).toNatClampNeg))).toInt64) a0 90) 13 (6 : Int32), sw_ok (wr_L (wr_L M a0 39 ((rd_I M (rd_R M a0 90) (0 : Int32).toNatClampNeg) + (a4 * (rd_I M (rd_R M a0 90) (4 : Int32).toNatClampNeg))).toInt64) a0 40 ((rd_I (wr_L M a0 39 ((rd_I M (rd_R M a0 90) (0 : Int32).toNatClampNeg) + (a4 * (rd_I M (rd_R M a0 90) (4 : Int32).toNatClampNeg))).toInt64) (rd_R (wr_L M a0 39 ((rd_I M (rd_R M a0 90) (0 : Int32).toNatClampNeg) + (a4 * (rd_I M (rd_R M a0 90) (4 : Int32).toNatClampNeg))).toInt64) a0 90) (1 : Int32).toNatClampNeg) + (a4 * (rd_I (wr_L M a0 39 ((rd_I M (rd_R M a0 90) (0 : Int32).toNatClampNeg) + (a4 * (rd_I M (rd_R M a0 90) (4 : Int32).toNatClampNeg))).toInt64) (rd_R (wr_L M a0 39 ((rd_I M (rd_R M a0 90) (0 : Int32).toNatClampNeg) + (a4 * (rd_I M (rd_R M a0 90) (4 : Int32).toNatClampNeg))).toInt64) a0 90) (5 : Int32).toNatClampNeg))).toInt64) a0 12]) (pc' := 81) (by decide +kernel) rfl rfl (sw_a1 h1 (sw_a1 h3 (sw_a1 h1 (sw_a1 h4 (sw_a1 h1 (sw_a1 h1 (sw_a1 h5 (sw_a1 h1 (sw_a1 h6 (sw_a1 h1 (sw_a1 h1 (sw_a1 h7 (sw_a1 h1 (sw_a1 h8 (sw_a1 h1 sw_a0))))))))))))))) ?_
      exact sf_weak [0, 1, 2, 3] rfl (t_Model_trailOf_81 hd _ ih hf)
def f_Model_trailOf (N : Nat) (a0 : Nat) (a1 : Int32) (M : sw_M) : Option (Int64 × sw_M) :=
  f_Model_trailOf_5 N N a0 a1 (0 : Int64) (0 : Int32) M
set_option maxRecDepth 10000 in
theorem t_Model_trailOf {g : sw_G} {d n0 : Nat} (hd : 4 ≤ d) {r : Int64 × sw_M} {N : Nat} {a0 : Nat} {a1 : Int32} {M : sw_M} (hf : f_Model_trailOf N a0 a1 M = some r) : sw_F g k_Model_trailOf d n0 (some (.long r.1)) r.2 0 [(0, .ref a0), (1, .int a1)] [] M := by
  unfold f_Model_trailOf at hf
  refine sf_blk [(.lconst 0, 0, 0, .long (0 : Int64)), (.lstore_n 2, 0, 0, .null), (.iconst (0), 0, 0, .int (0 : Int32)), (.istore 4, 0, 0, .null)] (lv' := [(4, .int (0 : Int32)), (2, .long (0 : Int64)), (0, .ref a0), (1, .int a1)]) (st' := []) (M1 := M) (ob := []) (pc' := 5) (by decide +kernel) rfl rfl sw_a0 ?_
  exact sf_weak [2, 3, 1, 0] rfl (t_Model_trailOf_5 hd _ _ _ _ _ _ hf)
theorem o_Model_trailOf (g : sw_G) {d : Nat} (hd : 4 ≤ d) {N : Nat} {a0 : Nat} {a1 : Int32} {M : sw_M} {r : Int64 × sw_M} (hf : f_Model_trailOf N a0 a1 M = some r) : sw_Ok g k_Model_trailOf d [.ref a0, .int a1] M (some (.long r.1)) r.2 := sf_met (by decide +kernel) rfl (by decide) (Nat.le_of_ble_eq_true rfl) (t_Model_trailOf hd hf)
def f_Model_unlike_36 (N : Nat) (k6 : Int64 → Int64 → Int32 → Int32 → sw_M → Option (Int32 × sw_M)) (a0 : Int64) (a2 : Int64) (a5 : Int32) (b0 : Int32) (b1 : Int32) (M : sw_M) : Option (Int32 × sw_M) :=
  k6 a0 a2 (b1 + b0) (a5 + (1 : Int32)) M
set_option maxRecDepth 10000 in
theorem t_Model_unlike_36 {g : sw_G} {d n0 : Nat} (hd : 1 ≤ d) {r : Int32 × sw_M} (k6 : Int64 → Int64 → Int32 → Int32 → sw_M → Option (Int32 × sw_M)) (hk6 : ∀ (a0 : Int64) (a2 : Int64) (a4 : Int32) (a5 : Int32) (M : sw_M), k6 a0 a2 a4 a5 M = some r → sw_F g k_Model_unlike d n0 (some (.int r.1)) r.2 6 [(0, .long a0), (2, .long a2), (4, .int a4), (5, .int a5)] [] M) {N : Nat} {a0 : Int64} {a2 : Int64} {a5 : Int32} {b0 : Int32} {b1 : Int32} {M : sw_M} (hf : f_Model_unlike_36 N k6 a0 a2 a5 b0 b1 M = some r) : sw_F g k_Model_unlike d n0 (some (.int r.1)) r.2 36 [(0, .long a0), (2, .long a2), (5, .int a5)] [.int b0, .int b1] M := by
  unfold f_Model_unlike_36 at hf
  refine sf_blk [(.iadd, 0, 0, .null), (.istore 4, 0, 0, .null), (.iinc 5 (1), 0, 0, .int (1 : Int32))] (lv' := [(5, .int (a5 + (1 : Int32))), (4, .int (b1 + b0)), (0, .long a0), (2, .long a2)]) (st' := []) (M1 := M) (ob := []) (pc' := 42) (by decide +kernel) rfl rfl sw_a0 ?_
  refine sf_goto (off := -36) (tgt := 6) (by decide +kernel) (by decide) ?_
  exact sf_weak [2, 3, 1, 0] rfl (hk6 _ _ _ _ _ hf)
def f_Model_unlike_6 (N : Nat) : Nat → Int64 → Int64 → Int32 → Int32 → sw_M → Option (Int32 × sw_M)
  | 0, _, _, _, _, _ => none
  | j + 1, a0, a2, a4, a5, M =>
  if (64 : Int32) ≤ a5 then some (a4, M)
  else if ((a0 >>> (a5.toInt64 &&& 63)) &&& (1 : Int64)) = ((a2 >>> (a5.toInt64 &&& 63)) &&& (1 : Int64)) then f_Model_unlike_36 N (f_Model_unlike_6 N j) a0 a2 a5 (0 : Int32) a4 M
  else f_Model_unlike_36 N (f_Model_unlike_6 N j) a0 a2 a5 (1 : Int32) a4 M
set_option maxRecDepth 10000 in
theorem t_Model_unlike_6 {g : sw_G} {d n0 : Nat} (hd : 1 ≤ d) {r : Int32 × sw_M} {N : Nat} : ∀ (j : Nat) (a0 : Int64) (a2 : Int64) (a4 : Int32) (a5 : Int32) (M : sw_M), f_Model_unlike_6 N j a0 a2 a4 a5 M = some r → sw_F g k_Model_unlike d n0 (some (.int r.1)) r.2 6 [(0, .long a0), (2, .long a2), (4, .int a4), (5, .int a5)] [] M := by
  intro j
  induction j with
  | zero =>
    intro a0 a2 a4 a5 M hf
    rw [f_Model_unlike_6] at hf
    cases hf
  | succ j ih =>
    intro a0 a2 a4 a5 M hf
    rw [f_Model_unlike_6] at hf
    refine sf_blk [(.iload 5, 0, 0, .null), (.bipush (64), 0, 0, .int (64 : Int32))] (lv' := [(0, .long a0), (2, .long a2), (4, .int a4), (5, .int a5)]) (st' := [.int (64 : Int32), .int a5]) (M1 := M) (ob := []) (pc' := 10) (by decide +kernel) rfl rfl sw_a0 ?_
    refine sf_j_ge (off := 35) (tgt := 45) (by decide +kernel) (by decide) hf (fun hc hf => ?_) (fun hc hf => ?_)
    · refine sf_blk [(.iload 4, 0, 0, .null)] (lv' := [(0, .long a0), (2, .long a2), (4, .int a4), (5, .int a5)]) (st' := [.int a4]) (M1 := M) (ob := []) (pc' := 47) (by decide +kernel) rfl rfl sw_a0 ?_
      cases hf
      exact sf_int rfl (by decide +kernel)
    · refine sf_blk [(.iload 4, 0, 0, .null), (.lload_n 0, 0, 0, .null), (.iload 5, 0, 0, .null), (.lshr, 0, 0, .null), (.lconst 1, 0, 0, .long (1 : Int64)), (.land, 0, 0, .null), (.lload_n 2, 0, 0, .null), (.iload 5, 0, 0, .null), (.lshr, 0, 0, .null), (.lconst 1, 0, 0, .long (1 : Int64)), (.land, 0, 0, .null), (.lcmp, 0, 0, .null)] (lv' := [(0, .long a0), (2, .long a2), (4, .int a4), (5, .int a5)]) (st' := [.int (lg_cmp ((a0 >>> (a5.toInt64 &&& 63)) &&& (1 : Int64)) ((a2 >>> (a5.toInt64 &&& 63)) &&& (1 : Int64))), .int a4]) (M1 := M) (ob := []) (pc' := 28) (by decide +kernel) rfl rfl sw_a0 ?_
      refine sf_l_ne (off := 7) (tgt := 35) (by decide +kernel) (by decide) hf (fun hc hf => ?_) (fun hc hf => ?_)
      · refine sf_blk [(.iconst (1), 0, 0, .int (1 : Int32))] (lv' := [(0, .long a0), (2, .long a2), (4, .int a4), (5, .int a5)]) (st' := [.int (1 : Int32), .int a4]) (M1 := M) (ob := []) (pc' := 36) (by decide +kernel) rfl rfl sw_a0 ?_
        exact sf_weak [0, 1, 3] rfl (t_Model_unlike_36 hd _ ih hf)
      · refine sf_blk [(.iconst (0), 0, 0, .int (0 : Int32))] (lv' := [(0, .long a0), (2, .long a2), (4, .int a4), (5, .int a5)]) (st' := [.int (0 : Int32), .int a4]) (M1 := M) (ob := []) (pc' := 32) (by decide +kernel) rfl rfl sw_a0 ?_
        refine sf_goto (off := 4) (tgt := 36) (by decide +kernel) (by decide) ?_
        exact sf_weak [0, 1, 3] rfl (t_Model_unlike_36 hd _ ih hf)
def f_Model_unlike (N : Nat) (a0 : Int64) (a2 : Int64) (M : sw_M) : Option (Int32 × sw_M) :=
  f_Model_unlike_6 N N a0 a2 (0 : Int32) (0 : Int32) M
set_option maxRecDepth 10000 in
theorem t_Model_unlike {g : sw_G} {d n0 : Nat} (hd : 1 ≤ d) {r : Int32 × sw_M} {N : Nat} {a0 : Int64} {a2 : Int64} {M : sw_M} (hf : f_Model_unlike N a0 a2 M = some r) : sw_F g k_Model_unlike d n0 (some (.int r.1)) r.2 0 [(0, .long a0), (2, .long a2)] [] M := by
  unfold f_Model_unlike at hf
  refine sf_blk [(.iconst (0), 0, 0, .int (0 : Int32)), (.istore 4, 0, 0, .null), (.iconst (0), 0, 0, .int (0 : Int32)), (.istore 5, 0, 0, .null)] (lv' := [(5, .int (0 : Int32)), (4, .int (0 : Int32)), (0, .long a0), (2, .long a2)]) (st' := []) (M1 := M) (ob := []) (pc' := 6) (by decide +kernel) rfl rfl sw_a0 ?_
  exact sf_weak [2, 3, 1, 0] rfl (t_Model_unlike_6 hd _ _ _ _ _ _ hf)
theorem o_Model_unlike (g : sw_G) {d : Nat} (hd : 1 ≤ d) {N : Nat} {a0 : Int64} {a2 : Int64} {M : sw_M} {r : Int32 × sw_M} (hf : f_Model_unlike N a0 a2 M = some r) : sw_Ok g k_Model_unlike d [.long a0, .long a2] M (some (.int r.1)) r.2 := sf_met (by decide +kernel) rfl (by decide) (Nat.le_of_ble_eq_true rfl) (t_Model_unlike hd hf)
