/-! 18: length() and charAt() of the two texts -/
theorem sf_nar {g : sw_G} {kx : sw_K} {d n0 : Nat} {pc : Nat} {lv : List (Nat × Value)} {M : sw_M} {w : Int32} {ty : FieldType} (hr : k_r kx = some ty) (hw : narrow ty (.int w) = .int w) (hd : decode (k_c kx) pc = .ok (.ireturn, 1)) : sw_F g kx d n0 (some (.int w)) M pc lv [.int w] M := by
  refine ⟨Nat.le_refl _, fun x hX => ?_⟩
  obtain ⟨hX0, hE, hD, hml, hret, hlk, h0, h1, hQ⟩ := id hX
  refine ⟨Nat.le_of_eq h1.symm, fun H locs ls hH => ?_⟩
  unfold sw_V
  rw [hQ, ← h0]
  exact W.zret hX0.1 hX0.2.1 (hret.trans hr) hw (fun t ht _ => sw_q hX hH t ht) hH.2.1.2.2 hd hlk
theorem sf_fmt {g : sw_G} {kx : sw_K} {d n0 : Nat} {v : Option Value} {Mz : sw_M} {pc i : Nat} {lv : List (Nat × Value)} {st : List Value} {M : sw_M} (hl : Jvm.Cond.fieldLink (sw_on (k_o kx)) i "jdk/internal/util/Preconditions" "SIOOBE_FORMATTER" "Ljava/util/function/BiFunction;" ∈ sw_ws) (hd : decode (k_c kx) pc = .ok (.getstatic i, 3)) (k1 : sw_F g kx d n0 v Mz (pc + 3) lv (.ref 0 :: st) M) (k2 : sw_F g kx d n0 v Mz (pc + 3) lv (.retAddr 20 :: st) M) : sw_F g kx d n0 v Mz pc lv st M := by
  refine ⟨k1.1, fun x hX => ⟨(k1.2 x hX).1, fun H locs ls hH => ?_⟩⟩
  rcases hX.2.1.2.2.2.2.2 with h | h
  · exact va_gets hX.1.1 hX.1.2.1 h hH.2.1 hX.1.2.2.1 (hX.1.2.2.2.1 _ hl) (fun _ h => h) hd ((k1.2 x hX).2 H locs ls hH)
  · exact va_gets hX.1.1 hX.1.2.1 h hH.2.1 hX.1.2.2.1 (hX.1.2.2.2.1 _ hl) (fun _ h => h) hd ((k2.2 x hX).2 H locs ls hH)
theorem o_coder (g : sw_G) {d : Nat} (j : Nat) (hj : j < 2) (M : sw_M) : sw_Ok g k_Str_coder d [.retAddr j] M (some (.int 0)) M := by
  refine sf_met (by decide +kernel) rfl (by decide) (Nat.le_of_ble_eq_true rfl) ?_
  refine sf_cs (i := 38) (sw_m3 41 (by decide +kernel)) (by decide +kernel) ?_
  refine sf_z_eq (off := 10) (tgt := 13) (by decide +kernel) (by decide) (A := none) (B := some ()) (r := ()) (if_neg (by decide)) (fun _ h => by cases h) (fun _ _ => ?_)
  refine sf_blk [(.aload_n 0, 0, 0, .null)] (lv' := [(0, .retAddr j)]) (st' := [.retAddr j]) (M1 := M) (ob := []) (pc' := 7) (by decide +kernel) rfl rfl sw_a0 ?_
  refine sf_cod (i := 15) (j := j) hj (sw_m8 154 (by decide +kernel)) (by decide +kernel) ?_
  refine sf_goto (off := 4) (tgt := 14) (by decide +kernel) (by decide) ?_
  exact sf_nar rfl (by decide) (by decide +kernel)
theorem o_latin (g : sw_G) {d : Nat} (j : Nat) (hj : j < 2) (M : sw_M) : sw_Ok g k_Str_isLatin1 d [.retAddr j] M (some (.int 1)) M := by
  refine sf_met (by decide +kernel) rfl (by decide) (Nat.le_of_ble_eq_true rfl) ?_
  refine sf_cs (i := 38) (sw_m3 41 (by decide +kernel)) (by decide +kernel) ?_
  refine sf_z_eq (off := 14) (tgt := 17) (by decide +kernel) (by decide) (A := none) (B := some ()) (r := ()) (if_neg (by decide)) (fun _ h => by cases h) (fun _ _ => ?_)
  refine sf_blk [(.aload_n 0, 0, 0, .null)] (lv' := [(0, .retAddr j)]) (st' := [.retAddr j]) (M1 := M) (ob := []) (pc' := 7) (by decide +kernel) rfl rfl sw_a0 ?_
  refine sf_cod (i := 15) (j := j) hj (sw_m8 154 (by decide +kernel)) (by decide +kernel) ?_
  refine sf_z_ne (off := 7) (tgt := 17) (by decide +kernel) (by decide) (A := none) (B := some ()) (r := ()) (if_pos (by decide)) (fun _ h => by cases h) (fun _ _ => ?_)
  refine sf_blk [(.iconst (1), 0, 0, .int (1 : Int32))] (lv' := [(0, .retAddr j)]) (st' := [.int (1 : Int32)]) (M1 := M) (ob := []) (pc' := 14) (by decide +kernel) rfl rfl sw_a0 ?_
  refine sf_goto (off := 4) (tgt := 18) (by decide +kernel) (by decide) ?_
  exact sf_bool rfl rfl (by decide +kernel)
theorem o_len (g : sw_G) {d : Nat} (hd : 5 ≤ d) (j : Nat) (hj : j < 2) (M : sw_M) : sw_Ok g k_Str_length d [.retAddr j] M (some (.int (Int32.ofNat ([120, 73].getD j 0) >>> ((0 : Int32) &&& 31)))) M := by
  refine sf_met (by decide +kernel) rfl (by decide) (Nat.le_of_ble_eq_true rfl) ?_
  refine sf_blk [(.aload_n 0, 0, 0, .null)] (lv' := [(0, .retAddr j)]) (st' := [.retAddr j]) (M1 := M) (ob := []) (pc' := 1) (by decide +kernel) rfl rfl sw_a0 ?_
  refine sf_val (i := 9) (j := j) hj (sw_m8 153 (by decide +kernel)) (by decide +kernel) ?_
  refine sf_len (j := j) hj (by decide +kernel) ?_
  refine sf_blk [(.aload_n 0, 0, 0, .null)] (lv' := [(0, .retAddr j)]) (st' := [.retAddr j, .int (Int32.ofNat ([120, 73].getD j 0))]) (M1 := M) (ob := []) (pc' := 6) (by decide +kernel) rfl rfl sw_a0 ?_
  refine sf_callT (i := 335) (k2 := k_Str_coder) (d2 := d - 1) (As := []) (st := [.int (Int32.ofNat ([120, 73].getD j 0))]) (j := j) mf_Str_coder mi_Str_coder ms_Str_coder (sw_m3 37 (by decide +kernel)) rfl (by decide +kernel) rfl (Nat.le_of_ble_eq_true rfl) (by omega) hj (o_coder g j hj M) ?_
  refine sf_blk [(.ishr, 0, 0, .null)] (lv' := [(0, .retAddr j)]) (st' := [.int (Int32.ofNat ([120, 73].getD j 0) >>> ((0 : Int32) &&& 31))]) (M1 := M) (ob := []) (pc' := 10) (by decide +kernel) rfl rfl sw_a0 ?_
  exact sf_int rfl (by decide +kernel)
theorem o_len0 (g : sw_G) {d : Nat} (hd : 5 ≤ d) (M : sw_M) : sw_Ok g k_Str_length d [.retAddr 0] M (some (.int (120 : Int32))) M := o_len g hd 0 (by decide) M
theorem o_len1 (g : sw_G) {d : Nat} (hd : 5 ≤ d) (M : sw_M) : sw_Ok g k_Str_length d [.retAddr 1] M (some (.int (73 : Int32))) M := o_len g hd 1 (by decide) M
theorem o_pre (g : sw_G) {d : Nat} (a b : Int32) (f : Value) (hf : f = .ref 0 ∨ f = .retAddr 20) (h0 : ¬ a < 0) (h1 : a < b) (M : sw_M) : sw_Ok g k_Pre_checkIndex d [.int a, .int b, f] M (some (.int a)) M := by
  refine sf_met (by decide +kernel) rfl (by decide) (by rcases hf with rfl | rfl <;> exact Nat.le_of_ble_eq_true rfl) ?_
  have e : lv_args 0 [.int a, .int b, f] = [(0, .int a), (1, .int b), (2, f)] := rfl
  rw [e]
  refine sf_blk [(.iload_n 0, 0, 0, .null)] (lv' := [(0, .int a), (1, .int b), (2, f)]) (st' := [.int a]) (M1 := M) (ob := []) (pc' := 1) (by decide +kernel) rfl rfl sw_a0 ?_
  refine sf_z_lt (off := 8) (tgt := 9) (by decide +kernel) (by decide) (A := none) (B := some ()) (r := ()) (if_neg h0) (fun _ h => by cases h) (fun _ _ => ?_)
  refine sf_blk [(.iload_n 0, 0, 0, .null), (.iload_n 1, 0, 0, .null)] (lv' := [(0, .int a), (1, .int b), (2, f)]) (st' := [.int b, .int a]) (M1 := M) (ob := []) (pc' := 6) (by decide +kernel) rfl rfl sw_a0 ?_
  refine sf_j_lt (off := 10) (tgt := 16) (by decide +kernel) (by decide) (A := some ()) (B := none) (r := ()) (if_pos h1) (fun _ _ => ?_) (fun _ h => by cases h)
  refine sf_blk [(.iload_n 0, 0, 0, .null)] (lv' := [(0, .int a), (1, .int b), (2, f)]) (st' := [.int a]) (M1 := M) (ob := []) (pc' := 17) (by decide +kernel) rfl rfl sw_a0 ?_
  exact sf_int rfl (by decide +kernel)
theorem o_ci (g : sw_G) {d : Nat} (hd : 2 ≤ d) (a b : Int32) (h0 : ¬ a < 0) (h1 : a < b) (M : sw_M) : sw_Ok g k_Str_checkIndex d [.int a, .int b] M none M := by
  refine sf_met (by decide +kernel) rfl (by decide) (Nat.le_of_ble_eq_true rfl) ?_
  refine sf_blk [(.iload_n 0, 0, 0, .null), (.iload_n 1, 0, 0, .null)] (lv' := [(0, .int a), (1, .int b)]) (st' := [.int b, .int a]) (M1 := M) (ob := []) (pc' := 2) (by decide +kernel) rfl rfl sw_a0 ?_
  have key : ∀ f : Value, f = .ref 0 ∨ f = .retAddr 20 → sw_F g k_Str_checkIndex d (rd_N M) none M 5 [(0, .int a), (1, .int b)] [f, .int b, .int a] M := by
    intro f hf
    refine sf_callS (i := 1059) (k2 := k_Pre_checkIndex) (d2 := d - 1) (As := [.int a, .int b, f]) (st := []) mf_Pre_checkIndex mi_Pre_checkIndex (sw_m3 59 (by decide +kernel)) (by decide +kernel) rfl (Nat.le_of_ble_eq_true rfl) (by omega) (o_pre g a b f hf h0 h1 M) ?_
    refine sf_blk [(.pop, 0, 0, .null)] (lv' := [(0, .int a), (1, .int b)]) (st' := []) (M1 := M) (ob := []) (pc' := 9) (by decide +kernel) rfl rfl sw_a0 ?_
    exact sf_void rfl (by decide +kernel)
  exact sf_fmt (i := 1053) (sw_m3 57 (by decide +kernel)) (by decide +kernel) (key _ (Or.inl rfl)) (key _ (Or.inr rfl))
/-- the sign at a place of a text -/
def sw_tch (j : Nat) (i : Int32) : Int32 := ((([sw_byt sw_txt0, sw_byt sw_txt1] : List (List Int32)).getD j []).getD i.toNatClampNeg 0)
theorem o_lat (g : sw_G) {d : Nat} (hd : 3 ≤ d) (j : Nat) (hj : j < 2) (i : Int32) (hi : vp_in i ([120, 73].getD j 0)) (h0 : ¬ i < 0) (h1 : i < Int32.ofNat ([120, 73].getD j 0)) (hn : narrow .char (.int ((((sw_tch j i) &&& 255).toUInt32 % 65536).toInt32)) = .int ((((sw_tch j i) &&& 255).toUInt32 % 65536).toInt32)) (M : sw_M) : sw_Ok g k_Lat_charAt d [.retAddr (j + 10), .int i] M (some (.int ((((sw_tch j i) &&& 255).toUInt32 % 65536).toInt32))) M := by
  refine sf_met (by decide +kernel) rfl (by decide) (Nat.le_of_ble_eq_true rfl) ?_
  refine sf_blk [(.iload_n 1, 0, 0, .null), (.aload_n 0, 0, 0, .null)] (lv' := [(0, .retAddr (j + 10)), (1, .int i)]) (st' := [.retAddr (j + 10), .int i]) (M1 := M) (ob := []) (pc' := 2) (by decide +kernel) rfl rfl sw_a0 ?_
  refine sf_len (j := j) hj (by decide +kernel) ?_
  refine sf_callS (i := 9) (k2 := k_Str_checkIndex) (d2 := d - 1) (As := [.int i, .int (Int32.ofNat ([120, 73].getD j 0))]) (st := []) mf_Str_checkIndex mi_Str_checkIndex (sw_m3 54 (by decide +kernel)) (by decide +kernel) rfl (Nat.le_of_ble_eq_true rfl) (by omega) (o_ci g (by omega) i _ h0 h1 M) ?_
  refine sf_blk [(.aload_n 0, 0, 0, .null), (.iload_n 1, 0, 0, .null)] (lv' := [(0, .retAddr (j + 10)), (1, .int i)]) (st' := [.int i, .retAddr (j + 10)]) (M1 := M) (ob := []) (pc' := 8) (by decide +kernel) rfl rfl sw_a0 ?_
  refine sf_at (j := j) hj hi (by decide +kernel) ?_
  refine sf_blk [(.sipush (255), 0, 0, .int (255 : Int32)), (.iand, 0, 0, .null), (.i2c, 0, 0, .null)] (lv' := [(0, .retAddr (j + 10)), (1, .int i)]) (st' := [.int ((((sw_tch j i) &&& 255).toUInt32 % 65536).toInt32)]) (M1 := M) (ob := []) (pc' := 14) (by decide +kernel) rfl rfl sw_a0 ?_
  exact sf_nar rfl hn (by decide +kernel)
theorem o_chr (g : sw_G) {d : Nat} (hd : 5 ≤ d) (j : Nat) (hj : j < 2) (i : Int32) (hi : vp_in i ([120, 73].getD j 0)) (M : sw_M) : sw_Ok g k_Str_charAt d [.retAddr j, .int i] M (some (.int ((((sw_tch j i) &&& 255).toUInt32 % 65536).toInt32))) M := by
  have h0 : ¬ i < 0 := fun q => hi (Or.inl q)
  have hlen : ([120, 73].getD j 0) < 2 ^ 31 := by rcases (show j = 0 ∨ j = 1 by omega) with rfl | rfl <;> decide
  obtain ⟨n, hn, rfl⟩ := vp_in_of hi hlen
  have h1 : nI n < Int32.ofNat ([120, 73].getD j 0) := nI_lt hn hlen
  have hnar := pk_nc ((sw_tch j (nI n)) &&& 255)
  refine sf_met (by decide +kernel) rfl (by decide) (Nat.le_of_ble_eq_true rfl) ?_
  refine sf_blk [(.aload_n 0, 0, 0, .null)] (lv' := [(0, .retAddr j), (1, .int (nI n))]) (st' := [.retAddr j]) (M1 := M) (ob := []) (pc' := 1) (by decide +kernel) rfl rfl sw_a0 ?_
  refine sf_callT (i := 492) (k2 := k_Str_isLatin1) (d2 := d - 1) (As := []) (st := []) (j := j) mf_Str_isLatin1 mi_Str_isLatin1 ms_Str_isLatin1 (sw_m3 47 (by decide +kernel)) rfl (by decide +kernel) rfl (Nat.le_of_ble_eq_true rfl) (by omega) hj (o_latin g j hj M) ?_
  refine sf_z_eq (off := 12) (tgt := 16) (by decide +kernel) (by decide) (A := none) (B := some ()) (r := ()) (if_neg (by decide)) (fun _ h => by cases h) (fun _ _ => ?_)
  refine sf_blk [(.aload_n 0, 0, 0, .null)] (lv' := [(0, .retAddr j), (1, .int (nI n))]) (st' := [.retAddr j]) (M1 := M) (ob := []) (pc' := 8) (by decide +kernel) rfl rfl sw_a0 ?_
  refine sf_val (i := 9) (j := j) hj (sw_m8 153 (by decide +kernel)) (by decide +kernel) ?_
  refine sf_blk [(.iload_n 1, 0, 0, .null)] (lv' := [(0, .retAddr j), (1, .int (nI n))]) (st' := [.int (nI n), .retAddr (j + 10)]) (M1 := M) (ob := []) (pc' := 12) (by decide +kernel) rfl rfl sw_a0 ?_
  refine sf_callS (i := 495) (k2 := k_Lat_charAt) (d2 := d - 1) (As := [.retAddr (j + 10), .int (nI n)]) (st := []) mf_Lat_charAt mi_Lat_charAt (sw_m3 51 (by decide +kernel)) (by decide +kernel) rfl (Nat.le_of_ble_eq_true rfl) (by omega) (o_lat g (by omega) j hj (nI n) hi h0 h1 hnar M) ?_
  exact sf_nar rfl hnar (by decide +kernel)
theorem sw_tch_0 : ∀ n, n < 120 → (((sw_tch 0 (nI n) &&& 255).toUInt32 % 65536).toInt32) = tx_0 (nI n) := by decide +kernel
theorem sw_tch_1 : ∀ n, n < 73 → (((sw_tch 1 (nI n) &&& 255).toUInt32 % 65536).toInt32) = tx_1 (nI n) := by decide +kernel
theorem o_chr0 (g : sw_G) {d : Nat} (hd : 5 ≤ d) (M : sw_M) {i : Int32} (hi : sw_ti i 120 = true) : sw_Ok g k_Str_charAt d [.retAddr 0, .int i] M (some (.int (tx_0 i))) M := by
  have hi' : vp_in i 120 := (show ¬ (i < 0 ∨ 120 ≤ i.toNatClampNeg) from of_decide_eq_true hi)
  obtain ⟨n, hn, rfl⟩ := vp_in_of hi' (by decide)
  have h := o_chr g hd 0 (by decide) (nI n) hi' M
  rw [sw_tch_0 n hn] at h
  exact h
theorem o_chr1 (g : sw_G) {d : Nat} (hd : 5 ≤ d) (M : sw_M) {i : Int32} (hi : sw_ti i 73 = true) : sw_Ok g k_Str_charAt d [.retAddr 1, .int i] M (some (.int (tx_1 i))) M := by
  have hi' : vp_in i 73 := (show ¬ (i < 0 ∨ 73 ≤ i.toNatClampNeg) from of_decide_eq_true hi)
  obtain ⟨n, hn, rfl⟩ := vp_in_of hi' (by decide)
  have h := o_chr g hd 1 (by decide) (nI n) hi' M
  rw [sw_tch_1 n hn] at h
  exact h
