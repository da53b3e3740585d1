/-! 40: the law: rows for its walk -/
def sw_Xl (g : sw_G) (k : sw_K) (d : Nat) (x : sw_Ct) : Prop := sw_X g (k_o k) (k_i k) (k_c k) x ∧ sw_E g (x_s x) ∧ (d ≤ (x_R x).frames ∧ 100 * d ≤ (x_R x).locals) ∧ (x_c x).maxLocals = k_L k ∧ True
section LawRows
variable {α : Type} {r : α} {A B : Option α} {o : Nat} {ini : Bool} {cc : ByteArray} {g : sw_G} {kx : sw_K} {d : Nat} {x : sw_Ct} {pc tgt : Nat} {off : Int} {lv : List (Nat × Value)} {st : List Value} {M M1 : sw_M}
theorem sl_blk (hX : sw_Xl g kx d x) (bl : List sw_I) {lv' : List (Nat × Value)} {st' : List Value} {ob : List Bool} (hc : sw_ck (k_o kx) (k_i kx) (k_L kx) (k_c kx) pc bl = true) (hr : sw_run bl (lv, st, M) = some (ob, lv', st', M1)) (hob : ob.all id = true) (k : sw_W g x (sw_pc pc bl) lv' st' M1) : sw_W g x pc lv st M := sw_run_ok hX.1 hX.2.2.2.1 bl hc hr hob k
theorem sl_cb (hX : sw_Xl g kx d x) {k2 : sw_K} {d2 mc ms n i : Nat} (hm : sw_mf k2 n) (hl : Jvm.Cond.methodLink (sw_on (k_o kx)) i (k_y k2) ∈ sw_ws) (hd2 : d2 + 1 ≤ d) : CallB (x_R x) (x_s x) (x_a x) (sw_on (k_o kx)) i (k_y k2) (k_c k2) (k_L k2) (k_r k2) (Jvm.Cond.code (k_y k2) (k_c k2) (k_L k2) (k_r k2) :: sw_ws) (sw_rm0 d2 mc ms) mc ms n := by
  obtain ⟨m1, m2, m3, m4, m5⟩ := hm
  have hts := hX.1.2.2.2.1
  have hD := hX.2.2.1
  refine ⟨rfl, rfl, Nat.le_trans hd2 hD.1, ?_, ?_, List.mem_cons_self, hts _ m1, hts _ m2, m3, fun sig h => ?_, hts _ hl⟩
  · show 8 + (k_L k2 + 11) + 100 * d2 ≤ _
    have := hD.2
    omega
  · intro w hw a' U hW
    rcases List.mem_cons.mp hw with e | h
    · rw [e]; exact sw_carry hts hW _ m1
    · exact sw_carry hts hW _ h
  · rw [h] at m4
    exact (Option.some.inj m4).symm
theorem sl_callV (hX : sw_Xl g kx d x) {k2 : sw_K} {d2 n i q ci : Nat} {As : List Value} {v2 : Option Value} (hm : sw_mf k2 n) (hmi : Jvm.Cond.instanceMethod (k_y k2) ∈ sw_ws) (hms : Jvm.Cond.selects (k_y k2).cls (k_y k2) (k_y k2) ∈ sw_ws) (hl : Jvm.Cond.methodLink (sw_on (k_o kx)) i (k_y k2) ∈ sw_ws) (hC : (sw_cl[ci]?).map (fun r => r.1) = some (k_y k2).cls) (hc : ci < 13) (hd : decode (k_c kx) pc = .ok (.invokevirtual i, 3)) (hn : As.length = n) (hst : (st.map fun v => v.category).sum ≤ 8) (hd2 : d2 + 1 ≤ d) (hq : sw_ok M q ci = true) (hok : sw_Ok g k2 d2 (.ref q :: As) M v2 M1) (k : sw_W g x (pc + 3) lv (v2.toList ++ st) M1) : sw_W g x pc lv (As.reverse ++ .ref q :: st) M := by
  refine ⟨Nat.le_trans hok.1 k.1, fun H locs ls hH => ?_⟩
  obtain ⟨a, rfl, hB⟩ := sw_recv hX.1 hH.1 hq hc hC
  unfold sw_V
  rw [sw_stk_eq]
  refine sw_after hX.1 (a := (Value.ref (g_B g + a) :: As.map (sw_tr g)).toArray) hok.1 hH ?_ k
  refine va_runV (C := (k_y k2).cls) (As := As.map (sw_tr g)) (n := n) ⟨hX.1.1, hX.1.2.1, hX.2.2.2.1, hX.1.2.2.1, hX.1.2.2.2.1⟩ hok.2 ⟨sl_cb hX hm hl hd2, hX.1.2.2.2.1 _ hmi, hX.1.2.2.2.1 _ hms⟩ ⟨sw_blind g _ _, hB, fun U hU hW => ?_⟩ rfl (by rw [List.length_map]; exact hn) (by rw [← hX.2.2.2.1]; exact hH.2.2.1.1) rfl (lv_room (by rw [sw_cats]; exact hst)) hd (sw_room hX.1 hH.2.2.2 hok.1 k.1)
  exact sw_pre hX.1 hX.2.1 hH (.ref (a + 1) :: As) U hU hW
theorem sl_callI (hX : sw_Xl g kx d x) {k2 : sw_K} {d2 n i q ci : Nat} {As : List Value} (hm : sw_mf k2 n) (hr2 : k_r k2 = none) (hnm : (k_y k2).name = "<init>") (hmi : Jvm.Cond.instanceMethod (k_y k2) ∈ sw_ws) (hl : Jvm.Cond.methodLink (sw_on (k_o kx)) i (k_y k2) ∈ sw_ws) (hc : ci < 13) (hd : decode (k_c kx) pc = .ok (.invokespecial i, 3)) (hn : As.length = n) (hst : (st.map fun v => v.category).sum ≤ 8) (hd2 : d2 + 1 ≤ d) (hq : sw_ok M q ci = true) (hok : sw_Ok g k2 d2 (.ref q :: As) M none M1) (k : sw_W g x (pc + 3) lv st M1) : sw_W g x pc lv (As.reverse ++ .ref q :: st) M := by
  refine ⟨Nat.le_trans hok.1 k.1, fun H locs ls hH => ?_⟩
  obtain ⟨a, -, rfl, -⟩ := sw_ok_spec hq
  unfold sw_V
  rw [sw_stk_eq]
  refine sw_after hX.1 (a := (Value.ref (g_B g + a) :: As.map (sw_tr g)).toArray) (v2 := none) hok.1 hH ?_ k
  have hcb := sl_cb (mc := rd_N M1 - rd_N M) (ms := sw_us (rd_N M1) - sw_us (rd_N M)) hX hm hl hd2
  have hM := hok.2
  rw [hr2] at hcb hM
  exact va_runI (As := As.map (sw_tr g)) (n := n) ⟨hX.1.1, hX.1.2.1, hX.2.2.2.1, hX.1.2.2.1, hX.1.2.2.2.1⟩ hM ⟨hcb, hnm, hX.1.2.2.2.1 _ hmi⟩ ⟨sw_blind g _ _, fun U hU hW => sw_pre hX.1 hX.2.1 hH (.ref (a + 1) :: As) U hU hW⟩ rfl (by rw [List.length_map]; exact hn) (by rw [← hX.2.2.2.1]; exact hH.2.2.1.1) rfl (lv_room (by rw [sw_cats]; exact hst)) hd (sw_room hX.1 hH.2.2.2 hok.1 k.1)
theorem sl_j_eq (hX : sw_Xl g kx d x) {a b : Int32} (hd : decode (k_c kx) pc = .ok (.if_icmp .eq off, 3)) (ht : (pc : Int) + off = (tgt : Int)) (hf : (if a = b then A else B) = some r) (kt : a = b → A = some r → sw_W g x tgt lv st M) (kf : ¬ a = b → B = some r → sw_W g x (pc + 3) lv st M) : sw_W g x pc lv (.int b :: .int a :: st) M := by
  rcases sw_ite hf with ⟨h1, h2⟩ | ⟨h1, h2⟩
  · exact sw_keep (kt h1 h2) fun _ _ _ h => lv_icmp_eq hX.1.1 hX.1.2.1 hd ht (fun _ => h) (fun q => absurd h1 q)
  · exact sw_keep (kf h1 h2) fun _ _ _ h => lv_icmp_eq hX.1.1 hX.1.2.1 hd ht (fun q => absurd q h1) (fun _ => h)
theorem sl_j_ne (hX : sw_Xl g kx d x) {a b : Int32} (hd : decode (k_c kx) pc = .ok (.if_icmp .ne off, 3)) (ht : (pc : Int) + off = (tgt : Int)) (hf : (if a = b then B else A) = some r) (kt : ¬ a = b → A = some r → sw_W g x tgt lv st M) (kf : a = b → B = some r → sw_W g x (pc + 3) lv st M) : sw_W g x pc lv (.int b :: .int a :: st) M := by
  rcases sw_ite hf with ⟨h1, h2⟩ | ⟨h1, h2⟩
  · exact sw_keep (kf h1 h2) fun _ _ _ h => lv_icmp_ne hX.1.1 hX.1.2.1 hd ht (fun q => absurd h1 q) (fun _ => h)
  · exact sw_keep (kt h1 h2) fun _ _ _ h => lv_icmp_ne hX.1.1 hX.1.2.1 hd ht (fun _ => h) (fun q => absurd q h1)
theorem sl_j_lt (hX : sw_Xl g kx d x) {a b : Int32} (hd : decode (k_c kx) pc = .ok (.if_icmp .lt off, 3)) (ht : (pc : Int) + off = (tgt : Int)) (hf : (if a < b then A else B) = some r) (kt : a < b → A = some r → sw_W g x tgt lv st M) (kf : ¬ a < b → B = some r → sw_W g x (pc + 3) lv st M) : sw_W g x pc lv (.int b :: .int a :: st) M := by
  rcases sw_ite hf with ⟨h1, h2⟩ | ⟨h1, h2⟩
  · exact sw_keep (kt h1 h2) fun _ _ _ h => lv_icmp_lt hX.1.1 hX.1.2.1 hd ht (fun _ => h) (fun q => absurd h1 q)
  · exact sw_keep (kf h1 h2) fun _ _ _ h => lv_icmp_lt hX.1.1 hX.1.2.1 hd ht (fun q => absurd q h1) (fun _ => h)
theorem sl_j_ge (hX : sw_Xl g kx d x) {a b : Int32} (hd : decode (k_c kx) pc = .ok (.if_icmp .ge off, 3)) (ht : (pc : Int) + off = (tgt : Int)) (hf : (if b ≤ a then A else B) = some r) (kt : b ≤ a → A = some r → sw_W g x tgt lv st M) (kf : ¬ b ≤ a → B = some r → sw_W g x (pc + 3) lv st M) : sw_W g x pc lv (.int b :: .int a :: st) M := by
  rcases sw_ite hf with ⟨h1, h2⟩ | ⟨h1, h2⟩
  · exact sw_keep (kt h1 h2) fun _ _ _ h => lv_icmp_ge hX.1.1 hX.1.2.1 hd ht (fun _ => h) (fun q => absurd h1 q)
  · exact sw_keep (kf h1 h2) fun _ _ _ h => lv_icmp_ge hX.1.1 hX.1.2.1 hd ht (fun q => absurd q h1) (fun _ => h)
theorem sl_j_gt (hX : sw_Xl g kx d x) {a b : Int32} (hd : decode (k_c kx) pc = .ok (.if_icmp .gt off, 3)) (ht : (pc : Int) + off = (tgt : Int)) (hf : (if b < a then A else B) = some r) (kt : b < a → A = some r → sw_W g x tgt lv st M) (kf : ¬ b < a → B = some r → sw_W g x (pc + 3) lv st M) : sw_W g x pc lv (.int b :: .int a :: st) M := by
  rcases sw_ite hf with ⟨h1, h2⟩ | ⟨h1, h2⟩
  · exact sw_keep (kt h1 h2) fun _ _ _ h => lv_icmp_gt hX.1.1 hX.1.2.1 hd ht (fun _ => h) (fun q => absurd h1 q)
  · exact sw_keep (kf h1 h2) fun _ _ _ h => lv_icmp_gt hX.1.1 hX.1.2.1 hd ht (fun q => absurd q h1) (fun _ => h)
theorem sl_j_le (hX : sw_Xl g kx d x) {a b : Int32} (hd : decode (k_c kx) pc = .ok (.if_icmp .le off, 3)) (ht : (pc : Int) + off = (tgt : Int)) (hf : (if a ≤ b then A else B) = some r) (kt : a ≤ b → A = some r → sw_W g x tgt lv st M) (kf : ¬ a ≤ b → B = some r → sw_W g x (pc + 3) lv st M) : sw_W g x pc lv (.int b :: .int a :: st) M := by
  rcases sw_ite hf with ⟨h1, h2⟩ | ⟨h1, h2⟩
  · exact sw_keep (kt h1 h2) fun _ _ _ h => lv_icmp_le hX.1.1 hX.1.2.1 hd ht (fun _ => h) (fun q => absurd h1 q)
  · exact sw_keep (kf h1 h2) fun _ _ _ h => lv_icmp_le hX.1.1 hX.1.2.1 hd ht (fun q => absurd q h1) (fun _ => h)
theorem sl_z_eq (hX : sw_Xl g kx d x) {a : Int32} (hd : decode (k_c kx) pc = .ok (.ifCond .eq off, 3)) (ht : (pc : Int) + off = (tgt : Int)) (hf : (if a = 0 then A else B) = some r) (kt : a = 0 → A = some r → sw_W g x tgt lv st M) (kf : ¬ a = 0 → B = some r → sw_W g x (pc + 3) lv st M) : sw_W g x pc lv (.int a :: st) M := by
  rcases sw_ite hf with ⟨h1, h2⟩ | ⟨h1, h2⟩
  · exact sw_keep (kt h1 h2) fun _ _ _ h => lv_if_eq hX.1.1 hX.1.2.1 hd ht (fun _ => h) (fun q => absurd h1 q)
  · exact sw_keep (kf h1 h2) fun _ _ _ h => lv_if_eq hX.1.1 hX.1.2.1 hd ht (fun q => absurd q h1) (fun _ => h)
theorem sl_z_ne (hX : sw_Xl g kx d x) {a : Int32} (hd : decode (k_c kx) pc = .ok (.ifCond .ne off, 3)) (ht : (pc : Int) + off = (tgt : Int)) (hf : (if a = 0 then B else A) = some r) (kt : ¬ a = 0 → A = some r → sw_W g x tgt lv st M) (kf : a = 0 → B = some r → sw_W g x (pc + 3) lv st M) : sw_W g x pc lv (.int a :: st) M := by
  rcases sw_ite hf with ⟨h1, h2⟩ | ⟨h1, h2⟩
  · exact sw_keep (kf h1 h2) fun _ _ _ h => lv_if_ne hX.1.1 hX.1.2.1 hd ht (fun q => absurd h1 q) (fun _ => h)
  · exact sw_keep (kt h1 h2) fun _ _ _ h => lv_if_ne hX.1.1 hX.1.2.1 hd ht (fun _ => h) (fun q => absurd q h1)
theorem sl_l_ne (hX : sw_Xl g kx d x) {a b : Int64} (hd : decode (k_c kx) pc = .ok (.ifCond .ne off, 3)) (ht : (pc : Int) + off = (tgt : Int)) (hf : (if a = b then B else A) = some r) (kt : ¬ a = b → A = some r → sw_W g x tgt lv st M) (kf : a = b → B = some r → sw_W g x (pc + 3) lv st M) : sw_W g x pc lv (.int (lg_cmp a b) :: st) M := by
  rcases sw_ite hf with ⟨h1, h2⟩ | ⟨h1, h2⟩
  · exact sw_keep (kf h1 h2) fun _ _ _ h => lv_if_ne hX.1.1 hX.1.2.1 hd ht (fun q => absurd ((lc_eq a b).mpr h1) q) (fun _ => h)
  · exact sw_keep (kt h1 h2) fun _ _ _ h => lv_if_ne hX.1.1 hX.1.2.1 hd ht (fun _ => h) (fun q => absurd ((lc_eq a b).mp q) h1)
theorem sl_l_eq (hX : sw_Xl g kx d x) {a b : Int64} (hd : decode (k_c kx) pc = .ok (.ifCond .eq off, 3)) (ht : (pc : Int) + off = (tgt : Int)) (hf : (if a = b then A else B) = some r) (kt : a = b → A = some r → sw_W g x tgt lv st M) (kf : ¬ a = b → B = some r → sw_W g x (pc + 3) lv st M) : sw_W g x pc lv (.int (lg_cmp a b) :: st) M := by
  rcases sw_ite hf with ⟨h1, h2⟩ | ⟨h1, h2⟩
  · exact sw_keep (kt h1 h2) fun _ _ _ h => lv_if_eq hX.1.1 hX.1.2.1 hd ht (fun _ => h) (fun q => absurd ((lc_eq a b).mpr h1) q)
  · exact sw_keep (kf h1 h2) fun _ _ _ h => lv_if_eq hX.1.1 hX.1.2.1 hd ht (fun q => absurd ((lc_eq a b).mp q) h1) (fun _ => h)
theorem sl_goto (hX : sw_Xl g kx d x) (hd : decode (k_c kx) pc = .ok (.goto off, 3)) (ht : (pc : Int) + off = (tgt : Int)) (k : sw_W g x tgt lv st M) : sw_W g x pc lv st M := sw_keep k fun _ _ _ h => lv_goto hX.1.1 hX.1.2.1 hd ht h
theorem sl_tin (hX : sw_Xl g kx d x) {dflt lo hi : Int} {offs : Array Int} {len : Nat} {a : Int32} (hd : decode (k_c kx) pc = .ok (.tableswitch dflt lo hi offs, len)) (h1 : ¬ a.toInt < lo) (h2 : ¬ hi < a.toInt) (ho : offs[(a.toInt - lo).toNat]? = some off) (ht : (pc : Int) + off = (tgt : Int)) (k : sw_W g x tgt lv st M) : sw_W g x pc lv (.int a :: st) M := sw_keep k fun _ _ _ h => lv_tableIn hX.1.1 hX.1.2.1 hd h1 h2 ho ht h
theorem sl_tout (hX : sw_Xl g kx d x) {dflt lo hi : Int} {offs : Array Int} {len : Nat} {a : Int32} (hd : decode (k_c kx) pc = .ok (.tableswitch dflt lo hi offs, len)) (h1 : a.toInt < lo ∨ hi < a.toInt) (ht : (pc : Int) + dflt = (tgt : Int)) (k : sw_W g x tgt lv st M) : sw_W g x pc lv (.int a :: st) M := sw_keep k fun _ _ _ h => lv_tableOut hX.1.1 hX.1.2.1 hd h1 ht h
/-- the script: L ints xs -/
theorem sl_slen {L : Nat} {xs : Nat → Int32} (hX : sw_Xl g kx d x) (hs : va_X (g_X g 30) L xs (x_s x) (x_s x).heap) (hb : g_X g 30 < (x_s x).heap.size) (hB : ¬ g_B g ≤ g_X g 30) (hd : decode (k_c kx) pc = .ok (.arraylength, 1)) (k : sw_W g x (pc + 1) lv (.int (Int32.ofNat L) :: st) M) : sw_W g x pc lv (.retAddr 30 :: st) M := by
  refine ⟨k.1, fun H locs ls hH => ?_⟩
  exact va_slen hX.1.1 hX.1.2.1 hs hb hB hH.2.1 hd (k.2 H locs ls hH)
theorem sl_sld {L : Nat} {xs : Nat → Int32} {i : Int32} (hX : sw_Xl g kx d x) (hs : va_X (g_X g 30) L xs (x_s x) (x_s x).heap) (hb : g_X g 30 < (x_s x).heap.size) (hB : ¬ g_B g ≤ g_X g 30) (hin : sw_ti i L = true) (hd : decode (k_c kx) pc = .ok (.iaload, 1)) (k : sw_W g x (pc + 1) lv (.int (xs i.toNatClampNeg) :: st) M) : sw_W g x pc lv (.int i :: .retAddr 30 :: st) M := by
  refine ⟨k.1, fun H locs ls hH => ?_⟩
  exact va_sld hX.1.1 hX.1.2.1 hs hb hB hH.2.1 (show ¬ (i < 0 ∨ L ≤ i.toNatClampNeg) from of_decide_eq_true hin) hd (k.2 H locs ls hH)
end LawRows
