/-! 14: calls and branches -/
section Calls
variable {o : Nat} {ini : Bool} {cc : ByteArray} {g : sw_G} {kx : sw_K} {d n0 : Nat} {v : Option Value} {Mz : sw_M} {x : sw_Ct} {pc : Nat} {lv : List (Nat × Value)} {st : List Value} {M M1 : sw_M}
theorem sw_blk (hX : sw_Xm g kx d n0 v Mz x) (bl : List sw_I) {lv' : List (Nat × Value)} {st' : List Value} {ob : List Bool} (hc : sw_ck (k_o kx) (k_i kx) (k_L kx) (k_c kx) pc bl = true) (hr : sw_run bl (lv, st, M) = some (ob, lv', st', M1)) (hob : ob.all id = true) (k : sw_W g x (sw_pc pc bl) lv' st' M1) : sw_W g x pc lv st M := sw_run_ok hX.1 hX.2.2.2.1 bl hc hr hob k
theorem sw_cats (g : sw_G) (st : List Value) : ((st.map (sw_tr g)).map fun v => v.category) = st.map fun v => v.category := by
  rw [List.map_map]
  exact List.map_congr_left (fun v _ => sw_tr_cat g v)
theorem sw_blind (g : sw_G) (As : List Value) (M : sw_M) : FrameBlind (sw_Pc g As M) := fun a U gg mk h => ⟨h.1, h.2.1, sw_E_same h.2.2 rfl rfl⟩
theorem sw_pre (hX : sw_X g o ini cc x) (hE : sw_E g (x_s x)) {H : Heap} {locs : List Loc} {ls : Array Slot} (hH : sw_H g x H locs M ls lv) (As : List Value) (U : State) (hU : U.heap = H) (hW : (x_s x).WarmedH U.vm) : sw_Pc g As M (As.map (sw_tr g)).toArray U :=
  ⟨rfl, by rw [hU]; exact hH.1, sw_E_moved (locs := locs) hE hW (by rw [hU]; exact hH.2.1)⟩
theorem sw_after (hX : sw_X g o ini cc x) {v2 : Option Value} (hN : rd_N M ≤ rd_N M1) {H : Heap} {locs : List Loc} {ls : Array Slot} {stk : List Value} {a : Array Value} (hH : sw_H g x H locs M ls lv)
    (run : va_Run (x_p x) (g_l g) (x_e x) (x_R x) (x_s x) (x_m x) (x_a x) (x_b x) (x_h x) (x_c x) H locs (rd_N M - x_0 x) (sw_us (rd_N M) - sw_us (x_0 x)) (rd_N M1 - rd_N M) (sw_us (rd_N M1) - sw_us (rd_N M)) (F0 (x_m x) pc ls stk) (st.map (sw_tr g)) (sw_Qc g v2 M1 a) (fun q : Nat => g_B g ≤ q))
    (k : sw_W g x (pc + 3) lv (v2.toList ++ st) M1) : W (x_p x) (g_l g) (x_e x) (x_R x) (x_s x) (x_m x) (x_a x) (x_b x) (x_h x) (x_c x) H locs (rd_N M - x_0 x) (sw_us (rd_N M) - sw_us (x_0 x)) (x_Q x) (F0 (x_m x) pc ls stk) := by
  intro T hT X
  obtain ⟨v', st₀, t, T', L, h0, X', hL, e1, e2, ⟨hv, hR1, hlow⟩, goes⟩ := run T hT X
  cases hv
  have u1 := sw_us_mono hH.2.2.2
  have u2 := sw_us_mono hN
  have c1 : rd_N M - x_0 x + (rd_N M1 - rd_N M) = rd_N M1 - x_0 x := by have := hH.2.2.2; omega
  have c2 : sw_us (rd_N M) - sw_us (x_0 x) + (sw_us (rd_N M1) - sw_us (rd_N M)) = sw_us (rd_N M1) - sw_us (x_0 x) := by omega
  rw [c1, c2] at X'
  have hS1 : va_S (fun q : Nat => g_B g ≤ q) (x_s x).heap T'.heap (locs ++ L) := by
    refine ⟨?_, fun q h1 h2 => ?_, fun q hq => ?_⟩
    · refine Nat.le_trans hH.2.1.1 ?_
      rw [hH.1.1, e1, hR1.1]
      omega
    · rw [e1, hlow q (Nat.not_le.mp h2), h0]
      exact hH.2.1.2.1 q h1 h2
    · rcases List.mem_append.mp hq with h | h
      · exact hH.2.1.2.2 q h
      · exact hL q h
  have h := k.2 T'.heap (locs ++ L) ls ⟨by rw [e1]; exact hR1, hS1, hH.2.2.1, Nat.le_trans hH.2.2.2 hN⟩
  obtain ⟨t2, a1, b1⟩ := h T' rfl X'
  refine ⟨t2, goes t2 ?_, b1⟩
  have es : (v2.toList ++ st).map (sw_tr g) = (v2.map (sw_tr g)).toList ++ st.map (sw_tr g) := by
    rw [List.map_append]
    cases v2 <;> rfl
  rw [es] at a1
  exact a1
/-- what the tables say of a method that is called -/
def sw_mf (k2 : sw_K) (n : Nat) : Prop := Jvm.Cond.code (k_y k2) (k_c k2) (k_L k2) (k_r k2) ∈ sw_ws ∧ Jvm.Cond.initialized (k_y k2).cls ∈ sw_ws ∧ ((k_y k2).cls ≠ "java/lang/invoke/MethodHandle" ∧ (k_y k2).cls ≠ "java/lang/invoke/VarHandle") ∧ (parseMethodDescriptor (k_y k2).desc).map (fun d => d.parameters.length) = some n ∧ k_L k2 ≤ 80
theorem sw_cb (hX : sw_Xm g kx d n0 v Mz x) {k2 : sw_K} {d2 mc ms n i : Nat} (hm : sw_mf k2 n) (hl : Jvm.Cond.methodLink (sw_on (k_o kx)) i (k_y k2) ∈ sw_ws) (hd2 : d2 + 1 ≤ d) : CallB (x_R x) (x_s x) (x_a x) (sw_on (k_o kx)) i (k_y k2) (k_c k2) (k_L k2) (k_r k2) (Jvm.Cond.code (k_y k2) (k_c k2) (k_L k2) (k_r k2) :: sw_ws) (sw_rm0 d2 mc ms) mc ms n := by
  obtain ⟨m1, m2, m3, m4, m5⟩ := hm
  have hts := hX.1.2.2.2.1
  have hD := hX.2.2.1
  refine ⟨rfl, rfl, Nat.le_trans hd2 hD.1, ?_, ?_, List.mem_cons_self, hts _ m1, hts _ m2, m3, fun sig h => ?_, hts _ hl⟩
  · show 8 + (k_L k2 + 11) + 100 * d2 ≤ _
    have := hD.2
    omega
  · intro w hw a' U hW
    rcases List.mem_cons.mp hw with e | h
    · rw [e]; exact sw_carry hts hW _ m1
    · exact sw_carry hts hW _ h
  · rw [h] at m4
    exact (Option.some.inj m4).symm
theorem sw_room (hX : sw_X g o ini cc x) (h0 : x_0 x ≤ rd_N M) (hN : rd_N M ≤ rd_N M1) (h1 : rd_N M1 ≤ x_1 x) : rd_N M - x_0 x + (rd_N M1 - rd_N M) ≤ (x_R x).cells ∧ sw_us (rd_N M) - sw_us (x_0 x) + (sw_us (rd_N M1) - sw_us (rd_N M)) ≤ (x_R x).slots := by
  obtain ⟨-, -, -, -, -, -, -, hc, hs⟩ := hX
  have u1 := sw_us_mono h0
  have u2 := sw_us_mono hN
  have u3 := sw_us_mono h1
  exact ⟨by omega, by omega⟩
theorem sw_recv (hX : sw_X g o ini cc x) {H : Heap} {q ci : Nat} {C : String} (hR : sw_R g M H) (hq : sw_ok M q ci = true) (hc : ci < 13) (hC : (sw_cl[ci]?).map (fun r => r.1) = some C) : ∃ a, q = a + 1 ∧ ∃ cellB : Cell, H[g_B g + a]? = some cellB ∧ cellB.vm.isStatics = false ∧ (x_s x).vm.findClass C = some cellB.cls := by
  obtain ⟨a, e, ha, r, hr, cell, q1, q2, q3, -⟩ := sw_R_obj hR hq hc
  rw [hr] at hC
  cases hC
  exact ⟨a, e, cell, q1, by rw [q3]; rfl, by rw [q2]; exact (hX.2.2.2.2.1.1 ci _ hr).2.1⟩
theorem sw_stk_eq (g : sw_G) (As st : List Value) (a : Nat) : (As.reverse ++ .ref (a + 1) :: st).map (sw_tr g) = (As.map (sw_tr g)).reverse ++ .ref (g_B g + a) :: st.map (sw_tr g) := by
  rw [List.map_append, List.map_reverse]
  rfl
theorem sw_callV (hX : sw_Xm g kx d n0 v Mz x) {k2 : sw_K} {d2 n i q ci : Nat} {As : List Value} {v2 : Option Value} (hm : sw_mf k2 n) (hmi : Jvm.Cond.instanceMethod (k_y k2) ∈ sw_ws) (hms : Jvm.Cond.selects (k_y k2).cls (k_y k2) (k_y k2) ∈ sw_ws) (hl : Jvm.Cond.methodLink (sw_on (k_o kx)) i (k_y k2) ∈ sw_ws) (hC : (sw_cl[ci]?).map (fun r => r.1) = some (k_y k2).cls) (hc : ci < 13) (hd : decode (k_c kx) pc = .ok (.invokevirtual i, 3)) (hn : As.length = n) (hst : (st.map fun v => v.category).sum ≤ 8) (hd2 : d2 + 1 ≤ d) (hq : sw_ok M q ci = true) (hok : sw_Ok g k2 d2 (.ref q :: As) M v2 M1) (k : sw_W g x (pc + 3) lv (v2.toList ++ st) M1) : sw_W g x pc lv (As.reverse ++ .ref q :: st) M := by
  refine ⟨Nat.le_trans hok.1 k.1, fun H locs ls hH => ?_⟩
  obtain ⟨a, rfl, hB⟩ := sw_recv hX.1 hH.1 hq hc hC
  unfold sw_V
  rw [sw_stk_eq]
  refine sw_after hX.1 (a := (Value.ref (g_B g + a) :: As.map (sw_tr g)).toArray) hok.1 hH ?_ k
  refine va_runV (C := (k_y k2).cls) (As := As.map (sw_tr g)) (n := n) ⟨hX.1.1, hX.1.2.1, hX.2.2.2.1, hX.1.2.2.1, hX.1.2.2.2.1⟩ hok.2 ⟨sw_cb hX hm hl hd2, hX.1.2.2.2.1 _ hmi, hX.1.2.2.2.1 _ hms⟩ ⟨sw_blind g _ _, hB, fun U hU hW => ?_⟩ rfl (by rw [List.length_map]; exact hn) (by rw [← hX.2.2.2.1]; exact hH.2.2.1.1) rfl (lv_room (by rw [sw_cats]; exact hst)) hd (sw_room hX.1 hH.2.2.2 hok.1 k.1)
  exact sw_pre hX.1 hX.2.1 hH (.ref (a + 1) :: As) U hU hW
theorem sw_callS (hX : sw_Xm g kx d n0 v Mz x) {k2 : sw_K} {d2 n i : Nat} {As : List Value} {v2 : Option Value} (hm : sw_mf k2 n) (hms : Jvm.Cond.static (k_y k2) ∈ sw_ws) (hl : Jvm.Cond.methodLink (sw_on (k_o kx)) i (k_y k2) ∈ sw_ws) (hd : decode (k_c kx) pc = .ok (.invokestatic i, 3)) (hn : As.length = n) (hst : (st.map fun v => v.category).sum ≤ 8) (hd2 : d2 + 1 ≤ d) (hok : sw_Ok g k2 d2 As M v2 M1) (k : sw_W g x (pc + 3) lv (v2.toList ++ st) M1) : sw_W g x pc lv (As.reverse ++ st) M := by
  refine ⟨Nat.le_trans hok.1 k.1, fun H locs ls hH => ?_⟩
  unfold sw_V
  rw [List.map_append, List.map_reverse]
  refine sw_after hX.1 (a := (As.map (sw_tr g)).toArray) hok.1 hH ?_ k
  exact va_runS (As := As.map (sw_tr g)) (n := n) ⟨hX.1.1, hX.1.2.1, hX.2.2.2.1, hX.1.2.2.1, hX.1.2.2.2.1⟩ hok.2 ⟨sw_cb hX hm hl hd2, hX.1.2.2.2.1 _ hms⟩ ⟨sw_blind g _ _, fun U hU hW => sw_pre hX.1 hX.2.1 hH As U hU hW⟩ rfl (by rw [List.length_map]; exact hn) (by rw [← hX.2.2.2.1]; exact hH.2.2.1.1) rfl (lv_room (by rw [sw_cats]; exact hst)) hd (sw_room hX.1 hH.2.2.2 hok.1 k.1)
theorem sw_callI (hX : sw_Xm g kx d n0 v Mz x) {k2 : sw_K} {d2 n i q ci : Nat} {As : List Value} (hm : sw_mf k2 n) (hr2 : k_r k2 = none) (hnm : (k_y k2).name = "<init>") (hmi : Jvm.Cond.instanceMethod (k_y k2) ∈ sw_ws) (hl : Jvm.Cond.methodLink (sw_on (k_o kx)) i (k_y k2) ∈ sw_ws) (hc : ci < 13) (hd : decode (k_c kx) pc = .ok (.invokespecial i, 3)) (hn : As.length = n) (hst : (st.map fun v => v.category).sum ≤ 8) (hd2 : d2 + 1 ≤ d) (hq : sw_ok M q ci = true) (hok : sw_Ok g k2 d2 (.ref q :: As) M none M1) (k : sw_W g x (pc + 3) lv st M1) : sw_W g x pc lv (As.reverse ++ .ref q :: st) M := by
  refine ⟨Nat.le_trans hok.1 k.1, fun H locs ls hH => ?_⟩
  obtain ⟨a, -, rfl, -⟩ := sw_ok_spec hq
  unfold sw_V
  rw [sw_stk_eq]
  refine sw_after hX.1 (a := (Value.ref (g_B g + a) :: As.map (sw_tr g)).toArray) (v2 := none) hok.1 hH ?_ k
  have hcb := sw_cb (mc := rd_N M1 - rd_N M) (ms := sw_us (rd_N M1) - sw_us (rd_N M)) hX hm hl hd2
  have hM := hok.2
  rw [hr2] at hcb hM
  exact va_runI (As := As.map (sw_tr g)) (n := n) ⟨hX.1.1, hX.1.2.1, hX.2.2.2.1, hX.1.2.2.1, hX.1.2.2.2.1⟩ hM ⟨hcb, hnm, hX.1.2.2.2.1 _ hmi⟩ ⟨sw_blind g _ _, fun U hU hW => sw_pre hX.1 hX.2.1 hH (.ref (a + 1) :: As) U hU hW⟩ rfl (by rw [List.length_map]; exact hn) (by rw [← hX.2.2.2.1]; exact hH.2.2.1.1) rfl (lv_room (by rw [sw_cats]; exact hst)) hd (sw_room hX.1 hH.2.2.2 hok.1 k.1)
theorem sw_callIN (hX : sw_Xm g kx d n0 v Mz x) {k2 : sw_K} {d2 n i q ci : Nat} {As : List Value} {host : String} (hm : sw_mf k2 n) (hr2 : k_r k2 = none) (hnm : (k_y k2).name = "<init>") (hmi : Jvm.Cond.instanceMethod (k_y k2) ∈ sw_ws) (hl : Jvm.Cond.methodLinkNest (sw_on (k_o kx)) i (k_y k2) host ∈ sw_ws) (hc : ci < 13) (hd : decode (k_c kx) pc = .ok (.invokespecial i, 3)) (hn : As.length = n) (hst : (st.map fun v => v.category).sum ≤ 8) (hd2 : d2 + 1 ≤ d) (hq : sw_ok M q ci = true) (hok : sw_Ok g k2 d2 (.ref q :: As) M none M1) (k : sw_W g x (pc + 3) lv st M1) : sw_W g x pc lv (As.reverse ++ .ref q :: st) M := by
  refine ⟨Nat.le_trans hok.1 k.1, fun H locs ls hH => ?_⟩
  obtain ⟨a, -, rfl, -⟩ := sw_ok_spec hq
  unfold sw_V
  rw [sw_stk_eq]
  refine sw_after hX.1 (a := (Value.ref (g_B g + a) :: As.map (sw_tr g)).toArray) (v2 := none) hok.1 hH ?_ k
  have hts := hX.1.2.2.2.1
  have hD := hX.2.2.1
  obtain ⟨m1, m2, m3, m4, m5⟩ := hm
  have hM := hok.2
  rw [hr2] at hM m1
  have hcn : va_CN (x_R x) (x_s x) (x_a x) (sw_on (k_o kx)) i (k_y k2) host (k_c k2) (k_L k2) none (Jvm.Cond.code (k_y k2) (k_c k2) (k_L k2) none :: sw_ws) (sw_rm0 d2 (rd_N M1 - rd_N M) (sw_us (rd_N M1) - sw_us (rd_N M))) (rd_N M1 - rd_N M) (sw_us (rd_N M1) - sw_us (rd_N M)) n := by
    refine ⟨⟨rfl, rfl, Nat.le_trans hd2 hD.1, ?_, ?_, List.mem_cons_self⟩, hts _ m1, hts _ m2, m3, fun sig h => ?_, hts _ hl⟩
    · show 8 + (k_L k2 + 11) + 100 * d2 ≤ _
      have := hD.2
      omega
    · intro w hw a' U hW
      rcases List.mem_cons.mp hw with e | h
      · rw [e]; exact sw_carry hts hW _ m1
      · exact sw_carry hts hW _ h
    · rw [h] at m4
      exact (Option.some.inj m4).symm
  exact va_runIN (As := As.map (sw_tr g)) (n := n) ⟨hX.1.1, hX.1.2.1, hX.2.2.2.1, hX.1.2.2.1, hX.1.2.2.2.1⟩ hM ⟨hcn, hnm, hX.1.2.2.2.1 _ hmi⟩ ⟨sw_blind g _ _, fun U hU hW => sw_pre hX.1 hX.2.1 hH (.ref (a + 1) :: As) U hU hW⟩ rfl (by rw [List.length_map]; exact hn) (by rw [← hX.2.2.2.1]; exact hH.2.2.1.1) rfl (lv_room (by rw [sw_cats]; exact hst)) hd (sw_room hX.1 hH.2.2.2 hok.1 k.1)
end Calls
