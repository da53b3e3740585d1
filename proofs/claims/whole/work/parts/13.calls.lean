/-! 13: words carried over a call; a method's contract; calls, branches, ends -/
def sw_odd (w : Jvm.Cond) : Bool := match w with
  | .arrayOver _ => true
  | .methodLinkNest .. => true
  | .stringRef .. => true
  | .privateMethod _ => true
  | _ => false
theorem sw_odd_all : sw_ws.all (fun w => goodWord w || sw_odd w) = true := by decide +kernel
theorem sw_carry {args a' : Array Value} {s U : State} (hts : ∀ w ∈ sw_ws, w.before args s = true) (hW : s.WarmedH U.vm) : ∀ w ∈ sw_ws, w.before a' U = true := by
  intro w hw
  have h := hts w hw
  rcases (Bool.or_eq_true _ _).mp (List.all_eq_true.mp sw_odd_all w hw) with q | q
  · exact word_at hW (good_of_word q) h
  · cases w
    case arrayOver t =>
      have h1 : (Cond.arrayOver t).before args (s.setVm U.vm) = true := by rw [Cond.arrayOver_setVmC hW.alike]; exact h
      exact h1
    case methodLinkNest a i y h0 => exact va_tabs rfl (rfl : (s.setVm U.vm).vm = U.vm) (Cond.methodLinkNest_warmed hW h)
    case stringRef a i t =>
      have h1 : (Cond.stringRef a i t).before args (s.setVm U.vm) = true := Cond.stringRef_warmed hW h
      exact h1
    case privateMethod y => exact va_tabs rfl (rfl : (s.setVm U.vm).vm = U.vm) (by rw [Cond.privateMethod_setVm hW.alike]; exact h)
    all_goals cases q
/-- a method: name, bytes, locals, answer, class, constructor or not -/
abbrev sw_K : Type := MethodName × ByteArray × Nat × Option FieldType × Nat × Bool
abbrev k_y (k : sw_K) : MethodName := k.1
abbrev k_c (k : sw_K) : ByteArray := k.2.1
abbrev k_L (k : sw_K) : Nat := k.2.2.1
abbrev k_r (k : sw_K) : Option FieldType := k.2.2.2.1
abbrev k_o (k : sw_K) : Nat := k.2.2.2.2.1
abbrev k_i (k : sw_K) : Bool := k.2.2.2.2.2
def sw_txt0 : String := "heap    disc    halo    bar     guest   use     or      and     not     near    far     turns   sort    gone    returns "
def sw_txt1 : String := "heap disc halo bar guest use or and not near far turns sort gone returns "
def sw_byt (t : String) : List Int32 := t.toList.map (fun c => Int32.ofNat c.toNat)
/-- what stays outside: classes and arrays by the tables, the two texts, String's switch -/
def sw_E (g : sw_G) (U : State) : Prop := va_K (g_D g) sw_cl (sw_tys g) U ∧ vk_S 2 [120, 73] [sw_byt sw_txt0, sw_byt sw_txt1] (g_X g) (fun i => g_X g (i + 10)) (fun q : Nat => g_B g ≤ q) U U.heap ∧ vk_R "SwarmHouse$Reader" 179 sw_txt0 (g_X g 0) U ∧ vk_R "SwarmHouseModel" 202 sw_txt1 (g_X g 1) U ∧ va_Z "java/lang/String" "COMPACT_STRINGS" "Z" (.int 1) (fun q : Nat => g_B g ≤ q) U U.heap ∧ (va_Z "jdk/internal/util/Preconditions" "SIOOBE_FORMATTER" "Ljava/util/function/BiFunction;" .null (fun q : Nat => g_B g ≤ q) U U.heap ∨ va_Z "jdk/internal/util/Preconditions" "SIOOBE_FORMATTER" "Ljava/util/function/BiFunction;" (.ref (g_X g 20)) (fun q : Nat => g_B g ≤ q) U U.heap)
theorem sw_E_moved {g : sw_G} {s U : State} {locs : List Loc} (h : sw_E g s) (hW : s.WarmedH U.vm) (hS : va_S (fun q : Nat => g_B g ≤ q) s.heap U.heap locs) : sw_E g U := by
  obtain ⟨h1, h2, h3, h4, h5, h6⟩ := h
  exact ⟨va_K.moved hW.alike h1, (vk_S.moved hW.alike h2).kept hS.2.1, h3.warm hW, h4.warm hW, (va_Z.moved hW.alike h5).kept hS.2.1, h6.imp (fun q => (va_Z.moved hW.alike q).kept hS.2.1) (fun q => (va_Z.moved hW.alike q).kept hS.2.1)⟩
theorem sw_E_same {g : sw_G} {s U : State} (h : sw_E g s) (hv : U.vm = s.vm) (hh : U.heap = s.heap) : sw_E g U := by
  obtain ⟨h1, h2, h3, h4, h5, h6⟩ := h
  have ha : s.vm.Alike U.vm := by rw [hv]; exact Vm.Alike.refl s.vm
  refine ⟨va_K.moved ha h1, ?_, h3.same hv, h4.same hv, ?_, ?_⟩
  · rw [hh]; exact vk_S.moved ha h2
  · rw [hh]; exact va_Z.moved ha h5
  · rw [hh]; exact h6.imp (fun q => va_Z.moved ha q) (fun q => va_Z.moved ha q)
def sw_rm0 (d mc ms : Nat) : Room := { frames := d, cells := mc, slots := ms, locals := 100 * d }
def sw_Pc (g : sw_G) (As : List Value) (M : sw_M) : Array Value → State → Prop := fun a U => a = (As.map (sw_tr g)).toArray ∧ sw_R g M U.heap ∧ sw_E g U
def sw_Qc (g : sw_G) (v : Option Value) (M' : sw_M) : Array Value → State → Outcome → State → Prop := fun _ st o t => o = .returned (v.map (sw_tr g)) ∧ sw_R g M' t.heap ∧ ∀ q : Nat, q < g_B g → t.heap[q]? = st.heap[q]?
/-- the method, from these arguments and this memory, answers v and leaves M' -/
def sw_Ok (g : sw_G) (k : sw_K) (d : Nat) (As : List Value) (M : sw_M) (v : Option Value) (M' : sw_M) : Prop :=
  rd_N M ≤ rd_N M' ∧ Met (g_l g) (k_y k) (Jvm.Cond.code (k_y k) (k_c k) (k_L k) (k_r k) :: sw_ws) (sw_rm0 d (rd_N M' - rd_N M) (sw_us (rd_N M') - sw_us (rd_N M))) (sw_Pc g As M) (sw_Qc g v M') (rd_N M' - rd_N M) (sw_us (rd_N M') - sw_us (rd_N M)) (fun q : Nat => g_B g ≤ q)
/-- a walk inside a method -/
def sw_Xm (g : sw_G) (k : sw_K) (d : Nat) (n0 : Nat) (v : Option Value) (M' : sw_M) (x : sw_Ct) : Prop :=
  sw_X g (k_o k) (k_i k) (k_c k) x ∧ sw_E g (x_s x) ∧ (d ≤ (x_R x).frames ∧ 100 * d ≤ (x_R x).locals) ∧ (x_c x).maxLocals = k_L k ∧ (x_h x).sig.returnType = k_r k ∧ (x_h x).locks = false ∧ x_0 x = n0 ∧ x_1 x = rd_N M' ∧ x_Q x = MQ (x_b x) (sw_Qc g v M') (x_a x) (x_s x) (rd_N M' - n0) (sw_us (rd_N M') - sw_us n0) (fun q : Nat => g_B g ≤ q)
theorem sw_trl_args (g : sw_G) : ∀ (As : List Value) (i : Nat), sw_trl g (lv_args i As) = lv_args i (As.map (sw_tr g))
  | [], _ => rfl
  | v :: r, i => by
    show (i, sw_tr g v) :: sw_trl g (lv_args (if v.category = 2 then i + 2 else i + 1) r) = (i, sw_tr g v) :: lv_args (if (sw_tr g v).category = 2 then i + 2 else i + 1) (r.map (sw_tr g))
    rw [sw_trl_args g r, sw_tr_cat]
/-- a contract out of a walk -/
theorem sw_met {g : sw_G} {k : sw_K} {d : Nat} {As : List Value} {M M' : sw_M} {v : Option Value} (hy : plainName (k_y k).cls = true) (ho : sw_on (k_o k) = (k_y k).cls) (hi : k_i k = true → (k_y k).name = "<init>") (hL : (lg_sl (As.map (sw_tr g))).length ≤ k_L k) (h : ∀ x, sw_Xm g k d (rd_N M) v M' x → sw_W g x 0 (lv_args 0 As) [] M) (hN : rd_N M ≤ rd_N M') : sw_Ok g k d As M v M' := by
  refine ⟨hN, Met.ofW (cc := k_c k) (maxL := k_L k) (ret := k_r k) hy rfl ?_⟩
  intro p e s m args below meth c s₁ B hml hv
  obtain ⟨rfl, hR, hE⟩ := hv
  have hts := atoms_spec (ws := Jvm.Cond.code (k_y k) (k_c k) (k_L k) (k_r k) :: sw_ws) B.pre
  have hown : s.vm.findClass (sw_on (k_o k)) = some m.cls := by rw [ho]; exact findClass_of_methodNamed B.named
  have hw := h (p, e, sw_rm0 d (rd_N M' - rd_N M) (sw_us (rd_N M') - sw_us (rd_N M)), s, m, (As.map (sw_tr g)).toArray, below, meth, c, MQ below (sw_Qc g v M') (As.map (sw_tr g)).toArray s (rd_N M' - rd_N M) (sw_us (rd_N M') - sw_us (rd_N M)) (fun q : Nat => g_B g ≤ q), rd_N M, rd_N M') ⟨⟨B.exec, B.bytes, hown, fun w hw => hts w (List.mem_cons_of_mem _ hw), hE.1, by rw [hR.1]; exact Nat.le_add_right _ _, fun hi' => ((name_of_methodNamed B.named B.method).1).trans (hi hi'), Nat.le_refl _, Nat.le_refl _⟩, hE, ⟨Nat.le_refl _, Nat.le_refl _⟩, hml, B.returns, B.notSynchronized, rfl, rfl, rfl⟩
  have hl := lv_entry (As.map (sw_tr g)) (n := k_L k) hL
  rw [lg_entry_eq]
  have hh := hw.2 s.heap [] _ ⟨hR, va_S.rf, by rw [sw_trl_args]; show lv_has _ c.maxLocals _; rw [hml]; exact hl, Nat.le_refl _⟩
  unfold sw_V at hh
  have e0 : rd_N M - rd_N M = 0 := Nat.sub_self _
  have e1 : sw_us (rd_N M) - sw_us (rd_N M) = 0 := Nat.sub_self _
  rw [show x_0 (p, e, sw_rm0 d (rd_N M' - rd_N M) (sw_us (rd_N M') - sw_us (rd_N M)), s, m, (As.map (sw_tr g)).toArray, below, meth, c, MQ below (sw_Qc g v M') (As.map (sw_tr g)).toArray s (rd_N M' - rd_N M) (sw_us (rd_N M') - sw_us (rd_N M)) (fun q : Nat => g_B g ≤ q), rd_N M, rd_N M') = rd_N M from rfl, e0, e1] at hh
  exact hh
/-- fewer locals are enough -/
theorem sw_weak {g : sw_G} {x : sw_Ct} {pc : Nat} {lv lv' : List (Nat × Value)} {st : List Value} {M : sw_M} (ks : List Nat) (h : lv_pick lv ks = lv') (k : sw_W g x pc lv' st M) : sw_W g x pc lv st M := by
  refine ⟨k.1, fun H locs ls hH => k.2 H locs ls ⟨hH.1, hH.2.1, ?_, hH.2.2.2⟩⟩
  refine lv_sub hH.2.2.1 ks ?_
  rw [← h]
  unfold lv_pick sw_trl
  rw [List.map_filterMap]
  congr 1
  funext i
  rw [List.getElem?_map]
section Ends
variable {g : sw_G} {kx : sw_K} {d n0 : Nat} {v : Option Value} {x : sw_Ct} {pc : Nat} {lv : List (Nat × Value)} {st : List Value} {M : sw_M}
theorem sw_q (hX : sw_Xm g kx d n0 v M x) {H : Heap} {locs : List Loc} {ls : Array Slot} (hH : sw_H g x H locs M ls lv) (t : State) (ht : t.heap = H) : sw_Qc g v M (x_a x) (x_s x) (.returned (v.map (sw_tr g))) t :=
  ⟨rfl, by rw [ht]; exact hH.1, fun q hq => by rw [ht]; exact hH.2.1.2.1 q (Nat.lt_of_lt_of_le hq hX.1.2.2.2.2.2.1) (Nat.not_le.mpr hq)⟩
theorem sw_e_int {w : Int32} (hX : sw_Xm g kx d n0 (some (.int w)) M x) (hr : k_r kx = some .int) (hd : decode (k_c kx) pc = .ok (.ireturn, 1)) : sw_W g x pc lv [.int w] M := by
  obtain ⟨hX0, hE, hD, hml, hret, hlk, h0, h1, hQ⟩ := id hX
  refine ⟨Nat.le_of_eq h1.symm, fun H locs ls hH => ?_⟩
  unfold sw_V
  rw [hQ, ← h0]
  exact W.iret hX0.1 hX0.2.1 (hret.trans hr) (fun t ht _ => sw_q hX hH t ht) hH.2.1.2.2 hd hlk
theorem sw_e_bool {w : Int32} (hX : sw_Xm g kx d n0 (some (.int w)) M x) (hr : k_r kx = some .boolean) (hw : sw_bz w = true) (hd : decode (k_c kx) pc = .ok (.ireturn, 1)) : sw_W g x pc lv [.int w] M := by
  obtain ⟨hX0, hE, hD, hml, hret, hlk, h0, h1, hQ⟩ := id hX
  refine ⟨Nat.le_of_eq h1.symm, fun H locs ls hH => ?_⟩
  unfold sw_V
  rw [hQ, ← h0]
  exact W.zret hX0.1 hX0.2.1 (hret.trans hr) (sw_nar_bz hw).1 (fun t ht _ => sw_q hX hH t ht) hH.2.1.2.2 hd hlk
theorem sw_e_long {w : Int64} (hX : sw_Xm g kx d n0 (some (.long w)) M x) (hr : k_r kx = some .long) (hd : decode (k_c kx) pc = .ok (.lreturn, 1)) : sw_W g x pc lv [.long w] M := by
  obtain ⟨hX0, hE, hD, hml, hret, hlk, h0, h1, hQ⟩ := id hX
  refine ⟨Nat.le_of_eq h1.symm, fun H locs ls hH => ?_⟩
  unfold sw_V
  rw [hQ, ← h0]
  exact W.lret hX0.1 hX0.2.1 (hret.trans hr) (fun t ht _ => sw_q hX hH t ht) hH.2.1.2.2 hd hlk
theorem sw_e_ref {w : Nat} (hX : sw_Xm g kx d n0 (some (.ref w)) M x) {C : String} (hr : k_r kx = some (.object C)) (hd : decode (k_c kx) pc = .ok (.areturn, 1)) : sw_W g x pc lv [.ref w] M := by
  obtain ⟨hX0, hE, hD, hml, hret, hlk, h0, h1, hQ⟩ := id hX
  refine ⟨Nat.le_of_eq h1.symm, fun H locs ls hH => ?_⟩
  unfold sw_V
  rw [hQ, ← h0]
  exact W.aret hX0.1 hX0.2.1 (hret.trans hr) (Or.inl ⟨C, rfl⟩) (sw_isr_tr (v := .ref w) rfl) (fun t ht _ => sw_q hX hH t ht) hH.2.1.2.2 hd hlk
theorem sw_e_void (hX : sw_Xm g kx d n0 none M x) (hr : k_r kx = none) (hd : decode (k_c kx) pc = .ok (.return_, 1)) : sw_W g x pc lv [] M := by
  obtain ⟨hX0, hE, hD, hml, hret, hlk, h0, h1, hQ⟩ := id hX
  refine ⟨Nat.le_of_eq h1.symm, fun H locs ls hH => ?_⟩
  unfold sw_V
  rw [hQ, ← h0]
  exact W.vret hX0.1 hX0.2.1 (hret.trans hr) (fun t ht _ => sw_q hX hH t ht) hH.2.1.2.2 hd hlk
end Ends
