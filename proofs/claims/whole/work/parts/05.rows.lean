/-! 05: an instruction, a row -/
section Rows
variable {g : sw_G} {o : Nat} {ini : Bool} {cc : ByteArray} {x : sw_Ct} {pc : Nat} {lv : List (Nat × Value)} {st : List Value} {M : sw_M}
theorem sw_r_null (hX : sw_X g o ini cc x) (hd : decode cc pc = .ok (.aconst_null, 1)) (k : sw_W g x (pc + 1) lv (.ref 0 :: st) M) : sw_W g x pc lv st M := sw_keep k fun _ _ _ h => lv_null hX.1 hX.2.1 hd h
theorem sw_r_iconst (hX : sw_X g o ini cc x) {n : Int} {v : Int32} (hd : decode cc pc = .ok (.iconst n, 1)) (hv : Int32.ofInt n = v) (k : sw_W g x (pc + 1) lv (.int v :: st) M) : sw_W g x pc lv st M := sw_keep k fun _ _ _ h => lv_iconst hX.1 hX.2.1 hd hv h
theorem sw_r_bipush (hX : sw_X g o ini cc x) {n : Int} {v : Int32} (hd : decode cc pc = .ok (.bipush n, 2)) (hv : (Int8.ofInt n).toInt32 = v) (k : sw_W g x (pc + 2) lv (.int v :: st) M) : sw_W g x pc lv st M := sw_keep k fun _ _ _ h => lv_bipush hX.1 hX.2.1 hd hv h
theorem sw_r_sipush (hX : sw_X g o ini cc x) {n : Int} {v : Int32} (hd : decode cc pc = .ok (.sipush n, 3)) (hv : (Int16.ofInt n).toInt32 = v) (k : sw_W g x (pc + 3) lv (.int v :: st) M) : sw_W g x pc lv st M := sw_keep k fun _ _ _ h => lv_sipush hX.1 hX.2.1 hd hv h
theorem sw_r_lconst (hX : sw_X g o ini cc x) {n : Fin 2} {v : Int64} (hd : decode cc pc = .ok (.lconst n, 1)) (hv : Int64.ofNat (n : Nat) = v) (k : sw_W g x (pc + 1) lv (.long v :: st) M) : sw_W g x pc lv st M := sw_keep k fun _ _ _ h => lv_lconst hX.1 hX.2.1 hd hv h
theorem sw_r_ldc (hX : sw_X g o ini cc x) {i : Nat} {v : Int} (hd : decode cc pc = .ok (.ldc i, 2)) (hv : sw_cck o i v = true) (k : sw_W g x (pc + 2) lv (.int (Int32.ofInt v) :: st) M) : sw_W g x pc lv st M := sw_keep k fun _ _ _ h => lv_ldc hX.1 hX.2.1 hX.2.2.1 (hX.2.2.2.1 _ (sw_cck_spec hv)) hd h
theorem sw_r_ldcw (hX : sw_X g o ini cc x) {i : Nat} {v : Int} (hd : decode cc pc = .ok (.ldc_w i, 3)) (hv : sw_cck o i v = true) (k : sw_W g x (pc + 3) lv (.int (Int32.ofInt v) :: st) M) : sw_W g x pc lv st M := sw_keep k fun _ _ _ h => lv_ldcw hX.1 hX.2.1 hX.2.2.1 (hX.2.2.2.1 _ (sw_cck_spec hv)) hd h
theorem sw_r_ldc2 (hX : sw_X g o ini cc x) {i : Nat} {v : Int} (hd : decode cc pc = .ok (.ldc2_w i, 3)) (hv : sw_lck o i v = true) (k : sw_W g x (pc + 3) lv (.long (Int64.ofInt v) :: st) M) : sw_W g x pc lv st M := sw_keep k fun _ _ _ h => lv_ldc2 hX.1 hX.2.1 hX.2.2.1 (hX.2.2.2.1 _ (sw_lck_spec hv)) hd h
-- loads
theorem sw_ldk {pc' : Nat} {i : Nat} {v : Value} (hl : sw_lk lv i = some v) (k : sw_W g x pc' lv (v :: st) M) (h : ∀ (H : Heap) (locs : List Loc) (ls : Array Slot), ls[i]? = some (.val (sw_tr g v)) → sw_V g x H locs M pc' ls (v :: st) → sw_V g x H locs M pc ls st) : sw_W g x pc lv st M :=
  ⟨k.1, fun H locs ls hH => h H locs ls (sw_ld hH.2.2.1 (sw_lk_mem hl)) (k.2 H locs ls hH)⟩
theorem sw_r_iload (hX : sw_X g o ini cc x) {i : Nat} {v : Int32} (hd : decode cc pc = .ok (.iload i, 2)) (hl : sw_lk lv i = some (.int v)) (k : sw_W g x (pc + 2) lv (.int v :: st) M) : sw_W g x pc lv st M := sw_ldk hl k fun _ _ _ h1 h => lv_iload hX.1 hX.2.1 hd h1 h
theorem sw_r_iload_n (hX : sw_X g o ini cc x) {i : Fin 4} {v : Int32} (hd : decode cc pc = .ok (.iload_n i, 1)) (hl : sw_lk lv i.val = some (.int v)) (k : sw_W g x (pc + 1) lv (.int v :: st) M) : sw_W g x pc lv st M := sw_ldk hl k fun _ _ _ h1 h => lv_iload_n hX.1 hX.2.1 hd rfl h1 h
theorem sw_r_lload (hX : sw_X g o ini cc x) {i : Nat} {v : Int64} (hd : decode cc pc = .ok (.lload i, 2)) (hl : sw_lk lv i = some (.long v)) (k : sw_W g x (pc + 2) lv (.long v :: st) M) : sw_W g x pc lv st M := sw_ldk hl k fun _ _ _ h1 h => lv_lload hX.1 hX.2.1 hd h1 h
theorem sw_r_lload_n (hX : sw_X g o ini cc x) {i : Fin 4} {v : Int64} (hd : decode cc pc = .ok (.lload_n i, 1)) (hl : sw_lk lv i.val = some (.long v)) (k : sw_W g x (pc + 1) lv (.long v :: st) M) : sw_W g x pc lv st M := sw_ldk hl k fun _ _ _ h1 h => lv_lload_n hX.1 hX.2.1 hd rfl h1 h
theorem sw_aload {p : Program} {l : Launch} {e : Env} {R : Room} {s : State} {m : MethodId} {args : Array Value} {below : List Frame} {meth : Method} {c : Code} {H : Heap} {locs : List Loc} {cells slots : Nat} {Q : State → Prop} {ls : Array Slot} {rest : List Value} (hexec : p.tables.exec = Jvm.exec) (hb : c.code = cc) {i : Nat} {v : Value} (hv : v = .null ∨ ∃ a, v = .ref a) (hdg : decode cc pc = .ok (.aload i, 2)) (hl : ls[i]? = some (.val v))
    (k : W p l e R s m args below meth c H locs cells slots Q (F0 m (pc + 2) ls (v :: rest))) : W p l e R s m args below meth c H locs cells slots Q (F0 m pc ls rest) := by
  intro T hT X
  obtain ⟨t, a, b⟩ := k T hT X
  refine ⟨t, ?_, b⟩
  rcases hv with rfl | ⟨a, rfl⟩
  · jvm_step X.here [X.here.top, hexec, hb, hdg, hl]
    exact ⟨rfl, a⟩
  · jvm_step X.here [X.here.top, hexec, hb, hdg, hl]
    exact ⟨rfl, a⟩
theorem sw_aload_n {p : Program} {l : Launch} {e : Env} {R : Room} {s : State} {m : MethodId} {args : Array Value} {below : List Frame} {meth : Method} {c : Code} {H : Heap} {locs : List Loc} {cells slots : Nat} {Q : State → Prop} {ls : Array Slot} {rest : List Value} (hexec : p.tables.exec = Jvm.exec) (hb : c.code = cc) {i : Fin 4} {v : Value} (hv : v = .null ∨ ∃ a, v = .ref a) (hdg : decode cc pc = .ok (.aload_n i, 1)) (hl : ls[i.val]? = some (.val v))
    (k : W p l e R s m args below meth c H locs cells slots Q (F0 m (pc + 1) ls (v :: rest))) : W p l e R s m args below meth c H locs cells slots Q (F0 m pc ls rest) := by
  intro T hT X
  obtain ⟨t, a, b⟩ := k T hT X
  refine ⟨t, ?_, b⟩
  rcases hv with rfl | ⟨a, rfl⟩
  · jvm_step X.here [X.here.top, hexec, hb, hdg, hl]
    exact ⟨rfl, a⟩
  · jvm_step X.here [X.here.top, hexec, hb, hdg, hl]
    exact ⟨rfl, a⟩
def sw_isr (v : Value) : Bool := match v with
  | .ref _ => true
  | .retAddr _ => true
  | _ => false
theorem sw_isr_tr {v : Value} (h : sw_isr v = true) : sw_tr g v = .null ∨ ∃ a, sw_tr g v = .ref a := by
  cases v with
  | ref a => cases a with
    | zero => exact Or.inl rfl
    | succ a => exact Or.inr ⟨_, rfl⟩
  | retAddr k => exact Or.inr ⟨_, rfl⟩
  | _ => cases h
theorem sw_r_aload (hX : sw_X g o ini cc x) {i : Nat} {v : Value} (hd : decode cc pc = .ok (.aload i, 2)) (hl : sw_lk lv i = some v) (hv : sw_isr v = true) (k : sw_W g x (pc + 2) lv (v :: st) M) : sw_W g x pc lv st M := sw_ldk hl k fun _ _ _ h1 h => sw_aload hX.1 hX.2.1 (sw_isr_tr hv) hd h1 h
theorem sw_r_aload_n (hX : sw_X g o ini cc x) {i : Fin 4} {v : Value} (hd : decode cc pc = .ok (.aload_n i, 1)) (hl : sw_lk lv i.val = some v) (hv : sw_isr v = true) (k : sw_W g x (pc + 1) lv (v :: st) M) : sw_W g x pc lv st M := sw_ldk hl k fun _ _ _ h1 h => sw_aload_n hX.1 hX.2.1 (sw_isr_tr hv) hd h1 h
-- stores
def sw_nL (x : sw_Ct) : Nat := (x_c x).maxLocals
theorem sw_stk {pc' : Nat} {i : Nat} {v : Value} (k : sw_W g x pc' ((i, v) :: sw_rm lv i) st M) (h : ∀ (H : Heap) (locs : List Loc) (ls : Array Slot), lv_has ls (x_c x).maxLocals (sw_trl g lv) → (∀ ls' : Array Slot, lv_has ls' (x_c x).maxLocals (sw_trl g ((i, v) :: sw_rm lv i)) → sw_V g x H locs M pc' ls' st) → sw_V g x H locs M pc ls (v :: st)) : sw_W g x pc lv (v :: st) M :=
  ⟨k.1, fun H locs ls hH => h H locs ls hH.2.2.1 fun ls' hl' => k.2 H locs ls' ⟨hH.1, hH.2.1, hl', hH.2.2.2⟩⟩
theorem sw_r_istore (hX : sw_X g o ini cc x) {i : Nat} {v : Int32} (hd : decode cc pc = .ok (.istore i, 2)) (hn : i < (x_c x).maxLocals) (k : sw_W g x (pc + 2) ((i, .int v) :: sw_rm lv i) st M) : sw_W g x pc lv (.int v :: st) M := sw_stk k fun _ _ _ h1 h => lv_istore (lv' := sw_trl g ((i, .int v) :: sw_rm lv i)) hX.1 hX.2.1 hd h1 hn (by rw [sw_trl_rm]; rfl) h
theorem sw_r_istore_n (hX : sw_X g o ini cc x) {i : Fin 4} {v : Int32} (hd : decode cc pc = .ok (.istore_n i, 1)) (hn : i.val < (x_c x).maxLocals) (k : sw_W g x (pc + 1) ((i.val, .int v) :: sw_rm lv i.val) st M) : sw_W g x pc lv (.int v :: st) M := sw_stk k fun _ _ _ h1 h => lv_istore_n (lv' := sw_trl g ((i.val, .int v) :: sw_rm lv i.val)) hX.1 hX.2.1 hd rfl h1 hn (by rw [sw_trl_rm]; rfl) h
theorem sw_stk2 {pc' : Nat} {i : Nat} {v : Value} (k : sw_W g x pc' ((i, v) :: (sw_rm lv i).filter (fun q => !(q.1 == i + 1))) st M) (h : ∀ (H : Heap) (locs : List Loc) (ls : Array Slot), lv_has ls (x_c x).maxLocals (sw_trl g lv) → (∀ ls' : Array Slot, lv_has ls' (x_c x).maxLocals (sw_trl g ((i, v) :: (sw_rm lv i).filter (fun q => !(q.1 == i + 1)))) → sw_V g x H locs M pc' ls' st) → sw_V g x H locs M pc ls (v :: st)) : sw_W g x pc lv (v :: st) M :=
  ⟨k.1, fun H locs ls hH => h H locs ls hH.2.2.1 fun ls' hl' => k.2 H locs ls' ⟨hH.1, hH.2.1, hl', hH.2.2.2⟩⟩
theorem sw_r_lstore (hX : sw_X g o ini cc x) {i : Nat} {v : Int64} (hd : decode cc pc = .ok (.lstore i, 2)) (hn : i + 1 < (x_c x).maxLocals) (k : sw_W g x (pc + 2) ((i, .long v) :: (sw_rm lv i).filter (fun q => !(q.1 == i + 1))) st M) : sw_W g x pc lv (.long v :: st) M := sw_stk2 k fun _ _ _ h1 h => lv_lstore (lv' := sw_trl g ((i, .long v) :: (sw_rm lv i).filter (fun q => !(q.1 == i + 1)))) hX.1 hX.2.1 hd h1 hn (by rw [sw_trl_rm2]; rfl) h
theorem sw_r_lstore_n (hX : sw_X g o ini cc x) {i : Fin 4} {v : Int64} (hd : decode cc pc = .ok (.lstore_n i, 1)) (hn : i.val + 1 < (x_c x).maxLocals) (k : sw_W g x (pc + 1) ((i.val, .long v) :: (sw_rm lv i.val).filter (fun q => !(q.1 == i.val + 1))) st M) : sw_W g x pc lv (.long v :: st) M := sw_stk2 k fun _ _ _ h1 h => lv_lstore_n (lv' := sw_trl g ((i.val, .long v) :: (sw_rm lv i.val).filter (fun q => !(q.1 == i.val + 1)))) hX.1 hX.2.1 hd rfl h1 hn (by rw [sw_trl_rm2]; rfl) h
theorem sw_astore {p : Program} {l : Launch} {e : Env} {R : Room} {s : State} {m : MethodId} {args : Array Value} {below : List Frame} {meth : Method} {c : Code} {H : Heap} {locs : List Loc} {cells slots : Nat} {Q : State → Prop} {ls : Array Slot} {rest : List Value} (hexec : p.tables.exec = Jvm.exec) (hb : c.code = cc) {i nL : Nat} {v : Value} {lv : List (Nat × Value)} (hv : v = .null ∨ ∃ a, v = .ref a) (hdg : decode cc pc = .ok (.astore i, 2)) (h : lv_has ls nL lv) (hn : i < nL)
    (kk : ∀ ls' : Array Slot, lv_has ls' nL ((i, v) :: lv.filter (fun q => !(q.1 == i) && !(q.1 + 1 == i && q.2.category == 2))) → W p l e R s m args below meth c H locs cells slots Q (F0 m (pc + 2) ls' rest)) : W p l e R s m args below meth c H locs cells slots Q (F0 m pc ls (v :: rest)) := by
  rcases hv with rfl | ⟨a, rfl⟩
  · obtain ⟨ls', e', h'⟩ := lv_store1 (v := .null) h hn rfl
    intro T hT X
    obtain ⟨t, a, b⟩ := kk ls' h' T hT X
    refine ⟨t, ?_, b⟩
    jvm_step X.here [X.here.top, ↓top_set X.here.top, hexec, hb, hdg, e']
    exact ⟨rfl, a⟩
  · obtain ⟨ls', e', h'⟩ := lv_store1 (v := .ref a) h hn rfl
    intro T hT X
    obtain ⟨t, a, b⟩ := kk ls' h' T hT X
    refine ⟨t, ?_, b⟩
    jvm_step X.here [X.here.top, ↓top_set X.here.top, hexec, hb, hdg, e']
    exact ⟨rfl, a⟩
theorem sw_astore_n {p : Program} {l : Launch} {e : Env} {R : Room} {s : State} {m : MethodId} {args : Array Value} {below : List Frame} {meth : Method} {c : Code} {H : Heap} {locs : List Loc} {cells slots : Nat} {Q : State → Prop} {ls : Array Slot} {rest : List Value} (hexec : p.tables.exec = Jvm.exec) (hb : c.code = cc) {i : Fin 4} {nL : Nat} {v : Value} {lv : List (Nat × Value)} (hv : v = .null ∨ ∃ a, v = .ref a) (hdg : decode cc pc = .ok (.astore_n i, 1)) (h : lv_has ls nL lv) (hn : i.val < nL)
    (kk : ∀ ls' : Array Slot, lv_has ls' nL ((i.val, v) :: lv.filter (fun q => !(q.1 == i.val) && !(q.1 + 1 == i.val && q.2.category == 2))) → W p l e R s m args below meth c H locs cells slots Q (F0 m (pc + 1) ls' rest)) : W p l e R s m args below meth c H locs cells slots Q (F0 m pc ls (v :: rest)) := by
  rcases hv with rfl | ⟨a, rfl⟩
  · obtain ⟨ls', e', h'⟩ := lv_store1 (v := .null) h hn rfl
    intro T hT X
    obtain ⟨t, a, b⟩ := kk ls' h' T hT X
    refine ⟨t, ?_, b⟩
    jvm_step X.here [X.here.top, ↓top_set X.here.top, hexec, hb, hdg, e']
    exact ⟨rfl, a⟩
  · obtain ⟨ls', e', h'⟩ := lv_store1 (v := .ref a) h hn rfl
    intro T hT X
    obtain ⟨t, a, b⟩ := kk ls' h' T hT X
    refine ⟨t, ?_, b⟩
    jvm_step X.here [X.here.top, ↓top_set X.here.top, hexec, hb, hdg, e']
    exact ⟨rfl, a⟩
theorem sw_r_astore (hX : sw_X g o ini cc x) {i : Nat} {v : Value} (hd : decode cc pc = .ok (.astore i, 2)) (hn : i < (x_c x).maxLocals) (hv : sw_isr v = true) (k : sw_W g x (pc + 2) ((i, v) :: sw_rm lv i) st M) : sw_W g x pc lv (v :: st) M := sw_stk k fun _ _ _ h1 h => sw_astore hX.1 hX.2.1 (sw_isr_tr hv) hd h1 hn (fun ls' h' => h ls' (by rw [sw_trl_rm] at h'; exact h'))
theorem sw_r_astore_n (hX : sw_X g o ini cc x) {i : Fin 4} {v : Value} (hd : decode cc pc = .ok (.astore_n i, 1)) (hn : i.val < (x_c x).maxLocals) (hv : sw_isr v = true) (k : sw_W g x (pc + 1) ((i.val, v) :: sw_rm lv i.val) st M) : sw_W g x pc lv (v :: st) M := sw_stk k fun _ _ _ h1 h => sw_astore_n hX.1 hX.2.1 (sw_isr_tr hv) hd h1 hn (fun ls' h' => h ls' (by rw [sw_trl_rm] at h'; exact h'))
theorem sw_r_iinc (hX : sw_X g o ini cc x) {i : Nat} {n : Int} {v w : Int32} (hd : decode cc pc = .ok (.iinc i n, 3)) (hn : i < (x_c x).maxLocals) (hl : sw_lk lv i = some (.int v)) (hw : v + Int32.ofInt n = w) (k : sw_W g x (pc + 3) ((i, .int w) :: sw_rm lv i) st M) : sw_W g x pc lv st M :=
  ⟨k.1, fun H locs ls hH => by
    obtain ⟨j, hj⟩ := List.getElem?_of_mem (List.mem_map.mpr ⟨(i, Value.int v), sw_lk_mem hl, rfl⟩ : (i, sw_tr g (.int v)) ∈ sw_trl g lv)
    exact lv_iinc (v := w) (lv' := sw_trl g ((i, .int w) :: sw_rm lv i)) hX.1 hX.2.1 hd hH.2.2.1 (k := j) hj hw hn (by rw [sw_trl_rm]; rfl) (fun ls' hl' => k.2 H locs ls' ⟨hH.1, hH.2.1, hl', hH.2.2.2⟩)⟩
end Rows
