/-! THE CLAIM OUT OF ONE WALK OF THE LAW'S BODY. Your part is whole_start (and what it stands on); all else here is the same for every law, but numbers. -/
def R_law : String := "SwarmHouseLaw"
def lw_P (b : Addr) (xs : List Int32) (args : Array Value) (s : State) : Prop := args = #[.ref b] ∧ s.IntsAt b xs ∧ xs.length ≤ 5632 ∧ (Jvm.Cond.and given_1 narrow_1).before args s = true
def lw_Q (_ : Array Value) (s : State) (o : Outcome) (t : State) : Prop := o = .returned (some (.int 1)) ∧ Framed s o t [] 600000 7302250
def lw_Z (below : List Frame) (a : Array Value) (s : State) : State → Prop := fun t => ∃ o, t.status = .running ∧ Ended t below o ∧ lw_Q a s o t
/-- the law's own end, with 1 on the stack, nothing written that was there before, its room as the claim has it -/
theorem lw_ret {p : Program} {l : Launch} {e : Env} {s : State} {m : MethodId} {below : List Frame} {meth : Method} {c : Code} {b : Nat} (hx : p.tables.exec = Jvm.exec) (hb : c.code = code) (hr : meth.sig.returnType = ret) (hlocks : meth.locks = false) {pc : Nat} {H : Heap} {ls : Array Slot} (hdg : decode code pc = .ok (.ireturn, 1)) : W p l e room_1 s m #[Value.ref b] below meth c H [] 600000 7302250 (lw_Z below #[Value.ref b] s) (F0 m pc ls [.int 1]) := by
  intro T hT X
  obtain ⟨fs, hret, hrun, hended, hW, hframe⟩ := X.leave (v := some (.int 1)) (hlocks := hlocks) (fun h => by rw [hr] at h; cases h)
  have hmeth' : T.vm.method? m = some meth := X.method'
  refine ⟨T.setFrames fs, ?_, .returned (some (.int 1)), hrun, hended, rfl, ⟨_, rfl⟩, hW, hframe⟩
  jvm_step X.here [X.here.top, hx, hb, hdg, hmeth', hr, ret, narrow_b1]
  (try refine ⟨rfl, ?_⟩); (try refine ⟨rfl, ?_⟩)
  first | (intro acts; rw [hret _ acts rfl rfl rfl]) | rw [hret _ _ rfl rfl rfl]
  exact Steps.refl _
/-- what holds at the law's entry: the machine, the code, the tables' words (any of lw_tbl by 'hts w (by decide +kernel)'), the script of L ints xs at the cell b, what the Statement gives of the start (any of its parts by flat_of_before) -/
def lw_At (p : Program) (s : State) (m : MethodId) (meth : Method) (c : Code) (b L : Nat) (xs : Nat → Int32) : Prop :=
  p.tables.exec = Jvm.exec ∧ c.code = code ∧ meth.sig.returnType = ret ∧ c.maxLocals = 4 ∧ s.vm.findClass R_law = some m.cls ∧ (∀ w ∈ lw_tbl, w.before #[Value.ref b] s = true) ∧ va_X b L xs s s.heap ∧ b < s.heap.size ∧ meth.locks = false ∧ (Jvm.Cond.and given_1 narrow_1).before #[Value.ref b] s = true
/-- the law's end, with 1 on the stack -/
theorem sw_lawend {p : Program} {e : Env} {s : State} {m : MethodId} {below : List Frame} {meth : Method} {c : Code} {g : sw_G} {b : Nat} {d : Nat} (hX : sw_Xl g k_Law_law d (p, e, room_1, s, m, #[Value.ref b], below, meth, c, lw_Z below #[Value.ref b] s, 0, 178)) (hr : meth.sig.returnType = ret) (hlocks : meth.locks = false) (hB : g_B g = s.heap.size) (pc : Nat) (M : sw_M) {lv : List (Nat × Value)} (hz : rd_N M ≤ 178) (hd : decode (k_c k_Law_law) pc = .ok (.ireturn, 1)) : sw_W g (p, e, room_1, s, m, #[Value.ref b], below, meth, c, lw_Z below #[Value.ref b] s, 0, 178) pc lv [.int 1] M := by
  refine ⟨hz, fun H locs ls hH => ?_⟩
  unfold sw_V
  have hu := sw_us_mono hz
  have h178 : sw_us 178 ≤ 7302250 := by decide +kernel
  refine va_forget (s := s) (fun q hq => by have := hH.2.1.2.2 q hq; rw [← hB]; exact this) ?_
  refine W.widen (k := 600000) (n := 7302250) ?_ ?_ ?_
  · show rd_N M - 0 ≤ 600000
    omega
  · show sw_us (rd_N M) - sw_us 0 ≤ 7302250
    omega
  · exact lw_ret hX.1.1 hX.1.2.1 hr hlocks hd
def sw_M0 : sw_M := (fun _ _ => 0, fun _ _ => 0, fun _ _ => 0, 0)
theorem sw_hel0 : ∀ j, j < 120 → Jvm.Cond.eq (.elem (.field (.string "SwarmHouse$Reader" 179) "java/lang/String" "value" "[B") (.int (Int32.ofNat j))) (.int ((sw_byt sw_txt0).getD j 0)) ∈ flatC (Jvm.Cond.and given_1 narrow_1) := by decide +kernel
theorem sw_hel1 : ∀ j, j < 73 → Jvm.Cond.eq (.elem (.field (.string "SwarmHouseModel" 202) "java/lang/String" "value" "[B") (.int (Int32.ofNat j))) (.int ((sw_byt sw_txt1).getD j 0)) ∈ flatC (Jvm.Cond.and given_1 narrow_1) := by decide +kernel
theorem sw_known {s : State} {args : Array Value} (hts : ∀ w ∈ sw_ws, w.before args s = true) : ∃ (dC : Nat → ClassId) (dI : Nat → Nat → Nat), ∀ (k : Nat) (q : vw_C), sw_cl[k]? = some q → u_Kn s q.1 q.2.1 q.2.2 (dC k) (dI k) := by
  have h : ∀ k : Nat, ∃ (cC : ClassId) (iS : Nat → Nat), ∀ q : vw_C, sw_cl[k]? = some q → u_Kn s q.1 q.2.1 q.2.2 cC iS := by
    intro k
    cases hq : sw_cl[k]? with
    | none => exact ⟨0, fun _ => 0, fun q h => by cases h⟩
    | some q =>
      have hk : k < 13 := (List.getElem?_eq_some_iff.mp hq).1
      obtain ⟨hin, -⟩ := sw_clF _ _ hq
      obtain ⟨hi1, -⟩ := sw_ip_spec hq hk
      obtain ⟨cC, iS, h⟩ := u_known (C := q.1) (T := q.2.1) (N := q.2.2) (n := q.2.2) hts hin (hts _ hi1)
      exact ⟨cC, iS, fun q' h' => by cases h'; exact h⟩
  exact ⟨fun k => Classical.choose (h k), fun k => Classical.choose (Classical.choose_spec (h k)), fun k q hq => Classical.choose_spec (Classical.choose_spec (h k)) q hq⟩
theorem sw_arrs {s : State} {args : Array Value} (hts : ∀ w ∈ sw_ws, w.before args s = true) : ∃ dA : Nat → ClassId, ∀ (k : Nat) (q : ClassId × FieldType), ([(dA 0, .int), (dA 1, .byte), (dA 2, .boolean), (dA 3, .long), (dA 4, .object "SwarmHouse$Orbit"), (dA 5, .object "SwarmHouse$Part"), (dA 6, .array .int)] : List (ClassId × FieldType))[k]? = some q → ArrOfT s q.1 q.2 ∧ va_RA s q.1 q.2 := by
  obtain ⟨c0, k0, p0, a0, b0, d0⟩ := Cond.arrayClass_spec (hts _ sw_t_int)
  obtain ⟨c1, k1, p1, a1, b1, d1⟩ := Cond.arrayClass_spec (hts _ sw_t_byte)
  obtain ⟨c2, k2, p2, a2, b2, d2⟩ := Cond.arrayClass_spec (hts _ sw_t_boolean)
  obtain ⟨c3, k3, p3, a3, b3, d3⟩ := Cond.arrayClass_spec (hts _ sw_t_long)
  obtain ⟨p4, c4, k4, e4, -, b4, d4, a4⟩ := Cond.arrayOver_spec (hts _ sw_t_orbit)
  obtain ⟨p5, c5, k5, e5, -, b5, d5, a5⟩ := Cond.arrayOver_spec (hts _ sw_t_part)
  obtain ⟨p6, c6, k6, e6, b6, d6, a6⟩ := Cond.arrayOver_specA (hts _ sw_t_ints)
  have mk : ∀ {cA : ClassId} {kA : Class} {comp : ClassId} {ty : FieldType}, s.vm.classes[cA]? = some kA → kA.kind = .array comp ty → ArrOfT s cA ty := fun h1 h2 n z => ⟨fun k h => (by cases h), _, h1, _, h2⟩
  refine ⟨fun k => [c0, c1, c2, c3, c4, c5, c6].getD k 0, fun k q hq => ?_⟩
  match k, hq with
  | 0, hq => cases hq; exact ⟨mk b0 d0, a0⟩
  | 1, hq => cases hq; exact ⟨mk b1 d1, a1⟩
  | 2, hq => cases hq; exact ⟨mk b2 d2, a2⟩
  | 3, hq => cases hq; exact ⟨mk b3 d3, a3⟩
  | 4, hq => cases hq; exact ⟨mk b4 d4, _, _, b4, d4, e4, a4⟩
  | 5, hq => cases hq; exact ⟨mk b5 d5, _, _, b5, d5, e5, a5⟩
  | 6, hq => cases hq; exact ⟨mk b6 d6, a6⟩
  | n + 7, hq => simp at hq
theorem sw_flat0 : (Jvm.Cond.exactly (.string "SwarmHouse$Reader" 179) "java/lang/String" ∈ flatC (Jvm.Cond.and given_1 narrow_1)) ∧ (Jvm.Cond.eq (.field (.string "SwarmHouse$Reader" 179) "java/lang/String" "coder" "B") (.int 0) ∈ flatC (Jvm.Cond.and given_1 narrow_1)) ∧ (Jvm.Cond.arrayOf (.field (.string "SwarmHouse$Reader" 179) "java/lang/String" "value" "[B") .byte ∈ flatC (Jvm.Cond.and given_1 narrow_1)) ∧ (Jvm.Cond.eq (.length (.field (.string "SwarmHouse$Reader" 179) "java/lang/String" "value" "[B")) (.int 120) ∈ flatC (Jvm.Cond.and given_1 narrow_1)) := ⟨by decide +kernel, by decide +kernel, by decide +kernel, by decide +kernel⟩
theorem sw_flat1 : (Jvm.Cond.exactly (.string "SwarmHouseModel" 202) "java/lang/String" ∈ flatC (Jvm.Cond.and given_1 narrow_1)) ∧ (Jvm.Cond.eq (.field (.string "SwarmHouseModel" 202) "java/lang/String" "coder" "B") (.int 0) ∈ flatC (Jvm.Cond.and given_1 narrow_1)) ∧ (Jvm.Cond.arrayOf (.field (.string "SwarmHouseModel" 202) "java/lang/String" "value" "[B") .byte ∈ flatC (Jvm.Cond.and given_1 narrow_1)) ∧ (Jvm.Cond.eq (.length (.field (.string "SwarmHouseModel" 202) "java/lang/String" "value" "[B")) (.int 73) ∈ flatC (Jvm.Cond.and given_1 narrow_1)) := ⟨by decide +kernel, by decide +kernel, by decide +kernel, by decide +kernel⟩
theorem sw_flatn : Jvm.Cond.not (Jvm.Cond.eq (.string "SwarmHouse$Reader" 179) (.string "SwarmHouseModel" 202)) ∈ flatC (Jvm.Cond.and given_1 narrow_1) := by decide +kernel
theorem sw_flatc : Jvm.Cond.eq (.static "java/lang/String" "COMPACT_STRINGS" "Z") (.int 1) ∈ flatC (Jvm.Cond.and given_1 narrow_1) := by decide +kernel
theorem sw_flatf : Jvm.Cond.isRef (.static "jdk/internal/util/Preconditions" "SIOOBE_FORMATTER" "Ljava/util/function/BiFunction;") ∈ flatC (Jvm.Cond.and given_1 narrow_1) := by decide +kernel
