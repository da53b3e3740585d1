/-! 17: the methods: names, bytes, what the tables say of them -/
theorem sw_m1 {w : Jvm.Cond} (i : Nat) (h : tables_1_1[i]? = some w) (hk : sw_kw w = true := by rfl) : w ∈ sw_ws := List.mem_filter.mpr ⟨List.mem_append_right _ (show w ∈ tables_1_1 ++ (tables_1_2 ++ (tables_1_3 ++ (tables_1_4 ++ (tables_1_5 ++ (tables_1_6 ++ (tables_1_7 ++ tables_1_8)))))) from List.mem_append_left _ (List.mem_of_getElem? h)), hk⟩
theorem sw_m2 {w : Jvm.Cond} (i : Nat) (h : tables_1_2[i]? = some w) (hk : sw_kw w = true := by rfl) : w ∈ sw_ws := List.mem_filter.mpr ⟨List.mem_append_right _ (show w ∈ tables_1_1 ++ (tables_1_2 ++ (tables_1_3 ++ (tables_1_4 ++ (tables_1_5 ++ (tables_1_6 ++ (tables_1_7 ++ tables_1_8)))))) from List.mem_append_right _ (List.mem_append_left _ (List.mem_of_getElem? h))), hk⟩
theorem sw_m3 {w : Jvm.Cond} (i : Nat) (h : tables_1_3[i]? = some w) (hk : sw_kw w = true := by rfl) : w ∈ sw_ws := List.mem_filter.mpr ⟨List.mem_append_right _ (show w ∈ tables_1_1 ++ (tables_1_2 ++ (tables_1_3 ++ (tables_1_4 ++ (tables_1_5 ++ (tables_1_6 ++ (tables_1_7 ++ tables_1_8)))))) from List.mem_append_right _ (List.mem_append_right _ (List.mem_append_left _ (List.mem_of_getElem? h)))), hk⟩
theorem sw_m4 {w : Jvm.Cond} (i : Nat) (h : tables_1_4[i]? = some w) (hk : sw_kw w = true := by rfl) : w ∈ sw_ws := List.mem_filter.mpr ⟨List.mem_append_right _ (show w ∈ tables_1_1 ++ (tables_1_2 ++ (tables_1_3 ++ (tables_1_4 ++ (tables_1_5 ++ (tables_1_6 ++ (tables_1_7 ++ tables_1_8)))))) from List.mem_append_right _ (List.mem_append_right _ (List.mem_append_right _ (List.mem_append_left _ (List.mem_of_getElem? h))))), hk⟩
theorem sw_m5 {w : Jvm.Cond} (i : Nat) (h : tables_1_5[i]? = some w) (hk : sw_kw w = true := by rfl) : w ∈ sw_ws := List.mem_filter.mpr ⟨List.mem_append_right _ (show w ∈ tables_1_1 ++ (tables_1_2 ++ (tables_1_3 ++ (tables_1_4 ++ (tables_1_5 ++ (tables_1_6 ++ (tables_1_7 ++ tables_1_8)))))) from List.mem_append_right _ (List.mem_append_right _ (List.mem_append_right _ (List.mem_append_right _ (List.mem_append_left _ (List.mem_of_getElem? h)))))), hk⟩
theorem sw_m6 {w : Jvm.Cond} (i : Nat) (h : tables_1_6[i]? = some w) (hk : sw_kw w = true := by rfl) : w ∈ sw_ws := List.mem_filter.mpr ⟨List.mem_append_right _ (show w ∈ tables_1_1 ++ (tables_1_2 ++ (tables_1_3 ++ (tables_1_4 ++ (tables_1_5 ++ (tables_1_6 ++ (tables_1_7 ++ tables_1_8)))))) from List.mem_append_right _ (List.mem_append_right _ (List.mem_append_right _ (List.mem_append_right _ (List.mem_append_right _ (List.mem_append_left _ (List.mem_of_getElem? h))))))), hk⟩
theorem sw_m7 {w : Jvm.Cond} (i : Nat) (h : tables_1_7[i]? = some w) (hk : sw_kw w = true := by rfl) : w ∈ sw_ws := List.mem_filter.mpr ⟨List.mem_append_right _ (show w ∈ tables_1_1 ++ (tables_1_2 ++ (tables_1_3 ++ (tables_1_4 ++ (tables_1_5 ++ (tables_1_6 ++ (tables_1_7 ++ tables_1_8)))))) from List.mem_append_right _ (List.mem_append_right _ (List.mem_append_right _ (List.mem_append_right _ (List.mem_append_right _ (List.mem_append_right _ (List.mem_append_left _ (List.mem_of_getElem? h)))))))), hk⟩
theorem sw_m8 {w : Jvm.Cond} (i : Nat) (h : tables_1_8[i]? = some w) (hk : sw_kw w = true := by rfl) : w ∈ sw_ws := List.mem_filter.mpr ⟨List.mem_append_right _ (show w ∈ tables_1_1 ++ (tables_1_2 ++ (tables_1_3 ++ (tables_1_4 ++ (tables_1_5 ++ (tables_1_6 ++ (tables_1_7 ++ tables_1_8)))))) from List.mem_append_right _ (List.mem_append_right _ (List.mem_append_right _ (List.mem_append_right _ (List.mem_append_right _ (List.mem_append_right _ (List.mem_append_right _ (List.mem_of_getElem? h)))))))), hk⟩
theorem sw_memp {w : Jvm.Cond} (i : Nat) (h : (k2_sels lw_privs)[i]? = some w) (hk : sw_kw w = true := by rfl) : w ∈ sw_ws := List.mem_filter.mpr ⟨List.mem_append_left _ (List.mem_of_getElem? h), hk⟩
theorem sw_ok_ne {M : sw_M} {q kd : Nat} (h : sw_ok M q kd = true) : ¬ q = 0 := by
  obtain ⟨a, n, rfl, -⟩ := sw_ok_spec h
  exact Nat.succ_ne_zero a
theorem sw_t_oi : Jvm.Cond.instanceMethod Lib.objectInit ∈ sw_ws := sw_mem 28 (by decide +kernel)
theorem sw_t_oc : Jvm.Cond.code Lib.objectInit ⟨#[0xb1]⟩ 1 none ∈ sw_ws := sw_mem 29 (by decide +kernel)
def sw_ti (i : Int32) (n : Nat) : Bool := decide (¬ (i < 0 ∨ n ≤ i.toNatClampNeg))
def tx_0 (i : Int32) : Int32 := (sw_byt sw_txt0).getD i.toNatClampNeg 0
def tx_1 (i : Int32) : Int32 := (sw_byt sw_txt1).getD i.toNatClampNeg 0
def m_maxI (x y : Int32) : Int32 := if x < y then y else x
theorem mm_maxI : Jvm.Cond.code Lib.Math.max.name Lib.Math.max.code 2 (some .int) ∈ sw_ws := sw_m3 232 (by decide +kernel)
theorem ms_maxI : Jvm.Cond.static Lib.Math.max.name ∈ sw_ws := sw_m3 231 (by decide +kernel)
theorem sf_maxI {g : sw_G} {kx : sw_K} {d n0 : Nat} {v : Option Value} {Mz : sw_M} {pc i : Nat} {lv : List (Nat × Value)} {st : List Value} {M : sw_M} {a b : Int32} (hl : Jvm.Cond.methodLink (sw_on (k_o kx)) i Lib.Math.max.name ∈ sw_ws) (hd : decode (k_c kx) pc = .ok (.invokestatic i, 3)) (hd1 : 1 ≤ d) (hst : (st.map fun v => v.category).sum ≤ 8) (k : sw_F g kx d n0 v Mz (pc + 3) lv (.int (m_maxI a b) :: st) M) : sw_F g kx d n0 v Mz pc lv (.int b :: .int a :: st) M := by
  refine ⟨k.1, fun x hX => ⟨(k.2 x hX).1, fun H locs ls hH => ?_⟩⟩
  have hts := hX.1.2.2.2.1
  have hD := hX.2.2.1
  have hc := hX.1.2.2.2.2.2.2.2.1
  have hs := hX.1.2.2.2.2.2.2.2.2
  have hn := (k.2 x hX).1
  have u1 := sw_us_mono hn
  refine va_mmax hX.1.1 hX.1.2.1 hH.2.2.1.1.symm hX.1.2.2.1 (hts _ hl) (hts _ ms_maxI) (hts _ (sw_m1 13 (by decide +kernel))) (hts _ mm_maxI) (Nat.le_trans hd1 hD.1) ?_ (by omega) (by omega) hd ((k.2 x hX).2 H locs ls hH)
  rw [sw_cats]
  have := hD.2
  omega
def m_minI (x y : Int32) : Int32 := if y < x then y else x
theorem mm_minI : Jvm.Cond.code Lib.Math.min.name Lib.Math.min.code 2 (some .int) ∈ sw_ws := sw_m3 15 (by decide +kernel)
theorem ms_minI : Jvm.Cond.static Lib.Math.min.name ∈ sw_ws := sw_m3 14 (by decide +kernel)
theorem sf_minI {g : sw_G} {kx : sw_K} {d n0 : Nat} {v : Option Value} {Mz : sw_M} {pc i : Nat} {lv : List (Nat × Value)} {st : List Value} {M : sw_M} {a b : Int32} (hl : Jvm.Cond.methodLink (sw_on (k_o kx)) i Lib.Math.min.name ∈ sw_ws) (hd : decode (k_c kx) pc = .ok (.invokestatic i, 3)) (hd1 : 1 ≤ d) (hst : (st.map fun v => v.category).sum ≤ 8) (k : sw_F g kx d n0 v Mz (pc + 3) lv (.int (m_minI a b) :: st) M) : sw_F g kx d n0 v Mz pc lv (.int b :: .int a :: st) M := by
  refine ⟨k.1, fun x hX => ⟨(k.2 x hX).1, fun H locs ls hH => ?_⟩⟩
  have hts := hX.1.2.2.2.1
  have hD := hX.2.2.1
  have hc := hX.1.2.2.2.2.2.2.2.1
  have hs := hX.1.2.2.2.2.2.2.2.2
  have hn := (k.2 x hX).1
  have u1 := sw_us_mono hn
  refine va_mmin hX.1.1 hX.1.2.1 hH.2.2.1.1.symm hX.1.2.2.1 (hts _ hl) (hts _ ms_minI) (hts _ (sw_m1 13 (by decide +kernel))) (hts _ mm_minI) (Nat.le_trans hd1 hD.1) ?_ (by omega) (by omega) hd ((k.2 x hX).2 H locs ls hH)
  rw [sw_cats]
  have := hD.2
  omega
def m_absI (x : Int32) : Int32 := if 0 ≤ x then x else 0 - x
theorem mm_absI : Jvm.Cond.code Lib.Math.abs.name Lib.Math.abs.code 1 (some .int) ∈ sw_ws := sw_m4 231 (by decide +kernel)
theorem ms_absI : Jvm.Cond.static Lib.Math.abs.name ∈ sw_ws := sw_m4 230 (by decide +kernel)
theorem sf_absI {g : sw_G} {kx : sw_K} {d n0 : Nat} {v : Option Value} {Mz : sw_M} {pc i : Nat} {lv : List (Nat × Value)} {st : List Value} {M : sw_M} {a : Int32} (hl : Jvm.Cond.methodLink (sw_on (k_o kx)) i Lib.Math.abs.name ∈ sw_ws) (hd : decode (k_c kx) pc = .ok (.invokestatic i, 3)) (hd1 : 1 ≤ d) (hst : (st.map fun v => v.category).sum ≤ 8) (k : sw_F g kx d n0 v Mz (pc + 3) lv (.int (m_absI a) :: st) M) : sw_F g kx d n0 v Mz pc lv (.int a :: st) M := by
  refine ⟨k.1, fun x hX => ⟨(k.2 x hX).1, fun H locs ls hH => ?_⟩⟩
  have hts := hX.1.2.2.2.1
  have hD := hX.2.2.1
  have hc := hX.1.2.2.2.2.2.2.2.1
  have hs := hX.1.2.2.2.2.2.2.2.2
  have hn := (k.2 x hX).1
  have u1 := sw_us_mono hn
  refine va_mabs hX.1.1 hX.1.2.1 hH.2.2.1.1.symm hX.1.2.2.1 (hts _ hl) (hts _ ms_absI) (hts _ (sw_m1 13 (by decide +kernel))) (hts _ mm_absI) (Nat.le_trans hd1 hD.1) ?_ (by omega) (by omega) hd ((k.2 x hX).2 H locs ls hH)
  rw [sw_cats]
  have := hD.2
  omega
def m_maxL (x y : Int64) : Int64 := if y < x then x else y
theorem mm_maxL : Jvm.Cond.code Lib.MathLoose.max_long.x Lib.MathLoose.max_long.code 4 (some .long) ∈ sw_ws := sw_m4 150 (by decide +kernel)
theorem ms_maxL : Jvm.Cond.static Lib.MathLoose.max_long.x ∈ sw_ws := sw_m4 149 (by decide +kernel)
theorem sf_maxL {g : sw_G} {kx : sw_K} {d n0 : Nat} {v : Option Value} {Mz : sw_M} {pc i : Nat} {lv : List (Nat × Value)} {st : List Value} {M : sw_M} {a b : Int64} (hl : Jvm.Cond.methodLink (sw_on (k_o kx)) i Lib.MathLoose.max_long.x ∈ sw_ws) (hd : decode (k_c kx) pc = .ok (.invokestatic i, 3)) (hd1 : 1 ≤ d) (hst : (st.map fun v => v.category).sum ≤ 8) (k : sw_F g kx d n0 v Mz (pc + 3) lv (.long (m_maxL a b) :: st) M) : sw_F g kx d n0 v Mz pc lv (.long b :: .long a :: st) M := by
  refine ⟨k.1, fun x hX => ⟨(k.2 x hX).1, fun H locs ls hH => ?_⟩⟩
  have hts := hX.1.2.2.2.1
  have hD := hX.2.2.1
  have hc := hX.1.2.2.2.2.2.2.2.1
  have hs := hX.1.2.2.2.2.2.2.2.2
  have hn := (k.2 x hX).1
  have u1 := sw_us_mono hn
  refine va_mmax_long hX.1.1 hX.1.2.1 hH.2.2.1.1.symm hX.1.2.2.1 (hts _ hl) (hts _ ms_maxL) (hts _ (sw_m1 13 (by decide +kernel))) (hts _ mm_maxL) (Nat.le_trans hd1 hD.1) ?_ (by omega) (by omega) hd ((k.2 x hX).2 H locs ls hH)
  rw [sw_cats]
  have := hD.2
  omega
def m_minL (x y : Int64) : Int64 := if y < x then y else x
theorem mm_minL : Jvm.Cond.code Lib.MathLoose.min_long.x Lib.MathLoose.min_long.code 4 (some .long) ∈ sw_ws := sw_m4 147 (by decide +kernel)
theorem ms_minL : Jvm.Cond.static Lib.MathLoose.min_long.x ∈ sw_ws := sw_m4 146 (by decide +kernel)
theorem sf_minL {g : sw_G} {kx : sw_K} {d n0 : Nat} {v : Option Value} {Mz : sw_M} {pc i : Nat} {lv : List (Nat × Value)} {st : List Value} {M : sw_M} {a b : Int64} (hl : Jvm.Cond.methodLink (sw_on (k_o kx)) i Lib.MathLoose.min_long.x ∈ sw_ws) (hd : decode (k_c kx) pc = .ok (.invokestatic i, 3)) (hd1 : 1 ≤ d) (hst : (st.map fun v => v.category).sum ≤ 8) (k : sw_F g kx d n0 v Mz (pc + 3) lv (.long (m_minL a b) :: st) M) : sw_F g kx d n0 v Mz pc lv (.long b :: .long a :: st) M := by
  refine ⟨k.1, fun x hX => ⟨(k.2 x hX).1, fun H locs ls hH => ?_⟩⟩
  have hts := hX.1.2.2.2.1
  have hD := hX.2.2.1
  have hc := hX.1.2.2.2.2.2.2.2.1
  have hs := hX.1.2.2.2.2.2.2.2.2
  have hn := (k.2 x hX).1
  have u1 := sw_us_mono hn
  refine va_mmin_long hX.1.1 hX.1.2.1 hH.2.2.1.1.symm hX.1.2.2.1 (hts _ hl) (hts _ ms_minL) (hts _ (sw_m1 13 (by decide +kernel))) (hts _ mm_minL) (Nat.le_trans hd1 hD.1) ?_ (by omega) (by omega) hd ((k.2 x hX).2 H locs ls hH)
  rw [sw_cats]
  have := hD.2
  omega
def m_absL (x : Int64) : Int64 := if 0 < x then x else -x
theorem mm_absL : Jvm.Cond.code Lib.MathLoose.abs_long.x Lib.MathLoose.abs_long.code 2 (some .long) ∈ sw_ws := sw_m4 202 (by decide +kernel)
theorem ms_absL : Jvm.Cond.static Lib.MathLoose.abs_long.x ∈ sw_ws := sw_m4 201 (by decide +kernel)
theorem sf_absL {g : sw_G} {kx : sw_K} {d n0 : Nat} {v : Option Value} {Mz : sw_M} {pc i : Nat} {lv : List (Nat × Value)} {st : List Value} {M : sw_M} {a : Int64} (hl : Jvm.Cond.methodLink (sw_on (k_o kx)) i Lib.MathLoose.abs_long.x ∈ sw_ws) (hd : decode (k_c kx) pc = .ok (.invokestatic i, 3)) (hd1 : 1 ≤ d) (hst : (st.map fun v => v.category).sum ≤ 8) (k : sw_F g kx d n0 v Mz (pc + 3) lv (.long (m_absL a) :: st) M) : sw_F g kx d n0 v Mz pc lv (.long a :: st) M := by
  refine ⟨k.1, fun x hX => ⟨(k.2 x hX).1, fun H locs ls hH => ?_⟩⟩
  have hts := hX.1.2.2.2.1
  have hD := hX.2.2.1
  have hc := hX.1.2.2.2.2.2.2.2.1
  have hs := hX.1.2.2.2.2.2.2.2.2
  have hn := (k.2 x hX).1
  have u1 := sw_us_mono hn
  refine va_mabs_long hX.1.1 hX.1.2.1 hH.2.2.1.1.symm hX.1.2.2.1 (hts _ hl) (hts _ ms_absL) (hts _ (sw_m1 13 (by decide +kernel))) (hts _ mm_absL) (Nat.le_trans hd1 hD.1) ?_ (by omega) (by omega) hd ((k.2 x hX).2 H locs ls hH)
  rw [sw_cats]
  have := hD.2
  omega
def k_House_init : sw_K := (⟨"SwarmHouse", "<init>", "()V"⟩, prog_1_method_1_code, 1, none, 11, true)
set_option maxRecDepth 20000 in
theorem mf_House_init : sw_mf k_House_init 0 := ⟨sw_m1 26 rfl, sw_m1 1 (by decide +kernel), ⟨by decide +kernel, by decide +kernel⟩, by decide +kernel, by decide +kernel⟩
theorem mi_House_init : Jvm.Cond.instanceMethod (k_y k_House_init) ∈ sw_ws := sw_m1 25 (by decide +kernel)
def k_Field_init : sw_K := (⟨"SwarmHouse$Field", "<init>", "()V"⟩, prog_2_method_1_code, 2, none, 0, true)
set_option maxRecDepth 20000 in
theorem mf_Field_init : sw_mf k_Field_init 0 := ⟨sw_m1 34 rfl, sw_m1 2 (by decide +kernel), ⟨by decide +kernel, by decide +kernel⟩, by decide +kernel, by decide +kernel⟩
theorem mi_Field_init : Jvm.Cond.instanceMethod (k_y k_Field_init) ∈ sw_ws := sw_m1 33 (by decide +kernel)
def k_Rule_init : sw_K := (⟨"SwarmHouse$Rule", "<init>", "()V"⟩, prog_9_method_1_code, 1, none, 7, true)
set_option maxRecDepth 20000 in
theorem mf_Rule_init : sw_mf k_Rule_init 0 := ⟨sw_m1 42 rfl, sw_m1 3 (by decide +kernel), ⟨by decide +kernel, by decide +kernel⟩, by decide +kernel, by decide +kernel⟩
theorem mi_Rule_init : Jvm.Cond.instanceMethod (k_y k_Rule_init) ∈ sw_ws := sw_m1 41 (by decide +kernel)
def k_Part_init : sw_K := (⟨"SwarmHouse$Part", "<init>", "()V"⟩, prog_7_method_1_code, 1, none, 5, true)
set_option maxRecDepth 20000 in
theorem mf_Part_init : sw_mf k_Part_init 0 := ⟨sw_m1 75 rfl, sw_m1 4 (by decide +kernel), ⟨by decide +kernel, by decide +kernel⟩, by decide +kernel, by decide +kernel⟩
theorem mi_Part_init : Jvm.Cond.instanceMethod (k_y k_Part_init) ∈ sw_ws := sw_m1 74 (by decide +kernel)
def k_Reader_init : sw_K := (⟨"SwarmHouse$Reader", "<init>", "([B)V"⟩, prog_8_method_1_code, 2, none, 6, true)
set_option maxRecDepth 20000 in
theorem mf_Reader_init : sw_mf k_Reader_init 1 := ⟨sw_m1 161 rfl, sw_m1 5 (by decide +kernel), ⟨by decide +kernel, by decide +kernel⟩, by decide +kernel, by decide +kernel⟩
theorem mi_Reader_init : Jvm.Cond.instanceMethod (k_y k_Reader_init) ∈ sw_ws := sw_m1 160 (by decide +kernel)
def k_Star_init : sw_K := (⟨"SwarmHouse$Star", "<init>", "()V"⟩, prog_10_method_1_code, 1, none, 8, true)
set_option maxRecDepth 20000 in
theorem mf_Star_init : sw_mf k_Star_init 0 := ⟨sw_m1 206 rfl, sw_m1 6 (by decide +kernel), ⟨by decide +kernel, by decide +kernel⟩, by decide +kernel, by decide +kernel⟩
theorem mi_Star_init : Jvm.Cond.instanceMethod (k_y k_Star_init) ∈ sw_ws := sw_m1 205 (by decide +kernel)
def k_Swarm_init : sw_K := (⟨"SwarmHouse$Swarm", "<init>", "(LSwarmHouse$Field;)V"⟩, prog_12_method_1_code, 2, none, 10, true)
set_option maxRecDepth 20000 in
theorem mf_Swarm_init : sw_mf k_Swarm_init 1 := ⟨sw_m2 4 rfl, sw_m1 7 (by decide +kernel), ⟨by decide +kernel, by decide +kernel⟩, by decide +kernel, by decide +kernel⟩
theorem mi_Swarm_init : Jvm.Cond.instanceMethod (k_y k_Swarm_init) ∈ sw_ws := sw_m2 3 (by decide +kernel)
def k_Notes_init : sw_K := (⟨"SwarmHouse$Notes", "<init>", "()V"⟩, prog_5_method_1_code, 1, none, 3, true)
set_option maxRecDepth 20000 in
theorem mf_Notes_init : sw_mf k_Notes_init 0 := ⟨sw_m2 49 rfl, sw_m1 8 (by decide +kernel), ⟨by decide +kernel, by decide +kernel⟩, by decide +kernel, by decide +kernel⟩
theorem mi_Notes_init : Jvm.Cond.instanceMethod (k_y k_Notes_init) ∈ sw_ws := sw_m2 48 (by decide +kernel)
def k_Fits_init : sw_K := (⟨"SwarmHouse$Fits", "<init>", "(LSwarmHouse$Swarm;LSwarmHouse$Notes;)V"⟩, prog_3_method_1_code, 3, none, 1, true)
set_option maxRecDepth 20000 in
theorem mf_Fits_init : sw_mf k_Fits_init 2 := ⟨sw_m2 83 rfl, sw_m1 9 (by decide +kernel), ⟨by decide +kernel, by decide +kernel⟩, by decide +kernel, by decide +kernel⟩
theorem mi_Fits_init : Jvm.Cond.instanceMethod (k_y k_Fits_init) ∈ sw_ws := sw_m2 82 (by decide +kernel)
def k_Models_init : sw_K := (⟨"SwarmHouse$Models", "<init>", "(LSwarmHouse$Field;LSwarmHouse$Swarm;LSwarmHouse$Notes;LSwarmHouse$Fits;)V"⟩, prog_4_method_1_code, 5, none, 2, true)
set_option maxRecDepth 20000 in
theorem mf_Models_init : sw_mf k_Models_init 4 := ⟨sw_m2 120 rfl, sw_m1 10 (by decide +kernel), ⟨by decide +kernel, by decide +kernel⟩, by decide +kernel, by decide +kernel⟩
theorem mi_Models_init : Jvm.Cond.instanceMethod (k_y k_Models_init) ∈ sw_ws := sw_m2 119 (by decide +kernel)
def k_Stream_init : sw_K := (⟨"SwarmHouse$Stream", "<init>", "()V"⟩, prog_11_method_1_code, 1, none, 9, true)
set_option maxRecDepth 20000 in
theorem mf_Stream_init : sw_mf k_Stream_init 0 := ⟨sw_m2 163 rfl, sw_m1 11 (by decide +kernel), ⟨by decide +kernel, by decide +kernel⟩, by decide +kernel, by decide +kernel⟩
theorem mi_Stream_init : Jvm.Cond.instanceMethod (k_y k_Stream_init) ∈ sw_ws := sw_m2 162 (by decide +kernel)
def k_House_feed : sw_K := (⟨"SwarmHouse", "feed", "(IIIII)I"⟩, prog_1_method_2_code, 6, (some .int), 11, false)
set_option maxRecDepth 20000 in
theorem mf_House_feed : sw_mf k_House_feed 5 := ⟨sw_m3 0 rfl, sw_m1 1 (by decide +kernel), ⟨by decide +kernel, by decide +kernel⟩, by decide +kernel, by decide +kernel⟩
theorem mi_House_feed : Jvm.Cond.instanceMethod (k_y k_House_feed) ∈ sw_ws := sw_m2 238 (by decide +kernel)
theorem ms_House_feed : Jvm.Cond.selects (k_y k_House_feed).cls (k_y k_House_feed) (k_y k_House_feed) ∈ sw_ws := sw_m2 239 (by decide +kernel)
def k_House_putBytes : sw_K := (⟨"SwarmHouse", "putBytes", "(I)V"⟩, prog_1_method_3_code, 3, none, 11, false)
set_option maxRecDepth 20000 in
theorem mf_House_putBytes : sw_mf k_House_putBytes 1 := ⟨sw_m3 4 rfl, sw_m1 1 (by decide +kernel), ⟨by decide +kernel, by decide +kernel⟩, by decide +kernel, by decide +kernel⟩
theorem mi_House_putBytes : Jvm.Cond.instanceMethod (k_y k_House_putBytes) ∈ sw_ws := sw_m3 3 (by decide +kernel)
theorem ms_House_putBytes : Jvm.Cond.selects (k_y k_House_putBytes).cls (k_y k_House_putBytes) (k_y k_House_putBytes) ∈ sw_ws := sw_memp 0 (by decide +kernel)
def k_House_field : sw_K := (⟨"SwarmHouse", "field", "(I)I"⟩, prog_1_method_4_code, 2, (some .int), 11, false)
set_option maxRecDepth 20000 in
theorem mf_House_field : sw_mf k_House_field 1 := ⟨sw_m3 8 rfl, sw_m1 1 (by decide +kernel), ⟨by decide +kernel, by decide +kernel⟩, by decide +kernel, by decide +kernel⟩
theorem mi_House_field : Jvm.Cond.instanceMethod (k_y k_House_field) ∈ sw_ws := sw_m3 6 (by decide +kernel)
theorem ms_House_field : Jvm.Cond.selects (k_y k_House_field).cls (k_y k_House_field) (k_y k_House_field) ∈ sw_ws := sw_m3 7 (by decide +kernel)
def k_Reader_read : sw_K := (⟨"SwarmHouse$Reader", "read", "(I)V"⟩, prog_8_method_2_code, 5, none, 6, false)
set_option maxRecDepth 20000 in
theorem mf_Reader_read : sw_mf k_Reader_read 1 := ⟨sw_m3 12 rfl, sw_m1 5 (by decide +kernel), ⟨by decide +kernel, by decide +kernel⟩, by decide +kernel, by decide +kernel⟩
theorem mi_Reader_read : Jvm.Cond.instanceMethod (k_y k_Reader_read) ∈ sw_ws := sw_m3 10 (by decide +kernel)
theorem ms_Reader_read : Jvm.Cond.selects (k_y k_Reader_read).cls (k_y k_Reader_read) (k_y k_Reader_read) ∈ sw_ws := sw_m3 11 (by decide +kernel)
def k_Field_clear : sw_K := (⟨"SwarmHouse$Field", "clear", "()V"⟩, prog_2_method_2_code, 1, none, 0, false)
set_option maxRecDepth 20000 in
theorem mf_Field_clear : sw_mf k_Field_clear 0 := ⟨sw_m3 19 rfl, sw_m1 2 (by decide +kernel), ⟨by decide +kernel, by decide +kernel⟩, by decide +kernel, by decide +kernel⟩
theorem mi_Field_clear : Jvm.Cond.instanceMethod (k_y k_Field_clear) ∈ sw_ws := sw_m3 17 (by decide +kernel)
theorem ms_Field_clear : Jvm.Cond.selects (k_y k_Field_clear).cls (k_y k_Field_clear) (k_y k_Field_clear) ∈ sw_ws := sw_m3 18 (by decide +kernel)
def k_Rule_clear : sw_K := (⟨"SwarmHouse$Rule", "clear", "()V"⟩, prog_9_method_2_code, 1, none, 7, false)
set_option maxRecDepth 20000 in
theorem mf_Rule_clear : sw_mf k_Rule_clear 0 := ⟨sw_m3 23 rfl, sw_m1 3 (by decide +kernel), ⟨by decide +kernel, by decide +kernel⟩, by decide +kernel, by decide +kernel⟩
theorem mi_Rule_clear : Jvm.Cond.instanceMethod (k_y k_Rule_clear) ∈ sw_ws := sw_m3 21 (by decide +kernel)
theorem ms_Rule_clear : Jvm.Cond.selects (k_y k_Rule_clear).cls (k_y k_Rule_clear) (k_y k_Rule_clear) ∈ sw_ws := sw_m3 22 (by decide +kernel)
def k_Reader_advance : sw_K := (⟨"SwarmHouse$Reader", "advance", "()V"⟩, prog_8_method_21_code, 1, none, 6, false)
set_option maxRecDepth 20000 in
theorem mf_Reader_advance : sw_mf k_Reader_advance 0 := ⟨sw_m3 27 rfl, sw_m1 5 (by decide +kernel), ⟨by decide +kernel, by decide +kernel⟩, by decide +kernel, by decide +kernel⟩
theorem mi_Reader_advance : Jvm.Cond.instanceMethod (k_y k_Reader_advance) ∈ sw_ws := sw_m3 26 (by decide +kernel)
theorem ms_Reader_advance : Jvm.Cond.selects (k_y k_Reader_advance).cls (k_y k_Reader_advance) (k_y k_Reader_advance) ∈ sw_ws := sw_memp 1 (by decide +kernel)
def k_Reader_scanWord : sw_K := (⟨"SwarmHouse$Reader", "scanWord", "()V"⟩, prog_8_method_22_code, 3, none, 6, false)
set_option maxRecDepth 20000 in
theorem mf_Reader_scanWord : sw_mf k_Reader_scanWord 0 := ⟨sw_m3 31 rfl, sw_m1 5 (by decide +kernel), ⟨by decide +kernel, by decide +kernel⟩, by decide +kernel, by decide +kernel⟩
theorem mi_Reader_scanWord : Jvm.Cond.instanceMethod (k_y k_Reader_scanWord) ∈ sw_ws := sw_m3 30 (by decide +kernel)
theorem ms_Reader_scanWord : Jvm.Cond.selects (k_y k_Reader_scanWord).cls (k_y k_Reader_scanWord) (k_y k_Reader_scanWord) ∈ sw_ws := sw_memp 2 (by decide +kernel)
def k_Str_length : sw_K := (⟨"java/lang/String", "length", "()I"⟩, prog_18_method_54_code, 1, (some .int), 17, false)
set_option maxRecDepth 20000 in
theorem mf_Str_length : sw_mf k_Str_length 0 := ⟨sw_m3 36 rfl, sw_m1 14 (by decide +kernel), ⟨by decide +kernel, by decide +kernel⟩, by decide +kernel, by decide +kernel⟩
theorem mi_Str_length : Jvm.Cond.instanceMethod (k_y k_Str_length) ∈ sw_ws := sw_m3 34 (by decide +kernel)
theorem ms_Str_length : Jvm.Cond.selects (k_y k_Str_length).cls (k_y k_Str_length) (k_y k_Str_length) ∈ sw_ws := sw_m3 35 (by decide +kernel)
def k_Str_coder : sw_K := (⟨"java/lang/String", "coder", "()B"⟩, prog_18_method_152_code, 1, (some .byte), 17, false)
set_option maxRecDepth 20000 in
theorem mf_Str_coder : sw_mf k_Str_coder 0 := ⟨sw_m3 40 rfl, sw_m1 14 (by decide +kernel), ⟨by decide +kernel, by decide +kernel⟩, by decide +kernel, by decide +kernel⟩
theorem mi_Str_coder : Jvm.Cond.instanceMethod (k_y k_Str_coder) ∈ sw_ws := sw_m3 38 (by decide +kernel)
theorem ms_Str_coder : Jvm.Cond.selects (k_y k_Str_coder).cls (k_y k_Str_coder) (k_y k_Str_coder) ∈ sw_ws := sw_m3 39 (by decide +kernel)
def k_Str_charAt : sw_K := (⟨"java/lang/String", "charAt", "(I)C"⟩, prog_18_method_56_code, 2, (some .char), 17, false)
set_option maxRecDepth 20000 in
theorem mf_Str_charAt : sw_mf k_Str_charAt 1 := ⟨sw_m3 46 rfl, sw_m1 14 (by decide +kernel), ⟨by decide +kernel, by decide +kernel⟩, by decide +kernel, by decide +kernel⟩
theorem mi_Str_charAt : Jvm.Cond.instanceMethod (k_y k_Str_charAt) ∈ sw_ws := sw_m3 44 (by decide +kernel)
theorem ms_Str_charAt : Jvm.Cond.selects (k_y k_Str_charAt).cls (k_y k_Str_charAt) (k_y k_Str_charAt) ∈ sw_ws := sw_m3 45 (by decide +kernel)
def k_Str_isLatin1 : sw_K := (⟨"java/lang/String", "isLatin1", "()Z"⟩, prog_18_method_154_code, 1, (some .boolean), 17, false)
set_option maxRecDepth 20000 in
theorem mf_Str_isLatin1 : sw_mf k_Str_isLatin1 0 := ⟨sw_m3 50 rfl, sw_m1 14 (by decide +kernel), ⟨by decide +kernel, by decide +kernel⟩, by decide +kernel, by decide +kernel⟩
theorem mi_Str_isLatin1 : Jvm.Cond.instanceMethod (k_y k_Str_isLatin1) ∈ sw_ws := sw_m3 48 (by decide +kernel)
theorem ms_Str_isLatin1 : Jvm.Cond.selects (k_y k_Str_isLatin1).cls (k_y k_Str_isLatin1) (k_y k_Str_isLatin1) ∈ sw_ws := sw_m3 49 (by decide +kernel)
def k_Lat_charAt : sw_K := (⟨"java/lang/StringLatin1", "charAt", "([BI)C"⟩, prog_19_method_2_code, 2, (some .char), 18, false)
set_option maxRecDepth 20000 in
theorem mf_Lat_charAt : sw_mf k_Lat_charAt 2 := ⟨sw_m3 53 rfl, sw_m1 15 (by decide +kernel), ⟨by decide +kernel, by decide +kernel⟩, by decide +kernel, by decide +kernel⟩
theorem mi_Lat_charAt : Jvm.Cond.static (k_y k_Lat_charAt) ∈ sw_ws := sw_m3 52 (by decide +kernel)
def k_Str_checkIndex : sw_K := (⟨"java/lang/String", "checkIndex", "(II)V"⟩, prog_18_method_155_code, 2, none, 17, false)
set_option maxRecDepth 20000 in
theorem mf_Str_checkIndex : sw_mf k_Str_checkIndex 2 := ⟨sw_m3 56 rfl, sw_m1 14 (by decide +kernel), ⟨by decide +kernel, by decide +kernel⟩, by decide +kernel, by decide +kernel⟩
theorem mi_Str_checkIndex : Jvm.Cond.static (k_y k_Str_checkIndex) ∈ sw_ws := sw_m3 55 (by decide +kernel)
def k_Pre_checkIndex : sw_K := (⟨"jdk/internal/util/Preconditions", "checkIndex", "(IILjava/util/function/BiFunction;)I"⟩, prog_22_method_11_code, 3, (some .int), 20, false)
set_option maxRecDepth 20000 in
theorem mf_Pre_checkIndex : sw_mf k_Pre_checkIndex 3 := ⟨sw_m3 61 rfl, sw_m1 16 (by decide +kernel), ⟨by decide +kernel, by decide +kernel⟩, by decide +kernel, by decide +kernel⟩
theorem mi_Pre_checkIndex : Jvm.Cond.static (k_y k_Pre_checkIndex) ∈ sw_ws := sw_m3 60 (by decide +kernel)
def k_Reader_scanNumber : sw_K := (⟨"SwarmHouse$Reader", "scanNumber", "()V"⟩, prog_8_method_23_code, 1, none, 6, false)
set_option maxRecDepth 20000 in
theorem mf_Reader_scanNumber : sw_mf k_Reader_scanNumber 0 := ⟨sw_m3 84 rfl, sw_m1 5 (by decide +kernel), ⟨by decide +kernel, by decide +kernel⟩, by decide +kernel, by decide +kernel⟩
theorem mi_Reader_scanNumber : Jvm.Cond.instanceMethod (k_y k_Reader_scanNumber) ∈ sw_ws := sw_m3 83 (by decide +kernel)
theorem ms_Reader_scanNumber : Jvm.Cond.selects (k_y k_Reader_scanNumber).cls (k_y k_Reader_scanNumber) (k_y k_Reader_scanNumber) ∈ sw_ws := sw_memp 3 (by decide +kernel)
def k_Reader_scanSign : sw_K := (⟨"SwarmHouse$Reader", "scanSign", "(II)V"⟩, prog_8_method_24_code, 4, none, 6, false)
set_option maxRecDepth 20000 in
theorem mf_Reader_scanSign : sw_mf k_Reader_scanSign 2 := ⟨sw_m3 89 rfl, sw_m1 5 (by decide +kernel), ⟨by decide +kernel, by decide +kernel⟩, by decide +kernel, by decide +kernel⟩
theorem mi_Reader_scanSign : Jvm.Cond.instanceMethod (k_y k_Reader_scanSign) ∈ sw_ws := sw_m3 88 (by decide +kernel)
theorem ms_Reader_scanSign : Jvm.Cond.selects (k_y k_Reader_scanSign).cls (k_y k_Reader_scanSign) (k_y k_Reader_scanSign) ∈ sw_ws := sw_memp 4 (by decide +kernel)
def k_Reader_part : sw_K := (⟨"SwarmHouse$Reader", "part", "(I)Z"⟩, prog_8_method_3_code, 3, (some .boolean), 6, false)
set_option maxRecDepth 20000 in
theorem mf_Reader_part : sw_mf k_Reader_part 1 := ⟨sw_m3 93 rfl, sw_m1 5 (by decide +kernel), ⟨by decide +kernel, by decide +kernel⟩, by decide +kernel, by decide +kernel⟩
theorem mi_Reader_part : Jvm.Cond.instanceMethod (k_y k_Reader_part) ∈ sw_ws := sw_m3 92 (by decide +kernel)
theorem ms_Reader_part : Jvm.Cond.selects (k_y k_Reader_part).cls (k_y k_Reader_part) (k_y k_Reader_part) ∈ sw_ws := sw_memp 5 (by decide +kernel)
def k_Field_addPart : sw_K := (⟨"SwarmHouse$Field", "addPart", "(I)LSwarmHouse$Part;"⟩, prog_2_method_4_code, 3, (some (.object "SwarmHouse$Part")), 0, false)
set_option maxRecDepth 20000 in
theorem mf_Field_addPart : sw_mf k_Field_addPart 1 := ⟨sw_m3 97 rfl, sw_m1 2 (by decide +kernel), ⟨by decide +kernel, by decide +kernel⟩, by decide +kernel, by decide +kernel⟩
theorem mi_Field_addPart : Jvm.Cond.instanceMethod (k_y k_Field_addPart) ∈ sw_ws := sw_m3 95 (by decide +kernel)
theorem ms_Field_addPart : Jvm.Cond.selects (k_y k_Field_addPart).cls (k_y k_Field_addPart) (k_y k_Field_addPart) ∈ sw_ws := sw_m3 96 (by decide +kernel)
def k_Part_clear : sw_K := (⟨"SwarmHouse$Part", "clear", "(I)V"⟩, prog_7_method_2_code, 2, none, 5, false)
set_option maxRecDepth 20000 in
theorem mf_Part_clear : sw_mf k_Part_clear 1 := ⟨sw_m3 101 rfl, sw_m1 4 (by decide +kernel), ⟨by decide +kernel, by decide +kernel⟩, by decide +kernel, by decide +kernel⟩
theorem mi_Part_clear : Jvm.Cond.instanceMethod (k_y k_Part_clear) ∈ sw_ws := sw_m3 99 (by decide +kernel)
theorem ms_Part_clear : Jvm.Cond.selects (k_y k_Part_clear).cls (k_y k_Part_clear) (k_y k_Part_clear) ∈ sw_ws := sw_m3 100 (by decide +kernel)
def k_Reader_wrong : sw_K := (⟨"SwarmHouse$Reader", "wrong", "(I)Z"⟩, prog_8_method_20_code, 2, (some .boolean), 6, false)
set_option maxRecDepth 20000 in
theorem mf_Reader_wrong : sw_mf k_Reader_wrong 1 := ⟨sw_m3 105 rfl, sw_m1 5 (by decide +kernel), ⟨by decide +kernel, by decide +kernel⟩, by decide +kernel, by decide +kernel⟩
theorem mi_Reader_wrong : Jvm.Cond.instanceMethod (k_y k_Reader_wrong) ∈ sw_ws := sw_m3 104 (by decide +kernel)
theorem ms_Reader_wrong : Jvm.Cond.selects (k_y k_Reader_wrong).cls (k_y k_Reader_wrong) (k_y k_Reader_wrong) ∈ sw_ws := sw_memp 6 (by decide +kernel)
def k_Reader_spot : sw_K := (⟨"SwarmHouse$Reader", "spot", "(LSwarmHouse$Part;)Z"⟩, prog_8_method_4_code, 2, (some .boolean), 6, false)
set_option maxRecDepth 20000 in
theorem mf_Reader_spot : sw_mf k_Reader_spot 1 := ⟨sw_m3 109 rfl, sw_m1 5 (by decide +kernel), ⟨by decide +kernel, by decide +kernel⟩, by decide +kernel, by decide +kernel⟩
theorem mi_Reader_spot : Jvm.Cond.instanceMethod (k_y k_Reader_spot) ∈ sw_ws := sw_m3 108 (by decide +kernel)
theorem ms_Reader_spot : Jvm.Cond.selects (k_y k_Reader_spot).cls (k_y k_Reader_spot) (k_y k_Reader_spot) ∈ sw_ws := sw_memp 7 (by decide +kernel)
def k_Reader_signed : sw_K := (⟨"SwarmHouse$Reader", "signed", "(I)Z"⟩, prog_8_method_8_code, 3, (some .boolean), 6, false)
set_option maxRecDepth 20000 in
theorem mf_Reader_signed : sw_mf k_Reader_signed 1 := ⟨sw_m3 113 rfl, sw_m1 5 (by decide +kernel), ⟨by decide +kernel, by decide +kernel⟩, by decide +kernel, by decide +kernel⟩
theorem mi_Reader_signed : Jvm.Cond.instanceMethod (k_y k_Reader_signed) ∈ sw_ws := sw_m3 112 (by decide +kernel)
theorem ms_Reader_signed : Jvm.Cond.selects (k_y k_Reader_signed).cls (k_y k_Reader_signed) (k_y k_Reader_signed) ∈ sw_ws := sw_memp 8 (by decide +kernel)
def k_Reader_number : sw_K := (⟨"SwarmHouse$Reader", "number", "(II)Z"⟩, prog_8_method_9_code, 3, (some .boolean), 6, false)
set_option maxRecDepth 20000 in
theorem mf_Reader_number : sw_mf k_Reader_number 2 := ⟨sw_m3 117 rfl, sw_m1 5 (by decide +kernel), ⟨by decide +kernel, by decide +kernel⟩, by decide +kernel, by decide +kernel⟩
theorem mi_Reader_number : Jvm.Cond.instanceMethod (k_y k_Reader_number) ∈ sw_ws := sw_m3 116 (by decide +kernel)
theorem ms_Reader_number : Jvm.Cond.selects (k_y k_Reader_number).cls (k_y k_Reader_number) (k_y k_Reader_number) ∈ sw_ws := sw_memp 9 (by decide +kernel)
def k_Reader_speed : sw_K := (⟨"SwarmHouse$Reader", "speed", "(LSwarmHouse$Part;)Z"⟩, prog_8_method_5_code, 2, (some .boolean), 6, false)
set_option maxRecDepth 20000 in
theorem mf_Reader_speed : sw_mf k_Reader_speed 1 := ⟨sw_m3 121 rfl, sw_m1 5 (by decide +kernel), ⟨by decide +kernel, by decide +kernel⟩, by decide +kernel, by decide +kernel⟩
theorem mi_Reader_speed : Jvm.Cond.instanceMethod (k_y k_Reader_speed) ∈ sw_ws := sw_m3 120 (by decide +kernel)
theorem ms_Reader_speed : Jvm.Cond.selects (k_y k_Reader_speed).cls (k_y k_Reader_speed) (k_y k_Reader_speed) ∈ sw_ws := sw_memp 10 (by decide +kernel)
def k_Reader_span : sw_K := (⟨"SwarmHouse$Reader", "span", "(LSwarmHouse$Part;)Z"⟩, prog_8_method_6_code, 2, (some .boolean), 6, false)
set_option maxRecDepth 20000 in
theorem mf_Reader_span : sw_mf k_Reader_span 1 := ⟨sw_m3 126 rfl, sw_m1 5 (by decide +kernel), ⟨by decide +kernel, by decide +kernel⟩, by decide +kernel, by decide +kernel⟩
theorem mi_Reader_span : Jvm.Cond.instanceMethod (k_y k_Reader_span) ∈ sw_ws := sw_m3 125 (by decide +kernel)
theorem ms_Reader_span : Jvm.Cond.selects (k_y k_Reader_span).cls (k_y k_Reader_span) (k_y k_Reader_span) ∈ sw_ws := sw_memp 11 (by decide +kernel)
def k_Field_setSpan : sw_K := (⟨"SwarmHouse$Field", "setSpan", "(II)V"⟩, prog_2_method_5_code, 3, none, 0, false)
set_option maxRecDepth 20000 in
theorem mf_Field_setSpan : sw_mf k_Field_setSpan 2 := ⟨sw_m3 130 rfl, sw_m1 2 (by decide +kernel), ⟨by decide +kernel, by decide +kernel⟩, by decide +kernel, by decide +kernel⟩
theorem mi_Field_setSpan : Jvm.Cond.instanceMethod (k_y k_Field_setSpan) ∈ sw_ws := sw_m3 128 (by decide +kernel)
theorem ms_Field_setSpan : Jvm.Cond.selects (k_y k_Field_setSpan).cls (k_y k_Field_setSpan) (k_y k_Field_setSpan) ∈ sw_ws := sw_m3 129 (by decide +kernel)
def k_Reader_period : sw_K := (⟨"SwarmHouse$Reader", "period", "(LSwarmHouse$Part;)Z"⟩, prog_8_method_7_code, 2, (some .boolean), 6, false)
set_option maxRecDepth 20000 in
theorem mf_Reader_period : sw_mf k_Reader_period 1 := ⟨sw_m3 134 rfl, sw_m1 5 (by decide +kernel), ⟨by decide +kernel, by decide +kernel⟩, by decide +kernel, by decide +kernel⟩
theorem mi_Reader_period : Jvm.Cond.instanceMethod (k_y k_Reader_period) ∈ sw_ws := sw_m3 133 (by decide +kernel)
theorem ms_Reader_period : Jvm.Cond.selects (k_y k_Reader_period).cls (k_y k_Reader_period) (k_y k_Reader_period) ∈ sw_ws := sw_memp 12 (by decide +kernel)
def k_Reader_use : sw_K := (⟨"SwarmHouse$Reader", "use", "()Z"⟩, prog_8_method_10_code, 1, (some .boolean), 6, false)
set_option maxRecDepth 20000 in
theorem mf_Reader_use : sw_mf k_Reader_use 0 := ⟨sw_m3 138 rfl, sw_m1 5 (by decide +kernel), ⟨by decide +kernel, by decide +kernel⟩, by decide +kernel, by decide +kernel⟩
theorem mi_Reader_use : Jvm.Cond.instanceMethod (k_y k_Reader_use) ∈ sw_ws := sw_m3 137 (by decide +kernel)
theorem ms_Reader_use : Jvm.Cond.selects (k_y k_Reader_use).cls (k_y k_Reader_use) (k_y k_Reader_use) ∈ sw_ws := sw_memp 13 (by decide +kernel)
def k_Reader_either : sw_K := (⟨"SwarmHouse$Reader", "either", "(I)Z"⟩, prog_8_method_11_code, 4, (some .boolean), 6, false)
set_option maxRecDepth 20000 in
theorem mf_Reader_either : sw_mf k_Reader_either 1 := ⟨sw_m3 142 rfl, sw_m1 5 (by decide +kernel), ⟨by decide +kernel, by decide +kernel⟩, by decide +kernel, by decide +kernel⟩
theorem mi_Reader_either : Jvm.Cond.instanceMethod (k_y k_Reader_either) ∈ sw_ws := sw_m3 141 (by decide +kernel)
theorem ms_Reader_either : Jvm.Cond.selects (k_y k_Reader_either).cls (k_y k_Reader_either) (k_y k_Reader_either) ∈ sw_ws := sw_memp 14 (by decide +kernel)
def k_Reader_both : sw_K := (⟨"SwarmHouse$Reader", "both", "(I)Z"⟩, prog_8_method_12_code, 4, (some .boolean), 6, false)
set_option maxRecDepth 20000 in
theorem mf_Reader_both : sw_mf k_Reader_both 1 := ⟨sw_m3 146 rfl, sw_m1 5 (by decide +kernel), ⟨by decide +kernel, by decide +kernel⟩, by decide +kernel, by decide +kernel⟩
theorem mi_Reader_both : Jvm.Cond.instanceMethod (k_y k_Reader_both) ∈ sw_ws := sw_m3 145 (by decide +kernel)
theorem ms_Reader_both : Jvm.Cond.selects (k_y k_Reader_both).cls (k_y k_Reader_both) (k_y k_Reader_both) ∈ sw_ws := sw_memp 15 (by decide +kernel)
def k_Reader_denied : sw_K := (⟨"SwarmHouse$Reader", "denied", "(I)Z"⟩, prog_8_method_13_code, 5, (some .boolean), 6, false)
set_option maxRecDepth 20000 in
theorem mf_Reader_denied : sw_mf k_Reader_denied 1 := ⟨sw_m3 150 rfl, sw_m1 5 (by decide +kernel), ⟨by decide +kernel, by decide +kernel⟩, by decide +kernel, by decide +kernel⟩
theorem mi_Reader_denied : Jvm.Cond.instanceMethod (k_y k_Reader_denied) ∈ sw_ws := sw_m3 149 (by decide +kernel)
theorem ms_Reader_denied : Jvm.Cond.selects (k_y k_Reader_denied).cls (k_y k_Reader_denied) (k_y k_Reader_denied) ∈ sw_ws := sw_memp 16 (by decide +kernel)
def k_Reader_knot : sw_K := (⟨"SwarmHouse$Reader", "knot", "()Z"⟩, prog_8_method_18_code, 1, (some .boolean), 6, false)
set_option maxRecDepth 20000 in
theorem mf_Reader_knot : sw_mf k_Reader_knot 0 := ⟨sw_m3 154 rfl, sw_m1 5 (by decide +kernel), ⟨by decide +kernel, by decide +kernel⟩, by decide +kernel, by decide +kernel⟩
theorem mi_Reader_knot : Jvm.Cond.instanceMethod (k_y k_Reader_knot) ∈ sw_ws := sw_m3 153 (by decide +kernel)
theorem ms_Reader_knot : Jvm.Cond.selects (k_y k_Reader_knot).cls (k_y k_Reader_knot) (k_y k_Reader_knot) ∈ sw_ws := sw_memp 17 (by decide +kernel)
def k_Reader_compared : sw_K := (⟨"SwarmHouse$Reader", "compared", "(I)Z"⟩, prog_8_method_14_code, 4, (some .boolean), 6, false)
set_option maxRecDepth 20000 in
theorem mf_Reader_compared : sw_mf k_Reader_compared 1 := ⟨sw_m3 158 rfl, sw_m1 5 (by decide +kernel), ⟨by decide +kernel, by decide +kernel⟩, by decide +kernel, by decide +kernel⟩
theorem mi_Reader_compared : Jvm.Cond.instanceMethod (k_y k_Reader_compared) ∈ sw_ws := sw_m3 157 (by decide +kernel)
theorem ms_Reader_compared : Jvm.Cond.selects (k_y k_Reader_compared).cls (k_y k_Reader_compared) (k_y k_Reader_compared) ∈ sw_ws := sw_memp 18 (by decide +kernel)
def k_Reader_sum : sw_K := (⟨"SwarmHouse$Reader", "sum", "(I)Z"⟩, prog_8_method_15_code, 5, (some .boolean), 6, false)
set_option maxRecDepth 20000 in
theorem mf_Reader_sum : sw_mf k_Reader_sum 1 := ⟨sw_m3 162 rfl, sw_m1 5 (by decide +kernel), ⟨by decide +kernel, by decide +kernel⟩, by decide +kernel, by decide +kernel⟩
theorem mi_Reader_sum : Jvm.Cond.instanceMethod (k_y k_Reader_sum) ∈ sw_ws := sw_m3 161 (by decide +kernel)
theorem ms_Reader_sum : Jvm.Cond.selects (k_y k_Reader_sum).cls (k_y k_Reader_sum) (k_y k_Reader_sum) ∈ sw_ws := sw_memp 19 (by decide +kernel)
def k_Reader_product : sw_K := (⟨"SwarmHouse$Reader", "product", "(I)Z"⟩, prog_8_method_16_code, 5, (some .boolean), 6, false)
set_option maxRecDepth 20000 in
theorem mf_Reader_product : sw_mf k_Reader_product 1 := ⟨sw_m3 166 rfl, sw_m1 5 (by decide +kernel), ⟨by decide +kernel, by decide +kernel⟩, by decide +kernel, by decide +kernel⟩
theorem mi_Reader_product : Jvm.Cond.instanceMethod (k_y k_Reader_product) ∈ sw_ws := sw_m3 165 (by decide +kernel)
theorem ms_Reader_product : Jvm.Cond.selects (k_y k_Reader_product).cls (k_y k_Reader_product) (k_y k_Reader_product) ∈ sw_ws := sw_memp 20 (by decide +kernel)
def k_Reader_single : sw_K := (⟨"SwarmHouse$Reader", "single", "(I)Z"⟩, prog_8_method_17_code, 2, (some .boolean), 6, false)
set_option maxRecDepth 20000 in
theorem mf_Reader_single : sw_mf k_Reader_single 1 := ⟨sw_m3 170 rfl, sw_m1 5 (by decide +kernel), ⟨by decide +kernel, by decide +kernel⟩, by decide +kernel, by decide +kernel⟩
theorem mi_Reader_single : Jvm.Cond.instanceMethod (k_y k_Reader_single) ∈ sw_ws := sw_m3 169 (by decide +kernel)
theorem ms_Reader_single : Jvm.Cond.selects (k_y k_Reader_single).cls (k_y k_Reader_single) (k_y k_Reader_single) ∈ sw_ws := sw_memp 21 (by decide +kernel)
def k_Reader_expect : sw_K := (⟨"SwarmHouse$Reader", "expect", "(I)Z"⟩, prog_8_method_19_code, 2, (some .boolean), 6, false)
set_option maxRecDepth 20000 in
theorem mf_Reader_expect : sw_mf k_Reader_expect 1 := ⟨sw_m3 174 rfl, sw_m1 5 (by decide +kernel), ⟨by decide +kernel, by decide +kernel⟩, by decide +kernel, by decide +kernel⟩
theorem mi_Reader_expect : Jvm.Cond.instanceMethod (k_y k_Reader_expect) ∈ sw_ws := sw_m3 173 (by decide +kernel)
theorem ms_Reader_expect : Jvm.Cond.selects (k_y k_Reader_expect).cls (k_y k_Reader_expect) (k_y k_Reader_expect) ∈ sw_ws := sw_memp 22 (by decide +kernel)
def k_Rule_put : sw_K := (⟨"SwarmHouse$Rule", "put", "(II)V"⟩, prog_9_method_3_code, 3, none, 7, false)
set_option maxRecDepth 20000 in
theorem mf_Rule_put : sw_mf k_Rule_put 2 := ⟨sw_m3 178 rfl, sw_m1 3 (by decide +kernel), ⟨by decide +kernel, by decide +kernel⟩, by decide +kernel, by decide +kernel⟩
theorem mi_Rule_put : Jvm.Cond.instanceMethod (k_y k_Rule_put) ∈ sw_ws := sw_m3 176 (by decide +kernel)
theorem ms_Rule_put : Jvm.Cond.selects (k_y k_Rule_put).cls (k_y k_Rule_put) (k_y k_Rule_put) ∈ sw_ws := sw_m3 177 (by decide +kernel)
def k_Field_take : sw_K := (⟨"SwarmHouse$Field", "take", "(LSwarmHouse$Field;)V"⟩, prog_2_method_3_code, 4, none, 0, false)
set_option maxRecDepth 20000 in
theorem mf_Field_take : sw_mf k_Field_take 1 := ⟨sw_m3 182 rfl, sw_m1 2 (by decide +kernel), ⟨by decide +kernel, by decide +kernel⟩, by decide +kernel, by decide +kernel⟩
theorem mi_Field_take : Jvm.Cond.instanceMethod (k_y k_Field_take) ∈ sw_ws := sw_m3 180 (by decide +kernel)
theorem ms_Field_take : Jvm.Cond.selects (k_y k_Field_take).cls (k_y k_Field_take) (k_y k_Field_take) ∈ sw_ws := sw_m3 181 (by decide +kernel)
def k_House_forgetOrbits : sw_K := (⟨"SwarmHouse", "forgetOrbits", "()V"⟩, prog_1_method_33_code, 1, none, 11, false)
set_option maxRecDepth 20000 in
theorem mf_House_forgetOrbits : sw_mf k_House_forgetOrbits 0 := ⟨sw_m3 186 rfl, sw_m1 1 (by decide +kernel), ⟨by decide +kernel, by decide +kernel⟩, by decide +kernel, by decide +kernel⟩
theorem mi_House_forgetOrbits : Jvm.Cond.instanceMethod (k_y k_House_forgetOrbits) ∈ sw_ws := sw_m3 185 (by decide +kernel)
theorem ms_House_forgetOrbits : Jvm.Cond.selects (k_y k_House_forgetOrbits).cls (k_y k_House_forgetOrbits) (k_y k_House_forgetOrbits) ∈ sw_ws := sw_memp 23 (by decide +kernel)
def k_House_fault : sw_K := (⟨"SwarmHouse", "fault", "(I)I"⟩, prog_1_method_5_code, 2, (some .int), 11, false)
set_option maxRecDepth 20000 in
theorem mf_House_fault : sw_mf k_House_fault 1 := ⟨sw_m3 190 rfl, sw_m1 1 (by decide +kernel), ⟨by decide +kernel, by decide +kernel⟩, by decide +kernel, by decide +kernel⟩
theorem mi_House_fault : Jvm.Cond.instanceMethod (k_y k_House_fault) ∈ sw_ws := sw_m3 188 (by decide +kernel)
theorem ms_House_fault : Jvm.Cond.selects (k_y k_House_fault).cls (k_y k_House_fault) (k_y k_House_fault) ∈ sw_ws := sw_m3 189 (by decide +kernel)
def k_House_mass : sw_K := (⟨"SwarmHouse", "mass", "(I)Z"⟩, prog_1_method_6_code, 2, (some .boolean), 11, false)
set_option maxRecDepth 20000 in
theorem mf_House_mass : sw_mf k_House_mass 1 := ⟨sw_m3 194 rfl, sw_m1 1 (by decide +kernel), ⟨by decide +kernel, by decide +kernel⟩, by decide +kernel, by decide +kernel⟩
theorem mi_House_mass : Jvm.Cond.instanceMethod (k_y k_House_mass) ∈ sw_ws := sw_m3 192 (by decide +kernel)
theorem ms_House_mass : Jvm.Cond.selects (k_y k_House_mass).cls (k_y k_House_mass) (k_y k_House_mass) ∈ sw_ws := sw_m3 193 (by decide +kernel)
def k_House_pull : sw_K := (⟨"SwarmHouse", "pull", "(IIII)I"⟩, prog_1_method_7_code, 9, (some .int), 11, false)
set_option maxRecDepth 20000 in
theorem mf_House_pull : sw_mf k_House_pull 4 := ⟨sw_m3 198 rfl, sw_m1 1 (by decide +kernel), ⟨by decide +kernel, by decide +kernel⟩, by decide +kernel, by decide +kernel⟩
theorem mi_House_pull : Jvm.Cond.instanceMethod (k_y k_House_pull) ∈ sw_ws := sw_m3 196 (by decide +kernel)
theorem ms_House_pull : Jvm.Cond.selects (k_y k_House_pull).cls (k_y k_House_pull) (k_y k_House_pull) ∈ sw_ws := sw_m3 197 (by decide +kernel)
def k_House_within : sw_K := (⟨"SwarmHouse", "within", "(II)Z"⟩, prog_1_method_35_code, 2, (some .boolean), 11, false)
set_option maxRecDepth 20000 in
theorem mf_House_within : sw_mf k_House_within 2 := ⟨sw_m3 201 rfl, sw_m1 1 (by decide +kernel), ⟨by decide +kernel, by decide +kernel⟩, by decide +kernel, by decide +kernel⟩
theorem mi_House_within : Jvm.Cond.static (k_y k_House_within) ∈ sw_ws := sw_m3 200 (by decide +kernel)
def k_House_pulled : sw_K := (⟨"SwarmHouse", "pulled", "(IIIZ)I"⟩, prog_1_method_8_code, 5, (some .int), 11, false)
set_option maxRecDepth 20000 in
theorem mf_House_pulled : sw_mf k_House_pulled 4 := ⟨sw_m3 206 rfl, sw_m1 1 (by decide +kernel), ⟨by decide +kernel, by decide +kernel⟩, by decide +kernel, by decide +kernel⟩
theorem mi_House_pulled : Jvm.Cond.instanceMethod (k_y k_House_pulled) ∈ sw_ws := sw_m3 205 (by decide +kernel)
theorem ms_House_pulled : Jvm.Cond.selects (k_y k_House_pulled).cls (k_y k_House_pulled) (k_y k_House_pulled) ∈ sw_ws := sw_memp 24 (by decide +kernel)
def k_Field_pullAt : sw_K := (⟨"SwarmHouse$Field", "pullAt", "(JJI)V"⟩, prog_2_method_6_code, 8, none, 0, false)
set_option maxRecDepth 20000 in
theorem mf_Field_pullAt : sw_mf k_Field_pullAt 3 := ⟨sw_m3 210 rfl, sw_m1 2 (by decide +kernel), ⟨by decide +kernel, by decide +kernel⟩, by decide +kernel, by decide +kernel⟩
theorem mi_Field_pullAt : Jvm.Cond.instanceMethod (k_y k_Field_pullAt) ∈ sw_ws := sw_m3 208 (by decide +kernel)
theorem ms_Field_pullAt : Jvm.Cond.selects (k_y k_Field_pullAt).cls (k_y k_Field_pullAt) (k_y k_Field_pullAt) ∈ sw_ws := sw_m3 209 (by decide +kernel)
def k_Part_addPull : sw_K := (⟨"SwarmHouse$Part", "addPull", "(LSwarmHouse$Field;JJI)V"⟩, prog_7_method_3_code, 15, none, 5, false)
set_option maxRecDepth 20000 in
theorem mf_Part_addPull : sw_mf k_Part_addPull 4 := ⟨sw_m3 214 rfl, sw_m1 4 (by decide +kernel), ⟨by decide +kernel, by decide +kernel⟩, by decide +kernel, by decide +kernel⟩
theorem mi_Part_addPull : Jvm.Cond.instanceMethod (k_y k_Part_addPull) ∈ sw_ws := sw_m3 212 (by decide +kernel)
theorem ms_Part_addPull : Jvm.Cond.selects (k_y k_Part_addPull).cls (k_y k_Part_addPull) (k_y k_Part_addPull) ∈ sw_ws := sw_m3 213 (by decide +kernel)
def k_Part_root : sw_K := (⟨"SwarmHouse$Part", "root", "(J)J"⟩, prog_7_method_6_code, 6, (some .long), 5, false)
set_option maxRecDepth 20000 in
theorem mf_Part_root : sw_mf k_Part_root 1 := ⟨sw_m3 217 rfl, sw_m1 4 (by decide +kernel), ⟨by decide +kernel, by decide +kernel⟩, by decide +kernel, by decide +kernel⟩
theorem mi_Part_root : Jvm.Cond.static (k_y k_Part_root) ∈ sw_ws := sw_m3 216 (by decide +kernel)
def k_Part_addDrawn : sw_K := (⟨"SwarmHouse$Part", "addDrawn", "(LSwarmHouse$Field;JJJ)V"⟩, prog_7_method_5_code, 7, none, 5, false)
set_option maxRecDepth 20000 in
theorem mf_Part_addDrawn : sw_mf k_Part_addDrawn 4 := ⟨sw_m3 223 rfl, sw_m1 4 (by decide +kernel), ⟨by decide +kernel, by decide +kernel⟩, by decide +kernel, by decide +kernel⟩
theorem mi_Part_addDrawn : Jvm.Cond.static (k_y k_Part_addDrawn) ∈ sw_ws := sw_m3 222 (by decide +kernel)
def k_Part_addBar : sw_K := (⟨"SwarmHouse$Part", "addBar", "(LSwarmHouse$Field;JJI)V"⟩, prog_7_method_4_code, 19, none, 5, false)
set_option maxRecDepth 20000 in
theorem mf_Part_addBar : sw_mf k_Part_addBar 4 := ⟨sw_m3 228 rfl, sw_m1 4 (by decide +kernel), ⟨by decide +kernel, by decide +kernel⟩, by decide +kernel, by decide +kernel⟩
theorem mi_Part_addBar : Jvm.Cond.instanceMethod (k_y k_Part_addBar) ∈ sw_ws := sw_m3 227 (by decide +kernel)
theorem ms_Part_addBar : Jvm.Cond.selects (k_y k_Part_addBar).cls (k_y k_Part_addBar) (k_y k_Part_addBar) ∈ sw_ws := sw_memp 25 (by decide +kernel)
def k_House_star : sw_K := (⟨"SwarmHouse", "star", "(IIIII)Z"⟩, prog_1_method_9_code, 6, (some .boolean), 11, false)
set_option maxRecDepth 20000 in
theorem mf_House_star : sw_mf k_House_star 5 := ⟨sw_m3 236 rfl, sw_m1 1 (by decide +kernel), ⟨by decide +kernel, by decide +kernel⟩, by decide +kernel, by decide +kernel⟩
theorem mi_House_star : Jvm.Cond.instanceMethod (k_y k_House_star) ∈ sw_ws := sw_m3 234 (by decide +kernel)
theorem ms_House_star : Jvm.Cond.selects (k_y k_House_star).cls (k_y k_House_star) (k_y k_House_star) ∈ sw_ws := sw_m3 235 (by decide +kernel)
def k_House_canStart : sw_K := (⟨"SwarmHouse", "canStart", "(IIII)Z"⟩, prog_1_method_34_code, 4, (some .boolean), 11, false)
set_option maxRecDepth 20000 in
theorem mf_House_canStart : sw_mf k_House_canStart 4 := ⟨sw_m3 239 rfl, sw_m1 1 (by decide +kernel), ⟨by decide +kernel, by decide +kernel⟩, by decide +kernel, by decide +kernel⟩
theorem mi_House_canStart : Jvm.Cond.static (k_y k_House_canStart) ∈ sw_ws := sw_m3 238 (by decide +kernel)
def k_Star_put : sw_K := (⟨"SwarmHouse$Star", "put", "(IIIII)V"⟩, prog_10_method_2_code, 6, none, 8, false)
set_option maxRecDepth 20000 in
theorem mf_Star_put : sw_mf k_Star_put 5 := ⟨sw_m4 3 rfl, sw_m1 6 (by decide +kernel), ⟨by decide +kernel, by decide +kernel⟩, by decide +kernel, by decide +kernel⟩
theorem mi_Star_put : Jvm.Cond.instanceMethod (k_y k_Star_put) ∈ sw_ws := sw_m4 1 (by decide +kernel)
theorem ms_Star_put : Jvm.Cond.selects (k_y k_Star_put).cls (k_y k_Star_put) (k_y k_Star_put) ∈ sw_ws := sw_m4 2 (by decide +kernel)
def k_House_go : sw_K := (⟨"SwarmHouse", "go", "(I)I"⟩, prog_1_method_10_code, 3, (some .int), 11, false)
set_option maxRecDepth 20000 in
theorem mf_House_go : sw_mf k_House_go 1 := ⟨sw_m4 7 rfl, sw_m1 1 (by decide +kernel), ⟨by decide +kernel, by decide +kernel⟩, by decide +kernel, by decide +kernel⟩
theorem mi_House_go : Jvm.Cond.instanceMethod (k_y k_House_go) ∈ sw_ws := sw_m4 5 (by decide +kernel)
theorem ms_House_go : Jvm.Cond.selects (k_y k_House_go).cls (k_y k_House_go) (k_y k_House_go) ∈ sw_ws := sw_m4 6 (by decide +kernel)
def k_Star_step : sw_K := (⟨"SwarmHouse$Star", "step", "(LSwarmHouse$Field;)Z"⟩, prog_10_method_3_code, 2, (some .boolean), 8, false)
set_option maxRecDepth 20000 in
theorem mf_Star_step : sw_mf k_Star_step 1 := ⟨sw_m4 11 rfl, sw_m1 6 (by decide +kernel), ⟨by decide +kernel, by decide +kernel⟩, by decide +kernel, by decide +kernel⟩
theorem mi_Star_step : Jvm.Cond.instanceMethod (k_y k_Star_step) ∈ sw_ws := sw_m4 9 (by decide +kernel)
theorem ms_Star_step : Jvm.Cond.selects (k_y k_Star_step).cls (k_y k_Star_step) (k_y k_Star_step) ∈ sw_ws := sw_m4 10 (by decide +kernel)
def k_Star_isBeyond : sw_K := (⟨"SwarmHouse$Star", "isBeyond", "()Z"⟩, prog_10_method_5_code, 1, (some .boolean), 8, false)
set_option maxRecDepth 20000 in
theorem mf_Star_isBeyond : sw_mf k_Star_isBeyond 0 := ⟨sw_m4 16 rfl, sw_m1 6 (by decide +kernel), ⟨by decide +kernel, by decide +kernel⟩, by decide +kernel, by decide +kernel⟩
theorem mi_Star_isBeyond : Jvm.Cond.instanceMethod (k_y k_Star_isBeyond) ∈ sw_ws := sw_m4 15 (by decide +kernel)
theorem ms_Star_isBeyond : Jvm.Cond.selects (k_y k_Star_isBeyond).cls (k_y k_Star_isBeyond) (k_y k_Star_isBeyond) ∈ sw_ws := sw_memp 26 (by decide +kernel)
def k_Star_stepBack : sw_K := (⟨"SwarmHouse$Star", "stepBack", "(LSwarmHouse$Field;)Z"⟩, prog_10_method_4_code, 2, (some .boolean), 8, false)
set_option maxRecDepth 20000 in
theorem mf_Star_stepBack : sw_mf k_Star_stepBack 1 := ⟨sw_m4 22 rfl, sw_m1 6 (by decide +kernel), ⟨by decide +kernel, by decide +kernel⟩, by decide +kernel, by decide +kernel⟩
theorem mi_Star_stepBack : Jvm.Cond.instanceMethod (k_y k_Star_stepBack) ∈ sw_ws := sw_m4 20 (by decide +kernel)
theorem ms_Star_stepBack : Jvm.Cond.selects (k_y k_Star_stepBack).cls (k_y k_Star_stepBack) (k_y k_Star_stepBack) ∈ sw_ws := sw_m4 21 (by decide +kernel)
def k_House_starred : sw_K := (⟨"SwarmHouse", "starred", "(I)I"⟩, prog_1_method_11_code, 2, (some .int), 11, false)
set_option maxRecDepth 20000 in
theorem mf_House_starred : sw_mf k_House_starred 1 := ⟨sw_m4 26 rfl, sw_m1 1 (by decide +kernel), ⟨by decide +kernel, by decide +kernel⟩, by decide +kernel, by decide +kernel⟩
theorem mi_House_starred : Jvm.Cond.instanceMethod (k_y k_House_starred) ∈ sw_ws := sw_m4 24 (by decide +kernel)
theorem ms_House_starred : Jvm.Cond.selects (k_y k_House_starred).cls (k_y k_House_starred) (k_y k_House_starred) ∈ sw_ws := sw_m4 25 (by decide +kernel)
def k_House_length : sw_K := (⟨"SwarmHouse", "length", "(I)Z"⟩, prog_1_method_12_code, 2, (some .boolean), 11, false)
set_option maxRecDepth 20000 in
theorem mf_House_length : sw_mf k_House_length 1 := ⟨sw_m4 30 rfl, sw_m1 1 (by decide +kernel), ⟨by decide +kernel, by decide +kernel⟩, by decide +kernel, by decide +kernel⟩
theorem mi_House_length : Jvm.Cond.instanceMethod (k_y k_House_length) ∈ sw_ws := sw_m4 28 (by decide +kernel)
theorem ms_House_length : Jvm.Cond.selects (k_y k_House_length).cls (k_y k_House_length) (k_y k_House_length) ∈ sw_ws := sw_m4 29 (by decide +kernel)
def k_House_orbit : sw_K := (⟨"SwarmHouse", "orbit", "(IIII)I"⟩, prog_1_method_13_code, 6, (some .int), 11, false)
set_option maxRecDepth 20000 in
theorem mf_House_orbit : sw_mf k_House_orbit 4 := ⟨sw_m4 34 rfl, sw_m1 1 (by decide +kernel), ⟨by decide +kernel, by decide +kernel⟩, by decide +kernel, by decide +kernel⟩
theorem mi_House_orbit : Jvm.Cond.instanceMethod (k_y k_House_orbit) ∈ sw_ws := sw_m4 32 (by decide +kernel)
theorem ms_House_orbit : Jvm.Cond.selects (k_y k_House_orbit).cls (k_y k_House_orbit) (k_y k_House_orbit) ∈ sw_ws := sw_m4 33 (by decide +kernel)
def k_Swarm_add : sw_K := (⟨"SwarmHouse$Swarm", "add", "(IIII)I"⟩, prog_12_method_3_code, 6, (some .int), 10, false)
set_option maxRecDepth 20000 in
theorem mf_Swarm_add : sw_mf k_Swarm_add 4 := ⟨sw_m4 38 rfl, sw_m1 7 (by decide +kernel), ⟨by decide +kernel, by decide +kernel⟩, by decide +kernel, by decide +kernel⟩
theorem mi_Swarm_add : Jvm.Cond.instanceMethod (k_y k_Swarm_add) ∈ sw_ws := sw_m4 36 (by decide +kernel)
theorem ms_Swarm_add : Jvm.Cond.selects (k_y k_Swarm_add).cls (k_y k_Swarm_add) (k_y k_Swarm_add) ∈ sw_ws := sw_m4 37 (by decide +kernel)
def k_Orbit_init : sw_K := (⟨"SwarmHouse$Orbit", "<init>", "()V"⟩, prog_6_method_1_code, 1, none, 4, true)
set_option maxRecDepth 20000 in
theorem mf_Orbit_init : sw_mf k_Orbit_init 0 := ⟨sw_m4 42 rfl, sw_m1 18 (by decide +kernel), ⟨by decide +kernel, by decide +kernel⟩, by decide +kernel, by decide +kernel⟩
theorem mi_Orbit_init : Jvm.Cond.instanceMethod (k_y k_Orbit_init) ∈ sw_ws := sw_m4 41 (by decide +kernel)
def k_Orbit_begin : sw_K := (⟨"SwarmHouse$Orbit", "begin", "(IIII)V"⟩, prog_6_method_2_code, 5, none, 4, false)
set_option maxRecDepth 20000 in
theorem mf_Orbit_begin : sw_mf k_Orbit_begin 4 := ⟨sw_m4 119 rfl, sw_m1 18 (by decide +kernel), ⟨by decide +kernel, by decide +kernel⟩, by decide +kernel, by decide +kernel⟩
theorem mi_Orbit_begin : Jvm.Cond.instanceMethod (k_y k_Orbit_begin) ∈ sw_ws := sw_m4 117 (by decide +kernel)
theorem ms_Orbit_begin : Jvm.Cond.selects (k_y k_Orbit_begin).cls (k_y k_Orbit_begin) (k_y k_Orbit_begin) ∈ sw_ws := sw_m4 118 (by decide +kernel)
def k_House_told : sw_K := (⟨"SwarmHouse", "told", "(II)J"⟩, prog_1_method_14_code, 4, (some .long), 11, false)
set_option maxRecDepth 20000 in
theorem mf_House_told : sw_mf k_House_told 2 := ⟨sw_m4 123 rfl, sw_m1 1 (by decide +kernel), ⟨by decide +kernel, by decide +kernel⟩, by decide +kernel, by decide +kernel⟩
theorem mi_House_told : Jvm.Cond.instanceMethod (k_y k_House_told) ∈ sw_ws := sw_m4 121 (by decide +kernel)
theorem ms_House_told : Jvm.Cond.selects (k_y k_House_told).cls (k_y k_House_told) (k_y k_House_told) ∈ sw_ws := sw_m4 122 (by decide +kernel)
def k_Swarm_known : sw_K := (⟨"SwarmHouse$Swarm", "known", "(I)LSwarmHouse$Orbit;"⟩, prog_12_method_4_code, 2, (some (.object "SwarmHouse$Orbit")), 10, false)
set_option maxRecDepth 20000 in
theorem mf_Swarm_known : sw_mf k_Swarm_known 1 := ⟨sw_m4 127 rfl, sw_m1 7 (by decide +kernel), ⟨by decide +kernel, by decide +kernel⟩, by decide +kernel, by decide +kernel⟩
theorem mi_Swarm_known : Jvm.Cond.instanceMethod (k_y k_Swarm_known) ∈ sw_ws := sw_m4 125 (by decide +kernel)
theorem ms_Swarm_known : Jvm.Cond.selects (k_y k_Swarm_known).cls (k_y k_Swarm_known) (k_y k_Swarm_known) ∈ sw_ws := sw_m4 126 (by decide +kernel)
def k_Swarm_refresh : sw_K := (⟨"SwarmHouse$Swarm", "refresh", "()V"⟩, prog_12_method_6_code, 3, none, 10, false)
set_option maxRecDepth 20000 in
theorem mf_Swarm_refresh : sw_mf k_Swarm_refresh 0 := ⟨sw_m4 131 rfl, sw_m1 7 (by decide +kernel), ⟨by decide +kernel, by decide +kernel⟩, by decide +kernel, by decide +kernel⟩
theorem mi_Swarm_refresh : Jvm.Cond.instanceMethod (k_y k_Swarm_refresh) ∈ sw_ws := sw_m4 129 (by decide +kernel)
theorem ms_Swarm_refresh : Jvm.Cond.selects (k_y k_Swarm_refresh).cls (k_y k_Swarm_refresh) (k_y k_Swarm_refresh) ∈ sw_ws := sw_m4 130 (by decide +kernel)
def k_Orbit_run : sw_K := (⟨"SwarmHouse$Orbit", "run", "(LSwarmHouse$Field;ILSwarmHouse$Star;)V"⟩, prog_6_method_3_code, 5, none, 4, false)
set_option maxRecDepth 20000 in
theorem mf_Orbit_run : sw_mf k_Orbit_run 3 := ⟨sw_m4 135 rfl, sw_m1 18 (by decide +kernel), ⟨by decide +kernel, by decide +kernel⟩, by decide +kernel, by decide +kernel⟩
theorem mi_Orbit_run : Jvm.Cond.instanceMethod (k_y k_Orbit_run) ∈ sw_ws := sw_m4 133 (by decide +kernel)
theorem ms_Orbit_run : Jvm.Cond.selects (k_y k_Orbit_run).cls (k_y k_Orbit_run) (k_y k_Orbit_run) ∈ sw_ws := sw_m4 134 (by decide +kernel)
def k_Orbit_quarterAt : sw_K := (⟨"SwarmHouse$Orbit", "quarterAt", "(JJ)I"⟩, prog_6_method_6_code, 5, (some .int), 4, false)
set_option maxRecDepth 20000 in
theorem mf_Orbit_quarterAt : sw_mf k_Orbit_quarterAt 2 := ⟨sw_m4 140 rfl, sw_m1 18 (by decide +kernel), ⟨by decide +kernel, by decide +kernel⟩, by decide +kernel, by decide +kernel⟩
theorem mi_Orbit_quarterAt : Jvm.Cond.instanceMethod (k_y k_Orbit_quarterAt) ∈ sw_ws := sw_m4 139 (by decide +kernel)
theorem ms_Orbit_quarterAt : Jvm.Cond.selects (k_y k_Orbit_quarterAt).cls (k_y k_Orbit_quarterAt) (k_y k_Orbit_quarterAt) ∈ sw_ws := sw_memp 27 (by decide +kernel)
def k_Orbit_mark : sw_K := (⟨"SwarmHouse$Orbit", "mark", "(LSwarmHouse$Star;)V"⟩, prog_6_method_4_code, 6, none, 4, false)
set_option maxRecDepth 20000 in
theorem mf_Orbit_mark : sw_mf k_Orbit_mark 1 := ⟨sw_m4 144 rfl, sw_m1 18 (by decide +kernel), ⟨by decide +kernel, by decide +kernel⟩, by decide +kernel, by decide +kernel⟩
theorem mi_Orbit_mark : Jvm.Cond.instanceMethod (k_y k_Orbit_mark) ∈ sw_ws := sw_m4 143 (by decide +kernel)
theorem ms_Orbit_mark : Jvm.Cond.selects (k_y k_Orbit_mark).cls (k_y k_Orbit_mark) (k_y k_Orbit_mark) ∈ sw_ws := sw_memp 28 (by decide +kernel)
def k_Orbit_turn : sw_K := (⟨"SwarmHouse$Orbit", "turn", "(LSwarmHouse$Star;)V"⟩, prog_6_method_5_code, 4, none, 4, false)
set_option maxRecDepth 20000 in
theorem mf_Orbit_turn : sw_mf k_Orbit_turn 1 := ⟨sw_m4 155 rfl, sw_m1 18 (by decide +kernel), ⟨by decide +kernel, by decide +kernel⟩, by decide +kernel, by decide +kernel⟩
theorem mi_Orbit_turn : Jvm.Cond.instanceMethod (k_y k_Orbit_turn) ∈ sw_ws := sw_m4 154 (by decide +kernel)
theorem ms_Orbit_turn : Jvm.Cond.selects (k_y k_Orbit_turn).cls (k_y k_Orbit_turn) (k_y k_Orbit_turn) ∈ sw_ws := sw_memp 29 (by decide +kernel)
def k_Orbit_comeBack : sw_K := (⟨"SwarmHouse$Orbit", "comeBack", "()V"⟩, prog_6_method_7_code, 1, none, 4, false)
set_option maxRecDepth 20000 in
theorem mf_Orbit_comeBack : sw_mf k_Orbit_comeBack 0 := ⟨sw_m4 159 rfl, sw_m1 18 (by decide +kernel), ⟨by decide +kernel, by decide +kernel⟩, by decide +kernel, by decide +kernel⟩
theorem mi_Orbit_comeBack : Jvm.Cond.instanceMethod (k_y k_Orbit_comeBack) ∈ sw_ws := sw_m4 158 (by decide +kernel)
theorem ms_Orbit_comeBack : Jvm.Cond.selects (k_y k_Orbit_comeBack).cls (k_y k_Orbit_comeBack) (k_y k_Orbit_comeBack) ∈ sw_ws := sw_memp 30 (by decide +kernel)
def k_Orbit_settle : sw_K := (⟨"SwarmHouse$Orbit", "settle", "(LSwarmHouse$Swarm;)V"⟩, prog_6_method_8_code, 4, none, 4, false)
set_option maxRecDepth 20000 in
theorem mf_Orbit_settle : sw_mf k_Orbit_settle 1 := ⟨sw_m4 163 rfl, sw_m1 18 (by decide +kernel), ⟨by decide +kernel, by decide +kernel⟩, by decide +kernel, by decide +kernel⟩
theorem mi_Orbit_settle : Jvm.Cond.instanceMethod (k_y k_Orbit_settle) ∈ sw_ws := sw_m4 161 (by decide +kernel)
theorem ms_Orbit_settle : Jvm.Cond.selects (k_y k_Orbit_settle).cls (k_y k_Orbit_settle) (k_y k_Orbit_settle) ∈ sw_ws := sw_m4 162 (by decide +kernel)
def k_Arr_fill_aII : sw_K := (⟨"java/util/Arrays", "fill", "([II)V"⟩, prog_21_method_103_code, 4, none, 19, false)
set_option maxRecDepth 20000 in
theorem mf_Arr_fill_aII : sw_mf k_Arr_fill_aII 2 := ⟨sw_m4 166 rfl, sw_m1 19 (by decide +kernel), ⟨by decide +kernel, by decide +kernel⟩, by decide +kernel, by decide +kernel⟩
theorem mi_Arr_fill_aII : Jvm.Cond.static (k_y k_Arr_fill_aII) ∈ sw_ws := sw_m4 165 (by decide +kernel)
def k_Swarm_cellOf : sw_K := (⟨"SwarmHouse$Swarm", "cellOf", "(JJ)I"⟩, prog_12_method_2_code, 5, (some .int), 10, false)
set_option maxRecDepth 20000 in
theorem mf_Swarm_cellOf : sw_mf k_Swarm_cellOf 2 := ⟨sw_m4 170 rfl, sw_m1 7 (by decide +kernel), ⟨by decide +kernel, by decide +kernel⟩, by decide +kernel, by decide +kernel⟩
theorem mi_Swarm_cellOf : Jvm.Cond.instanceMethod (k_y k_Swarm_cellOf) ∈ sw_ws := sw_m4 168 (by decide +kernel)
theorem ms_Swarm_cellOf : Jvm.Cond.selects (k_y k_Swarm_cellOf).cls (k_y k_Swarm_cellOf) (k_y k_Swarm_cellOf) ∈ sw_ws := sw_m4 169 (by decide +kernel)
def k_Rule_uses : sw_K := (⟨"SwarmHouse$Rule", "uses", "(LSwarmHouse$Orbit;)Z"⟩, prog_9_method_4_code, 5, (some .boolean), 7, false)
set_option maxRecDepth 20000 in
theorem mf_Rule_uses : sw_mf k_Rule_uses 1 := ⟨sw_m4 174 rfl, sw_m1 3 (by decide +kernel), ⟨by decide +kernel, by decide +kernel⟩, by decide +kernel, by decide +kernel⟩
theorem mi_Rule_uses : Jvm.Cond.instanceMethod (k_y k_Rule_uses) ∈ sw_ws := sw_m4 172 (by decide +kernel)
theorem ms_Rule_uses : Jvm.Cond.selects (k_y k_Rule_uses).cls (k_y k_Rule_uses) (k_y k_Rule_uses) ∈ sw_ws := sw_m4 173 (by decide +kernel)
def k_Orbit_named : sw_K := (⟨"SwarmHouse$Orbit", "named", "(I)J"⟩, prog_6_method_10_code, 2, (some .long), 4, false)
set_option maxRecDepth 20000 in
theorem mf_Orbit_named : sw_mf k_Orbit_named 1 := ⟨sw_m4 178 rfl, sw_m1 18 (by decide +kernel), ⟨by decide +kernel, by decide +kernel⟩, by decide +kernel, by decide +kernel⟩
theorem mi_Orbit_named : Jvm.Cond.instanceMethod (k_y k_Orbit_named) ∈ sw_ws := sw_m4 176 (by decide +kernel)
theorem ms_Orbit_named : Jvm.Cond.selects (k_y k_Orbit_named).cls (k_y k_Orbit_named) (k_y k_Orbit_named) ∈ sw_ws := sw_m4 177 (by decide +kernel)
def k_Orbit_kind : sw_K := (⟨"SwarmHouse$Orbit", "kind", "()I"⟩, prog_6_method_9_code, 1, (some .int), 4, false)
set_option maxRecDepth 20000 in
theorem mf_Orbit_kind : sw_mf k_Orbit_kind 0 := ⟨sw_m4 182 rfl, sw_m1 18 (by decide +kernel), ⟨by decide +kernel, by decide +kernel⟩, by decide +kernel, by decide +kernel⟩
theorem mi_Orbit_kind : Jvm.Cond.instanceMethod (k_y k_Orbit_kind) ∈ sw_ws := sw_m4 180 (by decide +kernel)
theorem ms_Orbit_kind : Jvm.Cond.selects (k_y k_Orbit_kind).cls (k_y k_Orbit_kind) (k_y k_Orbit_kind) ∈ sw_ws := sw_m4 181 (by decide +kernel)
def k_Rule_checked : sw_K := (⟨"SwarmHouse$Rule", "checked", "(J)J"⟩, prog_9_method_8_code, 3, (some .long), 7, false)
set_option maxRecDepth 20000 in
theorem mf_Rule_checked : sw_mf k_Rule_checked 1 := ⟨sw_m4 186 rfl, sw_m1 3 (by decide +kernel), ⟨by decide +kernel, by decide +kernel⟩, by decide +kernel, by decide +kernel⟩
theorem mi_Rule_checked : Jvm.Cond.instanceMethod (k_y k_Rule_checked) ∈ sw_ws := sw_m4 185 (by decide +kernel)
theorem ms_Rule_checked : Jvm.Cond.selects (k_y k_Rule_checked).cls (k_y k_Rule_checked) (k_y k_Rule_checked) ∈ sw_ws := sw_memp 31 (by decide +kernel)
def k_Rule_bit : sw_K := (⟨"SwarmHouse$Rule", "bit", "(Z)J"⟩, prog_9_method_9_code, 1, (some .long), 7, false)
set_option maxRecDepth 20000 in
theorem mf_Rule_bit : sw_mf k_Rule_bit 1 := ⟨sw_m4 191 rfl, sw_m1 3 (by decide +kernel), ⟨by decide +kernel, by decide +kernel⟩, by decide +kernel, by decide +kernel⟩
theorem mi_Rule_bit : Jvm.Cond.static (k_y k_Rule_bit) ∈ sw_ws := sw_m4 190 (by decide +kernel)
def k_Rule_joined : sw_K := (⟨"SwarmHouse$Rule", "joined", "(IJJ)J"⟩, prog_9_method_5_code, 6, (some .long), 7, false)
set_option maxRecDepth 20000 in
theorem mf_Rule_joined : sw_mf k_Rule_joined 3 := ⟨sw_m4 195 rfl, sw_m1 3 (by decide +kernel), ⟨by decide +kernel, by decide +kernel⟩, by decide +kernel, by decide +kernel⟩
theorem mi_Rule_joined : Jvm.Cond.instanceMethod (k_y k_Rule_joined) ∈ sw_ws := sw_m4 194 (by decide +kernel)
theorem ms_Rule_joined : Jvm.Cond.selects (k_y k_Rule_joined).cls (k_y k_Rule_joined) (k_y k_Rule_joined) ∈ sw_ws := sw_memp 32 (by decide +kernel)
def k_Rule_product : sw_K := (⟨"SwarmHouse$Rule", "product", "(JJ)J"⟩, prog_9_method_6_code, 5, (some .long), 7, false)
set_option maxRecDepth 20000 in
theorem mf_Rule_product : sw_mf k_Rule_product 2 := ⟨sw_m4 199 rfl, sw_m1 3 (by decide +kernel), ⟨by decide +kernel, by decide +kernel⟩, by decide +kernel, by decide +kernel⟩
theorem mi_Rule_product : Jvm.Cond.instanceMethod (k_y k_Rule_product) ∈ sw_ws := sw_m4 198 (by decide +kernel)
theorem ms_Rule_product : Jvm.Cond.selects (k_y k_Rule_product).cls (k_y k_Rule_product) (k_y k_Rule_product) ∈ sw_ws := sw_memp 33 (by decide +kernel)
def k_Rule_quotient : sw_K := (⟨"SwarmHouse$Rule", "quotient", "(JJ)J"⟩, prog_9_method_7_code, 5, (some .long), 7, false)
set_option maxRecDepth 20000 in
theorem mf_Rule_quotient : sw_mf k_Rule_quotient 2 := ⟨sw_m4 206 rfl, sw_m1 3 (by decide +kernel), ⟨by decide +kernel, by decide +kernel⟩, by decide +kernel, by decide +kernel⟩
theorem mi_Rule_quotient : Jvm.Cond.instanceMethod (k_y k_Rule_quotient) ∈ sw_ws := sw_m4 205 (by decide +kernel)
theorem ms_Rule_quotient : Jvm.Cond.selects (k_y k_Rule_quotient).cls (k_y k_Rule_quotient) (k_y k_Rule_quotient) ∈ sw_ws := sw_memp 34 (by decide +kernel)
def k_Swarm_latest : sw_K := (⟨"SwarmHouse$Swarm", "latest", "(I)LSwarmHouse$Orbit;"⟩, prog_12_method_5_code, 2, (some (.object "SwarmHouse$Orbit")), 10, false)
set_option maxRecDepth 20000 in
theorem mf_Swarm_latest : sw_mf k_Swarm_latest 1 := ⟨sw_m4 210 rfl, sw_m1 7 (by decide +kernel), ⟨by decide +kernel, by decide +kernel⟩, by decide +kernel, by decide +kernel⟩
theorem mi_Swarm_latest : Jvm.Cond.instanceMethod (k_y k_Swarm_latest) ∈ sw_ws := sw_m4 208 (by decide +kernel)
theorem ms_Swarm_latest : Jvm.Cond.selects (k_y k_Swarm_latest).cls (k_y k_Swarm_latest) (k_y k_Swarm_latest) ∈ sw_ws := sw_m4 209 (by decide +kernel)
def k_House_at : sw_K := (⟨"SwarmHouse", "at", "(III)I"⟩, prog_1_method_15_code, 5, (some .int), 11, false)
set_option maxRecDepth 20000 in
theorem mf_House_at : sw_mf k_House_at 3 := ⟨sw_m4 216 rfl, sw_m1 1 (by decide +kernel), ⟨by decide +kernel, by decide +kernel⟩, by decide +kernel, by decide +kernel⟩
theorem mi_House_at : Jvm.Cond.instanceMethod (k_y k_House_at) ∈ sw_ws := sw_m4 214 (by decide +kernel)
theorem ms_House_at : Jvm.Cond.selects (k_y k_House_at).cls (k_y k_House_at) (k_y k_House_at) ∈ sw_ws := sw_m4 215 (by decide +kernel)
def k_House_back : sw_K := (⟨"SwarmHouse", "back", "(II)I"⟩, prog_1_method_16_code, 4, (some .int), 11, false)
set_option maxRecDepth 20000 in
theorem mf_House_back : sw_mf k_House_back 2 := ⟨sw_m4 220 rfl, sw_m1 1 (by decide +kernel), ⟨by decide +kernel, by decide +kernel⟩, by decide +kernel, by decide +kernel⟩
theorem mi_House_back : Jvm.Cond.instanceMethod (k_y k_House_back) ∈ sw_ws := sw_m4 218 (by decide +kernel)
theorem ms_House_back : Jvm.Cond.selects (k_y k_House_back).cls (k_y k_House_back) (k_y k_House_back) ∈ sw_ws := sw_m4 219 (by decide +kernel)
def k_House_alike : sw_K := (⟨"SwarmHouse", "alike", "(II)Z"⟩, prog_1_method_17_code, 5, (some .boolean), 11, false)
set_option maxRecDepth 20000 in
theorem mf_House_alike : sw_mf k_House_alike 2 := ⟨sw_m4 224 rfl, sw_m1 1 (by decide +kernel), ⟨by decide +kernel, by decide +kernel⟩, by decide +kernel, by decide +kernel⟩
theorem mi_House_alike : Jvm.Cond.instanceMethod (k_y k_House_alike) ∈ sw_ws := sw_m4 222 (by decide +kernel)
theorem ms_House_alike : Jvm.Cond.selects (k_y k_House_alike).cls (k_y k_House_alike) (k_y k_House_alike) ∈ sw_ws := sw_m4 223 (by decide +kernel)
def k_Orbit_mostlyReturnsNear : sw_K := (⟨"SwarmHouse$Orbit", "mostlyReturnsNear", "(LSwarmHouse$Orbit;)Z"⟩, prog_6_method_11_code, 5, (some .boolean), 4, false)
set_option maxRecDepth 20000 in
theorem mf_Orbit_mostlyReturnsNear : sw_mf k_Orbit_mostlyReturnsNear 1 := ⟨sw_m4 228 rfl, sw_m1 18 (by decide +kernel), ⟨by decide +kernel, by decide +kernel⟩, by decide +kernel, by decide +kernel⟩
theorem mi_Orbit_mostlyReturnsNear : Jvm.Cond.instanceMethod (k_y k_Orbit_mostlyReturnsNear) ∈ sw_ws := sw_m4 226 (by decide +kernel)
theorem ms_Orbit_mostlyReturnsNear : Jvm.Cond.selects (k_y k_Orbit_mostlyReturnsNear).cls (k_y k_Orbit_mostlyReturnsNear) (k_y k_Orbit_mostlyReturnsNear) ∈ sw_ws := sw_m4 227 (by decide +kernel)
def k_House_tune : sw_K := (⟨"SwarmHouse", "tune", "(III)Z"⟩, prog_1_method_18_code, 9, (some .boolean), 11, false)
set_option maxRecDepth 20000 in
theorem mf_House_tune : sw_mf k_House_tune 3 := ⟨sw_m4 235 rfl, sw_m1 1 (by decide +kernel), ⟨by decide +kernel, by decide +kernel⟩, by decide +kernel, by decide +kernel⟩
theorem mi_House_tune : Jvm.Cond.instanceMethod (k_y k_House_tune) ∈ sw_ws := sw_m4 233 (by decide +kernel)
theorem ms_House_tune : Jvm.Cond.selects (k_y k_House_tune).cls (k_y k_House_tune) (k_y k_House_tune) ∈ sw_ws := sw_m4 234 (by decide +kernel)
def k_Field_firstPeriod : sw_K := (⟨"SwarmHouse$Field", "firstPeriod", "()I"⟩, prog_2_method_7_code, 3, (some .int), 0, false)
set_option maxRecDepth 20000 in
theorem mf_Field_firstPeriod : sw_mf k_Field_firstPeriod 0 := ⟨sw_m4 239 rfl, sw_m1 2 (by decide +kernel), ⟨by decide +kernel, by decide +kernel⟩, by decide +kernel, by decide +kernel⟩
theorem mi_Field_firstPeriod : Jvm.Cond.instanceMethod (k_y k_Field_firstPeriod) ∈ sw_ws := sw_m4 237 (by decide +kernel)
theorem ms_Field_firstPeriod : Jvm.Cond.selects (k_y k_Field_firstPeriod).cls (k_y k_Field_firstPeriod) (k_y k_Field_firstPeriod) ∈ sw_ws := sw_m4 238 (by decide +kernel)
def k_House_cells : sw_K := (⟨"SwarmHouse", "cells", "(II)Z"⟩, prog_1_method_19_code, 3, (some .boolean), 11, false)
set_option maxRecDepth 20000 in
theorem mf_House_cells : sw_mf k_House_cells 2 := ⟨sw_m5 4 rfl, sw_m1 1 (by decide +kernel), ⟨by decide +kernel, by decide +kernel⟩, by decide +kernel, by decide +kernel⟩
theorem mi_House_cells : Jvm.Cond.instanceMethod (k_y k_House_cells) ∈ sw_ws := sw_m5 2 (by decide +kernel)
theorem ms_House_cells : Jvm.Cond.selects (k_y k_House_cells).cls (k_y k_House_cells) (k_y k_House_cells) ∈ sw_ws := sw_m5 3 (by decide +kernel)
def k_House_share : sw_K := (⟨"SwarmHouse", "share", "(III)I"⟩, prog_1_method_20_code, 5, (some .int), 11, false)
set_option maxRecDepth 20000 in
theorem mf_House_share : sw_mf k_House_share 3 := ⟨sw_m5 8 rfl, sw_m1 1 (by decide +kernel), ⟨by decide +kernel, by decide +kernel⟩, by decide +kernel, by decide +kernel⟩
theorem mi_House_share : Jvm.Cond.instanceMethod (k_y k_House_share) ∈ sw_ws := sw_m5 6 (by decide +kernel)
theorem ms_House_share : Jvm.Cond.selects (k_y k_House_share).cls (k_y k_House_share) (k_y k_House_share) ∈ sw_ws := sw_m5 7 (by decide +kernel)
def k_House_portions : sw_K := (⟨"SwarmHouse", "portions", "(I)Z"⟩, prog_1_method_21_code, 2, (some .boolean), 11, false)
set_option maxRecDepth 20000 in
theorem mf_House_portions : sw_mf k_House_portions 1 := ⟨sw_m5 12 rfl, sw_m1 1 (by decide +kernel), ⟨by decide +kernel, by decide +kernel⟩, by decide +kernel, by decide +kernel⟩
theorem mi_House_portions : Jvm.Cond.instanceMethod (k_y k_House_portions) ∈ sw_ws := sw_m5 10 (by decide +kernel)
theorem ms_House_portions : Jvm.Cond.selects (k_y k_House_portions).cls (k_y k_House_portions) (k_y k_House_portions) ∈ sw_ws := sw_m5 11 (by decide +kernel)
def k_House_sight : sw_K := (⟨"SwarmHouse", "sight", "(IIII)I"⟩, prog_1_method_22_code, 5, (some .int), 11, false)
set_option maxRecDepth 20000 in
theorem mf_House_sight : sw_mf k_House_sight 4 := ⟨sw_m5 16 rfl, sw_m1 1 (by decide +kernel), ⟨by decide +kernel, by decide +kernel⟩, by decide +kernel, by decide +kernel⟩
theorem mi_House_sight : Jvm.Cond.instanceMethod (k_y k_House_sight) ∈ sw_ws := sw_m5 14 (by decide +kernel)
theorem ms_House_sight : Jvm.Cond.selects (k_y k_House_sight).cls (k_y k_House_sight) (k_y k_House_sight) ∈ sw_ws := sw_m5 15 (by decide +kernel)
def k_Notes_add : sw_K := (⟨"SwarmHouse$Notes", "add", "(IIII)I"⟩, prog_5_method_2_code, 5, (some .int), 3, false)
set_option maxRecDepth 20000 in
theorem mf_Notes_add : sw_mf k_Notes_add 4 := ⟨sw_m5 20 rfl, sw_m1 8 (by decide +kernel), ⟨by decide +kernel, by decide +kernel⟩, by decide +kernel, by decide +kernel⟩
theorem mi_Notes_add : Jvm.Cond.instanceMethod (k_y k_Notes_add) ∈ sw_ws := sw_m5 18 (by decide +kernel)
theorem ms_Notes_add : Jvm.Cond.selects (k_y k_Notes_add).cls (k_y k_Notes_add) (k_y k_Notes_add) ∈ sw_ws := sw_m5 19 (by decide +kernel)
def k_House_strike : sw_K := (⟨"SwarmHouse", "strike", "(I)I"⟩, prog_1_method_23_code, 2, (some .int), 11, false)
set_option maxRecDepth 20000 in
theorem mf_House_strike : sw_mf k_House_strike 1 := ⟨sw_m5 24 rfl, sw_m1 1 (by decide +kernel), ⟨by decide +kernel, by decide +kernel⟩, by decide +kernel, by decide +kernel⟩
theorem mi_House_strike : Jvm.Cond.instanceMethod (k_y k_House_strike) ∈ sw_ws := sw_m5 22 (by decide +kernel)
theorem ms_House_strike : Jvm.Cond.selects (k_y k_House_strike).cls (k_y k_House_strike) (k_y k_House_strike) ∈ sw_ws := sw_m5 23 (by decide +kernel)
def k_House_fits : sw_K := (⟨"SwarmHouse", "fits", "(I)I"⟩, prog_1_method_24_code, 5, (some .int), 11, false)
set_option maxRecDepth 20000 in
theorem mf_House_fits : sw_mf k_House_fits 1 := ⟨sw_m5 28 rfl, sw_m1 1 (by decide +kernel), ⟨by decide +kernel, by decide +kernel⟩, by decide +kernel, by decide +kernel⟩
theorem mi_House_fits : Jvm.Cond.instanceMethod (k_y k_House_fits) ∈ sw_ws := sw_m5 26 (by decide +kernel)
theorem ms_House_fits : Jvm.Cond.selects (k_y k_House_fits).cls (k_y k_House_fits) (k_y k_House_fits) ∈ sw_ws := sw_m5 27 (by decide +kernel)
def k_Notes_know : sw_K := (⟨"SwarmHouse$Notes", "know", "(I)Z"⟩, prog_5_method_3_code, 3, (some .boolean), 3, false)
set_option maxRecDepth 20000 in
theorem mf_Notes_know : sw_mf k_Notes_know 1 := ⟨sw_m5 32 rfl, sw_m1 8 (by decide +kernel), ⟨by decide +kernel, by decide +kernel⟩, by decide +kernel, by decide +kernel⟩
theorem mi_Notes_know : Jvm.Cond.instanceMethod (k_y k_Notes_know) ∈ sw_ws := sw_m5 30 (by decide +kernel)
theorem ms_Notes_know : Jvm.Cond.selects (k_y k_Notes_know).cls (k_y k_Notes_know) (k_y k_Notes_know) ∈ sw_ws := sw_m5 31 (by decide +kernel)
def k_Fits_first : sw_K := (⟨"SwarmHouse$Fits", "first", "()Z"⟩, prog_3_method_2_code, 1, (some .boolean), 1, false)
set_option maxRecDepth 20000 in
theorem mf_Fits_first : sw_mf k_Fits_first 0 := ⟨sw_m5 38 rfl, sw_m1 9 (by decide +kernel), ⟨by decide +kernel, by decide +kernel⟩, by decide +kernel, by decide +kernel⟩
theorem mi_Fits_first : Jvm.Cond.instanceMethod (k_y k_Fits_first) ∈ sw_ws := sw_m5 36 (by decide +kernel)
theorem ms_Fits_first : Jvm.Cond.selects (k_y k_Fits_first).cls (k_y k_Fits_first) (k_y k_Fits_first) ∈ sw_ws := sw_m5 37 (by decide +kernel)
def k_Fits_begin : sw_K := (⟨"SwarmHouse$Fits", "begin", "()Z"⟩, prog_3_method_6_code, 3, (some .boolean), 1, false)
set_option maxRecDepth 20000 in
theorem mf_Fits_begin : sw_mf k_Fits_begin 0 := ⟨sw_m5 42 rfl, sw_m1 9 (by decide +kernel), ⟨by decide +kernel, by decide +kernel⟩, by decide +kernel, by decide +kernel⟩
theorem mi_Fits_begin : Jvm.Cond.instanceMethod (k_y k_Fits_begin) ∈ sw_ws := sw_m5 41 (by decide +kernel)
theorem ms_Fits_begin : Jvm.Cond.selects (k_y k_Fits_begin).cls (k_y k_Fits_begin) (k_y k_Fits_begin) ∈ sw_ws := sw_memp 35 (by decide +kernel)
def k_Fits_gather : sw_K := (⟨"SwarmHouse$Fits", "gather", "(LSwarmHouse$Orbit;I)V"⟩, prog_3_method_7_code, 5, none, 1, false)
set_option maxRecDepth 20000 in
theorem mf_Fits_gather : sw_mf k_Fits_gather 2 := ⟨sw_m5 48 rfl, sw_m1 9 (by decide +kernel), ⟨by decide +kernel, by decide +kernel⟩, by decide +kernel, by decide +kernel⟩
theorem mi_Fits_gather : Jvm.Cond.instanceMethod (k_y k_Fits_gather) ∈ sw_ws := sw_m5 47 (by decide +kernel)
theorem ms_Fits_gather : Jvm.Cond.selects (k_y k_Fits_gather).cls (k_y k_Fits_gather) (k_y k_Fits_gather) ∈ sw_ws := sw_memp 36 (by decide +kernel)
def k_Notes_isSight : sw_K := (⟨"SwarmHouse$Notes", "isSight", "(I)Z"⟩, prog_5_method_4_code, 2, (some .boolean), 3, false)
set_option maxRecDepth 20000 in
theorem mf_Notes_isSight : sw_mf k_Notes_isSight 1 := ⟨sw_m5 52 rfl, sw_m1 8 (by decide +kernel), ⟨by decide +kernel, by decide +kernel⟩, by decide +kernel, by decide +kernel⟩
theorem mi_Notes_isSight : Jvm.Cond.instanceMethod (k_y k_Notes_isSight) ∈ sw_ws := sw_m5 50 (by decide +kernel)
theorem ms_Notes_isSight : Jvm.Cond.selects (k_y k_Notes_isSight).cls (k_y k_Notes_isSight) (k_y k_Notes_isSight) ∈ sw_ws := sw_m5 51 (by decide +kernel)
def k_Fits_allHold : sw_K := (⟨"SwarmHouse$Fits", "allHold", "()Z"⟩, prog_3_method_9_code, 2, (some .boolean), 1, false)
set_option maxRecDepth 20000 in
theorem mf_Fits_allHold : sw_mf k_Fits_allHold 0 := ⟨sw_m5 56 rfl, sw_m1 9 (by decide +kernel), ⟨by decide +kernel, by decide +kernel⟩, by decide +kernel, by decide +kernel⟩
theorem mi_Fits_allHold : Jvm.Cond.instanceMethod (k_y k_Fits_allHold) ∈ sw_ws := sw_m5 55 (by decide +kernel)
theorem ms_Fits_allHold : Jvm.Cond.selects (k_y k_Fits_allHold).cls (k_y k_Fits_allHold) (k_y k_Fits_allHold) ∈ sw_ws := sw_memp 37 (by decide +kernel)
def k_Fits_holds : sw_K := (⟨"SwarmHouse$Fits", "holds", "(I)Z"⟩, prog_3_method_10_code, 9, (some .boolean), 1, false)
set_option maxRecDepth 20000 in
theorem mf_Fits_holds : sw_mf k_Fits_holds 1 := ⟨sw_m5 60 rfl, sw_m1 9 (by decide +kernel), ⟨by decide +kernel, by decide +kernel⟩, by decide +kernel, by decide +kernel⟩
theorem mi_Fits_holds : Jvm.Cond.instanceMethod (k_y k_Fits_holds) ∈ sw_ws := sw_m5 59 (by decide +kernel)
theorem ms_Fits_holds : Jvm.Cond.selects (k_y k_Fits_holds).cls (k_y k_Fits_holds) (k_y k_Fits_holds) ∈ sw_ws := sw_memp 38 (by decide +kernel)
def k_Fits_summed : sw_K := (⟨"SwarmHouse$Fits", "summed", "([I)I"⟩, prog_3_method_11_code, 4, (some .int), 1, false)
set_option maxRecDepth 20000 in
theorem mf_Fits_summed : sw_mf k_Fits_summed 1 := ⟨sw_m5 64 rfl, sw_m1 9 (by decide +kernel), ⟨by decide +kernel, by decide +kernel⟩, by decide +kernel, by decide +kernel⟩
theorem mi_Fits_summed : Jvm.Cond.instanceMethod (k_y k_Fits_summed) ∈ sw_ws := sw_m5 63 (by decide +kernel)
theorem ms_Fits_summed : Jvm.Cond.selects (k_y k_Fits_summed).cls (k_y k_Fits_summed) (k_y k_Fits_summed) ∈ sw_ws := sw_memp 39 (by decide +kernel)
def k_Fits_next : sw_K := (⟨"SwarmHouse$Fits", "next", "()Z"⟩, prog_3_method_3_code, 2, (some .boolean), 1, false)
set_option maxRecDepth 20000 in
theorem mf_Fits_next : sw_mf k_Fits_next 0 := ⟨sw_m5 69 rfl, sw_m1 9 (by decide +kernel), ⟨by decide +kernel, by decide +kernel⟩, by decide +kernel, by decide +kernel⟩
theorem mi_Fits_next : Jvm.Cond.instanceMethod (k_y k_Fits_next) ∈ sw_ws := sw_m5 67 (by decide +kernel)
theorem ms_Fits_next : Jvm.Cond.selects (k_y k_Fits_next).cls (k_y k_Fits_next) (k_y k_Fits_next) ∈ sw_ws := sw_m5 68 (by decide +kernel)
def k_Fits_shift : sw_K := (⟨"SwarmHouse$Fits", "shift", "()Z"⟩, prog_3_method_8_code, 4, (some .boolean), 1, false)
set_option maxRecDepth 20000 in
theorem mf_Fits_shift : sw_mf k_Fits_shift 0 := ⟨sw_m5 74 rfl, sw_m1 9 (by decide +kernel), ⟨by decide +kernel, by decide +kernel⟩, by decide +kernel, by decide +kernel⟩
theorem mi_Fits_shift : Jvm.Cond.instanceMethod (k_y k_Fits_shift) ∈ sw_ws := sw_m5 73 (by decide +kernel)
theorem ms_Fits_shift : Jvm.Cond.selects (k_y k_Fits_shift).cls (k_y k_Fits_shift) (k_y k_Fits_shift) ∈ sw_ws := sw_memp 40 (by decide +kernel)
def k_House_weight : sw_K := (⟨"SwarmHouse", "weight", "(III)I"⟩, prog_1_method_25_code, 6, (some .int), 11, false)
set_option maxRecDepth 20000 in
theorem mf_House_weight : sw_mf k_House_weight 3 := ⟨sw_m5 80 rfl, sw_m1 1 (by decide +kernel), ⟨by decide +kernel, by decide +kernel⟩, by decide +kernel, by decide +kernel⟩
theorem mi_House_weight : Jvm.Cond.instanceMethod (k_y k_House_weight) ∈ sw_ws := sw_m5 78 (by decide +kernel)
theorem ms_House_weight : Jvm.Cond.selects (k_y k_House_weight).cls (k_y k_House_weight) (k_y k_House_weight) ∈ sw_ws := sw_m5 79 (by decide +kernel)
def k_Fits_weightOf : sw_K := (⟨"SwarmHouse$Fits", "weightOf", "(I)I"⟩, prog_3_method_4_code, 2, (some .int), 1, false)
set_option maxRecDepth 20000 in
theorem mf_Fits_weightOf : sw_mf k_Fits_weightOf 1 := ⟨sw_m5 84 rfl, sw_m1 9 (by decide +kernel), ⟨by decide +kernel, by decide +kernel⟩, by decide +kernel, by decide +kernel⟩
theorem mi_Fits_weightOf : Jvm.Cond.instanceMethod (k_y k_Fits_weightOf) ∈ sw_ws := sw_m5 82 (by decide +kernel)
theorem ms_Fits_weightOf : Jvm.Cond.selects (k_y k_Fits_weightOf).cls (k_y k_Fits_weightOf) (k_y k_Fits_weightOf) ∈ sw_ws := sw_m5 83 (by decide +kernel)
def k_House_range : sw_K := (⟨"SwarmHouse", "range", "(IIIZ)I"⟩, prog_1_method_26_code, 11, (some .int), 11, false)
set_option maxRecDepth 20000 in
theorem mf_House_range : sw_mf k_House_range 4 := ⟨sw_m5 88 rfl, sw_m1 1 (by decide +kernel), ⟨by decide +kernel, by decide +kernel⟩, by decide +kernel, by decide +kernel⟩
theorem mi_House_range : Jvm.Cond.instanceMethod (k_y k_House_range) ∈ sw_ws := sw_m5 86 (by decide +kernel)
theorem ms_House_range : Jvm.Cond.selects (k_y k_House_range).cls (k_y k_House_range) (k_y k_House_range) ∈ sw_ws := sw_m5 87 (by decide +kernel)
def k_Fits_lightOf : sw_K := (⟨"SwarmHouse$Fits", "lightOf", "(I)I"⟩, prog_3_method_5_code, 5, (some .int), 1, false)
set_option maxRecDepth 20000 in
theorem mf_Fits_lightOf : sw_mf k_Fits_lightOf 1 := ⟨sw_m5 92 rfl, sw_m1 9 (by decide +kernel), ⟨by decide +kernel, by decide +kernel⟩, by decide +kernel, by decide +kernel⟩
theorem mi_Fits_lightOf : Jvm.Cond.instanceMethod (k_y k_Fits_lightOf) ∈ sw_ws := sw_m5 90 (by decide +kernel)
theorem ms_Fits_lightOf : Jvm.Cond.selects (k_y k_Fits_lightOf).cls (k_y k_Fits_lightOf) (k_y k_Fits_lightOf) ∈ sw_ws := sw_m5 91 (by decide +kernel)
def k_House_quarrel : sw_K := (⟨"SwarmHouse", "quarrel", "(I)I"⟩, prog_1_method_27_code, 2, (some .int), 11, false)
set_option maxRecDepth 20000 in
theorem mf_House_quarrel : sw_mf k_House_quarrel 1 := ⟨sw_m5 97 rfl, sw_m1 1 (by decide +kernel), ⟨by decide +kernel, by decide +kernel⟩, by decide +kernel, by decide +kernel⟩
theorem mi_House_quarrel : Jvm.Cond.instanceMethod (k_y k_House_quarrel) ∈ sw_ws := sw_m5 95 (by decide +kernel)
theorem ms_House_quarrel : Jvm.Cond.selects (k_y k_House_quarrel).cls (k_y k_House_quarrel) (k_y k_House_quarrel) ∈ sw_ws := sw_m5 96 (by decide +kernel)
def k_Fits_fewestApart : sw_K := (⟨"SwarmHouse$Fits", "fewestApart", "()I"⟩, prog_3_method_12_code, 6, (some .int), 1, false)
set_option maxRecDepth 20000 in
theorem mf_Fits_fewestApart : sw_mf k_Fits_fewestApart 0 := ⟨sw_m5 101 rfl, sw_m1 9 (by decide +kernel), ⟨by decide +kernel, by decide +kernel⟩, by decide +kernel, by decide +kernel⟩
theorem mi_Fits_fewestApart : Jvm.Cond.instanceMethod (k_y k_Fits_fewestApart) ∈ sw_ws := sw_m5 99 (by decide +kernel)
theorem ms_Fits_fewestApart : Jvm.Cond.selects (k_y k_Fits_fewestApart).cls (k_y k_Fits_fewestApart) (k_y k_Fits_fewestApart) ∈ sw_ws := sw_m5 100 (by decide +kernel)
def k_Fits_holding : sw_K := (⟨"SwarmHouse$Fits", "holding", "()I"⟩, prog_3_method_13_code, 3, (some .int), 1, false)
set_option maxRecDepth 20000 in
theorem mf_Fits_holding : sw_mf k_Fits_holding 0 := ⟨sw_m5 105 rfl, sw_m1 9 (by decide +kernel), ⟨by decide +kernel, by decide +kernel⟩, by decide +kernel, by decide +kernel⟩
theorem mi_Fits_holding : Jvm.Cond.instanceMethod (k_y k_Fits_holding) ∈ sw_ws := sw_m5 104 (by decide +kernel)
theorem ms_Fits_holding : Jvm.Cond.selects (k_y k_Fits_holding).cls (k_y k_Fits_holding) (k_y k_Fits_holding) ∈ sw_ws := sw_memp 41 (by decide +kernel)
def k_Fits_markParts : sw_K := (⟨"SwarmHouse$Fits", "markParts", "()V"⟩, prog_3_method_15_code, 3, none, 1, false)
set_option maxRecDepth 20000 in
theorem mf_Fits_markParts : sw_mf k_Fits_markParts 0 := ⟨sw_m5 109 rfl, sw_m1 9 (by decide +kernel), ⟨by decide +kernel, by decide +kernel⟩, by decide +kernel, by decide +kernel⟩
theorem mi_Fits_markParts : Jvm.Cond.instanceMethod (k_y k_Fits_markParts) ∈ sw_ws := sw_m5 108 (by decide +kernel)
theorem ms_Fits_markParts : Jvm.Cond.selects (k_y k_Fits_markParts).cls (k_y k_Fits_markParts) (k_y k_Fits_markParts) ∈ sw_ws := sw_memp 42 (by decide +kernel)
def k_Fits_knownBits : sw_K := (⟨"SwarmHouse$Fits", "knownBits", "()I"⟩, prog_3_method_14_code, 3, (some .int), 1, false)
set_option maxRecDepth 20000 in
theorem mf_Fits_knownBits : sw_mf k_Fits_knownBits 0 := ⟨sw_m5 113 rfl, sw_m1 9 (by decide +kernel), ⟨by decide +kernel, by decide +kernel⟩, by decide +kernel, by decide +kernel⟩
theorem mi_Fits_knownBits : Jvm.Cond.instanceMethod (k_y k_Fits_knownBits) ∈ sw_ws := sw_m5 112 (by decide +kernel)
theorem ms_Fits_knownBits : Jvm.Cond.selects (k_y k_Fits_knownBits).cls (k_y k_Fits_knownBits) (k_y k_Fits_knownBits) ∈ sw_ws := sw_memp 43 (by decide +kernel)
def k_Int_bitCount : sw_K := (⟨"java/lang/Integer", "bitCount", "(I)I"⟩, prog_15_method_49_code, 1, (some .int), 14, false)
set_option maxRecDepth 20000 in
theorem mf_Int_bitCount : sw_mf k_Int_bitCount 1 := ⟨sw_m5 116 rfl, sw_m1 20 (by decide +kernel), ⟨by decide +kernel, by decide +kernel⟩, by decide +kernel, by decide +kernel⟩
theorem mi_Int_bitCount : Jvm.Cond.static (k_y k_Int_bitCount) ∈ sw_ws := sw_m5 115 (by decide +kernel)
def k_House_models : sw_K := (⟨"SwarmHouse", "models", "(II)I"⟩, prog_1_method_28_code, 3, (some .int), 11, false)
set_option maxRecDepth 20000 in
theorem mf_House_models : sw_mf k_House_models 2 := ⟨sw_m5 123 rfl, sw_m1 1 (by decide +kernel), ⟨by decide +kernel, by decide +kernel⟩, by decide +kernel, by decide +kernel⟩
theorem mi_House_models : Jvm.Cond.instanceMethod (k_y k_House_models) ∈ sw_ws := sw_m5 121 (by decide +kernel)
theorem ms_House_models : Jvm.Cond.selects (k_y k_House_models).cls (k_y k_House_models) (k_y k_House_models) ∈ sw_ws := sw_m5 122 (by decide +kernel)
def k_Models_make : sw_K := (⟨"SwarmHouse$Models", "make", "(I)V"⟩, prog_4_method_2_code, 4, none, 2, false)
set_option maxRecDepth 20000 in
theorem mf_Models_make : sw_mf k_Models_make 1 := ⟨sw_m5 128 rfl, sw_m1 10 (by decide +kernel), ⟨by decide +kernel, by decide +kernel⟩, by decide +kernel, by decide +kernel⟩
theorem mi_Models_make : Jvm.Cond.instanceMethod (k_y k_Models_make) ∈ sw_ws := sw_m5 126 (by decide +kernel)
theorem ms_Models_make : Jvm.Cond.selects (k_y k_Models_make).cls (k_y k_Models_make) (k_y k_Models_make) ∈ sw_ws := sw_m5 127 (by decide +kernel)
def k_Field_massesBy : sw_K := (⟨"SwarmHouse$Field", "massesBy", "(I)I"⟩, prog_2_method_8_code, 2, (some .int), 0, false)
set_option maxRecDepth 20000 in
theorem mf_Field_massesBy : sw_mf k_Field_massesBy 1 := ⟨sw_m5 132 rfl, sw_m1 2 (by decide +kernel), ⟨by decide +kernel, by decide +kernel⟩, by decide +kernel, by decide +kernel⟩
theorem mi_Field_massesBy : Jvm.Cond.instanceMethod (k_y k_Field_massesBy) ∈ sw_ws := sw_m5 130 (by decide +kernel)
theorem ms_Field_massesBy : Jvm.Cond.selects (k_y k_Field_massesBy).cls (k_y k_Field_massesBy) (k_y k_Field_massesBy) ∈ sw_ws := sw_m5 131 (by decide +kernel)
def k_Models_massOf : sw_K := (⟨"SwarmHouse$Models", "massOf", "(I)I"⟩, prog_4_method_4_code, 2, (some .int), 2, false)
set_option maxRecDepth 20000 in
theorem mf_Models_massOf : sw_mf k_Models_massOf 1 := ⟨sw_m5 138 rfl, sw_m1 10 (by decide +kernel), ⟨by decide +kernel, by decide +kernel⟩, by decide +kernel, by decide +kernel⟩
theorem mi_Models_massOf : Jvm.Cond.instanceMethod (k_y k_Models_massOf) ∈ sw_ws := sw_m5 137 (by decide +kernel)
theorem ms_Models_massOf : Jvm.Cond.selects (k_y k_Models_massOf).cls (k_y k_Models_massOf) (k_y k_Models_massOf) ∈ sw_ws := sw_memp 44 (by decide +kernel)
def k_Models_tell : sw_K := (⟨"SwarmHouse$Models", "tell", "(I)V"⟩, prog_4_method_3_code, 3, none, 2, false)
set_option maxRecDepth 20000 in
theorem mf_Models_tell : sw_mf k_Models_tell 1 := ⟨sw_m5 144 rfl, sw_m1 10 (by decide +kernel), ⟨by decide +kernel, by decide +kernel⟩, by decide +kernel, by decide +kernel⟩
theorem mi_Models_tell : Jvm.Cond.instanceMethod (k_y k_Models_tell) ∈ sw_ws := sw_m5 143 (by decide +kernel)
theorem ms_Models_tell : Jvm.Cond.selects (k_y k_Models_tell).cls (k_y k_Models_tell) (k_y k_Models_tell) ∈ sw_ws := sw_memp 45 (by decide +kernel)
def k_Models_findTwins : sw_K := (⟨"SwarmHouse$Models", "findTwins", "()V"⟩, prog_4_method_10_code, 3, none, 2, false)
set_option maxRecDepth 20000 in
theorem mf_Models_findTwins : sw_mf k_Models_findTwins 0 := ⟨sw_m5 149 rfl, sw_m1 10 (by decide +kernel), ⟨by decide +kernel, by decide +kernel⟩, by decide +kernel, by decide +kernel⟩
theorem mi_Models_findTwins : Jvm.Cond.instanceMethod (k_y k_Models_findTwins) ∈ sw_ws := sw_m5 148 (by decide +kernel)
theorem ms_Models_findTwins : Jvm.Cond.selects (k_y k_Models_findTwins).cls (k_y k_Models_findTwins) (k_y k_Models_findTwins) ∈ sw_ws := sw_memp 46 (by decide +kernel)
def k_Models_isKept : sw_K := (⟨"SwarmHouse$Models", "isKept", "(I)Z"⟩, prog_4_method_5_code, 2, (some .boolean), 2, false)
set_option maxRecDepth 20000 in
theorem mf_Models_isKept : sw_mf k_Models_isKept 1 := ⟨sw_m5 153 rfl, sw_m1 10 (by decide +kernel), ⟨by decide +kernel, by decide +kernel⟩, by decide +kernel, by decide +kernel⟩
theorem mi_Models_isKept : Jvm.Cond.instanceMethod (k_y k_Models_isKept) ∈ sw_ws := sw_m5 152 (by decide +kernel)
theorem ms_Models_isKept : Jvm.Cond.selects (k_y k_Models_isKept).cls (k_y k_Models_isKept) (k_y k_Models_isKept) ∈ sw_ws := sw_memp 47 (by decide +kernel)
def k_Models_seenAlike : sw_K := (⟨"SwarmHouse$Models", "seenAlike", "(II)Z"⟩, prog_4_method_11_code, 5, (some .boolean), 2, false)
set_option maxRecDepth 20000 in
theorem mf_Models_seenAlike : sw_mf k_Models_seenAlike 2 := ⟨sw_m5 157 rfl, sw_m1 10 (by decide +kernel), ⟨by decide +kernel, by decide +kernel⟩, by decide +kernel, by decide +kernel⟩
theorem mi_Models_seenAlike : Jvm.Cond.instanceMethod (k_y k_Models_seenAlike) ∈ sw_ws := sw_m5 156 (by decide +kernel)
theorem ms_Models_seenAlike : Jvm.Cond.selects (k_y k_Models_seenAlike).cls (k_y k_Models_seenAlike) (k_y k_Models_seenAlike) ∈ sw_ws := sw_memp 48 (by decide +kernel)
def k_Models_leastMass : sw_K := (⟨"SwarmHouse$Models", "leastMass", "()I"⟩, prog_4_method_6_code, 2, (some .int), 2, false)
set_option maxRecDepth 20000 in
theorem mf_Models_leastMass : sw_mf k_Models_leastMass 0 := ⟨sw_m5 162 rfl, sw_m1 10 (by decide +kernel), ⟨by decide +kernel, by decide +kernel⟩, by decide +kernel, by decide +kernel⟩
theorem mi_Models_leastMass : Jvm.Cond.instanceMethod (k_y k_Models_leastMass) ∈ sw_ws := sw_m5 160 (by decide +kernel)
theorem ms_Models_leastMass : Jvm.Cond.selects (k_y k_Models_leastMass).cls (k_y k_Models_leastMass) (k_y k_Models_leastMass) ∈ sw_ws := sw_m5 161 (by decide +kernel)
def k_Models_greatestMass : sw_K := (⟨"SwarmHouse$Models", "greatestMass", "()I"⟩, prog_4_method_7_code, 2, (some .int), 2, false)
set_option maxRecDepth 20000 in
theorem mf_Models_greatestMass : sw_mf k_Models_greatestMass 0 := ⟨sw_m5 166 rfl, sw_m1 10 (by decide +kernel), ⟨by decide +kernel, by decide +kernel⟩, by decide +kernel, by decide +kernel⟩
theorem mi_Models_greatestMass : Jvm.Cond.instanceMethod (k_y k_Models_greatestMass) ∈ sw_ws := sw_m5 164 (by decide +kernel)
theorem ms_Models_greatestMass : Jvm.Cond.selects (k_y k_Models_greatestMass).cls (k_y k_Models_greatestMass) (k_y k_Models_greatestMass) ∈ sw_ws := sw_m5 165 (by decide +kernel)
def k_Models_look : sw_K := (⟨"SwarmHouse$Models", "look", "(I)I"⟩, prog_4_method_8_code, 6, (some .int), 2, false)
set_option maxRecDepth 20000 in
theorem mf_Models_look : sw_mf k_Models_look 1 := ⟨sw_m5 170 rfl, sw_m1 10 (by decide +kernel), ⟨by decide +kernel, by decide +kernel⟩, by decide +kernel, by decide +kernel⟩
theorem mi_Models_look : Jvm.Cond.instanceMethod (k_y k_Models_look) ∈ sw_ws := sw_m5 168 (by decide +kernel)
theorem ms_Models_look : Jvm.Cond.selects (k_y k_Models_look).cls (k_y k_Models_look) (k_y k_Models_look) ∈ sw_ws := sw_m5 169 (by decide +kernel)
def k_Models_mostAlike : sw_K := (⟨"SwarmHouse$Models", "mostAlike", "(I)I"⟩, prog_4_method_9_code, 6, (some .int), 2, false)
set_option maxRecDepth 20000 in
theorem mf_Models_mostAlike : sw_mf k_Models_mostAlike 1 := ⟨sw_m5 175 rfl, sw_m1 10 (by decide +kernel), ⟨by decide +kernel, by decide +kernel⟩, by decide +kernel, by decide +kernel⟩
theorem mi_Models_mostAlike : Jvm.Cond.instanceMethod (k_y k_Models_mostAlike) ∈ sw_ws := sw_m5 174 (by decide +kernel)
theorem ms_Models_mostAlike : Jvm.Cond.selects (k_y k_Models_mostAlike).cls (k_y k_Models_mostAlike) (k_y k_Models_mostAlike) ∈ sw_ws := sw_memp 49 (by decide +kernel)
def k_Models_partingCell : sw_K := (⟨"SwarmHouse$Models", "partingCell", "()I"⟩, prog_4_method_12_code, 2, (some .int), 2, false)
set_option maxRecDepth 20000 in
theorem mf_Models_partingCell : sw_mf k_Models_partingCell 0 := ⟨sw_m5 180 rfl, sw_m1 10 (by decide +kernel), ⟨by decide +kernel, by decide +kernel⟩, by decide +kernel, by decide +kernel⟩
theorem mi_Models_partingCell : Jvm.Cond.instanceMethod (k_y k_Models_partingCell) ∈ sw_ws := sw_m5 178 (by decide +kernel)
theorem ms_Models_partingCell : Jvm.Cond.selects (k_y k_Models_partingCell).cls (k_y k_Models_partingCell) (k_y k_Models_partingCell) ∈ sw_ws := sw_m5 179 (by decide +kernel)
def k_House_stream : sw_K := (⟨"SwarmHouse", "stream", "(IIIIIIIIII)I"⟩, prog_1_method_29_code, 12, (some .int), 11, false)
set_option maxRecDepth 20000 in
theorem mf_House_stream : sw_mf k_House_stream 10 := ⟨sw_m5 184 rfl, sw_m1 1 (by decide +kernel), ⟨by decide +kernel, by decide +kernel⟩, by decide +kernel, by decide +kernel⟩
theorem mi_House_stream : Jvm.Cond.instanceMethod (k_y k_House_stream) ∈ sw_ws := sw_m5 182 (by decide +kernel)
theorem ms_House_stream : Jvm.Cond.selects (k_y k_House_stream).cls (k_y k_House_stream) (k_y k_House_stream) ∈ sw_ws := sw_m5 183 (by decide +kernel)
def k_Stream_begin : sw_K := (⟨"SwarmHouse$Stream", "begin", "(IIII)V"⟩, prog_11_method_2_code, 5, none, 9, false)
set_option maxRecDepth 20000 in
theorem mf_Stream_begin : sw_mf k_Stream_begin 4 := ⟨sw_m5 188 rfl, sw_m1 11 (by decide +kernel), ⟨by decide +kernel, by decide +kernel⟩, by decide +kernel, by decide +kernel⟩
theorem mi_Stream_begin : Jvm.Cond.instanceMethod (k_y k_Stream_begin) ∈ sw_ws := sw_m5 186 (by decide +kernel)
theorem ms_Stream_begin : Jvm.Cond.selects (k_y k_Stream_begin).cls (k_y k_Stream_begin) (k_y k_Stream_begin) ∈ sw_ws := sw_m5 187 (by decide +kernel)
def k_Stream_apart : sw_K := (⟨"SwarmHouse$Stream", "apart", "(IIII)V"⟩, prog_11_method_3_code, 5, none, 9, false)
set_option maxRecDepth 20000 in
theorem mf_Stream_apart : sw_mf k_Stream_apart 4 := ⟨sw_m5 192 rfl, sw_m1 11 (by decide +kernel), ⟨by decide +kernel, by decide +kernel⟩, by decide +kernel, by decide +kernel⟩
theorem mi_Stream_apart : Jvm.Cond.instanceMethod (k_y k_Stream_apart) ∈ sw_ws := sw_m5 190 (by decide +kernel)
theorem ms_Stream_apart : Jvm.Cond.selects (k_y k_Stream_apart).cls (k_y k_Stream_apart) (k_y k_Stream_apart) ∈ sw_ws := sw_m5 191 (by decide +kernel)
def k_Stream_cellBits : sw_K := (⟨"SwarmHouse$Stream", "cellBits", "(LSwarmHouse$Field;LSwarmHouse$Swarm;)J"⟩, prog_11_method_4_code, 8, (some .long), 9, false)
set_option maxRecDepth 20000 in
theorem mf_Stream_cellBits : sw_mf k_Stream_cellBits 2 := ⟨sw_m5 196 rfl, sw_m1 11 (by decide +kernel), ⟨by decide +kernel, by decide +kernel⟩, by decide +kernel, by decide +kernel⟩
theorem mi_Stream_cellBits : Jvm.Cond.instanceMethod (k_y k_Stream_cellBits) ∈ sw_ws := sw_m5 194 (by decide +kernel)
theorem ms_Stream_cellBits : Jvm.Cond.selects (k_y k_Stream_cellBits).cls (k_y k_Stream_cellBits) (k_y k_Stream_cellBits) ∈ sw_ws := sw_m5 195 (by decide +kernel)
def k_Lng_bitCount : sw_K := (⟨"java/lang/Long", "bitCount", "(J)I"⟩, prog_16_method_50_code, 2, (some .int), 15, false)
set_option maxRecDepth 20000 in
theorem mf_Lng_bitCount : sw_mf k_Lng_bitCount 1 := ⟨sw_m5 202 rfl, sw_m1 21 (by decide +kernel), ⟨by decide +kernel, by decide +kernel⟩, by decide +kernel, by decide +kernel⟩
theorem mi_Lng_bitCount : Jvm.Cond.static (k_y k_Lng_bitCount) ∈ sw_ws := sw_m5 201 (by decide +kernel)
def k_House_trail : sw_K := (⟨"SwarmHouse", "trail", "()J"⟩, prog_1_method_30_code, 1, (some .long), 11, false)
set_option maxRecDepth 20000 in
theorem mf_House_trail : sw_mf k_House_trail 0 := ⟨sw_m5 209 rfl, sw_m1 1 (by decide +kernel), ⟨by decide +kernel, by decide +kernel⟩, by decide +kernel, by decide +kernel⟩
theorem mi_House_trail : Jvm.Cond.instanceMethod (k_y k_House_trail) ∈ sw_ws := sw_m5 207 (by decide +kernel)
theorem ms_House_trail : Jvm.Cond.selects (k_y k_House_trail).cls (k_y k_House_trail) (k_y k_House_trail) ∈ sw_ws := sw_m5 208 (by decide +kernel)
def k_House_bent : sw_K := (⟨"SwarmHouse", "bent", "(IJ)I"⟩, prog_1_method_31_code, 10, (some .int), 11, false)
set_option maxRecDepth 20000 in
theorem mf_House_bent : sw_mf k_House_bent 2 := ⟨sw_m5 213 rfl, sw_m1 1 (by decide +kernel), ⟨by decide +kernel, by decide +kernel⟩, by decide +kernel, by decide +kernel⟩
theorem mi_House_bent : Jvm.Cond.instanceMethod (k_y k_House_bent) ∈ sw_ws := sw_m5 211 (by decide +kernel)
theorem ms_House_bent : Jvm.Cond.selects (k_y k_House_bent).cls (k_y k_House_bent) (k_y k_House_bent) ∈ sw_ws := sw_m5 212 (by decide +kernel)
def k_House_count : sw_K := (⟨"SwarmHouse", "count", "(I)I"⟩, prog_1_method_32_code, 2, (some .int), 11, false)
set_option maxRecDepth 20000 in
theorem mf_House_count : sw_mf k_House_count 1 := ⟨sw_m5 218 rfl, sw_m1 1 (by decide +kernel), ⟨by decide +kernel, by decide +kernel⟩, by decide +kernel, by decide +kernel⟩
theorem mi_House_count : Jvm.Cond.instanceMethod (k_y k_House_count) ∈ sw_ws := sw_m5 216 (by decide +kernel)
theorem ms_House_count : Jvm.Cond.selects (k_y k_House_count).cls (k_y k_House_count) (k_y k_House_count) ∈ sw_ws := sw_m5 217 (by decide +kernel)
def k_Model_init : sw_K := (⟨"SwarmHouseModel", "<init>", "()V"⟩, prog_14_method_1_code, 1, none, 12, true)
set_option maxRecDepth 20000 in
theorem mf_Model_init : sw_mf k_Model_init 0 := ⟨sw_m5 223 rfl, sw_m1 12 (by decide +kernel), ⟨by decide +kernel, by decide +kernel⟩, by decide +kernel, by decide +kernel⟩
theorem mi_Model_init : Jvm.Cond.instanceMethod (k_y k_Model_init) ∈ sw_ws := sw_m5 222 (by decide +kernel)
def k_Model_feed : sw_K := (⟨"SwarmHouseModel", "feed", "(IIIII)I"⟩, prog_14_method_3_code, 8, (some .int), 12, false)
set_option maxRecDepth 20000 in
theorem mf_Model_feed : sw_mf k_Model_feed 5 := ⟨sw_m7 22 rfl, sw_m1 12 (by decide +kernel), ⟨by decide +kernel, by decide +kernel⟩, by decide +kernel, by decide +kernel⟩
theorem mi_Model_feed : Jvm.Cond.instanceMethod (k_y k_Model_feed) ∈ sw_ws := sw_m7 20 (by decide +kernel)
theorem ms_Model_feed : Jvm.Cond.selects (k_y k_Model_feed).cls (k_y k_Model_feed) (k_y k_Model_feed) ∈ sw_ws := sw_m7 21 (by decide +kernel)
def k_Model_field : sw_K := (⟨"SwarmHouseModel", "field", "(I)I"⟩, prog_14_method_24_code, 3, (some .int), 12, false)
set_option maxRecDepth 20000 in
theorem mf_Model_field : sw_mf k_Model_field 1 := ⟨sw_m7 26 rfl, sw_m1 12 (by decide +kernel), ⟨by decide +kernel, by decide +kernel⟩, by decide +kernel, by decide +kernel⟩
theorem mi_Model_field : Jvm.Cond.instanceMethod (k_y k_Model_field) ∈ sw_ws := sw_m7 24 (by decide +kernel)
theorem ms_Model_field : Jvm.Cond.selects (k_y k_Model_field).cls (k_y k_Model_field) (k_y k_Model_field) ∈ sw_ws := sw_m7 25 (by decide +kernel)
def k_Model_next : sw_K := (⟨"SwarmHouseModel", "next", "()V"⟩, prog_14_method_7_code, 2, none, 12, false)
set_option maxRecDepth 20000 in
theorem mf_Model_next : sw_mf k_Model_next 0 := ⟨sw_m7 30 rfl, sw_m1 12 (by decide +kernel), ⟨by decide +kernel, by decide +kernel⟩, by decide +kernel, by decide +kernel⟩
theorem mi_Model_next : Jvm.Cond.instanceMethod (k_y k_Model_next) ∈ sw_ws := sw_m7 29 (by decide +kernel)
theorem ms_Model_next : Jvm.Cond.selects (k_y k_Model_next).cls (k_y k_Model_next) (k_y k_Model_next) ∈ sw_ws := sw_memp 50 (by decide +kernel)
def k_Model_here : sw_K := (⟨"SwarmHouseModel", "here", "()I"⟩, prog_14_method_4_code, 1, (some .int), 12, false)
set_option maxRecDepth 20000 in
theorem mf_Model_here : sw_mf k_Model_here 0 := ⟨sw_m7 34 rfl, sw_m1 12 (by decide +kernel), ⟨by decide +kernel, by decide +kernel⟩, by decide +kernel, by decide +kernel⟩
theorem mi_Model_here : Jvm.Cond.instanceMethod (k_y k_Model_here) ∈ sw_ws := sw_m7 33 (by decide +kernel)
theorem ms_Model_here : Jvm.Cond.selects (k_y k_Model_here).cls (k_y k_Model_here) (k_y k_Model_here) ∈ sw_ws := sw_memp 51 (by decide +kernel)
def k_Model_isSmall : sw_K := (⟨"SwarmHouseModel", "isSmall", "(I)Z"⟩, prog_14_method_5_code, 1, (some .boolean), 12, false)
set_option maxRecDepth 20000 in
theorem mf_Model_isSmall : sw_mf k_Model_isSmall 1 := ⟨sw_m7 37 rfl, sw_m1 12 (by decide +kernel), ⟨by decide +kernel, by decide +kernel⟩, by decide +kernel, by decide +kernel⟩
theorem mi_Model_isSmall : Jvm.Cond.static (k_y k_Model_isSmall) ∈ sw_ws := sw_m7 36 (by decide +kernel)
def k_Model_word : sw_K := (⟨"SwarmHouseModel", "word", "()I"⟩, prog_14_method_8_code, 4, (some .int), 12, false)
set_option maxRecDepth 20000 in
theorem mf_Model_word : sw_mf k_Model_word 0 := ⟨sw_m7 41 rfl, sw_m1 12 (by decide +kernel), ⟨by decide +kernel, by decide +kernel⟩, by decide +kernel, by decide +kernel⟩
theorem mi_Model_word : Jvm.Cond.instanceMethod (k_y k_Model_word) ∈ sw_ws := sw_m7 40 (by decide +kernel)
theorem ms_Model_word : Jvm.Cond.selects (k_y k_Model_word).cls (k_y k_Model_word) (k_y k_Model_word) ∈ sw_ws := sw_memp 52 (by decide +kernel)
def k_Model_isDigit : sw_K := (⟨"SwarmHouseModel", "isDigit", "(I)Z"⟩, prog_14_method_6_code, 1, (some .boolean), 12, false)
set_option maxRecDepth 20000 in
theorem mf_Model_isDigit : sw_mf k_Model_isDigit 1 := ⟨sw_m7 47 rfl, sw_m1 12 (by decide +kernel), ⟨by decide +kernel, by decide +kernel⟩, by decide +kernel, by decide +kernel⟩
theorem mi_Model_isDigit : Jvm.Cond.static (k_y k_Model_isDigit) ∈ sw_ws := sw_m7 46 (by decide +kernel)
def k_Model_line : sw_K := (⟨"SwarmHouseModel", "line", "()V"⟩, prog_14_method_13_code, 2, none, 12, false)
set_option maxRecDepth 20000 in
theorem mf_Model_line : sw_mf k_Model_line 0 := ⟨sw_m7 52 rfl, sw_m1 12 (by decide +kernel), ⟨by decide +kernel, by decide +kernel⟩, by decide +kernel, by decide +kernel⟩
theorem mi_Model_line : Jvm.Cond.instanceMethod (k_y k_Model_line) ∈ sw_ws := sw_m7 51 (by decide +kernel)
theorem ms_Model_line : Jvm.Cond.selects (k_y k_Model_line).cls (k_y k_Model_line) (k_y k_Model_line) ∈ sw_ws := sw_memp 53 (by decide +kernel)
def k_Model_wrong : sw_K := (⟨"SwarmHouseModel", "wrong", "(I)V"⟩, prog_14_method_9_code, 2, none, 12, false)
set_option maxRecDepth 20000 in
theorem mf_Model_wrong : sw_mf k_Model_wrong 1 := ⟨sw_m7 56 rfl, sw_m1 12 (by decide +kernel), ⟨by decide +kernel, by decide +kernel⟩, by decide +kernel, by decide +kernel⟩
theorem mi_Model_wrong : Jvm.Cond.instanceMethod (k_y k_Model_wrong) ∈ sw_ws := sw_m7 55 (by decide +kernel)
theorem ms_Model_wrong : Jvm.Cond.selects (k_y k_Model_wrong).cls (k_y k_Model_wrong) (k_y k_Model_wrong) ∈ sw_ws := sw_memp 54 (by decide +kernel)
def k_Model_expression : sw_K := (⟨"SwarmHouseModel", "expression", "()V"⟩, prog_14_method_21_code, 4, none, 12, false)
set_option maxRecDepth 20000 in
theorem mf_Model_expression : sw_mf k_Model_expression 0 := ⟨sw_m7 60 rfl, sw_m1 12 (by decide +kernel), ⟨by decide +kernel, by decide +kernel⟩, by decide +kernel, by decide +kernel⟩
theorem mi_Model_expression : Jvm.Cond.instanceMethod (k_y k_Model_expression) ∈ sw_ws := sw_m7 59 (by decide +kernel)
theorem ms_Model_expression : Jvm.Cond.selects (k_y k_Model_expression).cls (k_y k_Model_expression) (k_y k_Model_expression) ∈ sw_ws := sw_memp 55 (by decide +kernel)
def k_Model_operand : sw_K := (⟨"SwarmHouseModel", "operand", "()Z"⟩, prog_14_method_23_code, 2, (some .boolean), 12, false)
set_option maxRecDepth 20000 in
theorem mf_Model_operand : sw_mf k_Model_operand 0 := ⟨sw_m7 64 rfl, sw_m1 12 (by decide +kernel), ⟨by decide +kernel, by decide +kernel⟩, by decide +kernel, by decide +kernel⟩
theorem mi_Model_operand : Jvm.Cond.instanceMethod (k_y k_Model_operand) ∈ sw_ws := sw_m7 63 (by decide +kernel)
theorem ms_Model_operand : Jvm.Cond.selects (k_y k_Model_operand).cls (k_y k_Model_operand) (k_y k_Model_operand) ∈ sw_ws := sw_memp 56 (by decide +kernel)
def k_Model_knot : sw_K := (⟨"SwarmHouseModel", "knot", "()V"⟩, prog_14_method_16_code, 1, none, 12, false)
set_option maxRecDepth 20000 in
theorem mf_Model_knot : sw_mf k_Model_knot 0 := ⟨sw_m7 68 rfl, sw_m1 12 (by decide +kernel), ⟨by decide +kernel, by decide +kernel⟩, by decide +kernel, by decide +kernel⟩
theorem mi_Model_knot : Jvm.Cond.instanceMethod (k_y k_Model_knot) ∈ sw_ws := sw_m7 67 (by decide +kernel)
theorem ms_Model_knot : Jvm.Cond.selects (k_y k_Model_knot).cls (k_y k_Model_knot) (k_y k_Model_knot) ∈ sw_ws := sw_memp 57 (by decide +kernel)
def k_Model_out : sw_K := (⟨"SwarmHouseModel", "out", "(II)V"⟩, prog_14_method_17_code, 3, none, 12, false)
set_option maxRecDepth 20000 in
theorem mf_Model_out : sw_mf k_Model_out 2 := ⟨sw_m7 72 rfl, sw_m1 12 (by decide +kernel), ⟨by decide +kernel, by decide +kernel⟩, by decide +kernel, by decide +kernel⟩
theorem mi_Model_out : Jvm.Cond.instanceMethod (k_y k_Model_out) ∈ sw_ws := sw_m7 71 (by decide +kernel)
theorem ms_Model_out : Jvm.Cond.selects (k_y k_Model_out).cls (k_y k_Model_out) (k_y k_Model_out) ∈ sw_ws := sw_memp 58 (by decide +kernel)
def k_Model_isSign : sw_K := (⟨"SwarmHouseModel", "isSign", "(I)Z"⟩, prog_14_method_10_code, 2, (some .boolean), 12, false)
set_option maxRecDepth 20000 in
theorem mf_Model_isSign : sw_mf k_Model_isSign 1 := ⟨sw_m7 76 rfl, sw_m1 12 (by decide +kernel), ⟨by decide +kernel, by decide +kernel⟩, by decide +kernel, by decide +kernel⟩
theorem mi_Model_isSign : Jvm.Cond.instanceMethod (k_y k_Model_isSign) ∈ sw_ws := sw_m7 75 (by decide +kernel)
theorem ms_Model_isSign : Jvm.Cond.selects (k_y k_Model_isSign).cls (k_y k_Model_isSign) (k_y k_Model_isSign) ∈ sw_ws := sw_memp 59 (by decide +kernel)
def k_Model_waits : sw_K := (⟨"SwarmHouseModel", "waits", "(I)V"⟩, prog_14_method_19_code, 2, none, 12, false)
set_option maxRecDepth 20000 in
theorem mf_Model_waits : sw_mf k_Model_waits 1 := ⟨sw_m7 80 rfl, sw_m1 12 (by decide +kernel), ⟨by decide +kernel, by decide +kernel⟩, by decide +kernel, by decide +kernel⟩
theorem mi_Model_waits : Jvm.Cond.instanceMethod (k_y k_Model_waits) ∈ sw_ws := sw_m7 79 (by decide +kernel)
theorem ms_Model_waits : Jvm.Cond.selects (k_y k_Model_waits).cls (k_y k_Model_waits) (k_y k_Model_waits) ∈ sw_ws := sw_memp 60 (by decide +kernel)
def k_Model_bind : sw_K := (⟨"SwarmHouseModel", "bind", "(I)I"⟩, prog_14_method_15_code, 1, (some .int), 12, false)
set_option maxRecDepth 20000 in
theorem mf_Model_bind : sw_mf k_Model_bind 1 := ⟨sw_m7 83 rfl, sw_m1 12 (by decide +kernel), ⟨by decide +kernel, by decide +kernel⟩, by decide +kernel, by decide +kernel⟩
theorem mi_Model_bind : Jvm.Cond.static (k_y k_Model_bind) ∈ sw_ws := sw_m7 82 (by decide +kernel)
def k_Model_between : sw_K := (⟨"SwarmHouseModel", "between", "()I"⟩, prog_14_method_20_code, 1, (some .int), 12, false)
set_option maxRecDepth 20000 in
theorem mf_Model_between : sw_mf k_Model_between 0 := ⟨sw_m7 87 rfl, sw_m1 12 (by decide +kernel), ⟨by decide +kernel, by decide +kernel⟩, by decide +kernel, by decide +kernel⟩
theorem mi_Model_between : Jvm.Cond.instanceMethod (k_y k_Model_between) ∈ sw_ws := sw_m7 86 (by decide +kernel)
theorem ms_Model_between : Jvm.Cond.selects (k_y k_Model_between).cls (k_y k_Model_between) (k_y k_Model_between) ∈ sw_ws := sw_memp 61 (by decide +kernel)
def k_Model_sign : sw_K := (⟨"SwarmHouseModel", "sign", "(I)V"⟩, prog_14_method_22_code, 2, none, 12, false)
set_option maxRecDepth 20000 in
theorem mf_Model_sign : sw_mf k_Model_sign 1 := ⟨sw_m7 91 rfl, sw_m1 12 (by decide +kernel), ⟨by decide +kernel, by decide +kernel⟩, by decide +kernel, by decide +kernel⟩
theorem mi_Model_sign : Jvm.Cond.instanceMethod (k_y k_Model_sign) ∈ sw_ws := sw_m7 90 (by decide +kernel)
theorem ms_Model_sign : Jvm.Cond.selects (k_y k_Model_sign).cls (k_y k_Model_sign) (k_y k_Model_sign) ∈ sw_ws := sw_memp 62 (by decide +kernel)
def k_Model_pour : sw_K := (⟨"SwarmHouseModel", "pour", "(I)V"⟩, prog_14_method_18_code, 2, none, 12, false)
set_option maxRecDepth 20000 in
theorem mf_Model_pour : sw_mf k_Model_pour 1 := ⟨sw_m7 95 rfl, sw_m1 12 (by decide +kernel), ⟨by decide +kernel, by decide +kernel⟩, by decide +kernel, by decide +kernel⟩
theorem mi_Model_pour : Jvm.Cond.instanceMethod (k_y k_Model_pour) ∈ sw_ws := sw_m7 94 (by decide +kernel)
theorem ms_Model_pour : Jvm.Cond.selects (k_y k_Model_pour).cls (k_y k_Model_pour) (k_y k_Model_pour) ∈ sw_ws := sw_memp 63 (by decide +kernel)
def k_Model_part : sw_K := (⟨"SwarmHouseModel", "part", "(I)V"⟩, prog_14_method_14_code, 3, none, 12, false)
set_option maxRecDepth 20000 in
theorem mf_Model_part : sw_mf k_Model_part 1 := ⟨sw_m7 99 rfl, sw_m1 12 (by decide +kernel), ⟨by decide +kernel, by decide +kernel⟩, by decide +kernel, by decide +kernel⟩
theorem mi_Model_part : Jvm.Cond.instanceMethod (k_y k_Model_part) ∈ sw_ws := sw_m7 98 (by decide +kernel)
theorem ms_Model_part : Jvm.Cond.selects (k_y k_Model_part).cls (k_y k_Model_part) (k_y k_Model_part) ∈ sw_ws := sw_memp 64 (by decide +kernel)
def k_Model_signed : sw_K := (⟨"SwarmHouseModel", "signed", "(I)I"⟩, prog_14_method_12_code, 4, (some .int), 12, false)
set_option maxRecDepth 20000 in
theorem mf_Model_signed : sw_mf k_Model_signed 1 := ⟨sw_m7 103 rfl, sw_m1 12 (by decide +kernel), ⟨by decide +kernel, by decide +kernel⟩, by decide +kernel, by decide +kernel⟩
theorem mi_Model_signed : Jvm.Cond.instanceMethod (k_y k_Model_signed) ∈ sw_ws := sw_m7 102 (by decide +kernel)
theorem ms_Model_signed : Jvm.Cond.selects (k_y k_Model_signed).cls (k_y k_Model_signed) (k_y k_Model_signed) ∈ sw_ws := sw_memp 65 (by decide +kernel)
def k_Model_number : sw_K := (⟨"SwarmHouseModel", "number", "(II)I"⟩, prog_14_method_11_code, 4, (some .int), 12, false)
set_option maxRecDepth 20000 in
theorem mf_Model_number : sw_mf k_Model_number 2 := ⟨sw_m7 107 rfl, sw_m1 12 (by decide +kernel), ⟨by decide +kernel, by decide +kernel⟩, by decide +kernel, by decide +kernel⟩
theorem mi_Model_number : Jvm.Cond.instanceMethod (k_y k_Model_number) ∈ sw_ws := sw_m7 106 (by decide +kernel)
theorem ms_Model_number : Jvm.Cond.selects (k_y k_Model_number).cls (k_y k_Model_number) (k_y k_Model_number) ∈ sw_ws := sw_memp 66 (by decide +kernel)
def k_Model_fault : sw_K := (⟨"SwarmHouseModel", "fault", "(I)I"⟩, prog_14_method_25_code, 2, (some .int), 12, false)
set_option maxRecDepth 20000 in
theorem mf_Model_fault : sw_mf k_Model_fault 1 := ⟨sw_m7 111 rfl, sw_m1 12 (by decide +kernel), ⟨by decide +kernel, by decide +kernel⟩, by decide +kernel, by decide +kernel⟩
theorem mi_Model_fault : Jvm.Cond.instanceMethod (k_y k_Model_fault) ∈ sw_ws := sw_m7 109 (by decide +kernel)
theorem ms_Model_fault : Jvm.Cond.selects (k_y k_Model_fault).cls (k_y k_Model_fault) (k_y k_Model_fault) ∈ sw_ws := sw_m7 110 (by decide +kernel)
def k_Model_mass : sw_K := (⟨"SwarmHouseModel", "mass", "(I)Z"⟩, prog_14_method_28_code, 2, (some .boolean), 12, false)
set_option maxRecDepth 20000 in
theorem mf_Model_mass : sw_mf k_Model_mass 1 := ⟨sw_m7 115 rfl, sw_m1 12 (by decide +kernel), ⟨by decide +kernel, by decide +kernel⟩, by decide +kernel, by decide +kernel⟩
theorem mi_Model_mass : Jvm.Cond.instanceMethod (k_y k_Model_mass) ∈ sw_ws := sw_m7 113 (by decide +kernel)
theorem ms_Model_mass : Jvm.Cond.selects (k_y k_Model_mass).cls (k_y k_Model_mass) (k_y k_Model_mass) ∈ sw_ws := sw_m7 114 (by decide +kernel)
def k_Model_spanLow : sw_K := (⟨"SwarmHouseModel", "spanLow", "()I"⟩, prog_14_method_26_code, 1, (some .int), 12, false)
set_option maxRecDepth 20000 in
theorem mf_Model_spanLow : sw_mf k_Model_spanLow 0 := ⟨sw_m7 119 rfl, sw_m1 12 (by decide +kernel), ⟨by decide +kernel, by decide +kernel⟩, by decide +kernel, by decide +kernel⟩
theorem mi_Model_spanLow : Jvm.Cond.instanceMethod (k_y k_Model_spanLow) ∈ sw_ws := sw_m7 118 (by decide +kernel)
theorem ms_Model_spanLow : Jvm.Cond.selects (k_y k_Model_spanLow).cls (k_y k_Model_spanLow) (k_y k_Model_spanLow) ∈ sw_ws := sw_memp 67 (by decide +kernel)
def k_Model_spanHigh : sw_K := (⟨"SwarmHouseModel", "spanHigh", "()I"⟩, prog_14_method_27_code, 1, (some .int), 12, false)
set_option maxRecDepth 20000 in
theorem mf_Model_spanHigh : sw_mf k_Model_spanHigh 0 := ⟨sw_m7 123 rfl, sw_m1 12 (by decide +kernel), ⟨by decide +kernel, by decide +kernel⟩, by decide +kernel, by decide +kernel⟩
theorem mi_Model_spanHigh : Jvm.Cond.instanceMethod (k_y k_Model_spanHigh) ∈ sw_ws := sw_m7 122 (by decide +kernel)
theorem ms_Model_spanHigh : Jvm.Cond.selects (k_y k_Model_spanHigh).cls (k_y k_Model_spanHigh) (k_y k_Model_spanHigh) ∈ sw_ws := sw_memp 68 (by decide +kernel)
def k_Model_pull : sw_K := (⟨"SwarmHouseModel", "pull", "(IIII)I"⟩, prog_14_method_33_code, 9, (some .int), 12, false)
set_option maxRecDepth 20000 in
theorem mf_Model_pull : sw_mf k_Model_pull 4 := ⟨sw_m7 127 rfl, sw_m1 12 (by decide +kernel), ⟨by decide +kernel, by decide +kernel⟩, by decide +kernel, by decide +kernel⟩
theorem mi_Model_pull : Jvm.Cond.instanceMethod (k_y k_Model_pull) ∈ sw_ws := sw_m7 125 (by decide +kernel)
theorem ms_Model_pull : Jvm.Cond.selects (k_y k_Model_pull).cls (k_y k_Model_pull) (k_y k_Model_pull) ∈ sw_ws := sw_m7 126 (by decide +kernel)
def k_Model_isWithin : sw_K := (⟨"SwarmHouseModel", "isWithin", "(II)Z"⟩, prog_14_method_32_code, 2, (some .boolean), 12, false)
set_option maxRecDepth 20000 in
theorem mf_Model_isWithin : sw_mf k_Model_isWithin 2 := ⟨sw_m7 130 rfl, sw_m1 12 (by decide +kernel), ⟨by decide +kernel, by decide +kernel⟩, by decide +kernel, by decide +kernel⟩
theorem mi_Model_isWithin : Jvm.Cond.static (k_y k_Model_isWithin) ∈ sw_ws := sw_m7 129 (by decide +kernel)
def k_Model_pulls : sw_K := (⟨"SwarmHouseModel", "pulls", "(JJII)V"⟩, prog_14_method_30_code, 18, none, 12, false)
set_option maxRecDepth 20000 in
theorem mf_Model_pulls : sw_mf k_Model_pulls 4 := ⟨sw_m7 135 rfl, sw_m1 12 (by decide +kernel), ⟨by decide +kernel, by decide +kernel⟩, by decide +kernel, by decide +kernel⟩
theorem mi_Model_pulls : Jvm.Cond.instanceMethod (k_y k_Model_pulls) ∈ sw_ws := sw_m7 134 (by decide +kernel)
theorem ms_Model_pulls : Jvm.Cond.selects (k_y k_Model_pulls).cls (k_y k_Model_pulls) (k_y k_Model_pulls) ∈ sw_ws := sw_memp 69 (by decide +kernel)
def k_Model_root : sw_K := (⟨"SwarmHouseModel", "root", "(J)J"⟩, prog_14_method_29_code, 6, (some .long), 12, false)
set_option maxRecDepth 20000 in
theorem mf_Model_root : sw_mf k_Model_root 1 := ⟨sw_m7 138 rfl, sw_m1 12 (by decide +kernel), ⟨by decide +kernel, by decide +kernel⟩, by decide +kernel, by decide +kernel⟩
theorem mi_Model_root : Jvm.Cond.static (k_y k_Model_root) ∈ sw_ws := sw_m7 137 (by decide +kernel)
def k_Model_flat : sw_K := (⟨"SwarmHouseModel", "flat", "(JJJJI)V"⟩, prog_14_method_31_code, 20, none, 12, false)
set_option maxRecDepth 20000 in
theorem mf_Model_flat : sw_mf k_Model_flat 5 := ⟨sw_m7 143 rfl, sw_m1 12 (by decide +kernel), ⟨by decide +kernel, by decide +kernel⟩, by decide +kernel, by decide +kernel⟩
theorem mi_Model_flat : Jvm.Cond.instanceMethod (k_y k_Model_flat) ∈ sw_ws := sw_m7 142 (by decide +kernel)
theorem ms_Model_flat : Jvm.Cond.selects (k_y k_Model_flat).cls (k_y k_Model_flat) (k_y k_Model_flat) ∈ sw_ws := sw_memp 70 (by decide +kernel)
def k_Model_star : sw_K := (⟨"SwarmHouseModel", "star", "(IIIII)Z"⟩, prog_14_method_36_code, 6, (some .boolean), 12, false)
set_option maxRecDepth 20000 in
theorem mf_Model_star : sw_mf k_Model_star 5 := ⟨sw_m7 150 rfl, sw_m1 12 (by decide +kernel), ⟨by decide +kernel, by decide +kernel⟩, by decide +kernel, by decide +kernel⟩
theorem mi_Model_star : Jvm.Cond.instanceMethod (k_y k_Model_star) ∈ sw_ws := sw_m7 148 (by decide +kernel)
theorem ms_Model_star : Jvm.Cond.selects (k_y k_Model_star).cls (k_y k_Model_star) (k_y k_Model_star) ∈ sw_ws := sw_m7 149 (by decide +kernel)
def k_Model_go : sw_K := (⟨"SwarmHouseModel", "go", "(I)I"⟩, prog_14_method_37_code, 3, (some .int), 12, false)
set_option maxRecDepth 20000 in
theorem mf_Model_go : sw_mf k_Model_go 1 := ⟨sw_m7 154 rfl, sw_m1 12 (by decide +kernel), ⟨by decide +kernel, by decide +kernel⟩, by decide +kernel, by decide +kernel⟩
theorem mi_Model_go : Jvm.Cond.instanceMethod (k_y k_Model_go) ∈ sw_ws := sw_m7 152 (by decide +kernel)
theorem ms_Model_go : Jvm.Cond.selects (k_y k_Model_go).cls (k_y k_Model_go) (k_y k_Model_go) ∈ sw_ws := sw_m7 153 (by decide +kernel)
def k_Model_steps : sw_K := (⟨"SwarmHouseModel", "steps", "(II)V"⟩, prog_14_method_34_code, 3, none, 12, false)
set_option maxRecDepth 20000 in
theorem mf_Model_steps : sw_mf k_Model_steps 2 := ⟨sw_m7 159 rfl, sw_m1 12 (by decide +kernel), ⟨by decide +kernel, by decide +kernel⟩, by decide +kernel, by decide +kernel⟩
theorem mi_Model_steps : Jvm.Cond.instanceMethod (k_y k_Model_steps) ∈ sw_ws := sw_m7 158 (by decide +kernel)
theorem ms_Model_steps : Jvm.Cond.selects (k_y k_Model_steps).cls (k_y k_Model_steps) (k_y k_Model_steps) ∈ sw_ws := sw_memp 71 (by decide +kernel)
def k_Model_isGone : sw_K := (⟨"SwarmHouseModel", "isGone", "()Z"⟩, prog_14_method_35_code, 1, (some .boolean), 12, false)
set_option maxRecDepth 20000 in
theorem mf_Model_isGone : sw_mf k_Model_isGone 0 := ⟨sw_m7 163 rfl, sw_m1 12 (by decide +kernel), ⟨by decide +kernel, by decide +kernel⟩, by decide +kernel, by decide +kernel⟩
theorem mi_Model_isGone : Jvm.Cond.instanceMethod (k_y k_Model_isGone) ∈ sw_ws := sw_m7 162 (by decide +kernel)
theorem ms_Model_isGone : Jvm.Cond.selects (k_y k_Model_isGone).cls (k_y k_Model_isGone) (k_y k_Model_isGone) ∈ sw_ws := sw_memp 72 (by decide +kernel)
def k_Model_starred : sw_K := (⟨"SwarmHouseModel", "starred", "(I)I"⟩, prog_14_method_38_code, 2, (some .int), 12, false)
set_option maxRecDepth 20000 in
theorem mf_Model_starred : sw_mf k_Model_starred 1 := ⟨sw_m7 169 rfl, sw_m1 12 (by decide +kernel), ⟨by decide +kernel, by decide +kernel⟩, by decide +kernel, by decide +kernel⟩
theorem mi_Model_starred : Jvm.Cond.instanceMethod (k_y k_Model_starred) ∈ sw_ws := sw_m7 167 (by decide +kernel)
theorem ms_Model_starred : Jvm.Cond.selects (k_y k_Model_starred).cls (k_y k_Model_starred) (k_y k_Model_starred) ∈ sw_ws := sw_m7 168 (by decide +kernel)
def k_Model_length : sw_K := (⟨"SwarmHouseModel", "length", "(I)Z"⟩, prog_14_method_39_code, 2, (some .boolean), 12, false)
set_option maxRecDepth 20000 in
theorem mf_Model_length : sw_mf k_Model_length 1 := ⟨sw_m7 173 rfl, sw_m1 12 (by decide +kernel), ⟨by decide +kernel, by decide +kernel⟩, by decide +kernel, by decide +kernel⟩
theorem mi_Model_length : Jvm.Cond.instanceMethod (k_y k_Model_length) ∈ sw_ws := sw_m7 171 (by decide +kernel)
theorem ms_Model_length : Jvm.Cond.selects (k_y k_Model_length).cls (k_y k_Model_length) (k_y k_Model_length) ∈ sw_ws := sw_m7 172 (by decide +kernel)
def k_Model_orbit : sw_K := (⟨"SwarmHouseModel", "orbit", "(IIII)I"⟩, prog_14_method_40_code, 5, (some .int), 12, false)
set_option maxRecDepth 20000 in
theorem mf_Model_orbit : sw_mf k_Model_orbit 4 := ⟨sw_m7 177 rfl, sw_m1 12 (by decide +kernel), ⟨by decide +kernel, by decide +kernel⟩, by decide +kernel, by decide +kernel⟩
theorem mi_Model_orbit : Jvm.Cond.instanceMethod (k_y k_Model_orbit) ∈ sw_ws := sw_m7 175 (by decide +kernel)
theorem ms_Model_orbit : Jvm.Cond.selects (k_y k_Model_orbit).cls (k_y k_Model_orbit) (k_y k_Model_orbit) ∈ sw_ws := sw_m7 176 (by decide +kernel)
def k_Model_told : sw_K := (⟨"SwarmHouseModel", "told", "(II)J"⟩, prog_14_method_52_code, 3, (some .long), 12, false)
set_option maxRecDepth 20000 in
theorem mf_Model_told : sw_mf k_Model_told 2 := ⟨sw_m7 181 rfl, sw_m1 12 (by decide +kernel), ⟨by decide +kernel, by decide +kernel⟩, by decide +kernel, by decide +kernel⟩
theorem mi_Model_told : Jvm.Cond.instanceMethod (k_y k_Model_told) ∈ sw_ws := sw_m7 179 (by decide +kernel)
theorem ms_Model_told : Jvm.Cond.selects (k_y k_Model_told).cls (k_y k_Model_told) (k_y k_Model_told) ∈ sw_ws := sw_m7 180 (by decide +kernel)
def k_Model_isOrbit : sw_K := (⟨"SwarmHouseModel", "isOrbit", "(I)Z"⟩, prog_14_method_51_code, 2, (some .boolean), 12, false)
set_option maxRecDepth 20000 in
theorem mf_Model_isOrbit : sw_mf k_Model_isOrbit 1 := ⟨sw_m7 185 rfl, sw_m1 12 (by decide +kernel), ⟨by decide +kernel, by decide +kernel⟩, by decide +kernel, by decide +kernel⟩
theorem mi_Model_isOrbit : Jvm.Cond.instanceMethod (k_y k_Model_isOrbit) ∈ sw_ws := sw_m7 184 (by decide +kernel)
theorem ms_Model_isOrbit : Jvm.Cond.selects (k_y k_Model_isOrbit).cls (k_y k_Model_isOrbit) (k_y k_Model_isOrbit) ∈ sw_ws := sw_memp 73 (by decide +kernel)
def k_Model_goAll : sw_K := (⟨"SwarmHouseModel", "goAll", "(I)V"⟩, prog_14_method_41_code, 4, none, 12, false)
set_option maxRecDepth 20000 in
theorem mf_Model_goAll : sw_mf k_Model_goAll 1 := ⟨sw_m7 190 rfl, sw_m1 12 (by decide +kernel), ⟨by decide +kernel, by decide +kernel⟩, by decide +kernel, by decide +kernel⟩
theorem mi_Model_goAll : Jvm.Cond.instanceMethod (k_y k_Model_goAll) ∈ sw_ws := sw_m7 189 (by decide +kernel)
theorem ms_Model_goAll : Jvm.Cond.selects (k_y k_Model_goAll).cls (k_y k_Model_goAll) (k_y k_Model_goAll) ∈ sw_ws := sw_memp 74 (by decide +kernel)
def k_Model_keep : sw_K := (⟨"SwarmHouseModel", "keep", "(II)V"⟩, prog_14_method_42_code, 3, none, 12, false)
set_option maxRecDepth 20000 in
theorem mf_Model_keep : sw_mf k_Model_keep 2 := ⟨sw_m7 194 rfl, sw_m1 12 (by decide +kernel), ⟨by decide +kernel, by decide +kernel⟩, by decide +kernel, by decide +kernel⟩
theorem mi_Model_keep : Jvm.Cond.instanceMethod (k_y k_Model_keep) ∈ sw_ws := sw_m7 193 (by decide +kernel)
theorem ms_Model_keep : Jvm.Cond.selects (k_y k_Model_keep).cls (k_y k_Model_keep) (k_y k_Model_keep) ∈ sw_ws := sw_memp 75 (by decide +kernel)
def k_Model_tells : sw_K := (⟨"SwarmHouseModel", "tells", "(I)V"⟩, prog_14_method_44_code, 18, none, 12, false)
set_option maxRecDepth 20000 in
theorem mf_Model_tells : sw_mf k_Model_tells 1 := ⟨sw_m7 198 rfl, sw_m1 12 (by decide +kernel), ⟨by decide +kernel, by decide +kernel⟩, by decide +kernel, by decide +kernel⟩
theorem mi_Model_tells : Jvm.Cond.instanceMethod (k_y k_Model_tells) ∈ sw_ws := sw_m7 197 (by decide +kernel)
theorem ms_Model_tells : Jvm.Cond.selects (k_y k_Model_tells).cls (k_y k_Model_tells) (k_y k_Model_tells) ∈ sw_ws := sw_memp 76 (by decide +kernel)
def k_Model_quarter : sw_K := (⟨"SwarmHouseModel", "quarter", "(JJI)I"⟩, prog_14_method_43_code, 5, (some .int), 12, false)
set_option maxRecDepth 20000 in
theorem mf_Model_quarter : sw_mf k_Model_quarter 3 := ⟨sw_m7 201 rfl, sw_m1 12 (by decide +kernel), ⟨by decide +kernel, by decide +kernel⟩, by decide +kernel, by decide +kernel⟩
theorem mi_Model_quarter : Jvm.Cond.static (k_y k_Model_quarter) ∈ sw_ws := sw_m7 200 (by decide +kernel)
def k_Model_isUsed : sw_K := (⟨"SwarmHouseModel", "isUsed", "(I)Z"⟩, prog_14_method_47_code, 4, (some .boolean), 12, false)
set_option maxRecDepth 20000 in
theorem mf_Model_isUsed : sw_mf k_Model_isUsed 1 := ⟨sw_m7 205 rfl, sw_m1 12 (by decide +kernel), ⟨by decide +kernel, by decide +kernel⟩, by decide +kernel, by decide +kernel⟩
theorem mi_Model_isUsed : Jvm.Cond.instanceMethod (k_y k_Model_isUsed) ∈ sw_ws := sw_m7 204 (by decide +kernel)
theorem ms_Model_isUsed : Jvm.Cond.selects (k_y k_Model_isUsed).cls (k_y k_Model_isUsed) (k_y k_Model_isUsed) ∈ sw_ws := sw_memp 77 (by decide +kernel)
def k_Model_does : sw_K := (⟨"SwarmHouseModel", "does", "(I)Z"⟩, prog_14_method_50_code, 6, (some .boolean), 12, false)
set_option maxRecDepth 20000 in
theorem mf_Model_does : sw_mf k_Model_does 1 := ⟨sw_m7 209 rfl, sw_m1 12 (by decide +kernel), ⟨by decide +kernel, by decide +kernel⟩, by decide +kernel, by decide +kernel⟩
theorem mi_Model_does : Jvm.Cond.instanceMethod (k_y k_Model_does) ∈ sw_ws := sw_m7 208 (by decide +kernel)
theorem ms_Model_does : Jvm.Cond.selects (k_y k_Model_does).cls (k_y k_Model_does) (k_y k_Model_does) ∈ sw_ws := sw_memp 78 (by decide +kernel)
def k_Model_is : sw_K := (⟨"SwarmHouseModel", "is", "(Z)J"⟩, prog_14_method_49_code, 1, (some .long), 12, false)
set_option maxRecDepth 20000 in
theorem mf_Model_is : sw_mf k_Model_is 1 := ⟨sw_m7 212 rfl, sw_m1 12 (by decide +kernel), ⟨by decide +kernel, by decide +kernel⟩, by decide +kernel, by decide +kernel⟩
theorem mi_Model_is : Jvm.Cond.static (k_y k_Model_is) ∈ sw_ws := sw_m7 211 (by decide +kernel)
def k_Model_puts : sw_K := (⟨"SwarmHouseModel", "puts", "(J)Z"⟩, prog_14_method_48_code, 3, (some .boolean), 12, false)
set_option maxRecDepth 20000 in
theorem mf_Model_puts : sw_mf k_Model_puts 1 := ⟨sw_m7 216 rfl, sw_m1 12 (by decide +kernel), ⟨by decide +kernel, by decide +kernel⟩, by decide +kernel, by decide +kernel⟩
theorem mi_Model_puts : Jvm.Cond.instanceMethod (k_y k_Model_puts) ∈ sw_ws := sw_m7 215 (by decide +kernel)
theorem ms_Model_puts : Jvm.Cond.selects (k_y k_Model_puts).cls (k_y k_Model_puts) (k_y k_Model_puts) ∈ sw_ws := sw_memp 79 (by decide +kernel)
def k_Model_isBounded : sw_K := (⟨"SwarmHouseModel", "isBounded", "(J)Z"⟩, prog_14_method_46_code, 2, (some .boolean), 12, false)
set_option maxRecDepth 20000 in
theorem mf_Model_isBounded : sw_mf k_Model_isBounded 1 := ⟨sw_m7 219 rfl, sw_m1 12 (by decide +kernel), ⟨by decide +kernel, by decide +kernel⟩, by decide +kernel, by decide +kernel⟩
theorem mi_Model_isBounded : Jvm.Cond.static (k_y k_Model_isBounded) ∈ sw_ws := sw_m7 218 (by decide +kernel)
def k_Model_nameOf : sw_K := (⟨"SwarmHouseModel", "nameOf", "(II)J"⟩, prog_14_method_45_code, 3, (some .long), 12, false)
set_option maxRecDepth 20000 in
theorem mf_Model_nameOf : sw_mf k_Model_nameOf 2 := ⟨sw_m7 226 rfl, sw_m1 12 (by decide +kernel), ⟨by decide +kernel, by decide +kernel⟩, by decide +kernel, by decide +kernel⟩
theorem mi_Model_nameOf : Jvm.Cond.instanceMethod (k_y k_Model_nameOf) ∈ sw_ws := sw_m7 225 (by decide +kernel)
theorem ms_Model_nameOf : Jvm.Cond.selects (k_y k_Model_nameOf).cls (k_y k_Model_nameOf) (k_y k_Model_nameOf) ∈ sw_ws := sw_memp 80 (by decide +kernel)
def k_Model_at : sw_K := (⟨"SwarmHouseModel", "at", "(III)I"⟩, prog_14_method_53_code, 5, (some .int), 12, false)
set_option maxRecDepth 20000 in
theorem mf_Model_at : sw_mf k_Model_at 3 := ⟨sw_m7 230 rfl, sw_m1 12 (by decide +kernel), ⟨by decide +kernel, by decide +kernel⟩, by decide +kernel, by decide +kernel⟩
theorem mi_Model_at : Jvm.Cond.instanceMethod (k_y k_Model_at) ∈ sw_ws := sw_m7 228 (by decide +kernel)
theorem ms_Model_at : Jvm.Cond.selects (k_y k_Model_at).cls (k_y k_Model_at) (k_y k_Model_at) ∈ sw_ws := sw_m7 229 (by decide +kernel)
def k_Model_back : sw_K := (⟨"SwarmHouseModel", "back", "(II)I"⟩, prog_14_method_55_code, 3, (some .int), 12, false)
set_option maxRecDepth 20000 in
theorem mf_Model_back : sw_mf k_Model_back 2 := ⟨sw_m7 234 rfl, sw_m1 12 (by decide +kernel), ⟨by decide +kernel, by decide +kernel⟩, by decide +kernel, by decide +kernel⟩
theorem mi_Model_back : Jvm.Cond.instanceMethod (k_y k_Model_back) ∈ sw_ws := sw_m7 232 (by decide +kernel)
theorem ms_Model_back : Jvm.Cond.selects (k_y k_Model_back).cls (k_y k_Model_back) (k_y k_Model_back) ∈ sw_ws := sw_m7 233 (by decide +kernel)
def k_Model_backOf : sw_K := (⟨"SwarmHouseModel", "backOf", "(II)I"⟩, prog_14_method_54_code, 5, (some .int), 12, false)
set_option maxRecDepth 20000 in
theorem mf_Model_backOf : sw_mf k_Model_backOf 2 := ⟨sw_m7 238 rfl, sw_m1 12 (by decide +kernel), ⟨by decide +kernel, by decide +kernel⟩, by decide +kernel, by decide +kernel⟩
theorem mi_Model_backOf : Jvm.Cond.instanceMethod (k_y k_Model_backOf) ∈ sw_ws := sw_m7 237 (by decide +kernel)
theorem ms_Model_backOf : Jvm.Cond.selects (k_y k_Model_backOf).cls (k_y k_Model_backOf) (k_y k_Model_backOf) ∈ sw_ws := sw_memp 81 (by decide +kernel)
def k_Model_alike : sw_K := (⟨"SwarmHouseModel", "alike", "(II)Z"⟩, prog_14_method_57_code, 3, (some .boolean), 12, false)
set_option maxRecDepth 20000 in
theorem mf_Model_alike : sw_mf k_Model_alike 2 := ⟨sw_m8 2 rfl, sw_m1 12 (by decide +kernel), ⟨by decide +kernel, by decide +kernel⟩, by decide +kernel, by decide +kernel⟩
theorem mi_Model_alike : Jvm.Cond.instanceMethod (k_y k_Model_alike) ∈ sw_ws := sw_m8 0 (by decide +kernel)
theorem ms_Model_alike : Jvm.Cond.selects (k_y k_Model_alike).cls (k_y k_Model_alike) (k_y k_Model_alike) ∈ sw_ws := sw_m8 1 (by decide +kernel)
def k_Model_hasHalf : sw_K := (⟨"SwarmHouseModel", "hasHalf", "(II)Z"⟩, prog_14_method_56_code, 9, (some .boolean), 12, false)
set_option maxRecDepth 20000 in
theorem mf_Model_hasHalf : sw_mf k_Model_hasHalf 2 := ⟨sw_m8 6 rfl, sw_m1 12 (by decide +kernel), ⟨by decide +kernel, by decide +kernel⟩, by decide +kernel, by decide +kernel⟩
theorem mi_Model_hasHalf : Jvm.Cond.instanceMethod (k_y k_Model_hasHalf) ∈ sw_ws := sw_m8 5 (by decide +kernel)
theorem ms_Model_hasHalf : Jvm.Cond.selects (k_y k_Model_hasHalf).cls (k_y k_Model_hasHalf) (k_y k_Model_hasHalf) ∈ sw_ws := sw_memp 82 (by decide +kernel)
def k_Model_tune : sw_K := (⟨"SwarmHouseModel", "tune", "(III)Z"⟩, prog_14_method_58_code, 7, (some .boolean), 12, false)
set_option maxRecDepth 20000 in
theorem mf_Model_tune : sw_mf k_Model_tune 3 := ⟨sw_m8 11 rfl, sw_m1 12 (by decide +kernel), ⟨by decide +kernel, by decide +kernel⟩, by decide +kernel, by decide +kernel⟩
theorem mi_Model_tune : Jvm.Cond.instanceMethod (k_y k_Model_tune) ∈ sw_ws := sw_m8 9 (by decide +kernel)
theorem ms_Model_tune : Jvm.Cond.selects (k_y k_Model_tune).cls (k_y k_Model_tune) (k_y k_Model_tune) ∈ sw_ws := sw_m8 10 (by decide +kernel)
def k_Model_cells : sw_K := (⟨"SwarmHouseModel", "cells", "(II)Z"⟩, prog_14_method_59_code, 3, (some .boolean), 12, false)
set_option maxRecDepth 20000 in
theorem mf_Model_cells : sw_mf k_Model_cells 2 := ⟨sw_m8 15 rfl, sw_m1 12 (by decide +kernel), ⟨by decide +kernel, by decide +kernel⟩, by decide +kernel, by decide +kernel⟩
theorem mi_Model_cells : Jvm.Cond.instanceMethod (k_y k_Model_cells) ∈ sw_ws := sw_m8 13 (by decide +kernel)
theorem ms_Model_cells : Jvm.Cond.selects (k_y k_Model_cells).cls (k_y k_Model_cells) (k_y k_Model_cells) ∈ sw_ws := sw_m8 14 (by decide +kernel)
def k_Model_share : sw_K := (⟨"SwarmHouseModel", "share", "(III)I"⟩, prog_14_method_62_code, 4, (some .int), 12, false)
set_option maxRecDepth 20000 in
theorem mf_Model_share : sw_mf k_Model_share 3 := ⟨sw_m8 19 rfl, sw_m1 12 (by decide +kernel), ⟨by decide +kernel, by decide +kernel⟩, by decide +kernel, by decide +kernel⟩
theorem mi_Model_share : Jvm.Cond.instanceMethod (k_y k_Model_share) ∈ sw_ws := sw_m8 17 (by decide +kernel)
theorem ms_Model_share : Jvm.Cond.selects (k_y k_Model_share).cls (k_y k_Model_share) (k_y k_Model_share) ∈ sw_ws := sw_m8 18 (by decide +kernel)
def k_Model_spread : sw_K := (⟨"SwarmHouseModel", "spread", "(I)V"⟩, prog_14_method_61_code, 5, none, 12, false)
set_option maxRecDepth 20000 in
theorem mf_Model_spread : sw_mf k_Model_spread 1 := ⟨sw_m8 23 rfl, sw_m1 12 (by decide +kernel), ⟨by decide +kernel, by decide +kernel⟩, by decide +kernel, by decide +kernel⟩
theorem mi_Model_spread : Jvm.Cond.instanceMethod (k_y k_Model_spread) ∈ sw_ws := sw_m8 22 (by decide +kernel)
theorem ms_Model_spread : Jvm.Cond.selects (k_y k_Model_spread).cls (k_y k_Model_spread) (k_y k_Model_spread) ∈ sw_ws := sw_memp 83 (by decide +kernel)
def k_Model_cellOf : sw_K := (⟨"SwarmHouseModel", "cellOf", "(JJ)I"⟩, prog_14_method_60_code, 5, (some .int), 12, false)
set_option maxRecDepth 20000 in
theorem mf_Model_cellOf : sw_mf k_Model_cellOf 2 := ⟨sw_m8 27 rfl, sw_m1 12 (by decide +kernel), ⟨by decide +kernel, by decide +kernel⟩, by decide +kernel, by decide +kernel⟩
theorem mi_Model_cellOf : Jvm.Cond.instanceMethod (k_y k_Model_cellOf) ∈ sw_ws := sw_m8 26 (by decide +kernel)
theorem ms_Model_cellOf : Jvm.Cond.selects (k_y k_Model_cellOf).cls (k_y k_Model_cellOf) (k_y k_Model_cellOf) ∈ sw_ws := sw_memp 84 (by decide +kernel)
def k_Model_portions : sw_K := (⟨"SwarmHouseModel", "portions", "(I)Z"⟩, prog_14_method_63_code, 2, (some .boolean), 12, false)
set_option maxRecDepth 20000 in
theorem mf_Model_portions : sw_mf k_Model_portions 1 := ⟨sw_m8 31 rfl, sw_m1 12 (by decide +kernel), ⟨by decide +kernel, by decide +kernel⟩, by decide +kernel, by decide +kernel⟩
theorem mi_Model_portions : Jvm.Cond.instanceMethod (k_y k_Model_portions) ∈ sw_ws := sw_m8 29 (by decide +kernel)
theorem ms_Model_portions : Jvm.Cond.selects (k_y k_Model_portions).cls (k_y k_Model_portions) (k_y k_Model_portions) ∈ sw_ws := sw_m8 30 (by decide +kernel)
def k_Model_sight : sw_K := (⟨"SwarmHouseModel", "sight", "(IIII)I"⟩, prog_14_method_64_code, 7, (some .int), 12, false)
set_option maxRecDepth 20000 in
theorem mf_Model_sight : sw_mf k_Model_sight 4 := ⟨sw_m8 35 rfl, sw_m1 12 (by decide +kernel), ⟨by decide +kernel, by decide +kernel⟩, by decide +kernel, by decide +kernel⟩
theorem mi_Model_sight : Jvm.Cond.instanceMethod (k_y k_Model_sight) ∈ sw_ws := sw_m8 33 (by decide +kernel)
theorem ms_Model_sight : Jvm.Cond.selects (k_y k_Model_sight).cls (k_y k_Model_sight) (k_y k_Model_sight) ∈ sw_ws := sw_m8 34 (by decide +kernel)
def k_Model_strike : sw_K := (⟨"SwarmHouseModel", "strike", "(I)I"⟩, prog_14_method_65_code, 2, (some .int), 12, false)
set_option maxRecDepth 20000 in
theorem mf_Model_strike : sw_mf k_Model_strike 1 := ⟨sw_m8 39 rfl, sw_m1 12 (by decide +kernel), ⟨by decide +kernel, by decide +kernel⟩, by decide +kernel, by decide +kernel⟩
theorem mi_Model_strike : Jvm.Cond.instanceMethod (k_y k_Model_strike) ∈ sw_ws := sw_m8 37 (by decide +kernel)
theorem ms_Model_strike : Jvm.Cond.selects (k_y k_Model_strike).cls (k_y k_Model_strike) (k_y k_Model_strike) ∈ sw_ws := sw_m8 38 (by decide +kernel)
def k_Model_fits : sw_K := (⟨"SwarmHouseModel", "fits", "(I)I"⟩, prog_14_method_75_code, 4, (some .int), 12, false)
set_option maxRecDepth 20000 in
theorem mf_Model_fits : sw_mf k_Model_fits 1 := ⟨sw_m8 43 rfl, sw_m1 12 (by decide +kernel), ⟨by decide +kernel, by decide +kernel⟩, by decide +kernel, by decide +kernel⟩
theorem mi_Model_fits : Jvm.Cond.instanceMethod (k_y k_Model_fits) ∈ sw_ws := sw_m8 41 (by decide +kernel)
theorem ms_Model_fits : Jvm.Cond.selects (k_y k_Model_fits).cls (k_y k_Model_fits) (k_y k_Model_fits) ∈ sw_ws := sw_m8 42 (by decide +kernel)
def k_Model_isKnown : sw_K := (⟨"SwarmHouseModel", "isKnown", "(I)Z"⟩, prog_14_method_66_code, 2, (some .boolean), 12, false)
set_option maxRecDepth 20000 in
theorem mf_Model_isKnown : sw_mf k_Model_isKnown 1 := ⟨sw_m8 47 rfl, sw_m1 12 (by decide +kernel), ⟨by decide +kernel, by decide +kernel⟩, by decide +kernel, by decide +kernel⟩
theorem mi_Model_isKnown : Jvm.Cond.instanceMethod (k_y k_Model_isKnown) ∈ sw_ws := sw_m8 46 (by decide +kernel)
theorem ms_Model_isKnown : Jvm.Cond.selects (k_y k_Model_isKnown).cls (k_y k_Model_isKnown) (k_y k_Model_isKnown) ∈ sw_ws := sw_memp 85 (by decide +kernel)
def k_Model_knows : sw_K := (⟨"SwarmHouseModel", "knows", "(I)V"⟩, prog_14_method_67_code, 3, none, 12, false)
set_option maxRecDepth 20000 in
theorem mf_Model_knows : sw_mf k_Model_knows 1 := ⟨sw_m8 51 rfl, sw_m1 12 (by decide +kernel), ⟨by decide +kernel, by decide +kernel⟩, by decide +kernel, by decide +kernel⟩
theorem mi_Model_knows : Jvm.Cond.instanceMethod (k_y k_Model_knows) ∈ sw_ws := sw_m8 50 (by decide +kernel)
theorem ms_Model_knows : Jvm.Cond.selects (k_y k_Model_knows).cls (k_y k_Model_knows) (k_y k_Model_knows) ∈ sw_ws := sw_memp 86 (by decide +kernel)
def k_Model_toFit : sw_K := (⟨"SwarmHouseModel", "toFit", "(Z)Z"⟩, prog_14_method_74_code, 3, (some .boolean), 12, false)
set_option maxRecDepth 20000 in
theorem mf_Model_toFit : sw_mf k_Model_toFit 1 := ⟨sw_m8 55 rfl, sw_m1 12 (by decide +kernel), ⟨by decide +kernel, by decide +kernel⟩, by decide +kernel, by decide +kernel⟩
theorem mi_Model_toFit : Jvm.Cond.instanceMethod (k_y k_Model_toFit) ∈ sw_ws := sw_m8 54 (by decide +kernel)
theorem ms_Model_toFit : Jvm.Cond.selects (k_y k_Model_toFit).cls (k_y k_Model_toFit) (k_y k_Model_toFit) ∈ sw_ws := sw_memp 87 (by decide +kernel)
def k_Model_firstWeights : sw_K := (⟨"SwarmHouseModel", "firstWeights", "()Z"⟩, prog_14_method_68_code, 2, (some .boolean), 12, false)
set_option maxRecDepth 20000 in
theorem mf_Model_firstWeights : sw_mf k_Model_firstWeights 0 := ⟨sw_m8 59 rfl, sw_m1 12 (by decide +kernel), ⟨by decide +kernel, by decide +kernel⟩, by decide +kernel, by decide +kernel⟩
theorem mi_Model_firstWeights : Jvm.Cond.instanceMethod (k_y k_Model_firstWeights) ∈ sw_ws := sw_m8 58 (by decide +kernel)
theorem ms_Model_firstWeights : Jvm.Cond.selects (k_y k_Model_firstWeights).cls (k_y k_Model_firstWeights) (k_y k_Model_firstWeights) ∈ sw_ws := sw_memp 88 (by decide +kernel)
def k_Model_nextWeights : sw_K := (⟨"SwarmHouseModel", "nextWeights", "()Z"⟩, prog_14_method_69_code, 3, (some .boolean), 12, false)
set_option maxRecDepth 20000 in
theorem mf_Model_nextWeights : sw_mf k_Model_nextWeights 0 := ⟨sw_m8 63 rfl, sw_m1 12 (by decide +kernel), ⟨by decide +kernel, by decide +kernel⟩, by decide +kernel, by decide +kernel⟩
theorem mi_Model_nextWeights : Jvm.Cond.instanceMethod (k_y k_Model_nextWeights) ∈ sw_ws := sw_m8 62 (by decide +kernel)
theorem ms_Model_nextWeights : Jvm.Cond.selects (k_y k_Model_nextWeights).cls (k_y k_Model_nextWeights) (k_y k_Model_nextWeights) ∈ sw_ws := sw_memp 89 (by decide +kernel)
def k_Model_fit : sw_K := (⟨"SwarmHouseModel", "fit", "()Z"⟩, prog_14_method_73_code, 1, (some .boolean), 12, false)
set_option maxRecDepth 20000 in
theorem mf_Model_fit : sw_mf k_Model_fit 0 := ⟨sw_m8 67 rfl, sw_m1 12 (by decide +kernel), ⟨by decide +kernel, by decide +kernel⟩, by decide +kernel, by decide +kernel⟩
theorem mi_Model_fit : Jvm.Cond.instanceMethod (k_y k_Model_fit) ∈ sw_ws := sw_m8 66 (by decide +kernel)
theorem ms_Model_fit : Jvm.Cond.selects (k_y k_Model_fit).cls (k_y k_Model_fit) (k_y k_Model_fit) ∈ sw_ws := sw_memp 90 (by decide +kernel)
def k_Model_holding : sw_K := (⟨"SwarmHouseModel", "holding", "()I"⟩, prog_14_method_72_code, 3, (some .int), 12, false)
set_option maxRecDepth 20000 in
theorem mf_Model_holding : sw_mf k_Model_holding 0 := ⟨sw_m8 71 rfl, sw_m1 12 (by decide +kernel), ⟨by decide +kernel, by decide +kernel⟩, by decide +kernel, by decide +kernel⟩
theorem mi_Model_holding : Jvm.Cond.instanceMethod (k_y k_Model_holding) ∈ sw_ws := sw_m8 70 (by decide +kernel)
theorem ms_Model_holding : Jvm.Cond.selects (k_y k_Model_holding).cls (k_y k_Model_holding) (k_y k_Model_holding) ∈ sw_ws := sw_memp 91 (by decide +kernel)
def k_Model_holds : sw_K := (⟨"SwarmHouseModel", "holds", "(I)Z"⟩, prog_14_method_71_code, 7, (some .boolean), 12, false)
set_option maxRecDepth 20000 in
theorem mf_Model_holds : sw_mf k_Model_holds 1 := ⟨sw_m8 75 rfl, sw_m1 12 (by decide +kernel), ⟨by decide +kernel, by decide +kernel⟩, by decide +kernel, by decide +kernel⟩
theorem mi_Model_holds : Jvm.Cond.instanceMethod (k_y k_Model_holds) ∈ sw_ws := sw_m8 74 (by decide +kernel)
theorem ms_Model_holds : Jvm.Cond.selects (k_y k_Model_holds).cls (k_y k_Model_holds) (k_y k_Model_holds) ∈ sw_ws := sw_memp 92 (by decide +kernel)
def k_Model_lightOf : sw_K := (⟨"SwarmHouseModel", "lightOf", "(I)I"⟩, prog_14_method_70_code, 4, (some .int), 12, false)
set_option maxRecDepth 20000 in
theorem mf_Model_lightOf : sw_mf k_Model_lightOf 1 := ⟨sw_m8 79 rfl, sw_m1 12 (by decide +kernel), ⟨by decide +kernel, by decide +kernel⟩, by decide +kernel, by decide +kernel⟩
theorem mi_Model_lightOf : Jvm.Cond.instanceMethod (k_y k_Model_lightOf) ∈ sw_ws := sw_m8 78 (by decide +kernel)
theorem ms_Model_lightOf : Jvm.Cond.selects (k_y k_Model_lightOf).cls (k_y k_Model_lightOf) (k_y k_Model_lightOf) ∈ sw_ws := sw_memp 93 (by decide +kernel)
def k_Model_weight : sw_K := (⟨"SwarmHouseModel", "weight", "(III)I"⟩, prog_14_method_76_code, 6, (some .int), 12, false)
set_option maxRecDepth 20000 in
theorem mf_Model_weight : sw_mf k_Model_weight 3 := ⟨sw_m8 84 rfl, sw_m1 12 (by decide +kernel), ⟨by decide +kernel, by decide +kernel⟩, by decide +kernel, by decide +kernel⟩
theorem mi_Model_weight : Jvm.Cond.instanceMethod (k_y k_Model_weight) ∈ sw_ws := sw_m8 82 (by decide +kernel)
theorem ms_Model_weight : Jvm.Cond.selects (k_y k_Model_weight).cls (k_y k_Model_weight) (k_y k_Model_weight) ∈ sw_ws := sw_m8 83 (by decide +kernel)
def k_Model_range : sw_K := (⟨"SwarmHouseModel", "range", "(IIIZ)I"⟩, prog_14_method_77_code, 8, (some .int), 12, false)
set_option maxRecDepth 20000 in
theorem mf_Model_range : sw_mf k_Model_range 4 := ⟨sw_m8 88 rfl, sw_m1 12 (by decide +kernel), ⟨by decide +kernel, by decide +kernel⟩, by decide +kernel, by decide +kernel⟩
theorem mi_Model_range : Jvm.Cond.instanceMethod (k_y k_Model_range) ∈ sw_ws := sw_m8 86 (by decide +kernel)
theorem ms_Model_range : Jvm.Cond.selects (k_y k_Model_range).cls (k_y k_Model_range) (k_y k_Model_range) ∈ sw_ws := sw_m8 87 (by decide +kernel)
def k_Model_quarrel : sw_K := (⟨"SwarmHouseModel", "quarrel", "(I)I"⟩, prog_14_method_79_code, 5, (some .int), 12, false)
set_option maxRecDepth 20000 in
theorem mf_Model_quarrel : sw_mf k_Model_quarrel 1 := ⟨sw_m8 94 rfl, sw_m1 12 (by decide +kernel), ⟨by decide +kernel, by decide +kernel⟩, by decide +kernel, by decide +kernel⟩
theorem mi_Model_quarrel : Jvm.Cond.instanceMethod (k_y k_Model_quarrel) ∈ sw_ws := sw_m8 92 (by decide +kernel)
theorem ms_Model_quarrel : Jvm.Cond.selects (k_y k_Model_quarrel).cls (k_y k_Model_quarrel) (k_y k_Model_quarrel) ∈ sw_ws := sw_m8 93 (by decide +kernel)
def k_Model_many : sw_K := (⟨"SwarmHouseModel", "many", "(I)I"⟩, prog_14_method_78_code, 3, (some .int), 12, false)
set_option maxRecDepth 20000 in
theorem mf_Model_many : sw_mf k_Model_many 1 := ⟨sw_m8 97 rfl, sw_m1 12 (by decide +kernel), ⟨by decide +kernel, by decide +kernel⟩, by decide +kernel, by decide +kernel⟩
theorem mi_Model_many : Jvm.Cond.static (k_y k_Model_many) ∈ sw_ws := sw_m8 96 (by decide +kernel)
def k_Model_models : sw_K := (⟨"SwarmHouseModel", "models", "(II)I"⟩, prog_14_method_86_code, 8, (some .int), 12, false)
set_option maxRecDepth 20000 in
theorem mf_Model_models : sw_mf k_Model_models 2 := ⟨sw_m8 101 rfl, sw_m1 12 (by decide +kernel), ⟨by decide +kernel, by decide +kernel⟩, by decide +kernel, by decide +kernel⟩
theorem mi_Model_models : Jvm.Cond.instanceMethod (k_y k_Model_models) ∈ sw_ws := sw_m8 99 (by decide +kernel)
theorem ms_Model_models : Jvm.Cond.selects (k_y k_Model_models).cls (k_y k_Model_models) (k_y k_Model_models) ∈ sw_ws := sw_m8 100 (by decide +kernel)
def k_Model_modelMany : sw_K := (⟨"SwarmHouseModel", "modelMany", "(I)I"⟩, prog_14_method_80_code, 3, (some .int), 12, false)
set_option maxRecDepth 20000 in
theorem mf_Model_modelMany : sw_mf k_Model_modelMany 1 := ⟨sw_m8 105 rfl, sw_m1 12 (by decide +kernel), ⟨by decide +kernel, by decide +kernel⟩, by decide +kernel, by decide +kernel⟩
theorem mi_Model_modelMany : Jvm.Cond.instanceMethod (k_y k_Model_modelMany) ∈ sw_ws := sw_m8 104 (by decide +kernel)
theorem ms_Model_modelMany : Jvm.Cond.selects (k_y k_Model_modelMany).cls (k_y k_Model_modelMany) (k_y k_Model_modelMany) ∈ sw_ws := sw_memp 94 (by decide +kernel)
def k_Model_keptOf : sw_K := (⟨"SwarmHouseModel", "keptOf", "(I)I"⟩, prog_14_method_81_code, 5, (some .int), 12, false)
set_option maxRecDepth 20000 in
theorem mf_Model_keptOf : sw_mf k_Model_keptOf 1 := ⟨sw_m8 109 rfl, sw_m1 12 (by decide +kernel), ⟨by decide +kernel, by decide +kernel⟩, by decide +kernel, by decide +kernel⟩
theorem mi_Model_keptOf : Jvm.Cond.instanceMethod (k_y k_Model_keptOf) ∈ sw_ws := sw_m8 108 (by decide +kernel)
theorem ms_Model_keptOf : Jvm.Cond.selects (k_y k_Model_keptOf).cls (k_y k_Model_keptOf) (k_y k_Model_keptOf) ∈ sw_ws := sw_memp 95 (by decide +kernel)
def k_Model_twinsOf : sw_K := (⟨"SwarmHouseModel", "twinsOf", "(I)I"⟩, prog_14_method_84_code, 4, (some .int), 12, false)
set_option maxRecDepth 20000 in
theorem mf_Model_twinsOf : sw_mf k_Model_twinsOf 1 := ⟨sw_m8 113 rfl, sw_m1 12 (by decide +kernel), ⟨by decide +kernel, by decide +kernel⟩, by decide +kernel, by decide +kernel⟩
theorem mi_Model_twinsOf : Jvm.Cond.instanceMethod (k_y k_Model_twinsOf) ∈ sw_ws := sw_m8 112 (by decide +kernel)
theorem ms_Model_twinsOf : Jvm.Cond.selects (k_y k_Model_twinsOf).cls (k_y k_Model_twinsOf) (k_y k_Model_twinsOf) ∈ sw_ws := sw_memp 96 (by decide +kernel)
def k_Model_areTwins : sw_K := (⟨"SwarmHouseModel", "areTwins", "(II)Z"⟩, prog_14_method_83_code, 5, (some .boolean), 12, false)
set_option maxRecDepth 20000 in
theorem mf_Model_areTwins : sw_mf k_Model_areTwins 2 := ⟨sw_m8 117 rfl, sw_m1 12 (by decide +kernel), ⟨by decide +kernel, by decide +kernel⟩, by decide +kernel, by decide +kernel⟩
theorem mi_Model_areTwins : Jvm.Cond.instanceMethod (k_y k_Model_areTwins) ∈ sw_ws := sw_m8 116 (by decide +kernel)
theorem ms_Model_areTwins : Jvm.Cond.selects (k_y k_Model_areTwins).cls (k_y k_Model_areTwins) (k_y k_Model_areTwins) ∈ sw_ws := sw_memp 97 (by decide +kernel)
def k_Model_lookOf : sw_K := (⟨"SwarmHouseModel", "lookOf", "(I)I"⟩, prog_14_method_82_code, 9, (some .int), 12, false)
set_option maxRecDepth 20000 in
theorem mf_Model_lookOf : sw_mf k_Model_lookOf 1 := ⟨sw_m8 121 rfl, sw_m1 12 (by decide +kernel), ⟨by decide +kernel, by decide +kernel⟩, by decide +kernel, by decide +kernel⟩
theorem mi_Model_lookOf : Jvm.Cond.instanceMethod (k_y k_Model_lookOf) ∈ sw_ws := sw_m8 120 (by decide +kernel)
theorem ms_Model_lookOf : Jvm.Cond.selects (k_y k_Model_lookOf).cls (k_y k_Model_lookOf) (k_y k_Model_lookOf) ∈ sw_ws := sw_memp 98 (by decide +kernel)
def k_Model_parting : sw_K := (⟨"SwarmHouseModel", "parting", "(II)I"⟩, prog_14_method_85_code, 4, (some .int), 12, false)
set_option maxRecDepth 20000 in
theorem mf_Model_parting : sw_mf k_Model_parting 2 := ⟨sw_m8 125 rfl, sw_m1 12 (by decide +kernel), ⟨by decide +kernel, by decide +kernel⟩, by decide +kernel, by decide +kernel⟩
theorem mi_Model_parting : Jvm.Cond.instanceMethod (k_y k_Model_parting) ∈ sw_ws := sw_m8 124 (by decide +kernel)
theorem ms_Model_parting : Jvm.Cond.selects (k_y k_Model_parting).cls (k_y k_Model_parting) (k_y k_Model_parting) ∈ sw_ws := sw_memp 99 (by decide +kernel)
def k_Model_stream : sw_K := (⟨"SwarmHouseModel", "stream", "(IIIIIIIIII)I"⟩, prog_14_method_88_code, 11, (some .int), 12, false)
set_option maxRecDepth 20000 in
theorem mf_Model_stream : sw_mf k_Model_stream 10 := ⟨sw_m8 129 rfl, sw_m1 12 (by decide +kernel), ⟨by decide +kernel, by decide +kernel⟩, by decide +kernel, by decide +kernel⟩
theorem mi_Model_stream : Jvm.Cond.instanceMethod (k_y k_Model_stream) ∈ sw_ws := sw_m8 127 (by decide +kernel)
theorem ms_Model_stream : Jvm.Cond.selects (k_y k_Model_stream).cls (k_y k_Model_stream) (k_y k_Model_stream) ∈ sw_ws := sw_m8 128 (by decide +kernel)
def k_Model_isLine : sw_K := (⟨"SwarmHouseModel", "isLine", "(IIII)Z"⟩, prog_14_method_87_code, 4, (some .boolean), 12, false)
set_option maxRecDepth 20000 in
theorem mf_Model_isLine : sw_mf k_Model_isLine 4 := ⟨sw_m8 132 rfl, sw_m1 12 (by decide +kernel), ⟨by decide +kernel, by decide +kernel⟩, by decide +kernel, by decide +kernel⟩
theorem mi_Model_isLine : Jvm.Cond.static (k_y k_Model_isLine) ∈ sw_ws := sw_m8 131 (by decide +kernel)
def k_Model_trailOf : sw_K := (⟨"SwarmHouseModel", "trailOf", "(I)J"⟩, prog_14_method_90_code, 6, (some .long), 12, false)
set_option maxRecDepth 20000 in
theorem mf_Model_trailOf : sw_mf k_Model_trailOf 1 := ⟨sw_m8 136 rfl, sw_m1 12 (by decide +kernel), ⟨by decide +kernel, by decide +kernel⟩, by decide +kernel, by decide +kernel⟩
theorem mi_Model_trailOf : Jvm.Cond.instanceMethod (k_y k_Model_trailOf) ∈ sw_ws := sw_m8 135 (by decide +kernel)
theorem ms_Model_trailOf : Jvm.Cond.selects (k_y k_Model_trailOf).cls (k_y k_Model_trailOf) (k_y k_Model_trailOf) ∈ sw_ws := sw_memp 100 (by decide +kernel)
def k_Model_unlike : sw_K := (⟨"SwarmHouseModel", "unlike", "(JJ)I"⟩, prog_14_method_91_code, 6, (some .int), 12, false)
set_option maxRecDepth 20000 in
theorem mf_Model_unlike : sw_mf k_Model_unlike 2 := ⟨sw_m8 139 rfl, sw_m1 12 (by decide +kernel), ⟨by decide +kernel, by decide +kernel⟩, by decide +kernel, by decide +kernel⟩
theorem mi_Model_unlike : Jvm.Cond.static (k_y k_Model_unlike) ∈ sw_ws := sw_m8 138 (by decide +kernel)
def k_Model_trail : sw_K := (⟨"SwarmHouseModel", "trail", "()J"⟩, prog_14_method_89_code, 1, (some .long), 12, false)
set_option maxRecDepth 20000 in
theorem mf_Model_trail : sw_mf k_Model_trail 0 := ⟨sw_m8 143 rfl, sw_m1 12 (by decide +kernel), ⟨by decide +kernel, by decide +kernel⟩, by decide +kernel, by decide +kernel⟩
theorem mi_Model_trail : Jvm.Cond.instanceMethod (k_y k_Model_trail) ∈ sw_ws := sw_m8 141 (by decide +kernel)
theorem ms_Model_trail : Jvm.Cond.selects (k_y k_Model_trail).cls (k_y k_Model_trail) (k_y k_Model_trail) ∈ sw_ws := sw_m8 142 (by decide +kernel)
def k_Model_bent : sw_K := (⟨"SwarmHouseModel", "bent", "(IJ)I"⟩, prog_14_method_92_code, 8, (some .int), 12, false)
set_option maxRecDepth 20000 in
theorem mf_Model_bent : sw_mf k_Model_bent 2 := ⟨sw_m8 147 rfl, sw_m1 12 (by decide +kernel), ⟨by decide +kernel, by decide +kernel⟩, by decide +kernel, by decide +kernel⟩
theorem mi_Model_bent : Jvm.Cond.instanceMethod (k_y k_Model_bent) ∈ sw_ws := sw_m8 145 (by decide +kernel)
theorem ms_Model_bent : Jvm.Cond.selects (k_y k_Model_bent).cls (k_y k_Model_bent) (k_y k_Model_bent) ∈ sw_ws := sw_m8 146 (by decide +kernel)
def k_Model_count : sw_K := (⟨"SwarmHouseModel", "count", "(I)I"⟩, prog_14_method_93_code, 2, (some .int), 12, false)
set_option maxRecDepth 20000 in
theorem mf_Model_count : sw_mf k_Model_count 1 := ⟨sw_m8 151 rfl, sw_m1 12 (by decide +kernel), ⟨by decide +kernel, by decide +kernel⟩, by decide +kernel, by decide +kernel⟩
theorem mi_Model_count : Jvm.Cond.instanceMethod (k_y k_Model_count) ∈ sw_ws := sw_m8 149 (by decide +kernel)
theorem ms_Model_count : Jvm.Cond.selects (k_y k_Model_count).cls (k_y k_Model_count) (k_y k_Model_count) ∈ sw_ws := sw_m8 150 (by decide +kernel)
