/-! 03: one memory for all cells: ints, longs and references by (cell, place); a reference is a number, 0 is null, a + 1 is the a-th cell made -/
abbrev sw_M : Type := (Nat → Nat → Int32) × (Nat → Nat → Int64) × (Nat → Nat → Nat) × Nat
def rd_I (M : sw_M) (q k : Nat) : Int32 := M.1 q k
def rd_L (M : sw_M) (q k : Nat) : Int64 := M.2.1 q k
def rd_R (M : sw_M) (q k : Nat) : Nat := M.2.2.1 q k
def rd_N (M : sw_M) : Nat := M.2.2.2
def up_2 {α : Type} (f : Nat → Nat → α) (q k : Nat) (v : α) : Nat → Nat → α := fun a j => if a = q then (if j = k then v else f a j) else f a j
def up_0 {α : Type} (f : Nat → Nat → α) (q : Nat) (z : α) : Nat → Nat → α := fun a j => if a = q then z else f a j
def wr_I (M : sw_M) (q k : Nat) (v : Int32) : sw_M := (up_2 M.1 q k v, M.2.1, M.2.2.1, M.2.2.2)
def wr_L (M : sw_M) (q k : Nat) (v : Int64) : sw_M := (M.1, up_2 M.2.1 q k v, M.2.2.1, M.2.2.2)
def wr_R (M : sw_M) (q k : Nat) (v : Nat) : sw_M := (M.1, M.2.1, up_2 M.2.2.1 q k v, M.2.2.2)
def wr_N (M : sw_M) : sw_M := (up_0 M.1 (M.2.2.2 + 1) 0, up_0 M.2.1 (M.2.2.2 + 1) 0, up_0 M.2.2.1 (M.2.2.2 + 1) 0, M.2.2.2 + 1)
theorem up_2_s {α : Type} (f : Nat → Nat → α) (q k : Nat) (v : α) : up_2 f q k v q k = v := by simp [up_2]
theorem up_2_q {α : Type} (f : Nat → Nat → α) {q k a j : Nat} (v : α) (h : a ≠ q) : up_2 f q k v a j = f a j := by simp [up_2, h]
theorem up_2_k {α : Type} (f : Nat → Nat → α) {q k a j : Nat} (v : α) (h : j ≠ k) : up_2 f q k v a j = f a j := by simp [up_2, h]
/-- launch, class numbers and slots, the first cell's address, addresses of what is outside, array classes -/
abbrev sw_G : Type := Launch × va_G × Nat × (Nat → Nat) × (Nat → ClassId)
abbrev g_l (g : sw_G) : Launch := g.1
abbrev g_D (g : sw_G) : va_G := g.2.1
abbrev g_B (g : sw_G) : Nat := g.2.2.1
abbrev g_X (g : sw_G) : Nat → Nat := g.2.2.2.1
abbrev g_A (g : sw_G) : Nat → ClassId := g.2.2.2.2
def sw_tr (g : sw_G) (v : Value) : Value := match v with
  | .ref 0 => .null
  | .ref (a + 1) => .ref (g_B g + a)
  | .retAddr k => .ref (g_X g k)
  | .int x => .int x
  | .long x => .long x
  | .float x => .float x
  | .double x => .double x
  | .null => .null
theorem sw_tr_cat (g : sw_G) (v : Value) : (sw_tr g v).category = v.category := by
  unfold sw_tr
  split <;> rfl
def sw_trl (g : sw_G) (lv : List (Nat × Value)) : List (Nat × Value) := lv.map (fun q => (q.1, sw_tr g q.2))
def sw_pv (M : sw_M) (t q k : Nat) : Value := match t with
  | 1 => .long (rd_L M q k)
  | 2 => .ref (rd_R M q k)
  | _ => .int (rd_I M q k)
def sw_et (kd : Nat) : Nat := match kd with
  | 16 => 1
  | 17 => 2
  | 18 => 2
  | 19 => 2
  | _ => 0
def sw_aty : List FieldType := [.int, .byte, .boolean, .long, .object "SwarmHouse$Orbit", .object "SwarmHouse$Part", .array .int]
def sw_tys (g : sw_G) : List (ClassId × FieldType) := [(g_A g 0, .int), (g_A g 1, .byte), (g_A g 2, .boolean), (g_A g 3, .long), (g_A g 4, .object "SwarmHouse$Orbit"), (g_A g 5, .object "SwarmHouse$Part"), (g_A g 6, .array .int)]
/-- the a-th cell holds what M says -/
def sw_at (g : sw_G) (M : sw_M) (a : Nat) (H : Heap) : Prop := match sw_lay[a]? with
  | none => True
  | some (kd, n) => if kd < 13 then ∃ r : vw_C, sw_cl[kd]? = some r ∧ t_OB (g_B g + a) ((g_D g).1 kd) r.2.2 ((g_D g).2 kd) H (fun k => sw_tr g (sw_pv M (sw_ft kd k) (a + 1) k))
    else H[g_B g + a]? = some (arrV (g_A g (kd - 13)) n (fun j => sw_tr g (sw_pv M (sw_et kd) (a + 1) j)))
def sw_R (g : sw_G) (M : sw_M) (H : Heap) : Prop := H.size = g_B g + rd_N M ∧ rd_N M ≤ sw_lay.length ∧ ∀ a, a < rd_N M → sw_at g M a H
def sw_sh (q : Nat) : Option (Nat × Nat) := match q with
  | 0 => none
  | a + 1 => sw_lay[a]?
def sw_len (q : Nat) : Nat := match sw_sh q with
  | some (_, n) => n
  | none => 0
def sw_ok (M : sw_M) (q kd : Nat) : Bool := match sw_sh q with
  | some (k, _) => Nat.beq k kd && Nat.ble q (rd_N M)
  | none => false
def sw_oka (M : sw_M) (q : Nat) : Bool := match sw_sh q with
  | some (k, _) => Nat.ble 13 k && Nat.ble q (rd_N M)
  | none => false
def sw_ar (M : sw_M) (q kd : Nat) (i : Int32) : Bool := match sw_sh q with
  | some (k, n) => Nat.beq k kd && (Nat.ble q (rd_N M) && decide (¬ (i < 0 ∨ n ≤ i.toNatClampNeg)))
  | none => false
def sw_bz (v : Int32) : Bool := decide (v = 0) || decide (v = 1)
theorem sw_ok_spec {M : sw_M} {q kd : Nat} (h : sw_ok M q kd = true) : ∃ a n, q = a + 1 ∧ sw_lay[a]? = some (kd, n) ∧ a < rd_N M := by
  unfold sw_ok at h
  split at h
  · rename_i k n hs
    simp only [Bool.and_eq_true, Nat.beq_eq_true_eq, Nat.ble_eq] at h
    obtain ⟨h1, h2⟩ := h
    have h1 := Nat.eq_of_beq_eq_true h1
    subst h1
    cases q with
    | zero => cases hs
    | succ a => exact ⟨a, n, rfl, hs, h2⟩
  · cases h
theorem sw_oka_spec {M : sw_M} {q : Nat} (h : sw_oka M q = true) : ∃ a kd n, q = a + 1 ∧ sw_lay[a]? = some (kd, n) ∧ 13 ≤ kd ∧ a < rd_N M := by
  unfold sw_oka at h
  split at h
  · rename_i k n hs
    simp only [Bool.and_eq_true, Nat.ble_eq] at h
    obtain ⟨h1, h2⟩ := h
    cases q with
    | zero => cases hs
    | succ a => exact ⟨a, k, n, rfl, hs, h1, h2⟩
  · cases h
theorem sw_ar_spec {M : sw_M} {q kd : Nat} {i : Int32} (h : sw_ar M q kd i = true) : ∃ a n, q = a + 1 ∧ sw_lay[a]? = some (kd, n) ∧ a < rd_N M ∧ ¬ (i < 0 ∨ n ≤ i.toNatClampNeg) := by
  unfold sw_ar at h
  split at h
  · rename_i k n hs
    simp only [Bool.and_eq_true, Nat.beq_eq_true_eq, Nat.ble_eq, decide_eq_true_eq] at h
    obtain ⟨h1, h2, h3⟩ := h
    have h1 := Nat.eq_of_beq_eq_true h1
    subst h1
    cases q with
    | zero => cases hs
    | succ a => exact ⟨a, n, rfl, hs, h2, h3⟩
  · cases h
theorem sw_R_obj {g : sw_G} {M : sw_M} {H : Heap} {q kd : Nat} (hR : sw_R g M H) (h : sw_ok M q kd = true) (hk : kd < 13) : ∃ a, q = a + 1 ∧ a < rd_N M ∧ ∃ r : vw_C, sw_cl[kd]? = some r ∧ t_OB (g_B g + a) ((g_D g).1 kd) r.2.2 ((g_D g).2 kd) H (fun k => sw_tr g (sw_pv M (sw_ft kd k) (a + 1) k)) := by
  obtain ⟨a, n, e, hl, hn⟩ := sw_ok_spec h
  have h1 := hR.2.2 a hn
  unfold sw_at at h1
  rw [hl] at h1
  simp only [hk, if_true] at h1
  exact ⟨a, e, hn, h1⟩
theorem sw_R_arr {g : sw_G} {M : sw_M} {H : Heap} {a kd n : Nat} (hR : sw_R g M H) (hl : sw_lay[a]? = some (kd, n)) (hn : a < rd_N M) (hk : 13 ≤ kd) : H[g_B g + a]? = some (arrV (g_A g (kd - 13)) n (fun j => sw_tr g (sw_pv M (sw_et kd) (a + 1) j))) := by
  have h1 := hR.2.2 a hn
  unfold sw_at at h1
  rw [hl] at h1
  simp only [show ¬ kd < 13 from Nat.not_lt.mpr hk, if_false] at h1
  exact h1
/-- slots of the first n cells -/
def sw_w (x : Nat × Nat) : Nat := if x.1 < 13 then (match sw_cl[x.1]? with
  | some r => r.2.2
  | none => 0) else x.2
def sw_us (n : Nat) : Nat := ((sw_lay.take n).map sw_w).sum
theorem sw_us_succ {n : Nat} {x : Nat × Nat} (h : sw_lay[n]? = some x) : sw_us (n + 1) = sw_us n + sw_w x := by
  unfold sw_us
  rw [List.take_succ, h]
  simp
theorem sw_us_mono {a b : Nat} (h : a ≤ b) : sw_us a ≤ sw_us b := by
  obtain ⟨d, rfl⟩ := Nat.exists_eq_add_of_le h
  induction d with
  | zero => exact Nat.le_refl _
  | succ d ih =>
    refine Nat.le_trans (ih (Nat.le_add_right a d)) ?_
    show sw_us (a + d) ≤ sw_us (a + d + 1)
    cases hx : sw_lay[a + d]? with
    | none =>
      unfold sw_us
      rw [List.take_succ, hx]
      simp
    | some x =>
      rw [sw_us_succ hx]
      exact Nat.le_add_right _ _
