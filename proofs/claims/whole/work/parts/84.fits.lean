/-! 84: sums over ORBITS and over those that are USED -/
def ls (f : Nat → Int32) (l : List Nat) : Nat → Int32
  | 0 => 0
  | t + 1 => ls f l t + f (l.getD t 0)
theorem ls_app (f : Nat → Int32) (l : List Nat) (x : Nat) : ∀ t, t ≤ l.length → ls f (l ++ [x]) t = ls f l t
  | 0, _ => rfl
  | t + 1, h => by
    rw [ls, ls, ls_app f l x t (by omega), List.getD_eq_getElem?_getD, List.getD_eq_getElem?_getD, List.getElem?_append_left (by omega)]
def allS (f : Nat → Int32) : Nat → Int32
  | 0 => 0
  | k + 1 => allS f k + f k
theorem ls_all (F : FE) (f : Nat → Int32) : ∀ k, (∀ o, o < k → UU F.E F.mass o = false → f o = 0) → ls f (ulT F k) (ulT F k).length = allS f k
  | 0, _ => rfl
  | k + 1, h => by
    have ih := ls_all F f k (fun o ho => h o (by omega))
    rw [ulT_s, allS]
    by_cases c : UU F.E F.mass k = true
    · rw [if_pos c, List.length_append]
      show ls f (ulT F k ++ [k]) ((ulT F k).length + 1) = _
      rw [ls, ls_app f _ k _ (Nat.le_refl _), ih]
      simp
    · rw [if_neg c, ih, h k (by omega) (by simpa using c), Int32.add_zero]
noncomputable def usS (F : FE) (f : Nat → Int32) : Nat → Int32
  | 0 => 0
  | t + 1 => usS F f t + f (uu F t)
theorem usS_ls (F : FE) (f : Nat → Int32) : ∀ t, usS F f t = ls f (ul F) t
  | 0 => rfl
  | t + 1 => by rw [usS, ls, usS_ls F f t]; rfl
theorem usS_all (F : FE) (f : Nat → Int32) (h : ∀ o, o < F.E.no → UU F.E F.mass o = false → f o = 0) : usS F f (nu F) = allS f F.E.no := by
  rw [usS_ls]
  exact ls_all F f F.E.no h
/-- WEIGHTS of ORBITS that are not USED -/
noncomputable def WZ (F : FE) (W : Nat → Int32) : Prop := ∀ o, o < F.E.no → UU F.E F.mass o = false → W o = 0
theorem lgS_all (F : FE) (W : Nat → Int32) (c : Nat) : ∀ k, lgS F W c k = allS (fun o => W o * SH F.E F.mass o c) k
  | 0 => rfl
  | k + 1 => by rw [lgS, allS, lgS_all F W c k]
theorem lig_us (F : FE) (W : Nat → Int32) (hz : WZ F W) (c : Nat) : usS F (fun o => W o * SH F.E F.mass o c) (nu F) = lig F W c := by
  rw [usS_all F _ (fun o ho hu => by rw [hz o ho hu, Int32.zero_mul])]
  exact (lgS_all F W c F.E.no).symm
theorem uu_ex (F : FE) {o : Nat} (ho : o < F.E.no) (hu : UU F.E F.mass o = true) : ∃ i, i < nu F ∧ uu F i = o := by
  have : o ∈ ul F := by
    unfold ul ulT
    rw [List.mem_filter, List.mem_range]
    exact ⟨ho, hu⟩
  obtain ⟨i, hi, e⟩ := List.getElem_of_mem this
  refine ⟨i, hi, ?_⟩
  unfold uu
  rw [List.getD_eq_getElem?_getD, List.getElem?_eq_getElem hi]
  exact e
theorem W_b (F : FE) {W : Nat → Int32} (hK : WK (uu F) (nu F) F.por.toInt W) (hz : WZ F W) (hp : F.por.toInt ≤ 10) {o : Nat} (ho : o < F.E.no) : 0 ≤ (W o).toInt ∧ (W o).toInt ≤ 10 := by
  cases hu : UU F.E F.mass o
  · rw [hz o ho hu]; decide
  · obtain ⟨i, hi, e⟩ := uu_ex F ho hu
    rw [← e]
    have h1 := hK.1 i hi
    have h2 := (smW_le hK.1).2 i hi
    have h3 := hK.2
    omega
theorem nW_z (F : FE) {W V : Nat → Int32} (hz : WZ F W) (h : nW (uu F) (nu F) W = some V) : WZ F V := by
  unfold nW at h
  cases hg : gv (uu F) W (nu F - 1) with
  | none => rw [hg] at h; cases h
  | some g =>
    rw [hg] at h
    have g1 := (gv_s hg).1
    injection h with h
    intro o ho hu
    have ne : ∀ i, i < nu F → ¬ o = uu F i := fun i hi e => by
      have := uu_us F hi
      rw [← e, hu] at this
      cases this
    rw [← h]
    unfold upW
    rw [if_neg (ne _ (by omega)), if_neg (ne _ (by omega)), if_neg (ne _ (by omega))]
    exact hz o ho hu
theorem W0_z (F : FE) (h0 : 0 < nu F) : WZ F (W0 F) := fun o ho hu => by
  unfold W0 upW
  rw [if_neg (fun e => by
    have := uu_us F h0
    rw [← e, hu] at this
    cases this)]
/-- an ORBIT goes through a CELL no faster than that CELLS are wide -/
theorem ga_b {E : EN} (h : EK E) {mass : Int32} (hm : mok mass) {o : Nat} (ho : o < E.no) {c : Nat} (hc : c < 64) : ∀ t, t ≤ DD E mass o → -(40000 * (t : Int)) ≤ (gaF E.g E.r (TT E mass o) c t).toInt ∧ (gaF E.g E.r (TT E mass o) c t).toInt ≤ 40000 * (t : Int)
  | 0, _ => by
    show -(40000 * ((0 : Nat) : Int)) ≤ (0 : Int32).toInt ∧ (0 : Int32).toInt ≤ _
    decide
  | t + 1, ht => by
    have ih := ga_b h hm ho hc t (by omega)
    obtain ⟨w1, w2, w3, w4, w5⟩ := ways h hm ho
    have hL := h.2.2.1
    rw [gaF]
    by_cases e : clP E.g E.r (TT E mass o) (t + 1) = nI c
    · rw [if_pos e]
      have hin : inR E.r (TT E mass o (t + 1)).x.toInt32.toInt64 (TT E mass o (t + 1)).y.toInt32.toInt64 = true := by
        unfold clP celI at e
        by_cases q : inR E.r (TT E mass o (t + 1)).x.toInt32.toInt64 (TT E mass o (t + 1)).y.toInt32.toInt64 = true
        · exact q
        · rw [if_neg q] at e
          exact absurd e (m1_ne hc)
      obtain ⟨f1, f2, f3, f4⟩ := fits4 h hm ho (t + 1) ht
      rw [f1, f2] at hin
      have hb := (inR_b hin).1
      have hr := h.2.2.2.2.2.2
      have hx0 := (w3 t (by omega)).2.1
      obtain ⟨a1, a2, a3, a4, a5⟩ := w2 (t + 1) ht
      have hxe : (TT E mass o (t + 1)).x = (TT E mass o t).x + (TT E mass o (t + 1)).u := rfl
      have hsum := (nB_add hx0 a4 (by omega)).2
      rw [hxe] at hb
      have hu : (TT E mass o (t + 1)).u.toInt32.toInt = (TT E mass o (t + 1)).u.toInt := by
        rw [← t64, f3]
      unfold nB at hx0
      rw [a32 (by omega) (by omega), hu]
      omega
    · rw [if_neg e]
      omega
theorem GO_b {E : EN} (h : EK E) {mass : Int32} (hm : mok mass) {o : Nat} (ho : o < E.no) {c : Nat} (hc : c < 64) : -9600000 ≤ (GO E mass o c).toInt ∧ (GO E mass o c).toInt ≤ 9600000 := by
  have h1 := ga_b h hm ho hc (DD E mass o) (Nat.le_refl _)
  have h2 := (ways h hm ho).1
  have h3 := h.2.2.1
  unfold GO
  omega
/-- goings of all ORBITS: an int has room for them -/
theorem go_room {F : FE} (h : EK F.E) (hm : mok F.mass) {W : Nat → Int32} (hW : ∀ o, o < F.E.no → 0 ≤ (W o).toInt ∧ (W o).toInt ≤ 10) {c : Nat} (hc : c < 64) : ∀ k, k ≤ F.E.no → (allS (fun o => W o * GO F.E F.mass o c) k).toInt = (glS F W c k).toInt ∧ -(96000000 * (k : Int)) ≤ (glS F W c k).toInt ∧ (glS F W c k).toInt ≤ 96000000 * (k : Int)
  | 0, _ => by
    show (0 : Int32).toInt = (0 : Int64).toInt ∧ -(96000000 * ((0 : Nat) : Int)) ≤ (0 : Int64).toInt ∧ (0 : Int64).toInt ≤ _
    decide
  | k + 1, hk => by
    obtain ⟨i1, i2, i3⟩ := go_room h hm hW hc k (by omega)
    have h6 := h.2.2.2.1
    have hw := hW k (by omega)
    have hg := GO_b h hm (show k < F.E.no by omega) hc
    have hmul := mul_b (a := (W k).toInt) (b := (GO F.E F.mass k c).toInt) (A := 10) (B := 9600000) (by omega) (by omega)
    have e1 : (W k * GO F.E F.mass k c).toInt = (W k).toInt * (GO F.E F.mass k c).toInt := m32 (by omega) (by omega)
    have e2 : ((W k).toInt64 * (GO F.E F.mass k c).toInt64).toInt = (W k).toInt * (GO F.E F.mass k c).toInt := by
      rw [m64 (by rw [t64, t64]; omega) (by rw [t64, t64]; omega), t64, t64]
    rw [allS, glS, a32 (by rw [e1]; omega) (by rw [e1]; omega), a64 (by rw [e2]; omega) (by rw [e2]; omega), e1, e2, i1]
    refine ⟨rfl, ?_, ?_⟩ <;> omega
theorem go_us {F : FE} (h : EK F.E) (hm : mok F.mass) {W : Nat → Int32} (hW : ∀ o, o < F.E.no → 0 ≤ (W o).toInt ∧ (W o).toInt ≤ 10) (hz : WZ F W) {c : Nat} (hc : c < 64) : (usS F (fun o => W o * GO F.E F.mass o c) (nu F)).toInt64 = glS F W c F.E.no := by
  rw [usS_all F _ (fun o ho hu => by rw [hz o ho hu, Int32.zero_mul])]
  apply Int64.toInt_inj.mp
  rw [t64]
  exact (go_room h hm hW hc F.E.no (Nat.le_refl _)).1
