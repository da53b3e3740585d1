/-! 97za: the rule's reading, pure -/
def bq (v : Nat) : Nat := if v = 42 then 6 else if v = 43 then 5 else if v = 45 then 5 else if v = 47 then 6 else if v = 60 then 4 else if v = 61 then 4 else if v = 62 then 4 else if v = 256 then 4 else if v = 257 then 4 else if v = 258 then 4 else if v = 260 then 3 else if v = 261 then 2 else if v = 262 then 1 else 0
/-- a TOKEN between two, as it waits -/
def oc (c : Nat) : Nat := if c = 26 then 262 else if c = 27 then 261 else mvl c
def ob (c : Nat) : Nat := if (7 ≤ c ∧ c ≤ 16) ∨ c = 26 ∨ c = 27 then bq (oc c) else 0
theorem ob_t : ∀ c, c < 35 → bq (oc c) = ob c ∨ ob c = 0 := by decide +kernel
def oq (c : Nat) : Bool := decide (ob c = 0) || (decide (bq (oc c) = ob c) && (decide (1 ≤ ob c) && (decide (ob c ≤ 6) && (decide (nI (hc (nI (oc c))).toNatClampNeg = nI c) && decide (oc c < 300)))))
theorem oq_t : ∀ c, c < 35 → oq c = true := by decide +kernel
theorem ob_6 (c : Nat) (h : ob c = 6) : c = 9 ∨ c = 10 := by
  unfold ob at h
  by_cases q : (7 ≤ c ∧ c ≤ 16) ∨ c = 26 ∨ c = 27
  · rw [if_pos q] at h
    have : c < 35 := by omega
    have := (show ∀ c, c < 35 → bq (oc c) = 6 → c = 9 ∨ c = 10 ∨ ¬ ((7 ≤ c ∧ c ≤ 16) ∨ c = 26 ∨ c = 27) by decide +kernel) c this h
    omega
  · rw [if_neg q] at h; omega
theorem ob_5 (c : Nat) (h : ob c = 5) : c = 7 ∨ c = 8 := by
  unfold ob at h
  by_cases q : (7 ≤ c ∧ c ≤ 16) ∨ c = 26 ∨ c = 27
  · rw [if_pos q] at h
    have : c < 35 := by omega
    have := (show ∀ c, c < 35 → bq (oc c) = 5 → c = 7 ∨ c = 8 ∨ ¬ ((7 ≤ c ∧ c ≤ 16) ∨ c = 26 ∨ c = 27) by decide +kernel) c this h
    omega
  · rw [if_neg q] at h; omega
theorem ob_4 (c : Nat) : ob c = 4 ↔ 11 ≤ c ∧ c ≤ 16 := by
  constructor
  · intro h
    unfold ob at h
    by_cases q : (7 ≤ c ∧ c ≤ 16) ∨ c = 26 ∨ c = 27
    · rw [if_pos q] at h
      have : c < 35 := by omega
      have := (show ∀ c, c < 35 → bq (oc c) = 4 → (11 ≤ c ∧ c ≤ 16) ∨ ¬ ((7 ≤ c ∧ c ≤ 16) ∨ c = 26 ∨ c = 27) by decide +kernel) c this h
      omega
    · rw [if_neg q] at h; omega
  · rintro ⟨h1, h2⟩
    exact (show ∀ c, c < 35 → 11 ≤ c ∧ c ≤ 16 → ob c = 4 by decide +kernel) c (by omega) ⟨h1, h2⟩
theorem ob_3 (c : Nat) : ¬ ob c = 3 := by
  intro h
  unfold ob at h
  by_cases q : (7 ≤ c ∧ c ≤ 16) ∨ c = 26 ∨ c = 27
  · rw [if_pos q] at h
    have : c < 35 := by omega
    have := (show ∀ c, c < 35 → bq (oc c) = 3 → ¬ ((7 ≤ c ∧ c ≤ 16) ∨ c = 26 ∨ c = 27) by decide +kernel) c this h
    omega
  · rw [if_neg q] at h; omega
theorem ob_2 (c : Nat) (h : ob c = 2) : c = 27 := by
  unfold ob at h
  by_cases q : (7 ≤ c ∧ c ≤ 16) ∨ c = 26 ∨ c = 27
  · rw [if_pos q] at h
    have : c < 35 := by omega
    have := (show ∀ c, c < 35 → bq (oc c) = 2 → c = 27 ∨ ¬ ((7 ≤ c ∧ c ≤ 16) ∨ c = 26 ∨ c = 27) by decide +kernel) c this h
    omega
  · rw [if_neg q] at h; omega
theorem ob_1 (c : Nat) (h : ob c = 1) : c = 26 := by
  unfold ob at h
  by_cases q : (7 ≤ c ∧ c ≤ 16) ∨ c = 26 ∨ c = 27
  · rw [if_pos q] at h
    have : c < 35 := by omega
    have := (show ∀ c, c < 35 → bq (oc c) = 1 → c = 26 ∨ ¬ ((7 ≤ c ∧ c ≤ 16) ∨ c = 26 ∨ c = 27) by decide +kernel) c this h
    omega
  · rw [if_neg q] at h; omega
theorem ob_le (c : Nat) : ob c ≤ 6 := by
  unfold ob
  split
  · rename_i q
    exact (show ∀ c, c < 35 → bq (oc c) ≤ 6 by decide +kernel) c (by omega)
  · omega
theorem sgk_c (c d : Nat) : sgk c d < 35 := by have := sgk_b c d; omega
theorem kk_c (T : Nat → Nat) (n b : Nat) : kk T n b < 35 := by
  unfold kk
  split
  · omega
  · split
    · split <;> omega
    · split
      · omega
      · exact sgk_c _ _
/-- what waits that binds as much as L, or more, is put out -/
def pr (L : Nat) : List Nat → List (Nat × Nat) → List Nat × List (Nat × Nat)
  | [], o => ([], o)
  | v :: P, o => if bq v < L then (v :: P, o) else pr L P ((2, v) :: o)
def op : List Nat → Nat
  | [] => 0
  | v :: P => (if v = 40 then 1 else 0) + op P
def nn : List Nat → Nat
  | [] => 0
  | v :: P => (if v = 40 then 0 else 1) + nn P
def tq : List Nat → Nat
  | [] => 0
  | v :: _ => bq v
theorem pr_0 {L : Nat} {P : List Nat} (h : tq P < L) (o : List (Nat × Nat)) : pr L P o = (P, o) := by
  cases P with
  | nil => rfl
  | cons v P => rw [pr, if_pos (show bq v < L from h)]
theorem pr_1 {L v : Nat} {P : List Nat} (h : L ≤ bq v) (o : List (Nat × Nat)) : pr L (v :: P) o = pr L P ((2, v) :: o) := by
  rw [pr, if_neg (by omega)]
theorem pr_pr {a c : Nat} (h : a ≤ c) : ∀ (P : List Nat) (o : List (Nat × Nat)), pr a (pr c P o).1 (pr c P o).2 = pr a P o
  | [], o => rfl
  | v :: P, o => by
    rw [pr]
    by_cases q : bq v < c
    · rw [if_pos q]
    · rw [if_neg q, pr_pr h P, pr_1 (by omega)]
theorem pr_tq (L : Nat) (hL : 1 ≤ L) : ∀ (P : List Nat) (o : List (Nat × Nat)), tq (pr L P o).1 < L
  | [], o => by show 0 < L; omega
  | v :: P, o => by
    rw [pr]
    by_cases q : bq v < L
    · rw [if_pos q]; exact q
    · rw [if_neg q]; exact pr_tq L hL P _
theorem bq_40 : bq 40 = 0 := rfl
theorem pr_op (L : Nat) (hL : 1 ≤ L) : ∀ (P : List Nat) (o : List (Nat × Nat)), op (pr L P o).1 = op P
  | [], o => rfl
  | v :: P, o => by
    rw [pr]
    by_cases q : bq v < L
    · rw [if_pos q]
    · rw [if_neg q, pr_op L hL P, op]
      have : ¬ v = 40 := by rintro rfl; rw [bq_40] at q; omega
      rw [if_neg this]; omega
theorem pr_nn (L : Nat) (hL : 1 ≤ L) : ∀ (P : List Nat) (o : List (Nat × Nat)), nn (pr L P o).1 + (pr L P o).2.length = nn P + o.length
  | [], o => rfl
  | v :: P, o => by
    rw [pr]
    by_cases q : bq v < L
    · rw [if_pos q]
    · rw [if_neg q, pr_nn L hL P, nn]
      have : ¬ v = 40 := by rintro rfl; rw [bq_40] at q; omega
      rw [if_neg this, List.length_cons]; omega
theorem op_nn : ∀ P : List Nat, P.length = op P + nn P
  | [] => rfl
  | v :: P => by
    rw [List.length_cons, op_nn P, op, nn]
    split <;> omega
/-- what the reading of a rule ends in -/
abbrev RR : Type := (Nat × Nat) ⊕ (Nat × Nat × List (Nat × Nat))
def sy (T : Nat → Nat) (n : Nat) : Nat → Bool → Nat → Nat → List (Nat × Nat) → List Nat → Option RR
  | 0, _, _, _, _, _ => none
  | j + 1, false, b, k, o, P =>
    if kk T n b = 2 then (if 99999 < vm T n b then some (Sum.inl (2, pl T n b)) else if k = 48 then some (Sum.inl (2, pl T n b)) else sy T n j true (nd T n b) (k + 1) ((0, vm T n b) :: o) P)
    else if 29 ≤ kk T n b then (if k = 48 then some (Sum.inl (2, pl T n b)) else sy T n j true (nd T n b) (k + 1) ((1, kk T n b - 29) :: o) P)
    else if kk T n b = 5 then (if op P = 8 then some (Sum.inl (2, pl T n b)) else sy T n j false (nd T n b) k o (40 :: P))
    else if kk T n b = 28 ∧ tq P < 4 then (if k = 48 then some (Sum.inl (2, pl T n b)) else sy T n j false (nd T n b) (k + 1) o (260 :: P))
    else some (Sum.inl (1, pl T n b))
  | j + 1, true, b, k, o, P =>
    if ob (kk T n b) = 0 then
      (if kk T n b = 6 ∧ 0 < op P then sy T n j true (nd T n b) k (pr 1 P o).2 ((pr 1 P o).1.tail)
      else if 0 < op P then some (Sum.inl (1, pl T n b)) else some (Sum.inr (b, k, (pr 1 P o).2)))
    else if ob (kk T n b) = 4 then
      (if tq (pr 5 P o).1 = 4 then some (Sum.inl (1, pl T n b)) else if k = 48 then some (Sum.inl (2, pl T n b)) else sy T n j false (nd T n b) (k + 1) (pr 5 P o).2 (oc (kk T n b) :: (pr 5 P o).1))
    else (if k = 48 then some (Sum.inl (2, pl T n b)) else sy T n j false (nd T n b) (k + 1) (pr (ob (kk T n b)) P o).2 (oc (kk T n b) :: (pr (ob (kk T n b)) P o).1))
/-- how many are left on the pile of a rule -/
def dl : List (Nat × Nat) → Option Nat
  | [] => some 0
  | e :: o => match dl o with
    | none => none
    | some d => if e.1 = 2 then (if e.2 = 260 then (if 1 ≤ d then some d else none) else (if 2 ≤ d then some (d - 1) else none)) else some (d + 1)
def eo (e : Nat × Nat) : Prop := (e.1 = 0 ∧ e.2 ≤ 99999) ∨ (e.1 = 1 ∧ e.2 ≤ 5) ∨ (e.1 = 2 ∧ (e.2 = 260 ∨ ∃ c, c < 35 ∧ ¬ ob c = 0 ∧ e.2 = oc c))
def eos : List (Nat × Nat) → Prop
  | [] => True
  | e :: o => eo e ∧ eos o
def WF (o : List (Nat × Nat)) (d : Nat) : Prop := dl o = some d ∧ eos o
theorem WF_0 {o : List (Nat × Nat)} {d v : Nat} (h : WF o d) (hv : v ≤ 99999) : WF ((0, v) :: o) (d + 1) := by
  refine ⟨?_, Or.inl ⟨rfl, hv⟩, h.2⟩
  rw [dl, h.1]
  rfl
theorem WF_1 {o : List (Nat × Nat)} {d v : Nat} (h : WF o d) (hv : v ≤ 5) : WF ((1, v) :: o) (d + 1) := by
  refine ⟨?_, Or.inr (Or.inl ⟨rfl, hv⟩), h.2⟩
  rw [dl, h.1]
  rfl
theorem WF_n {o : List (Nat × Nat)} {d : Nat} (h : WF o (d + 1)) : WF ((2, 260) :: o) (d + 1) := by
  refine ⟨?_, Or.inr (Or.inr ⟨rfl, Or.inl rfl⟩), h.2⟩
  rw [dl, h.1]
  show (if 1 ≤ d + 1 then some (d + 1) else none) = _
  rw [if_pos (by omega)]
theorem oc_n : ∀ c, c < 35 → ¬ oc c = 260 := by decide +kernel
theorem WF_2 {o : List (Nat × Nat)} {d c : Nat} (h : WF o (d + 1 + 1)) (hc : c < 35) (hb : ¬ ob c = 0) : WF ((2, oc c) :: o) (d + 1) := by
  refine ⟨?_, Or.inr (Or.inr ⟨rfl, Or.inr ⟨c, hc, hb, rfl⟩⟩), h.2⟩
  rw [dl, h.1]
  show (if oc c = 260 then _ else (if 2 ≤ d + 1 + 1 then some (d + 1 + 1 - 1) else none)) = _
  rw [if_neg (oc_n c hc), if_pos (by omega)]
  rfl
