/-! 15: branches by what the function says; the texts -/
theorem sw_ite {α : Type} {c : Prop} [Decidable c] {A B : Option α} {r : α} (hf : (if c then A else B) = some r) : (c ∧ A = some r) ∨ (¬ c ∧ B = some r) := by
  by_cases h : c
  · rw [if_pos h] at hf; exact Or.inl ⟨h, hf⟩
  · rw [if_neg h] at hf; exact Or.inr ⟨h, hf⟩
/-- what must hold, ahead of going on -/
def sw_gd {α : Type} (l : List Bool) (A : Option α) : Option α := if l.all id = true then A else none
theorem sw_gd_spec {α : Type} {l : List Bool} {A : Option α} {r : α} (h : sw_gd l A = some r) : l.all id = true ∧ A = some r := by
  unfold sw_gd at h
  split at h
  · rename_i q; exact ⟨q, h⟩
  · cases h
theorem sw_gd_1 {α : Type} {a : Bool} {A : Option α} {r : α} (h : sw_gd [a] A = some r) : a = true ∧ A = some r := by
  obtain ⟨h1, h2⟩ := sw_gd_spec h
  exact ⟨(sw_all_c h1).1, h2⟩
theorem sw_gd_c {α : Type} {a : Bool} {l : List Bool} {A : Option α} {r : α} (h : sw_gd (a :: l) A = some r) : a = true ∧ sw_gd l A = some r := by
  obtain ⟨h1, h2⟩ := sw_gd_spec h
  obtain ⟨h3, h4⟩ := sw_all_c h1
  refine ⟨h3, ?_⟩
  unfold sw_gd
  rw [if_pos h4]
  exact h2
theorem sw_gd_0 {α : Type} {A : Option α} {r : α} (h : sw_gd [] A = some r) : A = some r := h
theorem sw_gd_t {α : Type} {a : Bool} {l : List Bool} {A : Option α} (h : a = true) : sw_gd (a :: l) A = sw_gd l A := by
  subst h
  rfl
theorem sw_gd_n {α : Type} {A : Option α} : sw_gd [] A = A := rfl
theorem sw_a0 : ([] : List Bool).all id = true := rfl
theorem sw_a1 {a : Bool} {l : List Bool} (h : a = true) (hl : l.all id = true) : (a :: l).all id = true := by rw [List.all_cons, hl, h]; rfl
theorem sw_bnd {α β : Type} {A : Option α} {F : α → Option β} {r : β} (h : A.bind F = some r) : ∃ u, A = some u ∧ F u = some r := Option.bind_eq_some_iff.mp h
theorem lc_lt (a b : Int64) : lg_cmp a b < 0 ↔ a < b := by
  unfold lg_cmp
  by_cases h1 : a > b
  · rw [if_pos h1]; exact ⟨fun h => absurd h (by decide), fun h => absurd h (Int64.not_lt.mpr (Int64.le_of_lt h1))⟩
  · rw [if_neg h1]
    by_cases h2 : a = b
    · rw [if_pos h2]; subst h2; exact ⟨fun h => absurd h (by decide), fun h => absurd h Int64.lt_irrefl⟩
    · rw [if_neg h2]; exact ⟨fun _ => Int64.lt_of_le_of_ne (Int64.not_lt.mp h1) h2, fun _ => by decide⟩
theorem lc_gt (a b : Int64) : 0 < lg_cmp a b ↔ b < a := by
  unfold lg_cmp
  by_cases h1 : a > b
  · rw [if_pos h1]; exact ⟨fun _ => h1, fun _ => by decide⟩
  · rw [if_neg h1]
    by_cases h2 : a = b
    · rw [if_pos h2]; subst h2; exact ⟨fun h => absurd h (by decide), fun h => absurd h h1⟩
    · rw [if_neg h2]; exact ⟨fun h => absurd h (by decide), fun h => absurd h h1⟩
theorem lc_eq (a b : Int64) : lg_cmp a b = 0 ↔ a = b := by
  unfold lg_cmp
  by_cases h1 : a > b
  · rw [if_pos h1]; exact ⟨fun h => absurd h (by decide), fun h => by subst h; exact absurd h1 Int64.lt_irrefl⟩
  · rw [if_neg h1]
    by_cases h2 : a = b
    · rw [if_pos h2]; exact ⟨fun _ => h2, fun _ => rfl⟩
    · rw [if_neg h2]; exact ⟨fun h => absurd h (by decide), fun h => absurd h h2⟩
theorem lc_le (a b : Int64) : lg_cmp a b ≤ 0 ↔ a ≤ b := by
  rw [← Int32.not_lt, lc_gt, Int64.not_lt]
theorem lc_ge (a b : Int64) : 0 ≤ lg_cmp a b ↔ b ≤ a := by
  rw [← Int32.not_lt, lc_lt, Int64.not_lt]
section Br
variable {α : Type} {r : α} {A B : Option α} {g : sw_G} {kx : sw_K} {d n0 : Nat} {v : Option Value} {Mz : sw_M} {x : sw_Ct} {pc tgt : Nat} {off : Int} {lv : List (Nat × Value)} {st : List Value} {M : sw_M}
theorem sw_j_eq (hX : sw_Xm g kx d n0 v Mz x) {a b : Int32} (hd : decode (k_c kx) pc = .ok (.if_icmp .eq off, 3)) (ht : (pc : Int) + off = (tgt : Int)) (hf : (if a = b then A else B) = some r) (kt : a = b → A = some r → sw_W g x tgt lv st M) (kf : ¬ a = b → B = some r → sw_W g x (pc + 3) lv st M) : sw_W g x pc lv (.int b :: .int a :: st) M := by
  rcases sw_ite hf with ⟨h1, h2⟩ | ⟨h1, h2⟩
  · exact sw_keep (kt h1 h2) fun _ _ _ h => lv_icmp_eq hX.1.1 hX.1.2.1 hd ht (fun _ => h) (fun q => absurd h1 q)
  · exact sw_keep (kf h1 h2) fun _ _ _ h => lv_icmp_eq hX.1.1 hX.1.2.1 hd ht (fun q => absurd q h1) (fun _ => h)
theorem sw_j_ne (hX : sw_Xm g kx d n0 v Mz x) {a b : Int32} (hd : decode (k_c kx) pc = .ok (.if_icmp .ne off, 3)) (ht : (pc : Int) + off = (tgt : Int)) (hf : (if a = b then B else A) = some r) (kt : ¬ a = b → A = some r → sw_W g x tgt lv st M) (kf : a = b → B = some r → sw_W g x (pc + 3) lv st M) : sw_W g x pc lv (.int b :: .int a :: st) M := by
  rcases sw_ite hf with ⟨h1, h2⟩ | ⟨h1, h2⟩
  · exact sw_keep (kf h1 h2) fun _ _ _ h => lv_icmp_ne hX.1.1 hX.1.2.1 hd ht (fun q => absurd h1 q) (fun _ => h)
  · exact sw_keep (kt h1 h2) fun _ _ _ h => lv_icmp_ne hX.1.1 hX.1.2.1 hd ht (fun _ => h) (fun q => absurd q h1)
theorem sw_j_lt (hX : sw_Xm g kx d n0 v Mz x) {a b : Int32} (hd : decode (k_c kx) pc = .ok (.if_icmp .lt off, 3)) (ht : (pc : Int) + off = (tgt : Int)) (hf : (if a < b then A else B) = some r) (kt : a < b → A = some r → sw_W g x tgt lv st M) (kf : ¬ a < b → B = some r → sw_W g x (pc + 3) lv st M) : sw_W g x pc lv (.int b :: .int a :: st) M := by
  rcases sw_ite hf with ⟨h1, h2⟩ | ⟨h1, h2⟩
  · exact sw_keep (kt h1 h2) fun _ _ _ h => lv_icmp_lt hX.1.1 hX.1.2.1 hd ht (fun _ => h) (fun q => absurd h1 q)
  · exact sw_keep (kf h1 h2) fun _ _ _ h => lv_icmp_lt hX.1.1 hX.1.2.1 hd ht (fun q => absurd q h1) (fun _ => h)
theorem sw_j_ge (hX : sw_Xm g kx d n0 v Mz x) {a b : Int32} (hd : decode (k_c kx) pc = .ok (.if_icmp .ge off, 3)) (ht : (pc : Int) + off = (tgt : Int)) (hf : (if b ≤ a then A else B) = some r) (kt : b ≤ a → A = some r → sw_W g x tgt lv st M) (kf : ¬ b ≤ a → B = some r → sw_W g x (pc + 3) lv st M) : sw_W g x pc lv (.int b :: .int a :: st) M := by
  rcases sw_ite hf with ⟨h1, h2⟩ | ⟨h1, h2⟩
  · exact sw_keep (kt h1 h2) fun _ _ _ h => lv_icmp_ge hX.1.1 hX.1.2.1 hd ht (fun _ => h) (fun q => absurd h1 q)
  · exact sw_keep (kf h1 h2) fun _ _ _ h => lv_icmp_ge hX.1.1 hX.1.2.1 hd ht (fun q => absurd q h1) (fun _ => h)
theorem sw_j_gt (hX : sw_Xm g kx d n0 v Mz x) {a b : Int32} (hd : decode (k_c kx) pc = .ok (.if_icmp .gt off, 3)) (ht : (pc : Int) + off = (tgt : Int)) (hf : (if b < a then A else B) = some r) (kt : b < a → A = some r → sw_W g x tgt lv st M) (kf : ¬ b < a → B = some r → sw_W g x (pc + 3) lv st M) : sw_W g x pc lv (.int b :: .int a :: st) M := by
  rcases sw_ite hf with ⟨h1, h2⟩ | ⟨h1, h2⟩
  · exact sw_keep (kt h1 h2) fun _ _ _ h => lv_icmp_gt hX.1.1 hX.1.2.1 hd ht (fun _ => h) (fun q => absurd h1 q)
  · exact sw_keep (kf h1 h2) fun _ _ _ h => lv_icmp_gt hX.1.1 hX.1.2.1 hd ht (fun q => absurd q h1) (fun _ => h)
theorem sw_j_le (hX : sw_Xm g kx d n0 v Mz x) {a b : Int32} (hd : decode (k_c kx) pc = .ok (.if_icmp .le off, 3)) (ht : (pc : Int) + off = (tgt : Int)) (hf : (if a ≤ b then A else B) = some r) (kt : a ≤ b → A = some r → sw_W g x tgt lv st M) (kf : ¬ a ≤ b → B = some r → sw_W g x (pc + 3) lv st M) : sw_W g x pc lv (.int b :: .int a :: st) M := by
  rcases sw_ite hf with ⟨h1, h2⟩ | ⟨h1, h2⟩
  · exact sw_keep (kt h1 h2) fun _ _ _ h => lv_icmp_le hX.1.1 hX.1.2.1 hd ht (fun _ => h) (fun q => absurd h1 q)
  · exact sw_keep (kf h1 h2) fun _ _ _ h => lv_icmp_le hX.1.1 hX.1.2.1 hd ht (fun q => absurd q h1) (fun _ => h)
theorem sw_z_eq (hX : sw_Xm g kx d n0 v Mz x) {a : Int32} (hd : decode (k_c kx) pc = .ok (.ifCond .eq off, 3)) (ht : (pc : Int) + off = (tgt : Int)) (hf : (if a = 0 then A else B) = some r) (kt : a = 0 → A = some r → sw_W g x tgt lv st M) (kf : ¬ a = 0 → B = some r → sw_W g x (pc + 3) lv st M) : sw_W g x pc lv (.int a :: st) M := by
  rcases sw_ite hf with ⟨h1, h2⟩ | ⟨h1, h2⟩
  · exact sw_keep (kt h1 h2) fun _ _ _ h => lv_if_eq hX.1.1 hX.1.2.1 hd ht (fun _ => h) (fun q => absurd h1 q)
  · exact sw_keep (kf h1 h2) fun _ _ _ h => lv_if_eq hX.1.1 hX.1.2.1 hd ht (fun q => absurd q h1) (fun _ => h)
theorem sw_z_ne (hX : sw_Xm g kx d n0 v Mz x) {a : Int32} (hd : decode (k_c kx) pc = .ok (.ifCond .ne off, 3)) (ht : (pc : Int) + off = (tgt : Int)) (hf : (if a = 0 then B else A) = some r) (kt : ¬ a = 0 → A = some r → sw_W g x tgt lv st M) (kf : a = 0 → B = some r → sw_W g x (pc + 3) lv st M) : sw_W g x pc lv (.int a :: st) M := by
  rcases sw_ite hf with ⟨h1, h2⟩ | ⟨h1, h2⟩
  · exact sw_keep (kf h1 h2) fun _ _ _ h => lv_if_ne hX.1.1 hX.1.2.1 hd ht (fun q => absurd h1 q) (fun _ => h)
  · exact sw_keep (kt h1 h2) fun _ _ _ h => lv_if_ne hX.1.1 hX.1.2.1 hd ht (fun _ => h) (fun q => absurd q h1)
theorem sw_z_lt (hX : sw_Xm g kx d n0 v Mz x) {a : Int32} (hd : decode (k_c kx) pc = .ok (.ifCond .lt off, 3)) (ht : (pc : Int) + off = (tgt : Int)) (hf : (if a < 0 then A else B) = some r) (kt : a < 0 → A = some r → sw_W g x tgt lv st M) (kf : ¬ a < 0 → B = some r → sw_W g x (pc + 3) lv st M) : sw_W g x pc lv (.int a :: st) M := by
  rcases sw_ite hf with ⟨h1, h2⟩ | ⟨h1, h2⟩
  · exact sw_keep (kt h1 h2) fun _ _ _ h => lv_if_lt hX.1.1 hX.1.2.1 hd ht (fun _ => h) (fun q => absurd h1 q)
  · exact sw_keep (kf h1 h2) fun _ _ _ h => lv_if_lt hX.1.1 hX.1.2.1 hd ht (fun q => absurd q h1) (fun _ => h)
theorem sw_z_ge (hX : sw_Xm g kx d n0 v Mz x) {a : Int32} (hd : decode (k_c kx) pc = .ok (.ifCond .ge off, 3)) (ht : (pc : Int) + off = (tgt : Int)) (hf : (if 0 ≤ a then A else B) = some r) (kt : 0 ≤ a → A = some r → sw_W g x tgt lv st M) (kf : ¬ 0 ≤ a → B = some r → sw_W g x (pc + 3) lv st M) : sw_W g x pc lv (.int a :: st) M := by
  rcases sw_ite hf with ⟨h1, h2⟩ | ⟨h1, h2⟩
  · exact sw_keep (kt h1 h2) fun _ _ _ h => lv_if_ge hX.1.1 hX.1.2.1 hd ht (fun _ => h) (fun q => absurd h1 q)
  · exact sw_keep (kf h1 h2) fun _ _ _ h => lv_if_ge hX.1.1 hX.1.2.1 hd ht (fun q => absurd q h1) (fun _ => h)
theorem sw_z_gt (hX : sw_Xm g kx d n0 v Mz x) {a : Int32} (hd : decode (k_c kx) pc = .ok (.ifCond .gt off, 3)) (ht : (pc : Int) + off = (tgt : Int)) (hf : (if 0 < a then A else B) = some r) (kt : 0 < a → A = some r → sw_W g x tgt lv st M) (kf : ¬ 0 < a → B = some r → sw_W g x (pc + 3) lv st M) : sw_W g x pc lv (.int a :: st) M := by
  rcases sw_ite hf with ⟨h1, h2⟩ | ⟨h1, h2⟩
  · exact sw_keep (kt h1 h2) fun _ _ _ h => lv_if_gt hX.1.1 hX.1.2.1 hd ht (fun _ => h) (fun q => absurd h1 q)
  · exact sw_keep (kf h1 h2) fun _ _ _ h => lv_if_gt hX.1.1 hX.1.2.1 hd ht (fun q => absurd q h1) (fun _ => h)
theorem sw_z_le (hX : sw_Xm g kx d n0 v Mz x) {a : Int32} (hd : decode (k_c kx) pc = .ok (.ifCond .le off, 3)) (ht : (pc : Int) + off = (tgt : Int)) (hf : (if a ≤ 0 then A else B) = some r) (kt : a ≤ 0 → A = some r → sw_W g x tgt lv st M) (kf : ¬ a ≤ 0 → B = some r → sw_W g x (pc + 3) lv st M) : sw_W g x pc lv (.int a :: st) M := by
  rcases sw_ite hf with ⟨h1, h2⟩ | ⟨h1, h2⟩
  · exact sw_keep (kt h1 h2) fun _ _ _ h => lv_if_le hX.1.1 hX.1.2.1 hd ht (fun _ => h) (fun q => absurd h1 q)
  · exact sw_keep (kf h1 h2) fun _ _ _ h => lv_if_le hX.1.1 hX.1.2.1 hd ht (fun q => absurd q h1) (fun _ => h)
theorem sw_l_eq (hX : sw_Xm g kx d n0 v Mz x) {a b : Int64} (hd : decode (k_c kx) pc = .ok (.ifCond .eq off, 3)) (ht : (pc : Int) + off = (tgt : Int)) (hf : (if a = b then A else B) = some r) (kt : a = b → A = some r → sw_W g x tgt lv st M) (kf : ¬ a = b → B = some r → sw_W g x (pc + 3) lv st M) : sw_W g x pc lv (.int (lg_cmp a b) :: st) M := by
  rcases sw_ite hf with ⟨h1, h2⟩ | ⟨h1, h2⟩
  · exact sw_keep (kt h1 h2) fun _ _ _ h => lv_if_eq hX.1.1 hX.1.2.1 hd ht (fun _ => h) (fun q => absurd ((lc_eq a b).mpr h1) q)
  · exact sw_keep (kf h1 h2) fun _ _ _ h => lv_if_eq hX.1.1 hX.1.2.1 hd ht (fun q => absurd ((lc_eq a b).mp q) h1) (fun _ => h)
theorem sw_l_ne (hX : sw_Xm g kx d n0 v Mz x) {a b : Int64} (hd : decode (k_c kx) pc = .ok (.ifCond .ne off, 3)) (ht : (pc : Int) + off = (tgt : Int)) (hf : (if a = b then B else A) = some r) (kt : ¬ a = b → A = some r → sw_W g x tgt lv st M) (kf : a = b → B = some r → sw_W g x (pc + 3) lv st M) : sw_W g x pc lv (.int (lg_cmp a b) :: st) M := by
  rcases sw_ite hf with ⟨h1, h2⟩ | ⟨h1, h2⟩
  · exact sw_keep (kf h1 h2) fun _ _ _ h => lv_if_ne hX.1.1 hX.1.2.1 hd ht (fun q => absurd ((lc_eq a b).mpr h1) q) (fun _ => h)
  · exact sw_keep (kt h1 h2) fun _ _ _ h => lv_if_ne hX.1.1 hX.1.2.1 hd ht (fun _ => h) (fun q => absurd ((lc_eq a b).mp q) h1)
theorem sw_l_lt (hX : sw_Xm g kx d n0 v Mz x) {a b : Int64} (hd : decode (k_c kx) pc = .ok (.ifCond .lt off, 3)) (ht : (pc : Int) + off = (tgt : Int)) (hf : (if a < b then A else B) = some r) (kt : a < b → A = some r → sw_W g x tgt lv st M) (kf : ¬ a < b → B = some r → sw_W g x (pc + 3) lv st M) : sw_W g x pc lv (.int (lg_cmp a b) :: st) M := by
  rcases sw_ite hf with ⟨h1, h2⟩ | ⟨h1, h2⟩
  · exact sw_keep (kt h1 h2) fun _ _ _ h => lv_if_lt hX.1.1 hX.1.2.1 hd ht (fun _ => h) (fun q => absurd ((lc_lt a b).mpr h1) q)
  · exact sw_keep (kf h1 h2) fun _ _ _ h => lv_if_lt hX.1.1 hX.1.2.1 hd ht (fun q => absurd ((lc_lt a b).mp q) h1) (fun _ => h)
theorem sw_l_ge (hX : sw_Xm g kx d n0 v Mz x) {a b : Int64} (hd : decode (k_c kx) pc = .ok (.ifCond .ge off, 3)) (ht : (pc : Int) + off = (tgt : Int)) (hf : (if b ≤ a then A else B) = some r) (kt : b ≤ a → A = some r → sw_W g x tgt lv st M) (kf : ¬ b ≤ a → B = some r → sw_W g x (pc + 3) lv st M) : sw_W g x pc lv (.int (lg_cmp a b) :: st) M := by
  rcases sw_ite hf with ⟨h1, h2⟩ | ⟨h1, h2⟩
  · exact sw_keep (kt h1 h2) fun _ _ _ h => lv_if_ge hX.1.1 hX.1.2.1 hd ht (fun _ => h) (fun q => absurd ((lc_ge a b).mpr h1) q)
  · exact sw_keep (kf h1 h2) fun _ _ _ h => lv_if_ge hX.1.1 hX.1.2.1 hd ht (fun q => absurd ((lc_ge a b).mp q) h1) (fun _ => h)
theorem sw_l_gt (hX : sw_Xm g kx d n0 v Mz x) {a b : Int64} (hd : decode (k_c kx) pc = .ok (.ifCond .gt off, 3)) (ht : (pc : Int) + off = (tgt : Int)) (hf : (if b < a then A else B) = some r) (kt : b < a → A = some r → sw_W g x tgt lv st M) (kf : ¬ b < a → B = some r → sw_W g x (pc + 3) lv st M) : sw_W g x pc lv (.int (lg_cmp a b) :: st) M := by
  rcases sw_ite hf with ⟨h1, h2⟩ | ⟨h1, h2⟩
  · exact sw_keep (kt h1 h2) fun _ _ _ h => lv_if_gt hX.1.1 hX.1.2.1 hd ht (fun _ => h) (fun q => absurd ((lc_gt a b).mpr h1) q)
  · exact sw_keep (kf h1 h2) fun _ _ _ h => lv_if_gt hX.1.1 hX.1.2.1 hd ht (fun q => absurd ((lc_gt a b).mp q) h1) (fun _ => h)
theorem sw_l_le (hX : sw_Xm g kx d n0 v Mz x) {a b : Int64} (hd : decode (k_c kx) pc = .ok (.ifCond .le off, 3)) (ht : (pc : Int) + off = (tgt : Int)) (hf : (if a ≤ b then A else B) = some r) (kt : a ≤ b → A = some r → sw_W g x tgt lv st M) (kf : ¬ a ≤ b → B = some r → sw_W g x (pc + 3) lv st M) : sw_W g x pc lv (.int (lg_cmp a b) :: st) M := by
  rcases sw_ite hf with ⟨h1, h2⟩ | ⟨h1, h2⟩
  · exact sw_keep (kt h1 h2) fun _ _ _ h => lv_if_le hX.1.1 hX.1.2.1 hd ht (fun _ => h) (fun q => absurd ((lc_le a b).mpr h1) q)
  · exact sw_keep (kf h1 h2) fun _ _ _ h => lv_if_le hX.1.1 hX.1.2.1 hd ht (fun q => absurd ((lc_le a b).mp q) h1) (fun _ => h)
theorem sw_n_null (hX : sw_Xm g kx d n0 v Mz x) {q : Nat} (hd : decode (k_c kx) pc = .ok (.ifnull off, 3)) (ht : (pc : Int) + off = (tgt : Int)) (hf : (if q = 0 then A else B) = some r) (kt : q = 0 → A = some r → sw_W g x tgt lv st M) (kf : ¬ q = 0 → B = some r → sw_W g x (pc + 3) lv st M) : sw_W g x pc lv (.ref q :: st) M := by
  rcases sw_ite hf with ⟨h1, h2⟩ | ⟨h1, h2⟩
  · subst h1
    exact sw_keep (kt rfl h2) fun _ _ _ h => lv_ifnullN hX.1.1 hX.1.2.1 hd ht h
  · obtain ⟨a, rfl⟩ : ∃ a, q = a + 1 := ⟨q - 1, by omega⟩
    exact sw_keep (kf h1 h2) fun _ _ _ h => lv_ifnull hX.1.1 hX.1.2.1 hd h
theorem sw_n_nonnull (hX : sw_Xm g kx d n0 v Mz x) {q : Nat} (hd : decode (k_c kx) pc = .ok (.ifnonnull off, 3)) (ht : (pc : Int) + off = (tgt : Int)) (hf : (if q = 0 then B else A) = some r) (kt : ¬ q = 0 → A = some r → sw_W g x tgt lv st M) (kf : q = 0 → B = some r → sw_W g x (pc + 3) lv st M) : sw_W g x pc lv (.ref q :: st) M := by
  rcases sw_ite hf with ⟨h1, h2⟩ | ⟨h1, h2⟩
  · subst h1
    exact sw_keep (kf rfl h2) fun _ _ _ h => lv_ifnonnullN hX.1.1 hX.1.2.1 hd h
  · obtain ⟨a, rfl⟩ : ∃ a, q = a + 1 := ⟨q - 1, by omega⟩
    exact sw_keep (kt h1 h2) fun _ _ _ h => lv_ifnonnull hX.1.1 hX.1.2.1 hd ht h
theorem sw_goto (hX : sw_Xm g kx d n0 v Mz x) (hd : decode (k_c kx) pc = .ok (.goto off, 3)) (ht : (pc : Int) + off = (tgt : Int)) (k : sw_W g x tgt lv st M) : sw_W g x pc lv st M := sw_keep k fun _ _ _ h => lv_goto hX.1.1 hX.1.2.1 hd ht h
theorem sw_tin (hX : sw_Xm g kx d n0 v Mz x) {dflt lo hi : Int} {offs : Array Int} {len : Nat} {a : Int32} (hd : decode (k_c kx) pc = .ok (.tableswitch dflt lo hi offs, len)) (h1 : ¬ a.toInt < lo) (h2 : ¬ hi < a.toInt) (ho : offs[(a.toInt - lo).toNat]? = some off) (ht : (pc : Int) + off = (tgt : Int)) (k : sw_W g x tgt lv st M) : sw_W g x pc lv (.int a :: st) M := sw_keep k fun _ _ _ h => lv_tableIn hX.1.1 hX.1.2.1 hd h1 h2 ho ht h
theorem sw_tout (hX : sw_Xm g kx d n0 v Mz x) {dflt lo hi : Int} {offs : Array Int} {len : Nat} {a : Int32} (hd : decode (k_c kx) pc = .ok (.tableswitch dflt lo hi offs, len)) (h1 : a.toInt < lo ∨ hi < a.toInt) (ht : (pc : Int) + dflt = (tgt : Int)) (k : sw_W g x tgt lv st M) : sw_W g x pc lv (.int a :: st) M := sw_keep k fun _ _ _ h => lv_tableOut hX.1.1 hX.1.2.1 hd h1 ht h
theorem sw_look (hX : sw_Xm g kx d n0 v Mz x) {dflt : Int} {ps : Array (Int × Int)} {len : Nat} {a : Int32} (hd : decode (k_c kx) pc = .ok (.lookupswitch dflt ps, len)) (hp : (ps.toList.zip (ps.toList.drop 1)).all (fun (a, next) => a.1 < next.1) = true) (ho : Op.lookupswitch.offset ps.toList dflt a.toInt = off) (ht : (pc : Int) + off = (tgt : Int)) (k : sw_W g x tgt lv st M) : sw_W g x pc lv (.int a :: st) M := sw_keep k fun _ _ _ h => lv_lookup hX.1.1 hX.1.2.1 hd hp ho ht h
theorem sw_ne {a c : Int32} {n : Int} (h : ¬ a = c) (hc : c.toInt = n) : ¬ a.toInt = n := fun e => h (Int32.toInt_inj.mp (e.trans hc.symm))
theorem sw_obj (hX : sw_Xm g kx d n0 v Mz x) {q i : Nat} (hl : Jvm.Cond.methodLink (sw_on (k_o kx)) i Lib.objectInit ∈ sw_ws) (hi : Jvm.Cond.instanceMethod Lib.objectInit ∈ sw_ws) (hc : Jvm.Cond.code Lib.objectInit ⟨#[0xb1]⟩ 1 none ∈ sw_ws) (hd : decode (k_c kx) pc = .ok (.invokespecial i, 3)) (hd1 : 1 ≤ d) (hst : (st.map fun v => v.category).sum ≤ 8) (hq : ¬ q = 0) (k : sw_W g x (pc + 3) lv st M) : sw_W g x pc lv (.ref q :: st) M := by
  refine ⟨k.1, fun H locs ls hH => ?_⟩
  obtain ⟨a, rfl⟩ : ∃ a, q = a + 1 := ⟨q - 1, by omega⟩
  have hts := hX.1.2.2.2.1
  have hD := hX.2.2.1
  refine W.objInit hX.1.1 hX.1.2.1 hX.1.2.2.1 (hts _ hl) (hts _ hi) (hts _ hc) rfl hH.2.2.1.1 rfl hd (Nat.le_trans hd1 hD.1) ?_ (k.2 H locs ls hH)
  have h1 := hD.2
  show 2 * 0 + ((st.map (sw_tr g)).map fun v => v.category).sum + 12 ≤ _
  rw [sw_cats]
  omega
end Br
section Text
variable {g : sw_G} {kx : sw_K} {d n0 : Nat} {v : Option Value} {Mz : sw_M} {x : sw_Ct} {pc : Nat} {lv : List (Nat × Value)} {st : List Value} {M M1 : sw_M}
theorem sw_s_ldc0 (hX : sw_Xm g kx d n0 v Mz x) (ho : sw_on (k_o kx) = "SwarmHouse$Reader") (hd : decode (k_c kx) pc = .ok (.ldc 179, 2)) (k : sw_W g x (pc + 2) lv (.retAddr 0 :: st) M) : sw_W g x pc lv st M := sw_keep k fun _ _ _ h => va_ldcS hX.1.1 hX.1.2.1 (by have := hX.1.2.2.1; rw [ho] at this; exact this) hX.2.1.2.2.1 hd h
theorem sw_s_ldc1 (hX : sw_Xm g kx d n0 v Mz x) (ho : sw_on (k_o kx) = "SwarmHouseModel") (hd : decode (k_c kx) pc = .ok (.ldc 202, 2)) (k : sw_W g x (pc + 2) lv (.retAddr 1 :: st) M) : sw_W g x pc lv st M := sw_keep k fun _ _ _ h => va_ldcS hX.1.1 hX.1.2.1 (by have := hX.1.2.2.1; rw [ho] at this; exact this) hX.2.1.2.2.2.1 hd h
theorem sw_s_val (hX : sw_Xm g kx d n0 v Mz x) {i j : Nat} (hj : j < 2) (hl : Jvm.Cond.fieldLink (sw_on (k_o kx)) i "java/lang/String" "value" "[B" ∈ sw_ws) (hd : decode (k_c kx) pc = .ok (.getfield i, 3)) (k : sw_W g x (pc + 3) lv (.retAddr (j + 10) :: st) M) : sw_W g x pc lv (.retAddr j :: st) M := by
  refine ⟨k.1, fun H locs ls hH => ?_⟩
  exact vk_getf hX.1.1 hX.1.2.1 (hX.2.1.2.1.1 j hj).2.2.1 hH.2.1 hX.1.2.2.1 (hX.1.2.2.2.1 _ hl) (fun _ h => h) hd (k.2 H locs ls hH)
theorem sw_s_cod (hX : sw_Xm g kx d n0 v Mz x) {i j : Nat} (hj : j < 2) (hl : Jvm.Cond.fieldLink (sw_on (k_o kx)) i "java/lang/String" "coder" "B" ∈ sw_ws) (hd : decode (k_c kx) pc = .ok (.getfield i, 3)) (k : sw_W g x (pc + 3) lv (.int 0 :: st) M) : sw_W g x pc lv (.retAddr j :: st) M := by
  refine ⟨k.1, fun H locs ls hH => ?_⟩
  exact vk_getf hX.1.1 hX.1.2.1 (hX.2.1.2.1.1 j hj).2.1 hH.2.1 hX.1.2.2.1 (hX.1.2.2.2.1 _ hl) (fun _ h => h) hd (k.2 H locs ls hH)
theorem sw_s_cs (hX : sw_Xm g kx d n0 v Mz x) {i : Nat} (hl : Jvm.Cond.fieldLink (sw_on (k_o kx)) i "java/lang/String" "COMPACT_STRINGS" "Z" ∈ sw_ws) (hd : decode (k_c kx) pc = .ok (.getstatic i, 3)) (k : sw_W g x (pc + 3) lv (.int 1 :: st) M) : sw_W g x pc lv st M := by
  refine ⟨k.1, fun H locs ls hH => ?_⟩
  exact va_gets hX.1.1 hX.1.2.1 hX.2.1.2.2.2.2.1 hH.2.1 hX.1.2.2.1 (hX.1.2.2.2.1 _ hl) (fun _ h => h) hd (k.2 H locs ls hH)
theorem sw_s_len (hX : sw_Xm g kx d n0 v Mz x) {j : Nat} (hj : j < 2) (hd : decode (k_c kx) pc = .ok (.arraylength, 1)) (k : sw_W g x (pc + 1) lv (.int (Int32.ofNat ([120, 73].getD j 0)) :: st) M) : sw_W g x pc lv (.retAddr (j + 10) :: st) M := by
  refine ⟨k.1, fun H locs ls hH => ?_⟩
  exact va_tlen hX.1.1 hX.1.2.1 (hX.2.1.2.1.1 j hj).2.2.2 hH.2.1 rfl hd (k.2 H locs ls hH)
theorem sw_s_at (hX : sw_Xm g kx d n0 v Mz x) {j : Nat} {i : Int32} (hj : j < 2) (hin : vp_in i ([120, 73].getD j 0)) (hd : decode (k_c kx) pc = .ok (.baload, 1)) (k : sw_W g x (pc + 1) lv (.int ((([sw_byt sw_txt0, sw_byt sw_txt1] : List (List Int32)).getD j []).getD i.toNatClampNeg 0) :: st) M) : sw_W g x pc lv (.int i :: .retAddr (j + 10) :: st) M := by
  refine ⟨k.1, fun H locs ls hH => ?_⟩
  exact va_tb hX.1.1 hX.1.2.1 (hX.2.1.2.1.1 j hj).2.2.2 hH.2.1 hin rfl hd (k.2 H locs ls hH)
theorem sw_stk_eqT (g : sw_G) (As st : List Value) (j : Nat) : (As.reverse ++ .retAddr j :: st).map (sw_tr g) = (As.map (sw_tr g)).reverse ++ .ref (g_X g j) :: st.map (sw_tr g) := by
  rw [List.map_append, List.map_reverse]
  rfl
/-- a call on a text -/
theorem sw_callT (hX : sw_Xm g kx d n0 v Mz x) {k2 : sw_K} {d2 n i j : Nat} {As : List Value} {v2 : Option Value} (hm : sw_mf k2 n) (hmi : Jvm.Cond.instanceMethod (k_y k2) ∈ sw_ws) (hms : Jvm.Cond.selects (k_y k2).cls (k_y k2) (k_y k2) ∈ sw_ws) (hl : Jvm.Cond.methodLink (sw_on (k_o kx)) i (k_y k2) ∈ sw_ws) (hC : (k_y k2).cls = "java/lang/String") (hd : decode (k_c kx) pc = .ok (.invokevirtual i, 3)) (hn : As.length = n) (hst : (st.map fun v => v.category).sum ≤ 8) (hd2 : d2 + 1 ≤ d) (hj : j < 2) (hok : sw_Ok g k2 d2 (.retAddr j :: As) M v2 M1) (k : sw_W g x (pc + 3) lv (v2.toList ++ st) M1) : sw_W g x pc lv (As.reverse ++ .retAddr j :: st) M := by
  refine ⟨Nat.le_trans hok.1 k.1, fun H locs ls hH => ?_⟩
  have hB := vk_recv hX.2.1.2.1 hj hH.2.1
  rw [← hC] at hB
  unfold sw_V
  rw [sw_stk_eqT]
  refine sw_after hX.1 (a := (Value.ref (g_X g j) :: As.map (sw_tr g)).toArray) hok.1 hH ?_ k
  refine va_runV (C := (k_y k2).cls) (As := As.map (sw_tr g)) (n := n) ⟨hX.1.1, hX.1.2.1, hX.2.2.2.1, hX.1.2.2.1, hX.1.2.2.2.1⟩ hok.2 ⟨sw_cb hX hm hl hd2, hX.1.2.2.2.1 _ hmi, hX.1.2.2.2.1 _ hms⟩ ⟨sw_blind g _ _, hB, fun U hU hW => ?_⟩ rfl (by rw [List.length_map]; exact hn) (by rw [← hX.2.2.2.1]; exact hH.2.2.1.1) rfl (lv_room (by rw [sw_cats]; exact hst)) hd (sw_room hX.1 hH.2.2.2 hok.1 k.1)
  exact sw_pre hX.1 hX.2.1 hH (.retAddr j :: As) U hU hW
end Text
