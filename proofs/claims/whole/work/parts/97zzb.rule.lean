/-! 97zzb: a rule that was read, as it is held -/
def wf : List (Nat × Nat) → Nat → Int32 × Int32
  | [], _ => (0, 0)
  | e :: o, t => if t = o.length then (nI e.1, nI e.2) else wf o t
theorem wf_m {M : sw_M} : ∀ {o : List (Nat × Nat)}, OM M o → ∀ t, t < o.length → rd_I M 90 (48 + t) = (wf o t).1 ∧ rd_I M 91 (48 + t) = (wf o t).2
  | [], _, t, ht => by exact absurd ht (Nat.not_lt_zero t)
  | e :: o, g, t, ht => by
    rw [List.length_cons] at ht
    rw [wf]
    by_cases q : t = o.length
    · rw [if_pos q, q]
      exact ⟨g.1, g.2.1⟩
    · rw [if_neg q]
      exact wf_m g.2.2 t (by omega)
theorem wf_h {M : sw_M} {q : Nat} : ∀ {o : List (Nat × Nat)}, eos o → HOl M q o → ∀ t, t < o.length → rd_I M (q + 1) t = hst (wf o t) ∧ ((wf o t).1 = 0 → rd_I M (q + 2) t = (wf o t).2)
  | [], _, _, t, ht => by exact absurd ht (Nat.not_lt_zero t)
  | e :: o, ge, g, t, ht => by
    rw [List.length_cons] at ht
    rw [wf]
    by_cases c : t = o.length
    · rw [if_pos c, c]
      refine ⟨g.1, fun h => g.2.1 ?_⟩
      have h' : nI e.1 = nI 0 := h
      refine (nI_eq ?_ (by decide)).1 h'
      rcases ge.1 with a | a | a <;> rw [a.1] <;> decide
    · rw [if_neg c]
      exact wf_h ge.2 g.2.2 t (by omega)
theorem wf_v : ∀ {o : List (Nat × Nat)}, eos o → ∀ t, t < o.length → EV (wf o t)
  | [], _, t, ht => by exact absurd ht (Nat.not_lt_zero t)
  | e :: o, ge, t, ht => by
    rw [List.length_cons] at ht
    rw [wf]
    by_cases c : t = o.length
    · rw [if_pos c]
      obtain ⟨a, b⟩ := e
      rcases ge.1 with ⟨h1, h2⟩ | ⟨h1, h2⟩ | ⟨h1, h2⟩
      · have h1' : a = 0 := h1
        subst h1'
        exact Or.inl rfl
      · have h1' : a = 1 := h1
        subst h1'
        refine Or.inr (Or.inl ⟨rfl, ?_⟩)
        have h2' : b ≤ 5 := h2
        show nmv (nI b)
        rcases (by omega : b = 0 ∨ b = 1 ∨ b = 2 ∨ b = 3 ∨ b = 4 ∨ b = 5) with rfl | rfl | rfl | rfl | rfl | rfl
        · exact Or.inl rfl
        · exact Or.inr (Or.inl rfl)
        · exact Or.inr (Or.inr (Or.inl rfl))
        · exact Or.inr (Or.inr (Or.inr (Or.inl rfl)))
        · exact Or.inr (Or.inr (Or.inr (Or.inr (Or.inl rfl))))
        · exact Or.inr (Or.inr (Or.inr (Or.inr (Or.inr rfl))))
      · have h1' : a = 2 := h1
        subst h1'
        refine Or.inr (Or.inr ⟨rfl, ?_⟩)
        rcases h2 with h2 | ⟨c, c1, c2, h2⟩
        · have h2' : b = 260 := h2
          subst h2'
          exact Or.inl rfl
        · have h2' : b = oc c := h2
          subst h2'
          exact Or.inr ((show ∀ c, c < 35 → ¬ ob c = 0 → (nI (oc c) = 42 ∨ nI (oc c) = 43 ∨ nI (oc c) = 45 ∨ nI (oc c) = 47 ∨ nI (oc c) = 60 ∨ nI (oc c) = 61 ∨ nI (oc c) = 62 ∨ nI (oc c) = 256 ∨ nI (oc c) = 257 ∨ nI (oc c) = 258 ∨ nI (oc c) = 261 ∨ nI (oc c) = 262) by decide +kernel) c c1 c2)
    · rw [if_neg c]
      exact wf_v ge.2 t (by omega)
def dst (e : Int32 × Int32) (d : Nat) : Option Nat := if e.1 = 2 then (if e.2 = 260 then (if 1 ≤ d then some d else none) else (if 2 ≤ d then some (d - 1) else none)) else some (d + 1)
theorem dpF_s (w : Nat → Int32 × Int32) : ∀ f i d, dpF w (f + 1) i d = (dpF w f i d).bind (dst (w (i + f)))
  | 0, i, d => by
    show (if (w i).1 = 2 then (if (w i).2 = 260 then (if 1 ≤ d then some d else none) else (if 2 ≤ d then some (d - 1) else none)) else some (d + 1)) = dst (w (i + 0)) d
    rfl
  | f + 1, i, d => by
    have e : ∀ d', dpF w (f + 1) (i + 1) d' = (dpF w f (i + 1) d').bind (dst (w (i + (f + 1)))) := fun d' => by
      rw [dpF_s w f (i + 1) d', show i + 1 + f = i + (f + 1) by omega]
    have u : ∀ g, dpF w (g + 1) i d = if (w i).1 = 2 then (if (w i).2 = 260 then (if 1 ≤ d then dpF w g (i + 1) d else none) else (if 2 ≤ d then dpF w g (i + 1) (d - 1) else none)) else dpF w g (i + 1) (d + 1) := fun g => by rw [dpF]
    rw [u (f + 1), u f]
    by_cases c1 : (w i).1 = 2
    · rw [if_pos c1, if_pos c1]
      by_cases c2 : (w i).2 = 260
      · rw [if_pos c2, if_pos c2]
        by_cases c3 : 1 ≤ d
        · rw [if_pos c3, if_pos c3, e]
        · rw [if_neg c3, if_neg c3]; rfl
      · rw [if_neg c2, if_neg c2]
        by_cases c3 : 2 ≤ d
        · rw [if_pos c3, if_pos c3, e]
        · rw [if_neg c3, if_neg c3]; rfl
    · rw [if_neg c1, if_neg c1, e]
theorem dpF_c {w w' : Nat → Int32 × Int32} : ∀ f i d, (∀ t, i ≤ t → t < i + f → w t = w' t) → dpF w f i d = dpF w' f i d
  | 0, i, d, h => rfl
  | f + 1, i, d, h => by
    rw [dpF, dpF, h i (by omega) (by omega)]
    simp only [dpF_c f (i + 1) _ (fun t h1 h2 => h t (by omega) (by omega))]
theorem dp_dl : ∀ o : List (Nat × Nat), eos o → dpF (wf o) o.length 0 0 = dl o
  | [], _ => rfl
  | e :: o, ge => by
    rw [List.length_cons, dpF_s, dpF_c (w' := wf o) o.length 0 0 (fun t h1 h2 => by rw [wf, if_neg (by omega)]), dp_dl o ge.2, dl, Nat.zero_add]
    cases dl o with
    | none => rfl
    | some d =>
      show dst (wf (e :: o) o.length) d = if e.1 = 2 then (if e.2 = 260 then (if 1 ≤ d then some d else none) else (if 2 ≤ d then some (d - 1) else none)) else some (d + 1)
      rw [wf, if_pos rfl]
      obtain ⟨a, b⟩ := e
      unfold dst
      rcases ge.1 with ⟨h1, h2⟩ | ⟨h1, h2⟩ | ⟨h1, h2⟩
      · have h1' : a = 0 := h1
        subst h1'
        rfl
      · have h1' : a = 1 := h1
        subst h1'
        rfl
      · have h1' : a = 2 := h1
        subst h1'
        have hb : b < 300 := by
          rcases h2 with h2 | ⟨c, c1, c2, h2⟩
          · have h2' : b = 260 := h2
            omega
          · have h2' : b = oc c := h2
            have := (show ∀ c, c < 35 → oc c < 300 by decide +kernel) c c1
            omega
        show (if nI 2 = 2 then (if nI b = 260 then _ else _) else _) = (if 2 = 2 then (if b = 260 then _ else _) else _)
        rw [if_pos (by rfl), if_pos rfl]
        by_cases q : b = 260
        · rw [if_pos (by rw [q]; rfl), if_pos q]
        · rw [if_neg (show ¬ nI b = (260 : Int32) from fun h => q ((nI_eq (by omega) (by decide)).1 (h : nI _ = nI 260))), if_neg q]
