/-! 97zc: the house's levels against the yard -/
def OKs (T : Nat → Nat) (n q L : Nat) (M : sw_M) (b k : Nat) (o : List (Nat × Nat)) (P : List Nat) (W : sw_M) : Prop :=
  ∃ (b' k' : Nat) (o' : List (Nat × Nat)) (P2 : List Nat) (o2 : List (Nat × Nat)) (m : Nat), Fr (AH q) M W ∧ HZ W T n q b' k' o' ∧ k < k' ∧ k' ≤ 48 ∧ o'.length + nn P = k' ∧ b + m ≤ b' ∧ (∀ j, sy T n (j + m) false b k o P = sy T n j true b' k' o2 P2) ∧ pr L P2 o2 = (P, o') ∧ (ob (kk T n b') < L ∨ (ob (kk T n b') = 4 ∧ tq (pr 5 P2 o2).1 = 4)) ∧ (∀ d, WF o d → WF o' (d + 1))
def FLs (T : Nat → Nat) (n q : Nat) (M : sw_M) (b k : Nat) (o : List (Nat × Nat)) (P : List Nat) (W : sw_M) : Prop :=
  ∃ f p m, Fr (AH q) M W ∧ FZ W q f p ∧ 1 ≤ f ∧ f ≤ 3 ∧ b + m ≤ n + 1 ∧ (∀ j, sy T n (j + m) false b k o P = some (Sum.inl (f, p)))
def LV (T : Nat → Nat) (n q L D : Nat) (f : sw_M → Option (Int32 × sw_M)) : Prop :=
  ∀ M b k o P, HZ M T n q b k o → tq P < L → op P = D → o.length + nn P = k → k ≤ 48 → (4 ≤ L → kk T n b = 28 → 4 ≤ tq P) →
    (∃ W, f M = some (1, W) ∧ OKs T n q L M b k o P W) ∨ (∃ W, f M = some (0, W) ∧ FLs T n q M b k o P W)
theorem AP_AH {q : Nat} {M W : sw_M} (h : Fr (AP q) M W) : Fr (AH q) M W := h.mono (fun a k h => by unfold AP at h; unfold AH; omega)
theorem oc_40 : ∀ c, c < 35 → ¬ ob c = 0 → ¬ oc c = 40 ∧ bq (oc c) = ob c := by decide +kernel
def ILs (T : Nat → Nat) (n q L : Nat) (M : sw_M) (b k : Nat) (o : List (Nat × Nat)) (P : List Nat) (i : Nat) (W : sw_M) : Prop :=
  ∃ (b' k' : Nat) (o' : List (Nat × Nat)) (P2 : List Nat) (o2 : List (Nat × Nat)) (m : Nat), Fr (AH q) M W ∧ HZ W T n q b' k' o' ∧ k < k' ∧ k' ≤ 48 ∧ o'.length + nn P = k' ∧ b + m ≤ b' ∧ (∀ j, sy T n (j + m) false b k o P = sy T n j true b' k' o2 P2) ∧ pr L P2 o2 = (P, o') ∧ (ob (kk T n b') < L + 1 ∨ (ob (kk T n b') = 4 ∧ tq (pr 5 P2 o2).1 = 4)) ∧ (∀ d, WF o d → WF o' (d + 1)) ∧ i + 1 ≤ k'
theorem ILs_0 {T : Nat → Nat} {n q L : Nat} {M : sw_M} {b k : Nat} {o : List (Nat × Nat)} {P : List Nat} {W : sw_M} (hP : tq P < L) (h : OKs T n q (L + 1) M b k o P W) : ILs T n q L M b k o P 0 W := by
  obtain ⟨b', k', o', P2, o2, m, a1, a2, a3, a4, a5, a6, a7, a8, a9, a10⟩ := h
  refine ⟨b', k', o', P2, o2, m, a1, a2, a3, a4, a5, a6, a7, ?_, a9, a10, by omega⟩
  have := pr_pr (show L ≤ L + 1 by omega) P2 o2
  rw [a8] at this
  rw [← this]
  exact pr_0 hP _
/-- a loop over what stands left of each other -/
theorem lp_all (T : Nat → Nat) (n q L D N : Nat) (hN : 1000 ≤ N) (hL : L = 1 ∨ L = 2 ∨ L = 5 ∨ L = 6) (sub : sw_M → Option (Int32 × sw_M)) (hs : LV T n q (L + 1) D sub) (lp : Nat → Int32 → Int32 → sw_M → Option (Int32 × sw_M))
    (h0 : ∀ j i M, lp (j + 1) 0 i M = some (0, M))
    (h1 : ∀ j i M c, i < 48 → HR M → rd_I M 17 6 = nI c → c < 35 → ¬ ob c = L → lp (j + 1) 1 (nI i) M = some (1, M))
    (h2 : ∀ j i M c, i < 48 → HR M → rd_R M 18 1 = q → rd_I M 17 6 = nI c → c < 35 → ob c = L → ∀ (V : sw_M) (r : Int32), f_Reader_knot N 17 M = some (r, V) → HR V → rd_R V 18 1 = q → (r = 0 → ∀ Y, f_Rule_put N q (nI c) 0 V = some Y → lp (j + 1) 1 (nI i) M = lp j 0 (nI (i + 1)) Y) ∧ (r = 1 → ∀ W s, sub V = some (s, W) → HR W → rd_R W 18 1 = q → (s = 0 ∨ s = 1) → ∀ Y, f_Rule_put N q (nI c) 0 W = some Y → lp (j + 1) 1 (nI i) M = lp j s (nI (i + 1)) Y))
    (M0 : sw_M) (b k : Nat) (o : List (Nat × Nat)) (P : List Nat) (hP : tq P < L) (hD : op P = D) : ∀ (j i : Nat) (M : sw_M), ILs T n q L M0 b k o P i M → 50 - i ≤ j →
    (∃ W, lp j 1 (nI i) M = some (1, W) ∧ OKs T n q L M0 b k o P W) ∨ (∃ W, lp j 1 (nI i) M = some (0, W) ∧ FLs T n q M0 b k o P W)
  | 0, i, M, hO, hj => by
    obtain ⟨b', k', o', P2, o2, m, a1, a2, a3, a4, a5, a6, a7, a8, a9, a10, a11⟩ := hO
    omega
  | j + 1, i, M, hO, hj => by
    obtain ⟨b', k', o', P2, o2, m, a1, a2, a3, a4, a5, a6, a7, a8, a9, a10, a11⟩ := hO
    have kc := kk_c T n b'
    have h6 := a2.2.2.2.1.2.2.1
    have hH := a2.1.1
    have hb' := a2.2.2.1
    have hn := a2.1.2.1
    by_cases c : ob (kk T n b') = L
    · have e2 := h2 j i M (kk T n b') (by omega) hH a2.2.1 h6 kc c
      have c0 : ¬ ob (kk T n b') = 0 := by omega
      have c4 : ¬ ob (kk T n b') = 4 := by omega
      have oo := oc_40 _ kc c0
      have kz : ¬ kk T n b' = 0 := fun h => c0 (by rw [h]; decide)
      have nb := nd_b T n b' hn hb'
      have nb2 := nb.2 kz
      have ol : o'.length ≤ 48 := by omega
      have st : ∀ j, sy T n (j + 1) true b' k' o2 P2 = if k' = 48 then some (Sum.inl (2, pl T n b')) else sy T n j false (nd T n b') (k' + 1) o' (oc (kk T n b') :: P) := fun j => by
        rw [sy, if_neg c0, if_neg c4, c, a8]
      obtain ⟨j, rfl⟩ : ∃ j', j = j' + 1 := ⟨j - 1, by omega⟩
      rcases a2.knot N hN ol a4 with ⟨k1, V, v1, v2, v3⟩ | ⟨k1, V, v1, v2, v3⟩
      · have e3 := (e2 V 1 v1 v3.1.1 v3.2.1).2 rfl
        have st' : ∀ j, sy T n (j + 1) true b' k' o2 P2 = sy T n j false (nd T n b') (k' + 1) o' (oc (kk T n b') :: P) := fun j => by rw [st, if_neg (by omega)]
        rcases hs V (nd T n b') (k' + 1) o' (oc (kk T n b') :: P) v3 (by show bq _ < _; rw [oo.2]; omega) (by rw [op, if_neg oo.1, hD]; omega) (by rw [nn, if_neg oo.1]; omega) (by omega) (fun l4 _ => by show 4 ≤ bq _; rw [oo.2]; omega) with ⟨W, w1, b3, k3, o3, P3, q3, m3, x1, x2, x3, x4, x5, x6, x7, x8, x9, x10⟩ | ⟨W, w1, f, p, m3, x1, x2, x3, x4, x5, x6⟩
        · rw [nn, if_neg oo.1] at x5
          obtain ⟨Y, y1, y2, y3, y4⟩ := put_o N x2.q.1 (show o3.length < 48 by omega) x2.2.2.2.2.2.1 x2.2.2.2.2.2.2 (2, oc (kk T n b')) 0 (fun h => absurd h (by decide : ¬ (2 = 0)))
          rw [he_2 _ kc c0] at y1
          rw [e3 W 1 w1 x2.1.1 x2.2.1 (Or.inr rfl) Y y1]
          have zz := x2.fr3 y2 y3 y4
          have r8 := pr_pr (show L ≤ L + 1 by omega) P3 q3
          rw [x8] at r8
          have r9 : pr L P3 q3 = (P, (2, oc (kk T n b')) :: o3) := by
            rw [← r8]
            show pr L (oc (kk T n b') :: P) o3 = _
            rw [pr_1 (by rw [oo.2]; omega), pr_0 hP]
          refine lp_all T n q L D N hN hL sub hs lp h0 h1 h2 M0 b k o P hP hD (j + 1) (i + 1) Y ⟨b3, k3, (2, oc (kk T n b')) :: o3, P3, q3, m3 + 1 + m, ((a1.trans v2).trans x1).trans (AP_AH y2), zz, by omega, x4, by rw [List.length_cons]; omega, by omega, fun j => ?_, r9, x9, fun d hd => ?_, by omega⟩ (by omega)
          · rw [show j + (m3 + 1 + m) = (j + m3 + 1) + m by omega, a7, st', x7]
          · exact WF_2 (x10 _ (a10 _ hd)) kc c0
        · obtain ⟨Y, y1, y2, y3⟩ := x2.put N (nI (kk T n b')) 0
          rw [e3 W 0 w1 x2.1 x2.2.1 (Or.inl rfl) Y y1, h0]
          refine Or.inr ⟨Y, rfl, f, p, m3 + 1 + m, ((a1.trans v2).trans x1).trans (AP_AH y2), y3, x3, x4, by omega, fun j => ?_⟩
          rw [show j + (m3 + 1 + m) = (j + m3 + 1) + m by omega, a7, st', x6]
      · obtain ⟨Y, y1, y2, y3⟩ := v3.put N (nI (kk T n b')) 0
        rw [(e2 V 0 v1 v3.1 v3.2.1).1 rfl Y y1, h0]
        refine Or.inr ⟨Y, rfl, 2, pl T n b', 1 + m, (a1.trans v2).trans (AP_AH y2), y3, by omega, by omega, by omega, fun j => ?_⟩
        rw [show j + (1 + m) = (j + 1) + m by omega, a7, st, if_pos k1]
    · rw [h1 j i M (kk T n b') (by omega) hH h6 kc c]
      exact Or.inl ⟨M, rfl, b', k', o', P2, o2, m, a1, a2, a3, a4, a5, a6, a7, a8, by omega, a10⟩
