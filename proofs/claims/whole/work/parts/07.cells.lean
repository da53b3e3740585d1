/-! 07: what is written in a cell; new cells -/
theorem sw_at_kept {g : sw_G} {M M' : sw_M} {b : Nat} {H H' : Heap} (h : sw_at g M b H) (hq : H'[g_B g + b]? = H[g_B g + b]?) (hv : ∀ t k, sw_pv M' t (b + 1) k = sw_pv M t (b + 1) k) : sw_at g M' b H' := by
  unfold sw_at at h ⊢
  cases hl : sw_lay[b]? with
  | none => exact trivial
  | some y =>
    obtain ⟨kd, n⟩ := y
    rw [hl] at h
    simp only at h ⊢
    by_cases hk : kd < 13
    · simp only [hk, if_true] at h ⊢
      obtain ⟨r, h1, h2⟩ := h
      refine ⟨r, h1, (h2.kept hq).to fun k _ => ?_⟩
      rw [hv]
    · simp only [hk, if_false] at h ⊢
      rw [hq, h]
      congr 2
      funext j
      rw [hv]
theorem sw_R_set {g : sw_G} {M M' : sw_M} {a : Nat} {H H' : Heap} (hR : sw_R g M H) (hz : H'.size = H.size) (ho : ∀ q, q ≠ g_B g + a → H'[q]? = H[q]?) (hN : rd_N M' = rd_N M) (hv : ∀ b, b ≠ a → ∀ t k, sw_pv M' t (b + 1) k = sw_pv M t (b + 1) k) (ha : sw_at g M' a H') : sw_R g M' H' := by
  refine ⟨by rw [hz, hN]; exact hR.1, by rw [hN]; exact hR.2.1, fun b hb => ?_⟩
  rw [hN] at hb
  by_cases e : b = a
  · subst e; exact ha
  · exact sw_at_kept (hR.2.2 b hb) (ho _ (by omega)) (hv b e)
theorem sw_S_set {A : Nat → Prop} {H0 H H1 : Heap} {locs : List Loc} {a k : Nat} (h : va_S A H0 H locs) (z : H1.size = H.size) (oq : ∀ q : Nat, q ≠ a → H1[q]? = H[q]?) (ha : A a) : va_S A H0 H1 (locs ++ [⟨a, k⟩]) := h.put z oq ha
def sw_fyc (ci k : Nat) : Bool := match sw_ft ci k, sw_fy ci k with
  | 0, .int => true
  | 1, .long => true
  | 3, .boolean => true
  | 2, .object _ => true
  | 2, .array _ => true
  | _, _ => false
theorem sw_fyc_ok : (List.range 13).all (fun ci => match sw_cl[ci]? with
  | some r => (List.range r.2.2).all (fun k => sw_fyc ci k)
  | none => false) = true := by decide +kernel
theorem sw_fyc_at {ci k : Nat} {r : vw_C} (hr : sw_cl[ci]? = some r) (hk : k < r.2.2) (hc : ci < 13) : sw_fyc ci k = true := by
  have h := List.all_eq_true.mp sw_fyc_ok ci (List.mem_range.mpr hc)
  rw [hr] at h
  exact List.all_eq_true.mp h k (List.mem_range.mpr hk)
section Cells
variable {g : sw_G} {o : Nat} {ini : Bool} {cc : ByteArray} {x : sw_Ct} {pc : Nat} {lv : List (Nat × Value)} {st : List Value} {M M' : sw_M}
/-- a field is written: what the machine wants of the value, what the memory is behind it -/
theorem sw_putc (hX : sw_X g o ini cc x) {i ci k0 q : Nat} {v : Value} (hd : decode cc pc = .ok (.putfield i, 3)) (hf : sw_fck o i ci k0 = true) (hc : ci < 13) (hq : sw_ok M q ci = true) (hfin : (sw_fin.getD ci []).getD k0 false = false ∨ (ini = true ∧ ci = o))
    (hn : narrow (sw_fy ci k0) (sw_tr g v) = sw_tr g v) (hfit : fits (sw_fy ci k0) (sw_tr g v) = true) (hN : rd_N M' = rd_N M) (hoth : ∀ b, b ≠ q → ∀ t k, sw_pv M' t b k = sw_pv M t b k) (hself : ∀ j, sw_pv M' (sw_ft ci j) q j = if j = k0 then v else sw_pv M (sw_ft ci j) q j)
    (k : sw_W g x (pc + 3) lv st M') : sw_W g x pc lv (v :: .ref q :: st) M := by
  refine ⟨by rw [← hN]; exact k.1, fun H locs ls hH => ?_⟩
  obtain ⟨hx, hb, hown, hts, hK, -, hini, -⟩ := hX
  obtain ⟨r, hr, hk0, hlink⟩ := sw_fck_spec hf
  obtain ⟨a, rfl, ha, r', hr', cell, q1, q2, q3, q4⟩ := sw_R_obj hH.1 hq hc
  cases hr.symm.trans hr'
  obtain ⟨hin, hty, hnm, hdc, hfi⟩ := sw_clF _ _ hr
  have hap := va_apart (own := sw_on o) hts hin (sw_fy ci) hty hnm hK hr
  obtain ⟨hS, hfc, kC, hkC, hkind⟩ := hK.1 ci _ hr
  obtain ⟨cf, kf, fi, f, hi, hsl⟩ := hS k0 hk0
  have hi' := hi
  rw [hdc k0 hk0] at hi'
  have hlay := hts _ (hin _ (u_in_lay hk0))
  unfold u_lay at hlay
  have hst := (u_facts hfc hkC (u_lays hts hin hk0) hi).1
  have hgo : ∀ H' : Heap, H'[g_B g + a]? = some (cell.setSlot ((g_D g).2 ci k0) (sw_tr g v)) → H'.size = H.size → (∀ q, q ≠ g_B g + a → H'[q]? = H[q]?) → W (x_p x) (g_l g) (x_e x) (x_R x) (x_s x) (x_m x) (x_a x) (x_b x) (x_h x) (x_c x) H' (locs ++ [⟨g_B g + a, (g_D g).2 ci k0⟩]) (rd_N M - x_0 x) (sw_us (rd_N M) - sw_us (x_0 x)) (x_Q x) (F0 (x_m x) (pc + 3) ls (st.map (sw_tr g))) := by
    intro H' e1 e2 e3
    have hR' : sw_R g M' H' := by
      refine sw_R_set hH.1 e2 e3 hN (fun b hb => hoth (b + 1) (fun e => hb (Nat.succ.inj e))) ?_
      obtain ⟨a', n, ea, hl, -⟩ := sw_ok_spec hq
      cases ea
      unfold sw_at
      rw [hl]
      simp only [hc, if_true]
      refine ⟨r, hr, t_OB.to (V := updV (fun k => sw_tr g (sw_pv M (sw_ft ci k) (a + 1) k)) k0 (sw_tr g v)) ⟨_, e1, q2, q3, t_set q4 hap hk0 (sw_tr g v)⟩ fun j _ => ?_⟩
      rw [hself j]
      unfold updV
      split <;> rfl
    have h := k.2 H' (locs ++ [⟨g_B g + a, (g_D g).2 ci k0⟩]) ls ⟨hR', hH.2.1.put e2 e3 (Nat.le_add_right _ _), hH.2.2.1, by rw [hN]; exact hH.2.2.2⟩
    unfold sw_V at h
    rw [hN] at h
    exact h
  by_cases hf1 : (r.2.1 k0).2.2.2 = true
  · rw [if_pos hf1] at hlay
    obtain ⟨hi1, hi2⟩ : ini = true ∧ ci = o := by
      rcases hfin with h | h
      · rw [hfi k0 hk0, h] at hf1; cases hf1
      · exact h
    have hcf : (x_m x).cls = cf := by
      obtain ⟨_, _, c', _, _, _, -, -, hf', -, -, -, hown2, -⟩ := Cond.laysFinal_spec hlay
      have e1 : c' = cf := by have := hi.symm.trans hf'; simp at this; exact this.1.symm
      rw [hdc k0 hk0] at hown2
      have e2 : r.1 = sw_on o := by
        subst hi2
        match ci, hc, hr with
        | 0, _, h => cases h; rfl
        | 1, _, h => cases h; rfl
        | 2, _, h => cases h; rfl
        | 3, _, h => cases h; rfl
        | 4, _, h => cases h; rfl
        | 5, _, h => cases h; rfl
        | 6, _, h => cases h; rfl
        | 7, _, h => cases h; rfl
        | 8, _, h => cases h; rfl
        | 9, _, h => cases h; rfl
        | 10, _, h => cases h; rfl
        | 11, _, h => cases h; rfl
        | 12, _, h => cases h; rfl
        | n + 13, hc, _ => omega
      rw [e2] at hown2
      rw [← e1]; exact Option.some.inj (hown.symm.trans hown2)
    have h6 := u_fits hfc hkC hkind (Or.inr hlay) hi (hty k0 hk0) hn hfit
    refine W.putFinK hx hb hown (hts _ hlink) hi' hst hcf (hini hi1) (by rw [q2]; exact h6) q1 q3 (by rw [hsl]; exact k2_hasslot (q4 k0 hk0)) rfl rfl hd fun H' e1 e2 e3 => ?_
    rw [hsl] at e1 ⊢
    exact hgo H' e1 e2 e3
  · rw [if_neg hf1] at hlay
    have h6 := u_store hfc hkC hkind hlay hi (hty k0 hk0) hn hfit
    refine W.putK hx hb (f := f) ⟨hown, hts _ hlink, ⟨_, _, _, hi'⟩, hst⟩ (by rw [q2]; exact h6) q1 q3 (by rw [hsl]; exact k2_hasslot (q4 k0 hk0)) rfl rfl hd fun H' e1 e2 e3 => ?_
    rw [hsl] at e1 ⊢
    exact hgo H' e1 e2 e3
theorem sw_pI_o (M : sw_M) {q b : Nat} (k0 : Nat) (v : Int32) (h : b ≠ q) (t k : Nat) : sw_pv (wr_I M q k0 v) t b k = sw_pv M t b k := by
  unfold sw_pv
  split
  · rfl
  · rfl
  · show Value.int (up_2 M.1 q k0 v b k) = _
    rw [up_2_q _ _ h]; rfl
theorem sw_pL_o (M : sw_M) {q b : Nat} (k0 : Nat) (v : Int64) (h : b ≠ q) (t k : Nat) : sw_pv (wr_L M q k0 v) t b k = sw_pv M t b k := by
  unfold sw_pv
  split
  · show Value.long (up_2 M.2.1 q k0 v b k) = _
    rw [up_2_q _ _ h]; rfl
  · rfl
  · rfl
theorem sw_pR_o (M : sw_M) {q b : Nat} (k0 : Nat) (v : Nat) (h : b ≠ q) (t k : Nat) : sw_pv (wr_R M q k0 v) t b k = sw_pv M t b k := by
  unfold sw_pv
  split
  · rfl
  · show Value.ref (up_2 M.2.2.1 q k0 v b k) = _
    rw [up_2_q _ _ h]; rfl
  · rfl
theorem sw_pI_s (M : sw_M) (q k0 : Nat) (v : Int32) (f : Nat → Nat) (hf : f k0 ≠ 1 ∧ f k0 ≠ 2) (j : Nat) : sw_pv (wr_I M q k0 v) (f j) q j = if j = k0 then .int v else sw_pv M (f j) q j := by
  by_cases e : j = k0
  · subst e
    rw [if_pos rfl]
    unfold sw_pv
    split
    · rename_i h; exact absurd h hf.1
    · rename_i h; exact absurd h hf.2
    · show Value.int (up_2 M.1 q j v q j) = _
      rw [up_2_s]
  · rw [if_neg e]
    unfold sw_pv
    split
    · rfl
    · rfl
    · show Value.int (up_2 M.1 q k0 v q j) = _
      rw [up_2_k _ _ e]; rfl
theorem sw_pL_s (M : sw_M) (q k0 : Nat) (v : Int64) (f : Nat → Nat) (hf : f k0 = 1) (j : Nat) : sw_pv (wr_L M q k0 v) (f j) q j = if j = k0 then .long v else sw_pv M (f j) q j := by
  by_cases e : j = k0
  · subst e
    rw [if_pos rfl, hf]
    show Value.long (up_2 M.2.1 q j v q j) = _
    rw [up_2_s]
  · rw [if_neg e]
    unfold sw_pv
    split
    · show Value.long (up_2 M.2.1 q k0 v q j) = _
      rw [up_2_k _ _ e]; rfl
    · rfl
    · rfl
theorem sw_pR_s (M : sw_M) (q k0 : Nat) (v : Nat) (f : Nat → Nat) (hf : f k0 = 2) (j : Nat) : sw_pv (wr_R M q k0 v) (f j) q j = if j = k0 then .ref v else sw_pv M (f j) q j := by
  by_cases e : j = k0
  · subst e
    rw [if_pos rfl, hf]
    show Value.ref (up_2 M.2.2.1 q j v q j) = _
    rw [up_2_s]
  · rw [if_neg e]
    unfold sw_pv
    split
    · rfl
    · show Value.ref (up_2 M.2.2.1 q k0 v q j) = _
      rw [up_2_k _ _ e]; rfl
    · rfl
theorem sw_nar_bz {v : Int32} (h : sw_bz v = true) : narrow .boolean (.int v) = .int v ∧ fits .boolean (.int v) = true := by
  unfold sw_bz at h
  simp only [Bool.or_eq_true, decide_eq_true_eq] at h
  rcases h with rfl | rfl <;> decide
theorem sw_r_putI (hX : sw_X g o ini cc x) {i ci k0 q : Nat} {v : Int32} (hd : decode cc pc = .ok (.putfield i, 3)) (hf : sw_fck o i ci k0 = true) (hc : ci < 13) (hq : sw_ok M q ci = true) (hfin : (sw_fin.getD ci []).getD k0 false = false ∨ (ini = true ∧ ci = o)) (ht : sw_ft ci k0 = 0 ∨ (sw_ft ci k0 = 3 ∧ sw_bz v = true)) (k : sw_W g x (pc + 3) lv st (wr_I M q k0 v)) : sw_W g x pc lv (.int v :: .ref q :: st) M := by
  obtain ⟨r, hr, hk0, hlink⟩ := sw_fck_spec hf
  have hy := sw_fyc_at hr hk0 hc
  have h12 : sw_ft ci k0 ≠ 1 ∧ sw_ft ci k0 ≠ 2 := by rcases ht with h | h <;> omega
  have hnf : narrow (sw_fy ci k0) (.int v) = .int v ∧ fits (sw_fy ci k0) (.int v) = true := by
    unfold sw_fyc at hy
    rcases ht with h | ⟨h, hz⟩
    · rw [h] at hy
      split at hy <;> first | (rename_i h0; cases h0; done) | (rename_i e1 e2; rw [e2]; exact ⟨rfl, rfl⟩) | cases hy | skip
      all_goals simp_all
    · rw [h] at hy
      split at hy <;> first | (rename_i e1 e2; rw [e2]; exact sw_nar_bz hz) | cases hy | skip
      all_goals simp_all
  exact sw_putc (M' := wr_I M q k0 v) hX hd hf hc hq hfin hnf.1 hnf.2 rfl (fun b hb => sw_pI_o M k0 v hb) (sw_pI_s M q k0 v (sw_ft ci) h12) k
theorem sw_r_putL (hX : sw_X g o ini cc x) {i ci k0 q : Nat} {v : Int64} (hd : decode cc pc = .ok (.putfield i, 3)) (hf : sw_fck o i ci k0 = true) (hc : ci < 13) (hq : sw_ok M q ci = true) (hfin : (sw_fin.getD ci []).getD k0 false = false ∨ (ini = true ∧ ci = o)) (ht : sw_ft ci k0 = 1) (k : sw_W g x (pc + 3) lv st (wr_L M q k0 v)) : sw_W g x pc lv (.long v :: .ref q :: st) M := by
  obtain ⟨r, hr, hk0, hlink⟩ := sw_fck_spec hf
  have hy := sw_fyc_at hr hk0 hc
  have hnf : narrow (sw_fy ci k0) (.long v) = .long v ∧ fits (sw_fy ci k0) (.long v) = true := by
    unfold sw_fyc at hy
    rw [ht] at hy
    split at hy <;> first | (rename_i e1 e2; rw [e2]; exact ⟨rfl, rfl⟩) | cases hy | skip
    all_goals simp_all
  exact sw_putc (M' := wr_L M q k0 v) hX hd hf hc hq hfin hnf.1 hnf.2 rfl (fun b hb => sw_pL_o M k0 v hb) (sw_pL_s M q k0 v (sw_ft ci) ht) k
theorem sw_r_putR (hX : sw_X g o ini cc x) {i ci k0 q v : Nat} (hd : decode cc pc = .ok (.putfield i, 3)) (hf : sw_fck o i ci k0 = true) (hc : ci < 13) (hq : sw_ok M q ci = true) (hfin : (sw_fin.getD ci []).getD k0 false = false ∨ (ini = true ∧ ci = o)) (ht : sw_ft ci k0 = 2) (k : sw_W g x (pc + 3) lv st (wr_R M q k0 v)) : sw_W g x pc lv (.ref v :: .ref q :: st) M := by
  obtain ⟨r, hr, hk0, hlink⟩ := sw_fck_spec hf
  have hy := sw_fyc_at hr hk0 hc
  have hnf : narrow (sw_fy ci k0) (sw_tr g (.ref v)) = sw_tr g (.ref v) ∧ fits (sw_fy ci k0) (sw_tr g (.ref v)) = true := by
    unfold sw_fyc at hy
    rw [ht] at hy
    split at hy
    all_goals first | (rename_i e1 e2; rw [e2]; cases v <;> exact ⟨rfl, rfl⟩) | skip
    all_goals simp_all
  exact sw_putc (M' := wr_R M q k0 v) hX hd hf hc hq hfin hnf.1 hnf.2 rfl (fun b hb => sw_pR_o M k0 v hb) (sw_pR_s M q k0 v (sw_ft ci) ht) k
end Cells
