/-! 10: arrays of arrays; branches -/
def sw_mk (M : sw_M) (n : Nat) : sw_M := (fun a j => if M.2.2.2 < a ∧ a ≤ M.2.2.2 + 1 + n then 0 else M.1 a j, fun a j => if M.2.2.2 < a ∧ a ≤ M.2.2.2 + 1 + n then 0 else M.2.1 a j, fun a j => if a = M.2.2.2 + 1 then (if j < n then M.2.2.2 + 2 + j else 0) else (if M.2.2.2 < a ∧ a ≤ M.2.2.2 + 1 + n then 0 else M.2.2.1 a j), M.2.2.2 + 1 + n)
def sw_nxm (M : sw_M) (n k : Nat) : Bool := decide (sw_lay[rd_N M]? = some (19, n)) && (List.range n).all (fun j => decide (sw_lay[rd_N M + 1 + j]? = some (13, k)))
theorem sw_mk_o (M : sw_M) {n b : Nat} (h : b ≤ rd_N M) (t k : Nat) : sw_pv (sw_mk M n) t b k = sw_pv M t b k := by
  have h1 : ¬ (M.2.2.2 < b ∧ b ≤ M.2.2.2 + 1 + n) := fun q => Nat.not_lt.mpr h q.1
  have h2 : ¬ b = M.2.2.2 + 1 := fun e => by have h' : b ≤ M.2.2.2 := h; omega
  have e1 : (sw_mk M n).1 b k = M.1 b k := if_neg h1
  have e2 : (sw_mk M n).2.1 b k = M.2.1 b k := if_neg h1
  have e3 : (sw_mk M n).2.2.1 b k = M.2.2.1 b k := (if_neg h2).trans (if_neg h1)
  match t with
  | 0 => exact congrArg Value.int e1
  | 1 => exact congrArg Value.long e2
  | 2 => exact congrArg Value.ref e3
  | n + 3 => exact congrArg Value.int e1
theorem sw_outer (c : ClassId) (N h0 : Nat) : ∀ i : Nat, Jvm.Free.Multi.outerC c N h0 i = arrV c N (fun j => if j < i then .ref (h0 + 1 + j) else .null)
  | 0 => by
    show ({ cls := c, slots := Array.replicate N .null, vm := .none } : Cell) = _
    rw [sw_arrV_rep]
    congr 1
  | i + 1 => by
    show (Jvm.Free.Multi.outerC c N h0 i).setSlot i (.ref (h0 + 1 + i)) = _
    rw [sw_outer c N h0 i, arrV_store]
    congr 1
    funext j
    unfold updV
    by_cases h1 : j = i
    · subst h1
      rw [if_pos rfl, if_pos (Nat.lt_succ_self j)]
    · rw [if_neg h1]
      show (if j < i then Value.ref (h0 + 1 + j) else Value.null) = _
      by_cases h2 : j < i
      · rw [if_pos h2, if_pos (Nat.lt_succ_of_lt h2)]
      · rw [if_neg h2, if_neg (by omega)]
theorem sw_us_m {N n k : Nat} (h0 : sw_lay[N]? = some (19, n)) (h1 : ∀ j, j < n → sw_lay[N + 1 + j]? = some (13, k)) : ∀ j, j ≤ n → sw_us (N + 1 + j) = sw_us N + n + j * k
  | 0, _ => by
    show sw_us (N + 1) = _
    rw [sw_us_succ h0]
    show sw_us N + n = _
    omega
  | j + 1, h => by
    show sw_us (N + 1 + j + 1) = _
    rw [sw_us_succ (h1 j h), sw_us_m h0 h1 j (Nat.le_of_succ_le h), Nat.succ_mul]
    show sw_us N + n + j * k + k = _
    omega
section Multi
variable {g : sw_G} {o : Nat} {ini : Bool} {cc : ByteArray} {x : sw_Ct} {pc : Nat} {lv : List (Nat × Value)} {st : List Value} {M M' : sw_M}
theorem sw_r_multi (hX : sw_X g o ini cc x) {i : Nat} {n k0 : Int32} (hd : decode cc pc = .ok (.multianewarray i 2, 4)) (hf : sw_mck o i = true) (hn0 : ¬ n < 0) (hk0 : ¬ k0 < 0) (hnb : n.toNatClampNeg ≤ 60000) (hkb : k0.toNatClampNeg ≤ 60000) (hl : sw_nxm M n.toNatClampNeg k0.toNatClampNeg = true) (k : sw_W g x (pc + 4) lv (.ref (rd_N M + 1) :: st) (sw_mk M n.toNatClampNeg)) : sw_W g x pc lv (.int k0 :: .int n :: st) M := by
  refine ⟨Nat.le_trans (show rd_N M ≤ rd_N (sw_mk M n.toNatClampNeg) by show rd_N M ≤ rd_N M + 1 + n.toNatClampNeg; omega) k.1, fun H locs ls hH => ?_⟩
  unfold sw_nxm at hl
  simp only [Bool.and_eq_true, decide_eq_true_eq] at hl
  obtain ⟨hl0, hl1⟩ := hl
  have hl1 : ∀ j, j < n.toNatClampNeg → sw_lay[rd_N M + 1 + j]? = some (13, k0.toNatClampNeg) := fun j hj => of_decide_eq_true (List.all_eq_true.mp hl1 j (List.mem_range.mpr hj))
  obtain ⟨hx, hb, hown, hts, hK, hB, -, hcl, hsl⟩ := id hX
  have hend : rd_N M + 1 + n.toNatClampNeg ≤ x_1 x := k.1
  have h0 := hH.2.2.2
  have u1 := sw_us_m hl0 hl1 _ (Nat.le_refl _)
  have u2 := sw_us_mono h0
  have u3 := sw_us_mono hend
  intro T hT Xs
  obtain ⟨vm₁, cA, comp, -, fA, fC, hO, -, X', step⟩ := Xs.multianewarray2F hx hown (hts _ (sw_mck_spec hf)) (hts _ sw_t_ints) (hts _ sw_t_int) (g := F0 (x_m x) pc ls ((Value.int k0 :: Value.int n :: st).map (sw_tr g))) rfl (by rw [hb]; exact hd) rfl hn0 hk0 (Nat.le_trans (Nat.mul_le_mul_right 4 hnb) (by decide)) (Nat.le_trans (Nat.mul_le_mul_right 4 hkb) (by decide)) (Nat.le_trans hkb (by decide)) rfl rfl (by omega) (by omega)
  have ec : comp = g_A g 0 := Option.some.inj (fC.symm.trans (hK.2 0 _ rfl).2)
  have ea : cA = g_A g 6 := Option.some.inj (fA.symm.trans (hK.2 6 _ rfl).2)
  subst ec
  subst ea
  generalize hF : Jvm.Free.Multi.fill (T.setVm vm₁) (g_A g 6) (g_A g 0) n.toNatClampNeg k0.toNatClampNeg (defaultValue .int) n.toNatClampNeg = F at X' step
  have hTh : (T.setVm vm₁).heap = H := hT
  obtain ⟨f1, f2, -, -⟩ := Jvm.Free.Multi.fill_facts (T.setVm vm₁) (g_A g 6) (g_A g 0) n.toNatClampNeg k0.toNatClampNeg (defaultValue .int) n.toNatClampNeg
  rw [hF, hTh] at f1 f2
  have hold : ∀ q : Nat, q < H.size → F.heap[q]? = H[q]? := fun q hq => by
    have := Jvm.Free.Multi.fill_old (T.setVm vm₁) (g_A g 6) (g_A g 0) n.toNatClampNeg k0.toNatClampNeg (defaultValue .int) (a := q) (by rw [hTh]; exact hq) n.toNatClampNeg
    rw [hF, hTh] at this
    exact this
  have hrow : ∀ j : Nat, j < n.toNatClampNeg → F.heap[H.size + 1 + j]? = some (arrV (g_A g 0) k0.toNatClampNeg (fun _ => .int 0)) := fun j hj => by
    have := Jvm.Free.Multi.fill_inner (T.setVm vm₁) (g_A g 6) (g_A g 0) n.toNatClampNeg k0.toNatClampNeg (defaultValue .int) n.toNatClampNeg j hj
    rw [hF, hTh] at this
    rw [this]
    exact congrArg some (sw_arrV_rep _ _ _)
  rw [sw_outer] at f2
  have hsz := hH.1.1
  have hR' : sw_R g (sw_mk M n.toNatClampNeg) F.heap := by
    refine ⟨by rw [f1, hsz]; show _ = g_B g + (rd_N M + 1 + n.toNatClampNeg); omega, ?_, fun b hb => ?_⟩
    · show rd_N M + 1 + n.toNatClampNeg ≤ _
      by_cases e : n.toNatClampNeg = 0
      · rw [e]; exact sw_lay_lt hl0
      · have := sw_lay_lt (hl1 (n.toNatClampNeg - 1) (by omega))
        omega
    · have hb' : b < rd_N M + 1 + n.toNatClampNeg := hb
      by_cases e1 : b < rd_N M
      · exact sw_at_kept (hH.1.2.2 b e1) (hold _ (by rw [hsz]; omega)) (sw_mk_o M (by omega))
      · by_cases e2 : b = rd_N M
        · subst e2
          unfold sw_at
          rw [hl0]
          simp only [show ¬ 19 < 13 by decide, if_false]
          rw [← hsz, f2]
          congr 2
          funext j
          have e3 : sw_pv (sw_mk M n.toNatClampNeg) 2 (rd_N M + 1) j = .ref (if j < n.toNatClampNeg then rd_N M + 2 + j else 0) := congrArg Value.ref (if_pos rfl)
          show _ = sw_tr g (sw_pv (sw_mk M n.toNatClampNeg) 2 (rd_N M + 1) j)
          rw [e3]
          by_cases hj : j < n.toNatClampNeg
          · rw [if_pos hj, if_pos hj, hsz, show rd_N M + 2 + j = (rd_N M + 1 + j) + 1 by omega]
            exact congrArg Value.ref (show g_B g + rd_N M + 1 + j = g_B g + (rd_N M + 1 + j) by omega)
          · rw [if_neg hj, if_neg hj]
            rfl
        · obtain ⟨j, rfl⟩ : ∃ j, b = rd_N M + 1 + j := ⟨b - (rd_N M + 1), by omega⟩
          have hj : j < n.toNatClampNeg := by omega
          unfold sw_at
          rw [hl1 j hj]
          simp only [show ¬ 13 < 13 by decide, if_false]
          rw [show g_B g + (rd_N M + 1 + j) = H.size + 1 + j by omega, hrow j hj]
          congr 2
          funext i
          have e3 : sw_pv (sw_mk M n.toNatClampNeg) 0 (rd_N M + 1 + j + 1) i = .int 0 := congrArg Value.int (if_pos ⟨by show rd_N M < _; omega, by show _ ≤ rd_N M + 1 + _; omega⟩)
          show _ = sw_tr g (sw_pv (sw_mk M n.toNatClampNeg) 0 (rd_N M + 1 + j + 1) i)
          rw [e3]
          rfl
  have h := k.2 F.heap locs ls ⟨hR', sw_S_new hH.2.1 (by omega) hold, hH.2.2.1, by show x_0 x ≤ rd_N M + 1 + _; omega⟩
  have e5 : rd_N (sw_mk M n.toNatClampNeg) = rd_N M + 1 + n.toNatClampNeg := rfl
  unfold sw_V at h
  rw [e5, u1, show rd_N M + 1 + n.toNatClampNeg - x_0 x = rd_N M - x_0 x + 1 + n.toNatClampNeg by omega, show sw_us (rd_N M) + n.toNatClampNeg + n.toNatClampNeg * k0.toNatClampNeg - sw_us (x_0 x) = sw_us (rd_N M) - sw_us (x_0 x) + n.toNatClampNeg + n.toNatClampNeg * k0.toNatClampNeg by omega] at h
  obtain ⟨t, a1, b1⟩ := h F rfl X'
  refine ⟨t, step t ?_, b1⟩
  have e4 : sw_tr g (.ref (rd_N M + 1)) = .ref T.heap.size := by rw [hT, hsz]; rfl
  rw [List.map_cons, e4] at a1
  exact a1
end Multi
