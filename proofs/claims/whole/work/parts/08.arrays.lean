/-! 08: arrays -/
section Arrays
variable {g : sw_G} {o : Nat} {ini : Bool} {cc : ByteArray} {x : sw_Ct} {pc : Nat} {lv : List (Nat × Value)} {st : List Value} {M M' : sw_M}
theorem sw_tys_at {U : State} (hK : va_K (g_D g) sw_cl (sw_tys g) U) {t : Nat} {ty : FieldType} (h : (sw_tys g)[t]? = some (g_A g t, ty)) : ArrOfT U (g_A g t) ty := (hK.2 t _ h).1
theorem sw_arrV_at (cA : ClassId) (n : Nat) (f : Nat → Value) {j : Nat} (h : j < n) : (arrV cA n f).slots[j]? = some (f j) := by
  unfold arrV
  simp [h]
theorem sw_in_n {i : Int32} {n : Nat} (h : ¬ (i < 0 ∨ n ≤ i.toNatClampNeg)) : i.toNatClampNeg < n := Nat.not_le.mp fun q => h (Or.inr q)
theorem sw_in_s {i : Int32} {n : Nat} (cA : ClassId) (f : Nat → Value) (h : ¬ (i < 0 ∨ n ≤ i.toNatClampNeg)) : ¬ (i < 0 ∨ (arrV cA n f).slots.size ≤ i.toNatClampNeg) := by
  rw [arrV_size]; exact h
theorem sw_r_iald (hX : sw_X g o ini cc x) {q : Nat} {i : Int32} (hd : decode cc pc = .ok (.iaload, 1)) (hq : sw_ar M q 13 i = true) (k : sw_W g x (pc + 1) lv (.int (rd_I M q i.toNatClampNeg) :: st) M) : sw_W g x pc lv (.int i :: .ref q :: st) M := by
  refine ⟨k.1, fun H locs ls hH => ?_⟩
  obtain ⟨hx, hb, -, -, hK, -⟩ := hX
  obtain ⟨a, n, rfl, hl, ha, hin⟩ := sw_ar_spec hq
  exact W.iald hx hb (sw_R_arr hH.1 hl ha (by decide)) (sw_tys_at hK (t := 0) rfl n _) (fun h => by cases h) (sw_in_s _ _ hin) (sw_arrV_at _ _ _ (sw_in_n hin)) rfl rfl hd (k.2 H locs ls hH)
theorem sw_r_lald (hX : sw_X g o ini cc x) {q : Nat} {i : Int32} (hd : decode cc pc = .ok (.laload, 1)) (hq : sw_ar M q 16 i = true) (k : sw_W g x (pc + 1) lv (.long (rd_L M q i.toNatClampNeg) :: st) M) : sw_W g x pc lv (.int i :: .ref q :: st) M := by
  refine ⟨k.1, fun H locs ls hH => ?_⟩
  obtain ⟨hx, hb, -, -, hK, -⟩ := hX
  obtain ⟨a, n, rfl, hl, ha, hin⟩ := sw_ar_spec hq
  exact W.lald hx hb (sw_R_arr hH.1 hl ha (by decide)) (sw_tys_at hK (t := 3) rfl n _) (fun h => by cases h) (sw_in_s _ _ hin) (sw_arrV_at _ _ _ (sw_in_n hin)) rfl rfl hd (k.2 H locs ls hH)
theorem sw_r_bald (hX : sw_X g o ini cc x) {q : Nat} {i : Int32} (hd : decode cc pc = .ok (.baload, 1)) (hq : (sw_ar M q 14 i || sw_ar M q 15 i) = true) (k : sw_W g x (pc + 1) lv (.int (rd_I M q i.toNatClampNeg) :: st) M) : sw_W g x pc lv (.int i :: .ref q :: st) M := by
  refine ⟨k.1, fun H locs ls hH => ?_⟩
  obtain ⟨hx, hb, -, -, hK, -⟩ := hX
  rcases Bool.or_eq_true _ _ |>.mp hq with hq | hq
  · obtain ⟨a, n, rfl, hl, ha, hin⟩ := sw_ar_spec hq
    exact W.bald hx hb (sw_R_arr hH.1 hl ha (by decide)) (sw_tys_at hK (t := 1) rfl n _) (fun h => by cases h) (sw_in_s _ _ hin) (sw_arrV_at _ _ _ (sw_in_n hin)) rfl rfl hd (k.2 H locs ls hH)
  · obtain ⟨a, n, rfl, hl, ha, hin⟩ := sw_ar_spec hq
    exact W.zald hx hb (sw_R_arr hH.1 hl ha (by decide)) (sw_tys_at hK (t := 2) rfl n _) (fun h => by cases h) (sw_in_s _ _ hin) (sw_arrV_at _ _ _ (sw_in_n hin)) rfl rfl hd (k.2 H locs ls hH)
theorem sw_r_aald (hX : sw_X g o ini cc x) {q : Nat} {i : Int32} (hd : decode cc pc = .ok (.aaload, 1)) (hq : (sw_ar M q 17 i || (sw_ar M q 18 i || sw_ar M q 19 i)) = true) (k : sw_W g x (pc + 1) lv (.ref (rd_R M q i.toNatClampNeg) :: st) M) : sw_W g x pc lv (.int i :: .ref q :: st) M := by
  refine ⟨k.1, fun H locs ls hH => ?_⟩
  obtain ⟨hx, hb, -, -, hK, -⟩ := hX
  rcases Bool.or_eq_true _ _ |>.mp hq with hq | hq
  · obtain ⟨a, n, rfl, hl, ha, hin⟩ := sw_ar_spec hq
    exact W.aald hx hb (sw_R_arr hH.1 hl ha (by decide)) (sw_tys_at hK (t := 4) rfl n _) rfl (fun h => by cases h) (sw_in_s _ _ hin) (sw_arrV_at _ _ _ (sw_in_n hin)) rfl rfl hd (k.2 H locs ls hH)
  · rcases Bool.or_eq_true _ _ |>.mp hq with hq | hq
    · obtain ⟨a, n, rfl, hl, ha, hin⟩ := sw_ar_spec hq
      exact W.aald hx hb (sw_R_arr hH.1 hl ha (by decide)) (sw_tys_at hK (t := 5) rfl n _) rfl (fun h => by cases h) (sw_in_s _ _ hin) (sw_arrV_at _ _ _ (sw_in_n hin)) rfl rfl hd (k.2 H locs ls hH)
    · obtain ⟨a, n, rfl, hl, ha, hin⟩ := sw_ar_spec hq
      exact W.aald hx hb (sw_R_arr hH.1 hl ha (by decide)) (sw_tys_at hK (t := 6) rfl n _) rfl (fun h => by cases h) (sw_in_s _ _ hin) (sw_arrV_at _ _ _ (sw_in_n hin)) rfl rfl hd (k.2 H locs ls hH)
theorem sw_lay_kd : sw_lay.all (fun q => Nat.blt q.1 20) = true := by decide +kernel
theorem sw_tys_kd {kd : Nat} (h : 13 ≤ kd) (h2 : kd < 20) : ∃ ty, (sw_tys g)[kd - 13]? = some (g_A g (kd - 13), ty) := by
  match kd, h, h2 with
  | 13, _, _ => exact ⟨_, rfl⟩
  | 14, _, _ => exact ⟨_, rfl⟩
  | 15, _, _ => exact ⟨_, rfl⟩
  | 16, _, _ => exact ⟨_, rfl⟩
  | 17, _, _ => exact ⟨_, rfl⟩
  | 18, _, _ => exact ⟨_, rfl⟩
  | 19, _, _ => exact ⟨_, rfl⟩
  | n + 20, _, h => omega
theorem sw_r_alen (hX : sw_X g o ini cc x) {q : Nat} (hd : decode cc pc = .ok (.arraylength, 1)) (hq : sw_oka M q = true) (k : sw_W g x (pc + 1) lv (.int (nI (sw_len q)) :: st) M) : sw_W g x pc lv (.ref q :: st) M := by
  refine ⟨k.1, fun H locs ls hH => ?_⟩
  obtain ⟨hx, hb, -, -, hK, -⟩ := hX
  obtain ⟨a, kd, n, rfl, hl, h13, ha⟩ := sw_oka_spec hq
  have hkd : kd < 20 := by
    have h := List.all_eq_true.mp sw_lay_kd (kd, n) (List.mem_of_getElem? hl)
    simpa using h
  obtain ⟨ty, hty⟩ := sw_tys_kd (g := g) h13 hkd
  have hn : sw_len (a + 1) = n := by
    unfold sw_len sw_sh
    simp only [hl]
  refine W.alen (n := nI (sw_len (a + 1))) hx hb (sw_R_arr hH.1 hl ha h13) (sw_tys_at hK hty n _) (by rw [arrV_size, hn]; rfl) rfl rfl hd (k.2 H locs ls hH)
/-- an element is written -/
theorem sw_astc {H H' : Heap} {kd n a j : Nat} {v : Value} (hR : sw_R g M H) (hl : sw_lay[a]? = some (kd, n)) (h13 : 13 ≤ kd) (e1 : H'[g_B g + a]? = some ((arrV (g_A g (kd - 13)) n (fun j => sw_tr g (sw_pv M (sw_et kd) (a + 1) j))).setSlot j (sw_tr g v))) (e2 : H'.size = H.size) (e3 : ∀ q, q ≠ g_B g + a → H'[q]? = H[q]?) (hN : rd_N M' = rd_N M) (hoth : ∀ b, b ≠ a + 1 → ∀ t k, sw_pv M' t b k = sw_pv M t b k) (hself : ∀ i, sw_pv M' (sw_et kd) (a + 1) i = if i = j then v else sw_pv M (sw_et kd) (a + 1) i) : sw_R g M' H' := by
  refine sw_R_set hR e2 e3 hN (fun b hb => hoth (b + 1) (fun e => hb (Nat.succ.inj e))) ?_
  unfold sw_at
  rw [hl]
  simp only [show ¬ kd < 13 from Nat.not_lt.mpr h13, if_false]
  rw [e1, arrV_store]
  congr 2
  funext i
  rw [hself i]
  unfold updV
  split <;> rfl
theorem sw_go {H' : Heap} {locs' : List Loc} {ls : Array Slot} {pc' : Nat} (hN : rd_N M' = rd_N M) (k : sw_W g x pc' lv st M') (h : sw_H g x H' locs' M' ls lv) : W (x_p x) (g_l g) (x_e x) (x_R x) (x_s x) (x_m x) (x_a x) (x_b x) (x_h x) (x_c x) H' locs' (rd_N M - x_0 x) (sw_us (rd_N M) - sw_us (x_0 x)) (x_Q x) (F0 (x_m x) pc' ls (st.map (sw_tr g))) := by
  have h := k.2 H' locs' ls h
  unfold sw_V at h
  rw [hN] at h
  exact h
theorem sw_r_iast (hX : sw_X g o ini cc x) {q : Nat} {i v : Int32} (hd : decode cc pc = .ok (.iastore, 1)) (hq : sw_ar M q 13 i = true) (k : sw_W g x (pc + 1) lv st (wr_I M q i.toNatClampNeg v)) : sw_W g x pc lv (.int v :: .int i :: .ref q :: st) M := by
  refine ⟨k.1, fun H locs ls hH => ?_⟩
  obtain ⟨hx, hb, -, -, hK, -⟩ := hX
  obtain ⟨a, n, rfl, hl, ha, hin⟩ := sw_ar_spec hq
  refine W.iast hx hb (sw_R_arr hH.1 hl ha (by decide)) (sw_tys_at hK (t := 0) rfl n _) (fun h => by cases h) (sw_in_s _ _ hin) rfl rfl hd fun H' e1 e2 e3 => ?_
  exact sw_go (M' := wr_I M (a + 1) i.toNatClampNeg v) rfl k ⟨sw_astc (M' := wr_I M (a + 1) i.toNatClampNeg v) (v := .int v) hH.1 hl (by decide) e1 e2 e3 rfl (fun b hb => sw_pI_o M _ v hb) (sw_pI_s M (a + 1) _ v (fun _ => 0) (by decide)), hH.2.1.put e2 e3 (Nat.le_add_right _ _), hH.2.2.1, hH.2.2.2⟩
theorem sw_r_last (hX : sw_X g o ini cc x) {q : Nat} {i : Int32} {v : Int64} (hd : decode cc pc = .ok (.lastore, 1)) (hq : sw_ar M q 16 i = true) (k : sw_W g x (pc + 1) lv st (wr_L M q i.toNatClampNeg v)) : sw_W g x pc lv (.long v :: .int i :: .ref q :: st) M := by
  refine ⟨k.1, fun H locs ls hH => ?_⟩
  obtain ⟨hx, hb, -, -, hK, -⟩ := hX
  obtain ⟨a, n, rfl, hl, ha, hin⟩ := sw_ar_spec hq
  refine W.last hx hb (sw_R_arr hH.1 hl ha (by decide)) (sw_tys_at hK (t := 3) rfl n _) (fun h => by cases h) (sw_in_s _ _ hin) rfl rfl hd fun H' e1 e2 e3 => ?_
  exact sw_go (M' := wr_L M (a + 1) i.toNatClampNeg v) rfl k ⟨sw_astc (M' := wr_L M (a + 1) i.toNatClampNeg v) (v := .long v) hH.1 hl (by decide) e1 e2 e3 rfl (fun b hb => sw_pL_o M _ v hb) (sw_pL_s M (a + 1) _ v (fun _ => 1) rfl), hH.2.1.put e2 e3 (Nat.le_add_right _ _), hH.2.2.1, hH.2.2.2⟩
theorem sw_r_bast (hX : sw_X g o ini cc x) {q : Nat} {i v : Int32} (hd : decode cc pc = .ok (.bastore, 1)) (hq : ((sw_ar M q 14 i && decide (v.toInt8.toInt32 = v)) || (sw_ar M q 15 i && sw_bz v)) = true) (k : sw_W g x (pc + 1) lv st (wr_I M q i.toNatClampNeg v)) : sw_W g x pc lv (.int v :: .int i :: .ref q :: st) M := by
  refine ⟨k.1, fun H locs ls hH => ?_⟩
  obtain ⟨hx, hb, -, -, hK, -⟩ := hX
  rcases Bool.or_eq_true _ _ |>.mp hq with hq | hq
  · obtain ⟨hq, hv⟩ := Bool.and_eq_true _ _ |>.mp hq
    have hv := of_decide_eq_true hv
    obtain ⟨a, n, rfl, hl, ha, hin⟩ := sw_ar_spec hq
    refine W.bast hx hb (sw_R_arr hH.1 hl ha (by decide)) (sw_tys_at hK (t := 1) rfl n _) (fun h => by cases h) (sw_in_s _ _ hin) rfl rfl hd fun H' e1 e2 e3 => ?_
    have hnv : narrow .byte (.int v) = .int v := by rw [← hv]; exact pk_nb v
    rw [hnv] at e1
    exact sw_go (M' := wr_I M (a + 1) i.toNatClampNeg v) rfl k ⟨sw_astc (M' := wr_I M (a + 1) i.toNatClampNeg v) (v := .int v) hH.1 hl (by decide) e1 e2 e3 rfl (fun b hb => sw_pI_o M _ v hb) (sw_pI_s M (a + 1) _ v (fun _ => 0) (by decide)), hH.2.1.put e2 e3 (Nat.le_add_right _ _), hH.2.2.1, hH.2.2.2⟩
  · obtain ⟨hq, hv⟩ := Bool.and_eq_true _ _ |>.mp hq
    obtain ⟨a, n, rfl, hl, ha, hin⟩ := sw_ar_spec hq
    refine W.zast hx hb (sw_R_arr hH.1 hl ha (by decide)) (sw_tys_at hK (t := 2) rfl n _) (fun h => by cases h) (sw_in_s _ _ hin) rfl rfl hd fun H' e1 e2 e3 => ?_
    rw [(sw_nar_bz hv).1] at e1
    exact sw_go (M' := wr_I M (a + 1) i.toNatClampNeg v) rfl k ⟨sw_astc (M' := wr_I M (a + 1) i.toNatClampNeg v) (v := .int v) hH.1 hl (by decide) e1 e2 e3 rfl (fun b hb => sw_pI_o M _ v hb) (sw_pI_s M (a + 1) _ v (fun _ => 0) (by decide)), hH.2.1.put e2 e3 (Nat.le_add_right _ _), hH.2.2.1, hH.2.2.2⟩
end Arrays
