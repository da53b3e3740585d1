/-! 43: from the law's entry: all that is left is the function's run -/
theorem sw_l1 : Jvm.Cond.laysStatic "java/lang/String" "COMPACT_STRINGS" "Z" ∈ lw_tbl := List.mem_append_right _ (List.mem_of_getElem? (i := 522) (by decide +kernel))
theorem sw_l2 : Jvm.Cond.laysStatic "jdk/internal/util/Preconditions" "SIOOBE_FORMATTER" "Ljava/util/function/BiFunction;" ∈ lw_tbl := List.mem_append_right _ (List.mem_of_getElem? (i := 538) (by decide +kernel))
theorem sw_l3 : Jvm.Cond.stringRef "SwarmHouse$Reader" 179 sw_txt0 ∈ lw_tbl := List.mem_append_right _ (List.mem_of_getElem? (i := 512) (by decide +kernel))
theorem sw_l4 : Jvm.Cond.stringRef "SwarmHouseModel" 202 sw_txt1 ∈ lw_tbl := List.mem_append_right _ (List.mem_of_getElem? (i := 1482) (by decide +kernel))
theorem sw_l5 : Jvm.Cond.initialized "java/lang/String" ∈ lw_tbl := List.mem_append_right _ (List.mem_of_getElem? (i := 14) (by decide +kernel))
theorem sw_l6 : Jvm.Cond.initialized "jdk/internal/util/Preconditions" ∈ lw_tbl := List.mem_append_right _ (List.mem_of_getElem? (i := 16) (by decide +kernel))
def sw_tm (i : Nat) : Term := if i = 0 then .string "SwarmHouse$Reader" 179 else .string "SwarmHouseModel" 202
theorem sw_two {i : Nat} (h : i < 2) : i = 0 ∨ i = 1 := by omega
set_option maxRecDepth 20000 in
set_option maxHeartbeats 4000000 in
theorem sw_start {p : Program} {e : Env} {s : State} {m : MethodId} {below : List Frame} {meth : Method} {c : Code} (l : Launch) {b L : Nat} {xs : Nat → Int32} (C0 : lw_At p s m meth c b L xs) (hrun : ∃ (N : Nat) (Mz : sw_M), f_Law_law N L xs sw_M0 = some (1, Mz) ∧ rd_N Mz ≤ 178) : W p l e room_1 s m #[Value.ref b] below meth c s.heap [] 0 0 (lw_Z below #[Value.ref b] s) (entryFrame m ([Value.ref b] : List Value).toArray 4) := by
  obtain ⟨hx, hb, hr, hml, hown, hts, hXs, hbl, hlocks, hgv⟩ := id C0
  have hts' : ∀ w ∈ sw_ws, w.before #[Value.ref b] s = true := fun w hw => hts w (List.mem_filter.mp hw).1
  have hA0 : ∀ a : Nat, a < s.heap.size → ¬ (fun q : Nat => s.heap.size ≤ q) a := fun a h q => Nat.not_le.mpr h q
  have hfl := flat_of_before _ hgv
  obtain ⟨dC, dI, hKc⟩ := sw_known hts'
  obtain ⟨dA, hAr⟩ := sw_arrs hts'
  obtain ⟨adK, adV, hS, hev⟩ := vk_Sof (args := #[Value.ref b]) (s := s) (N := 2) (tm := sw_tm) (len := [120, 73]) (byt := [sw_byt sw_txt0, sw_byt sw_txt1]) (A := fun q : Nat => s.heap.size ≤ q)
    (fun i hi => by rcases sw_two hi with rfl | rfl <;> decide)
    (fun i hi => by rcases sw_two hi with rfl | rfl; exact hfl _ sw_flat0.1; exact hfl _ sw_flat1.1)
    (fun i hi => by rcases sw_two hi with rfl | rfl; exact hfl _ sw_flat0.2.1; exact hfl _ sw_flat1.2.1)
    (fun i hi => by rcases sw_two hi with rfl | rfl; exact hfl _ sw_flat0.2.2.1; exact hfl _ sw_flat1.2.2.1)
    (fun i hi => by rcases sw_two hi with rfl | rfl; exact hfl _ sw_flat0.2.2.2; exact hfl _ sw_flat1.2.2.2)
    (fun i hi j hj => by rcases sw_two hi with rfl | rfl; exact hfl _ (sw_hel0 j hj); exact hfl _ (sw_hel1 j hj))
    (fun i j hi hj hij => by rcases sw_two hi with rfl | rfl <;> rcases sw_two hj with rfl | rfl; exact absurd rfl hij; exact Or.inl (hfl _ sw_flatn); exact Or.inr (hfl _ sw_flatn); exact absurd rfl hij) hA0
  have z1 := va_Zof (hts _ sw_l1) (hts _ sw_l5) (va_eqi (hfl _ sw_flatc)) hA0
  obtain ⟨fm, z2⟩ : ∃ fm : Nat, va_Z "jdk/internal/util/Preconditions" "SIOOBE_FORMATTER" "Ljava/util/function/BiFunction;" .null (fun q : Nat => s.heap.size ≤ q) s s.heap ∨ va_Z "jdk/internal/util/Preconditions" "SIOOBE_FORMATTER" "Ljava/util/function/BiFunction;" (.ref fm) (fun q : Nat => s.heap.size ≤ q) s s.heap := by
    rcases va_Zqof (hts _ sw_l2) (hts _ sw_l6) (hfl _ sw_flatf) hA0 with h | ⟨t, h⟩
    · exact ⟨0, Or.inl h⟩
    · exact ⟨t, Or.inr h⟩
  obtain ⟨X, x0, x1, x10, x11, x20, x30⟩ : ∃ X : Nat → Nat, X 0 = adK 0 ∧ X 1 = adK 1 ∧ X 10 = adV 0 ∧ X 11 = adV 1 ∧ X 20 = fm ∧ X 30 = b := ⟨fun k => if k = 0 then adK 0 else if k = 1 then adK 1 else if k = 10 then adV 0 else if k = 11 then adV 1 else if k = 20 then fm else b, rfl, rfl, rfl, rfl, rfl, rfl⟩
  obtain ⟨g, hg⟩ : ∃ g : sw_G, g = (l, (dC, dI), s.heap.size, X, dA) := ⟨_, rfl⟩
  have hgl : g_l g = l := by rw [hg]
  have hE : sw_E g s := by
    rw [hg]
    refine ⟨⟨hKc, hAr⟩, ⟨fun i hi => ?_, fun i j hi hj h => ?_⟩, ?_, ?_, z1, ?_⟩
    · have h := hS.1 i hi
      rcases sw_two hi with rfl | rfl
      · show va_O _ (X 0) _ _ _ ∧ va_OF _ _ _ _ (X 0) _ _ _ ∧ va_OF _ _ _ (.ref (X 10)) (X 0) _ _ _ ∧ va_T _ (X 10) _ _ _ _ _
        rw [x0, x10]; exact h
      · show va_O _ (X 1) _ _ _ ∧ va_OF _ _ _ _ (X 1) _ _ _ ∧ va_OF _ _ _ (.ref (X 11)) (X 1) _ _ _ ∧ va_T _ (X 11) _ _ _ _ _
        rw [x1, x11]; exact h
    · have h2 := hS.2 i j hi hj
      rcases sw_two hi with rfl | rfl <;> rcases sw_two hj with rfl | rfl
      · rfl
      · exact h2 (by rw [← x0, ← x1]; exact h)
      · exact h2 (by rw [← x0, ← x1]; exact h)
      · rfl
    · show vk_R _ _ _ (X 0) _
      rw [x0]; exact vk_R.of (hts _ sw_l3) (hev 0 (by decide))
    · show vk_R _ _ _ (X 1) _
      rw [x1]; exact vk_R.of (hts _ sw_l4) (hev 1 (by decide))
    · show _ ∨ va_Z _ _ _ (.ref (X 20)) _ _ _
      rw [x20]; exact z2
  have hB : g_B g = s.heap.size := by rw [hg]
  have hX30 : g_X g 30 = b := by rw [hg]; exact x30
  have hXl : sw_Xl g k_Law_law 120 (p, e, room_1, s, m, #[Value.ref b], below, meth, c, lw_Z below #[Value.ref b] s, 0, 178) := ⟨⟨hx, hb, hown, hts', hE.1, Nat.le_of_eq hB, (fun h => by cases h), (by decide : 178 - 0 ≤ 600000), (by decide +kernel : sw_us 178 - sw_us 0 ≤ 7302250)⟩, hE, ⟨(by decide : 120 ≤ 2048), (by decide : 100 * 120 ≤ 84000)⟩, hml, trivial⟩
  obtain ⟨N, Mz, hf, hz⟩ := hrun
  have hW := t_Law_law (d := 120) (by decide) hXl (L := L) (xs := xs) (by rw [hX30]; exact hXs) (by rw [hX30]; exact hbl) (by rw [hX30, hB]; exact Nat.not_le.mpr hbl) (fun pc M lv hz hd => sw_lawend hXl hr hlocks hB pc M hz hd) (r := (1, Mz)) rfl hz hf
  have hl := lv_entry ([.ref b]) (n := 4) (Nat.le_of_ble_eq_true rfl)
  rw [lg_entry_eq]
  have hh := hW.2 s.heap [] _ ⟨⟨by rw [hB]; rfl, Nat.zero_le _, fun a ha => absurd ha (Nat.not_lt_zero a)⟩, va_S.rf, by show lv_has _ c.maxLocals [(0, .ref (g_X g 30))]; rw [hX30, hml]; exact hl, Nat.le_refl _⟩
  unfold sw_V at hh
  rw [hgl] at hh
  exact hh
