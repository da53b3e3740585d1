/-! 97zd: four levels -/
theorem lv_product (T : Nat → Nat) (n q D N : Nat) (hN : 1000 ≤ N) (rc : Nat → Int32 → sw_M → Option (Int32 × sw_M)) (a1 : Int32) (hs : LV T n q 7 D (f_Reader_single N rc 17 a1)) : LV T n q 6 D (f_Reader_product N rc 17 a1) := by
  have h0 : ∀ (j : Nat) (i : Int32) (M : sw_M), f_Reader_product_8 N rc (j + 1) 17 a1 0 i M = some (0, M) := fun j i M => by
    rw [f_Reader_product_8]
    by_cases c : (48 : Int32) ≤ i
    · rw [if_pos c]; rfl
    · rw [if_neg c, if_pos rfl]; rfl
  intro M b k o P hz hP hD hk h48 h28
  unfold f_Reader_product
  rw [ok_17 hz.1.1.1, gd_T]
  rcases hs M b k o P hz (by omega) hD hk h48 (fun l h => h28 (by omega) h) with ⟨W, w1, w2⟩ | ⟨W, w1, w2⟩
  · rw [w1, bn_S]
    refine lp_all T n q 6 D N hN (by omega) (f_Reader_single N rc 17 a1) hs (fun j a2 a3 M => f_Reader_product_8 N rc j 17 a1 a2 a3 M) h0 ?_ ?_ M b k o P hP hD N 0 W (ILs_0 hP w2) (by omega)
    · intro j i M c hi hH h6 kc hc
      show f_Reader_product_8 N rc (j + 1) 17 a1 1 (nI i) M = _
      rw [f_Reader_product_8, if_neg (show ¬ (48 : Int32) ≤ nI i from (nI_ge hi (by omega) : ¬ nI 48 ≤ nI i)), if_neg (by decide), ok_17 hH.1, gd_T, h6, if_neg (show ¬ nI c = (9 : Int32) from fun h => hc (by rw [(nI_eq (by omega) (by decide)).1 (h : nI c = nI 9)]; decide)), if_neg (show ¬ nI c = (10 : Int32) from fun h => hc (by rw [(nI_eq (by omega) (by decide)).1 (h : nI c = nI 10)]; decide))]
      rfl
    · intro j i M c hi hH hq h6 kc hc V r hv hHV hqV
      have e : f_Reader_product_8 N rc (j + 1) 17 a1 1 (nI i) M = f_Reader_product_36 N rc (f_Reader_product_8 N rc j) 17 a1 (nI i) M := by
        rw [f_Reader_product_8, if_neg (show ¬ (48 : Int32) ≤ nI i from (nI_ge hi (by omega) : ¬ nI 48 ≤ nI i)), if_neg (by decide), ok_17 hH.1, gd_T, h6]
        rcases ob_6 c hc with rfl | rfl
        · rw [if_pos (by rfl)]
        · rw [if_neg (by decide), if_pos (by rfl)]
      have p62 : ∀ (X Y : sw_M) (s : Int32), HR X → rd_R X 18 1 = q → f_Rule_put N q (nI c) 0 X = some Y → f_Reader_product_62 N rc (f_Reader_product_8 N rc j) 17 a1 (nI i) (nI c) s X = f_Reader_product_8 N rc j 17 a1 s (nI (i + 1)) Y := fun X Y s hX hqX hY => by
        have hr := hX.rq.2
        rw [hqX] at hr
        unfold f_Reader_product_62
        rw [ok_17 hX.1, gd_T, hr_f hX 17 1 18 rfl (by decide), ok_18 hX.1, gd_T, hqX, hr.ok, gd_T, hY, bn_S, nI_1]
      show (_ → ∀ Y, _ → f_Reader_product_8 N rc (j + 1) 17 a1 1 (nI i) M = _) ∧ (_ → ∀ W s, _ → _ → _ → _ → ∀ Y, _ → f_Reader_product_8 N rc (j + 1) 17 a1 1 (nI i) M = _)
      rw [e]
      unfold f_Reader_product_36
      rw [ok_17 hH.1, gd_T, hv, bn_S, h6]
      refine ⟨fun r0 Y hY => ?_, fun r1 W s hs hHW hqW s01 Y hY => ?_⟩
      · subst r0
        exact p62 V Y 0 hHV hqV hY
      · subst r1
        show sw_gd [sw_ok V 17 6] ((f_Reader_single N rc 17 a1 V).bind _) = _
        rw [ok_17 hHV.1, gd_T, hs, bn_S]
        rcases s01 with rfl | rfl
        · exact p62 W Y 0 hHW hqW hY
        · exact p62 W Y 1 hHW hqW hY
  · rw [w1, bn_S]
    obtain ⟨N', rfl⟩ : ∃ x, N = x + 1 := ⟨N - 1, by omega⟩
    exact Or.inr ⟨W, h0 _ _ _, w2⟩
theorem lv_sum (T : Nat → Nat) (n q D N : Nat) (hN : 1000 ≤ N) (rc : Nat → Int32 → sw_M → Option (Int32 × sw_M)) (a1 : Int32) (hs : LV T n q 6 D (f_Reader_product N rc 17 a1)) : LV T n q 5 D (f_Reader_sum N rc 17 a1) := by
  have h0 : ∀ (j : Nat) (i : Int32) (M : sw_M), f_Reader_sum_8 N rc (j + 1) 17 a1 0 i M = some (0, M) := fun j i M => by
    rw [f_Reader_sum_8]
    by_cases c : (48 : Int32) ≤ i
    · rw [if_pos c]; rfl
    · rw [if_neg c, if_pos rfl]; rfl
  intro M b k o P hz hP hD hk h48 h28
  unfold f_Reader_sum
  rw [ok_17 hz.1.1.1, gd_T]
  rcases hs M b k o P hz (by omega) hD hk h48 (fun l h => h28 (by omega) h) with ⟨W, w1, w2⟩ | ⟨W, w1, w2⟩
  · rw [w1, bn_S]
    refine lp_all T n q 5 D N hN (by omega) (f_Reader_product N rc 17 a1) hs (fun j a2 a3 M => f_Reader_sum_8 N rc j 17 a1 a2 a3 M) h0 ?_ ?_ M b k o P hP hD N 0 W (ILs_0 hP w2) (by omega)
    · intro j i M c hi hH h6 kc hc
      show f_Reader_sum_8 N rc (j + 1) 17 a1 1 (nI i) M = _
      rw [f_Reader_sum_8, if_neg (show ¬ (48 : Int32) ≤ nI i from (nI_ge hi (by omega) : ¬ nI 48 ≤ nI i)), if_neg (by decide), ok_17 hH.1, gd_T, h6, if_neg (show ¬ nI c = (7 : Int32) from fun h => hc (by rw [(nI_eq (by omega) (by decide)).1 (h : nI c = nI 7)]; decide)), if_neg (show ¬ nI c = (8 : Int32) from fun h => hc (by rw [(nI_eq (by omega) (by decide)).1 (h : nI c = nI 8)]; decide))]
      rfl
    · intro j i M c hi hH hq h6 kc hc V r hv hHV hqV
      have e : f_Reader_sum_8 N rc (j + 1) 17 a1 1 (nI i) M = f_Reader_sum_36 N rc (f_Reader_sum_8 N rc j) 17 a1 (nI i) M := by
        rw [f_Reader_sum_8, if_neg (show ¬ (48 : Int32) ≤ nI i from (nI_ge hi (by omega) : ¬ nI 48 ≤ nI i)), if_neg (by decide), ok_17 hH.1, gd_T, h6]
        rcases ob_5 c hc with rfl | rfl
        · rw [if_pos (by rfl)]
        · rw [if_neg (by decide), if_pos (by rfl)]
      have p62 : ∀ (X Y : sw_M) (s : Int32), HR X → rd_R X 18 1 = q → f_Rule_put N q (nI c) 0 X = some Y → f_Reader_sum_62 N rc (f_Reader_sum_8 N rc j) 17 a1 (nI i) (nI c) s X = f_Reader_sum_8 N rc j 17 a1 s (nI (i + 1)) Y := fun X Y s hX hqX hY => by
        have hr := hX.rq.2
        rw [hqX] at hr
        unfold f_Reader_sum_62
        rw [ok_17 hX.1, gd_T, hr_f hX 17 1 18 rfl (by decide), ok_18 hX.1, gd_T, hqX, hr.ok, gd_T, hY, bn_S, nI_1]
      show (_ → ∀ Y, _ → f_Reader_sum_8 N rc (j + 1) 17 a1 1 (nI i) M = _) ∧ (_ → ∀ W s, _ → _ → _ → _ → ∀ Y, _ → f_Reader_sum_8 N rc (j + 1) 17 a1 1 (nI i) M = _)
      rw [e]
      unfold f_Reader_sum_36
      rw [ok_17 hH.1, gd_T, hv, bn_S, h6]
      refine ⟨fun r0 Y hY => ?_, fun r1 W s hs hHW hqW s01 Y hY => ?_⟩
      · subst r0
        exact p62 V Y 0 hHV hqV hY
      · subst r1
        show sw_gd [sw_ok V 17 6] ((f_Reader_product N rc 17 a1 V).bind _) = _
        rw [ok_17 hHV.1, gd_T, hs, bn_S]
        rcases s01 with rfl | rfl
        · exact p62 W Y 0 hHW hqW hY
        · exact p62 W Y 1 hHW hqW hY
  · rw [w1, bn_S]
    obtain ⟨N', rfl⟩ : ∃ x, N = x + 1 := ⟨N - 1, by omega⟩
    exact Or.inr ⟨W, h0 _ _ _, w2⟩
theorem lv_both (T : Nat → Nat) (n q D N : Nat) (hN : 1000 ≤ N) (rc : Nat → Int32 → sw_M → Option (Int32 × sw_M)) (a1 : Int32) (hs : LV T n q 3 D (f_Reader_denied N rc 17 a1)) : LV T n q 2 D (f_Reader_both N rc 17 a1) := by
  have h0 : ∀ (j : Nat) (i : Int32) (M : sw_M), f_Reader_both_8 N rc (j + 1) 17 a1 0 i M = some (0, M) := fun j i M => by
    rw [f_Reader_both_8]
    by_cases c : (48 : Int32) ≤ i
    · rw [if_pos c]; rfl
    · rw [if_neg c, if_pos rfl]; rfl
  intro M b k o P hz hP hD hk h48 h28
  unfold f_Reader_both
  rw [ok_17 hz.1.1.1, gd_T]
  rcases hs M b k o P hz (by omega) hD hk h48 (fun l h => h28 (by omega) h) with ⟨W, w1, w2⟩ | ⟨W, w1, w2⟩
  · rw [w1, bn_S]
    refine lp_all T n q 2 D N hN (by omega) (f_Reader_denied N rc 17 a1) hs (fun j a2 a3 M => f_Reader_both_8 N rc j 17 a1 a2 a3 M) h0 ?_ ?_ M b k o P hP hD N 0 W (ILs_0 hP w2) (by omega)
    · intro j i M c hi hH h6 kc hc
      show f_Reader_both_8 N rc (j + 1) 17 a1 1 (nI i) M = _
      rw [f_Reader_both_8, if_neg (show ¬ (48 : Int32) ≤ nI i from (nI_ge hi (by omega) : ¬ nI 48 ≤ nI i)), if_neg (by decide), ok_17 hH.1, gd_T, h6, if_neg (show ¬ nI c = (27 : Int32) from fun h => hc (by rw [(nI_eq (by omega) (by decide)).1 (h : nI c = nI 27)]; decide))]
      rfl
    · intro j i M c hi hH hq h6 kc hc V r hv hHV hqV
      obtain rfl := ob_2 c hc
      have p62 : ∀ (X Y : sw_M) (s : Int32), HR X → rd_R X 18 1 = q → f_Rule_put N q (nI 27) 0 X = some Y → f_Reader_both_47 N rc (f_Reader_both_8 N rc j) 17 a1 (nI i) s X = f_Reader_both_8 N rc j 17 a1 s (nI (i + 1)) Y := fun X Y s hX hqX hY => by
        have hr := hX.rq.2
        rw [hqX] at hr
        unfold f_Reader_both_47
        rw [ok_17 hX.1, gd_T, hr_f hX 17 1 18 rfl (by decide), ok_18 hX.1, gd_T, hqX, hr.ok, gd_T, show (27 : Int32) = nI 27 from rfl, hY, bn_S, nI_1]
      show (_ → ∀ Y, _ → f_Reader_both_8 N rc (j + 1) 17 a1 1 (nI i) M = _) ∧ (_ → ∀ W s, _ → _ → _ → _ → ∀ Y, _ → f_Reader_both_8 N rc (j + 1) 17 a1 1 (nI i) M = _)
      rw [f_Reader_both_8, if_neg (show ¬ (48 : Int32) ≤ nI i from (nI_ge hi (by omega) : ¬ nI 48 ≤ nI i)), if_neg (by decide), ok_17 hH.1, gd_T, h6, if_pos (by rfl), hv, bn_S]
      refine ⟨fun r0 Y hY => ?_, fun r1 W s hs hHW hqW s01 Y hY => ?_⟩
      · subst r0
        exact p62 V Y 0 hHV hqV hY
      · subst r1
        show sw_gd [sw_ok V 17 6] ((f_Reader_denied N rc 17 a1 V).bind _) = _
        rw [ok_17 hHV.1, gd_T, hs, bn_S]
        rcases s01 with rfl | rfl
        · exact p62 W Y 0 hHW hqW hY
        · exact p62 W Y 1 hHW hqW hY
  · rw [w1, bn_S]
    obtain ⟨N', rfl⟩ : ∃ x, N = x + 1 := ⟨N - 1, by omega⟩
    exact Or.inr ⟨W, h0 _ _ _, w2⟩
theorem lv_either (T : Nat → Nat) (n q D N : Nat) (hN : 1000 ≤ N) (rc : Nat → Int32 → sw_M → Option (Int32 × sw_M)) (a1 : Int32) (hs : LV T n q 2 D (f_Reader_both N rc 17 a1)) : LV T n q 1 D (f_Reader_either N rc 17 a1) := by
  have h0 : ∀ (j : Nat) (i : Int32) (M : sw_M), f_Reader_either_8 N rc (j + 1) 17 a1 0 i M = some (0, M) := fun j i M => by
    rw [f_Reader_either_8]
    by_cases c : (48 : Int32) ≤ i
    · rw [if_pos c]; rfl
    · rw [if_neg c, if_pos rfl]; rfl
  intro M b k o P hz hP hD hk h48 h28
  unfold f_Reader_either
  rw [ok_17 hz.1.1.1, gd_T]
  rcases hs M b k o P hz (by omega) hD hk h48 (fun l h => h28 (by omega) h) with ⟨W, w1, w2⟩ | ⟨W, w1, w2⟩
  · rw [w1, bn_S]
    refine lp_all T n q 1 D N hN (by omega) (f_Reader_both N rc 17 a1) hs (fun j a2 a3 M => f_Reader_either_8 N rc j 17 a1 a2 a3 M) h0 ?_ ?_ M b k o P hP hD N 0 W (ILs_0 hP w2) (by omega)
    · intro j i M c hi hH h6 kc hc
      show f_Reader_either_8 N rc (j + 1) 17 a1 1 (nI i) M = _
      rw [f_Reader_either_8, if_neg (show ¬ (48 : Int32) ≤ nI i from (nI_ge hi (by omega) : ¬ nI 48 ≤ nI i)), if_neg (by decide), ok_17 hH.1, gd_T, h6, if_neg (show ¬ nI c = (26 : Int32) from fun h => hc (by rw [(nI_eq (by omega) (by decide)).1 (h : nI c = nI 26)]; decide))]
      rfl
    · intro j i M c hi hH hq h6 kc hc V r hv hHV hqV
      obtain rfl := ob_1 c hc
      have p62 : ∀ (X Y : sw_M) (s : Int32), HR X → rd_R X 18 1 = q → f_Rule_put N q (nI 26) 0 X = some Y → f_Reader_either_47 N rc (f_Reader_either_8 N rc j) 17 a1 (nI i) s X = f_Reader_either_8 N rc j 17 a1 s (nI (i + 1)) Y := fun X Y s hX hqX hY => by
        have hr := hX.rq.2
        rw [hqX] at hr
        unfold f_Reader_either_47
        rw [ok_17 hX.1, gd_T, hr_f hX 17 1 18 rfl (by decide), ok_18 hX.1, gd_T, hqX, hr.ok, gd_T, show (26 : Int32) = nI 26 from rfl, hY, bn_S, nI_1]
      show (_ → ∀ Y, _ → f_Reader_either_8 N rc (j + 1) 17 a1 1 (nI i) M = _) ∧ (_ → ∀ W s, _ → _ → _ → _ → ∀ Y, _ → f_Reader_either_8 N rc (j + 1) 17 a1 1 (nI i) M = _)
      rw [f_Reader_either_8, if_neg (show ¬ (48 : Int32) ≤ nI i from (nI_ge hi (by omega) : ¬ nI 48 ≤ nI i)), if_neg (by decide), ok_17 hH.1, gd_T, h6, if_pos (by rfl), hv, bn_S]
      refine ⟨fun r0 Y hY => ?_, fun r1 W s hs hHW hqW s01 Y hY => ?_⟩
      · subst r0
        exact p62 V Y 0 hHV hqV hY
      · subst r1
        show sw_gd [sw_ok V 17 6] ((f_Reader_both N rc 17 a1 V).bind _) = _
        rw [ok_17 hHV.1, gd_T, hs, bn_S]
        rcases s01 with rfl | rfl
        · exact p62 W Y 0 hHW hqW hY
        · exact p62 W Y 1 hHW hqW hY
  · rw [w1, bn_S]
    obtain ⟨N', rfl⟩ : ∃ x, N = x + 1 := ⟨N - 1, by omega⟩
    exact Or.inr ⟨W, h0 _ _ _, w2⟩
