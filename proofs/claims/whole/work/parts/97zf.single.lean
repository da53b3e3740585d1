/-! 97zf: a single one, and all of a rule -/
theorem put_z (N : Nat) {M : sw_M} {T : Nat → Nat} {n q b k : Nat} {o : List (Nat × Nat)} (g : HZ M T n q b k o) (ho : o.length ≤ 48) (e : Nat × Nat) (v : Int32) (hv : e.1 = 0 → v = nI e.2) :
    ∃ W o1, f_Rule_put N q (he e) v M = some W ∧ Fr (AP q) M W ∧ HZ W T n q b k o1 ∧ o1.length ≤ 48 ∧ (o.length < 48 → o1 = e :: o) := by
  rcases Nat.lt_or_ge o.length 48 with c | c
  · obtain ⟨Y, y1, y2, y3, y4⟩ := put_o N g.q.1 c g.2.2.2.2.2.1 g.2.2.2.2.2.2 e v hv
    exact ⟨Y, e :: o, y1, y2, g.fr3 y2 y3 y4, by rw [List.length_cons]; omega, fun _ => rfl⟩
  · have hq := g.q.1
    refine ⟨M, o, ?_, Fr.refl _ _, g, ho, fun h => by omega⟩
    unfold f_Rule_put
    rw [hq.ok, gd_T, hq.r0, hq.o1, gd_T, hq.l1, g.2.2.2.2.2.1, if_pos (nI_le c (by omega))]
/-- a number or a name is taken -/
theorem sg_95 (T : Nat → Nat) (n q D N : Nat) (hN : 1000 ≤ N) (rc : Nat → Int32 → sw_M → Option (Int32 × sw_M)) (M : sw_M) (b k : Nat) (o : List (Nat × Nat)) (P : List Nat) (hz : HZ M T n q b k o) (hP : tq P < 7) (hk : o.length + nn P = k) (h48 : k ≤ 48) (e : Nat × Nat) (h6 : rd_I M 17 6 = he e) (h7 : e.1 = 0 → rd_I M 17 7 = nI e.2) (kz : ¬ kk T n b = 0)
    (st : ∀ j, sy T n (j + 1) false b k o P = if k = 48 then some (Sum.inl (2, pl T n b)) else sy T n j true (nd T n b) (k + 1) (e :: o) P) (hw : ∀ d, WF o d → WF (e :: o) (d + 1)) :
    (∃ W, f_Reader_single_95 N rc 17 M = some (1, W) ∧ OKs T n q 7 M b k o P W) ∨ (∃ W, f_Reader_single_95 N rc 17 M = some (0, W) ∧ FLs T n q M b k o P W) := by
  have hH := hz.1.1
  have hb' := hz.2.2.1
  have nb := nd_b T n b hz.1.2.1 hb'
  have nb2 := nb.2 kz
  obtain ⟨Y, o1, y1, y2, y3, y4, y5⟩ := put_z N hz (show o.length ≤ 48 by omega) e (rd_I M 17 7) h7
  unfold f_Reader_single_95
  rw [ok_17 hH.1, gd_T, hr_f hH 17 1 18 rfl (by decide), ok_18 hH.1, gd_T, hz.2.1, hz.q.1.ok, gd_T, h6, y1, bn_S, ok_17 y3.1.1.1, gd_T]
  rcases y3.knot N hN y4 h48 with ⟨k1, V, v1, v2, v3⟩ | ⟨k1, V, v1, v2, v3⟩
  · rw [v1, bn_S]
    obtain rfl := y5 (by omega)
    refine Or.inl ⟨V, rfl, nd T n b, k + 1, e :: o, P, e :: o, 1, (AP_AH y2).trans v2, v3, by omega, by omega, by rw [List.length_cons]; omega, by omega, fun j => ?_, pr_0 hP _, Or.inl (by have := ob_le (kk T n (nd T n b)); omega), hw⟩
    rw [st, if_neg (by omega)]
  · rw [v1, bn_S]
    refine Or.inr ⟨V, rfl, 2, pl T n b, 1, (AP_AH y2).trans v2, v3, by omega, by omega, by omega, fun j => ?_⟩
    rw [st, if_pos k1]
theorem lv_single (T : Nat → Nat) (n q D N : Nat) (hN : 1000 ≤ N) (hD8 : D ≤ 8) (rc : Nat → Int32 → sw_M → Option (Int32 × sw_M)) (hs : D < 8 → LV T n q 1 (D + 1) (rc 17 (nI (D + 1)))) : LV T n q 7 D (f_Reader_single N rc 17 (nI D)) := by
  intro M b k o P hz hP hD hk h48 h28
  have hH := hz.1.1
  have kc := kk_c T n b
  have h6 := hz.2.2.2.1.2.2.1
  have hb' := hz.2.2.1
  have nb := nd_b T n b hz.1.2.1 hb'
  have ol : o.length ≤ 48 := by omega
  have wr : ∀ f : Nat, 1 ≤ f → f ≤ 3 → (∀ j, sy T n (j + 1) false b k o P = some (Sum.inl (f, pl T n b))) → (∃ W, (f_Reader_wrong N 17 (nI f) M).bind (fun u2 => sw_gd [sw_bz u2.1] (some (u2.1, u2.2))) = some (0, W) ∧ FLs T n q M b k o P W) := fun f f1 f2 hsy => by
    obtain ⟨W, w1, w2, w3⟩ := hz.wrong N ol f
    refine ⟨W, ?_, f, pl T n b, 1, w2, w3, f1, f2, by omega, fun j => hsy j⟩
    rw [w1, bn_S]
    rfl
  unfold f_Reader_single
  rw [ok_17 hH.1, gd_T, h6]
  by_cases c5 : kk T n b = 5
  · have nb2 := nb.2 (by omega)
    rw [if_pos (by rw [c5]; rfl)]
    have st : ∀ j, sy T n (j + 1) false b k o P = if op P = 8 then some (Sum.inl (2, pl T n b)) else sy T n j false (nd T n b) k o (40 :: P) := fun j => by
      rw [sy, if_neg (by omega), if_neg (by omega), if_pos c5]
    by_cases d8 : D < 8
    · rw [if_pos (show nI D < (8 : Int32) from (nI_lt d8 (by omega) : nI D < nI 8))]
      obtain ⟨V, v1, v2, v3⟩ := hz.adv N hN
      rw [v1, bn_S, ok_17 v3.1.1.1, gd_T, nI_1]
      rcases hs d8 V (nd T n b) k o (40 :: P) v3 (by show 0 < 1; omega) (by rw [op, if_pos rfl, hD]; omega) (by rw [nn, if_pos rfl]; omega) h48 (fun h => by omega) with ⟨W, w1, b3, k3, o3, P3, q3, m3, x1, x2, x3, x4, x5, x6, x7, x8, x9, x10⟩ | ⟨W, w1, f, p, m3, x1, x2, x3, x4, x5, x6⟩
      · rw [w1, bn_S]
        rw [nn, if_pos rfl] at x5
        have st' : ∀ j, sy T n (j + (m3 + 1)) false b k o P = sy T n j true b3 k3 q3 P3 := fun j => by
          rw [show j + (m3 + 1) = j + m3 + 1 by omega, st, if_neg (by omega), x7]
        have po : 0 < op P3 := by
          have := pr_op 1 (by omega) P3 q3
          rw [x8] at this
          have e2 : op (40 :: P) = 1 + op P := rfl
          have e3 : op ((40 :: P, o3).1) = op (40 :: P) := rfl
          omega
        show (∃ Z, sw_gd [sw_ok W 17 6] ((f_Reader_expect N 17 (nI 6) W).bind _) = some (1, Z) ∧ _) ∨ (∃ Z, sw_gd [sw_ok W 17 6] ((f_Reader_expect N 17 (nI 6) W).bind _) = some (0, Z) ∧ _)
        rw [ok_17 x2.1.1.1, gd_T]
        rcases x2.expect N hN (by omega) 6 (by omega) with ⟨e1, Z, z1, z2, z3⟩ | ⟨e1, Z, z1, z2, z3⟩
        · rw [z1, bn_S]
          have nb3 := nd_b T n b3 x2.1.2.1 x2.2.2.1
          have nb4 := nb3.2 (by omega)
          refine Or.inl ⟨Z, rfl, nd T n b3, k3, o3, P, o3, 1 + (m3 + 1), ((v2.trans x1).trans z2), z3, by omega, x4, by omega, by omega, fun j => ?_, pr_0 hP _, Or.inl (by have := ob_le (kk T n (nd T n b3)); omega), x10⟩
          rw [show j + (1 + (m3 + 1)) = (j + 1) + (m3 + 1) by omega, st', sy, if_pos (by rw [e1]; decide), if_pos ⟨e1, po⟩, x8]
          rfl
        · rw [z1, bn_S]
          refine Or.inr ⟨Z, rfl, 1, pl T n b3, 1 + (m3 + 1), ((v2.trans x1).trans z2), z3, by omega, by omega, ?_, fun j => ?_⟩
          · have := x2.2.2.1
            omega
          · rw [show j + (1 + (m3 + 1)) = (j + 1) + (m3 + 1) by omega, st', sy]
            rcases x9 with h | ⟨h, h'⟩
            · rw [if_pos (by omega), if_neg (fun h => e1 h.1), if_pos po]
            · rw [if_neg (by omega), if_pos h, if_pos h']
      · rw [w1, bn_S]
        refine Or.inr ⟨W, rfl, f, p, m3 + 1, v2.trans x1, x2, x3, x4, by omega, fun j => ?_⟩
        rw [show j + (m3 + 1) = j + m3 + 1 by omega, st, if_neg (by omega), x6]
    · rw [if_neg (show ¬ nI D < (8 : Int32) from (nI_nlt (by omega) (by omega) : ¬ nI D < nI 8))]
      exact Or.inr (wr 2 (by omega) (by omega) (fun j => by rw [st, if_pos (by omega)]))
  rw [if_neg (show ¬ nI (kk T n b) = (5 : Int32) from fun h => c5 ((nI_eq (by omega) (by decide)).1 (h : nI _ = nI 5)))]
  by_cases c29 : 29 ≤ kk T n b
  · rw [if_pos (show (29 : Int32) ≤ nI (kk T n b) from (nI_le c29 (by omega) : nI 29 ≤ nI _))]
    unfold f_Reader_single_72
    rw [ok_17 hH.1, gd_T, h6, if_neg (show ¬ nI (kk T n b) = (2 : Int32) from fun h => by have h2 : kk T n b = 2 := (nI_eq (by omega) (by decide)).1 (h : nI _ = nI 2); omega)]
    refine sg_95 T n q D N hN rc M b k o P hz hP hk h48 (1, kk T n b - 29) ?_ (fun h => absurd h (by decide : ¬ (1 = 0))) (by omega) (fun j => ?_) (fun d hd => WF_1 hd (by omega))
    · rw [h6, he_1 _ (by omega), show 29 + (kk T n b - 29) = kk T n b by omega]
    · rw [sy, if_neg (by omega), if_pos c29]
  rw [if_neg (show ¬ (29 : Int32) ≤ nI (kk T n b) from (nI_ge (by omega) (by omega) : ¬ nI 29 ≤ nI _))]
  by_cases c2 : kk T n b = 2
  · rw [if_pos (by rw [c2]; rfl)]
    unfold f_Reader_single_72
    have h7 := hz.2.2.2.1.2.2.2 c2
    rw [ok_17 hH.1, gd_T, h6, if_pos (by rw [c2]; rfl), h7]
    have vv := vhm T n b hb'
    by_cases v9 : vm T n b ≤ 99999
    · have ve : vh T n b = vm T n b := by omega
      rw [if_pos (show nI (vh T n b) ≤ (99999 : Int32) from (nI_le (by omega) (by omega) : nI _ ≤ nI 99999))]
      refine sg_95 T n q D N hN rc M b k o P hz hP hk h48 (0, vm T n b) ?_ (fun _ => by rw [h7, ve]) (by omega) (fun j => ?_) (fun d hd => WF_0 hd v9)
      · rw [h6, he_0, c2]
      · rw [sy, if_pos c2, if_neg (by omega)]
    · rw [if_neg (show ¬ nI (vh T n b) ≤ (99999 : Int32) from (nI_ge (by omega) (by omega) : ¬ nI _ ≤ nI 99999))]
      exact Or.inr (wr 2 (by omega) (by omega) (fun j => by rw [sy, if_pos c2, if_pos (by omega)]))
  rw [if_neg (show ¬ nI (kk T n b) = (2 : Int32) from fun h => c2 ((nI_eq (by omega) (by decide)).1 (h : nI _ = nI 2)))]
  refine Or.inr (wr 1 (by omega) (by omega) (fun j => ?_))
  rw [sy, if_neg c2, if_neg c29, if_neg c5, if_neg (fun h => by have := h28 (by omega) h.1; omega)]
theorem lv_R (T : Nat → Nat) (n q N : Nat) (hN : 1000 ≤ N) : ∀ (e D : Nat), D + e = 12 → 4 ≤ e → LV T n q 1 D (f_Reader_eitherR N e 17 (nI D))
  | 0, D, h1, h2 => by omega
  | e + 1, D, h1, h2 => by
    have := lv_either T n q D N hN (f_Reader_eitherR N e) (nI D) (lv_both T n q D N hN _ _ (lv_denied T n q D N hN _ _ (lv_compared T n q D N hN _ _ (lv_sum T n q D N hN _ _ (lv_product T n q D N hN _ _ (lv_single T n q D N hN (by omega) (f_Reader_eitherR N e) (fun h => lv_R T n q N hN e (D + 1) (by omega) (by omega))))))))
    exact this
