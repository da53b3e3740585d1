/-! 97ze: the other levels -/
theorem lv_compared (T : Nat → Nat) (n q D N : Nat) (hN : 1000 ≤ N) (rc : Nat → Int32 → sw_M → Option (Int32 × sw_M)) (a1 : Int32) (hs : LV T n q 5 D (f_Reader_sum N rc 17 a1)) : LV T n q 4 D (f_Reader_compared N rc 17 a1) := by
  intro M b k o P hz hP hD hk h48 h28
  unfold f_Reader_compared
  rw [ok_17 hz.1.1.1, gd_T]
  rcases hs M b k o P hz (by omega) hD hk h48 (fun _ h => h28 (by omega) h) with ⟨W, w1, b', k', o', P2, o2, m, a1', a2, a3, a4, a5, a6, a7, a8, a9, a10⟩ | ⟨W, w1, w2⟩
  · rw [w1, bn_S]
    have kc := kk_c T n b'
    have h6 := a2.2.2.2.1.2.2.1
    have hH := a2.1.1
    have hb' := a2.2.2.1
    have hn := a2.1.2.1
    show (∃ Z, sw_gd [sw_ok W 17 6] (if rd_I W 17 6 < (11 : Int32) then some ((1 : Int32), W) else if rd_I W 17 6 ≤ (16 : Int32) then (f_Reader_knot N 17 W).bind _ else some ((1 : Int32), W)) = some (1, Z) ∧ _) ∨ (∃ Z, sw_gd [sw_ok W 17 6] (if rd_I W 17 6 < (11 : Int32) then some ((1 : Int32), W) else if rd_I W 17 6 ≤ (16 : Int32) then (f_Reader_knot N 17 W).bind _ else some ((1 : Int32), W)) = some (0, Z) ∧ _)
    rw [ok_17 hH.1, gd_T, h6]
    have r8 := pr_pr (show 4 ≤ 5 by omega) P2 o2
    rw [a8] at r8
    by_cases c : ob (kk T n b') = 4
    · have cc := (ob_4 _).1 c
      rw [if_neg (show ¬ nI (kk T n b') < (11 : Int32) from (nI_nlt cc.1 (by omega) : ¬ nI _ < nI 11)), if_pos (show nI (kk T n b') ≤ (16 : Int32) from (nI_le cc.2 (by omega) : nI _ ≤ nI 16))]
      have c0 : ¬ ob (kk T n b') = 0 := by omega
      have oo := oc_40 _ kc c0
      have nb := nd_b T n b' hn hb'
      have nb2 := nb.2 (by omega)
      have st : ∀ j, sy T n (j + 1) true b' k' o2 P2 = if k' = 48 then some (Sum.inl (2, pl T n b')) else sy T n j false (nd T n b') (k' + 1) o' (oc (kk T n b') :: P) := fun j => by
        rw [sy, if_neg c0, if_pos c, a8, if_neg (show ¬ tq (P, o').1 = 4 by show ¬ tq P = 4; omega)]
      have p49 : ∀ (X Y : sw_M) (s : Int32), HR X → rd_R X 18 1 = q → (s = 0 ∨ s = 1) → f_Rule_put N q (nI (kk T n b')) 0 X = some Y → f_Reader_compared_49 N rc 17 (nI (kk T n b')) s X = some (s, Y) := fun X Y s hX hqX hs hY => by
        have hr := hX.rq.2
        rw [hqX] at hr
        unfold f_Reader_compared_49
        rw [ok_17 hX.1, gd_T, hr_f hX 17 1 18 rfl (by decide), ok_18 hX.1, gd_T, hqX, hr.ok, gd_T, hY, bn_S]
        rcases hs with rfl | rfl <;> rfl
      rcases a2.knot N hN (show o'.length ≤ 48 by omega) a4 with ⟨k1, V, v1, v2, v3⟩ | ⟨k1, V, v1, v2, v3⟩
      · rw [v1, bn_S]
        show (∃ Z, sw_gd [sw_ok V 17 6] ((f_Reader_sum N rc 17 a1 V).bind _) = some (1, Z) ∧ _) ∨ (∃ Z, sw_gd [sw_ok V 17 6] ((f_Reader_sum N rc 17 a1 V).bind _) = some (0, Z) ∧ _)
        rw [ok_17 v3.1.1.1, gd_T]
        have st' : ∀ j, sy T n (j + 1) true b' k' o2 P2 = sy T n j false (nd T n b') (k' + 1) o' (oc (kk T n b') :: P) := fun j => by rw [st, if_neg (by omega)]
        rcases hs V (nd T n b') (k' + 1) o' (oc (kk T n b') :: P) v3 (by show bq _ < _; rw [oo.2]; omega) (by rw [op, if_neg oo.1, hD]; omega) (by rw [nn, if_neg oo.1]; omega) (by omega) (fun l4 _ => by show 4 ≤ bq _; rw [oo.2]; omega) with ⟨X, w1, b3, k3, o3, P3, q3, m3, x1, x2, x3, x4, x5, x6, x7, x8, x9, x10⟩ | ⟨X, w1, f, p, m3, x1, x2, x3, x4, x5, x6⟩
        · rw [w1, bn_S]
          rw [nn, if_neg oo.1] at x5
          obtain ⟨Y, y1, y2, y3, y4⟩ := put_o N x2.q.1 (show o3.length < 48 by omega) x2.2.2.2.2.2.1 x2.2.2.2.2.2.2 (2, oc (kk T n b')) 0 (fun h => absurd h (by decide : ¬ (2 = 0)))
          rw [he_2 _ kc c0] at y1
          have zz := x2.fr3 y2 y3 y4
          have s8 := pr_pr (show 4 ≤ 5 by omega) P3 q3
          rw [x8] at s8
          have r9 : pr 4 P3 q3 = (P, (2, oc (kk T n b')) :: o3) := by
            rw [← s8]
            show pr 4 (oc (kk T n b') :: P) o3 = _
            rw [pr_1 (by rw [oo.2]; omega), pr_0 hP]
          refine Or.inl ⟨Y, p49 X Y 1 x2.1.1 x2.2.1 (Or.inr rfl) y1, b3, k3, (2, oc (kk T n b')) :: o3, P3, q3, m3 + 1 + m, ((a1'.trans v2).trans x1).trans (AP_AH y2), zz, by omega, x4, by rw [List.length_cons]; omega, by omega, fun j => ?_, r9, ?_, fun d hd => ?_⟩
          · rw [show j + (m3 + 1 + m) = (j + m3 + 1) + m by omega, a7, st', x7]
          · by_cases z : ob (kk T n b3) = 4
            · right
              refine ⟨z, ?_⟩
              rw [x8]
              show bq (oc (kk T n b')) = 4
              rw [oo.2]; exact c
            · left; omega
          · exact WF_2 (x10 _ (a10 _ hd)) kc c0
        · rw [w1, bn_S]
          obtain ⟨Y, y1, y2, y3⟩ := x2.put N (nI (kk T n b')) 0
          refine Or.inr ⟨Y, p49 X Y 0 x2.1 x2.2.1 (Or.inl rfl) y1, f, p, m3 + 1 + m, ((a1'.trans v2).trans x1).trans (AP_AH y2), y3, x3, x4, by omega, fun j => ?_⟩
          rw [show j + (m3 + 1 + m) = (j + m3 + 1) + m by omega, a7, st', x6]
      · rw [v1, bn_S]
        obtain ⟨Y, y1, y2, y3⟩ := v3.put N (nI (kk T n b')) 0
        refine Or.inr ⟨Y, p49 V Y 0 v3.1 v3.2.1 (Or.inl rfl) y1, 2, pl T n b', 1 + m, (a1'.trans v2).trans (AP_AH y2), y3, by omega, by omega, by omega, fun j => ?_⟩
        rw [show j + (1 + m) = (j + 1) + m by omega, a7, st, if_pos k1]
    · left
      refine ⟨W, ?_, b', k', o', P2, o2, m, a1', a2, a3, a4, a5, a6, a7, ?_, by omega, a10⟩
      · by_cases c1 : kk T n b' < 11
        · rw [if_pos (show nI (kk T n b') < (11 : Int32) from (nI_lt c1 (by omega) : nI _ < nI 11))]
        · have : ¬ (11 ≤ kk T n b' ∧ kk T n b' ≤ 16) := fun h => c ((ob_4 _).2 h)
          rw [if_neg (show ¬ nI (kk T n b') < (11 : Int32) from (nI_nlt (by omega) (by omega) : ¬ nI _ < nI 11)), if_neg (show ¬ nI (kk T n b') ≤ (16 : Int32) from (nI_ge (by omega) (by omega) : ¬ nI _ ≤ nI 16))]
      · rw [← r8]
        exact pr_0 hP _
  · rw [w1, bn_S]
    exact Or.inr ⟨W, rfl, w2⟩
def nt : Nat → List Nat → List Nat
  | 0, P => P
  | i + 1, P => 260 :: nt i P
def nts : Nat → List (Nat × Nat) → List (Nat × Nat)
  | 0, o => o
  | i + 1, o => nts i ((2, 260) :: o)
theorem nt_op (P : List Nat) : ∀ i, op (nt i P) = op P
  | 0 => rfl
  | i + 1 => by rw [nt, op, if_neg (by decide), nt_op P i]; omega
theorem nt_nn (P : List Nat) : ∀ i, nn (nt i P) = i + nn P
  | 0 => by rw [nt]; omega
  | i + 1 => by rw [nt, nn, if_neg (by decide), nt_nn P i]; omega
theorem nt_tq {P : List Nat} (h : tq P < 3) : ∀ i, tq (nt i P) < 4
  | 0 => by rw [nt]; omega
  | i + 1 => by show bq 260 < 4; decide
theorem nt_pr {P : List Nat} (h : tq P < 3) : ∀ i o, pr 3 (nt i P) o = (P, nts i o)
  | 0, o => pr_0 h o
  | i + 1, o => by rw [nt, pr_1 (by decide), nt_pr h i, nts]
theorem nts_l : ∀ i o, (nts i o).length = i + o.length
  | 0, o => by rw [nts]; omega
  | i + 1, o => by rw [nts, nts_l i, List.length_cons]; omega
theorem nts_w {d : Nat} : ∀ i o, WF o (d + 1) → WF (nts i o) (d + 1)
  | 0, o, h => h
  | i + 1, o, h => nts_w i _ (WF_n h)
theorem den_ok (N : Nat) (rc : Nat → Int32 → sw_M → Option (Int32 × sw_M)) (T : Nat → Nat) (n q b k : Nat) : ∀ (r j i : Nat) (M : sw_M) (o : List (Nat × Nat)), HZ M T n q b k o → o.length + r ≤ 48 → i + r ≤ 48 → r < j → ∃ W, f_Reader_denied_41 N rc j 17 (nI (i + r)) 1 (nI i) M = some (1, W) ∧ Fr (AP q) M W ∧ HZ W T n q b k (nts r o)
  | r, 0, i, M, o, g, h1, h2, hj => by omega
  | 0, j + 1, i, M, o, g, h1, h2, hj => by
    refine ⟨M, ?_, Fr.refl _ _, g⟩
    rw [f_Reader_denied_41, if_pos (nI_le (by omega) (by omega))]
    rfl
  | r + 1, j + 1, i, M, o, g, h1, h2, hj => by
    have hH := g.1.1
    obtain ⟨Y, y1, y2, y3, y4⟩ := put_o N g.q.1 (show o.length < 48 by omega) g.2.2.2.2.2.1 g.2.2.2.2.2.2 (2, 260) 0 (fun h => absurd h (by decide : ¬ (2 = 0)))
    rw [he_n] at y1
    have zz := g.fr3 y2 y3 y4
    obtain ⟨W, w1, w2, w3⟩ := den_ok N rc T n q b k r j (i + 1) Y ((2, 260) :: o) zz (by rw [List.length_cons]; omega) (by omega) (by omega)
    refine ⟨W, ?_, y2.trans w2, w3⟩
    rw [f_Reader_denied_41, if_neg (nI_ge (by omega) (by omega)), ok_17 hH.1, gd_T, hr_f hH 17 1 18 rfl (by decide), ok_18 hH.1, gd_T, g.2.1, g.q.1.ok, gd_T, show (28 : Int32) = nI 28 from rfl, y1, bn_S, nI_1, show i + (r + 1) = i + 1 + r by omega]
    exact w1
theorem den_fl (N : Nat) (rc : Nat → Int32 → sw_M → Option (Int32 × sw_M)) (q f p : Nat) : ∀ (r j i : Nat) (M : sw_M), FZ M q f p → i + r ≤ 48 → r < j → ∃ W, f_Reader_denied_41 N rc j 17 (nI (i + r)) 0 (nI i) M = some (0, W) ∧ Fr (AP q) M W ∧ FZ W q f p
  | r, 0, i, M, g, h2, hj => by omega
  | 0, j + 1, i, M, g, h2, hj => by
    refine ⟨M, ?_, Fr.refl _ _, g⟩
    rw [f_Reader_denied_41, if_pos (nI_le (by omega) (by omega))]
    rfl
  | r + 1, j + 1, i, M, g, h2, hj => by
    have hH := g.1
    have hr := hH.rq.2
    rw [g.2.1] at hr
    obtain ⟨Y, y1, y2, y3⟩ := g.put N 28 0
    obtain ⟨W, w1, w2, w3⟩ := den_fl N rc q f p r j (i + 1) Y y3 (by omega) (by omega)
    refine ⟨W, ?_, y2.trans w2, w3⟩
    rw [f_Reader_denied_41, if_neg (nI_ge (by omega) (by omega)), ok_17 hH.1, gd_T, hr_f hH 17 1 18 rfl (by decide), ok_18 hH.1, gd_T, g.2.1, hr.ok, gd_T, y1, bn_S, nI_1, show i + (r + 1) = i + 1 + r by omega]
    exact w1
theorem den_2 (T : Nat → Nat) (n q D N : Nat) (hN : 1000 ≤ N) (rc : Nat → Int32 → sw_M → Option (Int32 × sw_M)) (a1 : Int32) (hs : LV T n q 4 D (f_Reader_compared N rc 17 a1)) (M0 : sw_M) (b k : Nat) (o : List (Nat × Nat)) (P : List Nat) (hP : tq P < 3) (hD : op P = D) (hk : o.length + nn P = k) : ∀ (j i : Nat) (M : sw_M) (b1 m : Nat), Fr (AH q) M0 M → HZ M T n q b1 (k + i) o → k + i ≤ 48 → b + m ≤ b1 → (∀ j, sy T n (j + m) false b k o P = sy T n j false b1 (k + i) o (nt i P)) → 50 - i ≤ j →
    (∃ W, f_Reader_denied_2 N rc j 17 a1 (nI i) M = some (1, W) ∧ OKs T n q 3 M0 b k o P W) ∨ (∃ W, f_Reader_denied_2 N rc j 17 a1 (nI i) M = some (0, W) ∧ FLs T n q M0 b k o P W)
  | 0, i, M, b1, m, hF, hz, h48, hb, hsy, hj => by omega
  | j + 1, i, M, b1, m, hF, hz, h48, hb, hsy, hj => by
    have hH := hz.1.1
    have kc := kk_c T n b1
    have h6 := hz.2.2.2.1.2.2.1
    have hb' := hz.2.2.1
    have hn := hz.1.2.1
    have nb := nd_b T n b1 hn hb'
    rw [f_Reader_denied_2, if_neg (show ¬ (48 : Int32) < nI i from (nI_nlt (by omega) (by omega) : ¬ nI 48 < nI i)), ok_17 hH.1, gd_T, h6]
    by_cases c : kk T n b1 = 28
    · rw [if_pos (by rw [c]; rfl)]
      have nb2 := nb.2 (by omega)
      have st : ∀ j, sy T n (j + 1) false b1 (k + i) o (nt i P) = if k + i = 48 then some (Sum.inl (2, pl T n b1)) else sy T n j false (nd T n b1) (k + i + 1) o (nt (i + 1) P) := fun j => by
        rw [sy, if_neg (by omega), if_neg (by omega), if_neg (by omega), if_pos ⟨c, nt_tq hP i⟩, nt]
      rcases hz.knot N hN (by omega) h48 with ⟨k1, V, v1, v2, v3⟩ | ⟨k1, V, v1, v2, v3⟩
      · rw [v1, bn_S]
        show (∃ Z, f_Reader_denied_2 N rc j 17 a1 (nI i + 1) V = some (1, Z) ∧ _) ∨ (∃ Z, f_Reader_denied_2 N rc j 17 a1 (nI i + 1) V = some (0, Z) ∧ _)
        rw [nI_1]
        refine den_2 T n q D N hN rc a1 hs M0 b k o P hP hD hk j (i + 1) V (nd T n b1) (1 + m) (hF.trans v2) v3 (by omega) (by omega) (fun j => ?_) (by omega)
        rw [show j + (1 + m) = (j + 1) + m by omega, hsy, st, if_neg (by omega)]
        rfl
      · rw [v1, bn_S]
        refine Or.inr ⟨V, rfl, 2, pl T n b1, 1 + m, hF.trans v2, v3, by omega, by omega, by omega, fun j => ?_⟩
        rw [show j + (1 + m) = (j + 1) + m by omega, hsy, st, if_pos k1]
    · rw [if_neg (show ¬ nI (kk T n b1) = (28 : Int32) from fun h => c ((nI_eq (by omega) (by decide)).1 (h : nI _ = nI 28)))]
      unfold f_Reader_denied_32
      rw [ok_17 hH.1, gd_T]
      rcases hs M b1 (k + i) o (nt i P) hz (nt_tq hP i) (by rw [nt_op]; exact hD) (by rw [nt_nn]; omega) h48 (fun _ h => absurd h c) with ⟨W, w1, b', k', o', P2, o2, m3, a1', a2, a3, a4, a5, a6, a7, a8, a9, a10⟩ | ⟨W, w1, f, p, m3, x1, x2, x3, x4, x5, x6⟩
      · rw [w1, bn_S]
        rw [nt_nn] at a5
        obtain ⟨Z, z1, z2, z3⟩ := den_ok N rc T n q b' k' i N 0 W o' a2 (by omega) (by omega) (by omega)
        rw [show 0 + i = i by omega] at z1
        have r8 := pr_pr (show 3 ≤ 4 by omega) P2 o2
        rw [a8] at r8
        have r9 : pr 3 P2 o2 = (P, nts i o') := by
          rw [← r8]
          exact nt_pr hP i o'
        have o3 := ob_3 (kk T n b')
        refine Or.inl ⟨Z, z1, b', k', nts i o', P2, o2, m3 + m, (hF.trans a1').trans (AP_AH z2), z3, by omega, a4, by rw [nts_l]; omega, by omega, fun j => ?_, r9, by omega, fun d hd => nts_w i o' (a10 d hd)⟩
        rw [show j + (m3 + m) = (j + m3) + m by omega, hsy, a7]
      · rw [w1, bn_S]
        obtain ⟨Z, z1, z2, z3⟩ := den_fl N rc q f p i N 0 W x2 (by omega) (by omega)
        rw [show 0 + i = i by omega] at z1
        refine Or.inr ⟨Z, z1, f, p, m3 + m, (hF.trans x1).trans (AP_AH z2), z3, x3, x4, by omega, fun j => ?_⟩
        rw [show j + (m3 + m) = (j + m3) + m by omega, hsy, x6]
theorem lv_denied (T : Nat → Nat) (n q D N : Nat) (hN : 1000 ≤ N) (rc : Nat → Int32 → sw_M → Option (Int32 × sw_M)) (a1 : Int32) (hs : LV T n q 4 D (f_Reader_compared N rc 17 a1)) : LV T n q 3 D (f_Reader_denied N rc 17 a1) := by
  intro M b k o P hz hP hD hk h48 h28
  exact den_2 T n q D N hN rc a1 hs M b k o P hP hD hk N 0 M b 0 (Fr.refl _ _) hz h48 (by omega) (fun j => rfl) (by omega)
