/-! 97zzg: the run of calls -/
def Fn (x : Option (Int32 × sw_M)) : Prop := ∃ Mz, x = some (1, Mz) ∧ rd_N Mz ≤ 178
theorem lw_s {α : Type} [DecidableEq α] {c : Nat} {M : sw_M} {h m : sw_M → Option (α × sw_M)} (hp : PR c M h m) {F : sw_M → Option (Int32 × sw_M)} (hF : ∀ Z, Inv (c + 1) Z → Fn (F Z)) (K : Option (Int32 × sw_M)) (G : sw_M → Option (Int32 × sw_M)) (hK : K = (h M).bind (fun u => sw_gd [sw_ok u.2 80 12] ((m u.2).bind (fun v => if u.1 = v.1 then F v.2 else G v.2)))) : Fn K := by
  obtain ⟨r, W, Z, h1, h2, h3, h4⟩ := hp
  rw [hK, h1, bn_S]
  show Fn (sw_gd [sw_ok W 80 12] ((m W).bind (fun v => if r = v.1 then F v.2 else G v.2)))
  rw [ok_80 h2.1, gd_T, h3, bn_S]
  show Fn (if r = r then F Z else G Z)
  rw [if_pos rfl]
  exact hF Z h4
theorem Inv_n {c : Nat} {M : sw_M} (g : Inv c M) : 124 ≤ rd_N M ∧ rd_N M ≤ 178 := by
  obtain ⟨Q, mass, gx, gh, gm⟩ := g
  obtain ⟨g1, g2, g3, g4, g5, g6, g7, g8, g8'⟩ := gx
  have h := g1.2.2.1.1.2.2.2.1
  have h' : Q.E.no ≤ 6 := h
  omega
theorem lw_loop (N L : Nat) (xs : Nat → Int32) (hN : 200000 ≤ N) (hL : L ≤ 5632) : ∀ (j c : Nat) (M : sw_M), Inv c M → 11 * c ≤ L → L < 11 * (c + j) → Fn (f_Law_law_18 N L xs j 1 80 (nI (11 * c)) M)
  | 0, c, M, g, h1, h2 => by omega
  | j + 1, c, M, g, h1, h2 => by
    have hn := Inv_n g
    have e11 : (Int32.ofNat L - (11 : Int32)).toInt = (L : Int) - 11 := by
      rw [Int32.toInt_sub]
      have a1 : (Int32.ofNat L).toInt = (L : Int) := nI_toInt (by omega)
      have a2 : ((11 : Int32)).toInt = 11 := rfl
      rw [a1, a2]
      refine Int.bmod_eq_of_le ?_ ?_ <;> omega
    have e3 : (nI (11 * c)).toInt = ((11 * c : Nat) : Int) := nI_toInt (by omega)
    rw [f_Law_law_18]
    by_cases q : L < 11 * c + 11
    · rw [if_pos (Int32.lt_iff_toInt_lt.2 (by rw [e11, e3]; omega))]
      exact ⟨M, rfl, hn.2⟩
    rw [if_neg (fun h => by have h := Int32.lt_iff_toInt_lt.1 h; rw [e11, e3] at h; omega)]
    have go : ∀ Z, Inv (c + 1) Z → Fn (f_Law_law_1309 N L xs (f_Law_law_18 N L xs j) 1 80 (nI (11 * c)) Z) := fun Z hz => by
      unfold f_Law_law_1309
      have e : nI (11 * c) + (11 : Int32) = nI (11 * (c + 1)) := nI_add (11 * c) 11
      rw [e]
      exact lw_loop N L xs hN hL j (c + 1) Z hz (by omega) (by omega)
    have tt : ∀ k, k ≤ 10 → sw_ti (nI (11 * c) + nI k) L = true := fun k hk => by
      rw [nI_add]
      exact ti_n (by omega) (by omega)
    have t0 : sw_ti (nI (11 * c)) L = true := ti_n (by omega) (by omega)
    have t1 : sw_ti (nI (11 * c) + (1 : Int32)) L = true := tt 1 (by omega)
    have t2 : sw_ti (nI (11 * c) + (2 : Int32)) L = true := tt 2 (by omega)
    have t3 : sw_ti (nI (11 * c) + (3 : Int32)) L = true := tt 3 (by omega)
    have t4 : sw_ti (nI (11 * c) + (4 : Int32)) L = true := tt 4 (by omega)
    have t5 : sw_ti (nI (11 * c) + (5 : Int32)) L = true := tt 5 (by omega)
    have t6 : sw_ti (nI (11 * c) + (6 : Int32)) L = true := tt 6 (by omega)
    have t7 : sw_ti (nI (11 * c) + (7 : Int32)) L = true := tt 7 (by omega)
    have t8 : sw_ti (nI (11 * c) + (8 : Int32)) L = true := tt 8 (by omega)
    have t9 : sw_ti (nI (11 * c) + (9 : Int32)) L = true := tt 9 (by omega)
    have t10 : sw_ti (nI (11 * c) + (10 : Int32)) L = true := tt 10 (by omega)
    have o1 : sw_ok M 1 11 = true := ok_1 hn.1
    rw [t0, gd_T]
    by_cases c0 : ((xs (nI (11 * c)).toNatClampNeg) &&& (31 : Int32)) = (0 : Int32)
    · rw [if_pos c0, t1, gd_T, t2, gd_T, t3, gd_T, t4, gd_T, t5, gd_T, o1, gd_T]
      exact lw_s (pr_feed N (by omega) c M g (xs (nI (11 * c) + (1 : Int32)).toNatClampNeg) (xs (nI (11 * c) + (2 : Int32)).toNatClampNeg) (xs (nI (11 * c) + (3 : Int32)).toNatClampNeg) (xs (nI (11 * c) + (4 : Int32)).toNatClampNeg) (xs (nI (11 * c) + (5 : Int32)).toNatClampNeg)) go _ (fun Z => some ((0 : Int32), Z)) rfl
    rw [if_neg c0]
    by_cases c1 : ((xs (nI (11 * c)).toNatClampNeg) &&& (31 : Int32)) = (1 : Int32)
    · rw [if_pos c1, t1, gd_T, o1, gd_T]
      exact lw_s (pr_field N (by omega) c M g (xs (nI (11 * c) + (1 : Int32)).toNatClampNeg)) go _ (fun Z => some ((0 : Int32), Z)) rfl
    rw [if_neg c1]
    by_cases c2 : ((xs (nI (11 * c)).toNatClampNeg) &&& (31 : Int32)) = (2 : Int32)
    · rw [if_pos c2, t1, gd_T, o1, gd_T]
      exact lw_s (pr_fault N c M g (xs (nI (11 * c) + (1 : Int32)).toNatClampNeg)) go _ (fun Z => some ((0 : Int32), Z)) rfl
    rw [if_neg c2]
    by_cases c3 : ((xs (nI (11 * c)).toNatClampNeg) &&& (31 : Int32)) = (3 : Int32)
    · rw [if_pos c3, t1, gd_T, o1, gd_T]
      exact lw_s (pr_mass N c M g (xs (nI (11 * c) + (1 : Int32)).toNatClampNeg)) go _ (fun Z => some ((0 : Int32), Z)) rfl
    rw [if_neg c3]
    by_cases c4 : ((xs (nI (11 * c)).toNatClampNeg) &&& (31 : Int32)) = (4 : Int32)
    · rw [if_pos c4, t1, gd_T, t2, gd_T, t3, gd_T, t4, gd_T, o1, gd_T]
      exact lw_s (pr_pull N (by omega) c M g (xs (nI (11 * c) + (1 : Int32)).toNatClampNeg) (xs (nI (11 * c) + (2 : Int32)).toNatClampNeg) (xs (nI (11 * c) + (3 : Int32)).toNatClampNeg) (xs (nI (11 * c) + (4 : Int32)).toNatClampNeg)) go _ (fun Z => some ((0 : Int32), Z)) rfl
    rw [if_neg c4]
    by_cases c5 : ((xs (nI (11 * c)).toNatClampNeg) &&& (31 : Int32)) = (5 : Int32)
    · rw [if_pos c5, t1, gd_T, t2, gd_T, t3, gd_T, t4, gd_T, t5, gd_T, o1, gd_T]
      exact lw_s (pr_star N c M g (xs (nI (11 * c) + (1 : Int32)).toNatClampNeg) (xs (nI (11 * c) + (2 : Int32)).toNatClampNeg) (xs (nI (11 * c) + (3 : Int32)).toNatClampNeg) (xs (nI (11 * c) + (4 : Int32)).toNatClampNeg) (xs (nI (11 * c) + (5 : Int32)).toNatClampNeg)) go _ (fun Z => some ((0 : Int32), Z)) rfl
    rw [if_neg c5]
    by_cases c6 : ((xs (nI (11 * c)).toNatClampNeg) &&& (31 : Int32)) = (6 : Int32)
    · rw [if_pos c6, t1, gd_T, o1, gd_T]
      exact lw_s (pr_go N (by omega) c (by omega) M g (xs (nI (11 * c) + (1 : Int32)).toNatClampNeg)) go _ (fun Z => some ((0 : Int32), Z)) rfl
    rw [if_neg c6]
    by_cases c7 : ((xs (nI (11 * c)).toNatClampNeg) &&& (31 : Int32)) = (7 : Int32)
    · rw [if_pos c7, t1, gd_T, o1, gd_T]
      exact lw_s (pr_starred N c M g (xs (nI (11 * c) + (1 : Int32)).toNatClampNeg)) go _ (fun Z => some ((0 : Int32), Z)) rfl
    rw [if_neg c7]
    by_cases c8 : ((xs (nI (11 * c)).toNatClampNeg) &&& (31 : Int32)) = (8 : Int32)
    · rw [if_pos c8, t1, gd_T, o1, gd_T]
      exact lw_s (pr_length N c M g (xs (nI (11 * c) + (1 : Int32)).toNatClampNeg)) go _ (fun Z => some ((0 : Int32), Z)) rfl
    rw [if_neg c8]
    by_cases c9 : ((xs (nI (11 * c)).toNatClampNeg) &&& (31 : Int32)) = (9 : Int32)
    · rw [if_pos c9, t1, gd_T, t2, gd_T, t3, gd_T, t4, gd_T, o1, gd_T]
      exact lw_s (pr_orbit N c M g (xs (nI (11 * c) + (1 : Int32)).toNatClampNeg) (xs (nI (11 * c) + (2 : Int32)).toNatClampNeg) (xs (nI (11 * c) + (3 : Int32)).toNatClampNeg) (xs (nI (11 * c) + (4 : Int32)).toNatClampNeg)) go _ (fun Z => some ((0 : Int32), Z)) rfl
    rw [if_neg c9]
    by_cases c10 : ((xs (nI (11 * c)).toNatClampNeg) &&& (31 : Int32)) = (10 : Int32)
    · rw [if_pos c10, t1, gd_T, t2, gd_T, o1, gd_T]
      exact lw_s (pr_told N (by omega) c M g (xs (nI (11 * c) + (1 : Int32)).toNatClampNeg) (xs (nI (11 * c) + (2 : Int32)).toNatClampNeg)) go _ (fun Z => some ((0 : Int32), Z)) rfl
    rw [if_neg c10]
    by_cases c11 : ((xs (nI (11 * c)).toNatClampNeg) &&& (31 : Int32)) = (11 : Int32)
    · rw [if_pos c11, t1, gd_T, t2, gd_T, t3, gd_T, o1, gd_T]
      exact lw_s (pr_at N (by omega) c M g (xs (nI (11 * c) + (1 : Int32)).toNatClampNeg) (xs (nI (11 * c) + (2 : Int32)).toNatClampNeg) (xs (nI (11 * c) + (3 : Int32)).toNatClampNeg)) go _ (fun Z => some ((0 : Int32), Z)) rfl
    rw [if_neg c11]
    by_cases c12 : ((xs (nI (11 * c)).toNatClampNeg) &&& (31 : Int32)) = (12 : Int32)
    · rw [if_pos c12, t1, gd_T, t2, gd_T, o1, gd_T]
      exact lw_s (pr_back N (by omega) c M g (xs (nI (11 * c) + (1 : Int32)).toNatClampNeg) (xs (nI (11 * c) + (2 : Int32)).toNatClampNeg)) go _ (fun Z => some ((0 : Int32), Z)) rfl
    rw [if_neg c12]
    by_cases c13 : ((xs (nI (11 * c)).toNatClampNeg) &&& (31 : Int32)) = (13 : Int32)
    · rw [if_pos c13, t1, gd_T, t2, gd_T, o1, gd_T]
      exact lw_s (pr_alike N (by omega) c M g (xs (nI (11 * c) + (1 : Int32)).toNatClampNeg) (xs (nI (11 * c) + (2 : Int32)).toNatClampNeg)) go _ (fun Z => some ((0 : Int32), Z)) rfl
    rw [if_neg c13]
    by_cases c14 : ((xs (nI (11 * c)).toNatClampNeg) &&& (31 : Int32)) = (14 : Int32)
    · rw [if_pos c14, t1, gd_T, t2, gd_T, t3, gd_T, o1, gd_T]
      exact lw_s (pr_tune N (by omega) c M g (xs (nI (11 * c) + (1 : Int32)).toNatClampNeg) (xs (nI (11 * c) + (2 : Int32)).toNatClampNeg) (xs (nI (11 * c) + (3 : Int32)).toNatClampNeg)) go _ (fun Z => some ((0 : Int32), Z)) rfl
    rw [if_neg c14]
    by_cases c15 : ((xs (nI (11 * c)).toNatClampNeg) &&& (31 : Int32)) = (15 : Int32)
    · rw [if_pos c15, t1, gd_T, t2, gd_T, o1, gd_T]
      exact lw_s (pr_cells N c M g (xs (nI (11 * c) + (1 : Int32)).toNatClampNeg) (xs (nI (11 * c) + (2 : Int32)).toNatClampNeg)) go _ (fun Z => some ((0 : Int32), Z)) rfl
    rw [if_neg c15]
    by_cases c16 : ((xs (nI (11 * c)).toNatClampNeg) &&& (31 : Int32)) = (16 : Int32)
    · rw [if_pos c16, t1, gd_T, t2, gd_T, t3, gd_T, o1, gd_T]
      exact lw_s (pr_share N (by omega) c M g (xs (nI (11 * c) + (1 : Int32)).toNatClampNeg) (xs (nI (11 * c) + (2 : Int32)).toNatClampNeg) (xs (nI (11 * c) + (3 : Int32)).toNatClampNeg)) go _ (fun Z => some ((0 : Int32), Z)) rfl
    rw [if_neg c16]
    by_cases c17 : ((xs (nI (11 * c)).toNatClampNeg) &&& (31 : Int32)) = (17 : Int32)
    · rw [if_pos c17, t1, gd_T, o1, gd_T]
      exact lw_s (pr_portions N c M g (xs (nI (11 * c) + (1 : Int32)).toNatClampNeg)) go _ (fun Z => some ((0 : Int32), Z)) rfl
    rw [if_neg c17]
    by_cases c18 : ((xs (nI (11 * c)).toNatClampNeg) &&& (31 : Int32)) = (18 : Int32)
    · rw [if_pos c18, t1, gd_T, t2, gd_T, t3, gd_T, t4, gd_T, o1, gd_T]
      exact lw_s (pr_sight N c M g (xs (nI (11 * c) + (1 : Int32)).toNatClampNeg) (xs (nI (11 * c) + (2 : Int32)).toNatClampNeg) (xs (nI (11 * c) + (3 : Int32)).toNatClampNeg) (xs (nI (11 * c) + (4 : Int32)).toNatClampNeg)) go _ (fun Z => some ((0 : Int32), Z)) rfl
    rw [if_neg c18]
    by_cases c19 : ((xs (nI (11 * c)).toNatClampNeg) &&& (31 : Int32)) = (19 : Int32)
    · rw [if_pos c19, t1, gd_T, o1, gd_T]
      exact lw_s (pr_strike N c M g (xs (nI (11 * c) + (1 : Int32)).toNatClampNeg)) go _ (fun Z => some ((0 : Int32), Z)) rfl
    rw [if_neg c19]
    by_cases c20 : ((xs (nI (11 * c)).toNatClampNeg) &&& (31 : Int32)) = (20 : Int32)
    · rw [if_pos c20, t1, gd_T, o1, gd_T]
      exact lw_s (pr_fits N hN c M g (xs (nI (11 * c) + (1 : Int32)).toNatClampNeg)) go _ (fun Z => some ((0 : Int32), Z)) rfl
    rw [if_neg c20]
    by_cases c21 : ((xs (nI (11 * c)).toNatClampNeg) &&& (31 : Int32)) = (21 : Int32)
    · rw [if_pos c21, t1, gd_T, t2, gd_T, t3, gd_T, o1, gd_T]
      exact lw_s (pr_weight N hN c M g (xs (nI (11 * c) + (1 : Int32)).toNatClampNeg) (xs (nI (11 * c) + (2 : Int32)).toNatClampNeg) (xs (nI (11 * c) + (3 : Int32)).toNatClampNeg)) go _ (fun Z => some ((0 : Int32), Z)) rfl
    rw [if_neg c21]
    by_cases c22 : ((xs (nI (11 * c)).toNatClampNeg) &&& (31 : Int32)) = (22 : Int32)
    · rw [if_pos c22, t1, gd_T, t2, gd_T, t3, gd_T, t4, gd_T]
      by_cases z : xs (nI (11 * c) + (4 : Int32)).toNatClampNeg = 0
      · rw [if_pos z]
        unfold f_Law_law_990
        rw [o1, gd_T]
        obtain ⟨r, W, Z, h1, h2, h3, h4⟩ := pr_range N hN c M g (xs (nI (11 * c) + (1 : Int32)).toNatClampNeg) (xs (nI (11 * c) + (2 : Int32)).toNatClampNeg) (xs (nI (11 * c) + (3 : Int32)).toNatClampNeg) 0
        rw [h1, bn_S, t1, gd_T, t2, gd_T, t3, gd_T, t4, gd_T, if_pos z]
        unfold f_Law_law_1022
        show Fn (sw_gd [sw_ok W 80 12] ((f_Model_range N 80 (xs (nI (11 * c) + (1 : Int32)).toNatClampNeg) (xs (nI (11 * c) + (2 : Int32)).toNatClampNeg) (xs (nI (11 * c) + (3 : Int32)).toNatClampNeg) 0 W).bind (fun u2 => if r = u2.1 then f_Law_law_1309 N L xs (f_Law_law_18 N L xs j) 1 80 (nI (11 * c)) u2.2 else some ((0 : Int32), u2.2))))
        rw [ok_80 h2.1, gd_T, h3, bn_S]
        show Fn (if r = r then _ else _)
        rw [if_pos rfl]
        exact go Z h4
      · rw [if_neg z]
        unfold f_Law_law_990
        rw [o1, gd_T]
        obtain ⟨r, W, Z, h1, h2, h3, h4⟩ := pr_range N hN c M g (xs (nI (11 * c) + (1 : Int32)).toNatClampNeg) (xs (nI (11 * c) + (2 : Int32)).toNatClampNeg) (xs (nI (11 * c) + (3 : Int32)).toNatClampNeg) 1
        rw [h1, bn_S, t1, gd_T, t2, gd_T, t3, gd_T, t4, gd_T, if_neg z]
        unfold f_Law_law_1022
        show Fn (sw_gd [sw_ok W 80 12] ((f_Model_range N 80 (xs (nI (11 * c) + (1 : Int32)).toNatClampNeg) (xs (nI (11 * c) + (2 : Int32)).toNatClampNeg) (xs (nI (11 * c) + (3 : Int32)).toNatClampNeg) 1 W).bind (fun u2 => if r = u2.1 then f_Law_law_1309 N L xs (f_Law_law_18 N L xs j) 1 80 (nI (11 * c)) u2.2 else some ((0 : Int32), u2.2))))
        rw [ok_80 h2.1, gd_T, h3, bn_S]
        show Fn (if r = r then _ else _)
        rw [if_pos rfl]
        exact go Z h4
    rw [if_neg c22]
    by_cases c23 : ((xs (nI (11 * c)).toNatClampNeg) &&& (31 : Int32)) = (23 : Int32)
    · rw [if_pos c23, t1, gd_T, o1, gd_T]
      exact lw_s (pr_quarrel N hN c M g (xs (nI (11 * c) + (1 : Int32)).toNatClampNeg)) go _ (fun Z => some ((0 : Int32), Z)) rfl
    rw [if_neg c23]
    by_cases c24 : ((xs (nI (11 * c)).toNatClampNeg) &&& (31 : Int32)) = (24 : Int32)
    · rw [if_pos c24, t1, gd_T, t2, gd_T, o1, gd_T]
      exact lw_s (pr_models N hN c M g (xs (nI (11 * c) + (1 : Int32)).toNatClampNeg) (xs (nI (11 * c) + (2 : Int32)).toNatClampNeg)) go _ (fun Z => some ((0 : Int32), Z)) rfl
    rw [if_neg c24]
    by_cases c25 : ((xs (nI (11 * c)).toNatClampNeg) &&& (31 : Int32)) = (25 : Int32)
    · rw [if_pos c25, t1, gd_T, t2, gd_T, t3, gd_T, t4, gd_T, t5, gd_T, t6, gd_T, t7, gd_T, t8, gd_T, t9, gd_T, t10, gd_T, o1, gd_T]
      exact lw_s (pr_stream N (by omega) c M g (xs (nI (11 * c) + (1 : Int32)).toNatClampNeg) (xs (nI (11 * c) + (2 : Int32)).toNatClampNeg) (xs (nI (11 * c) + (3 : Int32)).toNatClampNeg) (xs (nI (11 * c) + (4 : Int32)).toNatClampNeg) (xs (nI (11 * c) + (5 : Int32)).toNatClampNeg) (xs (nI (11 * c) + (6 : Int32)).toNatClampNeg) (xs (nI (11 * c) + (7 : Int32)).toNatClampNeg) (xs (nI (11 * c) + (8 : Int32)).toNatClampNeg) (xs (nI (11 * c) + (9 : Int32)).toNatClampNeg) (xs (nI (11 * c) + (10 : Int32)).toNatClampNeg)) go _ (fun Z => some ((0 : Int32), Z)) rfl
    rw [if_neg c25]
    by_cases c26 : ((xs (nI (11 * c)).toNatClampNeg) &&& (31 : Int32)) = (26 : Int32)
    · rw [if_pos c26, o1, gd_T]
      exact lw_s (pr_trail N (by omega) c M g ) go _ (fun Z => some ((0 : Int32), Z)) rfl
    rw [if_neg c26]
    by_cases c27 : ((xs (nI (11 * c)).toNatClampNeg) &&& (31 : Int32)) = (27 : Int32)
    · rw [if_pos c27, t1, gd_T, t2, gd_T, t3, gd_T, o1, gd_T]
      exact lw_s (pr_bent N (by omega) c M g (xs (nI (11 * c) + (1 : Int32)).toNatClampNeg) (((xs (nI (11 * c) + (2 : Int32)).toNatClampNeg).toInt64 <<< ((32 : Int32).toInt64 &&& 63)) ||| ((xs (nI (11 * c) + (3 : Int32)).toNatClampNeg).toInt64 &&& (4294967295 : Int64)))) go _ (fun Z => some ((0 : Int32), Z)) rfl
    rw [if_neg c27]
    by_cases c28 : ((xs (nI (11 * c)).toNatClampNeg) &&& (31 : Int32)) = (28 : Int32)
    · rw [if_pos c28, t1, gd_T, o1, gd_T]
      exact lw_s (pr_count N c M g (xs (nI (11 * c) + (1 : Int32)).toNatClampNeg)) go _ (fun Z => some ((0 : Int32), Z)) rfl
    rw [if_neg c28]
    exact go M (by
      obtain ⟨Q, mass, gx, gh, gm⟩ := g
      exact ⟨Q, mass, IX_up gx, gh, gm⟩)
