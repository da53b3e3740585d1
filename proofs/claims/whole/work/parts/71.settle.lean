/-! 71: an ORBIT's share in the CELLS -/
def clP (g r : Int32) (T : Nat → SS) (k : Nat) : Int32 := celI g r (T k).x.toInt32.toInt64 (T k).y.toInt32.toInt64
def saF (g r : Int32) (T : Nat → SS) (c : Nat) : Nat → Int32
  | 0 => 0
  | t + 1 => if clP g r T (t + 1) = nI c then saF g r T c t + 1 else saF g r T c t
def gaF (g r : Int32) (T : Nat → SS) (c : Nat) : Nat → Int32
  | 0 => 0
  | t + 1 => if clP g r T (t + 1) = nI c then gaF g r T c t + (T (t + 1)).u.toInt32 else gaF g r T c t
theorem m1_lt : (-1 : Int32) < 0 := by decide
theorem m1_ne {c : Nat} (h : c < 64) : ¬ (-1 : Int32) = nI c := fun e => by
  have := congrArg Int32.toInt e
  rw [nI_toInt (by omega), show (-1 : Int32).toInt = -1 from by decide] at this
  omega
theorem Orbit_settle_18 (N : Nat) (g r : Int32) (hg : GB g r) (q : Nat) (T : Nat → SS) (D : Nat) (hD : D ≤ 240) : ∀ (d j t : Nat) (M : sw_M), t + d = D → d < j → HR M → OQ M q → rd_I M 33 5 = g → rd_I M 33 6 = r → rd_I M q 5 = nI D →
    (∀ k, k ≤ D → rd_I M (q + 2) k = (T k).x.toInt32 ∧ rd_I M (q + 3) k = (T k).y.toInt32 ∧ rd_I M (q + 4) k = (T k).u.toInt32) →
    (∀ c, c < 64 → rd_I M (q + 7) c = saF g r T c t ∧ rd_I M (q + 8) c = gaF g r T c t) →
    ∃ W, f_Orbit_settle_18 N j q 33 (nI (t + 1)) M = some W ∧ Fr (fun a _ => a = q + 7 ∨ a = q + 8) M W ∧ ∀ c, c < 64 → rd_I W (q + 7) c = saF g r T c D ∧ rd_I W (q + 8) c = gaF g r T c D
  | 0, j, t, M, ht, hj, hH, hq, h5, h6, hd, hx, hc => by
    obtain ⟨j, rfl⟩ : ∃ k, j = k + 1 := ⟨j - 1, by omega⟩
    obtain rfl : t = D := by omega
    refine ⟨M, ?_, Fr.refl _ _, hc⟩
    rw [f_Orbit_settle_18, hq.ok, gd_T, hd, if_pos (nI_lt (by omega) (by omega))]
  | d + 1, j, t, M, ht, hj, hH, hq, h5, h6, hd, hx, hc => by
    obtain ⟨j, rfl⟩ : ∃ k, j = k + 1 := ⟨j - 1, by omega⟩
    have hge := hq.ge
    obtain ⟨x1, x2, x3⟩ := hx (t + 1) (by omega)
    rw [f_Orbit_settle_18, hq.ok, gd_T, hd, if_neg (nI_nlt (by omega) (by omega)), if_neg (i32_nlt (by rw [nI_toInt (by omega), show (240 : Int32).toInt = 240 from by decide]; omega))]
    simp only [m_II, m_LL, m_RR, m_IL, m_IR, m_LI, m_LR, m_RI, m_RL, m_NI, m_NL, m_NR, m_okI, m_okL, m_okR, m_okaI, m_okaL, m_okaR, m_arI, m_arL, m_arR, gd_T, bn_S, Nat.reduceEqDiff, Nat.left_eq_add, Nat.add_eq_left, Nat.one_ne_zero, and_false, and_true, false_and, true_and, if_false, if_true, cl_0, cl_1, cl_2, hq.r4, hq.t0, hq.t1, hq.t2, hq.a1, hq.a2, hq.a3, hq.a4, hq.n1, hq.n2, ti_04, ti_14, ti_24, Bool.false_or, cl_n (show t + 1 < 2 ^ 31 by omega), ti_n (show t + 1 < 241 by omega) (by decide), ok_33 hH.1, Swarm_cellOf N M hH g r h5 h6 hg, x1, x2, x3]
    have hcl : celI g r (T (t + 1)).x.toInt32.toInt64 (T (t + 1)).y.toInt32.toInt64 = clP g r T (t + 1) := rfl
    rw [hcl]
    rcases celI_n hg (T (t + 1)).x.toInt32.toInt64 (T (t + 1)).y.toInt32.toInt64 with e | ⟨c, c1, c2, e⟩
    · rw [hcl] at e
      rw [e, if_pos m1_lt, f_Orbit_settle_93, nI_1]
      refine Orbit_settle_18 N g r hg q T D hD d j (t + 1) M (by omega) (by omega) hH hq h5 h6 hd hx (fun c hc' => ?_)
      rw [saF, gaF, e, if_neg (m1_ne hc'), if_neg (m1_ne hc')]
      exact hc c hc'
    · rw [hcl] at e
      rw [e, if_neg (nI_pos (by omega)), if_neg (show ¬ (64 : Int32) ≤ nI c from (nI_ge c1 (by omega) : ¬ nI 64 ≤ nI c))]
      simp only [f_Orbit_settle_93, m_II, m_LL, m_RR, m_IL, m_IR, m_LI, m_LR, m_RI, m_RL, m_NI, m_NL, m_NR, m_okI, m_okL, m_okR, m_okaI, m_okaL, m_okaR, m_arI, m_arL, m_arR, gd_T, bn_S, Nat.reduceEqDiff, Nat.left_eq_add, Nat.add_eq_left, Nat.one_ne_zero, and_false, and_true, false_and, true_and, if_false, if_true, hq.ok, hq.r15, hq.r16, hq.a7, hq.a8, ti_n c1 (by decide), cl_n (show c < 2 ^ 31 by omega), x3, nI_1]
      have hfr : ∀ v w, Fr (fun a _ => a = q + 7 ∨ a = q + 8) M (wr_I (wr_I M (q + 7) c v) (q + 8) c w) := fun v w => ((Fr.refl _ M).wI _ _ _ (Or.inl rfl)).wI _ _ _ (Or.inr rfl)
      obtain ⟨W, w1, w2, w3⟩ := Orbit_settle_18 N g r hg q T D hD d j (t + 1) _ (by omega) (by omega) ((hfr (rd_I M (q + 7) c + 1) (rd_I M (q + 8) c + (T (t + 1)).u.toInt32)).hr hH) ((hfr _ _).oq hq) (((hfr _ _).I 33 5 (by omega)).trans h5) (((hfr _ _).I 33 6 (by omega)).trans h6) (((hfr _ _).I q 5 (by omega)).trans hd) (fun k hk => by rw [(hfr _ _).I _ _ (by omega), (hfr _ _).I _ _ (by omega), (hfr _ _).I _ _ (by omega)]; exact hx k hk) (fun c' hc' => by
        rw [saF, gaF, e]
        simp only [m_II, m_LL, m_RR, m_IL, m_IR, m_LI, m_LR, m_RI, m_RL, m_NI, m_NL, m_NR, m_okI, m_okL, m_okR, m_okaI, m_okaL, m_okaR, m_arI, m_arL, m_arR, gd_T, bn_S, Nat.reduceEqDiff, Nat.left_eq_add, Nat.add_eq_left, Nat.one_ne_zero, and_false, and_true, false_and, true_and, if_false, if_true]
        by_cases hcc : c' = c
        · subst hcc
          rw [(hc c' hc').1, (hc c' hc').2]
          simp
        · rw [if_neg (fun h => hcc ((nI_eq (by omega) (by omega)).mp h).symm), if_neg (fun h => hcc ((nI_eq (by omega) (by omega)).mp h).symm)]
          simp only [hcc, and_false, if_false]
          exact hc c' hc')
      exact ⟨W, w1, (hfr _ _).trans w2, w3⟩
theorem Orbit_settle (N : Nat) (hN : 300 ≤ N) (g r : Int32) (hg : GB g r) (q : Nat) (T : Nat → SS) (D : Nat) (hD : D ≤ 240) (M : sw_M) (hH : HR M) (hq : OQ M q) (h5 : rd_I M 33 5 = g) (h6 : rd_I M 33 6 = r) (hd : rd_I M q 5 = nI D)
    (hx : ∀ k, k ≤ D → rd_I M (q + 2) k = (T k).x.toInt32 ∧ rd_I M (q + 3) k = (T k).y.toInt32 ∧ rd_I M (q + 4) k = (T k).u.toInt32) :
    ∃ W, f_Orbit_settle N q 33 M = some W ∧ Fr (fun a _ => a = q + 7 ∨ a = q + 8) M W ∧ ∀ c, c < 64 → rd_I W (q + 7) c = saF g r T c D ∧ rd_I W (q + 8) c = gaF g r T c D := by
  have hge := hq.ge
  obtain ⟨⟨k, hk, hqk⟩, hn, _⟩ := id hq
  have hs7 : sw_sh (q + 7) = some (13, 64) := by rw [hqk]; exact (sh_orb k hk).2.2.2.2.2.2.2.1
  have hs8 : sw_sh (q + 8) = some (13, 64) := by rw [hqk]; exact (sh_orb k hk).2.2.2.2.2.2.2.2
  obtain ⟨W, e1, e2, e3⟩ := Arr_fillI N (q + 7) 64 0 (by omega) hs7 64 N 0 M (by omega) (by omega) (by omega)
  obtain ⟨V, g1, g2, g3⟩ := Arr_fillI N (q + 8) 64 0 (by omega) hs8 64 N 0 W (by omega) (by omega) (by rw [e2.N]; omega)
  have fV : Fr (fun a _ => a = q + 7 ∨ a = q + 8) M V := (e2.mono (fun a k h => Or.inl h.1)).trans (g2.mono (fun a k h => Or.inr h.1))
  unfold f_Orbit_settle f_Arr_fill_aII
  have e1' : f_Arr_fill_aII_5 N N (q + 7) 0 0 (nI 64) M = some W := e1
  have g1' : f_Arr_fill_aII_5 N N (q + 8) 0 0 (nI 64) W = some V := g1
  have qW := e2.oq hq
  rw [hq.ok, gd_T, hq.r15, hq.o7, gd_T, hq.l7, e1', bn_S, qW.ok, gd_T, qW.r16, qW.o8, gd_T, qW.l8, g1', bn_S]
  obtain ⟨Z, z1, z2, z3⟩ := Orbit_settle_18 N g r hg q T D hD D N 0 V (by omega) (by omega) (fV.hr hH) (fV.oq hq) ((fV.I 33 5 (by omega)).trans h5) ((fV.I 33 6 (by omega)).trans h6) ((fV.I q 5 (by omega)).trans hd) (fun k hk => by rw [fV.I _ _ (by omega), fV.I _ _ (by omega), fV.I _ _ (by omega)]; exact hx k hk) (fun c hc => ⟨by rw [g2.I _ _ (by omega)]; exact e3 c (by omega) hc, g3 c (by omega) hc⟩)
  exact ⟨Z, z1, fV.trans z2, z3⟩
