/-! 78: shares on the reference's side -/
theorem Model_spread_7 (N : Nat) : ∀ (d j i : Nat) (M : sw_M), i + d = 384 → d < j → MR M → ∃ W, f_Model_spread_7 N j 80 (nI i) M = f_Model_spread_36 N N 80 0 W ∧ Fr (fun a _ => a = 112 ∨ a = 113) M W ∧ (∀ k, k < 384 → (i ≤ k → rd_I W 112 k = 0 ∧ rd_I W 113 k = 0) ∧ (k < i → rd_I W 112 k = rd_I M 112 k ∧ rd_I W 113 k = rd_I M 113 k))
  | 0, j, i, M, hi, hj, hM => by
    obtain ⟨j, rfl⟩ : ∃ k, j = k + 1 := ⟨j - 1, by omega⟩
    refine ⟨M, ?_, Fr.refl _ _, fun k hk => ⟨fun h => by omega, fun _ => ⟨rfl, rfl⟩⟩⟩
    rw [f_Model_spread_7, if_pos (show (384 : Int32) ≤ nI i from (nI_le (by omega) (by omega) : nI 384 ≤ nI i))]
  | d + 1, j, i, M, hi, hj, hM => by
    obtain ⟨j, rfl⟩ : ∃ k, j = k + 1 := ⟨j - 1, by omega⟩
    have f0 : Fr (fun a _ => a = 112 ∨ a = 113) M (wr_I (wr_I M 112 i 0) 113 i 0) := ((Fr.refl _ M).wI _ _ _ (Or.inl rfl)).wI _ _ _ (Or.inr rfl)
    obtain ⟨W, e1, e2, e3⟩ := Model_spread_7 N d j (i + 1) (wr_I (wr_I M 112 i 0) 113 i 0) (by omega) (by omega) hM
    refine ⟨W, ?_, f0.trans e2, fun k hk => ⟨fun h => ?_, fun h => ?_⟩⟩
    · rw [f_Model_spread_7, if_neg (show ¬ (384 : Int32) ≤ nI i from (nI_ge (by omega) (by omega) : ¬ nI 384 ≤ nI i))]
      simp only [m_II, m_LL, m_RR, m_IL, m_IR, m_LI, m_LR, m_RI, m_RL, m_NI, m_NL, m_NR, m_okI, m_okL, m_okR, m_okaI, m_okaL, m_okaR, m_arI, m_arL, m_arR, gd_T, bn_S, Nat.reduceEqDiff, Nat.left_eq_add, Nat.add_eq_left, Nat.one_ne_zero, and_false, and_true, false_and, true_and, if_false, if_true, ok_80 hM.1, mr_73 hM, mr_74 hM, ar_112 hM.1, ar_113 hM.1, ti_n (show i < 384 by omega) (by decide), cl_n (show i < 2 ^ 31 by omega), nI_1]
      exact e1
    · by_cases c : k = i
      · subst c
        obtain ⟨a1, a2⟩ := (e3 k hk).2 (by omega)
        rw [a1, a2]
        simp only [m_II, m_LL, m_RR, m_IL, m_IR, m_LI, m_LR, m_RI, m_RL, m_NI, m_NL, m_NR, m_okI, m_okL, m_okR, m_okaI, m_okaL, m_okaR, m_arI, m_arL, m_arR, gd_T, bn_S, Nat.reduceEqDiff, Nat.left_eq_add, Nat.add_eq_left, Nat.one_ne_zero, and_false, and_true, false_and, true_and, if_false, if_true]
      · exact (e3 k hk).1 (by omega)
    · obtain ⟨a1, a2⟩ := (e3 k hk).2 (by omega)
      rw [a1, a2]
      have : ¬ k = i := by omega
      simp only [m_II, m_LL, m_RR, m_IL, m_IR, m_LI, m_LR, m_RI, m_RL, m_NI, m_NL, m_NR, m_okI, m_okL, m_okR, m_okaI, m_okaL, m_okaR, m_arI, m_arL, m_arR, gd_T, bn_S, Nat.reduceEqDiff, Nat.left_eq_add, Nat.add_eq_left, Nat.one_ne_zero, and_false, and_true, false_and, true_and, if_false, if_true, this]
/-- shares of an ORBIT behind t STEPS -/
def MSh (M : sw_M) (E : EN) (T : Nat → SS) (o t : Nat) : Prop := ∀ c, c < 64 → rd_I M 112 (64 * o + c) = saF E.g E.r T c t ∧ rd_I M 113 (64 * o + c) = gaF E.g E.r T c t
def Ash (o a k : Nat) : Prop := (a = 112 ∨ a = 113) ∧ 64 * o ≤ k ∧ k < 64 * o + 64
theorem MSh_fr {A : Nat → Nat → Prop} {M W : sw_M} {E : EN} {T : Nat → SS} {o t : Nat} (h : Fr A M W) (hA : ∀ a k, Ash o a k → ¬ A a k) (g : MSh M E T o t) : MSh W E T o t := fun c hc => by
  rw [h.I _ _ (hA _ _ (by unfold Ash; omega)), h.I _ _ (hA _ _ (by unfold Ash; omega))]
  exact g c hc
theorem Model_spread_46 (N : Nat) (k36 : Nat → Int32 → sw_M → Option sw_M) (E : EN) (hg : GB E.g E.r) (T : Nat → SS) (D : Nat) (hD : D ≤ 240) (o : Nat) (ho : o < 6) : ∀ (d j t : Nat) (M : sw_M), t + d = D → d < j → MR M → rd_I M 80 71 = E.g → rd_I M 80 72 = E.r → rd_I M 102 o = nI D → MRow M o T D → MSh M E T o t →
    ∃ W, f_Model_spread_46 N k36 j 80 (nI o) (nI (t + 1)) M = k36 80 (nI (o + 1)) W ∧ Fr (Ash o) M W ∧ MSh W E T o D := by
  intro d
  induction d with
  | zero =>
    intro j t M hd hj hM h1 h2 h3 hr hs
    obtain ⟨j, rfl⟩ : ∃ k, j = k + 1 := ⟨j - 1, by omega⟩
    obtain rfl : t = D := by omega
    refine ⟨M, ?_, Fr.refl _ _, hs⟩
    rw [f_Model_spread_46, ok_80 hM.1, gd_T, mr_60 hM, ar_102 hM.1, ti_n ho (by decide), gd_T, cl_n (by omega), h3, if_pos (nI_lt (by omega) (by omega)), nI_1]
  | succ d ih =>
    intro j t M hd hj hM h1 h2 h3 hr hs
    obtain ⟨j, rfl⟩ : ∃ k, j = k + 1 := ⟨j - 1, by omega⟩
    obtain ⟨r1, r2, r3, r4⟩ := hr (t + 1) (by omega)
    rw [f_Model_spread_46]
    simp only [ok_80 hM.1, mr_60 hM, mr_56 hM, mr_57 hM, ar_102 hM.1, ar_98 hM.1, ar_99 hM.1, gd_T, ix241, ti_n ho (by decide), cl_n (show o < 2 ^ 31 by omega), ti_n (show 241 * o + (t + 1) < 1446 by omega) (by decide), cl_n (show 241 * o + (t + 1) < 2 ^ 31 by omega), h3, r1, r2]
    rw [if_neg (nI_nlt (by omega) (by omega)), Model_cellOf N M hM E.g E.r h1 h2 hg, bn_S]
    have hcl : celI E.g E.r (T (t + 1)).x.toInt32.toInt64 (T (t + 1)).y.toInt32.toInt64 = clP E.g E.r T (t + 1) := rfl
    rw [hcl]
    rcases celI_n hg (T (t + 1)).x.toInt32.toInt64 (T (t + 1)).y.toInt32.toInt64 with e | ⟨c, c1, c2, e⟩
    · rw [hcl] at e
      rw [e, if_pos rfl, f_Model_spread_140, nI_1]
      refine ih j (t + 1) M (by omega) (by omega) hM h1 h2 h3 hr (fun c hc => ?_)
      rw [saF, gaF, e, if_neg (m1_ne hc), if_neg (m1_ne hc)]
      exact hs c hc
    · rw [hcl] at e
      rw [e, if_neg (fun h => m1_ne c1 h.symm)]
      simp only [f_Model_spread_140, m_II, m_LL, m_RR, m_IL, m_IR, m_LI, m_LR, m_RI, m_RL, m_NI, m_NL, m_NR, m_okI, m_okL, m_okR, m_okaI, m_okaL, m_okaR, m_arI, m_arL, m_arR, gd_T, bn_S, Nat.reduceEqDiff, Nat.left_eq_add, Nat.add_eq_left, Nat.one_ne_zero, and_false, and_true, false_and, true_and, if_false, if_true, ok_80 hM.1, mr_73 hM, mr_74 hM, mr_58 hM, ar_112 hM.1, ar_113 hM.1, ar_100 hM.1, ix64, ix241, ti_n (show 64 * o + c < 384 by omega) (by decide), cl_n (show 64 * o + c < 2 ^ 31 by omega), ti_n (show 241 * o + (t + 1) < 1446 by omega) (by decide), cl_n (show 241 * o + (t + 1) < 2 ^ 31 by omega), r3, nI_1]
      have hfr : ∀ v w, Fr (Ash o) M (wr_I (wr_I M 112 (64 * o + c) v) 113 (64 * o + c) w) := fun v w => ((Fr.refl _ M).wI _ _ _ (by unfold Ash; omega)).wI _ _ _ (by unfold Ash; omega)
      obtain ⟨W, w1, w2, w3⟩ := ih j (t + 1) _ (by omega) (by omega) ((hfr (rd_I M 112 (64 * o + c) + 1) (rd_I M 113 (64 * o + c) + (T (t + 1)).u.toInt32)).mr hM) (((hfr _ _).I 80 71 (by unfold Ash; omega)).trans h1) (((hfr _ _).I 80 72 (by unfold Ash; omega)).trans h2) (((hfr _ _).I 102 o (by unfold Ash; omega)).trans h3) (MRow_fr (hfr _ _) hD (fun a k h c => by unfold Akp at h; unfold Ash at c; omega) hr) (fun c' hc' => by
        rw [saF, gaF, e]
        simp only [m_II, m_LL, m_RR, m_IL, m_IR, m_LI, m_LR, m_RI, m_RL, m_NI, m_NL, m_NR, m_okI, m_okL, m_okR, m_okaI, m_okaL, m_okaR, m_arI, m_arL, m_arR, gd_T, bn_S, Nat.reduceEqDiff, Nat.left_eq_add, Nat.add_eq_left, Nat.one_ne_zero, and_false, and_true, false_and, true_and, if_false, if_true, Nat.add_left_cancel_iff]
        by_cases hcc : c' = c
        · subst hcc
          rw [(hs c' hc').1, (hs c' hc').2]
          simp
        · rw [if_neg (fun h => hcc ((nI_eq (by omega) (by omega)).mp h).symm), if_neg (fun h => hcc ((nI_eq (by omega) (by omega)).mp h).symm)]
          simp only [hcc, if_false]
          exact hs c' hc')
      exact ⟨W, w1, (hfr _ _).trans w2, w3⟩
theorem Model_spread_36 (N : Nat) (hN : 300 ≤ N) (E : EN) (mass : Int32) (hm : mok mass) : ∀ (d j o : Nat) (M : sw_M), o + d = E.no → d < j → MR M → ME M E → (∀ p, p < E.no → MO M E mass p) → (∀ p, p < o → MSh M E (TT E mass p) p (DD E mass p)) → (∀ p, o ≤ p → p < E.no → MSh M E (TT E mass p) p 0) →
    ∃ W, f_Model_spread_36 N j 80 (nI o) M = some W ∧ Fr (fun a _ => a = 112 ∨ a = 113) M W ∧ ∀ p, p < E.no → MSh W E (TT E mass p) p (DD E mass p)
  | 0, j, o, M, hd, hj, hM, hE, hO, hs, hs' => by
    obtain ⟨j, rfl⟩ : ∃ k, j = k + 1 := ⟨j - 1, by omega⟩
    obtain rfl : o = E.no := by omega
    have h6 := hE.1.2.2.2.1
    refine ⟨M, ?_, Fr.refl _ _, hs⟩
    rw [f_Model_spread_36, ok_80 hM.1, gd_T, hE.2.2.2.2.2.1, if_pos (nI_le (by omega) (by omega))]
  | d + 1, j, o, M, hd, hj, hM, hE, hO, hs, hs' => by
    obtain ⟨j, rfl⟩ : ∃ k, j = k + 1 := ⟨j - 1, by omega⟩
    have h6 := hE.1.2.2.2.1
    have hL := hE.1.2.2.1
    have hw := (ways hE.1 hm (show o < E.no by omega)).1
    obtain ⟨m1, m2, _⟩ := hO o (by omega)
    rw [f_Model_spread_36, ok_80 hM.1, gd_T, hE.2.2.2.2.2.1, if_neg (nI_ge (by omega) (by omega))]
    obtain ⟨W, e1, e2, e3⟩ := Model_spread_46 N (f_Model_spread_36 N j) E hE.1.2.2.2.2.2 (TT E mass o) (DD E mass o) (by omega) o (by omega) (DD E mass o) N 0 M (by omega) (by omega) hM hE.2.2.2.2.2.2.2.1 hE.2.2.2.2.2.2.2.2 m2 m1 (hs' o (by omega) (by omega))
    have e2' : Fr (fun a _ => a = 112 ∨ a = 113) M W := e2.mono (fun a k h => h.1)
    obtain ⟨Z, z1, z2, z3⟩ := Model_spread_36 N hN E mass hm d j (o + 1) W (by omega) (by omega) (e2.mr hM) (ME_fr e2 (fun a k h c => by unfold Cx at h; unfold Ash at c; omega) hE) (fun p hp => MO_fr e2 (by have := (ways hE.1 hm hp).1; omega) (fun a k h c => by unfold Cmo Akp at h; unfold Ash at c; omega) (hO p hp)) (fun p hp => by
      by_cases c : p = o
      · subst c; exact e3
      · exact MSh_fr e2 (fun a k h c' => by unfold Ash at h c'; omega) (hs p (by omega))) (fun p h1 h2 => MSh_fr e2 (fun a k h c' => by unfold Ash at h c'; omega) (hs' p (by omega) h2))
    exact ⟨Z, by rw [show (1 : Int32) = nI (0 + 1) from rfl, e1]; exact z1, e2'.trans z2, z3⟩
def Asp (a k : Nat) : Prop := Aga a k ∨ a = 112 ∨ a = 113
theorem CxAsp : ∀ a k, Cx a k → ¬ Asp a k := by intro a k h; unfold Cx at h; unfold Asp Aga Aw Awk; omega
/-- ORBITS and shares by a mass, on the reference's side -/
noncomputable def MG (M : sw_M) (E : EN) (mass : Int32) : Prop := (∀ p, p < E.no → MO M E mass p) ∧ ∀ p, p < E.no → ∀ c, c < 64 → rd_I M 112 (64 * p + c) = SH E mass p c ∧ rd_I M 113 (64 * p + c) = GO E mass p c
theorem Model_spread (N : Nat) (hN : 400 ≤ N) (E : EN) (mass : Int32) (hm : mok mass) (M : sw_M) (hM : MR M) (hH : HR M) (hF : FR M E.n) (hE : ME M E) :
    ∃ W, f_Model_spread N 80 mass M = some W ∧ Fr Asp M W ∧ MG W E mass := by
  obtain ⟨W, e1, e2, e3⟩ := Model_goAll N (by omega) E mass hm M hM hH hF hE
  obtain ⟨V, v1, v2, v3⟩ := Model_spread_7 N 384 N 0 W (by omega) (by omega) (e2.mr hM)
  have h6 := hE.1.2.2.2.1
  have hL := hE.1.2.2.1
  have hDD : ∀ p, p < E.no → DD E mass p ≤ 240 := fun p hp => by have := (ways hE.1 hm hp).1; omega
  have cmo : ∀ p, ∀ a k, Cmo p a k → ¬ (a = 112 ∨ a = 113) := fun p a k h c => by unfold Cmo Akp at h; omega
  have fV : Fr Asp M V := (e2.mono (fun _ _ h => Or.inl h)).trans (v2.mono (fun _ _ h => Or.inr h))
  obtain ⟨Z, z1, z2, z3⟩ := Model_spread_36 N (by omega) E mass hm E.no N 0 V (by omega) (by omega) (fV.mr hM) (ME_fr fV CxAsp hE) (fun p hp => MO_fr v2 (hDD p hp) (cmo p) (e3 p hp)) (fun p hp => absurd hp (by omega)) (fun p _ hp c hc => (v3 (64 * p + c) (by omega)).1 (by omega))
  refine ⟨Z, ?_, fV.trans (z2.mono (fun _ _ h => Or.inr h)), fun p hp => MO_fr z2 (hDD p hp) (cmo p) (MO_fr v2 (hDD p hp) (cmo p) (e3 p hp)), z3⟩
  unfold f_Model_spread
  rw [ok_80 hM.1, gd_T, e1, bn_S]
  exact v1.trans z1
