/-! 79: all ORBITS on the other side -/
def hob (p : Nat) : Nat := 125 + 9 * p
/-- the rule on this side -/
def RHs (M : sw_M) (q : Nat) (E : EN) : Prop := rd_I M q 5 = E.hu ∧ rd_I M q 3 = nI E.k ∧ ∀ t, t < E.k → rd_I M (q + 1) t = hst (E.w t) ∧ ((E.w t).1 = 0 → rd_I M (q + 2) t = (E.w t).2)
/-- E is what this side's memory holds -/
def HE (M : sw_M) (E : EN) : Prop := rd_I M 33 4 = nI E.L ∧ rd_I M 33 5 = E.g ∧ rd_I M 33 6 = E.r ∧ rd_I M 33 3 = nI E.no ∧ RHs M (rd_R M 3 1) E ∧ ∀ p, p < E.no → rd_R M 34 p = hob p ∧ OQ M (hob p) ∧ SB (rd_I M (hob p) 0) (rd_I M (hob p) 1) (rd_I M (hob p) 2) (rd_I M (hob p) 3) ∧ s0 (rd_I M (hob p) 0) (rd_I M (hob p) 1) (rd_I M (hob p) 2) (rd_I M (hob p) 3) = E.st p
/-- an ORBIT on this side, told -/
noncomputable def HO (M : sw_M) (E : EN) (mass : Int32) (p : Nat) : Prop := OS M (hob p) (TT E mass p) (DD E mass p) ∧ rd_I M (hob p) 6 = gnF (TT E mass p) (DD E mass p) ∧ (∀ c, c < 64 → rd_I M (hob p + 7) c = SH E mass p c ∧ rd_I M (hob p + 8) c = GO E mass p c) ∧ rd_I M (hob p) 17 = bz (UU E mass p)
theorem HO_fr {A : Nat → Nat → Prop} {M W : sw_M} {E : EN} {mass : Int32} {p : Nat} (h : Fr A M W) (hA : ∀ a k, Ao (hob p) a k → ¬ A a k) (g : HO M E mass p) : HO W E mass p := by
  obtain ⟨g1, g2, g3, g4⟩ := g
  refine ⟨OS_fr h hA g1, (h.I _ _ (hA _ _ (by unfold Ao; omega))).trans g2, fun c hc => ?_, (h.I _ _ (hA _ _ (by unfold Ao; omega))).trans g4⟩
  rw [h.I _ _ (hA _ _ (by unfold Ao; omega)), h.I _ _ (hA _ _ (by unfold Ao; omega))]
  exact g3 c hc
/-- cells of HE -/
def Che (a k : Nat) : Prop := (a = 33 ∧ 3 ≤ k ∧ k ≤ 6) ∨ ((a = 5 ∨ a = 20) ∧ (k = 3 ∨ k = 5)) ∨ a = 6 ∨ a = 7 ∨ a = 21 ∨ a = 22 ∨ (125 ≤ a ∧ (a - 125) % 9 = 0 ∧ k ≤ 3)
theorem RHs_fr {A : Nat → Nat → Prop} {M W : sw_M} (h : Fr A M W) (hA : ∀ a k, Che a k → ¬ A a k) {q : Nat} (hq : q = 5 ∨ q = 20) {E : EN} (g : RHs M q E) : RHs W q E := by
  obtain ⟨g1, g2, g3⟩ := g
  have e : ∀ a k, Che a k → rd_I W a k = rd_I M a k := fun a k c => h.I a k (hA a k c)
  refine ⟨(e _ _ (by unfold Che; omega)).trans g1, (e _ _ (by unfold Che; omega)).trans g2, fun t ht => ?_⟩
  rw [e (q + 1) t (by unfold Che; omega), e (q + 2) t (by unfold Che; omega)]
  exact g3 t ht
theorem HE_fr {A : Nat → Nat → Prop} {M W : sw_M} (h : Fr A M W) (hA : ∀ a k, Che a k → ¬ A a k) (hH : HR M) {E : EN} (g : HE M E) : HE W E := by
  obtain ⟨g1, g2, g3, g4, g5, g6⟩ := g
  have e : ∀ a k, Che a k → rd_I W a k = rd_I M a k := fun a k c => h.I a k (hA a k c)
  refine ⟨(e _ _ (by unfold Che; omega)).trans g1, (e _ _ (by unfold Che; omega)).trans g2, (e _ _ (by unfold Che; omega)).trans g3, (e _ _ (by unfold Che; omega)).trans g4, ?_, fun p hp => ?_⟩
  · rw [h.R]
    exact RHs_fr h hA hH.rq.1.1 g5
  · obtain ⟨a1, a2, a3, a4⟩ := g6 p hp
    have q : ∀ k, k ≤ 3 → Che (hob p) k := fun k hk => by unfold Che hob; omega
    rw [h.R, e _ _ (q 0 (by omega)), e _ _ (q 1 (by omega)), e _ _ (q 2 (by omega)), e _ _ (q 3 (by omega))]
    exact ⟨a1, h.oq a2, a3, a4⟩
theorem Orbit_kind (N : Nat) (M : sw_M) (q : Nat) (hq : sw_ok M q 4 = true) : f_Orbit_kind N q M = some (kd (rd_I M q 6) (rd_L M q 11) (rd_L M q 12), M) := by
  unfold f_Orbit_kind kd
  rw [hq, gd_T]
  repeat' split
  all_goals rfl
theorem Orbit_named (N : Nat) (M : sw_M) (q : Nat) (hq : sw_ok M q 4 = true) (T : Nat → SS) (D : Nat) (ho : OS M q T D) (h6 : rd_I M q 6 = gnF T D) (v : Int32) (hv : nmv v) : f_Orbit_named N q (29 + v) M = some (nmF T D v, M) := by
  obtain ⟨o1, o2, o3, o4, o5, o6, o7, o8, o9, o10⟩ := ho
  unfold f_Orbit_named nmF
  rw [Orbit_kind N M q hq]
  simp only [hq, gd_T, bn_S, o1, o2, o3, o4, o6, o7, o8, h6]
  unfold nmv at hv
  rcases hv with h | h | h | h | h | h <;> subst h <;> simp (decide := true) only [if_true, if_false]
  split <;> rfl
theorem Rule_uses (N : Nat) (hN : 300 ≤ N) (M : sw_M) (q : Nat) (hq : RQ M q) (E : EN) (hr : RHs M q E) (hu : RU M E.hu E.w E.k) (o : Nat) (ho : OQ M o) (T : Nat → SS) (D : Nat) (hs : OS M o T D) (h6 : rd_I M o 6 = gnF T D) :
    ∃ W, f_Rule_uses N q o M = some (bz (usd E.hu (nmF T D) E.w E.k), W) ∧ Fr (Aru q) M W := by
  obtain ⟨r1, r2, r3⟩ := hr
  obtain ⟨k1, k2, k3, k4, k5, k6⟩ := hu
  have hge := ho.ge
  have hq5 := hq.1
  unfold f_Rule_uses usd
  rw [hq.ok, gd_T, r1]
  by_cases c : E.hu = 0
  · rw [if_pos c, if_pos c]
    exact ⟨M, rfl, Fr.refl _ _⟩
  · rw [if_neg c, if_neg c]
    have f0 : Fr (Aru q) M (wr_I M q 4 0) := (Fr.refl _ M).wI _ _ _ (Or.inl ⟨rfl, rfl⟩)
    have nn : ∀ a k, Ao o a k → ¬ Aru q a k := fun a k h c => by unfold Ao at h; unfold Aru at c; omega
    obtain ⟨W, a1, a2⟩ := Rule_uses_18 N q E.w E.k k1 o (nmF T D) k5 E.k N 0 0 (wr_I M q 4 0) (fun _ => 0) (by omega) (by omega) (f0.rq hq) ((f0.I _ _ (by unfold Aru; omega)).trans r2) (by simp only [m_II, m_LL, m_RR, m_IL, m_IR, m_LI, m_LR, m_RI, m_RL, m_NI, m_NL, m_NR, m_okI, m_okL, m_okR, m_okaI, m_okaL, m_okaR, m_arI, m_arL, m_arR, gd_T, bn_S, Nat.reduceEqDiff, Nat.left_eq_add, Nat.add_eq_left, Nat.one_ne_zero, and_false, and_true, false_and, true_and, if_false, if_true]) (fun t ht => by rw [f0.I _ _ (by unfold Aru; omega), f0.I _ _ (by unfold Aru; omega)]; exact r3 t ht) (fun M' f => by
      have f' := f0.trans f
      exact ⟨(f'.oq ho).ok, fun v hv => Orbit_named N M' o (f'.oq ho).ok T D (OS_fr f' nn hs) ((f'.I _ _ (nn _ _ (by unfold Ao; omega))).trans h6) v hv⟩) (by omega) (fun t ht => absurd ht (by omega)) (k6 c)
    exact ⟨W, a1, f0.trans a2⟩
/-- what a refresh changes -/
def Arh (a k : Nat) : Prop := (a = 3 ∧ (k = 6 ∨ k = 7)) ∨ (a = 35 ∧ k ≤ 5) ∨ ((a = 5 ∨ a = 20) ∧ k = 4) ∨ a = 8 ∨ a = 23 ∨ (125 ≤ a ∧ ((a - 125) % 9 = 0 → 5 ≤ k))
theorem CheArh : ∀ a k, Che a k → ¬ Arh a k := by intro a k h; unfold Che at h; unfold Arh; omega
theorem CxArh : ∀ a k, Cx a k → ¬ Arh a k := by intro a k h; unfold Cx at h; unfold Arh; omega
theorem CfArh : ∀ a k, Cf a k → ¬ Arh a k := by intro a k h; unfold Cf at h; unfold Arh; omega
theorem AtArh {p : Nat} : ∀ a k, At (hob p) a k → Arh a k := by intro a k h; unfold At Ao As hob at h; unfold Arh; omega
theorem AruArh {q : Nat} (hq : q = 5 ∨ q = 20) : ∀ a k, Aru q a k → Arh a k := by intro a k h; unfold Aru at h; unfold Arh; omega
/-- one ORBIT of a refresh -/
theorem refresh_o (N : Nat) (hN : 300 ≤ N) (E : EN) (mass : Int32) (hm : mok mass) (p : Nat) (hp : p < E.no) (M : sw_M) (hH : HR M) (hF : FR M E.n) (hE : ME M E) (hh : HE M E) (h5 : rd_I M 3 5 = mass) (k : sw_M → Option sw_M) :
    ∃ W, (f_Orbit_run N (hob p) 3 (nI E.L) 35 M).bind (fun u5 => sw_gd [sw_ok u5 (hob p) 4] ((f_Orbit_settle N (hob p) 33 u5).bind (fun u7 => sw_gd [sw_ok u7 33 10] (sw_gd [sw_ok u7 (rd_R u7 33 0) 0] (sw_gd [sw_ok u7 (rd_R u7 (rd_R u7 33 0) 1) 7] ((f_Rule_uses N (rd_R u7 (rd_R u7 33 0) 1) (hob p) u7).bind (fun u11 => sw_gd [sw_ok u11.2 (hob p) 4] (sw_gd [sw_bz u11.1] (k (wr_I u11.2 (hob p) 17 u11.1))))))))))= k W ∧ Fr (fun a k => At (hob p) a k ∨ Aru (rd_R M 3 1) a k) M W ∧ HO W E mass p := by
  obtain ⟨c1, c2, c3, c4, c5, c6⟩ := hh
  obtain ⟨b1, b2, b3, b4⟩ := c6 p hp
  have hk := hE.1
  have hL := hk.2.2.1
  have hDL := (ways hk hm hp).1
  obtain ⟨W, e1, e2, e3, e4⟩ := Orbit_run N hN M hH E.n hF mass h5 hm E.L hL (hob p) b2 _ _ _ _ rfl rfl rfl rfl b3
  rw [b4, hE.2.2.1] at e3 e4
  have e3' : OS W (hob p) (TT E mass p) (DD E mass p) := e3
  have n33 : ∀ k, ¬ At (hob p) 33 k := fun k h => by unfold At Ao As hob at h; omega
  obtain ⟨V, v1, v2, v3⟩ := Orbit_settle N hN E.g E.r hk.2.2.2.2.2 (hob p) (TT E mass p) (DD E mass p) (by omega) W (e2.hr hH) (e2.oq b2) ((e2.I _ _ (n33 5)).trans c2) ((e2.I _ _ (n33 6)).trans c3) e3'.1 (fun k hk => by obtain ⟨x1, x2, x3, x4⟩ := e3'.2.2.2.2.2.2.2.2.1 k hk; exact ⟨x1, x2, x3⟩)
  have fV : Fr (At (hob p)) M V := e2.trans (v2.mono (fun a k h => Or.inl (by unfold Ao; omega)))
  have hHV := fV.hr hH
  have qV := fV.oq b2
  have n3 : rd_R V 33 0 = 3 := hr_f hHV 33 0 3 rfl (by decide)
  have hrr : rd_R V 3 1 = rd_R M 3 1 := fV.R 3 1
  have hq5 := hH.rq.1.1
  have hosV : OS V (hob p) (TT E mass p) (DD E mass p) := by
    obtain ⟨o1, o2, o3, o4, o5, o6, o7, o8, o9, o10⟩ := e3'
    refine ⟨(v2.I _ _ (by omega)).trans o1, (v2.L _ _ (by omega)).trans o2, (v2.L _ _ (by omega)).trans o3, (v2.I _ _ (by omega)).trans o4, (v2.I _ _ (by omega)).trans o5, (v2.L _ _ (by omega)).trans o6, (v2.L _ _ (by omega)).trans o7, (v2.I _ _ (by omega)).trans o8, fun k hk => ?_, fun k hk c => (v2.I _ _ (by omega)).trans (o10 k hk c)⟩
    rw [v2.I _ _ (by omega), v2.I _ _ (by omega), v2.I _ _ (by omega), v2.I _ _ (by omega)]
    exact o9 k hk
  have h6V : rd_I V (hob p) 6 = gnF (TT E mass p) (DD E mass p) := (v2.I _ _ (by omega)).trans e4
  obtain ⟨U, u1, u2⟩ := Rule_uses N hN V (rd_R M 3 1) (fV.rq hH.rq.1) E (RHs_fr fV (fun a k h c => CheArh a k h (AtArh a k c)) hq5 c5) (RU_fr fV (fun a k h c => CxArh a k h (AtArh a k c)) hE.2.2.2.2.1) (hob p) qV (TT E mass p) (DD E mass p) hosV h6V
  have qU := u2.oq qV
  rw [e1, bn_S, (e2.oq b2).ok, gd_T, v1, bn_S, ok_33 hHV.1, gd_T, n3, ok_3 hHV.1, gd_T, hrr, (fV.rq hH.rq.1).ok, gd_T, u1, bn_S]
  have fU : Fr (fun a k => At (hob p) a k ∨ Aru (rd_R M 3 1) a k) M (wr_I U (hob p) 17 (bz (UU E mass p))) := ((fV.mono (fun _ _ h => Or.inl h)).trans (u2.mono (fun _ _ h => Or.inr h))).wI _ _ _ (Or.inl (Or.inl (by unfold Ao; omega)))
  refine ⟨wr_I U (hob p) 17 (bz (UU E mass p)), ?_, fU, ?_⟩
  · show sw_gd [sw_ok U (hob p) 4] (sw_gd [sw_bz (bz (usd E.hu (nmF (TT E mass p) (DD E mass p)) E.w E.k))] _) = _
    rw [qU.ok, gd_T, bz_ok, gd_T]
    rfl
  · have nn : ∀ a k, Ao (hob p) a k → ¬ Aru (rd_R M 3 1) a k := fun a k h c => by unfold Ao hob at h; unfold Aru at c; omega
    have hosU := OS_fr u2 nn hosV
    refine ⟨?_, ?_, fun c hc => ?_, by simp only [m_II, m_LL, m_RR, m_IL, m_IR, m_LI, m_LR, m_RI, m_RL, m_NI, m_NL, m_NR, m_okI, m_okL, m_okR, m_okaI, m_okaL, m_okaR, m_arI, m_arL, m_arR, gd_T, bn_S, Nat.reduceEqDiff, Nat.left_eq_add, Nat.add_eq_left, Nat.one_ne_zero, and_false, and_true, false_and, true_and, if_false, if_true]⟩
    · obtain ⟨o1, o2, o3, o4, o5, o6, o7, o8, o9, o10⟩ := hosU
      refine ⟨?_, o2, o3, ?_, ?_, o6, o7, ?_, fun k hk => ?_, fun k hk c => ?_⟩ <;> simp only [m_II, m_LL, m_RR, m_IL, m_IR, m_LI, m_LR, m_RI, m_RL, m_NI, m_NL, m_NR, m_okI, m_okL, m_okR, m_okaI, m_okaL, m_okaR, m_arI, m_arL, m_arR, gd_T, bn_S, Nat.reduceEqDiff, Nat.left_eq_add, Nat.add_eq_left, Nat.one_ne_zero, and_false, and_true, false_and, true_and, if_false, if_true]
      · exact o1
      · exact o4
      · exact o5
      · exact o8
      · exact o9 k hk
      · exact o10 k hk c
    · simp only [m_II, m_LL, m_RR, m_IL, m_IR, m_LI, m_LR, m_RI, m_RL, m_NI, m_NL, m_NR, m_okI, m_okL, m_okR, m_okaI, m_okaL, m_okaR, m_arI, m_arL, m_arR, gd_T, bn_S, Nat.reduceEqDiff, Nat.left_eq_add, Nat.add_eq_left, Nat.one_ne_zero, and_false, and_true, false_and, true_and, if_false, if_true]
      exact (u2.I _ _ (nn _ _ (by unfold Ao; omega))).trans h6V
    · simp only [m_II, m_LL, m_RR, m_IL, m_IR, m_LI, m_LR, m_RI, m_RL, m_NI, m_NL, m_NR, m_okI, m_okL, m_okR, m_okaI, m_okaL, m_okaR, m_arI, m_arL, m_arR, gd_T, bn_S, Nat.reduceEqDiff, Nat.left_eq_add, Nat.add_eq_left, Nat.one_ne_zero, and_false, and_true, false_and, true_and, if_false, if_true]
      rw [u2.I _ _ (nn _ _ (by unfold Ao; omega)), u2.I _ _ (nn _ _ (by unfold Ao; omega))]
      exact v3 c hc
theorem Swarm_refresh_40 (N : Nat) (hN : 300 ≤ N) (E : EN) (mass : Int32) (hm : mok mass) : ∀ (d j o : Nat) (M : sw_M), o + d = E.no → d < j → HR M → FR M E.n → ME M E → HE M E → rd_I M 3 5 = mass → (∀ p, p < o → HO M E mass p) →
    ∃ W, f_Swarm_refresh_40 N j 33 (nI o) M = some W ∧ Fr Arh M W ∧ ∀ p, p < E.no → HO W E mass p
  | 0, j, o, M, hd, hj, hH, hF, hE, hh, h5, ho => by
    obtain ⟨j, rfl⟩ : ∃ k, j = k + 1 := ⟨j - 1, by omega⟩
    obtain rfl : o = E.no := by omega
    have h6 := hE.1.2.2.2.1
    refine ⟨M, ?_, Fr.refl _ _, ho⟩
    rw [f_Swarm_refresh_40, ok_33 hH.1, gd_T, hh.2.2.2.1, if_pos (nI_le (by omega) (by omega))]
  | d + 1, j, o, M, hd, hj, hH, hF, hE, hh, h5, ho => by
    obtain ⟨j, rfl⟩ : ∃ k, j = k + 1 := ⟨j - 1, by omega⟩
    have h6 := hE.1.2.2.2.1
    obtain ⟨b1, b2, b3, b4⟩ := hh.2.2.2.2.2 o (by omega)
    have hge := b2.ge
    obtain ⟨W, w1, w2, w3⟩ := refresh_o N hN E mass hm o (by omega) M hH hF hE hh h5 (fun U => f_Swarm_refresh_104 N (f_Swarm_refresh_40 N j) 33 (nI o) U)
    have fW : Fr Arh M W := w2.mono (fun a k h => by
      rcases h with h | h
      · exact AtArh a k h
      · exact AruArh hH.rq.1.1 a k h)
    obtain ⟨Z, z1, z2, z3⟩ := Swarm_refresh_40 N hN E mass hm d j (o + 1) W (by omega) (by omega) (fW.hr hH) (FR_fr fW CfArh hH hF) (ME_fr fW CxArh hE) (HE_fr fW CheArh hH hh) ((fW.I 3 5 (by unfold Arh; omega)).trans h5) (fun p hp => by
      by_cases c : p = o
      · subst c; exact w3
      · refine HO_fr w2 (fun a k h c' => ?_) (ho p (by omega))
        have := hH.rq.1.1
        unfold Ao hob at h
        unfold At Ao As Aru hob at c'
        omega)
    refine ⟨Z, ?_, fW.trans z2, z3⟩
    rw [f_Swarm_refresh_40, ok_33 hH.1, gd_T, hh.2.2.2.1, if_neg (nI_ge (by omega) (by omega)), hr_f hH 33 1 34 rfl (by decide), oa_34 hH.1, gd_T, ln_34, if_neg (nI_ge (show o < 6 by omega) (by omega)), ar_34 hH.1, ti_n (show o < 6 by omega) (by decide), Bool.true_or, gd_T, cl_n (by omega), b1, if_neg (by omega), b2.ok, gd_T, hr_f hH 33 0 3 rfl (by decide), hh.1, hr_f hH 33 2 35 rfl (by decide), w1, f_Swarm_refresh_104, nI_1]
    exact z1
def Arf (a k : Nat) : Prop := Arh a k ∨ (a = 33 ∧ (k = 7 ∨ k = 8))
theorem CheArf : ∀ a k, Che a k → ¬ Arf a k := by intro a k h; unfold Che at h; unfold Arf Arh; omega
theorem CxArf : ∀ a k, Cx a k → ¬ Arf a k := by intro a k h; unfold Cx at h; unfold Arf Arh; omega
theorem CfArf : ∀ a k, Cf a k → ¬ Arf a k := by intro a k h; unfold Cf at h; unfold Arf Arh; omega
/-- what this side keeps of its ORBITS -/
noncomputable def CH (M : sw_M) (E : EN) : Prop := rd_I M 33 7 = 0 ∨ (rd_I M 33 7 = 1 ∧ mok (rd_I M 33 8) ∧ ∀ p, p < E.no → HO M E (rd_I M 33 8) p)
theorem Swarm_refresh (N : Nat) (hN : 300 ≤ N) (E : EN) (mass : Int32) (hm : mok mass) (M : sw_M) (hH : HR M) (hF : FR M E.n) (hE : ME M E) (hh : HE M E) (h5 : rd_I M 3 5 = mass) (hc : CH M E) :
    ∃ W, f_Swarm_refresh N 33 M = some W ∧ Fr Arf M W ∧ rd_I W 33 7 = 1 ∧ rd_I W 33 8 = mass ∧ ∀ p, p < E.no → HO W E mass p := by
  have h6 := hE.1.2.2.2.1
  have f0 : Fr (fun a k => a = 33 ∧ (k = 7 ∨ k = 8)) M (wr_I (wr_I M 33 7 1) 33 8 mass) := ((Fr.refl _ M).wI _ _ _ ⟨rfl, Or.inl rfl⟩).wI _ _ _ ⟨rfl, Or.inr rfl⟩
  have key : ∃ W, f_Swarm_refresh_22 N 33 M = some W ∧ Fr Arf M W ∧ rd_I W 33 7 = 1 ∧ rd_I W 33 8 = mass ∧ ∀ p, p < E.no → HO W E mass p := by
    obtain ⟨W, w1, w2, w3⟩ := Swarm_refresh_40 N hN E mass hm E.no N 0 (wr_I (wr_I M 33 7 1) 33 8 mass) (by omega) (by omega) (f0.hr hH) (FR_fr f0 (fun a k h c => by unfold Cf at h; omega) hH hF) (ME_fr f0 (fun a k h c => by unfold Cx at h; omega) hE) (HE_fr f0 (fun a k h c => by unfold Che at h; omega) hH hh) ((f0.I 3 5 (by omega)).trans h5) (fun p hp => absurd hp (by omega))
    refine ⟨W, ?_, (f0.mono (fun _ _ h => Or.inr h)).trans (w2.mono (fun _ _ h => Or.inl h)), ?_, ?_, w3⟩
    · unfold f_Swarm_refresh_22
      simp only [m_II, m_LL, m_RR, m_IL, m_IR, m_LI, m_LR, m_RI, m_RL, m_NI, m_NL, m_NR, m_okI, m_okL, m_okR, m_okaI, m_okaL, m_okaR, m_arI, m_arL, m_arR, gd_T, bn_S, Nat.reduceEqDiff, Nat.left_eq_add, Nat.add_eq_left, Nat.one_ne_zero, and_false, and_true, false_and, true_and, if_false, if_true, ok_33 hH.1, ok_3 hH.1, hr_f hH 33 0 3 rfl (by decide), h5]
      exact w1
    · rw [w2.I 33 7 (by unfold Arh; omega)]; simp only [m_II, m_LL, m_RR, m_IL, m_IR, m_LI, m_LR, m_RI, m_RL, m_NI, m_NL, m_NR, m_okI, m_okL, m_okR, m_okaI, m_okaL, m_okaR, m_arI, m_arL, m_arR, gd_T, bn_S, Nat.reduceEqDiff, Nat.left_eq_add, Nat.add_eq_left, Nat.one_ne_zero, and_false, and_true, false_and, true_and, if_false, if_true]
    · rw [w2.I 33 8 (by unfold Arh; omega)]; simp only [m_II, m_LL, m_RR, m_IL, m_IR, m_LI, m_LR, m_RI, m_RL, m_NI, m_NL, m_NR, m_okI, m_okL, m_okR, m_okaI, m_okaL, m_okaR, m_arI, m_arL, m_arR, gd_T, bn_S, Nat.reduceEqDiff, Nat.left_eq_add, Nat.add_eq_left, Nat.one_ne_zero, and_false, and_true, false_and, true_and, if_false, if_true]
  unfold f_Swarm_refresh
  rw [ok_33 hH.1, gd_T]
  rcases hc with c | ⟨c1, c2, c3⟩
  · rw [if_pos c]
    exact key
  · rw [c1, if_neg (by decide), hr_f hH 33 0 3 rfl (by decide), ok_3 hH.1, gd_T, h5]
    by_cases c : rd_I M 33 8 = mass
    · rw [if_pos c]
      rw [c] at c3
      exact ⟨M, rfl, Fr.refl _ _, c1, c, c3⟩
    · rw [if_neg c]
      exact key
