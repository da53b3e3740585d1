/-! 97u: what holds between calls, when cells are new -/
def Cy (a k : Nat) : Prop := (a = 80 ∧ (k = 10 ∨ k = 13 ∨ k = 51 ∨ k = 20 ∨ k = 18 ∨ k = 71 ∨ k = 72)) ∨ (81 ≤ a ∧ a ≤ 91)
theorem Gw.mp {A : Nat → Nat → Prop} {m : Nat} {M W : sw_M} (h : Gw A m M W) (hN : 124 ≤ rd_N M) (hA : ∀ a k, Cy a k → ¬ A a k) : mpart W = mpart M := by
  funext p
  have e : ∀ a k, a ≤ 124 → Cy a k → rd_I W a k = rd_I M a k := fun a k q c => h.I a k (by omega) (hA a k c)
  unfold mpart
  rw [e 81 p (by omega) (by unfold Cy; omega), e 82 p (by omega) (by unfold Cy; omega), e 83 p (by omega) (by unfold Cy; omega), e 84 p (by omega) (by unfold Cy; omega), e 85 p (by omega) (by unfold Cy; omega), e 86 p (by omega) (by unfold Cy; omega), e 88 p (by omega) (by unfold Cy; omega), e 89 p (by omega) (by unfold Cy; omega), e 80 13 (by omega) (by unfold Cy; omega)]
theorem Gw.fr {A : Nat → Nat → Prop} {m : Nat} {M W : sw_M} {n : Nat} (h : Gw A m M W) (hA : ∀ a k, Cf a k → ¬ A a k) (hX : ∀ a k, Cy a k → ¬ A a k) (hM : HR M) (g : FR M n) : FR W n := by
  have hN := hM.1
  have e : ∀ a k, a ≤ 124 → Cf a k → rd_I W a k = rd_I M a k := fun a k q c => h.I a k (by omega) (hA a k c)
  obtain ⟨g1, g2, g3, g4⟩ := g
  refine ⟨g1, (e 80 10 (by omega) (by unfold Cf; omega)).trans g2, (e 3 2 (by omega) (by unfold Cf; omega)).trans g3, fun p hp => ?_⟩
  rw [h.mp hN hX, h.hq hM (show p < 8 by omega)]
  refine ⟨(g4 p hp).1, ?_⟩
  have hc : ∀ k, rd_I W (hpa M p) k = rd_I M (hpa M p) k := fun k => by
    rcases hpa_in hM (show p < 8 by omega) with c | c <;> rw [c.2] <;> exact e _ _ (by omega) (by unfold Cf; omega)
  unfold HPart
  simp only [hc]
  exact (g4 p hp).2
theorem Gw.nt {A : Nat → Nat → Prop} {m : Nat} {M W : sw_M} (h : Gw A m M W) (hN : 124 ≤ rd_N M) (hA : ∀ a k, Cnt a k → ¬ A a k) {B : NN} (g : NT M B) : NT W B := by
  obtain ⟨g1, g2, g3, g4⟩ := g
  have e : ∀ a k, a ≤ 124 → Cnt a k → rd_I W a k = rd_I M a k := fun a k q c => h.I a k (by omega) (hA a k c)
  refine ⟨g1, (e _ _ (by omega) (by unfold Cnt; omega)).trans g2, (e _ _ (by omega) (by unfold Cnt; omega)).trans g3, fun i hi => ?_⟩
  rw [e 114 i (by omega) (by unfold Cnt; omega), e 37 i (by omega) (by unfold Cnt; omega), e 115 i (by omega) (by unfold Cnt; omega), e 39 i (by omega) (by unfold Cnt; omega), e 117 i (by omega) (by unfold Cnt; omega), e 40 i (by omega) (by unfold Cnt; omega), e 118 i (by omega) (by unfold Cnt; omega), e 116 i (by omega) (by unfold Cnt; omega), e 38 i (by omega) (by unfold Cnt; omega)]
  exact g4 i hi
theorem Gw.spm {A : Nat → Nat → Prop} {m : Nat} {M W : sw_M} (h : Gw A m M W) (hN : 124 ≤ rd_N M) (hA : ∀ a k, Cy a k → ¬ A a k) {lo hi : Int32} (g : SPM M lo hi) : SPM W lo hi := by
  have e : ∀ a k, a ≤ 124 → Cy a k → rd_I W a k = rd_I M a k := fun a k q c => h.I a k (by omega) (hA a k c)
  unfold SPM
  rw [e 80 13 (by omega) (by unfold Cy; omega)]
  rcases g with g | ⟨p, g1, g2, g3, g4⟩
  · exact Or.inl g
  · exact Or.inr ⟨p, g1, g2, (e _ _ (by omega) (by unfold Cy; omega)).trans g3, (e _ _ (by omega) (by unfold Cy; omega)).trans g4⟩
theorem Gw.ru {A : Nat → Nat → Prop} {m : Nat} {M W : sw_M} (h : Gw A m M W) (hN : 124 ≤ rd_N M) (hA : ∀ a k, Cy a k → ¬ A a k) {hu : Int32} {w : Nat → Int32 × Int32} {k : Nat} (g : RU M hu w k) : RU W hu w k := by
  have e : ∀ a k, a ≤ 124 → Cy a k → rd_I W a k = rd_I M a k := fun a k q c => h.I a k (by omega) (hA a k c)
  obtain ⟨g1, g2, g3, g4, g5, g6⟩ := g
  refine ⟨g1, (e _ _ (by omega) (by unfold Cy; omega)).trans g2, (e _ _ (by omega) (by unfold Cy; omega)).trans g3, fun t ht => ?_, g5, g6⟩
  rw [e 90 t (by omega) (by unfold Cy; omega), e 91 t (by omega) (by unfold Cy; omega)]
  exact g4 t ht
theorem Gw.st {A : Nat → Nat → Prop} {m : Nat} {M W : sw_M} {c : Nat} (h : Gw A m M W) (hN : 124 ≤ rd_N M) (hA : ∀ a k, C1 a k → ¬ A a k) (g : ISt c M) : ISt c W := by
  have e : ∀ a k, a ≤ 124 → C1 a k → rd_I W a k = rd_I M a k := fun a k q c => h.I a k (by omega) (hA a k c)
  have el : ∀ a k, a ≤ 124 → C1 a k → rd_L W a k = rd_L M a k := fun a k q c => h.L a k (by omega) (hA a k c)
  obtain ⟨g1, g2⟩ := g
  have i1 := e 1 5 (by omega) (by unfold C1; omega)
  refine ⟨by rw [i1, e 80 43 (by omega) (by unfold C1; omega)]; exact g1, ?_⟩
  rw [i1]
  rcases g2 with g2 | ⟨g2, s, ⟨a1, a2, a3, a4, a5, a6⟩, ⟨b1, b2, b3, b4, b5, b6⟩, g5⟩
  · exact Or.inl g2
  · refine Or.inr ⟨g2, s, ⟨?_, ?_, ?_, ?_, ?_, ?_⟩, ⟨?_, ?_, ?_, ?_, ?_, ?_⟩, g5⟩
    · exact (el 32 0 (by omega) (by unfold C1; omega)).trans a1
    · exact (el 32 1 (by omega) (by unfold C1; omega)).trans a2
    · exact (el 32 2 (by omega) (by unfold C1; omega)).trans a3
    · exact (el 32 3 (by omega) (by unfold C1; omega)).trans a4
    · exact (e 32 4 (by omega) (by unfold C1; omega)).trans a5
    · exact (e 32 5 (by omega) (by unfold C1; omega)).trans a6
    · exact (el 80 44 (by omega) (by unfold C1; omega)).trans b1
    · exact (el 80 45 (by omega) (by unfold C1; omega)).trans b2
    · exact (el 80 46 (by omega) (by unfold C1; omega)).trans b3
    · exact (el 80 47 (by omega) (by unfold C1; omega)).trans b4
    · exact (e 80 48 (by omega) (by unfold C1; omega)).trans b5
    · exact (e 80 49 (by omega) (by unfold C1; omega)).trans b6
theorem Gw.tp {A : Nat → Nat → Prop} {m : Nat} {M W : sw_M} (h : Gw A m M W) (hN : 124 ≤ rd_N M) (hA : ∀ a k, C3 a k → ¬ A a k) (g : ITp M) : ITp W := by
  have e : ∀ a k, a ≤ 124 → C3 a k → rd_I W a k = rd_I M a k := fun a k q c => h.I a k (by omega) (hA a k c)
  obtain ⟨n, g1, g2, g3, g4⟩ := g
  refine ⟨n, g1, (e 1 1 (by omega) (by unfold C3; omega)).trans g2, (e 80 23 (by omega) (by unfold C3; omega)).trans g3, fun i hi => ?_⟩
  rw [e 92 i (by omega) (by unfold C3; omega), e 2 i (by omega) (by unfold C3; omega)]
  exact g4 i hi
theorem Gw.fl {A : Nat → Nat → Prop} {m : Nat} {M W : sw_M} (h : Gw A m M W) (hN : 124 ≤ rd_N M) (hA : ∀ a k, C2 a k → ¬ A a k) (g : IFl M) : IFl W := by
  have e : ∀ a k, a ≤ 124 → C2 a k → rd_I W a k = rd_I M a k := fun a k q c => h.I a k (by omega) (hA a k c)
  have e78 : ∀ k, rd_I W 78 k = rd_I M 78 k := fun k => e 78 k (by omega) (by unfold C2; omega)
  have e124 : ∀ k, rd_I W 124 k = rd_I M 124 k := fun k => e 124 k (by omega) (by unfold C2; omega)
  unfold IFl
  rw [e78, e 80 89 (by omega) (by unfold C2; omega)]
  rcases g with g | ⟨g1, F, g2, g3, g4, g5⟩
  · exact Or.inl g
  · refine Or.inr ⟨g1, F, g2, g3, ?_, ?_⟩
    · unfold HF
      simp only [e78]
      exact g4
    · unfold MFw
      simp only [e124]
      exact g5
/-- E with one ORBIT more -/
def EN.plus (E : EN) (s : SS) : EN := (E.P, E.n, E.L, E.hu, E.w, E.k, E.no + 1, (fun p => if p = E.no then s else E.st p), E.g, E.r)
def Aoh (m a k : Nat) : Prop := (a = 33 ∧ (k = 3 ∨ k = 7)) ∨ (a = 68 ∧ k = 5) ∨ (a = 80 ∧ (k = 0 ∨ k = 50)) ∨ (94 ≤ a ∧ a ≤ 97 ∧ m ≤ k)
def A33 (a k : Nat) : Prop := a = 33 ∧ k = 3
theorem Gw.mono {A B : Nat → Nat → Prop} {m : Nat} {M W : sw_M} (h : Gw A m M W) (hAB : ∀ a k, A a k → B a k) : Gw B m M W := ⟨fun a k ha hb => h.1 a k ha (fun q => hb (hAB a k q)), h.2⟩
theorem Swarm_add (N : Nat) (M : sw_M) (hH : HR M) (m : Nat) (hm : m < 6) (hN : rd_N M = 124 + 9 * m) (h3 : rd_I M 33 3 = nI m) (x y u v : Int32) :
    ∃ W, f_Swarm_add N 33 x y u v M = some (nI m, W) ∧ Gw A33 m M W ∧ rd_N W = 124 + 9 * m + 9 ∧ OQ W (hob m) ∧ rd_I W 33 3 = nI (m + 1) ∧ rd_R W 34 m = hob m ∧ rd_I W (hob m) 0 = x ∧ rd_I W (hob m) 1 = y ∧ rd_I W (hob m) 2 = u ∧ rd_I W (hob m) 3 = v := by
  have hq : hob m = 125 + 9 * m := rfl
  obtain ⟨V, v1, v2', v3, v4⟩ := Orbit_init N M m hm hN (fun _ _ => False)
  have v2 : Gw A33 m M V := ⟨fun a k ha _ => v2'.1 a k ha id, v2'.2⟩
  have hHV := v2.hr hH
  have t0 : sw_sh (hob m) = some (4, 0) := (sh_orb m hm).1
  have ov : sw_ok V (hob m) 4 = true := c_ok t0 (by omega)
  have w33 : rd_I V 33 3 = nI m := (v2'.I 33 3 (by omega) id).trans h3
  have gg : Gw A33 m M (wr_I (wr_R (wr_I (wr_I (wr_I (wr_I V (hob m) 0 x) (hob m) 1 y) (hob m) 2 u) (hob m) 3 v) 34 m (hob m)) 33 3 (nI (m + 1))) := (((((v2.wI _ _ _ (Or.inr (by omega))).wI _ _ _ (Or.inr (by omega))).wI _ _ _ (Or.inr (by omega))).wI _ _ _ (Or.inr (by omega))).wR _ _ _ (Or.inl ⟨rfl, rfl⟩)).wI _ _ _ (Or.inl ⟨rfl, rfl⟩)
  have n33 : ¬ 33 = hob m := by omega
  have n33' : ¬ hob m = 33 := by omega
  have b3 : nI (m + 1) - 1 = nI m := nI_pred m
  refine ⟨_, ?_, gg, v3, ?_, ?_, ?_, ?_, ?_, ?_, ?_⟩
  · have o1 : sw_ok (wr_N M) (hob m) 4 = true := c_ok t0 (by rw [n_N]; omega)
    have e1 : rd_N M + 1 = hob m := by omega
    unfold f_Swarm_add f_Orbit_begin
    rw [ok_33 hH.1, gd_T, hr_f hH 33 1 34 rfl (by decide), oa_34 hH.1, gd_T, show sw_len 34 = 6 from rfl, h3, if_pos (nI_lt hm (by omega)), nx_T (by rw [hN]; exact (lay_orb m hm).1), gd_T, e1, o1, gd_T, v1, bn_S]
    simp only [m_II, m_LL, m_RR, m_IL, m_IR, m_LI, m_LR, m_RI, m_RL, m_NI, m_NL, m_NR, m_okI, m_okL, m_okR, m_okaI, m_okaL, m_okaR, m_arI, m_arL, m_arR, gd_T, bn_S, Nat.reduceEqDiff, Nat.left_eq_add, Nat.add_eq_left, Nat.one_ne_zero, and_false, and_true, false_and, true_and, if_false, if_true, ov, ok_33 hHV.1, hr_f hHV 33 1 34 rfl (by decide), w33, n33, n33', ar_34 hHV.1, ti_n hm (show (6 : Nat) < 2 ^ 31 by decide), cl_n (show m < 2 ^ 31 by omega), Bool.true_or, Bool.and_self, nI_1, b3]
  · obtain ⟨q0, q1, q2, q3, q4, q5, q6, q7, q8, q9⟩ := v4
    have r : ∀ a k, a ≠ 34 → rd_R (wr_I (wr_R (wr_I (wr_I (wr_I (wr_I V (hob m) 0 x) (hob m) 1 y) (hob m) 2 u) (hob m) 3 v) 34 m (hob m)) 33 3 (nI (m + 1))) a k = rd_R V a k := fun a k ha => by
      rw [m_RI, m_RR, if_neg (fun h => ha h.1)]; rfl
    refine ⟨q0, q1, ?_, ?_, ?_, ?_, ?_, ?_, ?_, ?_⟩
    · rw [r _ _ (by omega)]; exact q2
    · rw [r _ _ (by omega)]; exact q3
    · rw [r _ _ (by omega)]; exact q4
    · rw [r _ _ (by omega)]; exact q5
    · rw [r _ _ (by omega)]; exact q6
    · rw [r _ _ (by omega)]; exact q7
    · rw [r _ _ (by omega)]; exact q8
    · rw [r _ _ (by omega)]; exact q9
  · simp only [m_II, m_LL, m_RR, m_IL, m_IR, m_LI, m_LR, m_RI, m_RL, m_NI, m_NL, m_NR, m_okI, m_okL, m_okR, m_okaI, m_okaL, m_okaR, m_arI, m_arL, m_arR, gd_T, bn_S, Nat.reduceEqDiff, Nat.left_eq_add, Nat.add_eq_left, Nat.one_ne_zero, and_false, and_true, false_and, true_and, if_false, if_true]
  · simp only [m_II, m_LL, m_RR, m_IL, m_IR, m_LI, m_LR, m_RI, m_RL, m_NI, m_NL, m_NR, m_okI, m_okL, m_okR, m_okaI, m_okaL, m_okaR, m_arI, m_arL, m_arR, gd_T, bn_S, Nat.reduceEqDiff, Nat.left_eq_add, Nat.add_eq_left, Nat.one_ne_zero, and_false, and_true, false_and, true_and, if_false, if_true]
  · simp only [m_II, m_LL, m_RR, m_IL, m_IR, m_LI, m_LR, m_RI, m_RL, m_NI, m_NL, m_NR, m_okI, m_okL, m_okR, m_okaI, m_okaL, m_okaR, m_arI, m_arL, m_arR, gd_T, bn_S, Nat.reduceEqDiff, Nat.left_eq_add, Nat.add_eq_left, Nat.one_ne_zero, and_false, and_true, false_and, true_and, if_false, if_true, n33']
  · simp only [m_II, m_LL, m_RR, m_IL, m_IR, m_LI, m_LR, m_RI, m_RL, m_NI, m_NL, m_NR, m_okI, m_okL, m_okR, m_okaI, m_okaL, m_okaR, m_arI, m_arL, m_arR, gd_T, bn_S, Nat.reduceEqDiff, Nat.left_eq_add, Nat.add_eq_left, Nat.one_ne_zero, and_false, and_true, false_and, true_and, if_false, if_true, n33']
  · simp only [m_II, m_LL, m_RR, m_IL, m_IR, m_LI, m_LR, m_RI, m_RL, m_NI, m_NL, m_NR, m_okI, m_okL, m_okR, m_okaI, m_okaL, m_okaR, m_arI, m_arL, m_arR, gd_T, bn_S, Nat.reduceEqDiff, Nat.left_eq_add, Nat.add_eq_left, Nat.one_ne_zero, and_false, and_true, false_and, true_and, if_false, if_true, n33']
  · simp only [m_II, m_LL, m_RR, m_IL, m_IR, m_LI, m_LR, m_RI, m_RL, m_NI, m_NL, m_NR, m_okI, m_okL, m_okR, m_okaI, m_okaL, m_okaR, m_arI, m_arL, m_arR, gd_T, bn_S, Nat.reduceEqDiff, Nat.left_eq_add, Nat.add_eq_left, Nat.one_ne_zero, and_false, and_true, false_and, true_and, if_false, if_true, n33']
