/-! 69: an ORBIT is run -/
def Ao (q a k : Nat) : Prop := (a = q ∧ 5 ≤ k) ∨ (q + 2 ≤ a ∧ a ≤ q + 8)
def At (q a k : Nat) : Prop := Ao q a k ∨ As 35 a k
theorem AoAt {q : Nat} : ∀ a k, Ao q a k → At q a k := fun _ _ h => Or.inl h
theorem AsAt {q : Nat} : ∀ a k, As 35 a k → At q a k := fun _ _ h => Or.inr h
theorem mkW_fr {A : Nat → Nat → Prop} (M W : sw_M) (q t : Nat) (s : SS) (h : Fr A M W) (hA : ∀ a k, Ao q a k → A a k) : Fr A M (mkW W q t s) := by
  unfold mkW
  exact (((((((h.wI _ _ _ (hA _ _ (by unfold Ao; omega))).wI _ _ _ (hA _ _ (by unfold Ao; omega))).wI _ _ _ (hA _ _ (by unfold Ao; omega))).wI _ _ _ (hA _ _ (by unfold Ao; omega))).wL _ _ _ (hA _ _ (by unfold Ao; omega))).wL _ _ _ (hA _ _ (by unfold Ao; omega))).wL _ _ _ (hA _ _ (by unfold Ao; omega))).wL _ _ _ (hA _ _ (by unfold Ao; omega))
theorem Orbit_turn (N : Nat) (M : sw_M) (q : Nat) (hq : sw_ok M q 4 = true) (h35 : sw_ok M 35 8 = true) (s : SS) (hs : StS M 35 s) :
    ∃ W, f_Orbit_turn N q 35 M = some W ∧ Fr (fun a k => a = q ∧ (k = 9 ∨ k = 10)) M W ∧ rd_I W q 10 = qr s.x s.y (rd_I M q 10) ∧ rd_I W q 9 = (if way (qr s.x s.y (rd_I M q 10)) (rd_I M q 10) = 1 then rd_I M q 9 + 1 else if way (qr s.x s.y (rd_I M q 10)) (rd_I M q 10) = 3 then rd_I M q 9 - 1 else rd_I M q 9) := by
  obtain ⟨s0, s1, s2, s3, s4, s5⟩ := hs
  unfold f_Orbit_turn
  rw [h35, gd_T, hq, gd_T, Orbit_quarterAt N M q hq, bn_S, s0, s1]
  show ∃ W, sw_gd [sw_ok M q 4] (if way (qr s.x s.y (rd_I M q 10)) (rd_I M q 10) = 1 then _ else if way (qr s.x s.y (rd_I M q 10)) (rd_I M q 10) = 3 then _ else _) = some W ∧ _
  rw [hq, gd_T]
  by_cases c1 : way (qr s.x s.y (rd_I M q 10)) (rd_I M q 10) = 1
  · simp only [if_pos c1]
    exact ⟨_, rfl, ((Fr.refl _ M).wI _ _ _ ⟨rfl, Or.inl rfl⟩).wI _ _ _ ⟨rfl, Or.inr rfl⟩, by simp [m_II], by simp [m_II]⟩
  · simp only [if_neg c1]
    by_cases c3 : way (qr s.x s.y (rd_I M q 10)) (rd_I M q 10) = 3
    · simp only [if_pos c3]
      exact ⟨_, rfl, ((Fr.refl _ M).wI _ _ _ ⟨rfl, Or.inl rfl⟩).wI _ _ _ ⟨rfl, Or.inr rfl⟩, by simp [m_II], by simp [m_II]⟩
    · simp only [if_neg c3]
      exact ⟨_, rfl, (Fr.refl _ M).wI _ _ _ ⟨rfl, Or.inr rfl⟩, by simp [m_II], by simp [m_II]⟩
theorem Orbit_comeBack (N : Nat) (M : sw_M) (q : Nat) (hq : OQ M q) (t r : Nat) (ht : t < 240) (hr : r ≤ t) (h5 : rd_I M q 5 = nI (t + 1)) (h14 : rd_I M q 14 = nI r) :
    ∃ W, f_Orbit_comeBack N q M = some W ∧ Fr (fun a k => (a = q ∧ k = 14) ∨ (a = q + 6 ∧ k = r)) M W ∧
      ((rd_I M (q + 3) t < 0 ∧ 0 ≤ rd_I M (q + 3) (t + 1)) → rd_I W q 14 = nI (r + 1) ∧ rd_I W (q + 6) r = rd_I M (q + 2) (t + 1)) ∧ (¬ (rd_I M (q + 3) t < 0 ∧ 0 ≤ rd_I M (q + 3) (t + 1)) → W = M) := by
  unfold f_Orbit_comeBack
  have e1 : nI (t + 1) - 1 = nI t := nI_pred t
  rw [hq.ok, gd_T, h5, if_neg (nI_nle (by omega) (by omega)), if_neg (i32_nlt (by rw [nI_toInt (by omega), show (240 : Int32).toInt = 240 from by decide]; omega)), hq.r13, hq.o6, gd_T, hq.l6, h14, if_neg (nI_ge (show r < 240 by omega) (by omega))]
  simp only [m_II, m_LL, m_RR, m_IL, m_IR, m_LI, m_LR, m_RI, m_RL, m_NI, m_NL, m_NR, m_okI, m_okL, m_okR, m_okaI, m_okaL, m_okaR, m_arI, m_arL, m_arR, gd_T, bn_S, Nat.reduceEqDiff, and_false, and_true, false_and, true_and, if_false, if_true, cl_0, cl_1, hq.r4, hq.t0, hq.t1, hq.a1, hq.a2, hq.a3, hq.a6, hq.n1, hq.n2, ti_04, ti_14, Bool.false_or, e1, cl_n (show t < 2 ^ 31 by omega), cl_n (show t + 1 < 2 ^ 31 by omega), cl_n (show r < 2 ^ 31 by omega), ti_n (show t < 241 by omega) (by decide), ti_n (show t + 1 < 241 by omega) (by decide), ti_n (show r < 240 by omega) (by decide), Nat.left_eq_add, h14]
  by_cases c1 : 0 ≤ rd_I M (q + 3) t
  · rw [if_pos c1]
    exact ⟨M, rfl, Fr.refl _ _, fun c => absurd c.1 (Int32.not_lt.mpr c1), fun _ => rfl⟩
  · rw [if_neg c1]
    by_cases c2 : rd_I M (q + 3) (t + 1) < 0
    · rw [if_pos c2]
      exact ⟨M, rfl, Fr.refl _ _, fun c => absurd c.2 (Int32.not_le.mpr c2), fun _ => rfl⟩
    · rw [if_neg c2]
      refine ⟨_, rfl, ((Fr.refl _ M).wI _ _ _ (Or.inr ⟨rfl, rfl⟩)).wI _ _ _ (Or.inl ⟨rfl, rfl⟩), fun _ => ⟨?_, ?_⟩, fun c => absurd ⟨Int32.not_le.mp c1, Int32.not_lt.mp c2⟩ c⟩
      · simp only [m_II, m_LL, m_RR, m_IL, m_IR, m_LI, m_LR, m_RI, m_RL, m_NI, m_NL, m_NR, m_okI, m_okL, m_okR, m_okaI, m_okaL, m_okaR, m_arI, m_arL, m_arR, gd_T, bn_S, Nat.reduceEqDiff, and_false, and_true, false_and, true_and, if_false, if_true]
        rw [nI_1]
      · simp only [m_II, m_LL, m_RR, m_IL, m_IR, m_LI, m_LR, m_RI, m_RL, m_NI, m_NL, m_NR, m_okI, m_okL, m_okR, m_okaI, m_okaL, m_okaR, m_arI, m_arL, m_arR, gd_T, bn_S, Nat.reduceEqDiff, and_false, and_true, false_and, true_and, if_false, if_true, Nat.add_eq_left]
/-- an ORBIT behind t STEPS -/
def OS (M : sw_M) (q : Nat) (T : Nat → SS) (t : Nat) : Prop :=
  rd_I M q 5 = nI t ∧ rd_L M q 7 = nrF T t ∧ rd_L M q 8 = frF T t ∧ rd_I M q 9 = tuF T t ∧ rd_I M q 10 = quF T t ∧ rd_L M q 11 = slF T t ∧ rd_L M q 12 = shF T t ∧ rd_I M q 14 = nI (rbF T t) ∧
  (∀ k, k ≤ t → rd_I M (q + 2) k = (T k).x.toInt32 ∧ rd_I M (q + 3) k = (T k).y.toInt32 ∧ rd_I M (q + 4) k = (T k).u.toInt32 ∧ rd_I M (q + 5) k = (T k).v.toInt32) ∧
  (∀ k, k < t → crb T k = true → rd_I M (q + 6) (rbF T k) = (T (k + 1)).x.toInt32)
theorem OS_fr {A : Nat → Nat → Prop} {M W : sw_M} {q : Nat} {T : Nat → SS} {t : Nat} (h : Fr A M W) (hA : ∀ a k, Ao q a k → ¬ A a k) (g : OS M q T t) : OS W q T t := by
  obtain ⟨g1, g2, g3, g4, g5, g6, g7, g8, g9, g10⟩ := g
  have e := fun a k c => h.I a k (hA a k c)
  have eL := fun a k c => h.L a k (hA a k c)
  refine ⟨(e _ _ (by unfold Ao; omega)).trans g1, (eL _ _ (by unfold Ao; omega)).trans g2, (eL _ _ (by unfold Ao; omega)).trans g3, (e _ _ (by unfold Ao; omega)).trans g4, (e _ _ (by unfold Ao; omega)).trans g5, (eL _ _ (by unfold Ao; omega)).trans g6, (eL _ _ (by unfold Ao; omega)).trans g7, (e _ _ (by unfold Ao; omega)).trans g8, fun k hk => ?_, fun k hk c => (e _ _ (by unfold Ao; omega)).trans (g10 k hk c)⟩
  obtain ⟨a1, a2, a3, a4⟩ := g9 k hk
  exact ⟨(e _ _ (by unfold Ao; omega)).trans a1, (e _ _ (by unfold Ao; omega)).trans a2, (e _ _ (by unfold Ao; omega)).trans a3, (e _ _ (by unfold Ao; omega)).trans a4⟩
theorem rbF_mono (T : Nat → SS) (k : Nat) : ∀ d, rbF T k ≤ rbF T (k + d)
  | 0 => Nat.le_refl _
  | d + 1 => by
    refine Nat.le_trans (rbF_mono T k d) ?_
    show rbF T (k + d) ≤ (if crb T (k + d) = true then rbF T (k + d) + 1 else rbF T (k + d))
    split <;> omega
theorem rbF_lt (T : Nat → SS) (k t : Nat) (h : k < t) (hc : crb T k = true) : rbF T k < rbF T t := by
  have h1 : rbF T (k + 1) = rbF T k + 1 := by rw [rbF, if_pos hc]
  have h2 := rbF_mono T (k + 1) (t - (k + 1))
  rw [show k + 1 + (t - (k + 1)) = t by omega] at h2
  omega
/-- one STEP of an ORBIT is noted -/
theorem Orbit_note (N : Nat) (M : sw_M) (q : Nat) (hq : OQ M q) (h35 : sw_ok M 35 8 = true) (T : Nat → SS) (t : Nat) (ht : t < 240) (hs : StS M 35 (T (t + 1))) (ho : OS M q T t) (k : sw_M → Option sw_M) :
    ∃ W, sw_gd [sw_ok M q 4] ((f_Orbit_mark N q 35 (wr_I M q 5 ((rd_I M q 5) + (1 : Int32)))).bind (fun u4 => sw_gd [sw_ok u4 q 4] ((f_Orbit_turn N q 35 u4).bind (fun u6 => sw_gd [sw_ok u6 q 4] ((f_Orbit_comeBack N q u6).bind k))))) = k W ∧ Fr (Ao q) M W ∧ OS W q T (t + 1) := by
  obtain ⟨o1, o2, o3, o4, o5, o6, o7, o8, o9, o10⟩ := ho
  have hge := hq.ge
  have hq1 : OQ (wr_I M q 5 (nI (t + 1))) q := hq
  have hs1 : StS (wr_I M q 5 (nI (t + 1))) 35 (T (t + 1)) := by
    obtain ⟨s0, s1, s2, s3, s4, s5⟩ := hs
    have n35 : ¬ 35 = q := by omega
    refine ⟨s0, s1, s2, s3, ?_, ?_⟩ <;> simp only [m_II, n35, false_and, if_false] <;> assumption
  rw [hq.ok, gd_T, o1, nI_1, Orbit_mark N _ q hq1 h35 (T (t + 1)) hs1 (t + 1) (by omega) (by simp [m_II]), bn_S]
  have f1 : Fr (Ao q) M (mkW (wr_I M q 5 (nI (t + 1))) q (t + 1) (T (t + 1))) := mkW_fr _ _ _ _ _ ((Fr.refl (Ao q) M).wI q 5 _ (by unfold Ao; omega)) (fun _ _ h => h)
  generalize hM2 : mkW (wr_I M q 5 (nI (t + 1))) q (t + 1) (T (t + 1)) = M2 at *
  have hs2 : StS M2 35 (T (t + 1)) := by
    obtain ⟨s0, s1, s2, s3, s4, s5⟩ := hs
    have n : ∀ k, ¬ Ao q 35 k := fun k h => by unfold Ao at h; omega
    exact ⟨(f1.L _ _ (n _)).trans s0, (f1.L _ _ (n _)).trans s1, (f1.L _ _ (n _)).trans s2, (f1.L _ _ (n _)).trans s3, (f1.I _ _ (n _)).trans s4, (f1.I _ _ (n _)).trans s5⟩
  obtain ⟨W3, e3, f3, t10, t9⟩ := Orbit_turn N M2 q (f1.oq hq).ok (by rw [f1.ok]; exact h35) (T (t + 1)) hs2
  rw [(f1.oq hq).ok, gd_T, e3, bn_S]
  have q3 := f3.oq (f1.oq hq)
  have r5 : rd_I W3 q 5 = nI (t + 1) := by
    rw [f3.I q 5 (by omega), ← hM2]
    unfold mkW
    simp only [m_II, m_LL, m_RR, m_IL, m_IR, m_LI, m_LR, m_RI, m_RL, m_NI, m_NL, m_NR, m_okI, m_okL, m_okR, m_okaI, m_okaL, m_okaR, m_arI, m_arL, m_arR, gd_T, bn_S, Nat.reduceEqDiff, and_false, and_true, false_and, true_and, if_false, if_true, Nat.left_eq_add]
  have r14 : rd_I W3 q 14 = nI (rbF T t) := by
    rw [f3.I q 14 (by omega), ← hM2]
    unfold mkW
    simp only [m_II, m_LL, m_RR, m_IL, m_IR, m_LI, m_LR, m_RI, m_RL, m_NI, m_NL, m_NR, m_okI, m_okL, m_okR, m_okaI, m_okaL, m_okaR, m_arI, m_arL, m_arR, gd_T, bn_S, Nat.reduceEqDiff, and_false, and_true, false_and, true_and, if_false, if_true, Nat.left_eq_add]
    exact o8
  have rI : ∀ a k, (q + 2 ≤ a ∧ a ≤ q + 5) → rd_I W3 a k = if k = t + 1 then (if a = q + 2 then (T (t + 1)).x.toInt32 else if a = q + 3 then (T (t + 1)).y.toInt32 else if a = q + 4 then (T (t + 1)).u.toInt32 else (T (t + 1)).v.toInt32) else rd_I M a k := fun a k h => by
    rw [f3.I a k (by omega), ← hM2]
    unfold mkW
    simp only [m_II, m_LL, m_RR, m_IL, m_IR, m_LI, m_LR, m_RI, m_RL, m_NI, m_NL, m_NR, m_okI, m_okL, m_okR, m_okaI, m_okaL, m_okaR, m_arI, m_arL, m_arR, gd_T, bn_S, Nat.reduceEqDiff, and_false, and_true, false_and, true_and, if_false, if_true]
    have : ¬ a = q := by omega
    obtain rfl | rfl | rfl | rfl : a = q + 2 ∨ a = q + 3 ∨ a = q + 4 ∨ a = q + 5 := by omega
    all_goals by_cases hk : k = t + 1 <;> simp [hk]
  obtain ⟨W4, e4, f4, c4, c5⟩ := Orbit_comeBack N W3 q q3 t (rbF T t) ht (rbF_le T t) r5 r14
  rw [q3.ok, gd_T, e4, bn_S]
  have f4' : Fr (Ao q) W3 W4 := f4.mono (fun a k h => by unfold Ao; omega)
  have f3' : Fr (Ao q) M2 W3 := f3.mono (fun a k h => by unfold Ao; omega)
  have y0 : rd_I W3 (q + 3) t = (T t).y.toInt32 := by
    rw [rI _ _ (by omega), if_neg (by omega)]
    exact (o9 t (Nat.le_refl t)).2.1
  have y1 : rd_I W3 (q + 3) (t + 1) = (T (t + 1)).y.toInt32 := by
    rw [rI _ _ (by omega), if_pos rfl]
    simp
  have x1 : rd_I W3 (q + 2) (t + 1) = (T (t + 1)).x.toInt32 := by
    rw [rI _ _ (by omega), if_pos rfl]
    simp
  rw [y0, y1, x1] at c4
  rw [y0, y1] at c5
  have m9 : rd_I M2 q 9 = tuF T t := by
    rw [← hM2]
    unfold mkW
    simp only [m_II, m_LL, m_RR, m_IL, m_IR, m_LI, m_LR, m_RI, m_RL, m_NI, m_NL, m_NR, m_okI, m_okL, m_okR, m_okaI, m_okaL, m_okaR, m_arI, m_arL, m_arR, gd_T, bn_S, Nat.reduceEqDiff, and_false, and_true, false_and, true_and, if_false, if_true, Nat.left_eq_add]
    exact o4
  have m10 : rd_I M2 q 10 = quF T t := by
    rw [← hM2]
    unfold mkW
    simp only [m_II, m_LL, m_RR, m_IL, m_IR, m_LI, m_LR, m_RI, m_RL, m_NI, m_NL, m_NR, m_okI, m_okL, m_okR, m_okaI, m_okaL, m_okaR, m_arI, m_arL, m_arR, gd_T, bn_S, Nat.reduceEqDiff, and_false, and_true, false_and, true_and, if_false, if_true, Nat.left_eq_add]
    exact o5
  have m7 : rd_L M2 q 7 = nrF T (t + 1) := by
    rw [← hM2]
    unfold mkW
    simp only [m_II, m_LL, m_RR, m_IL, m_IR, m_LI, m_LR, m_RI, m_RL, m_NI, m_NL, m_NR, m_okI, m_okL, m_okR, m_okaI, m_okaL, m_okaR, m_arI, m_arL, m_arR, gd_T, bn_S, Nat.reduceEqDiff, and_false, and_true, false_and, true_and, if_false, if_true, Nat.left_eq_add, o2]
    rfl
  have m8 : rd_L M2 q 8 = frF T (t + 1) := by
    rw [← hM2]
    unfold mkW
    simp only [m_II, m_LL, m_RR, m_IL, m_IR, m_LI, m_LR, m_RI, m_RL, m_NI, m_NL, m_NR, m_okI, m_okL, m_okR, m_okaI, m_okaL, m_okaR, m_arI, m_arL, m_arR, gd_T, bn_S, Nat.reduceEqDiff, and_false, and_true, false_and, true_and, if_false, if_true, Nat.left_eq_add, o3]
    rfl
  have m11 : rd_L M2 q 11 = slF T (t + 1) := by
    rw [← hM2]
    unfold mkW
    simp only [m_II, m_LL, m_RR, m_IL, m_IR, m_LI, m_LR, m_RI, m_RL, m_NI, m_NL, m_NR, m_okI, m_okL, m_okR, m_okaI, m_okaL, m_okaR, m_arI, m_arL, m_arR, gd_T, bn_S, Nat.reduceEqDiff, and_false, and_true, false_and, true_and, if_false, if_true, Nat.left_eq_add, o6]
    rfl
  have m12 : rd_L M2 q 12 = shF T (t + 1) := by
    rw [← hM2]
    unfold mkW
    simp only [m_II, m_LL, m_RR, m_IL, m_IR, m_LI, m_LR, m_RI, m_RL, m_NI, m_NL, m_NR, m_okI, m_okL, m_okR, m_okaI, m_okaL, m_okaR, m_arI, m_arL, m_arR, gd_T, bn_S, Nat.reduceEqDiff, and_false, and_true, false_and, true_and, if_false, if_true, Nat.left_eq_add, o7]
    rfl
  have m6 : ∀ k, rd_I M2 (q + 6) k = rd_I M (q + 6) k := fun k => by
    rw [← hM2]
    unfold mkW
    simp only [m_II, m_LL, m_RR, m_IL, m_IR, m_LI, m_LR, m_RI, m_RL, m_NI, m_NL, m_NR, m_okI, m_okL, m_okR, m_okaI, m_okaL, m_okaR, m_arI, m_arL, m_arR, gd_T, bn_S, Nat.reduceEqDiff, and_false, and_true, false_and, true_and, if_false, if_true, Nat.add_eq_left]
  rw [m9, m10] at t9
  rw [m10] at t10
  have hcb : crb T t = true ↔ ((T t).y.toInt32 < 0 ∧ 0 ≤ (T (t + 1)).y.toInt32) := by unfold crb; simp
  refine ⟨W4, rfl, f1.trans (f3'.trans f4'), (f4.I q 5 (by omega)).trans r5, (f4.L q 7 (by omega)).trans ((f3.L q 7 (by omega)).trans m7), (f4.L q 8 (by omega)).trans ((f3.L q 8 (by omega)).trans m8), (f4.I q 9 (by omega)).trans t9, (f4.I q 10 (by omega)).trans t10, (f4.L q 11 (by omega)).trans ((f3.L q 11 (by omega)).trans m11), (f4.L q 12 (by omega)).trans ((f3.L q 12 (by omega)).trans m12), ?_, fun k hk => ?_, fun k hk hc => ?_⟩
  · rw [rbF]
    by_cases c : crb T t = true
    · rw [if_pos c]
      exact (c4 (hcb.mp c)).1
    · rw [if_neg c, c5 (fun d => c (hcb.mpr d))]
      exact r14
  · rw [f4.I (q + 2) k (by omega), f4.I (q + 3) k (by omega), f4.I (q + 4) k (by omega), f4.I (q + 5) k (by omega), rI _ _ (by omega), rI _ _ (by omega), rI _ _ (by omega), rI _ _ (by omega)]
    by_cases hkt : k = t + 1
    · subst hkt
      simp
    · simp only [if_neg hkt]
      exact o9 k (by omega)
  · by_cases hkt : k = t
    · subst hkt
      exact (c4 (hcb.mp hc)).2
    · have hlt := rbF_lt T k t (by omega) hc
      rw [f4.I _ _ (by omega), f3.I _ _ (by omega), m6]
      exact o10 k (by omega) hc
theorem CfAt {q : Nat} (hq : 125 ≤ q) : ∀ a k, Cf a k → ¬ At q a k := by intro a k h; unfold Cf at h; unfold At Ao As; omega
/-- the STEPS of an ORBIT -/
theorem Orbit_run_127 (N : Nat) (hN : 40 ≤ N) (n L : Nat) (hL : L ≤ 240) (mass : Int32) (P : Nat → PartS) (T : Nat → SS) (D : Nat) (hD : D ≤ L) (hT : ∀ t, T (t + 1) = fwd P n mass (T t)) (q : Nat)
    (hw : ∀ t, t ≤ D → (T t).t = nI t ∧ nB 2500000 (T t).x ∧ nB 2500000 (T t).y) (hg : ∀ t, t < D → (T t).g = 0) (he : D = L ∨ (T D).g = 1) :
    ∀ (d j i : Nat) (M : sw_M), i + d = D → d < j → HR M → FR M n → mpart M = P → rd_I M 3 5 = mass → OQ M q → StS M 35 (T i) → OS M q T i →
    ∃ W, f_Orbit_run_127 N j q 3 (nI L) 35 (nI i) M = some W ∧ Fr (At q) M W ∧ OS W q T D ∧ rd_I W q 6 = (if (T D).g = 0 then 0 else 1)
  | 0, j, i, M, hi, hj, hH, hF, hP, hm, hq, hs, ho => by
    obtain ⟨j, rfl⟩ : ∃ k, j = k + 1 := ⟨j - 1, by omega⟩
    obtain rfl : i = D := by omega
    have h35 := ok_35 hH.1
    have hge := hq.ge
    have hend : ∃ W, f_Orbit_run_171 N q 35 M = some W ∧ Fr (At q) M W ∧ OS W q T i ∧ rd_I W q 6 = (if (T i).g = 0 then 0 else 1) := by
      unfold f_Orbit_run_171
      rw [h35, gd_T, hq.ok, gd_T, gd_T, hs.2.2.2.2.2]
      have hos : ∀ v, OS (wr_I M q 6 v) q T i := fun v => by
        obtain ⟨g1, g2, g3, g4, g5, g6, g7, g8, g9, g10⟩ := ho
        refine ⟨?_, g2, g3, ?_, ?_, g6, g7, ?_, fun k hk => ?_, fun k hk c => ?_⟩
        all_goals simp only [m_II, m_LL, m_RR, m_IL, m_IR, m_LI, m_LR, m_RI, m_RL, m_NI, m_NL, m_NR, m_okI, m_okL, m_okR, m_okaI, m_okaL, m_okaR, m_arI, m_arL, m_arR, gd_T, bn_S, Nat.reduceEqDiff, and_false, and_true, false_and, true_and, if_false, if_true, Nat.add_eq_left]
        · exact g1
        · exact g4
        · exact g5
        · exact g8
        · exact g9 k hk
        · exact g10 k hk c
      have hfr : ∀ v, Fr (At q) M (wr_I M q 6 v) := fun v => (Fr.refl _ M).wI q 6 v (by unfold At Ao; omega)
      by_cases c : (T i).g = 0
      · rw [if_pos c, if_pos c]
        exact ⟨_, rfl, hfr _, hos _, by simp [m_II]⟩
      · rw [if_neg c, if_neg c]
        exact ⟨_, rfl, hfr _, hos _, by simp [m_II]⟩
    rw [f_Orbit_run_127]
    by_cases c : i = L
    · rw [if_pos (nI_le (by omega) (by omega))]
      exact hend
    · rw [if_neg (nI_ge (by omega) (by omega)), h35, gd_T, Star_stop N M 35 h35 (T i) hs (fun h => h.2 (he.resolve_left c)), bn_S]
      show ∃ W, (if (0 : Int32) = 0 then _ else _) = some W ∧ _
      rw [if_pos rfl]
      exact hend
  | d + 1, j, i, M, hi, hj, hH, hF, hP, hm, hq, hs, ho => by
    obtain ⟨j, rfl⟩ : ∃ k, j = k + 1 := ⟨j - 1, by omega⟩
    have h35 := ok_35 hH.1
    have hge := hq.ge
    obtain ⟨w1, w2, w3⟩ := hw i (by omega)
    have g0 := hg i (by omega)
    rw [f_Orbit_run_127, if_neg (nI_ge (by omega) (by omega)), h35, gd_T]
    obtain ⟨W, e1, e2, e3⟩ := Star_step N hN M hH n hF 35 h35 (by decide) (T i).x (T i).y (T i).u (T i).v (T i).t (T i).g mass hm hs (by rw [g0]; decide) (by rw [w1, nI_toInt (by omega)]; omega) (nB_Bd w2 (by omega)) (nB_Bd w3 (by omega))
    rw [hP] at e3
    have e3' : StS W 35 (T (i + 1)) := by rw [hT]; exact e3
    rw [e1, bn_S]
    show ∃ W, (if (1 : Int32) = 0 then _ else _) = some W ∧ _
    rw [if_neg (by decide)]
    have eAs : ∀ a k, Ao q a k → ¬ As 35 a k := fun a k h => by unfold Ao at h; unfold As; omega
    obtain ⟨V, v1, v2, v3⟩ := Orbit_note N W q (e2.oq hq) (by rw [e2.ok]; exact h35) T i (by omega) e3' (OS_fr e2 eAs ho) (fun u8 => f_Orbit_run_127 N j q 3 (nI L) 35 (nI i + 1) u8)
    have fV : Fr (At q) M V := (e2.mono AsAt).trans (v2.mono AoAt)
    have sV : StS V 35 (T (i + 1)) := by
      obtain ⟨s0, s1, s2, s3, s4, s5⟩ := e3'
      have nn : ∀ k, ¬ Ao q 35 k := fun k h => by unfold Ao at h; omega
      exact ⟨(v2.L _ _ (nn _)).trans s0, (v2.L _ _ (nn _)).trans s1, (v2.L _ _ (nn _)).trans s2, (v2.L _ _ (nn _)).trans s3, (v2.I _ _ (nn _)).trans s4, (v2.I _ _ (nn _)).trans s5⟩
    obtain ⟨Z, z1, z2, z3, z4⟩ := Orbit_run_127 N hN n L hL mass P T D hD hT q hw hg he d j (i + 1) V (by omega) (by omega) (fV.hr hH) (FR_fr fV (CfAt hge) hH hF) ((mpart_fr fV (CfAt hge)).trans hP) ((fV.I 3 5 (by unfold At Ao As; omega)).trans hm) (fV.oq hq) sV v3
    refine ⟨Z, ?_, fV.trans z2, z3, z4⟩
    have z1' : f_Orbit_run_127 N j q 3 (nI L) 35 (nI i + 1) V = some Z := by rw [nI_1]; exact z1
    exact v1.trans z1'
