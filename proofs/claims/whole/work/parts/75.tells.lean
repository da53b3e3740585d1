/-! 75: an ORBIT on the reference's side: its way, and what is told of it -/
theorem nI_mul (a b : Nat) : nI a * nI b = nI (a * b) := (Int32.ofNat_mul a b).symm
theorem ix241 (o t : Nat) : (241 : Int32) * nI o + nI t = nI (241 * o + t) := by
  rw [show (241 : Int32) = nI 241 from rfl, nI_mul, nI_add]
theorem ix64 (o t : Nat) : (64 : Int32) * nI o + nI t = nI (64 * o + t) := by
  rw [show (64 : Int32) = nI 64 from rfl, nI_mul, nI_add]
theorem fit {z : Int64} (h : nB 2500000 z) : z.toInt32.toInt64 = z := by
  unfold nB at h
  apply Int64.toInt_inj.mp
  rw [t64, Int64.toInt_toInt32, bm32] <;> omega
/-- the reference's walk -/
def MW (M : sw_M) (s : SS) : Prop := rd_L M 80 39 = s.x ∧ rd_L M 80 40 = s.y ∧ rd_L M 80 41 = s.u ∧ rd_L M 80 42 = s.v
def kW (M : sw_M) (o t : Nat) (s : SS) : sw_M := wr_I (wr_I (wr_I (wr_I M 98 (241 * o + t) s.x.toInt32) 99 (241 * o + t) s.y.toInt32) 100 (241 * o + t) s.u.toInt32) 101 (241 * o + t) s.v.toInt32
theorem Model_keep (N : Nat) (M : sw_M) (hM : MR M) (o t : Nat) (ho : o < 6) (ht : t ≤ 240) (s : SS) (hs : MW M s) : f_Model_keep N 80 (nI o) (nI t) M = some (kW M o t s) := by
  obtain ⟨h1, h2, h3, h4⟩ := hs
  unfold f_Model_keep kW
  simp only [m_II, m_LL, m_RR, m_IL, m_IR, m_LI, m_LR, m_RI, m_RL, m_NI, m_NL, m_NR, m_okI, m_okL, m_okR, m_okaI, m_okaL, m_okaR, m_arI, m_arL, m_arR, gd_T, bn_S, Nat.reduceEqDiff, Nat.left_eq_add, Nat.add_eq_left, Nat.one_ne_zero, and_false, and_true, false_and, true_and, if_false, if_true, ok_80 hM.1, mr_56 hM, mr_57 hM, mr_58 hM, mr_59 hM, ar_98 hM.1, ar_99 hM.1, ar_100 hM.1, ar_101 hM.1, ix241, ti_n (show 241 * o + t < 1446 by omega) (by decide), cl_n (show 241 * o + t < 2 ^ 31 by omega), h1, h2, h3, h4]
/-- the cells of the ways -/
def Akp (o a k : Nat) : Prop := (98 ≤ a ∧ a ≤ 101) ∧ 241 * o ≤ k ∧ k < 241 * o + 241
def Agk (o a k : Nat) : Prop := Aw a k ∨ Akp o a k
theorem kW_fr {A : Nat → Nat → Prop} {M W : sw_M} {o t : Nat} {s : SS} (h : Fr A M W) (ht : t ≤ 240) (hA : ∀ a k, Akp o a k → A a k) : Fr A M (kW W o t s) :=
  (((h.wI _ _ _ (hA _ _ (by unfold Akp; omega))).wI _ _ _ (hA _ _ (by unfold Akp; omega))).wI _ _ _ (hA _ _ (by unfold Akp; omega))).wI _ _ _ (hA _ _ (by unfold Akp; omega))
theorem CfAgk {o : Nat} : ∀ a k, Cf a k → ¬ Agk o a k := by intro a k h; unfold Cf at h; unfold Agk Aw Akp; omega
def MRow (M : sw_M) (o : Nat) (T : Nat → SS) (t : Nat) : Prop := ∀ k, k ≤ t → rd_I M 98 (241 * o + k) = (T k).x.toInt32 ∧ rd_I M 99 (241 * o + k) = (T k).y.toInt32 ∧ rd_I M 100 (241 * o + k) = (T k).u.toInt32 ∧ rd_I M 101 (241 * o + k) = (T k).v.toInt32
theorem kW_row {M : sw_M} {o t : Nat} {T : Nat → SS} (h : ∀ k, k < t → rd_I M 98 (241 * o + k) = (T k).x.toInt32 ∧ rd_I M 99 (241 * o + k) = (T k).y.toInt32 ∧ rd_I M 100 (241 * o + k) = (T k).u.toInt32 ∧ rd_I M 101 (241 * o + k) = (T k).v.toInt32) : MRow (kW M o t (T t)) o T t := by
  intro k hk
  unfold kW
  simp only [m_II, m_LL, m_RR, m_IL, m_IR, m_LI, m_LR, m_RI, m_RL, m_NI, m_NL, m_NR, m_okI, m_okL, m_okR, m_okaI, m_okaL, m_okaR, m_arI, m_arL, m_arR, gd_T, bn_S, Nat.reduceEqDiff, Nat.left_eq_add, Nat.add_eq_left, Nat.one_ne_zero, and_false, and_true, false_and, true_and, if_false, if_true, Nat.add_left_cancel_iff]
  by_cases c : k = t
  · subst c
    simp
  · simp only [c, if_false]
    exact h k (by omega)
theorem Model_goAll_62 (N : Nat) (hN : 40 ≤ N) (k2 : Nat → Int32 → Int32 → sw_M → Option sw_M) (n L : Nat) (hL : L ≤ 240) (mass : Int32) (P : Nat → PartS) (T : Nat → SS) (D : Nat) (hD : D ≤ L) (hT : ∀ t, T (t + 1) = fwd P n mass (T t)) (o : Nat) (ho : o < 6)
    (hw : ∀ t, t ≤ D → nB 2500000 (T t).x ∧ nB 2500000 (T t).y) (hg : ∀ t, t < D → (T t).g = 0) (ht : ∀ t, t ≤ D → (T t).t = nI t) (he : D = L ∨ (T D).g = 1) (hb : ∀ t, t ≤ D → (T t).g = bz (bey (T t).x (T t).y)) :
    ∀ (d j i : Nat) (M : sw_M), i + d = D → d < j → MR M → HR M → FR M n → mpart M = P → rd_I M 80 51 = nI L → MW M (T i) → MRow M o T i →
    ∃ W, f_Model_goAll_62 N k2 j 80 mass (nI o) (nI i) M = f_Model_goAll_95 N k2 80 mass (nI o) (nI D) W ∧ Fr (Agk o) M W ∧ MW W (T D) ∧ MRow W o T D
  | 0, j, i, M, hi, hj, hM, hH, hF, hP, h51, hs, hr => by
    obtain ⟨j, rfl⟩ : ∃ k, j = k + 1 := ⟨j - 1, by omega⟩
    obtain rfl : i = D := by omega
    refine ⟨M, ?_, Fr.refl _ _, hs, hr⟩
    rw [f_Model_goAll_62, ok_80 hM.1, gd_T, h51]
    by_cases c : i = L
    · rw [if_pos (nI_le (by omega) (by omega))]
    · rw [if_neg (nI_ge (by omega) (by omega)), Model_isGone N M hM, bn_S, hs.1, hs.2.1, ← hb i (Nat.le_refl i), he.resolve_left c]
      rfl
  | d + 1, j, i, M, hi, hj, hM, hH, hF, hP, h51, hs, hr => by
    obtain ⟨j, rfl⟩ : ∃ k, j = k + 1 := ⟨j - 1, by omega⟩
    obtain ⟨w1, w2⟩ := hw i (by omega)
    have hti := ht i (by omega)
    obtain ⟨W, e1, e2, g1, g2, g3, g4⟩ := Model_steps N hN M hM n hF (nI i) mass (by rw [nI_toInt (by omega)]; omega) (T i).x (T i).y (T i).u (T i).v hs.1 hs.2.1 hs.2.2.1 hs.2.2.2 (nB_Bd w1 (by omega)) (nB_Bd w2 (by omega))
    rw [f_Model_goAll_62, ok_80 hM.1, gd_T, h51, if_neg (nI_ge (by omega) (by omega)), Model_isGone N M hM, bn_S, hs.1, hs.2.1, ← hb i (by omega), hg i (by omega)]
    show ∃ W, (if (0 : Int32) = 0 then _ else _) = _ ∧ _
    rw [if_pos rfl]
    show ∃ W, sw_gd [sw_ok M 80 12] ((f_Model_steps N 80 (nI i) mass M).bind _) = _ ∧ _
    rw [ok_80 hM.1, gd_T, e1, bn_S, e2.ok, ok_80 hM.1, gd_T, nI_1]
    have hsW : MW W (T (i + 1)) := by
      rw [hT]
      rw [← hti, hP] at g1 g2 g3 g4
      exact ⟨g1, g2, g3, g4⟩
    rw [Model_keep N W (e2.mr hM) o (i + 1) ho (by omega) (T (i + 1)) hsW, bn_S]
    have fK : Fr (Agk o) M (kW W o (i + 1) (T (i + 1))) := kW_fr (e2.mono (fun _ _ h => Or.inl h)) (by omega) (fun _ _ h => Or.inr h)
    obtain ⟨Z, z1, z2, z3, z4⟩ := Model_goAll_62 N hN k2 n L hL mass P T D hD hT o ho hw hg ht he hb d j (i + 1) (kW W o (i + 1) (T (i + 1))) (by omega) (by omega) (fK.mr hM) (fK.hr hH) (FR_fr fK CfAgk hH hF) ((mpart_fr fK CfAgk).trans hP) ((fK.I 80 51 (by unfold Agk Aw Akp; omega)).trans h51) hsW (kW_row (fun k hk => by
      rw [e2.I _ _ (by unfold Aw; omega), e2.I _ _ (by unfold Aw; omega), e2.I _ _ (by unfold Aw; omega), e2.I _ _ (by unfold Aw; omega)]
      exact hr k (by omega)))
    exact ⟨Z, z1, fK.trans z2, z3, z4⟩
def Atl (o a k : Nat) : Prop := (104 ≤ a ∧ a ≤ 109) ∧ k = o
theorem tells_0 (N : Nat) (k25 : Nat → Int32 → Int64 → Int64 → Int32 → Int32 → sw_M → Option sw_M) (M : sw_M) (hM : MR M) (o : Nat) (ho : o < 6) (a2 a4 : Int64) (a6 a8 : Int32) (x y sq sp : Int64) :
    f_Model_tells_104 N k25 80 (nI o) a2 a4 a6 0 a8 x y sq sp M = k25 80 (nI o) sp sp (qr x y a6) 1 (wr_L (wr_L M 106 o sq) 107 o sq) := by
  unfold f_Model_tells_104 f_Model_tells_130 f_Model_tells_157 f_Model_tells_174 f_Model_tells_192 f_Model_tells_233 f_Model_tells_261 f_Model_tells_295
  simp only [m_II, m_LL, m_RR, m_IL, m_IR, m_LI, m_LR, m_RI, m_RL, m_NI, m_NL, m_NR, m_okI, m_okL, m_okR, m_okaI, m_okaL, m_okaR, m_arI, m_arL, m_arR, gd_T, bn_S, Nat.reduceEqDiff, Nat.left_eq_add, Nat.add_eq_left, Nat.one_ne_zero, and_false, and_true, false_and, true_and, if_false, if_true, ok_80 hM.1, mr_64 hM, mr_65 hM, ar_106 hM.1, ar_107 hM.1, ti_n (show o < 6 by omega) (by decide), cl_n (show o < 2 ^ 31 by omega), Model_quarter, show ((0 : Int32) ≤ 0) = True from by decide, show (0 : Int32) + 1 = 1 from by decide]
theorem tells_s (N : Nat) (k25 : Nat → Int32 → Int64 → Int64 → Int32 → Int32 → sw_M → Option sw_M) (M : sw_M) (hM : MR M) (o : Nat) (ho : o < 6) (a2 a4 : Int64) (a6 : Int32) (t : Nat) (ht : t < 240) (x y sq sp : Int64) :
    ∃ W, f_Model_tells_104 N k25 80 (nI o) a2 a4 a6 (nI (t + 1)) (nI (241 * o + (t + 1))) x y sq sp M = k25 80 (nI o) (m_minL a2 sp) (m_maxL a4 sp) (qr x y a6) (nI (t + 1 + 1)) W ∧ Fr (Atl o) M W ∧ rd_L W 106 o = m_minL (rd_L M 106 o) sq ∧ rd_L W 107 o = m_maxL (rd_L M 107 o) sq ∧
      rd_I W 108 o = (if way (qr x y a6) a6 = 1 then rd_I M 108 o + 1 else if way (qr x y a6) a6 = 3 then rd_I M 108 o - 1 else rd_I M 108 o) ∧ rd_I W 109 o = (if rd_I M 99 (241 * o + t) < 0 ∧ 0 ≤ y then rd_I M 109 o + 1 else rd_I M 109 o) := by
  have n0 : ¬ nI (t + 1) = 0 := nI_ne0 (by omega) (by omega)
  have n1 : ¬ nI (t + 1) ≤ 0 := nI_nle (by omega) (by omega)
  have ep : nI (241 * o + (t + 1)) - 1 = nI (241 * o + t) := nI_pred _
  unfold f_Model_tells_104 f_Model_tells_130 f_Model_tells_157 f_Model_tells_174 f_Model_tells_192 f_Model_tells_233 f_Model_tells_261 f_Model_tells_295
  simp only [m_II, m_LL, m_RR, m_IL, m_IR, m_LI, m_LR, m_RI, m_RL, m_NI, m_NL, m_NR, m_okI, m_okL, m_okR, m_okaI, m_okaL, m_okaR, m_arI, m_arL, m_arR, gd_T, bn_S, Nat.reduceEqDiff, Nat.left_eq_add, Nat.add_eq_left, Nat.one_ne_zero, and_false, and_true, false_and, true_and, if_false, if_true, ok_80 hM.1, mr_64 hM, mr_65 hM, mr_66 hM, mr_57 hM, mr_67 hM, ar_106 hM.1, ar_107 hM.1, ar_108 hM.1, ar_99 hM.1, ar_109 hM.1, ti_n (show o < 6 by omega) (by decide), cl_n (show o < 2 ^ 31 by omega), ep, ti_n (show 241 * o + t < 1446 by omega) (by decide), cl_n (show 241 * o + t < 2 ^ 31 by omega), Model_quarter, n0, n1, nI_1]
  show ∃ W, (if way (qr x y a6) a6 = 1 then (if way (qr x y a6) a6 = 3 then _ else _) else (if way (qr x y a6) a6 = 3 then _ else _)) = _ ∧ _
  have fin : ∀ V v, Fr (Atl o) M V → rd_L V 106 o = m_minL (rd_L M 106 o) sq → rd_L V 107 o = m_maxL (rd_L M 107 o) sq → rd_I V 108 o = v → MR V → rd_I V 109 o = rd_I M 109 o →
      ∃ W, (if 0 ≤ rd_I M 99 (241 * o + t) then k25 80 (nI o) (m_minL a2 sp) (m_maxL a4 sp) (qr x y a6) (nI (t + 1 + 1)) V else if y < 0 then k25 80 (nI o) (m_minL a2 sp) (m_maxL a4 sp) (qr x y a6) (nI (t + 1 + 1)) V else k25 80 (nI o) (m_minL a2 sp) (m_maxL a4 sp) (qr x y a6) (nI (t + 1 + 1)) (wr_I V 109 o (rd_I M 109 o + 1))) = k25 80 (nI o) (m_minL a2 sp) (m_maxL a4 sp) (qr x y a6) (nI (t + 1 + 1)) W ∧ Fr (Atl o) M W ∧ rd_L W 106 o = m_minL (rd_L M 106 o) sq ∧ rd_L W 107 o = m_maxL (rd_L M 107 o) sq ∧ rd_I W 108 o = v ∧ rd_I W 109 o = (if rd_I M 99 (241 * o + t) < 0 ∧ 0 ≤ y then rd_I M 109 o + 1 else rd_I M 109 o) := fun V v f1 f2 f3 f4 f5 f6 => by
    by_cases c1 : 0 ≤ rd_I M 99 (241 * o + t)
    · rw [if_pos c1, if_neg (fun h => absurd h.1 (Int32.not_lt.mpr c1))]
      exact ⟨V, rfl, f1, f2, f3, f4, f6⟩
    · rw [if_neg c1]
      by_cases c2 : y < 0
      · rw [if_pos c2, if_neg (fun h => absurd h.2 (Int64.not_le.mpr c2))]
        exact ⟨V, rfl, f1, f2, f3, f4, f6⟩
      · rw [if_neg c2, if_pos ⟨Int32.not_le.mp c1, Int64.not_lt.mp c2⟩]
        refine ⟨_, rfl, f1.wI _ _ _ (by unfold Atl; omega), f2, f3, ?_, ?_⟩
        · simp only [m_II, m_LL, m_RR, m_IL, m_IR, m_LI, m_LR, m_RI, m_RL, m_NI, m_NL, m_NR, m_okI, m_okL, m_okR, m_okaI, m_okaL, m_okaR, m_arI, m_arL, m_arR, gd_T, bn_S, Nat.reduceEqDiff, Nat.left_eq_add, Nat.add_eq_left, Nat.one_ne_zero, and_false, and_true, false_and, true_and, if_false, if_true]; exact f4
        · simp only [m_II, m_LL, m_RR, m_IL, m_IR, m_LI, m_LR, m_RI, m_RL, m_NI, m_NL, m_NR, m_okI, m_okL, m_okR, m_okaI, m_okaL, m_okaR, m_arI, m_arL, m_arR, gd_T, bn_S, Nat.reduceEqDiff, Nat.left_eq_add, Nat.add_eq_left, Nat.one_ne_zero, and_false, and_true, false_and, true_and, if_false, if_true]
  have fr0 : Fr (Atl o) M (wr_L (wr_L M 106 o (m_minL (rd_L M 106 o) sq)) 107 o (m_maxL (rd_L M 107 o) sq)) := ((Fr.refl _ M).wL _ _ _ (by unfold Atl; omega)).wL _ _ _ (by unfold Atl; omega)
  by_cases c1 : way (qr x y a6) a6 = 1
  · have c3 : ¬ way (qr x y a6) a6 = 3 := by rw [c1]; decide
    simp only [if_pos c1, if_neg c3]
    refine fin _ _ (fr0.wI 108 o _ (by unfold Atl; omega)) ?_ ?_ ?_ hM ?_ <;> simp only [m_II, m_LL, m_RR, m_IL, m_IR, m_LI, m_LR, m_RI, m_RL, m_NI, m_NL, m_NR, m_okI, m_okL, m_okR, m_okaI, m_okaL, m_okaR, m_arI, m_arL, m_arR, gd_T, bn_S, Nat.reduceEqDiff, Nat.left_eq_add, Nat.add_eq_left, Nat.one_ne_zero, and_false, and_true, false_and, true_and, if_false, if_true]
  · simp only [if_neg c1]
    by_cases c3 : way (qr x y a6) a6 = 3
    · simp only [if_pos c3]
      refine fin _ _ (fr0.wI 108 o _ (by unfold Atl; omega)) ?_ ?_ ?_ hM ?_ <;> simp only [m_II, m_LL, m_RR, m_IL, m_IR, m_LI, m_LR, m_RI, m_RL, m_NI, m_NL, m_NR, m_okI, m_okL, m_okR, m_okaI, m_okaL, m_okaR, m_arI, m_arL, m_arR, gd_T, bn_S, Nat.reduceEqDiff, Nat.left_eq_add, Nat.add_eq_left, Nat.one_ne_zero, and_false, and_true, false_and, true_and, if_false, if_true]
    · simp only [if_neg c3]
      refine fin _ _ fr0 ?_ ?_ ?_ hM ?_ <;> simp only [m_II, m_LL, m_RR, m_IL, m_IR, m_LI, m_LR, m_RI, m_RL, m_NI, m_NL, m_NR, m_okI, m_okL, m_okR, m_okaI, m_okaL, m_okaR, m_arI, m_arL, m_arR, gd_T, bn_S, Nat.reduceEqDiff, Nat.left_eq_add, Nat.add_eq_left, Nat.one_ne_zero, and_false, and_true, false_and, true_and, if_false, if_true]
