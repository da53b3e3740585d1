/-! 77: all ORBITS on the reference's side, in one go -/
/-- PARTS, how many; LENGTH; the rule: told, its steps, how many; ORBITS: how many, their starts; g, r -/
def EN : Type := (Nat → PartS) × Nat × Nat × Int32 × (Nat → Int32 × Int32) × Nat × Nat × (Nat → SS) × Int32 × Int32
def EN.P (E : EN) : Nat → PartS := E.1
def EN.n (E : EN) : Nat := E.2.1
def EN.L (E : EN) : Nat := E.2.2.1
def EN.hu (E : EN) : Int32 := E.2.2.2.1
def EN.w (E : EN) : Nat → Int32 × Int32 := E.2.2.2.2.1
def EN.k (E : EN) : Nat := E.2.2.2.2.2.1
def EN.no (E : EN) : Nat := E.2.2.2.2.2.2.1
def EN.st (E : EN) : Nat → SS := E.2.2.2.2.2.2.2.1
def EN.g (E : EN) : Int32 := E.2.2.2.2.2.2.2.2.1
def EN.r (E : EN) : Int32 := E.2.2.2.2.2.2.2.2.2
noncomputable def TT (E : EN) (mass : Int32) (o : Nat) : Nat → SS := tr E.P E.n mass (E.st o)
noncomputable def DD (E : EN) (mass : Int32) (o : Nat) : Nat := dn E.P E.n mass E.L (E.st o)
noncomputable def UU (E : EN) (mass : Int32) (o : Nat) : Bool := usd E.hu (nmF (TT E mass o) (DD E mass o)) E.w E.k
noncomputable def SH (E : EN) (mass : Int32) (o c : Nat) : Int32 := saF E.g E.r (TT E mass o) c (DD E mass o)
noncomputable def GO (E : EN) (mass : Int32) (o c : Nat) : Int32 := gaF E.g E.r (TT E mass o) c (DD E mass o)
/-- what E must keep -/
def EK (E : EN) : Prop := E.n ≤ 8 ∧ (∀ p, p < E.n → POk (E.P p)) ∧ E.L ≤ 240 ∧ E.no ≤ 6 ∧ (∀ p, p < E.no → ∃ x y u v, SB x y u v ∧ E.st p = s0 x y u v) ∧ GB E.g E.r
def mok (mass : Int32) : Prop := 0 ≤ mass.toInt ∧ mass.toInt ≤ 99999
/-- all that is used of an ORBIT's way -/
theorem ways {E : EN} (h : EK E) {mass : Int32} (hm : mok mass) {o : Nat} (ho : o < E.no) :
    DD E mass o ≤ E.L ∧ (∀ t, t ≤ DD E mass o → (TT E mass o t).t = nI t ∧ nB 2500000 (TT E mass o t).x ∧ nB 2500000 (TT E mass o t).y ∧ nB 2500000 (TT E mass o t).u ∧ nB 2500000 (TT E mass o t).v) ∧
    (∀ t, t < DD E mass o → (TT E mass o t).g = 0 ∧ nB 20000 (TT E mass o t).x ∧ nB 20000 (TT E mass o t).y) ∧
    (DD E mass o = E.L ∨ (TT E mass o (DD E mass o)).g = 1) ∧ (∀ t, t ≤ DD E mass o → (TT E mass o t).g = bz (bey (TT E mass o t).x (TT E mass o t).y)) := by
  obtain ⟨h1, h2, h3, h4, h5, h6⟩ := h
  obtain ⟨x, y, u, v, hs, e⟩ := h5 o ho
  unfold DD TT
  rw [e]
  exact walk h1 h2 hm hs h3
theorem fits4 {E : EN} (h : EK E) {mass : Int32} (hm : mok mass) {o : Nat} (ho : o < E.no) (t : Nat) (ht : t ≤ DD E mass o) : (TT E mass o t).x.toInt32.toInt64 = (TT E mass o t).x ∧ (TT E mass o t).y.toInt32.toInt64 = (TT E mass o t).y ∧ (TT E mass o t).u.toInt32.toInt64 = (TT E mass o t).u ∧ (TT E mass o t).v.toInt32.toInt64 = (TT E mass o t).v := by
  obtain ⟨w1, w2, w3, w4, w5⟩ := ways h hm ho
  obtain ⟨a1, a2, a3, a4, a5⟩ := w2 t ht
  exact ⟨fit a2, fit a3, fit a4, fit a5⟩
theorem gn_bz {E : EN} (h : EK E) {mass : Int32} (hm : mok mass) {o : Nat} (ho : o < E.no) : gnF (TT E mass o) (DD E mass o) = bz (bey (TT E mass o (DD E mass o)).x (TT E mass o (DD E mass o)).y) := by
  obtain ⟨w1, w2, w3, w4, w5⟩ := ways h hm ho
  unfold gnF
  rw [w5 _ (Nat.le_refl _)]
  cases bey (TT E mass o (DD E mass o)).x (TT E mass o (DD E mass o)).y <;> rfl
/-- E is what the reference's memory holds -/
def ME (M : sw_M) (E : EN) : Prop := EK E ∧ rd_I M 80 10 = nI E.n ∧ mpart M = E.P ∧ rd_I M 80 51 = nI E.L ∧ RU M E.hu E.w E.k ∧ rd_I M 80 50 = nI E.no ∧ (∀ p, p < E.no → s0 (rd_I M 94 p) (rd_I M 95 p) (rd_I M 96 p) (rd_I M 97 p) = E.st p) ∧ rd_I M 80 71 = E.g ∧ rd_I M 80 72 = E.r
/-- its cells -/
def Cx (a k : Nat) : Prop := (a = 80 ∧ (k = 10 ∨ k = 13 ∨ k = 51 ∨ k = 20 ∨ k = 18 ∨ k = 50 ∨ k = 71 ∨ k = 72)) ∨ (81 ≤ a ∧ a ≤ 91) ∨ (94 ≤ a ∧ a ≤ 97)
theorem mpart_fr' {A : Nat → Nat → Prop} {M W : sw_M} (h : Fr A M W) (hA : ∀ a k, Cx a k → ¬ A a k) : mpart W = mpart M := by
  funext p
  have g : ∀ a k, Cx a k → rd_I W a k = rd_I M a k := fun a k c => h.I a k (hA a k c)
  unfold mpart
  rw [g 81 p (by unfold Cx; omega), g 82 p (by unfold Cx; omega), g 83 p (by unfold Cx; omega), g 84 p (by unfold Cx; omega), g 85 p (by unfold Cx; omega), g 86 p (by unfold Cx; omega), g 88 p (by unfold Cx; omega), g 89 p (by unfold Cx; omega), g 80 13 (by unfold Cx; omega)]
theorem RU_fr {A : Nat → Nat → Prop} {M W : sw_M} (h : Fr A M W) (hA : ∀ a k, Cx a k → ¬ A a k) {hu : Int32} {w : Nat → Int32 × Int32} {k : Nat} (g : RU M hu w k) : RU W hu w k := by
  obtain ⟨g1, g2, g3, g4, g5, g6⟩ := g
  refine ⟨g1, (h.I _ _ (hA _ _ (by unfold Cx; omega))).trans g2, (h.I _ _ (hA _ _ (by unfold Cx; omega))).trans g3, fun t ht => ?_, g5, g6⟩
  rw [h.I 90 t (hA _ _ (by unfold Cx; omega)), h.I 91 t (hA _ _ (by unfold Cx; omega))]
  exact g4 t ht
theorem ME_fr {A : Nat → Nat → Prop} {M W : sw_M} (h : Fr A M W) (hA : ∀ a k, Cx a k → ¬ A a k) {E : EN} (g : ME M E) : ME W E := by
  obtain ⟨g1, g2, g3, g4, g5, g6, g7, g8, g9⟩ := g
  refine ⟨g1, (h.I _ _ (hA _ _ (by unfold Cx; omega))).trans g2, (mpart_fr' h hA).trans g3, (h.I _ _ (hA _ _ (by unfold Cx; omega))).trans g4, RU_fr h hA g5, (h.I _ _ (hA _ _ (by unfold Cx; omega))).trans g6, fun p hp => ?_, (h.I _ _ (hA _ _ (by unfold Cx; omega))).trans g8, (h.I _ _ (hA _ _ (by unfold Cx; omega))).trans g9⟩
  rw [h.I 94 p (hA _ _ (by unfold Cx; omega)), h.I 95 p (hA _ _ (by unfold Cx; omega)), h.I 96 p (hA _ _ (by unfold Cx; omega)), h.I 97 p (hA _ _ (by unfold Cx; omega))]
  exact g7 p hp
/-- an ORBIT on the reference's side, told -/
noncomputable def MO (M : sw_M) (E : EN) (mass : Int32) (o : Nat) : Prop := MRow M o (TT E mass o) (DD E mass o) ∧ rd_I M 102 o = nI (DD E mass o) ∧ rd_I M 103 o = gnF (TT E mass o) (DD E mass o) ∧ rd_I M 104 o = kd (gnF (TT E mass o) (DD E mass o)) (slF (TT E mass o) (DD E mass o)) (shF (TT E mass o) (DD E mass o)) ∧ rd_L M 105 o = shF (TT E mass o) (DD E mass o) - slF (TT E mass o) (DD E mass o) ∧ TL M o (TT E mass o) (DD E mass o) ∧ rd_I M 110 o = bz (UU E mass o)
/-- the cells of an ORBIT there -/
def Cmo (o a k : Nat) : Prop := Akp o a k ∨ ((102 ≤ a ∧ a ≤ 110) ∧ k = o)
theorem MO_fr {A : Nat → Nat → Prop} {M W : sw_M} {E : EN} {mass : Int32} {o : Nat} (h : Fr A M W) (hD : DD E mass o ≤ 240) (hA : ∀ a k, Cmo o a k → ¬ A a k) (g : MO M E mass o) : MO W E mass o := by
  obtain ⟨g1, g2, g3, g4, g5, ⟨g6, g7, g8, g9⟩, g10⟩ := g
  exact ⟨MRow_fr h hD (fun a k c => hA a k (Or.inl c)) g1, (h.I _ _ (hA _ _ (by unfold Cmo; omega))).trans g2, (h.I _ _ (hA _ _ (by unfold Cmo; omega))).trans g3, (h.I _ _ (hA _ _ (by unfold Cmo; omega))).trans g4, (h.L _ _ (hA _ _ (by unfold Cmo; omega))).trans g5, ⟨(h.L _ _ (hA _ _ (by unfold Cmo; omega))).trans g6, (h.L _ _ (hA _ _ (by unfold Cmo; omega))).trans g7, (h.I _ _ (hA _ _ (by unfold Cmo; omega))).trans g8, (h.I _ _ (hA _ _ (by unfold Cmo; omega))).trans g9⟩, (h.I _ _ (hA _ _ (by unfold Cmo; omega))).trans g10⟩
def Ago (o a k : Nat) : Prop := Aw a k ∨ Cmo o a k ∨ Awk a k
def Aga (a k : Nat) : Prop := Aw a k ∨ (98 ≤ a ∧ a ≤ 111) ∨ Awk a k
theorem CxAga : ∀ a k, Cx a k → ¬ Aga a k := by intro a k h; unfold Cx at h; unfold Aga Aw Awk; omega
theorem AgoAga {o : Nat} : ∀ a k, Ago o a k → Aga a k := by intro a k h; unfold Ago Cmo Akp Aw Awk at h; unfold Aga Aw Awk; omega
theorem Model_goAll_95 (N : Nat) (hN : 300 ≤ N) (k2 : Nat → Int32 → Int32 → sw_M → Option sw_M) (E : EN) (mass : Int32) (hm : mok mass) (o : Nat) (ho : o < E.no) (M : sw_M) (hM : MR M) (hE : ME M E) (hw : MW M (TT E mass o (DD E mass o))) (hr : MRow M o (TT E mass o) (DD E mass o)) :
    ∃ W, f_Model_goAll_95 N k2 80 mass (nI o) (nI (DD E mass o)) M = k2 80 mass (nI (o + 1)) W ∧ Fr (Ago o) M W ∧ MO W E mass o := by
  have hk := hE.1
  have ho6 : o < 6 := by have := hk.2.2.2.1; omega
  have hD : DD E mass o ≤ 240 := by have := (ways hk hm ho).1; have := hk.2.2.1; omega
  unfold f_Model_goAll_95
  have f1 : Fr (fun a k => (a = 102 ∨ a = 103) ∧ k = o) M (wr_I (wr_I M 102 o (nI (DD E mass o))) 103 o (gnF (TT E mass o) (DD E mass o))) := ((Fr.refl _ M).wI _ _ _ ⟨Or.inl rfl, rfl⟩).wI _ _ _ ⟨Or.inr rfl, rfl⟩
  obtain ⟨W, e1, e2, e3, e4, e5⟩ := Model_tells N hN (TT E mass o) (DD E mass o) hD o ho6 (gnF (TT E mass o) (DD E mass o)) (fun t ht => fits4 hk hm ho t ht) (wr_I (wr_I M 102 o (nI (DD E mass o))) 103 o (gnF (TT E mass o) (DD E mass o))) hM (MRow_fr f1 hD (fun a k h c => by unfold Akp at h; omega) hr) (by simp only [m_II, m_LL, m_RR, m_IL, m_IR, m_LI, m_LR, m_RI, m_RL, m_NI, m_NL, m_NR, m_okI, m_okL, m_okR, m_okaI, m_okaL, m_okaR, m_arI, m_arL, m_arR, gd_T, bn_S, Nat.reduceEqDiff, Nat.left_eq_add, Nat.add_eq_left, Nat.one_ne_zero, and_false, and_true, false_and, true_and, if_false, if_true]) (by simp only [m_II, m_LL, m_RR, m_IL, m_IR, m_LI, m_LR, m_RI, m_RL, m_NI, m_NL, m_NR, m_okI, m_okL, m_okR, m_okaI, m_okaL, m_okaR, m_arI, m_arL, m_arR, gd_T, bn_S, Nat.reduceEqDiff, Nat.left_eq_add, Nat.add_eq_left, Nat.one_ne_zero, and_false, and_true, false_and, true_and, if_false, if_true])
  have f2 : Fr (Ago o) M W := (f1.mono (fun a k h => Or.inr (Or.inl (Or.inr (by omega))))).trans (e2.mono (fun a k h => by unfold Atl at h; exact Or.inr (Or.inl (Or.inr (by omega)))))
  have hMW := f2.mr hM
  have w2 : rd_I W 102 o = nI (DD E mass o) := by rw [e2.I 102 o (by unfold Atl; omega)]; simp only [m_II, m_LL, m_RR, m_IL, m_IR, m_LI, m_LR, m_RI, m_RL, m_NI, m_NL, m_NR, m_okI, m_okL, m_okR, m_okaI, m_okaL, m_okaR, m_arI, m_arL, m_arR, gd_T, bn_S, Nat.reduceEqDiff, Nat.left_eq_add, Nat.add_eq_left, Nat.one_ne_zero, and_false, and_true, false_and, true_and, if_false, if_true]
  have w3 : rd_I W 103 o = gnF (TT E mass o) (DD E mass o) := by rw [e2.I 103 o (by unfold Atl; omega)]; simp only [m_II, m_LL, m_RR, m_IL, m_IR, m_LI, m_LR, m_RI, m_RL, m_NI, m_NL, m_NR, m_okI, m_okL, m_okR, m_okaI, m_okaL, m_okaR, m_arI, m_arL, m_arR, gd_T, bn_S, Nat.reduceEqDiff, Nat.left_eq_add, Nat.add_eq_left, Nat.one_ne_zero, and_false, and_true, false_and, true_and, if_false, if_true]
  obtain ⟨V, v1, v2⟩ := Model_isUsed N hN W hMW E.hu E.w E.k (RU_fr f2 (fun a k h c => by unfold Cx at h; unfold Ago Cmo Akp Aw Awk at c; omega) hE.2.2.2.2.1) o ho6 (TT E mass o) (DD E mass o) e3 w2 w3 e5
  have f3 : Fr (Ago o) M (wr_I V 110 o (bz (UU E mass o))) := (f2.trans (v2.mono (fun _ _ h => Or.inr (Or.inr h)))).wI _ _ _ (Or.inr (Or.inl (Or.inr (by omega))))
  have hg := gn_bz hk hm ho
  have e1' : f_Model_tells N 80 (nI o) (wr_I (wr_I M 102 o (nI (DD E mass o))) 103 o (bz (bey (TT E mass o (DD E mass o)).x (TT E mass o (DD E mass o)).y))) = some W := by rw [← hg]; exact e1
  refine ⟨_, ?_, f3, ?_⟩
  · simp only [m_II, m_LL, m_RR, m_IL, m_IR, m_LI, m_LR, m_RI, m_RL, m_NI, m_NL, m_NR, m_okI, m_okL, m_okR, m_okaI, m_okaL, m_okaR, m_arI, m_arL, m_arR, gd_T, bn_S, Nat.reduceEqDiff, Nat.left_eq_add, Nat.add_eq_left, Nat.one_ne_zero, and_false, and_true, false_and, true_and, if_false, if_true, ok_80 hM.1, mr_60 hM, mr_61 hM, ar_102 hM.1, ar_103 hM.1, an_103_14, ti_n ho6 (by decide), cl_n (show o < 2 ^ 31 by omega), Model_isGone N _ (show MR (wr_I M 102 o (nI (DD E mass o))) from hM), hw.1, hw.2.1, Bool.false_and, Bool.false_or, Bool.true_and, bz_ok, e1', ok_80 hMW.1, v1, mr_68 hMW, an_110_14, ar_110 (v2.mr hMW).1, nI_1]
    rfl
  · have f4 : Fr (fun a k => Awk a k ∨ (a = 110 ∧ k = o)) W (wr_I V 110 o (bz (UU E mass o))) := (v2.mono (fun _ _ h => Or.inl h)).wI _ _ _ (Or.inr ⟨rfl, rfl⟩)
    have f5 : Fr (fun a k => 102 ≤ a ∨ a = 80) M (wr_I V 110 o (bz (UU E mass o))) := (((f1.mono (fun a k h => by omega)).trans (e2.mono (fun a k h => by unfold Atl at h; omega))).trans (v2.mono (fun a k h => by unfold Awk at h; omega))).wI _ _ _ (by omega)
    have nn : ∀ a, (102 ≤ a ∧ a ≤ 109) → ¬ (Awk a o ∨ (a = 110 ∧ o = o)) := fun a h c => by unfold Awk at c; omega
    obtain ⟨t1, t2, t3, t4⟩ := e3
    exact ⟨MRow_fr f5 hD (fun a k h c => by unfold Akp at h; omega) hr, (f4.I _ _ (nn _ (by omega))).trans w2, (f4.I _ _ (nn _ (by omega))).trans w3, (f4.I _ _ (nn _ (by omega))).trans e5, (f4.L _ _ (nn _ (by omega))).trans e4, ⟨(f4.L _ _ (nn _ (by omega))).trans t1, (f4.L _ _ (nn _ (by omega))).trans t2, (f4.I _ _ (nn _ (by omega))).trans t3, (f4.I _ _ (nn _ (by omega))).trans t4⟩, by simp only [m_II, m_LL, m_RR, m_IL, m_IR, m_LI, m_LR, m_RI, m_RL, m_NI, m_NL, m_NR, m_okI, m_okL, m_okR, m_okaI, m_okaL, m_okaR, m_arI, m_arL, m_arR, gd_T, bn_S, Nat.reduceEqDiff, Nat.left_eq_add, Nat.add_eq_left, Nat.one_ne_zero, and_false, and_true, false_and, true_and, if_false, if_true]⟩
theorem Model_goAll_2 (N : Nat) (hN : 300 ≤ N) (E : EN) (mass : Int32) (hm : mok mass) : ∀ (d j o : Nat) (M : sw_M), o + d = E.no → d < j → MR M → HR M → FR M E.n → ME M E → (∀ p, p < o → MO M E mass p) →
    ∃ W, f_Model_goAll_2 N j 80 mass (nI o) M = some W ∧ Fr Aga M W ∧ ∀ p, p < E.no → MO W E mass p
  | 0, j, o, M, hd, hj, hM, hH, hF, hE, ho => by
    obtain ⟨j, rfl⟩ : ∃ k, j = k + 1 := ⟨j - 1, by omega⟩
    obtain rfl : o = E.no := by omega
    have h6 := hE.1.2.2.2.1
    refine ⟨M, ?_, Fr.refl _ _, ho⟩
    rw [f_Model_goAll_2, ok_80 hM.1, gd_T, hE.2.2.2.2.2.1, if_pos (nI_le (by omega) (by omega))]
  | d + 1, j, o, M, hd, hj, hM, hH, hF, hE, ho => by
    obtain ⟨j, rfl⟩ : ∃ k, j = k + 1 := ⟨j - 1, by omega⟩
    have hk := hE.1
    have h6 := hE.1.2.2.2.1
    have hon : o < E.no := by omega
    obtain ⟨w1, w2, w3, w4, w5⟩ := ways hk hm hon
    have hL := hk.2.2.1
    have hst := hE.2.2.2.2.2.2.1 o hon
    have ef : f_Model_goAll_2 N (j + 1) 80 mass (nI o) M = (f_Model_keep N 80 (nI o) 0 (wr_L (wr_L (wr_L (wr_L M 80 39 (rd_I M 94 o).toInt64) 80 40 (rd_I M 95 o).toInt64) 80 41 (rd_I M 96 o).toInt64) 80 42 (rd_I M 97 o).toInt64)).bind (fun u6 => f_Model_goAll_62 N (f_Model_goAll_2 N j) N 80 mass (nI o) 0 u6) := by
      rw [f_Model_goAll_2]
      simp only [m_II, m_LL, m_RR, m_IL, m_IR, m_LI, m_LR, m_RI, m_RL, m_NI, m_NL, m_NR, m_okI, m_okL, m_okR, m_okaI, m_okaL, m_okaR, m_arI, m_arL, m_arR, gd_T, bn_S, Nat.reduceEqDiff, Nat.left_eq_add, Nat.add_eq_left, Nat.one_ne_zero, and_false, and_true, false_and, true_and, if_false, if_true, ok_80 hM.1, mr_52 hM, mr_53 hM, mr_54 hM, mr_55 hM, ar_94 hM.1, ar_95 hM.1, ar_96 hM.1, ar_97 hM.1, ti_n (show o < 6 by omega) (by decide), cl_n (show o < 2 ^ 31 by omega), hE.2.2.2.2.2.1]
      rw [if_neg (nI_ge (by omega) (by omega))]
    have hw0 : MW (wr_L (wr_L (wr_L (wr_L M 80 39 (rd_I M 94 o).toInt64) 80 40 (rd_I M 95 o).toInt64) 80 41 (rd_I M 96 o).toInt64) 80 42 (rd_I M 97 o).toInt64) (TT E mass o 0) := by
      show MW _ (E.st o)
      rw [← hst]
      unfold MW
      simp only [m_II, m_LL, m_RR, m_IL, m_IR, m_LI, m_LR, m_RI, m_RL, m_NI, m_NL, m_NR, m_okI, m_okL, m_okR, m_okaI, m_okaL, m_okaR, m_arI, m_arL, m_arR, gd_T, bn_S, Nat.reduceEqDiff, Nat.left_eq_add, Nat.add_eq_left, Nat.one_ne_zero, and_false, and_true, false_and, true_and, if_false, if_true]
      exact ⟨rfl, rfl, rfl, rfl⟩
    have f0 : Fr (Agk o) M (wr_L (wr_L (wr_L (wr_L M 80 39 (rd_I M 94 o).toInt64) 80 40 (rd_I M 95 o).toInt64) 80 41 (rd_I M 96 o).toInt64) 80 42 (rd_I M 97 o).toInt64) := ((((Fr.refl _ M).wL _ _ _ (Or.inl (by unfold Aw; omega))).wL _ _ _ (Or.inl (by unfold Aw; omega))).wL _ _ _ (Or.inl (by unfold Aw; omega))).wL _ _ _ (Or.inl (by unfold Aw; omega))
    have fK := kW_fr (s := TT E mass o 0) (t := 0) f0 (by omega) (fun a k h => Or.inr h)
    rw [ef, show (0 : Int32) = nI 0 from rfl, Model_keep N _ (f0.mr hM) o 0 (by omega) (by omega) (TT E mass o 0) hw0, bn_S]
    obtain ⟨W, e1, e2, e3, e4⟩ := Model_goAll_62 N (by omega) (f_Model_goAll_2 N j) E.n E.L hL mass E.P (TT E mass o) (DD E mass o) w1 (fun _ => rfl) o (by omega) (fun t ht => ⟨(w2 t ht).2.1, (w2 t ht).2.2.1⟩) (fun t ht => (w3 t ht).1) (fun t ht => (w2 t ht).1) w4 w5 (DD E mass o) N 0 _ (by omega) (by omega) (fK.mr hM) (fK.hr hH) (FR_fr fK CfAgk hH hF) ((mpart_fr fK CfAgk).trans hE.2.2.1) ((fK.I 80 51 (by unfold Agk Aw Akp; omega)).trans hE.2.2.2.1) (by
      unfold kW MW
      exact hw0) (kW_row (fun k hk => absurd hk (by omega)))
    have fW := fK.trans e2
    have cAgk : ∀ a k, Cx a k → ¬ Agk o a k := fun a k h c => by unfold Cx at h; unfold Agk Akp Aw at c; omega
    obtain ⟨V, v1, v2, v3⟩ := Model_goAll_95 N hN (f_Model_goAll_2 N j) E mass hm o hon W (fW.mr hM) (ME_fr fW cAgk hE) e3 e4
    have fV : Fr (Ago o) M V := (fW.mono (fun a k h => by unfold Agk at h; unfold Ago Cmo; rcases h with h | h; exact Or.inl h; exact Or.inr (Or.inl (Or.inl h)))).trans v2
    have cAgo : ∀ a k, Cx a k → ¬ Ago o a k := fun a k h c => by unfold Cx at h; unfold Ago Cmo Akp Aw Awk at c; omega
    have cfAgo : ∀ a k, Cf a k → ¬ Ago o a k := fun a k h c => by unfold Cf at h; unfold Ago Cmo Akp Aw Awk at c; omega
    obtain ⟨Z, z1, z2, z3⟩ := Model_goAll_2 N hN E mass hm d j (o + 1) V (by omega) (by omega) (fV.mr hM) (fV.hr hH) (FR_fr fV cfAgo hH hF) (ME_fr fV cAgo hE) (fun p hp => by
      by_cases c : p = o
      · subst c; exact v3
      · refine MO_fr fV ?_ (fun a k h c' => ?_) (ho p (by omega))
        · have := (ways hk hm (show p < E.no by omega)).1
          omega
        · unfold Cmo Akp at h
          unfold Ago Cmo Akp Aw Awk at c'
          omega)
    exact ⟨Z, by rw [e1, v1]; exact z1, (fV.mono AgoAga).trans z2, z3⟩
theorem Model_goAll (N : Nat) (hN : 300 ≤ N) (E : EN) (mass : Int32) (hm : mok mass) (M : sw_M) (hM : MR M) (hH : HR M) (hF : FR M E.n) (hE : ME M E) :
    ∃ W, f_Model_goAll N 80 mass M = some W ∧ Fr Aga M W ∧ ∀ p, p < E.no → MO W E mass p := by
  have h6 := hE.1.2.2.2.1
  exact Model_goAll_2 N hN E mass hm E.no N 0 M (by omega) (by omega) hM hH hF hE (fun p hp => absurd hp (by omega))
