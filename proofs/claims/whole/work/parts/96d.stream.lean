/-! 96d: a STREAM's TRAIL -/
def bitS (g r : Int32) (b : Int64) (s : SS) : Int64 := if s.g = 0 then (if celI g r s.x s.y = -1 then b else b ||| ((1 : Int64) <<< ((celI g r s.x s.y).toInt64 &&& 63))) else b
/-- all that is used of one of its STARS -/
def WS (P : Nat → PartS) (n : Nat) (mass : Int32) (T : Nat → SS) (L D : Nat) : Prop := L ≤ 240 ∧ D ≤ L ∧ (∀ t, T (t + 1) = fwd P n mass (T t)) ∧ (∀ t, t ≤ D → (T t).t = nI t ∧ nB 2500000 (T t).x ∧ nB 2500000 (T t).y ∧ nB 2500000 (T t).u ∧ nB 2500000 (T t).v) ∧ (∀ t, t < D → (T t).g = 0 ∧ nB 20000 (T t).x ∧ nB 20000 (T t).y) ∧ (D = L ∨ (T D).g = 1) ∧ (∀ t, t ≤ D → (T t).g = bz (bey (T t).x (T t).y))
theorem Stream_73 (N : Nat) (hN : 40 ≤ N) (k5 : Nat → Nat → Nat → Int64 → Int32 → sw_M → Option (Int64 × sw_M)) (P : Nat → PartS) (n : Nat) (mass : Int32) (T : Nat → SS) (L D : Nat) (hw : WS P n mass T L D) (b : Int64) (a5 : Int32) :
    ∀ (d j t : Nat) (M : sw_M), t + d = D → d < j → HR M → FR M n → mpart M = P → rd_I M 3 5 = mass → rd_I M 78 10 = nI L → StS M 79 (T t) →
    ∃ W, f_Stream_cellBits_73 N k5 j 78 3 33 b a5 (nI t) M = f_Stream_cellBits_99 N k5 78 3 33 b a5 W ∧ Fr (As 79) M W ∧ StS W 79 (T D)
  | 0, j, t, M, ht, hj, hH, hF, hP, hm, h10, hs => by
    obtain ⟨j, rfl⟩ : ∃ k, j = k + 1 := ⟨j - 1, by omega⟩
    obtain rfl : t = D := by omega
    obtain ⟨w0, w1, w2, w3, w4, w5, w6⟩ := hw
    refine ⟨M, ?_, Fr.refl _ _, hs⟩
    rw [f_Stream_cellBits_73, ok_78 hH.1, gd_T, h10]
    rcases Nat.lt_or_ge t L with c | c
    · rw [if_neg (nI_ge c (by omega)), hr_f hH 78 8 79 rfl (by decide), ok_79 hH.1, gd_T, Star_stop N M 79 (ok_79 hH.1) (T t) hs (fun h => by
        rcases w5 with e | e
        · omega
        · exact h.2 e), bn_S]
      show (if (0 : Int32) = 0 then _ else _) = _
      rw [if_pos rfl]
    · rw [if_pos (nI_le c (by omega))]
  | d + 1, j, t, M, ht, hj, hH, hF, hP, hm, h10, hs => by
    obtain ⟨j, rfl⟩ : ∃ k, j = k + 1 := ⟨j - 1, by omega⟩
    obtain ⟨w0, w1, w2, w3, w4, w5, w6⟩ := id hw
    obtain ⟨g0, gx, gy⟩ := w4 t (by omega)
    have ht' := (w3 t (by omega)).1
    have h79 := ok_79 hH.1
    rw [f_Stream_cellBits_73, ok_78 hH.1, gd_T, h10, if_neg (nI_ge (by omega) (by omega)), hr_f hH 78 8 79 rfl (by decide), h79, gd_T]
    obtain ⟨W, e1, e2, e3⟩ := Star_step N hN M hH n hF 79 h79 (by decide) (T t).x (T t).y (T t).u (T t).v (T t).t (T t).g mass hm hs (by rw [g0]; decide) (by rw [ht', nI_toInt (by omega)]; omega) (nB_Bd gx (by omega)) (nB_Bd gy (by omega))
    rw [hP] at e3
    obtain ⟨V, v1, v2, v3⟩ := Stream_73 N hN k5 P n mass T L D hw b a5 d j (t + 1) W (by omega) (by omega) (e2.hr hH) (FR_fr e2 (fun a k h => by unfold Cf at h; unfold As; omega) hH hF) ((mpart_fr e2 (fun a k h => by unfold Cf at h; unfold As; omega)).trans hP) ((e2.I 3 5 (by unfold As; omega)).trans hm) ((e2.I 78 10 (by unfold As; omega)).trans h10) (by rw [w2]; exact e3)
    refine ⟨V, ?_, e2.trans v2, v3⟩
    rw [e1, bn_S]
    show (if (1 : Int32) = 0 then _ else _) = _
    rw [if_neg (by decide), nI_1, v1]
theorem Stream_99 (N : Nat) (k5 : Nat → Nat → Nat → Int64 → Int32 → sw_M → Option (Int64 × sw_M)) (g r : Int32) (hg : GB g r) (M : sw_M) (hH : HR M) (s : SS) (hs : StS M 79 s) (h5 : rd_I M 33 5 = g) (h6 : rd_I M 33 6 = r) (b : Int64) (i : Nat) :
    f_Stream_cellBits_99 N k5 78 3 33 b (nI i) M = k5 78 3 33 (bitS g r b s) (nI (i + 1)) M := by
  obtain ⟨s1, s2, s3, s4, s5, s6⟩ := hs
  unfold f_Stream_cellBits_99 bitS
  rw [ok_78 hH.1, gd_T, hr_f hH 78 8 79 rfl (by decide), ok_79 hH.1, gd_T, s6]
  by_cases c : s.g = 0
  · rw [if_pos c, if_pos c, ok_33 hH.1, gd_T, s1, s2, Swarm_cellOf N M hH g r h5 h6 hg, bn_S]
    show f_Stream_cellBits_131 N k5 78 3 33 b (nI i) (celI g r s.x s.y) M = _
    unfold f_Stream_cellBits_131
    by_cases c2 : celI g r s.x s.y = -1
    · rw [if_pos c2, if_pos c2, f_Stream_cellBits_146, nI_1]
    · rw [if_neg c2, if_neg c2, f_Stream_cellBits_146, nI_1]
  · rw [if_neg c, if_neg c]
    unfold f_Stream_cellBits_131
    rw [if_pos rfl, f_Stream_cellBits_146, nI_1]
/-- starts, apart; how many, how long -/
def SQ : Type := (Int32 × Int32 × Int32 × Int32) × (Int32 × Int32 × Int32 × Int32) × Nat × Nat
def SQ.at (F : SQ) (i : Nat) : SS := s0 (F.1.1 + nI i * F.2.1.1) (F.1.2.1 + nI i * F.2.1.2.1) (F.1.2.2.1 + nI i * F.2.1.2.2.1) (F.1.2.2.2 + nI i * F.2.1.2.2.2)
def SQ.m (F : SQ) : Nat := F.2.2.1
def SQ.L (F : SQ) : Nat := F.2.2.2
noncomputable def tb (P : Nat → PartS) (n : Nat) (mass g r : Int32) (F : SQ) : Nat → Int64
  | 0 => 0
  | i + 1 => bitS g r (tb P n mass g r F i) (tr P n mass (F.at i) (dn P n mass F.L (F.at i)))
def SG (F : SQ) : Prop := F.m ≤ 16 ∧ F.L ≤ 240 ∧ ∀ i, i < F.m → SB (F.1.1 + nI i * F.2.1.1) (F.1.2.1 + nI i * F.2.1.2.1) (F.1.2.2.1 + nI i * F.2.1.2.2.1) (F.1.2.2.2 + nI i * F.2.1.2.2.2)
theorem SG.w {F : SQ} (h : SG F) {P : Nat → PartS} {n : Nat} (hn : n ≤ 8) (hP : ∀ p, p < n → POk (P p)) {mass : Int32} (hm : mok mass) {i : Nat} (hi : i < F.m) : WS P n mass (tr P n mass (F.at i)) F.L (dn P n mass F.L (F.at i)) := by
  obtain ⟨w1, w2, w3, w4, w5⟩ := walk hn hP hm (h.2.2 i hi) h.2.1
  exact ⟨h.2.1, w1, fun _ => rfl, w2, w3, w4, w5⟩
def HF (M : sw_M) (F : SQ) : Prop := rd_I M 78 0 = F.1.1 ∧ rd_I M 78 1 = F.1.2.1 ∧ rd_I M 78 2 = F.1.2.2.1 ∧ rd_I M 78 3 = F.1.2.2.2 ∧ rd_I M 78 4 = F.2.1.1 ∧ rd_I M 78 5 = F.2.1.2.1 ∧ rd_I M 78 6 = F.2.1.2.2.1 ∧ rd_I M 78 7 = F.2.1.2.2.2 ∧ rd_I M 78 9 = nI F.m ∧ rd_I M 78 10 = nI F.L
theorem HF_fr {A : Nat → Nat → Prop} {M W : sw_M} (h : Fr A M W) (hA : ∀ k, ¬ A 78 k) {F : SQ} (g : HF M F) : HF W F := by
  unfold HF
  rw [h.I 78 _ (hA _), h.I 78 _ (hA _), h.I 78 _ (hA _), h.I 78 _ (hA _), h.I 78 _ (hA _), h.I 78 _ (hA _), h.I 78 _ (hA _), h.I 78 _ (hA _), h.I 78 _ (hA _), h.I 78 _ (hA _)]
  exact g
theorem Stream_5 (N : Nat) (hN : 300 ≤ N) (P : Nat → PartS) (n : Nat) (mass g r : Int32) (hg : GB g r) (hmb : mok mass) (F : SQ) (hG : SG F) :
    ∀ (d j i : Nat) (M : sw_M), i + d = F.m → d < j → HR M → FR M n → mpart M = P → rd_I M 3 5 = mass → rd_I M 33 5 = g → rd_I M 33 6 = r → HF M F →
    ∃ W, f_Stream_cellBits_5 N j 78 3 33 (tb P n mass g r F i) (nI i) M = some (tb P n mass g r F F.m, W) ∧ Fr (As 79) M W
  | 0, j, i, M, hi, hj, hH, hF, hP, hm, h5, h6, hs => by
    obtain ⟨j, rfl⟩ : ∃ k, j = k + 1 := ⟨j - 1, by omega⟩
    have hi' : i = F.m := by omega
    obtain ⟨q0, q1, q2, q3, q4, q5, q6, q7, q8, q9⟩ := hs
    have hb := hG.1
    refine ⟨M, ?_, Fr.refl _ _⟩
    rw [f_Stream_cellBits_5, ok_78 hH.1, gd_T, q8, if_pos (nI_le (by omega) (by omega)), hi']
  | d + 1, j, i, M, hi, hj, hH, hF, hP, hm, h5, h6, hs => by
    obtain ⟨j, rfl⟩ : ∃ k, j = k + 1 := ⟨j - 1, by omega⟩
    obtain ⟨q0, q1, q2, q3, q4, q5, q6, q7, q8, q9⟩ := id hs
    have hb := hG.1
    have h79 := ok_79 hH.1
    have hPp : ∀ p, p < n → POk (P p) := fun p hp => by rw [← hP]; exact (hF.2.2.2 p hp).1
    have hw := hG.w hF.1 hPp hmb (show i < F.m by omega)
    rw [f_Stream_cellBits_5, ok_78 hH.1, gd_T, q8, if_neg (nI_ge (by omega) (by omega)), hr_f hH 78 8 79 rfl (by decide), h79, gd_T, q0, q1, q2, q3, q4, q5, q6, q7, f_Star_put, h79, gd_T, bn_S]
    have f1 : ∀ a b c d e f, Fr (As 79) M (wr_I (wr_I (wr_L (wr_L (wr_L (wr_L M 79 0 a) 79 1 b) 79 2 c) 79 3 d) 79 4 e) 79 5 f) := fun a b c d e f =>
      ((((((Fr.refl (As 79) M).wL _ _ _ (by unfold As; omega)).wL _ _ _ (by unfold As; omega)).wL _ _ _ (by unfold As; omega)).wL _ _ _ (by unfold As; omega)).wI _ _ _ (by unfold As; omega)).wI _ _ _ (by unfold As; omega)
    have cA : ∀ a k, Cf a k → ¬ As 79 a k := fun a k h => by unfold Cf at h; unfold As; omega
    obtain ⟨W, e1, e2, e3⟩ := Stream_73 N (by omega) (f_Stream_cellBits_5 N j) P n mass (tr P n mass (F.at i)) F.L (dn P n mass F.L (F.at i)) hw (tb P n mass g r F i) (nI i) (dn P n mass F.L (F.at i)) N 0 _ (by omega) (by have := hw.1; have := hw.2.1; omega) ((f1 (F.1.1 + nI i * F.2.1.1).toInt64 (F.1.2.1 + nI i * F.2.1.2.1).toInt64 (F.1.2.2.1 + nI i * F.2.1.2.2.1).toInt64 (F.1.2.2.2 + nI i * F.2.1.2.2.2).toInt64 0 0).hr hH) (FR_fr (f1 _ _ _ _ _ _) cA hH hF) ((mpart_fr (f1 _ _ _ _ _ _) cA).trans hP) (((f1 _ _ _ _ _ _).I 3 5 (by unfold As; omega)).trans hm) (((f1 _ _ _ _ _ _).I 78 10 (by unfold As; omega)).trans q9) (by
      unfold StS St
      simp only [m_II, m_LL, m_RR, m_IL, m_IR, m_LI, m_LR, m_RI, m_RL, m_NI, m_NL, m_NR, m_okI, m_okL, m_okR, m_okaI, m_okaL, m_okaR, m_arI, m_arL, m_arR, gd_T, bn_S, Nat.reduceEqDiff, Nat.left_eq_add, Nat.add_eq_left, Nat.one_ne_zero, and_false, and_true, false_and, true_and, if_false, if_true]
      exact ⟨rfl, rfl, rfl, rfl, rfl, rfl⟩)
    have fW : Fr (As 79) M W := (f1 _ _ _ _ _ _).trans e2
    obtain ⟨V, v1, v2⟩ := Stream_5 N hN P n mass g r hg hmb F hG d j (i + 1) W (by omega) (by omega) (fW.hr hH) (FR_fr fW cA hH hF) ((mpart_fr fW cA).trans hP) ((fW.I 3 5 (by unfold As; omega)).trans hm) ((fW.I 33 5 (by unfold As; omega)).trans h5) ((fW.I 33 6 (by unfold As; omega)).trans h6) (HF_fr fW (fun k => by unfold As; omega) hs)
    refine ⟨V, ?_, fW.trans v2⟩
    refine Eq.trans e1 ?_
    rw [Stream_99 N _ g r hg W (fW.hr hH) _ e3 ((fW.I 33 5 (by unfold As; omega)).trans h5) ((fW.I 33 6 (by unfold As; omega)).trans h6)]
    exact v1
theorem Stream_cellBits (N : Nat) (hN : 300 ≤ N) (M : sw_M) (hH : HR M) (n : Nat) (hF : FR M n) (mass g r : Int32) (hm : rd_I M 3 5 = mass) (hmb : mok mass) (hg : GB g r) (h5 : rd_I M 33 5 = g) (h6 : rd_I M 33 6 = r) (F : SQ) (hG : SG F) (hs : HF M F) :
    ∃ W, f_Stream_cellBits N 78 3 33 M = some (tb (mpart M) n mass g r F F.m, W) ∧ Fr (As 79) M W := by
  have := hG.1
  exact Stream_5 N hN (mpart M) n mass g r hg hmb F hG F.m N 0 M (by omega) (by omega) hH hF rfl hm h5 h6 hs
