/-! 97zy: a FAULT leaves THE FIELD -/
def Afa (d a k : Nat) : Prop := ARh d a k ∨ (a = 17 ∧ k = 3) ∨ (a = 1 ∧ k = 1) ∨ ARm a k ∨ (a = 80 ∧ (k = 0 ∨ k = 23 ∨ k = 24 ∨ k = 32 ∨ k = 33))
theorem Inv_read {M Z : sw_M} {c d : Nat} (g : Inv c M) (hd : rd_R M 18 0 = d) (h : Fr (Afa d) M Z) (f1 : rd_I Z 17 9 = rd_I Z 80 32) (f2 : rd_I Z 17 10 = rd_I Z 80 33) (t1 : rd_I Z 1 1 = 0) (t2 : rd_I Z 80 23 = 0) : Inv (c + 1) Z := by
  obtain ⟨Q, mass, gx, gh, gm⟩ := g
  obtain ⟨g1, g2, g3, g4, g5, g6, g7, g8, g8'⟩ := gx
  obtain ⟨hH, hF, hE, hh, hB, hpo, hlo, hhi, hQB⟩ := g1
  obtain ⟨mM, mH, mF, mE, mB, mpo, mspm, mQB⟩ := g2
  have dd : (d = 4 ∧ rd_R M 3 0 = 19 ∧ rd_R M 3 1 = 20) ∨ (d = 19 ∧ rd_R M 3 0 = 4 ∧ rd_R M 3 1 = 5) := by
    rcases hH.2.1 with e | e
    · exact Or.inr ⟨hd.symm.trans e.2.2.1, e.1, e.2.1⟩
    · exact Or.inl ⟨hd.symm.trans e.2.2.1, e.1, e.2.1⟩
  have hHZ := h.hr hH
  have hMZ := h.mr mM
  have I80 : ∀ k, ¬ (k = 0 ∨ k = 11 ∨ k = 14 ∨ k = 19 ∨ k = 21 ∨ (23 ≤ k ∧ k ≤ 33) ∨ k = 35 ∨ k = 36) → rd_I Z 80 k = rd_I M 80 k := fun k hk => h.I 80 k (by unfold Afa ARh ARm; omega)
  have rows : ∀ a k, 81 ≤ a → a ≤ 89 → k < 8 → rd_I Z a k = rd_I M a k := fun a k h1 h2 h3 => h.I a k (by unfold Afa ARh ARm; omega)
  have mp : ∀ p, p < 8 → mpart Z p = mpart M p := fun p hp => by
    unfold mpart
    rw [rows 81 p (by omega) (by omega) hp, rows 82 p (by omega) (by omega) hp, rows 83 p (by omega) (by omega) hp, rows 84 p (by omega) (by omega) hp, rows 85 p (by omega) (by omega) hp, rows 86 p (by omega) (by omega) hp, rows 88 p (by omega) (by omega) hp, rows 89 p (by omega) (by omega) hp, I80 13 (by omega)]
  have I3 : ∀ k, rd_I Z 3 k = rd_I M 3 k := fun k => h.I 3 k (by unfold Afa ARh ARm; omega)
  have n8 : Q.E.n ≤ 8 := hF.1
  have hpaE : hpa Z = hpa M := hpa_fr h
  have hPe : ∀ p, p < Q.E.n → mpart Z p = Q.E.P p := fun p hp => by rw [mp p (by omega), ← hE.2.2.1]
  have fR : FR Z Q.E.n := by
    obtain ⟨a1, a2, a3, a4⟩ := hF
    refine ⟨a1, (I80 10 (by omega)).trans a2, (I3 2).trans a3, fun p hp => ?_⟩
    rw [mp p (by omega), hpaE]
    refine ⟨(a4 p hp).1, ?_⟩
    have e : ∀ k, rd_I Z (hpa M p) k = rd_I M (hpa M p) k := fun k => h.I _ k (by
      rcases hpa_in hH (show p < 8 by omega) with q | q <;> rw [q.2] <;> unfold Afa ARh ARm <;> omega)
    have := (a4 p hp).2
    unfold HPart at *
    simp only [e]
    exact this
  have ek : EK (Q.E.wp (mpart Z)) := by
    obtain ⟨a1, a2, a3⟩ := hE.1
    refine ⟨a1, fun p hp => ?_, a3⟩
    show POk (mpart Z p)
    rw [hPe p hp]
    exact a2 p hp
  have nT : NT Z Q.B := NT_fr h (fun a k q => by unfold Cnt at q; unfold Afa ARh ARm; omega) hB
  have mEZ : ME Z (Q.E.wp (mpart Z)) := by
    obtain ⟨a1, a2, a3, a4, a5, a6, a7, a8, a9⟩ := hE
    refine ⟨ek, (I80 10 (by omega)).trans a2, rfl, (I80 51 (by omega)).trans a4, ?_, (I80 50 (by omega)).trans a6, fun p hp => ?_, (I80 71 (by omega)).trans a8, (I80 72 (by omega)).trans a9⟩
    · obtain ⟨b1, b2, b3, b4, b5, b6⟩ := a5
      refine ⟨b1, (I80 20 (by omega)).trans b2, (I80 18 (by omega)).trans b3, fun t ht => ?_, b5, b6⟩
      have tb : t < 48 := Nat.lt_of_lt_of_le ht b1
      rw [h.I 90 t (by unfold Afa ARh ARm; omega), h.I 91 t (by unfold Afa ARh ARm; omega)]
      exact b4 t ht
    · have e : ∀ a, 94 ≤ a → a ≤ 97 → rd_I Z a p = rd_I M a p := fun a h1 h2 => h.I a p (by unfold Afa ARh ARm; omega)
      rw [e 94 (by omega) (by omega), e 95 (by omega) (by omega), e 96 (by omega) (by omega), e 97 (by omega) (by omega)]
      exact a7 p hp
  have hEZ : HE Z (Q.E.wp (mpart Z)) := by
    obtain ⟨a1, a2, a3, a4, a5, a6⟩ := hh
    have I33 : ∀ k, rd_I Z 33 k = rd_I M 33 k := fun k => h.I 33 k (by unfold Afa ARh ARm; omega)
    refine ⟨(I33 4).trans a1, (I33 5).trans a2, (I33 6).trans a3, (I33 3).trans a4, ?_, fun p hp => ?_⟩
    · obtain ⟨b1, b2, b3⟩ := a5
      rw [h.R]
      have e : ∀ j k, j ≤ 2 → rd_I Z (rd_R M 3 1 + j) k = rd_I M (rd_R M 3 1 + j) k := fun j k hj => h.I _ k (by
        rcases dd with ⟨rfl, _, q⟩ | ⟨rfl, _, q⟩ <;> rw [q] <;> unfold Afa ARh ARm <;> omega)
      refine ⟨(e 0 5 (by omega)).trans b1, (e 0 3 (by omega)).trans b2, fun t ht => ?_⟩
      rw [e 1 t (by omega), e 2 t (by omega)]
      exact b3 t ht
    · obtain ⟨b1, b2, b3, b4⟩ := a6 p hp
      have e : ∀ k, rd_I Z (hob p) k = rd_I M (hob p) k := fun k => h.I _ k (by unfold Afa ARh ARm hob; omega)
      rw [e, e, e, e]
      exact ⟨(h.R _ _).trans b1, h.oq b2, b3, b4⟩
  have spm : SPM Z Q.lo Q.hi := by
    unfold SPM
    rw [I80 13 (by omega)]
    rcases mspm with q | ⟨p, q1, q2, q3, q4⟩
    · exact Or.inl q
    · exact Or.inr ⟨p, q1, q2, by rw [rows 86 p (by omega) (by omega) q1]; exact q3, by rw [rows 87 p (by omega) (by omega) q1]; exact q4⟩
  have qb : QB ((Q.E.wp (mpart Z), Q.2) : QT) := ⟨ek, hQB.2⟩
  refine ⟨(Q.E.wp (mpart Z), Q.2), mass, ⟨⟨hHZ, fR, mEZ, hEZ, nT, ?_, (I3 3).trans hlo, (I3 4).trans hhi, qb⟩, ⟨hMZ, hHZ, fR, mEZ, nT, (I80 75 (by omega)).trans mpo, spm, qb⟩, ⟨(I3 5).trans g3.1, (I80 15 (by omega)).trans g3.2.1, g3.2.2⟩, ISt_up (ISt_fr h (fun a k q => by unfold C1 at q; unfold Afa ARh ARm; omega) g4), IFl_fr h (fun a k q => by unfold C2 at q; unfold Afa ARh ARm; omega) g5, ⟨0, by omega, t1, t2, fun i hi => by omega⟩, ⟨f1, f2⟩, ?_, by rw [h.N]; exact g8'⟩, ?_, ?_⟩
  · exact (h.I 42 8 (by unfold Afa ARh ARm; omega)).trans hpo
  · rw [h.R, h.I _ _ (by rcases dd with ⟨rfl, _, q⟩ | ⟨rfl, _, q⟩ <;> rw [q] <;> unfold Afa ARh ARm <;> omega)]
    exact g8
  · exact CH_c hPe (CH_fr h (fun a k q => by unfold Afa ARh ARm; omega) gh)
  · exact CM_c hPe ek (CM_fr h (fun a k q => by unfold Afa ARh ARm; omega) gm)
/-- the house reads -/
theorem hread (N : Nat) (hN : 1000 ≤ N) {M : sw_M} {T : Nat → Nat} {n d : Nat} (hH : HR M) (hn : n ≤ 500) (hT : ∀ i, i < n → T i < 256 ∧ rd_I M 2 i = sb (T i)) (hd : rd_R M 18 0 = d) :
    ∃ W r, f_Reader_read N 17 (nI n) M = some W ∧ Fr (fun a k => ARh d a k ∨ (a = 17 ∧ k = 3)) M W ∧ rl T n 600 0 [] none = some r ∧ match r with
      | Sum.inl (f, p) => FH W f p
      | Sum.inr (b', ps', ru') => HL W T n d b' ps' ru' ∧ GDl ps' ∧ GDr ru' := by
  have dd : (d = 4 ∨ d = 19) ∧ rd_R M 18 1 = d + 1 := by
    rcases hH.2.1 with e | e <;> rw [e.2.2.2, ← hd, e.2.2.1] <;> omega
  have hq : RQ M (d + 1) := by have := hH.rq.2; rw [dd.2] at this; exact this
  have mn : m_minI (nI n) (nI 500) = nI n := by
    unfold m_minI
    rw [if_neg (nI_nlt hn (by omega))]
  unfold f_Reader_read
  rw [ok_17 hH.1, gd_T, hr_f hH 17 0 2 rfl (by decide), oa_2 hH.1, gd_T, show sw_len 2 = 500 from rfl, mn]
  have fU : Fr (fun a k => a = 17 ∧ (k = 2 ∨ k = 3 ∨ k = 5 ∨ k = 9 ∨ k = 10)) M (wr_I (wr_I (wr_I (wr_I (wr_I M 17 3 (nI n)) 17 5 0) 17 9 0) 17 10 (-1)) 17 2 0) := (((((Fr.refl _ M).wI _ _ _ (by omega)).wI _ _ _ (by omega)).wI _ _ _ (by omega)).wI _ _ _ (by omega)).wI _ _ _ (by omega)
  have u2 : rd_I (wr_I (wr_I (wr_I (wr_I (wr_I M 17 3 (nI n)) 17 5 0) 17 9 0) 17 10 (-1)) 17 2 0) 17 2 = 0 := by simp only [m_II, m_LL, m_RR, m_IL, m_IR, m_LI, m_LR, m_RI, m_RL, m_NI, m_NL, m_NR, m_okI, m_okL, m_okR, m_okaI, m_okaL, m_okaR, m_arI, m_arL, m_arR, gd_T, bn_S, Nat.reduceEqDiff, Nat.left_eq_add, Nat.add_eq_left, Nat.one_ne_zero, and_false, and_true, false_and, true_and, if_false, if_true]
  have u3 : rd_I (wr_I (wr_I (wr_I (wr_I (wr_I M 17 3 (nI n)) 17 5 0) 17 9 0) 17 10 (-1)) 17 2 0) 17 3 = nI n := by simp only [m_II, m_LL, m_RR, m_IL, m_IR, m_LI, m_LR, m_RI, m_RL, m_NI, m_NL, m_NR, m_okI, m_okL, m_okR, m_okaI, m_okaL, m_okaR, m_arI, m_arL, m_arR, gd_T, bn_S, Nat.reduceEqDiff, Nat.left_eq_add, Nat.add_eq_left, Nat.one_ne_zero, and_false, and_true, false_and, true_and, if_false, if_true]
  have u5 : rd_I (wr_I (wr_I (wr_I (wr_I (wr_I M 17 3 (nI n)) 17 5 0) 17 9 0) 17 10 (-1)) 17 2 0) 17 5 = nI 0 := by simp only [m_II, m_LL, m_RR, m_IL, m_IR, m_LI, m_LR, m_RI, m_RL, m_NI, m_NL, m_NR, m_okI, m_okL, m_okR, m_okaI, m_okaL, m_okaR, m_arI, m_arL, m_arR, gd_T, bn_S, Nat.reduceEqDiff, Nat.left_eq_add, Nat.add_eq_left, Nat.one_ne_zero, and_false, and_true, false_and, true_and, if_false, if_true]; rfl
  have u9 : rd_I (wr_I (wr_I (wr_I (wr_I (wr_I M 17 3 (nI n)) 17 5 0) 17 9 0) 17 10 (-1)) 17 2 0) 17 9 = 0 := by simp only [m_II, m_LL, m_RR, m_IL, m_IR, m_LI, m_LR, m_RI, m_RL, m_NI, m_NL, m_NR, m_okI, m_okL, m_okR, m_okaI, m_okaL, m_okaR, m_arI, m_arL, m_arR, gd_T, bn_S, Nat.reduceEqDiff, Nat.left_eq_add, Nat.add_eq_left, Nat.one_ne_zero, and_false, and_true, false_and, true_and, if_false, if_true]
  have u10 : rd_I (wr_I (wr_I (wr_I (wr_I (wr_I M 17 3 (nI n)) 17 5 0) 17 9 0) 17 10 (-1)) 17 2 0) 17 10 = -1 := by simp only [m_II, m_LL, m_RR, m_IL, m_IR, m_LI, m_LR, m_RI, m_RL, m_NI, m_NL, m_NR, m_okI, m_okL, m_okR, m_okaI, m_okaL, m_okaR, m_arI, m_arL, m_arR, gd_T, bn_S, Nat.reduceEqDiff, Nat.left_eq_add, Nat.add_eq_left, Nat.one_ne_zero, and_false, and_true, false_and, true_and, if_false, if_true]
  generalize wr_I (wr_I (wr_I (wr_I (wr_I M 17 3 (nI n)) 17 5 0) 17 9 0) 17 10 (-1)) 17 2 0 = U at *
  have hU := fU.hr hH
  have qU := fU.rq hq
  rw [hr_f hU 17 1 18 rfl (by decide), ok_18 hU.1, gd_T]
  unfold f_Field_clear
  rw [ok_18 hU.1, gd_T]
  have fV : Fr (fun a k => a = 18 ∧ 2 ≤ k ∧ k ≤ 5) U (wr_I (wr_I (wr_I (wr_I U 18 2 0) 18 3 0) 18 4 0) 18 5 0) := ((((Fr.refl _ U).wI _ _ _ (by omega)).wI _ _ _ (by omega)).wI _ _ _ (by omega)).wI _ _ _ (by omega)
  have v2 : rd_I (wr_I (wr_I (wr_I (wr_I U 18 2 0) 18 3 0) 18 4 0) 18 5 0) 18 2 = 0 := by simp only [m_II, m_LL, m_RR, m_IL, m_IR, m_LI, m_LR, m_RI, m_RL, m_NI, m_NL, m_NR, m_okI, m_okL, m_okR, m_okaI, m_okaL, m_okaR, m_arI, m_arL, m_arR, gd_T, bn_S, Nat.reduceEqDiff, Nat.left_eq_add, Nat.add_eq_left, Nat.one_ne_zero, and_false, and_true, false_and, true_and, if_false, if_true]
  have v3 : rd_I (wr_I (wr_I (wr_I (wr_I U 18 2 0) 18 3 0) 18 4 0) 18 5 0) 18 3 = 0 := by simp only [m_II, m_LL, m_RR, m_IL, m_IR, m_LI, m_LR, m_RI, m_RL, m_NI, m_NL, m_NR, m_okI, m_okL, m_okR, m_okaI, m_okaL, m_okaR, m_arI, m_arL, m_arR, gd_T, bn_S, Nat.reduceEqDiff, Nat.left_eq_add, Nat.add_eq_left, Nat.one_ne_zero, and_false, and_true, false_and, true_and, if_false, if_true]
  have v4 : rd_I (wr_I (wr_I (wr_I (wr_I U 18 2 0) 18 3 0) 18 4 0) 18 5 0) 18 4 = 0 := by simp only [m_II, m_LL, m_RR, m_IL, m_IR, m_LI, m_LR, m_RI, m_RL, m_NI, m_NL, m_NR, m_okI, m_okL, m_okR, m_okaI, m_okaL, m_okaR, m_arI, m_arL, m_arR, gd_T, bn_S, Nat.reduceEqDiff, Nat.left_eq_add, Nat.add_eq_left, Nat.one_ne_zero, and_false, and_true, false_and, true_and, if_false, if_true]
  have v5 : rd_I (wr_I (wr_I (wr_I (wr_I U 18 2 0) 18 3 0) 18 4 0) 18 5 0) 18 5 = 0 := by simp only [m_II, m_LL, m_RR, m_IL, m_IR, m_LI, m_LR, m_RI, m_RL, m_NI, m_NL, m_NR, m_okI, m_okL, m_okR, m_okaI, m_okaL, m_okaR, m_arI, m_arL, m_arR, gd_T, bn_S, Nat.reduceEqDiff, Nat.left_eq_add, Nat.add_eq_left, Nat.one_ne_zero, and_false, and_true, false_and, true_and, if_false, if_true]
  generalize wr_I (wr_I (wr_I (wr_I U 18 2 0) 18 3 0) 18 4 0) 18 5 0 = V at *
  have hV := fV.hr hU
  have qV := fV.rq qU
  have rV : rd_R V 18 1 = d + 1 := (fV.R _ _).trans ((fU.R _ _).trans dd.2)
  have rV0 : rd_R V 18 0 = d := (fV.R _ _).trans ((fU.R _ _).trans hd)
  rw [rV, qV.ok, gd_T]
  unfold f_Rule_clear
  rw [qV.ok, gd_T, bn_S]
  have fX : Fr (fun a k => a = d + 1 ∧ (k = 3 ∨ k = 5 ∨ k = 6)) V (wr_I (wr_I (wr_I V (d + 1) 3 0) (d + 1) 5 0) (d + 1) 6 0) := (((Fr.refl _ V).wI _ _ _ (by omega)).wI _ _ _ (by omega)).wI _ _ _ (by omega)
  have x3 : rd_I (wr_I (wr_I (wr_I V (d + 1) 3 0) (d + 1) 5 0) (d + 1) 6 0) (d + 1) 3 = 0 := by rw [w_o (by omega), w_o (by omega), w_s]
  have x5 : rd_I (wr_I (wr_I (wr_I V (d + 1) 3 0) (d + 1) 5 0) (d + 1) 6 0) (d + 1) 5 = 0 := by rw [w_o (by omega), w_s]
  have x6 : rd_I (wr_I (wr_I (wr_I V (d + 1) 3 0) (d + 1) 5 0) (d + 1) 6 0) (d + 1) 6 = 0 := w_s _ _ _ _
  generalize wr_I (wr_I (wr_I V (d + 1) 3 0) (d + 1) 5 0) (d + 1) 6 0 = X at *
  have hX := fX.hr hV
  have xr : ∀ a k, ¬ (a = 17 ∧ (k = 2 ∨ k = 3 ∨ k = 5 ∨ k = 9 ∨ k = 10)) → ¬ a = 18 → ¬ a = d + 1 → rd_I X a k = rd_I M a k := fun a k h1 h2 h3 => (fX.I a k (by omega)).trans ((fV.I a k (by omega)).trans (fU.I a k h1))
  have x17 : ∀ k, rd_I X 17 k = rd_I U 17 k := fun k => (fX.I 17 k (by omega)).trans (fV.I 17 k (by omega))
  have x18 : ∀ k, rd_I X 18 k = rd_I V 18 k := fun k => fX.I 18 k (by omega)
  have tX : HTx X T n := ⟨hX, hn, (x17 3).trans u3, fun i hi => ⟨(hT i hi).1, (xr 2 i (by omega) (by omega) (by omega)).trans (hT i hi).2⟩⟩
  obtain ⟨Y, y1, y2, y3⟩ := Reader_advance N hN T n 0 X tX (Nat.zero_le _) ((x17 5).trans u5)
  have hY := y2.hr hX
  rw [bn_S, ok_17 hX.1, gd_T, y1, bn_S]
  have y17 : ∀ k, ¬ (4 ≤ k ∧ k ≤ 7) → rd_I Y 17 k = rd_I U 17 k := fun k h => (y2.I 17 k (by unfold A17; omega)).trans (x17 k)
  have y18 : ∀ k, rd_I Y 18 k = rd_I V 18 k := fun k => (y2.I 18 k (by unfold A17; omega)).trans (x18 k)
  have yq : ∀ k, rd_I Y (d + 1) k = rd_I X (d + 1) k := fun k => y2.I (d + 1) k (by unfold A17; omega)
  have hl : HL Y T n d 0 [] none := ⟨⟨tX.f17 y2, Nat.zero_le _, y3.1, y3.2.1, y3.2.2.1, y3.2.2.2, (y17 9 (by omega)).trans u9, (y17 10 (by omega)).trans u10⟩, dd.1, (y2.R _ _).trans ((fX.R _ _).trans rV0), (y2.R _ _).trans ((fX.R _ _).trans rV), (y18 2).trans v2, by decide, trivial, ⟨(y17 2 (by omega)).trans u2, (y18 3).trans v3, (y18 4).trans v4, (y18 5).trans v5⟩, ⟨(yq 5).trans x5, (yq 6).trans x6, (yq 3).trans x3⟩⟩
  have fY : Fr (fun a k => ARh d a k ∨ (a = 17 ∧ k = 3)) M Y := (((fU.mono (fun a k h => by unfold ARh; omega)).trans (fV.mono (fun a k h => by unfold ARh; omega))).trans (fX.mono (fun a k h => by unfold ARh; omega))).trans (y2.mono (fun a k h => by unfold A17 at h; unfold ARh; omega))
  obtain ⟨W, r, w1, w2, w3, w4⟩ := hloop N hN T n d N 0 600 Y 0 [] none hl trivial (fun o h => by cases h) (by omega) (by omega) (by omega)
  exact ⟨W, r, w1, fY.trans (w2.mono (fun a k h => Or.inl h)), w3, w4⟩
