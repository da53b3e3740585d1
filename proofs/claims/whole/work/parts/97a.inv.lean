/-! 97a: what holds between calls -/
def ISt (c : Nat) (M : sw_M) : Prop := rd_I M 1 5 = rd_I M 80 43 ∧ (rd_I M 1 5 = 0 ∨ (rd_I M 1 5 = 1 ∧ ∃ s, StS M 32 s ∧ MSt M s ∧ SI (41000 + 1599984 * (c : Int)) s))
def IFl (M : sw_M) : Prop := (rd_I M 78 9 = 0 ∧ rd_I M 80 89 = 0) ∨ (rd_I M 80 89 = 1 ∧ ∃ F, 2 ≤ SQ.m F ∧ SG F ∧ HF M F ∧ MFw M F)
def ITp (M : sw_M) : Prop := ∃ n, n ≤ 25 ∧ rd_I M 1 1 = nI (20 * n) ∧ rd_I M 80 23 = nI (20 * n) ∧ ∀ i, i < 20 * n → ∃ b, b < 256 ∧ rd_I M 92 i = nI b ∧ rd_I M 2 i = (nI b).toInt8.toInt32
def IFa (M : sw_M) : Prop := rd_I M 17 9 = rd_I M 80 32 ∧ rd_I M 17 10 = rd_I M 80 33
def IMs (M : sw_M) (Q : QT) (mass : Int32) : Prop := rd_I M 3 5 = mass ∧ rd_I M 80 15 = mass ∧ Q.lo.toInt ≤ mass.toInt ∧ mass.toInt ≤ Q.hi.toInt
def IX (c : Nat) (M : sw_M) (Q : QT) (mass : Int32) : Prop := HQ M Q ∧ MQq M Q ∧ IMs M Q mass ∧ ISt c M ∧ IFl M ∧ ITp M ∧ IFa M ∧ rd_I M (rd_R M 3 1) 6 = nI Q.E.k ∧ rd_N M = 124 + 9 * Q.E.no
noncomputable def Inv (c : Nat) (M : sw_M) : Prop := ∃ Q mass, IX c M Q mass ∧ CH M Q.E ∧ CM M Q.E Q.B Q.por Q.lo Q.hi
def Ci (a k : Nat) : Prop := Chq a k ∨ Cmq a k ∨ (a = 3 ∧ k = 5) ∨ (a = 80 ∧ (k = 15 ∨ k = 23 ∨ k = 32 ∨ k = 33 ∨ (43 ≤ k ∧ k ≤ 49) ∨ k = 89)) ∨ (a = 1 ∧ (k = 1 ∨ k = 5)) ∨ (a = 32 ∧ k ≤ 5) ∨ a = 78 ∨ a = 124 ∨ a = 92 ∨ a = 2 ∨ (a = 17 ∧ (k = 9 ∨ k = 10)) ∨ ((a = 5 ∨ a = 20) ∧ k = 6)
/-- those of star, STREAM, tape, fault -/
def Cr (a k : Nat) : Prop := (a = 80 ∧ (k = 23 ∨ k = 32 ∨ k = 33 ∨ (43 ≤ k ∧ k ≤ 49) ∨ k = 89)) ∨ (a = 1 ∧ (k = 1 ∨ k = 5)) ∨ (a = 32 ∧ k ≤ 5) ∨ a = 78 ∨ a = 124 ∨ a = 92 ∨ a = 2 ∨ (a = 17 ∧ (k = 9 ∨ k = 10)) ∨ ((a = 5 ∨ a = 20) ∧ k = 6)
theorem CrCi : ∀ a k, Cr a k → Ci a k := by
  intro a k h
  rcases h with ⟨h1, h2⟩ | h
  · exact Or.inr (Or.inr (Or.inr (Or.inl ⟨h1, by omega⟩)))
  · exact Or.inr (Or.inr (Or.inr (Or.inr h)))
def C1 (a k : Nat) : Prop := (a = 1 ∧ k = 5) ∨ (a = 32 ∧ k ≤ 5) ∨ (a = 80 ∧ 43 ≤ k ∧ k ≤ 49)
def C2 (a k : Nat) : Prop := a = 78 ∨ a = 124 ∨ (a = 80 ∧ k = 89)
def C3 (a k : Nat) : Prop := (a = 1 ∧ k = 1) ∨ a = 92 ∨ a = 2 ∨ (a = 80 ∧ k = 23)
def C4 (a k : Nat) : Prop := (a = 17 ∧ (k = 9 ∨ k = 10)) ∨ (a = 80 ∧ (k = 32 ∨ k = 33))
theorem C1r : ∀ a k, C1 a k → Cr a k := by intro a k h; unfold C1 at h; unfold Cr; omega
theorem C2r : ∀ a k, C2 a k → Cr a k := by intro a k h; unfold C2 at h; unfold Cr; omega
theorem C3r : ∀ a k, C3 a k → Cr a k := by intro a k h; unfold C3 at h; unfold Cr; omega
theorem C4r : ∀ a k, C4 a k → Cr a k := by intro a k h; unfold C4 at h; unfold Cr; omega
theorem Cr_80 {k : Nat} (h : k = 23 ∨ k = 32 ∨ k = 33 ∨ (43 ≤ k ∧ k ≤ 49) ∨ k = 89) : Cr 80 k := Or.inl ⟨rfl, h⟩
theorem Cr_l {a k : Nat} (h : (a = 1 ∧ (k = 1 ∨ k = 5)) ∨ (a = 32 ∧ k ≤ 5) ∨ a = 78 ∨ a = 124 ∨ a = 92 ∨ a = 2 ∨ (a = 17 ∧ (k = 9 ∨ k = 10)) ∨ ((a = 5 ∨ a = 20) ∧ k = 6)) : Cr a k := Or.inr h
theorem ISt_fr {A : Nat → Nat → Prop} {M W : sw_M} {c : Nat} (h : Fr A M W) (hA : ∀ a k, C1 a k → ¬ A a k) (g : ISt c M) : ISt c W := by
  obtain ⟨g1, g2⟩ := g
  have i1 := h.I 1 5 (hA _ _ (by unfold C1; omega))
  refine ⟨by rw [i1, h.I 80 43 (hA _ _ (by unfold C1; omega))]; exact g1, ?_⟩
  rw [i1]
  rcases g2 with g2 | ⟨g2, s, ⟨a1, a2, a3, a4, a5, a6⟩, ⟨b1, b2, b3, b4, b5, b6⟩, g5⟩
  · exact Or.inl g2
  · refine Or.inr ⟨g2, s, ⟨?_, ?_, ?_, ?_, ?_, ?_⟩, ⟨?_, ?_, ?_, ?_, ?_, ?_⟩, g5⟩
    · exact (h.L 32 0 (hA _ _ (by unfold C1; omega))).trans a1
    · exact (h.L 32 1 (hA _ _ (by unfold C1; omega))).trans a2
    · exact (h.L 32 2 (hA _ _ (by unfold C1; omega))).trans a3
    · exact (h.L 32 3 (hA _ _ (by unfold C1; omega))).trans a4
    · exact (h.I 32 4 (hA _ _ (by unfold C1; omega))).trans a5
    · exact (h.I 32 5 (hA _ _ (by unfold C1; omega))).trans a6
    · exact (h.L 80 44 (hA _ _ (by unfold C1; omega))).trans b1
    · exact (h.L 80 45 (hA _ _ (by unfold C1; omega))).trans b2
    · exact (h.L 80 46 (hA _ _ (by unfold C1; omega))).trans b3
    · exact (h.L 80 47 (hA _ _ (by unfold C1; omega))).trans b4
    · exact (h.I 80 48 (hA _ _ (by unfold C1; omega))).trans b5
    · exact (h.I 80 49 (hA _ _ (by unfold C1; omega))).trans b6
theorem IFl_fr {A : Nat → Nat → Prop} {M W : sw_M} (h : Fr A M W) (hA : ∀ a k, C2 a k → ¬ A a k) (g : IFl M) : IFl W := by
  unfold IFl
  rw [h.I 78 9 (hA _ _ (by unfold C2; omega)), h.I 80 89 (hA _ _ (by unfold C2; omega))]
  rcases g with g | ⟨g1, F, g2, g3, g4, g5⟩
  · exact Or.inl g
  · exact Or.inr ⟨g1, F, g2, g3, HF_fr h (fun k => hA _ _ (by unfold C2; omega)) g4, MFw_fr h (fun k => hA _ _ (by unfold C2; omega)) g5⟩
theorem ITp_fr {A : Nat → Nat → Prop} {M W : sw_M} (h : Fr A M W) (hA : ∀ a k, C3 a k → ¬ A a k) (g : ITp M) : ITp W := by
  obtain ⟨n, g1, g2, g3, g4⟩ := g
  refine ⟨n, g1, (h.I 1 1 (hA _ _ (by unfold C3; omega))).trans g2, (h.I 80 23 (hA _ _ (by unfold C3; omega))).trans g3, fun i hi => ?_⟩
  rw [h.I 92 i (hA _ _ (by unfold C3; omega)), h.I 2 i (hA _ _ (by unfold C3; omega))]
  exact g4 i hi
theorem IFa_fr {A : Nat → Nat → Prop} {M W : sw_M} (h : Fr A M W) (hA : ∀ a k, C4 a k → ¬ A a k) (g : IFa M) : IFa W := by
  unfold IFa
  rw [h.I 17 9 (hA _ _ (by unfold C4; omega)), h.I 17 10 (hA _ _ (by unfold C4; omega)), h.I 80 32 (hA _ _ (by unfold C4; omega)), h.I 80 33 (hA _ _ (by unfold C4; omega))]
  exact g
theorem IMs_fr {A : Nat → Nat → Prop} {M W : sw_M} {Q : QT} {mass : Int32} (h : Fr A M W) (h35 : ¬ A 3 5) (h15 : ¬ A 80 15) (g : IMs M Q mass) : IMs W Q mass := ⟨(h.I 3 5 h35).trans g.1, (h.I 80 15 h15).trans g.2.1, g.2.2⟩
theorem rr_c {M : sw_M} (h : HR M) : rd_R M 3 1 = 5 ∨ rd_R M 3 1 = 20 := by
  rcases h.2.1 with e | e
  · exact Or.inl e.2.1
  · exact Or.inr e.2.1
theorem IX_fr {A : Nat → Nat → Prop} {M W : sw_M} {c : Nat} {Q : QT} {mass : Int32} (h : Fr A M W) (hA : ∀ a k, Ci a k → ¬ A a k) (g : IX c M Q mass) : IX c W Q mass := by
  obtain ⟨g1, g2, g3, g4, g5, g6, g7, g8, g9⟩ := g
  have hR : ∀ a k, Cr a k → ¬ A a k := fun a k e => hA a k (CrCi a k e)
  refine ⟨HQ_fr h (fun a k e => hA a k (Or.inl e)) g1, MQq_fr h (fun a k e => hA a k (Or.inr (Or.inl e))) g2, IMs_fr h (hA _ _ (Or.inr (Or.inr (Or.inl ⟨rfl, rfl⟩)))) (hA _ _ (Or.inr (Or.inr (Or.inr (Or.inl ⟨rfl, Or.inl rfl⟩))))) g3, ISt_fr h (fun a k e => hR a k (C1r a k e)) g4, IFl_fr h (fun a k e => hR a k (C2r a k e)) g5, ITp_fr h (fun a k e => hR a k (C3r a k e)) g6, IFa_fr h (fun a k e => hR a k (C4r a k e)) g7, ?_, by rw [h.N]; exact g9⟩
  rw [h.R, h.I _ _ (hR _ _ (Cr_l (by rcases rr_c g1.1 with e | e <;> rw [e] <;> omega)))]
  exact g8
theorem CM_fr {A : Nat → Nat → Prop} {M W : sw_M} {E : EN} {B : NN} {por lo hi : Int32} (h : Fr A M W) (hA : ∀ a k, ((a = 68 ∧ 5 ≤ k ∧ k ≤ 9) ∨ (70 ≤ a ∧ a ≤ 77)) → ¬ A a k) (g : CM M E B por lo hi) : CM W E B por lo hi := by
  unfold CM
  rw [h.I 68 5 (hA _ _ (by omega))]
  rcases g with g | ⟨pa, g1, h1, h2, h3, h4, h5, h6⟩
  · exact Or.inl g
  · refine Or.inr ⟨pa, g1, (h.I 68 5 (hA _ _ (by omega))).trans h1, (h.I 68 6 (hA _ _ (by omega))).trans h2, (h.I 68 7 (hA _ _ (by omega))).trans h3, (h.I 68 8 (hA _ _ (by omega))).trans h4, (h.I 68 9 (hA _ _ (by omega))).trans h5, fun i ii hk c hc => ?_⟩
    have := (nm_b g1).2
    rw [h.I (70 + i) c (hA _ _ (by omega))]
    exact h6 i ii hk c hc
theorem ISt_up {c : Nat} {M : sw_M} (g : ISt c M) : ISt (c + 1) M := by
  refine ⟨g.1, ?_⟩
  rcases g.2 with h | ⟨h1, s, h2, h3, h4⟩
  · exact Or.inl h
  · exact Or.inr ⟨h1, s, h2, h3, SI_mono h4 (by omega)⟩
theorem IX_up {c : Nat} {M : sw_M} {Q : QT} {mass : Int32} (g : IX c M Q mass) : IX (c + 1) M Q mass := by
  obtain ⟨g1, g2, g3, g4, g5⟩ := g
  exact ⟨g1, g2, g3, ISt_up g4, g5⟩
theorem Inv_set {A : Nat → Nat → Prop} {M W : sw_M} {c : Nat} {Q : QT} {mass : Int32} (h : Fr A M W) (hA : ∀ a k, Cr a k → ¬ A a k) (g : IX c M Q mass) (Q' : QT) (mass' : Int32) (h1 : HQ W Q') (h2 : MQq W Q') (h3 : IMs W Q' mass') (hk : Q'.E.k = Q.E.k) (hn : Q'.E.no = Q.E.no) (h4 : CH W Q'.E) (h5 : CM W Q'.E Q'.B Q'.por Q'.lo Q'.hi) : Inv (c + 1) W := by
  obtain ⟨g1, g2, g3, g4, g5, g6, g7, g8, g9⟩ := g
  refine ⟨Q', mass', ⟨h1, h2, h3, ISt_up (ISt_fr h (fun a k e => hA a k (C1r a k e)) g4), IFl_fr h (fun a k e => hA a k (C2r a k e)) g5, ITp_fr h (fun a k e => hA a k (C3r a k e)) g6, IFa_fr h (fun a k e => hA a k (C4r a k e)) g7, ?_, by rw [h.N, hn]; exact g9⟩, h4, h5⟩
  rw [h.R, h.I _ _ (hA _ _ (Cr_l (by rcases rr_c g1.1 with e | e <;> rw [e] <;> omega))), hk]
  exact g8
/-- a call of both, alike -/
noncomputable def PR {α : Type} (c : Nat) (M : sw_M) (h m : sw_M → Option (α × sw_M)) : Prop := ∃ (r : α) (W Z : sw_M), h M = some (r, W) ∧ MR W ∧ m W = some (r, Z) ∧ Inv (c + 1) Z
/-- a frame that leaves all of it -/
def Cn (a k : Nat) : Prop := Ci a k ∨ 125 ≤ a ∨ (a = 33 ∧ (k = 7 ∨ k = 8)) ∨ (a = 68 ∧ 5 ≤ k ∧ k ≤ 9) ∨ (70 ≤ a ∧ a ≤ 77)
theorem Inv_fr {A : Nat → Nat → Prop} {M W : sw_M} {c : Nat} (h : Fr A M W) (hA : ∀ a k, Cn a k → ¬ A a k) (g : Inv c M) : Inv (c + 1) W := by
  obtain ⟨Q, mass, g1, g2, g3⟩ := g
  exact ⟨Q, mass, IX_up (IX_fr h (fun a k e => hA a k (Or.inl e)) g1), CH_fr h (fun a k e => hA a k (by unfold Cn; omega)) g2, CM_fr h (fun a k e => hA a k (by unfold Cn; omega)) g3⟩
/-- star, STREAM, tape, fault, and what is for the while -/
def Ax (a k : Nat) : Prop := (a = 3 ∧ (k = 6 ∨ k = 7)) ∨ a = 32 ∨ a = 1 ∨ a = 2 ∨ a = 92 ∨ a = 17 ∨ a = 78 ∨ a = 79 ∨ a = 124 ∨ (a = 80 ∧ (k = 0 ∨ k = 23 ∨ k = 32 ∨ k = 33 ∨ (37 ≤ k ∧ k ≤ 49) ∨ k = 89))
theorem Inv_part {M W : sw_M} {c : Nat} {Q : QT} {mass : Int32} (h : Fr Ax M W) (g : IX c M Q mass) (h1 : CH M Q.E) (h2 : CM M Q.E Q.B Q.por Q.lo Q.hi) (i1 : ISt (c + 1) W) (i2 : IFl W) (i3 : ITp W) (i4 : IFa W) : Inv (c + 1) W := by
  obtain ⟨g1, g2, g3, g4, g5, g6, g7, g8, g9⟩ := g
  refine ⟨Q, mass, ⟨HQ_fr h (fun a k e => by unfold Chq Cf Cx Che Cnt at e; unfold Ax; omega) g1, MQq_fr h (fun a k e => by unfold Cmq Cf Cx Cnt at e; unfold Ax; omega) g2, IMs_fr h (by unfold Ax; omega) (by unfold Ax; omega) g3, i1, i2, i3, i4, ?_, by rw [h.N]; exact g9⟩, CH_fr h (fun a k e => by unfold Ax; omega) h1, CM_fr h (fun a k e => by unfold Ax; omega) h2⟩
  rw [h.R, h.I _ _ (by unfold Ax; rcases rr_c g1.1 with e | e <;> rw [e] <;> omega)]
  exact g8
/-- nothing but the reference's first cell -/
theorem Inv_0 {M : sw_M} {c : Nat} (g : Inv c M) : Inv (c + 1) (wr_I M 80 0 0) := by
  refine Inv_fr (A := fun a k => a = 80 ∧ k = 0) ((Fr.refl _ M).wI _ _ _ ⟨rfl, rfl⟩) ?_ g
  rintro a k h ⟨rfl, rfl⟩
  unfold Cn Ci Chq Cmq Cf Cx Che Cnt at h
  omega
theorem PR_0 {α : Type} {c : Nat} {M : sw_M} {h m : sw_M → Option (α × sw_M)} (r : α) (g : Inv c M) (h1 : h M = some (r, M)) (h2 : m M = some (r, wr_I M 80 0 0)) : PR c M h m := ⟨r, M, _, h1, by obtain ⟨Q, mass, g1, g2, g3⟩ := g; exact g1.2.1.1, h2, Inv_0 g⟩
