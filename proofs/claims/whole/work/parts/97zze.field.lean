/-! 97zze: field -/
def Atn (d a k : Nat) : Prop := Afa d a k ∨ (a = 3 ∧ 2 ≤ k ∧ k ≤ 5) ∨ (a = 33 ∧ k = 7) ∨ (a = 68 ∧ k = 5) ∨ Amo a k
theorem nI_nm {i : Nat} (h : i < 1000) : ¬ nI i = (-1 : Int32) := fun e => by
  have := congrArg Int32.toInt e
  rw [nI_toInt (by omega)] at this
  have h3 : ((-1 : Int32)).toInt = -1 := rfl
  omega
theorem spi_e {ps : List (Nat × PT)} (gu : UQ ps) {p : Nat} (hp : p < ps.length) (h8 : ps.length ≤ 8) : (∀ h, (el ps p).2.2.2.2.2.2.1 = some h → nI p = spi (spn ps)) ∧ ((el ps p).2.2.2.2.2.2.1 = none → ¬ nI p = spi (spn ps)) := by
  obtain ⟨s1, s2⟩ := el_s gu p hp
  refine ⟨fun h hh => by rw [s1 h hh]; rfl, fun hh e => ?_⟩
  cases hs : spn ps with
  | none => rw [hs] at e; exact nI_nm (by omega) e
  | some x =>
    obtain ⟨i, lo, hi⟩ := x
    rw [hs] at e
    have hb := spn_b hs
    have e' : nI p = nI i := e
    exact s2 hh i lo hi hs ((nI_eq (by omega) (by omega)).1 e').symm
theorem Inv_new {M W V Z : sw_M} {c d n b : Nat} {T : Nat → Nat} {ps : List (Nat × PT)} {ru : Option (List (Nat × Nat))} (g : Inv c M) (hd : rd_R M 18 0 = d) (w2 : Fr (fun a k => ARh d a k ∨ (a = 17 ∧ k = 3)) M W) (w4 : HL W T n d b ps ru) (gl : GDl ps) (gr : GDr ru) (gu : UQ ps)
    (v2 : Fr (fun a k => ARm a k ∨ (a = 80 ∧ (k = 0 ∨ k = 23 ∨ k = 24))) (hfU W) V) (v3 : rd_I V 80 23 = 0) (v4 : ML V T n b ps ru)
    (z2 : Fr Amo V Z) (z32 : rd_I Z 80 32 = 0) (z33 : rd_I Z 80 33 = -1) (z10 : rd_I Z 80 10 = nI ps.length) (z81 : ∀ a p, 81 ≤ a → a ≤ 89 → p < 8 → rd_I Z a p = rd_I V a (8 + p)) (zru : RU Z (hu ru) (wf (oo ru)) (oo ru).length) (z13 : rd_I Z 80 13 = spi (spn ps)) (z15 : spn ps = none → rd_I Z 80 15 = 0) (z15' : ∀ i lo hi, spn ps = some (i, lo, hi) → rd_I Z 80 15 = lo) : Inv (c + 1) Z := by
  obtain ⟨Q, mass, gx, gh, gm⟩ := g
  obtain ⟨g1, g2, g3, g4, g5, g6, g7, g8, g8'⟩ := gx
  obtain ⟨hH, hF, hE, hh, hB, hpo, hlo, hhi, hQB⟩ := g1
  obtain ⟨mM, mH, mF, mE, mB, mpo, mspm, mQB⟩ := g2
  obtain ⟨l1, l2, l3, l4, l5, l6, l7, l8, l9⟩ := w4
  obtain ⟨y1, y2, y3, y4, y5, y6, y7⟩ := v4
  obtain ⟨u1, u2, u3, u4⟩ := ru_h l9
  obtain ⟨q1, q2, q3, q4⟩ := ru_g gr
  have hW := w2.hr hH
  have hRZ : HR Z := z2.hr (v2.hr (hf_H hW))
  have mRZ : MR Z := z2.mr (v2.mr (hf_M (w2.mr mM)))
  have zU : ∀ a k, a < 80 ∨ 92 ≤ a → ¬ a = 93 → rd_I Z a k = rd_I (hfU W) a k := fun a k h h' => (z2.I a k (by unfold Amo; omega)).trans (v2.I a k (by unfold ARm; omega))
  have zW : ∀ a k, a < 80 ∨ 92 ≤ a → ¬ a = 93 → ¬ ((a = 3 ∧ 2 ≤ k ∧ k ≤ 5) ∨ (a = 1 ∧ k = 1) ∨ (a = 33 ∧ k = 7) ∨ (a = 68 ∧ k = 5)) → rd_I Z a k = rd_I W a k := fun a k h h' h'' => (zU a k h h').trans (hf_I W a k h'')
  have zR : ∀ a k, ¬ ((a = 3 ∨ a = 18) ∧ (k = 0 ∨ k = 1)) → rd_R Z a k = rd_R M a k := fun a k h => (z2.R a k).trans ((v2.R a k).trans ((hf_R W a k h).trans (w2.R a k)))
  have r30 : rd_R Z 3 0 = d := (z2.R 3 0).trans ((v2.R 3 0).trans ((hf_r W).1.trans l3))
  have r31 : rd_R Z 3 1 = d + 1 := (z2.R 3 1).trans ((v2.R 3 1).trans ((hf_r W).2.trans l4))
  have rN : rd_N Z = rd_N M := z2.N.trans (v2.N.trans ((hf_N W).trans w2.N))
  have h0 : Fr (Atn d) M ((Z.1, Z.2.1, M.2.2) : sw_M) := by
    refine ⟨fun a k h => ?_, rfl⟩
    have hA : ¬ Amo a k := fun x => h (Or.inr (Or.inr (Or.inr (Or.inr x))))
    have hB : ¬ (ARm a k ∨ (a = 80 ∧ (k = 0 ∨ k = 23 ∨ k = 24))) := fun x => by
      rcases x with x | ⟨x1, x2⟩
      · exact h (Or.inl (Or.inr (Or.inr (Or.inr (Or.inl x)))))
      · refine h (Or.inl (Or.inr (Or.inr (Or.inr (Or.inr ⟨x1, ?_⟩)))))
        rcases x2 with x2 | x2 | x2
        · exact Or.inl x2
        · exact Or.inr (Or.inl x2)
        · exact Or.inr (Or.inr (Or.inl x2))
    have hC : ¬ (ARh d a k ∨ (a = 17 ∧ k = 3)) := fun x => by
      rcases x with x | x
      · exact h (Or.inl (Or.inl x))
      · exact h (Or.inl (Or.inr (Or.inl x)))
    have hD : ¬ ((a = 3 ∧ 2 ≤ k ∧ k ≤ 5) ∨ (a = 1 ∧ k = 1) ∨ (a = 33 ∧ k = 7) ∨ (a = 68 ∧ k = 5)) := fun x => by
      rcases x with x | x | x | x
      · exact h (Or.inr (Or.inl x))
      · exact h (Or.inl (Or.inr (Or.inr (Or.inl x))))
      · exact h (Or.inr (Or.inr (Or.inl x)))
      · exact h (Or.inr (Or.inr (Or.inr (Or.inl x))))
    exact ⟨(z2.I a k hA).trans ((v2.I a k hB).trans ((hf_I W a k hD).trans (w2.I a k hC))), (z2.L a k hA).trans ((v2.L a k hB).trans (w2.L a k hC))⟩
  have I80 : ∀ k, ¬ (k = 0 ∨ k = 10 ∨ k = 11 ∨ k = 13 ∨ k = 14 ∨ k = 15 ∨ (18 ≤ k ∧ k ≤ 21) ∨ (23 ≤ k ∧ k ≤ 33) ∨ k = 35 ∨ k = 36) → rd_I Z 80 k = rd_I M 80 k := fun k hk => h0.I 80 k (by unfold Atn Afa Amo ARh ARm; omega)
  have I33 : ∀ k, ¬ k = 7 → rd_I Z 33 k = rd_I M 33 k := fun k hk => h0.I 33 k (by unfold Atn Afa Amo ARh ARm; omega)
  have mp : ∀ p, p < ps.length → mpart Z p = (nI (el ps p).1, (el ps p).2.1, (el ps p).2.2.1, (el ps p).2.2.2.1, (el ps p).2.2.2.2.1, (el ps p).2.2.2.2.2.1, (el ps p).2.2.2.2.2.2.2.1, rd_I Z 89 p, decide (nI p = spi (spn ps))) := fun p hp => by
    obtain ⟨a0, a1, a2, a3, a4, a5, a6, a7, a8⟩ := el_m y5 p hp
    have p8 : p < 8 := by omega
    unfold mpart
    rw [z81 81 p (by omega) (by omega) p8, z81 82 p (by omega) (by omega) p8, z81 83 p (by omega) (by omega) p8, z81 84 p (by omega) (by omega) p8, z81 85 p (by omega) (by omega) p8, z81 86 p (by omega) (by omega) p8, z81 88 p (by omega) (by omega) p8, a0, a1, a2, a3, a4, a5, a7, z13]
  have fR : FR Z ps.length := by
    refine ⟨l6, z10, ((zU 3 2 (by omega) (by omega)).trans (hf_3 W 2 (by omega) (by omega))).trans l5, fun p hp => ?_⟩
    have p8 : p < 8 := by omega
    have hq : hpa Z p = d + 5 + p := by
      rcases hpa_in hRZ p8 with e | e <;> rw [e.2] <;> rw [r30] at e <;> omega
    have i : ∀ k, rd_I Z (d + 5 + p) k = rd_I W (d + 5 + p) k := fun k => zW _ k (by omega) (by omega) (by omega)
    have hm8 := (el_m y5 p hp).2.2.2.2.2.2.2.2
    have e89 : (el ps p).1 = 3 → rd_I Z 89 p = (el ps p).2.2.2.2.2.2.2.2 := fun h => (z81 89 p (by omega) (by omega) p8).trans (hm8 h)
    obtain ⟨b0, b1, b2, b3, b4, b5, b6, b7, b8⟩ := el_h l7 p hp
    obtain ⟨k1, k2, k3, k4, k5, k6, k7, k8, k9⟩ := el_g gl p hp
    obtain ⟨s1, s2⟩ := spi_e gu hp l6
    have n3 : nI (el ps p).1 = (3 : Int32) → (el ps p).1 = 3 := fun h => (nI_eq (by omega) (by decide)).1 (h : nI _ = nI 3)
    rw [hq, mp p hp]
    refine ⟨⟨?_, k2, k3, k4, k5, k6, k7, fun h => ?_, fun h => ?_⟩, ?_, (i 1).trans b1, (i 2).trans b2, (i 3).trans b3, (i 4).trans b4, (i 5).trans b5, (i 6).trans b6, fun h => ?_, ?_⟩
    · show nI (el ps p).1 = 0 ∨ nI (el ps p).1 = 1 ∨ nI (el ps p).1 = 2 ∨ nI (el ps p).1 = 3 ∨ nI (el ps p).1 = 4
      rcases (by omega : (el ps p).1 = 0 ∨ (el ps p).1 = 1 ∨ (el ps p).1 = 2 ∨ (el ps p).1 = 3 ∨ (el ps p).1 = 4) with e | e | e | e | e <;> rw [e] <;> decide
    · have h' := n3 h
      show 1 ≤ (rd_I Z 89 p).toInt ∧ (rd_I Z 89 p).toInt ≤ 99
      rw [e89 h']
      exact k8 h'
    · have h' : decide (nI p = spi (spn ps)) = true := h
      have h2 := of_decide_eq_true h'
      show nI (el ps p).1 = 2
      cases hs : (el ps p).2.2.2.2.2.2.1 with
      | none => exact absurd h2 (s2 hs)
      | some x => rw [(k9 x hs).1]; rfl
    · show rd_I Z (d + 5 + p) 0 = nI (el ps p).1 + 20
      rw [i 0, b0, Nat.add_comm]
      exact (nI_add _ 20).symm
    · have h' := n3 h
      show rd_I Z (d + 5 + p) 7 = rd_I Z 89 p
      rw [e89 h', i 7]
      exact b7 h'
    · show rd_I Z (d + 5 + p) 8 = if decide (nI p = spi (spn ps)) = true then 1 else 0
      rw [i 8, b8]
      cases hs : (el ps p).2.2.2.2.2.2.1 with
      | none => rw [decide_eq_false (s2 hs)]; rfl
      | some x => rw [decide_eq_true (s1 x hs)]; rfl
  obtain ⟨o1, o2, o3, o4, o5, o6⟩ := hE.1
  have ek : EK ((mpart Z, ps.length, Q.E.L, hu ru, wf (oo ru), (oo ru).length, Q.E.no, Q.E.st, Q.E.g, Q.E.r) : EN) := ⟨l6, fun p hp => (fR.2.2.2 p hp).1, o3, o4, o5, o6⟩
  have mEZ : ME Z ((mpart Z, ps.length, Q.E.L, hu ru, wf (oo ru), (oo ru).length, Q.E.no, Q.E.st, Q.E.g, Q.E.r) : EN) := by
    obtain ⟨a1, a2, a3, a4, a5, a6, a7, a8, a9⟩ := hE
    refine ⟨ek, z10, rfl, (I80 51 (by omega)).trans a4, zru, (I80 50 (by omega)).trans a6, fun p hp => ?_, (I80 71 (by omega)).trans a8, (I80 72 (by omega)).trans a9⟩
    have e : ∀ a, 94 ≤ a → a ≤ 97 → rd_I Z a p = rd_I M a p := fun a h1 h2 => h0.I a p (by unfold Atn Afa Amo ARh ARm; omega)
    rw [e 94 (by omega) (by omega), e 95 (by omega) (by omega), e 96 (by omega) (by omega), e 97 (by omega) (by omega)]
    exact a7 p hp
  have hEZ : HE Z ((mpart Z, ps.length, Q.E.L, hu ru, wf (oo ru), (oo ru).length, Q.E.no, Q.E.st, Q.E.g, Q.E.r) : EN) := by
    obtain ⟨a1, a2, a3, a4, a5, a6⟩ := hh
    refine ⟨(I33 4 (by omega)).trans a1, (I33 5 (by omega)).trans a2, (I33 6 (by omega)).trans a3, (I33 3 (by omega)).trans a4, ?_, fun p hp => ?_⟩
    · rw [r31]
      have e : ∀ j k, j ≤ 2 → rd_I Z (d + 1 + j) k = rd_I W (d + 1 + j) k := fun j k hj => zW _ k (by omega) (by omega) (by omega)
      refine ⟨(e 0 5 (by omega)).trans u1, (e 0 3 (by omega)).trans u3, fun t ht => ?_⟩
      rw [e 1 t (by omega), e 2 t (by omega)]
      exact wf_h q1 u4 t ht
    · obtain ⟨b1, b2, b3, b4⟩ := a6 p hp
      have hp6 : p < 6 := Nat.lt_of_lt_of_le hp o4
      have e : ∀ k, rd_I Z (hob p) k = rd_I M (hob p) k := fun k => h0.I _ k (by unfold Atn Afa Amo ARh ARm hob; omega)
      have f : ∀ j k, rd_R Z (hob p + j) k = rd_R M (hob p + j) k := fun j k => zR _ _ (by unfold hob; omega)
      rw [e, e, e, e]
      refine ⟨(zR 34 p (by omega)).trans b1, ?_, b3, b4⟩
      obtain ⟨c1, c2, c3, c4, c5, c6, c7, c8, c9, c10⟩ := b2
      exact ⟨c1, by rw [rN]; exact c2, (f 0 4).trans c3, (f 1 0).trans c4, (f 1 1).trans c5, (f 1 2).trans c6, (f 1 3).trans c7, (f 0 13).trans c8, (f 0 15).trans c9, (f 0 16).trans c10⟩
  have nT : NT Z Q.B := (NT_fr h0 (fun a k q => by unfold Cnt at q; unfold Atn Afa Amo ARh ARm; omega) hB : NT ((Z.1, Z.2.1, M.2.2) : sw_M) Q.B)
  have sT : ISt c Z := (ISt_fr h0 (fun a k q => by unfold C1 at q; unfold Atn Afa Amo ARh ARm; omega) g4 : ISt c ((Z.1, Z.2.1, M.2.2) : sw_M))
  have fL : IFl Z := (IFl_fr h0 (fun a k q => by unfold C2 at q; unfold Atn Afa Amo ARh ARm; omega) g5 : IFl ((Z.1, Z.2.1, M.2.2) : sw_M))
  have z3 : ∀ k, 2 ≤ k → k ≤ 5 → rd_I Z 3 k = rd_I W 18 k := fun k h1 h2 => (zU 3 k (by omega) (by omega)).trans (hf_3 W k h1 h2)
  obtain ⟨lo, hi, s3, s4, s5, sM, s15, sb⟩ : ∃ lo hi : Int32, rd_I Z 3 3 = lo ∧ rd_I Z 3 4 = hi ∧ rd_I Z 3 5 = lo ∧ SPM Z lo hi ∧ rd_I Z 80 15 = lo ∧ (0 ≤ lo.toInt ∧ lo.toInt ≤ hi.toInt ∧ hi.toInt ≤ 99999) := by
    unfold SPn at l8
    cases hs : spn ps with
    | none =>
      rw [hs] at l8 z13
      exact ⟨0, 0, (z3 3 (by omega) (by omega)).trans l8.2.1, (z3 4 (by omega) (by omega)).trans l8.2.2.1, (z3 5 (by omega) (by omega)).trans l8.2.2.2, Or.inl ⟨z13, rfl, rfl⟩, z15 hs, by decide, by decide, by decide⟩
    | some x =>
      obtain ⟨i, lo, hi⟩ := x
      rw [hs] at l8 z13
      have hb := spn_b hs
      have i8 : i < 8 := by omega
      obtain ⟨e1, e2⟩ := el_i gu hs
      obtain ⟨k1, k2, k3, k4, k5, k6, k7, k8, k9⟩ := el_g gl i hb
      obtain ⟨a0, a1, a2, a3, a4, a5, a6, a7, a8⟩ := el_m y5 i hb
      have kk9 := k9 hi e2
      rw [e1] at k6 kk9
      refine ⟨lo, hi, (z3 3 (by omega) (by omega)).trans l8.2.1, (z3 4 (by omega) (by omega)).trans l8.2.2.1, (z3 5 (by omega) (by omega)).trans l8.2.2.2, Or.inr ⟨i, i8, z13, ?_, ?_⟩, z15' i lo hi hs, k6.1, kk9.2.1, kk9.2.2⟩
      · rw [z81 86 i (by omega) (by omega) i8, a5]; exact e1
      · rw [z81 87 i (by omega) (by omega) i8, a6, e2]; rfl
  have qb : QB (((mpart Z, ps.length, Q.E.L, hu ru, wf (oo ru), (oo ru).length, Q.E.no, Q.E.st, Q.E.g, Q.E.r), Q.B, Q.por, lo, hi, Q.pa) : QT) := ⟨ek, sb, hQB.2.2⟩
  have t1 : rd_I Z 1 1 = 0 := (zU 1 1 (by omega) (by omega)).trans (hf_1 W).1
  have t2 : rd_I Z 80 23 = 0 := (z2.I 80 23 (by unfold Amo; omega)).trans v3
  have t9 : rd_I Z 17 9 = 0 := (zW 17 9 (by omega) (by omega) (by omega)).trans l1.2.2.2.2.2.2.1
  have t10 : rd_I Z 17 10 = -1 := (zW 17 10 (by omega) (by omega) (by omega)).trans l1.2.2.2.2.2.2.2
  refine ⟨((mpart Z, ps.length, Q.E.L, hu ru, wf (oo ru), (oo ru).length, Q.E.no, Q.E.st, Q.E.g, Q.E.r), Q.B, Q.por, lo, hi, Q.pa), lo, ⟨⟨hRZ, fR, mEZ, hEZ, nT, ?_, s3, s4, qb⟩, ⟨mRZ, hRZ, fR, mEZ, nT, (I80 75 (by omega)).trans mpo, sM, qb⟩, ⟨s5, s15, Int.le_refl _, sb.2.1⟩, ISt_up sT, fL, ⟨0, by omega, t1, t2, fun i hi => by omega⟩, ⟨by rw [t9, z32], by rw [t10, z33]⟩, ?_, by rw [rN]; exact g8'⟩, Or.inl ?_, Or.inl ?_⟩
  · exact (h0.I 42 8 (by unfold Atn Afa Amo ARh ARm; omega)).trans hpo
  · rw [r31, zW (d + 1) 6 (by omega) (by omega) (by omega)]
    exact u2
  · exact (zU 33 7 (by omega) (by omega)).trans (hf_1 W).2.1
  · exact (zU 68 5 (by omega) (by omega)).trans (hf_1 W).2.2
theorem pr_field (N : Nat) (hN : 1000 ≤ N) (c : Nat) (M : sw_M) (g : Inv c M) (a : Int32) : PR c M (f_House_field N 1 a) (f_Model_field N 80 a) := by
  obtain ⟨Q, mass, gx, gh, gm⟩ := id g
  obtain ⟨g1, g2, g3, g4, g5, ⟨m, n1, n2, n3, n4⟩, g7, g8, g8'⟩ := id gx
  have hH := g1.1
  have hM := g2.1
  by_cases c0 : a < 0
  · refine PR_0 (-2) g ?_ ?_
    · unfold f_House_field
      rw [if_pos c0]
    · unfold f_Model_field
      rw [ok_80 hM.1, gd_T, if_pos c0]
  have a0 : 0 ≤ a.toInt := Int.not_lt.1 (fun h => c0 (Int32.lt_iff_toInt_lt.2 (show a.toInt < (0 : Int32).toInt from h)))
  obtain ⟨n, hn31, rfl⟩ : ∃ n, n < 2 ^ 31 ∧ a = nI n := ⟨a.toInt.toNat, by have := Int32.toInt_lt a; omega, (nI_back a a0).symm⟩
  by_cases c1 : n ≤ 20 * m
  · have hn : n ≤ 500 := by omega
    obtain ⟨T, hT⟩ : ∃ T : Nat → Nat, ∀ i, i < n → T i < 256 ∧ rd_I M 2 i = sb (T i) ∧ rd_I M 92 i = nI (T i) := by
      refine ⟨fun i => (rd_I M 92 i).toNatClampNeg, fun i hi => ?_⟩
      obtain ⟨b, b1, b2, b3⟩ := n4 i (by omega)
      have e : (rd_I M 92 i).toNatClampNeg = b := by rw [b2, cl_n (show b < 2 ^ 31 by omega)]
      show (rd_I M 92 i).toNatClampNeg < 256 ∧ rd_I M 2 i = sb (rd_I M 92 i).toNatClampNeg ∧ rd_I M 92 i = nI (rd_I M 92 i).toNatClampNeg
      rw [e]
      exact ⟨b1, b3, b2⟩
    obtain ⟨d, hd⟩ : ∃ d, rd_R M 18 0 = d := ⟨_, rfl⟩
    have dd : d = 4 ∨ d = 19 := by
      rcases hH.2.1 with e | e
      · exact Or.inr (hd.symm.trans e.2.2.1)
      · exact Or.inl (hd.symm.trans e.2.2.1)
    obtain ⟨W, r, w1, w2, w3, w4⟩ := hread N hN hH hn (fun i hi => ⟨(hT i hi).1, (hT i hi).2.1⟩) hd
    have hW := w2.hr hH
    rcases r with ⟨f, p⟩ | ⟨b, ps, ru⟩
    · have w4' : FH W f p := w4
      have nf : ¬ rd_I W 17 9 = 0 := by rw [w4'.2.1]; exact nf0 w4'.2.2.2.1 w4'.2.2.2.2
      have hf := hf_no N hH n2 c1 (by omega) w1 hW nf
      have fW : Fr (fun a k => ARh d a k ∨ (a = 17 ∧ k = 3) ∨ (a = 1 ∧ k = 1)) M (wr_I W 1 1 0) := (w2.mono (fun a k h => by unfold ARh at h ⊢; omega)).wI _ _ _ (by omega)
      have e9 : rd_I (wr_I W 1 1 0) 17 9 = nI f := by rw [w_o (by omega)]; exact w4'.2.1
      have e10 : rd_I (wr_I W 1 1 0) 17 10 = nI p := by rw [w_o (by omega)]; exact w4'.2.2.1
      have e1 : rd_I (wr_I W 1 1 0) 1 1 = 0 := w_s _ _ _ _
      generalize wr_I W 1 1 0 = W1 at *
      obtain ⟨V, v1, v2, v3, v4⟩ := mread N hN (fW.mr hM) hn c1 (by omega) ((fW.I 80 23 (by unfold ARh; omega)).trans n3) (fun i hi => ⟨(hT i hi).1, (fW.I 92 i (by unfold ARh; omega)).trans (hT i hi).2.2⟩) w3
      have v4' : FM V T n f p := v4
      have fZ : Fr (fun a k => ARm a k ∨ (a = 80 ∧ (k = 0 ∨ k = 23 ∨ k = 24 ∨ k = 32 ∨ k = 33))) W1 (wr_I (wr_I V 80 32 (nI f)) 80 33 (nI p)) := ((v2.mono (fun a k h => by unfold ARm at h ⊢; omega)).wI _ _ _ (by omega)).wI _ _ _ (by omega)
      refine ⟨-1, W1, _, hf, fW.mr hM, v1.trans (f96_f N v4'), Inv_read g hd ((fW.mono (fun a k h => by unfold ARh at h; unfold Afa ARh; omega)).trans (fZ.mono (fun a k h => by unfold ARm at h; unfold Afa ARm; omega))) ?_ ?_ ?_ ?_⟩
      · rw [fZ.I 17 9 (by unfold ARm; omega), e9, w_o (by omega), w_s]
      · rw [fZ.I 17 10 (by unfold ARm; omega), e10, w_s]
      · rw [fZ.I 1 1 (by unfold ARm; omega)]; exact e1
      · rw [w_o (by omega), w_o (by omega)]; exact v3
    · have w4' : HL W T n d b ps ru ∧ GDl ps ∧ GDr ru := w4
      obtain ⟨wl, gl, gr⟩ := w4'
      have gu : UQ ps := rl_u (ps := []) (r := (b, ps, ru)) trivial w3
      have hf := hf_ok N hH n2 c1 (by omega) w1 hW wl.1.2.2.2.2.2.2.1
      rw [wl.2.2.2.2.1] at hf
      obtain ⟨V, v1, v2, v3, v4⟩ := mread N hN (hf_M (w2.mr hM)) hn c1 (by omega) ((hf_I W 80 23 (by omega)).trans ((w2.I 80 23 (by unfold ARh; omega)).trans n3)) (fun i hi => ⟨(hT i hi).1, (hf_I W 92 i (by omega)).trans ((w2.I 92 i (by unfold ARh; omega)).trans (hT i hi).2.2)⟩) w3
      have v4' : ML V T n b ps ru := v4
      obtain ⟨Z, z1, z2, z3, z4, z5, z6, z7, z8, z9, z10⟩ := mf_ok N hN v4' gu gr
      exact ⟨nI ps.length, hfU W, Z, hf, hf_M (w2.mr hM), v1.trans z1, Inv_new g hd w2 wl gl gr gu v2 v3 v4' z2 z3 z4 z5 z6 z7 z8 z9 z10⟩
  · refine PR_0 (-2) g ?_ ?_
    · unfold f_House_field
      rw [if_neg c0, ok_1 hH.1, gd_T, n2, if_neg (nI_ge (by omega) hn31)]
    · unfold f_Model_field
      have e23 : rd_I (wr_I M 80 0 0) 80 23 = nI (20 * m) := by rw [w_o (by omega)]; exact n3
      rw [ok_80 hM.1, gd_T, if_neg c0, e23, if_neg (nI_ge (by omega) hn31)]
