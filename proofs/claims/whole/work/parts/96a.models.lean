/-! 96a: MODELS on the other side: they are made -/
def HQ (M : sw_M) (Q : QT) : Prop := HR M ∧ FR M Q.E.n ∧ ME M Q.E ∧ HE M Q.E ∧ NT M Q.B ∧ rd_I M 42 8 = Q.por ∧ rd_I M 3 3 = Q.lo ∧ rd_I M 3 4 = Q.hi ∧ QB Q
def Chq (a k : Nat) : Prop := Cf a k ∨ Cx a k ∨ Che a k ∨ Cnt a k ∨ (a = 42 ∧ k = 8) ∨ (a = 3 ∧ (k = 3 ∨ k = 4))
theorem HQ_fr {A : Nat → Nat → Prop} {M W : sw_M} (h : Fr A M W) (hA : ∀ a k, Chq a k → ¬ A a k) {Q : QT} (g : HQ M Q) : HQ W Q := by
  obtain ⟨g1, g2, g3, g4, g5, g6, g7, g8, g9⟩ := g
  exact ⟨h.hr g1, FR_fr h (fun a k c => hA a k (Or.inl c)) g1 g2, ME_fr h (fun a k c => hA a k (Or.inr (Or.inl c))) g3, HE_fr h (fun a k c => hA a k (Or.inr (Or.inr (Or.inl c)))) g1 g4, NT_fr h (fun a k c => hA a k (Or.inr (Or.inr (Or.inr (Or.inl c))))) g5, (h.I _ _ (hA _ _ (by unfold Chq; omega))).trans g6, (h.I _ _ (hA _ _ (by unfold Chq; omega))).trans g7, (h.I _ _ (hA _ _ (by unfold Chq; omega))).trans g8, g9⟩
theorem sh_tel : ∀ i, i < 8 → sw_sh (70 + i) = some (13, 64) := by decide
def kno (M : sw_M) (B : NN) : Prop := ∀ t, t < 10 → rd_I M 41 t = bz (decide (t < B.m) && !(skF B B.m (fun _ => false) t))
theorem Notes_isSight2 (N : Nat) (M : sw_M) (hH : HR M) (B : NN) (hB : NT M B) (hk : kno M B) (i : Nat) (hi : i < 10) : f_Notes_isSight N 36 (nI i) M = some (bz (sgt B B.m i), M) := by
  unfold f_Notes_isSight
  rw [if_neg (nI_pos (by omega)), if_neg (show ¬ (10 : Int32) ≤ nI i from (nI_ge (by omega) (by omega) : ¬ nI 10 ≤ nI i)), ok_36 hH.1, gd_T, hr_f hH 36 4 41 rfl (by decide), an_41_14, Bool.false_or, ar_41 hH.1, ti_n hi (by decide), gd_T, cl_n (by omega), hk i hi, hr_f hH 36 0 37 rfl (by decide), ar_37 hH.1, ti_n hi (by decide), gd_T]
  unfold sgt
  by_cases c : i < B.m
  · obtain ⟨b1, b2, b3, b4⟩ := hB.2.2.2 i (by omega)
    rw [decide_eq_true c, Bool.true_and, Bool.true_and]
    cases hS : skF B B.m (fun _ => false) i
    · rw [Bool.not_false, Bool.and_true, show bz true = 1 from rfl, if_neg (by decide)]
      cases hst : B.str i
      · obtain ⟨c1, c2, c3, c4, _⟩ := b2 hst
        rw [c2, if_neg (by rcases c4 with e | e <;> rw [e] <;> decide)]
        rfl
      · rw [(b1 hst).2.1, if_pos rfl]
        rfl
    · rw [Bool.not_true, Bool.and_false]
      rfl
  · rw [decide_eq_false c, Bool.false_and, Bool.false_and]
    rfl
theorem Models_tell_2 (N : Nat) (hN : 300 ≤ N) (F : FE) (W : Nat → Int32) (i : Nat) (hi : i < 8) : ∀ (d c j : Nat) (M : sw_M), c + d = 64 → d < j → HFE M F → HS M F W → (∀ t, t < c → rd_I M (70 + i) t = lig F W t) →
    ∃ Z, f_Models_tell_2 N j 68 (nI i) (nI c) M = some Z ∧ Fr (fun a _ => a = 70 + i) M Z ∧ ∀ t, t < 64 → rd_I Z (70 + i) t = lig F W t
  | 0, c, j, M, hd, hj, hF, hW, ht => by
    obtain ⟨j, rfl⟩ : ∃ k, j = k + 1 := ⟨j - 1, by omega⟩
    obtain rfl : c = 64 := by omega
    refine ⟨M, ?_, Fr.refl _ _, ht⟩
    rw [f_Models_tell_2, if_pos (show (64 : Int32) ≤ nI 64 from by decide)]
  | d + 1, c, j, M, hd, hj, hF, hW, ht => by
    obtain ⟨j, rfl⟩ : ∃ k, j = k + 1 := ⟨j - 1, by omega⟩
    have hH := hF.1
    have hH1 := hH.1
    have hr1 : rd_R M 69 i = 70 + i := hr_f hH 69 i _ (if_pos hi) (by omega)
    rw [f_Models_tell_2, if_neg (show ¬ (64 : Int32) ≤ nI c from (nI_ge (by omega) (by omega) : ¬ nI 64 ≤ nI c)), ok_68 hH.1, gd_T, hr_f hH 68 4 69 rfl (by decide), an_69_17, an_69_18, Bool.false_or, Bool.false_or, ar_69 hH.1, ti_n (show i < 8 by omega) (by decide), gd_T, hr_f hH 68 3 42 rfl (by decide), ok_42 hH.1, gd_T, Fits_lightOf N hN F M hF W hW c (by omega), bn_S]
    show ∃ Z, sw_gd [sw_ar M (rd_R M 69 (nI i).toNatClampNeg) 13 (nI c)] (f_Models_tell_2 N j 68 (nI i) (nI c + 1) (wr_I M (rd_R M 69 (nI i).toNatClampNeg) (nI c).toNatClampNeg (lig F W c))) = _ ∧ _
    rw [cl_n (show i < 2 ^ 31 by omega), hr1, c_ar (sh_tel i hi) (by omega), ti_n (show c < 64 by omega) (by decide), gd_T, cl_n (by omega), nI_1]
    have hf : Fr (fun a _ => a = 70 + i) M (wr_I M (70 + i) c (lig F W c)) := (Fr.refl _ M).wI _ _ _ rfl
    have hF' : HFE (wr_I M (70 + i) c (lig F W c)) F := by
      obtain ⟨g1, g2, g3, g4, g5, g6, g7, g8, g9, g10⟩ := hF
      refine ⟨hf.hr g1, (hf.I _ _ (by omega)).trans g2, (hf.I _ _ (by omega)).trans g3, (hf.I _ _ (by omega)).trans g4, NT_fr hf (fun a k c d => by unfold Cnt at c; omega) g5, g6, fun p hp => ?_, fun t ht => ?_, g9, g10⟩
      · obtain ⟨a1, a2, a3⟩ := g7 p hp
        exact ⟨(hf.R _ _).trans a1, hf.oq a2, HO_fr hf (fun a k c d => by unfold Ao hob at c; omega) a3⟩
      · rw [hf.I 41 t (by omega)]
        exact g8 t ht
    obtain ⟨Z, z1, z2, z3⟩ := Models_tell_2 N hN F W i hi d (c + 1) j _ (by omega) (by omega) hF' ⟨HWt_fr hf (fun a k c d => by unfold Awh at c; omega) hW.1, hW.2⟩ (fun t h => by
      simp only [m_II, m_LL, m_RR, m_IL, m_IR, m_LI, m_LR, m_RI, m_RL, m_NI, m_NL, m_NR, m_okI, m_okL, m_okR, m_okaI, m_okaL, m_okaR, m_arI, m_arL, m_arR, gd_T, bn_S, Nat.reduceEqDiff, Nat.left_eq_add, Nat.add_eq_left, Nat.one_ne_zero, and_false, and_true, false_and, true_and, if_false, if_true]
      by_cases e : t = c
      · simp [e]
      · simp only [e, if_false]
        exact ht t (by omega))
    exact ⟨Z, z1, hf.trans z2, z3⟩
noncomputable def HTe (M : sw_M) (Q : QT) (k : Nat) : Prop := ∀ i, i < k → kp Q i = true → ∀ c, c < 64 → rd_I M (70 + i) c = tel Q i c
def Ami (a k : Nat) : Prop := Arf a k ∨ Awh a k ∨ (a = 3 ∧ k = 5) ∨ (a = 68 ∧ k = 7) ∨ (70 ≤ a ∧ a ≤ 77)
theorem ChqAmi : ∀ a k, Chq a k → ¬ Ami a k := by intro a k h; unfold Chq Cf Cx Che Cnt at h; unfold Ami Arf Arh Awh; omega
theorem CH_of {M : sw_M} {E : EN} {mass : Int32} (hm : mok mass) (h7 : rd_I M 33 7 = 1) (h8 : rd_I M 33 8 = mass) (ho : ∀ p, p < E.no → HO M E mass p) : CH M E := Or.inr ⟨h7, by rw [h8]; exact hm, by rw [h8]; exact ho⟩
theorem CH_fr {A : Nat → Nat → Prop} {M W : sw_M} (h : Fr A M W) (hA : ∀ a k, ((125 ≤ a) ∨ (a = 33 ∧ (k = 7 ∨ k = 8))) → ¬ A a k) {E : EN} (g : CH M E) : CH W E := by
  unfold CH
  rw [h.I 33 7 (hA _ _ (by omega)), h.I 33 8 (hA _ _ (by omega))]
  rcases g with g | ⟨g1, g2, g3⟩
  · exact Or.inl g
  · exact Or.inr ⟨g1, g2, fun p hp => HO_fr h (fun a k c => hA a k (by unfold Ao hob at c; omega)) (g3 p hp)⟩
theorem Models_make_56 (N : Nat) (hN : 200000 ≤ N) (Q : QT) (bef : Int32) : ∀ (d k j : Nat) (M : sw_M), k + d = nm Q → d < j → HQ M Q → CH M Q.E → kno M Q.B → rd_I M 68 5 = Q.pa → rd_I M 68 6 = nI (nm Q) → rd_I M 68 7 = nI (bN (kp Q) k) → HTe M Q k →
    ∃ Z, f_Models_make_56 N j 68 bef (nI k) M = f_Models_make_122 N 68 bef Z ∧ Fr Ami M Z ∧ CH Z Q.E ∧ rd_I Z 68 7 = nI (KP Q) ∧ HTe Z Q (nm Q)
  | 0, k, j, M, hd, hj, hQ, hc, hk, h5, h6, h7, ht => by
    obtain ⟨j, rfl⟩ : ∃ k, j = k + 1 := ⟨j - 1, by omega⟩
    obtain rfl : k = nm Q := by omega
    have hb := nm_b hQ.2.2.2.2.2.2.2.2
    refine ⟨M, ?_, Fr.refl _ _, hc, h7, ht⟩
    rw [f_Models_make_56, ok_68 hQ.1.1, gd_T, h6, if_pos (nI_le (Nat.le_refl _) (by omega))]
  | d + 1, k, j, M, hd, hj, hQ, hc, hk, h5, h6, h7, ht => by
    obtain ⟨j, rfl⟩ : ∃ k, j = k + 1 := ⟨j - 1, by omega⟩
    obtain ⟨hH, hF, hE, hh, hB, hpo, hlo, hhi, hQB⟩ := id hQ
    have hb := nm_b hQB
    have hkn : k < nm Q := by omega
    obtain ⟨m1, m2⟩ := mk_i hQB hkn
    have f0 : Fr Ami M (wr_I M 3 5 (mk Q k)) := (Fr.refl _ M).wI _ _ _ (by unfold Ami; omega)
    have f0' : Fr (fun a k => a = 3 ∧ k = 5) M (wr_I M 3 5 (mk Q k)) := (Fr.refl _ M).wI _ _ _ ⟨rfl, rfl⟩
    have hQ0 := HQ_fr f0 ChqAmi hQ
    obtain ⟨W, w1, w2, w3, w4, w5⟩ := Swarm_refresh N (by omega) Q.E (mk Q k) m2 (wr_I M 3 5 (mk Q k)) hQ0.1 hQ0.2.1 hQ0.2.2.1 hQ0.2.2.2.1 (by simp only [m_II, m_LL, m_RR, m_IL, m_IR, m_LI, m_LR, m_RI, m_RL, m_NI, m_NL, m_NR, m_okI, m_okL, m_okR, m_okaI, m_okaL, m_okaR, m_arI, m_arL, m_arR, gd_T, bn_S, Nat.reduceEqDiff, Nat.left_eq_add, Nat.add_eq_left, Nat.one_ne_zero, and_false, and_true, false_and, true_and, if_false, if_true]) (CH_fr f0' (fun a k c d => by omega) hc)
    have fW : Fr Ami M W := f0.trans (w2.mono (fun _ _ h => Or.inl h))
    have hQW := HQ_fr fW ChqAmi hQ
    have hHW := hQW.1
    have g2 : ∀ a k, ¬ (Arf a k ∨ (a = 3 ∧ k = 5)) → rd_I W a k = rd_I M a k := fun a k c => by
      rw [w2.I a k (fun q => c (Or.inl q)), m_II, if_neg (fun q => c (Or.inr q))]
    have hkW : kno W Q.B := fun t h => by rw [g2 41 t (by unfold Arf Arh; omega)]; exact hk t h
    have hFE : HFE W (Fk Q k) := ⟨hHW, hQW.2.2.2.1.2.2.2.1, hQW.2.2.2.1.1, hQW.2.2.2.2.2.1, hQW.2.2.2.2.1, Nat.le_refl _, fun p hp => ⟨(hQW.2.2.2.1.2.2.2.2.2 p hp).1, (hQW.2.2.2.1.2.2.2.2.2 p hp).2.1, w5 p hp⟩, hkW, hE.1, m2⟩
    have hpo2 : 0 ≤ (Fk Q k).por.toInt ∧ (Fk Q k).por.toInt ≤ 10 := ⟨by have := hQB.2.2.2.1.1; show 0 ≤ Q.por.toInt; omega, hQB.2.2.2.1.2⟩
    have bk : bN (kp Q) (k + 1) = if kp Q k = true then bN (kp Q) k ||| 2 ^ k else bN (kp Q) k := rfl
    have hmass : f_Models_massOf N 68 (nI k) M = some (mk Q k, M) := by
      unfold f_Models_massOf
      rw [ok_68 hH.1, gd_T, hr_f hH 68 0 3 rfl (by decide), ok_3 hH.1, gd_T, hlo, h5]
      rfl
    have ef : f_Models_make_56 N (j + 1) 68 bef (nI k) M = (f_Fits_first N 42 W).bind (fun u9 => if u9.1 = 0 then f_Models_make_116 N (f_Models_make_56 N j) 68 bef (nI k) u9.2 else sw_gd [sw_ok u9.2 68 2] ((f_Models_tell N 68 (nI k) (wr_I u9.2 68 7 ((rd_I u9.2 68 7) ||| ((1 : Int32) <<< (nI k &&& 31))))).bind (fun u11 => f_Models_make_116 N (f_Models_make_56 N j) 68 bef (nI k) u11))) := by
      rw [f_Models_make_56, ok_68 hH.1, gd_T, h6, if_neg (nI_ge (by omega) (by omega)), if_neg (show ¬ (8 : Int32) ≤ nI k from (nI_ge (by omega) (by omega) : ¬ nI 8 ≤ nI k)), hmass, bn_S]
      simp only [m_II, m_LL, m_RR, m_IL, m_IR, m_LI, m_LR, m_RI, m_RL, m_NI, m_NL, m_NR, m_okI, m_okL, m_okR, m_okaI, m_okaL, m_okaR, m_arI, m_arL, m_arR, gd_T, bn_S, Nat.reduceEqDiff, Nat.left_eq_add, Nat.add_eq_left, Nat.one_ne_zero, and_false, and_true, false_and, true_and, if_false, if_true, ok_3 hH.1, ok_68 hH.1, ok_33 hH.1, hr_f hH 68 0 3 rfl (by decide), hr_f hH 68 1 33 rfl (by decide), w1, ok_68 hHW.1, ok_42 hHW.1, hr_f hHW 68 3 42 rfl (by decide)]
    rw [ef]
    have base : ∀ Z, Fr Awh W Z → CH Z Q.E := fun Z h => CH_of m2 ((h.I 33 7 (by unfold Awh; omega)).trans w3) ((h.I 33 8 (by unfold Awh; omega)).trans w4) (fun p hp => HO_fr h (fun a k c d => by unfold Ao hob at c; unfold Awh at d; omega) (w5 p hp))
    rcases House_ff N hN (Fk Q k) hpo2 W hFE with ⟨a1, Z, a2, a3⟩ | ⟨V, Z, a0, a1, a2, a3, a4⟩
    · have hk0 : kp Q k = false := by unfold kp; rw [a1]; simp
      rw [a2, bn_S]
      show ∃ Z', (if (0 : Int32) = 0 then f_Models_make_116 N (f_Models_make_56 N j) 68 bef (nI k) Z else _) = _ ∧ _
      rw [if_pos rfl, f_Models_make_116, nI_1]
      have fZ : Fr Ami M Z := fW.trans (a3.mono (fun _ _ h => Or.inr (Or.inl h)))
      have gZ : ∀ a k, ¬ (Arf a k ∨ (a = 3 ∧ k = 5) ∨ Awh a k) → rd_I Z a k = rd_I M a k := fun a k c => by
        rw [a3.I a k (fun q => c (Or.inr (Or.inr q))), g2 a k (fun q => c (by rcases q with q | q; exact Or.inl q; exact Or.inr (Or.inl q)))]
      obtain ⟨Y, y1, y2, y3, y4, y5⟩ := Models_make_56 N hN Q bef d (k + 1) j Z (by omega) (by omega) (HQ_fr fZ ChqAmi hQ) (base Z a3) (fun t h => by rw [gZ 41 t (by unfold Arf Arh Awh; omega)]; exact hk t h) ((gZ 68 5 (by unfold Arf Arh Awh; omega)).trans h5) ((gZ 68 6 (by unfold Arf Arh Awh; omega)).trans h6) (by rw [bk, hk0, if_neg (by decide)]; exact (gZ 68 7 (by unfold Arf Arh Awh; omega)).trans h7) (fun i hi hki c hc => by
        by_cases e : i = k
        · rw [e, hk0] at hki; cases hki
        · rw [gZ _ _ (by unfold Arf Arh Awh; omega)]
          exact ht i (by omega) hki c hc)
      exact ⟨Y, y1, fZ.trans y2, y3, y4, y5⟩
    · have hk1 : kp Q k = true := by unfold kp; rw [a1, decide_eq_true hkn]; rfl
      have ht1 : ∀ c, tel Q k c = lig (Fk Q k) V c := fun c => by unfold tel; rw [a1]
      have hFZ := HFE_fr a3 hFE
      have z7 : rd_I Z 68 7 = nI (bN (kp Q) k) := by rw [a3.I 68 7 (by unfold Awh; omega), g2 68 7 (by unfold Arf Arh; omega)]; exact h7
      rw [a2, bn_S]
      show ∃ Z', (if (1 : Int32) = 0 then _ else sw_gd [sw_ok Z 68 2] ((f_Models_tell N 68 (nI k) (wr_I Z 68 7 ((rd_I Z 68 7) ||| ((1 : Int32) <<< (nI k &&& 31))))).bind (fun u11 => f_Models_make_116 N (f_Models_make_56 N j) 68 bef (nI k) u11))) = _ ∧ _
      rw [if_neg (by decide), ok_68 hFZ.1.1, gd_T, z7, x_shl (show k < 31 by omega), x_or]
      have f7 : Fr (fun a k => a = 68 ∧ k = 7) Z (wr_I Z 68 7 (nI (bN (kp Q) k ||| 2 ^ k))) := (Fr.refl _ Z).wI _ _ _ ⟨rfl, rfl⟩
      have hF7 : HFE (wr_I Z 68 7 (nI (bN (kp Q) k ||| 2 ^ k))) (Fk Q k) := by
        obtain ⟨g1, g2, g3, g4, g5, g6, g7, g8, g9, g10⟩ := hFZ
        refine ⟨f7.hr g1, (f7.I _ _ (by omega)).trans g2, (f7.I _ _ (by omega)).trans g3, (f7.I _ _ (by omega)).trans g4, NT_fr f7 (fun a k c d => by unfold Cnt at c; omega) g5, g6, fun p hp => ?_, fun t ht => ?_, g9, g10⟩
        · obtain ⟨a1, a2, a3⟩ := g7 p hp
          exact ⟨(f7.R _ _).trans a1, f7.oq a2, HO_fr f7 (fun a k c d => by unfold Ao hob at c; omega) a3⟩
        · rw [f7.I 41 t (by omega)]
          exact g8 t ht
      obtain ⟨X, x1, x2, x3⟩ := Models_tell_2 N (by omega) (Fk Q k) V k (by omega) 64 0 N _ (by omega) (by omega) hF7 ⟨HWt_fr f7 (fun a k c d => by unfold Awh at c; omega) a4.1, a4.2⟩ (fun t h => absurd h (by omega))
      have x1' : f_Models_tell N 68 (nI k) (wr_I Z 68 7 (nI (bN (kp Q) k ||| 2 ^ k))) = some X := x1
      have fZX : Fr (fun a k => (a = 68 ∧ k = 7) ∨ (70 ≤ a ∧ a ≤ 77)) Z X := (f7.mono (fun _ _ h => Or.inl h)).trans (x2.mono (fun a k' h => by omega))
      have fX : Fr Ami M X := (fW.trans (a3.mono (fun _ _ h => Or.inr (Or.inl h)))).trans (fZX.mono (fun a k h => by unfold Ami; omega))
      have gZ : ∀ a k, ¬ (Arf a k ∨ (a = 3 ∧ k = 5) ∨ Awh a k) → rd_I Z a k = rd_I M a k := fun a k c => by
        rw [a3.I a k (fun q => c (Or.inr (Or.inr q))), g2 a k (fun q => c (by rcases q with q | q; exact Or.inl q; exact Or.inr (Or.inl q)))]
      rw [x1', bn_S, f_Models_make_116, nI_1]
      obtain ⟨Y, y1, y2, y3, y4, y5⟩ := Models_make_56 N hN Q bef d (k + 1) j X (by omega) (by omega) (HQ_fr fX ChqAmi hQ) (CH_fr fZX (fun a k c d => by omega) (base Z a3)) (fun t h => by rw [fZX.I 41 t (by omega), gZ 41 t (by unfold Arf Arh Awh; omega)]; exact hk t h) ((fZX.I 68 5 (by omega)).trans ((gZ 68 5 (by unfold Arf Arh Awh; omega)).trans h5)) ((fZX.I 68 6 (by omega)).trans ((gZ 68 6 (by unfold Arf Arh Awh; omega)).trans h6)) (by rw [bk, hk1, if_pos rfl, x2.I 68 7 (by omega)]; simp only [m_II, m_LL, m_RR, m_IL, m_IR, m_LI, m_LR, m_RI, m_RL, m_NI, m_NL, m_NR, m_okI, m_okL, m_okR, m_okaI, m_okaL, m_okaR, m_arI, m_arL, m_arR, gd_T, bn_S, Nat.reduceEqDiff, Nat.left_eq_add, Nat.add_eq_left, Nat.one_ne_zero, and_false, and_true, false_and, true_and, if_false, if_true]) (fun i hi hki c hc => by
        by_cases e : i = k
        · rw [e, ht1, x3 c hc]
        · rw [x2.I _ _ (by omega), f7.I _ _ (by omega), gZ _ _ (by unfold Arf Arh Awh; omega)]
          exact ht i (by omega) hki c hc)
      exact ⟨Y, y1, fX.trans y2, y3, y4, y5⟩
