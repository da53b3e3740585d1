/-! 91: QUARREL on the reference's side -/
def Aqr (a k : Nat) : Prop := Awt a k ∨ a = 122
theorem MFE_fr2 {M W : sw_M} {F : FE} (h : Fr Aqr M W) (g : MFE M F) : MFE W F := by
  obtain ⟨g1, g2, g3, g4, g5, g6, g7, g8, g9, g10⟩ := g
  exact ⟨h.mr g1, (h.I _ _ (by unfold Aqr Awt; omega)).trans g2, g3, (h.I _ _ (by unfold Aqr Awt; omega)).trans g4, (h.I _ _ (by unfold Aqr Awt; omega)).trans g5, NT_fr h (fun a k c d => by unfold Cnt at c; unfold Aqr Awt at d; omega) g6, g7, MG_fr h g10 (fun a k c d => by unfold Aqr Awt at d; omega) g8, (h.I _ _ (by unfold Aqr Awt; omega)).trans g9, g10⟩
theorem MWt_fr {A : Nat → Nat → Prop} {M Z : sw_M} {F : FE} {W : Nat → Int32} (h : Fr A M Z) (hA : ∀ a k, Awt a k → ¬ A a k) (g : MWt M F W) : MWt Z F W := by
  obtain ⟨g1, g2, g3⟩ := g
  refine ⟨(h.I _ _ (hA _ _ (by unfold Awt; omega))).trans g1, fun i hi => (h.I _ _ (hA _ _ (by unfold Awt; omega))).trans (g2 i hi), fun o ho => (h.I _ _ (hA _ _ (by unfold Awt; omega))).trans (g3 o ho)⟩
/-- sets in the reference's memory -/
def MT (M : sw_M) (T : Nat → Bool) : Prop := ∀ s, s < 1024 → rd_I M 122 s = bz (T s)
theorem ho_lt (F : FE) (W : Nat → Int32) (hm : F.B.m ≤ 10) : bN (hoB F W) F.B.m < 1024 := by
  have h1 := bN_lt (hoB F W) F.B.m
  have h2 : (2 : Nat) ^ F.B.m ≤ 2 ^ 10 := Nat.pow_le_pow_right (by decide) hm
  omega
theorem MT_w {M : sw_M} {T : Nat → Bool} (h : MT M T) (k : Nat) : MT (wr_I M 122 k 1) (fun s => if s = k then true else T s) := fun s hs => by
  simp only [m_II, m_LL, m_RR, m_IL, m_IR, m_LI, m_LR, m_RI, m_RL, m_NI, m_NL, m_NR, m_okI, m_okL, m_okR, m_okaI, m_okaL, m_okaR, m_arI, m_arL, m_arR, gd_T, bn_S, Nat.reduceEqDiff, Nat.left_eq_add, Nat.add_eq_left, Nat.one_ne_zero, and_false, and_true, false_and, true_and, if_false, if_true]
  by_cases c : s = k
  · simp [c, bz]
  · simp only [c, if_false]
    exact h s hs
theorem Model_quarrel_61 (N : Nat) (hN : 300 ≤ N) (F : FE) (hp : F.por.toInt ≤ 10) (h0 : 0 < nu F) : ∀ (f j : Nat) (M : sw_M) (W : Nat → Int32) (T : Nat → Bool), MFE M F → MSs M F W → MT M T → muW F W + 1 < f → f + 1 < j → ∃ Z, f_Model_quarrel_61 N j 80 1 M = f_Model_quarrel_87 N N 80 1023 Z ∧ Fr Aqr M Z ∧ MFE Z F ∧ MT Z (sn F f (some W) T) := by
  intro f
  induction f with
  | zero => intro j M W T hF hW hT hf; omega
  | succ f ih =>
    intro j M W T hF hW hT hf hj
    obtain ⟨j, rfl⟩ : ∃ k, j = k + 1 := ⟨j - 1, by omega⟩
    have hM := hF.1
    have h6 := hF.2.2.1
    have hm := hF.2.2.2.2.2.1.1
    have hl := ho_lt F W hm
    have hb := mu_b hp h6 hW.2
    have fq : Fr (fun a _ => a = 122) M (wr_I M 122 (bN (hoB F W) F.B.m) 1) := (Fr.refl _ M).wI _ _ _ rfl
    have fq' : Fr Aqr M (wr_I M 122 (bN (hoB F W) F.B.m) 1) := fq.mono (fun _ _ h => Or.inr h)
    have hFq := MFE_fr2 fq' hF
    rw [f_Model_quarrel_61, if_neg (by decide), ok_80 hM.1, gd_T, Model_holding N hN F M hF W hW.1, bn_S]
    show ∃ Z, sw_gd [(sw_ar M (rd_R M 80 87) 14 (nI (bN (hoB F W) F.B.m)) && decide ((1 : Int32).toInt8.toInt32 = (1 : Int32))) || (sw_ar M (rd_R M 80 87) 15 (nI (bN (hoB F W) F.B.m)) && sw_bz (1 : Int32))] (sw_gd [sw_ok (wr_I M (rd_R M 80 87) (nI (bN (hoB F W) F.B.m)).toNatClampNeg (1 : Int32)) 80 12] ((f_Model_nextWeights N 80 (wr_I M (rd_R M 80 87) (nI (bN (hoB F W) F.B.m)).toNatClampNeg (1 : Int32))).bind (fun u5 => f_Model_quarrel_61 N j 80 u5.1 u5.2))) = _ ∧ _
    rw [mr_87 hM, an_122_14, Bool.false_and, Bool.false_or, ar_122 hM.1, ti_n hl (by decide), show sw_bz (1 : Int32) = true from by decide, Bool.true_and, gd_T, cl_n (by omega), m_okI, ok_80 hM.1, gd_T]
    rcases Model_nextWeights N hN F (wr_I M 122 (bN (hoB F W) F.B.m) 1) hFq W (MWt_fr fq (fun a k c d => by unfold Awt at c; omega) hW.1) h0 with ⟨e1, e2⟩ | ⟨V, Z, e1, e2, e3, e4⟩
    · rw [e2, bn_S, sn, e1]
      obtain ⟨j, rfl⟩ : ∃ k, j = k + 1 := ⟨j - 1, by omega⟩
      obtain ⟨f, rfl⟩ : ∃ k, f = k + 1 := ⟨f - 1, by omega⟩
      refine ⟨wr_I M 122 (bN (hoB F W) F.B.m) 1, ?_, fq', hFq, MT_w hT _⟩
      show f_Model_quarrel_61 N (j + 1) 80 0 _ = _
      rw [f_Model_quarrel_61, if_pos rfl]
    · obtain ⟨k1, k2⟩ := nW_s (uu_inj F) hp hW.2.1 e1
      have kz := nW_z F hW.2.2 e1
      have hg : WG F V := ⟨k1, kz⟩
      have hbV := mu_b hp h6 hg
      rw [e2, bn_S, sn, e1]
      obtain ⟨Y, y1, y2, y3, y4⟩ := ih j Z V _ (MFE_fr e3 hFq) ⟨e4, hg⟩ (fun s hs => by
        rw [e3.I 122 s (by unfold Awt; omega)]
        exact MT_w hT _ s hs) (by omega) (by omega)
      exact ⟨Y, y1, fq'.trans ((e3.mono (fun _ _ h => Or.inl h)).trans y2), y3, y4⟩
theorem Model_quarrel_94 (N : Nat) (k87 : Nat → Int32 → sw_M → Option (Int32 × sw_M)) (s : Nat) (h0 : 0 < s) (hs : s < 1024) : ∀ (d k j : Nat) (M : sw_M) (T : Nat → Bool), k + d = 10 → d < j → MR M → MT M (dnk s T k) → T s = true → ∃ Z, f_Model_quarrel_94 N k87 j 80 (nI s) (nI k) M = k87 80 (nI s - 1) Z ∧ Fr (fun a _ => a = 122) M Z ∧ MT Z (dnk s T 10)
  | 0, k, j, M, T, hd, hj, hM, hT, ht => by
    obtain ⟨j, rfl⟩ : ∃ k, j = k + 1 := ⟨j - 1, by omega⟩
    obtain rfl : k = 10 := by omega
    refine ⟨M, ?_, Fr.refl _ _, hT⟩
    rw [f_Model_quarrel_94, if_pos (show (10 : Int32) ≤ nI 10 from by decide), f_Model_quarrel_130, nI_dn]
  | d + 1, k, j, M, T, hd, hj, hM, hT, ht => by
    obtain ⟨j, rfl⟩ : ∃ k, j = k + 1 := ⟨j - 1, by omega⟩
    have hl := clr_lt s k
    have hts : dnk s T k s = true := (dnk_s s T k s).mpr (Or.inl ht)
    rw [f_Model_quarrel_94, if_neg (show ¬ (10 : Int32) ≤ nI k from (nI_ge (by omega) (by omega) : ¬ nI 10 ≤ nI k)), ok_80 hM.1, gd_T, mr_87 hM, an_122_14, Bool.false_or, ar_122 hM.1, ti_n hs (by decide), gd_T, cl_n (by omega), hT s hs, hts, if_neg (show ¬ bz true = 0 by decide), x_clr hs (by omega), an_122_14, Bool.false_and, Bool.false_or, ar_122 hM.1, ti_n hl (by decide), show sw_bz (1 : Int32) = true from by decide, Bool.true_and, gd_T, cl_n (by omega), nI_1]
    have hf : Fr (fun a _ => a = 122) M (wr_I M 122 (clr s k) 1) := (Fr.refl _ M).wI _ _ _ rfl
    obtain ⟨Z, z1, z2, z3⟩ := Model_quarrel_94 N k87 s h0 hs d (k + 1) j (wr_I M 122 (clr s k) 1) T (by omega) (by omega) hM (MT_w hT _) ht
    exact ⟨Z, z1, hf.trans z2, z3⟩
theorem Model_quarrel_87 (N : Nat) (hN : 300 ≤ N) : ∀ (e d j : Nat) (M : sw_M) (T : Nat → Bool), d + e = 1023 → e < j → MR M → MT M (dnA T d) → ∃ Z j', f_Model_quarrel_87 N j 80 (nI (1023 - d)) M = f_Model_quarrel_87 N (j' + 1) 80 0 Z ∧ Fr (fun a _ => a = 122) M Z ∧ MT Z (dnA T 1023)
  | 0, d, j, M, T, hd, hj, hM, hT => by
    obtain ⟨j, rfl⟩ : ∃ k, j = k + 1 := ⟨j - 1, by omega⟩
    obtain rfl : d = 1023 := by omega
    exact ⟨M, j, rfl, Fr.refl _ _, hT⟩
  | e + 1, d, j, M, T, hd, hj, hM, hT => by
    obtain ⟨j, rfl⟩ : ∃ k, j = k + 1 := ⟨j - 1, by omega⟩
    have e1 : nI (1023 - d) - 1 = nI (1023 - (d + 1)) := by
      obtain ⟨x, hx⟩ : ∃ x, 1023 - d = x + 1 := ⟨1023 - d - 1, by omega⟩
      rw [hx, nI_pred, show 1023 - (d + 1) = x by omega]
    rw [f_Model_quarrel_87, if_neg (nI_nle (by omega) (by omega))]
    by_cases c : dnA T d (1023 - d) = true
    · obtain ⟨Z, z1, z2, z3⟩ := Model_quarrel_94 N (f_Model_quarrel_87 N j) (1023 - d) (by omega) (by omega) 10 0 N M (dnA T d) (by omega) (by omega) hM hT c
      obtain ⟨Y, j', y1, y2, y3⟩ := Model_quarrel_87 N hN e (d + 1) j Z T (by omega) (by omega) (z2.mr hM) (by rw [dnA, if_pos c]; exact z3)
      refine ⟨Y, j', ?_, z2.trans y2, y3⟩
      rw [e1] at z1
      exact z1.trans y1
    · have c' : dnA T d (1023 - d) = false := by simpa using c
      obtain ⟨i, hi⟩ : ∃ i, N = i + 1 := ⟨N - 1, by omega⟩
      obtain ⟨Y, j', y1, y2, y3⟩ := Model_quarrel_87 N hN e (d + 1) j M T (by omega) (by omega) hM (by rw [dnA, if_neg c]; exact hT)
      refine ⟨Y, j', ?_, y2, y3⟩
      rw [show f_Model_quarrel_94 N (f_Model_quarrel_87 N j) N = f_Model_quarrel_94 N (f_Model_quarrel_87 N j) (i + 1) by rw [← hi], f_Model_quarrel_94, if_neg (by decide), ok_80 hM.1, gd_T, mr_87 hM, an_122_14, Bool.false_or, ar_122 hM.1, ti_n (show 1023 - d < 1024 by omega) (by decide), gd_T, cl_n (by omega), hT _ (by omega), c', if_pos (show bz false = 0 from rfl), f_Model_quarrel_130, nI_dn, e1]
      exact y1
/-- sets of known SIGHTS that no WEIGHTS make hold -/
def apt (T : Nat → Bool) (c s : Nat) : Bool := decide (nI s &&& (nI c ^^^ (-1)) = 0) && !(T s)
theorem Model_quarrel_158 (N : Nat) (hN : 300 ≤ N) (T : Nat → Bool) (c : Nat) (hc : c < 1024) (hca : apt T c c = true) : ∀ (e d j : Nat) (M : sw_M), d + e = 1024 → e < j → MR M → rd_I M 80 83 = nI c → MT M T → f_Model_quarrel_158 N j 80 (nI (mbF (apt T c) c d)) (nI d) M = some (nI (mbF (apt T c) c 1024), M)
  | 0, d, j, M, hd, hj, hM, h83, hT => by
    obtain ⟨j, rfl⟩ : ∃ k, j = k + 1 := ⟨j - 1, by omega⟩
    obtain rfl : d = 1024 := by omega
    rw [f_Model_quarrel_158, if_pos (show (1024 : Int32) ≤ nI 1024 from by decide)]
  | e + 1, d, j, M, hd, hj, hM, h83, hT => by
    obtain ⟨j, rfl⟩ : ∃ k, j = k + 1 := ⟨j - 1, by omega⟩
    have ih := Model_quarrel_158 N hN T c hc hca e (d + 1) j M (by omega) (by omega) hM h83 hT
    obtain ⟨⟨m1, m2⟩, _⟩ := mbF_s (apt T c) c hca hc d (by omega)
    have p1 := pc_le d
    have p2 := pc_le (mbF (apt T c) c d)
    rw [f_Model_quarrel_158, if_neg (show ¬ (1024 : Int32) ≤ nI d from (nI_ge (by omega) (by omega) : ¬ nI 1024 ≤ nI d)), ok_80 hM.1, gd_T, h83]
    rw [mbF] at ih
    have skip : ¬ (apt T c d = true ∧ (pc d < pc (mbF (apt T c) c d) ∨ (pc d = pc (mbF (apt T c) c d) ∧ d < mbF (apt T c) c d))) → f_Model_quarrel_221 N (f_Model_quarrel_158 N j) 80 (nI (mbF (apt T c) c d)) (nI d) M = some (nI (mbF (apt T c) c 1024), M) := fun q => by
      rw [if_neg q] at ih
      rw [f_Model_quarrel_221, nI_1]
      exact ih
    have take : (apt T c d = true ∧ (pc d < pc (mbF (apt T c) c d) ∨ (pc d = pc (mbF (apt T c) c d) ∧ d < mbF (apt T c) c d))) → f_Model_quarrel_218 N (f_Model_quarrel_158 N j) 80 (nI d) M = some (nI (mbF (apt T c) c 1024), M) := fun q => by
      rw [if_pos q] at ih
      rw [f_Model_quarrel_218, f_Model_quarrel_221, nI_1]
      exact ih
    by_cases c1 : nI d &&& (nI c ^^^ (-1)) = 0
    · rw [if_pos c1, mr_87 hM, an_122_14, Bool.false_or, ar_122 hM.1, ti_n (show d < 1024 by omega) (by decide), gd_T, cl_n (by omega), hT d (by omega)]
      cases hTd : T d
      · have ha : apt T c d = true := by unfold apt; rw [hTd, decide_eq_true c1]; rfl
        rw [if_pos (show bz false = 0 from rfl), Model_many N hN M d (by omega), bn_S]
        show (f_Model_many N (nI (mbF (apt T c) c d)) M).bind _ = _
        rw [Model_many N hN M _ m2, bn_S]
        show (if nI (pc d) < nI (pc (mbF (apt T c) c d)) then _ else (f_Model_many N (nI d) M).bind _) = _
        by_cases c2 : pc d < pc (mbF (apt T c) c d)
        · rw [if_pos (nI_lt c2 (by omega))]
          exact take ⟨ha, Or.inl c2⟩
        · rw [if_neg (nI_nlt (by omega) (by omega)), Model_many N hN M d (by omega), bn_S]
          show (f_Model_many N (nI (mbF (apt T c) c d)) M).bind _ = _
          rw [Model_many N hN M _ m2, bn_S]
          show (if nI (pc d) = nI (pc (mbF (apt T c) c d)) then (if nI (mbF (apt T c) c d) ≤ nI d then _ else _) else _) = _
          by_cases c3 : pc d = pc (mbF (apt T c) c d)
          · rw [if_pos (by rw [c3])]
            by_cases c4 : mbF (apt T c) c d ≤ d
            · rw [if_pos (nI_le c4 (by omega))]
              exact skip (fun q => by omega)
            · rw [if_neg (nI_ge (by omega) (by omega))]
              exact take ⟨ha, Or.inr ⟨c3, by omega⟩⟩
          · rw [if_neg (fun q => c3 ((nI_eq (by omega) (by omega)).mp q))]
            exact skip (fun q => by omega)
      · rw [if_neg (show ¬ bz true = 0 by decide)]
        exact skip (fun q => by
          have := q.1
          unfold apt at this
          rw [hTd] at this
          simp at this)
    · rw [if_neg c1]
      exact skip (fun q => by
        have := q.1
        unfold apt at this
        rw [Bool.and_eq_true, decide_eq_true_eq] at this
        exact c1 this.1)
theorem Model_quarrel_30 (N : Nat) : ∀ (e d j : Nat) (M : sw_M), d + e = 1024 → e < j → MR M → (∀ s, s < d → rd_I M 122 s = 0) → ∃ Z j', f_Model_quarrel_30 N j 80 (nI d) M = f_Model_quarrel_30 N (j' + 1) 80 1024 Z ∧ Fr (fun a _ => a = 122) M Z ∧ MT Z (fun _ => false)
  | 0, d, j, M, hd, hj, hM, hT => by
    obtain ⟨j, rfl⟩ : ∃ k, j = k + 1 := ⟨j - 1, by omega⟩
    obtain rfl : d = 1024 := by omega
    exact ⟨M, j, rfl, Fr.refl _ _, hT⟩
  | e + 1, d, j, M, hd, hj, hM, hT => by
    obtain ⟨j, rfl⟩ : ∃ k, j = k + 1 := ⟨j - 1, by omega⟩
    have hf : Fr (fun a _ => a = 122) M (wr_I M 122 d 0) := (Fr.refl _ M).wI _ _ _ rfl
    obtain ⟨Z, j', z1, z2, z3⟩ := Model_quarrel_30 N e (d + 1) j (wr_I M 122 d 0) (by omega) (by omega) hM (fun s hs => by
      simp only [m_II, m_LL, m_RR, m_IL, m_IR, m_LI, m_LR, m_RI, m_RL, m_NI, m_NL, m_NR, m_okI, m_okL, m_okR, m_okaI, m_okaL, m_okaR, m_arI, m_arL, m_arR, gd_T, bn_S, Nat.reduceEqDiff, Nat.left_eq_add, Nat.add_eq_left, Nat.one_ne_zero, and_false, and_true, false_and, true_and, if_false, if_true]
      by_cases c : s = d
      · simp [c]
      · simp only [c, if_false]
        exact hT s (by omega))
    refine ⟨Z, j', ?_, hf.trans z2, z3⟩
    rw [f_Model_quarrel_30, if_neg (show ¬ (1024 : Int32) ≤ nI d from (nI_ge (by omega) (by omega) : ¬ nI 1024 ≤ nI d)), ok_80 hM.1, gd_T, mr_87 hM, an_122_14, Bool.false_and, Bool.false_or, ar_122 hM.1, ti_n (show d < 1024 by omega) (by decide), show sw_bz (0 : Int32) = true from by decide, Bool.true_and, gd_T, cl_n (by omega), nI_1]
    exact z1
noncomputable def TG (F : FE) : Nat → Bool := sn F 161053 (some (W0 F)) (fun _ => false)
noncomputable def qN (F : FE) : Nat := bN (sgt F.B F.n) F.n
noncomputable def qaM (F : FE) : Int32 := if nu F = 0 then 0 else if dnA (TG F) 1023 (qN F) = true then 0 else nI (mbF (apt (dnA (TG F) 1023) (qN F)) (qN F) 1024)
theorem qN_lt (F : FE) (hm : F.B.m ≤ 10) (hn : F.n ≤ F.B.m) : qN F < 1024 := by
  have h1 := bN_lt (sgt F.B F.n) F.n
  have h2 : (2 : Nat) ^ F.n ≤ 2 ^ 10 := Nat.pow_le_pow_right (by decide) (by omega)
  unfold qN
  omega
theorem Model_quarrel_z (N : Nat) (hN : 200000 ≤ N) (F : FE) (hp : 0 ≤ F.por.toInt ∧ F.por.toInt ≤ 10) (M : sw_M) (hF : MFE M F) : ∃ Z, f_Model_quarrel_30 N N 80 0 M = some (qaM F, Z) ∧ Fr Aqr M Z := by
  have h6 := hF.2.2.1
  have hm := hF.2.2.2.2.2.1.1
  have hn := hF.2.2.2.2.2.2.1
  have hq := qN_lt F hm hn
  obtain ⟨Z, j', z1, z2, z3⟩ := Model_quarrel_30 N 1024 0 N M (by omega) (by omega) hF.1 (fun s hs => absurd hs (by omega))
  have z1' : f_Model_quarrel_30 N N 80 0 M = f_Model_quarrel_30 N (j' + 1) 80 1024 Z := z1
  have fZ : Fr Aqr M Z := z2.mono (fun _ _ h => Or.inr h)
  have hFZ := MFE_fr2 fZ hF
  rw [z1', f_Model_quarrel_30, if_pos (by decide), ok_80 hFZ.1.1, gd_T]
  obtain ⟨Y, f1, h⟩ := Model_firstWeights N (by omega) F Z hFZ
  unfold qaM
  rcases h with ⟨e0, e1⟩ | ⟨e0, e1, e2⟩
  · rw [e1, bn_S, if_pos e0]
    exact ⟨Y, rfl, fZ.trans (f1.mono (fun _ _ h => Or.inl h))⟩
  · have hg : WG F (W0 F) := ⟨W0_K F e0 hp.1, W0_z F e0⟩
    have hb := mu_b hp.2 h6 hg
    rw [e1, bn_S, if_neg (show ¬ nu F = 0 by omega)]
    show ∃ Z', (if (1 : Int32) = 0 then _ else f_Model_quarrel_61 N N 80 1 Y) = _ ∧ _
    rw [if_neg (by decide)]
    obtain ⟨X, x1, x2, x3, x4⟩ := Model_quarrel_61 N (by omega) F hp.2 e0 161053 N Y (W0 F) (fun _ => false) (MFE_fr f1 hFZ) ⟨e2, hg⟩ (fun s hs => by rw [f1.I 122 s (by unfold Awt; omega)]; exact z3 s hs) (by omega) (by omega)
    have fX : Fr Aqr M X := fZ.trans ((f1.mono (fun _ _ h => Or.inl h)).trans x2)
    obtain ⟨V, j2, v1, v2, v3⟩ := Model_quarrel_87 N (by omega) 1023 0 N X (TG F) (by omega) (by omega) x3.1 x4
    have hMV := v2.mr x3.1
    have v1' : f_Model_quarrel_87 N N 80 1023 X = f_Model_quarrel_87 N (j2 + 1) 80 0 V := v1
    have h83 : rd_I V 80 83 = nI (qN F) := (v2.I 80 83 (by omega)).trans x3.2.2.2.2.2.2.2.2.1
    refine ⟨V, ?_, fX.trans (v2.mono (fun _ _ h => Or.inr h))⟩
    rw [x1, v1', f_Model_quarrel_87, if_pos (by decide), ok_80 hMV.1, gd_T, mr_87 hMV, h83, an_122_14, Bool.false_or, ar_122 hMV.1, ti_n hq (by decide), gd_T, cl_n (by omega), v3 _ hq]
    cases hT : dnA (TG F) 1023 (qN F)
    · rw [if_pos (show bz false = 0 from rfl), if_neg (by decide)]
      exact Model_quarrel_158 N (by omega) (dnA (TG F) 1023) (qN F) hq (by unfold apt; rw [hT, decide_eq_true ((x_out (by omega)).mpr (fun _ _ h => h))]; rfl) 1024 0 N V (by omega) (by omega) hMV h83 v3
    · rw [if_neg (show ¬ bz true = 0 by decide), if_pos rfl]
