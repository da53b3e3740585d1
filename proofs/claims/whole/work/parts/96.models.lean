/-! 96: models on the reference's side -/
theorem s2_ex (p : Nat → Bool) : ∀ f b x, b ≤ x → x < b + f → p x = true → ∃ y, s2 p f b = some y
  | 0, b, x, h1, h2, _ => by omega
  | f + 1, b, x, h1, h2, h3 => by
    rw [s2]
    by_cases c : p b = true
    · rw [if_pos c]; exact ⟨b, rfl⟩
    · rw [if_neg c]
      by_cases e : b = x
      · rw [e] at c; exact absurd h3 c
      · exact s2_ex p f (b + 1) x (by omega) (by omega) h3
theorem Model_models_84 (N : Nat) (Q : QT) (hQ : QB Q) (what tw a6 : Int32) (M : sw_M) (hk : ¬ nI (KP Q) = 0) (x : Nat) : ∀ (d i j : Nat), i + d = nm Q → d < j → s2 (fun i => kp Q (nm Q - 1 - i)) d i = some x → f_Model_models_84 N j 80 Q.pa what (nI (KP Q)) tw a6 (nI (nm Q - 1 - i)) M = f_Model_models_105 N 80 Q.pa what (nI (KP Q)) tw a6 (nI (nm Q - 1 - x)) M
  | 0, i, j, hd, hj, h => by cases h
  | d + 1, i, j, hd, hj, h => by
    obtain ⟨j, rfl⟩ : ∃ k, j = k + 1 := ⟨j - 1, by omega⟩
    have hb := nm_b hQ
    rw [s2] at h
    rw [f_Model_models_84, if_neg hk]
    cases c : kp Q (nm Q - 1 - i)
    · rw [if_neg (by rw [c]; decide)] at h
      have hs := s2_s _ _ _ _ h
      rw [if_pos ((KP_bit0 hQ (by omega)).mpr c)]
      have e : nI (nm Q - 1 - i) + (-1) = nI (nm Q - 1 - (i + 1)) := by
        rw [show nm Q - 1 - i = (nm Q - 1 - (i + 1)) + 1 by omega, nI_m1]
      rw [e]
      exact Model_models_84 N Q hQ what tw a6 M hk x d (i + 1) j (by omega) (by omega) h
    · rw [if_pos c] at h
      cases h
      rw [if_neg (fun q => by rw [(KP_bit0 hQ (by omega)).mp q] at c; cases c)]
theorem Model_models_63 (N : Nat) (Q : QT) (hQ : QB Q) (what tw a7 : Int32) (M : sw_M) (hk : ¬ nI (KP Q) = 0) (x : Nat) : ∀ (d i j : Nat), i + d = nm Q → d < j → s2 (kp Q) d i = some x → f_Model_models_63 N j 80 Q.pa what (nI (KP Q)) tw (nI i) a7 M = f_Model_models_84 N N 80 Q.pa what (nI (KP Q)) tw (nI x) a7 M
  | 0, i, j, hd, hj, h => by cases h
  | d + 1, i, j, hd, hj, h => by
    obtain ⟨j, rfl⟩ : ∃ k, j = k + 1 := ⟨j - 1, by omega⟩
    have hb := nm_b hQ
    rw [s2] at h
    rw [f_Model_models_63, if_neg hk]
    cases c : kp Q i
    · rw [if_neg (by rw [c]; decide)] at h
      rw [if_pos ((KP_bit0 hQ (by omega)).mpr c), nI_1]
      exact Model_models_63 N Q hQ what tw a7 M hk x d (i + 1) j (by omega) (by omega) h
    · rw [if_pos c] at h
      cases h
      rw [if_neg (fun q => by rw [(KP_bit0 hQ (by omega)).mp q] at c; cases c)]
def Amd (a k : Nat) : Prop := Akx a k ∨ (a = 80 ∧ k = 0)
theorem CmqAmd : ∀ a k, Cmq a k → ¬ Amd a k := by intro a k h; unfold Cmq Cf Cx Cnt at h; unfold Amd Akx Akn Akt Asp Aga Aw Awk Awt; omega
theorem what7 {w : Int32} (h1 : ¬ w < 0) (h2 : w ≤ 7) : w = 0 ∨ w = 1 ∨ w = 2 ∨ w = 3 ∨ w = 4 ∨ w = 5 ∨ w = 6 ∨ w = 7 := by
  obtain ⟨j, hj, rfl⟩ := nI_of2 (M := (7 : Int32)) (n := 7) (by decide) h1 h2
  have : j = 0 ∨ j = 1 ∨ j = 2 ∨ j = 3 ∨ j = 4 ∨ j = 5 ∨ j = 6 ∨ j = 7 := by omega
  rcases this with e | e | e | e | e | e | e | e <;> subst e <;> decide
theorem Model_models_105 (N : Nat) (hN : 300 ≤ N) (Q : QT) (M : sw_M) (h : MTl M Q) (what : Int32) (hw : what = 1 ∨ what = 2 ∨ what = 3 ∨ what = 4 ∨ what = 5 ∨ what = 6 ∨ what = 7) (a6 a7 : Int32) (h6 : ¬ nI (KP Q) = 0 → ∃ x, s2 (kp Q) (nm Q) 0 = some x ∧ a6 = nI x) (h7 : ¬ nI (KP Q) = 0 → ∃ x, s2 (fun i => kp Q (nm Q - 1 - i)) (nm Q) 0 = some x ∧ a7 = nI (nm Q - 1 - x)) :
    f_Model_models_105 N 80 Q.pa what (nI (KP Q)) (twI Q) a6 a7 M = some (mAns Q what, M) := by
  have hM := h.1.1
  have hQB := h.1.2.2.2.2.2.2.2
  have hs := h.1.2.2.2.2.2.2.1
  have hn : nI (KP Q) = 0 → s2 (kp Q) (nm Q) 0 = none ∧ s2 (fun i => kp Q (nm Q - 1 - i)) (nm Q) 0 = none := fun e => by
    have := (KP_0 hQB).mp e
    exact ⟨s2_no _ _ _ (fun x _ _ => this x), s2_no _ _ _ (fun x _ _ => this _)⟩
  unfold f_Model_models_105 f_Model_models_224 mAns
  rw [Model_lookOf N hN Q M h, Model_spanLow N M hM hs]
  simp only [ok_80 hM.1, gd_T, bn_S]
  rcases hw with e | e | e | e | e | e | e <;> subst e <;> simp (decide := true) only [if_true, if_false]
  · by_cases c : nI (KP Q) = 0
    · rw [if_pos c, (hn c).1]
    · obtain ⟨x, x1, x2⟩ := h6 c
      rw [if_neg c, x1, x2]
      rfl
  · by_cases c : nI (KP Q) = 0
    · rw [if_pos c, (hn c).2]
    · obtain ⟨x, x1, x2⟩ := h7 c
      rw [if_neg c, x1, x2]
      rfl
  · unfold twI
    cases ht : tws Q with
    | none => rfl
    | some r =>
      obtain ⟨b1, b2, b3, b4⟩ := tws_b hQB ht
      obtain ⟨d1, d2, d3⟩ := tw_div r.1 b1 r.2 b2
      show (if nI (8 * r.1 + r.2) = -1 then _ else _) = _
      rw [if_neg d3, d1]
  · unfold twI
    cases ht : tws Q with
    | none => rfl
    | some r =>
      obtain ⟨b1, b2, b3, b4⟩ := tws_b hQB ht
      obtain ⟨d1, d2, d3⟩ := tw_div r.1 b1 r.2 b2
      show (if nI (8 * r.1 + r.2) = -1 then _ else _) = _
      rw [if_neg d3, d2]
  · unfold twI
    cases ht : tws Q with
    | none => rfl
    | some r =>
      obtain ⟨b1, b2, b3, b4⟩ := tws_b hQB ht
      obtain ⟨d1, d2, d3⟩ := tw_div r.1 b1 r.2 b2
      obtain ⟨g1, g2, g3⟩ := gg_b hQB
      have hp := Model_parting_2 N Q M h r.1 r.2 b3 b4 (gg Q) 0 N (by omega) (by omega)
      have hp' : f_Model_parting N 80 (nI r.1) (nI r.2) M = _ := hp
      show (if nI (8 * r.1 + r.2) = -1 then _ else _) = _
      rw [if_neg d3, d2, d1, hp', bn_S]
      rfl
theorem Model_models (N : Nat) (hN : 200000 ≤ N) (Q : QT) (M : sw_M) (hQ : MQq M Q) (what : Int32) (hw0 : ¬ what < 0) (hw7 : what ≤ 7) : ∃ Z, f_Model_models N 80 Q.pa what M = some (mAns Q what, Z) ∧ Fr Amd M Z := by
  have hQB := hQ.2.2.2.2.2.2.2
  have hpa := hQB.2.2.1
  have hb := nm_b hQB
  have f0 : Fr Amd M (wr_I M 80 0 0) := (Fr.refl _ M).wI _ _ _ (Or.inr ⟨rfl, rfl⟩)
  have hQ0 := MQq_fr f0 CmqAmd hQ
  unfold f_Model_models
  rw [ok_80 hQ.1.1, gd_T, if_neg (i32_nlt (by rw [show (1 : Int32).toInt = 1 from by decide]; omega)), if_neg (i32_nlt (by rw [show (99999 : Int32).toInt = 99999 from by decide]; omega)), if_neg hw0, if_pos hw7, Model_modelMany N (by omega) Q hQB _ hQ0.1 hQ0.2.2.2.2.2.2.1, bn_S]
  by_cases c0 : what = 0
  · rw [if_pos c0]
    refine ⟨_, ?_, f0⟩
    unfold mAns
    rw [if_pos c0]
  · rw [if_neg c0]
    show ∃ Z, sw_gd [sw_ok (wr_I M 80 0 0) 80 12] ((f_Model_keptOf N 80 Q.pa (wr_I M 80 0 0)).bind _) = _ ∧ _
    obtain ⟨Z, z1, z2, z3, z4⟩ := Model_keptOf N hN Q (wr_I M 80 0 0) hQ0
    have fZ : Fr Amd M Z := f0.trans (z2.mono (fun _ _ h => Or.inl h))
    have hQZ := MQq_fr fZ CmqAmd hQ
    have hT : MTl Z Q := ⟨hQZ, z3, z4⟩
    rw [ok_80 hQ0.1.1, gd_T, z1, bn_S]
    show ∃ Z', sw_gd [sw_ok Z 80 12] ((f_Model_twinsOf N 80 (nI (KP Q)) Z).bind _) = _ ∧ _
    rw [ok_80 hQZ.1.1, gd_T, Model_twinsOf N (by omega) Q Z hT, bn_S]
    show ∃ Z', f_Model_models_63 N N 80 Q.pa what (nI (KP Q)) (twI Q) 0 (nI (nm Q) - 1) Z = _ ∧ _
    have hw : what = 1 ∨ what = 2 ∨ what = 3 ∨ what = 4 ∨ what = 5 ∨ what = 6 ∨ what = 7 := (what7 hw0 hw7).resolve_left c0
    have e1 : nI (nm Q) - 1 = nI (nm Q - 1 - 0) := by
      obtain ⟨k, hk⟩ : ∃ k, nm Q = k + 1 := ⟨nm Q - 1, by omega⟩
      rw [hk]
      exact nI_pred k
    refine ⟨Z, ?_, fZ⟩
    obtain ⟨j, hj⟩ : ∃ k, N = k + 1 := ⟨N - 1, by omega⟩
    by_cases c : nI (KP Q) = 0
    · rw [show f_Model_models_63 N N = f_Model_models_63 N (j + 1) by rw [← hj], f_Model_models_63, if_pos c, show f_Model_models_84 N N = f_Model_models_84 N (j + 1) by rw [← hj], f_Model_models_84, if_pos c]
      exact Model_models_105 N (by omega) Q Z hT what hw _ _ (fun q => absurd c q) (fun q => absurd c q)
    · have hx : ∃ k, kp Q k = true := by
        apply Classical.byContradiction
        intro hn
        exact c ((KP_0 hQB).mpr (fun k => by
          cases hk : kp Q k
          · rfl
          · exact absurd ⟨k, hk⟩ hn))
      obtain ⟨k, hk⟩ := hx
      have hkn : k < nm Q := by
        unfold kp at hk
        simp at hk
        exact hk.1
      obtain ⟨x, hx⟩ := s2_ex (kp Q) (nm Q) 0 k (by omega) (by omega) hk
      obtain ⟨y, hy⟩ := s2_ex (fun i => kp Q (nm Q - 1 - i)) (nm Q) 0 (nm Q - 1 - k) (by omega) (by omega) (by
        show kp Q (nm Q - 1 - (nm Q - 1 - k)) = true
        rw [show nm Q - 1 - (nm Q - 1 - k) = k by omega]
        exact hk)
      have h63 := Model_models_63 N Q hQB what (twI Q) (nI (nm Q) - 1) Z c x (nm Q) 0 N (by omega) (by omega) hx
      have h63' : f_Model_models_63 N N 80 Q.pa what (nI (KP Q)) (twI Q) 0 (nI (nm Q) - 1) Z = _ := h63
      rw [h63', e1, Model_models_84 N Q hQB what (twI Q) (nI x) Z c y (nm Q) 0 N (by omega) (by omega) hy]
      exact Model_models_105 N (by omega) Q Z hT what hw _ _ (fun _ => ⟨x, hx, rfl⟩) (fun _ => ⟨y, hy, rfl⟩)
