/-! 97zzd: what is read becomes THE FIELD -/
def tkU (M : sw_M) : sw_M := wr_R (wr_R (wr_I (wr_I (wr_I (wr_I (wr_R (wr_R M 3 0 (rd_R M 18 0)) 3 1 (rd_R M 18 1)) 3 2 (rd_I M 18 2)) 3 3 (rd_I M 18 3)) 3 4 (rd_I M 18 4)) 3 5 (rd_I M 18 5)) 18 0 (rd_R M 3 0)) 18 1 (rd_R M 3 1)
theorem tk_e (N : Nat) {M : sw_M} (h : 124 ≤ rd_N M) : f_Field_take N 3 18 M = some (tkU M) := by
  unfold f_Field_take tkU
  rw [ok_3 h, gd_T, ok_18 h, gd_T]
  simp only [m_II, m_LL, m_RR, m_IL, m_IR, m_LI, m_LR, m_RI, m_RL, m_NI, m_NL, m_NR, m_okI, m_okL, m_okR, m_okaI, m_okaL, m_okaR, m_arI, m_arL, m_arR, gd_T, bn_S, Nat.reduceEqDiff, Nat.left_eq_add, Nat.add_eq_left, Nat.one_ne_zero, and_false, and_true, false_and, true_and, if_false, if_true]
theorem tk_I (M : sw_M) (a k : Nat) (h : ¬ (a = 3 ∧ 2 ≤ k ∧ k ≤ 5)) : rd_I (tkU M) a k = rd_I M a k := by
  unfold tkU
  rw [m_IR, m_IR, w_o (by omega), w_o (by omega), w_o (by omega), w_o (by omega), m_IR, m_IR]
theorem tk_3 (M : sw_M) (k : Nat) (h1 : 2 ≤ k) (h2 : k ≤ 5) : rd_I (tkU M) 3 k = rd_I M 18 k := by
  unfold tkU
  rcases (by omega : k = 2 ∨ k = 3 ∨ k = 4 ∨ k = 5) with rfl | rfl | rfl | rfl
  · rw [m_IR, m_IR, w_o (by omega), w_o (by omega), w_o (by omega), w_s]
  · rw [m_IR, m_IR, w_o (by omega), w_o (by omega), w_s]
  · rw [m_IR, m_IR, w_o (by omega), w_s]
  · rw [m_IR, m_IR, w_s]
theorem tk_R (M : sw_M) (a k : Nat) (h : ¬ ((a = 3 ∨ a = 18) ∧ (k = 0 ∨ k = 1))) : rd_R (tkU M) a k = rd_R M a k := by
  unfold tkU
  rw [m_RR, if_neg (by omega), m_RR, if_neg (by omega), m_RI, m_RI, m_RI, m_RI, m_RR, if_neg (by omega), m_RR, if_neg (by omega)]
theorem tk_r (M : sw_M) : rd_R (tkU M) 3 0 = rd_R M 18 0 ∧ rd_R (tkU M) 3 1 = rd_R M 18 1 ∧ rd_R (tkU M) 18 0 = rd_R M 3 0 ∧ rd_R (tkU M) 18 1 = rd_R M 3 1 := by
  unfold tkU
  refine ⟨?_, ?_, ?_, ?_⟩
  · rw [m_RR, if_neg (by omega), m_RR, if_neg (by omega), m_RI, m_RI, m_RI, m_RI, m_RR, if_neg (by omega), m_RR, if_pos (by omega)]
  · rw [m_RR, if_neg (by omega), m_RR, if_neg (by omega), m_RI, m_RI, m_RI, m_RI, m_RR, if_pos (by omega)]
  · rw [m_RR, if_neg (by omega), m_RR, if_pos (by omega)]
  · rw [m_RR, if_pos (by omega)]
theorem tk_H {M : sw_M} (h : HR M) : HR (tkU M) := by
  obtain ⟨h1, h2, h3⟩ := h
  obtain ⟨r1, r2, r3, r4⟩ := tk_r M
  refine ⟨h1, ?_, fun a k c => ?_⟩
  · rw [r1, r2, r3, r4]
    rcases h2 with ⟨a, b, c, d⟩ | ⟨a, b, c, d⟩
    · exact Or.inr ⟨c, d, a, b⟩
    · exact Or.inl ⟨c, d, a, b⟩
  · rw [tk_R M a k (fun q => by
      rcases q with ⟨rfl | rfl, rfl | rfl⟩ <;> exact c rfl)]
    exact h3 a k c
/-- the house's memory after a good read -/
def hfU (W : sw_M) : sw_M := wr_I (wr_I (tkU (wr_I W 1 1 0)) 33 7 0) 68 5 0
theorem hf_I (W : sw_M) (a k : Nat) (h : ¬ ((a = 3 ∧ 2 ≤ k ∧ k ≤ 5) ∨ (a = 1 ∧ k = 1) ∨ (a = 33 ∧ k = 7) ∨ (a = 68 ∧ k = 5))) : rd_I (hfU W) a k = rd_I W a k := by
  unfold hfU
  rw [w_o (by omega), w_o (by omega), tk_I _ a k (by omega), w_o (by omega)]
theorem hf_3 (W : sw_M) (k : Nat) (h1 : 2 ≤ k) (h2 : k ≤ 5) : rd_I (hfU W) 3 k = rd_I W 18 k := by
  unfold hfU
  rw [w_o (by omega), w_o (by omega), tk_3 _ k h1 h2, w_o (by omega)]
theorem hf_1 (W : sw_M) : rd_I (hfU W) 1 1 = 0 ∧ rd_I (hfU W) 33 7 = 0 ∧ rd_I (hfU W) 68 5 = 0 := by
  unfold hfU
  refine ⟨?_, ?_, ?_⟩
  · rw [w_o (by omega), w_o (by omega), tk_I _ 1 1 (by omega), w_s]
  · rw [w_o (by omega), w_s]
  · rw [w_s]
theorem hf_L (W : sw_M) (a k : Nat) : rd_L (hfU W) a k = rd_L W a k := rfl
theorem hf_N (W : sw_M) : rd_N (hfU W) = rd_N W := rfl
theorem hf_R (W : sw_M) (a k : Nat) (h : ¬ ((a = 3 ∨ a = 18) ∧ (k = 0 ∨ k = 1))) : rd_R (hfU W) a k = rd_R W a k := by
  unfold hfU
  rw [m_RI, m_RI, tk_R _ a k h, m_RI]
theorem hf_r (W : sw_M) : rd_R (hfU W) 3 0 = rd_R W 18 0 ∧ rd_R (hfU W) 3 1 = rd_R W 18 1 := by
  obtain ⟨r1, r2, r3, r4⟩ := tk_r (wr_I W 1 1 0)
  exact ⟨r1, r2⟩
theorem hr_w {M : sw_M} (h : HR M) (a k : Nat) (v : Int32) : HR (wr_I M a k v) := ((Fr.refl (fun _ _ => True) M).wI a k v trivial).hr h
theorem hf_H {W : sw_M} (h : HR W) : HR (hfU W) := hr_w (hr_w (tk_H (hr_w h _ _ _)) _ _ _) _ _ _
theorem hf_M {W : sw_M} (h : MR W) : MR (hfU W) := ⟨h.1, fun k hk => by rw [hf_R W 80 k (by omega)]; exact h.2 k hk⟩
theorem hf_ok (N : Nat) {M W : sw_M} {n tp : Nat} (hH : HR M) (h1 : rd_I M 1 1 = nI tp) (ht : n ≤ tp) (htp : tp ≤ 500) (w1 : f_Reader_read N 17 (nI n) M = some W) (hW : HR W) (w9 : rd_I W 17 9 = 0) : f_House_field N 1 (nI n) M = some (rd_I W 18 2, hfU W) := by
  have hW1 := hr_w hW 1 1 0
  have e9 : rd_I (wr_I W 1 1 0) 17 9 = 0 := by rw [w_o (by omega)]; exact w9
  have hT := tk_H hW1
  have hT1 := hr_w hT 33 7 0
  have hU := hf_H hW
  have e2 := hf_3 W 2 (by omega) (by omega)
  unfold f_House_field
  rw [if_neg (show ¬ nI n < 0 from (nI_nlt (Nat.zero_le _) (by omega) : ¬ nI n < nI 0)), ok_1 hH.1, gd_T, h1, if_pos (nI_le ht (by omega)), hr_f hH 1 3 17 rfl (by decide), ok_17 hH.1, gd_T, w1, bn_S, ok_1 hW.1, gd_T, hr_f hW1 1 3 17 rfl (by decide), ok_17 hW1.1, gd_T, e9, if_pos rfl, hr_f hW1 1 2 3 rfl (by decide), ok_3 hW1.1, gd_T, hr_f hW1 17 1 18 rfl (by decide), tk_e N hW1.1, bn_S, ok_1 hT.1, gd_T]
  unfold f_House_forgetOrbits
  rw [ok_1 hT.1, gd_T, hr_f hT 1 6 33 rfl (by decide), ok_33 hT.1, gd_T, hr_f hT1 1 9 68 rfl (by decide), ok_68 hT1.1, gd_T, bn_S]
  show sw_gd [sw_ok (hfU W) 1 11] (sw_gd [sw_ok (hfU W) (rd_R (hfU W) 1 2) 0] (some (rd_I (hfU W) (rd_R (hfU W) 1 2) 2, hfU W))) = _
  rw [ok_1 hU.1, gd_T, hr_f hU 1 2 3 rfl (by decide), ok_3 hU.1, gd_T, e2]
theorem hf_no (N : Nat) {M W : sw_M} {n tp : Nat} (hH : HR M) (h1 : rd_I M 1 1 = nI tp) (ht : n ≤ tp) (htp : tp ≤ 500) (w1 : f_Reader_read N 17 (nI n) M = some W) (hW : HR W) (w9 : ¬ rd_I W 17 9 = 0) : f_House_field N 1 (nI n) M = some (-1, wr_I W 1 1 0) := by
  have hW1 := hr_w hW 1 1 0
  have e9 : rd_I (wr_I W 1 1 0) 17 9 = rd_I W 17 9 := w_o (by omega) _ _
  unfold f_House_field
  rw [if_neg (show ¬ nI n < 0 from (nI_nlt (Nat.zero_le _) (by omega) : ¬ nI n < nI 0)), ok_1 hH.1, gd_T, h1, if_pos (nI_le ht (by omega)), hr_f hH 1 3 17 rfl (by decide), ok_17 hH.1, gd_T, w1, bn_S, ok_1 hW.1, gd_T, hr_f hW1 1 3 17 rfl (by decide), ok_17 hW1.1, gd_T, e9, if_neg w9]
/-- the reference's cells after a good read -/
def Amo (a k : Nat) : Prop := (a = 80 ∧ (k = 10 ∨ k = 13 ∨ k = 15 ∨ k = 18 ∨ k = 20 ∨ k = 32 ∨ k = 33)) ∨ (81 ≤ a ∧ a ≤ 89 ∧ k < 8) ∨ ((a = 90 ∨ a = 91) ∧ k < 48)
theorem mf_ok (N : Nat) (hN : 1000 ≤ N) {V : sw_M} {T : Nat → Nat} {n b : Nat} {ps : List (Nat × PT)} {ru : Option (List (Nat × Nat))} (g : ML V T n b ps ru) (gu : UQ ps) (gr : GDr ru) :
    ∃ Z, f_Model_field_96 N 80 V = some (nI ps.length, Z) ∧ Fr Amo V Z ∧ rd_I Z 80 32 = 0 ∧ rd_I Z 80 33 = -1 ∧ rd_I Z 80 10 = nI ps.length ∧ (∀ a p, 81 ≤ a → a ≤ 89 → p < 8 → rd_I Z a p = rd_I V a (8 + p)) ∧ RU Z (hu ru) (wf (oo ru)) (oo ru).length ∧ rd_I Z 80 13 = spi (spn ps) ∧ (spn ps = none → rd_I Z 80 15 = 0) ∧ (∀ i lo hi, spn ps = some (i, lo, hi) → rd_I Z 80 15 = lo) := by
  obtain ⟨g1, g2, g3, g4, g5, g6, g7⟩ := g
  have hM := g1.1.1
  obtain ⟨m1, m2, m3⟩ := ru_m g7
  obtain ⟨q1, q2, q3, q4⟩ := ru_g gr
  have e31 : rd_I (wr_I V 80 32 (rd_I V 80 30)) 80 31 = rd_I V 80 31 := w_o (by omega) _ _
  have e30 : rd_I (wr_I (wr_I V 80 32 (rd_I V 80 30)) 80 33 (rd_I V 80 31)) 80 30 = rd_I V 80 30 := by rw [w_o (by omega), w_o (by omega)]
  unfold f_Model_field_96
  rw [ok_80 hM.1, gd_T, e31, e30, g2, if_pos rfl, g1.2.2.2.2.2.2.2 g2]
  have f1 : Fr (fun a k => a = 80 ∧ (k = 32 ∨ k = 33)) V (wr_I (wr_I V 80 32 0) 80 33 (-1)) := ((Fr.refl _ V).wI _ _ _ (by omega)).wI _ _ _ (by omega)
  have a32 : rd_I (wr_I (wr_I V 80 32 0) 80 33 (-1)) 80 32 = 0 := by rw [w_o (by omega), w_s]
  have a33 : rd_I (wr_I (wr_I V 80 32 0) 80 33 (-1)) 80 33 = -1 := w_s _ _ _ _
  generalize wr_I (wr_I V 80 32 0) 80 33 (-1) = V1 at *
  obtain ⟨V2, x1, x2, x3⟩ := cp_8 N 8 0 N V1 (by omega) (by omega) (f1.mr hM)
  have x1' : f_Model_field_123 N N 80 0 V1 = f_Model_field_272 N N 80 0 V2 := x1
  rw [x1']
  have i80 : ∀ k, ¬ k = 32 → ¬ k = 33 → rd_I V2 80 k = rd_I V 80 k := fun k h1 h2 => (x2.I 80 k (by omega)).trans (f1.I 80 k (by omega))
  have h14 : rd_I V2 80 14 = spi (spn ps) := (i80 14 (by omega) (by omega)).trans g6
  have h14' : rd_I V2 80 14 = -1 ∨ ∃ i, i < 8 ∧ rd_I V2 80 14 = nI i := by
    rw [h14]
    cases hs : spn ps with
    | none => exact Or.inl rfl
    | some e =>
      obtain ⟨i, lo, hi⟩ := e
      have := spn_b hs
      exact Or.inr ⟨i, by omega, rfl⟩
  obtain ⟨Z, z1, z2, z3, z4, z5, z6, z7, z8, z9⟩ := cp_r N (oo ru).length ps.length q2 g4 (oo ru).length 0 N V2 (by omega) (by omega) (x2.mr (f1.mr hM)) ((i80 11 (by omega) (by omega)).trans g3) ((i80 19 (by omega) (by omega)).trans m2) (by rw [i80 21 (by omega) (by omega), m1]; exact q4) h14'
  have r90 : ∀ a s, (a = 90 ∨ a = 91) → s < (oo ru).length → rd_I Z a s = rd_I V a (48 + s) := fun a s h1 h2 => by
    rw [z3 a s h1 (by omega) h2, x2.I a _ (by omega), f1.I a _ (by omega)]
  have r81 : ∀ a p, 81 ≤ a → a ≤ 89 → p < 8 → rd_I Z a p = rd_I V a (8 + p) := fun a p h1 h2 h3 => by
    rw [z2.I a p (by omega), x3 a p h1 h2 (by omega) h3, f1.I a _ (by omega)]
  refine ⟨Z, z1, ((f1.mono (fun a k h => by unfold Amo; omega)).trans (x2.mono (fun a k h => by unfold Amo; omega))).trans (z2.mono (fun a k h => by unfold Amo; omega)), ?_, ?_, z4, r81, ⟨q2, ?_, z5, fun t ht => ?_, wf_v q1, fun h => ?_⟩, z7.trans h14, fun h => ?_, fun i lo hi h => ?_⟩
  · rw [z2.I 80 32 (by omega), x2.I 80 32 (by omega)]; exact a32
  · rw [z2.I 80 33 (by omega), x2.I 80 33 (by omega)]; exact a33
  · rw [z6, i80 21 (by omega) (by omega)]; exact m1
  · rw [r90 90 t (by omega) ht, r90 91 t (by omega) ht]
    exact wf_m m3 t ht
  · rw [dp_dl _ q1]
    exact q3 h
  · exact z8 (by rw [h14, h]; rfl)
  · have hb := spn_b h
    rw [z9 i (by omega) (by rw [h14, h]; rfl), x3 86 i (by omega) (by omega) (by omega) (by omega), f1.I 86 _ (by omega)]
    rw [(el_m g5 i hb).2.2.2.2.2.1]
    exact (el_i gu h).1
