/-! 74: the rule on the other side -/
def RQ (M : sw_M) (q : Nat) : Prop := (q = 5 ∨ q = 20) ∧ 124 ≤ rd_N M ∧ rd_R M q 0 = q + 1 ∧ rd_R M q 1 = q + 2 ∧ rd_R M q 2 = q + 3
theorem HR.rq {M : sw_M} (h : HR M) : RQ M (rd_R M 3 1) ∧ RQ M (rd_R M 18 1) := by
  have a : RQ M 5 := ⟨Or.inl rfl, h.1, hr_f h 5 0 6 rfl (by decide), hr_f h 5 1 7 rfl (by decide), hr_f h 5 2 8 rfl (by decide)⟩
  have b : RQ M 20 := ⟨Or.inr rfl, h.1, hr_f h 20 0 21 rfl (by decide), hr_f h 20 1 22 rfl (by decide), hr_f h 20 2 23 rfl (by decide)⟩
  rcases h.2.1 with e | e <;> rw [e.2.1, e.2.2.2]
  · exact ⟨a, b⟩
  · exact ⟨b, a⟩
theorem RQ.ok {M : sw_M} {q : Nat} (h : RQ M q) : sw_ok M q 7 = true := by
  rcases h.1 with e | e <;> rw [e]
  · exact ok_5 h.2.1
  · exact ok_20 h.2.1
theorem RQ.a1 {M : sw_M} {q : Nat} (h : RQ M q) (i : Int32) : sw_ar M (q + 1) 13 i = sw_ti i 48 := by
  rcases h.1 with e | e <;> rw [e]
  · exact ar_6 h.2.1 i
  · exact ar_21 h.2.1 i
theorem RQ.a2 {M : sw_M} {q : Nat} (h : RQ M q) (i : Int32) : sw_ar M (q + 2) 13 i = sw_ti i 48 := by
  rcases h.1 with e | e <;> rw [e]
  · exact ar_7 h.2.1 i
  · exact ar_22 h.2.1 i
theorem RQ.a3 {M : sw_M} {q : Nat} (h : RQ M q) (i : Int32) : sw_ar M (q + 3) 16 i = sw_ti i 48 := by
  rcases h.1 with e | e <;> rw [e]
  · exact ar_8 h.2.1 i
  · exact ar_23 h.2.1 i
theorem RQ.o1 {M : sw_M} {q : Nat} (h : RQ M q) : sw_oka M (q + 1) = true := by
  rcases h.1 with e | e <;> rw [e]
  · exact oa_6 h.2.1
  · exact oa_21 h.2.1
theorem RQ.o3 {M : sw_M} {q : Nat} (h : RQ M q) : sw_oka M (q + 3) = true := by
  rcases h.1 with e | e <;> rw [e]
  · exact oa_8 h.2.1
  · exact oa_23 h.2.1
theorem RQ.l1 {M : sw_M} {q : Nat} (h : RQ M q) : sw_len (q + 1) = 48 := by
  rcases h.1 with e | e <;> rw [e] <;> rfl
theorem RQ.l3 {M : sw_M} {q : Nat} (h : RQ M q) : sw_len (q + 3) = 48 := by
  rcases h.1 with e | e <;> rw [e] <;> rfl
theorem RQ.r0 {M : sw_M} {q : Nat} (h : RQ M q) : rd_R M q 0 = q + 1 := h.2.2.1
theorem RQ.r1 {M : sw_M} {q : Nat} (h : RQ M q) : rd_R M q 1 = q + 2 := h.2.2.2.1
theorem RQ.r2 {M : sw_M} {q : Nat} (h : RQ M q) : rd_R M q 2 = q + 3 := h.2.2.2.2
theorem Fr.rq {A : Nat → Nat → Prop} {M W : sw_M} (h : Fr A M W) {q : Nat} (g : RQ M q) : RQ W q := by
  unfold RQ
  simp only [h.R, h.N]
  exact g
/-- a sign's number on this side -/
def hc (c : Int32) : Int32 := if c = 42 then 9 else if c = 43 then 7 else if c = 45 then 8 else if c = 47 then 10 else if c = 60 then 11 else if c = 256 then 12 else if c = 61 then 13 else if c = 257 then 14 else if c = 258 then 15 else if c = 62 then 16 else if c = 261 then 27 else if c = 262 then 26 else 28
def hst (e : Int32 × Int32) : Int32 := if e.1 = 0 then 2 else if e.1 = 1 then 29 + e.2 else hc e.2
theorem Rule_checked (N : Nat) (M : sw_M) (q : Nat) (hq : sw_ok M q 7 = true) (v : Int64) : f_Rule_checked N q v M = some (v, if bnd v = true then M else wr_I M q 4 1) := by
  unfold f_Rule_checked f_Rule_checked_16 bnd
  rw [hq, gd_T]
  by_cases h1 : (1000000000000000 : Int64) < v
  · rw [if_pos h1]; simp [Int64.not_le.mpr h1]
  · rw [if_neg h1]
    by_cases h2 : (-1000000000000000 : Int64) ≤ v
    · rw [if_pos h2]; simp [Int64.not_lt.mp h1, h2]
    · rw [if_neg h2]; simp [h2]
theorem Rule_bitj (N : Nat) (M : sw_M) (v : Int32) : (f_Rule_bit N v M).bind (fun u1 => some (u1.1, u1.2)) = some (bitL (decide (¬ v = 0)), M) := by
  unfold f_Rule_bit bitL
  by_cases c : v = 0
  · rw [if_pos c]; simp [c]
  · rw [if_neg c]; simp [c]
theorem Rule_joined (N : Nat) (M : sw_M) (q : Nat) (hq : sw_ok M q 7 = true) (c : Int32) (hsg : sg2 c) (a b : Int64) (ba : bd a) :
    (∃ z, bop c a b = some z ∧ f_Rule_joined N q (hc c) a b M = some (z, M)) ∨ (bop c a b = none ∧ ∃ z, f_Rule_joined N q (hc c) a b M = some (z, wr_I M q 4 1)) := by
  have hck := fun v => Rule_checked N M q hq v
  unfold f_Rule_joined f_Rule_joined_146 f_Rule_joined_162 f_Rule_joined_178 f_Rule_joined_194 f_Rule_joined_210 f_Rule_joined_226 f_Rule_joined_252 f_Rule_joined_265 f_Rule_joined_270 f_Rule_joined_247 f_Rule_joined_248 f_Rule_product f_Rule_quotient
  simp only [Rule_bitj, hck, hq, gd_T, bn_S]
  unfold bop sg2 hc at *
  rcases hsg with h | h | h | h | h | h | h | h | h | h | h | h <;> subst h <;> simp (decide := true) only [if_true, if_false]
  · by_cases c0 : a = 0
    · rw [if_pos c0, if_pos c0]
      exact Or.inl ⟨_, rfl, rfl⟩
    · rw [if_neg c0, if_neg c0]
      rw [gd_d (p := ¬ m_absL a = 0) (fun h => by
        have := (absL_i ba).1
        rw [h] at this
        exact c0 (Int64.toInt_inj.mp (show a.toInt = (0 : Int64).toInt from by rw [show (0 : Int64).toInt = 0 from by decide] at *; omega)))]
      by_cases c1 : m_absL b ≤ 1000000000000000 / m_absL a
      · rw [if_pos c1, if_pos c1]
        exact Or.inl ⟨_, rfl, rfl⟩
      · rw [if_neg c1, if_neg c1]
        exact Or.inr ⟨rfl, _, rfl⟩
  · cases hb1 : bnd (a + b)
    · exact Or.inr ⟨by simp, _, by simp; rfl⟩
    · exact Or.inl ⟨a + b, by simp, by simp⟩
  · cases hb1 : bnd (a - b)
    · exact Or.inr ⟨by simp, _, by simp; rfl⟩
    · exact Or.inl ⟨a - b, by simp, by simp⟩
  · by_cases c0 : b = 0
    · rw [if_pos c0, if_pos c0]
      exact Or.inr ⟨rfl, _, rfl⟩
    · rw [if_neg c0, if_neg c0, gd_d c0]
      exact Or.inl ⟨_, rfl, rfl⟩
  · refine Or.inl ⟨_, rfl, ?_⟩
    by_cases q : b ≤ a
    · rw [if_pos q, decide_eq_false (Int64.not_lt.mpr q)]; rfl
    · rw [if_neg q, decide_eq_true (Int64.not_le.mp q)]; rfl
  · refine Or.inl ⟨_, rfl, ?_⟩
    by_cases q : a = b
    · rw [if_pos q, decide_eq_true q]; rfl
    · rw [if_neg q, decide_eq_false q]; rfl
  · refine Or.inl ⟨_, rfl, ?_⟩
    by_cases q : a ≤ b
    · rw [if_pos q, decide_eq_false (Int64.not_lt.mpr q)]; rfl
    · rw [if_neg q, decide_eq_true (Int64.not_le.mp q)]; rfl
  · refine Or.inl ⟨_, rfl, ?_⟩
    by_cases q : b < a
    · rw [if_pos q, decide_eq_false (Int64.not_le.mpr q)]; rfl
    · rw [if_neg q, decide_eq_true (Int64.not_lt.mp q)]; rfl
  · refine Or.inl ⟨_, rfl, ?_⟩
    by_cases q : a = b
    · rw [if_pos q, decide_eq_false (not_not_intro q)]; rfl
    · rw [if_neg q, decide_eq_true q]; rfl
  · refine Or.inl ⟨_, rfl, ?_⟩
    by_cases q : a < b
    · rw [if_pos q, decide_eq_false (Int64.not_le.mpr q)]; rfl
    · rw [if_neg q, decide_eq_true (Int64.not_lt.mp q)]; rfl
  · refine Or.inl ⟨_, rfl, ?_⟩
    by_cases q : a = 0
    · rw [if_pos q]; simp [q]
    · rw [if_neg q]
      by_cases q2 : b = 0
      · rw [if_pos q2]; simp [q2]
      · rw [if_neg q2]; simp [q, q2]
  · refine Or.inl ⟨_, rfl, ?_⟩
    by_cases q : a = 0
    · rw [if_pos q]
      by_cases q2 : b = 0
      · rw [if_pos q2]; simp [q, q2]
      · rw [if_neg q2]; simp [q, q2]
    · rw [if_neg q]; simp [q]
def Aru (q a k : Nat) : Prop := (a = q ∧ k = 4) ∨ a = q + 3
theorem hc_28 {c : Int32} (h : sg2 c) : ¬ hc c = 2 ∧ hc c < 29 ∧ ¬ hc c = 28 := by
  unfold sg2 at h
  rcases h with h | h | h | h | h | h | h | h | h | h | h | h <;> subst h <;> decide
theorem uses_err (N j : Nat) (M : sw_M) (q o : Nat) (hq : RQ M q) (d i : Int32) (h4 : rd_I M q 4 = 1) : f_Rule_uses_18 N (j + 1) q o d i M = some (0, M) := by
  rw [f_Rule_uses_18, f_Rule_uses_186, hq.ok, gd_T, gd_T, h4, if_neg (show ¬ (1 : Int32) = 0 by decide), if_neg (show ¬ (1 : Int32) = 0 by decide)]
  split <;> rfl
theorem nI_m1 (e : Nat) : nI (e + 1) + (-1) = nI e := by
  rw [← nI_pred e, Int32.sub_eq_add_neg]
theorem Rule_uses_18 (N : Nat) (q : Nat) (w : Nat → Int32 × Int32) (k : Nat) (hk : k ≤ 48) (o : Nat) (nm : Int32 → Int64) (hE : ∀ t, t < k → EV (w t)) : ∀ (f j i d : Nat) (M : sw_M) (S : Nat → Int64), i + f = k → f + 1 < j → RQ M q → rd_I M q 3 = nI k → rd_I M q 4 = 0 → (∀ t, t < k → rd_I M (q + 1) t = hst (w t) ∧ ((w t).1 = 0 → rd_I M (q + 2) t = (w t).2)) →
    (∀ M', Fr (Aru q) M M' → sw_ok M' o 4 = true ∧ ∀ v, nmv v → f_Orbit_named N o (29 + v) M' = some (nm v, M')) → d ≤ i → (∀ t, t < d → rd_L M (q + 3) t = S t ∧ bd (S t)) → dpF w f i d = some 1 →
    ∃ W, f_Rule_uses_18 N j q o (nI d) (nI i) M = some (bz (usR (ev nm w f i d S)), W) ∧ Fr (Aru q) M W
  | 0, j, i, d, M, S, hi, hj, hq, h3, h4, hw, hn, hd, hS, hp => by
    obtain ⟨j, rfl⟩ : ∃ k, j = k + 1 := ⟨j - 1, by omega⟩
    have : d = 1 := by simpa [dpF] using hp
    subst this
    refine ⟨M, ?_, Fr.refl _ _⟩
    rw [f_Rule_uses_18, f_Rule_uses_186, hq.ok, gd_T, gd_T, h3, if_pos (nI_le (by omega) (by omega)), h4, if_pos rfl, if_neg (nI_nle (by omega) (by omega)), hq.r2, hq.a3, show sw_ti (0 : Int32) 48 = true from by decide, gd_T, cl_0, (hS 0 (by omega)).1]
    show _ = some (bz (decide (¬ S 0 = 0)), M)
    by_cases c : S 0 = 0
    · rw [if_pos c]; simp [c, bz]
    · rw [if_neg c]; simp [c, bz]
  | f + 1, j, i, d, M, S, hi, hj, hq, h3, h4, hw, hn, hd, hS, hp => by
    obtain ⟨j, rfl⟩ : ∃ k, j = k + 1 := ⟨j - 1, by omega⟩
    obtain ⟨w1, w2⟩ := hw i (by omega)
    rw [dpF] at hp
    rw [f_Rule_uses_18, hq.ok, gd_T, h3, if_neg (nI_ge (by omega) (by omega)), h4, if_pos rfl, hq.r0, hq.a1, ti_n (show i < 48 by omega) (by decide), gd_T, cl_n (by omega), w1, ev]
    have hwF : ∀ M', Fr (Aru q) M M' → (∀ t, t < k → rd_I M' (q + 1) t = hst (w t) ∧ ((w t).1 = 0 → rd_I M' (q + 2) t = (w t).2)) := fun M' h t ht => by
      rw [h.I (q + 1) t (by unfold Aru; omega), h.I (q + 2) t (by unfold Aru; omega)]
      exact hw t ht
    have hq34 : ∀ M', Fr (fun a _ => a = q + 3) M M' → rd_I M' q 3 = nI k ∧ rd_I M' q 4 = 0 := fun M' h => ⟨(h.I q 3 (by omega)).trans h3, (h.I q 4 (by omega)).trans h4⟩
    have mono3 : ∀ M', Fr (fun a _ => a = q + 3) M M' → Fr (Aru q) M M' := fun M' h => h.mono (fun a k e => Or.inr e)
    have push : ∀ v : Int64, ∀ r : Option Int64, (bnd v = true → dpF w f (i + 1) (d + 1) = some 1 ∧ r = ev nm w f (i + 1) (d + 1) (upS S d v)) → (¬ bnd v = true → r = none) → ∃ W, f_Rule_uses_91 N (f_Rule_uses_18 N j) q o (nI d) (nI i) v q (nI d) (q + 3) M = some (bz (usR r), W) ∧ Fr (Aru q) M W := fun v r h1 h2 => by
      rw [f_Rule_uses_91, hq.ok, gd_T, Rule_checked N M q hq.ok, bn_S]
      by_cases hv : bnd v = true
      · obtain ⟨hp', rfl⟩ := h1 hv
        simp only [if_pos hv]
        have hf0 : Fr (fun a _ => a = q + 3) M (wr_L M (q + 3) d v) := (Fr.refl _ M).wL _ _ _ rfl
        have hf := mono3 _ hf0
        rw [hq.a3, ti_n (show d < 48 by omega) (by decide), gd_T, cl_n (by omega), f_Rule_uses_180, nI_1, nI_1]
        obtain ⟨W, a1, a2⟩ := Rule_uses_18 N q w k hk o nm hE f j (i + 1) (d + 1) (wr_L M (q + 3) d v) (upS S d v) (by omega) (by omega) (hf.rq hq) (hq34 _ hf0).1 (hq34 _ hf0).2 (hwF _ hf) (fun M' h => hn M' (hf.trans h)) (by omega) (fun t ht => by
          unfold upS
          simp only [m_II, m_LL, m_RR, m_IL, m_IR, m_LI, m_LR, m_RI, m_RL, m_NI, m_NL, m_NR, m_okI, m_okL, m_okR, m_okaI, m_okaL, m_okaR, m_arI, m_arL, m_arR, gd_T, bn_S, Nat.reduceEqDiff, Nat.left_eq_add, Nat.add_eq_left, Nat.one_ne_zero, and_false, and_true, false_and, true_and, if_false, if_true]
          by_cases c : t = d
          · simp only [c, if_true]
            exact ⟨trivial, bnd_bd.mp hv⟩
          · simp only [c, if_false]
            exact hS t (by omega)) hp'
        exact ⟨W, a1, hf.trans a2⟩
      · rw [h2 hv]
        simp only [if_neg hv]
        have hf : Fr (Aru q) M (wr_L (wr_I M q 4 1) (q + 3) d v) := ((Fr.refl _ M).wI _ _ _ (Or.inl ⟨rfl, rfl⟩)).wL _ _ _ (Or.inr rfl)
        rw [m_arI, hq.a3, ti_n (show d < 48 by omega) (by decide), gd_T, cl_n (by omega), f_Rule_uses_180]
        obtain ⟨j', rfl⟩ : ∃ k, j = k + 1 := ⟨j - 1, by omega⟩
        rw [uses_err N j' _ q o (hf.rq hq) _ _ (by simp only [m_II, m_LL, m_RR, m_IL, m_IR, m_LI, m_LR, m_RI, m_RL, m_NI, m_NL, m_NR, m_okI, m_okL, m_okR, m_okaI, m_okaL, m_okaR, m_arI, m_arL, m_arR, gd_T, bn_S, Nat.reduceEqDiff, Nat.left_eq_add, Nat.add_eq_left, Nat.one_ne_zero, and_false, and_true, false_and, true_and, if_false, if_true])]
        exact ⟨_, rfl, hf⟩
    rcases hE i (by omega) with h | ⟨h, hv⟩ | ⟨h, hv⟩
    · have h2 : ¬ (w i).1 = 2 := by rw [h]; decide
      have hh : hst (w i) = 2 := if_pos h
      rw [if_neg h2] at hp
      rw [if_neg h2, hh, if_pos rfl, f_Rule_uses_54, hq.ok, gd_T, hq.r2, hq.o3, gd_T, hq.l3, if_neg (nI_ge (show d < 48 by omega) (by omega)), if_pos rfl, hq.r1, hq.a2, ti_n (show i < 48 by omega) (by decide), gd_T, cl_n (by omega), w2 h, show opv nm (w i) = (w i).2.toInt64 from if_pos h]
      exact push _ _ (fun hb => ⟨hp, by rw [if_pos hb]⟩) (fun hb => by rw [if_neg hb])
    · have h2 : ¬ (w i).1 = 2 := by rw [h]; decide
      have h0 : ¬ (w i).1 = 0 := by rw [h]; decide
      have hh : hst (w i) = 29 + (w i).2 := by unfold hst; rw [if_neg h0, if_pos h]
      have h29 : ¬ 29 + (w i).2 = 2 ∧ ¬ 29 + (w i).2 < 29 := by
        unfold nmv at hv
        rcases hv with e | e | e | e | e | e <;> rw [e] <;> decide
      rw [if_neg h2] at hp
      rw [if_neg h2, hh, if_neg h29.1, if_neg h29.2, f_Rule_uses_54, hq.ok, gd_T, hq.r2, hq.o3, gd_T, hq.l3, if_neg (nI_ge (show d < 48 by omega) (by omega)), if_neg h29.1, (hn M (Fr.refl _ M)).1, gd_T, (hn M (Fr.refl _ M)).2 _ hv, bn_S, show opv nm (w i) = nm (w i).2 from if_neg h0]
      exact push _ _ (fun hb => ⟨hp, by rw [if_pos hb]⟩) (fun hb => by rw [if_neg hb])
    · have h0 : ¬ (w i).1 = 0 := by rw [h]; decide
      have h1 : ¬ (w i).1 = 1 := by rw [h]; decide
      have hh : hst (w i) = hc (w i).2 := by unfold hst; rw [if_neg h0, if_neg h1]
      rw [if_pos h] at hp
      rw [if_pos h, hh]
      rcases hv with hv | hv
      · rw [if_pos hv] at hp
        by_cases hd1 : 1 ≤ d
        · rw [if_pos hd1] at hp
          obtain ⟨e, rfl⟩ : ∃ e, d = e + 1 := ⟨d - 1, by omega⟩
          have hf0 : ∀ v, Fr (fun a _ => a = q + 3) M (wr_L M (q + 3) e v) := fun v => (Fr.refl _ M).wL _ _ _ rfl
          rw [if_pos hv, hv, show hc 260 = 28 from by decide, if_neg (show ¬ (28 : Int32) = 2 by decide), if_pos (show (28 : Int32) < 29 by decide), if_pos rfl, if_neg (nI_nle (by omega) (by omega)), hq.r2, nI_pred, hq.a3, ti_n (show e < 48 by omega) (by decide), gd_T, cl_n (by omega), (hS e (by omega)).1, Nat.add_sub_cancel]
          have hb : ∀ v : Int32, f_Rule_uses_137 N (f_Rule_uses_18 N j) q o (nI (e + 1)) (nI i) v (nI e) (q + 3) M = f_Rule_uses_18 N j q o (nI (e + 1)) (nI (i + 1)) (wr_L M (q + 3) e (bitL (decide (¬ v = 0)))) := fun v => by
            unfold f_Rule_uses_137 f_Rule_bit f_Rule_uses_180 bitL
            by_cases c : v = 0
            · rw [if_pos c, bn_S, hq.a3, ti_n (show e < 48 by omega) (by decide), gd_T, cl_n (by omega), nI_1]; simp [c]
            · rw [if_neg c, bn_S, hq.a3, ti_n (show e < 48 by omega) (by decide), gd_T, cl_n (by omega), nI_1]; simp [c]
          rw [hb, hb]
          have hif : (if S e = 0 then f_Rule_uses_18 N j q o (nI (e + 1)) (nI (i + 1)) (wr_L M (q + 3) e (bitL (decide (¬ (1 : Int32) = 0)))) else f_Rule_uses_18 N j q o (nI (e + 1)) (nI (i + 1)) (wr_L M (q + 3) e (bitL (decide (¬ (0 : Int32) = 0))))) = f_Rule_uses_18 N j q o (nI (e + 1)) (nI (i + 1)) (wr_L M (q + 3) e (bitL (decide (S e = 0)))) := by
            by_cases c : S e = 0
            · rw [if_pos c, decide_eq_true c]; rfl
            · rw [if_neg c, decide_eq_false c]; rfl
          rw [hif]
          have hf := mono3 _ (hf0 (bitL (decide (S e = 0))))
          obtain ⟨W, a1, a2⟩ := Rule_uses_18 N q w k hk o nm hE f j (i + 1) (e + 1) (wr_L M (q + 3) e (bitL (decide (S e = 0)))) (upS S e (bitL (decide (S e = 0)))) (by omega) (by omega) (hf.rq hq) (hq34 _ (hf0 _)).1 (hq34 _ (hf0 _)).2 (hwF _ hf) (fun M' h => hn M' (hf.trans h)) (by omega) (fun t ht => by
            unfold upS
            simp only [m_II, m_LL, m_RR, m_IL, m_IR, m_LI, m_LR, m_RI, m_RL, m_NI, m_NL, m_NR, m_okI, m_okL, m_okR, m_okaI, m_okaL, m_okaR, m_arI, m_arL, m_arR, gd_T, bn_S, Nat.reduceEqDiff, Nat.left_eq_add, Nat.add_eq_left, Nat.one_ne_zero, and_false, and_true, false_and, true_and, if_false, if_true]
            by_cases c : t = e
            · simp only [c, if_true]
              exact ⟨trivial, bitL_bd _⟩
            · simp only [c, if_false]
              exact hS t (by omega)) hp
          exact ⟨W, a1, hf.trans a2⟩
        · rw [if_neg hd1] at hp
          cases hp
      · have h260 : ¬ (w i).2 = 260 := fun h => by
          rw [h] at hv
          exact absurd hv (by unfold sg2; decide)
        rw [if_neg h260] at hp
        by_cases hd2 : 2 ≤ d
        · rw [if_pos hd2] at hp
          obtain ⟨e, rfl⟩ : ∃ e, d = e + 2 := ⟨d - 2, by omega⟩
          obtain ⟨k1, k2, k3⟩ := hc_28 hv
          rw [show e + 2 - 1 = e + 1 by omega] at hp
          rw [if_neg h260, show e + 2 - 2 = e by omega, show e + 2 - 1 = e + 1 by omega, if_neg k1, if_pos k2, if_neg k3, if_neg (show ¬ nI (e + 2) ≤ (1 : Int32) from (nI_ge (by omega) (by omega) : ¬ nI (e + 2) ≤ nI 1)), nI_m1 (e + 1), nI_pred, hq.r2, hq.a3, ti_n (show e < 48 by omega) (by decide), gd_T, hq.a3, ti_n (show e + 1 < 48 by omega) (by decide), gd_T, cl_n (by omega), cl_n (by omega), (hS e (by omega)).1, (hS (e + 1) (by omega)).1]
          rcases Rule_joined N M q hq.ok (w i).2 hv (S e) (S (e + 1)) (hS e (by omega)).2 with ⟨z, z1, z2⟩ | ⟨z1, z, z2⟩
          · have hf0 : Fr (fun a _ => a = q + 3) M (wr_L M (q + 3) e z) := (Fr.refl _ M).wL _ _ _ rfl
            have hf := mono3 _ hf0
            rw [z2, bn_S, z1, f_Rule_uses_180, nI_1]
            show ∃ W, sw_gd [sw_ar M (q + 3) 16 (nI e)] (f_Rule_uses_18 N j q o (nI (e + 1)) (nI (i + 1)) (wr_L M (q + 3) e z)) = _ ∧ _
            rw [hq.a3, ti_n (show e < 48 by omega) (by decide), gd_T]
            obtain ⟨W, a1, a2⟩ := Rule_uses_18 N q w k hk o nm hE f j (i + 1) (e + 1) (wr_L M (q + 3) e z) (upS S e z) (by omega) (by omega) (hf.rq hq) (hq34 _ hf0).1 (hq34 _ hf0).2 (hwF _ hf) (fun M' h => hn M' (hf.trans h)) (by omega) (fun t ht => by
              unfold upS
              simp only [m_II, m_LL, m_RR, m_IL, m_IR, m_LI, m_LR, m_RI, m_RL, m_NI, m_NL, m_NR, m_okI, m_okL, m_okR, m_okaI, m_okaL, m_okaR, m_arI, m_arL, m_arR, gd_T, bn_S, Nat.reduceEqDiff, Nat.left_eq_add, Nat.add_eq_left, Nat.one_ne_zero, and_false, and_true, false_and, true_and, if_false, if_true]
              by_cases c : t = e
              · simp only [c, if_true]
                exact ⟨trivial, bop_bd (hS e (by omega)).2 (hS (e + 1) (by omega)).2 z1⟩
              · simp only [c, if_false]
                exact hS t (by omega)) hp
            exact ⟨W, a1, hf.trans a2⟩
          · have hf : Fr (Aru q) M (wr_L (wr_I M q 4 1) (q + 3) e z) := ((Fr.refl _ M).wI _ _ _ (Or.inl ⟨rfl, rfl⟩)).wL _ _ _ (Or.inr rfl)
            rw [z2, bn_S, z1, f_Rule_uses_180]
            show ∃ W, sw_gd [sw_ar M (q + 3) 16 (nI e)] (f_Rule_uses_18 N j q o (nI (e + 1)) (nI i + 1) (wr_L (wr_I M q 4 1) (q + 3) e z)) = _ ∧ _
            rw [hq.a3, ti_n (show e < 48 by omega) (by decide), gd_T]
            obtain ⟨j', rfl⟩ : ∃ k, j = k + 1 := ⟨j - 1, by omega⟩
            rw [uses_err N j' _ q o (hf.rq hq) _ _ (by simp only [m_II, m_LL, m_RR, m_IL, m_IR, m_LI, m_LR, m_RI, m_RL, m_NI, m_NL, m_NR, m_okI, m_okL, m_okR, m_okaI, m_okaL, m_okaR, m_arI, m_arL, m_arR, gd_T, bn_S, Nat.reduceEqDiff, Nat.left_eq_add, Nat.add_eq_left, Nat.one_ne_zero, and_false, and_true, false_and, true_and, if_false, if_true])]
            exact ⟨_, rfl, hf⟩
        · rw [if_neg hd2] at hp
          cases hp
