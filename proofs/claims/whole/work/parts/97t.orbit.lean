/-! 97t: an ORBIT is added: new cells -/
/-- old cells are as before, but for A (ints, longs) and ref (34, m) -/
def Gw (A : Nat → Nat → Prop) (m : Nat) (M W : sw_M) : Prop := (∀ a k, a ≤ rd_N M → ¬ A a k → rd_I W a k = rd_I M a k ∧ rd_L W a k = rd_L M a k) ∧ (∀ a k, a ≤ rd_N M → ¬ (a = 34 ∧ k = m) → rd_R W a k = rd_R M a k) ∧ rd_N M ≤ rd_N W
theorem Gw.I {A : Nat → Nat → Prop} {m : Nat} {M W : sw_M} (h : Gw A m M W) (a k : Nat) (ha : a ≤ rd_N M) (c : ¬ A a k) : rd_I W a k = rd_I M a k := (h.1 a k ha c).1
theorem Gw.L {A : Nat → Nat → Prop} {m : Nat} {M W : sw_M} (h : Gw A m M W) (a k : Nat) (ha : a ≤ rd_N M) (c : ¬ A a k) : rd_L W a k = rd_L M a k := (h.1 a k ha c).2
theorem Gw.R {A : Nat → Nat → Prop} {m : Nat} {M W : sw_M} (h : Gw A m M W) (a k : Nat) (ha : a ≤ rd_N M) (c : ¬ (a = 34 ∧ k = m)) : rd_R W a k = rd_R M a k := h.2.1 a k ha c
theorem Gw.mr {A : Nat → Nat → Prop} {m : Nat} {M W : sw_M} (h : Gw A m M W) (g : MR M) : MR W := ⟨Nat.le_trans g.1 h.2.2, fun k hk => by rw [h.R 80 k (Nat.le_trans (by decide) g.1) (by omega)]; exact g.2 k hk⟩
theorem hrf_34 (k : Nat) : hrf 34 k = 0 := rfl
theorem hrf_b (a k : Nat) (h : hrf a k ≠ 0) : a ≤ 78 ∧ a ≠ 34 := by
  unfold hrf at h
  split at h <;> first | (exact ⟨by omega, by omega⟩) | (exact absurd rfl h)
theorem Gw.hr {A : Nat → Nat → Prop} {m : Nat} {M W : sw_M} (h : Gw A m M W) (g : HR M) : HR W := by
  have hN := g.1
  refine ⟨Nat.le_trans g.1 h.2.2, ?_, fun a k q => ?_⟩
  · rw [h.R 3 0 (by omega) (by omega), h.R 3 1 (by omega) (by omega), h.R 18 0 (by omega) (by omega), h.R 18 1 (by omega) (by omega)]
    exact g.2.1
  · have := hrf_b a k q
    rw [h.R a k (by omega) (by omega)]
    exact g.2.2 a k q
theorem Gw.hq {A : Nat → Nat → Prop} {m : Nat} {M W : sw_M} (h : Gw A m M W) (g : HR M) {i : Nat} (hi : i < 8) : hpa W i = hpa M i := by
  have hN := g.1
  unfold hpa
  rw [h.R 3 0 (by omega) (by omega)]
  rcases hpa_in g hi with e | e <;> rw [e.1]
  · exact h.R 4 i (by omega) (by omega)
  · exact h.R 19 i (by omega) (by omega)
theorem Gw.oq {A : Nat → Nat → Prop} {m : Nat} {M W : sw_M} (h : Gw A m M W) {q : Nat} (g : OQ M q) : OQ W q := by
  have hge := g.ge
  obtain ⟨g0, g1, g2, g3, g4, g5, g6, g7, g8, g9⟩ := g
  refine ⟨g0, Nat.le_trans g1 h.2.2, ?_, ?_, ?_, ?_, ?_, ?_, ?_, ?_⟩
  · rw [h.R _ _ (by omega) (by omega)]; exact g2
  · rw [h.R _ _ (by omega) (by omega)]; exact g3
  · rw [h.R _ _ (by omega) (by omega)]; exact g4
  · rw [h.R _ _ (by omega) (by omega)]; exact g5
  · rw [h.R _ _ (by omega) (by omega)]; exact g6
  · rw [h.R _ _ (by omega) (by omega)]; exact g7
  · rw [h.R _ _ (by omega) (by omega)]; exact g8
  · rw [h.R _ _ (by omega) (by omega)]; exact g9
theorem Gw.refl (A : Nat → Nat → Prop) (m : Nat) (M : sw_M) : Gw A m M M := ⟨fun _ _ _ _ => ⟨rfl, rfl⟩, fun _ _ _ _ => rfl, Nat.le_refl _⟩
theorem Gw.wI {A : Nat → Nat → Prop} {m : Nat} {M W : sw_M} (h : Gw A m M W) (q k : Nat) (v : Int32) (c : A q k ∨ rd_N M < q) : Gw A m M (wr_I W q k v) := by
  refine ⟨fun a j ha hA => ⟨?_, (h.1 a j ha hA).2⟩, h.2.1, h.2.2⟩
  rw [m_II, if_neg]
  · exact (h.1 a j ha hA).1
  · rintro ⟨rfl, rfl⟩
    rcases c with c | c
    · exact hA c
    · omega
theorem Gw.wR {A : Nat → Nat → Prop} {m : Nat} {M W : sw_M} (h : Gw A m M W) (q k : Nat) (v : Nat) (c : (q = 34 ∧ k = m) ∨ rd_N M < q) : Gw A m M (wr_R W q k v) := by
  refine ⟨h.1, fun a j ha hA => ?_, h.2.2⟩
  rw [m_RR, if_neg]
  · exact h.2.1 a j ha hA
  · rintro ⟨rfl, rfl⟩
    omega
theorem n_I (M : sw_M) (a j : Nat) : rd_I (wr_N M) a j = if a = rd_N M + 1 then 0 else rd_I M a j := rfl
theorem n_L (M : sw_M) (a j : Nat) : rd_L (wr_N M) a j = if a = rd_N M + 1 then 0 else rd_L M a j := rfl
theorem n_R (M : sw_M) (a j : Nat) : rd_R (wr_N M) a j = if a = rd_N M + 1 then 0 else rd_R M a j := rfl
theorem n_N (M : sw_M) : rd_N (wr_N M) = rd_N M + 1 := rfl
theorem kn_I (M : sw_M) (n a j : Nat) : rd_I (sw_mk M n) a j = if rd_N M < a ∧ a ≤ rd_N M + 1 + n then 0 else rd_I M a j := rfl
theorem kn_L (M : sw_M) (n a j : Nat) : rd_L (sw_mk M n) a j = if rd_N M < a ∧ a ≤ rd_N M + 1 + n then 0 else rd_L M a j := rfl
theorem kn_R (M : sw_M) (n a j : Nat) : rd_R (sw_mk M n) a j = if a = rd_N M + 1 then (if j < n then rd_N M + 2 + j else 0) else (if rd_N M < a ∧ a ≤ rd_N M + 1 + n then 0 else rd_R M a j) := rfl
theorem kn_N (M : sw_M) (n : Nat) : rd_N (sw_mk M n) = rd_N M + 1 + n := rfl
theorem Gw.wN {A : Nat → Nat → Prop} {m : Nat} {M W : sw_M} (h : Gw A m M W) : Gw A m M (wr_N W) := by
  have hN := h.2.2
  refine ⟨fun a j ha hA => ?_, fun a j ha hA => ?_, by rw [n_N]; omega⟩
  · rw [n_I, n_L, if_neg (by omega), if_neg (by omega)]; exact h.1 a j ha hA
  · rw [n_R, if_neg (by omega)]; exact h.2.1 a j ha hA
theorem Gw.mk {A : Nat → Nat → Prop} {m : Nat} {M W : sw_M} (h : Gw A m M W) (n : Nat) : Gw A m M (sw_mk W n) := by
  have hN := h.2.2
  refine ⟨fun a j ha hA => ?_, fun a j ha hA => ?_, by rw [kn_N]; omega⟩
  · rw [kn_I, kn_L, if_neg (by omega), if_neg (by omega)]; exact h.1 a j ha hA
  · rw [kn_R, if_neg (by omega), if_neg (by omega)]; exact h.2.1 a j ha hA
/-- a new ORBIT: its cells -/
theorem lay_orb : ∀ m, m < 6 → sw_lay[124 + 9 * m]? = some (4, 0) ∧ sw_lay[125 + 9 * m]? = some (19, 4) ∧ sw_lay[126 + 9 * m]? = some (13, 241) ∧ sw_lay[127 + 9 * m]? = some (13, 241) ∧ sw_lay[128 + 9 * m]? = some (13, 241) ∧ sw_lay[129 + 9 * m]? = some (13, 241) ∧ sw_lay[130 + 9 * m]? = some (13, 240) ∧ sw_lay[131 + 9 * m]? = some (13, 64) ∧ sw_lay[132 + 9 * m]? = some (13, 64) := by decide
theorem nx_T {M : sw_M} {kd n : Nat} (h : sw_lay[rd_N M]? = some (kd, n)) : sw_nx M kd n = true := decide_eq_true h
theorem nxa_T {M : sw_M} {kd n : Nat} (hn : n ≤ 60000) (h : sw_lay[rd_N M]? = some (kd, n)) : sw_nxa M kd (nI n) = true := by
  unfold sw_nxa
  have h0 : ¬ nI n < 0 := nI_pos (show n < 2 ^ 31 by omega)
  rw [cl_n (show n < 2 ^ 31 by omega), Nat.ble_eq_true_of_le hn, decide_eq_true h, decide_eq_true h0]
  rfl
theorem nxm_T {M : sw_M} {b : Nat} (hb : rd_N M = b) (h : sw_lay[b]? = some (19, 4)) (h0 : sw_lay[b + 1]? = some (13, 241)) (h1 : sw_lay[b + 1 + 1]? = some (13, 241)) (h2 : sw_lay[b + 1 + 2]? = some (13, 241)) (h3 : sw_lay[b + 1 + 3]? = some (13, 241)) : sw_nxm M 4 241 = true := by
  unfold sw_nxm
  rw [hb, decide_eq_true h, Bool.true_and]
  show (List.range 4).all _ = true
  simp only [List.range, List.range.loop, List.all_cons, List.all_nil, Nat.add_zero, h0, h1, h2, h3, decide_true, Bool.and_self]
theorem Orbit_init (N : Nat) (M : sw_M) (m : Nat) (hm : m < 6) (hN : rd_N M = 124 + 9 * m) (A : Nat → Nat → Prop) :
    ∃ W, f_Orbit_init N (hob m) (wr_N M) = some W ∧ Gw A m M W ∧ rd_N W = 124 + 9 * m + 9 ∧ OQ W (hob m) := by
  have hq : hob m = 125 + 9 * m := rfl
  obtain ⟨s0, s1, s2, s3, s4, s5, s6, s7, s8⟩ := sh_orb m hm
  obtain ⟨l0, l1, l2, l3, l4, l5, l6, l7, l8⟩ := lay_orb m hm
  have n0 : rd_N (wr_N M) = 125 + 9 * m := by rw [n_N]; omega
  have g0 : Gw A m M (wr_N M) := (Gw.refl A m M).wN
  have g1 : Gw A m M (wr_R (sw_mk (wr_N M) 4) (hob m) 4 (rd_N (wr_N M) + 1)) := (g0.mk 4).wR _ _ _ (Or.inr (by omega))
  have n1 : rd_N (wr_R (sw_mk (wr_N M) 4) (hob m) 4 (rd_N (wr_N M) + 1)) = 130 + 9 * m := by rw [m_NR, kn_N]; omega
  have g2 := g1.wN.wR (hob m) 13 (rd_N (wr_N M) + 6) (Or.inr (by omega))
  have n2 : rd_N (wr_R (wr_N (wr_R (sw_mk (wr_N M) 4) (hob m) 4 (rd_N (wr_N M) + 1))) (hob m) 13 (rd_N (wr_N M) + 6)) = 131 + 9 * m := by rw [m_NR, n_N]; omega
  have g3 := g2.wN.wR (hob m) 15 (rd_N (wr_N M) + 7) (Or.inr (by omega))
  have n3 : rd_N (wr_R (wr_N (wr_R (wr_N (wr_R (sw_mk (wr_N M) 4) (hob m) 4 (rd_N (wr_N M) + 1))) (hob m) 13 (rd_N (wr_N M) + 6))) (hob m) 15 (rd_N (wr_N M) + 7)) = 132 + 9 * m := by rw [m_NR, n_N]; omega
  have g4 := g3.wN.wR (hob m) 16 (rd_N (wr_N M) + 8) (Or.inr (by omega))
  have t0 : sw_sh (hob m) = some (4, 0) := s0
  have o0 : sw_ok (wr_N M) (hob m) 4 = true := c_ok t0 (by omega)
  have o1 : sw_ok (sw_mk (wr_N M) 4) (hob m) 4 = true := c_ok t0 (by rw [kn_N]; omega)
  have o2 : sw_ok (wr_N (wr_R (sw_mk (wr_N M) 4) (hob m) 4 (rd_N (wr_N M) + 1))) (hob m) 4 = true := c_ok t0 (by rw [n_N]; omega)
  have o3 : sw_ok (wr_N (wr_R (wr_N (wr_R (sw_mk (wr_N M) 4) (hob m) 4 (rd_N (wr_N M) + 1))) (hob m) 13 (rd_N (wr_N M) + 6))) (hob m) 4 = true := c_ok t0 (by rw [n_N]; omega)
  have o4 : sw_ok (wr_N (wr_R (wr_N (wr_R (wr_N (wr_R (sw_mk (wr_N M) 4) (hob m) 4 (rd_N (wr_N M) + 1))) (hob m) 13 (rd_N (wr_N M) + 6))) (hob m) 15 (rd_N (wr_N M) + 7))) (hob m) 4 = true := c_ok t0 (by rw [n_N]; omega)
  have x0 : sw_nxm (wr_N M) 4 241 = true := nxm_T n0 l1 (by rw [← l2]; congr 1; omega) (by rw [← l3]; congr 1; omega) (by rw [← l4]; congr 1; omega) (by rw [← l5]; congr 1; omega)
  have x1 : sw_nxa (wr_R (sw_mk (wr_N M) 4) (hob m) 4 (rd_N (wr_N M) + 1)) 13 (240 : Int32) = true := nxa_T (n := 240) (by decide) (by rw [n1]; exact l6)
  have x2 : sw_nxa (wr_R (wr_N (wr_R (sw_mk (wr_N M) 4) (hob m) 4 (rd_N (wr_N M) + 1))) (hob m) 13 (rd_N (wr_N M) + 6)) 13 (64 : Int32) = true := nxa_T (n := 64) (by decide) (by rw [n2]; exact l7)
  have x3 : sw_nxa (wr_R (wr_N (wr_R (wr_N (wr_R (sw_mk (wr_N M) 4) (hob m) 4 (rd_N (wr_N M) + 1))) (hob m) 13 (rd_N (wr_N M) + 6))) (hob m) 15 (rd_N (wr_N M) + 7)) 13 (64 : Int32) = true := nxa_T (n := 64) (by decide) (by rw [n3]; exact l8)
  have w2 : ∀ q k v, rd_R (wr_R (wr_N (wr_R (wr_N (wr_R (wr_N (wr_R (sw_mk (wr_N M) 4) (hob m) 4 (rd_N (wr_N M) + 1))) (hob m) 13 (rd_N (wr_N M) + 6))) (hob m) 15 (rd_N (wr_N M) + 7))) (hob m) 16 (rd_N (wr_N M) + 8)) q k = v ↔ (if q = hob m ∧ k = 16 then rd_N (wr_N M) + 8 else if q = 133 + 9 * m then 0 else if q = hob m ∧ k = 15 then rd_N (wr_N M) + 7 else if q = 132 + 9 * m then 0 else if q = hob m ∧ k = 13 then rd_N (wr_N M) + 6 else if q = 131 + 9 * m then 0 else if q = hob m ∧ k = 4 then rd_N (wr_N M) + 1 else rd_R (sw_mk (wr_N M) 4) q k) = v := fun q k v => by
    rw [m_RR, n_R, m_RR, n_R, m_RR, n_R, m_RR, n1, n2, n3, show 130 + 9 * m + 1 = 131 + 9 * m by omega, show 131 + 9 * m + 1 = 132 + 9 * m by omega, show 132 + 9 * m + 1 = 133 + 9 * m by omega]
  refine ⟨_, ?_, g4, ?_, ?_⟩
  · unfold f_Orbit_init
    have c4 : (4 : Int32).toNatClampNeg = 4 := rfl
    have c241 : (241 : Int32).toNatClampNeg = 241 := rfl
    have e1 : (decide (¬ (4 : Int32) < 0) && (decide (¬ (241 : Int32) < 0) && (Nat.ble 4 60000 && (Nat.ble 241 60000 && sw_nxm (wr_N M) 4 241)))) = true := by rw [x0]; rfl
    rw [c4, c241, o0, gd_T, e1, gd_T, o1, gd_T, x1, gd_T, o2, gd_T, x2, gd_T, o3, gd_T, x3, gd_T, o4, gd_T]
  · rw [m_NR, n_N, n3]; omega
  · refine ⟨⟨m, hm, rfl⟩, by rw [m_NR, n_N, n3]; omega, ?_, ?_, ?_, ?_, ?_, ?_, ?_, ?_⟩
    · rw [w2, if_neg (by omega), if_neg (by omega), if_neg (by omega), if_neg (by omega), if_neg (by omega), if_neg (by omega), if_pos ⟨rfl, rfl⟩]; omega
    · rw [w2, if_neg (by omega), if_neg (by omega), if_neg (by omega), if_neg (by omega), if_neg (by omega), if_neg (by omega), if_neg (by omega), kn_R, if_pos (by omega), if_pos (by omega)]; omega
    · rw [w2, if_neg (by omega), if_neg (by omega), if_neg (by omega), if_neg (by omega), if_neg (by omega), if_neg (by omega), if_neg (by omega), kn_R, if_pos (by omega), if_pos (by omega)]; omega
    · rw [w2, if_neg (by omega), if_neg (by omega), if_neg (by omega), if_neg (by omega), if_neg (by omega), if_neg (by omega), if_neg (by omega), kn_R, if_pos (by omega), if_pos (by omega)]; omega
    · rw [w2, if_neg (by omega), if_neg (by omega), if_neg (by omega), if_neg (by omega), if_neg (by omega), if_neg (by omega), if_neg (by omega), kn_R, if_pos (by omega), if_pos (by omega)]; omega
    · rw [w2, if_neg (by omega), if_neg (by omega), if_neg (by omega), if_neg (by omega), if_pos ⟨rfl, rfl⟩]; omega
    · rw [w2, if_neg (by omega), if_neg (by omega), if_pos ⟨rfl, rfl⟩]; omega
    · rw [w2, if_pos ⟨rfl, rfl⟩]; omega
