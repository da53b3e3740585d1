/-! 68: what is told of an ORBIT, by itself; its cells -/
def qr (x y : Int64) (b : Int32) : Int32 :=
  if x ≤ 0 then (if y ≤ 0 then (if 0 ≤ x then (if 0 ≤ y then b else 3) else 2) else 1) else if y < 0 then (if y ≤ 0 then (if 0 ≤ x then (if 0 ≤ y then b else 3) else 2) else 1) else 0
def sqS (s : SS) : Int64 := s.x * s.x + s.y * s.y
def spS (s : SS) : Int64 := s.x * s.v - s.y * s.u
def nrF (T : Nat → SS) : Nat → Int64
  | 0 => sqS (T 0)
  | t + 1 => m_minL (nrF T t) (sqS (T (t + 1)))
def frF (T : Nat → SS) : Nat → Int64
  | 0 => sqS (T 0)
  | t + 1 => m_maxL (frF T t) (sqS (T (t + 1)))
def slF (T : Nat → SS) : Nat → Int64
  | 0 => spS (T 0)
  | t + 1 => m_minL (slF T t) (spS (T (t + 1)))
def shF (T : Nat → SS) : Nat → Int64
  | 0 => spS (T 0)
  | t + 1 => m_maxL (shF T t) (spS (T (t + 1)))
def quF (T : Nat → SS) : Nat → Int32
  | 0 => qr (T 0).x (T 0).y 0
  | t + 1 => qr (T (t + 1)).x (T (t + 1)).y (quF T t)
def way (a b : Int32) : Int32 := ((a - b) + (4 : Int32)) - ((a - b) + (4 : Int32)) / (4 : Int32) * (4 : Int32)
def tuF (T : Nat → SS) : Nat → Int32
  | 0 => 0
  | t + 1 => if way (quF T (t + 1)) (quF T t) = 1 then tuF T t + 1 else if way (quF T (t + 1)) (quF T t) = 3 then tuF T t - 1 else tuF T t
def crs (T : Nat → SS) (t : Nat) : Prop := (T t).y.toInt32 < 0 ∧ 0 ≤ (T (t + 1)).y.toInt32
theorem crs_em (T : Nat → SS) (t : Nat) : crs T t ∨ ¬ crs T t := Classical.em _
noncomputable def crb (T : Nat → SS) (t : Nat) : Bool := decide ((T t).y.toInt32 < 0) && decide (0 ≤ (T (t + 1)).y.toInt32)
noncomputable def rbF (T : Nat → SS) : Nat → Nat
  | 0 => 0
  | t + 1 => if crb T t = true then rbF T t + 1 else rbF T t
theorem rbF_le (T : Nat → SS) : ∀ t, rbF T t ≤ t
  | 0 => Nat.le_refl 0
  | t + 1 => by
    have := rbF_le T t
    rw [rbF]
    split <;> omega
theorem Model_quarter (N : Nat) (x y : Int64) (b : Int32) (M : sw_M) : f_Model_quarter N x y b M = some (qr x y b, M) := by
  unfold f_Model_quarter f_Model_quarter_14 qr
  repeat' split
  all_goals rfl
theorem sh_orb : ∀ k, k < 6 → sw_sh (125 + 9 * k) = some (4, 0) ∧ sw_sh (125 + 9 * k + 1) = some (19, 4) ∧ sw_sh (125 + 9 * k + 2) = some (13, 241) ∧ sw_sh (125 + 9 * k + 3) = some (13, 241) ∧ sw_sh (125 + 9 * k + 4) = some (13, 241) ∧ sw_sh (125 + 9 * k + 5) = some (13, 241) ∧ sw_sh (125 + 9 * k + 6) = some (13, 240) ∧ sw_sh (125 + 9 * k + 7) = some (13, 64) ∧ sw_sh (125 + 9 * k + 8) = some (13, 64) := by decide
/-- an ORBIT's cells -/
def OQ (M : sw_M) (q : Nat) : Prop := (∃ k, k < 6 ∧ q = 125 + 9 * k) ∧ q + 8 ≤ rd_N M ∧ rd_R M q 4 = q + 1 ∧ rd_R M (q + 1) 0 = q + 2 ∧ rd_R M (q + 1) 1 = q + 3 ∧ rd_R M (q + 1) 2 = q + 4 ∧ rd_R M (q + 1) 3 = q + 5 ∧ rd_R M q 13 = q + 6 ∧ rd_R M q 15 = q + 7 ∧ rd_R M q 16 = q + 8
theorem OQ.ok {M : sw_M} {q : Nat} (h : OQ M q) : sw_ok M q 4 = true := by
  obtain ⟨⟨k, hk, rfl⟩, hn, _⟩ := h
  exact c_ok (sh_orb k hk).1 (by omega)
theorem OQ.a1 {M : sw_M} {q : Nat} (h : OQ M q) (i : Int32) : sw_ar M (q + 1) 19 i = sw_ti i 4 := by
  obtain ⟨⟨k, hk, rfl⟩, hn, _⟩ := h
  exact c_ar (sh_orb k hk).2.1 (by omega) i
theorem OQ.a2 {M : sw_M} {q : Nat} (h : OQ M q) (i : Int32) : sw_ar M (q + 2) 13 i = sw_ti i 241 := by
  obtain ⟨⟨k, hk, rfl⟩, hn, _⟩ := h
  exact c_ar (sh_orb k hk).2.2.1 (by omega) i
theorem OQ.a3 {M : sw_M} {q : Nat} (h : OQ M q) (i : Int32) : sw_ar M (q + 3) 13 i = sw_ti i 241 := by
  obtain ⟨⟨k, hk, rfl⟩, hn, _⟩ := h
  exact c_ar (sh_orb k hk).2.2.2.1 (by omega) i
theorem OQ.a4 {M : sw_M} {q : Nat} (h : OQ M q) (i : Int32) : sw_ar M (q + 4) 13 i = sw_ti i 241 := by
  obtain ⟨⟨k, hk, rfl⟩, hn, _⟩ := h
  exact c_ar (sh_orb k hk).2.2.2.2.1 (by omega) i
theorem OQ.a5 {M : sw_M} {q : Nat} (h : OQ M q) (i : Int32) : sw_ar M (q + 5) 13 i = sw_ti i 241 := by
  obtain ⟨⟨k, hk, rfl⟩, hn, _⟩ := h
  exact c_ar (sh_orb k hk).2.2.2.2.2.1 (by omega) i
theorem OQ.a6 {M : sw_M} {q : Nat} (h : OQ M q) (i : Int32) : sw_ar M (q + 6) 13 i = sw_ti i 240 := by
  obtain ⟨⟨k, hk, rfl⟩, hn, _⟩ := h
  exact c_ar (sh_orb k hk).2.2.2.2.2.2.1 (by omega) i
theorem OQ.a7 {M : sw_M} {q : Nat} (h : OQ M q) (i : Int32) : sw_ar M (q + 7) 13 i = sw_ti i 64 := by
  obtain ⟨⟨k, hk, rfl⟩, hn, _⟩ := h
  exact c_ar (sh_orb k hk).2.2.2.2.2.2.2.1 (by omega) i
theorem OQ.a8 {M : sw_M} {q : Nat} (h : OQ M q) (i : Int32) : sw_ar M (q + 8) 13 i = sw_ti i 64 := by
  obtain ⟨⟨k, hk, rfl⟩, hn, _⟩ := h
  exact c_ar (sh_orb k hk).2.2.2.2.2.2.2.2 (by omega) i
theorem OQ.o6 {M : sw_M} {q : Nat} (h : OQ M q) : sw_oka M (q + 6) = true := by
  obtain ⟨⟨k, hk, rfl⟩, hn, _⟩ := h
  exact c_oka (sh_orb k hk).2.2.2.2.2.2.1 (by decide) (by omega)
theorem OQ.o7 {M : sw_M} {q : Nat} (h : OQ M q) : sw_oka M (q + 7) = true := by
  obtain ⟨⟨k, hk, rfl⟩, hn, _⟩ := h
  exact c_oka (sh_orb k hk).2.2.2.2.2.2.2.1 (by decide) (by omega)
theorem OQ.o8 {M : sw_M} {q : Nat} (h : OQ M q) : sw_oka M (q + 8) = true := by
  obtain ⟨⟨k, hk, rfl⟩, hn, _⟩ := h
  exact c_oka (sh_orb k hk).2.2.2.2.2.2.2.2 (by decide) (by omega)
theorem OQ.l6 {M : sw_M} {q : Nat} (h : OQ M q) : sw_len (q + 6) = 240 := by
  obtain ⟨⟨k, hk, rfl⟩, hn, _⟩ := h
  exact c_len (sh_orb k hk).2.2.2.2.2.2.1
theorem OQ.l7 {M : sw_M} {q : Nat} (h : OQ M q) : sw_len (q + 7) = 64 := by
  obtain ⟨⟨k, hk, rfl⟩, hn, _⟩ := h
  exact c_len (sh_orb k hk).2.2.2.2.2.2.2.1
theorem OQ.l8 {M : sw_M} {q : Nat} (h : OQ M q) : sw_len (q + 8) = 64 := by
  obtain ⟨⟨k, hk, rfl⟩, hn, _⟩ := h
  exact c_len (sh_orb k hk).2.2.2.2.2.2.2.2
theorem OQ.n1 {M : sw_M} {q : Nat} (h : OQ M q) (i : Int32) : sw_ar M (q + 1) 17 i = false := by
  obtain ⟨⟨k, hk, rfl⟩, hn, _⟩ := h
  exact c_arn (sh_orb k hk).2.1 rfl i
theorem OQ.n2 {M : sw_M} {q : Nat} (h : OQ M q) (i : Int32) : sw_ar M (q + 1) 18 i = false := by
  obtain ⟨⟨k, hk, rfl⟩, hn, _⟩ := h
  exact c_arn (sh_orb k hk).2.1 rfl i
theorem OQ.ge {M : sw_M} {q : Nat} (h : OQ M q) : 125 ≤ q := by
  obtain ⟨⟨k, hk, rfl⟩, _⟩ := h
  omega
theorem OQ.r4 {M : sw_M} {q : Nat} (h : OQ M q) : rd_R M q 4 = q + 1 := h.2.2.1
theorem OQ.t0 {M : sw_M} {q : Nat} (h : OQ M q) : rd_R M (q + 1) 0 = q + 2 := h.2.2.2.1
theorem OQ.t1 {M : sw_M} {q : Nat} (h : OQ M q) : rd_R M (q + 1) 1 = q + 3 := h.2.2.2.2.1
theorem OQ.t2 {M : sw_M} {q : Nat} (h : OQ M q) : rd_R M (q + 1) 2 = q + 4 := h.2.2.2.2.2.1
theorem OQ.t3 {M : sw_M} {q : Nat} (h : OQ M q) : rd_R M (q + 1) 3 = q + 5 := h.2.2.2.2.2.2.1
theorem OQ.r13 {M : sw_M} {q : Nat} (h : OQ M q) : rd_R M q 13 = q + 6 := h.2.2.2.2.2.2.2.1
theorem OQ.r15 {M : sw_M} {q : Nat} (h : OQ M q) : rd_R M q 15 = q + 7 := h.2.2.2.2.2.2.2.2.1
theorem OQ.r16 {M : sw_M} {q : Nat} (h : OQ M q) : rd_R M q 16 = q + 8 := h.2.2.2.2.2.2.2.2.2
theorem Fr.oq {A : Nat → Nat → Prop} {M W : sw_M} (h : Fr A M W) {q : Nat} (g : OQ M q) : OQ W q := by
  unfold OQ
  simp only [h.R, h.N]
  exact g
theorem cl_0 : (0 : Int32).toNatClampNeg = 0 := by decide
theorem cl_1 : (1 : Int32).toNatClampNeg = 1 := by decide
theorem cl_2 : (2 : Int32).toNatClampNeg = 2 := by decide
theorem cl_3 : (3 : Int32).toNatClampNeg = 3 := by decide
theorem ti_04 : sw_ti (0 : Int32) 4 = true := by decide
theorem ti_14 : sw_ti (1 : Int32) 4 = true := by decide
theorem ti_24 : sw_ti (2 : Int32) 4 = true := by decide
theorem ti_34 : sw_ti (3 : Int32) 4 = true := by decide
theorem ne_q1 (q : Nat) : (q + 1 = q) = False := by simp
theorem Orbit_quarterAt (N : Nat) (M : sw_M) (q : Nat) (hq : sw_ok M q 4 = true) (x y : Int64) : f_Orbit_quarterAt N q x y M = some (qr x y (rd_I M q 10), M) := by
  unfold f_Orbit_quarterAt f_Orbit_quarterAt_14 qr
  rw [hq]
  simp only [gd_T]
  repeat' split
  all_goals rfl
/-- the memory behind a mark -/
def mkW (M : sw_M) (q t : Nat) (s : SS) : sw_M :=
  wr_L (wr_L (wr_L (wr_L (wr_I (wr_I (wr_I (wr_I M (q + 2) t s.x.toInt32) (q + 3) t s.y.toInt32) (q + 4) t s.u.toInt32) (q + 5) t s.v.toInt32) q 7 (m_minL (rd_L M q 7) (sqS s))) q 8 (m_maxL (rd_L M q 8) (sqS s))) q 11 (m_minL (rd_L M q 11) (spS s))) q 12 (m_maxL (rd_L M q 12) (spS s))
set_option maxHeartbeats 2000000 in
theorem Orbit_mark (N : Nat) (M : sw_M) (q : Nat) (hq : OQ M q) (h35 : sw_ok M 35 8 = true) (s : SS) (hs : StS M 35 s) (t : Nat) (ht : t ≤ 240) (h5 : rd_I M q 5 = nI t) : f_Orbit_mark N q 35 M = some (mkW M q t s) := by
  obtain ⟨s0, s1, s2, s3, s4, s5⟩ := hs
  have hge := hq.ge
  have n35 : ¬ 35 = q := by omega
  rw [f_Orbit_mark, hq.ok, gd_T, h5, if_neg (nI_pos (by omega)), if_neg (i32_nlt (by rw [nI_toInt (by omega), show (240 : Int32).toInt = 240 from by decide]; omega))]
  simp only [f_Orbit_mark_81, f_Orbit_mark_172, m_II, m_LL, m_RR, m_IL, m_IR, m_LI, m_LR, m_RI, m_RL, m_NI, m_NL, m_NR, m_okI, m_okL, m_okR, m_okaI, m_okaL, m_okaR, m_arI, m_arL, m_arR, gd_T, bn_S, Nat.reduceEqDiff, and_false, and_true, false_and, true_and, if_false, if_true, cl_0, cl_1, cl_2, cl_3, hq.r4, hq.t0, hq.t1, hq.t2, hq.t3, hq.a1, hq.a2, hq.a3, hq.a4, hq.a5, hq.n1, hq.n2, hq.ok, h35, ti_04, ti_14, ti_24, ti_34, Bool.false_or, Bool.or_true, h5, cl_n (show t < 2 ^ 31 by omega), ti_n (show t < 241 by omega) (by decide), s0, s1, s2, s3, n35, Nat.left_eq_add, Nat.add_eq_left, Nat.reduceEqDiff]
  rfl
