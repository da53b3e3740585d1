/-! 97zm: a PART's line in the house, end -/
theorem hspeed (N : Nat) (hN : 1000 ≤ N) {M : sw_M} {T : Nat → Nat} {n b q : Nat} (g : HB M T n b) (hq : QP q) : HSp T n (fun a k => A8 a k ∨ (a = q ∧ (k = 3 ∨ k = 4))) M (f_Reader_speed N 17 q M) (prs T n 99 b) (fun r W => rd_I W q 3 = r.1 ∧ rd_I W q 4 = r.2) := by
  have q17 : ¬ q = 17 ∧ ¬ q = 18 ∧ ¬ q = 2 := by unfold QP at hq; omega
  unfold f_Reader_speed prs
  rw [ok_17 g.1.1.1, gd_T]
  refine HSp.bind (K := fun V => sw_gd [sw_ok V 17 6] (sw_gd [sw_ok V q 5] ((f_Reader_signed N 17 (99 : Int32) (wr_I V q 3 (rd_I V 17 8))).bind (fun u5 => if u5.1 = 0 then some ((0 : Int32), u5.2) else sw_gd [sw_ok u5.2 17 6] (sw_gd [sw_ok u5.2 q 5] (some ((1 : Int32), (wr_I u5.2 q 4 (rd_I u5.2 17 8)))))))))
    (hsig N hN g 99 (by omega)) (fun a k h => Or.inl h) (fun v b' W w1 w2 w3 => ?_)
  show HSp T n _ W (sw_gd [sw_ok W 17 6] (sw_gd [sw_ok W q 5] _)) _ _
  rw [ok_17 w2.1.1.1, gd_T, qp_ok hq w2.1.1, gd_T, w3]
  have g2 := w2.wq hq 3 v
  have f2 : Fr (fun a k => A8 a k ∨ (a = q ∧ (k = 3 ∨ k = 4))) W (wr_I W q 3 v) := (Fr.refl _ W).wI _ _ _ (Or.inr ⟨rfl, by omega⟩)
  have x1 : rd_I (wr_I W q 3 v) q 3 = v := w_s _ _ _ _
  refine HSp.mono (A := fun a k => A8 a k ∨ (a = q ∧ k = 4)) (M := wr_I W q 3 v) (post := fun r Z => rd_I Z q 3 = r.1 ∧ rd_I Z q 4 = r.2) ?_ f2 (fun a k h => h.elim Or.inl (fun h => Or.inr ⟨h.1, Or.inr h.2⟩)) (fun v Z _ h => h)
  refine HSp.bind (K := fun V => sw_gd [sw_ok V 17 6] (sw_gd [sw_ok V q 5] (some ((1 : Int32), (wr_I V q 4 (rd_I V 17 8)))))) (hsig N hN g2 99 (by omega)) (fun a k h => Or.inl h) (fun y b3 X y1 y2 y3 => ?_)
  refine ⟨wr_I X q 4 (rd_I X 17 8), ?_, (Fr.refl _ X).wI _ _ _ (Or.inr ⟨rfl, rfl⟩), y2.wq hq 4 _, ?_, ?_⟩
  · show sw_gd [sw_ok X 17 6] (sw_gd [sw_ok X q 5] _) = _
    rw [ok_17 y2.1.1.1, gd_T, qp_ok hq y2.1.1, gd_T]
  · rw [w_o (by omega), y1.I q 3 (by unfold A8; omega)]
    exact x1
  · rw [w_s]; exact y3
theorem hspot (N : Nat) (hN : 1000 ≤ N) {M : sw_M} {T : Nat → Nat} {n b q : Nat} (g : HB M T n b) (hq : QP q) : HSp T n (fun a k => A8 a k ∨ (a = q ∧ (k = 1 ∨ k = 2))) M (f_Reader_spot N 17 q M) (prs T n 9999 b) (fun r W => rd_I W q 1 = r.1 ∧ rd_I W q 2 = r.2) := by
  have q17 : ¬ q = 17 ∧ ¬ q = 18 ∧ ¬ q = 2 := by unfold QP at hq; omega
  unfold f_Reader_spot prs
  rw [ok_17 g.1.1.1, gd_T]
  refine HSp.bind (K := fun V => sw_gd [sw_ok V 17 6] (sw_gd [sw_ok V q 5] ((f_Reader_signed N 17 (9999 : Int32) (wr_I V q 1 (rd_I V 17 8))).bind (fun u5 => if u5.1 = 0 then some ((0 : Int32), u5.2) else sw_gd [sw_ok u5.2 17 6] (sw_gd [sw_ok u5.2 q 5] (some ((1 : Int32), (wr_I u5.2 q 2 (rd_I u5.2 17 8)))))))))
    (hsig N hN g 9999 (by omega)) (fun a k h => Or.inl h) (fun v b' W w1 w2 w3 => ?_)
  show HSp T n _ W (sw_gd [sw_ok W 17 6] (sw_gd [sw_ok W q 5] _)) _ _
  rw [ok_17 w2.1.1.1, gd_T, qp_ok hq w2.1.1, gd_T, w3]
  have g2 := w2.wq hq 1 v
  have f2 : Fr (fun a k => A8 a k ∨ (a = q ∧ (k = 1 ∨ k = 2))) W (wr_I W q 1 v) := (Fr.refl _ W).wI _ _ _ (Or.inr ⟨rfl, by omega⟩)
  have x1 : rd_I (wr_I W q 1 v) q 1 = v := w_s _ _ _ _
  refine HSp.mono (A := fun a k => A8 a k ∨ (a = q ∧ k = 2)) (M := wr_I W q 1 v) (post := fun r Z => rd_I Z q 1 = r.1 ∧ rd_I Z q 2 = r.2) ?_ f2 (fun a k h => h.elim Or.inl (fun h => Or.inr ⟨h.1, Or.inr h.2⟩)) (fun v Z _ h => h)
  refine HSp.bind (K := fun V => sw_gd [sw_ok V 17 6] (sw_gd [sw_ok V q 5] (some ((1 : Int32), (wr_I V q 2 (rd_I V 17 8)))))) (hsig N hN g2 9999 (by omega)) (fun a k h => Or.inl h) (fun y b3 X y1 y2 y3 => ?_)
  refine ⟨wr_I X q 2 (rd_I X 17 8), ?_, (Fr.refl _ X).wI _ _ _ (Or.inr ⟨rfl, rfl⟩), y2.wq hq 2 _, ?_, ?_⟩
  · show sw_gd [sw_ok X 17 6] (sw_gd [sw_ok X q 5] _) = _
    rw [ok_17 y2.1.1.1, gd_T, qp_ok hq y2.1.1, gd_T]
  · rw [w_o (by omega), y1.I q 1 (by unfold A8; omega)]
    exact x1
  · rw [w_s]; exact y3
def pst (M W : sw_M) (q kd : Nat) (r : Int32 × Option Int32 × Int32 × Int32) : Prop := rd_I W q 5 = r.1 ∧ rd_I W q 6 = r.2.2.1 ∧ (kd = 3 → rd_I W q 7 = r.2.2.2) ∧ SPh M W q r.1 r.2.1
theorem pst.tr {M M' W : sw_M} {q kd : Nat} {r : Int32 × Option Int32 × Int32 × Int32} (h : pst M' W q kd r) (e1 : rd_I M' q 8 = rd_I M q 8) (e2 : rd_I M' 17 2 = rd_I M 17 2) (e3 : ∀ k, 3 ≤ k → k ≤ 5 → rd_I M' 18 k = rd_I M 18 k) : pst M W q kd r :=
  ⟨h.1, h.2.1, h.2.2.1, h.2.2.2.tr e1 e2 e3 rfl rfl (fun _ _ _ => rfl)⟩
theorem h43 (N : Nat) (hN : 1000 ≤ N) {M : sw_M} {T : Nat → Nat} {n b q kd : Nat} {sp : Bool} (g : HB M T n b) (hq : QP q) (hk : kd < 5) (hsp : rd_I M 17 2 = spI sp) (z3 : rd_I M q 3 = 0) (z4 : rd_I M q 4 = 0) : HSp T n (A3h q) M (f_Reader_part_43 N 17 (nI (20 + kd)) q M) (p3 T n kd sp b) (fun r W => rd_I W q 3 = r.1 ∧ rd_I W q 4 = r.2.1 ∧ pst M W q kd r.2.2) := by
  have q17 : ¬ q = 17 ∧ ¬ q = 18 ∧ ¬ q = 2 := by unfold QP at hq; omega
  unfold f_Reader_part_43 p3
  have fin : ∀ (X : sw_M) (b2 : Nat) (u v : Int32), HB X T n b2 → Fr (A3h q) M X → rd_I X q 3 = u → rd_I X q 4 = v → rd_I X q 8 = rd_I M q 8 → rd_I X 17 2 = rd_I M 17 2 → (∀ k, 3 ≤ k → k ≤ 5 → rd_I X 18 k = rd_I M 18 k) → HSp T n (A3h q) M (f_Reader_part_59 N 17 (nI (20 + kd)) q X) (pbn (p2 T n kd sp b2) (fun r b3 => Sum.inr ((u, v, r), b3))) (fun r W => rd_I W q 3 = r.1 ∧ rd_I W q 4 = r.2.1 ∧ pst M W q kd r.2.2) := fun X b2 u v gX fX x3 x4 x8 x2 x18 => by
    have h := h59 N hN (sp := sp) gX hq hk (x2.trans hsp)
    cases hs : p2 T n kd sp b2 with
    | inl e =>
      rw [hs] at h
      obtain ⟨f, p⟩ := e
      obtain ⟨Z, z1, z2, z3⟩ := h
      exact ⟨Z, z1, fX.trans (z2.mono (fun a k h => Or.inl h)), z3⟩
    | inr e =>
      rw [hs] at h
      obtain ⟨st, b3⟩ := e
      obtain ⟨Z, z1, z2, z3, z4⟩ := h
      have z4' : pst X Z q kd st := z4
      exact ⟨Z, z1, fX.trans (z2.mono (fun a k h => Or.inl h)), z3, (z2.I q 3 (by unfold A2h A1h A8; omega)).trans x3, (z2.I q 4 (by unfold A2h A1h A8; omega)).trans x4, z4'.tr x8 x2 x18⟩
  by_cases c : kd = 4
  · subst c
    rw [if_pos (by rfl), if_pos rfl, ok_17 g.1.1.1, gd_T]
    refine HSp.bind (K := fun V => f_Reader_part_59 N 17 (nI (20 + 4)) q V) (hspeed N hN g hq) (fun a k h => h.elim (fun h => Or.inl (Or.inl (Or.inl h))) (fun h => Or.inr h)) (fun uv b2 X x1 x2 x3 => ?_)
    have e8 : rd_I X q 8 = rd_I M q 8 := x1.I q 8 (by unfold A8; omega)
    have e2 : rd_I X 17 2 = rd_I M 17 2 := x1.I 17 2 (by unfold A8; omega)
    have e18 : ∀ k, 3 ≤ k → k ≤ 5 → rd_I X 18 k = rd_I M 18 k := fun k _ _ => x1.I 18 k (by unfold A8; omega)
    have h := h59 N hN (sp := sp) x2 hq hk (e2.trans hsp)
    show HSp T n (A3h q) X (f_Reader_part_59 N 17 (nI (20 + 4)) q X) (pbn (p2 T n 4 sp b2) (fun r b3 => Sum.inr ((uv.1, uv.2, r), b3))) _
    cases hs : p2 T n 4 sp b2 with
    | inl e =>
      rw [hs] at h
      obtain ⟨f, p⟩ := e
      obtain ⟨Z, z1, z2, z3⟩ := h
      exact ⟨Z, z1, z2.mono (fun a k h => Or.inl h), z3⟩
    | inr e =>
      rw [hs] at h
      obtain ⟨st, b3⟩ := e
      obtain ⟨Z, z1, z2, z3, z4⟩ := h
      have z4' : pst X Z q 4 st := z4
      exact ⟨Z, z1, z2.mono (fun a k h => Or.inl h), z3, (z2.I q 3 (by unfold A2h A1h A8; omega)).trans x3.1, (z2.I q 4 (by unfold A2h A1h A8; omega)).trans x3.2, z4'.tr e8 e2 e18⟩
  · rw [if_neg (show ¬ nI (20 + kd) = (24 : Int32) from fun h => by have h2 : 20 + kd = 24 := (nI_eq (by omega) (by decide)).1 (h : nI _ = nI 24); omega), if_neg c]
    exact fin M b 0 0 g (Fr.refl _ _) z3 z4 rfl rfl (fun _ _ _ => rfl)
abbrev PT : Type := Int32 × Int32 × Int32 × Int32 × Int32 × Option Int32 × Int32 × Int32
def ps8 (M W : sw_M) (q kd : Nat) (r : PT) : Prop := rd_I W q 1 = r.1 ∧ rd_I W q 2 = r.2.1 ∧ rd_I W q 3 = r.2.2.1 ∧ rd_I W q 4 = r.2.2.2.1 ∧ pst M W q kd r.2.2.2.2
def A5h (q a k : Nat) : Prop := A4h q a k ∨ (a = q ∧ k ≤ 8) ∨ (a = 18 ∧ k = 2)
def dpa (M : sw_M) (i : Nat) : Nat := rd_R M (rd_R M 18 0) i
theorem dpa_in {M : sw_M} (h : HR M) {i : Nat} (hi : i < 8) : (rd_R M 18 0 = 4 ∧ dpa M i = 9 + i) ∨ (rd_R M 18 0 = 19 ∧ dpa M i = 24 + i) := by
  rcases h.2.1 with e | e
  · refine Or.inr ⟨e.2.2.1, ?_⟩
    unfold dpa
    rw [e.2.2.1]
    exact hr_f h 19 i _ (if_pos hi) (by omega)
  · refine Or.inl ⟨e.2.2.1, ?_⟩
    unfold dpa
    rw [e.2.2.1]
    exact hr_f h 4 i _ (if_pos hi) (by omega)
theorem dpa_q {M : sw_M} (h : HR M) {i : Nat} (hi : i < 8) : QP (dpa M i) := by
  rcases dpa_in h hi with e | e <;> rw [e.2] <;> unfold QP <;> omega
