/-! 97zn: a PART's line in the house, all of it; and what may stand in it -/
theorem h35 (N : Nat) (hN : 1000 ≤ N) {M : sw_M} {T : Nat → Nat} {n b q kd : Nat} {sp : Bool} (g : HB M T n b) (hq : QP q) (hk : kd = 0 ∨ kd = 4) (hsp : rd_I M 17 2 = spI sp) (z3 : rd_I M q 3 = 0) (z4 : rd_I M q 4 = 0) : HSp T n (A4h q) M (f_Reader_part_35 N 17 (nI (20 + kd)) q M) (p4 T n kd sp b) (fun r W => ps8 M W q kd r) := by
  have q17 : ¬ q = 17 ∧ ¬ q = 18 ∧ ¬ q = 2 := by unfold QP at hq; omega
  unfold f_Reader_part_35 p4
  rw [ok_17 g.1.1.1, gd_T, if_pos hk]
  refine HSp.bind (K := fun V => f_Reader_part_43 N 17 (nI (20 + kd)) q V) (hspot N hN g hq) (fun a k h => h.elim (fun h => Or.inl (Or.inl (Or.inl (Or.inl h)))) (fun h => Or.inr h)) (fun xy b2 X x1 x2 x3 => ?_)
  have e8 : rd_I X q 8 = rd_I M q 8 := x1.I q 8 (by unfold A8; omega)
  have e2 : rd_I X 17 2 = rd_I M 17 2 := x1.I 17 2 (by unfold A8; omega)
  have e18 : ∀ k, 3 ≤ k → k ≤ 5 → rd_I X 18 k = rd_I M 18 k := fun k _ _ => x1.I 18 k (by unfold A8; omega)
  have h := h43 N hN (sp := sp) x2 hq (show kd < 5 by omega) (e2.trans hsp) ((x1.I q 3 (by unfold A8; omega)).trans z3) ((x1.I q 4 (by unfold A8; omega)).trans z4)
  show HSp T n (A4h q) X (f_Reader_part_43 N 17 (nI (20 + kd)) q X) (pbn (p3 T n kd sp b2) (fun r b3 => Sum.inr ((xy.1, xy.2, r), b3))) _
  cases hs : p3 T n kd sp b2 with
  | inl e =>
    rw [hs] at h
    obtain ⟨f, p⟩ := e
    obtain ⟨Z, z1, z2, z3⟩ := h
    exact ⟨Z, z1, z2.mono (fun a k h => Or.inl h), z3⟩
  | inr e =>
    rw [hs] at h
    obtain ⟨st, b3⟩ := e
    obtain ⟨Z, z1, z2, z3, z4, z5, z6⟩ := h
    exact ⟨Z, z1, z2.mono (fun a k h => Or.inl h), z3, (z2.I q 1 (by unfold A3h A2h A1h A8; omega)).trans x3.1, (z2.I q 2 (by unfold A3h A2h A1h A8; omega)).trans x3.2, z4, z5, z6.tr e8 e2 e18⟩
theorem h43b (N : Nat) (hN : 1000 ≤ N) {M : sw_M} {T : Nat → Nat} {n b q kd : Nat} {sp : Bool} (g : HB M T n b) (hq : QP q) (hk : kd = 1 ∨ kd = 2 ∨ kd = 3) (hsp : rd_I M 17 2 = spI sp) (z1 : rd_I M q 1 = 0) (z2 : rd_I M q 2 = 0) (z3 : rd_I M q 3 = 0) (z4 : rd_I M q 4 = 0) : HSp T n (A4h q) M (f_Reader_part_43 N 17 (nI (20 + kd)) q M) (p4 T n kd sp b) (fun r W => ps8 M W q kd r) := by
  have q17 : ¬ q = 17 ∧ ¬ q = 18 ∧ ¬ q = 2 := by unfold QP at hq; omega
  unfold p4
  rw [if_neg (by omega)]
  have h := h43 N hN (sp := sp) g hq (show kd < 5 by omega) hsp z3 z4
  cases hs : p3 T n kd sp b with
  | inl e =>
    rw [hs] at h
    obtain ⟨f, p⟩ := e
    obtain ⟨Z, y1, y2, y3⟩ := h
    exact ⟨Z, y1, y2.mono (fun a k h => Or.inl h), y3⟩
  | inr e =>
    rw [hs] at h
    obtain ⟨st, b3⟩ := e
    obtain ⟨Z, y1, y2, y3, y4, y5, y6⟩ := h
    exact ⟨Z, y1, y2.mono (fun a k h => Or.inl h), y3, (y2.I q 1 (by unfold A3h A2h A1h A8; omega)).trans z1, (y2.I q 2 (by unfold A3h A2h A1h A8; omega)).trans z2, y4, y5, y6⟩
def pt (T : Nat → Nat) (n kd cnt : Nat) (sp : Bool) (b : Nat) : PE PT := if cnt = 8 then Sum.inl (2, pl T n b) else p4 T n kd sp (nd T n b)
theorem HB.w17 {M W : sw_M} {T : Nat → Nat} {n b : Nat} (g : HB M T n b) {A : Nat → Nat → Prop} (h : Fr A M W) (h1 : ∀ k, ¬ A 17 k) (h2 : ∀ k, ¬ A 2 k) : HB W T n b := g.fr h (fun k _ _ => h1 k) h2
def PH (M W : sw_M) (q kd : Nat) (r : PT) : Prop := rd_I W q 0 = nI (20 + kd) ∧ rd_I W q 1 = r.1 ∧ rd_I W q 2 = r.2.1 ∧ rd_I W q 3 = r.2.2.1 ∧ rd_I W q 4 = r.2.2.2.1 ∧ rd_I W q 5 = r.2.2.2.2.1 ∧ rd_I W q 6 = r.2.2.2.2.2.2.1 ∧ (kd = 3 → rd_I W q 7 = r.2.2.2.2.2.2.2) ∧ match r.2.2.2.2.2.1 with
  | none => rd_I W q 8 = 0 ∧ rd_I W 17 2 = rd_I M 17 2 ∧ rd_I W 18 3 = rd_I M 18 3 ∧ rd_I W 18 4 = rd_I M 18 4 ∧ rd_I W 18 5 = rd_I M 18 5
  | some h => rd_I W q 8 = 1 ∧ rd_I W 17 2 = 1 ∧ rd_I W 18 3 = r.2.2.2.2.1 ∧ rd_I W 18 4 = h ∧ rd_I W 18 5 = r.2.2.2.2.1
theorem PH_of {M X W : sw_M} {q kd : Nat} {r : PT} (h : ps8 X W q kd r) (h0 : rd_I W q 0 = nI (20 + kd)) (e8 : rd_I X q 8 = 0) (e2 : rd_I X 17 2 = rd_I M 17 2) (e18 : ∀ k, 3 ≤ k → k ≤ 5 → rd_I X 18 k = rd_I M 18 k) : PH M W q kd r := by
  obtain ⟨a1, a2, a3, a4, a5, a6, a7, a8⟩ := h
  refine ⟨h0, a1, a2, a3, a4, a5, a6, a7, ?_⟩
  obtain ⟨x, y, u, v, m, so, s, t⟩ := r
  cases so with
  | none =>
    obtain ⟨b1, b2, b3, b4, b5⟩ := a8
    exact ⟨b1.trans e8, b2.trans e2, b3.trans (e18 3 (by omega) (by omega)), b4.trans (e18 4 (by omega) (by omega)), b5.trans (e18 5 (by omega) (by omega))⟩
  | some h => exact a8
theorem hpart (N : Nat) (hN : 1000 ≤ N) {M : sw_M} {T : Nat → Nat} {n b kd cnt q : Nat} {sp : Bool} (g : HB M T n b) (hk : kd < 5) (hc : cnt ≤ 8) (h2 : rd_I M 18 2 = nI cnt) (hsp : rd_I M 17 2 = spI sp) (hq0 : cnt < 8 → q = dpa M cnt) :
    HSp T n (A5h q) M (f_Reader_part N 17 (nI (20 + kd)) M) (pt T n kd cnt sp b) (fun r W => rd_I W 18 2 = nI (cnt + 1) ∧ PH M W q kd r) := by
  have hH := g.1.1
  unfold f_Reader_part pt
  rw [ok_17 hH.1, gd_T, hr_f hH 17 1 18 rfl (by decide), ok_18 hH.1, gd_T]
  unfold f_Field_addPart
  rw [ok_18 hH.1, gd_T, h2, if_neg (show ¬ nI cnt < 0 from (nI_nlt (Nat.zero_le _) (by omega) : ¬ nI cnt < nI 0))]
  have hoka : sw_oka M (rd_R M 18 0) = true ∧ sw_len (rd_R M 18 0) = 8 := by
    rcases hH.2.1 with e | e <;> rw [e.2.2.1]
    · exact ⟨oa_19 hH.1, rfl⟩
    · exact ⟨oa_4 hH.1, rfl⟩
  rw [hoka.1, gd_T, hoka.2]
  by_cases c8 : cnt = 8
  · rw [if_pos c8, if_neg (show ¬ nI cnt < nI 8 from nI_nlt (by omega) (by omega)), bn_S]
    show HSp T n (A5h q) M (sw_gd [sw_ok M 17 6] ((f_Reader_wrong N 17 (nI 2) M).bind (fun u7 => sw_gd [sw_bz u7.1] (some (u7.1, u7.2))))) _ _
    obtain ⟨W, w1, w2, w3⟩ := g.wrong N 2 (by omega) (by omega)
    rw [ok_17 hH.1, gd_T, w1]
    exact ⟨W, rfl, w2.mono (fun a k h => Or.inl (Or.inl (Or.inl (Or.inl (Or.inl h))))), w3⟩
  · have hc7 : cnt < 8 := by omega
    obtain rfl := hq0 hc7
    have hq := dpa_q hH hc7
    have q17 : ¬ dpa M cnt = 17 ∧ ¬ dpa M cnt = 18 ∧ ¬ dpa M cnt = 2 ∧ ¬ dpa M cnt = 0 := by unfold QP at hq; omega
    have i8 : sw_ti (nI cnt) 8 = true := ti_n (by omega) (by decide)
    have har : (sw_ar M (rd_R M 18 0) 17 (nI cnt) || (sw_ar M (rd_R M 18 0) 18 (nI cnt) || sw_ar M (rd_R M 18 0) 19 (nI cnt))) = true := by
      rcases hH.2.1 with e | e <;> rw [e.2.2.1]
      · rw [an_19_17, ar_19 hH.1, i8]; rfl
      · rw [an_4_17, ar_4 hH.1, i8]; rfl
    rw [if_neg c8, if_pos (show nI cnt < nI 8 from nI_lt hc7 (by omega)), har, gd_T, cl_n (show cnt < 2 ^ 31 by omega)]
    show HSp T n _ M ((if dpa M cnt = 0 then some (dpa M cnt, M) else sw_gd [sw_ok M (dpa M cnt) 5] ((f_Part_clear N (dpa M cnt) (nI (20 + kd)) M).bind (fun u5 => sw_gd [sw_ok u5 18 0] (some (dpa M cnt, (wr_I u5 18 2 ((rd_I u5 18 2) + (1 : Int32)))))))).bind _) _ _
    generalize dpa M cnt = q at *
    rw [if_neg q17.2.2.2, qp_ok hq hH, gd_T]
    unfold f_Part_clear
    rw [qp_ok hq hH, gd_T, bn_S]
    have fX : Fr (fun a k => a = q ∧ k ≤ 8) M (wr_I (wr_I (wr_I (wr_I (wr_I (wr_I (wr_I (wr_I (wr_I M q 0 (nI (20 + kd))) q 1 (0 : Int32)) q 2 (0 : Int32)) q 3 (0 : Int32)) q 4 (0 : Int32)) q 5 (0 : Int32)) q 6 (1 : Int32)) q 7 (1 : Int32)) q 8 (0 : Int32)) := (((((((((Fr.refl _ M).wI _ _ _ ⟨rfl, by omega⟩).wI _ _ _ ⟨rfl, by omega⟩).wI _ _ _ ⟨rfl, by omega⟩).wI _ _ _ ⟨rfl, by omega⟩).wI _ _ _ ⟨rfl, by omega⟩).wI _ _ _ ⟨rfl, by omega⟩).wI _ _ _ ⟨rfl, by omega⟩).wI _ _ _ ⟨rfl, by omega⟩).wI _ _ _ ⟨rfl, by omega⟩
    have y0 : ∀ k, k ≤ 8 → rd_I (wr_I (wr_I (wr_I (wr_I (wr_I (wr_I (wr_I (wr_I (wr_I M q 0 (nI (20 + kd))) q 1 (0 : Int32)) q 2 (0 : Int32)) q 3 (0 : Int32)) q 4 (0 : Int32)) q 5 (0 : Int32)) q 6 (1 : Int32)) q 7 (1 : Int32)) q 8 (0 : Int32)) q k = if k = 0 then nI (20 + kd) else if k = 6 ∨ k = 7 then 1 else 0 := fun k hk => by
      simp only [m_II, true_and]
      rcases (by omega : k = 0 ∨ k = 1 ∨ k = 2 ∨ k = 3 ∨ k = 4 ∨ k = 5 ∨ k = 6 ∨ k = 7 ∨ k = 8) with rfl | rfl | rfl | rfl | rfl | rfl | rfl | rfl | rfl <;> rfl
    generalize wr_I (wr_I (wr_I (wr_I (wr_I (wr_I (wr_I (wr_I (wr_I M q 0 (nI (20 + kd))) q 1 (0 : Int32)) q 2 (0 : Int32)) q 3 (0 : Int32)) q 4 (0 : Int32)) q 5 (0 : Int32)) q 6 (1 : Int32)) q 7 (1 : Int32)) q 8 (0 : Int32) = X at *
    have gX : HB X T n b := g.w17 fX (fun k => by omega) (fun k => by omega)
    have hX := gX.1.1
    have x2 : rd_I X 18 2 = nI cnt := (fX.I 18 2 (by omega)).trans h2
    rw [ok_18 hX.1, gd_T, bn_S, x2, nI_1]
    have fY : Fr (A5h q) M (wr_I X 18 2 (nI (cnt + 1))) := (fX.mono (fun a k h => Or.inr (Or.inl h))).wI _ _ _ (Or.inr (Or.inr ⟨rfl, rfl⟩))
    have gY : HB (wr_I X 18 2 (nI (cnt + 1))) T n b := gX.w17 (A := fun a k => a = 18) ((Fr.refl _ X).wI _ _ _ rfl) (fun k => by omega) (fun k => by omega)
    have yr : ∀ a k, ¬ (a = 18 ∧ k = 2) → rd_I (wr_I X 18 2 (nI (cnt + 1))) a k = rd_I X a k := fun a k h => w_o h _ _
    have y2 : rd_I (wr_I X 18 2 (nI (cnt + 1))) 18 2 = nI (cnt + 1) := w_s _ _ _ _
    generalize wr_I X 18 2 (nI (cnt + 1)) = Y at *
    obtain ⟨Z, z1, z2, z3⟩ := gY.adv N hN
    have zr : ∀ a k, ¬ (a = 18 ∧ k = 2) → ¬ A17 a k → rd_I Z a k = rd_I X a k := fun a k h h' => (z2.I a k h').trans (yr a k h)
    have zq : ∀ k, k ≤ 8 → rd_I Z q k = if k = 0 then nI (20 + kd) else if k = 6 ∨ k = 7 then 1 else 0 := fun k hk => (zr q k (by omega) (by unfold A17; omega)).trans (y0 k hk)
    have z17 : rd_I Z 17 2 = rd_I M 17 2 := (zr 17 2 (by omega) (by unfold A17; omega)).trans (fX.I 17 2 (by omega))
    have z18 : ∀ k, 3 ≤ k → k ≤ 5 → rd_I Z 18 k = rd_I M 18 k := fun k h1 h2 => (zr 18 k (by omega) (by unfold A17; omega)).trans (fX.I 18 k (by omega))
    have zc : rd_I Z 18 2 = nI (cnt + 1) := (z2.I 18 2 (by unfold A17; omega)).trans y2
    have fZ : Fr (A5h q) M Z := fY.trans (z2.mono (fun a k h => Or.inl (Or.inl (Or.inl (Or.inl (Or.inl (by unfold A17 at h; unfold A8; omega)))))))
    show HSp T n (A5h q) M (if q = 0 then _ else sw_gd [sw_ok Y 17 6] ((f_Reader_advance N 17 Y).bind _)) _ _
    rw [if_neg q17.2.2.2, ok_17 gY.1.1.1, gd_T, z1, bn_S]
    have fin : ∀ x : Option (Int32 × sw_M), HSp T n (A4h q) Z x (p4 T n kd sp (nd T n b)) (fun r W => ps8 Z W q kd r) → HSp T n (A5h q) M x (p4 T n kd sp (nd T n b)) (fun r W => rd_I W 18 2 = nI (cnt + 1) ∧ PH M W q kd r) := fun x h =>
      h.mono fZ (fun a k h => Or.inl h) (fun r W fW hp => ⟨(fW.I 18 2 (by unfold A4h A3h A2h A1h A8; omega)).trans zc, PH_of hp ((fW.I q 0 (by unfold A4h A3h A2h A1h A8; omega)).trans (zq 0 (by omega))) (zq 8 (by omega)) z17 z18⟩)
    rcases (by omega : kd = 0 ∨ kd = 4 ∨ (kd = 1 ∨ kd = 2 ∨ kd = 3)) with e | e | e
    · subst e
      exact fin _ (h35 N hN z3 hq (Or.inl rfl) (z17.trans hsp) (zq 3 (by omega)) (zq 4 (by omega)))
    · subst e
      exact fin _ (h35 N hN z3 hq (Or.inr rfl) (z17.trans hsp) (zq 3 (by omega)) (zq 4 (by omega)))
    · have hh := fin _ (h43b N hN z3 hq e (z17.trans hsp) (zq 1 (by omega)) (zq 2 (by omega)) (zq 3 (by omega)) (zq 4 (by omega)))
      rcases e with rfl | rfl | rfl <;> exact hh
