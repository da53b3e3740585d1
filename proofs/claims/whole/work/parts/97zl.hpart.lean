/-! 97zl: a PART's line in the house -/
theorem w_s (M : sw_M) (q k : Nat) (v : Int32) : rd_I (wr_I M q k v) q k = v := by rw [m_II, if_pos ⟨rfl, rfl⟩]
theorem w_o {a j q k : Nat} (h : ¬ (a = q ∧ j = k)) (M : sw_M) (v : Int32) : rd_I (wr_I M q k v) a j = rd_I M a j := by rw [m_II, if_neg h]
theorem nuq_v {T : Nat → Nat} {n lo hi b b' : Nat} {v : Int32} (h : nuq T n lo hi b = Sum.inr (v, b')) : ∃ w, v = nI w ∧ lo ≤ w ∧ w ≤ hi ∧ b' = nd T n b ∧ kk T n b = 2 := by
  unfold nuq at h
  by_cases c : kk T n b = 2
  · rw [if_pos c] at h
    by_cases q : vm T n b < lo ∨ hi < vm T n b
    · rw [if_pos q] at h; exact absurd h (by simp)
    · rw [if_neg q] at h
      have h2 := Sum.inr.inj h
      have h3 := congrArg Prod.fst h2
      have h4 := congrArg Prod.snd h2
      exact ⟨vm T n b, h3.symm, by omega, by omega, h4.symm, c⟩
  · rw [if_neg c] at h; exact absurd h (by simp)
def p1 (T : Nat → Nat) (n kd b : Nat) : PE (Int32 × Int32) := pbn (nuq T n 1 9999 b) (fun s b1 => if kd = 3 then pbn (nuq T n 1 99 b1) (fun t b2 => Sum.inr ((s, t), b2)) else Sum.inr ((s, 1), b1))
def p2 (T : Nat → Nat) (n kd : Nat) (sp : Bool) (b : Nat) : PE (Int32 × Option Int32 × Int32 × Int32) := pbn (nuq T n 0 99999 b) (fun m b1 => if kd = 2 ∧ kk T n b1 = 4 then (if sp = true then Sum.inl (3, pl T n b1) else pbn (nuq T n m.toNatClampNeg 99999 (nd T n b1)) (fun h b2 => pbn (p1 T n kd b2) (fun st b3 => Sum.inr ((m, some h, st.1, st.2), b3)))) else pbn (p1 T n kd b1) (fun st b3 => Sum.inr ((m, none, st.1, st.2), b3)))
def prs (T : Nat → Nat) (n hi b : Nat) : PE (Int32 × Int32) := pbn (suq T n hi b) (fun u b1 => pbn (suq T n hi b1) (fun v b2 => Sum.inr ((u, v), b2)))
theorem prs_b {β : Type} (T : Nat → Nat) (n hi b : Nat) (k : Int32 × Int32 → Nat → PE β) : pbn (prs T n hi b) k = pbn (suq T n hi b) (fun u b1 => pbn (suq T n hi b1) (fun v b2 => k (u, v) b2)) := by
  unfold prs
  cases suq T n hi b with
  | inl e => rfl
  | inr e =>
    obtain ⟨u, b1⟩ := e
    show pbn (pbn (suq T n hi b1) _) k = pbn (suq T n hi b1) _
    cases suq T n hi b1 with
    | inl e => rfl
    | inr e => rfl
def p3 (T : Nat → Nat) (n kd : Nat) (sp : Bool) (b : Nat) : PE (Int32 × Int32 × Int32 × Option Int32 × Int32 × Int32) := if kd = 4 then pbn (prs T n 99 b) (fun uv b2 => pbn (p2 T n kd sp b2) (fun r b3 => Sum.inr ((uv.1, uv.2, r), b3))) else pbn (p2 T n kd sp b) (fun r b3 => Sum.inr ((0, 0, r), b3))
def p4 (T : Nat → Nat) (n kd : Nat) (sp : Bool) (b : Nat) : PE (Int32 × Int32 × Int32 × Int32 × Int32 × Option Int32 × Int32 × Int32) := if kd = 0 ∨ kd = 4 then pbn (prs T n 9999 b) (fun xy b2 => pbn (p3 T n kd sp b2) (fun r b3 => Sum.inr ((xy.1, xy.2, r), b3))) else pbn (p3 T n kd sp b) (fun r b3 => Sum.inr ((0, 0, r), b3))
def QP (q : Nat) : Prop := (9 ≤ q ∧ q ≤ 16) ∨ (24 ≤ q ∧ q ≤ 31)
theorem qp_ok {M : sw_M} {q : Nat} (h : QP q) (hM : HR M) : sw_ok M q 5 = true := by
  have h1 := hM.1
  rcases h with h | h
  · obtain ⟨i, rfl⟩ : ∃ i, q = 9 + i := ⟨q - 9, by omega⟩
    exact c_ok (sh_part i (by omega)).1 (by omega)
  · obtain ⟨i, rfl⟩ : ∃ i, q = 24 + i := ⟨q - 24, by omega⟩
    exact c_ok (sh_part i (by omega)).2 (by omega)
def A1h (q a k : Nat) : Prop := A8 a k ∨ (a = q ∧ (k = 6 ∨ k = 7))
def A2h (q a k : Nat) : Prop := A1h q a k ∨ (a = q ∧ (k = 5 ∨ k = 8)) ∨ (a = 17 ∧ k = 2) ∨ (a = 18 ∧ 3 ≤ k ∧ k ≤ 5)
def A3h (q a k : Nat) : Prop := A2h q a k ∨ (a = q ∧ (k = 3 ∨ k = 4))
def A4h (q a k : Nat) : Prop := A3h q a k ∨ (a = q ∧ (k = 1 ∨ k = 2))
theorem HB.wq {M : sw_M} {T : Nat → Nat} {n b q : Nat} (g : HB M T n b) (hq : QP q) (k : Nat) (v : Int32) : HB (wr_I M q k v) T n b :=
  g.fr (A := fun a j => a = q) ((Fr.refl _ M).wI q k v rfl) (fun k h1 h2 => by unfold QP at hq; omega) (fun k => by unfold QP at hq; omega)
theorem hper (N : Nat) (hN : 1000 ≤ N) {M : sw_M} {T : Nat → Nat} {n b q : Nat} (g : HB M T n b) (hq : QP q) : HSp T n (A1h q) M (f_Reader_period N 17 q M) (nuq T n 1 99 b) (fun t W => rd_I W q 7 = t ∧ rd_I W q 6 = rd_I M q 6) := by
  unfold f_Reader_period
  rw [ok_17 g.1.1.1, gd_T]
  have e : nuq T n 1 99 b = pbn (nuq T n 1 99 b) (fun v b' => Sum.inr (v, b')) := by
    cases nuq T n 1 99 b with
    | inl e => rfl
    | inr v => rfl
  rw [e]
  refine HSp.bind (K := fun V => sw_gd [sw_ok V 17 6] (sw_gd [sw_ok V q 5] (some ((1 : Int32), (wr_I V q 7 (rd_I V 17 8)))))) (hnum N hN g 1 99 (by omega) (by omega)) (fun a k h => Or.inl h) (fun v b' W w1 w2 w3 => ?_)
  refine ⟨wr_I W q 7 (rd_I W 17 8), ?_, (Fr.refl _ W).wI _ _ _ (Or.inr ⟨rfl, by omega⟩), w2.wq hq 7 _, ?_, ?_⟩
  · show sw_gd [sw_ok W 17 6] (sw_gd [sw_ok W q 5] _) = _
    rw [ok_17 w2.1.1.1, gd_T, qp_ok hq w2.1.1, gd_T]
  · rw [w_s]; exact w3
  · rw [w_o (by omega)]
    exact w1.I q 6 (by unfold A8; unfold QP at hq; omega)
theorem h103 (N : Nat) (hN : 1000 ≤ N) {M : sw_M} {T : Nat → Nat} {n b q kd : Nat} (g : HB M T n b) (hq : QP q) (hk : kd < 5) : HSp T n (A1h q) M (f_Reader_part_103 N 17 (nI (20 + kd)) q M) (p1 T n kd b) (fun st W => rd_I W q 6 = st.1 ∧ (kd = 3 → rd_I W q 7 = st.2)) := by
  unfold f_Reader_part_103 p1
  rw [ok_17 g.1.1.1, gd_T]
  refine HSp.bind (K := fun V => sw_gd [sw_ok V 17 6] (sw_gd [sw_ok V q 5] (if nI (20 + kd) = (23 : Int32) then (f_Reader_period N 17 q (wr_I V q 6 (rd_I V 17 8))).bind (fun u5 => if u5.1 = 0 then some ((0 : Int32), u5.2) else f_Reader_part_138 N u5.2) else f_Reader_part_138 N (wr_I V q 6 (rd_I V 17 8))))) (hnum N hN g 1 9999 (by omega) (by omega)) (fun a k h => Or.inl h) (fun v b' W w1 w2 w3 => ?_)
  show HSp T n (A1h q) W (sw_gd [sw_ok W 17 6] (sw_gd [sw_ok W q 5] _)) _ _
  rw [ok_17 w2.1.1.1, gd_T, qp_ok hq w2.1.1, gd_T, w3]
  have g2 := w2.wq hq 6 v
  have f2 : Fr (A1h q) W (wr_I W q 6 v) := (Fr.refl _ W).wI _ _ _ (Or.inr ⟨rfl, by omega⟩)
  by_cases c : kd = 3
  · subst c
    rw [if_pos (by rfl), if_pos rfl]
    refine HSp.mono (A := A1h q) (M := wr_I W q 6 v) (post := fun st W => rd_I W q 6 = st.1 ∧ (3 = 3 → rd_I W q 7 = st.2)) ?_ f2 (fun a k h => h) (fun v Z _ h => h)
    refine HSp.bind (K := fun V => f_Reader_part_138 N V) (hper N hN g2 hq) (fun a k h => h) (fun t b3 X x1 x2 x3 => ?_)
    refine ⟨X, rfl, Fr.refl _ _, x2, ?_, fun _ => x3.1⟩
    rw [x3.2, w_s]
  · rw [if_neg (show ¬ nI (20 + kd) = (23 : Int32) from fun h => by have h2 : 20 + kd = 23 := (nI_eq (by omega) (by decide)).1 (h : nI _ = nI 23); omega), if_neg c]
    exact ⟨wr_I W q 6 v, rfl, f2, g2, w_s _ _ _ _, fun h => absurd h c⟩
def SPh (M W : sw_M) (q : Nat) (m : Int32) (so : Option Int32) : Prop := match so with
  | none => rd_I W q 8 = rd_I M q 8 ∧ rd_I W 17 2 = rd_I M 17 2 ∧ rd_I W 18 3 = rd_I M 18 3 ∧ rd_I W 18 4 = rd_I M 18 4 ∧ rd_I W 18 5 = rd_I M 18 5
  | some h => rd_I W q 8 = 1 ∧ rd_I W 17 2 = 1 ∧ rd_I W 18 3 = m ∧ rd_I W 18 4 = h ∧ rd_I W 18 5 = m
theorem SPh.tr {M M' W W' : sw_M} {q : Nat} {m : Int32} {so : Option Int32} (h : SPh M' W q m so) (e1 : rd_I M' q 8 = rd_I M q 8) (e2 : rd_I M' 17 2 = rd_I M 17 2) (e3 : ∀ k, 3 ≤ k → k ≤ 5 → rd_I M' 18 k = rd_I M 18 k) (f1 : rd_I W' q 8 = rd_I W q 8) (f2 : rd_I W' 17 2 = rd_I W 17 2) (f3 : ∀ k, 3 ≤ k → k ≤ 5 → rd_I W' 18 k = rd_I W 18 k) : SPh M W' q m so := by
  cases so with
  | none =>
    obtain ⟨a1, a2, a3, a4, a5⟩ := h
    exact ⟨(f1.trans a1).trans e1, (f2.trans a2).trans e2, ((f3 3 (by omega) (by omega)).trans a3).trans (e3 3 (by omega) (by omega)), ((f3 4 (by omega) (by omega)).trans a4).trans (e3 4 (by omega) (by omega)), ((f3 5 (by omega) (by omega)).trans a5).trans (e3 5 (by omega) (by omega))⟩
  | some h' =>
    obtain ⟨a1, a2, a3, a4, a5⟩ := h
    exact ⟨f1.trans a1, f2.trans a2, (f3 3 (by omega) (by omega)).trans a3, (f3 4 (by omega) (by omega)).trans a4, (f3 5 (by omega) (by omega)).trans a5⟩
def spI (sp : Bool) : Int32 := if sp = true then 1 else 0
theorem h59 (N : Nat) (hN : 1000 ≤ N) {M : sw_M} {T : Nat → Nat} {n b q kd : Nat} {sp : Bool} (g : HB M T n b) (hq : QP q) (hk : kd < 5) (hsp : rd_I M 17 2 = spI sp) : HSp T n (A2h q) M (f_Reader_part_59 N 17 (nI (20 + kd)) q M) (p2 T n kd sp b) (fun r W => rd_I W q 5 = r.1 ∧ rd_I W q 6 = r.2.2.1 ∧ (kd = 3 → rd_I W q 7 = r.2.2.2) ∧ SPh M W q r.1 r.2.1) := by
  have q17 : ¬ q = 17 ∧ ¬ q = 18 ∧ ¬ q = 2 := by unfold QP at hq; omega
  unfold f_Reader_part_59 p2
  rw [ok_17 g.1.1.1, gd_T]
  cases hr : nuq T n 0 99999 b with
  | inl e =>
    have h := hnum N hN g 0 99999 (by omega) (by omega)
    rw [hr] at h
    obtain ⟨f, p⟩ := e
    obtain ⟨W, w1, w2, w3⟩ := h
    have w1' : f_Reader_number N 17 0 99999 M = some (0, W) := w1
    rw [w1', bn_S]
    exact ⟨W, rfl, w2.mono (fun a k h => Or.inl (Or.inl h)), w3⟩
  | inr vb =>
    have h := hnum N hN g 0 99999 (by omega) (by omega)
    rw [hr] at h
    obtain ⟨m, b1⟩ := vb
    obtain ⟨W, w1, w2, w3, w4⟩ := h
    obtain ⟨mw, e1, e2, e3, e4, e5⟩ := nuq_v hr
    subst e1
    have w1' : f_Reader_number N 17 0 99999 M = some (1, W) := w1
    rw [w1', bn_S]
    have w4' : rd_I W 17 8 = (nI mw) := w4
    have g2 := w3.wq hq 5 (nI mw)
    have f2 : Fr (A2h q) M (wr_I W q 5 (nI mw)) := (w2.mono (fun a k h => Or.inl (Or.inl h))).wI _ _ _ (Or.inr (Or.inl ⟨rfl, by omega⟩))
    have hX := g2.1.1
    have kc := kk_c T n b1
    have h6 := g2.2.2.2.2.1
    show HSp T n (A2h q) M (sw_gd [sw_ok W 17 6] (sw_gd [sw_ok W q 5] (if nI (20 + kd) = (22 : Int32) then if rd_I (wr_I W q 5 (rd_I W 17 8)) 17 6 = (4 : Int32) then (f_Reader_span N 17 q (wr_I W q 5 (rd_I W 17 8))).bind (fun u5 => if u5.1 = 0 then some ((0 : Int32), u5.2) else f_Reader_part_103 N 17 (nI (20 + kd)) q u5.2) else f_Reader_part_103 N 17 (nI (20 + kd)) q (wr_I W q 5 (rd_I W 17 8)) else f_Reader_part_103 N 17 (nI (20 + kd)) q (wr_I W q 5 (rd_I W 17 8))))) (if kd = 2 ∧ kk T n b1 = 4 then _ else _) _
    rw [ok_17 w3.1.1.1, gd_T, qp_ok hq w3.1.1, gd_T, w4', h6]
    have x5 : rd_I (wr_I W q 5 (nI mw)) q 5 = (nI mw) := w_s _ _ _ _
    have x8 : rd_I (wr_I W q 5 (nI mw)) q 8 = rd_I M q 8 := by rw [w_o (by omega)]; exact w2.I q 8 (by unfold A8; omega)
    have x2 : rd_I (wr_I W q 5 (nI mw)) 17 2 = rd_I M 17 2 := by rw [w_o (by omega)]; exact w2.I 17 2 (by unfold A8; omega)
    have x18 : ∀ k, rd_I (wr_I W q 5 (nI mw)) 18 k = rd_I M 18 k := fun k => by rw [w_o (by omega)]; exact w2.I 18 k (by unfold A8; omega)
    generalize wr_I W q 5 (nI mw) = X at *
    have fin : ∀ (Y : sw_M) (b2 : Nat) (so : Option Int32), HB Y T n b2 → Fr (A2h q) M Y → rd_I Y q 5 = (nI mw) → SPh M Y q (nI mw) so → HSp T n (A2h q) M (f_Reader_part_103 N 17 (nI (20 + kd)) q Y) (pbn (p1 T n kd b2) (fun st b3 => Sum.inr (((nI mw), so, st.1, st.2), b3))) (fun r W => rd_I W q 5 = r.1 ∧ rd_I W q 6 = r.2.2.1 ∧ (kd = 3 → rd_I W q 7 = r.2.2.2) ∧ SPh M W q r.1 r.2.1) := fun Y b2 so gY fY y5 ys => by
      have h := h103 N hN gY hq hk
      cases hs : p1 T n kd b2 with
      | inl e =>
        rw [hs] at h
        obtain ⟨f, p⟩ := e
        obtain ⟨Z, z1, z2, z3⟩ := h
        exact ⟨Z, z1, fY.trans (z2.mono (fun a k h => Or.inl h)), z3⟩
      | inr e =>
        rw [hs] at h
        obtain ⟨st, b3⟩ := e
        obtain ⟨Z, z1, z2, z3, z4, z5⟩ := h
        refine ⟨Z, z1, fY.trans (z2.mono (fun a k h => Or.inl h)), z3, (z2.I q 5 (by unfold A1h A8; omega)).trans y5, z4, z5, ?_⟩
        exact ys.tr rfl rfl (fun _ _ _ => rfl) (z2.I q 8 (by unfold A1h A8; omega)) (z2.I 17 2 (by unfold A1h A8; omega)) (fun k h1 h2 => z2.I 18 k (by unfold A1h A8; omega))
    by_cases c2 : kd = 2
    · subst c2
      rw [if_pos (by rfl)]
      by_cases c4 : kk T n b1 = 4
      · rw [if_pos (by rw [c4]; rfl), if_pos ⟨rfl, c4⟩]
        unfold f_Reader_span
        rw [ok_17 hX.1, gd_T, x2, hsp]
        cases sp with
        | true =>
          rw [if_neg (by decide), if_pos rfl]
          obtain ⟨Y, y1, y2, y3⟩ := g2.wrong N 3 (by omega) (by omega)
          rw [show (3 : Int32) = nI 3 from rfl, y1, bn_S]
          exact ⟨Y, rfl, f2.trans (y2.mono (fun a k h => Or.inl (Or.inl h))), y3⟩
        | false =>
          rw [if_pos (by rfl), if_neg (by decide)]
          obtain ⟨Y, y1, y2, y3⟩ := g2.adv N hN
          have y5 : rd_I Y q 5 = (nI mw) := (y2.I q 5 (by unfold A17; omega)).trans x5
          rw [y1, bn_S, qp_ok hq y3.1.1, gd_T, ok_17 y3.1.1.1, gd_T, y5]
          have hm : (nI mw).toNatClampNeg = mw := cl_n (by omega)
          have h := hnum N hN y3 mw 99999 (by omega) (by omega)
          rw [hm]
          have fY : Fr (A2h q) M Y := f2.trans (y2.mono (fun a k h => Or.inl (Or.inl (by unfold A17 at h; unfold A8; omega))))
          have yM : ∀ a k, (a = q ∧ k = 8) ∨ (a = 17 ∧ k = 2) ∨ (a = 18) → rd_I Y a k = rd_I M a k := fun a k h => by
            rw [y2.I a k (by unfold A17; omega)]
            rcases h with ⟨rfl, rfl⟩ | ⟨rfl, rfl⟩ | rfl
            · exact x8
            · exact x2
            · exact x18 k
          cases hs : nuq T n mw 99999 (nd T n b1) with
          | inl e =>
            rw [hs] at h
            obtain ⟨f, p⟩ := e
            obtain ⟨Z, z1, z2, z3⟩ := h
            rw [show (99999 : Int32) = nI 99999 from rfl, z1, bn_S]
            exact ⟨Z, rfl, fY.trans (z2.mono (fun a k h => Or.inl (Or.inl h))), z3⟩
          | inr e =>
            rw [hs] at h
            obtain ⟨hh, b2⟩ := e
            obtain ⟨Z, z1, z2, z3, z4⟩ := h
            have z4' : rd_I Z 17 8 = hh := z4
            have hZ := z3.1.1
            have z5 : rd_I Z q 5 = (nI mw) := (z2.I q 5 (by unfold A8; omega)).trans y5
            have fV : Fr (A2h q) Z (wr_I (wr_I (wr_I (wr_I (wr_I Z q 8 1) 17 2 1) 18 3 (nI mw)) 18 4 hh) 18 5 (nI mw)) := (((((Fr.refl _ Z).wI _ _ _ (Or.inr (Or.inl ⟨rfl, by omega⟩))).wI _ _ _ (Or.inr (Or.inr (Or.inl ⟨rfl, rfl⟩)))).wI _ _ _ (Or.inr (Or.inr (Or.inr ⟨rfl, by omega⟩)))).wI _ _ _ (Or.inr (Or.inr (Or.inr ⟨rfl, by omega⟩)))).wI _ _ _ (Or.inr (Or.inr (Or.inr ⟨rfl, by omega⟩)))
            have gV : HB (wr_I (wr_I (wr_I (wr_I (wr_I Z q 8 1) 17 2 1) 18 3 (nI mw)) 18 4 hh) 18 5 (nI mw)) T n b2 :=
              z3.fr (A := fun a k => (a = q ∧ k = 8) ∨ (a = 17 ∧ k = 2) ∨ a = 18) ((((((Fr.refl _ Z).wI _ _ _ (Or.inl ⟨rfl, rfl⟩)).wI _ _ _ (Or.inr (Or.inl ⟨rfl, rfl⟩))).wI _ _ _ (Or.inr (Or.inr rfl))).wI _ _ _ (Or.inr (Or.inr rfl))).wI _ _ _ (Or.inr (Or.inr rfl))) (fun k h1 h2 => by omega) (fun k => by omega)
            have hR1 : rd_R Z 17 1 = 18 := hr_f hZ 17 1 18 rfl (by decide)
            rw [show (99999 : Int32) = nI 99999 from rfl, z1, bn_S]
            have sp9 : f_Field_setSpan N 18 (nI mw) hh (wr_I (wr_I Z q 8 1) 17 2 1) = some (wr_I (wr_I (wr_I (wr_I (wr_I Z q 8 1) 17 2 1) 18 3 (nI mw)) 18 4 hh) 18 5 (nI mw)) := by
              unfold f_Field_setSpan
              rw [m_okI, m_okI, ok_18 hZ.1, gd_T]
            have t5 : rd_I (wr_I (wr_I Z q 8 1) 17 2 1) q 5 = (nI mw) := by rw [w_o (by omega), w_o (by omega)]; exact z5
            have t8 : rd_I (wr_I (wr_I Z q 8 1) 17 2 1) 17 8 = hh := by rw [w_o (by omega), w_o (by omega)]; exact z4'
            show HSp T n (A2h q) M (Option.bind (sw_gd [sw_ok Z q 5] (sw_gd [sw_ok (wr_I Z q 8 1) 17 6] (sw_gd [sw_ok (wr_I (wr_I Z q 8 1) 17 2 1) (rd_R (wr_I (wr_I Z q 8 1) 17 2 1) 17 1) 0] ((f_Field_setSpan N (rd_R (wr_I (wr_I Z q 8 1) 17 2 1) 17 1) (rd_I (wr_I (wr_I Z q 8 1) 17 2 1) q 5) (rd_I (wr_I (wr_I Z q 8 1) 17 2 1) 17 8) (wr_I (wr_I Z q 8 1) 17 2 1)).bind _)))) _) _ _
            rw [qp_ok hq hZ, gd_T, m_okI, ok_17 hZ.1, gd_T, show rd_R (wr_I (wr_I Z q 8 1) 17 2 1) 17 1 = 18 from hR1, m_okI, m_okI, ok_18 hZ.1, gd_T, t5, t8, sp9, bn_S, bn_S]
            refine fin _ b2 (some hh) gV ((fY.trans (z2.mono (fun a k h => Or.inl (Or.inl h)))).trans fV) ?_ ⟨?_, ?_, ?_, ?_, ?_⟩
            · rw [w_o (by omega), w_o (by omega), w_o (by omega)]; exact t5
            · rw [w_o (by omega), w_o (by omega), w_o (by omega), w_o (by omega), w_s]
            · rw [w_o (by omega), w_o (by omega), w_o (by omega), w_s]
            · rw [w_o (by omega), w_o (by omega), w_s]
            · rw [w_o (by omega), w_s]
            · rw [w_s]
      · rw [if_neg (show ¬ nI (kk T n b1) = (4 : Int32) from fun h => c4 ((nI_eq (by omega) (by decide)).1 (h : nI _ = nI 4))), if_neg (fun h => c4 h.2)]
        exact fin X b1 none g2 f2 x5 ⟨x8, x2, x18 3, x18 4, x18 5⟩
    · rw [if_neg (show ¬ nI (20 + kd) = (22 : Int32) from fun h => by have h2 : 20 + kd = 22 := (nI_eq (by omega) (by decide)).1 (h : nI _ = nI 22); omega), if_neg (fun h => c2 h.1)]
      exact fin X b1 none g2 f2 x5 ⟨x8, x2, x18 3, x18 4, x18 5⟩
