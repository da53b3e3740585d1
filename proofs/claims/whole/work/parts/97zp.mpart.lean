/-! 97zp: a PART's line in the reference, all of it -/
theorem MSp.map {α β : Type} {T : Nat → Nat} {n : Nat} {A B : Nat → Nat → Prop} {M0 M : sw_M} {x : Option sw_M} {r : PE α} {post : α → sw_M → Prop} {post' : β → sw_M → Prop} {f : α → β} (h : MSp T n A M x r post) (h0 : Fr B M0 M) (hAB : ∀ a k, A a k → B a k) (hp : ∀ v Z, Fr A M Z → post v Z → post' (f v) Z) : MSp T n B M0 x (pbn r (fun v b => Sum.inr (f v, b))) post' := by
  rcases r with ⟨f, p⟩ | ⟨v, b'⟩
  · obtain ⟨W, w1, w2, w3⟩ := h
    exact ⟨W, w1, h0.trans (w2.mono hAB), w3⟩
  · obtain ⟨W, w1, w2, w3, w4, w5⟩ := h
    exact ⟨W, w1, h0.trans (w2.mono hAB), w3, w4, hp v W w2 w5⟩
def SPm (M W : sw_M) (i cnt : Nat) (m : Int32) (so : Option Int32) : Prop := match so with
  | none => rd_I W 80 14 = rd_I M 80 14 ∧ rd_I W 87 i = m
  | some h => rd_I W 80 14 = nI cnt ∧ rd_I W 87 i = h
def pmt (M W : sw_M) (i cnt kd : Nat) (r : Int32 × Option Int32 × Int32 × Int32) : Prop := rd_I W 80 11 = nI (cnt + 1) ∧ rd_I W 86 i = r.1 ∧ rd_I W 88 i = r.2.2.1 ∧ (kd = 3 → rd_I W 89 i = r.2.2.2) ∧ SPm M W i cnt r.1 r.2.1
theorem pmt.tr {M M' W : sw_M} {i cnt kd : Nat} {r : Int32 × Option Int32 × Int32 × Int32} (h : pmt M' W i cnt kd r) (e : rd_I M' 80 14 = rd_I M 80 14) : pmt M W i cnt kd r := by
  obtain ⟨a1, a2, a3, a4, a5⟩ := h
  refine ⟨a1, a2, a3, a4, ?_⟩
  obtain ⟨m, so, s, t⟩ := r
  cases so with
  | none => exact ⟨a5.1.trans e, a5.2⟩
  | some h => exact a5
theorem m107 (N : Nat) (hN : 1000 ≤ N) {M : sw_M} {T : Nat → Nat} {n b kd i cnt : Nat} {sp : Bool} (g : MB M T n b) (h30 : rd_I M 80 30 = 0) (hk : kd < 5) (hi : i < 16) (h11 : rd_I M 80 11 = nI cnt) (hsp : sp = !(decide (rd_I M 80 14 = -1))) : MSp T n (Amq 86 i) M (f_Model_part_107 N 80 (nI kd) (nI i) M) (p2 T n kd sp b) (fun r W => pmt M W i cnt kd r) := by
  have hM := g.1.1
  unfold f_Model_part_107 p2
  rw [ok_80 hM.1, gd_T, mr_6 hM, cl_n (show i < 2 ^ 31 by omega)]
  cases hr : nuq T n 0 99999 b with
  | inl e =>
    have h := mnum N hN g h30 0 99999 (by omega) (by omega)
    rw [hr] at h
    obtain ⟨f, p⟩ := e
    obtain ⟨W, w1, w2, w3⟩ := h
    have F := F107 N w3 (nI kd) i hi
    have hW := w3.1.1
    unfold f_Model_part_107 at F
    rw [ok_80 hW.1, gd_T, mr_6 hW, cl_n (show i < 2 ^ 31 by omega), mnum_f N w3, bn_S] at F
    have w1' : f_Model_number N 80 0 99999 M = some (0, W) := w1
    rw [w1', bn_S]
    obtain ⟨Z, z1, z2, z3⟩ := F
    exact ⟨Z, z1, (A31q w2).trans z2, z3⟩
  | inr vb =>
    have h := mnum N hN g h30 0 99999 (by omega) (by omega)
    rw [hr] at h
    obtain ⟨m, b1⟩ := vb
    obtain ⟨W, w1, w2, w3, w4⟩ := h
    obtain ⟨mw, e1, e2, e3, e4, e5⟩ := nuq_v hr
    subst e1
    have hW := w3.1.1
    have w1' : f_Model_number N 80 0 99999 M = some (nI mw, W) := w1
    rw [w1', bn_S]
    have g2 := w3.w 86 i (nI mw) (by omega)
    have h2 := g2.1.1
    have x86 : rd_I (wr_I W 86 i (nI mw)) 86 i = nI mw := w_s _ _ _ _
    show MSp T n (Amq 86 i) M (sw_gd [sw_ar W 86 13 (nI i)] (sw_gd [sw_ok (wr_I W 86 i (nI mw)) 80 12] (sw_gd [sw_ar (wr_I W 86 i (nI mw)) (rd_R (wr_I W 86 i (nI mw)) 80 6) 13 (nI i)] (sw_gd [sw_ar (wr_I W 86 i (nI mw)) (rd_R (wr_I W 86 i (nI mw)) 80 7) 13 (nI i)] (if nI kd = 2 then if rd_I (wr_I (wr_I W 86 i (nI mw)) (rd_R (wr_I W 86 i (nI mw)) 80 7) i (rd_I (wr_I W 86 i (nI mw)) (rd_R (wr_I W 86 i (nI mw)) 80 6) i)) 80 30 = 0 then (f_Model_isSign N 80 (nI 259) (wr_I (wr_I W 86 i (nI mw)) (rd_R (wr_I W 86 i (nI mw)) 80 7) i (rd_I (wr_I W 86 i (nI mw)) (rd_R (wr_I W 86 i (nI mw)) 80 6) i))).bind _ else f_Model_part_204 N 80 (nI kd) (nI i) (wr_I (wr_I W 86 i (nI mw)) (rd_R (wr_I W 86 i (nI mw)) 80 7) i (rd_I (wr_I W 86 i (nI mw)) (rd_R (wr_I W 86 i (nI mw)) 80 6) i)) else f_Model_part_204 N 80 (nI kd) (nI i) (wr_I (wr_I W 86 i (nI mw)) (rd_R (wr_I W 86 i (nI mw)) 80 7) i (rd_I (wr_I W 86 i (nI mw)) (rd_R (wr_I W 86 i (nI mw)) 80 6) i))))))) (if kd = 2 ∧ kk T n b1 = 4 then _ else _) _
    rw [ar_86 hW.1, ti_n hi (by decide), gd_T, ok_80 h2.1, gd_T, mr_6 h2, ar_86 h2.1, ti_n hi (by decide), gd_T, mr_7 h2, ar_87 h2.1, ti_n hi (by decide), gd_T, x86]
    have fX : Fr (Amq 86 i) M (wr_I (wr_I W 86 i (nI mw)) 87 i (nI mw)) := (((A31q w2).wI _ _ _ (by unfold Amq; omega)).wI _ _ _ (by unfold Amq; omega))
    have g3 := g2.w 87 i (nI mw) (by omega)
    have y86 : rd_I (wr_I (wr_I W 86 i (nI mw)) 87 i (nI mw)) 86 i = nI mw := by rw [w_o (by omega)]; exact x86
    have y87 : rd_I (wr_I (wr_I W 86 i (nI mw)) 87 i (nI mw)) 87 i = nI mw := w_s _ _ _ _
    have y30 : rd_I (wr_I (wr_I W 86 i (nI mw)) 87 i (nI mw)) 80 30 = 0 := by rw [w_o (by omega), w_o (by omega)]; exact w4
    have y11 : rd_I (wr_I (wr_I W 86 i (nI mw)) 87 i (nI mw)) 80 11 = nI cnt := by rw [w_o (by omega), w_o (by omega), w2.I 80 11 (by unfold A31; omega)]; exact h11
    have y14 : rd_I (wr_I (wr_I W 86 i (nI mw)) 87 i (nI mw)) 80 14 = rd_I M 80 14 := by rw [w_o (by omega), w_o (by omega), w2.I 80 14 (by unfold A31; omega)]
    generalize wr_I (wr_I W 86 i (nI mw)) 87 i (nI mw) = X at *
    have hX := g3.1.1
    have fin : ∀ (Y : sw_M) (b2 : Nat) (so : Option Int32), MB Y T n b2 → Fr (Amq 86 i) M Y → rd_I Y 80 30 = 0 → rd_I Y 80 11 = nI cnt → rd_I Y 86 i = nI mw → SPm M Y i cnt (nI mw) so → MSp T n (Amq 86 i) M (f_Model_part_204 N 80 (nI kd) (nI i) Y) (pbn (p1 T n kd b2) (fun st b3 => Sum.inr ((nI mw, so, st.1, st.2), b3))) (fun r W => pmt M W i cnt kd r) := fun Y b2 so gY fY y30 y11 y86 ys => by
      refine MSp.map (f := fun st : Int32 × Int32 => (nI mw, so, st.1, st.2)) (m204 N hN gY y30 hk hi y11) fY (fun a k h => Amq_m (by omega) h) (fun st Z fZ hz => ⟨hz.1, ?_, hz.2.1, hz.2.2, ?_⟩)
      · exact (fZ.I 86 i (by unfold Amq A31; omega)).trans y86
      · have z14 : rd_I Z 80 14 = rd_I Y 80 14 := fZ.I 80 14 (by unfold Amq A31; omega)
        have z87 : rd_I Z 87 i = rd_I Y 87 i := fZ.I 87 i (by unfold Amq A31; omega)
        cases so with
        | none => exact ⟨z14.trans ys.1, z87.trans ys.2⟩
        | some h => exact ⟨z14.trans ys.1, z87.trans ys.2⟩
    by_cases c2 : kd = 2
    · subst c2
      rw [if_pos (by rfl), y30, if_pos rfl, misSign N g3 259 4 (by omega) (by omega) (by decide +kernel), bn_S]
      by_cases c4 : kk T n b1 = 4
      · rw [decide_eq_true c4, if_pos (show 2 = 2 ∧ kk T n b1 = 4 from ⟨rfl, c4⟩)]
        show MSp T n (Amq 86 i) M (sw_gd [sw_ok X 80 12] (if rd_I X 80 14 = -1 then f_Model_part_167 N 80 (nI 2) (nI i) X else (f_Model_wrong N 80 (nI 3) X).bind (fun u9 => f_Model_part_167 N 80 (nI 2) (nI i) u9))) _ _
        rw [ok_80 hX.1, gd_T, y14]
        by_cases c14 : rd_I M 80 14 = -1
        · rw [if_pos c14]
          rw [decide_eq_true c14] at hsp
          subst hsp
          rw [if_neg (show ¬ (!true) = true by decide)]
          unfold f_Model_part_167
          obtain ⟨Y, v1, v2, v3⟩ := g3.nx N hN
          rw [ok_80 hX.1, gd_T, y30, if_pos rfl, v1, bn_S]
          have hY := v3.1.1
          have v86 : rd_I Y 86 i = nI mw := (v2.I 86 i (by unfold A80; omega)).trans y86
          have v30 : rd_I Y 80 30 = 0 := (v2.I 80 30 (by unfold A80; omega)).trans y30
          have v11 : rd_I Y 80 11 = nI cnt := (v2.I 80 11 (by unfold A80; omega)).trans y11
          have fY : Fr (Amq 86 i) M Y := fX.trans (A31q (v2.mono (fun a k h => by unfold A80 at h; unfold A31; omega)))
          unfold f_Model_part_178
          rw [ok_80 hY.1, gd_T, mr_6 hY, mr_7 hY, ar_86 hY.1, ti_n hi (by decide), gd_T, cl_n (show i < 2 ^ 31 by omega), v86, cl_n (show mw < 2 ^ 31 by omega)]
          refine MSp.mono (A := Amq 86 i) (M := Y) (post := fun r W => pmt M W i cnt 2 r) ?_ fY (fun a k h => h) (fun v Z _ h => h)
          refine MNp.bind (K := fun h V => sw_gd [sw_ar V 87 13 (nI i)] (sw_gd [sw_ok (wr_I V 87 i h) 80 12] (f_Model_part_204 N 80 (nI 2) (nI i) (wr_I (wr_I V 87 i h) 80 14 (rd_I (wr_I V 87 i h) 80 11))))) (mnum N hN v3 v30 mw 99999 (by omega) (by omega)) (fun a k h => Or.inl h) (fun f p V gV => ?_) (fun h b2 V q1 q2 q3 => ?_)
          · have k2 := gV.w 87 i 0 (by omega)
            have k3 := k2.w 80 14 (rd_I (wr_I V 87 i 0) 80 11) (by omega)
            show ∃ Z, sw_gd [sw_ar V 87 13 (nI i)] (sw_gd [sw_ok (wr_I V 87 i 0) 80 12] (f_Model_part_204 N 80 (nI 2) (nI i) (wr_I (wr_I V 87 i 0) 80 14 (rd_I (wr_I V 87 i 0) 80 11)))) = some Z ∧ _
            rw [ar_87 gV.1.1.1, ti_n hi (by decide), gd_T, ok_80 k2.1.1.1, gd_T]
            obtain ⟨Z, z1, z2, z3⟩ := F204 N k3 (nI 2) i hi
            exact ⟨Z, z1, (((Fr.refl _ V).wI _ _ _ (by unfold Amq; omega)).wI _ _ _ (by unfold Amq; omega)).trans (z2.mono (fun a k h => Amq_m (by omega) h)), z3⟩
          · have k2 := q2.w 87 i h (by omega)
            have k3 := k2.w 80 14 (rd_I (wr_I V 87 i h) 80 11) (by omega)
            have t11 : rd_I (wr_I V 87 i h) 80 11 = nI cnt := by rw [w_o (by omega), q1.I 80 11 (by unfold A31; omega)]; exact v11
            show MSp T n (Amq 86 i) V (sw_gd [sw_ar V 87 13 (nI i)] (sw_gd [sw_ok (wr_I V 87 i h) 80 12] (f_Model_part_204 N 80 (nI 2) (nI i) (wr_I (wr_I V 87 i h) 80 14 (rd_I (wr_I V 87 i h) 80 11))))) (pbn (p1 T n 2 b2) (fun st b3 => Sum.inr ((nI mw, some h, st.1, st.2), b3))) _
            rw [ar_87 q2.1.1.1, ti_n hi (by decide), gd_T, ok_80 k2.1.1.1, gd_T]
            rw [t11] at k3 ⊢
            have fV : Fr (Amq 86 i) V (wr_I (wr_I V 87 i h) 80 14 (nI cnt)) := ((Fr.refl _ V).wI _ _ _ (by unfold Amq; omega)).wI _ _ _ (by unfold Amq; omega)
            refine MSp.map (f := fun st : Int32 × Int32 => (nI mw, some h, st.1, st.2)) (m204 N hN k3 (by rw [w_o (by omega), w_o (by omega)]; exact q3) hk hi (by rw [w_o (by omega)]; exact t11)) fV (fun a k h => Amq_m (by omega) h) (fun st Z fZ hz => ⟨hz.1, ?_, hz.2.1, hz.2.2, ?_, ?_⟩)
            · rw [fZ.I 86 i (by unfold Amq A31; omega), w_o (by omega), w_o (by omega), q1.I 86 i (by unfold A31; omega)]; exact v86
            · rw [fZ.I 80 14 (by unfold Amq A31; omega), w_s]
            · rw [fZ.I 87 i (by unfold Amq A31; omega), w_o (by omega), w_s]
        · rw [if_neg c14]
          rw [decide_eq_false c14] at hsp
          subst hsp
          rw [if_pos (show (!false) = true by decide)]
          obtain ⟨Y, v1, v2, v3, v4⟩ := mwrong N g3 y30 3 (by omega) (by omega)
          rw [v1, bn_S]
          obtain ⟨Z, z1, z2, z3⟩ := F167 N v3 (nI 2) i hi
          exact ⟨Z, z1, (fX.trans (A31q (v2.mono (fun a k h => by unfold A31; omega)))).trans (z2.mono (fun a k h => Amq_m (by omega) h)), z3⟩
      · rw [decide_eq_false c4, if_neg (show ¬ (2 = 2 ∧ kk T n b1 = 4) from fun h => c4 h.2)]
        exact fin X b1 none g3 fX y30 y11 y86 ⟨y14, y87⟩
    · rw [if_neg (show ¬ nI kd = (2 : Int32) from fun h => c2 ((nI_eq (by omega) (by decide)).1 (h : nI _ = nI 2))), if_neg (fun h => c2 h.1)]
      exact fin X b1 none g3 fX y30 y11 y86 ⟨y14, y87⟩
