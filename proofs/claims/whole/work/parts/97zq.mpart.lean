/-! 97zq: a PART's line in the reference, its head -/
theorem m78 (N : Nat) (hN : 1000 ≤ N) {M : sw_M} {T : Nat → Nat} {n b kd i cnt : Nat} {sp : Bool} (g : MB M T n b) (h30 : rd_I M 80 30 = 0) (hk : kd < 5) (hi : i < 16) (h11 : rd_I M 80 11 = nI cnt) (hsp : sp = !(decide (rd_I M 80 14 = -1))) (z4 : rd_I M 84 i = 0) (z5 : rd_I M 85 i = 0) : MSp T n (Amq 84 i) M (f_Model_part_78 N 80 (nI kd) (nI i) M) (p3 T n kd sp b) (fun r W => rd_I W 84 i = r.1 ∧ rd_I W 85 i = r.2.1 ∧ pmt M W i cnt kd r.2.2) := by
  have hM := g.1.1
  unfold f_Model_part_78 p3
  by_cases c : kd = 4
  · subst c
    rw [if_pos (by rfl), if_pos rfl, prs_b, ok_80 hM.1, gd_T, mr_4 hM, cl_n (show i < 2 ^ 31 by omega)]
    refine MNp.bind (K := fun u V => sw_gd [sw_ar V 84 13 (nI i)] (sw_gd [sw_ok (wr_I V 84 i u) 80 12] ((f_Model_signed N 80 99 (wr_I V 84 i u)).bind (fun u5 => sw_gd [sw_ar u5.2 (rd_R (wr_I V 84 i u) 80 5) 13 (nI i)] (f_Model_part_107 N 80 (nI 4) (nI i) (wr_I u5.2 (rd_R (wr_I V 84 i u) 80 5) i u5.1)))))) (msig N hN g h30 99 (by omega)) (fun a k h => Or.inl h) (fun f p W gW => ?_) (fun u b1 W w1 w2 w3 => ?_)
    · have F := F78 N gW (nI 4) i hi
      unfold f_Model_part_78 at F
      rw [if_pos (by rfl), ok_80 gW.1.1.1, gd_T, mr_4 gW.1.1, cl_n (show i < 2 ^ 31 by omega), msig_f N gW, bn_S] at F
      exact F
    · have hW := w2.1.1
      have g2 := w2.w 84 i u (by omega)
      have f2 : Fr (Amq 84 i) W (wr_I W 84 i u) := (Fr.refl _ W).wI _ _ _ (by unfold Amq; omega)
      have x84 : rd_I (wr_I W 84 i u) 84 i = u := w_s _ _ _ _
      have x11 : rd_I (wr_I W 84 i u) 80 11 = nI cnt := by rw [w_o (by omega), w1.I 80 11 (by unfold A31; omega)]; exact h11
      have x14 : rd_I (wr_I W 84 i u) 80 14 = rd_I M 80 14 := by rw [w_o (by omega), w1.I 80 14 (by unfold A31; omega)]
      have x30 : rd_I (wr_I W 84 i u) 80 30 = 0 := by rw [w_o (by omega)]; exact w3
      show MSp T n (Amq 84 i) W (sw_gd [sw_ar W 84 13 (nI i)] (sw_gd [sw_ok (wr_I W 84 i u) 80 12] ((f_Model_signed N 80 (nI 99) (wr_I W 84 i u)).bind _))) _ _
      rw [ar_84 hW.1, ti_n hi (by decide), gd_T]
      generalize wr_I W 84 i u = X at *
      have hX := g2.1.1
      rw [ok_80 hX.1, gd_T, mr_5 hX]
      refine MSp.mono (A := Amq 84 i) (M := X) (post := fun r W => rd_I W 84 i = r.1 ∧ rd_I W 85 i = r.2.1 ∧ pmt M W i cnt 4 r.2.2) ?_ f2 (fun a k h => h) (fun v Z _ h => h)
      refine MNp.bind (K := fun v V => sw_gd [sw_ar V 85 13 (nI i)] (f_Model_part_107 N 80 (nI 4) (nI i) (wr_I V 85 i v))) (msig N hN g2 x30 99 (by omega)) (fun a k h => Or.inl h) (fun f p Y gY => ?_) (fun v b2 Y y1 y2 y3 => ?_)
      · have g3 := gY.w 85 i 0 (by omega)
        obtain ⟨Z, z1, z2, z3⟩ := F107 N g3 (nI 4) i hi
        refine ⟨Z, ?_, ((Fr.refl _ Y).wI _ _ _ (by unfold Amq; omega)).trans (z2.mono (fun a k h => Amq_m (by omega) h)), z3⟩
        show sw_gd [sw_ar Y 85 13 (nI i)] (f_Model_part_107 N 80 (nI 4) (nI i) (wr_I Y 85 i 0)) = some Z
        rw [ar_85 gY.1.1.1, ti_n hi (by decide), gd_T]
        exact z1
      · have g3 := y2.w 85 i v (by omega)
        show MSp T n (Amq 84 i) Y (sw_gd [sw_ar Y 85 13 (nI i)] (f_Model_part_107 N 80 (nI 4) (nI i) (wr_I Y 85 i v))) (pbn (p2 T n 4 sp b2) (fun r b3 => Sum.inr ((u, v, r), b3))) _
        rw [ar_85 y2.1.1.1, ti_n hi (by decide), gd_T]
        have t14 : rd_I (wr_I Y 85 i v) 80 14 = rd_I M 80 14 := by rw [w_o (by omega), y1.I 80 14 (by unfold A31; omega)]; exact x14
        refine MSp.map (f := fun r : Int32 × Option Int32 × Int32 × Int32 => (u, v, r)) (m107 N hN (sp := sp) (cnt := cnt) g3 (by rw [w_o (by omega)]; exact y3) hk hi (by rw [w_o (by omega), y1.I 80 11 (by unfold A31; omega)]; exact x11) (by rw [t14]; exact hsp)) ((Fr.refl _ Y).wI _ _ _ (by unfold Amq; omega)) (fun a k h => Amq_m (by omega) h) (fun st Z fZ hz => ⟨?_, ?_, hz.tr t14⟩)
        · rw [fZ.I 84 i (by unfold Amq A31; omega), w_o (by omega), y1.I 84 i (by unfold A31; omega)]; exact x84
        · rw [fZ.I 85 i (by unfold Amq A31; omega), w_s]
  · rw [if_neg (show ¬ nI kd = (4 : Int32) from fun h => c ((nI_eq (by omega) (by decide)).1 (h : nI _ = nI 4))), if_neg c]
    refine MSp.map (f := fun r : Int32 × Option Int32 × Int32 × Int32 => ((0 : Int32), (0 : Int32), r)) (m107 N hN (sp := sp) (cnt := cnt) g h30 hk hi h11 hsp) (Fr.refl _ M) (fun a k h => Amq_m (by omega) h) (fun st Z fZ hz => ⟨?_, ?_, hz⟩)
    · rw [fZ.I 84 i (by unfold Amq A31; omega)]; exact z4
    · rw [fZ.I 85 i (by unfold Amq A31; omega)]; exact z5
def pm8 (M W : sw_M) (i cnt kd : Nat) (r : PT) : Prop := rd_I W 82 i = r.1 ∧ rd_I W 83 i = r.2.1 ∧ rd_I W 84 i = r.2.2.1 ∧ rd_I W 85 i = r.2.2.2.1 ∧ pmt M W i cnt kd r.2.2.2.2
theorem m52 (N : Nat) (hN : 1000 ≤ N) {M : sw_M} {T : Nat → Nat} {n b kd i cnt : Nat} {sp : Bool} (g : MB M T n b) (h30 : rd_I M 80 30 = 0) (hk : kd = 0 ∨ kd = 4) (hi : i < 16) (h11 : rd_I M 80 11 = nI cnt) (hsp : sp = !(decide (rd_I M 80 14 = -1))) (z4 : rd_I M 84 i = 0) (z5 : rd_I M 85 i = 0) : MSp T n (Amq 82 i) M (f_Model_part_52 N 80 (nI kd) (nI i) M) (p4 T n kd sp b) (fun r W => pm8 M W i cnt kd r) := by
  have hM := g.1.1
  unfold f_Model_part_52 p4
  rw [if_pos hk, prs_b, ok_80 hM.1, gd_T, mr_2 hM, cl_n (show i < 2 ^ 31 by omega)]
  refine MNp.bind (K := fun u V => sw_gd [sw_ar V 82 13 (nI i)] (sw_gd [sw_ok (wr_I V 82 i u) 80 12] ((f_Model_signed N 80 9999 (wr_I V 82 i u)).bind (fun u5 => sw_gd [sw_ar u5.2 (rd_R (wr_I V 82 i u) 80 3) 13 (nI i)] (f_Model_part_78 N 80 (nI kd) (nI i) (wr_I u5.2 (rd_R (wr_I V 82 i u) 80 3) i u5.1)))))) (msig N hN g h30 9999 (by omega)) (fun a k h => Or.inl h) (fun f p W gW => ?_) (fun u b1 W w1 w2 w3 => ?_)
  · have F := F52 N gW (nI kd) i hi
    unfold f_Model_part_52 at F
    rw [ok_80 gW.1.1.1, gd_T, mr_2 gW.1.1, cl_n (show i < 2 ^ 31 by omega), msig_f N gW, bn_S] at F
    exact F
  · have hW := w2.1.1
    have g2 := w2.w 82 i u (by omega)
    have f2 : Fr (Amq 82 i) W (wr_I W 82 i u) := (Fr.refl _ W).wI _ _ _ (by unfold Amq; omega)
    have x82 : rd_I (wr_I W 82 i u) 82 i = u := w_s _ _ _ _
    have x11 : rd_I (wr_I W 82 i u) 80 11 = nI cnt := by rw [w_o (by omega), w1.I 80 11 (by unfold A31; omega)]; exact h11
    have x14 : rd_I (wr_I W 82 i u) 80 14 = rd_I M 80 14 := by rw [w_o (by omega), w1.I 80 14 (by unfold A31; omega)]
    have x30 : rd_I (wr_I W 82 i u) 80 30 = 0 := by rw [w_o (by omega)]; exact w3
    have x84 : rd_I (wr_I W 82 i u) 84 i = 0 := by rw [w_o (by omega), w1.I 84 i (by unfold A31; omega)]; exact z4
    have x85 : rd_I (wr_I W 82 i u) 85 i = 0 := by rw [w_o (by omega), w1.I 85 i (by unfold A31; omega)]; exact z5
    show MSp T n (Amq 82 i) W (sw_gd [sw_ar W 82 13 (nI i)] (sw_gd [sw_ok (wr_I W 82 i u) 80 12] ((f_Model_signed N 80 (nI 9999) (wr_I W 82 i u)).bind _))) _ _
    rw [ar_82 hW.1, ti_n hi (by decide), gd_T]
    generalize wr_I W 82 i u = X at *
    have hX := g2.1.1
    rw [ok_80 hX.1, gd_T, mr_3 hX]
    refine MSp.mono (A := Amq 82 i) (M := X) (post := fun r W => pm8 M W i cnt kd r) ?_ f2 (fun a k h => h) (fun v Z _ h => h)
    refine MNp.bind (K := fun v V => sw_gd [sw_ar V 83 13 (nI i)] (f_Model_part_78 N 80 (nI kd) (nI i) (wr_I V 83 i v))) (msig N hN g2 x30 9999 (by omega)) (fun a k h => Or.inl h) (fun f p Y gY => ?_) (fun v b2 Y y1 y2 y3 => ?_)
    · have g3 := gY.w 83 i 0 (by omega)
      obtain ⟨Z, z1, z2, z3⟩ := F78 N g3 (nI kd) i hi
      refine ⟨Z, ?_, ((Fr.refl _ Y).wI _ _ _ (by unfold Amq; omega)).trans (z2.mono (fun a k h => Amq_m (by omega) h)), z3⟩
      show sw_gd [sw_ar Y 83 13 (nI i)] (f_Model_part_78 N 80 (nI kd) (nI i) (wr_I Y 83 i 0)) = some Z
      rw [ar_83 gY.1.1.1, ti_n hi (by decide), gd_T]
      exact z1
    · have g3 := y2.w 83 i v (by omega)
      show MSp T n (Amq 82 i) Y (sw_gd [sw_ar Y 83 13 (nI i)] (f_Model_part_78 N 80 (nI kd) (nI i) (wr_I Y 83 i v))) (pbn (p3 T n kd sp b2) (fun r b3 => Sum.inr ((u, v, r), b3))) _
      rw [ar_83 y2.1.1.1, ti_n hi (by decide), gd_T]
      have t14 : rd_I (wr_I Y 83 i v) 80 14 = rd_I M 80 14 := by rw [w_o (by omega), y1.I 80 14 (by unfold A31; omega)]; exact x14
      refine MSp.map (f := fun r : Int32 × Int32 × Int32 × Option Int32 × Int32 × Int32 => ((u, v, r) : PT)) (m78 N hN (sp := sp) (cnt := cnt) g3 (by rw [w_o (by omega)]; exact y3) (by omega) hi (by rw [w_o (by omega), y1.I 80 11 (by unfold A31; omega)]; exact x11) (by rw [t14]; exact hsp) (by rw [w_o (by omega), y1.I 84 i (by unfold A31; omega)]; exact x84) (by rw [w_o (by omega), y1.I 85 i (by unfold A31; omega)]; exact x85)) ((Fr.refl _ Y).wI _ _ _ (by unfold Amq; omega)) (fun a k h => Amq_m (by omega) h) (fun st Z fZ hz => ⟨?_, ?_, hz.1, hz.2.1, hz.2.2.tr t14⟩)
      · rw [fZ.I 82 i (by unfold Amq A31; omega), w_o (by omega), y1.I 82 i (by unfold A31; omega)]; exact x82
      · rw [fZ.I 83 i (by unfold Amq A31; omega), w_s]
theorem mpartl (N : Nat) (hN : 1000 ≤ N) {M : sw_M} {T : Nat → Nat} {n b kd cnt : Nat} {sp : Bool} (g : MB M T n b) (h30 : rd_I M 80 30 = 0) (hk : kd < 5) (hc : cnt < 8) (h11 : rd_I M 80 11 = nI cnt) (hsp : sp = !(decide (rd_I M 80 14 = -1))) : MSp T n (Amq 81 (8 + cnt)) M (f_Model_part N 80 (nI kd) M) (p4 T n kd sp b) (fun r W => rd_I W 81 (8 + cnt) = nI kd ∧ pm8 M W (8 + cnt) cnt kd r) := by
  have hM := g.1.1
  have e8 : (8 : Int32) + nI cnt = nI (8 + cnt) := nI_add 8 cnt
  unfold f_Model_part
  rw [h11, e8, cl_n (show 8 + cnt < 2 ^ 31 by omega)]
  have hi : 8 + cnt < 16 := by omega
  generalize 8 + cnt = i at *
  have M1 := mr_w hM 81 i (nI kd)
  have M2 := mr_w M1 82 i 0
  have M3 := mr_w M2 83 i 0
  have M4 := mr_w M3 84 i 0
  rw [ok_80 hM.1, gd_T, mr_1 hM, ar_81 hM.1, ti_n hi (by decide), gd_T, mr_2 M1, ar_82 M1.1, ti_n hi (by decide), gd_T, mr_3 M2, ar_83 M2.1, ti_n hi (by decide), gd_T, mr_4 M3, ar_84 M3.1, ti_n hi (by decide), gd_T, mr_5 M4, ar_85 M4.1, ti_n hi (by decide), gd_T]
  have g2 := ((((g.w 81 i (nI kd) (by omega)).w 82 i 0 (by omega)).w 83 i 0 (by omega)).w 84 i 0 (by omega)).w 85 i 0 (by omega)
  have fX : Fr (Amq 81 i) M (wr_I (wr_I (wr_I (wr_I (wr_I M 81 i (nI kd)) 82 i 0) 83 i 0) 84 i 0) 85 i 0) := (((((Fr.refl _ M).wI _ _ _ (by unfold Amq; omega)).wI _ _ _ (by unfold Amq; omega)).wI _ _ _ (by unfold Amq; omega)).wI _ _ _ (by unfold Amq; omega)).wI _ _ _ (by unfold Amq; omega)
  have x80 : ∀ k, rd_I (wr_I (wr_I (wr_I (wr_I (wr_I M 81 i (nI kd)) 82 i 0) 83 i 0) 84 i 0) 85 i 0) 80 k = rd_I M 80 k := fun k => by rw [w_o (by omega), w_o (by omega), w_o (by omega), w_o (by omega), w_o (by omega)]
  have x81 : rd_I (wr_I (wr_I (wr_I (wr_I (wr_I M 81 i (nI kd)) 82 i 0) 83 i 0) 84 i 0) 85 i 0) 81 i = nI kd := by rw [w_o (by omega), w_o (by omega), w_o (by omega), w_o (by omega), w_s]
  have x82 : rd_I (wr_I (wr_I (wr_I (wr_I (wr_I M 81 i (nI kd)) 82 i 0) 83 i 0) 84 i 0) 85 i 0) 82 i = 0 := by rw [w_o (by omega), w_o (by omega), w_o (by omega), w_s]
  have x83 : rd_I (wr_I (wr_I (wr_I (wr_I (wr_I M 81 i (nI kd)) 82 i 0) 83 i 0) 84 i 0) 85 i 0) 83 i = 0 := by rw [w_o (by omega), w_o (by omega), w_s]
  have x84 : rd_I (wr_I (wr_I (wr_I (wr_I (wr_I M 81 i (nI kd)) 82 i 0) 83 i 0) 84 i 0) 85 i 0) 84 i = 0 := by rw [w_o (by omega), w_s]
  have x85 : rd_I (wr_I (wr_I (wr_I (wr_I (wr_I M 81 i (nI kd)) 82 i 0) 83 i 0) 84 i 0) 85 i 0) 85 i = 0 := w_s _ _ _ _
  generalize wr_I (wr_I (wr_I (wr_I (wr_I M 81 i (nI kd)) 82 i 0) 83 i 0) 84 i 0) 85 i 0 = X at *
  have hx : sp = !(decide (rd_I X 80 14 = -1)) := by rw [x80]; exact hsp
  have fin : ∀ x : Option sw_M, MSp T n (Amq 82 i) X x (p4 T n kd sp b) (fun r W => pm8 X W i cnt kd r) → MSp T n (Amq 81 i) M x (p4 T n kd sp b) (fun r W => rd_I W 81 i = nI kd ∧ pm8 M W i cnt kd r) := fun x h =>
    h.mono fX (fun a k h => Amq_m (by omega) h) (fun r W fW hp => ⟨(fW.I 81 i (by unfold Amq A31; omega)).trans x81, hp.1, hp.2.1, hp.2.2.1, hp.2.2.2.1, hp.2.2.2.2.tr (x80 14)⟩)
  rcases (by omega : kd = 0 ∨ kd = 4 ∨ (kd = 1 ∨ kd = 2 ∨ kd = 3)) with e | e | e
  · subst e
    exact fin _ (m52 N hN g2 ((x80 30).trans h30) (Or.inl rfl) hi ((x80 11).trans h11) hx x84 x85)
  · subst e
    exact fin _ (m52 N hN g2 ((x80 30).trans h30) (Or.inr rfl) hi ((x80 11).trans h11) hx x84 x85)
  · have hh : MSp T n (Amq 82 i) X (f_Model_part_78 N 80 (nI kd) (nI i) X) (p4 T n kd sp b) (fun r W => pm8 X W i cnt kd r) := by
      unfold p4
      rw [if_neg (by omega)]
      refine MSp.map (f := fun r : Int32 × Int32 × Int32 × Option Int32 × Int32 × Int32 => (((0 : Int32), (0 : Int32), r) : PT)) (m78 N hN (sp := sp) (cnt := cnt) g2 ((x80 30).trans h30) hk hi ((x80 11).trans h11) hx x84 x85) (Fr.refl _ X) (fun a k h => Amq_m (by omega) h) (fun st Z fZ hz => ⟨?_, ?_, hz.1, hz.2.1, hz.2.2⟩)
      · rw [fZ.I 82 i (by unfold Amq A31; omega)]; exact x82
      · rw [fZ.I 83 i (by unfold Amq A31; omega)]; exact x83
    have h3 := fin _ hh
    rcases e with rfl | rfl | rfl <;> exact h3
