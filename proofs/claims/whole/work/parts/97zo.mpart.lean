/-! 97zo: a PART's line in the reference -/
def Amq (lo i a k : Nat) : Prop := A31 a k ∨ (a = 80 ∧ k = 11) ∨ (lo ≤ a ∧ a ≤ 89 ∧ k = i) ∨ (lo ≤ 87 ∧ a = 80 ∧ k = 14)
theorem Amq_m {lo lo' i a k : Nat} (h : lo' ≤ lo) (g : Amq lo i a k) : Amq lo' i a k := by
  unfold Amq A31 at *; omega
theorem FM.fr {A : Nat → Nat → Prop} {M W : sw_M} {T : Nat → Nat} {n f p : Nat} (g : FM M T n f p) (h : Fr A M W) (h1 : ¬ A 80 24) (h2 : ¬ A 80 30) (h3 : ¬ A 80 31) (h4 : ∀ k, ¬ A 92 k) : FM W T n f p :=
  ⟨g.1.fr h h1 h4, (h.I 80 30 h2).trans g.2.1, (h.I 80 31 h3).trans g.2.2.1, g.2.2.2⟩
theorem FM.w {M : sw_M} {T : Nat → Nat} {n f p : Nat} (g : FM M T n f p) (a k : Nat) (v : Int32) (h : (80 < a ∧ a < 92) ∨ (a = 80 ∧ (k = 11 ∨ k = 14))) : FM (wr_I M a k v) T n f p :=
  g.fr (A := fun x y => x = a ∧ y = k) ((Fr.refl _ M).wI a k v ⟨rfl, rfl⟩) (by omega) (by omega) (by omega) (fun j => by omega)
theorem MB.w {M : sw_M} {T : Nat → Nat} {n b : Nat} (g : MB M T n b) (a k : Nat) (v : Int32) (h : (80 < a ∧ a < 92) ∨ (a = 80 ∧ (k = 11 ∨ k = 14))) : MB (wr_I M a k v) T n b :=
  g.fr (A := fun x y => x = a ∧ y = k) ((Fr.refl _ M).wI a k v ⟨rfl, rfl⟩) (fun k h1 h2 => by omega) (fun j => by omega)
theorem mr_w {M : sw_M} (h : MR M) (a k : Nat) (v : Int32) : MR (wr_I M a k v) := ((Fr.refl (fun _ _ => True) M).wI a k v trivial).mr h
theorem f236 (N : Nat) {M : sw_M} (hM : MR M) : f_Model_part_236 N 80 M = some (wr_I M 80 11 (rd_I M 80 11 + 1)) := by
  unfold f_Model_part_236
  rw [ok_80 hM.1, gd_T]
theorem F204 (N : Nat) {M : sw_M} {T : Nat → Nat} {n f p : Nat} (g : FM M T n f p) (a1 : Int32) (i : Nat) (hi : i < 16) : ∃ Z, f_Model_part_204 N 80 a1 (nI i) M = some Z ∧ Fr (Amq 88 i) M Z ∧ FM Z T n f p := by
  have hM := g.1.1
  unfold f_Model_part_204
  rw [ok_80 hM.1, gd_T, mr_8 hM, cl_n (show i < 2 ^ 31 by omega), mnum_f N g, bn_S]
  show ∃ Z, sw_gd [sw_ar M 88 13 (nI i)] (if a1 = 3 then sw_gd [sw_ok (wr_I M 88 i 0) 80 12] ((f_Model_number N 80 1 99 (wr_I M 88 i 0)).bind _) else f_Model_part_236 N 80 (wr_I M 88 i 0)) = some Z ∧ _
  have g2 := g.w 88 i 0 (by omega)
  have f2 : Fr (Amq 88 i) M (wr_I M 88 i 0) := (Fr.refl _ M).wI _ _ _ (by unfold Amq; omega)
  rw [ar_88 hM.1, ti_n hi (by decide), gd_T]
  by_cases c : a1 = 3
  · rw [if_pos c, ok_80 g2.1.1.1, gd_T, mnum_f N g2, bn_S]
    show ∃ Z, sw_gd [sw_ar (wr_I M 88 i 0) (rd_R (wr_I M 88 i 0) 80 9) 13 (nI i)] (f_Model_part_236 N 80 (wr_I (wr_I M 88 i 0) (rd_R (wr_I M 88 i 0) 80 9) i 0)) = some Z ∧ _
    rw [mr_9 g2.1.1, ar_89 g2.1.1.1, ti_n hi (by decide), gd_T]
    have g3 := g2.w 89 i 0 (by omega)
    rw [f236 N g3.1.1]
    exact ⟨_, rfl, (f2.wI _ _ _ (by unfold Amq; omega)).wI _ _ _ (by unfold Amq; omega), g3.w 80 11 _ (by omega)⟩
  · rw [if_neg c, f236 N g2.1.1]
    exact ⟨_, rfl, f2.wI _ _ _ (by unfold Amq; omega), g2.w 80 11 _ (by omega)⟩
theorem F178 (N : Nat) {M : sw_M} {T : Nat → Nat} {n f p : Nat} (g : FM M T n f p) (a1 : Int32) (i : Nat) (hi : i < 16) : ∃ Z, f_Model_part_178 N 80 a1 (nI i) M = some Z ∧ Fr (Amq 87 i) M Z ∧ FM Z T n f p := by
  have hM := g.1.1
  unfold f_Model_part_178
  rw [ok_80 hM.1, gd_T, mr_6 hM, mr_7 hM, ar_86 hM.1, ti_n hi (by decide), gd_T, cl_n (show i < 2 ^ 31 by omega), mnum_f N g, bn_S]
  show ∃ Z, sw_gd [sw_ar M 87 13 (nI i)] (sw_gd [sw_ok (wr_I M 87 i 0) 80 12] (f_Model_part_204 N 80 a1 (nI i) (wr_I (wr_I M 87 i 0) 80 14 (rd_I (wr_I M 87 i 0) 80 11)))) = some Z ∧ _
  have g2 := g.w 87 i 0 (by omega)
  have g3 := g2.w 80 14 (rd_I (wr_I M 87 i 0) 80 11) (by omega)
  rw [ar_87 hM.1, ti_n hi (by decide), gd_T, ok_80 g2.1.1.1, gd_T]
  obtain ⟨Z, z1, z2, z3⟩ := F204 N g3 a1 i hi
  exact ⟨Z, z1, (((Fr.refl _ M).wI _ _ _ (by unfold Amq; omega)).wI _ _ _ (by unfold Amq; omega)).trans (z2.mono (fun a k h => Amq_m (by omega) h)), z3⟩
theorem F167 (N : Nat) {M : sw_M} {T : Nat → Nat} {n f p : Nat} (g : FM M T n f p) (a1 : Int32) (i : Nat) (hi : i < 16) : ∃ Z, f_Model_part_167 N 80 a1 (nI i) M = some Z ∧ Fr (Amq 87 i) M Z ∧ FM Z T n f p := by
  unfold f_Model_part_167
  rw [ok_80 g.1.1.1, gd_T, g.2.1, if_neg (nf0 g.2.2.2.1 g.2.2.2.2)]
  exact F178 N g a1 i hi
theorem F107 (N : Nat) {M : sw_M} {T : Nat → Nat} {n f p : Nat} (g : FM M T n f p) (a1 : Int32) (i : Nat) (hi : i < 16) : ∃ Z, f_Model_part_107 N 80 a1 (nI i) M = some Z ∧ Fr (Amq 86 i) M Z ∧ FM Z T n f p := by
  have hM := g.1.1
  unfold f_Model_part_107
  rw [ok_80 hM.1, gd_T, mr_6 hM, cl_n (show i < 2 ^ 31 by omega), mnum_f N g, bn_S]
  have g2 := g.w 86 i 0 (by omega)
  have g3 := g2.w 87 i (rd_I (wr_I M 86 i 0) 86 i) (by omega)
  have fr : Fr (Amq 86 i) M (wr_I (wr_I M 86 i 0) 87 i (rd_I (wr_I M 86 i 0) 86 i)) := ((Fr.refl _ M).wI _ _ _ (by unfold Amq; omega)).wI _ _ _ (by unfold Amq; omega)
  obtain ⟨Z, z1, z2, z3⟩ := F204 N g3 a1 i hi
  refine ⟨Z, ?_, fr.trans (z2.mono (fun a k h => Amq_m (by omega) h)), z3⟩
  show sw_gd [sw_ar M 86 13 (nI i)] (sw_gd [sw_ok (wr_I M 86 i 0) 80 12] (sw_gd [sw_ar (wr_I M 86 i 0) (rd_R (wr_I M 86 i 0) 80 6) 13 (nI i)] (sw_gd [sw_ar (wr_I M 86 i 0) (rd_R (wr_I M 86 i 0) 80 7) 13 (nI i)] (if a1 = 2 then if rd_I (wr_I (wr_I M 86 i 0) (rd_R (wr_I M 86 i 0) 80 7) i (rd_I (wr_I M 86 i 0) (rd_R (wr_I M 86 i 0) 80 6) i)) 80 30 = 0 then _ else f_Model_part_204 N 80 a1 (nI i) (wr_I (wr_I M 86 i 0) (rd_R (wr_I M 86 i 0) 80 7) i (rd_I (wr_I M 86 i 0) (rd_R (wr_I M 86 i 0) 80 6) i)) else f_Model_part_204 N 80 a1 (nI i) (wr_I (wr_I M 86 i 0) (rd_R (wr_I M 86 i 0) 80 7) i (rd_I (wr_I M 86 i 0) (rd_R (wr_I M 86 i 0) 80 6) i)))))) = some Z
  rw [ar_86 hM.1, ti_n hi (by decide), gd_T, ok_80 g2.1.1.1, gd_T, mr_6 g2.1.1, ar_86 g2.1.1.1, ti_n hi (by decide), gd_T, mr_7 g2.1.1, ar_87 g2.1.1.1, ti_n hi (by decide), gd_T, z1, g3.2.1, if_neg (nf0 g.2.2.2.1 g.2.2.2.2)]
  by_cases c : a1 = 2
  · rw [if_pos c]
  · rw [if_neg c]
theorem F78 (N : Nat) {M : sw_M} {T : Nat → Nat} {n f p : Nat} (g : FM M T n f p) (a1 : Int32) (i : Nat) (hi : i < 16) : ∃ Z, f_Model_part_78 N 80 a1 (nI i) M = some Z ∧ Fr (Amq 84 i) M Z ∧ FM Z T n f p := by
  have hM := g.1.1
  unfold f_Model_part_78
  by_cases c : a1 = 4
  · rw [if_pos c, ok_80 hM.1, gd_T, mr_4 hM, cl_n (show i < 2 ^ 31 by omega), msig_f N g, bn_S]
    have g2 := g.w 84 i 0 (by omega)
    have g3 := g2.w 85 i 0 (by omega)
    show ∃ Z, sw_gd [sw_ar M 84 13 (nI i)] (sw_gd [sw_ok (wr_I M 84 i 0) 80 12] ((f_Model_signed N 80 99 (wr_I M 84 i 0)).bind _)) = some Z ∧ _
    rw [ar_84 hM.1, ti_n hi (by decide), gd_T, ok_80 g2.1.1.1, gd_T, msig_f N g2, bn_S]
    show ∃ Z, sw_gd [sw_ar (wr_I M 84 i 0) (rd_R (wr_I M 84 i 0) 80 5) 13 (nI i)] (f_Model_part_107 N 80 a1 (nI i) (wr_I (wr_I M 84 i 0) (rd_R (wr_I M 84 i 0) 80 5) i 0)) = some Z ∧ _
    rw [mr_5 g2.1.1, ar_85 g2.1.1.1, ti_n hi (by decide), gd_T]
    obtain ⟨Z, z1, z2, z3⟩ := F107 N g3 a1 i hi
    exact ⟨Z, z1, (((Fr.refl _ M).wI _ _ _ (by unfold Amq; omega)).wI _ _ _ (by unfold Amq; omega)).trans (z2.mono (fun a k h => Amq_m (by omega) h)), z3⟩
  · rw [if_neg c]
    obtain ⟨Z, z1, z2, z3⟩ := F107 N g a1 i hi
    exact ⟨Z, z1, z2.mono (fun a k h => Amq_m (by omega) h), z3⟩
theorem F52 (N : Nat) {M : sw_M} {T : Nat → Nat} {n f p : Nat} (g : FM M T n f p) (a1 : Int32) (i : Nat) (hi : i < 16) : ∃ Z, f_Model_part_52 N 80 a1 (nI i) M = some Z ∧ Fr (Amq 82 i) M Z ∧ FM Z T n f p := by
  have hM := g.1.1
  unfold f_Model_part_52
  rw [ok_80 hM.1, gd_T, mr_2 hM, cl_n (show i < 2 ^ 31 by omega), msig_f N g, bn_S]
  have g2 := g.w 82 i 0 (by omega)
  have g3 := g2.w 83 i 0 (by omega)
  show ∃ Z, sw_gd [sw_ar M 82 13 (nI i)] (sw_gd [sw_ok (wr_I M 82 i 0) 80 12] ((f_Model_signed N 80 9999 (wr_I M 82 i 0)).bind _)) = some Z ∧ _
  rw [ar_82 hM.1, ti_n hi (by decide), gd_T, ok_80 g2.1.1.1, gd_T, msig_f N g2, bn_S]
  show ∃ Z, sw_gd [sw_ar (wr_I M 82 i 0) (rd_R (wr_I M 82 i 0) 80 3) 13 (nI i)] (f_Model_part_78 N 80 a1 (nI i) (wr_I (wr_I M 82 i 0) (rd_R (wr_I M 82 i 0) 80 3) i 0)) = some Z ∧ _
  rw [mr_3 g2.1.1, ar_83 g2.1.1.1, ti_n hi (by decide), gd_T]
  obtain ⟨Z, z1, z2, z3⟩ := F78 N g3 a1 i hi
  exact ⟨Z, z1, (((Fr.refl _ M).wI _ _ _ (by unfold Amq; omega)).wI _ _ _ (by unfold Amq; omega)).trans (z2.mono (fun a k h => Amq_m (by omega) h)), z3⟩
theorem A31q {M W : sw_M} {lo i : Nat} (h : Fr A31 M W) : Fr (Amq lo i) M W := h.mono (fun a k h => Or.inl h)
theorem m204 (N : Nat) (hN : 1000 ≤ N) {M : sw_M} {T : Nat → Nat} {n b kd i cnt : Nat} (g : MB M T n b) (h30 : rd_I M 80 30 = 0) (hk : kd < 5) (hi : i < 16) (h11 : rd_I M 80 11 = nI cnt) : MSp T n (Amq 88 i) M (f_Model_part_204 N 80 (nI kd) (nI i) M) (p1 T n kd b) (fun st W => rd_I W 80 11 = nI (cnt + 1) ∧ rd_I W 88 i = st.1 ∧ (kd = 3 → rd_I W 89 i = st.2)) := by
  have hM := g.1.1
  unfold f_Model_part_204 p1
  rw [ok_80 hM.1, gd_T, mr_8 hM, cl_n (show i < 2 ^ 31 by omega)]
  refine MNp.bind (K := fun s V => sw_gd [sw_ar V 88 13 (nI i)] (if nI kd = 3 then sw_gd [sw_ok (wr_I V 88 i s) 80 12] ((f_Model_number N 80 1 99 (wr_I V 88 i s)).bind (fun u5 => sw_gd [sw_ar u5.2 (rd_R (wr_I V 88 i s) 80 9) 13 (nI i)] (f_Model_part_236 N 80 (wr_I u5.2 (rd_R (wr_I V 88 i s) 80 9) i u5.1)))) else f_Model_part_236 N 80 (wr_I V 88 i s))) (mnum N hN g h30 1 9999 (by omega) (by omega)) (fun a k h => Or.inl h) (fun f p W gW => ?_) (fun s b1 W w1 w2 w3 => ?_)
  · have hW := gW.1.1
    have g2 := gW.w 88 i 0 (by omega)
    have f2 : Fr (Amq 88 i) W (wr_I W 88 i 0) := (Fr.refl _ W).wI _ _ _ (by unfold Amq; omega)
    show ∃ Z, sw_gd [sw_ar W 88 13 (nI i)] (if nI kd = 3 then sw_gd [sw_ok (wr_I W 88 i 0) 80 12] ((f_Model_number N 80 1 99 (wr_I W 88 i 0)).bind _) else f_Model_part_236 N 80 (wr_I W 88 i 0)) = some Z ∧ _
    rw [ar_88 hW.1, ti_n hi (by decide), gd_T]
    by_cases c : nI kd = 3
    · rw [if_pos c, ok_80 g2.1.1.1, gd_T, mnum_f N g2, bn_S]
      show ∃ Z, sw_gd [sw_ar (wr_I W 88 i 0) (rd_R (wr_I W 88 i 0) 80 9) 13 (nI i)] (f_Model_part_236 N 80 (wr_I (wr_I W 88 i 0) (rd_R (wr_I W 88 i 0) 80 9) i 0)) = some Z ∧ _
      rw [mr_9 g2.1.1, ar_89 g2.1.1.1, ti_n hi (by decide), gd_T]
      have g3 := g2.w 89 i 0 (by omega)
      rw [f236 N g3.1.1]
      exact ⟨_, rfl, (f2.wI _ _ _ (by unfold Amq; omega)).wI _ _ _ (by unfold Amq; omega), g3.w 80 11 _ (by omega)⟩
    · rw [if_neg c, f236 N g2.1.1]
      exact ⟨_, rfl, f2.wI _ _ _ (by unfold Amq; omega), g2.w 80 11 _ (by omega)⟩
  · have hW := w2.1.1
    have g2 := w2.w 88 i s (by omega)
    have f2 : Fr (Amq 88 i) W (wr_I W 88 i s) := (Fr.refl _ W).wI _ _ _ (by unfold Amq; omega)
    have x11 : rd_I (wr_I W 88 i s) 80 11 = nI cnt := by rw [w_o (by omega), w1.I 80 11 (by unfold A31; omega)]; exact h11
    have x30 : rd_I (wr_I W 88 i s) 80 30 = 0 := by rw [w_o (by omega)]; exact w3
    have x88 : rd_I (wr_I W 88 i s) 88 i = s := w_s _ _ _ _
    show MSp T n (Amq 88 i) W (sw_gd [sw_ar W 88 13 (nI i)] (if nI kd = 3 then sw_gd [sw_ok (wr_I W 88 i s) 80 12] ((f_Model_number N 80 (nI 1) (nI 99) (wr_I W 88 i s)).bind _) else f_Model_part_236 N 80 (wr_I W 88 i s))) _ _
    rw [ar_88 hW.1, ti_n hi (by decide), gd_T]
    generalize wr_I W 88 i s = X at *
    have hX := g2.1.1
    by_cases c : kd = 3
    · subst c
      rw [if_pos (by rfl), if_pos rfl, ok_80 hX.1, gd_T, mr_9 hX]
      refine MSp.mono (A := Amq 88 i) (M := X) (post := fun st W => rd_I W 80 11 = nI (cnt + 1) ∧ rd_I W 88 i = st.1 ∧ (3 = 3 → rd_I W 89 i = st.2)) ?_ f2 (fun a k h => h) (fun v Z _ h => h)
      refine MNp.bind (K := fun t V => sw_gd [sw_ar V 89 13 (nI i)] (f_Model_part_236 N 80 (wr_I V 89 i t))) (mnum N hN g2 x30 1 99 (by omega) (by omega)) (fun a k h => Or.inl h) (fun f p Y gY => ?_) (fun t b2 Y y1 y2 y3 => ?_)
      · have g3 := gY.w 89 i 0 (by omega)
        show ∃ Z, sw_gd [sw_ar Y 89 13 (nI i)] (f_Model_part_236 N 80 (wr_I Y 89 i 0)) = some Z ∧ _
        rw [ar_89 gY.1.1.1, ti_n hi (by decide), gd_T, f236 N g3.1.1]
        exact ⟨_, rfl, ((Fr.refl _ Y).wI _ _ _ (by unfold Amq; omega)).wI _ _ _ (by unfold Amq; omega), g3.w 80 11 _ (by omega)⟩
      · have g3 := y2.w 89 i t (by omega)
        show MSp T n (Amq 88 i) Y (sw_gd [sw_ar Y 89 13 (nI i)] (f_Model_part_236 N 80 (wr_I Y 89 i t))) _ _
        rw [ar_89 y2.1.1.1, ti_n hi (by decide), gd_T, f236 N g3.1.1]
        refine ⟨_, rfl, ((Fr.refl _ Y).wI _ _ _ (by unfold Amq; omega)).wI _ _ _ (by unfold Amq; omega), g3.w 80 11 _ (by omega), ?_, ?_, ?_, fun _ => ?_⟩
        · rw [w_o (by omega), w_o (by omega)]; exact y3
        · rw [w_s, w_o (by omega), y1.I 80 11 (by unfold A31; omega), x11, nI_1]
        · rw [w_o (by omega), w_o (by omega), y1.I 88 i (by unfold A31; omega)]; exact x88
        · rw [w_o (by omega), w_s]
    · rw [if_neg (show ¬ nI kd = (3 : Int32) from fun h => c ((nI_eq (by omega) (by decide)).1 (h : nI _ = nI 3))), if_neg c, f236 N hX]
      refine ⟨_, rfl, f2.wI _ _ _ (by unfold Amq; omega), g2.w 80 11 _ (by omega), ?_, ?_, ?_, fun h => absurd h c⟩
      · rw [w_o (by omega)]; exact x30
      · rw [w_s, x11, nI_1]
      · rw [w_o (by omega)]; exact x88
