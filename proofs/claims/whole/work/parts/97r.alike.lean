/-! 97r: alike, both -/
theorem RT_of {Z : sw_M} {E : EN} {mass : Int32} (hE : EK E) (hm : mok mass) {o : Nat} (ho : o < E.no) (hM : MR Z) (h1 : HO Z E mass o) (h2 : MO Z E mass o) : RT Z o (rbF (TT E mass o) (DD E mass o)) := by
  obtain ⟨⟨s1, s2, s3, s4, s5, s6, s7, s8, s9, s10⟩, -⟩ := h1
  obtain ⟨m1, m2, m3, m4, m5, ⟨m6, m7, m8, m9⟩, m10⟩ := h2
  have h6 := hE.2.2.2.1
  obtain ⟨w1, w2, w3, w4, w5⟩ := ways hE hm ho
  have hD : DD E mass o ≤ 240 := Nat.le_trans w1 hE.2.2.1
  have hb := rbF_le (TT E mass o) (DD E mass o)
  refine ⟨by omega, by omega, m9, s8, fun n hn => ?_⟩
  have key : ∀ N, 300 ≤ N → ∃ k, k < DD E mass o ∧ crb (TT E mass o) k = true ∧ rbF (TT E mass o) k = n ∧ f_Model_backOf N 80 (nI o) (nI n) Z = some ((TT E mass o (k + 1)).x.toInt32, Z) := fun N hN => by
    obtain ⟨k, k1, k2, k3, k4⟩ := Model_backOf_5 N (TT E mass o) (DD E mass o) hD o (by omega) Z hM m1 n hn (DD E mass o) N 0 (by omega) (by omega) (Nat.zero_le _)
    refine ⟨k, k1, k2, k3, ?_⟩
    have e0 : nI (n - rbF (TT E mass o) 0) = nI n := by rw [rbF, Nat.sub_zero]
    rw [e0] at k4
    exact k4
  refine ⟨fun N hN => ?_, ?_⟩
  · obtain ⟨k, k1, k2, k3, k4⟩ := key N hN
    have := s10 k k1 k2
    rw [k3] at this
    rw [this]
    exact k4
  · obtain ⟨k, k1, k2, k3, k4⟩ := key 300 (by omega)
    have := s10 k k1 k2
    rw [k3] at this
    rw [this]
    obtain ⟨-, b1, -⟩ := w2 (k + 1) (by omega)
    have hf : (TT E mass o (k + 1)).x.toInt32.toInt = (TT E mass o (k + 1)).x.toInt := by
      have h1 : (TT E mass o (k + 1)).x.toInt32.toInt64 = (TT E mass o (k + 1)).x := fit b1
      rw [← t64, h1]
    rw [hf]
    exact b1
theorem AoA2 {p : Nat} : ∀ a k, Ao (hob p) a k → ¬ A2q a k := fun a k h => ChA2 a k (Or.inl (by unfold Ao hob at h; omega))
theorem anyN_c {p q : Nat → Bool} (h : ∀ t, p t = q t) (d t : Nat) : anyN p d t = anyN q d t := by rw [funext h]
noncomputable def alk (W : sw_M) (E : EN) (mass : Int32) (o1 o2 : Nat) : Bool := hlf (rbF (TT E mass o1) (DD E mass o1)) (0 + cN (fun i => anyN (fun t => nea (rd_I W (hob o1 + 6) i) (rd_I W (hob o2 + 6) t)) (rbF (TT E mass o2) (DD E mass o2)) 0) (rbF (TT E mass o1) (DD E mass o1)) 0)
theorem pr_alike (N : Nat) (hN : 300 ≤ N) (c : Nat) (M : sw_M) (g : Inv c M) (a b : Int32) : PR c M (f_House_alike N 1 a b) (f_Model_alike N 80 a b) := by
  obtain ⟨Q, mass, gx, g9, g10⟩ := id g
  have hH := gx.1.1
  have hM := gx.2.1.1
  have hE := gx.1.2.2.1
  have hmb := mok_of gx
  have h6 := hE.1.2.2.2.1
  have oE : ∀ V, IX c V Q mass → ∀ x, f_Model_isOrbit N 80 x (wr_I V 80 0 0) = some (bz (decide (0 ≤ x.toInt ∧ x.toInt < Q.E.no)), wr_I V 80 0 0) := fun V gV x => isOrbit N _ (show MR (wr_I V 80 0 0) from gV.2.1.1) Q.E.no h6 (by simp only [m_II, m_LL, m_RR, m_IL, m_IR, m_LI, m_LR, m_RI, m_RL, m_NI, m_NL, m_NR, m_okI, m_okL, m_okR, m_okaI, m_okaL, m_okaR, m_arI, m_arL, m_arR, gd_T, bn_S, Nat.reduceEqDiff, Nat.left_eq_add, Nat.add_eq_left, Nat.one_ne_zero, and_false, and_true, false_and, true_and, if_false, if_true]; exact gV.1.2.2.1.2.2.2.2.2.1) x
  have f0 : ∀ V, Fr A2q V (wr_I V 80 0 0) := fun V => (Fr.refl _ V).wI _ _ _ (by unfold A2q; omega)
  by_cases v : 0 ≤ a.toInt ∧ a.toInt < Q.E.no
  · rcases known_s N hN gx g9 a with ⟨n, -⟩ | ⟨-, W, w1, w2, w3, w4⟩
    · exact absurd v n
    have fW : Fr A1q M W := w2.mono (fun a k h => Or.inr h)
    have gW := IX_fr fW CiA1 gx
    have hHW := gW.1.1
    have hMW := gW.2.1.1
    rcases known_s N hN gW w3 b with ⟨n, n1⟩ | ⟨v2, V, v1, y2, y3, y4⟩
    · refine ⟨0, W, wr_I W 80 0 0, ?_, hMW, ?_, Inv_q gx g10 fW w3 (f0 W)⟩
      · unfold f_House_alike
        rw [ok_1 hH.1, gd_T, hr_f hH 1 6 33 rfl (by decide), ok_33 hH.1, gd_T, w1, bn_S]
        show sw_gd [sw_ok W 1 11] (sw_gd [sw_ok W (rd_R W 1 6) 10] ((f_Swarm_known N (rd_R W 1 6) b W).bind _)) = _
        rw [ok_1 hHW.1, gd_T, hr_f hHW 1 6 33 rfl (by decide), ok_33 hHW.1, gd_T, n1, bn_S]
        show (if hob a.toInt.toNat = 0 then _ else if (0 : Nat) = 0 then some ((0 : Int32), W) else _) = _
        rw [if_neg (hob_0 _), if_pos rfl]
      · unfold f_Model_alike
        rw [ok_80 hMW.1, gd_T, oE W gW a, bn_S, decide_eq_true v]
        show (if bz true = 0 then _ else sw_gd [sw_ok (wr_I W 80 0 0) 80 12] ((f_Model_isOrbit N 80 b (wr_I W 80 0 0)).bind _)) = _
        rw [if_neg (show ¬ bz true = 0 by decide), show sw_ok (wr_I W 80 0 0) 80 12 = true from ok_80 hMW.1, gd_T, oE W gW b, bn_S, decide_eq_false n]
        rfl
    · have fV : Fr A1q M V := fW.trans (y2.mono (fun a k h => Or.inr h))
      have gV := IX_fr fV CiA1 gx
      have hHV := gV.1.1
      have hMV := gV.2.1.1
      have ha := nI_back a v.1
      have hb := nI_back b v2.1
      obtain ⟨o1, ho1⟩ : ∃ o, o = a.toInt.toNat := ⟨_, rfl⟩
      obtain ⟨o2, ho2⟩ : ∃ o, o = b.toInt.toNat := ⟨_, rfl⟩
      rw [← ho1] at ha w1
      rw [← ho2] at hb v1
      have l1 : o1 < Q.E.no := by omega
      have l2 : o2 < Q.E.no := by omega
      obtain ⟨z1, z2, z3, Z, z4, z5, z6, z7⟩ := preG N hN gV o1 l1
      obtain ⟨-, -, -, Z', z4', -, -, z7'⟩ := preG N hN gV o2 l2
      rw [z4] at z4'
      obtain rfl : Z = Z' := by simpa using z4'
      have hO1 := y4 o1 l1
      have hO2 := y4 o2 l2
      have q1 : OQ V (hob o1) := (gV.1.2.2.2.1.2.2.2.2.2 o1 l1).2.1
      have q2 : OQ V (hob o2) := (gV.1.2.2.2.1.2.2.2.2.2 o2 l2).2.1
      have r1 := RT_of hE.1 hmb l1 z5 (HO_fr z6 AoA2 hO1) z7
      have r2 := RT_of hE.1 hmb l2 z5 (HO_fr z6 AoA2 hO2) z7'
      have rb1 := r1.1
      have rb2 := r2.1
      have iz : ∀ o n, rd_I Z (hob o + 6) n = rd_I V (hob o + 6) n := fun o n => z6.I _ _ (ChA2 _ _ (Or.inl (by unfold hob; omega)))
      have mh : ∀ x y mx my, RT Z x mx → RT Z y my → f_Model_hasHalf N 80 (nI x) (nI y) Z = some (bz (hlf mx (0 + cN (fun i => anyN (fun t => nea (rd_I V (hob x + 6) i) (rd_I V (hob y + 6) t)) my 0) mx 0)), Z) := fun x y mx my hx hy => by
        have := mh_5 N hN Z z5 x y mx my hx hy mx 0 0 N (by omega) (by have := hx.1; omega) (Nat.le_refl 0)
        simp only [iz] at this
        exact this
      have hh1 := hn_4 N hN (hob o1) (hob o2) V q1 q2 _ _ rb1 rb2 hO1.1.2.2.2.2.2.2.2.1 hO2.1.2.2.2.2.2.2.2.1 (rbF (TT Q.E mass o1) (DD Q.E mass o1)) 0 0 N (by omega) (by omega) (Nat.le_refl 0)
      have hh2 := hn_4 N hN (hob o2) (hob o1) V q2 q1 _ _ rb2 rb1 hO2.1.2.2.2.2.2.2.2.1 hO1.1.2.2.2.2.2.2.2.1 (rbF (TT Q.E mass o2) (DD Q.E mass o2)) 0 0 N (by omega) (by omega) (Nat.le_refl 0)
      have mm1 := mh o1 o2 _ _ r1 r2
      have mm2 := mh o2 o1 _ _ r2 r1
      have hh1' : f_Orbit_mostlyReturnsNear N (hob o1) (hob o2) V = some (bz (alk V Q.E mass o1 o2), V) := hh1
      have hh2' : f_Orbit_mostlyReturnsNear N (hob o2) (hob o1) V = some (bz (alk V Q.E mass o2 o1), V) := hh2
      have mm1' : f_Model_hasHalf N 80 (nI o1) (nI o2) Z = some (bz (alk V Q.E mass o1 o2), Z) := mm1
      have mm2' : f_Model_hasHalf N 80 (nI o2) (nI o1) Z = some (bz (alk V Q.E mass o2 o1), Z) := mm2
      have eh : f_House_alike N 1 a b M = if gnF (TT Q.E mass o1) (DD Q.E mass o1) = 0 then (if gnF (TT Q.E mass o2) (DD Q.E mass o2) = 0 then (if kd (gnF (TT Q.E mass o1) (DD Q.E mass o1)) (slF (TT Q.E mass o1) (DD Q.E mass o1)) (shF (TT Q.E mass o1) (DD Q.E mass o1)) = kd (gnF (TT Q.E mass o2) (DD Q.E mass o2)) (slF (TT Q.E mass o2) (DD Q.E mass o2)) (shF (TT Q.E mass o2) (DD Q.E mass o2)) then (if bz (alk V Q.E mass o1 o2) = 0 then some (0, V) else if bz (alk V Q.E mass o2 o1) = 0 then some (0, V) else some (1, V)) else some (0, V)) else some (0, V)) else some (0, V) := by
        unfold f_House_alike
        rw [ok_1 hH.1, gd_T, hr_f hH 1 6 33 rfl (by decide), ok_33 hH.1, gd_T, w1, bn_S]
        show sw_gd [sw_ok W 1 11] (sw_gd [sw_ok W (rd_R W 1 6) 10] ((f_Swarm_known N (rd_R W 1 6) b W).bind _)) = _
        rw [ok_1 hHW.1, gd_T, hr_f hHW 1 6 33 rfl (by decide), ok_33 hHW.1, gd_T, v1, bn_S]
        show (if hob o1 = 0 then _ else if hob o2 = 0 then _ else _) = _
        rw [if_neg (hob_0 _), if_neg (hob_0 _)]
        simp only [q1.ok, q2.ok, gd_T, Orbit_kind N V (hob o1) q1.ok, Orbit_kind N V (hob o2) q2.ok, bn_S, hO1.2.1, hO2.2.1, hO1.1.2.2.2.2.2.1, hO1.1.2.2.2.2.2.2.1, hO2.1.2.2.2.2.2.1, hO2.1.2.2.2.2.2.2.1, hh1', hh2']
      have em : f_Model_alike N 80 a b V = if gnF (TT Q.E mass o1) (DD Q.E mass o1) = 0 then (if gnF (TT Q.E mass o2) (DD Q.E mass o2) = 0 then (if kd (gnF (TT Q.E mass o1) (DD Q.E mass o1)) (slF (TT Q.E mass o1) (DD Q.E mass o1)) (shF (TT Q.E mass o1) (DD Q.E mass o1)) = kd (gnF (TT Q.E mass o2) (DD Q.E mass o2)) (slF (TT Q.E mass o2) (DD Q.E mass o2)) (shF (TT Q.E mass o2) (DD Q.E mass o2)) then (if bz (alk V Q.E mass o1 o2) = 0 then some (0, Z) else if bz (alk V Q.E mass o2 o1) = 0 then some (0, Z) else some (1, Z)) else some (0, Z)) else some (0, Z)) else some (0, Z) := by
        unfold f_Model_alike f_Model_alike_82
        rw [ok_80 hMV.1, gd_T, oE V gV a, bn_S, decide_eq_true v]
        show (if bz true = 0 then _ else sw_gd [sw_ok (wr_I V 80 0 0) 80 12] ((f_Model_isOrbit N 80 b (wr_I V 80 0 0)).bind _)) = _
        rw [if_neg (show ¬ bz true = 0 by decide), z3, gd_T, oE V gV b, bn_S, decide_eq_true v2]
        show (if bz true = 0 then _ else sw_gd [sw_ok (wr_I V 80 0 0) 80 12] ((f_Model_goAll N 80 (rd_I (wr_I V 80 0 0) 80 15) (wr_I V 80 0 0)).bind _)) = _
        rw [if_neg (show ¬ bz true = 0 by decide), z3, gd_T, z2, z4, bn_S, ← ha, ← hb]
        simp only [ok_80 z5.1, mr_61 z5, mr_62 z5, ar_103 z5.1, ar_104 z5.1, an_103_14, Bool.false_or, gd_T, ti_n (show o1 < 6 by omega) (by decide), cl_n (show o1 < 2 ^ 31 by omega), ti_n (show o2 < 6 by omega) (by decide), cl_n (show o2 < 2 ^ 31 by omega), z7.2.2.1, z7'.2.2.1, z7.2.2.2.1, z7'.2.2.2.1, mm1', mm2', bn_S]
      have iZ := Inv_q gx g10 fV y3 z6
      by_cases c1 : gnF (TT Q.E mass o1) (DD Q.E mass o1) = 0
      · by_cases c2 : gnF (TT Q.E mass o2) (DD Q.E mass o2) = 0
        · rw [if_pos c1, if_pos c2] at eh em
          split at eh
          · rename_i c3
            rw [if_pos c3] at em
            split at eh
            · rename_i c4
              rw [if_pos c4] at em
              exact ⟨0, V, Z, eh, hMV, em, iZ⟩
            · rename_i c4
              rw [if_neg c4] at em
              split at eh
              · rename_i c5
                rw [if_pos c5] at em
                exact ⟨0, V, Z, eh, hMV, em, iZ⟩
              · rename_i c5
                rw [if_neg c5] at em
                exact ⟨1, V, Z, eh, hMV, em, iZ⟩
          · rename_i c3
            rw [if_neg c3] at em
            exact ⟨0, V, Z, eh, hMV, em, iZ⟩
        · exact ⟨0, V, Z, by rw [eh, if_pos c1, if_neg c2], hMV, by rw [em, if_pos c1, if_neg c2], iZ⟩
      · exact ⟨0, V, Z, by rw [eh, if_neg c1], hMV, by rw [em, if_neg c1], iZ⟩
  · obtain ⟨n1, n2⟩ := preN N hN gx g9 a v
    rcases known_s N hN gx g9 b with ⟨n, n3⟩ | ⟨v2, V, v1, y2, y3, y4⟩
    · refine PR_0 0 g ?_ ?_
      · unfold f_House_alike
        rw [ok_1 hH.1, gd_T, hr_f hH 1 6 33 rfl (by decide), ok_33 hH.1, gd_T, n1, bn_S]
        show sw_gd [sw_ok M 1 11] (sw_gd [sw_ok M (rd_R M 1 6) 10] ((f_Swarm_known N (rd_R M 1 6) b M).bind _)) = _
        rw [ok_1 hH.1, gd_T, hr_f hH 1 6 33 rfl (by decide), ok_33 hH.1, gd_T, n3, bn_S]
        rfl
      · unfold f_Model_alike
        rw [ok_80 hM.1, gd_T, n2, bn_S]
        rfl
    · have fV : Fr A1q M V := y2.mono (fun a k h => Or.inr h)
      have gV := IX_fr fV CiA1 gx
      refine ⟨0, V, wr_I V 80 0 0, ?_, gV.2.1.1, ?_, Inv_q gx g10 fV y3 (f0 V)⟩
      · unfold f_House_alike
        rw [ok_1 hH.1, gd_T, hr_f hH 1 6 33 rfl (by decide), ok_33 hH.1, gd_T, n1, bn_S]
        show sw_gd [sw_ok M 1 11] (sw_gd [sw_ok M (rd_R M 1 6) 10] ((f_Swarm_known N (rd_R M 1 6) b M).bind _)) = _
        rw [ok_1 hH.1, gd_T, hr_f hH 1 6 33 rfl (by decide), ok_33 hH.1, gd_T, v1, bn_S]
        rfl
      · unfold f_Model_alike
        rw [ok_80 gV.2.1.1.1, gd_T, oE V gV a, bn_S, decide_eq_false v]
        rfl
