/-! 98: the run of the law's function -/
theorem sw_main (L : Nat) (xs : Nat → Int32) (hL : L ≤ 5632) : ∃ (N : Nat) (Mz : sw_M), f_Law_law N L xs sw_M0 = some (1, Mz) ∧ rd_N Mz ≤ 178 := by
  obtain ⟨Mz, e, hz⟩ := lw_loop 200000 L xs (Nat.le_refl _) hL 200000 0 mi0 Inv_i (by omega) (by omega)
  refine ⟨200000, Mz, ?_, hz⟩
  have g1 : sw_nx sw_M0 11 0 = true := by decide +kernel
  have g2 : sw_ok (wr_N sw_M0) 1 11 = true := by decide +kernel
  have e0 : rd_N sw_M0 + 1 = 1 := rfl
  have eh : f_House_init 200000 1 (wr_N sw_M0) = some hi0 := getD_s hi_s
  have g3 : sw_nx hi0 12 0 = true := by
    unfold sw_nx
    rw [hi_n]
    decide +kernel
  have e80 : rd_N hi0 + 1 = 80 := by rw [hi_n]
  have g4 : sw_ok (wr_N hi0) 80 12 = true := by decide +kernel
  have em : f_Model_init 200000 80 (wr_N hi0) = some mi0 := getD_s mi_s
  unfold f_Law_law
  rw [g1, gd_T, e0, g2, gd_T, eh, bn_S, g3, gd_T, e80, g4, gd_T, em, bn_S]
  exact e
