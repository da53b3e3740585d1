/-! 97zzf: a new object of both -/
def hi0 : sw_M := (f_House_init 200000 1 (wr_N sw_M0)).getD sw_M0
def mi0 : sw_M := (f_Model_init 200000 80 (wr_N hi0)).getD sw_M0
theorem getD_s {α : Type} {x : Option α} {d : α} (h : x.isSome = true) : x = some (x.getD d) := by
  cases x with
  | none => cases h
  | some a => rfl
set_option maxRecDepth 100000 in
theorem hi_s : (f_House_init 200000 1 (wr_N sw_M0)).isSome = true := by decide +kernel
set_option maxRecDepth 100000 in
theorem hi_n : rd_N hi0 = 79 := by decide +kernel
set_option maxRecDepth 100000 in
theorem mi_s : (f_Model_init 200000 80 (wr_N hi0)).isSome = true := by decide +kernel
set_option maxRecDepth 100000 in
theorem mi_n : rd_N mi0 = 124 := by decide +kernel
set_option maxRecDepth 100000 in
theorem mi_m : ∀ k, k < 91 → rd_R mi0 80 k = mrf k := by decide +kernel
set_option maxRecDepth 100000 in
theorem mi_h : ∀ a, a < 79 → ∀ k, k < 11 → hrf a k ≠ 0 → rd_R mi0 a k = hrf a k := by decide +kernel
set_option maxRecDepth 100000 in
theorem mi_r : rd_R mi0 3 0 = 4 ∧ rd_R mi0 3 1 = 5 ∧ rd_R mi0 18 0 = 19 ∧ rd_R mi0 18 1 = 20 := by decide +kernel
set_option maxRecDepth 100000 in
theorem mi_i : (rd_I mi0 80 10 = 0 ∧ rd_I mi0 3 2 = 0 ∧ rd_I mi0 80 51 = 60 ∧ rd_I mi0 80 20 = 0 ∧ rd_I mi0 80 18 = 0 ∧ rd_I mi0 80 50 = 0 ∧ rd_I mi0 80 71 = 4 ∧ rd_I mi0 80 72 = 1000) ∧ (rd_I mi0 33 4 = 60 ∧ rd_I mi0 33 5 = 4 ∧ rd_I mi0 33 6 = 1000 ∧ rd_I mi0 33 3 = 0 ∧ rd_I mi0 5 5 = 0 ∧ rd_I mi0 5 3 = 0 ∧ rd_I mi0 5 6 = 0) ∧ (rd_I mi0 36 5 = 0 ∧ rd_I mi0 80 76 = 0 ∧ rd_I mi0 42 8 = 6 ∧ rd_I mi0 80 75 = 6 ∧ rd_I mi0 3 3 = 0 ∧ rd_I mi0 3 4 = 0 ∧ rd_I mi0 3 5 = 0 ∧ rd_I mi0 80 13 = -1 ∧ rd_I mi0 80 15 = 0) ∧ (rd_I mi0 1 5 = 0 ∧ rd_I mi0 80 43 = 0 ∧ rd_I mi0 78 9 = 0 ∧ rd_I mi0 80 89 = 0 ∧ rd_I mi0 1 1 = 0 ∧ rd_I mi0 80 23 = 0 ∧ rd_I mi0 17 9 = 0 ∧ rd_I mi0 80 32 = 0 ∧ rd_I mi0 17 10 = -1 ∧ rd_I mi0 80 33 = -1 ∧ rd_I mi0 33 7 = 0 ∧ rd_I mi0 68 5 = 0) := by decide +kernel
theorem hrf_i {a k : Nat} (h : hrf a k ≠ 0) : a < 79 ∧ k < 11 := by
  revert h
  unfold hrf
  split <;> (try split) <;> intro h <;> first | exact absurd rfl h | omega
theorem mi_H : HR mi0 := ⟨by rw [mi_n]; decide, Or.inl mi_r, fun a k h => mi_h a (hrf_i h).1 k (hrf_i h).2 h⟩
theorem mi_M : MR mi0 := ⟨by rw [mi_n]; decide, mi_m⟩
noncomputable def ei0 : EN := (mpart mi0, 0, 60, 0, fun _ => (0, 0), 0, 0, fun _ => s0 0 0 0 0, 4, 1000)
def bi0 : NN := (0, fun _ => false, fun _ => 0, fun _ => 0, fun _ => 0, fun _ => 0)
theorem Inv_i : Inv 0 mi0 := by
  obtain ⟨⟨a1, a2, a3, a4, a5, a6, a7, a8⟩, ⟨b1, b2, b3, b4, b5, b6, b7⟩, ⟨c1, c2, c3, c4, c5, c6, c7, c8, c9⟩, ⟨d1, d2, d3, d4, d5, d6, d7, d8, d9, d10, d11, d12⟩⟩ := mi_i
  have r31 : rd_R mi0 3 1 = 5 := mi_r.2.1
  have fR : FR mi0 0 := ⟨by decide, a1, a2, fun p hp => absurd hp (Nat.not_lt_zero p)⟩
  have ek : EK ei0 := ⟨by decide, fun p hp => absurd hp (Nat.not_lt_zero p), by decide, by decide, fun p hp => absurd hp (Nat.not_lt_zero p), ⟨by decide, by decide⟩, by decide, by decide⟩
  have me : ME mi0 ei0 := ⟨ek, a1, rfl, a3, ⟨by decide, a4, a5, fun t ht => absurd ht (Nat.not_lt_zero t), fun t ht => absurd ht (Nat.not_lt_zero t), fun h => absurd rfl h⟩, a6, fun p hp => absurd hp (Nat.not_lt_zero p), a7, a8⟩
  have he : HE mi0 ei0 := ⟨b1, b2, b3, b4, by rw [r31]; exact ⟨b5, b6, fun t ht => absurd ht (Nat.not_lt_zero t)⟩, fun p hp => absurd hp (Nat.not_lt_zero p)⟩
  have nt : NT mi0 bi0 := ⟨by decide, c1, c2, fun i hi => absurd hi (Nat.not_lt_zero i)⟩
  have qb : QB ((ei0, bi0, 6, 0, 0, 1) : QT) := ⟨ek, ⟨by decide, by decide, by decide⟩, ⟨by decide, by decide⟩, ⟨by decide, by decide⟩, by decide⟩
  refine ⟨(ei0, bi0, 6, 0, 0, 1), 0, ⟨⟨mi_H, fR, me, he, nt, c3, c5, c6, qb⟩, ⟨mi_M, mi_H, fR, me, nt, c4, Or.inl ⟨c8, rfl, rfl⟩, qb⟩, ⟨c7, c9, by decide, by decide⟩, ⟨by rw [d1, d2], Or.inl d1⟩, Or.inl ⟨d3, d4⟩, ⟨0, by decide, d5, d6, fun i hi => absurd hi (by omega)⟩, ⟨by rw [d7, d8], by rw [d9, d10]⟩, by rw [r31]; exact b7, by rw [mi_n]; rfl⟩, Or.inl d11, Or.inl d12⟩
