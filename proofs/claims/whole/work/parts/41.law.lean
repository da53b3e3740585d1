/-! printed by program: the law as a function, and that its bytes compute it -/
def k_Law_law : sw_K := (x, code, 4, (some .boolean), 13, false)
def f_Law_law_1309 (N L : Nat) (xs : Nat → Int32) (k18 : Nat → Nat → Int32 → sw_M → Option (Int32 × sw_M)) (a1 : Nat) (a2 : Nat) (a3 : Int32) (M : sw_M) : Option (Int32 × sw_M) :=
  k18 a1 a2 (a3 + (11 : Int32)) M
set_option maxRecDepth 10000 in
theorem t_Law_law_1309 {g : sw_G} {d : Nat} (hd : 108 ≤ d) {x : sw_Ct} (hX : sw_Xl g k_Law_law d x) {N L : Nat} {xs : Nat → Int32} (hs : va_X (g_X g 30) L xs (x_s x) (x_s x).heap) (hb : g_X g 30 < (x_s x).heap.size) (hB : ¬ g_B g ≤ g_X g 30) (hend : ∀ (pc : Nat) (M : sw_M) {lv : List (Nat × Value)}, rd_N M ≤ x_1 x → decode (k_c k_Law_law) pc = .ok (.ireturn, 1) → sw_W g x pc lv [.int 1] M) {r : Int32 × sw_M} (hr : r.1 = 1) (hz : rd_N r.2 ≤ x_1 x) (k18 : Nat → Nat → Int32 → sw_M → Option (Int32 × sw_M)) (hk18 : ∀ (a1 : Nat) (a2 : Nat) (a3 : Int32) (M : sw_M), k18 a1 a2 a3 M = some r → sw_W g x 18 [(0, .retAddr 30), (1, .ref a1), (2, .ref a2), (3, .int a3)] [] M) {a1 : Nat} {a2 : Nat} {a3 : Int32} {M : sw_M} (hf : f_Law_law_1309 N L xs k18 a1 a2 a3 M = some r) : sw_W g x 1309 [(0, .retAddr 30), (1, .ref a1), (2, .ref a2), (3, .int a3)] [] M := by
  unfold f_Law_law_1309 at hf
  refine sl_blk hX [(.iinc 3 (11), 0, 0, .int (11 : Int32))] (lv' := [(3, .int (a3 + (11 : Int32))), (0, .retAddr 30), (1, .ref a1), (2, .ref a2)]) (st' := []) (M1 := M) (ob := []) (by decide +kernel) rfl sw_a0 ?_
  show sw_W _ _ 1312 [(3, .int (a3 + (11 : Int32))), (0, .retAddr 30), (1, .ref a1), (2, .ref a2)] [] M
  refine sl_goto hX (off := -1294) (tgt := 18) (by decide +kernel) (by decide) ?_
  exact sw_weak [1, 2, 3, 0] rfl (hk18 _ _ _ _ hf)
def f_Law_law_225 (N L : Nat) (xs : Nat → Int32) (M : sw_M) : Option (Int32 × sw_M) :=
  some ((0 : Int32), M)
set_option maxRecDepth 10000 in
theorem t_Law_law_225 {g : sw_G} {d : Nat} (hd : 108 ≤ d) {x : sw_Ct} (hX : sw_Xl g k_Law_law d x) {N L : Nat} {xs : Nat → Int32} (hs : va_X (g_X g 30) L xs (x_s x) (x_s x).heap) (hb : g_X g 30 < (x_s x).heap.size) (hB : ¬ g_B g ≤ g_X g 30) (hend : ∀ (pc : Nat) (M : sw_M) {lv : List (Nat × Value)}, rd_N M ≤ x_1 x → decode (k_c k_Law_law) pc = .ok (.ireturn, 1) → sw_W g x pc lv [.int 1] M) {r : Int32 × sw_M} (hr : r.1 = 1) (hz : rd_N r.2 ≤ x_1 x) {M : sw_M} (hf : f_Law_law_225 N L xs M = some r) : sw_W g x 225 [] [] M := by
  unfold f_Law_law_225 at hf
  refine sl_blk hX [(.iconst (0), 0, 0, .int (0 : Int32))] (lv' := []) (st' := [.int (0 : Int32)]) (M1 := M) (ob := []) (by decide +kernel) rfl sw_a0 ?_
  show sw_W _ _ 226 [] [.int (0 : Int32)] M
  cases hf
  exact absurd (show (0 : Int32) = 1 from hr) (by decide)
def f_Law_law_294 (N L : Nat) (xs : Nat → Int32) (M : sw_M) : Option (Int32 × sw_M) :=
  some ((0 : Int32), M)
set_option maxRecDepth 10000 in
theorem t_Law_law_294 {g : sw_G} {d : Nat} (hd : 108 ≤ d) {x : sw_Ct} (hX : sw_Xl g k_Law_law d x) {N L : Nat} {xs : Nat → Int32} (hs : va_X (g_X g 30) L xs (x_s x) (x_s x).heap) (hb : g_X g 30 < (x_s x).heap.size) (hB : ¬ g_B g ≤ g_X g 30) (hend : ∀ (pc : Nat) (M : sw_M) {lv : List (Nat × Value)}, rd_N M ≤ x_1 x → decode (k_c k_Law_law) pc = .ok (.ireturn, 1) → sw_W g x pc lv [.int 1] M) {r : Int32 × sw_M} (hr : r.1 = 1) (hz : rd_N r.2 ≤ x_1 x) {M : sw_M} (hf : f_Law_law_294 N L xs M = some r) : sw_W g x 294 [] [] M := by
  unfold f_Law_law_294 at hf
  refine sl_blk hX [(.iconst (0), 0, 0, .int (0 : Int32))] (lv' := []) (st' := [.int (0 : Int32)]) (M1 := M) (ob := []) (by decide +kernel) rfl sw_a0 ?_
  show sw_W _ _ 295 [] [.int (0 : Int32)] M
  cases hf
  exact absurd (show (0 : Int32) = 1 from hr) (by decide)
def f_Law_law_347 (N L : Nat) (xs : Nat → Int32) (M : sw_M) : Option (Int32 × sw_M) :=
  some ((0 : Int32), M)
set_option maxRecDepth 10000 in
theorem t_Law_law_347 {g : sw_G} {d : Nat} (hd : 108 ≤ d) {x : sw_Ct} (hX : sw_Xl g k_Law_law d x) {N L : Nat} {xs : Nat → Int32} (hs : va_X (g_X g 30) L xs (x_s x) (x_s x).heap) (hb : g_X g 30 < (x_s x).heap.size) (hB : ¬ g_B g ≤ g_X g 30) (hend : ∀ (pc : Nat) (M : sw_M) {lv : List (Nat × Value)}, rd_N M ≤ x_1 x → decode (k_c k_Law_law) pc = .ok (.ireturn, 1) → sw_W g x pc lv [.int 1] M) {r : Int32 × sw_M} (hr : r.1 = 1) (hz : rd_N r.2 ≤ x_1 x) {M : sw_M} (hf : f_Law_law_347 N L xs M = some r) : sw_W g x 347 [] [] M := by
  unfold f_Law_law_347 at hf
  refine sl_blk hX [(.iconst (0), 0, 0, .int (0 : Int32))] (lv' := []) (st' := [.int (0 : Int32)]) (M1 := M) (ob := []) (by decide +kernel) rfl sw_a0 ?_
  show sw_W _ _ 348 [] [.int (0 : Int32)] M
  cases hf
  exact absurd (show (0 : Int32) = 1 from hr) (by decide)
def f_Law_law_410 (N L : Nat) (xs : Nat → Int32) (M : sw_M) : Option (Int32 × sw_M) :=
  some ((0 : Int32), M)
set_option maxRecDepth 10000 in
theorem t_Law_law_410 {g : sw_G} {d : Nat} (hd : 108 ≤ d) {x : sw_Ct} (hX : sw_Xl g k_Law_law d x) {N L : Nat} {xs : Nat → Int32} (hs : va_X (g_X g 30) L xs (x_s x) (x_s x).heap) (hb : g_X g 30 < (x_s x).heap.size) (hB : ¬ g_B g ≤ g_X g 30) (hend : ∀ (pc : Nat) (M : sw_M) {lv : List (Nat × Value)}, rd_N M ≤ x_1 x → decode (k_c k_Law_law) pc = .ok (.ireturn, 1) → sw_W g x pc lv [.int 1] M) {r : Int32 × sw_M} (hr : r.1 = 1) (hz : rd_N r.2 ≤ x_1 x) {M : sw_M} (hf : f_Law_law_410 N L xs M = some r) : sw_W g x 410 [] [] M := by
  unfold f_Law_law_410 at hf
  refine sl_blk hX [(.iconst (0), 0, 0, .int (0 : Int32))] (lv' := []) (st' := [.int (0 : Int32)]) (M1 := M) (ob := []) (by decide +kernel) rfl sw_a0 ?_
  show sw_W _ _ 411 [] [.int (0 : Int32)] M
  cases hf
  exact absurd (show (0 : Int32) = 1 from hr) (by decide)
def f_Law_law_479 (N L : Nat) (xs : Nat → Int32) (M : sw_M) : Option (Int32 × sw_M) :=
  some ((0 : Int32), M)
set_option maxRecDepth 10000 in
theorem t_Law_law_479 {g : sw_G} {d : Nat} (hd : 108 ≤ d) {x : sw_Ct} (hX : sw_Xl g k_Law_law d x) {N L : Nat} {xs : Nat → Int32} (hs : va_X (g_X g 30) L xs (x_s x) (x_s x).heap) (hb : g_X g 30 < (x_s x).heap.size) (hB : ¬ g_B g ≤ g_X g 30) (hend : ∀ (pc : Nat) (M : sw_M) {lv : List (Nat × Value)}, rd_N M ≤ x_1 x → decode (k_c k_Law_law) pc = .ok (.ireturn, 1) → sw_W g x pc lv [.int 1] M) {r : Int32 × sw_M} (hr : r.1 = 1) (hz : rd_N r.2 ≤ x_1 x) {M : sw_M} (hf : f_Law_law_479 N L xs M = some r) : sw_W g x 479 [] [] M := by
  unfold f_Law_law_479 at hf
  refine sl_blk hX [(.iconst (0), 0, 0, .int (0 : Int32))] (lv' := []) (st' := [.int (0 : Int32)]) (M1 := M) (ob := []) (by decide +kernel) rfl sw_a0 ?_
  show sw_W _ _ 480 [] [.int (0 : Int32)] M
  cases hf
  exact absurd (show (0 : Int32) = 1 from hr) (by decide)
def f_Law_law_532 (N L : Nat) (xs : Nat → Int32) (M : sw_M) : Option (Int32 × sw_M) :=
  some ((0 : Int32), M)
set_option maxRecDepth 10000 in
theorem t_Law_law_532 {g : sw_G} {d : Nat} (hd : 108 ≤ d) {x : sw_Ct} (hX : sw_Xl g k_Law_law d x) {N L : Nat} {xs : Nat → Int32} (hs : va_X (g_X g 30) L xs (x_s x) (x_s x).heap) (hb : g_X g 30 < (x_s x).heap.size) (hB : ¬ g_B g ≤ g_X g 30) (hend : ∀ (pc : Nat) (M : sw_M) {lv : List (Nat × Value)}, rd_N M ≤ x_1 x → decode (k_c k_Law_law) pc = .ok (.ireturn, 1) → sw_W g x pc lv [.int 1] M) {r : Int32 × sw_M} (hr : r.1 = 1) (hz : rd_N r.2 ≤ x_1 x) {M : sw_M} (hf : f_Law_law_532 N L xs M = some r) : sw_W g x 532 [] [] M := by
  unfold f_Law_law_532 at hf
  refine sl_blk hX [(.iconst (0), 0, 0, .int (0 : Int32))] (lv' := []) (st' := [.int (0 : Int32)]) (M1 := M) (ob := []) (by decide +kernel) rfl sw_a0 ?_
  show sw_W _ _ 533 [] [.int (0 : Int32)] M
  cases hf
  exact absurd (show (0 : Int32) = 1 from hr) (by decide)
def f_Law_law_609 (N L : Nat) (xs : Nat → Int32) (M : sw_M) : Option (Int32 × sw_M) :=
  some ((0 : Int32), M)
set_option maxRecDepth 10000 in
theorem t_Law_law_609 {g : sw_G} {d : Nat} (hd : 108 ≤ d) {x : sw_Ct} (hX : sw_Xl g k_Law_law d x) {N L : Nat} {xs : Nat → Int32} (hs : va_X (g_X g 30) L xs (x_s x) (x_s x).heap) (hb : g_X g 30 < (x_s x).heap.size) (hB : ¬ g_B g ≤ g_X g 30) (hend : ∀ (pc : Nat) (M : sw_M) {lv : List (Nat × Value)}, rd_N M ≤ x_1 x → decode (k_c k_Law_law) pc = .ok (.ireturn, 1) → sw_W g x pc lv [.int 1] M) {r : Int32 × sw_M} (hr : r.1 = 1) (hz : rd_N r.2 ≤ x_1 x) {M : sw_M} (hf : f_Law_law_609 N L xs M = some r) : sw_W g x 609 [] [] M := by
  unfold f_Law_law_609 at hf
  refine sl_blk hX [(.iconst (0), 0, 0, .int (0 : Int32))] (lv' := []) (st' := [.int (0 : Int32)]) (M1 := M) (ob := []) (by decide +kernel) rfl sw_a0 ?_
  show sw_W _ _ 610 [] [.int (0 : Int32)] M
  cases hf
  exact absurd (show (0 : Int32) = 1 from hr) (by decide)
def f_Law_law_675 (N L : Nat) (xs : Nat → Int32) (M : sw_M) : Option (Int32 × sw_M) :=
  some ((0 : Int32), M)
set_option maxRecDepth 10000 in
theorem t_Law_law_675 {g : sw_G} {d : Nat} (hd : 108 ≤ d) {x : sw_Ct} (hX : sw_Xl g k_Law_law d x) {N L : Nat} {xs : Nat → Int32} (hs : va_X (g_X g 30) L xs (x_s x) (x_s x).heap) (hb : g_X g 30 < (x_s x).heap.size) (hB : ¬ g_B g ≤ g_X g 30) (hend : ∀ (pc : Nat) (M : sw_M) {lv : List (Nat × Value)}, rd_N M ≤ x_1 x → decode (k_c k_Law_law) pc = .ok (.ireturn, 1) → sw_W g x pc lv [.int 1] M) {r : Int32 × sw_M} (hr : r.1 = 1) (hz : rd_N r.2 ≤ x_1 x) {M : sw_M} (hf : f_Law_law_675 N L xs M = some r) : sw_W g x 675 [] [] M := by
  unfold f_Law_law_675 at hf
  refine sl_blk hX [(.iconst (0), 0, 0, .int (0 : Int32))] (lv' := []) (st' := [.int (0 : Int32)]) (M1 := M) (ob := []) (by decide +kernel) rfl sw_a0 ?_
  show sw_W _ _ 676 [] [.int (0 : Int32)] M
  cases hf
  exact absurd (show (0 : Int32) = 1 from hr) (by decide)
def f_Law_law_751 (N L : Nat) (xs : Nat → Int32) (M : sw_M) : Option (Int32 × sw_M) :=
  some ((0 : Int32), M)
set_option maxRecDepth 10000 in
theorem t_Law_law_751 {g : sw_G} {d : Nat} (hd : 108 ≤ d) {x : sw_Ct} (hX : sw_Xl g k_Law_law d x) {N L : Nat} {xs : Nat → Int32} (hs : va_X (g_X g 30) L xs (x_s x) (x_s x).heap) (hb : g_X g 30 < (x_s x).heap.size) (hB : ¬ g_B g ≤ g_X g 30) (hend : ∀ (pc : Nat) (M : sw_M) {lv : List (Nat × Value)}, rd_N M ≤ x_1 x → decode (k_c k_Law_law) pc = .ok (.ireturn, 1) → sw_W g x pc lv [.int 1] M) {r : Int32 × sw_M} (hr : r.1 = 1) (hz : rd_N r.2 ≤ x_1 x) {M : sw_M} (hf : f_Law_law_751 N L xs M = some r) : sw_W g x 751 [] [] M := by
  unfold f_Law_law_751 at hf
  refine sl_blk hX [(.iconst (0), 0, 0, .int (0 : Int32))] (lv' := []) (st' := [.int (0 : Int32)]) (M1 := M) (ob := []) (by decide +kernel) rfl sw_a0 ?_
  show sw_W _ _ 752 [] [.int (0 : Int32)] M
  cases hf
  exact absurd (show (0 : Int32) = 1 from hr) (by decide)
def f_Law_law_817 (N L : Nat) (xs : Nat → Int32) (M : sw_M) : Option (Int32 × sw_M) :=
  some ((0 : Int32), M)
set_option maxRecDepth 10000 in
theorem t_Law_law_817 {g : sw_G} {d : Nat} (hd : 108 ≤ d) {x : sw_Ct} (hX : sw_Xl g k_Law_law d x) {N L : Nat} {xs : Nat → Int32} (hs : va_X (g_X g 30) L xs (x_s x) (x_s x).heap) (hb : g_X g 30 < (x_s x).heap.size) (hB : ¬ g_B g ≤ g_X g 30) (hend : ∀ (pc : Nat) (M : sw_M) {lv : List (Nat × Value)}, rd_N M ≤ x_1 x → decode (k_c k_Law_law) pc = .ok (.ireturn, 1) → sw_W g x pc lv [.int 1] M) {r : Int32 × sw_M} (hr : r.1 = 1) (hz : rd_N r.2 ≤ x_1 x) {M : sw_M} (hf : f_Law_law_817 N L xs M = some r) : sw_W g x 817 [] [] M := by
  unfold f_Law_law_817 at hf
  refine sl_blk hX [(.iconst (0), 0, 0, .int (0 : Int32))] (lv' := []) (st' := [.int (0 : Int32)]) (M1 := M) (ob := []) (by decide +kernel) rfl sw_a0 ?_
  show sw_W _ _ 818 [] [.int (0 : Int32)] M
  cases hf
  exact absurd (show (0 : Int32) = 1 from hr) (by decide)
def f_Law_law_870 (N L : Nat) (xs : Nat → Int32) (M : sw_M) : Option (Int32 × sw_M) :=
  some ((0 : Int32), M)
set_option maxRecDepth 10000 in
theorem t_Law_law_870 {g : sw_G} {d : Nat} (hd : 108 ≤ d) {x : sw_Ct} (hX : sw_Xl g k_Law_law d x) {N L : Nat} {xs : Nat → Int32} (hs : va_X (g_X g 30) L xs (x_s x) (x_s x).heap) (hb : g_X g 30 < (x_s x).heap.size) (hB : ¬ g_B g ≤ g_X g 30) (hend : ∀ (pc : Nat) (M : sw_M) {lv : List (Nat × Value)}, rd_N M ≤ x_1 x → decode (k_c k_Law_law) pc = .ok (.ireturn, 1) → sw_W g x pc lv [.int 1] M) {r : Int32 × sw_M} (hr : r.1 = 1) (hz : rd_N r.2 ≤ x_1 x) {M : sw_M} (hf : f_Law_law_870 N L xs M = some r) : sw_W g x 870 [] [] M := by
  unfold f_Law_law_870 at hf
  refine sl_blk hX [(.iconst (0), 0, 0, .int (0 : Int32))] (lv' := []) (st' := [.int (0 : Int32)]) (M1 := M) (ob := []) (by decide +kernel) rfl sw_a0 ?_
  show sw_W _ _ 871 [] [.int (0 : Int32)] M
  cases hf
  exact absurd (show (0 : Int32) = 1 from hr) (by decide)
def f_Law_law_959 (N L : Nat) (xs : Nat → Int32) (M : sw_M) : Option (Int32 × sw_M) :=
  some ((0 : Int32), M)
set_option maxRecDepth 10000 in
theorem t_Law_law_959 {g : sw_G} {d : Nat} (hd : 108 ≤ d) {x : sw_Ct} (hX : sw_Xl g k_Law_law d x) {N L : Nat} {xs : Nat → Int32} (hs : va_X (g_X g 30) L xs (x_s x) (x_s x).heap) (hb : g_X g 30 < (x_s x).heap.size) (hB : ¬ g_B g ≤ g_X g 30) (hend : ∀ (pc : Nat) (M : sw_M) {lv : List (Nat × Value)}, rd_N M ≤ x_1 x → decode (k_c k_Law_law) pc = .ok (.ireturn, 1) → sw_W g x pc lv [.int 1] M) {r : Int32 × sw_M} (hr : r.1 = 1) (hz : rd_N r.2 ≤ x_1 x) {M : sw_M} (hf : f_Law_law_959 N L xs M = some r) : sw_W g x 959 [] [] M := by
  unfold f_Law_law_959 at hf
  refine sl_blk hX [(.iconst (0), 0, 0, .int (0 : Int32))] (lv' := []) (st' := [.int (0 : Int32)]) (M1 := M) (ob := []) (by decide +kernel) rfl sw_a0 ?_
  show sw_W _ _ 960 [] [.int (0 : Int32)] M
  cases hf
  exact absurd (show (0 : Int32) = 1 from hr) (by decide)
def f_Law_law_1022 (N L : Nat) (xs : Nat → Int32) (k18 : Nat → Nat → Int32 → sw_M → Option (Int32 × sw_M)) (a1 : Nat) (a2 : Nat) (a3 : Int32) (b0 : Int32) (b1 : Int32) (b2 : Int32) (b3 : Int32) (b4 : Nat) (b5 : Int32) (M : sw_M) : Option (Int32 × sw_M) :=
  sw_gd [sw_ok M b4 12] ((f_Model_range N b4 b3 b2 b1 b0 M).bind (fun u2 => if b5 = u2.1 then f_Law_law_1309 N L xs k18 a1 a2 a3 u2.2
  else some ((0 : Int32), u2.2)))
set_option maxRecDepth 10000 in
theorem t_Law_law_1022 {g : sw_G} {d : Nat} (hd : 108 ≤ d) {x : sw_Ct} (hX : sw_Xl g k_Law_law d x) {N L : Nat} {xs : Nat → Int32} (hs : va_X (g_X g 30) L xs (x_s x) (x_s x).heap) (hb : g_X g 30 < (x_s x).heap.size) (hB : ¬ g_B g ≤ g_X g 30) (hend : ∀ (pc : Nat) (M : sw_M) {lv : List (Nat × Value)}, rd_N M ≤ x_1 x → decode (k_c k_Law_law) pc = .ok (.ireturn, 1) → sw_W g x pc lv [.int 1] M) {r : Int32 × sw_M} (hr : r.1 = 1) (hz : rd_N r.2 ≤ x_1 x) (k18 : Nat → Nat → Int32 → sw_M → Option (Int32 × sw_M)) (hk18 : ∀ (a1 : Nat) (a2 : Nat) (a3 : Int32) (M : sw_M), k18 a1 a2 a3 M = some r → sw_W g x 18 [(0, .retAddr 30), (1, .ref a1), (2, .ref a2), (3, .int a3)] [] M) {a1 : Nat} {a2 : Nat} {a3 : Int32} {b0 : Int32} {b1 : Int32} {b2 : Int32} {b3 : Int32} {b4 : Nat} {b5 : Int32} {M : sw_M} (hf : f_Law_law_1022 N L xs k18 a1 a2 a3 b0 b1 b2 b3 b4 b5 M = some r) : sw_W g x 1022 [(0, .retAddr 30), (1, .ref a1), (2, .ref a2), (3, .int a3)] [.int b0, .int b1, .int b2, .int b3, .ref b4, .int b5] M := by
  unfold f_Law_law_1022 at hf
  obtain ⟨h1, hf⟩ := sw_gd_1 hf
  obtain ⟨u2, hu2, hf⟩ := sw_bnd hf
  refine sl_callV hX (i := 115) (k2 := k_Model_range) (d2 := d - 1) (As := [.int b3, .int b2, .int b1, .int b0]) (st := [.int b5]) (q := b4) (ci := 12) mf_Model_range mi_Model_range ms_Model_range (sw_m8 85 (by decide +kernel)) rfl (by decide) (by decide +kernel) rfl (Nat.le_of_ble_eq_true rfl) (by omega) h1 (o_Model_range g (d := d - 1) (by omega) hu2) ?_
  show sw_W _ _ 1025 [(0, .retAddr 30), (1, .ref a1), (2, .ref a2), (3, .int a3)] [.int u2.1, .int b5] u2.2
  refine sl_j_eq hX (off := 284) (tgt := 1309) (by decide +kernel) (by decide) hf (fun hc hf => ?_) (fun hc hf => ?_)
  · exact sw_weak [0, 1, 2, 3] rfl (t_Law_law_1309 hd hX hs hb hB hend hr hz _ hk18 hf)
  · refine sl_blk hX [(.iconst (0), 0, 0, .int (0 : Int32))] (lv' := [(0, .retAddr 30), (1, .ref a1), (2, .ref a2), (3, .int a3)]) (st' := [.int (0 : Int32)]) (M1 := u2.2) (ob := []) (by decide +kernel) rfl sw_a0 ?_
    show sw_W _ _ 1029 [(0, .retAddr 30), (1, .ref a1), (2, .ref a2), (3, .int a3)] [.int (0 : Int32)] u2.2
    cases hf
    exact absurd (show (0 : Int32) = 1 from hr) (by decide)
def f_Law_law_990 (N L : Nat) (xs : Nat → Int32) (k18 : Nat → Nat → Int32 → sw_M → Option (Int32 × sw_M)) (a1 : Nat) (a2 : Nat) (a3 : Int32) (b0 : Int32) (b1 : Int32) (b2 : Int32) (b3 : Int32) (b4 : Nat) (M : sw_M) : Option (Int32 × sw_M) :=
  sw_gd [sw_ok M b4 11] ((f_House_range N b4 b3 b2 b1 b0 M).bind (fun u2 => sw_gd [sw_ti (a3 + (1 : Int32)) L] (sw_gd [sw_ti (a3 + (2 : Int32)) L] (sw_gd [sw_ti (a3 + (3 : Int32)) L] (sw_gd [sw_ti (a3 + (4 : Int32)) L] (if (xs (a3 + (4 : Int32)).toNatClampNeg) = 0 then f_Law_law_1022 N L xs k18 a1 a2 a3 (0 : Int32) (xs (a3 + (3 : Int32)).toNatClampNeg) (xs (a3 + (2 : Int32)).toNatClampNeg) (xs (a3 + (1 : Int32)).toNatClampNeg) a2 u2.1 u2.2
  else f_Law_law_1022 N L xs k18 a1 a2 a3 (1 : Int32) (xs (a3 + (3 : Int32)).toNatClampNeg) (xs (a3 + (2 : Int32)).toNatClampNeg) (xs (a3 + (1 : Int32)).toNatClampNeg) a2 u2.1 u2.2))))))
set_option maxRecDepth 10000 in
theorem t_Law_law_990 {g : sw_G} {d : Nat} (hd : 108 ≤ d) {x : sw_Ct} (hX : sw_Xl g k_Law_law d x) {N L : Nat} {xs : Nat → Int32} (hs : va_X (g_X g 30) L xs (x_s x) (x_s x).heap) (hb : g_X g 30 < (x_s x).heap.size) (hB : ¬ g_B g ≤ g_X g 30) (hend : ∀ (pc : Nat) (M : sw_M) {lv : List (Nat × Value)}, rd_N M ≤ x_1 x → decode (k_c k_Law_law) pc = .ok (.ireturn, 1) → sw_W g x pc lv [.int 1] M) {r : Int32 × sw_M} (hr : r.1 = 1) (hz : rd_N r.2 ≤ x_1 x) (k18 : Nat → Nat → Int32 → sw_M → Option (Int32 × sw_M)) (hk18 : ∀ (a1 : Nat) (a2 : Nat) (a3 : Int32) (M : sw_M), k18 a1 a2 a3 M = some r → sw_W g x 18 [(0, .retAddr 30), (1, .ref a1), (2, .ref a2), (3, .int a3)] [] M) {a1 : Nat} {a2 : Nat} {a3 : Int32} {b0 : Int32} {b1 : Int32} {b2 : Int32} {b3 : Int32} {b4 : Nat} {M : sw_M} (hf : f_Law_law_990 N L xs k18 a1 a2 a3 b0 b1 b2 b3 b4 M = some r) : sw_W g x 990 [(0, .retAddr 30), (1, .ref a1), (2, .ref a2), (3, .int a3)] [.int b0, .int b1, .int b2, .int b3, .ref b4] M := by
  unfold f_Law_law_990 at hf
  obtain ⟨h1, hf⟩ := sw_gd_1 hf
  obtain ⟨u2, hu2, hf⟩ := sw_bnd hf
  refine sl_callV hX (i := 111) (k2 := k_House_range) (d2 := d - 1) (As := [.int b3, .int b2, .int b1, .int b0]) (st := []) (q := b4) (ci := 11) mf_House_range mi_House_range ms_House_range (sw_m5 85 (by decide +kernel)) rfl (by decide) (by decide +kernel) rfl (Nat.le_of_ble_eq_true rfl) (by omega) h1 (o_House_range g (d := d - 1) (by omega) hu2) ?_
  show sw_W _ _ 993 [(0, .retAddr 30), (1, .ref a1), (2, .ref a2), (3, .int a3)] [.int u2.1] u2.2
  obtain ⟨h3, hf⟩ := sw_gd_1 hf
  refine sl_blk hX [(.aload_n 2, 0, 0, .null), (.aload_n 0, 0, 0, .null), (.iload_n 3, 0, 0, .null), (.iconst (1), 0, 0, .int (1 : Int32)), (.iadd, 0, 0, .null)] (lv' := [(0, .retAddr 30), (1, .ref a1), (2, .ref a2), (3, .int a3)]) (st' := [.int (a3 + (1 : Int32)), .retAddr 30, .ref a2, .int u2.1]) (M1 := u2.2) (ob := []) (by decide +kernel) rfl sw_a0 ?_
  show sw_W _ _ 998 [(0, .retAddr 30), (1, .ref a1), (2, .ref a2), (3, .int a3)] [.int (a3 + (1 : Int32)), .retAddr 30, .ref a2, .int u2.1] u2.2
  refine sl_sld hX hs hb hB h3 (by decide +kernel) ?_
  show sw_W _ _ 999 [(0, .retAddr 30), (1, .ref a1), (2, .ref a2), (3, .int a3)] [.int (xs (a3 + (1 : Int32)).toNatClampNeg), .ref a2, .int u2.1] u2.2
  obtain ⟨h4, hf⟩ := sw_gd_1 hf
  refine sl_blk hX [(.aload_n 0, 0, 0, .null), (.iload_n 3, 0, 0, .null), (.iconst (2), 0, 0, .int (2 : Int32)), (.iadd, 0, 0, .null)] (lv' := [(0, .retAddr 30), (1, .ref a1), (2, .ref a2), (3, .int a3)]) (st' := [.int (a3 + (2 : Int32)), .retAddr 30, .int (xs (a3 + (1 : Int32)).toNatClampNeg), .ref a2, .int u2.1]) (M1 := u2.2) (ob := []) (by decide +kernel) rfl sw_a0 ?_
  show sw_W _ _ 1003 [(0, .retAddr 30), (1, .ref a1), (2, .ref a2), (3, .int a3)] [.int (a3 + (2 : Int32)), .retAddr 30, .int (xs (a3 + (1 : Int32)).toNatClampNeg), .ref a2, .int u2.1] u2.2
  refine sl_sld hX hs hb hB h4 (by decide +kernel) ?_
  show sw_W _ _ 1004 [(0, .retAddr 30), (1, .ref a1), (2, .ref a2), (3, .int a3)] [.int (xs (a3 + (2 : Int32)).toNatClampNeg), .int (xs (a3 + (1 : Int32)).toNatClampNeg), .ref a2, .int u2.1] u2.2
  obtain ⟨h5, hf⟩ := sw_gd_1 hf
  refine sl_blk hX [(.aload_n 0, 0, 0, .null), (.iload_n 3, 0, 0, .null), (.iconst (3), 0, 0, .int (3 : Int32)), (.iadd, 0, 0, .null)] (lv' := [(0, .retAddr 30), (1, .ref a1), (2, .ref a2), (3, .int a3)]) (st' := [.int (a3 + (3 : Int32)), .retAddr 30, .int (xs (a3 + (2 : Int32)).toNatClampNeg), .int (xs (a3 + (1 : Int32)).toNatClampNeg), .ref a2, .int u2.1]) (M1 := u2.2) (ob := []) (by decide +kernel) rfl sw_a0 ?_
  show sw_W _ _ 1008 [(0, .retAddr 30), (1, .ref a1), (2, .ref a2), (3, .int a3)] [.int (a3 + (3 : Int32)), .retAddr 30, .int (xs (a3 + (2 : Int32)).toNatClampNeg), .int (xs (a3 + (1 : Int32)).toNatClampNeg), .ref a2, .int u2.1] u2.2
  refine sl_sld hX hs hb hB h5 (by decide +kernel) ?_
  show sw_W _ _ 1009 [(0, .retAddr 30), (1, .ref a1), (2, .ref a2), (3, .int a3)] [.int (xs (a3 + (3 : Int32)).toNatClampNeg), .int (xs (a3 + (2 : Int32)).toNatClampNeg), .int (xs (a3 + (1 : Int32)).toNatClampNeg), .ref a2, .int u2.1] u2.2
  obtain ⟨h6, hf⟩ := sw_gd_1 hf
  refine sl_blk hX [(.aload_n 0, 0, 0, .null), (.iload_n 3, 0, 0, .null), (.iconst (4), 0, 0, .int (4 : Int32)), (.iadd, 0, 0, .null)] (lv' := [(0, .retAddr 30), (1, .ref a1), (2, .ref a2), (3, .int a3)]) (st' := [.int (a3 + (4 : Int32)), .retAddr 30, .int (xs (a3 + (3 : Int32)).toNatClampNeg), .int (xs (a3 + (2 : Int32)).toNatClampNeg), .int (xs (a3 + (1 : Int32)).toNatClampNeg), .ref a2, .int u2.1]) (M1 := u2.2) (ob := []) (by decide +kernel) rfl sw_a0 ?_
  show sw_W _ _ 1013 [(0, .retAddr 30), (1, .ref a1), (2, .ref a2), (3, .int a3)] [.int (a3 + (4 : Int32)), .retAddr 30, .int (xs (a3 + (3 : Int32)).toNatClampNeg), .int (xs (a3 + (2 : Int32)).toNatClampNeg), .int (xs (a3 + (1 : Int32)).toNatClampNeg), .ref a2, .int u2.1] u2.2
  refine sl_sld hX hs hb hB h6 (by decide +kernel) ?_
  show sw_W _ _ 1014 [(0, .retAddr 30), (1, .ref a1), (2, .ref a2), (3, .int a3)] [.int (xs (a3 + (4 : Int32)).toNatClampNeg), .int (xs (a3 + (3 : Int32)).toNatClampNeg), .int (xs (a3 + (2 : Int32)).toNatClampNeg), .int (xs (a3 + (1 : Int32)).toNatClampNeg), .ref a2, .int u2.1] u2.2
  refine sl_z_eq hX (off := 7) (tgt := 1021) (by decide +kernel) (by decide) hf (fun hc hf => ?_) (fun hc hf => ?_)
  · refine sl_blk hX [(.iconst (0), 0, 0, .int (0 : Int32))] (lv' := [(0, .retAddr 30), (1, .ref a1), (2, .ref a2), (3, .int a3)]) (st' := [.int (0 : Int32), .int (xs (a3 + (3 : Int32)).toNatClampNeg), .int (xs (a3 + (2 : Int32)).toNatClampNeg), .int (xs (a3 + (1 : Int32)).toNatClampNeg), .ref a2, .int u2.1]) (M1 := u2.2) (ob := []) (by decide +kernel) rfl sw_a0 ?_
    show sw_W _ _ 1022 [(0, .retAddr 30), (1, .ref a1), (2, .ref a2), (3, .int a3)] [.int (0 : Int32), .int (xs (a3 + (3 : Int32)).toNatClampNeg), .int (xs (a3 + (2 : Int32)).toNatClampNeg), .int (xs (a3 + (1 : Int32)).toNatClampNeg), .ref a2, .int u2.1] u2.2
    exact sw_weak [0, 1, 2, 3] rfl (t_Law_law_1022 hd hX hs hb hB hend hr hz _ hk18 hf)
  · refine sl_blk hX [(.iconst (1), 0, 0, .int (1 : Int32))] (lv' := [(0, .retAddr 30), (1, .ref a1), (2, .ref a2), (3, .int a3)]) (st' := [.int (1 : Int32), .int (xs (a3 + (3 : Int32)).toNatClampNeg), .int (xs (a3 + (2 : Int32)).toNatClampNeg), .int (xs (a3 + (1 : Int32)).toNatClampNeg), .ref a2, .int u2.1]) (M1 := u2.2) (ob := []) (by decide +kernel) rfl sw_a0 ?_
    show sw_W _ _ 1018 [(0, .retAddr 30), (1, .ref a1), (2, .ref a2), (3, .int a3)] [.int (1 : Int32), .int (xs (a3 + (3 : Int32)).toNatClampNeg), .int (xs (a3 + (2 : Int32)).toNatClampNeg), .int (xs (a3 + (1 : Int32)).toNatClampNeg), .ref a2, .int u2.1] u2.2
    refine sl_goto hX (off := 4) (tgt := 1022) (by decide +kernel) (by decide) ?_
    exact sw_weak [0, 1, 2, 3] rfl (t_Law_law_1022 hd hX hs hb hB hend hr hz _ hk18 hf)
def f_Law_law_1084 (N L : Nat) (xs : Nat → Int32) (M : sw_M) : Option (Int32 × sw_M) :=
  some ((0 : Int32), M)
set_option maxRecDepth 10000 in
theorem t_Law_law_1084 {g : sw_G} {d : Nat} (hd : 108 ≤ d) {x : sw_Ct} (hX : sw_Xl g k_Law_law d x) {N L : Nat} {xs : Nat → Int32} (hs : va_X (g_X g 30) L xs (x_s x) (x_s x).heap) (hb : g_X g 30 < (x_s x).heap.size) (hB : ¬ g_B g ≤ g_X g 30) (hend : ∀ (pc : Nat) (M : sw_M) {lv : List (Nat × Value)}, rd_N M ≤ x_1 x → decode (k_c k_Law_law) pc = .ok (.ireturn, 1) → sw_W g x pc lv [.int 1] M) {r : Int32 × sw_M} (hr : r.1 = 1) (hz : rd_N r.2 ≤ x_1 x) {M : sw_M} (hf : f_Law_law_1084 N L xs M = some r) : sw_W g x 1084 [] [] M := by
  unfold f_Law_law_1084 at hf
  refine sl_blk hX [(.iconst (0), 0, 0, .int (0 : Int32))] (lv' := []) (st' := [.int (0 : Int32)]) (M1 := M) (ob := []) (by decide +kernel) rfl sw_a0 ?_
  show sw_W _ _ 1085 [] [.int (0 : Int32)] M
  cases hf
  exact absurd (show (0 : Int32) = 1 from hr) (by decide)
def f_Law_law_1207 (N L : Nat) (xs : Nat → Int32) (M : sw_M) : Option (Int32 × sw_M) :=
  some ((0 : Int32), M)
set_option maxRecDepth 10000 in
theorem t_Law_law_1207 {g : sw_G} {d : Nat} (hd : 108 ≤ d) {x : sw_Ct} (hX : sw_Xl g k_Law_law d x) {N L : Nat} {xs : Nat → Int32} (hs : va_X (g_X g 30) L xs (x_s x) (x_s x).heap) (hb : g_X g 30 < (x_s x).heap.size) (hB : ¬ g_B g ≤ g_X g 30) (hend : ∀ (pc : Nat) (M : sw_M) {lv : List (Nat × Value)}, rd_N M ≤ x_1 x → decode (k_c k_Law_law) pc = .ok (.ireturn, 1) → sw_W g x pc lv [.int 1] M) {r : Int32 × sw_M} (hr : r.1 = 1) (hz : rd_N r.2 ≤ x_1 x) {M : sw_M} (hf : f_Law_law_1207 N L xs M = some r) : sw_W g x 1207 [] [] M := by
  unfold f_Law_law_1207 at hf
  refine sl_blk hX [(.iconst (0), 0, 0, .int (0 : Int32))] (lv' := []) (st' := [.int (0 : Int32)]) (M1 := M) (ob := []) (by decide +kernel) rfl sw_a0 ?_
  show sw_W _ _ 1208 [] [.int (0 : Int32)] M
  cases hf
  exact absurd (show (0 : Int32) = 1 from hr) (by decide)
def f_Law_law_1284 (N L : Nat) (xs : Nat → Int32) (M : sw_M) : Option (Int32 × sw_M) :=
  some ((0 : Int32), M)
set_option maxRecDepth 10000 in
theorem t_Law_law_1284 {g : sw_G} {d : Nat} (hd : 108 ≤ d) {x : sw_Ct} (hX : sw_Xl g k_Law_law d x) {N L : Nat} {xs : Nat → Int32} (hs : va_X (g_X g 30) L xs (x_s x) (x_s x).heap) (hb : g_X g 30 < (x_s x).heap.size) (hB : ¬ g_B g ≤ g_X g 30) (hend : ∀ (pc : Nat) (M : sw_M) {lv : List (Nat × Value)}, rd_N M ≤ x_1 x → decode (k_c k_Law_law) pc = .ok (.ireturn, 1) → sw_W g x pc lv [.int 1] M) {r : Int32 × sw_M} (hr : r.1 = 1) (hz : rd_N r.2 ≤ x_1 x) {M : sw_M} (hf : f_Law_law_1284 N L xs M = some r) : sw_W g x 1284 [] [] M := by
  unfold f_Law_law_1284 at hf
  refine sl_blk hX [(.iconst (0), 0, 0, .int (0 : Int32))] (lv' := []) (st' := [.int (0 : Int32)]) (M1 := M) (ob := []) (by decide +kernel) rfl sw_a0 ?_
  show sw_W _ _ 1285 [] [.int (0 : Int32)] M
  cases hf
  exact absurd (show (0 : Int32) = 1 from hr) (by decide)
def f_Law_law_18 (N L : Nat) (xs : Nat → Int32) : Nat → Nat → Nat → Int32 → sw_M → Option (Int32 × sw_M)
  | 0, _, _, _, _ => none
  | j + 1, a1, a2, a3, M =>
  if ((Int32.ofNat L) - (11 : Int32)) < a3 then some ((1 : Int32), M)
  else sw_gd [sw_ti a3 L] (if ((xs a3.toNatClampNeg) &&& (31 : Int32)) = (0 : Int32) then sw_gd [sw_ti (a3 + (1 : Int32)) L] (sw_gd [sw_ti (a3 + (2 : Int32)) L] (sw_gd [sw_ti (a3 + (3 : Int32)) L] (sw_gd [sw_ti (a3 + (4 : Int32)) L] (sw_gd [sw_ti (a3 + (5 : Int32)) L] (sw_gd [sw_ok M a1 11] ((f_House_feed N a1 (xs (a3 + (1 : Int32)).toNatClampNeg) (xs (a3 + (2 : Int32)).toNatClampNeg) (xs (a3 + (3 : Int32)).toNatClampNeg) (xs (a3 + (4 : Int32)).toNatClampNeg) (xs (a3 + (5 : Int32)).toNatClampNeg) M).bind (fun u9 => sw_gd [sw_ok u9.2 a2 12] ((f_Model_feed N a2 (xs (a3 + (1 : Int32)).toNatClampNeg) (xs (a3 + (2 : Int32)).toNatClampNeg) (xs (a3 + (3 : Int32)).toNatClampNeg) (xs (a3 + (4 : Int32)).toNatClampNeg) (xs (a3 + (5 : Int32)).toNatClampNeg) u9.2).bind (fun u11 => if u9.1 = u11.1 then f_Law_law_1309 N L xs (f_Law_law_18 N L xs j) a1 a2 a3 u11.2
  else f_Law_law_225 N L xs u11.2)))))))))
  else if ((xs a3.toNatClampNeg) &&& (31 : Int32)) = (1 : Int32) then sw_gd [sw_ti (a3 + (1 : Int32)) L] (sw_gd [sw_ok M a1 11] ((f_House_field N a1 (xs (a3 + (1 : Int32)).toNatClampNeg) M).bind (fun u15 => sw_gd [sw_ok u15.2 a2 12] ((f_Model_field N a2 (xs (a3 + (1 : Int32)).toNatClampNeg) u15.2).bind (fun u17 => if u15.1 = u17.1 then f_Law_law_1309 N L xs (f_Law_law_18 N L xs j) a1 a2 a3 u17.2
  else some ((0 : Int32), u17.2))))))
  else if ((xs a3.toNatClampNeg) &&& (31 : Int32)) = (2 : Int32) then sw_gd [sw_ti (a3 + (1 : Int32)) L] (sw_gd [sw_ok M a1 11] ((f_House_fault N a1 (xs (a3 + (1 : Int32)).toNatClampNeg) M).bind (fun u21 => sw_gd [sw_ok u21.2 a2 12] ((f_Model_fault N a2 (xs (a3 + (1 : Int32)).toNatClampNeg) u21.2).bind (fun u23 => if u21.1 = u23.1 then f_Law_law_1309 N L xs (f_Law_law_18 N L xs j) a1 a2 a3 u23.2
  else some ((0 : Int32), u23.2))))))
  else if ((xs a3.toNatClampNeg) &&& (31 : Int32)) = (3 : Int32) then sw_gd [sw_ti (a3 + (1 : Int32)) L] (sw_gd [sw_ok M a1 11] ((f_House_mass N a1 (xs (a3 + (1 : Int32)).toNatClampNeg) M).bind (fun u27 => sw_gd [sw_ok u27.2 a2 12] ((f_Model_mass N a2 (xs (a3 + (1 : Int32)).toNatClampNeg) u27.2).bind (fun u29 => if u27.1 = u29.1 then f_Law_law_1309 N L xs (f_Law_law_18 N L xs j) a1 a2 a3 u29.2
  else f_Law_law_294 N L xs u29.2)))))
  else if ((xs a3.toNatClampNeg) &&& (31 : Int32)) = (4 : Int32) then sw_gd [sw_ti (a3 + (1 : Int32)) L] (sw_gd [sw_ti (a3 + (2 : Int32)) L] (sw_gd [sw_ti (a3 + (3 : Int32)) L] (sw_gd [sw_ti (a3 + (4 : Int32)) L] (sw_gd [sw_ok M a1 11] ((f_House_pull N a1 (xs (a3 + (1 : Int32)).toNatClampNeg) (xs (a3 + (2 : Int32)).toNatClampNeg) (xs (a3 + (3 : Int32)).toNatClampNeg) (xs (a3 + (4 : Int32)).toNatClampNeg) M).bind (fun u36 => sw_gd [sw_ok u36.2 a2 12] ((f_Model_pull N a2 (xs (a3 + (1 : Int32)).toNatClampNeg) (xs (a3 + (2 : Int32)).toNatClampNeg) (xs (a3 + (3 : Int32)).toNatClampNeg) (xs (a3 + (4 : Int32)).toNatClampNeg) u36.2).bind (fun u38 => if u36.1 = u38.1 then f_Law_law_1309 N L xs (f_Law_law_18 N L xs j) a1 a2 a3 u38.2
  else f_Law_law_347 N L xs u38.2))))))))
  else if ((xs a3.toNatClampNeg) &&& (31 : Int32)) = (5 : Int32) then sw_gd [sw_ti (a3 + (1 : Int32)) L] (sw_gd [sw_ti (a3 + (2 : Int32)) L] (sw_gd [sw_ti (a3 + (3 : Int32)) L] (sw_gd [sw_ti (a3 + (4 : Int32)) L] (sw_gd [sw_ti (a3 + (5 : Int32)) L] (sw_gd [sw_ok M a1 11] ((f_House_star N a1 (xs (a3 + (1 : Int32)).toNatClampNeg) (xs (a3 + (2 : Int32)).toNatClampNeg) (xs (a3 + (3 : Int32)).toNatClampNeg) (xs (a3 + (4 : Int32)).toNatClampNeg) (xs (a3 + (5 : Int32)).toNatClampNeg) M).bind (fun u46 => sw_gd [sw_ok u46.2 a2 12] ((f_Model_star N a2 (xs (a3 + (1 : Int32)).toNatClampNeg) (xs (a3 + (2 : Int32)).toNatClampNeg) (xs (a3 + (3 : Int32)).toNatClampNeg) (xs (a3 + (4 : Int32)).toNatClampNeg) (xs (a3 + (5 : Int32)).toNatClampNeg) u46.2).bind (fun u48 => if u46.1 = u48.1 then f_Law_law_1309 N L xs (f_Law_law_18 N L xs j) a1 a2 a3 u48.2
  else f_Law_law_410 N L xs u48.2)))))))))
  else if ((xs a3.toNatClampNeg) &&& (31 : Int32)) = (6 : Int32) then sw_gd [sw_ti (a3 + (1 : Int32)) L] (sw_gd [sw_ok M a1 11] ((f_House_go N a1 (xs (a3 + (1 : Int32)).toNatClampNeg) M).bind (fun u52 => sw_gd [sw_ok u52.2 a2 12] ((f_Model_go N a2 (xs (a3 + (1 : Int32)).toNatClampNeg) u52.2).bind (fun u54 => if u52.1 = u54.1 then f_Law_law_1309 N L xs (f_Law_law_18 N L xs j) a1 a2 a3 u54.2
  else some ((0 : Int32), u54.2))))))
  else if ((xs a3.toNatClampNeg) &&& (31 : Int32)) = (7 : Int32) then sw_gd [sw_ti (a3 + (1 : Int32)) L] (sw_gd [sw_ok M a1 11] ((f_House_starred N a1 (xs (a3 + (1 : Int32)).toNatClampNeg) M).bind (fun u58 => sw_gd [sw_ok u58.2 a2 12] ((f_Model_starred N a2 (xs (a3 + (1 : Int32)).toNatClampNeg) u58.2).bind (fun u60 => if u58.1 = u60.1 then f_Law_law_1309 N L xs (f_Law_law_18 N L xs j) a1 a2 a3 u60.2
  else some ((0 : Int32), u60.2))))))
  else if ((xs a3.toNatClampNeg) &&& (31 : Int32)) = (8 : Int32) then sw_gd [sw_ti (a3 + (1 : Int32)) L] (sw_gd [sw_ok M a1 11] ((f_House_length N a1 (xs (a3 + (1 : Int32)).toNatClampNeg) M).bind (fun u64 => sw_gd [sw_ok u64.2 a2 12] ((f_Model_length N a2 (xs (a3 + (1 : Int32)).toNatClampNeg) u64.2).bind (fun u66 => if u64.1 = u66.1 then f_Law_law_1309 N L xs (f_Law_law_18 N L xs j) a1 a2 a3 u66.2
  else f_Law_law_479 N L xs u66.2)))))
  else if ((xs a3.toNatClampNeg) &&& (31 : Int32)) = (9 : Int32) then sw_gd [sw_ti (a3 + (1 : Int32)) L] (sw_gd [sw_ti (a3 + (2 : Int32)) L] (sw_gd [sw_ti (a3 + (3 : Int32)) L] (sw_gd [sw_ti (a3 + (4 : Int32)) L] (sw_gd [sw_ok M a1 11] ((f_House_orbit N a1 (xs (a3 + (1 : Int32)).toNatClampNeg) (xs (a3 + (2 : Int32)).toNatClampNeg) (xs (a3 + (3 : Int32)).toNatClampNeg) (xs (a3 + (4 : Int32)).toNatClampNeg) M).bind (fun u73 => sw_gd [sw_ok u73.2 a2 12] ((f_Model_orbit N a2 (xs (a3 + (1 : Int32)).toNatClampNeg) (xs (a3 + (2 : Int32)).toNatClampNeg) (xs (a3 + (3 : Int32)).toNatClampNeg) (xs (a3 + (4 : Int32)).toNatClampNeg) u73.2).bind (fun u75 => if u73.1 = u75.1 then f_Law_law_1309 N L xs (f_Law_law_18 N L xs j) a1 a2 a3 u75.2
  else f_Law_law_532 N L xs u75.2))))))))
  else if ((xs a3.toNatClampNeg) &&& (31 : Int32)) = (10 : Int32) then sw_gd [sw_ti (a3 + (1 : Int32)) L] (sw_gd [sw_ti (a3 + (2 : Int32)) L] (sw_gd [sw_ok M a1 11] ((f_House_told N a1 (xs (a3 + (1 : Int32)).toNatClampNeg) (xs (a3 + (2 : Int32)).toNatClampNeg) M).bind (fun u80 => sw_gd [sw_ok u80.2 a2 12] ((f_Model_told N a2 (xs (a3 + (1 : Int32)).toNatClampNeg) (xs (a3 + (2 : Int32)).toNatClampNeg) u80.2).bind (fun u82 => if u80.1 = u82.1 then f_Law_law_1309 N L xs (f_Law_law_18 N L xs j) a1 a2 a3 u82.2
  else some ((0 : Int32), u82.2)))))))
  else if ((xs a3.toNatClampNeg) &&& (31 : Int32)) = (11 : Int32) then sw_gd [sw_ti (a3 + (1 : Int32)) L] (sw_gd [sw_ti (a3 + (2 : Int32)) L] (sw_gd [sw_ti (a3 + (3 : Int32)) L] (sw_gd [sw_ok M a1 11] ((f_House_at N a1 (xs (a3 + (1 : Int32)).toNatClampNeg) (xs (a3 + (2 : Int32)).toNatClampNeg) (xs (a3 + (3 : Int32)).toNatClampNeg) M).bind (fun u88 => sw_gd [sw_ok u88.2 a2 12] ((f_Model_at N a2 (xs (a3 + (1 : Int32)).toNatClampNeg) (xs (a3 + (2 : Int32)).toNatClampNeg) (xs (a3 + (3 : Int32)).toNatClampNeg) u88.2).bind (fun u90 => if u88.1 = u90.1 then f_Law_law_1309 N L xs (f_Law_law_18 N L xs j) a1 a2 a3 u90.2
  else f_Law_law_609 N L xs u90.2)))))))
  else if ((xs a3.toNatClampNeg) &&& (31 : Int32)) = (12 : Int32) then sw_gd [sw_ti (a3 + (1 : Int32)) L] (sw_gd [sw_ti (a3 + (2 : Int32)) L] (sw_gd [sw_ok M a1 11] ((f_House_back N a1 (xs (a3 + (1 : Int32)).toNatClampNeg) (xs (a3 + (2 : Int32)).toNatClampNeg) M).bind (fun u95 => sw_gd [sw_ok u95.2 a2 12] ((f_Model_back N a2 (xs (a3 + (1 : Int32)).toNatClampNeg) (xs (a3 + (2 : Int32)).toNatClampNeg) u95.2).bind (fun u97 => if u95.1 = u97.1 then f_Law_law_1309 N L xs (f_Law_law_18 N L xs j) a1 a2 a3 u97.2
  else some ((0 : Int32), u97.2)))))))
  else if ((xs a3.toNatClampNeg) &&& (31 : Int32)) = (13 : Int32) then sw_gd [sw_ti (a3 + (1 : Int32)) L] (sw_gd [sw_ti (a3 + (2 : Int32)) L] (sw_gd [sw_ok M a1 11] ((f_House_alike N a1 (xs (a3 + (1 : Int32)).toNatClampNeg) (xs (a3 + (2 : Int32)).toNatClampNeg) M).bind (fun u102 => sw_gd [sw_ok u102.2 a2 12] ((f_Model_alike N a2 (xs (a3 + (1 : Int32)).toNatClampNeg) (xs (a3 + (2 : Int32)).toNatClampNeg) u102.2).bind (fun u104 => if u102.1 = u104.1 then f_Law_law_1309 N L xs (f_Law_law_18 N L xs j) a1 a2 a3 u104.2
  else f_Law_law_675 N L xs u104.2))))))
  else if ((xs a3.toNatClampNeg) &&& (31 : Int32)) = (14 : Int32) then sw_gd [sw_ti (a3 + (1 : Int32)) L] (sw_gd [sw_ti (a3 + (2 : Int32)) L] (sw_gd [sw_ti (a3 + (3 : Int32)) L] (sw_gd [sw_ok M a1 11] ((f_House_tune N a1 (xs (a3 + (1 : Int32)).toNatClampNeg) (xs (a3 + (2 : Int32)).toNatClampNeg) (xs (a3 + (3 : Int32)).toNatClampNeg) M).bind (fun u110 => sw_gd [sw_ok u110.2 a2 12] ((f_Model_tune N a2 (xs (a3 + (1 : Int32)).toNatClampNeg) (xs (a3 + (2 : Int32)).toNatClampNeg) (xs (a3 + (3 : Int32)).toNatClampNeg) u110.2).bind (fun u112 => if u110.1 = u112.1 then f_Law_law_1309 N L xs (f_Law_law_18 N L xs j) a1 a2 a3 u112.2
  else some ((0 : Int32), u112.2))))))))
  else if ((xs a3.toNatClampNeg) &&& (31 : Int32)) = (15 : Int32) then sw_gd [sw_ti (a3 + (1 : Int32)) L] (sw_gd [sw_ti (a3 + (2 : Int32)) L] (sw_gd [sw_ok M a1 11] ((f_House_cells N a1 (xs (a3 + (1 : Int32)).toNatClampNeg) (xs (a3 + (2 : Int32)).toNatClampNeg) M).bind (fun u117 => sw_gd [sw_ok u117.2 a2 12] ((f_Model_cells N a2 (xs (a3 + (1 : Int32)).toNatClampNeg) (xs (a3 + (2 : Int32)).toNatClampNeg) u117.2).bind (fun u119 => if u117.1 = u119.1 then f_Law_law_1309 N L xs (f_Law_law_18 N L xs j) a1 a2 a3 u119.2
  else f_Law_law_751 N L xs u119.2))))))
  else if ((xs a3.toNatClampNeg) &&& (31 : Int32)) = (16 : Int32) then sw_gd [sw_ti (a3 + (1 : Int32)) L] (sw_gd [sw_ti (a3 + (2 : Int32)) L] (sw_gd [sw_ti (a3 + (3 : Int32)) L] (sw_gd [sw_ok M a1 11] ((f_House_share N a1 (xs (a3 + (1 : Int32)).toNatClampNeg) (xs (a3 + (2 : Int32)).toNatClampNeg) (xs (a3 + (3 : Int32)).toNatClampNeg) M).bind (fun u125 => sw_gd [sw_ok u125.2 a2 12] ((f_Model_share N a2 (xs (a3 + (1 : Int32)).toNatClampNeg) (xs (a3 + (2 : Int32)).toNatClampNeg) (xs (a3 + (3 : Int32)).toNatClampNeg) u125.2).bind (fun u127 => if u125.1 = u127.1 then f_Law_law_1309 N L xs (f_Law_law_18 N L xs j) a1 a2 a3 u127.2
  else some ((0 : Int32), u127.2))))))))
  else if ((xs a3.toNatClampNeg) &&& (31 : Int32)) = (17 : Int32) then sw_gd [sw_ti (a3 + (1 : Int32)) L] (sw_gd [sw_ok M a1 11] ((f_House_portions N a1 (xs (a3 + (1 : Int32)).toNatClampNeg) M).bind (fun u131 => sw_gd [sw_ok u131.2 a2 12] ((f_Model_portions N a2 (xs (a3 + (1 : Int32)).toNatClampNeg) u131.2).bind (fun u133 => if u131.1 = u133.1 then f_Law_law_1309 N L xs (f_Law_law_18 N L xs j) a1 a2 a3 u133.2
  else f_Law_law_817 N L xs u133.2)))))
  else if ((xs a3.toNatClampNeg) &&& (31 : Int32)) = (18 : Int32) then sw_gd [sw_ti (a3 + (1 : Int32)) L] (sw_gd [sw_ti (a3 + (2 : Int32)) L] (sw_gd [sw_ti (a3 + (3 : Int32)) L] (sw_gd [sw_ti (a3 + (4 : Int32)) L] (sw_gd [sw_ok M a1 11] ((f_House_sight N a1 (xs (a3 + (1 : Int32)).toNatClampNeg) (xs (a3 + (2 : Int32)).toNatClampNeg) (xs (a3 + (3 : Int32)).toNatClampNeg) (xs (a3 + (4 : Int32)).toNatClampNeg) M).bind (fun u140 => sw_gd [sw_ok u140.2 a2 12] ((f_Model_sight N a2 (xs (a3 + (1 : Int32)).toNatClampNeg) (xs (a3 + (2 : Int32)).toNatClampNeg) (xs (a3 + (3 : Int32)).toNatClampNeg) (xs (a3 + (4 : Int32)).toNatClampNeg) u140.2).bind (fun u142 => if u140.1 = u142.1 then f_Law_law_1309 N L xs (f_Law_law_18 N L xs j) a1 a2 a3 u142.2
  else f_Law_law_870 N L xs u142.2))))))))
  else if ((xs a3.toNatClampNeg) &&& (31 : Int32)) = (19 : Int32) then sw_gd [sw_ti (a3 + (1 : Int32)) L] (sw_gd [sw_ok M a1 11] ((f_House_strike N a1 (xs (a3 + (1 : Int32)).toNatClampNeg) M).bind (fun u146 => sw_gd [sw_ok u146.2 a2 12] ((f_Model_strike N a2 (xs (a3 + (1 : Int32)).toNatClampNeg) u146.2).bind (fun u148 => if u146.1 = u148.1 then f_Law_law_1309 N L xs (f_Law_law_18 N L xs j) a1 a2 a3 u148.2
  else some ((0 : Int32), u148.2))))))
  else if ((xs a3.toNatClampNeg) &&& (31 : Int32)) = (20 : Int32) then sw_gd [sw_ti (a3 + (1 : Int32)) L] (sw_gd [sw_ok M a1 11] ((f_House_fits N a1 (xs (a3 + (1 : Int32)).toNatClampNeg) M).bind (fun u152 => sw_gd [sw_ok u152.2 a2 12] ((f_Model_fits N a2 (xs (a3 + (1 : Int32)).toNatClampNeg) u152.2).bind (fun u154 => if u152.1 = u154.1 then f_Law_law_1309 N L xs (f_Law_law_18 N L xs j) a1 a2 a3 u154.2
  else some ((0 : Int32), u154.2))))))
  else if ((xs a3.toNatClampNeg) &&& (31 : Int32)) = (21 : Int32) then sw_gd [sw_ti (a3 + (1 : Int32)) L] (sw_gd [sw_ti (a3 + (2 : Int32)) L] (sw_gd [sw_ti (a3 + (3 : Int32)) L] (sw_gd [sw_ok M a1 11] ((f_House_weight N a1 (xs (a3 + (1 : Int32)).toNatClampNeg) (xs (a3 + (2 : Int32)).toNatClampNeg) (xs (a3 + (3 : Int32)).toNatClampNeg) M).bind (fun u160 => sw_gd [sw_ok u160.2 a2 12] ((f_Model_weight N a2 (xs (a3 + (1 : Int32)).toNatClampNeg) (xs (a3 + (2 : Int32)).toNatClampNeg) (xs (a3 + (3 : Int32)).toNatClampNeg) u160.2).bind (fun u162 => if u160.1 = u162.1 then f_Law_law_1309 N L xs (f_Law_law_18 N L xs j) a1 a2 a3 u162.2
  else f_Law_law_959 N L xs u162.2)))))))
  else if ((xs a3.toNatClampNeg) &&& (31 : Int32)) = (22 : Int32) then sw_gd [sw_ti (a3 + (1 : Int32)) L] (sw_gd [sw_ti (a3 + (2 : Int32)) L] (sw_gd [sw_ti (a3 + (3 : Int32)) L] (sw_gd [sw_ti (a3 + (4 : Int32)) L] (if (xs (a3 + (4 : Int32)).toNatClampNeg) = 0 then f_Law_law_990 N L xs (f_Law_law_18 N L xs j) a1 a2 a3 (0 : Int32) (xs (a3 + (3 : Int32)).toNatClampNeg) (xs (a3 + (2 : Int32)).toNatClampNeg) (xs (a3 + (1 : Int32)).toNatClampNeg) a1 M
  else f_Law_law_990 N L xs (f_Law_law_18 N L xs j) a1 a2 a3 (1 : Int32) (xs (a3 + (3 : Int32)).toNatClampNeg) (xs (a3 + (2 : Int32)).toNatClampNeg) (xs (a3 + (1 : Int32)).toNatClampNeg) a1 M))))
  else if ((xs a3.toNatClampNeg) &&& (31 : Int32)) = (23 : Int32) then sw_gd [sw_ti (a3 + (1 : Int32)) L] (sw_gd [sw_ok M a1 11] ((f_House_quarrel N a1 (xs (a3 + (1 : Int32)).toNatClampNeg) M).bind (fun u171 => sw_gd [sw_ok u171.2 a2 12] ((f_Model_quarrel N a2 (xs (a3 + (1 : Int32)).toNatClampNeg) u171.2).bind (fun u173 => if u171.1 = u173.1 then f_Law_law_1309 N L xs (f_Law_law_18 N L xs j) a1 a2 a3 u173.2
  else some ((0 : Int32), u173.2))))))
  else if ((xs a3.toNatClampNeg) &&& (31 : Int32)) = (24 : Int32) then sw_gd [sw_ti (a3 + (1 : Int32)) L] (sw_gd [sw_ti (a3 + (2 : Int32)) L] (sw_gd [sw_ok M a1 11] ((f_House_models N a1 (xs (a3 + (1 : Int32)).toNatClampNeg) (xs (a3 + (2 : Int32)).toNatClampNeg) M).bind (fun u178 => sw_gd [sw_ok u178.2 a2 12] ((f_Model_models N a2 (xs (a3 + (1 : Int32)).toNatClampNeg) (xs (a3 + (2 : Int32)).toNatClampNeg) u178.2).bind (fun u180 => if u178.1 = u180.1 then f_Law_law_1309 N L xs (f_Law_law_18 N L xs j) a1 a2 a3 u180.2
  else f_Law_law_1084 N L xs u180.2))))))
  else if ((xs a3.toNatClampNeg) &&& (31 : Int32)) = (25 : Int32) then sw_gd [sw_ti (a3 + (1 : Int32)) L] (sw_gd [sw_ti (a3 + (2 : Int32)) L] (sw_gd [sw_ti (a3 + (3 : Int32)) L] (sw_gd [sw_ti (a3 + (4 : Int32)) L] (sw_gd [sw_ti (a3 + (5 : Int32)) L] (sw_gd [sw_ti (a3 + (6 : Int32)) L] (sw_gd [sw_ti (a3 + (7 : Int32)) L] (sw_gd [sw_ti (a3 + (8 : Int32)) L] (sw_gd [sw_ti (a3 + (9 : Int32)) L] (sw_gd [sw_ti (a3 + (10 : Int32)) L] (sw_gd [sw_ok M a1 11] ((f_House_stream N a1 (xs (a3 + (1 : Int32)).toNatClampNeg) (xs (a3 + (2 : Int32)).toNatClampNeg) (xs (a3 + (3 : Int32)).toNatClampNeg) (xs (a3 + (4 : Int32)).toNatClampNeg) (xs (a3 + (5 : Int32)).toNatClampNeg) (xs (a3 + (6 : Int32)).toNatClampNeg) (xs (a3 + (7 : Int32)).toNatClampNeg) (xs (a3 + (8 : Int32)).toNatClampNeg) (xs (a3 + (9 : Int32)).toNatClampNeg) (xs (a3 + (10 : Int32)).toNatClampNeg) M).bind (fun u193 => sw_gd [sw_ok u193.2 a2 12] ((f_Model_stream N a2 (xs (a3 + (1 : Int32)).toNatClampNeg) (xs (a3 + (2 : Int32)).toNatClampNeg) (xs (a3 + (3 : Int32)).toNatClampNeg) (xs (a3 + (4 : Int32)).toNatClampNeg) (xs (a3 + (5 : Int32)).toNatClampNeg) (xs (a3 + (6 : Int32)).toNatClampNeg) (xs (a3 + (7 : Int32)).toNatClampNeg) (xs (a3 + (8 : Int32)).toNatClampNeg) (xs (a3 + (9 : Int32)).toNatClampNeg) (xs (a3 + (10 : Int32)).toNatClampNeg) u193.2).bind (fun u195 => if u193.1 = u195.1 then f_Law_law_1309 N L xs (f_Law_law_18 N L xs j) a1 a2 a3 u195.2
  else f_Law_law_1207 N L xs u195.2))))))))))))))
  else if ((xs a3.toNatClampNeg) &&& (31 : Int32)) = (26 : Int32) then sw_gd [sw_ok M a1 11] ((f_House_trail N a1 M).bind (fun u198 => sw_gd [sw_ok u198.2 a2 12] ((f_Model_trail N a2 u198.2).bind (fun u200 => if u198.1 = u200.1 then f_Law_law_1309 N L xs (f_Law_law_18 N L xs j) a1 a2 a3 u200.2
  else some ((0 : Int32), u200.2)))))
  else if ((xs a3.toNatClampNeg) &&& (31 : Int32)) = (27 : Int32) then sw_gd [sw_ti (a3 + (1 : Int32)) L] (sw_gd [sw_ti (a3 + (2 : Int32)) L] (sw_gd [sw_ti (a3 + (3 : Int32)) L] (sw_gd [sw_ok M a1 11] ((f_House_bent N a1 (xs (a3 + (1 : Int32)).toNatClampNeg) (((xs (a3 + (2 : Int32)).toNatClampNeg).toInt64 <<< ((32 : Int32).toInt64 &&& 63)) ||| ((xs (a3 + (3 : Int32)).toNatClampNeg).toInt64 &&& (4294967295 : Int64))) M).bind (fun u206 => sw_gd [sw_ok u206.2 a2 12] ((f_Model_bent N a2 (xs (a3 + (1 : Int32)).toNatClampNeg) (((xs (a3 + (2 : Int32)).toNatClampNeg).toInt64 <<< ((32 : Int32).toInt64 &&& 63)) ||| ((xs (a3 + (3 : Int32)).toNatClampNeg).toInt64 &&& (4294967295 : Int64))) u206.2).bind (fun u208 => if u206.1 = u208.1 then f_Law_law_1309 N L xs (f_Law_law_18 N L xs j) a1 a2 a3 u208.2
  else f_Law_law_1284 N L xs u208.2)))))))
  else if ((xs a3.toNatClampNeg) &&& (31 : Int32)) = (28 : Int32) then sw_gd [sw_ti (a3 + (1 : Int32)) L] (sw_gd [sw_ok M a1 11] ((f_House_count N a1 (xs (a3 + (1 : Int32)).toNatClampNeg) M).bind (fun u212 => sw_gd [sw_ok u212.2 a2 12] ((f_Model_count N a2 (xs (a3 + (1 : Int32)).toNatClampNeg) u212.2).bind (fun u214 => if u212.1 = u214.1 then f_Law_law_1309 N L xs (f_Law_law_18 N L xs j) a1 a2 a3 u214.2
  else some ((0 : Int32), u214.2))))))
  else f_Law_law_1309 N L xs (f_Law_law_18 N L xs j) a1 a2 a3 M)
set_option maxRecDepth 10000 in
theorem t_Law_law_18 {g : sw_G} {d : Nat} (hd : 108 ≤ d) {x : sw_Ct} (hX : sw_Xl g k_Law_law d x) {N L : Nat} {xs : Nat → Int32} (hs : va_X (g_X g 30) L xs (x_s x) (x_s x).heap) (hb : g_X g 30 < (x_s x).heap.size) (hB : ¬ g_B g ≤ g_X g 30) (hend : ∀ (pc : Nat) (M : sw_M) {lv : List (Nat × Value)}, rd_N M ≤ x_1 x → decode (k_c k_Law_law) pc = .ok (.ireturn, 1) → sw_W g x pc lv [.int 1] M) {r : Int32 × sw_M} (hr : r.1 = 1) (hz : rd_N r.2 ≤ x_1 x) : ∀ (j : Nat) (a1 : Nat) (a2 : Nat) (a3 : Int32) (M : sw_M), f_Law_law_18 N L xs j a1 a2 a3 M = some r → sw_W g x 18 [(0, .retAddr 30), (1, .ref a1), (2, .ref a2), (3, .int a3)] [] M := by
  intro j
  induction j with
  | zero =>
    intro a1 a2 a3 M hf
    rw [f_Law_law_18] at hf
    cases hf
  | succ j ih =>
    intro a1 a2 a3 M hf
    rw [f_Law_law_18] at hf
    refine sl_blk hX [(.iload_n 3, 0, 0, .null), (.aload_n 0, 0, 0, .null)] (lv' := [(0, .retAddr 30), (1, .ref a1), (2, .ref a2), (3, .int a3)]) (st' := [.retAddr 30, .int a3]) (M1 := M) (ob := []) (by decide +kernel) rfl sw_a0 ?_
    show sw_W _ _ 20 [(0, .retAddr 30), (1, .ref a1), (2, .ref a2), (3, .int a3)] [.retAddr 30, .int a3] M
    refine sl_slen hX hs hb hB (by decide +kernel) ?_
    show sw_W _ _ 21 [(0, .retAddr 30), (1, .ref a1), (2, .ref a2), (3, .int a3)] [.int (Int32.ofNat L), .int a3] M
    refine sl_blk hX [(.bipush (11), 0, 0, .int (11 : Int32)), (.isub, 0, 0, .null)] (lv' := [(0, .retAddr 30), (1, .ref a1), (2, .ref a2), (3, .int a3)]) (st' := [.int ((Int32.ofNat L) - (11 : Int32)), .int a3]) (M1 := M) (ob := []) (by decide +kernel) rfl sw_a0 ?_
    show sw_W _ _ 24 [(0, .retAddr 30), (1, .ref a1), (2, .ref a2), (3, .int a3)] [.int ((Int32.ofNat L) - (11 : Int32)), .int a3] M
    refine sl_j_gt hX (off := 1291) (tgt := 1315) (by decide +kernel) (by decide) hf (fun hc hf => ?_) (fun hc hf => ?_)
    · refine sl_blk hX [(.iconst (1), 0, 0, .int (1 : Int32))] (lv' := [(0, .retAddr 30), (1, .ref a1), (2, .ref a2), (3, .int a3)]) (st' := [.int (1 : Int32)]) (M1 := M) (ob := []) (by decide +kernel) rfl sw_a0 ?_
      show sw_W _ _ 1316 [(0, .retAddr 30), (1, .ref a1), (2, .ref a2), (3, .int a3)] [.int (1 : Int32)] M
      cases hf
      exact hend _ _ hz (by decide +kernel)
    · obtain ⟨h1, hf⟩ := sw_gd_1 hf
      refine sl_blk hX [(.aload_n 0, 0, 0, .null), (.iload_n 3, 0, 0, .null)] (lv' := [(0, .retAddr 30), (1, .ref a1), (2, .ref a2), (3, .int a3)]) (st' := [.int a3, .retAddr 30]) (M1 := M) (ob := []) (by decide +kernel) rfl sw_a0 ?_
      show sw_W _ _ 29 [(0, .retAddr 30), (1, .ref a1), (2, .ref a2), (3, .int a3)] [.int a3, .retAddr 30] M
      refine sl_sld hX hs hb hB h1 (by decide +kernel) ?_
      show sw_W _ _ 30 [(0, .retAddr 30), (1, .ref a1), (2, .ref a2), (3, .int a3)] [.int (xs a3.toNatClampNeg)] M
      refine sl_blk hX [(.bipush (31), 0, 0, .int (31 : Int32)), (.iand, 0, 0, .null)] (lv' := [(0, .retAddr 30), (1, .ref a1), (2, .ref a2), (3, .int a3)]) (st' := [.int ((xs a3.toNatClampNeg) &&& (31 : Int32))]) (M1 := M) (ob := []) (by decide +kernel) rfl sw_a0 ?_
      show sw_W _ _ 33 [(0, .retAddr 30), (1, .ref a1), (2, .ref a2), (3, .int a3)] [.int ((xs a3.toNatClampNeg) &&& (31 : Int32))] M
      rcases sw_ite hf with ⟨h2, hf⟩ | ⟨h2, hf⟩
      · refine sl_tin hX (a := ((xs a3.toNatClampNeg) &&& (31 : Int32))) (off := 131) (tgt := 164) (len := 131) (show decode (k_c k_Law_law) 33 = .ok (.tableswitch (1276) (0) (28) #[131, 194, 217, 240, 263, 316, 379, 402, 425, 448, 501, 535, 578, 611, 644, 687, 720, 763, 786, 839, 862, 885, 928, 997, 1020, 1053, 1176, 1190, 1253], 131) by decide +kernel) (by rw [h2]; decide) (by rw [h2]; decide) (by rw [h2]; decide +kernel) (by decide) ?_
        obtain ⟨h3, hf⟩ := sw_gd_1 hf
        refine sl_blk hX [(.aload_n 1, 0, 0, .null), (.aload_n 0, 0, 0, .null), (.iload_n 3, 0, 0, .null), (.iconst (1), 0, 0, .int (1 : Int32)), (.iadd, 0, 0, .null)] (lv' := [(0, .retAddr 30), (1, .ref a1), (2, .ref a2), (3, .int a3)]) (st' := [.int (a3 + (1 : Int32)), .retAddr 30, .ref a1]) (M1 := M) (ob := []) (by decide +kernel) rfl sw_a0 ?_
        show sw_W _ _ 169 [(0, .retAddr 30), (1, .ref a1), (2, .ref a2), (3, .int a3)] [.int (a3 + (1 : Int32)), .retAddr 30, .ref a1] M
        refine sl_sld hX hs hb hB h3 (by decide +kernel) ?_
        show sw_W _ _ 170 [(0, .retAddr 30), (1, .ref a1), (2, .ref a2), (3, .int a3)] [.int (xs (a3 + (1 : Int32)).toNatClampNeg), .ref a1] M
        obtain ⟨h4, hf⟩ := sw_gd_1 hf
        refine sl_blk hX [(.aload_n 0, 0, 0, .null), (.iload_n 3, 0, 0, .null), (.iconst (2), 0, 0, .int (2 : Int32)), (.iadd, 0, 0, .null)] (lv' := [(0, .retAddr 30), (1, .ref a1), (2, .ref a2), (3, .int a3)]) (st' := [.int (a3 + (2 : Int32)), .retAddr 30, .int (xs (a3 + (1 : Int32)).toNatClampNeg), .ref a1]) (M1 := M) (ob := []) (by decide +kernel) rfl sw_a0 ?_
        show sw_W _ _ 174 [(0, .retAddr 30), (1, .ref a1), (2, .ref a2), (3, .int a3)] [.int (a3 + (2 : Int32)), .retAddr 30, .int (xs (a3 + (1 : Int32)).toNatClampNeg), .ref a1] M
        refine sl_sld hX hs hb hB h4 (by decide +kernel) ?_
        show sw_W _ _ 175 [(0, .retAddr 30), (1, .ref a1), (2, .ref a2), (3, .int a3)] [.int (xs (a3 + (2 : Int32)).toNatClampNeg), .int (xs (a3 + (1 : Int32)).toNatClampNeg), .ref a1] M
        obtain ⟨h5, hf⟩ := sw_gd_1 hf
        refine sl_blk hX [(.aload_n 0, 0, 0, .null), (.iload_n 3, 0, 0, .null), (.iconst (3), 0, 0, .int (3 : Int32)), (.iadd, 0, 0, .null)] (lv' := [(0, .retAddr 30), (1, .ref a1), (2, .ref a2), (3, .int a3)]) (st' := [.int (a3 + (3 : Int32)), .retAddr 30, .int (xs (a3 + (2 : Int32)).toNatClampNeg), .int (xs (a3 + (1 : Int32)).toNatClampNeg), .ref a1]) (M1 := M) (ob := []) (by decide +kernel) rfl sw_a0 ?_
        show sw_W _ _ 179 [(0, .retAddr 30), (1, .ref a1), (2, .ref a2), (3, .int a3)] [.int (a3 + (3 : Int32)), .retAddr 30, .int (xs (a3 + (2 : Int32)).toNatClampNeg), .int (xs (a3 + (1 : Int32)).toNatClampNeg), .ref a1] M
        refine sl_sld hX hs hb hB h5 (by decide +kernel) ?_
        show sw_W _ _ 180 [(0, .retAddr 30), (1, .ref a1), (2, .ref a2), (3, .int a3)] [.int (xs (a3 + (3 : Int32)).toNatClampNeg), .int (xs (a3 + (2 : Int32)).toNatClampNeg), .int (xs (a3 + (1 : Int32)).toNatClampNeg), .ref a1] M
        obtain ⟨h6, hf⟩ := sw_gd_1 hf
        refine sl_blk hX [(.aload_n 0, 0, 0, .null), (.iload_n 3, 0, 0, .null), (.iconst (4), 0, 0, .int (4 : Int32)), (.iadd, 0, 0, .null)] (lv' := [(0, .retAddr 30), (1, .ref a1), (2, .ref a2), (3, .int a3)]) (st' := [.int (a3 + (4 : Int32)), .retAddr 30, .int (xs (a3 + (3 : Int32)).toNatClampNeg), .int (xs (a3 + (2 : Int32)).toNatClampNeg), .int (xs (a3 + (1 : Int32)).toNatClampNeg), .ref a1]) (M1 := M) (ob := []) (by decide +kernel) rfl sw_a0 ?_
        show sw_W _ _ 184 [(0, .retAddr 30), (1, .ref a1), (2, .ref a2), (3, .int a3)] [.int (a3 + (4 : Int32)), .retAddr 30, .int (xs (a3 + (3 : Int32)).toNatClampNeg), .int (xs (a3 + (2 : Int32)).toNatClampNeg), .int (xs (a3 + (1 : Int32)).toNatClampNeg), .ref a1] M
        refine sl_sld hX hs hb hB h6 (by decide +kernel) ?_
        show sw_W _ _ 185 [(0, .retAddr 30), (1, .ref a1), (2, .ref a2), (3, .int a3)] [.int (xs (a3 + (4 : Int32)).toNatClampNeg), .int (xs (a3 + (3 : Int32)).toNatClampNeg), .int (xs (a3 + (2 : Int32)).toNatClampNeg), .int (xs (a3 + (1 : Int32)).toNatClampNeg), .ref a1] M
        obtain ⟨h7, hf⟩ := sw_gd_1 hf
        refine sl_blk hX [(.aload_n 0, 0, 0, .null), (.iload_n 3, 0, 0, .null), (.iconst (5), 0, 0, .int (5 : Int32)), (.iadd, 0, 0, .null)] (lv' := [(0, .retAddr 30), (1, .ref a1), (2, .ref a2), (3, .int a3)]) (st' := [.int (a3 + (5 : Int32)), .retAddr 30, .int (xs (a3 + (4 : Int32)).toNatClampNeg), .int (xs (a3 + (3 : Int32)).toNatClampNeg), .int (xs (a3 + (2 : Int32)).toNatClampNeg), .int (xs (a3 + (1 : Int32)).toNatClampNeg), .ref a1]) (M1 := M) (ob := []) (by decide +kernel) rfl sw_a0 ?_
        show sw_W _ _ 189 [(0, .retAddr 30), (1, .ref a1), (2, .ref a2), (3, .int a3)] [.int (a3 + (5 : Int32)), .retAddr 30, .int (xs (a3 + (4 : Int32)).toNatClampNeg), .int (xs (a3 + (3 : Int32)).toNatClampNeg), .int (xs (a3 + (2 : Int32)).toNatClampNeg), .int (xs (a3 + (1 : Int32)).toNatClampNeg), .ref a1] M
        refine sl_sld hX hs hb hB h7 (by decide +kernel) ?_
        show sw_W _ _ 190 [(0, .retAddr 30), (1, .ref a1), (2, .ref a2), (3, .int a3)] [.int (xs (a3 + (5 : Int32)).toNatClampNeg), .int (xs (a3 + (4 : Int32)).toNatClampNeg), .int (xs (a3 + (3 : Int32)).toNatClampNeg), .int (xs (a3 + (2 : Int32)).toNatClampNeg), .int (xs (a3 + (1 : Int32)).toNatClampNeg), .ref a1] M
        obtain ⟨h8, hf⟩ := sw_gd_1 hf
        obtain ⟨u9, hu9, hf⟩ := sw_bnd hf
        refine sl_callV hX (i := 13) (k2 := k_House_feed) (d2 := d - 1) (As := [.int (xs (a3 + (1 : Int32)).toNatClampNeg), .int (xs (a3 + (2 : Int32)).toNatClampNeg), .int (xs (a3 + (3 : Int32)).toNatClampNeg), .int (xs (a3 + (4 : Int32)).toNatClampNeg), .int (xs (a3 + (5 : Int32)).toNatClampNeg)]) (st := []) (q := a1) (ci := 11) mf_House_feed mi_House_feed ms_House_feed (sw_m2 237 (by decide +kernel)) rfl (by decide) (by decide +kernel) rfl (Nat.le_of_ble_eq_true rfl) (by omega) h8 (o_House_feed g (d := d - 1) (by omega) hu9) ?_
        show sw_W _ _ 193 [(0, .retAddr 30), (1, .ref a1), (2, .ref a2), (3, .int a3)] [.int u9.1] u9.2
        refine sl_blk hX [(.aload_n 2, 0, 0, .null), (.aload_n 0, 0, 0, .null), (.iload_n 3, 0, 0, .null), (.iconst (1), 0, 0, .int (1 : Int32)), (.iadd, 0, 0, .null)] (lv' := [(0, .retAddr 30), (1, .ref a1), (2, .ref a2), (3, .int a3)]) (st' := [.int (a3 + (1 : Int32)), .retAddr 30, .ref a2, .int u9.1]) (M1 := u9.2) (ob := []) (by decide +kernel) rfl sw_a0 ?_
        show sw_W _ _ 198 [(0, .retAddr 30), (1, .ref a1), (2, .ref a2), (3, .int a3)] [.int (a3 + (1 : Int32)), .retAddr 30, .ref a2, .int u9.1] u9.2
        refine sl_sld hX hs hb hB h3 (by decide +kernel) ?_
        show sw_W _ _ 199 [(0, .retAddr 30), (1, .ref a1), (2, .ref a2), (3, .int a3)] [.int (xs (a3 + (1 : Int32)).toNatClampNeg), .ref a2, .int u9.1] u9.2
        refine sl_blk hX [(.aload_n 0, 0, 0, .null), (.iload_n 3, 0, 0, .null), (.iconst (2), 0, 0, .int (2 : Int32)), (.iadd, 0, 0, .null)] (lv' := [(0, .retAddr 30), (1, .ref a1), (2, .ref a2), (3, .int a3)]) (st' := [.int (a3 + (2 : Int32)), .retAddr 30, .int (xs (a3 + (1 : Int32)).toNatClampNeg), .ref a2, .int u9.1]) (M1 := u9.2) (ob := []) (by decide +kernel) rfl sw_a0 ?_
        show sw_W _ _ 203 [(0, .retAddr 30), (1, .ref a1), (2, .ref a2), (3, .int a3)] [.int (a3 + (2 : Int32)), .retAddr 30, .int (xs (a3 + (1 : Int32)).toNatClampNeg), .ref a2, .int u9.1] u9.2
        refine sl_sld hX hs hb hB h4 (by decide +kernel) ?_
        show sw_W _ _ 204 [(0, .retAddr 30), (1, .ref a1), (2, .ref a2), (3, .int a3)] [.int (xs (a3 + (2 : Int32)).toNatClampNeg), .int (xs (a3 + (1 : Int32)).toNatClampNeg), .ref a2, .int u9.1] u9.2
        refine sl_blk hX [(.aload_n 0, 0, 0, .null), (.iload_n 3, 0, 0, .null), (.iconst (3), 0, 0, .int (3 : Int32)), (.iadd, 0, 0, .null)] (lv' := [(0, .retAddr 30), (1, .ref a1), (2, .ref a2), (3, .int a3)]) (st' := [.int (a3 + (3 : Int32)), .retAddr 30, .int (xs (a3 + (2 : Int32)).toNatClampNeg), .int (xs (a3 + (1 : Int32)).toNatClampNeg), .ref a2, .int u9.1]) (M1 := u9.2) (ob := []) (by decide +kernel) rfl sw_a0 ?_
        show sw_W _ _ 208 [(0, .retAddr 30), (1, .ref a1), (2, .ref a2), (3, .int a3)] [.int (a3 + (3 : Int32)), .retAddr 30, .int (xs (a3 + (2 : Int32)).toNatClampNeg), .int (xs (a3 + (1 : Int32)).toNatClampNeg), .ref a2, .int u9.1] u9.2
        refine sl_sld hX hs hb hB h5 (by decide +kernel) ?_
        show sw_W _ _ 209 [(0, .retAddr 30), (1, .ref a1), (2, .ref a2), (3, .int a3)] [.int (xs (a3 + (3 : Int32)).toNatClampNeg), .int (xs (a3 + (2 : Int32)).toNatClampNeg), .int (xs (a3 + (1 : Int32)).toNatClampNeg), .ref a2, .int u9.1] u9.2
        refine sl_blk hX [(.aload_n 0, 0, 0, .null), (.iload_n 3, 0, 0, .null), (.iconst (4), 0, 0, .int (4 : Int32)), (.iadd, 0, 0, .null)] (lv' := [(0, .retAddr 30), (1, .ref a1), (2, .ref a2), (3, .int a3)]) (st' := [.int (a3 + (4 : Int32)), .retAddr 30, .int (xs (a3 + (3 : Int32)).toNatClampNeg), .int (xs (a3 + (2 : Int32)).toNatClampNeg), .int (xs (a3 + (1 : Int32)).toNatClampNeg), .ref a2, .int u9.1]) (M1 := u9.2) (ob := []) (by decide +kernel) rfl sw_a0 ?_
        show sw_W _ _ 213 [(0, .retAddr 30), (1, .ref a1), (2, .ref a2), (3, .int a3)] [.int (a3 + (4 : Int32)), .retAddr 30, .int (xs (a3 + (3 : Int32)).toNatClampNeg), .int (xs (a3 + (2 : Int32)).toNatClampNeg), .int (xs (a3 + (1 : Int32)).toNatClampNeg), .ref a2, .int u9.1] u9.2
        refine sl_sld hX hs hb hB h6 (by decide +kernel) ?_
        show sw_W _ _ 214 [(0, .retAddr 30), (1, .ref a1), (2, .ref a2), (3, .int a3)] [.int (xs (a3 + (4 : Int32)).toNatClampNeg), .int (xs (a3 + (3 : Int32)).toNatClampNeg), .int (xs (a3 + (2 : Int32)).toNatClampNeg), .int (xs (a3 + (1 : Int32)).toNatClampNeg), .ref a2, .int u9.1] u9.2
        refine sl_blk hX [(.aload_n 0, 0, 0, .null), (.iload_n 3, 0, 0, .null), (.iconst (5), 0, 0, .int (5 : Int32)), (.iadd, 0, 0, .null)] (lv' := [(0, .retAddr 30), (1, .ref a1), (2, .ref a2), (3, .int a3)]) (st' := [.int (a3 + (5 : Int32)), .retAddr 30, .int (xs (a3 + (4 : Int32)).toNatClampNeg), .int (xs (a3 + (3 : Int32)).toNatClampNeg), .int (xs (a3 + (2 : Int32)).toNatClampNeg), .int (xs (a3 + (1 : Int32)).toNatClampNeg), .ref a2, .int u9.1]) (M1 := u9.2) (ob := []) (by decide +kernel) rfl sw_a0 ?_
        show sw_W _ _ 218 [(0, .retAddr 30), (1, .ref a1), (2, .ref a2), (3, .int a3)] [.int (a3 + (5 : Int32)), .retAddr 30, .int (xs (a3 + (4 : Int32)).toNatClampNeg), .int (xs (a3 + (3 : Int32)).toNatClampNeg), .int (xs (a3 + (2 : Int32)).toNatClampNeg), .int (xs (a3 + (1 : Int32)).toNatClampNeg), .ref a2, .int u9.1] u9.2
        refine sl_sld hX hs hb hB h7 (by decide +kernel) ?_
        show sw_W _ _ 219 [(0, .retAddr 30), (1, .ref a1), (2, .ref a2), (3, .int a3)] [.int (xs (a3 + (5 : Int32)).toNatClampNeg), .int (xs (a3 + (4 : Int32)).toNatClampNeg), .int (xs (a3 + (3 : Int32)).toNatClampNeg), .int (xs (a3 + (2 : Int32)).toNatClampNeg), .int (xs (a3 + (1 : Int32)).toNatClampNeg), .ref a2, .int u9.1] u9.2
        obtain ⟨h10, hf⟩ := sw_gd_1 hf
        obtain ⟨u11, hu11, hf⟩ := sw_bnd hf
        refine sl_callV hX (i := 17) (k2 := k_Model_feed) (d2 := d - 1) (As := [.int (xs (a3 + (1 : Int32)).toNatClampNeg), .int (xs (a3 + (2 : Int32)).toNatClampNeg), .int (xs (a3 + (3 : Int32)).toNatClampNeg), .int (xs (a3 + (4 : Int32)).toNatClampNeg), .int (xs (a3 + (5 : Int32)).toNatClampNeg)]) (st := [.int u9.1]) (q := a2) (ci := 12) mf_Model_feed mi_Model_feed ms_Model_feed (sw_m7 19 (by decide +kernel)) rfl (by decide) (by decide +kernel) rfl (Nat.le_of_ble_eq_true rfl) (by omega) h10 (o_Model_feed g (d := d - 1) (by omega) hu11) ?_
        show sw_W _ _ 222 [(0, .retAddr 30), (1, .ref a1), (2, .ref a2), (3, .int a3)] [.int u11.1, .int u9.1] u11.2
        refine sl_j_eq hX (off := 1087) (tgt := 1309) (by decide +kernel) (by decide) hf (fun hc hf => ?_) (fun hc hf => ?_)
        · exact sw_weak [0, 1, 2, 3] rfl (t_Law_law_1309 hd hX hs hb hB hend hr hz _ ih hf)
        · exact sw_weak [] rfl (t_Law_law_225 hd hX hs hb hB hend hr hz hf)
      ·
        rcases sw_ite hf with ⟨h12, hf⟩ | ⟨h12, hf⟩
        · refine sl_tin hX (a := ((xs a3.toNatClampNeg) &&& (31 : Int32))) (off := 194) (tgt := 227) (len := 131) (show decode (k_c k_Law_law) 33 = .ok (.tableswitch (1276) (0) (28) #[131, 194, 217, 240, 263, 316, 379, 402, 425, 448, 501, 535, 578, 611, 644, 687, 720, 763, 786, 839, 862, 885, 928, 997, 1020, 1053, 1176, 1190, 1253], 131) by decide +kernel) (by rw [h12]; decide) (by rw [h12]; decide) (by rw [h12]; decide +kernel) (by decide) ?_
          obtain ⟨h13, hf⟩ := sw_gd_1 hf
          refine sl_blk hX [(.aload_n 1, 0, 0, .null), (.aload_n 0, 0, 0, .null), (.iload_n 3, 0, 0, .null), (.iconst (1), 0, 0, .int (1 : Int32)), (.iadd, 0, 0, .null)] (lv' := [(0, .retAddr 30), (1, .ref a1), (2, .ref a2), (3, .int a3)]) (st' := [.int (a3 + (1 : Int32)), .retAddr 30, .ref a1]) (M1 := M) (ob := []) (by decide +kernel) rfl sw_a0 ?_
          show sw_W _ _ 232 [(0, .retAddr 30), (1, .ref a1), (2, .ref a2), (3, .int a3)] [.int (a3 + (1 : Int32)), .retAddr 30, .ref a1] M
          refine sl_sld hX hs hb hB h13 (by decide +kernel) ?_
          show sw_W _ _ 233 [(0, .retAddr 30), (1, .ref a1), (2, .ref a2), (3, .int a3)] [.int (xs (a3 + (1 : Int32)).toNatClampNeg), .ref a1] M
          obtain ⟨h14, hf⟩ := sw_gd_1 hf
          obtain ⟨u15, hu15, hf⟩ := sw_bnd hf
          refine sl_callV hX (i := 18) (k2 := k_House_field) (d2 := d - 1) (As := [.int (xs (a3 + (1 : Int32)).toNatClampNeg)]) (st := []) (q := a1) (ci := 11) mf_House_field mi_House_field ms_House_field (sw_m3 5 (by decide +kernel)) rfl (by decide) (by decide +kernel) rfl (Nat.le_of_ble_eq_true rfl) (by omega) h14 (o_House_field g (d := d - 1) (by omega) hu15) ?_
          show sw_W _ _ 236 [(0, .retAddr 30), (1, .ref a1), (2, .ref a2), (3, .int a3)] [.int u15.1] u15.2
          refine sl_blk hX [(.aload_n 2, 0, 0, .null), (.aload_n 0, 0, 0, .null), (.iload_n 3, 0, 0, .null), (.iconst (1), 0, 0, .int (1 : Int32)), (.iadd, 0, 0, .null)] (lv' := [(0, .retAddr 30), (1, .ref a1), (2, .ref a2), (3, .int a3)]) (st' := [.int (a3 + (1 : Int32)), .retAddr 30, .ref a2, .int u15.1]) (M1 := u15.2) (ob := []) (by decide +kernel) rfl sw_a0 ?_
          show sw_W _ _ 241 [(0, .retAddr 30), (1, .ref a1), (2, .ref a2), (3, .int a3)] [.int (a3 + (1 : Int32)), .retAddr 30, .ref a2, .int u15.1] u15.2
          refine sl_sld hX hs hb hB h13 (by decide +kernel) ?_
          show sw_W _ _ 242 [(0, .retAddr 30), (1, .ref a1), (2, .ref a2), (3, .int a3)] [.int (xs (a3 + (1 : Int32)).toNatClampNeg), .ref a2, .int u15.1] u15.2
          obtain ⟨h16, hf⟩ := sw_gd_1 hf
          obtain ⟨u17, hu17, hf⟩ := sw_bnd hf
          refine sl_callV hX (i := 22) (k2 := k_Model_field) (d2 := d - 1) (As := [.int (xs (a3 + (1 : Int32)).toNatClampNeg)]) (st := [.int u15.1]) (q := a2) (ci := 12) mf_Model_field mi_Model_field ms_Model_field (sw_m7 23 (by decide +kernel)) rfl (by decide) (by decide +kernel) rfl (Nat.le_of_ble_eq_true rfl) (by omega) h16 (o_Model_field g (d := d - 1) (by omega) hu17) ?_
          show sw_W _ _ 245 [(0, .retAddr 30), (1, .ref a1), (2, .ref a2), (3, .int a3)] [.int u17.1, .int u15.1] u17.2
          refine sl_j_eq hX (off := 1064) (tgt := 1309) (by decide +kernel) (by decide) hf (fun hc hf => ?_) (fun hc hf => ?_)
          · exact sw_weak [0, 1, 2, 3] rfl (t_Law_law_1309 hd hX hs hb hB hend hr hz _ ih hf)
          · refine sl_blk hX [(.iconst (0), 0, 0, .int (0 : Int32))] (lv' := [(0, .retAddr 30), (1, .ref a1), (2, .ref a2), (3, .int a3)]) (st' := [.int (0 : Int32)]) (M1 := u17.2) (ob := []) (by decide +kernel) rfl sw_a0 ?_
            show sw_W _ _ 249 [(0, .retAddr 30), (1, .ref a1), (2, .ref a2), (3, .int a3)] [.int (0 : Int32)] u17.2
            cases hf
            exact absurd (show (0 : Int32) = 1 from hr) (by decide)
        ·
          rcases sw_ite hf with ⟨h18, hf⟩ | ⟨h18, hf⟩
          · refine sl_tin hX (a := ((xs a3.toNatClampNeg) &&& (31 : Int32))) (off := 217) (tgt := 250) (len := 131) (show decode (k_c k_Law_law) 33 = .ok (.tableswitch (1276) (0) (28) #[131, 194, 217, 240, 263, 316, 379, 402, 425, 448, 501, 535, 578, 611, 644, 687, 720, 763, 786, 839, 862, 885, 928, 997, 1020, 1053, 1176, 1190, 1253], 131) by decide +kernel) (by rw [h18]; decide) (by rw [h18]; decide) (by rw [h18]; decide +kernel) (by decide) ?_
            obtain ⟨h19, hf⟩ := sw_gd_1 hf
            refine sl_blk hX [(.aload_n 1, 0, 0, .null), (.aload_n 0, 0, 0, .null), (.iload_n 3, 0, 0, .null), (.iconst (1), 0, 0, .int (1 : Int32)), (.iadd, 0, 0, .null)] (lv' := [(0, .retAddr 30), (1, .ref a1), (2, .ref a2), (3, .int a3)]) (st' := [.int (a3 + (1 : Int32)), .retAddr 30, .ref a1]) (M1 := M) (ob := []) (by decide +kernel) rfl sw_a0 ?_
            show sw_W _ _ 255 [(0, .retAddr 30), (1, .ref a1), (2, .ref a2), (3, .int a3)] [.int (a3 + (1 : Int32)), .retAddr 30, .ref a1] M
            refine sl_sld hX hs hb hB h19 (by decide +kernel) ?_
            show sw_W _ _ 256 [(0, .retAddr 30), (1, .ref a1), (2, .ref a2), (3, .int a3)] [.int (xs (a3 + (1 : Int32)).toNatClampNeg), .ref a1] M
            obtain ⟨h20, hf⟩ := sw_gd_1 hf
            obtain ⟨u21, hu21, hf⟩ := sw_bnd hf
            refine sl_callV hX (i := 23) (k2 := k_House_fault) (d2 := d - 1) (As := [.int (xs (a3 + (1 : Int32)).toNatClampNeg)]) (st := []) (q := a1) (ci := 11) mf_House_fault mi_House_fault ms_House_fault (sw_m3 187 (by decide +kernel)) rfl (by decide) (by decide +kernel) rfl (Nat.le_of_ble_eq_true rfl) (by omega) h20 (o_House_fault g (d := d - 1) (by omega) hu21) ?_
            show sw_W _ _ 259 [(0, .retAddr 30), (1, .ref a1), (2, .ref a2), (3, .int a3)] [.int u21.1] u21.2
            refine sl_blk hX [(.aload_n 2, 0, 0, .null), (.aload_n 0, 0, 0, .null), (.iload_n 3, 0, 0, .null), (.iconst (1), 0, 0, .int (1 : Int32)), (.iadd, 0, 0, .null)] (lv' := [(0, .retAddr 30), (1, .ref a1), (2, .ref a2), (3, .int a3)]) (st' := [.int (a3 + (1 : Int32)), .retAddr 30, .ref a2, .int u21.1]) (M1 := u21.2) (ob := []) (by decide +kernel) rfl sw_a0 ?_
            show sw_W _ _ 264 [(0, .retAddr 30), (1, .ref a1), (2, .ref a2), (3, .int a3)] [.int (a3 + (1 : Int32)), .retAddr 30, .ref a2, .int u21.1] u21.2
            refine sl_sld hX hs hb hB h19 (by decide +kernel) ?_
            show sw_W _ _ 265 [(0, .retAddr 30), (1, .ref a1), (2, .ref a2), (3, .int a3)] [.int (xs (a3 + (1 : Int32)).toNatClampNeg), .ref a2, .int u21.1] u21.2
            obtain ⟨h22, hf⟩ := sw_gd_1 hf
            obtain ⟨u23, hu23, hf⟩ := sw_bnd hf
            refine sl_callV hX (i := 26) (k2 := k_Model_fault) (d2 := d - 1) (As := [.int (xs (a3 + (1 : Int32)).toNatClampNeg)]) (st := [.int u21.1]) (q := a2) (ci := 12) mf_Model_fault mi_Model_fault ms_Model_fault (sw_m7 108 (by decide +kernel)) rfl (by decide) (by decide +kernel) rfl (Nat.le_of_ble_eq_true rfl) (by omega) h22 (o_Model_fault g (d := d - 1) (by omega) hu23) ?_
            show sw_W _ _ 268 [(0, .retAddr 30), (1, .ref a1), (2, .ref a2), (3, .int a3)] [.int u23.1, .int u21.1] u23.2
            refine sl_j_eq hX (off := 1041) (tgt := 1309) (by decide +kernel) (by decide) hf (fun hc hf => ?_) (fun hc hf => ?_)
            · exact sw_weak [0, 1, 2, 3] rfl (t_Law_law_1309 hd hX hs hb hB hend hr hz _ ih hf)
            · refine sl_blk hX [(.iconst (0), 0, 0, .int (0 : Int32))] (lv' := [(0, .retAddr 30), (1, .ref a1), (2, .ref a2), (3, .int a3)]) (st' := [.int (0 : Int32)]) (M1 := u23.2) (ob := []) (by decide +kernel) rfl sw_a0 ?_
              show sw_W _ _ 272 [(0, .retAddr 30), (1, .ref a1), (2, .ref a2), (3, .int a3)] [.int (0 : Int32)] u23.2
              cases hf
              exact absurd (show (0 : Int32) = 1 from hr) (by decide)
          ·
            rcases sw_ite hf with ⟨h24, hf⟩ | ⟨h24, hf⟩
            · refine sl_tin hX (a := ((xs a3.toNatClampNeg) &&& (31 : Int32))) (off := 240) (tgt := 273) (len := 131) (show decode (k_c k_Law_law) 33 = .ok (.tableswitch (1276) (0) (28) #[131, 194, 217, 240, 263, 316, 379, 402, 425, 448, 501, 535, 578, 611, 644, 687, 720, 763, 786, 839, 862, 885, 928, 997, 1020, 1053, 1176, 1190, 1253], 131) by decide +kernel) (by rw [h24]; decide) (by rw [h24]; decide) (by rw [h24]; decide +kernel) (by decide) ?_
              obtain ⟨h25, hf⟩ := sw_gd_1 hf
              refine sl_blk hX [(.aload_n 1, 0, 0, .null), (.aload_n 0, 0, 0, .null), (.iload_n 3, 0, 0, .null), (.iconst (1), 0, 0, .int (1 : Int32)), (.iadd, 0, 0, .null)] (lv' := [(0, .retAddr 30), (1, .ref a1), (2, .ref a2), (3, .int a3)]) (st' := [.int (a3 + (1 : Int32)), .retAddr 30, .ref a1]) (M1 := M) (ob := []) (by decide +kernel) rfl sw_a0 ?_
              show sw_W _ _ 278 [(0, .retAddr 30), (1, .ref a1), (2, .ref a2), (3, .int a3)] [.int (a3 + (1 : Int32)), .retAddr 30, .ref a1] M
              refine sl_sld hX hs hb hB h25 (by decide +kernel) ?_
              show sw_W _ _ 279 [(0, .retAddr 30), (1, .ref a1), (2, .ref a2), (3, .int a3)] [.int (xs (a3 + (1 : Int32)).toNatClampNeg), .ref a1] M
              obtain ⟨h26, hf⟩ := sw_gd_1 hf
              obtain ⟨u27, hu27, hf⟩ := sw_bnd hf
              refine sl_callV hX (i := 27) (k2 := k_House_mass) (d2 := d - 1) (As := [.int (xs (a3 + (1 : Int32)).toNatClampNeg)]) (st := []) (q := a1) (ci := 11) mf_House_mass mi_House_mass ms_House_mass (sw_m3 191 (by decide +kernel)) rfl (by decide) (by decide +kernel) rfl (Nat.le_of_ble_eq_true rfl) (by omega) h26 (o_House_mass g (d := d - 1) (by omega) hu27) ?_
              show sw_W _ _ 282 [(0, .retAddr 30), (1, .ref a1), (2, .ref a2), (3, .int a3)] [.int u27.1] u27.2
              refine sl_blk hX [(.aload_n 2, 0, 0, .null), (.aload_n 0, 0, 0, .null), (.iload_n 3, 0, 0, .null), (.iconst (1), 0, 0, .int (1 : Int32)), (.iadd, 0, 0, .null)] (lv' := [(0, .retAddr 30), (1, .ref a1), (2, .ref a2), (3, .int a3)]) (st' := [.int (a3 + (1 : Int32)), .retAddr 30, .ref a2, .int u27.1]) (M1 := u27.2) (ob := []) (by decide +kernel) rfl sw_a0 ?_
              show sw_W _ _ 287 [(0, .retAddr 30), (1, .ref a1), (2, .ref a2), (3, .int a3)] [.int (a3 + (1 : Int32)), .retAddr 30, .ref a2, .int u27.1] u27.2
              refine sl_sld hX hs hb hB h25 (by decide +kernel) ?_
              show sw_W _ _ 288 [(0, .retAddr 30), (1, .ref a1), (2, .ref a2), (3, .int a3)] [.int (xs (a3 + (1 : Int32)).toNatClampNeg), .ref a2, .int u27.1] u27.2
              obtain ⟨h28, hf⟩ := sw_gd_1 hf
              obtain ⟨u29, hu29, hf⟩ := sw_bnd hf
              refine sl_callV hX (i := 31) (k2 := k_Model_mass) (d2 := d - 1) (As := [.int (xs (a3 + (1 : Int32)).toNatClampNeg)]) (st := [.int u27.1]) (q := a2) (ci := 12) mf_Model_mass mi_Model_mass ms_Model_mass (sw_m7 112 (by decide +kernel)) rfl (by decide) (by decide +kernel) rfl (Nat.le_of_ble_eq_true rfl) (by omega) h28 (o_Model_mass g (d := d - 1) (by omega) hu29) ?_
              show sw_W _ _ 291 [(0, .retAddr 30), (1, .ref a1), (2, .ref a2), (3, .int a3)] [.int u29.1, .int u27.1] u29.2
              refine sl_j_eq hX (off := 1018) (tgt := 1309) (by decide +kernel) (by decide) hf (fun hc hf => ?_) (fun hc hf => ?_)
              · exact sw_weak [0, 1, 2, 3] rfl (t_Law_law_1309 hd hX hs hb hB hend hr hz _ ih hf)
              · exact sw_weak [] rfl (t_Law_law_294 hd hX hs hb hB hend hr hz hf)
            ·
              rcases sw_ite hf with ⟨h30, hf⟩ | ⟨h30, hf⟩
              · refine sl_tin hX (a := ((xs a3.toNatClampNeg) &&& (31 : Int32))) (off := 263) (tgt := 296) (len := 131) (show decode (k_c k_Law_law) 33 = .ok (.tableswitch (1276) (0) (28) #[131, 194, 217, 240, 263, 316, 379, 402, 425, 448, 501, 535, 578, 611, 644, 687, 720, 763, 786, 839, 862, 885, 928, 997, 1020, 1053, 1176, 1190, 1253], 131) by decide +kernel) (by rw [h30]; decide) (by rw [h30]; decide) (by rw [h30]; decide +kernel) (by decide) ?_
                obtain ⟨h31, hf⟩ := sw_gd_1 hf
                refine sl_blk hX [(.aload_n 1, 0, 0, .null), (.aload_n 0, 0, 0, .null), (.iload_n 3, 0, 0, .null), (.iconst (1), 0, 0, .int (1 : Int32)), (.iadd, 0, 0, .null)] (lv' := [(0, .retAddr 30), (1, .ref a1), (2, .ref a2), (3, .int a3)]) (st' := [.int (a3 + (1 : Int32)), .retAddr 30, .ref a1]) (M1 := M) (ob := []) (by decide +kernel) rfl sw_a0 ?_
                show sw_W _ _ 301 [(0, .retAddr 30), (1, .ref a1), (2, .ref a2), (3, .int a3)] [.int (a3 + (1 : Int32)), .retAddr 30, .ref a1] M
                refine sl_sld hX hs hb hB h31 (by decide +kernel) ?_
                show sw_W _ _ 302 [(0, .retAddr 30), (1, .ref a1), (2, .ref a2), (3, .int a3)] [.int (xs (a3 + (1 : Int32)).toNatClampNeg), .ref a1] M
                obtain ⟨h32, hf⟩ := sw_gd_1 hf
                refine sl_blk hX [(.aload_n 0, 0, 0, .null), (.iload_n 3, 0, 0, .null), (.iconst (2), 0, 0, .int (2 : Int32)), (.iadd, 0, 0, .null)] (lv' := [(0, .retAddr 30), (1, .ref a1), (2, .ref a2), (3, .int a3)]) (st' := [.int (a3 + (2 : Int32)), .retAddr 30, .int (xs (a3 + (1 : Int32)).toNatClampNeg), .ref a1]) (M1 := M) (ob := []) (by decide +kernel) rfl sw_a0 ?_
                show sw_W _ _ 306 [(0, .retAddr 30), (1, .ref a1), (2, .ref a2), (3, .int a3)] [.int (a3 + (2 : Int32)), .retAddr 30, .int (xs (a3 + (1 : Int32)).toNatClampNeg), .ref a1] M
                refine sl_sld hX hs hb hB h32 (by decide +kernel) ?_
                show sw_W _ _ 307 [(0, .retAddr 30), (1, .ref a1), (2, .ref a2), (3, .int a3)] [.int (xs (a3 + (2 : Int32)).toNatClampNeg), .int (xs (a3 + (1 : Int32)).toNatClampNeg), .ref a1] M
                obtain ⟨h33, hf⟩ := sw_gd_1 hf
                refine sl_blk hX [(.aload_n 0, 0, 0, .null), (.iload_n 3, 0, 0, .null), (.iconst (3), 0, 0, .int (3 : Int32)), (.iadd, 0, 0, .null)] (lv' := [(0, .retAddr 30), (1, .ref a1), (2, .ref a2), (3, .int a3)]) (st' := [.int (a3 + (3 : Int32)), .retAddr 30, .int (xs (a3 + (2 : Int32)).toNatClampNeg), .int (xs (a3 + (1 : Int32)).toNatClampNeg), .ref a1]) (M1 := M) (ob := []) (by decide +kernel) rfl sw_a0 ?_
                show sw_W _ _ 311 [(0, .retAddr 30), (1, .ref a1), (2, .ref a2), (3, .int a3)] [.int (a3 + (3 : Int32)), .retAddr 30, .int (xs (a3 + (2 : Int32)).toNatClampNeg), .int (xs (a3 + (1 : Int32)).toNatClampNeg), .ref a1] M
                refine sl_sld hX hs hb hB h33 (by decide +kernel) ?_
                show sw_W _ _ 312 [(0, .retAddr 30), (1, .ref a1), (2, .ref a2), (3, .int a3)] [.int (xs (a3 + (3 : Int32)).toNatClampNeg), .int (xs (a3 + (2 : Int32)).toNatClampNeg), .int (xs (a3 + (1 : Int32)).toNatClampNeg), .ref a1] M
                obtain ⟨h34, hf⟩ := sw_gd_1 hf
                refine sl_blk hX [(.aload_n 0, 0, 0, .null), (.iload_n 3, 0, 0, .null), (.iconst (4), 0, 0, .int (4 : Int32)), (.iadd, 0, 0, .null)] (lv' := [(0, .retAddr 30), (1, .ref a1), (2, .ref a2), (3, .int a3)]) (st' := [.int (a3 + (4 : Int32)), .retAddr 30, .int (xs (a3 + (3 : Int32)).toNatClampNeg), .int (xs (a3 + (2 : Int32)).toNatClampNeg), .int (xs (a3 + (1 : Int32)).toNatClampNeg), .ref a1]) (M1 := M) (ob := []) (by decide +kernel) rfl sw_a0 ?_
                show sw_W _ _ 316 [(0, .retAddr 30), (1, .ref a1), (2, .ref a2), (3, .int a3)] [.int (a3 + (4 : Int32)), .retAddr 30, .int (xs (a3 + (3 : Int32)).toNatClampNeg), .int (xs (a3 + (2 : Int32)).toNatClampNeg), .int (xs (a3 + (1 : Int32)).toNatClampNeg), .ref a1] M
                refine sl_sld hX hs hb hB h34 (by decide +kernel) ?_
                show sw_W _ _ 317 [(0, .retAddr 30), (1, .ref a1), (2, .ref a2), (3, .int a3)] [.int (xs (a3 + (4 : Int32)).toNatClampNeg), .int (xs (a3 + (3 : Int32)).toNatClampNeg), .int (xs (a3 + (2 : Int32)).toNatClampNeg), .int (xs (a3 + (1 : Int32)).toNatClampNeg), .ref a1] M
                obtain ⟨h35, hf⟩ := sw_gd_1 hf
                obtain ⟨u36, hu36, hf⟩ := sw_bnd hf
                refine sl_callV hX (i := 32) (k2 := k_House_pull) (d2 := d - 1) (As := [.int (xs (a3 + (1 : Int32)).toNatClampNeg), .int (xs (a3 + (2 : Int32)).toNatClampNeg), .int (xs (a3 + (3 : Int32)).toNatClampNeg), .int (xs (a3 + (4 : Int32)).toNatClampNeg)]) (st := []) (q := a1) (ci := 11) mf_House_pull mi_House_pull ms_House_pull (sw_m3 195 (by decide +kernel)) rfl (by decide) (by decide +kernel) rfl (Nat.le_of_ble_eq_true rfl) (by omega) h35 (o_House_pull g (d := d - 1) (by omega) hu36) ?_
                show sw_W _ _ 320 [(0, .retAddr 30), (1, .ref a1), (2, .ref a2), (3, .int a3)] [.int u36.1] u36.2
                refine sl_blk hX [(.aload_n 2, 0, 0, .null), (.aload_n 0, 0, 0, .null), (.iload_n 3, 0, 0, .null), (.iconst (1), 0, 0, .int (1 : Int32)), (.iadd, 0, 0, .null)] (lv' := [(0, .retAddr 30), (1, .ref a1), (2, .ref a2), (3, .int a3)]) (st' := [.int (a3 + (1 : Int32)), .retAddr 30, .ref a2, .int u36.1]) (M1 := u36.2) (ob := []) (by decide +kernel) rfl sw_a0 ?_
                show sw_W _ _ 325 [(0, .retAddr 30), (1, .ref a1), (2, .ref a2), (3, .int a3)] [.int (a3 + (1 : Int32)), .retAddr 30, .ref a2, .int u36.1] u36.2
                refine sl_sld hX hs hb hB h31 (by decide +kernel) ?_
                show sw_W _ _ 326 [(0, .retAddr 30), (1, .ref a1), (2, .ref a2), (3, .int a3)] [.int (xs (a3 + (1 : Int32)).toNatClampNeg), .ref a2, .int u36.1] u36.2
                refine sl_blk hX [(.aload_n 0, 0, 0, .null), (.iload_n 3, 0, 0, .null), (.iconst (2), 0, 0, .int (2 : Int32)), (.iadd, 0, 0, .null)] (lv' := [(0, .retAddr 30), (1, .ref a1), (2, .ref a2), (3, .int a3)]) (st' := [.int (a3 + (2 : Int32)), .retAddr 30, .int (xs (a3 + (1 : Int32)).toNatClampNeg), .ref a2, .int u36.1]) (M1 := u36.2) (ob := []) (by decide +kernel) rfl sw_a0 ?_
                show sw_W _ _ 330 [(0, .retAddr 30), (1, .ref a1), (2, .ref a2), (3, .int a3)] [.int (a3 + (2 : Int32)), .retAddr 30, .int (xs (a3 + (1 : Int32)).toNatClampNeg), .ref a2, .int u36.1] u36.2
                refine sl_sld hX hs hb hB h32 (by decide +kernel) ?_
                show sw_W _ _ 331 [(0, .retAddr 30), (1, .ref a1), (2, .ref a2), (3, .int a3)] [.int (xs (a3 + (2 : Int32)).toNatClampNeg), .int (xs (a3 + (1 : Int32)).toNatClampNeg), .ref a2, .int u36.1] u36.2
                refine sl_blk hX [(.aload_n 0, 0, 0, .null), (.iload_n 3, 0, 0, .null), (.iconst (3), 0, 0, .int (3 : Int32)), (.iadd, 0, 0, .null)] (lv' := [(0, .retAddr 30), (1, .ref a1), (2, .ref a2), (3, .int a3)]) (st' := [.int (a3 + (3 : Int32)), .retAddr 30, .int (xs (a3 + (2 : Int32)).toNatClampNeg), .int (xs (a3 + (1 : Int32)).toNatClampNeg), .ref a2, .int u36.1]) (M1 := u36.2) (ob := []) (by decide +kernel) rfl sw_a0 ?_
                show sw_W _ _ 335 [(0, .retAddr 30), (1, .ref a1), (2, .ref a2), (3, .int a3)] [.int (a3 + (3 : Int32)), .retAddr 30, .int (xs (a3 + (2 : Int32)).toNatClampNeg), .int (xs (a3 + (1 : Int32)).toNatClampNeg), .ref a2, .int u36.1] u36.2
                refine sl_sld hX hs hb hB h33 (by decide +kernel) ?_
                show sw_W _ _ 336 [(0, .retAddr 30), (1, .ref a1), (2, .ref a2), (3, .int a3)] [.int (xs (a3 + (3 : Int32)).toNatClampNeg), .int (xs (a3 + (2 : Int32)).toNatClampNeg), .int (xs (a3 + (1 : Int32)).toNatClampNeg), .ref a2, .int u36.1] u36.2
                refine sl_blk hX [(.aload_n 0, 0, 0, .null), (.iload_n 3, 0, 0, .null), (.iconst (4), 0, 0, .int (4 : Int32)), (.iadd, 0, 0, .null)] (lv' := [(0, .retAddr 30), (1, .ref a1), (2, .ref a2), (3, .int a3)]) (st' := [.int (a3 + (4 : Int32)), .retAddr 30, .int (xs (a3 + (3 : Int32)).toNatClampNeg), .int (xs (a3 + (2 : Int32)).toNatClampNeg), .int (xs (a3 + (1 : Int32)).toNatClampNeg), .ref a2, .int u36.1]) (M1 := u36.2) (ob := []) (by decide +kernel) rfl sw_a0 ?_
                show sw_W _ _ 340 [(0, .retAddr 30), (1, .ref a1), (2, .ref a2), (3, .int a3)] [.int (a3 + (4 : Int32)), .retAddr 30, .int (xs (a3 + (3 : Int32)).toNatClampNeg), .int (xs (a3 + (2 : Int32)).toNatClampNeg), .int (xs (a3 + (1 : Int32)).toNatClampNeg), .ref a2, .int u36.1] u36.2
                refine sl_sld hX hs hb hB h34 (by decide +kernel) ?_
                show sw_W _ _ 341 [(0, .retAddr 30), (1, .ref a1), (2, .ref a2), (3, .int a3)] [.int (xs (a3 + (4 : Int32)).toNatClampNeg), .int (xs (a3 + (3 : Int32)).toNatClampNeg), .int (xs (a3 + (2 : Int32)).toNatClampNeg), .int (xs (a3 + (1 : Int32)).toNatClampNeg), .ref a2, .int u36.1] u36.2
                obtain ⟨h37, hf⟩ := sw_gd_1 hf
                obtain ⟨u38, hu38, hf⟩ := sw_bnd hf
                refine sl_callV hX (i := 36) (k2 := k_Model_pull) (d2 := d - 1) (As := [.int (xs (a3 + (1 : Int32)).toNatClampNeg), .int (xs (a3 + (2 : Int32)).toNatClampNeg), .int (xs (a3 + (3 : Int32)).toNatClampNeg), .int (xs (a3 + (4 : Int32)).toNatClampNeg)]) (st := [.int u36.1]) (q := a2) (ci := 12) mf_Model_pull mi_Model_pull ms_Model_pull (sw_m7 124 (by decide +kernel)) rfl (by decide) (by decide +kernel) rfl (Nat.le_of_ble_eq_true rfl) (by omega) h37 (o_Model_pull g (d := d - 1) (by omega) hu38) ?_
                show sw_W _ _ 344 [(0, .retAddr 30), (1, .ref a1), (2, .ref a2), (3, .int a3)] [.int u38.1, .int u36.1] u38.2
                refine sl_j_eq hX (off := 965) (tgt := 1309) (by decide +kernel) (by decide) hf (fun hc hf => ?_) (fun hc hf => ?_)
                · exact sw_weak [0, 1, 2, 3] rfl (t_Law_law_1309 hd hX hs hb hB hend hr hz _ ih hf)
                · exact sw_weak [] rfl (t_Law_law_347 hd hX hs hb hB hend hr hz hf)
              ·
                rcases sw_ite hf with ⟨h39, hf⟩ | ⟨h39, hf⟩
                · refine sl_tin hX (a := ((xs a3.toNatClampNeg) &&& (31 : Int32))) (off := 316) (tgt := 349) (len := 131) (show decode (k_c k_Law_law) 33 = .ok (.tableswitch (1276) (0) (28) #[131, 194, 217, 240, 263, 316, 379, 402, 425, 448, 501, 535, 578, 611, 644, 687, 720, 763, 786, 839, 862, 885, 928, 997, 1020, 1053, 1176, 1190, 1253], 131) by decide +kernel) (by rw [h39]; decide) (by rw [h39]; decide) (by rw [h39]; decide +kernel) (by decide) ?_
                  obtain ⟨h40, hf⟩ := sw_gd_1 hf
                  refine sl_blk hX [(.aload_n 1, 0, 0, .null), (.aload_n 0, 0, 0, .null), (.iload_n 3, 0, 0, .null), (.iconst (1), 0, 0, .int (1 : Int32)), (.iadd, 0, 0, .null)] (lv' := [(0, .retAddr 30), (1, .ref a1), (2, .ref a2), (3, .int a3)]) (st' := [.int (a3 + (1 : Int32)), .retAddr 30, .ref a1]) (M1 := M) (ob := []) (by decide +kernel) rfl sw_a0 ?_
                  show sw_W _ _ 354 [(0, .retAddr 30), (1, .ref a1), (2, .ref a2), (3, .int a3)] [.int (a3 + (1 : Int32)), .retAddr 30, .ref a1] M
                  refine sl_sld hX hs hb hB h40 (by decide +kernel) ?_
                  show sw_W _ _ 355 [(0, .retAddr 30), (1, .ref a1), (2, .ref a2), (3, .int a3)] [.int (xs (a3 + (1 : Int32)).toNatClampNeg), .ref a1] M
                  obtain ⟨h41, hf⟩ := sw_gd_1 hf
                  refine sl_blk hX [(.aload_n 0, 0, 0, .null), (.iload_n 3, 0, 0, .null), (.iconst (2), 0, 0, .int (2 : Int32)), (.iadd, 0, 0, .null)] (lv' := [(0, .retAddr 30), (1, .ref a1), (2, .ref a2), (3, .int a3)]) (st' := [.int (a3 + (2 : Int32)), .retAddr 30, .int (xs (a3 + (1 : Int32)).toNatClampNeg), .ref a1]) (M1 := M) (ob := []) (by decide +kernel) rfl sw_a0 ?_
                  show sw_W _ _ 359 [(0, .retAddr 30), (1, .ref a1), (2, .ref a2), (3, .int a3)] [.int (a3 + (2 : Int32)), .retAddr 30, .int (xs (a3 + (1 : Int32)).toNatClampNeg), .ref a1] M
                  refine sl_sld hX hs hb hB h41 (by decide +kernel) ?_
                  show sw_W _ _ 360 [(0, .retAddr 30), (1, .ref a1), (2, .ref a2), (3, .int a3)] [.int (xs (a3 + (2 : Int32)).toNatClampNeg), .int (xs (a3 + (1 : Int32)).toNatClampNeg), .ref a1] M
                  obtain ⟨h42, hf⟩ := sw_gd_1 hf
                  refine sl_blk hX [(.aload_n 0, 0, 0, .null), (.iload_n 3, 0, 0, .null), (.iconst (3), 0, 0, .int (3 : Int32)), (.iadd, 0, 0, .null)] (lv' := [(0, .retAddr 30), (1, .ref a1), (2, .ref a2), (3, .int a3)]) (st' := [.int (a3 + (3 : Int32)), .retAddr 30, .int (xs (a3 + (2 : Int32)).toNatClampNeg), .int (xs (a3 + (1 : Int32)).toNatClampNeg), .ref a1]) (M1 := M) (ob := []) (by decide +kernel) rfl sw_a0 ?_
                  show sw_W _ _ 364 [(0, .retAddr 30), (1, .ref a1), (2, .ref a2), (3, .int a3)] [.int (a3 + (3 : Int32)), .retAddr 30, .int (xs (a3 + (2 : Int32)).toNatClampNeg), .int (xs (a3 + (1 : Int32)).toNatClampNeg), .ref a1] M
                  refine sl_sld hX hs hb hB h42 (by decide +kernel) ?_
                  show sw_W _ _ 365 [(0, .retAddr 30), (1, .ref a1), (2, .ref a2), (3, .int a3)] [.int (xs (a3 + (3 : Int32)).toNatClampNeg), .int (xs (a3 + (2 : Int32)).toNatClampNeg), .int (xs (a3 + (1 : Int32)).toNatClampNeg), .ref a1] M
                  obtain ⟨h43, hf⟩ := sw_gd_1 hf
                  refine sl_blk hX [(.aload_n 0, 0, 0, .null), (.iload_n 3, 0, 0, .null), (.iconst (4), 0, 0, .int (4 : Int32)), (.iadd, 0, 0, .null)] (lv' := [(0, .retAddr 30), (1, .ref a1), (2, .ref a2), (3, .int a3)]) (st' := [.int (a3 + (4 : Int32)), .retAddr 30, .int (xs (a3 + (3 : Int32)).toNatClampNeg), .int (xs (a3 + (2 : Int32)).toNatClampNeg), .int (xs (a3 + (1 : Int32)).toNatClampNeg), .ref a1]) (M1 := M) (ob := []) (by decide +kernel) rfl sw_a0 ?_
                  show sw_W _ _ 369 [(0, .retAddr 30), (1, .ref a1), (2, .ref a2), (3, .int a3)] [.int (a3 + (4 : Int32)), .retAddr 30, .int (xs (a3 + (3 : Int32)).toNatClampNeg), .int (xs (a3 + (2 : Int32)).toNatClampNeg), .int (xs (a3 + (1 : Int32)).toNatClampNeg), .ref a1] M
                  refine sl_sld hX hs hb hB h43 (by decide +kernel) ?_
                  show sw_W _ _ 370 [(0, .retAddr 30), (1, .ref a1), (2, .ref a2), (3, .int a3)] [.int (xs (a3 + (4 : Int32)).toNatClampNeg), .int (xs (a3 + (3 : Int32)).toNatClampNeg), .int (xs (a3 + (2 : Int32)).toNatClampNeg), .int (xs (a3 + (1 : Int32)).toNatClampNeg), .ref a1] M
                  obtain ⟨h44, hf⟩ := sw_gd_1 hf
                  refine sl_blk hX [(.aload_n 0, 0, 0, .null), (.iload_n 3, 0, 0, .null), (.iconst (5), 0, 0, .int (5 : Int32)), (.iadd, 0, 0, .null)] (lv' := [(0, .retAddr 30), (1, .ref a1), (2, .ref a2), (3, .int a3)]) (st' := [.int (a3 + (5 : Int32)), .retAddr 30, .int (xs (a3 + (4 : Int32)).toNatClampNeg), .int (xs (a3 + (3 : Int32)).toNatClampNeg), .int (xs (a3 + (2 : Int32)).toNatClampNeg), .int (xs (a3 + (1 : Int32)).toNatClampNeg), .ref a1]) (M1 := M) (ob := []) (by decide +kernel) rfl sw_a0 ?_
                  show sw_W _ _ 374 [(0, .retAddr 30), (1, .ref a1), (2, .ref a2), (3, .int a3)] [.int (a3 + (5 : Int32)), .retAddr 30, .int (xs (a3 + (4 : Int32)).toNatClampNeg), .int (xs (a3 + (3 : Int32)).toNatClampNeg), .int (xs (a3 + (2 : Int32)).toNatClampNeg), .int (xs (a3 + (1 : Int32)).toNatClampNeg), .ref a1] M
                  refine sl_sld hX hs hb hB h44 (by decide +kernel) ?_
                  show sw_W _ _ 375 [(0, .retAddr 30), (1, .ref a1), (2, .ref a2), (3, .int a3)] [.int (xs (a3 + (5 : Int32)).toNatClampNeg), .int (xs (a3 + (4 : Int32)).toNatClampNeg), .int (xs (a3 + (3 : Int32)).toNatClampNeg), .int (xs (a3 + (2 : Int32)).toNatClampNeg), .int (xs (a3 + (1 : Int32)).toNatClampNeg), .ref a1] M
                  obtain ⟨h45, hf⟩ := sw_gd_1 hf
                  obtain ⟨u46, hu46, hf⟩ := sw_bnd hf
                  refine sl_callV hX (i := 37) (k2 := k_House_star) (d2 := d - 1) (As := [.int (xs (a3 + (1 : Int32)).toNatClampNeg), .int (xs (a3 + (2 : Int32)).toNatClampNeg), .int (xs (a3 + (3 : Int32)).toNatClampNeg), .int (xs (a3 + (4 : Int32)).toNatClampNeg), .int (xs (a3 + (5 : Int32)).toNatClampNeg)]) (st := []) (q := a1) (ci := 11) mf_House_star mi_House_star ms_House_star (sw_m3 233 (by decide +kernel)) rfl (by decide) (by decide +kernel) rfl (Nat.le_of_ble_eq_true rfl) (by omega) h45 (o_House_star g (d := d - 1) (by omega) hu46) ?_
                  show sw_W _ _ 378 [(0, .retAddr 30), (1, .ref a1), (2, .ref a2), (3, .int a3)] [.int u46.1] u46.2
                  refine sl_blk hX [(.aload_n 2, 0, 0, .null), (.aload_n 0, 0, 0, .null), (.iload_n 3, 0, 0, .null), (.iconst (1), 0, 0, .int (1 : Int32)), (.iadd, 0, 0, .null)] (lv' := [(0, .retAddr 30), (1, .ref a1), (2, .ref a2), (3, .int a3)]) (st' := [.int (a3 + (1 : Int32)), .retAddr 30, .ref a2, .int u46.1]) (M1 := u46.2) (ob := []) (by decide +kernel) rfl sw_a0 ?_
                  show sw_W _ _ 383 [(0, .retAddr 30), (1, .ref a1), (2, .ref a2), (3, .int a3)] [.int (a3 + (1 : Int32)), .retAddr 30, .ref a2, .int u46.1] u46.2
                  refine sl_sld hX hs hb hB h40 (by decide +kernel) ?_
                  show sw_W _ _ 384 [(0, .retAddr 30), (1, .ref a1), (2, .ref a2), (3, .int a3)] [.int (xs (a3 + (1 : Int32)).toNatClampNeg), .ref a2, .int u46.1] u46.2
                  refine sl_blk hX [(.aload_n 0, 0, 0, .null), (.iload_n 3, 0, 0, .null), (.iconst (2), 0, 0, .int (2 : Int32)), (.iadd, 0, 0, .null)] (lv' := [(0, .retAddr 30), (1, .ref a1), (2, .ref a2), (3, .int a3)]) (st' := [.int (a3 + (2 : Int32)), .retAddr 30, .int (xs (a3 + (1 : Int32)).toNatClampNeg), .ref a2, .int u46.1]) (M1 := u46.2) (ob := []) (by decide +kernel) rfl sw_a0 ?_
                  show sw_W _ _ 388 [(0, .retAddr 30), (1, .ref a1), (2, .ref a2), (3, .int a3)] [.int (a3 + (2 : Int32)), .retAddr 30, .int (xs (a3 + (1 : Int32)).toNatClampNeg), .ref a2, .int u46.1] u46.2
                  refine sl_sld hX hs hb hB h41 (by decide +kernel) ?_
                  show sw_W _ _ 389 [(0, .retAddr 30), (1, .ref a1), (2, .ref a2), (3, .int a3)] [.int (xs (a3 + (2 : Int32)).toNatClampNeg), .int (xs (a3 + (1 : Int32)).toNatClampNeg), .ref a2, .int u46.1] u46.2
                  refine sl_blk hX [(.aload_n 0, 0, 0, .null), (.iload_n 3, 0, 0, .null), (.iconst (3), 0, 0, .int (3 : Int32)), (.iadd, 0, 0, .null)] (lv' := [(0, .retAddr 30), (1, .ref a1), (2, .ref a2), (3, .int a3)]) (st' := [.int (a3 + (3 : Int32)), .retAddr 30, .int (xs (a3 + (2 : Int32)).toNatClampNeg), .int (xs (a3 + (1 : Int32)).toNatClampNeg), .ref a2, .int u46.1]) (M1 := u46.2) (ob := []) (by decide +kernel) rfl sw_a0 ?_
                  show sw_W _ _ 393 [(0, .retAddr 30), (1, .ref a1), (2, .ref a2), (3, .int a3)] [.int (a3 + (3 : Int32)), .retAddr 30, .int (xs (a3 + (2 : Int32)).toNatClampNeg), .int (xs (a3 + (1 : Int32)).toNatClampNeg), .ref a2, .int u46.1] u46.2
                  refine sl_sld hX hs hb hB h42 (by decide +kernel) ?_
                  show sw_W _ _ 394 [(0, .retAddr 30), (1, .ref a1), (2, .ref a2), (3, .int a3)] [.int (xs (a3 + (3 : Int32)).toNatClampNeg), .int (xs (a3 + (2 : Int32)).toNatClampNeg), .int (xs (a3 + (1 : Int32)).toNatClampNeg), .ref a2, .int u46.1] u46.2
                  refine sl_blk hX [(.aload_n 0, 0, 0, .null), (.iload_n 3, 0, 0, .null), (.iconst (4), 0, 0, .int (4 : Int32)), (.iadd, 0, 0, .null)] (lv' := [(0, .retAddr 30), (1, .ref a1), (2, .ref a2), (3, .int a3)]) (st' := [.int (a3 + (4 : Int32)), .retAddr 30, .int (xs (a3 + (3 : Int32)).toNatClampNeg), .int (xs (a3 + (2 : Int32)).toNatClampNeg), .int (xs (a3 + (1 : Int32)).toNatClampNeg), .ref a2, .int u46.1]) (M1 := u46.2) (ob := []) (by decide +kernel) rfl sw_a0 ?_
                  show sw_W _ _ 398 [(0, .retAddr 30), (1, .ref a1), (2, .ref a2), (3, .int a3)] [.int (a3 + (4 : Int32)), .retAddr 30, .int (xs (a3 + (3 : Int32)).toNatClampNeg), .int (xs (a3 + (2 : Int32)).toNatClampNeg), .int (xs (a3 + (1 : Int32)).toNatClampNeg), .ref a2, .int u46.1] u46.2
                  refine sl_sld hX hs hb hB h43 (by decide +kernel) ?_
                  show sw_W _ _ 399 [(0, .retAddr 30), (1, .ref a1), (2, .ref a2), (3, .int a3)] [.int (xs (a3 + (4 : Int32)).toNatClampNeg), .int (xs (a3 + (3 : Int32)).toNatClampNeg), .int (xs (a3 + (2 : Int32)).toNatClampNeg), .int (xs (a3 + (1 : Int32)).toNatClampNeg), .ref a2, .int u46.1] u46.2
                  refine sl_blk hX [(.aload_n 0, 0, 0, .null), (.iload_n 3, 0, 0, .null), (.iconst (5), 0, 0, .int (5 : Int32)), (.iadd, 0, 0, .null)] (lv' := [(0, .retAddr 30), (1, .ref a1), (2, .ref a2), (3, .int a3)]) (st' := [.int (a3 + (5 : Int32)), .retAddr 30, .int (xs (a3 + (4 : Int32)).toNatClampNeg), .int (xs (a3 + (3 : Int32)).toNatClampNeg), .int (xs (a3 + (2 : Int32)).toNatClampNeg), .int (xs (a3 + (1 : Int32)).toNatClampNeg), .ref a2, .int u46.1]) (M1 := u46.2) (ob := []) (by decide +kernel) rfl sw_a0 ?_
                  show sw_W _ _ 403 [(0, .retAddr 30), (1, .ref a1), (2, .ref a2), (3, .int a3)] [.int (a3 + (5 : Int32)), .retAddr 30, .int (xs (a3 + (4 : Int32)).toNatClampNeg), .int (xs (a3 + (3 : Int32)).toNatClampNeg), .int (xs (a3 + (2 : Int32)).toNatClampNeg), .int (xs (a3 + (1 : Int32)).toNatClampNeg), .ref a2, .int u46.1] u46.2
                  refine sl_sld hX hs hb hB h44 (by decide +kernel) ?_
                  show sw_W _ _ 404 [(0, .retAddr 30), (1, .ref a1), (2, .ref a2), (3, .int a3)] [.int (xs (a3 + (5 : Int32)).toNatClampNeg), .int (xs (a3 + (4 : Int32)).toNatClampNeg), .int (xs (a3 + (3 : Int32)).toNatClampNeg), .int (xs (a3 + (2 : Int32)).toNatClampNeg), .int (xs (a3 + (1 : Int32)).toNatClampNeg), .ref a2, .int u46.1] u46.2
                  obtain ⟨h47, hf⟩ := sw_gd_1 hf
                  obtain ⟨u48, hu48, hf⟩ := sw_bnd hf
                  refine sl_callV hX (i := 41) (k2 := k_Model_star) (d2 := d - 1) (As := [.int (xs (a3 + (1 : Int32)).toNatClampNeg), .int (xs (a3 + (2 : Int32)).toNatClampNeg), .int (xs (a3 + (3 : Int32)).toNatClampNeg), .int (xs (a3 + (4 : Int32)).toNatClampNeg), .int (xs (a3 + (5 : Int32)).toNatClampNeg)]) (st := [.int u46.1]) (q := a2) (ci := 12) mf_Model_star mi_Model_star ms_Model_star (sw_m7 147 (by decide +kernel)) rfl (by decide) (by decide +kernel) rfl (Nat.le_of_ble_eq_true rfl) (by omega) h47 (o_Model_star g (d := d - 1) (by omega) hu48) ?_
                  show sw_W _ _ 407 [(0, .retAddr 30), (1, .ref a1), (2, .ref a2), (3, .int a3)] [.int u48.1, .int u46.1] u48.2
                  refine sl_j_eq hX (off := 902) (tgt := 1309) (by decide +kernel) (by decide) hf (fun hc hf => ?_) (fun hc hf => ?_)
                  · exact sw_weak [0, 1, 2, 3] rfl (t_Law_law_1309 hd hX hs hb hB hend hr hz _ ih hf)
                  · exact sw_weak [] rfl (t_Law_law_410 hd hX hs hb hB hend hr hz hf)
                ·
                  rcases sw_ite hf with ⟨h49, hf⟩ | ⟨h49, hf⟩
                  · refine sl_tin hX (a := ((xs a3.toNatClampNeg) &&& (31 : Int32))) (off := 379) (tgt := 412) (len := 131) (show decode (k_c k_Law_law) 33 = .ok (.tableswitch (1276) (0) (28) #[131, 194, 217, 240, 263, 316, 379, 402, 425, 448, 501, 535, 578, 611, 644, 687, 720, 763, 786, 839, 862, 885, 928, 997, 1020, 1053, 1176, 1190, 1253], 131) by decide +kernel) (by rw [h49]; decide) (by rw [h49]; decide) (by rw [h49]; decide +kernel) (by decide) ?_
                    obtain ⟨h50, hf⟩ := sw_gd_1 hf
                    refine sl_blk hX [(.aload_n 1, 0, 0, .null), (.aload_n 0, 0, 0, .null), (.iload_n 3, 0, 0, .null), (.iconst (1), 0, 0, .int (1 : Int32)), (.iadd, 0, 0, .null)] (lv' := [(0, .retAddr 30), (1, .ref a1), (2, .ref a2), (3, .int a3)]) (st' := [.int (a3 + (1 : Int32)), .retAddr 30, .ref a1]) (M1 := M) (ob := []) (by decide +kernel) rfl sw_a0 ?_
                    show sw_W _ _ 417 [(0, .retAddr 30), (1, .ref a1), (2, .ref a2), (3, .int a3)] [.int (a3 + (1 : Int32)), .retAddr 30, .ref a1] M
                    refine sl_sld hX hs hb hB h50 (by decide +kernel) ?_
                    show sw_W _ _ 418 [(0, .retAddr 30), (1, .ref a1), (2, .ref a2), (3, .int a3)] [.int (xs (a3 + (1 : Int32)).toNatClampNeg), .ref a1] M
                    obtain ⟨h51, hf⟩ := sw_gd_1 hf
                    obtain ⟨u52, hu52, hf⟩ := sw_bnd hf
                    refine sl_callV hX (i := 42) (k2 := k_House_go) (d2 := d - 1) (As := [.int (xs (a3 + (1 : Int32)).toNatClampNeg)]) (st := []) (q := a1) (ci := 11) mf_House_go mi_House_go ms_House_go (sw_m4 4 (by decide +kernel)) rfl (by decide) (by decide +kernel) rfl (Nat.le_of_ble_eq_true rfl) (by omega) h51 (o_House_go g (d := d - 1) (by omega) hu52) ?_
                    show sw_W _ _ 421 [(0, .retAddr 30), (1, .ref a1), (2, .ref a2), (3, .int a3)] [.int u52.1] u52.2
                    refine sl_blk hX [(.aload_n 2, 0, 0, .null), (.aload_n 0, 0, 0, .null), (.iload_n 3, 0, 0, .null), (.iconst (1), 0, 0, .int (1 : Int32)), (.iadd, 0, 0, .null)] (lv' := [(0, .retAddr 30), (1, .ref a1), (2, .ref a2), (3, .int a3)]) (st' := [.int (a3 + (1 : Int32)), .retAddr 30, .ref a2, .int u52.1]) (M1 := u52.2) (ob := []) (by decide +kernel) rfl sw_a0 ?_
                    show sw_W _ _ 426 [(0, .retAddr 30), (1, .ref a1), (2, .ref a2), (3, .int a3)] [.int (a3 + (1 : Int32)), .retAddr 30, .ref a2, .int u52.1] u52.2
                    refine sl_sld hX hs hb hB h50 (by decide +kernel) ?_
                    show sw_W _ _ 427 [(0, .retAddr 30), (1, .ref a1), (2, .ref a2), (3, .int a3)] [.int (xs (a3 + (1 : Int32)).toNatClampNeg), .ref a2, .int u52.1] u52.2
                    obtain ⟨h53, hf⟩ := sw_gd_1 hf
                    obtain ⟨u54, hu54, hf⟩ := sw_bnd hf
                    refine sl_callV hX (i := 45) (k2 := k_Model_go) (d2 := d - 1) (As := [.int (xs (a3 + (1 : Int32)).toNatClampNeg)]) (st := [.int u52.1]) (q := a2) (ci := 12) mf_Model_go mi_Model_go ms_Model_go (sw_m7 151 (by decide +kernel)) rfl (by decide) (by decide +kernel) rfl (Nat.le_of_ble_eq_true rfl) (by omega) h53 (o_Model_go g (d := d - 1) (by omega) hu54) ?_
                    show sw_W _ _ 430 [(0, .retAddr 30), (1, .ref a1), (2, .ref a2), (3, .int a3)] [.int u54.1, .int u52.1] u54.2
                    refine sl_j_eq hX (off := 879) (tgt := 1309) (by decide +kernel) (by decide) hf (fun hc hf => ?_) (fun hc hf => ?_)
                    · exact sw_weak [0, 1, 2, 3] rfl (t_Law_law_1309 hd hX hs hb hB hend hr hz _ ih hf)
                    · refine sl_blk hX [(.iconst (0), 0, 0, .int (0 : Int32))] (lv' := [(0, .retAddr 30), (1, .ref a1), (2, .ref a2), (3, .int a3)]) (st' := [.int (0 : Int32)]) (M1 := u54.2) (ob := []) (by decide +kernel) rfl sw_a0 ?_
                      show sw_W _ _ 434 [(0, .retAddr 30), (1, .ref a1), (2, .ref a2), (3, .int a3)] [.int (0 : Int32)] u54.2
                      cases hf
                      exact absurd (show (0 : Int32) = 1 from hr) (by decide)
                  ·
                    rcases sw_ite hf with ⟨h55, hf⟩ | ⟨h55, hf⟩
                    · refine sl_tin hX (a := ((xs a3.toNatClampNeg) &&& (31 : Int32))) (off := 402) (tgt := 435) (len := 131) (show decode (k_c k_Law_law) 33 = .ok (.tableswitch (1276) (0) (28) #[131, 194, 217, 240, 263, 316, 379, 402, 425, 448, 501, 535, 578, 611, 644, 687, 720, 763, 786, 839, 862, 885, 928, 997, 1020, 1053, 1176, 1190, 1253], 131) by decide +kernel) (by rw [h55]; decide) (by rw [h55]; decide) (by rw [h55]; decide +kernel) (by decide) ?_
                      obtain ⟨h56, hf⟩ := sw_gd_1 hf
                      refine sl_blk hX [(.aload_n 1, 0, 0, .null), (.aload_n 0, 0, 0, .null), (.iload_n 3, 0, 0, .null), (.iconst (1), 0, 0, .int (1 : Int32)), (.iadd, 0, 0, .null)] (lv' := [(0, .retAddr 30), (1, .ref a1), (2, .ref a2), (3, .int a3)]) (st' := [.int (a3 + (1 : Int32)), .retAddr 30, .ref a1]) (M1 := M) (ob := []) (by decide +kernel) rfl sw_a0 ?_
                      show sw_W _ _ 440 [(0, .retAddr 30), (1, .ref a1), (2, .ref a2), (3, .int a3)] [.int (a3 + (1 : Int32)), .retAddr 30, .ref a1] M
                      refine sl_sld hX hs hb hB h56 (by decide +kernel) ?_
                      show sw_W _ _ 441 [(0, .retAddr 30), (1, .ref a1), (2, .ref a2), (3, .int a3)] [.int (xs (a3 + (1 : Int32)).toNatClampNeg), .ref a1] M
                      obtain ⟨h57, hf⟩ := sw_gd_1 hf
                      obtain ⟨u58, hu58, hf⟩ := sw_bnd hf
                      refine sl_callV hX (i := 46) (k2 := k_House_starred) (d2 := d - 1) (As := [.int (xs (a3 + (1 : Int32)).toNatClampNeg)]) (st := []) (q := a1) (ci := 11) mf_House_starred mi_House_starred ms_House_starred (sw_m4 23 (by decide +kernel)) rfl (by decide) (by decide +kernel) rfl (Nat.le_of_ble_eq_true rfl) (by omega) h57 (o_House_starred g (d := d - 1) (by omega) hu58) ?_
                      show sw_W _ _ 444 [(0, .retAddr 30), (1, .ref a1), (2, .ref a2), (3, .int a3)] [.int u58.1] u58.2
                      refine sl_blk hX [(.aload_n 2, 0, 0, .null), (.aload_n 0, 0, 0, .null), (.iload_n 3, 0, 0, .null), (.iconst (1), 0, 0, .int (1 : Int32)), (.iadd, 0, 0, .null)] (lv' := [(0, .retAddr 30), (1, .ref a1), (2, .ref a2), (3, .int a3)]) (st' := [.int (a3 + (1 : Int32)), .retAddr 30, .ref a2, .int u58.1]) (M1 := u58.2) (ob := []) (by decide +kernel) rfl sw_a0 ?_
                      show sw_W _ _ 449 [(0, .retAddr 30), (1, .ref a1), (2, .ref a2), (3, .int a3)] [.int (a3 + (1 : Int32)), .retAddr 30, .ref a2, .int u58.1] u58.2
                      refine sl_sld hX hs hb hB h56 (by decide +kernel) ?_
                      show sw_W _ _ 450 [(0, .retAddr 30), (1, .ref a1), (2, .ref a2), (3, .int a3)] [.int (xs (a3 + (1 : Int32)).toNatClampNeg), .ref a2, .int u58.1] u58.2
                      obtain ⟨h59, hf⟩ := sw_gd_1 hf
                      obtain ⟨u60, hu60, hf⟩ := sw_bnd hf
                      refine sl_callV hX (i := 49) (k2 := k_Model_starred) (d2 := d - 1) (As := [.int (xs (a3 + (1 : Int32)).toNatClampNeg)]) (st := [.int u58.1]) (q := a2) (ci := 12) mf_Model_starred mi_Model_starred ms_Model_starred (sw_m7 166 (by decide +kernel)) rfl (by decide) (by decide +kernel) rfl (Nat.le_of_ble_eq_true rfl) (by omega) h59 (o_Model_starred g (d := d - 1) (by omega) hu60) ?_
                      show sw_W _ _ 453 [(0, .retAddr 30), (1, .ref a1), (2, .ref a2), (3, .int a3)] [.int u60.1, .int u58.1] u60.2
                      refine sl_j_eq hX (off := 856) (tgt := 1309) (by decide +kernel) (by decide) hf (fun hc hf => ?_) (fun hc hf => ?_)
                      · exact sw_weak [0, 1, 2, 3] rfl (t_Law_law_1309 hd hX hs hb hB hend hr hz _ ih hf)
                      · refine sl_blk hX [(.iconst (0), 0, 0, .int (0 : Int32))] (lv' := [(0, .retAddr 30), (1, .ref a1), (2, .ref a2), (3, .int a3)]) (st' := [.int (0 : Int32)]) (M1 := u60.2) (ob := []) (by decide +kernel) rfl sw_a0 ?_
                        show sw_W _ _ 457 [(0, .retAddr 30), (1, .ref a1), (2, .ref a2), (3, .int a3)] [.int (0 : Int32)] u60.2
                        cases hf
                        exact absurd (show (0 : Int32) = 1 from hr) (by decide)
                    ·
                      rcases sw_ite hf with ⟨h61, hf⟩ | ⟨h61, hf⟩
                      · refine sl_tin hX (a := ((xs a3.toNatClampNeg) &&& (31 : Int32))) (off := 425) (tgt := 458) (len := 131) (show decode (k_c k_Law_law) 33 = .ok (.tableswitch (1276) (0) (28) #[131, 194, 217, 240, 263, 316, 379, 402, 425, 448, 501, 535, 578, 611, 644, 687, 720, 763, 786, 839, 862, 885, 928, 997, 1020, 1053, 1176, 1190, 1253], 131) by decide +kernel) (by rw [h61]; decide) (by rw [h61]; decide) (by rw [h61]; decide +kernel) (by decide) ?_
                        obtain ⟨h62, hf⟩ := sw_gd_1 hf
                        refine sl_blk hX [(.aload_n 1, 0, 0, .null), (.aload_n 0, 0, 0, .null), (.iload_n 3, 0, 0, .null), (.iconst (1), 0, 0, .int (1 : Int32)), (.iadd, 0, 0, .null)] (lv' := [(0, .retAddr 30), (1, .ref a1), (2, .ref a2), (3, .int a3)]) (st' := [.int (a3 + (1 : Int32)), .retAddr 30, .ref a1]) (M1 := M) (ob := []) (by decide +kernel) rfl sw_a0 ?_
                        show sw_W _ _ 463 [(0, .retAddr 30), (1, .ref a1), (2, .ref a2), (3, .int a3)] [.int (a3 + (1 : Int32)), .retAddr 30, .ref a1] M
                        refine sl_sld hX hs hb hB h62 (by decide +kernel) ?_
                        show sw_W _ _ 464 [(0, .retAddr 30), (1, .ref a1), (2, .ref a2), (3, .int a3)] [.int (xs (a3 + (1 : Int32)).toNatClampNeg), .ref a1] M
                        obtain ⟨h63, hf⟩ := sw_gd_1 hf
                        obtain ⟨u64, hu64, hf⟩ := sw_bnd hf
                        refine sl_callV hX (i := 50) (k2 := k_House_length) (d2 := d - 1) (As := [.int (xs (a3 + (1 : Int32)).toNatClampNeg)]) (st := []) (q := a1) (ci := 11) mf_House_length mi_House_length ms_House_length (sw_m4 27 (by decide +kernel)) rfl (by decide) (by decide +kernel) rfl (Nat.le_of_ble_eq_true rfl) (by omega) h63 (o_House_length g (d := d - 1) (by omega) hu64) ?_
                        show sw_W _ _ 467 [(0, .retAddr 30), (1, .ref a1), (2, .ref a2), (3, .int a3)] [.int u64.1] u64.2
                        refine sl_blk hX [(.aload_n 2, 0, 0, .null), (.aload_n 0, 0, 0, .null), (.iload_n 3, 0, 0, .null), (.iconst (1), 0, 0, .int (1 : Int32)), (.iadd, 0, 0, .null)] (lv' := [(0, .retAddr 30), (1, .ref a1), (2, .ref a2), (3, .int a3)]) (st' := [.int (a3 + (1 : Int32)), .retAddr 30, .ref a2, .int u64.1]) (M1 := u64.2) (ob := []) (by decide +kernel) rfl sw_a0 ?_
                        show sw_W _ _ 472 [(0, .retAddr 30), (1, .ref a1), (2, .ref a2), (3, .int a3)] [.int (a3 + (1 : Int32)), .retAddr 30, .ref a2, .int u64.1] u64.2
                        refine sl_sld hX hs hb hB h62 (by decide +kernel) ?_
                        show sw_W _ _ 473 [(0, .retAddr 30), (1, .ref a1), (2, .ref a2), (3, .int a3)] [.int (xs (a3 + (1 : Int32)).toNatClampNeg), .ref a2, .int u64.1] u64.2
                        obtain ⟨h65, hf⟩ := sw_gd_1 hf
                        obtain ⟨u66, hu66, hf⟩ := sw_bnd hf
                        refine sl_callV hX (i := 53) (k2 := k_Model_length) (d2 := d - 1) (As := [.int (xs (a3 + (1 : Int32)).toNatClampNeg)]) (st := [.int u64.1]) (q := a2) (ci := 12) mf_Model_length mi_Model_length ms_Model_length (sw_m7 170 (by decide +kernel)) rfl (by decide) (by decide +kernel) rfl (Nat.le_of_ble_eq_true rfl) (by omega) h65 (o_Model_length g (d := d - 1) (by omega) hu66) ?_
                        show sw_W _ _ 476 [(0, .retAddr 30), (1, .ref a1), (2, .ref a2), (3, .int a3)] [.int u66.1, .int u64.1] u66.2
                        refine sl_j_eq hX (off := 833) (tgt := 1309) (by decide +kernel) (by decide) hf (fun hc hf => ?_) (fun hc hf => ?_)
                        · exact sw_weak [0, 1, 2, 3] rfl (t_Law_law_1309 hd hX hs hb hB hend hr hz _ ih hf)
                        · exact sw_weak [] rfl (t_Law_law_479 hd hX hs hb hB hend hr hz hf)
                      ·
                        rcases sw_ite hf with ⟨h67, hf⟩ | ⟨h67, hf⟩
                        · refine sl_tin hX (a := ((xs a3.toNatClampNeg) &&& (31 : Int32))) (off := 448) (tgt := 481) (len := 131) (show decode (k_c k_Law_law) 33 = .ok (.tableswitch (1276) (0) (28) #[131, 194, 217, 240, 263, 316, 379, 402, 425, 448, 501, 535, 578, 611, 644, 687, 720, 763, 786, 839, 862, 885, 928, 997, 1020, 1053, 1176, 1190, 1253], 131) by decide +kernel) (by rw [h67]; decide) (by rw [h67]; decide) (by rw [h67]; decide +kernel) (by decide) ?_
                          obtain ⟨h68, hf⟩ := sw_gd_1 hf
                          refine sl_blk hX [(.aload_n 1, 0, 0, .null), (.aload_n 0, 0, 0, .null), (.iload_n 3, 0, 0, .null), (.iconst (1), 0, 0, .int (1 : Int32)), (.iadd, 0, 0, .null)] (lv' := [(0, .retAddr 30), (1, .ref a1), (2, .ref a2), (3, .int a3)]) (st' := [.int (a3 + (1 : Int32)), .retAddr 30, .ref a1]) (M1 := M) (ob := []) (by decide +kernel) rfl sw_a0 ?_
                          show sw_W _ _ 486 [(0, .retAddr 30), (1, .ref a1), (2, .ref a2), (3, .int a3)] [.int (a3 + (1 : Int32)), .retAddr 30, .ref a1] M
                          refine sl_sld hX hs hb hB h68 (by decide +kernel) ?_
                          show sw_W _ _ 487 [(0, .retAddr 30), (1, .ref a1), (2, .ref a2), (3, .int a3)] [.int (xs (a3 + (1 : Int32)).toNatClampNeg), .ref a1] M
                          obtain ⟨h69, hf⟩ := sw_gd_1 hf
                          refine sl_blk hX [(.aload_n 0, 0, 0, .null), (.iload_n 3, 0, 0, .null), (.iconst (2), 0, 0, .int (2 : Int32)), (.iadd, 0, 0, .null)] (lv' := [(0, .retAddr 30), (1, .ref a1), (2, .ref a2), (3, .int a3)]) (st' := [.int (a3 + (2 : Int32)), .retAddr 30, .int (xs (a3 + (1 : Int32)).toNatClampNeg), .ref a1]) (M1 := M) (ob := []) (by decide +kernel) rfl sw_a0 ?_
                          show sw_W _ _ 491 [(0, .retAddr 30), (1, .ref a1), (2, .ref a2), (3, .int a3)] [.int (a3 + (2 : Int32)), .retAddr 30, .int (xs (a3 + (1 : Int32)).toNatClampNeg), .ref a1] M
                          refine sl_sld hX hs hb hB h69 (by decide +kernel) ?_
                          show sw_W _ _ 492 [(0, .retAddr 30), (1, .ref a1), (2, .ref a2), (3, .int a3)] [.int (xs (a3 + (2 : Int32)).toNatClampNeg), .int (xs (a3 + (1 : Int32)).toNatClampNeg), .ref a1] M
                          obtain ⟨h70, hf⟩ := sw_gd_1 hf
                          refine sl_blk hX [(.aload_n 0, 0, 0, .null), (.iload_n 3, 0, 0, .null), (.iconst (3), 0, 0, .int (3 : Int32)), (.iadd, 0, 0, .null)] (lv' := [(0, .retAddr 30), (1, .ref a1), (2, .ref a2), (3, .int a3)]) (st' := [.int (a3 + (3 : Int32)), .retAddr 30, .int (xs (a3 + (2 : Int32)).toNatClampNeg), .int (xs (a3 + (1 : Int32)).toNatClampNeg), .ref a1]) (M1 := M) (ob := []) (by decide +kernel) rfl sw_a0 ?_
                          show sw_W _ _ 496 [(0, .retAddr 30), (1, .ref a1), (2, .ref a2), (3, .int a3)] [.int (a3 + (3 : Int32)), .retAddr 30, .int (xs (a3 + (2 : Int32)).toNatClampNeg), .int (xs (a3 + (1 : Int32)).toNatClampNeg), .ref a1] M
                          refine sl_sld hX hs hb hB h70 (by decide +kernel) ?_
                          show sw_W _ _ 497 [(0, .retAddr 30), (1, .ref a1), (2, .ref a2), (3, .int a3)] [.int (xs (a3 + (3 : Int32)).toNatClampNeg), .int (xs (a3 + (2 : Int32)).toNatClampNeg), .int (xs (a3 + (1 : Int32)).toNatClampNeg), .ref a1] M
                          obtain ⟨h71, hf⟩ := sw_gd_1 hf
                          refine sl_blk hX [(.aload_n 0, 0, 0, .null), (.iload_n 3, 0, 0, .null), (.iconst (4), 0, 0, .int (4 : Int32)), (.iadd, 0, 0, .null)] (lv' := [(0, .retAddr 30), (1, .ref a1), (2, .ref a2), (3, .int a3)]) (st' := [.int (a3 + (4 : Int32)), .retAddr 30, .int (xs (a3 + (3 : Int32)).toNatClampNeg), .int (xs (a3 + (2 : Int32)).toNatClampNeg), .int (xs (a3 + (1 : Int32)).toNatClampNeg), .ref a1]) (M1 := M) (ob := []) (by decide +kernel) rfl sw_a0 ?_
                          show sw_W _ _ 501 [(0, .retAddr 30), (1, .ref a1), (2, .ref a2), (3, .int a3)] [.int (a3 + (4 : Int32)), .retAddr 30, .int (xs (a3 + (3 : Int32)).toNatClampNeg), .int (xs (a3 + (2 : Int32)).toNatClampNeg), .int (xs (a3 + (1 : Int32)).toNatClampNeg), .ref a1] M
                          refine sl_sld hX hs hb hB h71 (by decide +kernel) ?_
                          show sw_W _ _ 502 [(0, .retAddr 30), (1, .ref a1), (2, .ref a2), (3, .int a3)] [.int (xs (a3 + (4 : Int32)).toNatClampNeg), .int (xs (a3 + (3 : Int32)).toNatClampNeg), .int (xs (a3 + (2 : Int32)).toNatClampNeg), .int (xs (a3 + (1 : Int32)).toNatClampNeg), .ref a1] M
                          obtain ⟨h72, hf⟩ := sw_gd_1 hf
                          obtain ⟨u73, hu73, hf⟩ := sw_bnd hf
                          refine sl_callV hX (i := 54) (k2 := k_House_orbit) (d2 := d - 1) (As := [.int (xs (a3 + (1 : Int32)).toNatClampNeg), .int (xs (a3 + (2 : Int32)).toNatClampNeg), .int (xs (a3 + (3 : Int32)).toNatClampNeg), .int (xs (a3 + (4 : Int32)).toNatClampNeg)]) (st := []) (q := a1) (ci := 11) mf_House_orbit mi_House_orbit ms_House_orbit (sw_m4 31 (by decide +kernel)) rfl (by decide) (by decide +kernel) rfl (Nat.le_of_ble_eq_true rfl) (by omega) h72 (o_House_orbit g (d := d - 1) (by omega) hu73) ?_
                          show sw_W _ _ 505 [(0, .retAddr 30), (1, .ref a1), (2, .ref a2), (3, .int a3)] [.int u73.1] u73.2
                          refine sl_blk hX [(.aload_n 2, 0, 0, .null), (.aload_n 0, 0, 0, .null), (.iload_n 3, 0, 0, .null), (.iconst (1), 0, 0, .int (1 : Int32)), (.iadd, 0, 0, .null)] (lv' := [(0, .retAddr 30), (1, .ref a1), (2, .ref a2), (3, .int a3)]) (st' := [.int (a3 + (1 : Int32)), .retAddr 30, .ref a2, .int u73.1]) (M1 := u73.2) (ob := []) (by decide +kernel) rfl sw_a0 ?_
                          show sw_W _ _ 510 [(0, .retAddr 30), (1, .ref a1), (2, .ref a2), (3, .int a3)] [.int (a3 + (1 : Int32)), .retAddr 30, .ref a2, .int u73.1] u73.2
                          refine sl_sld hX hs hb hB h68 (by decide +kernel) ?_
                          show sw_W _ _ 511 [(0, .retAddr 30), (1, .ref a1), (2, .ref a2), (3, .int a3)] [.int (xs (a3 + (1 : Int32)).toNatClampNeg), .ref a2, .int u73.1] u73.2
                          refine sl_blk hX [(.aload_n 0, 0, 0, .null), (.iload_n 3, 0, 0, .null), (.iconst (2), 0, 0, .int (2 : Int32)), (.iadd, 0, 0, .null)] (lv' := [(0, .retAddr 30), (1, .ref a1), (2, .ref a2), (3, .int a3)]) (st' := [.int (a3 + (2 : Int32)), .retAddr 30, .int (xs (a3 + (1 : Int32)).toNatClampNeg), .ref a2, .int u73.1]) (M1 := u73.2) (ob := []) (by decide +kernel) rfl sw_a0 ?_
                          show sw_W _ _ 515 [(0, .retAddr 30), (1, .ref a1), (2, .ref a2), (3, .int a3)] [.int (a3 + (2 : Int32)), .retAddr 30, .int (xs (a3 + (1 : Int32)).toNatClampNeg), .ref a2, .int u73.1] u73.2
                          refine sl_sld hX hs hb hB h69 (by decide +kernel) ?_
                          show sw_W _ _ 516 [(0, .retAddr 30), (1, .ref a1), (2, .ref a2), (3, .int a3)] [.int (xs (a3 + (2 : Int32)).toNatClampNeg), .int (xs (a3 + (1 : Int32)).toNatClampNeg), .ref a2, .int u73.1] u73.2
                          refine sl_blk hX [(.aload_n 0, 0, 0, .null), (.iload_n 3, 0, 0, .null), (.iconst (3), 0, 0, .int (3 : Int32)), (.iadd, 0, 0, .null)] (lv' := [(0, .retAddr 30), (1, .ref a1), (2, .ref a2), (3, .int a3)]) (st' := [.int (a3 + (3 : Int32)), .retAddr 30, .int (xs (a3 + (2 : Int32)).toNatClampNeg), .int (xs (a3 + (1 : Int32)).toNatClampNeg), .ref a2, .int u73.1]) (M1 := u73.2) (ob := []) (by decide +kernel) rfl sw_a0 ?_
                          show sw_W _ _ 520 [(0, .retAddr 30), (1, .ref a1), (2, .ref a2), (3, .int a3)] [.int (a3 + (3 : Int32)), .retAddr 30, .int (xs (a3 + (2 : Int32)).toNatClampNeg), .int (xs (a3 + (1 : Int32)).toNatClampNeg), .ref a2, .int u73.1] u73.2
                          refine sl_sld hX hs hb hB h70 (by decide +kernel) ?_
                          show sw_W _ _ 521 [(0, .retAddr 30), (1, .ref a1), (2, .ref a2), (3, .int a3)] [.int (xs (a3 + (3 : Int32)).toNatClampNeg), .int (xs (a3 + (2 : Int32)).toNatClampNeg), .int (xs (a3 + (1 : Int32)).toNatClampNeg), .ref a2, .int u73.1] u73.2
                          refine sl_blk hX [(.aload_n 0, 0, 0, .null), (.iload_n 3, 0, 0, .null), (.iconst (4), 0, 0, .int (4 : Int32)), (.iadd, 0, 0, .null)] (lv' := [(0, .retAddr 30), (1, .ref a1), (2, .ref a2), (3, .int a3)]) (st' := [.int (a3 + (4 : Int32)), .retAddr 30, .int (xs (a3 + (3 : Int32)).toNatClampNeg), .int (xs (a3 + (2 : Int32)).toNatClampNeg), .int (xs (a3 + (1 : Int32)).toNatClampNeg), .ref a2, .int u73.1]) (M1 := u73.2) (ob := []) (by decide +kernel) rfl sw_a0 ?_
                          show sw_W _ _ 525 [(0, .retAddr 30), (1, .ref a1), (2, .ref a2), (3, .int a3)] [.int (a3 + (4 : Int32)), .retAddr 30, .int (xs (a3 + (3 : Int32)).toNatClampNeg), .int (xs (a3 + (2 : Int32)).toNatClampNeg), .int (xs (a3 + (1 : Int32)).toNatClampNeg), .ref a2, .int u73.1] u73.2
                          refine sl_sld hX hs hb hB h71 (by decide +kernel) ?_
                          show sw_W _ _ 526 [(0, .retAddr 30), (1, .ref a1), (2, .ref a2), (3, .int a3)] [.int (xs (a3 + (4 : Int32)).toNatClampNeg), .int (xs (a3 + (3 : Int32)).toNatClampNeg), .int (xs (a3 + (2 : Int32)).toNatClampNeg), .int (xs (a3 + (1 : Int32)).toNatClampNeg), .ref a2, .int u73.1] u73.2
                          obtain ⟨h74, hf⟩ := sw_gd_1 hf
                          obtain ⟨u75, hu75, hf⟩ := sw_bnd hf
                          refine sl_callV hX (i := 57) (k2 := k_Model_orbit) (d2 := d - 1) (As := [.int (xs (a3 + (1 : Int32)).toNatClampNeg), .int (xs (a3 + (2 : Int32)).toNatClampNeg), .int (xs (a3 + (3 : Int32)).toNatClampNeg), .int (xs (a3 + (4 : Int32)).toNatClampNeg)]) (st := [.int u73.1]) (q := a2) (ci := 12) mf_Model_orbit mi_Model_orbit ms_Model_orbit (sw_m7 174 (by decide +kernel)) rfl (by decide) (by decide +kernel) rfl (Nat.le_of_ble_eq_true rfl) (by omega) h74 (o_Model_orbit g (d := d - 1) (by omega) hu75) ?_
                          show sw_W _ _ 529 [(0, .retAddr 30), (1, .ref a1), (2, .ref a2), (3, .int a3)] [.int u75.1, .int u73.1] u75.2
                          refine sl_j_eq hX (off := 780) (tgt := 1309) (by decide +kernel) (by decide) hf (fun hc hf => ?_) (fun hc hf => ?_)
                          · exact sw_weak [0, 1, 2, 3] rfl (t_Law_law_1309 hd hX hs hb hB hend hr hz _ ih hf)
                          · exact sw_weak [] rfl (t_Law_law_532 hd hX hs hb hB hend hr hz hf)
                        ·
                          rcases sw_ite hf with ⟨h76, hf⟩ | ⟨h76, hf⟩
                          · refine sl_tin hX (a := ((xs a3.toNatClampNeg) &&& (31 : Int32))) (off := 501) (tgt := 534) (len := 131) (show decode (k_c k_Law_law) 33 = .ok (.tableswitch (1276) (0) (28) #[131, 194, 217, 240, 263, 316, 379, 402, 425, 448, 501, 535, 578, 611, 644, 687, 720, 763, 786, 839, 862, 885, 928, 997, 1020, 1053, 1176, 1190, 1253], 131) by decide +kernel) (by rw [h76]; decide) (by rw [h76]; decide) (by rw [h76]; decide +kernel) (by decide) ?_
                            obtain ⟨h77, hf⟩ := sw_gd_1 hf
                            refine sl_blk hX [(.aload_n 1, 0, 0, .null), (.aload_n 0, 0, 0, .null), (.iload_n 3, 0, 0, .null), (.iconst (1), 0, 0, .int (1 : Int32)), (.iadd, 0, 0, .null)] (lv' := [(0, .retAddr 30), (1, .ref a1), (2, .ref a2), (3, .int a3)]) (st' := [.int (a3 + (1 : Int32)), .retAddr 30, .ref a1]) (M1 := M) (ob := []) (by decide +kernel) rfl sw_a0 ?_
                            show sw_W _ _ 539 [(0, .retAddr 30), (1, .ref a1), (2, .ref a2), (3, .int a3)] [.int (a3 + (1 : Int32)), .retAddr 30, .ref a1] M
                            refine sl_sld hX hs hb hB h77 (by decide +kernel) ?_
                            show sw_W _ _ 540 [(0, .retAddr 30), (1, .ref a1), (2, .ref a2), (3, .int a3)] [.int (xs (a3 + (1 : Int32)).toNatClampNeg), .ref a1] M
                            obtain ⟨h78, hf⟩ := sw_gd_1 hf
                            refine sl_blk hX [(.aload_n 0, 0, 0, .null), (.iload_n 3, 0, 0, .null), (.iconst (2), 0, 0, .int (2 : Int32)), (.iadd, 0, 0, .null)] (lv' := [(0, .retAddr 30), (1, .ref a1), (2, .ref a2), (3, .int a3)]) (st' := [.int (a3 + (2 : Int32)), .retAddr 30, .int (xs (a3 + (1 : Int32)).toNatClampNeg), .ref a1]) (M1 := M) (ob := []) (by decide +kernel) rfl sw_a0 ?_
                            show sw_W _ _ 544 [(0, .retAddr 30), (1, .ref a1), (2, .ref a2), (3, .int a3)] [.int (a3 + (2 : Int32)), .retAddr 30, .int (xs (a3 + (1 : Int32)).toNatClampNeg), .ref a1] M
                            refine sl_sld hX hs hb hB h78 (by decide +kernel) ?_
                            show sw_W _ _ 545 [(0, .retAddr 30), (1, .ref a1), (2, .ref a2), (3, .int a3)] [.int (xs (a3 + (2 : Int32)).toNatClampNeg), .int (xs (a3 + (1 : Int32)).toNatClampNeg), .ref a1] M
                            obtain ⟨h79, hf⟩ := sw_gd_1 hf
                            obtain ⟨u80, hu80, hf⟩ := sw_bnd hf
                            refine sl_callV hX (i := 58) (k2 := k_House_told) (d2 := d - 1) (As := [.int (xs (a3 + (1 : Int32)).toNatClampNeg), .int (xs (a3 + (2 : Int32)).toNatClampNeg)]) (st := []) (q := a1) (ci := 11) mf_House_told mi_House_told ms_House_told (sw_m4 120 (by decide +kernel)) rfl (by decide) (by decide +kernel) rfl (Nat.le_of_ble_eq_true rfl) (by omega) h79 (o_House_told g (d := d - 1) (by omega) hu80) ?_
                            show sw_W _ _ 548 [(0, .retAddr 30), (1, .ref a1), (2, .ref a2), (3, .int a3)] [.long u80.1] u80.2
                            refine sl_blk hX [(.aload_n 2, 0, 0, .null), (.aload_n 0, 0, 0, .null), (.iload_n 3, 0, 0, .null), (.iconst (1), 0, 0, .int (1 : Int32)), (.iadd, 0, 0, .null)] (lv' := [(0, .retAddr 30), (1, .ref a1), (2, .ref a2), (3, .int a3)]) (st' := [.int (a3 + (1 : Int32)), .retAddr 30, .ref a2, .long u80.1]) (M1 := u80.2) (ob := []) (by decide +kernel) rfl sw_a0 ?_
                            show sw_W _ _ 553 [(0, .retAddr 30), (1, .ref a1), (2, .ref a2), (3, .int a3)] [.int (a3 + (1 : Int32)), .retAddr 30, .ref a2, .long u80.1] u80.2
                            refine sl_sld hX hs hb hB h77 (by decide +kernel) ?_
                            show sw_W _ _ 554 [(0, .retAddr 30), (1, .ref a1), (2, .ref a2), (3, .int a3)] [.int (xs (a3 + (1 : Int32)).toNatClampNeg), .ref a2, .long u80.1] u80.2
                            refine sl_blk hX [(.aload_n 0, 0, 0, .null), (.iload_n 3, 0, 0, .null), (.iconst (2), 0, 0, .int (2 : Int32)), (.iadd, 0, 0, .null)] (lv' := [(0, .retAddr 30), (1, .ref a1), (2, .ref a2), (3, .int a3)]) (st' := [.int (a3 + (2 : Int32)), .retAddr 30, .int (xs (a3 + (1 : Int32)).toNatClampNeg), .ref a2, .long u80.1]) (M1 := u80.2) (ob := []) (by decide +kernel) rfl sw_a0 ?_
                            show sw_W _ _ 558 [(0, .retAddr 30), (1, .ref a1), (2, .ref a2), (3, .int a3)] [.int (a3 + (2 : Int32)), .retAddr 30, .int (xs (a3 + (1 : Int32)).toNatClampNeg), .ref a2, .long u80.1] u80.2
                            refine sl_sld hX hs hb hB h78 (by decide +kernel) ?_
                            show sw_W _ _ 559 [(0, .retAddr 30), (1, .ref a1), (2, .ref a2), (3, .int a3)] [.int (xs (a3 + (2 : Int32)).toNatClampNeg), .int (xs (a3 + (1 : Int32)).toNatClampNeg), .ref a2, .long u80.1] u80.2
                            obtain ⟨h81, hf⟩ := sw_gd_1 hf
                            obtain ⟨u82, hu82, hf⟩ := sw_bnd hf
                            refine sl_callV hX (i := 62) (k2 := k_Model_told) (d2 := d - 1) (As := [.int (xs (a3 + (1 : Int32)).toNatClampNeg), .int (xs (a3 + (2 : Int32)).toNatClampNeg)]) (st := [.long u80.1]) (q := a2) (ci := 12) mf_Model_told mi_Model_told ms_Model_told (sw_m7 178 (by decide +kernel)) rfl (by decide) (by decide +kernel) rfl (Nat.le_of_ble_eq_true rfl) (by omega) h81 (o_Model_told g (d := d - 1) (by omega) hu82) ?_
                            show sw_W _ _ 562 [(0, .retAddr 30), (1, .ref a1), (2, .ref a2), (3, .int a3)] [.long u82.1, .long u80.1] u82.2
                            refine sl_blk hX [(.lcmp, 0, 0, .null)] (lv' := [(0, .retAddr 30), (1, .ref a1), (2, .ref a2), (3, .int a3)]) (st' := [.int (lg_cmp u80.1 u82.1)]) (M1 := u82.2) (ob := []) (by decide +kernel) rfl sw_a0 ?_
                            show sw_W _ _ 563 [(0, .retAddr 30), (1, .ref a1), (2, .ref a2), (3, .int a3)] [.int (lg_cmp u80.1 u82.1)] u82.2
                            refine sl_l_eq hX (off := 746) (tgt := 1309) (by decide +kernel) (by decide) hf (fun hc hf => ?_) (fun hc hf => ?_)
                            · exact sw_weak [0, 1, 2, 3] rfl (t_Law_law_1309 hd hX hs hb hB hend hr hz _ ih hf)
                            · refine sl_blk hX [(.iconst (0), 0, 0, .int (0 : Int32))] (lv' := [(0, .retAddr 30), (1, .ref a1), (2, .ref a2), (3, .int a3)]) (st' := [.int (0 : Int32)]) (M1 := u82.2) (ob := []) (by decide +kernel) rfl sw_a0 ?_
                              show sw_W _ _ 567 [(0, .retAddr 30), (1, .ref a1), (2, .ref a2), (3, .int a3)] [.int (0 : Int32)] u82.2
                              cases hf
                              exact absurd (show (0 : Int32) = 1 from hr) (by decide)
                          ·
                            rcases sw_ite hf with ⟨h83, hf⟩ | ⟨h83, hf⟩
                            · refine sl_tin hX (a := ((xs a3.toNatClampNeg) &&& (31 : Int32))) (off := 535) (tgt := 568) (len := 131) (show decode (k_c k_Law_law) 33 = .ok (.tableswitch (1276) (0) (28) #[131, 194, 217, 240, 263, 316, 379, 402, 425, 448, 501, 535, 578, 611, 644, 687, 720, 763, 786, 839, 862, 885, 928, 997, 1020, 1053, 1176, 1190, 1253], 131) by decide +kernel) (by rw [h83]; decide) (by rw [h83]; decide) (by rw [h83]; decide +kernel) (by decide) ?_
                              obtain ⟨h84, hf⟩ := sw_gd_1 hf
                              refine sl_blk hX [(.aload_n 1, 0, 0, .null), (.aload_n 0, 0, 0, .null), (.iload_n 3, 0, 0, .null), (.iconst (1), 0, 0, .int (1 : Int32)), (.iadd, 0, 0, .null)] (lv' := [(0, .retAddr 30), (1, .ref a1), (2, .ref a2), (3, .int a3)]) (st' := [.int (a3 + (1 : Int32)), .retAddr 30, .ref a1]) (M1 := M) (ob := []) (by decide +kernel) rfl sw_a0 ?_
                              show sw_W _ _ 573 [(0, .retAddr 30), (1, .ref a1), (2, .ref a2), (3, .int a3)] [.int (a3 + (1 : Int32)), .retAddr 30, .ref a1] M
                              refine sl_sld hX hs hb hB h84 (by decide +kernel) ?_
                              show sw_W _ _ 574 [(0, .retAddr 30), (1, .ref a1), (2, .ref a2), (3, .int a3)] [.int (xs (a3 + (1 : Int32)).toNatClampNeg), .ref a1] M
                              obtain ⟨h85, hf⟩ := sw_gd_1 hf
                              refine sl_blk hX [(.aload_n 0, 0, 0, .null), (.iload_n 3, 0, 0, .null), (.iconst (2), 0, 0, .int (2 : Int32)), (.iadd, 0, 0, .null)] (lv' := [(0, .retAddr 30), (1, .ref a1), (2, .ref a2), (3, .int a3)]) (st' := [.int (a3 + (2 : Int32)), .retAddr 30, .int (xs (a3 + (1 : Int32)).toNatClampNeg), .ref a1]) (M1 := M) (ob := []) (by decide +kernel) rfl sw_a0 ?_
                              show sw_W _ _ 578 [(0, .retAddr 30), (1, .ref a1), (2, .ref a2), (3, .int a3)] [.int (a3 + (2 : Int32)), .retAddr 30, .int (xs (a3 + (1 : Int32)).toNatClampNeg), .ref a1] M
                              refine sl_sld hX hs hb hB h85 (by decide +kernel) ?_
                              show sw_W _ _ 579 [(0, .retAddr 30), (1, .ref a1), (2, .ref a2), (3, .int a3)] [.int (xs (a3 + (2 : Int32)).toNatClampNeg), .int (xs (a3 + (1 : Int32)).toNatClampNeg), .ref a1] M
                              obtain ⟨h86, hf⟩ := sw_gd_1 hf
                              refine sl_blk hX [(.aload_n 0, 0, 0, .null), (.iload_n 3, 0, 0, .null), (.iconst (3), 0, 0, .int (3 : Int32)), (.iadd, 0, 0, .null)] (lv' := [(0, .retAddr 30), (1, .ref a1), (2, .ref a2), (3, .int a3)]) (st' := [.int (a3 + (3 : Int32)), .retAddr 30, .int (xs (a3 + (2 : Int32)).toNatClampNeg), .int (xs (a3 + (1 : Int32)).toNatClampNeg), .ref a1]) (M1 := M) (ob := []) (by decide +kernel) rfl sw_a0 ?_
                              show sw_W _ _ 583 [(0, .retAddr 30), (1, .ref a1), (2, .ref a2), (3, .int a3)] [.int (a3 + (3 : Int32)), .retAddr 30, .int (xs (a3 + (2 : Int32)).toNatClampNeg), .int (xs (a3 + (1 : Int32)).toNatClampNeg), .ref a1] M
                              refine sl_sld hX hs hb hB h86 (by decide +kernel) ?_
                              show sw_W _ _ 584 [(0, .retAddr 30), (1, .ref a1), (2, .ref a2), (3, .int a3)] [.int (xs (a3 + (3 : Int32)).toNatClampNeg), .int (xs (a3 + (2 : Int32)).toNatClampNeg), .int (xs (a3 + (1 : Int32)).toNatClampNeg), .ref a1] M
                              obtain ⟨h87, hf⟩ := sw_gd_1 hf
                              obtain ⟨u88, hu88, hf⟩ := sw_bnd hf
                              refine sl_callV hX (i := 63) (k2 := k_House_at) (d2 := d - 1) (As := [.int (xs (a3 + (1 : Int32)).toNatClampNeg), .int (xs (a3 + (2 : Int32)).toNatClampNeg), .int (xs (a3 + (3 : Int32)).toNatClampNeg)]) (st := []) (q := a1) (ci := 11) mf_House_at mi_House_at ms_House_at (sw_m4 213 (by decide +kernel)) rfl (by decide) (by decide +kernel) rfl (Nat.le_of_ble_eq_true rfl) (by omega) h87 (o_House_at g (d := d - 1) (by omega) hu88) ?_
                              show sw_W _ _ 587 [(0, .retAddr 30), (1, .ref a1), (2, .ref a2), (3, .int a3)] [.int u88.1] u88.2
                              refine sl_blk hX [(.aload_n 2, 0, 0, .null), (.aload_n 0, 0, 0, .null), (.iload_n 3, 0, 0, .null), (.iconst (1), 0, 0, .int (1 : Int32)), (.iadd, 0, 0, .null)] (lv' := [(0, .retAddr 30), (1, .ref a1), (2, .ref a2), (3, .int a3)]) (st' := [.int (a3 + (1 : Int32)), .retAddr 30, .ref a2, .int u88.1]) (M1 := u88.2) (ob := []) (by decide +kernel) rfl sw_a0 ?_
                              show sw_W _ _ 592 [(0, .retAddr 30), (1, .ref a1), (2, .ref a2), (3, .int a3)] [.int (a3 + (1 : Int32)), .retAddr 30, .ref a2, .int u88.1] u88.2
                              refine sl_sld hX hs hb hB h84 (by decide +kernel) ?_
                              show sw_W _ _ 593 [(0, .retAddr 30), (1, .ref a1), (2, .ref a2), (3, .int a3)] [.int (xs (a3 + (1 : Int32)).toNatClampNeg), .ref a2, .int u88.1] u88.2
                              refine sl_blk hX [(.aload_n 0, 0, 0, .null), (.iload_n 3, 0, 0, .null), (.iconst (2), 0, 0, .int (2 : Int32)), (.iadd, 0, 0, .null)] (lv' := [(0, .retAddr 30), (1, .ref a1), (2, .ref a2), (3, .int a3)]) (st' := [.int (a3 + (2 : Int32)), .retAddr 30, .int (xs (a3 + (1 : Int32)).toNatClampNeg), .ref a2, .int u88.1]) (M1 := u88.2) (ob := []) (by decide +kernel) rfl sw_a0 ?_
                              show sw_W _ _ 597 [(0, .retAddr 30), (1, .ref a1), (2, .ref a2), (3, .int a3)] [.int (a3 + (2 : Int32)), .retAddr 30, .int (xs (a3 + (1 : Int32)).toNatClampNeg), .ref a2, .int u88.1] u88.2
                              refine sl_sld hX hs hb hB h85 (by decide +kernel) ?_
                              show sw_W _ _ 598 [(0, .retAddr 30), (1, .ref a1), (2, .ref a2), (3, .int a3)] [.int (xs (a3 + (2 : Int32)).toNatClampNeg), .int (xs (a3 + (1 : Int32)).toNatClampNeg), .ref a2, .int u88.1] u88.2
                              refine sl_blk hX [(.aload_n 0, 0, 0, .null), (.iload_n 3, 0, 0, .null), (.iconst (3), 0, 0, .int (3 : Int32)), (.iadd, 0, 0, .null)] (lv' := [(0, .retAddr 30), (1, .ref a1), (2, .ref a2), (3, .int a3)]) (st' := [.int (a3 + (3 : Int32)), .retAddr 30, .int (xs (a3 + (2 : Int32)).toNatClampNeg), .int (xs (a3 + (1 : Int32)).toNatClampNeg), .ref a2, .int u88.1]) (M1 := u88.2) (ob := []) (by decide +kernel) rfl sw_a0 ?_
                              show sw_W _ _ 602 [(0, .retAddr 30), (1, .ref a1), (2, .ref a2), (3, .int a3)] [.int (a3 + (3 : Int32)), .retAddr 30, .int (xs (a3 + (2 : Int32)).toNatClampNeg), .int (xs (a3 + (1 : Int32)).toNatClampNeg), .ref a2, .int u88.1] u88.2
                              refine sl_sld hX hs hb hB h86 (by decide +kernel) ?_
                              show sw_W _ _ 603 [(0, .retAddr 30), (1, .ref a1), (2, .ref a2), (3, .int a3)] [.int (xs (a3 + (3 : Int32)).toNatClampNeg), .int (xs (a3 + (2 : Int32)).toNatClampNeg), .int (xs (a3 + (1 : Int32)).toNatClampNeg), .ref a2, .int u88.1] u88.2
                              obtain ⟨h89, hf⟩ := sw_gd_1 hf
                              obtain ⟨u90, hu90, hf⟩ := sw_bnd hf
                              refine sl_callV hX (i := 67) (k2 := k_Model_at) (d2 := d - 1) (As := [.int (xs (a3 + (1 : Int32)).toNatClampNeg), .int (xs (a3 + (2 : Int32)).toNatClampNeg), .int (xs (a3 + (3 : Int32)).toNatClampNeg)]) (st := [.int u88.1]) (q := a2) (ci := 12) mf_Model_at mi_Model_at ms_Model_at (sw_m7 227 (by decide +kernel)) rfl (by decide) (by decide +kernel) rfl (Nat.le_of_ble_eq_true rfl) (by omega) h89 (o_Model_at g (d := d - 1) (by omega) hu90) ?_
                              show sw_W _ _ 606 [(0, .retAddr 30), (1, .ref a1), (2, .ref a2), (3, .int a3)] [.int u90.1, .int u88.1] u90.2
                              refine sl_j_eq hX (off := 703) (tgt := 1309) (by decide +kernel) (by decide) hf (fun hc hf => ?_) (fun hc hf => ?_)
                              · exact sw_weak [0, 1, 2, 3] rfl (t_Law_law_1309 hd hX hs hb hB hend hr hz _ ih hf)
                              · exact sw_weak [] rfl (t_Law_law_609 hd hX hs hb hB hend hr hz hf)
                            ·
                              rcases sw_ite hf with ⟨h91, hf⟩ | ⟨h91, hf⟩
                              · refine sl_tin hX (a := ((xs a3.toNatClampNeg) &&& (31 : Int32))) (off := 578) (tgt := 611) (len := 131) (show decode (k_c k_Law_law) 33 = .ok (.tableswitch (1276) (0) (28) #[131, 194, 217, 240, 263, 316, 379, 402, 425, 448, 501, 535, 578, 611, 644, 687, 720, 763, 786, 839, 862, 885, 928, 997, 1020, 1053, 1176, 1190, 1253], 131) by decide +kernel) (by rw [h91]; decide) (by rw [h91]; decide) (by rw [h91]; decide +kernel) (by decide) ?_
                                obtain ⟨h92, hf⟩ := sw_gd_1 hf
                                refine sl_blk hX [(.aload_n 1, 0, 0, .null), (.aload_n 0, 0, 0, .null), (.iload_n 3, 0, 0, .null), (.iconst (1), 0, 0, .int (1 : Int32)), (.iadd, 0, 0, .null)] (lv' := [(0, .retAddr 30), (1, .ref a1), (2, .ref a2), (3, .int a3)]) (st' := [.int (a3 + (1 : Int32)), .retAddr 30, .ref a1]) (M1 := M) (ob := []) (by decide +kernel) rfl sw_a0 ?_
                                show sw_W _ _ 616 [(0, .retAddr 30), (1, .ref a1), (2, .ref a2), (3, .int a3)] [.int (a3 + (1 : Int32)), .retAddr 30, .ref a1] M
                                refine sl_sld hX hs hb hB h92 (by decide +kernel) ?_
                                show sw_W _ _ 617 [(0, .retAddr 30), (1, .ref a1), (2, .ref a2), (3, .int a3)] [.int (xs (a3 + (1 : Int32)).toNatClampNeg), .ref a1] M
                                obtain ⟨h93, hf⟩ := sw_gd_1 hf
                                refine sl_blk hX [(.aload_n 0, 0, 0, .null), (.iload_n 3, 0, 0, .null), (.iconst (2), 0, 0, .int (2 : Int32)), (.iadd, 0, 0, .null)] (lv' := [(0, .retAddr 30), (1, .ref a1), (2, .ref a2), (3, .int a3)]) (st' := [.int (a3 + (2 : Int32)), .retAddr 30, .int (xs (a3 + (1 : Int32)).toNatClampNeg), .ref a1]) (M1 := M) (ob := []) (by decide +kernel) rfl sw_a0 ?_
                                show sw_W _ _ 621 [(0, .retAddr 30), (1, .ref a1), (2, .ref a2), (3, .int a3)] [.int (a3 + (2 : Int32)), .retAddr 30, .int (xs (a3 + (1 : Int32)).toNatClampNeg), .ref a1] M
                                refine sl_sld hX hs hb hB h93 (by decide +kernel) ?_
                                show sw_W _ _ 622 [(0, .retAddr 30), (1, .ref a1), (2, .ref a2), (3, .int a3)] [.int (xs (a3 + (2 : Int32)).toNatClampNeg), .int (xs (a3 + (1 : Int32)).toNatClampNeg), .ref a1] M
                                obtain ⟨h94, hf⟩ := sw_gd_1 hf
                                obtain ⟨u95, hu95, hf⟩ := sw_bnd hf
                                refine sl_callV hX (i := 68) (k2 := k_House_back) (d2 := d - 1) (As := [.int (xs (a3 + (1 : Int32)).toNatClampNeg), .int (xs (a3 + (2 : Int32)).toNatClampNeg)]) (st := []) (q := a1) (ci := 11) mf_House_back mi_House_back ms_House_back (sw_m4 217 (by decide +kernel)) rfl (by decide) (by decide +kernel) rfl (Nat.le_of_ble_eq_true rfl) (by omega) h94 (o_House_back g (d := d - 1) (by omega) hu95) ?_
                                show sw_W _ _ 625 [(0, .retAddr 30), (1, .ref a1), (2, .ref a2), (3, .int a3)] [.int u95.1] u95.2
                                refine sl_blk hX [(.aload_n 2, 0, 0, .null), (.aload_n 0, 0, 0, .null), (.iload_n 3, 0, 0, .null), (.iconst (1), 0, 0, .int (1 : Int32)), (.iadd, 0, 0, .null)] (lv' := [(0, .retAddr 30), (1, .ref a1), (2, .ref a2), (3, .int a3)]) (st' := [.int (a3 + (1 : Int32)), .retAddr 30, .ref a2, .int u95.1]) (M1 := u95.2) (ob := []) (by decide +kernel) rfl sw_a0 ?_
                                show sw_W _ _ 630 [(0, .retAddr 30), (1, .ref a1), (2, .ref a2), (3, .int a3)] [.int (a3 + (1 : Int32)), .retAddr 30, .ref a2, .int u95.1] u95.2
                                refine sl_sld hX hs hb hB h92 (by decide +kernel) ?_
                                show sw_W _ _ 631 [(0, .retAddr 30), (1, .ref a1), (2, .ref a2), (3, .int a3)] [.int (xs (a3 + (1 : Int32)).toNatClampNeg), .ref a2, .int u95.1] u95.2
                                refine sl_blk hX [(.aload_n 0, 0, 0, .null), (.iload_n 3, 0, 0, .null), (.iconst (2), 0, 0, .int (2 : Int32)), (.iadd, 0, 0, .null)] (lv' := [(0, .retAddr 30), (1, .ref a1), (2, .ref a2), (3, .int a3)]) (st' := [.int (a3 + (2 : Int32)), .retAddr 30, .int (xs (a3 + (1 : Int32)).toNatClampNeg), .ref a2, .int u95.1]) (M1 := u95.2) (ob := []) (by decide +kernel) rfl sw_a0 ?_
                                show sw_W _ _ 635 [(0, .retAddr 30), (1, .ref a1), (2, .ref a2), (3, .int a3)] [.int (a3 + (2 : Int32)), .retAddr 30, .int (xs (a3 + (1 : Int32)).toNatClampNeg), .ref a2, .int u95.1] u95.2
                                refine sl_sld hX hs hb hB h93 (by decide +kernel) ?_
                                show sw_W _ _ 636 [(0, .retAddr 30), (1, .ref a1), (2, .ref a2), (3, .int a3)] [.int (xs (a3 + (2 : Int32)).toNatClampNeg), .int (xs (a3 + (1 : Int32)).toNatClampNeg), .ref a2, .int u95.1] u95.2
                                obtain ⟨h96, hf⟩ := sw_gd_1 hf
                                obtain ⟨u97, hu97, hf⟩ := sw_bnd hf
                                refine sl_callV hX (i := 72) (k2 := k_Model_back) (d2 := d - 1) (As := [.int (xs (a3 + (1 : Int32)).toNatClampNeg), .int (xs (a3 + (2 : Int32)).toNatClampNeg)]) (st := [.int u95.1]) (q := a2) (ci := 12) mf_Model_back mi_Model_back ms_Model_back (sw_m7 231 (by decide +kernel)) rfl (by decide) (by decide +kernel) rfl (Nat.le_of_ble_eq_true rfl) (by omega) h96 (o_Model_back g (d := d - 1) (by omega) hu97) ?_
                                show sw_W _ _ 639 [(0, .retAddr 30), (1, .ref a1), (2, .ref a2), (3, .int a3)] [.int u97.1, .int u95.1] u97.2
                                refine sl_j_eq hX (off := 670) (tgt := 1309) (by decide +kernel) (by decide) hf (fun hc hf => ?_) (fun hc hf => ?_)
                                · exact sw_weak [0, 1, 2, 3] rfl (t_Law_law_1309 hd hX hs hb hB hend hr hz _ ih hf)
                                · refine sl_blk hX [(.iconst (0), 0, 0, .int (0 : Int32))] (lv' := [(0, .retAddr 30), (1, .ref a1), (2, .ref a2), (3, .int a3)]) (st' := [.int (0 : Int32)]) (M1 := u97.2) (ob := []) (by decide +kernel) rfl sw_a0 ?_
                                  show sw_W _ _ 643 [(0, .retAddr 30), (1, .ref a1), (2, .ref a2), (3, .int a3)] [.int (0 : Int32)] u97.2
                                  cases hf
                                  exact absurd (show (0 : Int32) = 1 from hr) (by decide)
                              ·
                                rcases sw_ite hf with ⟨h98, hf⟩ | ⟨h98, hf⟩
                                · refine sl_tin hX (a := ((xs a3.toNatClampNeg) &&& (31 : Int32))) (off := 611) (tgt := 644) (len := 131) (show decode (k_c k_Law_law) 33 = .ok (.tableswitch (1276) (0) (28) #[131, 194, 217, 240, 263, 316, 379, 402, 425, 448, 501, 535, 578, 611, 644, 687, 720, 763, 786, 839, 862, 885, 928, 997, 1020, 1053, 1176, 1190, 1253], 131) by decide +kernel) (by rw [h98]; decide) (by rw [h98]; decide) (by rw [h98]; decide +kernel) (by decide) ?_
                                  obtain ⟨h99, hf⟩ := sw_gd_1 hf
                                  refine sl_blk hX [(.aload_n 1, 0, 0, .null), (.aload_n 0, 0, 0, .null), (.iload_n 3, 0, 0, .null), (.iconst (1), 0, 0, .int (1 : Int32)), (.iadd, 0, 0, .null)] (lv' := [(0, .retAddr 30), (1, .ref a1), (2, .ref a2), (3, .int a3)]) (st' := [.int (a3 + (1 : Int32)), .retAddr 30, .ref a1]) (M1 := M) (ob := []) (by decide +kernel) rfl sw_a0 ?_
                                  show sw_W _ _ 649 [(0, .retAddr 30), (1, .ref a1), (2, .ref a2), (3, .int a3)] [.int (a3 + (1 : Int32)), .retAddr 30, .ref a1] M
                                  refine sl_sld hX hs hb hB h99 (by decide +kernel) ?_
                                  show sw_W _ _ 650 [(0, .retAddr 30), (1, .ref a1), (2, .ref a2), (3, .int a3)] [.int (xs (a3 + (1 : Int32)).toNatClampNeg), .ref a1] M
                                  obtain ⟨h100, hf⟩ := sw_gd_1 hf
                                  refine sl_blk hX [(.aload_n 0, 0, 0, .null), (.iload_n 3, 0, 0, .null), (.iconst (2), 0, 0, .int (2 : Int32)), (.iadd, 0, 0, .null)] (lv' := [(0, .retAddr 30), (1, .ref a1), (2, .ref a2), (3, .int a3)]) (st' := [.int (a3 + (2 : Int32)), .retAddr 30, .int (xs (a3 + (1 : Int32)).toNatClampNeg), .ref a1]) (M1 := M) (ob := []) (by decide +kernel) rfl sw_a0 ?_
                                  show sw_W _ _ 654 [(0, .retAddr 30), (1, .ref a1), (2, .ref a2), (3, .int a3)] [.int (a3 + (2 : Int32)), .retAddr 30, .int (xs (a3 + (1 : Int32)).toNatClampNeg), .ref a1] M
                                  refine sl_sld hX hs hb hB h100 (by decide +kernel) ?_
                                  show sw_W _ _ 655 [(0, .retAddr 30), (1, .ref a1), (2, .ref a2), (3, .int a3)] [.int (xs (a3 + (2 : Int32)).toNatClampNeg), .int (xs (a3 + (1 : Int32)).toNatClampNeg), .ref a1] M
                                  obtain ⟨h101, hf⟩ := sw_gd_1 hf
                                  obtain ⟨u102, hu102, hf⟩ := sw_bnd hf
                                  refine sl_callV hX (i := 73) (k2 := k_House_alike) (d2 := d - 1) (As := [.int (xs (a3 + (1 : Int32)).toNatClampNeg), .int (xs (a3 + (2 : Int32)).toNatClampNeg)]) (st := []) (q := a1) (ci := 11) mf_House_alike mi_House_alike ms_House_alike (sw_m4 221 (by decide +kernel)) rfl (by decide) (by decide +kernel) rfl (Nat.le_of_ble_eq_true rfl) (by omega) h101 (o_House_alike g (d := d - 1) (by omega) hu102) ?_
                                  show sw_W _ _ 658 [(0, .retAddr 30), (1, .ref a1), (2, .ref a2), (3, .int a3)] [.int u102.1] u102.2
                                  refine sl_blk hX [(.aload_n 2, 0, 0, .null), (.aload_n 0, 0, 0, .null), (.iload_n 3, 0, 0, .null), (.iconst (1), 0, 0, .int (1 : Int32)), (.iadd, 0, 0, .null)] (lv' := [(0, .retAddr 30), (1, .ref a1), (2, .ref a2), (3, .int a3)]) (st' := [.int (a3 + (1 : Int32)), .retAddr 30, .ref a2, .int u102.1]) (M1 := u102.2) (ob := []) (by decide +kernel) rfl sw_a0 ?_
                                  show sw_W _ _ 663 [(0, .retAddr 30), (1, .ref a1), (2, .ref a2), (3, .int a3)] [.int (a3 + (1 : Int32)), .retAddr 30, .ref a2, .int u102.1] u102.2
                                  refine sl_sld hX hs hb hB h99 (by decide +kernel) ?_
                                  show sw_W _ _ 664 [(0, .retAddr 30), (1, .ref a1), (2, .ref a2), (3, .int a3)] [.int (xs (a3 + (1 : Int32)).toNatClampNeg), .ref a2, .int u102.1] u102.2
                                  refine sl_blk hX [(.aload_n 0, 0, 0, .null), (.iload_n 3, 0, 0, .null), (.iconst (2), 0, 0, .int (2 : Int32)), (.iadd, 0, 0, .null)] (lv' := [(0, .retAddr 30), (1, .ref a1), (2, .ref a2), (3, .int a3)]) (st' := [.int (a3 + (2 : Int32)), .retAddr 30, .int (xs (a3 + (1 : Int32)).toNatClampNeg), .ref a2, .int u102.1]) (M1 := u102.2) (ob := []) (by decide +kernel) rfl sw_a0 ?_
                                  show sw_W _ _ 668 [(0, .retAddr 30), (1, .ref a1), (2, .ref a2), (3, .int a3)] [.int (a3 + (2 : Int32)), .retAddr 30, .int (xs (a3 + (1 : Int32)).toNatClampNeg), .ref a2, .int u102.1] u102.2
                                  refine sl_sld hX hs hb hB h100 (by decide +kernel) ?_
                                  show sw_W _ _ 669 [(0, .retAddr 30), (1, .ref a1), (2, .ref a2), (3, .int a3)] [.int (xs (a3 + (2 : Int32)).toNatClampNeg), .int (xs (a3 + (1 : Int32)).toNatClampNeg), .ref a2, .int u102.1] u102.2
                                  obtain ⟨h103, hf⟩ := sw_gd_1 hf
                                  obtain ⟨u104, hu104, hf⟩ := sw_bnd hf
                                  refine sl_callV hX (i := 77) (k2 := k_Model_alike) (d2 := d - 1) (As := [.int (xs (a3 + (1 : Int32)).toNatClampNeg), .int (xs (a3 + (2 : Int32)).toNatClampNeg)]) (st := [.int u102.1]) (q := a2) (ci := 12) mf_Model_alike mi_Model_alike ms_Model_alike (sw_m7 239 (by decide +kernel)) rfl (by decide) (by decide +kernel) rfl (Nat.le_of_ble_eq_true rfl) (by omega) h103 (o_Model_alike g (d := d - 1) (by omega) hu104) ?_
                                  show sw_W _ _ 672 [(0, .retAddr 30), (1, .ref a1), (2, .ref a2), (3, .int a3)] [.int u104.1, .int u102.1] u104.2
                                  refine sl_j_eq hX (off := 637) (tgt := 1309) (by decide +kernel) (by decide) hf (fun hc hf => ?_) (fun hc hf => ?_)
                                  · exact sw_weak [0, 1, 2, 3] rfl (t_Law_law_1309 hd hX hs hb hB hend hr hz _ ih hf)
                                  · exact sw_weak [] rfl (t_Law_law_675 hd hX hs hb hB hend hr hz hf)
                                ·
                                  rcases sw_ite hf with ⟨h105, hf⟩ | ⟨h105, hf⟩
                                  · refine sl_tin hX (a := ((xs a3.toNatClampNeg) &&& (31 : Int32))) (off := 644) (tgt := 677) (len := 131) (show decode (k_c k_Law_law) 33 = .ok (.tableswitch (1276) (0) (28) #[131, 194, 217, 240, 263, 316, 379, 402, 425, 448, 501, 535, 578, 611, 644, 687, 720, 763, 786, 839, 862, 885, 928, 997, 1020, 1053, 1176, 1190, 1253], 131) by decide +kernel) (by rw [h105]; decide) (by rw [h105]; decide) (by rw [h105]; decide +kernel) (by decide) ?_
                                    obtain ⟨h106, hf⟩ := sw_gd_1 hf
                                    refine sl_blk hX [(.aload_n 1, 0, 0, .null), (.aload_n 0, 0, 0, .null), (.iload_n 3, 0, 0, .null), (.iconst (1), 0, 0, .int (1 : Int32)), (.iadd, 0, 0, .null)] (lv' := [(0, .retAddr 30), (1, .ref a1), (2, .ref a2), (3, .int a3)]) (st' := [.int (a3 + (1 : Int32)), .retAddr 30, .ref a1]) (M1 := M) (ob := []) (by decide +kernel) rfl sw_a0 ?_
                                    show sw_W _ _ 682 [(0, .retAddr 30), (1, .ref a1), (2, .ref a2), (3, .int a3)] [.int (a3 + (1 : Int32)), .retAddr 30, .ref a1] M
                                    refine sl_sld hX hs hb hB h106 (by decide +kernel) ?_
                                    show sw_W _ _ 683 [(0, .retAddr 30), (1, .ref a1), (2, .ref a2), (3, .int a3)] [.int (xs (a3 + (1 : Int32)).toNatClampNeg), .ref a1] M
                                    obtain ⟨h107, hf⟩ := sw_gd_1 hf
                                    refine sl_blk hX [(.aload_n 0, 0, 0, .null), (.iload_n 3, 0, 0, .null), (.iconst (2), 0, 0, .int (2 : Int32)), (.iadd, 0, 0, .null)] (lv' := [(0, .retAddr 30), (1, .ref a1), (2, .ref a2), (3, .int a3)]) (st' := [.int (a3 + (2 : Int32)), .retAddr 30, .int (xs (a3 + (1 : Int32)).toNatClampNeg), .ref a1]) (M1 := M) (ob := []) (by decide +kernel) rfl sw_a0 ?_
                                    show sw_W _ _ 687 [(0, .retAddr 30), (1, .ref a1), (2, .ref a2), (3, .int a3)] [.int (a3 + (2 : Int32)), .retAddr 30, .int (xs (a3 + (1 : Int32)).toNatClampNeg), .ref a1] M
                                    refine sl_sld hX hs hb hB h107 (by decide +kernel) ?_
                                    show sw_W _ _ 688 [(0, .retAddr 30), (1, .ref a1), (2, .ref a2), (3, .int a3)] [.int (xs (a3 + (2 : Int32)).toNatClampNeg), .int (xs (a3 + (1 : Int32)).toNatClampNeg), .ref a1] M
                                    obtain ⟨h108, hf⟩ := sw_gd_1 hf
                                    refine sl_blk hX [(.aload_n 0, 0, 0, .null), (.iload_n 3, 0, 0, .null), (.iconst (3), 0, 0, .int (3 : Int32)), (.iadd, 0, 0, .null)] (lv' := [(0, .retAddr 30), (1, .ref a1), (2, .ref a2), (3, .int a3)]) (st' := [.int (a3 + (3 : Int32)), .retAddr 30, .int (xs (a3 + (2 : Int32)).toNatClampNeg), .int (xs (a3 + (1 : Int32)).toNatClampNeg), .ref a1]) (M1 := M) (ob := []) (by decide +kernel) rfl sw_a0 ?_
                                    show sw_W _ _ 692 [(0, .retAddr 30), (1, .ref a1), (2, .ref a2), (3, .int a3)] [.int (a3 + (3 : Int32)), .retAddr 30, .int (xs (a3 + (2 : Int32)).toNatClampNeg), .int (xs (a3 + (1 : Int32)).toNatClampNeg), .ref a1] M
                                    refine sl_sld hX hs hb hB h108 (by decide +kernel) ?_
                                    show sw_W _ _ 693 [(0, .retAddr 30), (1, .ref a1), (2, .ref a2), (3, .int a3)] [.int (xs (a3 + (3 : Int32)).toNatClampNeg), .int (xs (a3 + (2 : Int32)).toNatClampNeg), .int (xs (a3 + (1 : Int32)).toNatClampNeg), .ref a1] M
                                    obtain ⟨h109, hf⟩ := sw_gd_1 hf
                                    obtain ⟨u110, hu110, hf⟩ := sw_bnd hf
                                    refine sl_callV hX (i := 78) (k2 := k_House_tune) (d2 := d - 1) (As := [.int (xs (a3 + (1 : Int32)).toNatClampNeg), .int (xs (a3 + (2 : Int32)).toNatClampNeg), .int (xs (a3 + (3 : Int32)).toNatClampNeg)]) (st := []) (q := a1) (ci := 11) mf_House_tune mi_House_tune ms_House_tune (sw_m4 232 (by decide +kernel)) rfl (by decide) (by decide +kernel) rfl (Nat.le_of_ble_eq_true rfl) (by omega) h109 (o_House_tune g (d := d - 1) (by omega) hu110) ?_
                                    show sw_W _ _ 696 [(0, .retAddr 30), (1, .ref a1), (2, .ref a2), (3, .int a3)] [.int u110.1] u110.2
                                    refine sl_blk hX [(.aload_n 2, 0, 0, .null), (.aload_n 0, 0, 0, .null), (.iload_n 3, 0, 0, .null), (.iconst (1), 0, 0, .int (1 : Int32)), (.iadd, 0, 0, .null)] (lv' := [(0, .retAddr 30), (1, .ref a1), (2, .ref a2), (3, .int a3)]) (st' := [.int (a3 + (1 : Int32)), .retAddr 30, .ref a2, .int u110.1]) (M1 := u110.2) (ob := []) (by decide +kernel) rfl sw_a0 ?_
                                    show sw_W _ _ 701 [(0, .retAddr 30), (1, .ref a1), (2, .ref a2), (3, .int a3)] [.int (a3 + (1 : Int32)), .retAddr 30, .ref a2, .int u110.1] u110.2
                                    refine sl_sld hX hs hb hB h106 (by decide +kernel) ?_
                                    show sw_W _ _ 702 [(0, .retAddr 30), (1, .ref a1), (2, .ref a2), (3, .int a3)] [.int (xs (a3 + (1 : Int32)).toNatClampNeg), .ref a2, .int u110.1] u110.2
                                    refine sl_blk hX [(.aload_n 0, 0, 0, .null), (.iload_n 3, 0, 0, .null), (.iconst (2), 0, 0, .int (2 : Int32)), (.iadd, 0, 0, .null)] (lv' := [(0, .retAddr 30), (1, .ref a1), (2, .ref a2), (3, .int a3)]) (st' := [.int (a3 + (2 : Int32)), .retAddr 30, .int (xs (a3 + (1 : Int32)).toNatClampNeg), .ref a2, .int u110.1]) (M1 := u110.2) (ob := []) (by decide +kernel) rfl sw_a0 ?_
                                    show sw_W _ _ 706 [(0, .retAddr 30), (1, .ref a1), (2, .ref a2), (3, .int a3)] [.int (a3 + (2 : Int32)), .retAddr 30, .int (xs (a3 + (1 : Int32)).toNatClampNeg), .ref a2, .int u110.1] u110.2
                                    refine sl_sld hX hs hb hB h107 (by decide +kernel) ?_
                                    show sw_W _ _ 707 [(0, .retAddr 30), (1, .ref a1), (2, .ref a2), (3, .int a3)] [.int (xs (a3 + (2 : Int32)).toNatClampNeg), .int (xs (a3 + (1 : Int32)).toNatClampNeg), .ref a2, .int u110.1] u110.2
                                    refine sl_blk hX [(.aload_n 0, 0, 0, .null), (.iload_n 3, 0, 0, .null), (.iconst (3), 0, 0, .int (3 : Int32)), (.iadd, 0, 0, .null)] (lv' := [(0, .retAddr 30), (1, .ref a1), (2, .ref a2), (3, .int a3)]) (st' := [.int (a3 + (3 : Int32)), .retAddr 30, .int (xs (a3 + (2 : Int32)).toNatClampNeg), .int (xs (a3 + (1 : Int32)).toNatClampNeg), .ref a2, .int u110.1]) (M1 := u110.2) (ob := []) (by decide +kernel) rfl sw_a0 ?_
                                    show sw_W _ _ 711 [(0, .retAddr 30), (1, .ref a1), (2, .ref a2), (3, .int a3)] [.int (a3 + (3 : Int32)), .retAddr 30, .int (xs (a3 + (2 : Int32)).toNatClampNeg), .int (xs (a3 + (1 : Int32)).toNatClampNeg), .ref a2, .int u110.1] u110.2
                                    refine sl_sld hX hs hb hB h108 (by decide +kernel) ?_
                                    show sw_W _ _ 712 [(0, .retAddr 30), (1, .ref a1), (2, .ref a2), (3, .int a3)] [.int (xs (a3 + (3 : Int32)).toNatClampNeg), .int (xs (a3 + (2 : Int32)).toNatClampNeg), .int (xs (a3 + (1 : Int32)).toNatClampNeg), .ref a2, .int u110.1] u110.2
                                    obtain ⟨h111, hf⟩ := sw_gd_1 hf
                                    obtain ⟨u112, hu112, hf⟩ := sw_bnd hf
                                    refine sl_callV hX (i := 82) (k2 := k_Model_tune) (d2 := d - 1) (As := [.int (xs (a3 + (1 : Int32)).toNatClampNeg), .int (xs (a3 + (2 : Int32)).toNatClampNeg), .int (xs (a3 + (3 : Int32)).toNatClampNeg)]) (st := [.int u110.1]) (q := a2) (ci := 12) mf_Model_tune mi_Model_tune ms_Model_tune (sw_m8 8 (by decide +kernel)) rfl (by decide) (by decide +kernel) rfl (Nat.le_of_ble_eq_true rfl) (by omega) h111 (o_Model_tune g (d := d - 1) (by omega) hu112) ?_
                                    show sw_W _ _ 715 [(0, .retAddr 30), (1, .ref a1), (2, .ref a2), (3, .int a3)] [.int u112.1, .int u110.1] u112.2
                                    refine sl_j_eq hX (off := 594) (tgt := 1309) (by decide +kernel) (by decide) hf (fun hc hf => ?_) (fun hc hf => ?_)
                                    · exact sw_weak [0, 1, 2, 3] rfl (t_Law_law_1309 hd hX hs hb hB hend hr hz _ ih hf)
                                    · refine sl_blk hX [(.iconst (0), 0, 0, .int (0 : Int32))] (lv' := [(0, .retAddr 30), (1, .ref a1), (2, .ref a2), (3, .int a3)]) (st' := [.int (0 : Int32)]) (M1 := u112.2) (ob := []) (by decide +kernel) rfl sw_a0 ?_
                                      show sw_W _ _ 719 [(0, .retAddr 30), (1, .ref a1), (2, .ref a2), (3, .int a3)] [.int (0 : Int32)] u112.2
                                      cases hf
                                      exact absurd (show (0 : Int32) = 1 from hr) (by decide)
                                  ·
                                    rcases sw_ite hf with ⟨h113, hf⟩ | ⟨h113, hf⟩
                                    · refine sl_tin hX (a := ((xs a3.toNatClampNeg) &&& (31 : Int32))) (off := 687) (tgt := 720) (len := 131) (show decode (k_c k_Law_law) 33 = .ok (.tableswitch (1276) (0) (28) #[131, 194, 217, 240, 263, 316, 379, 402, 425, 448, 501, 535, 578, 611, 644, 687, 720, 763, 786, 839, 862, 885, 928, 997, 1020, 1053, 1176, 1190, 1253], 131) by decide +kernel) (by rw [h113]; decide) (by rw [h113]; decide) (by rw [h113]; decide +kernel) (by decide) ?_
                                      obtain ⟨h114, hf⟩ := sw_gd_1 hf
                                      refine sl_blk hX [(.aload_n 1, 0, 0, .null), (.aload_n 0, 0, 0, .null), (.iload_n 3, 0, 0, .null), (.iconst (1), 0, 0, .int (1 : Int32)), (.iadd, 0, 0, .null)] (lv' := [(0, .retAddr 30), (1, .ref a1), (2, .ref a2), (3, .int a3)]) (st' := [.int (a3 + (1 : Int32)), .retAddr 30, .ref a1]) (M1 := M) (ob := []) (by decide +kernel) rfl sw_a0 ?_
                                      show sw_W _ _ 725 [(0, .retAddr 30), (1, .ref a1), (2, .ref a2), (3, .int a3)] [.int (a3 + (1 : Int32)), .retAddr 30, .ref a1] M
                                      refine sl_sld hX hs hb hB h114 (by decide +kernel) ?_
                                      show sw_W _ _ 726 [(0, .retAddr 30), (1, .ref a1), (2, .ref a2), (3, .int a3)] [.int (xs (a3 + (1 : Int32)).toNatClampNeg), .ref a1] M
                                      obtain ⟨h115, hf⟩ := sw_gd_1 hf
                                      refine sl_blk hX [(.aload_n 0, 0, 0, .null), (.iload_n 3, 0, 0, .null), (.iconst (2), 0, 0, .int (2 : Int32)), (.iadd, 0, 0, .null)] (lv' := [(0, .retAddr 30), (1, .ref a1), (2, .ref a2), (3, .int a3)]) (st' := [.int (a3 + (2 : Int32)), .retAddr 30, .int (xs (a3 + (1 : Int32)).toNatClampNeg), .ref a1]) (M1 := M) (ob := []) (by decide +kernel) rfl sw_a0 ?_
                                      show sw_W _ _ 730 [(0, .retAddr 30), (1, .ref a1), (2, .ref a2), (3, .int a3)] [.int (a3 + (2 : Int32)), .retAddr 30, .int (xs (a3 + (1 : Int32)).toNatClampNeg), .ref a1] M
                                      refine sl_sld hX hs hb hB h115 (by decide +kernel) ?_
                                      show sw_W _ _ 731 [(0, .retAddr 30), (1, .ref a1), (2, .ref a2), (3, .int a3)] [.int (xs (a3 + (2 : Int32)).toNatClampNeg), .int (xs (a3 + (1 : Int32)).toNatClampNeg), .ref a1] M
                                      obtain ⟨h116, hf⟩ := sw_gd_1 hf
                                      obtain ⟨u117, hu117, hf⟩ := sw_bnd hf
                                      refine sl_callV hX (i := 83) (k2 := k_House_cells) (d2 := d - 1) (As := [.int (xs (a3 + (1 : Int32)).toNatClampNeg), .int (xs (a3 + (2 : Int32)).toNatClampNeg)]) (st := []) (q := a1) (ci := 11) mf_House_cells mi_House_cells ms_House_cells (sw_m5 1 (by decide +kernel)) rfl (by decide) (by decide +kernel) rfl (Nat.le_of_ble_eq_true rfl) (by omega) h116 (o_House_cells g (d := d - 1) (by omega) hu117) ?_
                                      show sw_W _ _ 734 [(0, .retAddr 30), (1, .ref a1), (2, .ref a2), (3, .int a3)] [.int u117.1] u117.2
                                      refine sl_blk hX [(.aload_n 2, 0, 0, .null), (.aload_n 0, 0, 0, .null), (.iload_n 3, 0, 0, .null), (.iconst (1), 0, 0, .int (1 : Int32)), (.iadd, 0, 0, .null)] (lv' := [(0, .retAddr 30), (1, .ref a1), (2, .ref a2), (3, .int a3)]) (st' := [.int (a3 + (1 : Int32)), .retAddr 30, .ref a2, .int u117.1]) (M1 := u117.2) (ob := []) (by decide +kernel) rfl sw_a0 ?_
                                      show sw_W _ _ 739 [(0, .retAddr 30), (1, .ref a1), (2, .ref a2), (3, .int a3)] [.int (a3 + (1 : Int32)), .retAddr 30, .ref a2, .int u117.1] u117.2
                                      refine sl_sld hX hs hb hB h114 (by decide +kernel) ?_
                                      show sw_W _ _ 740 [(0, .retAddr 30), (1, .ref a1), (2, .ref a2), (3, .int a3)] [.int (xs (a3 + (1 : Int32)).toNatClampNeg), .ref a2, .int u117.1] u117.2
                                      refine sl_blk hX [(.aload_n 0, 0, 0, .null), (.iload_n 3, 0, 0, .null), (.iconst (2), 0, 0, .int (2 : Int32)), (.iadd, 0, 0, .null)] (lv' := [(0, .retAddr 30), (1, .ref a1), (2, .ref a2), (3, .int a3)]) (st' := [.int (a3 + (2 : Int32)), .retAddr 30, .int (xs (a3 + (1 : Int32)).toNatClampNeg), .ref a2, .int u117.1]) (M1 := u117.2) (ob := []) (by decide +kernel) rfl sw_a0 ?_
                                      show sw_W _ _ 744 [(0, .retAddr 30), (1, .ref a1), (2, .ref a2), (3, .int a3)] [.int (a3 + (2 : Int32)), .retAddr 30, .int (xs (a3 + (1 : Int32)).toNatClampNeg), .ref a2, .int u117.1] u117.2
                                      refine sl_sld hX hs hb hB h115 (by decide +kernel) ?_
                                      show sw_W _ _ 745 [(0, .retAddr 30), (1, .ref a1), (2, .ref a2), (3, .int a3)] [.int (xs (a3 + (2 : Int32)).toNatClampNeg), .int (xs (a3 + (1 : Int32)).toNatClampNeg), .ref a2, .int u117.1] u117.2
                                      obtain ⟨h118, hf⟩ := sw_gd_1 hf
                                      obtain ⟨u119, hu119, hf⟩ := sw_bnd hf
                                      refine sl_callV hX (i := 86) (k2 := k_Model_cells) (d2 := d - 1) (As := [.int (xs (a3 + (1 : Int32)).toNatClampNeg), .int (xs (a3 + (2 : Int32)).toNatClampNeg)]) (st := [.int u117.1]) (q := a2) (ci := 12) mf_Model_cells mi_Model_cells ms_Model_cells (sw_m8 12 (by decide +kernel)) rfl (by decide) (by decide +kernel) rfl (Nat.le_of_ble_eq_true rfl) (by omega) h118 (o_Model_cells g (d := d - 1) (by omega) hu119) ?_
                                      show sw_W _ _ 748 [(0, .retAddr 30), (1, .ref a1), (2, .ref a2), (3, .int a3)] [.int u119.1, .int u117.1] u119.2
                                      refine sl_j_eq hX (off := 561) (tgt := 1309) (by decide +kernel) (by decide) hf (fun hc hf => ?_) (fun hc hf => ?_)
                                      · exact sw_weak [0, 1, 2, 3] rfl (t_Law_law_1309 hd hX hs hb hB hend hr hz _ ih hf)
                                      · exact sw_weak [] rfl (t_Law_law_751 hd hX hs hb hB hend hr hz hf)
                                    ·
                                      rcases sw_ite hf with ⟨h120, hf⟩ | ⟨h120, hf⟩
                                      · refine sl_tin hX (a := ((xs a3.toNatClampNeg) &&& (31 : Int32))) (off := 720) (tgt := 753) (len := 131) (show decode (k_c k_Law_law) 33 = .ok (.tableswitch (1276) (0) (28) #[131, 194, 217, 240, 263, 316, 379, 402, 425, 448, 501, 535, 578, 611, 644, 687, 720, 763, 786, 839, 862, 885, 928, 997, 1020, 1053, 1176, 1190, 1253], 131) by decide +kernel) (by rw [h120]; decide) (by rw [h120]; decide) (by rw [h120]; decide +kernel) (by decide) ?_
                                        obtain ⟨h121, hf⟩ := sw_gd_1 hf
                                        refine sl_blk hX [(.aload_n 1, 0, 0, .null), (.aload_n 0, 0, 0, .null), (.iload_n 3, 0, 0, .null), (.iconst (1), 0, 0, .int (1 : Int32)), (.iadd, 0, 0, .null)] (lv' := [(0, .retAddr 30), (1, .ref a1), (2, .ref a2), (3, .int a3)]) (st' := [.int (a3 + (1 : Int32)), .retAddr 30, .ref a1]) (M1 := M) (ob := []) (by decide +kernel) rfl sw_a0 ?_
                                        show sw_W _ _ 758 [(0, .retAddr 30), (1, .ref a1), (2, .ref a2), (3, .int a3)] [.int (a3 + (1 : Int32)), .retAddr 30, .ref a1] M
                                        refine sl_sld hX hs hb hB h121 (by decide +kernel) ?_
                                        show sw_W _ _ 759 [(0, .retAddr 30), (1, .ref a1), (2, .ref a2), (3, .int a3)] [.int (xs (a3 + (1 : Int32)).toNatClampNeg), .ref a1] M
                                        obtain ⟨h122, hf⟩ := sw_gd_1 hf
                                        refine sl_blk hX [(.aload_n 0, 0, 0, .null), (.iload_n 3, 0, 0, .null), (.iconst (2), 0, 0, .int (2 : Int32)), (.iadd, 0, 0, .null)] (lv' := [(0, .retAddr 30), (1, .ref a1), (2, .ref a2), (3, .int a3)]) (st' := [.int (a3 + (2 : Int32)), .retAddr 30, .int (xs (a3 + (1 : Int32)).toNatClampNeg), .ref a1]) (M1 := M) (ob := []) (by decide +kernel) rfl sw_a0 ?_
                                        show sw_W _ _ 763 [(0, .retAddr 30), (1, .ref a1), (2, .ref a2), (3, .int a3)] [.int (a3 + (2 : Int32)), .retAddr 30, .int (xs (a3 + (1 : Int32)).toNatClampNeg), .ref a1] M
                                        refine sl_sld hX hs hb hB h122 (by decide +kernel) ?_
                                        show sw_W _ _ 764 [(0, .retAddr 30), (1, .ref a1), (2, .ref a2), (3, .int a3)] [.int (xs (a3 + (2 : Int32)).toNatClampNeg), .int (xs (a3 + (1 : Int32)).toNatClampNeg), .ref a1] M
                                        obtain ⟨h123, hf⟩ := sw_gd_1 hf
                                        refine sl_blk hX [(.aload_n 0, 0, 0, .null), (.iload_n 3, 0, 0, .null), (.iconst (3), 0, 0, .int (3 : Int32)), (.iadd, 0, 0, .null)] (lv' := [(0, .retAddr 30), (1, .ref a1), (2, .ref a2), (3, .int a3)]) (st' := [.int (a3 + (3 : Int32)), .retAddr 30, .int (xs (a3 + (2 : Int32)).toNatClampNeg), .int (xs (a3 + (1 : Int32)).toNatClampNeg), .ref a1]) (M1 := M) (ob := []) (by decide +kernel) rfl sw_a0 ?_
                                        show sw_W _ _ 768 [(0, .retAddr 30), (1, .ref a1), (2, .ref a2), (3, .int a3)] [.int (a3 + (3 : Int32)), .retAddr 30, .int (xs (a3 + (2 : Int32)).toNatClampNeg), .int (xs (a3 + (1 : Int32)).toNatClampNeg), .ref a1] M
                                        refine sl_sld hX hs hb hB h123 (by decide +kernel) ?_
                                        show sw_W _ _ 769 [(0, .retAddr 30), (1, .ref a1), (2, .ref a2), (3, .int a3)] [.int (xs (a3 + (3 : Int32)).toNatClampNeg), .int (xs (a3 + (2 : Int32)).toNatClampNeg), .int (xs (a3 + (1 : Int32)).toNatClampNeg), .ref a1] M
                                        obtain ⟨h124, hf⟩ := sw_gd_1 hf
                                        obtain ⟨u125, hu125, hf⟩ := sw_bnd hf
                                        refine sl_callV hX (i := 87) (k2 := k_House_share) (d2 := d - 1) (As := [.int (xs (a3 + (1 : Int32)).toNatClampNeg), .int (xs (a3 + (2 : Int32)).toNatClampNeg), .int (xs (a3 + (3 : Int32)).toNatClampNeg)]) (st := []) (q := a1) (ci := 11) mf_House_share mi_House_share ms_House_share (sw_m5 5 (by decide +kernel)) rfl (by decide) (by decide +kernel) rfl (Nat.le_of_ble_eq_true rfl) (by omega) h124 (o_House_share g (d := d - 1) (by omega) hu125) ?_
                                        show sw_W _ _ 772 [(0, .retAddr 30), (1, .ref a1), (2, .ref a2), (3, .int a3)] [.int u125.1] u125.2
                                        refine sl_blk hX [(.aload_n 2, 0, 0, .null), (.aload_n 0, 0, 0, .null), (.iload_n 3, 0, 0, .null), (.iconst (1), 0, 0, .int (1 : Int32)), (.iadd, 0, 0, .null)] (lv' := [(0, .retAddr 30), (1, .ref a1), (2, .ref a2), (3, .int a3)]) (st' := [.int (a3 + (1 : Int32)), .retAddr 30, .ref a2, .int u125.1]) (M1 := u125.2) (ob := []) (by decide +kernel) rfl sw_a0 ?_
                                        show sw_W _ _ 777 [(0, .retAddr 30), (1, .ref a1), (2, .ref a2), (3, .int a3)] [.int (a3 + (1 : Int32)), .retAddr 30, .ref a2, .int u125.1] u125.2
                                        refine sl_sld hX hs hb hB h121 (by decide +kernel) ?_
                                        show sw_W _ _ 778 [(0, .retAddr 30), (1, .ref a1), (2, .ref a2), (3, .int a3)] [.int (xs (a3 + (1 : Int32)).toNatClampNeg), .ref a2, .int u125.1] u125.2
                                        refine sl_blk hX [(.aload_n 0, 0, 0, .null), (.iload_n 3, 0, 0, .null), (.iconst (2), 0, 0, .int (2 : Int32)), (.iadd, 0, 0, .null)] (lv' := [(0, .retAddr 30), (1, .ref a1), (2, .ref a2), (3, .int a3)]) (st' := [.int (a3 + (2 : Int32)), .retAddr 30, .int (xs (a3 + (1 : Int32)).toNatClampNeg), .ref a2, .int u125.1]) (M1 := u125.2) (ob := []) (by decide +kernel) rfl sw_a0 ?_
                                        show sw_W _ _ 782 [(0, .retAddr 30), (1, .ref a1), (2, .ref a2), (3, .int a3)] [.int (a3 + (2 : Int32)), .retAddr 30, .int (xs (a3 + (1 : Int32)).toNatClampNeg), .ref a2, .int u125.1] u125.2
                                        refine sl_sld hX hs hb hB h122 (by decide +kernel) ?_
                                        show sw_W _ _ 783 [(0, .retAddr 30), (1, .ref a1), (2, .ref a2), (3, .int a3)] [.int (xs (a3 + (2 : Int32)).toNatClampNeg), .int (xs (a3 + (1 : Int32)).toNatClampNeg), .ref a2, .int u125.1] u125.2
                                        refine sl_blk hX [(.aload_n 0, 0, 0, .null), (.iload_n 3, 0, 0, .null), (.iconst (3), 0, 0, .int (3 : Int32)), (.iadd, 0, 0, .null)] (lv' := [(0, .retAddr 30), (1, .ref a1), (2, .ref a2), (3, .int a3)]) (st' := [.int (a3 + (3 : Int32)), .retAddr 30, .int (xs (a3 + (2 : Int32)).toNatClampNeg), .int (xs (a3 + (1 : Int32)).toNatClampNeg), .ref a2, .int u125.1]) (M1 := u125.2) (ob := []) (by decide +kernel) rfl sw_a0 ?_
                                        show sw_W _ _ 787 [(0, .retAddr 30), (1, .ref a1), (2, .ref a2), (3, .int a3)] [.int (a3 + (3 : Int32)), .retAddr 30, .int (xs (a3 + (2 : Int32)).toNatClampNeg), .int (xs (a3 + (1 : Int32)).toNatClampNeg), .ref a2, .int u125.1] u125.2
                                        refine sl_sld hX hs hb hB h123 (by decide +kernel) ?_
                                        show sw_W _ _ 788 [(0, .retAddr 30), (1, .ref a1), (2, .ref a2), (3, .int a3)] [.int (xs (a3 + (3 : Int32)).toNatClampNeg), .int (xs (a3 + (2 : Int32)).toNatClampNeg), .int (xs (a3 + (1 : Int32)).toNatClampNeg), .ref a2, .int u125.1] u125.2
                                        obtain ⟨h126, hf⟩ := sw_gd_1 hf
                                        obtain ⟨u127, hu127, hf⟩ := sw_bnd hf
                                        refine sl_callV hX (i := 90) (k2 := k_Model_share) (d2 := d - 1) (As := [.int (xs (a3 + (1 : Int32)).toNatClampNeg), .int (xs (a3 + (2 : Int32)).toNatClampNeg), .int (xs (a3 + (3 : Int32)).toNatClampNeg)]) (st := [.int u125.1]) (q := a2) (ci := 12) mf_Model_share mi_Model_share ms_Model_share (sw_m8 16 (by decide +kernel)) rfl (by decide) (by decide +kernel) rfl (Nat.le_of_ble_eq_true rfl) (by omega) h126 (o_Model_share g (d := d - 1) (by omega) hu127) ?_
                                        show sw_W _ _ 791 [(0, .retAddr 30), (1, .ref a1), (2, .ref a2), (3, .int a3)] [.int u127.1, .int u125.1] u127.2
                                        refine sl_j_eq hX (off := 518) (tgt := 1309) (by decide +kernel) (by decide) hf (fun hc hf => ?_) (fun hc hf => ?_)
                                        · exact sw_weak [0, 1, 2, 3] rfl (t_Law_law_1309 hd hX hs hb hB hend hr hz _ ih hf)
                                        · refine sl_blk hX [(.iconst (0), 0, 0, .int (0 : Int32))] (lv' := [(0, .retAddr 30), (1, .ref a1), (2, .ref a2), (3, .int a3)]) (st' := [.int (0 : Int32)]) (M1 := u127.2) (ob := []) (by decide +kernel) rfl sw_a0 ?_
                                          show sw_W _ _ 795 [(0, .retAddr 30), (1, .ref a1), (2, .ref a2), (3, .int a3)] [.int (0 : Int32)] u127.2
                                          cases hf
                                          exact absurd (show (0 : Int32) = 1 from hr) (by decide)
                                      ·
                                        rcases sw_ite hf with ⟨h128, hf⟩ | ⟨h128, hf⟩
                                        · refine sl_tin hX (a := ((xs a3.toNatClampNeg) &&& (31 : Int32))) (off := 763) (tgt := 796) (len := 131) (show decode (k_c k_Law_law) 33 = .ok (.tableswitch (1276) (0) (28) #[131, 194, 217, 240, 263, 316, 379, 402, 425, 448, 501, 535, 578, 611, 644, 687, 720, 763, 786, 839, 862, 885, 928, 997, 1020, 1053, 1176, 1190, 1253], 131) by decide +kernel) (by rw [h128]; decide) (by rw [h128]; decide) (by rw [h128]; decide +kernel) (by decide) ?_
                                          obtain ⟨h129, hf⟩ := sw_gd_1 hf
                                          refine sl_blk hX [(.aload_n 1, 0, 0, .null), (.aload_n 0, 0, 0, .null), (.iload_n 3, 0, 0, .null), (.iconst (1), 0, 0, .int (1 : Int32)), (.iadd, 0, 0, .null)] (lv' := [(0, .retAddr 30), (1, .ref a1), (2, .ref a2), (3, .int a3)]) (st' := [.int (a3 + (1 : Int32)), .retAddr 30, .ref a1]) (M1 := M) (ob := []) (by decide +kernel) rfl sw_a0 ?_
                                          show sw_W _ _ 801 [(0, .retAddr 30), (1, .ref a1), (2, .ref a2), (3, .int a3)] [.int (a3 + (1 : Int32)), .retAddr 30, .ref a1] M
                                          refine sl_sld hX hs hb hB h129 (by decide +kernel) ?_
                                          show sw_W _ _ 802 [(0, .retAddr 30), (1, .ref a1), (2, .ref a2), (3, .int a3)] [.int (xs (a3 + (1 : Int32)).toNatClampNeg), .ref a1] M
                                          obtain ⟨h130, hf⟩ := sw_gd_1 hf
                                          obtain ⟨u131, hu131, hf⟩ := sw_bnd hf
                                          refine sl_callV hX (i := 91) (k2 := k_House_portions) (d2 := d - 1) (As := [.int (xs (a3 + (1 : Int32)).toNatClampNeg)]) (st := []) (q := a1) (ci := 11) mf_House_portions mi_House_portions ms_House_portions (sw_m5 9 (by decide +kernel)) rfl (by decide) (by decide +kernel) rfl (Nat.le_of_ble_eq_true rfl) (by omega) h130 (o_House_portions g (d := d - 1) (by omega) hu131) ?_
                                          show sw_W _ _ 805 [(0, .retAddr 30), (1, .ref a1), (2, .ref a2), (3, .int a3)] [.int u131.1] u131.2
                                          refine sl_blk hX [(.aload_n 2, 0, 0, .null), (.aload_n 0, 0, 0, .null), (.iload_n 3, 0, 0, .null), (.iconst (1), 0, 0, .int (1 : Int32)), (.iadd, 0, 0, .null)] (lv' := [(0, .retAddr 30), (1, .ref a1), (2, .ref a2), (3, .int a3)]) (st' := [.int (a3 + (1 : Int32)), .retAddr 30, .ref a2, .int u131.1]) (M1 := u131.2) (ob := []) (by decide +kernel) rfl sw_a0 ?_
                                          show sw_W _ _ 810 [(0, .retAddr 30), (1, .ref a1), (2, .ref a2), (3, .int a3)] [.int (a3 + (1 : Int32)), .retAddr 30, .ref a2, .int u131.1] u131.2
                                          refine sl_sld hX hs hb hB h129 (by decide +kernel) ?_
                                          show sw_W _ _ 811 [(0, .retAddr 30), (1, .ref a1), (2, .ref a2), (3, .int a3)] [.int (xs (a3 + (1 : Int32)).toNatClampNeg), .ref a2, .int u131.1] u131.2
                                          obtain ⟨h132, hf⟩ := sw_gd_1 hf
                                          obtain ⟨u133, hu133, hf⟩ := sw_bnd hf
                                          refine sl_callV hX (i := 94) (k2 := k_Model_portions) (d2 := d - 1) (As := [.int (xs (a3 + (1 : Int32)).toNatClampNeg)]) (st := [.int u131.1]) (q := a2) (ci := 12) mf_Model_portions mi_Model_portions ms_Model_portions (sw_m8 28 (by decide +kernel)) rfl (by decide) (by decide +kernel) rfl (Nat.le_of_ble_eq_true rfl) (by omega) h132 (o_Model_portions g (d := d - 1) (by omega) hu133) ?_
                                          show sw_W _ _ 814 [(0, .retAddr 30), (1, .ref a1), (2, .ref a2), (3, .int a3)] [.int u133.1, .int u131.1] u133.2
                                          refine sl_j_eq hX (off := 495) (tgt := 1309) (by decide +kernel) (by decide) hf (fun hc hf => ?_) (fun hc hf => ?_)
                                          · exact sw_weak [0, 1, 2, 3] rfl (t_Law_law_1309 hd hX hs hb hB hend hr hz _ ih hf)
                                          · exact sw_weak [] rfl (t_Law_law_817 hd hX hs hb hB hend hr hz hf)
                                        ·
                                          rcases sw_ite hf with ⟨h134, hf⟩ | ⟨h134, hf⟩
                                          · refine sl_tin hX (a := ((xs a3.toNatClampNeg) &&& (31 : Int32))) (off := 786) (tgt := 819) (len := 131) (show decode (k_c k_Law_law) 33 = .ok (.tableswitch (1276) (0) (28) #[131, 194, 217, 240, 263, 316, 379, 402, 425, 448, 501, 535, 578, 611, 644, 687, 720, 763, 786, 839, 862, 885, 928, 997, 1020, 1053, 1176, 1190, 1253], 131) by decide +kernel) (by rw [h134]; decide) (by rw [h134]; decide) (by rw [h134]; decide +kernel) (by decide) ?_
                                            obtain ⟨h135, hf⟩ := sw_gd_1 hf
                                            refine sl_blk hX [(.aload_n 1, 0, 0, .null), (.aload_n 0, 0, 0, .null), (.iload_n 3, 0, 0, .null), (.iconst (1), 0, 0, .int (1 : Int32)), (.iadd, 0, 0, .null)] (lv' := [(0, .retAddr 30), (1, .ref a1), (2, .ref a2), (3, .int a3)]) (st' := [.int (a3 + (1 : Int32)), .retAddr 30, .ref a1]) (M1 := M) (ob := []) (by decide +kernel) rfl sw_a0 ?_
                                            show sw_W _ _ 824 [(0, .retAddr 30), (1, .ref a1), (2, .ref a2), (3, .int a3)] [.int (a3 + (1 : Int32)), .retAddr 30, .ref a1] M
                                            refine sl_sld hX hs hb hB h135 (by decide +kernel) ?_
                                            show sw_W _ _ 825 [(0, .retAddr 30), (1, .ref a1), (2, .ref a2), (3, .int a3)] [.int (xs (a3 + (1 : Int32)).toNatClampNeg), .ref a1] M
                                            obtain ⟨h136, hf⟩ := sw_gd_1 hf
                                            refine sl_blk hX [(.aload_n 0, 0, 0, .null), (.iload_n 3, 0, 0, .null), (.iconst (2), 0, 0, .int (2 : Int32)), (.iadd, 0, 0, .null)] (lv' := [(0, .retAddr 30), (1, .ref a1), (2, .ref a2), (3, .int a3)]) (st' := [.int (a3 + (2 : Int32)), .retAddr 30, .int (xs (a3 + (1 : Int32)).toNatClampNeg), .ref a1]) (M1 := M) (ob := []) (by decide +kernel) rfl sw_a0 ?_
                                            show sw_W _ _ 829 [(0, .retAddr 30), (1, .ref a1), (2, .ref a2), (3, .int a3)] [.int (a3 + (2 : Int32)), .retAddr 30, .int (xs (a3 + (1 : Int32)).toNatClampNeg), .ref a1] M
                                            refine sl_sld hX hs hb hB h136 (by decide +kernel) ?_
                                            show sw_W _ _ 830 [(0, .retAddr 30), (1, .ref a1), (2, .ref a2), (3, .int a3)] [.int (xs (a3 + (2 : Int32)).toNatClampNeg), .int (xs (a3 + (1 : Int32)).toNatClampNeg), .ref a1] M
                                            obtain ⟨h137, hf⟩ := sw_gd_1 hf
                                            refine sl_blk hX [(.aload_n 0, 0, 0, .null), (.iload_n 3, 0, 0, .null), (.iconst (3), 0, 0, .int (3 : Int32)), (.iadd, 0, 0, .null)] (lv' := [(0, .retAddr 30), (1, .ref a1), (2, .ref a2), (3, .int a3)]) (st' := [.int (a3 + (3 : Int32)), .retAddr 30, .int (xs (a3 + (2 : Int32)).toNatClampNeg), .int (xs (a3 + (1 : Int32)).toNatClampNeg), .ref a1]) (M1 := M) (ob := []) (by decide +kernel) rfl sw_a0 ?_
                                            show sw_W _ _ 834 [(0, .retAddr 30), (1, .ref a1), (2, .ref a2), (3, .int a3)] [.int (a3 + (3 : Int32)), .retAddr 30, .int (xs (a3 + (2 : Int32)).toNatClampNeg), .int (xs (a3 + (1 : Int32)).toNatClampNeg), .ref a1] M
                                            refine sl_sld hX hs hb hB h137 (by decide +kernel) ?_
                                            show sw_W _ _ 835 [(0, .retAddr 30), (1, .ref a1), (2, .ref a2), (3, .int a3)] [.int (xs (a3 + (3 : Int32)).toNatClampNeg), .int (xs (a3 + (2 : Int32)).toNatClampNeg), .int (xs (a3 + (1 : Int32)).toNatClampNeg), .ref a1] M
                                            obtain ⟨h138, hf⟩ := sw_gd_1 hf
                                            refine sl_blk hX [(.aload_n 0, 0, 0, .null), (.iload_n 3, 0, 0, .null), (.iconst (4), 0, 0, .int (4 : Int32)), (.iadd, 0, 0, .null)] (lv' := [(0, .retAddr 30), (1, .ref a1), (2, .ref a2), (3, .int a3)]) (st' := [.int (a3 + (4 : Int32)), .retAddr 30, .int (xs (a3 + (3 : Int32)).toNatClampNeg), .int (xs (a3 + (2 : Int32)).toNatClampNeg), .int (xs (a3 + (1 : Int32)).toNatClampNeg), .ref a1]) (M1 := M) (ob := []) (by decide +kernel) rfl sw_a0 ?_
                                            show sw_W _ _ 839 [(0, .retAddr 30), (1, .ref a1), (2, .ref a2), (3, .int a3)] [.int (a3 + (4 : Int32)), .retAddr 30, .int (xs (a3 + (3 : Int32)).toNatClampNeg), .int (xs (a3 + (2 : Int32)).toNatClampNeg), .int (xs (a3 + (1 : Int32)).toNatClampNeg), .ref a1] M
                                            refine sl_sld hX hs hb hB h138 (by decide +kernel) ?_
                                            show sw_W _ _ 840 [(0, .retAddr 30), (1, .ref a1), (2, .ref a2), (3, .int a3)] [.int (xs (a3 + (4 : Int32)).toNatClampNeg), .int (xs (a3 + (3 : Int32)).toNatClampNeg), .int (xs (a3 + (2 : Int32)).toNatClampNeg), .int (xs (a3 + (1 : Int32)).toNatClampNeg), .ref a1] M
                                            obtain ⟨h139, hf⟩ := sw_gd_1 hf
                                            obtain ⟨u140, hu140, hf⟩ := sw_bnd hf
                                            refine sl_callV hX (i := 95) (k2 := k_House_sight) (d2 := d - 1) (As := [.int (xs (a3 + (1 : Int32)).toNatClampNeg), .int (xs (a3 + (2 : Int32)).toNatClampNeg), .int (xs (a3 + (3 : Int32)).toNatClampNeg), .int (xs (a3 + (4 : Int32)).toNatClampNeg)]) (st := []) (q := a1) (ci := 11) mf_House_sight mi_House_sight ms_House_sight (sw_m5 13 (by decide +kernel)) rfl (by decide) (by decide +kernel) rfl (Nat.le_of_ble_eq_true rfl) (by omega) h139 (o_House_sight g (d := d - 1) (by omega) hu140) ?_
                                            show sw_W _ _ 843 [(0, .retAddr 30), (1, .ref a1), (2, .ref a2), (3, .int a3)] [.int u140.1] u140.2
                                            refine sl_blk hX [(.aload_n 2, 0, 0, .null), (.aload_n 0, 0, 0, .null), (.iload_n 3, 0, 0, .null), (.iconst (1), 0, 0, .int (1 : Int32)), (.iadd, 0, 0, .null)] (lv' := [(0, .retAddr 30), (1, .ref a1), (2, .ref a2), (3, .int a3)]) (st' := [.int (a3 + (1 : Int32)), .retAddr 30, .ref a2, .int u140.1]) (M1 := u140.2) (ob := []) (by decide +kernel) rfl sw_a0 ?_
                                            show sw_W _ _ 848 [(0, .retAddr 30), (1, .ref a1), (2, .ref a2), (3, .int a3)] [.int (a3 + (1 : Int32)), .retAddr 30, .ref a2, .int u140.1] u140.2
                                            refine sl_sld hX hs hb hB h135 (by decide +kernel) ?_
                                            show sw_W _ _ 849 [(0, .retAddr 30), (1, .ref a1), (2, .ref a2), (3, .int a3)] [.int (xs (a3 + (1 : Int32)).toNatClampNeg), .ref a2, .int u140.1] u140.2
                                            refine sl_blk hX [(.aload_n 0, 0, 0, .null), (.iload_n 3, 0, 0, .null), (.iconst (2), 0, 0, .int (2 : Int32)), (.iadd, 0, 0, .null)] (lv' := [(0, .retAddr 30), (1, .ref a1), (2, .ref a2), (3, .int a3)]) (st' := [.int (a3 + (2 : Int32)), .retAddr 30, .int (xs (a3 + (1 : Int32)).toNatClampNeg), .ref a2, .int u140.1]) (M1 := u140.2) (ob := []) (by decide +kernel) rfl sw_a0 ?_
                                            show sw_W _ _ 853 [(0, .retAddr 30), (1, .ref a1), (2, .ref a2), (3, .int a3)] [.int (a3 + (2 : Int32)), .retAddr 30, .int (xs (a3 + (1 : Int32)).toNatClampNeg), .ref a2, .int u140.1] u140.2
                                            refine sl_sld hX hs hb hB h136 (by decide +kernel) ?_
                                            show sw_W _ _ 854 [(0, .retAddr 30), (1, .ref a1), (2, .ref a2), (3, .int a3)] [.int (xs (a3 + (2 : Int32)).toNatClampNeg), .int (xs (a3 + (1 : Int32)).toNatClampNeg), .ref a2, .int u140.1] u140.2
                                            refine sl_blk hX [(.aload_n 0, 0, 0, .null), (.iload_n 3, 0, 0, .null), (.iconst (3), 0, 0, .int (3 : Int32)), (.iadd, 0, 0, .null)] (lv' := [(0, .retAddr 30), (1, .ref a1), (2, .ref a2), (3, .int a3)]) (st' := [.int (a3 + (3 : Int32)), .retAddr 30, .int (xs (a3 + (2 : Int32)).toNatClampNeg), .int (xs (a3 + (1 : Int32)).toNatClampNeg), .ref a2, .int u140.1]) (M1 := u140.2) (ob := []) (by decide +kernel) rfl sw_a0 ?_
                                            show sw_W _ _ 858 [(0, .retAddr 30), (1, .ref a1), (2, .ref a2), (3, .int a3)] [.int (a3 + (3 : Int32)), .retAddr 30, .int (xs (a3 + (2 : Int32)).toNatClampNeg), .int (xs (a3 + (1 : Int32)).toNatClampNeg), .ref a2, .int u140.1] u140.2
                                            refine sl_sld hX hs hb hB h137 (by decide +kernel) ?_
                                            show sw_W _ _ 859 [(0, .retAddr 30), (1, .ref a1), (2, .ref a2), (3, .int a3)] [.int (xs (a3 + (3 : Int32)).toNatClampNeg), .int (xs (a3 + (2 : Int32)).toNatClampNeg), .int (xs (a3 + (1 : Int32)).toNatClampNeg), .ref a2, .int u140.1] u140.2
                                            refine sl_blk hX [(.aload_n 0, 0, 0, .null), (.iload_n 3, 0, 0, .null), (.iconst (4), 0, 0, .int (4 : Int32)), (.iadd, 0, 0, .null)] (lv' := [(0, .retAddr 30), (1, .ref a1), (2, .ref a2), (3, .int a3)]) (st' := [.int (a3 + (4 : Int32)), .retAddr 30, .int (xs (a3 + (3 : Int32)).toNatClampNeg), .int (xs (a3 + (2 : Int32)).toNatClampNeg), .int (xs (a3 + (1 : Int32)).toNatClampNeg), .ref a2, .int u140.1]) (M1 := u140.2) (ob := []) (by decide +kernel) rfl sw_a0 ?_
                                            show sw_W _ _ 863 [(0, .retAddr 30), (1, .ref a1), (2, .ref a2), (3, .int a3)] [.int (a3 + (4 : Int32)), .retAddr 30, .int (xs (a3 + (3 : Int32)).toNatClampNeg), .int (xs (a3 + (2 : Int32)).toNatClampNeg), .int (xs (a3 + (1 : Int32)).toNatClampNeg), .ref a2, .int u140.1] u140.2
                                            refine sl_sld hX hs hb hB h138 (by decide +kernel) ?_
                                            show sw_W _ _ 864 [(0, .retAddr 30), (1, .ref a1), (2, .ref a2), (3, .int a3)] [.int (xs (a3 + (4 : Int32)).toNatClampNeg), .int (xs (a3 + (3 : Int32)).toNatClampNeg), .int (xs (a3 + (2 : Int32)).toNatClampNeg), .int (xs (a3 + (1 : Int32)).toNatClampNeg), .ref a2, .int u140.1] u140.2
                                            obtain ⟨h141, hf⟩ := sw_gd_1 hf
                                            obtain ⟨u142, hu142, hf⟩ := sw_bnd hf
                                            refine sl_callV hX (i := 98) (k2 := k_Model_sight) (d2 := d - 1) (As := [.int (xs (a3 + (1 : Int32)).toNatClampNeg), .int (xs (a3 + (2 : Int32)).toNatClampNeg), .int (xs (a3 + (3 : Int32)).toNatClampNeg), .int (xs (a3 + (4 : Int32)).toNatClampNeg)]) (st := [.int u140.1]) (q := a2) (ci := 12) mf_Model_sight mi_Model_sight ms_Model_sight (sw_m8 32 (by decide +kernel)) rfl (by decide) (by decide +kernel) rfl (Nat.le_of_ble_eq_true rfl) (by omega) h141 (o_Model_sight g (d := d - 1) (by omega) hu142) ?_
                                            show sw_W _ _ 867 [(0, .retAddr 30), (1, .ref a1), (2, .ref a2), (3, .int a3)] [.int u142.1, .int u140.1] u142.2
                                            refine sl_j_eq hX (off := 442) (tgt := 1309) (by decide +kernel) (by decide) hf (fun hc hf => ?_) (fun hc hf => ?_)
                                            · exact sw_weak [0, 1, 2, 3] rfl (t_Law_law_1309 hd hX hs hb hB hend hr hz _ ih hf)
                                            · exact sw_weak [] rfl (t_Law_law_870 hd hX hs hb hB hend hr hz hf)
                                          ·
                                            rcases sw_ite hf with ⟨h143, hf⟩ | ⟨h143, hf⟩
                                            · refine sl_tin hX (a := ((xs a3.toNatClampNeg) &&& (31 : Int32))) (off := 839) (tgt := 872) (len := 131) (show decode (k_c k_Law_law) 33 = .ok (.tableswitch (1276) (0) (28) #[131, 194, 217, 240, 263, 316, 379, 402, 425, 448, 501, 535, 578, 611, 644, 687, 720, 763, 786, 839, 862, 885, 928, 997, 1020, 1053, 1176, 1190, 1253], 131) by decide +kernel) (by rw [h143]; decide) (by rw [h143]; decide) (by rw [h143]; decide +kernel) (by decide) ?_
                                              obtain ⟨h144, hf⟩ := sw_gd_1 hf
                                              refine sl_blk hX [(.aload_n 1, 0, 0, .null), (.aload_n 0, 0, 0, .null), (.iload_n 3, 0, 0, .null), (.iconst (1), 0, 0, .int (1 : Int32)), (.iadd, 0, 0, .null)] (lv' := [(0, .retAddr 30), (1, .ref a1), (2, .ref a2), (3, .int a3)]) (st' := [.int (a3 + (1 : Int32)), .retAddr 30, .ref a1]) (M1 := M) (ob := []) (by decide +kernel) rfl sw_a0 ?_
                                              show sw_W _ _ 877 [(0, .retAddr 30), (1, .ref a1), (2, .ref a2), (3, .int a3)] [.int (a3 + (1 : Int32)), .retAddr 30, .ref a1] M
                                              refine sl_sld hX hs hb hB h144 (by decide +kernel) ?_
                                              show sw_W _ _ 878 [(0, .retAddr 30), (1, .ref a1), (2, .ref a2), (3, .int a3)] [.int (xs (a3 + (1 : Int32)).toNatClampNeg), .ref a1] M
                                              obtain ⟨h145, hf⟩ := sw_gd_1 hf
                                              obtain ⟨u146, hu146, hf⟩ := sw_bnd hf
                                              refine sl_callV hX (i := 99) (k2 := k_House_strike) (d2 := d - 1) (As := [.int (xs (a3 + (1 : Int32)).toNatClampNeg)]) (st := []) (q := a1) (ci := 11) mf_House_strike mi_House_strike ms_House_strike (sw_m5 21 (by decide +kernel)) rfl (by decide) (by decide +kernel) rfl (Nat.le_of_ble_eq_true rfl) (by omega) h145 (o_House_strike g (d := d - 1) (by omega) hu146) ?_
                                              show sw_W _ _ 881 [(0, .retAddr 30), (1, .ref a1), (2, .ref a2), (3, .int a3)] [.int u146.1] u146.2
                                              refine sl_blk hX [(.aload_n 2, 0, 0, .null), (.aload_n 0, 0, 0, .null), (.iload_n 3, 0, 0, .null), (.iconst (1), 0, 0, .int (1 : Int32)), (.iadd, 0, 0, .null)] (lv' := [(0, .retAddr 30), (1, .ref a1), (2, .ref a2), (3, .int a3)]) (st' := [.int (a3 + (1 : Int32)), .retAddr 30, .ref a2, .int u146.1]) (M1 := u146.2) (ob := []) (by decide +kernel) rfl sw_a0 ?_
                                              show sw_W _ _ 886 [(0, .retAddr 30), (1, .ref a1), (2, .ref a2), (3, .int a3)] [.int (a3 + (1 : Int32)), .retAddr 30, .ref a2, .int u146.1] u146.2
                                              refine sl_sld hX hs hb hB h144 (by decide +kernel) ?_
                                              show sw_W _ _ 887 [(0, .retAddr 30), (1, .ref a1), (2, .ref a2), (3, .int a3)] [.int (xs (a3 + (1 : Int32)).toNatClampNeg), .ref a2, .int u146.1] u146.2
                                              obtain ⟨h147, hf⟩ := sw_gd_1 hf
                                              obtain ⟨u148, hu148, hf⟩ := sw_bnd hf
                                              refine sl_callV hX (i := 102) (k2 := k_Model_strike) (d2 := d - 1) (As := [.int (xs (a3 + (1 : Int32)).toNatClampNeg)]) (st := [.int u146.1]) (q := a2) (ci := 12) mf_Model_strike mi_Model_strike ms_Model_strike (sw_m8 36 (by decide +kernel)) rfl (by decide) (by decide +kernel) rfl (Nat.le_of_ble_eq_true rfl) (by omega) h147 (o_Model_strike g (d := d - 1) (by omega) hu148) ?_
                                              show sw_W _ _ 890 [(0, .retAddr 30), (1, .ref a1), (2, .ref a2), (3, .int a3)] [.int u148.1, .int u146.1] u148.2
                                              refine sl_j_eq hX (off := 419) (tgt := 1309) (by decide +kernel) (by decide) hf (fun hc hf => ?_) (fun hc hf => ?_)
                                              · exact sw_weak [0, 1, 2, 3] rfl (t_Law_law_1309 hd hX hs hb hB hend hr hz _ ih hf)
                                              · refine sl_blk hX [(.iconst (0), 0, 0, .int (0 : Int32))] (lv' := [(0, .retAddr 30), (1, .ref a1), (2, .ref a2), (3, .int a3)]) (st' := [.int (0 : Int32)]) (M1 := u148.2) (ob := []) (by decide +kernel) rfl sw_a0 ?_
                                                show sw_W _ _ 894 [(0, .retAddr 30), (1, .ref a1), (2, .ref a2), (3, .int a3)] [.int (0 : Int32)] u148.2
                                                cases hf
                                                exact absurd (show (0 : Int32) = 1 from hr) (by decide)
                                            ·
                                              rcases sw_ite hf with ⟨h149, hf⟩ | ⟨h149, hf⟩
                                              · refine sl_tin hX (a := ((xs a3.toNatClampNeg) &&& (31 : Int32))) (off := 862) (tgt := 895) (len := 131) (show decode (k_c k_Law_law) 33 = .ok (.tableswitch (1276) (0) (28) #[131, 194, 217, 240, 263, 316, 379, 402, 425, 448, 501, 535, 578, 611, 644, 687, 720, 763, 786, 839, 862, 885, 928, 997, 1020, 1053, 1176, 1190, 1253], 131) by decide +kernel) (by rw [h149]; decide) (by rw [h149]; decide) (by rw [h149]; decide +kernel) (by decide) ?_
                                                obtain ⟨h150, hf⟩ := sw_gd_1 hf
                                                refine sl_blk hX [(.aload_n 1, 0, 0, .null), (.aload_n 0, 0, 0, .null), (.iload_n 3, 0, 0, .null), (.iconst (1), 0, 0, .int (1 : Int32)), (.iadd, 0, 0, .null)] (lv' := [(0, .retAddr 30), (1, .ref a1), (2, .ref a2), (3, .int a3)]) (st' := [.int (a3 + (1 : Int32)), .retAddr 30, .ref a1]) (M1 := M) (ob := []) (by decide +kernel) rfl sw_a0 ?_
                                                show sw_W _ _ 900 [(0, .retAddr 30), (1, .ref a1), (2, .ref a2), (3, .int a3)] [.int (a3 + (1 : Int32)), .retAddr 30, .ref a1] M
                                                refine sl_sld hX hs hb hB h150 (by decide +kernel) ?_
                                                show sw_W _ _ 901 [(0, .retAddr 30), (1, .ref a1), (2, .ref a2), (3, .int a3)] [.int (xs (a3 + (1 : Int32)).toNatClampNeg), .ref a1] M
                                                obtain ⟨h151, hf⟩ := sw_gd_1 hf
                                                obtain ⟨u152, hu152, hf⟩ := sw_bnd hf
                                                refine sl_callV hX (i := 103) (k2 := k_House_fits) (d2 := d - 1) (As := [.int (xs (a3 + (1 : Int32)).toNatClampNeg)]) (st := []) (q := a1) (ci := 11) mf_House_fits mi_House_fits ms_House_fits (sw_m5 25 (by decide +kernel)) rfl (by decide) (by decide +kernel) rfl (Nat.le_of_ble_eq_true rfl) (by omega) h151 (o_House_fits g (d := d - 1) (by omega) hu152) ?_
                                                show sw_W _ _ 904 [(0, .retAddr 30), (1, .ref a1), (2, .ref a2), (3, .int a3)] [.int u152.1] u152.2
                                                refine sl_blk hX [(.aload_n 2, 0, 0, .null), (.aload_n 0, 0, 0, .null), (.iload_n 3, 0, 0, .null), (.iconst (1), 0, 0, .int (1 : Int32)), (.iadd, 0, 0, .null)] (lv' := [(0, .retAddr 30), (1, .ref a1), (2, .ref a2), (3, .int a3)]) (st' := [.int (a3 + (1 : Int32)), .retAddr 30, .ref a2, .int u152.1]) (M1 := u152.2) (ob := []) (by decide +kernel) rfl sw_a0 ?_
                                                show sw_W _ _ 909 [(0, .retAddr 30), (1, .ref a1), (2, .ref a2), (3, .int a3)] [.int (a3 + (1 : Int32)), .retAddr 30, .ref a2, .int u152.1] u152.2
                                                refine sl_sld hX hs hb hB h150 (by decide +kernel) ?_
                                                show sw_W _ _ 910 [(0, .retAddr 30), (1, .ref a1), (2, .ref a2), (3, .int a3)] [.int (xs (a3 + (1 : Int32)).toNatClampNeg), .ref a2, .int u152.1] u152.2
                                                obtain ⟨h153, hf⟩ := sw_gd_1 hf
                                                obtain ⟨u154, hu154, hf⟩ := sw_bnd hf
                                                refine sl_callV hX (i := 106) (k2 := k_Model_fits) (d2 := d - 1) (As := [.int (xs (a3 + (1 : Int32)).toNatClampNeg)]) (st := [.int u152.1]) (q := a2) (ci := 12) mf_Model_fits mi_Model_fits ms_Model_fits (sw_m8 40 (by decide +kernel)) rfl (by decide) (by decide +kernel) rfl (Nat.le_of_ble_eq_true rfl) (by omega) h153 (o_Model_fits g (d := d - 1) (by omega) hu154) ?_
                                                show sw_W _ _ 913 [(0, .retAddr 30), (1, .ref a1), (2, .ref a2), (3, .int a3)] [.int u154.1, .int u152.1] u154.2
                                                refine sl_j_eq hX (off := 396) (tgt := 1309) (by decide +kernel) (by decide) hf (fun hc hf => ?_) (fun hc hf => ?_)
                                                · exact sw_weak [0, 1, 2, 3] rfl (t_Law_law_1309 hd hX hs hb hB hend hr hz _ ih hf)
                                                · refine sl_blk hX [(.iconst (0), 0, 0, .int (0 : Int32))] (lv' := [(0, .retAddr 30), (1, .ref a1), (2, .ref a2), (3, .int a3)]) (st' := [.int (0 : Int32)]) (M1 := u154.2) (ob := []) (by decide +kernel) rfl sw_a0 ?_
                                                  show sw_W _ _ 917 [(0, .retAddr 30), (1, .ref a1), (2, .ref a2), (3, .int a3)] [.int (0 : Int32)] u154.2
                                                  cases hf
                                                  exact absurd (show (0 : Int32) = 1 from hr) (by decide)
                                              ·
                                                rcases sw_ite hf with ⟨h155, hf⟩ | ⟨h155, hf⟩
                                                · refine sl_tin hX (a := ((xs a3.toNatClampNeg) &&& (31 : Int32))) (off := 885) (tgt := 918) (len := 131) (show decode (k_c k_Law_law) 33 = .ok (.tableswitch (1276) (0) (28) #[131, 194, 217, 240, 263, 316, 379, 402, 425, 448, 501, 535, 578, 611, 644, 687, 720, 763, 786, 839, 862, 885, 928, 997, 1020, 1053, 1176, 1190, 1253], 131) by decide +kernel) (by rw [h155]; decide) (by rw [h155]; decide) (by rw [h155]; decide +kernel) (by decide) ?_
                                                  obtain ⟨h156, hf⟩ := sw_gd_1 hf
                                                  refine sl_blk hX [(.aload_n 1, 0, 0, .null), (.aload_n 0, 0, 0, .null), (.iload_n 3, 0, 0, .null), (.iconst (1), 0, 0, .int (1 : Int32)), (.iadd, 0, 0, .null)] (lv' := [(0, .retAddr 30), (1, .ref a1), (2, .ref a2), (3, .int a3)]) (st' := [.int (a3 + (1 : Int32)), .retAddr 30, .ref a1]) (M1 := M) (ob := []) (by decide +kernel) rfl sw_a0 ?_
                                                  show sw_W _ _ 923 [(0, .retAddr 30), (1, .ref a1), (2, .ref a2), (3, .int a3)] [.int (a3 + (1 : Int32)), .retAddr 30, .ref a1] M
                                                  refine sl_sld hX hs hb hB h156 (by decide +kernel) ?_
                                                  show sw_W _ _ 924 [(0, .retAddr 30), (1, .ref a1), (2, .ref a2), (3, .int a3)] [.int (xs (a3 + (1 : Int32)).toNatClampNeg), .ref a1] M
                                                  obtain ⟨h157, hf⟩ := sw_gd_1 hf
                                                  refine sl_blk hX [(.aload_n 0, 0, 0, .null), (.iload_n 3, 0, 0, .null), (.iconst (2), 0, 0, .int (2 : Int32)), (.iadd, 0, 0, .null)] (lv' := [(0, .retAddr 30), (1, .ref a1), (2, .ref a2), (3, .int a3)]) (st' := [.int (a3 + (2 : Int32)), .retAddr 30, .int (xs (a3 + (1 : Int32)).toNatClampNeg), .ref a1]) (M1 := M) (ob := []) (by decide +kernel) rfl sw_a0 ?_
                                                  show sw_W _ _ 928 [(0, .retAddr 30), (1, .ref a1), (2, .ref a2), (3, .int a3)] [.int (a3 + (2 : Int32)), .retAddr 30, .int (xs (a3 + (1 : Int32)).toNatClampNeg), .ref a1] M
                                                  refine sl_sld hX hs hb hB h157 (by decide +kernel) ?_
                                                  show sw_W _ _ 929 [(0, .retAddr 30), (1, .ref a1), (2, .ref a2), (3, .int a3)] [.int (xs (a3 + (2 : Int32)).toNatClampNeg), .int (xs (a3 + (1 : Int32)).toNatClampNeg), .ref a1] M
                                                  obtain ⟨h158, hf⟩ := sw_gd_1 hf
                                                  refine sl_blk hX [(.aload_n 0, 0, 0, .null), (.iload_n 3, 0, 0, .null), (.iconst (3), 0, 0, .int (3 : Int32)), (.iadd, 0, 0, .null)] (lv' := [(0, .retAddr 30), (1, .ref a1), (2, .ref a2), (3, .int a3)]) (st' := [.int (a3 + (3 : Int32)), .retAddr 30, .int (xs (a3 + (2 : Int32)).toNatClampNeg), .int (xs (a3 + (1 : Int32)).toNatClampNeg), .ref a1]) (M1 := M) (ob := []) (by decide +kernel) rfl sw_a0 ?_
                                                  show sw_W _ _ 933 [(0, .retAddr 30), (1, .ref a1), (2, .ref a2), (3, .int a3)] [.int (a3 + (3 : Int32)), .retAddr 30, .int (xs (a3 + (2 : Int32)).toNatClampNeg), .int (xs (a3 + (1 : Int32)).toNatClampNeg), .ref a1] M
                                                  refine sl_sld hX hs hb hB h158 (by decide +kernel) ?_
                                                  show sw_W _ _ 934 [(0, .retAddr 30), (1, .ref a1), (2, .ref a2), (3, .int a3)] [.int (xs (a3 + (3 : Int32)).toNatClampNeg), .int (xs (a3 + (2 : Int32)).toNatClampNeg), .int (xs (a3 + (1 : Int32)).toNatClampNeg), .ref a1] M
                                                  obtain ⟨h159, hf⟩ := sw_gd_1 hf
                                                  obtain ⟨u160, hu160, hf⟩ := sw_bnd hf
                                                  refine sl_callV hX (i := 107) (k2 := k_House_weight) (d2 := d - 1) (As := [.int (xs (a3 + (1 : Int32)).toNatClampNeg), .int (xs (a3 + (2 : Int32)).toNatClampNeg), .int (xs (a3 + (3 : Int32)).toNatClampNeg)]) (st := []) (q := a1) (ci := 11) mf_House_weight mi_House_weight ms_House_weight (sw_m5 77 (by decide +kernel)) rfl (by decide) (by decide +kernel) rfl (Nat.le_of_ble_eq_true rfl) (by omega) h159 (o_House_weight g (d := d - 1) (by omega) hu160) ?_
                                                  show sw_W _ _ 937 [(0, .retAddr 30), (1, .ref a1), (2, .ref a2), (3, .int a3)] [.int u160.1] u160.2
                                                  refine sl_blk hX [(.aload_n 2, 0, 0, .null), (.aload_n 0, 0, 0, .null), (.iload_n 3, 0, 0, .null), (.iconst (1), 0, 0, .int (1 : Int32)), (.iadd, 0, 0, .null)] (lv' := [(0, .retAddr 30), (1, .ref a1), (2, .ref a2), (3, .int a3)]) (st' := [.int (a3 + (1 : Int32)), .retAddr 30, .ref a2, .int u160.1]) (M1 := u160.2) (ob := []) (by decide +kernel) rfl sw_a0 ?_
                                                  show sw_W _ _ 942 [(0, .retAddr 30), (1, .ref a1), (2, .ref a2), (3, .int a3)] [.int (a3 + (1 : Int32)), .retAddr 30, .ref a2, .int u160.1] u160.2
                                                  refine sl_sld hX hs hb hB h156 (by decide +kernel) ?_
                                                  show sw_W _ _ 943 [(0, .retAddr 30), (1, .ref a1), (2, .ref a2), (3, .int a3)] [.int (xs (a3 + (1 : Int32)).toNatClampNeg), .ref a2, .int u160.1] u160.2
                                                  refine sl_blk hX [(.aload_n 0, 0, 0, .null), (.iload_n 3, 0, 0, .null), (.iconst (2), 0, 0, .int (2 : Int32)), (.iadd, 0, 0, .null)] (lv' := [(0, .retAddr 30), (1, .ref a1), (2, .ref a2), (3, .int a3)]) (st' := [.int (a3 + (2 : Int32)), .retAddr 30, .int (xs (a3 + (1 : Int32)).toNatClampNeg), .ref a2, .int u160.1]) (M1 := u160.2) (ob := []) (by decide +kernel) rfl sw_a0 ?_
                                                  show sw_W _ _ 947 [(0, .retAddr 30), (1, .ref a1), (2, .ref a2), (3, .int a3)] [.int (a3 + (2 : Int32)), .retAddr 30, .int (xs (a3 + (1 : Int32)).toNatClampNeg), .ref a2, .int u160.1] u160.2
                                                  refine sl_sld hX hs hb hB h157 (by decide +kernel) ?_
                                                  show sw_W _ _ 948 [(0, .retAddr 30), (1, .ref a1), (2, .ref a2), (3, .int a3)] [.int (xs (a3 + (2 : Int32)).toNatClampNeg), .int (xs (a3 + (1 : Int32)).toNatClampNeg), .ref a2, .int u160.1] u160.2
                                                  refine sl_blk hX [(.aload_n 0, 0, 0, .null), (.iload_n 3, 0, 0, .null), (.iconst (3), 0, 0, .int (3 : Int32)), (.iadd, 0, 0, .null)] (lv' := [(0, .retAddr 30), (1, .ref a1), (2, .ref a2), (3, .int a3)]) (st' := [.int (a3 + (3 : Int32)), .retAddr 30, .int (xs (a3 + (2 : Int32)).toNatClampNeg), .int (xs (a3 + (1 : Int32)).toNatClampNeg), .ref a2, .int u160.1]) (M1 := u160.2) (ob := []) (by decide +kernel) rfl sw_a0 ?_
                                                  show sw_W _ _ 952 [(0, .retAddr 30), (1, .ref a1), (2, .ref a2), (3, .int a3)] [.int (a3 + (3 : Int32)), .retAddr 30, .int (xs (a3 + (2 : Int32)).toNatClampNeg), .int (xs (a3 + (1 : Int32)).toNatClampNeg), .ref a2, .int u160.1] u160.2
                                                  refine sl_sld hX hs hb hB h158 (by decide +kernel) ?_
                                                  show sw_W _ _ 953 [(0, .retAddr 30), (1, .ref a1), (2, .ref a2), (3, .int a3)] [.int (xs (a3 + (3 : Int32)).toNatClampNeg), .int (xs (a3 + (2 : Int32)).toNatClampNeg), .int (xs (a3 + (1 : Int32)).toNatClampNeg), .ref a2, .int u160.1] u160.2
                                                  obtain ⟨h161, hf⟩ := sw_gd_1 hf
                                                  obtain ⟨u162, hu162, hf⟩ := sw_bnd hf
                                                  refine sl_callV hX (i := 110) (k2 := k_Model_weight) (d2 := d - 1) (As := [.int (xs (a3 + (1 : Int32)).toNatClampNeg), .int (xs (a3 + (2 : Int32)).toNatClampNeg), .int (xs (a3 + (3 : Int32)).toNatClampNeg)]) (st := [.int u160.1]) (q := a2) (ci := 12) mf_Model_weight mi_Model_weight ms_Model_weight (sw_m8 81 (by decide +kernel)) rfl (by decide) (by decide +kernel) rfl (Nat.le_of_ble_eq_true rfl) (by omega) h161 (o_Model_weight g (d := d - 1) (by omega) hu162) ?_
                                                  show sw_W _ _ 956 [(0, .retAddr 30), (1, .ref a1), (2, .ref a2), (3, .int a3)] [.int u162.1, .int u160.1] u162.2
                                                  refine sl_j_eq hX (off := 353) (tgt := 1309) (by decide +kernel) (by decide) hf (fun hc hf => ?_) (fun hc hf => ?_)
                                                  · exact sw_weak [0, 1, 2, 3] rfl (t_Law_law_1309 hd hX hs hb hB hend hr hz _ ih hf)
                                                  · exact sw_weak [] rfl (t_Law_law_959 hd hX hs hb hB hend hr hz hf)
                                                ·
                                                  rcases sw_ite hf with ⟨h163, hf⟩ | ⟨h163, hf⟩
                                                  · refine sl_tin hX (a := ((xs a3.toNatClampNeg) &&& (31 : Int32))) (off := 928) (tgt := 961) (len := 131) (show decode (k_c k_Law_law) 33 = .ok (.tableswitch (1276) (0) (28) #[131, 194, 217, 240, 263, 316, 379, 402, 425, 448, 501, 535, 578, 611, 644, 687, 720, 763, 786, 839, 862, 885, 928, 997, 1020, 1053, 1176, 1190, 1253], 131) by decide +kernel) (by rw [h163]; decide) (by rw [h163]; decide) (by rw [h163]; decide +kernel) (by decide) ?_
                                                    obtain ⟨h164, hf⟩ := sw_gd_1 hf
                                                    refine sl_blk hX [(.aload_n 1, 0, 0, .null), (.aload_n 0, 0, 0, .null), (.iload_n 3, 0, 0, .null), (.iconst (1), 0, 0, .int (1 : Int32)), (.iadd, 0, 0, .null)] (lv' := [(0, .retAddr 30), (1, .ref a1), (2, .ref a2), (3, .int a3)]) (st' := [.int (a3 + (1 : Int32)), .retAddr 30, .ref a1]) (M1 := M) (ob := []) (by decide +kernel) rfl sw_a0 ?_
                                                    show sw_W _ _ 966 [(0, .retAddr 30), (1, .ref a1), (2, .ref a2), (3, .int a3)] [.int (a3 + (1 : Int32)), .retAddr 30, .ref a1] M
                                                    refine sl_sld hX hs hb hB h164 (by decide +kernel) ?_
                                                    show sw_W _ _ 967 [(0, .retAddr 30), (1, .ref a1), (2, .ref a2), (3, .int a3)] [.int (xs (a3 + (1 : Int32)).toNatClampNeg), .ref a1] M
                                                    obtain ⟨h165, hf⟩ := sw_gd_1 hf
                                                    refine sl_blk hX [(.aload_n 0, 0, 0, .null), (.iload_n 3, 0, 0, .null), (.iconst (2), 0, 0, .int (2 : Int32)), (.iadd, 0, 0, .null)] (lv' := [(0, .retAddr 30), (1, .ref a1), (2, .ref a2), (3, .int a3)]) (st' := [.int (a3 + (2 : Int32)), .retAddr 30, .int (xs (a3 + (1 : Int32)).toNatClampNeg), .ref a1]) (M1 := M) (ob := []) (by decide +kernel) rfl sw_a0 ?_
                                                    show sw_W _ _ 971 [(0, .retAddr 30), (1, .ref a1), (2, .ref a2), (3, .int a3)] [.int (a3 + (2 : Int32)), .retAddr 30, .int (xs (a3 + (1 : Int32)).toNatClampNeg), .ref a1] M
                                                    refine sl_sld hX hs hb hB h165 (by decide +kernel) ?_
                                                    show sw_W _ _ 972 [(0, .retAddr 30), (1, .ref a1), (2, .ref a2), (3, .int a3)] [.int (xs (a3 + (2 : Int32)).toNatClampNeg), .int (xs (a3 + (1 : Int32)).toNatClampNeg), .ref a1] M
                                                    obtain ⟨h166, hf⟩ := sw_gd_1 hf
                                                    refine sl_blk hX [(.aload_n 0, 0, 0, .null), (.iload_n 3, 0, 0, .null), (.iconst (3), 0, 0, .int (3 : Int32)), (.iadd, 0, 0, .null)] (lv' := [(0, .retAddr 30), (1, .ref a1), (2, .ref a2), (3, .int a3)]) (st' := [.int (a3 + (3 : Int32)), .retAddr 30, .int (xs (a3 + (2 : Int32)).toNatClampNeg), .int (xs (a3 + (1 : Int32)).toNatClampNeg), .ref a1]) (M1 := M) (ob := []) (by decide +kernel) rfl sw_a0 ?_
                                                    show sw_W _ _ 976 [(0, .retAddr 30), (1, .ref a1), (2, .ref a2), (3, .int a3)] [.int (a3 + (3 : Int32)), .retAddr 30, .int (xs (a3 + (2 : Int32)).toNatClampNeg), .int (xs (a3 + (1 : Int32)).toNatClampNeg), .ref a1] M
                                                    refine sl_sld hX hs hb hB h166 (by decide +kernel) ?_
                                                    show sw_W _ _ 977 [(0, .retAddr 30), (1, .ref a1), (2, .ref a2), (3, .int a3)] [.int (xs (a3 + (3 : Int32)).toNatClampNeg), .int (xs (a3 + (2 : Int32)).toNatClampNeg), .int (xs (a3 + (1 : Int32)).toNatClampNeg), .ref a1] M
                                                    obtain ⟨h167, hf⟩ := sw_gd_1 hf
                                                    refine sl_blk hX [(.aload_n 0, 0, 0, .null), (.iload_n 3, 0, 0, .null), (.iconst (4), 0, 0, .int (4 : Int32)), (.iadd, 0, 0, .null)] (lv' := [(0, .retAddr 30), (1, .ref a1), (2, .ref a2), (3, .int a3)]) (st' := [.int (a3 + (4 : Int32)), .retAddr 30, .int (xs (a3 + (3 : Int32)).toNatClampNeg), .int (xs (a3 + (2 : Int32)).toNatClampNeg), .int (xs (a3 + (1 : Int32)).toNatClampNeg), .ref a1]) (M1 := M) (ob := []) (by decide +kernel) rfl sw_a0 ?_
                                                    show sw_W _ _ 981 [(0, .retAddr 30), (1, .ref a1), (2, .ref a2), (3, .int a3)] [.int (a3 + (4 : Int32)), .retAddr 30, .int (xs (a3 + (3 : Int32)).toNatClampNeg), .int (xs (a3 + (2 : Int32)).toNatClampNeg), .int (xs (a3 + (1 : Int32)).toNatClampNeg), .ref a1] M
                                                    refine sl_sld hX hs hb hB h167 (by decide +kernel) ?_
                                                    show sw_W _ _ 982 [(0, .retAddr 30), (1, .ref a1), (2, .ref a2), (3, .int a3)] [.int (xs (a3 + (4 : Int32)).toNatClampNeg), .int (xs (a3 + (3 : Int32)).toNatClampNeg), .int (xs (a3 + (2 : Int32)).toNatClampNeg), .int (xs (a3 + (1 : Int32)).toNatClampNeg), .ref a1] M
                                                    refine sl_z_eq hX (off := 7) (tgt := 989) (by decide +kernel) (by decide) hf (fun hc hf => ?_) (fun hc hf => ?_)
                                                    · refine sl_blk hX [(.iconst (0), 0, 0, .int (0 : Int32))] (lv' := [(0, .retAddr 30), (1, .ref a1), (2, .ref a2), (3, .int a3)]) (st' := [.int (0 : Int32), .int (xs (a3 + (3 : Int32)).toNatClampNeg), .int (xs (a3 + (2 : Int32)).toNatClampNeg), .int (xs (a3 + (1 : Int32)).toNatClampNeg), .ref a1]) (M1 := M) (ob := []) (by decide +kernel) rfl sw_a0 ?_
                                                      show sw_W _ _ 990 [(0, .retAddr 30), (1, .ref a1), (2, .ref a2), (3, .int a3)] [.int (0 : Int32), .int (xs (a3 + (3 : Int32)).toNatClampNeg), .int (xs (a3 + (2 : Int32)).toNatClampNeg), .int (xs (a3 + (1 : Int32)).toNatClampNeg), .ref a1] M
                                                      exact sw_weak [0, 1, 2, 3] rfl (t_Law_law_990 hd hX hs hb hB hend hr hz _ ih hf)
                                                    · refine sl_blk hX [(.iconst (1), 0, 0, .int (1 : Int32))] (lv' := [(0, .retAddr 30), (1, .ref a1), (2, .ref a2), (3, .int a3)]) (st' := [.int (1 : Int32), .int (xs (a3 + (3 : Int32)).toNatClampNeg), .int (xs (a3 + (2 : Int32)).toNatClampNeg), .int (xs (a3 + (1 : Int32)).toNatClampNeg), .ref a1]) (M1 := M) (ob := []) (by decide +kernel) rfl sw_a0 ?_
                                                      show sw_W _ _ 986 [(0, .retAddr 30), (1, .ref a1), (2, .ref a2), (3, .int a3)] [.int (1 : Int32), .int (xs (a3 + (3 : Int32)).toNatClampNeg), .int (xs (a3 + (2 : Int32)).toNatClampNeg), .int (xs (a3 + (1 : Int32)).toNatClampNeg), .ref a1] M
                                                      refine sl_goto hX (off := 4) (tgt := 990) (by decide +kernel) (by decide) ?_
                                                      exact sw_weak [0, 1, 2, 3] rfl (t_Law_law_990 hd hX hs hb hB hend hr hz _ ih hf)
                                                  ·
                                                    rcases sw_ite hf with ⟨h168, hf⟩ | ⟨h168, hf⟩
                                                    · refine sl_tin hX (a := ((xs a3.toNatClampNeg) &&& (31 : Int32))) (off := 997) (tgt := 1030) (len := 131) (show decode (k_c k_Law_law) 33 = .ok (.tableswitch (1276) (0) (28) #[131, 194, 217, 240, 263, 316, 379, 402, 425, 448, 501, 535, 578, 611, 644, 687, 720, 763, 786, 839, 862, 885, 928, 997, 1020, 1053, 1176, 1190, 1253], 131) by decide +kernel) (by rw [h168]; decide) (by rw [h168]; decide) (by rw [h168]; decide +kernel) (by decide) ?_
                                                      obtain ⟨h169, hf⟩ := sw_gd_1 hf
                                                      refine sl_blk hX [(.aload_n 1, 0, 0, .null), (.aload_n 0, 0, 0, .null), (.iload_n 3, 0, 0, .null), (.iconst (1), 0, 0, .int (1 : Int32)), (.iadd, 0, 0, .null)] (lv' := [(0, .retAddr 30), (1, .ref a1), (2, .ref a2), (3, .int a3)]) (st' := [.int (a3 + (1 : Int32)), .retAddr 30, .ref a1]) (M1 := M) (ob := []) (by decide +kernel) rfl sw_a0 ?_
                                                      show sw_W _ _ 1035 [(0, .retAddr 30), (1, .ref a1), (2, .ref a2), (3, .int a3)] [.int (a3 + (1 : Int32)), .retAddr 30, .ref a1] M
                                                      refine sl_sld hX hs hb hB h169 (by decide +kernel) ?_
                                                      show sw_W _ _ 1036 [(0, .retAddr 30), (1, .ref a1), (2, .ref a2), (3, .int a3)] [.int (xs (a3 + (1 : Int32)).toNatClampNeg), .ref a1] M
                                                      obtain ⟨h170, hf⟩ := sw_gd_1 hf
                                                      obtain ⟨u171, hu171, hf⟩ := sw_bnd hf
                                                      refine sl_callV hX (i := 116) (k2 := k_House_quarrel) (d2 := d - 1) (As := [.int (xs (a3 + (1 : Int32)).toNatClampNeg)]) (st := []) (q := a1) (ci := 11) mf_House_quarrel mi_House_quarrel ms_House_quarrel (sw_m5 94 (by decide +kernel)) rfl (by decide) (by decide +kernel) rfl (Nat.le_of_ble_eq_true rfl) (by omega) h170 (o_House_quarrel g (d := d - 1) (by omega) hu171) ?_
                                                      show sw_W _ _ 1039 [(0, .retAddr 30), (1, .ref a1), (2, .ref a2), (3, .int a3)] [.int u171.1] u171.2
                                                      refine sl_blk hX [(.aload_n 2, 0, 0, .null), (.aload_n 0, 0, 0, .null), (.iload_n 3, 0, 0, .null), (.iconst (1), 0, 0, .int (1 : Int32)), (.iadd, 0, 0, .null)] (lv' := [(0, .retAddr 30), (1, .ref a1), (2, .ref a2), (3, .int a3)]) (st' := [.int (a3 + (1 : Int32)), .retAddr 30, .ref a2, .int u171.1]) (M1 := u171.2) (ob := []) (by decide +kernel) rfl sw_a0 ?_
                                                      show sw_W _ _ 1044 [(0, .retAddr 30), (1, .ref a1), (2, .ref a2), (3, .int a3)] [.int (a3 + (1 : Int32)), .retAddr 30, .ref a2, .int u171.1] u171.2
                                                      refine sl_sld hX hs hb hB h169 (by decide +kernel) ?_
                                                      show sw_W _ _ 1045 [(0, .retAddr 30), (1, .ref a1), (2, .ref a2), (3, .int a3)] [.int (xs (a3 + (1 : Int32)).toNatClampNeg), .ref a2, .int u171.1] u171.2
                                                      obtain ⟨h172, hf⟩ := sw_gd_1 hf
                                                      obtain ⟨u173, hu173, hf⟩ := sw_bnd hf
                                                      refine sl_callV hX (i := 119) (k2 := k_Model_quarrel) (d2 := d - 1) (As := [.int (xs (a3 + (1 : Int32)).toNatClampNeg)]) (st := [.int u171.1]) (q := a2) (ci := 12) mf_Model_quarrel mi_Model_quarrel ms_Model_quarrel (sw_m8 91 (by decide +kernel)) rfl (by decide) (by decide +kernel) rfl (Nat.le_of_ble_eq_true rfl) (by omega) h172 (o_Model_quarrel g (d := d - 1) (by omega) hu173) ?_
                                                      show sw_W _ _ 1048 [(0, .retAddr 30), (1, .ref a1), (2, .ref a2), (3, .int a3)] [.int u173.1, .int u171.1] u173.2
                                                      refine sl_j_eq hX (off := 261) (tgt := 1309) (by decide +kernel) (by decide) hf (fun hc hf => ?_) (fun hc hf => ?_)
                                                      · exact sw_weak [0, 1, 2, 3] rfl (t_Law_law_1309 hd hX hs hb hB hend hr hz _ ih hf)
                                                      · refine sl_blk hX [(.iconst (0), 0, 0, .int (0 : Int32))] (lv' := [(0, .retAddr 30), (1, .ref a1), (2, .ref a2), (3, .int a3)]) (st' := [.int (0 : Int32)]) (M1 := u173.2) (ob := []) (by decide +kernel) rfl sw_a0 ?_
                                                        show sw_W _ _ 1052 [(0, .retAddr 30), (1, .ref a1), (2, .ref a2), (3, .int a3)] [.int (0 : Int32)] u173.2
                                                        cases hf
                                                        exact absurd (show (0 : Int32) = 1 from hr) (by decide)
                                                    ·
                                                      rcases sw_ite hf with ⟨h174, hf⟩ | ⟨h174, hf⟩
                                                      · refine sl_tin hX (a := ((xs a3.toNatClampNeg) &&& (31 : Int32))) (off := 1020) (tgt := 1053) (len := 131) (show decode (k_c k_Law_law) 33 = .ok (.tableswitch (1276) (0) (28) #[131, 194, 217, 240, 263, 316, 379, 402, 425, 448, 501, 535, 578, 611, 644, 687, 720, 763, 786, 839, 862, 885, 928, 997, 1020, 1053, 1176, 1190, 1253], 131) by decide +kernel) (by rw [h174]; decide) (by rw [h174]; decide) (by rw [h174]; decide +kernel) (by decide) ?_
                                                        obtain ⟨h175, hf⟩ := sw_gd_1 hf
                                                        refine sl_blk hX [(.aload_n 1, 0, 0, .null), (.aload_n 0, 0, 0, .null), (.iload_n 3, 0, 0, .null), (.iconst (1), 0, 0, .int (1 : Int32)), (.iadd, 0, 0, .null)] (lv' := [(0, .retAddr 30), (1, .ref a1), (2, .ref a2), (3, .int a3)]) (st' := [.int (a3 + (1 : Int32)), .retAddr 30, .ref a1]) (M1 := M) (ob := []) (by decide +kernel) rfl sw_a0 ?_
                                                        show sw_W _ _ 1058 [(0, .retAddr 30), (1, .ref a1), (2, .ref a2), (3, .int a3)] [.int (a3 + (1 : Int32)), .retAddr 30, .ref a1] M
                                                        refine sl_sld hX hs hb hB h175 (by decide +kernel) ?_
                                                        show sw_W _ _ 1059 [(0, .retAddr 30), (1, .ref a1), (2, .ref a2), (3, .int a3)] [.int (xs (a3 + (1 : Int32)).toNatClampNeg), .ref a1] M
                                                        obtain ⟨h176, hf⟩ := sw_gd_1 hf
                                                        refine sl_blk hX [(.aload_n 0, 0, 0, .null), (.iload_n 3, 0, 0, .null), (.iconst (2), 0, 0, .int (2 : Int32)), (.iadd, 0, 0, .null)] (lv' := [(0, .retAddr 30), (1, .ref a1), (2, .ref a2), (3, .int a3)]) (st' := [.int (a3 + (2 : Int32)), .retAddr 30, .int (xs (a3 + (1 : Int32)).toNatClampNeg), .ref a1]) (M1 := M) (ob := []) (by decide +kernel) rfl sw_a0 ?_
                                                        show sw_W _ _ 1063 [(0, .retAddr 30), (1, .ref a1), (2, .ref a2), (3, .int a3)] [.int (a3 + (2 : Int32)), .retAddr 30, .int (xs (a3 + (1 : Int32)).toNatClampNeg), .ref a1] M
                                                        refine sl_sld hX hs hb hB h176 (by decide +kernel) ?_
                                                        show sw_W _ _ 1064 [(0, .retAddr 30), (1, .ref a1), (2, .ref a2), (3, .int a3)] [.int (xs (a3 + (2 : Int32)).toNatClampNeg), .int (xs (a3 + (1 : Int32)).toNatClampNeg), .ref a1] M
                                                        obtain ⟨h177, hf⟩ := sw_gd_1 hf
                                                        obtain ⟨u178, hu178, hf⟩ := sw_bnd hf
                                                        refine sl_callV hX (i := 120) (k2 := k_House_models) (d2 := d - 1) (As := [.int (xs (a3 + (1 : Int32)).toNatClampNeg), .int (xs (a3 + (2 : Int32)).toNatClampNeg)]) (st := []) (q := a1) (ci := 11) mf_House_models mi_House_models ms_House_models (sw_m5 120 (by decide +kernel)) rfl (by decide) (by decide +kernel) rfl (Nat.le_of_ble_eq_true rfl) (by omega) h177 (o_House_models g (d := d - 1) (by omega) hu178) ?_
                                                        show sw_W _ _ 1067 [(0, .retAddr 30), (1, .ref a1), (2, .ref a2), (3, .int a3)] [.int u178.1] u178.2
                                                        refine sl_blk hX [(.aload_n 2, 0, 0, .null), (.aload_n 0, 0, 0, .null), (.iload_n 3, 0, 0, .null), (.iconst (1), 0, 0, .int (1 : Int32)), (.iadd, 0, 0, .null)] (lv' := [(0, .retAddr 30), (1, .ref a1), (2, .ref a2), (3, .int a3)]) (st' := [.int (a3 + (1 : Int32)), .retAddr 30, .ref a2, .int u178.1]) (M1 := u178.2) (ob := []) (by decide +kernel) rfl sw_a0 ?_
                                                        show sw_W _ _ 1072 [(0, .retAddr 30), (1, .ref a1), (2, .ref a2), (3, .int a3)] [.int (a3 + (1 : Int32)), .retAddr 30, .ref a2, .int u178.1] u178.2
                                                        refine sl_sld hX hs hb hB h175 (by decide +kernel) ?_
                                                        show sw_W _ _ 1073 [(0, .retAddr 30), (1, .ref a1), (2, .ref a2), (3, .int a3)] [.int (xs (a3 + (1 : Int32)).toNatClampNeg), .ref a2, .int u178.1] u178.2
                                                        refine sl_blk hX [(.aload_n 0, 0, 0, .null), (.iload_n 3, 0, 0, .null), (.iconst (2), 0, 0, .int (2 : Int32)), (.iadd, 0, 0, .null)] (lv' := [(0, .retAddr 30), (1, .ref a1), (2, .ref a2), (3, .int a3)]) (st' := [.int (a3 + (2 : Int32)), .retAddr 30, .int (xs (a3 + (1 : Int32)).toNatClampNeg), .ref a2, .int u178.1]) (M1 := u178.2) (ob := []) (by decide +kernel) rfl sw_a0 ?_
                                                        show sw_W _ _ 1077 [(0, .retAddr 30), (1, .ref a1), (2, .ref a2), (3, .int a3)] [.int (a3 + (2 : Int32)), .retAddr 30, .int (xs (a3 + (1 : Int32)).toNatClampNeg), .ref a2, .int u178.1] u178.2
                                                        refine sl_sld hX hs hb hB h176 (by decide +kernel) ?_
                                                        show sw_W _ _ 1078 [(0, .retAddr 30), (1, .ref a1), (2, .ref a2), (3, .int a3)] [.int (xs (a3 + (2 : Int32)).toNatClampNeg), .int (xs (a3 + (1 : Int32)).toNatClampNeg), .ref a2, .int u178.1] u178.2
                                                        obtain ⟨h179, hf⟩ := sw_gd_1 hf
                                                        obtain ⟨u180, hu180, hf⟩ := sw_bnd hf
                                                        refine sl_callV hX (i := 123) (k2 := k_Model_models) (d2 := d - 1) (As := [.int (xs (a3 + (1 : Int32)).toNatClampNeg), .int (xs (a3 + (2 : Int32)).toNatClampNeg)]) (st := [.int u178.1]) (q := a2) (ci := 12) mf_Model_models mi_Model_models ms_Model_models (sw_m8 98 (by decide +kernel)) rfl (by decide) (by decide +kernel) rfl (Nat.le_of_ble_eq_true rfl) (by omega) h179 (o_Model_models g (d := d - 1) (by omega) hu180) ?_
                                                        show sw_W _ _ 1081 [(0, .retAddr 30), (1, .ref a1), (2, .ref a2), (3, .int a3)] [.int u180.1, .int u178.1] u180.2
                                                        refine sl_j_eq hX (off := 228) (tgt := 1309) (by decide +kernel) (by decide) hf (fun hc hf => ?_) (fun hc hf => ?_)
                                                        · exact sw_weak [0, 1, 2, 3] rfl (t_Law_law_1309 hd hX hs hb hB hend hr hz _ ih hf)
                                                        · exact sw_weak [] rfl (t_Law_law_1084 hd hX hs hb hB hend hr hz hf)
                                                      ·
                                                        rcases sw_ite hf with ⟨h181, hf⟩ | ⟨h181, hf⟩
                                                        · refine sl_tin hX (a := ((xs a3.toNatClampNeg) &&& (31 : Int32))) (off := 1053) (tgt := 1086) (len := 131) (show decode (k_c k_Law_law) 33 = .ok (.tableswitch (1276) (0) (28) #[131, 194, 217, 240, 263, 316, 379, 402, 425, 448, 501, 535, 578, 611, 644, 687, 720, 763, 786, 839, 862, 885, 928, 997, 1020, 1053, 1176, 1190, 1253], 131) by decide +kernel) (by rw [h181]; decide) (by rw [h181]; decide) (by rw [h181]; decide +kernel) (by decide) ?_
                                                          obtain ⟨h182, hf⟩ := sw_gd_1 hf
                                                          refine sl_blk hX [(.aload_n 1, 0, 0, .null), (.aload_n 0, 0, 0, .null), (.iload_n 3, 0, 0, .null), (.iconst (1), 0, 0, .int (1 : Int32)), (.iadd, 0, 0, .null)] (lv' := [(0, .retAddr 30), (1, .ref a1), (2, .ref a2), (3, .int a3)]) (st' := [.int (a3 + (1 : Int32)), .retAddr 30, .ref a1]) (M1 := M) (ob := []) (by decide +kernel) rfl sw_a0 ?_
                                                          show sw_W _ _ 1091 [(0, .retAddr 30), (1, .ref a1), (2, .ref a2), (3, .int a3)] [.int (a3 + (1 : Int32)), .retAddr 30, .ref a1] M
                                                          refine sl_sld hX hs hb hB h182 (by decide +kernel) ?_
                                                          show sw_W _ _ 1092 [(0, .retAddr 30), (1, .ref a1), (2, .ref a2), (3, .int a3)] [.int (xs (a3 + (1 : Int32)).toNatClampNeg), .ref a1] M
                                                          obtain ⟨h183, hf⟩ := sw_gd_1 hf
                                                          refine sl_blk hX [(.aload_n 0, 0, 0, .null), (.iload_n 3, 0, 0, .null), (.iconst (2), 0, 0, .int (2 : Int32)), (.iadd, 0, 0, .null)] (lv' := [(0, .retAddr 30), (1, .ref a1), (2, .ref a2), (3, .int a3)]) (st' := [.int (a3 + (2 : Int32)), .retAddr 30, .int (xs (a3 + (1 : Int32)).toNatClampNeg), .ref a1]) (M1 := M) (ob := []) (by decide +kernel) rfl sw_a0 ?_
                                                          show sw_W _ _ 1096 [(0, .retAddr 30), (1, .ref a1), (2, .ref a2), (3, .int a3)] [.int (a3 + (2 : Int32)), .retAddr 30, .int (xs (a3 + (1 : Int32)).toNatClampNeg), .ref a1] M
                                                          refine sl_sld hX hs hb hB h183 (by decide +kernel) ?_
                                                          show sw_W _ _ 1097 [(0, .retAddr 30), (1, .ref a1), (2, .ref a2), (3, .int a3)] [.int (xs (a3 + (2 : Int32)).toNatClampNeg), .int (xs (a3 + (1 : Int32)).toNatClampNeg), .ref a1] M
                                                          obtain ⟨h184, hf⟩ := sw_gd_1 hf
                                                          refine sl_blk hX [(.aload_n 0, 0, 0, .null), (.iload_n 3, 0, 0, .null), (.iconst (3), 0, 0, .int (3 : Int32)), (.iadd, 0, 0, .null)] (lv' := [(0, .retAddr 30), (1, .ref a1), (2, .ref a2), (3, .int a3)]) (st' := [.int (a3 + (3 : Int32)), .retAddr 30, .int (xs (a3 + (2 : Int32)).toNatClampNeg), .int (xs (a3 + (1 : Int32)).toNatClampNeg), .ref a1]) (M1 := M) (ob := []) (by decide +kernel) rfl sw_a0 ?_
                                                          show sw_W _ _ 1101 [(0, .retAddr 30), (1, .ref a1), (2, .ref a2), (3, .int a3)] [.int (a3 + (3 : Int32)), .retAddr 30, .int (xs (a3 + (2 : Int32)).toNatClampNeg), .int (xs (a3 + (1 : Int32)).toNatClampNeg), .ref a1] M
                                                          refine sl_sld hX hs hb hB h184 (by decide +kernel) ?_
                                                          show sw_W _ _ 1102 [(0, .retAddr 30), (1, .ref a1), (2, .ref a2), (3, .int a3)] [.int (xs (a3 + (3 : Int32)).toNatClampNeg), .int (xs (a3 + (2 : Int32)).toNatClampNeg), .int (xs (a3 + (1 : Int32)).toNatClampNeg), .ref a1] M
                                                          obtain ⟨h185, hf⟩ := sw_gd_1 hf
                                                          refine sl_blk hX [(.aload_n 0, 0, 0, .null), (.iload_n 3, 0, 0, .null), (.iconst (4), 0, 0, .int (4 : Int32)), (.iadd, 0, 0, .null)] (lv' := [(0, .retAddr 30), (1, .ref a1), (2, .ref a2), (3, .int a3)]) (st' := [.int (a3 + (4 : Int32)), .retAddr 30, .int (xs (a3 + (3 : Int32)).toNatClampNeg), .int (xs (a3 + (2 : Int32)).toNatClampNeg), .int (xs (a3 + (1 : Int32)).toNatClampNeg), .ref a1]) (M1 := M) (ob := []) (by decide +kernel) rfl sw_a0 ?_
                                                          show sw_W _ _ 1106 [(0, .retAddr 30), (1, .ref a1), (2, .ref a2), (3, .int a3)] [.int (a3 + (4 : Int32)), .retAddr 30, .int (xs (a3 + (3 : Int32)).toNatClampNeg), .int (xs (a3 + (2 : Int32)).toNatClampNeg), .int (xs (a3 + (1 : Int32)).toNatClampNeg), .ref a1] M
                                                          refine sl_sld hX hs hb hB h185 (by decide +kernel) ?_
                                                          show sw_W _ _ 1107 [(0, .retAddr 30), (1, .ref a1), (2, .ref a2), (3, .int a3)] [.int (xs (a3 + (4 : Int32)).toNatClampNeg), .int (xs (a3 + (3 : Int32)).toNatClampNeg), .int (xs (a3 + (2 : Int32)).toNatClampNeg), .int (xs (a3 + (1 : Int32)).toNatClampNeg), .ref a1] M
                                                          obtain ⟨h186, hf⟩ := sw_gd_1 hf
                                                          refine sl_blk hX [(.aload_n 0, 0, 0, .null), (.iload_n 3, 0, 0, .null), (.iconst (5), 0, 0, .int (5 : Int32)), (.iadd, 0, 0, .null)] (lv' := [(0, .retAddr 30), (1, .ref a1), (2, .ref a2), (3, .int a3)]) (st' := [.int (a3 + (5 : Int32)), .retAddr 30, .int (xs (a3 + (4 : Int32)).toNatClampNeg), .int (xs (a3 + (3 : Int32)).toNatClampNeg), .int (xs (a3 + (2 : Int32)).toNatClampNeg), .int (xs (a3 + (1 : Int32)).toNatClampNeg), .ref a1]) (M1 := M) (ob := []) (by decide +kernel) rfl sw_a0 ?_
                                                          show sw_W _ _ 1111 [(0, .retAddr 30), (1, .ref a1), (2, .ref a2), (3, .int a3)] [.int (a3 + (5 : Int32)), .retAddr 30, .int (xs (a3 + (4 : Int32)).toNatClampNeg), .int (xs (a3 + (3 : Int32)).toNatClampNeg), .int (xs (a3 + (2 : Int32)).toNatClampNeg), .int (xs (a3 + (1 : Int32)).toNatClampNeg), .ref a1] M
                                                          refine sl_sld hX hs hb hB h186 (by decide +kernel) ?_
                                                          show sw_W _ _ 1112 [(0, .retAddr 30), (1, .ref a1), (2, .ref a2), (3, .int a3)] [.int (xs (a3 + (5 : Int32)).toNatClampNeg), .int (xs (a3 + (4 : Int32)).toNatClampNeg), .int (xs (a3 + (3 : Int32)).toNatClampNeg), .int (xs (a3 + (2 : Int32)).toNatClampNeg), .int (xs (a3 + (1 : Int32)).toNatClampNeg), .ref a1] M
                                                          obtain ⟨h187, hf⟩ := sw_gd_1 hf
                                                          refine sl_blk hX [(.aload_n 0, 0, 0, .null), (.iload_n 3, 0, 0, .null), (.bipush (6), 0, 0, .int (6 : Int32)), (.iadd, 0, 0, .null)] (lv' := [(0, .retAddr 30), (1, .ref a1), (2, .ref a2), (3, .int a3)]) (st' := [.int (a3 + (6 : Int32)), .retAddr 30, .int (xs (a3 + (5 : Int32)).toNatClampNeg), .int (xs (a3 + (4 : Int32)).toNatClampNeg), .int (xs (a3 + (3 : Int32)).toNatClampNeg), .int (xs (a3 + (2 : Int32)).toNatClampNeg), .int (xs (a3 + (1 : Int32)).toNatClampNeg), .ref a1]) (M1 := M) (ob := []) (by decide +kernel) rfl sw_a0 ?_
                                                          show sw_W _ _ 1117 [(0, .retAddr 30), (1, .ref a1), (2, .ref a2), (3, .int a3)] [.int (a3 + (6 : Int32)), .retAddr 30, .int (xs (a3 + (5 : Int32)).toNatClampNeg), .int (xs (a3 + (4 : Int32)).toNatClampNeg), .int (xs (a3 + (3 : Int32)).toNatClampNeg), .int (xs (a3 + (2 : Int32)).toNatClampNeg), .int (xs (a3 + (1 : Int32)).toNatClampNeg), .ref a1] M
                                                          refine sl_sld hX hs hb hB h187 (by decide +kernel) ?_
                                                          show sw_W _ _ 1118 [(0, .retAddr 30), (1, .ref a1), (2, .ref a2), (3, .int a3)] [.int (xs (a3 + (6 : Int32)).toNatClampNeg), .int (xs (a3 + (5 : Int32)).toNatClampNeg), .int (xs (a3 + (4 : Int32)).toNatClampNeg), .int (xs (a3 + (3 : Int32)).toNatClampNeg), .int (xs (a3 + (2 : Int32)).toNatClampNeg), .int (xs (a3 + (1 : Int32)).toNatClampNeg), .ref a1] M
                                                          obtain ⟨h188, hf⟩ := sw_gd_1 hf
                                                          refine sl_blk hX [(.aload_n 0, 0, 0, .null), (.iload_n 3, 0, 0, .null), (.bipush (7), 0, 0, .int (7 : Int32)), (.iadd, 0, 0, .null)] (lv' := [(0, .retAddr 30), (1, .ref a1), (2, .ref a2), (3, .int a3)]) (st' := [.int (a3 + (7 : Int32)), .retAddr 30, .int (xs (a3 + (6 : Int32)).toNatClampNeg), .int (xs (a3 + (5 : Int32)).toNatClampNeg), .int (xs (a3 + (4 : Int32)).toNatClampNeg), .int (xs (a3 + (3 : Int32)).toNatClampNeg), .int (xs (a3 + (2 : Int32)).toNatClampNeg), .int (xs (a3 + (1 : Int32)).toNatClampNeg), .ref a1]) (M1 := M) (ob := []) (by decide +kernel) rfl sw_a0 ?_
                                                          show sw_W _ _ 1123 [(0, .retAddr 30), (1, .ref a1), (2, .ref a2), (3, .int a3)] [.int (a3 + (7 : Int32)), .retAddr 30, .int (xs (a3 + (6 : Int32)).toNatClampNeg), .int (xs (a3 + (5 : Int32)).toNatClampNeg), .int (xs (a3 + (4 : Int32)).toNatClampNeg), .int (xs (a3 + (3 : Int32)).toNatClampNeg), .int (xs (a3 + (2 : Int32)).toNatClampNeg), .int (xs (a3 + (1 : Int32)).toNatClampNeg), .ref a1] M
                                                          refine sl_sld hX hs hb hB h188 (by decide +kernel) ?_
                                                          show sw_W _ _ 1124 [(0, .retAddr 30), (1, .ref a1), (2, .ref a2), (3, .int a3)] [.int (xs (a3 + (7 : Int32)).toNatClampNeg), .int (xs (a3 + (6 : Int32)).toNatClampNeg), .int (xs (a3 + (5 : Int32)).toNatClampNeg), .int (xs (a3 + (4 : Int32)).toNatClampNeg), .int (xs (a3 + (3 : Int32)).toNatClampNeg), .int (xs (a3 + (2 : Int32)).toNatClampNeg), .int (xs (a3 + (1 : Int32)).toNatClampNeg), .ref a1] M
                                                          obtain ⟨h189, hf⟩ := sw_gd_1 hf
                                                          refine sl_blk hX [(.aload_n 0, 0, 0, .null), (.iload_n 3, 0, 0, .null), (.bipush (8), 0, 0, .int (8 : Int32)), (.iadd, 0, 0, .null)] (lv' := [(0, .retAddr 30), (1, .ref a1), (2, .ref a2), (3, .int a3)]) (st' := [.int (a3 + (8 : Int32)), .retAddr 30, .int (xs (a3 + (7 : Int32)).toNatClampNeg), .int (xs (a3 + (6 : Int32)).toNatClampNeg), .int (xs (a3 + (5 : Int32)).toNatClampNeg), .int (xs (a3 + (4 : Int32)).toNatClampNeg), .int (xs (a3 + (3 : Int32)).toNatClampNeg), .int (xs (a3 + (2 : Int32)).toNatClampNeg), .int (xs (a3 + (1 : Int32)).toNatClampNeg), .ref a1]) (M1 := M) (ob := []) (by decide +kernel) rfl sw_a0 ?_
                                                          show sw_W _ _ 1129 [(0, .retAddr 30), (1, .ref a1), (2, .ref a2), (3, .int a3)] [.int (a3 + (8 : Int32)), .retAddr 30, .int (xs (a3 + (7 : Int32)).toNatClampNeg), .int (xs (a3 + (6 : Int32)).toNatClampNeg), .int (xs (a3 + (5 : Int32)).toNatClampNeg), .int (xs (a3 + (4 : Int32)).toNatClampNeg), .int (xs (a3 + (3 : Int32)).toNatClampNeg), .int (xs (a3 + (2 : Int32)).toNatClampNeg), .int (xs (a3 + (1 : Int32)).toNatClampNeg), .ref a1] M
                                                          refine sl_sld hX hs hb hB h189 (by decide +kernel) ?_
                                                          show sw_W _ _ 1130 [(0, .retAddr 30), (1, .ref a1), (2, .ref a2), (3, .int a3)] [.int (xs (a3 + (8 : Int32)).toNatClampNeg), .int (xs (a3 + (7 : Int32)).toNatClampNeg), .int (xs (a3 + (6 : Int32)).toNatClampNeg), .int (xs (a3 + (5 : Int32)).toNatClampNeg), .int (xs (a3 + (4 : Int32)).toNatClampNeg), .int (xs (a3 + (3 : Int32)).toNatClampNeg), .int (xs (a3 + (2 : Int32)).toNatClampNeg), .int (xs (a3 + (1 : Int32)).toNatClampNeg), .ref a1] M
                                                          obtain ⟨h190, hf⟩ := sw_gd_1 hf
                                                          refine sl_blk hX [(.aload_n 0, 0, 0, .null), (.iload_n 3, 0, 0, .null), (.bipush (9), 0, 0, .int (9 : Int32)), (.iadd, 0, 0, .null)] (lv' := [(0, .retAddr 30), (1, .ref a1), (2, .ref a2), (3, .int a3)]) (st' := [.int (a3 + (9 : Int32)), .retAddr 30, .int (xs (a3 + (8 : Int32)).toNatClampNeg), .int (xs (a3 + (7 : Int32)).toNatClampNeg), .int (xs (a3 + (6 : Int32)).toNatClampNeg), .int (xs (a3 + (5 : Int32)).toNatClampNeg), .int (xs (a3 + (4 : Int32)).toNatClampNeg), .int (xs (a3 + (3 : Int32)).toNatClampNeg), .int (xs (a3 + (2 : Int32)).toNatClampNeg), .int (xs (a3 + (1 : Int32)).toNatClampNeg), .ref a1]) (M1 := M) (ob := []) (by decide +kernel) rfl sw_a0 ?_
                                                          show sw_W _ _ 1135 [(0, .retAddr 30), (1, .ref a1), (2, .ref a2), (3, .int a3)] [.int (a3 + (9 : Int32)), .retAddr 30, .int (xs (a3 + (8 : Int32)).toNatClampNeg), .int (xs (a3 + (7 : Int32)).toNatClampNeg), .int (xs (a3 + (6 : Int32)).toNatClampNeg), .int (xs (a3 + (5 : Int32)).toNatClampNeg), .int (xs (a3 + (4 : Int32)).toNatClampNeg), .int (xs (a3 + (3 : Int32)).toNatClampNeg), .int (xs (a3 + (2 : Int32)).toNatClampNeg), .int (xs (a3 + (1 : Int32)).toNatClampNeg), .ref a1] M
                                                          refine sl_sld hX hs hb hB h190 (by decide +kernel) ?_
                                                          show sw_W _ _ 1136 [(0, .retAddr 30), (1, .ref a1), (2, .ref a2), (3, .int a3)] [.int (xs (a3 + (9 : Int32)).toNatClampNeg), .int (xs (a3 + (8 : Int32)).toNatClampNeg), .int (xs (a3 + (7 : Int32)).toNatClampNeg), .int (xs (a3 + (6 : Int32)).toNatClampNeg), .int (xs (a3 + (5 : Int32)).toNatClampNeg), .int (xs (a3 + (4 : Int32)).toNatClampNeg), .int (xs (a3 + (3 : Int32)).toNatClampNeg), .int (xs (a3 + (2 : Int32)).toNatClampNeg), .int (xs (a3 + (1 : Int32)).toNatClampNeg), .ref a1] M
                                                          obtain ⟨h191, hf⟩ := sw_gd_1 hf
                                                          refine sl_blk hX [(.aload_n 0, 0, 0, .null), (.iload_n 3, 0, 0, .null), (.bipush (10), 0, 0, .int (10 : Int32)), (.iadd, 0, 0, .null)] (lv' := [(0, .retAddr 30), (1, .ref a1), (2, .ref a2), (3, .int a3)]) (st' := [.int (a3 + (10 : Int32)), .retAddr 30, .int (xs (a3 + (9 : Int32)).toNatClampNeg), .int (xs (a3 + (8 : Int32)).toNatClampNeg), .int (xs (a3 + (7 : Int32)).toNatClampNeg), .int (xs (a3 + (6 : Int32)).toNatClampNeg), .int (xs (a3 + (5 : Int32)).toNatClampNeg), .int (xs (a3 + (4 : Int32)).toNatClampNeg), .int (xs (a3 + (3 : Int32)).toNatClampNeg), .int (xs (a3 + (2 : Int32)).toNatClampNeg), .int (xs (a3 + (1 : Int32)).toNatClampNeg), .ref a1]) (M1 := M) (ob := []) (by decide +kernel) rfl sw_a0 ?_
                                                          show sw_W _ _ 1141 [(0, .retAddr 30), (1, .ref a1), (2, .ref a2), (3, .int a3)] [.int (a3 + (10 : Int32)), .retAddr 30, .int (xs (a3 + (9 : Int32)).toNatClampNeg), .int (xs (a3 + (8 : Int32)).toNatClampNeg), .int (xs (a3 + (7 : Int32)).toNatClampNeg), .int (xs (a3 + (6 : Int32)).toNatClampNeg), .int (xs (a3 + (5 : Int32)).toNatClampNeg), .int (xs (a3 + (4 : Int32)).toNatClampNeg), .int (xs (a3 + (3 : Int32)).toNatClampNeg), .int (xs (a3 + (2 : Int32)).toNatClampNeg), .int (xs (a3 + (1 : Int32)).toNatClampNeg), .ref a1] M
                                                          refine sl_sld hX hs hb hB h191 (by decide +kernel) ?_
                                                          show sw_W _ _ 1142 [(0, .retAddr 30), (1, .ref a1), (2, .ref a2), (3, .int a3)] [.int (xs (a3 + (10 : Int32)).toNatClampNeg), .int (xs (a3 + (9 : Int32)).toNatClampNeg), .int (xs (a3 + (8 : Int32)).toNatClampNeg), .int (xs (a3 + (7 : Int32)).toNatClampNeg), .int (xs (a3 + (6 : Int32)).toNatClampNeg), .int (xs (a3 + (5 : Int32)).toNatClampNeg), .int (xs (a3 + (4 : Int32)).toNatClampNeg), .int (xs (a3 + (3 : Int32)).toNatClampNeg), .int (xs (a3 + (2 : Int32)).toNatClampNeg), .int (xs (a3 + (1 : Int32)).toNatClampNeg), .ref a1] M
                                                          obtain ⟨h192, hf⟩ := sw_gd_1 hf
                                                          obtain ⟨u193, hu193, hf⟩ := sw_bnd hf
                                                          refine sl_callV hX (i := 124) (k2 := k_House_stream) (d2 := d - 1) (As := [.int (xs (a3 + (1 : Int32)).toNatClampNeg), .int (xs (a3 + (2 : Int32)).toNatClampNeg), .int (xs (a3 + (3 : Int32)).toNatClampNeg), .int (xs (a3 + (4 : Int32)).toNatClampNeg), .int (xs (a3 + (5 : Int32)).toNatClampNeg), .int (xs (a3 + (6 : Int32)).toNatClampNeg), .int (xs (a3 + (7 : Int32)).toNatClampNeg), .int (xs (a3 + (8 : Int32)).toNatClampNeg), .int (xs (a3 + (9 : Int32)).toNatClampNeg), .int (xs (a3 + (10 : Int32)).toNatClampNeg)]) (st := []) (q := a1) (ci := 11) mf_House_stream mi_House_stream ms_House_stream (sw_m5 181 (by decide +kernel)) rfl (by decide) (by decide +kernel) rfl (Nat.le_of_ble_eq_true rfl) (by omega) h192 (o_House_stream g (d := d - 1) (by omega) hu193) ?_
                                                          show sw_W _ _ 1145 [(0, .retAddr 30), (1, .ref a1), (2, .ref a2), (3, .int a3)] [.int u193.1] u193.2
                                                          refine sl_blk hX [(.aload_n 2, 0, 0, .null), (.aload_n 0, 0, 0, .null), (.iload_n 3, 0, 0, .null), (.iconst (1), 0, 0, .int (1 : Int32)), (.iadd, 0, 0, .null)] (lv' := [(0, .retAddr 30), (1, .ref a1), (2, .ref a2), (3, .int a3)]) (st' := [.int (a3 + (1 : Int32)), .retAddr 30, .ref a2, .int u193.1]) (M1 := u193.2) (ob := []) (by decide +kernel) rfl sw_a0 ?_
                                                          show sw_W _ _ 1150 [(0, .retAddr 30), (1, .ref a1), (2, .ref a2), (3, .int a3)] [.int (a3 + (1 : Int32)), .retAddr 30, .ref a2, .int u193.1] u193.2
                                                          refine sl_sld hX hs hb hB h182 (by decide +kernel) ?_
                                                          show sw_W _ _ 1151 [(0, .retAddr 30), (1, .ref a1), (2, .ref a2), (3, .int a3)] [.int (xs (a3 + (1 : Int32)).toNatClampNeg), .ref a2, .int u193.1] u193.2
                                                          refine sl_blk hX [(.aload_n 0, 0, 0, .null), (.iload_n 3, 0, 0, .null), (.iconst (2), 0, 0, .int (2 : Int32)), (.iadd, 0, 0, .null)] (lv' := [(0, .retAddr 30), (1, .ref a1), (2, .ref a2), (3, .int a3)]) (st' := [.int (a3 + (2 : Int32)), .retAddr 30, .int (xs (a3 + (1 : Int32)).toNatClampNeg), .ref a2, .int u193.1]) (M1 := u193.2) (ob := []) (by decide +kernel) rfl sw_a0 ?_
                                                          show sw_W _ _ 1155 [(0, .retAddr 30), (1, .ref a1), (2, .ref a2), (3, .int a3)] [.int (a3 + (2 : Int32)), .retAddr 30, .int (xs (a3 + (1 : Int32)).toNatClampNeg), .ref a2, .int u193.1] u193.2
                                                          refine sl_sld hX hs hb hB h183 (by decide +kernel) ?_
                                                          show sw_W _ _ 1156 [(0, .retAddr 30), (1, .ref a1), (2, .ref a2), (3, .int a3)] [.int (xs (a3 + (2 : Int32)).toNatClampNeg), .int (xs (a3 + (1 : Int32)).toNatClampNeg), .ref a2, .int u193.1] u193.2
                                                          refine sl_blk hX [(.aload_n 0, 0, 0, .null), (.iload_n 3, 0, 0, .null), (.iconst (3), 0, 0, .int (3 : Int32)), (.iadd, 0, 0, .null)] (lv' := [(0, .retAddr 30), (1, .ref a1), (2, .ref a2), (3, .int a3)]) (st' := [.int (a3 + (3 : Int32)), .retAddr 30, .int (xs (a3 + (2 : Int32)).toNatClampNeg), .int (xs (a3 + (1 : Int32)).toNatClampNeg), .ref a2, .int u193.1]) (M1 := u193.2) (ob := []) (by decide +kernel) rfl sw_a0 ?_
                                                          show sw_W _ _ 1160 [(0, .retAddr 30), (1, .ref a1), (2, .ref a2), (3, .int a3)] [.int (a3 + (3 : Int32)), .retAddr 30, .int (xs (a3 + (2 : Int32)).toNatClampNeg), .int (xs (a3 + (1 : Int32)).toNatClampNeg), .ref a2, .int u193.1] u193.2
                                                          refine sl_sld hX hs hb hB h184 (by decide +kernel) ?_
                                                          show sw_W _ _ 1161 [(0, .retAddr 30), (1, .ref a1), (2, .ref a2), (3, .int a3)] [.int (xs (a3 + (3 : Int32)).toNatClampNeg), .int (xs (a3 + (2 : Int32)).toNatClampNeg), .int (xs (a3 + (1 : Int32)).toNatClampNeg), .ref a2, .int u193.1] u193.2
                                                          refine sl_blk hX [(.aload_n 0, 0, 0, .null), (.iload_n 3, 0, 0, .null), (.iconst (4), 0, 0, .int (4 : Int32)), (.iadd, 0, 0, .null)] (lv' := [(0, .retAddr 30), (1, .ref a1), (2, .ref a2), (3, .int a3)]) (st' := [.int (a3 + (4 : Int32)), .retAddr 30, .int (xs (a3 + (3 : Int32)).toNatClampNeg), .int (xs (a3 + (2 : Int32)).toNatClampNeg), .int (xs (a3 + (1 : Int32)).toNatClampNeg), .ref a2, .int u193.1]) (M1 := u193.2) (ob := []) (by decide +kernel) rfl sw_a0 ?_
                                                          show sw_W _ _ 1165 [(0, .retAddr 30), (1, .ref a1), (2, .ref a2), (3, .int a3)] [.int (a3 + (4 : Int32)), .retAddr 30, .int (xs (a3 + (3 : Int32)).toNatClampNeg), .int (xs (a3 + (2 : Int32)).toNatClampNeg), .int (xs (a3 + (1 : Int32)).toNatClampNeg), .ref a2, .int u193.1] u193.2
                                                          refine sl_sld hX hs hb hB h185 (by decide +kernel) ?_
                                                          show sw_W _ _ 1166 [(0, .retAddr 30), (1, .ref a1), (2, .ref a2), (3, .int a3)] [.int (xs (a3 + (4 : Int32)).toNatClampNeg), .int (xs (a3 + (3 : Int32)).toNatClampNeg), .int (xs (a3 + (2 : Int32)).toNatClampNeg), .int (xs (a3 + (1 : Int32)).toNatClampNeg), .ref a2, .int u193.1] u193.2
                                                          refine sl_blk hX [(.aload_n 0, 0, 0, .null), (.iload_n 3, 0, 0, .null), (.iconst (5), 0, 0, .int (5 : Int32)), (.iadd, 0, 0, .null)] (lv' := [(0, .retAddr 30), (1, .ref a1), (2, .ref a2), (3, .int a3)]) (st' := [.int (a3 + (5 : Int32)), .retAddr 30, .int (xs (a3 + (4 : Int32)).toNatClampNeg), .int (xs (a3 + (3 : Int32)).toNatClampNeg), .int (xs (a3 + (2 : Int32)).toNatClampNeg), .int (xs (a3 + (1 : Int32)).toNatClampNeg), .ref a2, .int u193.1]) (M1 := u193.2) (ob := []) (by decide +kernel) rfl sw_a0 ?_
                                                          show sw_W _ _ 1170 [(0, .retAddr 30), (1, .ref a1), (2, .ref a2), (3, .int a3)] [.int (a3 + (5 : Int32)), .retAddr 30, .int (xs (a3 + (4 : Int32)).toNatClampNeg), .int (xs (a3 + (3 : Int32)).toNatClampNeg), .int (xs (a3 + (2 : Int32)).toNatClampNeg), .int (xs (a3 + (1 : Int32)).toNatClampNeg), .ref a2, .int u193.1] u193.2
                                                          refine sl_sld hX hs hb hB h186 (by decide +kernel) ?_
                                                          show sw_W _ _ 1171 [(0, .retAddr 30), (1, .ref a1), (2, .ref a2), (3, .int a3)] [.int (xs (a3 + (5 : Int32)).toNatClampNeg), .int (xs (a3 + (4 : Int32)).toNatClampNeg), .int (xs (a3 + (3 : Int32)).toNatClampNeg), .int (xs (a3 + (2 : Int32)).toNatClampNeg), .int (xs (a3 + (1 : Int32)).toNatClampNeg), .ref a2, .int u193.1] u193.2
                                                          refine sl_blk hX [(.aload_n 0, 0, 0, .null), (.iload_n 3, 0, 0, .null), (.bipush (6), 0, 0, .int (6 : Int32)), (.iadd, 0, 0, .null)] (lv' := [(0, .retAddr 30), (1, .ref a1), (2, .ref a2), (3, .int a3)]) (st' := [.int (a3 + (6 : Int32)), .retAddr 30, .int (xs (a3 + (5 : Int32)).toNatClampNeg), .int (xs (a3 + (4 : Int32)).toNatClampNeg), .int (xs (a3 + (3 : Int32)).toNatClampNeg), .int (xs (a3 + (2 : Int32)).toNatClampNeg), .int (xs (a3 + (1 : Int32)).toNatClampNeg), .ref a2, .int u193.1]) (M1 := u193.2) (ob := []) (by decide +kernel) rfl sw_a0 ?_
                                                          show sw_W _ _ 1176 [(0, .retAddr 30), (1, .ref a1), (2, .ref a2), (3, .int a3)] [.int (a3 + (6 : Int32)), .retAddr 30, .int (xs (a3 + (5 : Int32)).toNatClampNeg), .int (xs (a3 + (4 : Int32)).toNatClampNeg), .int (xs (a3 + (3 : Int32)).toNatClampNeg), .int (xs (a3 + (2 : Int32)).toNatClampNeg), .int (xs (a3 + (1 : Int32)).toNatClampNeg), .ref a2, .int u193.1] u193.2
                                                          refine sl_sld hX hs hb hB h187 (by decide +kernel) ?_
                                                          show sw_W _ _ 1177 [(0, .retAddr 30), (1, .ref a1), (2, .ref a2), (3, .int a3)] [.int (xs (a3 + (6 : Int32)).toNatClampNeg), .int (xs (a3 + (5 : Int32)).toNatClampNeg), .int (xs (a3 + (4 : Int32)).toNatClampNeg), .int (xs (a3 + (3 : Int32)).toNatClampNeg), .int (xs (a3 + (2 : Int32)).toNatClampNeg), .int (xs (a3 + (1 : Int32)).toNatClampNeg), .ref a2, .int u193.1] u193.2
                                                          refine sl_blk hX [(.aload_n 0, 0, 0, .null), (.iload_n 3, 0, 0, .null), (.bipush (7), 0, 0, .int (7 : Int32)), (.iadd, 0, 0, .null)] (lv' := [(0, .retAddr 30), (1, .ref a1), (2, .ref a2), (3, .int a3)]) (st' := [.int (a3 + (7 : Int32)), .retAddr 30, .int (xs (a3 + (6 : Int32)).toNatClampNeg), .int (xs (a3 + (5 : Int32)).toNatClampNeg), .int (xs (a3 + (4 : Int32)).toNatClampNeg), .int (xs (a3 + (3 : Int32)).toNatClampNeg), .int (xs (a3 + (2 : Int32)).toNatClampNeg), .int (xs (a3 + (1 : Int32)).toNatClampNeg), .ref a2, .int u193.1]) (M1 := u193.2) (ob := []) (by decide +kernel) rfl sw_a0 ?_
                                                          show sw_W _ _ 1182 [(0, .retAddr 30), (1, .ref a1), (2, .ref a2), (3, .int a3)] [.int (a3 + (7 : Int32)), .retAddr 30, .int (xs (a3 + (6 : Int32)).toNatClampNeg), .int (xs (a3 + (5 : Int32)).toNatClampNeg), .int (xs (a3 + (4 : Int32)).toNatClampNeg), .int (xs (a3 + (3 : Int32)).toNatClampNeg), .int (xs (a3 + (2 : Int32)).toNatClampNeg), .int (xs (a3 + (1 : Int32)).toNatClampNeg), .ref a2, .int u193.1] u193.2
                                                          refine sl_sld hX hs hb hB h188 (by decide +kernel) ?_
                                                          show sw_W _ _ 1183 [(0, .retAddr 30), (1, .ref a1), (2, .ref a2), (3, .int a3)] [.int (xs (a3 + (7 : Int32)).toNatClampNeg), .int (xs (a3 + (6 : Int32)).toNatClampNeg), .int (xs (a3 + (5 : Int32)).toNatClampNeg), .int (xs (a3 + (4 : Int32)).toNatClampNeg), .int (xs (a3 + (3 : Int32)).toNatClampNeg), .int (xs (a3 + (2 : Int32)).toNatClampNeg), .int (xs (a3 + (1 : Int32)).toNatClampNeg), .ref a2, .int u193.1] u193.2
                                                          refine sl_blk hX [(.aload_n 0, 0, 0, .null), (.iload_n 3, 0, 0, .null), (.bipush (8), 0, 0, .int (8 : Int32)), (.iadd, 0, 0, .null)] (lv' := [(0, .retAddr 30), (1, .ref a1), (2, .ref a2), (3, .int a3)]) (st' := [.int (a3 + (8 : Int32)), .retAddr 30, .int (xs (a3 + (7 : Int32)).toNatClampNeg), .int (xs (a3 + (6 : Int32)).toNatClampNeg), .int (xs (a3 + (5 : Int32)).toNatClampNeg), .int (xs (a3 + (4 : Int32)).toNatClampNeg), .int (xs (a3 + (3 : Int32)).toNatClampNeg), .int (xs (a3 + (2 : Int32)).toNatClampNeg), .int (xs (a3 + (1 : Int32)).toNatClampNeg), .ref a2, .int u193.1]) (M1 := u193.2) (ob := []) (by decide +kernel) rfl sw_a0 ?_
                                                          show sw_W _ _ 1188 [(0, .retAddr 30), (1, .ref a1), (2, .ref a2), (3, .int a3)] [.int (a3 + (8 : Int32)), .retAddr 30, .int (xs (a3 + (7 : Int32)).toNatClampNeg), .int (xs (a3 + (6 : Int32)).toNatClampNeg), .int (xs (a3 + (5 : Int32)).toNatClampNeg), .int (xs (a3 + (4 : Int32)).toNatClampNeg), .int (xs (a3 + (3 : Int32)).toNatClampNeg), .int (xs (a3 + (2 : Int32)).toNatClampNeg), .int (xs (a3 + (1 : Int32)).toNatClampNeg), .ref a2, .int u193.1] u193.2
                                                          refine sl_sld hX hs hb hB h189 (by decide +kernel) ?_
                                                          show sw_W _ _ 1189 [(0, .retAddr 30), (1, .ref a1), (2, .ref a2), (3, .int a3)] [.int (xs (a3 + (8 : Int32)).toNatClampNeg), .int (xs (a3 + (7 : Int32)).toNatClampNeg), .int (xs (a3 + (6 : Int32)).toNatClampNeg), .int (xs (a3 + (5 : Int32)).toNatClampNeg), .int (xs (a3 + (4 : Int32)).toNatClampNeg), .int (xs (a3 + (3 : Int32)).toNatClampNeg), .int (xs (a3 + (2 : Int32)).toNatClampNeg), .int (xs (a3 + (1 : Int32)).toNatClampNeg), .ref a2, .int u193.1] u193.2
                                                          refine sl_blk hX [(.aload_n 0, 0, 0, .null), (.iload_n 3, 0, 0, .null), (.bipush (9), 0, 0, .int (9 : Int32)), (.iadd, 0, 0, .null)] (lv' := [(0, .retAddr 30), (1, .ref a1), (2, .ref a2), (3, .int a3)]) (st' := [.int (a3 + (9 : Int32)), .retAddr 30, .int (xs (a3 + (8 : Int32)).toNatClampNeg), .int (xs (a3 + (7 : Int32)).toNatClampNeg), .int (xs (a3 + (6 : Int32)).toNatClampNeg), .int (xs (a3 + (5 : Int32)).toNatClampNeg), .int (xs (a3 + (4 : Int32)).toNatClampNeg), .int (xs (a3 + (3 : Int32)).toNatClampNeg), .int (xs (a3 + (2 : Int32)).toNatClampNeg), .int (xs (a3 + (1 : Int32)).toNatClampNeg), .ref a2, .int u193.1]) (M1 := u193.2) (ob := []) (by decide +kernel) rfl sw_a0 ?_
                                                          show sw_W _ _ 1194 [(0, .retAddr 30), (1, .ref a1), (2, .ref a2), (3, .int a3)] [.int (a3 + (9 : Int32)), .retAddr 30, .int (xs (a3 + (8 : Int32)).toNatClampNeg), .int (xs (a3 + (7 : Int32)).toNatClampNeg), .int (xs (a3 + (6 : Int32)).toNatClampNeg), .int (xs (a3 + (5 : Int32)).toNatClampNeg), .int (xs (a3 + (4 : Int32)).toNatClampNeg), .int (xs (a3 + (3 : Int32)).toNatClampNeg), .int (xs (a3 + (2 : Int32)).toNatClampNeg), .int (xs (a3 + (1 : Int32)).toNatClampNeg), .ref a2, .int u193.1] u193.2
                                                          refine sl_sld hX hs hb hB h190 (by decide +kernel) ?_
                                                          show sw_W _ _ 1195 [(0, .retAddr 30), (1, .ref a1), (2, .ref a2), (3, .int a3)] [.int (xs (a3 + (9 : Int32)).toNatClampNeg), .int (xs (a3 + (8 : Int32)).toNatClampNeg), .int (xs (a3 + (7 : Int32)).toNatClampNeg), .int (xs (a3 + (6 : Int32)).toNatClampNeg), .int (xs (a3 + (5 : Int32)).toNatClampNeg), .int (xs (a3 + (4 : Int32)).toNatClampNeg), .int (xs (a3 + (3 : Int32)).toNatClampNeg), .int (xs (a3 + (2 : Int32)).toNatClampNeg), .int (xs (a3 + (1 : Int32)).toNatClampNeg), .ref a2, .int u193.1] u193.2
                                                          refine sl_blk hX [(.aload_n 0, 0, 0, .null), (.iload_n 3, 0, 0, .null), (.bipush (10), 0, 0, .int (10 : Int32)), (.iadd, 0, 0, .null)] (lv' := [(0, .retAddr 30), (1, .ref a1), (2, .ref a2), (3, .int a3)]) (st' := [.int (a3 + (10 : Int32)), .retAddr 30, .int (xs (a3 + (9 : Int32)).toNatClampNeg), .int (xs (a3 + (8 : Int32)).toNatClampNeg), .int (xs (a3 + (7 : Int32)).toNatClampNeg), .int (xs (a3 + (6 : Int32)).toNatClampNeg), .int (xs (a3 + (5 : Int32)).toNatClampNeg), .int (xs (a3 + (4 : Int32)).toNatClampNeg), .int (xs (a3 + (3 : Int32)).toNatClampNeg), .int (xs (a3 + (2 : Int32)).toNatClampNeg), .int (xs (a3 + (1 : Int32)).toNatClampNeg), .ref a2, .int u193.1]) (M1 := u193.2) (ob := []) (by decide +kernel) rfl sw_a0 ?_
                                                          show sw_W _ _ 1200 [(0, .retAddr 30), (1, .ref a1), (2, .ref a2), (3, .int a3)] [.int (a3 + (10 : Int32)), .retAddr 30, .int (xs (a3 + (9 : Int32)).toNatClampNeg), .int (xs (a3 + (8 : Int32)).toNatClampNeg), .int (xs (a3 + (7 : Int32)).toNatClampNeg), .int (xs (a3 + (6 : Int32)).toNatClampNeg), .int (xs (a3 + (5 : Int32)).toNatClampNeg), .int (xs (a3 + (4 : Int32)).toNatClampNeg), .int (xs (a3 + (3 : Int32)).toNatClampNeg), .int (xs (a3 + (2 : Int32)).toNatClampNeg), .int (xs (a3 + (1 : Int32)).toNatClampNeg), .ref a2, .int u193.1] u193.2
                                                          refine sl_sld hX hs hb hB h191 (by decide +kernel) ?_
                                                          show sw_W _ _ 1201 [(0, .retAddr 30), (1, .ref a1), (2, .ref a2), (3, .int a3)] [.int (xs (a3 + (10 : Int32)).toNatClampNeg), .int (xs (a3 + (9 : Int32)).toNatClampNeg), .int (xs (a3 + (8 : Int32)).toNatClampNeg), .int (xs (a3 + (7 : Int32)).toNatClampNeg), .int (xs (a3 + (6 : Int32)).toNatClampNeg), .int (xs (a3 + (5 : Int32)).toNatClampNeg), .int (xs (a3 + (4 : Int32)).toNatClampNeg), .int (xs (a3 + (3 : Int32)).toNatClampNeg), .int (xs (a3 + (2 : Int32)).toNatClampNeg), .int (xs (a3 + (1 : Int32)).toNatClampNeg), .ref a2, .int u193.1] u193.2
                                                          obtain ⟨h194, hf⟩ := sw_gd_1 hf
                                                          obtain ⟨u195, hu195, hf⟩ := sw_bnd hf
                                                          refine sl_callV hX (i := 128) (k2 := k_Model_stream) (d2 := d - 1) (As := [.int (xs (a3 + (1 : Int32)).toNatClampNeg), .int (xs (a3 + (2 : Int32)).toNatClampNeg), .int (xs (a3 + (3 : Int32)).toNatClampNeg), .int (xs (a3 + (4 : Int32)).toNatClampNeg), .int (xs (a3 + (5 : Int32)).toNatClampNeg), .int (xs (a3 + (6 : Int32)).toNatClampNeg), .int (xs (a3 + (7 : Int32)).toNatClampNeg), .int (xs (a3 + (8 : Int32)).toNatClampNeg), .int (xs (a3 + (9 : Int32)).toNatClampNeg), .int (xs (a3 + (10 : Int32)).toNatClampNeg)]) (st := [.int u193.1]) (q := a2) (ci := 12) mf_Model_stream mi_Model_stream ms_Model_stream (sw_m8 126 (by decide +kernel)) rfl (by decide) (by decide +kernel) rfl (Nat.le_of_ble_eq_true rfl) (by omega) h194 (o_Model_stream g (d := d - 1) (by omega) hu195) ?_
                                                          show sw_W _ _ 1204 [(0, .retAddr 30), (1, .ref a1), (2, .ref a2), (3, .int a3)] [.int u195.1, .int u193.1] u195.2
                                                          refine sl_j_eq hX (off := 105) (tgt := 1309) (by decide +kernel) (by decide) hf (fun hc hf => ?_) (fun hc hf => ?_)
                                                          · exact sw_weak [0, 1, 2, 3] rfl (t_Law_law_1309 hd hX hs hb hB hend hr hz _ ih hf)
                                                          · exact sw_weak [] rfl (t_Law_law_1207 hd hX hs hb hB hend hr hz hf)
                                                        ·
                                                          rcases sw_ite hf with ⟨h196, hf⟩ | ⟨h196, hf⟩
                                                          · refine sl_tin hX (a := ((xs a3.toNatClampNeg) &&& (31 : Int32))) (off := 1176) (tgt := 1209) (len := 131) (show decode (k_c k_Law_law) 33 = .ok (.tableswitch (1276) (0) (28) #[131, 194, 217, 240, 263, 316, 379, 402, 425, 448, 501, 535, 578, 611, 644, 687, 720, 763, 786, 839, 862, 885, 928, 997, 1020, 1053, 1176, 1190, 1253], 131) by decide +kernel) (by rw [h196]; decide) (by rw [h196]; decide) (by rw [h196]; decide +kernel) (by decide) ?_
                                                            obtain ⟨h197, hf⟩ := sw_gd_1 hf
                                                            refine sl_blk hX [(.aload_n 1, 0, 0, .null)] (lv' := [(0, .retAddr 30), (1, .ref a1), (2, .ref a2), (3, .int a3)]) (st' := [.ref a1]) (M1 := M) (ob := []) (by decide +kernel) rfl sw_a0 ?_
                                                            show sw_W _ _ 1210 [(0, .retAddr 30), (1, .ref a1), (2, .ref a2), (3, .int a3)] [.ref a1] M
                                                            obtain ⟨u198, hu198, hf⟩ := sw_bnd hf
                                                            refine sl_callV hX (i := 129) (k2 := k_House_trail) (d2 := d - 1) (As := []) (st := []) (q := a1) (ci := 11) mf_House_trail mi_House_trail ms_House_trail (sw_m5 206 (by decide +kernel)) rfl (by decide) (by decide +kernel) rfl (Nat.le_of_ble_eq_true rfl) (by omega) h197 (o_House_trail g (d := d - 1) (by omega) hu198) ?_
                                                            show sw_W _ _ 1213 [(0, .retAddr 30), (1, .ref a1), (2, .ref a2), (3, .int a3)] [.long u198.1] u198.2
                                                            obtain ⟨h199, hf⟩ := sw_gd_1 hf
                                                            refine sl_blk hX [(.aload_n 2, 0, 0, .null)] (lv' := [(0, .retAddr 30), (1, .ref a1), (2, .ref a2), (3, .int a3)]) (st' := [.ref a2, .long u198.1]) (M1 := u198.2) (ob := []) (by decide +kernel) rfl sw_a0 ?_
                                                            show sw_W _ _ 1214 [(0, .retAddr 30), (1, .ref a1), (2, .ref a2), (3, .int a3)] [.ref a2, .long u198.1] u198.2
                                                            obtain ⟨u200, hu200, hf⟩ := sw_bnd hf
                                                            refine sl_callV hX (i := 133) (k2 := k_Model_trail) (d2 := d - 1) (As := []) (st := [.long u198.1]) (q := a2) (ci := 12) mf_Model_trail mi_Model_trail ms_Model_trail (sw_m8 140 (by decide +kernel)) rfl (by decide) (by decide +kernel) rfl (Nat.le_of_ble_eq_true rfl) (by omega) h199 (o_Model_trail g (d := d - 1) (by omega) hu200) ?_
                                                            show sw_W _ _ 1217 [(0, .retAddr 30), (1, .ref a1), (2, .ref a2), (3, .int a3)] [.long u200.1, .long u198.1] u200.2
                                                            refine sl_blk hX [(.lcmp, 0, 0, .null)] (lv' := [(0, .retAddr 30), (1, .ref a1), (2, .ref a2), (3, .int a3)]) (st' := [.int (lg_cmp u198.1 u200.1)]) (M1 := u200.2) (ob := []) (by decide +kernel) rfl sw_a0 ?_
                                                            show sw_W _ _ 1218 [(0, .retAddr 30), (1, .ref a1), (2, .ref a2), (3, .int a3)] [.int (lg_cmp u198.1 u200.1)] u200.2
                                                            refine sl_l_eq hX (off := 91) (tgt := 1309) (by decide +kernel) (by decide) hf (fun hc hf => ?_) (fun hc hf => ?_)
                                                            · exact sw_weak [0, 1, 2, 3] rfl (t_Law_law_1309 hd hX hs hb hB hend hr hz _ ih hf)
                                                            · refine sl_blk hX [(.iconst (0), 0, 0, .int (0 : Int32))] (lv' := [(0, .retAddr 30), (1, .ref a1), (2, .ref a2), (3, .int a3)]) (st' := [.int (0 : Int32)]) (M1 := u200.2) (ob := []) (by decide +kernel) rfl sw_a0 ?_
                                                              show sw_W _ _ 1222 [(0, .retAddr 30), (1, .ref a1), (2, .ref a2), (3, .int a3)] [.int (0 : Int32)] u200.2
                                                              cases hf
                                                              exact absurd (show (0 : Int32) = 1 from hr) (by decide)
                                                          ·
                                                            rcases sw_ite hf with ⟨h201, hf⟩ | ⟨h201, hf⟩
                                                            · refine sl_tin hX (a := ((xs a3.toNatClampNeg) &&& (31 : Int32))) (off := 1190) (tgt := 1223) (len := 131) (show decode (k_c k_Law_law) 33 = .ok (.tableswitch (1276) (0) (28) #[131, 194, 217, 240, 263, 316, 379, 402, 425, 448, 501, 535, 578, 611, 644, 687, 720, 763, 786, 839, 862, 885, 928, 997, 1020, 1053, 1176, 1190, 1253], 131) by decide +kernel) (by rw [h201]; decide) (by rw [h201]; decide) (by rw [h201]; decide +kernel) (by decide) ?_
                                                              obtain ⟨h202, hf⟩ := sw_gd_1 hf
                                                              refine sl_blk hX [(.aload_n 1, 0, 0, .null), (.aload_n 0, 0, 0, .null), (.iload_n 3, 0, 0, .null), (.iconst (1), 0, 0, .int (1 : Int32)), (.iadd, 0, 0, .null)] (lv' := [(0, .retAddr 30), (1, .ref a1), (2, .ref a2), (3, .int a3)]) (st' := [.int (a3 + (1 : Int32)), .retAddr 30, .ref a1]) (M1 := M) (ob := []) (by decide +kernel) rfl sw_a0 ?_
                                                              show sw_W _ _ 1228 [(0, .retAddr 30), (1, .ref a1), (2, .ref a2), (3, .int a3)] [.int (a3 + (1 : Int32)), .retAddr 30, .ref a1] M
                                                              refine sl_sld hX hs hb hB h202 (by decide +kernel) ?_
                                                              show sw_W _ _ 1229 [(0, .retAddr 30), (1, .ref a1), (2, .ref a2), (3, .int a3)] [.int (xs (a3 + (1 : Int32)).toNatClampNeg), .ref a1] M
                                                              obtain ⟨h203, hf⟩ := sw_gd_1 hf
                                                              refine sl_blk hX [(.aload_n 0, 0, 0, .null), (.iload_n 3, 0, 0, .null), (.iconst (2), 0, 0, .int (2 : Int32)), (.iadd, 0, 0, .null)] (lv' := [(0, .retAddr 30), (1, .ref a1), (2, .ref a2), (3, .int a3)]) (st' := [.int (a3 + (2 : Int32)), .retAddr 30, .int (xs (a3 + (1 : Int32)).toNatClampNeg), .ref a1]) (M1 := M) (ob := []) (by decide +kernel) rfl sw_a0 ?_
                                                              show sw_W _ _ 1233 [(0, .retAddr 30), (1, .ref a1), (2, .ref a2), (3, .int a3)] [.int (a3 + (2 : Int32)), .retAddr 30, .int (xs (a3 + (1 : Int32)).toNatClampNeg), .ref a1] M
                                                              refine sl_sld hX hs hb hB h203 (by decide +kernel) ?_
                                                              show sw_W _ _ 1234 [(0, .retAddr 30), (1, .ref a1), (2, .ref a2), (3, .int a3)] [.int (xs (a3 + (2 : Int32)).toNatClampNeg), .int (xs (a3 + (1 : Int32)).toNatClampNeg), .ref a1] M
                                                              obtain ⟨h204, hf⟩ := sw_gd_1 hf
                                                              refine sl_blk hX [(.i2l, 0, 0, .null), (.bipush (32), 0, 0, .int (32 : Int32)), (.lshl, 0, 0, .null), (.aload_n 0, 0, 0, .null), (.iload_n 3, 0, 0, .null), (.iconst (3), 0, 0, .int (3 : Int32)), (.iadd, 0, 0, .null)] (lv' := [(0, .retAddr 30), (1, .ref a1), (2, .ref a2), (3, .int a3)]) (st' := [.int (a3 + (3 : Int32)), .retAddr 30, .long ((xs (a3 + (2 : Int32)).toNatClampNeg).toInt64 <<< ((32 : Int32).toInt64 &&& 63)), .int (xs (a3 + (1 : Int32)).toNatClampNeg), .ref a1]) (M1 := M) (ob := []) (by decide +kernel) rfl sw_a0 ?_
                                                              show sw_W _ _ 1242 [(0, .retAddr 30), (1, .ref a1), (2, .ref a2), (3, .int a3)] [.int (a3 + (3 : Int32)), .retAddr 30, .long ((xs (a3 + (2 : Int32)).toNatClampNeg).toInt64 <<< ((32 : Int32).toInt64 &&& 63)), .int (xs (a3 + (1 : Int32)).toNatClampNeg), .ref a1] M
                                                              refine sl_sld hX hs hb hB h204 (by decide +kernel) ?_
                                                              show sw_W _ _ 1243 [(0, .retAddr 30), (1, .ref a1), (2, .ref a2), (3, .int a3)] [.int (xs (a3 + (3 : Int32)).toNatClampNeg), .long ((xs (a3 + (2 : Int32)).toNatClampNeg).toInt64 <<< ((32 : Int32).toInt64 &&& 63)), .int (xs (a3 + (1 : Int32)).toNatClampNeg), .ref a1] M
                                                              obtain ⟨h205, hf⟩ := sw_gd_1 hf
                                                              refine sl_blk hX [(.i2l, 0, 0, .null), (.ldc2_w 134, 0, 0, .long (4294967295 : Int64)), (.land, 0, 0, .null), (.lor, 0, 0, .null)] (lv' := [(0, .retAddr 30), (1, .ref a1), (2, .ref a2), (3, .int a3)]) (st' := [.long (((xs (a3 + (2 : Int32)).toNatClampNeg).toInt64 <<< ((32 : Int32).toInt64 &&& 63)) ||| ((xs (a3 + (3 : Int32)).toNatClampNeg).toInt64 &&& (4294967295 : Int64))), .int (xs (a3 + (1 : Int32)).toNatClampNeg), .ref a1]) (M1 := M) (ob := []) (by decide +kernel) rfl sw_a0 ?_
                                                              show sw_W _ _ 1249 [(0, .retAddr 30), (1, .ref a1), (2, .ref a2), (3, .int a3)] [.long (((xs (a3 + (2 : Int32)).toNatClampNeg).toInt64 <<< ((32 : Int32).toInt64 &&& 63)) ||| ((xs (a3 + (3 : Int32)).toNatClampNeg).toInt64 &&& (4294967295 : Int64))), .int (xs (a3 + (1 : Int32)).toNatClampNeg), .ref a1] M
                                                              obtain ⟨u206, hu206, hf⟩ := sw_bnd hf
                                                              refine sl_callV hX (i := 136) (k2 := k_House_bent) (d2 := d - 1) (As := [.int (xs (a3 + (1 : Int32)).toNatClampNeg), .long (((xs (a3 + (2 : Int32)).toNatClampNeg).toInt64 <<< ((32 : Int32).toInt64 &&& 63)) ||| ((xs (a3 + (3 : Int32)).toNatClampNeg).toInt64 &&& (4294967295 : Int64)))]) (st := []) (q := a1) (ci := 11) mf_House_bent mi_House_bent ms_House_bent (sw_m5 210 (by decide +kernel)) rfl (by decide) (by decide +kernel) rfl (Nat.le_of_ble_eq_true rfl) (by omega) h205 (o_House_bent g (d := d - 1) (by omega) hu206) ?_
                                                              show sw_W _ _ 1252 [(0, .retAddr 30), (1, .ref a1), (2, .ref a2), (3, .int a3)] [.int u206.1] u206.2
                                                              refine sl_blk hX [(.aload_n 2, 0, 0, .null), (.aload_n 0, 0, 0, .null), (.iload_n 3, 0, 0, .null), (.iconst (1), 0, 0, .int (1 : Int32)), (.iadd, 0, 0, .null)] (lv' := [(0, .retAddr 30), (1, .ref a1), (2, .ref a2), (3, .int a3)]) (st' := [.int (a3 + (1 : Int32)), .retAddr 30, .ref a2, .int u206.1]) (M1 := u206.2) (ob := []) (by decide +kernel) rfl sw_a0 ?_
                                                              show sw_W _ _ 1257 [(0, .retAddr 30), (1, .ref a1), (2, .ref a2), (3, .int a3)] [.int (a3 + (1 : Int32)), .retAddr 30, .ref a2, .int u206.1] u206.2
                                                              refine sl_sld hX hs hb hB h202 (by decide +kernel) ?_
                                                              show sw_W _ _ 1258 [(0, .retAddr 30), (1, .ref a1), (2, .ref a2), (3, .int a3)] [.int (xs (a3 + (1 : Int32)).toNatClampNeg), .ref a2, .int u206.1] u206.2
                                                              refine sl_blk hX [(.aload_n 0, 0, 0, .null), (.iload_n 3, 0, 0, .null), (.iconst (2), 0, 0, .int (2 : Int32)), (.iadd, 0, 0, .null)] (lv' := [(0, .retAddr 30), (1, .ref a1), (2, .ref a2), (3, .int a3)]) (st' := [.int (a3 + (2 : Int32)), .retAddr 30, .int (xs (a3 + (1 : Int32)).toNatClampNeg), .ref a2, .int u206.1]) (M1 := u206.2) (ob := []) (by decide +kernel) rfl sw_a0 ?_
                                                              show sw_W _ _ 1262 [(0, .retAddr 30), (1, .ref a1), (2, .ref a2), (3, .int a3)] [.int (a3 + (2 : Int32)), .retAddr 30, .int (xs (a3 + (1 : Int32)).toNatClampNeg), .ref a2, .int u206.1] u206.2
                                                              refine sl_sld hX hs hb hB h203 (by decide +kernel) ?_
                                                              show sw_W _ _ 1263 [(0, .retAddr 30), (1, .ref a1), (2, .ref a2), (3, .int a3)] [.int (xs (a3 + (2 : Int32)).toNatClampNeg), .int (xs (a3 + (1 : Int32)).toNatClampNeg), .ref a2, .int u206.1] u206.2
                                                              refine sl_blk hX [(.i2l, 0, 0, .null), (.bipush (32), 0, 0, .int (32 : Int32)), (.lshl, 0, 0, .null), (.aload_n 0, 0, 0, .null), (.iload_n 3, 0, 0, .null), (.iconst (3), 0, 0, .int (3 : Int32)), (.iadd, 0, 0, .null)] (lv' := [(0, .retAddr 30), (1, .ref a1), (2, .ref a2), (3, .int a3)]) (st' := [.int (a3 + (3 : Int32)), .retAddr 30, .long ((xs (a3 + (2 : Int32)).toNatClampNeg).toInt64 <<< ((32 : Int32).toInt64 &&& 63)), .int (xs (a3 + (1 : Int32)).toNatClampNeg), .ref a2, .int u206.1]) (M1 := u206.2) (ob := []) (by decide +kernel) rfl sw_a0 ?_
                                                              show sw_W _ _ 1271 [(0, .retAddr 30), (1, .ref a1), (2, .ref a2), (3, .int a3)] [.int (a3 + (3 : Int32)), .retAddr 30, .long ((xs (a3 + (2 : Int32)).toNatClampNeg).toInt64 <<< ((32 : Int32).toInt64 &&& 63)), .int (xs (a3 + (1 : Int32)).toNatClampNeg), .ref a2, .int u206.1] u206.2
                                                              refine sl_sld hX hs hb hB h204 (by decide +kernel) ?_
                                                              show sw_W _ _ 1272 [(0, .retAddr 30), (1, .ref a1), (2, .ref a2), (3, .int a3)] [.int (xs (a3 + (3 : Int32)).toNatClampNeg), .long ((xs (a3 + (2 : Int32)).toNatClampNeg).toInt64 <<< ((32 : Int32).toInt64 &&& 63)), .int (xs (a3 + (1 : Int32)).toNatClampNeg), .ref a2, .int u206.1] u206.2
                                                              obtain ⟨h207, hf⟩ := sw_gd_1 hf
                                                              refine sl_blk hX [(.i2l, 0, 0, .null), (.ldc2_w 134, 0, 0, .long (4294967295 : Int64)), (.land, 0, 0, .null), (.lor, 0, 0, .null)] (lv' := [(0, .retAddr 30), (1, .ref a1), (2, .ref a2), (3, .int a3)]) (st' := [.long (((xs (a3 + (2 : Int32)).toNatClampNeg).toInt64 <<< ((32 : Int32).toInt64 &&& 63)) ||| ((xs (a3 + (3 : Int32)).toNatClampNeg).toInt64 &&& (4294967295 : Int64))), .int (xs (a3 + (1 : Int32)).toNatClampNeg), .ref a2, .int u206.1]) (M1 := u206.2) (ob := []) (by decide +kernel) rfl sw_a0 ?_
                                                              show sw_W _ _ 1278 [(0, .retAddr 30), (1, .ref a1), (2, .ref a2), (3, .int a3)] [.long (((xs (a3 + (2 : Int32)).toNatClampNeg).toInt64 <<< ((32 : Int32).toInt64 &&& 63)) ||| ((xs (a3 + (3 : Int32)).toNatClampNeg).toInt64 &&& (4294967295 : Int64))), .int (xs (a3 + (1 : Int32)).toNatClampNeg), .ref a2, .int u206.1] u206.2
                                                              obtain ⟨u208, hu208, hf⟩ := sw_bnd hf
                                                              refine sl_callV hX (i := 140) (k2 := k_Model_bent) (d2 := d - 1) (As := [.int (xs (a3 + (1 : Int32)).toNatClampNeg), .long (((xs (a3 + (2 : Int32)).toNatClampNeg).toInt64 <<< ((32 : Int32).toInt64 &&& 63)) ||| ((xs (a3 + (3 : Int32)).toNatClampNeg).toInt64 &&& (4294967295 : Int64)))]) (st := [.int u206.1]) (q := a2) (ci := 12) mf_Model_bent mi_Model_bent ms_Model_bent (sw_m8 144 (by decide +kernel)) rfl (by decide) (by decide +kernel) rfl (Nat.le_of_ble_eq_true rfl) (by omega) h207 (o_Model_bent g (d := d - 1) (by omega) hu208) ?_
                                                              show sw_W _ _ 1281 [(0, .retAddr 30), (1, .ref a1), (2, .ref a2), (3, .int a3)] [.int u208.1, .int u206.1] u208.2
                                                              refine sl_j_eq hX (off := 28) (tgt := 1309) (by decide +kernel) (by decide) hf (fun hc hf => ?_) (fun hc hf => ?_)
                                                              · exact sw_weak [0, 1, 2, 3] rfl (t_Law_law_1309 hd hX hs hb hB hend hr hz _ ih hf)
                                                              · exact sw_weak [] rfl (t_Law_law_1284 hd hX hs hb hB hend hr hz hf)
                                                            ·
                                                              rcases sw_ite hf with ⟨h209, hf⟩ | ⟨h209, hf⟩
                                                              · refine sl_tin hX (a := ((xs a3.toNatClampNeg) &&& (31 : Int32))) (off := 1253) (tgt := 1286) (len := 131) (show decode (k_c k_Law_law) 33 = .ok (.tableswitch (1276) (0) (28) #[131, 194, 217, 240, 263, 316, 379, 402, 425, 448, 501, 535, 578, 611, 644, 687, 720, 763, 786, 839, 862, 885, 928, 997, 1020, 1053, 1176, 1190, 1253], 131) by decide +kernel) (by rw [h209]; decide) (by rw [h209]; decide) (by rw [h209]; decide +kernel) (by decide) ?_
                                                                obtain ⟨h210, hf⟩ := sw_gd_1 hf
                                                                refine sl_blk hX [(.aload_n 1, 0, 0, .null), (.aload_n 0, 0, 0, .null), (.iload_n 3, 0, 0, .null), (.iconst (1), 0, 0, .int (1 : Int32)), (.iadd, 0, 0, .null)] (lv' := [(0, .retAddr 30), (1, .ref a1), (2, .ref a2), (3, .int a3)]) (st' := [.int (a3 + (1 : Int32)), .retAddr 30, .ref a1]) (M1 := M) (ob := []) (by decide +kernel) rfl sw_a0 ?_
                                                                show sw_W _ _ 1291 [(0, .retAddr 30), (1, .ref a1), (2, .ref a2), (3, .int a3)] [.int (a3 + (1 : Int32)), .retAddr 30, .ref a1] M
                                                                refine sl_sld hX hs hb hB h210 (by decide +kernel) ?_
                                                                show sw_W _ _ 1292 [(0, .retAddr 30), (1, .ref a1), (2, .ref a2), (3, .int a3)] [.int (xs (a3 + (1 : Int32)).toNatClampNeg), .ref a1] M
                                                                obtain ⟨h211, hf⟩ := sw_gd_1 hf
                                                                obtain ⟨u212, hu212, hf⟩ := sw_bnd hf
                                                                refine sl_callV hX (i := 141) (k2 := k_House_count) (d2 := d - 1) (As := [.int (xs (a3 + (1 : Int32)).toNatClampNeg)]) (st := []) (q := a1) (ci := 11) mf_House_count mi_House_count ms_House_count (sw_m5 215 (by decide +kernel)) rfl (by decide) (by decide +kernel) rfl (Nat.le_of_ble_eq_true rfl) (by omega) h211 (o_House_count g (d := d - 1) (by omega) hu212) ?_
                                                                show sw_W _ _ 1295 [(0, .retAddr 30), (1, .ref a1), (2, .ref a2), (3, .int a3)] [.int u212.1] u212.2
                                                                refine sl_blk hX [(.aload_n 2, 0, 0, .null), (.aload_n 0, 0, 0, .null), (.iload_n 3, 0, 0, .null), (.iconst (1), 0, 0, .int (1 : Int32)), (.iadd, 0, 0, .null)] (lv' := [(0, .retAddr 30), (1, .ref a1), (2, .ref a2), (3, .int a3)]) (st' := [.int (a3 + (1 : Int32)), .retAddr 30, .ref a2, .int u212.1]) (M1 := u212.2) (ob := []) (by decide +kernel) rfl sw_a0 ?_
                                                                show sw_W _ _ 1300 [(0, .retAddr 30), (1, .ref a1), (2, .ref a2), (3, .int a3)] [.int (a3 + (1 : Int32)), .retAddr 30, .ref a2, .int u212.1] u212.2
                                                                refine sl_sld hX hs hb hB h210 (by decide +kernel) ?_
                                                                show sw_W _ _ 1301 [(0, .retAddr 30), (1, .ref a1), (2, .ref a2), (3, .int a3)] [.int (xs (a3 + (1 : Int32)).toNatClampNeg), .ref a2, .int u212.1] u212.2
                                                                obtain ⟨h213, hf⟩ := sw_gd_1 hf
                                                                obtain ⟨u214, hu214, hf⟩ := sw_bnd hf
                                                                refine sl_callV hX (i := 144) (k2 := k_Model_count) (d2 := d - 1) (As := [.int (xs (a3 + (1 : Int32)).toNatClampNeg)]) (st := [.int u212.1]) (q := a2) (ci := 12) mf_Model_count mi_Model_count ms_Model_count (sw_m8 148 (by decide +kernel)) rfl (by decide) (by decide +kernel) rfl (Nat.le_of_ble_eq_true rfl) (by omega) h213 (o_Model_count g (d := d - 1) (by omega) hu214) ?_
                                                                show sw_W _ _ 1304 [(0, .retAddr 30), (1, .ref a1), (2, .ref a2), (3, .int a3)] [.int u214.1, .int u212.1] u214.2
                                                                refine sl_j_eq hX (off := 5) (tgt := 1309) (by decide +kernel) (by decide) hf (fun hc hf => ?_) (fun hc hf => ?_)
                                                                · exact sw_weak [0, 1, 2, 3] rfl (t_Law_law_1309 hd hX hs hb hB hend hr hz _ ih hf)
                                                                · refine sl_blk hX [(.iconst (0), 0, 0, .int (0 : Int32))] (lv' := [(0, .retAddr 30), (1, .ref a1), (2, .ref a2), (3, .int a3)]) (st' := [.int (0 : Int32)]) (M1 := u214.2) (ob := []) (by decide +kernel) rfl sw_a0 ?_
                                                                  show sw_W _ _ 1308 [(0, .retAddr 30), (1, .ref a1), (2, .ref a2), (3, .int a3)] [.int (0 : Int32)] u214.2
                                                                  cases hf
                                                                  exact absurd (show (0 : Int32) = 1 from hr) (by decide)
                                                              ·
                                                                have qh2 := sw_ne (n := 0) h2 (by decide)
                                                                have qh12 := sw_ne (n := 1) h12 (by decide)
                                                                have qh18 := sw_ne (n := 2) h18 (by decide)
                                                                have qh24 := sw_ne (n := 3) h24 (by decide)
                                                                have qh30 := sw_ne (n := 4) h30 (by decide)
                                                                have qh39 := sw_ne (n := 5) h39 (by decide)
                                                                have qh49 := sw_ne (n := 6) h49 (by decide)
                                                                have qh55 := sw_ne (n := 7) h55 (by decide)
                                                                have qh61 := sw_ne (n := 8) h61 (by decide)
                                                                have qh67 := sw_ne (n := 9) h67 (by decide)
                                                                have qh76 := sw_ne (n := 10) h76 (by decide)
                                                                have qh83 := sw_ne (n := 11) h83 (by decide)
                                                                have qh91 := sw_ne (n := 12) h91 (by decide)
                                                                have qh98 := sw_ne (n := 13) h98 (by decide)
                                                                have qh105 := sw_ne (n := 14) h105 (by decide)
                                                                have qh113 := sw_ne (n := 15) h113 (by decide)
                                                                have qh120 := sw_ne (n := 16) h120 (by decide)
                                                                have qh128 := sw_ne (n := 17) h128 (by decide)
                                                                have qh134 := sw_ne (n := 18) h134 (by decide)
                                                                have qh143 := sw_ne (n := 19) h143 (by decide)
                                                                have qh149 := sw_ne (n := 20) h149 (by decide)
                                                                have qh155 := sw_ne (n := 21) h155 (by decide)
                                                                have qh163 := sw_ne (n := 22) h163 (by decide)
                                                                have qh168 := sw_ne (n := 23) h168 (by decide)
                                                                have qh174 := sw_ne (n := 24) h174 (by decide)
                                                                have qh181 := sw_ne (n := 25) h181 (by decide)
                                                                have qh196 := sw_ne (n := 26) h196 (by decide)
                                                                have qh201 := sw_ne (n := 27) h201 (by decide)
                                                                have qh209 := sw_ne (n := 28) h209 (by decide)
                                                                refine sl_tout hX (a := ((xs a3.toNatClampNeg) &&& (31 : Int32))) (tgt := 1309) (len := 131) (show decode (k_c k_Law_law) 33 = .ok (.tableswitch (1276) (0) (28) #[131, 194, 217, 240, 263, 316, 379, 402, 425, 448, 501, 535, 578, 611, 644, 687, 720, 763, 786, 839, 862, 885, 928, 997, 1020, 1053, 1176, 1190, 1253], 131) by decide +kernel) (by omega) (by decide) ?_
                                                                exact sw_weak [0, 1, 2, 3] rfl (t_Law_law_1309 hd hX hs hb hB hend hr hz _ ih hf)
def f_Law_law (N L : Nat) (xs : Nat → Int32) (M : sw_M) : Option (Int32 × sw_M) :=
  sw_gd [sw_nx M 11 0] (sw_gd [sw_ok (wr_N M) (rd_N M + 1) 11] ((f_House_init N (rd_N M + 1) (wr_N M)).bind (fun u3 => sw_gd [sw_nx u3 12 0] (sw_gd [sw_ok (wr_N u3) (rd_N u3 + 1) 12] ((f_Model_init N (rd_N u3 + 1) (wr_N u3)).bind (fun u6 => f_Law_law_18 N L xs N (rd_N M + 1) (rd_N u3 + 1) (0 : Int32) u6))))))
set_option maxRecDepth 10000 in
theorem t_Law_law {g : sw_G} {d : Nat} (hd : 108 ≤ d) {x : sw_Ct} (hX : sw_Xl g k_Law_law d x) {N L : Nat} {xs : Nat → Int32} (hs : va_X (g_X g 30) L xs (x_s x) (x_s x).heap) (hb : g_X g 30 < (x_s x).heap.size) (hB : ¬ g_B g ≤ g_X g 30) (hend : ∀ (pc : Nat) (M : sw_M) {lv : List (Nat × Value)}, rd_N M ≤ x_1 x → decode (k_c k_Law_law) pc = .ok (.ireturn, 1) → sw_W g x pc lv [.int 1] M) {r : Int32 × sw_M} (hr : r.1 = 1) (hz : rd_N r.2 ≤ x_1 x) {M : sw_M} (hf : f_Law_law N L xs M = some r) : sw_W g x 0 [(0, .retAddr 30)] [] M := by
  unfold f_Law_law at hf
  obtain ⟨h1, hf⟩ := sw_gd_1 hf
  obtain ⟨h2, hf⟩ := sw_gd_1 hf
  refine sl_blk hX [(.new 7, 11, 0, .null), (.dup, 0, 0, .null)] (lv' := [(0, .retAddr 30)]) (st' := [.ref (rd_N M + 1), .ref (rd_N M + 1)]) (M1 := (wr_N M)) (ob := [sw_nx M 11 0]) (by decide +kernel) rfl (sw_a1 h1 sw_a0) ?_
  show sw_W _ _ 4 [(0, .retAddr 30)] [.ref (rd_N M + 1), .ref (rd_N M + 1)] (wr_N M)
  obtain ⟨u3, hu3, hf⟩ := sw_bnd hf
  refine sl_callI hX (i := 9) (k2 := k_House_init) (d2 := d - 1) (As := []) (st := [.ref (rd_N M + 1)]) (q := (rd_N M + 1)) (ci := 11) mf_House_init rfl rfl mi_House_init (sw_m1 24 (by decide +kernel)) (by decide) (by decide +kernel) rfl (Nat.le_of_ble_eq_true rfl) (by omega) h2 (o_House_init g (d := d - 1) (by omega) hu3) ?_
  show sw_W _ _ 7 [(0, .retAddr 30)] [.ref (rd_N M + 1)] u3
  obtain ⟨h4, hf⟩ := sw_gd_1 hf
  obtain ⟨h5, hf⟩ := sw_gd_1 hf
  refine sl_blk hX [(.astore_n 1, 0, 0, .null), (.new 10, 12, 0, .null), (.dup, 0, 0, .null)] (lv' := [(1, .ref (rd_N M + 1)), (0, .retAddr 30)]) (st' := [.ref (rd_N u3 + 1), .ref (rd_N u3 + 1)]) (M1 := (wr_N u3)) (ob := [sw_nx u3 12 0]) (by decide +kernel) rfl (sw_a1 h4 sw_a0) ?_
  show sw_W _ _ 12 [(1, .ref (rd_N M + 1)), (0, .retAddr 30)] [.ref (rd_N u3 + 1), .ref (rd_N u3 + 1)] (wr_N u3)
  obtain ⟨u6, hu6, hf⟩ := sw_bnd hf
  refine sl_callI hX (i := 12) (k2 := k_Model_init) (d2 := d - 1) (As := []) (st := [.ref (rd_N u3 + 1)]) (q := (rd_N u3 + 1)) (ci := 12) mf_Model_init rfl rfl mi_Model_init (sw_m5 221 (by decide +kernel)) (by decide) (by decide +kernel) rfl (Nat.le_of_ble_eq_true rfl) (by omega) h5 (o_Model_init g (d := d - 1) (by omega) hu6) ?_
  show sw_W _ _ 15 [(1, .ref (rd_N M + 1)), (0, .retAddr 30)] [.ref (rd_N u3 + 1)] u6
  refine sl_blk hX [(.astore_n 2, 0, 0, .null), (.iconst (0), 0, 0, .int (0 : Int32)), (.istore_n 3, 0, 0, .null)] (lv' := [(3, .int (0 : Int32)), (2, .ref (rd_N u3 + 1)), (1, .ref (rd_N M + 1)), (0, .retAddr 30)]) (st' := []) (M1 := u6) (ob := []) (by decide +kernel) rfl sw_a0 ?_
  show sw_W _ _ 18 [(3, .int (0 : Int32)), (2, .ref (rd_N u3 + 1)), (1, .ref (rd_N M + 1)), (0, .retAddr 30)] [] u6
  exact sw_weak [3, 2, 1, 0] rfl (t_Law_law_18 hd hX hs hb hB hend hr hz _ _ _ _ _ hf)
