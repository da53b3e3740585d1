/-! 06: stack and arithmetic rows -/
section Arith
variable {g : sw_G} {o : Nat} {ini : Bool} {cc : ByteArray} {x : sw_Ct} {pc : Nat} {lv : List (Nat × Value)} {st : List Value} {M : sw_M}
theorem sw_cat1 {v : Value} {n : Nat} (h : v.category = n) : (sw_tr g v).category = n := (sw_tr_cat g v).trans h
theorem sw_r_dup (hX : sw_X g o ini cc x) {v : Value} (hd : decode cc pc = .ok (.dup, 1)) (hv : v.category = 1) (k : sw_W g x (pc + 1) lv (v :: v :: st) M) : sw_W g x pc lv (v :: st) M := sw_keep k fun _ _ _ h => lv_dup hX.1 hX.2.1 hd (sw_cat1 hv) h
theorem sw_r_pop (hX : sw_X g o ini cc x) {v : Value} (hd : decode cc pc = .ok (.pop, 1)) (hv : v.category = 1) (k : sw_W g x (pc + 1) lv st M) : sw_W g x pc lv (v :: st) M := sw_keep k fun _ _ _ h => lv_pop hX.1 hX.2.1 hd (sw_cat1 hv) h
theorem sw_r_dup_x1 (hX : sw_X g o ini cc x) {v w : Value} (hd : decode cc pc = .ok (.dup_x1, 1)) (hv : v.category = 1) (hw : w.category = 1) (k : sw_W g x (pc + 1) lv (v :: w :: v :: st) M) : sw_W g x pc lv (v :: w :: st) M := sw_keep k fun _ _ _ h => lv_dup_x1 hX.1 hX.2.1 hd (sw_cat1 hv) (sw_cat1 hw) h
theorem sw_r_dup2_11 (hX : sw_X g o ini cc x) {v w : Value} (hd : decode cc pc = .ok (.dup2, 1)) (hv : v.category = 1) (hw : w.category = 1) (k : sw_W g x (pc + 1) lv (v :: w :: v :: w :: st) M) : sw_W g x pc lv (v :: w :: st) M := sw_keep k fun _ _ _ h => lv_dup2_11 hX.1 hX.2.1 hd (sw_cat1 hv) (sw_cat1 hw) h
theorem sw_r_dup2_2 (hX : sw_X g o ini cc x) {v : Value} (hd : decode cc pc = .ok (.dup2, 1)) (hv : v.category = 2) (k : sw_W g x (pc + 1) lv (v :: v :: st) M) : sw_W g x pc lv (v :: st) M := sw_keep k fun _ _ _ h => lv_dup2_2 hX.1 hX.2.1 hd (sw_cat1 hv) h
theorem sw_r_iadd (hX : sw_X g o ini cc x) {a b : Int32} (hd : decode cc pc = .ok (.iadd, 1)) (k : sw_W g x (pc + 1) lv (.int (a + b) :: st) M) : sw_W g x pc lv (.int b :: .int a :: st) M := sw_keep k fun _ _ _ h => lv_iadd hX.1 hX.2.1 hd h
theorem sw_r_isub (hX : sw_X g o ini cc x) {a b : Int32} (hd : decode cc pc = .ok (.isub, 1)) (k : sw_W g x (pc + 1) lv (.int (a - b) :: st) M) : sw_W g x pc lv (.int b :: .int a :: st) M := sw_keep k fun _ _ _ h => lv_isub hX.1 hX.2.1 hd h
theorem sw_r_imul (hX : sw_X g o ini cc x) {a b : Int32} (hd : decode cc pc = .ok (.imul, 1)) (k : sw_W g x (pc + 1) lv (.int (a * b) :: st) M) : sw_W g x pc lv (.int b :: .int a :: st) M := sw_keep k fun _ _ _ h => lv_imul hX.1 hX.2.1 hd h
theorem sw_r_iand (hX : sw_X g o ini cc x) {a b : Int32} (hd : decode cc pc = .ok (.iand, 1)) (k : sw_W g x (pc + 1) lv (.int (a &&& b) :: st) M) : sw_W g x pc lv (.int b :: .int a :: st) M := sw_keep k fun _ _ _ h => lv_iand hX.1 hX.2.1 hd h
theorem sw_r_ior (hX : sw_X g o ini cc x) {a b : Int32} (hd : decode cc pc = .ok (.ior, 1)) (k : sw_W g x (pc + 1) lv (.int (a ||| b) :: st) M) : sw_W g x pc lv (.int b :: .int a :: st) M := sw_keep k fun _ _ _ h => lv_ior hX.1 hX.2.1 hd h
theorem sw_r_ixor (hX : sw_X g o ini cc x) {a b : Int32} (hd : decode cc pc = .ok (.ixor, 1)) (k : sw_W g x (pc + 1) lv (.int (a ^^^ b) :: st) M) : sw_W g x pc lv (.int b :: .int a :: st) M := sw_keep k fun _ _ _ h => lv_ixor hX.1 hX.2.1 hd h
theorem sw_r_idiv (hX : sw_X g o ini cc x) {a b : Int32} (hd : decode cc pc = .ok (.idiv, 1)) (hb : ¬ b = 0) (k : sw_W g x (pc + 1) lv (.int (a / b) :: st) M) : sw_W g x pc lv (.int b :: .int a :: st) M := sw_keep k fun _ _ _ h => lv_idiv hX.1 hX.2.1 hd hb h
theorem sw_r_irem (hX : sw_X g o ini cc x) {a b : Int32} (hd : decode cc pc = .ok (.irem, 1)) (hb : ¬ b = 0) (k : sw_W g x (pc + 1) lv (.int (a - a / b * b) :: st) M) : sw_W g x pc lv (.int b :: .int a :: st) M := sw_keep k fun _ _ _ h => lv_irem hX.1 hX.2.1 hd hb h
theorem sw_r_ineg (hX : sw_X g o ini cc x) {a : Int32} (hd : decode cc pc = .ok (.ineg, 1)) (k : sw_W g x (pc + 1) lv (.int (-a) :: st) M) : sw_W g x pc lv (.int a :: st) M := sw_keep k fun _ _ _ h => lv_ineg hX.1 hX.2.1 hd h
theorem sw_r_ishl (hX : sw_X g o ini cc x) {a b : Int32} (hd : decode cc pc = .ok (.ishl, 1)) (k : sw_W g x (pc + 1) lv (.int (a <<< (b &&& 31)) :: st) M) : sw_W g x pc lv (.int b :: .int a :: st) M := sw_keep k fun _ _ _ h => lv_ishl hX.1 hX.2.1 hd h
theorem sw_r_ishr (hX : sw_X g o ini cc x) {a b : Int32} (hd : decode cc pc = .ok (.ishr, 1)) (k : sw_W g x (pc + 1) lv (.int (a >>> (b &&& 31)) :: st) M) : sw_W g x pc lv (.int b :: .int a :: st) M := sw_keep k fun _ _ _ h => lv_ishr hX.1 hX.2.1 hd h
theorem sw_r_iushr (hX : sw_X g o ini cc x) {a b : Int32} (hd : decode cc pc = .ok (.iushr, 1)) (k : sw_W g x (pc + 1) lv (.int ((a.toUInt32 >>> (b.toUInt32 &&& Int32.toUInt32 31)).toInt32) :: st) M) : sw_W g x pc lv (.int b :: .int a :: st) M := sw_keep k fun _ _ _ h => lv_iushr hX.1 hX.2.1 hd rfl h
theorem sw_r_ladd (hX : sw_X g o ini cc x) {a b : Int64} (hd : decode cc pc = .ok (.ladd, 1)) (k : sw_W g x (pc + 1) lv (.long (a + b) :: st) M) : sw_W g x pc lv (.long b :: .long a :: st) M := sw_keep k fun _ _ _ h => lv_ladd hX.1 hX.2.1 hd h
theorem sw_r_lsub (hX : sw_X g o ini cc x) {a b : Int64} (hd : decode cc pc = .ok (.lsub, 1)) (k : sw_W g x (pc + 1) lv (.long (a - b) :: st) M) : sw_W g x pc lv (.long b :: .long a :: st) M := sw_keep k fun _ _ _ h => lv_lsub hX.1 hX.2.1 hd h
theorem sw_r_lmul (hX : sw_X g o ini cc x) {a b : Int64} (hd : decode cc pc = .ok (.lmul, 1)) (k : sw_W g x (pc + 1) lv (.long (a * b) :: st) M) : sw_W g x pc lv (.long b :: .long a :: st) M := sw_keep k fun _ _ _ h => lv_lmul hX.1 hX.2.1 hd h
theorem sw_r_land (hX : sw_X g o ini cc x) {a b : Int64} (hd : decode cc pc = .ok (.land, 1)) (k : sw_W g x (pc + 1) lv (.long (a &&& b) :: st) M) : sw_W g x pc lv (.long b :: .long a :: st) M := sw_keep k fun _ _ _ h => lv_land hX.1 hX.2.1 hd h
theorem sw_r_lor (hX : sw_X g o ini cc x) {a b : Int64} (hd : decode cc pc = .ok (.lor, 1)) (k : sw_W g x (pc + 1) lv (.long (a ||| b) :: st) M) : sw_W g x pc lv (.long b :: .long a :: st) M := sw_keep k fun _ _ _ h => lv_lor hX.1 hX.2.1 hd h
theorem sw_r_lxor (hX : sw_X g o ini cc x) {a b : Int64} (hd : decode cc pc = .ok (.lxor, 1)) (k : sw_W g x (pc + 1) lv (.long (a ^^^ b) :: st) M) : sw_W g x pc lv (.long b :: .long a :: st) M := sw_keep k fun _ _ _ h => lv_lxor hX.1 hX.2.1 hd h
theorem sw_r_ldiv (hX : sw_X g o ini cc x) {a b : Int64} (hd : decode cc pc = .ok (.ldiv, 1)) (hb : ¬ b = 0) (k : sw_W g x (pc + 1) lv (.long (a / b) :: st) M) : sw_W g x pc lv (.long b :: .long a :: st) M := sw_keep k fun _ _ _ h => lv_ldiv hX.1 hX.2.1 hd hb h
theorem sw_r_lneg (hX : sw_X g o ini cc x) {a : Int64} (hd : decode cc pc = .ok (.lneg, 1)) (k : sw_W g x (pc + 1) lv (.long (-a) :: st) M) : sw_W g x pc lv (.long a :: st) M := sw_keep k fun _ _ _ h => lv_lneg hX.1 hX.2.1 hd h
theorem sw_r_lshl (hX : sw_X g o ini cc x) {a : Int64} {b : Int32} (hd : decode cc pc = .ok (.lshl, 1)) (k : sw_W g x (pc + 1) lv (.long (a <<< (b.toInt64 &&& 63)) :: st) M) : sw_W g x pc lv (.int b :: .long a :: st) M := sw_keep k fun _ _ _ h => lv_lshl hX.1 hX.2.1 hd rfl h
theorem sw_r_lshr (hX : sw_X g o ini cc x) {a : Int64} {b : Int32} (hd : decode cc pc = .ok (.lshr, 1)) (k : sw_W g x (pc + 1) lv (.long (a >>> (b.toInt64 &&& 63)) :: st) M) : sw_W g x pc lv (.int b :: .long a :: st) M := sw_keep k fun _ _ _ h => lv_lshr hX.1 hX.2.1 hd rfl h
theorem sw_r_lushr (hX : sw_X g o ini cc x) {a : Int64} {b : Int32} (hd : decode cc pc = .ok (.lushr, 1)) (k : sw_W g x (pc + 1) lv (.long ((a.toUInt64 >>> (b.toInt64.toUInt64 &&& Int64.toUInt64 63)).toInt64) :: st) M) : sw_W g x pc lv (.int b :: .long a :: st) M := sw_keep k fun _ _ _ h => lv_lushr hX.1 hX.2.1 hd rfl h
theorem sw_r_lcmp (hX : sw_X g o ini cc x) {a b : Int64} (hd : decode cc pc = .ok (.lcmp, 1)) (k : sw_W g x (pc + 1) lv (.int (lg_cmp a b) :: st) M) : sw_W g x pc lv (.long b :: .long a :: st) M := sw_keep k fun _ _ _ h => W.lcmp hX.1 hX.2.1 hd h
theorem sw_r_i2l (hX : sw_X g o ini cc x) {a : Int32} (hd : decode cc pc = .ok (.i2l, 1)) (k : sw_W g x (pc + 1) lv (.long a.toInt64 :: st) M) : sw_W g x pc lv (.int a :: st) M := sw_keep k fun _ _ _ h => lv_i2l hX.1 hX.2.1 hd rfl h
theorem sw_r_l2i (hX : sw_X g o ini cc x) {a : Int64} (hd : decode cc pc = .ok (.l2i, 1)) (k : sw_W g x (pc + 1) lv (.int a.toInt32 :: st) M) : sw_W g x pc lv (.long a :: st) M := sw_keep k fun _ _ _ h => lv_l2i hX.1 hX.2.1 hd rfl h
theorem sw_r_i2b (hX : sw_X g o ini cc x) {a : Int32} (hd : decode cc pc = .ok (.i2b, 1)) (k : sw_W g x (pc + 1) lv (.int a.toInt8.toInt32 :: st) M) : sw_W g x pc lv (.int a :: st) M := sw_keep k fun _ _ _ h => lv_i2b hX.1 hX.2.1 hd rfl h
theorem sw_r_i2c (hX : sw_X g o ini cc x) {a : Int32} (hd : decode cc pc = .ok (.i2c, 1)) (k : sw_W g x (pc + 1) lv (.int ((a.toUInt32 % 65536).toInt32) :: st) M) : sw_W g x pc lv (.int a :: st) M := sw_keep k fun _ _ _ h => lv_i2c hX.1 hX.2.1 hd rfl h
-- fields
theorem sw_r_get (hX : sw_X g o ini cc x) {i ci k0 q : Nat} (hd : decode cc pc = .ok (.getfield i, 3)) (hf : sw_fck o i ci k0 = true) (hc : ci < 13) (hq : sw_ok M q ci = true) (k : sw_W g x (pc + 3) lv (sw_pv M (sw_ft ci k0) q k0 :: st) M) : sw_W g x pc lv (.ref q :: st) M := by
  refine ⟨k.1, fun H locs ls hH => ?_⟩
  obtain ⟨hx, hb, hown, hts, hK, -⟩ := hX
  obtain ⟨r, hr, hk0, hlink⟩ := sw_fck_spec hf
  obtain ⟨a, rfl, ha, r', hr', cell, q1, q2, q3, q4⟩ := sw_R_obj hH.1 hq hc
  cases hr.symm.trans hr'
  obtain ⟨hin, hty, hnm, hdc, -⟩ := sw_clF _ _ hr
  obtain ⟨hS, hfc, kC, hkC, hkind⟩ := hK.1 ci _ hr
  obtain ⟨cf, kf, fi, f, hi, hsl⟩ := hS k0 hk0
  have hi' := hi
  rw [hdc k0 hk0] at hi'
  refine W.getf hx hb hown (hts _ hlink) hi' (u_facts hfc hkC (u_lays hts hin hk0) hi).1 q1 (by rw [q3]; exact fun h => by cases h) (v := sw_tr g (sw_pv M (sw_ft ci k0) (a + 1) k0)) ?_ rfl rfl hd (k.2 H locs ls hH)
  rw [hsl, q4 k0 hk0]
end Arith
