/-! 11: straight code in one piece -/
abbrev sw_I : Type := Instr × Nat × Nat × Value
abbrev sw_S : Type := List (Nat × Value) × List Value × sw_M
def sw_il (i : Instr) : Nat := match i with
  | .iload _ => 2
  | .lload _ => 2
  | .aload _ => 2
  | .istore _ => 2
  | .lstore _ => 2
  | .astore _ => 2
  | .bipush _ => 2
  | .sipush _ => 3
  | .ldc _ => 2
  | .ldc_w _ => 3
  | .ldc2_w _ => 3
  | .iinc _ _ => 3
  | .getfield _ => 3
  | .putfield _ => 3
  | .new _ => 3
  | .newarray _ => 2
  | .anewarray _ => 3
  | .multianewarray _ _ => 4
  | _ => 1
def sw_nx (M : sw_M) (kd n : Nat) : Bool := decide (sw_lay[rd_N M]? = some (kd, n))
def sw_nxa (M : sw_M) (kd : Nat) (n : Int32) : Bool := decide (¬ n < 0) && (Nat.ble n.toNatClampNeg 60000 && decide (sw_lay[rd_N M]? = some (kd, n.toNatClampNeg)))
def sw_p1 (e : sw_I) (s : sw_S) : Option (List Bool × sw_S) := match e.1 with
  | .aconst_null => some ([], s.1, .ref 0 :: s.2.1, s.2.2)
  | .iconst _ => some ([], s.1, e.2.2.2 :: s.2.1, s.2.2)
  | .bipush _ => some ([], s.1, e.2.2.2 :: s.2.1, s.2.2)
  | .sipush _ => some ([], s.1, e.2.2.2 :: s.2.1, s.2.2)
  | .lconst _ => some ([], s.1, e.2.2.2 :: s.2.1, s.2.2)
  | .ldc _ => some ([], s.1, e.2.2.2 :: s.2.1, s.2.2)
  | .ldc_w _ => some ([], s.1, e.2.2.2 :: s.2.1, s.2.2)
  | .ldc2_w _ => some ([], s.1, e.2.2.2 :: s.2.1, s.2.2)
  | .iload i => match sw_lk s.1 i with
    | some (.int v) => some ([], s.1, .int v :: s.2.1, s.2.2)
    | _ => none
  | .iload_n i => match sw_lk s.1 i.val with
    | some (.int v) => some ([], s.1, .int v :: s.2.1, s.2.2)
    | _ => none
  | .lload i => match sw_lk s.1 i with
    | some (.long v) => some ([], s.1, .long v :: s.2.1, s.2.2)
    | _ => none
  | .lload_n i => match sw_lk s.1 i.val with
    | some (.long v) => some ([], s.1, .long v :: s.2.1, s.2.2)
    | _ => none
  | .aload i => match sw_lk s.1 i with
    | some (.ref v) => some ([], s.1, .ref v :: s.2.1, s.2.2)
    | some (.retAddr v) => some ([], s.1, .retAddr v :: s.2.1, s.2.2)
    | _ => none
  | .aload_n i => match sw_lk s.1 i.val with
    | some (.ref v) => some ([], s.1, .ref v :: s.2.1, s.2.2)
    | some (.retAddr v) => some ([], s.1, .retAddr v :: s.2.1, s.2.2)
    | _ => none
  | .istore i => match s.2.1 with
    | .int v :: r => some ([], (i, .int v) :: sw_rm s.1 i, r, s.2.2)
    | _ => none
  | .istore_n i => match s.2.1 with
    | .int v :: r => some ([], (i.val, .int v) :: sw_rm s.1 i.val, r, s.2.2)
    | _ => none
  | .lstore i => match s.2.1 with
    | .long v :: r => some ([], (i, .long v) :: (sw_rm s.1 i).filter (fun q => !(q.1 == i + 1)), r, s.2.2)
    | _ => none
  | .lstore_n i => match s.2.1 with
    | .long v :: r => some ([], (i.val, .long v) :: (sw_rm s.1 i.val).filter (fun q => !(q.1 == i.val + 1)), r, s.2.2)
    | _ => none
  | .astore i => match s.2.1 with
    | .ref v :: r => some ([], (i, .ref v) :: sw_rm s.1 i, r, s.2.2)
    | _ => none
  | .astore_n i => match s.2.1 with
    | .ref v :: r => some ([], (i.val, .ref v) :: sw_rm s.1 i.val, r, s.2.2)
    | _ => none
  | .iinc i _ => match sw_lk s.1 i, e.2.2.2 with
    | some (.int v), .int w => some ([], (i, .int (v + w)) :: sw_rm s.1 i, s.2.1, s.2.2)
    | _, _ => none
  | .dup => match s.2.1 with
    | .int v :: r => some ([], s.1, .int v :: .int v :: r, s.2.2)
    | .ref v :: r => some ([], s.1, .ref v :: .ref v :: r, s.2.2)
    | _ => none
  | .pop => match s.2.1 with
    | .int _ :: r => some ([], s.1, r, s.2.2)
    | .ref _ :: r => some ([], s.1, r, s.2.2)
    | _ => none
  | .dup2 => match s.2.1 with
    | .int v :: .ref w :: r => some ([], s.1, .int v :: .ref w :: .int v :: .ref w :: r, s.2.2)
    | .long v :: r => some ([], s.1, .long v :: .long v :: r, s.2.2)
    | _ => none
  | .iadd => match s.2.1 with
    | .int b :: .int a :: r => some ([], s.1, .int (a + b) :: r, s.2.2)
    | _ => none
  | .isub => match s.2.1 with
    | .int b :: .int a :: r => some ([], s.1, .int (a - b) :: r, s.2.2)
    | _ => none
  | .imul => match s.2.1 with
    | .int b :: .int a :: r => some ([], s.1, .int (a * b) :: r, s.2.2)
    | _ => none
  | .iand => match s.2.1 with
    | .int b :: .int a :: r => some ([], s.1, .int (a &&& b) :: r, s.2.2)
    | _ => none
  | .ior => match s.2.1 with
    | .int b :: .int a :: r => some ([], s.1, .int (a ||| b) :: r, s.2.2)
    | _ => none
  | .ixor => match s.2.1 with
    | .int b :: .int a :: r => some ([], s.1, .int (a ^^^ b) :: r, s.2.2)
    | _ => none
  | .ishl => match s.2.1 with
    | .int b :: .int a :: r => some ([], s.1, .int (a <<< (b &&& 31)) :: r, s.2.2)
    | _ => none
  | .ishr => match s.2.1 with
    | .int b :: .int a :: r => some ([], s.1, .int (a >>> (b &&& 31)) :: r, s.2.2)
    | _ => none
  | .iushr => match s.2.1 with
    | .int b :: .int a :: r => some ([], s.1, .int ((a.toUInt32 >>> (b.toUInt32 &&& Int32.toUInt32 31)).toInt32) :: r, s.2.2)
    | _ => none
  | .idiv => match s.2.1 with
    | .int b :: .int a :: r => some ([decide (¬ b = 0)], s.1, .int (a / b) :: r, s.2.2)
    | _ => none
  | .irem => match s.2.1 with
    | .int b :: .int a :: r => some ([decide (¬ b = 0)], s.1, .int (a - a / b * b) :: r, s.2.2)
    | _ => none
  | .ineg => match s.2.1 with
    | .int a :: r => some ([], s.1, .int (-a) :: r, s.2.2)
    | _ => none
  | .ladd => match s.2.1 with
    | .long b :: .long a :: r => some ([], s.1, .long (a + b) :: r, s.2.2)
    | _ => none
  | .lsub => match s.2.1 with
    | .long b :: .long a :: r => some ([], s.1, .long (a - b) :: r, s.2.2)
    | _ => none
  | .lmul => match s.2.1 with
    | .long b :: .long a :: r => some ([], s.1, .long (a * b) :: r, s.2.2)
    | _ => none
  | .ldiv => match s.2.1 with
    | .long b :: .long a :: r => some ([decide (¬ b = 0)], s.1, .long (a / b) :: r, s.2.2)
    | _ => none
  | .land => match s.2.1 with
    | .long b :: .long a :: r => some ([], s.1, .long (a &&& b) :: r, s.2.2)
    | _ => none
  | .lor => match s.2.1 with
    | .long b :: .long a :: r => some ([], s.1, .long (a ||| b) :: r, s.2.2)
    | _ => none
  | .lxor => match s.2.1 with
    | .long b :: .long a :: r => some ([], s.1, .long (a ^^^ b) :: r, s.2.2)
    | _ => none
  | .lneg => match s.2.1 with
    | .long a :: r => some ([], s.1, .long (-a) :: r, s.2.2)
    | _ => none
  | .lshl => match s.2.1 with
    | .int b :: .long a :: r => some ([], s.1, .long (a <<< (b.toInt64 &&& 63)) :: r, s.2.2)
    | _ => none
  | .lshr => match s.2.1 with
    | .int b :: .long a :: r => some ([], s.1, .long (a >>> (b.toInt64 &&& 63)) :: r, s.2.2)
    | _ => none
  | .lushr => match s.2.1 with
    | .int b :: .long a :: r => some ([], s.1, .long ((a.toUInt64 >>> (b.toInt64.toUInt64 &&& Int64.toUInt64 63)).toInt64) :: r, s.2.2)
    | _ => none
  | .lcmp => match s.2.1 with
    | .long b :: .long a :: r => some ([], s.1, .int (lg_cmp a b) :: r, s.2.2)
    | _ => none
  | .i2l => match s.2.1 with
    | .int a :: r => some ([], s.1, .long a.toInt64 :: r, s.2.2)
    | _ => none
  | .l2i => match s.2.1 with
    | .long a :: r => some ([], s.1, .int a.toInt32 :: r, s.2.2)
    | _ => none
  | .i2b => match s.2.1 with
    | .int a :: r => some ([], s.1, .int a.toInt8.toInt32 :: r, s.2.2)
    | _ => none
  | .i2c => match s.2.1 with
    | .int a :: r => some ([], s.1, .int ((a.toUInt32 % 65536).toInt32) :: r, s.2.2)
    | _ => none
  | .getfield _ => match s.2.1 with
    | .ref q :: r => some ([sw_ok s.2.2 q e.2.1], s.1, sw_pv s.2.2 (sw_ft e.2.1 e.2.2.1) q e.2.2.1 :: r, s.2.2)
    | _ => none
  | .putfield _ => match sw_ft e.2.1 e.2.2.1, s.2.1 with
    | 0, .int v :: .ref q :: r => some ([sw_ok s.2.2 q e.2.1], s.1, r, wr_I s.2.2 q e.2.2.1 v)
    | 1, .long v :: .ref q :: r => some ([sw_ok s.2.2 q e.2.1], s.1, r, wr_L s.2.2 q e.2.2.1 v)
    | 2, .ref v :: .ref q :: r => some ([sw_ok s.2.2 q e.2.1], s.1, r, wr_R s.2.2 q e.2.2.1 v)
    | 3, .int v :: .ref q :: r => some ([sw_ok s.2.2 q e.2.1, sw_bz v], s.1, r, wr_I s.2.2 q e.2.2.1 v)
    | _, _ => none
  | .iaload => match s.2.1 with
    | .int i :: .ref q :: r => some ([sw_ar s.2.2 q 13 i], s.1, .int (rd_I s.2.2 q i.toNatClampNeg) :: r, s.2.2)
    | _ => none
  | .laload => match s.2.1 with
    | .int i :: .ref q :: r => some ([sw_ar s.2.2 q 16 i], s.1, .long (rd_L s.2.2 q i.toNatClampNeg) :: r, s.2.2)
    | _ => none
  | .baload => match s.2.1 with
    | .int i :: .ref q :: r => some ([sw_ar s.2.2 q 14 i || sw_ar s.2.2 q 15 i], s.1, .int (rd_I s.2.2 q i.toNatClampNeg) :: r, s.2.2)
    | _ => none
  | .aaload => match s.2.1 with
    | .int i :: .ref q :: r => some ([sw_ar s.2.2 q 17 i || (sw_ar s.2.2 q 18 i || sw_ar s.2.2 q 19 i)], s.1, .ref (rd_R s.2.2 q i.toNatClampNeg) :: r, s.2.2)
    | _ => none
  | .iastore => match s.2.1 with
    | .int v :: .int i :: .ref q :: r => some ([sw_ar s.2.2 q 13 i], s.1, r, wr_I s.2.2 q i.toNatClampNeg v)
    | _ => none
  | .lastore => match s.2.1 with
    | .long v :: .int i :: .ref q :: r => some ([sw_ar s.2.2 q 16 i], s.1, r, wr_L s.2.2 q i.toNatClampNeg v)
    | _ => none
  | .bastore => match s.2.1 with
    | .int v :: .int i :: .ref q :: r => some ([(sw_ar s.2.2 q 14 i && decide (v.toInt8.toInt32 = v)) || (sw_ar s.2.2 q 15 i && sw_bz v)], s.1, r, wr_I s.2.2 q i.toNatClampNeg v)
    | _ => none
  | .aastore => match s.2.1 with
    | .ref v :: .int i :: .ref q :: r => some ([(sw_ar s.2.2 q 17 i && sw_ok s.2.2 v 4) || (sw_ar s.2.2 q 18 i && sw_ok s.2.2 v 5)], s.1, r, wr_R s.2.2 q i.toNatClampNeg v)
    | _ => none
  | .arraylength => match s.2.1 with
    | .ref q :: r => some ([sw_oka s.2.2 q], s.1, .int (nI (sw_len q)) :: r, s.2.2)
    | _ => none
  | .new _ => some ([sw_nx s.2.2 e.2.1 0], s.1, .ref (rd_N s.2.2 + 1) :: s.2.1, wr_N s.2.2)
  | .newarray _ => match s.2.1 with
    | .int n :: r => some ([sw_nxa s.2.2 e.2.1 n], s.1, .ref (rd_N s.2.2 + 1) :: r, wr_N s.2.2)
    | _ => none
  | .anewarray _ => match s.2.1 with
    | .int n :: r => some ([sw_nxa s.2.2 e.2.1 n], s.1, .ref (rd_N s.2.2 + 1) :: r, wr_N s.2.2)
    | _ => none
  | .multianewarray _ _ => match s.2.1 with
    | .int k :: .int n :: r => some ([decide (¬ n < 0) && (decide (¬ k < 0) && (Nat.ble n.toNatClampNeg 60000 && (Nat.ble k.toNatClampNeg 60000 && sw_nxm s.2.2 n.toNatClampNeg k.toNatClampNeg)))], s.1, .ref (rd_N s.2.2 + 1) :: r, sw_mk s.2.2 n.toNatClampNeg)
    | _ => none
  | _ => none
/-- what the class file must say of an instruction -/
def sw_c1 (o : Nat) (ini : Bool) (nL : Nat) (e : sw_I) : Bool := match e.1 with
  | .iconst n => decide (e.2.2.2 = .int (Int32.ofInt n))
  | .bipush n => decide (e.2.2.2 = .int (Int8.ofInt n).toInt32)
  | .sipush n => decide (e.2.2.2 = .int (Int16.ofInt n).toInt32)
  | .lconst n => decide (e.2.2.2 = .long (Int64.ofNat n.val))
  | .ldc i => match e.2.2.2 with
    | .int v => sw_cck o i v.toInt && decide (Int32.ofInt v.toInt = v)
    | _ => false
  | .ldc_w i => match e.2.2.2 with
    | .int v => sw_cck o i v.toInt && decide (Int32.ofInt v.toInt = v)
    | _ => false
  | .ldc2_w i => match e.2.2.2 with
    | .long v => sw_lck o i v.toInt && decide (Int64.ofInt v.toInt = v)
    | _ => false
  | .istore i => Nat.blt i nL
  | .istore_n i => Nat.blt i.val nL
  | .astore i => Nat.blt i nL
  | .astore_n i => Nat.blt i.val nL
  | .lstore i => Nat.blt (i + 1) nL
  | .lstore_n i => Nat.blt (i.val + 1) nL
  | .iinc i n => Nat.blt i nL && decide (e.2.2.2 = .int (Int32.ofInt n))
  | .getfield i => sw_fck o i e.2.1 e.2.2.1 && Nat.blt e.2.1 13
  | .putfield i => sw_fck o i e.2.1 e.2.2.1 && (Nat.blt e.2.1 13 && (!((sw_fin.getD e.2.1 []).getD e.2.2.1 false) || (ini && Nat.beq e.2.1 o)))
  | .new i => sw_nck o i e.2.1 && Nat.blt e.2.1 13
  | .newarray t => match t with
    | .int => Nat.beq e.2.1 13
    | .byte => Nat.beq e.2.1 14
    | .boolean => Nat.beq e.2.1 15
    | .long => Nat.beq e.2.1 16
    | _ => false
  | .anewarray i => (Nat.beq e.2.1 17 && sw_nck o i 4) || (Nat.beq e.2.1 18 && sw_nck o i 5)
  | .multianewarray i d => Nat.beq d 2 && sw_mck o i
  | _ => true
def sw_d1 (cc : ByteArray) (pc : Nat) (i : Instr) : Bool := match decode cc pc with
  | .ok (j, n) => decide (j = i) && Nat.beq n (sw_il i)
  | .error _ => false
theorem sw_d1_spec {cc : ByteArray} {pc : Nat} {i : Instr} (h : sw_d1 cc pc i = true) : decode cc pc = .ok (i, sw_il i) := by
  unfold sw_d1 at h
  split at h
  · rename_i j n hd
    simp only [Bool.and_eq_true, decide_eq_true_eq] at h
    obtain ⟨h1, h2⟩ := h
    have h2 := Nat.eq_of_beq_eq_true h2
    subst h1; subst h2
    exact hd
  · cases h
