/-! 12: the pieces are right -/
theorem sw_all_c {a : Bool} {l : List Bool} (h : (a :: l).all id = true) : a = true ∧ l.all id = true := by
  rw [List.all_cons, Bool.and_eq_true] at h
  exact h
set_option maxHeartbeats 1000000 in
theorem sw_p1_ok {g : sw_G} {o : Nat} {ini : Bool} {cc : ByteArray} {x : sw_Ct} {pc nL : Nat} (hX : sw_X g o ini cc x) (hnL : (x_c x).maxLocals = nL) {e : sw_I} {lv lv' : List (Nat × Value)} {st st' : List Value} {M M' : sw_M} {ob : List Bool} (hd : sw_d1 cc pc e.1 = true) (hc : sw_c1 o ini nL e = true) (h : sw_p1 e (lv, st, M) = some (ob, lv', st', M')) (hob : ob.all id = true) (k : sw_W g x (pc + sw_il e.1) lv' st' M') : sw_W g x pc lv st M := by
  obtain ⟨ins, ca, ck, cv⟩ := e
  have hd := sw_d1_spec hd
  subst hnL
  dsimp only at hd k hc
  cases ins
  case aconst_null =>
    dsimp only [sw_p1] at h; cases h; exact sw_r_null hX hd k
  case iconst n =>
    dsimp only [sw_p1] at h; cases h
    dsimp only [sw_c1] at hc
    have hc := of_decide_eq_true hc; subst hc
    exact sw_r_iconst hX hd rfl k
  case bipush n =>
    dsimp only [sw_p1] at h; cases h
    dsimp only [sw_c1] at hc
    have hc := of_decide_eq_true hc; subst hc
    exact sw_r_bipush hX hd rfl k
  case sipush n =>
    dsimp only [sw_p1] at h; cases h
    dsimp only [sw_c1] at hc
    have hc := of_decide_eq_true hc; subst hc
    exact sw_r_sipush hX hd rfl k
  case lconst n =>
    dsimp only [sw_p1] at h; cases h
    dsimp only [sw_c1] at hc
    have hc := of_decide_eq_true hc; subst hc
    exact sw_r_lconst hX hd rfl k
  case ldc i =>
    dsimp only [sw_p1] at h; cases h
    dsimp only [sw_c1] at hc
    split at hc
    · rename_i v
      rw [Bool.and_eq_true] at hc
      have e := of_decide_eq_true hc.2
      rw [← e] at k
      exact sw_r_ldc hX hd hc.1 k
    · cases hc
  case ldc_w i =>
    dsimp only [sw_p1] at h; cases h
    dsimp only [sw_c1] at hc
    split at hc
    · rename_i v
      rw [Bool.and_eq_true] at hc
      have e := of_decide_eq_true hc.2
      rw [← e] at k
      exact sw_r_ldcw hX hd hc.1 k
    · cases hc
  case ldc2_w i =>
    dsimp only [sw_p1] at h; cases h
    dsimp only [sw_c1] at hc
    split at hc
    · rename_i v
      rw [Bool.and_eq_true] at hc
      have e := of_decide_eq_true hc.2
      rw [← e] at k
      exact sw_r_ldc2 hX hd hc.1 k
    · cases hc
  case iload i =>
    dsimp only [sw_p1] at h
    split at h
    · rename_i v hl; cases h; exact sw_r_iload hX hd hl k
    · cases h
  case iload_n i =>
    dsimp only [sw_p1] at h
    split at h
    · rename_i v hl; cases h; exact sw_r_iload_n hX hd hl k
    · cases h
  case lload i =>
    dsimp only [sw_p1] at h
    split at h
    · rename_i v hl; cases h; exact sw_r_lload hX hd hl k
    · cases h
  case lload_n i =>
    dsimp only [sw_p1] at h
    split at h
    · rename_i v hl; cases h; exact sw_r_lload_n hX hd hl k
    · cases h
  case aload i =>
    dsimp only [sw_p1] at h
    split at h
    · rename_i v hl; cases h; exact sw_r_aload hX hd hl rfl k
    · rename_i v hl; cases h; exact sw_r_aload hX hd hl rfl k
    · cases h
  case aload_n i =>
    dsimp only [sw_p1] at h
    split at h
    · rename_i v hl; cases h; exact sw_r_aload_n hX hd hl rfl k
    · rename_i v hl; cases h; exact sw_r_aload_n hX hd hl rfl k
    · cases h
  case istore i =>
    dsimp only [sw_p1] at h
    dsimp only [sw_c1] at hc
    split at h
    · cases h; exact sw_r_istore hX hd (Nat.blt_eq.mp hc) k
    · cases h
  case istore_n i =>
    dsimp only [sw_p1] at h
    dsimp only [sw_c1] at hc
    split at h
    · cases h; exact sw_r_istore_n hX hd (Nat.blt_eq.mp hc) k
    · cases h
  case lstore i =>
    dsimp only [sw_p1] at h
    dsimp only [sw_c1] at hc
    split at h
    · cases h; exact sw_r_lstore hX hd (Nat.blt_eq.mp hc) k
    · cases h
  case lstore_n i =>
    dsimp only [sw_p1] at h
    dsimp only [sw_c1] at hc
    split at h
    · cases h; exact sw_r_lstore_n hX hd (Nat.blt_eq.mp hc) k
    · cases h
  case astore i =>
    dsimp only [sw_p1] at h
    dsimp only [sw_c1] at hc
    split at h
    · cases h; exact sw_r_astore hX hd (Nat.blt_eq.mp hc) rfl k
    · cases h
  case astore_n i =>
    dsimp only [sw_p1] at h
    dsimp only [sw_c1] at hc
    split at h
    · cases h; exact sw_r_astore_n hX hd (Nat.blt_eq.mp hc) rfl k
    · cases h
  case iinc i n =>
    dsimp only [sw_p1] at h
    dsimp only [sw_c1] at hc
    rw [Bool.and_eq_true] at hc
    have e := of_decide_eq_true hc.2
    subst e
    split at h
    · rename_i v w hl hw
      cases hw
      cases h
      exact sw_r_iinc hX hd (Nat.blt_eq.mp hc.1) hl rfl k
    · cases h
  case dup =>
    dsimp only [sw_p1] at h
    split at h
    · cases h; exact sw_r_dup hX hd rfl k
    · cases h; exact sw_r_dup hX hd rfl k
    · cases h
  case pop =>
    dsimp only [sw_p1] at h
    split at h
    · cases h; exact sw_r_pop hX hd rfl k
    · cases h; exact sw_r_pop hX hd rfl k
    · cases h
  case dup2 =>
    dsimp only [sw_p1] at h
    split at h
    · cases h; exact sw_r_dup2_11 hX hd rfl rfl k
    · cases h; exact sw_r_dup2_2 hX hd rfl k
    · cases h
  case iadd =>
    dsimp only [sw_p1] at h
    split at h
    · cases h; exact sw_r_iadd hX hd k
    · cases h
  case isub =>
    dsimp only [sw_p1] at h
    split at h
    · cases h; exact sw_r_isub hX hd k
    · cases h
  case imul =>
    dsimp only [sw_p1] at h
    split at h
    · cases h; exact sw_r_imul hX hd k
    · cases h
  case iand =>
    dsimp only [sw_p1] at h
    split at h
    · cases h; exact sw_r_iand hX hd k
    · cases h
  case ior =>
    dsimp only [sw_p1] at h
    split at h
    · cases h; exact sw_r_ior hX hd k
    · cases h
  case ixor =>
    dsimp only [sw_p1] at h
    split at h
    · cases h; exact sw_r_ixor hX hd k
    · cases h
  case ishl =>
    dsimp only [sw_p1] at h
    split at h
    · cases h; exact sw_r_ishl hX hd k
    · cases h
  case ishr =>
    dsimp only [sw_p1] at h
    split at h
    · cases h; exact sw_r_ishr hX hd k
    · cases h
  case iushr =>
    dsimp only [sw_p1] at h
    split at h
    · cases h; exact sw_r_iushr hX hd k
    · cases h
  case ineg =>
    dsimp only [sw_p1] at h
    split at h
    · cases h; exact sw_r_ineg hX hd k
    · cases h
  case ladd =>
    dsimp only [sw_p1] at h
    split at h
    · cases h; exact sw_r_ladd hX hd k
    · cases h
  case lsub =>
    dsimp only [sw_p1] at h
    split at h
    · cases h; exact sw_r_lsub hX hd k
    · cases h
  case lmul =>
    dsimp only [sw_p1] at h
    split at h
    · cases h; exact sw_r_lmul hX hd k
    · cases h
  case land =>
    dsimp only [sw_p1] at h
    split at h
    · cases h; exact sw_r_land hX hd k
    · cases h
  case lor =>
    dsimp only [sw_p1] at h
    split at h
    · cases h; exact sw_r_lor hX hd k
    · cases h
  case lxor =>
    dsimp only [sw_p1] at h
    split at h
    · cases h; exact sw_r_lxor hX hd k
    · cases h
  case lneg =>
    dsimp only [sw_p1] at h
    split at h
    · cases h; exact sw_r_lneg hX hd k
    · cases h
  case lshl =>
    dsimp only [sw_p1] at h
    split at h
    · cases h; exact sw_r_lshl hX hd k
    · cases h
  case lshr =>
    dsimp only [sw_p1] at h
    split at h
    · cases h; exact sw_r_lshr hX hd k
    · cases h
  case lushr =>
    dsimp only [sw_p1] at h
    split at h
    · cases h; exact sw_r_lushr hX hd k
    · cases h
  case lcmp =>
    dsimp only [sw_p1] at h
    split at h
    · cases h; exact sw_r_lcmp hX hd k
    · cases h
  case i2l =>
    dsimp only [sw_p1] at h
    split at h
    · cases h; exact sw_r_i2l hX hd k
    · cases h
  case l2i =>
    dsimp only [sw_p1] at h
    split at h
    · cases h; exact sw_r_l2i hX hd k
    · cases h
  case i2b =>
    dsimp only [sw_p1] at h
    split at h
    · cases h; exact sw_r_i2b hX hd k
    · cases h
  case i2c =>
    dsimp only [sw_p1] at h
    split at h
    · cases h; exact sw_r_i2c hX hd k
    · cases h
  case idiv =>
    dsimp only [sw_p1] at h
    split at h
    · cases h; exact sw_r_idiv hX hd (of_decide_eq_true (sw_all_c hob).1) k
    · cases h
  case irem =>
    dsimp only [sw_p1] at h
    split at h
    · cases h; exact sw_r_irem hX hd (of_decide_eq_true (sw_all_c hob).1) k
    · cases h
  case ldiv =>
    dsimp only [sw_p1] at h
    split at h
    · cases h; exact sw_r_ldiv hX hd (of_decide_eq_true (sw_all_c hob).1) k
    · cases h
  case getfield i =>
    dsimp only [sw_p1] at h
    dsimp only [sw_c1] at hc
    rw [Bool.and_eq_true] at hc
    split at h
    · cases h; exact sw_r_get hX hd hc.1 (Nat.blt_eq.mp hc.2) (sw_all_c hob).1 k
    · cases h
  case putfield i =>
    dsimp only [sw_p1] at h
    dsimp only [sw_c1] at hc
    rw [Bool.and_eq_true, Bool.and_eq_true] at hc
    obtain ⟨hc1, hc2, hc3⟩ := hc
    have hc2 := Nat.blt_eq.mp hc2
    have hfin : (sw_fin.getD ca []).getD ck false = false ∨ (ini = true ∧ ca = o) := by
      rcases (Bool.or_eq_true _ _).mp hc3 with q | q
      · exact Or.inl (by simpa using q)
      · rw [Bool.and_eq_true] at q; exact Or.inr ⟨q.1, Nat.eq_of_beq_eq_true q.2⟩
    split at h
    · rename_i ht; cases h; exact sw_r_putI hX hd hc1 hc2 (sw_all_c hob).1 hfin (Or.inl ht) k
    · rename_i ht; cases h; exact sw_r_putL hX hd hc1 hc2 (sw_all_c hob).1 hfin ht k
    · rename_i ht; cases h; exact sw_r_putR hX hd hc1 hc2 (sw_all_c hob).1 hfin ht k
    · rename_i ht; cases h; exact sw_r_putI hX hd hc1 hc2 (sw_all_c hob).1 hfin (Or.inr ⟨ht, (sw_all_c (sw_all_c hob).2).1⟩) k
    · cases h
  case iaload =>
    dsimp only [sw_p1] at h
    split at h
    · cases h; exact sw_r_iald hX hd (sw_all_c hob).1 k
    · cases h
  case laload =>
    dsimp only [sw_p1] at h
    split at h
    · cases h; exact sw_r_lald hX hd (sw_all_c hob).1 k
    · cases h
  case baload =>
    dsimp only [sw_p1] at h
    split at h
    · cases h; exact sw_r_bald hX hd (sw_all_c hob).1 k
    · cases h
  case aaload =>
    dsimp only [sw_p1] at h
    split at h
    · cases h; exact sw_r_aald hX hd (sw_all_c hob).1 k
    · cases h
  case iastore =>
    dsimp only [sw_p1] at h
    split at h
    · cases h; exact sw_r_iast hX hd (sw_all_c hob).1 k
    · cases h
  case lastore =>
    dsimp only [sw_p1] at h
    split at h
    · cases h; exact sw_r_last hX hd (sw_all_c hob).1 k
    · cases h
  case bastore =>
    dsimp only [sw_p1] at h
    split at h
    · cases h; exact sw_r_bast hX hd (sw_all_c hob).1 k
    · cases h
  case aastore =>
    dsimp only [sw_p1] at h
    split at h
    · cases h; exact sw_r_aast hX hd (sw_all_c hob).1 k
    · cases h
  case arraylength =>
    dsimp only [sw_p1] at h
    split at h
    · cases h; exact sw_r_alen hX hd (sw_all_c hob).1 k
    · cases h
  case new i =>
    dsimp only [sw_p1] at h; cases h
    dsimp only [sw_c1] at hc
    rw [Bool.and_eq_true] at hc
    exact sw_r_new hX hd (Nat.blt_eq.mp hc.2) hc.1 (of_decide_eq_true (sw_all_c hob).1) k
  case newarray t hq =>
    dsimp only [sw_p1] at h
    dsimp only [sw_c1] at hc
    split at h
    · cases h
      have hb := (sw_all_c hob).1
      dsimp only [sw_nxa] at hb
      rw [Bool.and_eq_true, Bool.and_eq_true] at hb
      obtain ⟨h1, h2, h3⟩ := hb
      have h1 := of_decide_eq_true h1; have h2 := Nat.le_of_ble_eq_true h2; have h3 := of_decide_eq_true h3
      refine sw_r_newa hX hd ?_ h1 h2 h3 k
      cases t <;> dsimp only at hc <;> first | (exact Or.inl ⟨Nat.eq_of_beq_eq_true hc, rfl⟩) | (exact Or.inr (Or.inl ⟨Nat.eq_of_beq_eq_true hc, rfl⟩)) | (exact Or.inr (Or.inr (Or.inl ⟨Nat.eq_of_beq_eq_true hc, rfl⟩))) | (exact Or.inr (Or.inr (Or.inr ⟨Nat.eq_of_beq_eq_true hc, rfl⟩))) | cases hc
    · cases h
  case anewarray i =>
    dsimp only [sw_p1] at h
    dsimp only [sw_c1] at hc
    split at h
    · cases h
      have hb := (sw_all_c hob).1
      dsimp only [sw_nxa] at hb
      rw [Bool.and_eq_true, Bool.and_eq_true] at hb
      obtain ⟨h1, h2, h3⟩ := hb
      have h1 := of_decide_eq_true h1; have h2 := Nat.le_of_ble_eq_true h2; have h3 := of_decide_eq_true h3
      rcases (Bool.or_eq_true _ _).mp hc with q | q
      · rw [Bool.and_eq_true] at q; exact sw_r_anewa hX hd (Or.inl ⟨Nat.eq_of_beq_eq_true q.1, rfl⟩) q.2 h1 h2 h3 k
      · rw [Bool.and_eq_true] at q; exact sw_r_anewa hX hd (Or.inr ⟨Nat.eq_of_beq_eq_true q.1, rfl⟩) q.2 h1 h2 h3 k
    · cases h
  case multianewarray i d =>
    dsimp only [sw_p1] at h
    dsimp only [sw_c1] at hc
    rw [Bool.and_eq_true] at hc
    have hd2 := Nat.eq_of_beq_eq_true hc.1
    subst hd2
    split at h
    · cases h
      have hb := (sw_all_c hob).1
      rw [Bool.and_eq_true, Bool.and_eq_true, Bool.and_eq_true, Bool.and_eq_true] at hb
      obtain ⟨h1, h2, h3, h4, h5⟩ := hb
      exact sw_r_multi hX hd hc.2 (of_decide_eq_true h1) (of_decide_eq_true h2) (Nat.le_of_ble_eq_true h3) (Nat.le_of_ble_eq_true h4) h5 k
    · cases h
  all_goals (dsimp only [sw_p1] at h; cases h)
def sw_run : List sw_I → sw_S → Option (List Bool × sw_S)
  | [], s => some ([], s)
  | e :: r, s => match sw_p1 e s with
    | some (ob, s1) => (match sw_run r s1 with
      | some (ob2, s2) => some (ob ++ ob2, s2)
      | none => none)
    | none => none
def sw_pc : Nat → List sw_I → Nat
  | pc, [] => pc
  | pc, e :: r => sw_pc (pc + sw_il e.1) r
def sw_ck (o : Nat) (ini : Bool) (nL : Nat) (cc : ByteArray) : Nat → List sw_I → Bool
  | _, [] => true
  | pc, e :: r => sw_d1 cc pc e.1 && (sw_c1 o ini nL e && sw_ck o ini nL cc (pc + sw_il e.1) r)
theorem sw_run_ok {g : sw_G} {o : Nat} {ini : Bool} {cc : ByteArray} {x : sw_Ct} {nL : Nat} (hX : sw_X g o ini cc x) (hnL : (x_c x).maxLocals = nL) : ∀ (bl : List sw_I) {pc : Nat} {lv lv' : List (Nat × Value)} {st st' : List Value} {M M' : sw_M} {ob : List Bool}, sw_ck o ini nL cc pc bl = true → sw_run bl (lv, st, M) = some (ob, lv', st', M') → ob.all id = true → sw_W g x (sw_pc pc bl) lv' st' M' → sw_W g x pc lv st M
  | [], pc, lv, lv', st, st', M, M', ob, _, h, _, k => by
    cases h
    exact k
  | e :: r, pc, lv, lv', st, st', M, M', ob, hc, h, hob, k => by
    unfold sw_ck at hc
    rw [Bool.and_eq_true, Bool.and_eq_true] at hc
    unfold sw_run at h
    split at h
    · rename_i ob1 s1 h1
      obtain ⟨lv1, st1, M1⟩ := s1
      split at h
      · rename_i ob2 s2 h2
        obtain ⟨lv2, st2, M2⟩ := s2
        cases h
        rw [List.all_append, Bool.and_eq_true] at hob
        exact sw_p1_ok hX hnL hc.1 hc.2.1 h1 hob.1 (sw_run_ok hX hnL r hc.2.2 h2 hob.2 k)
      · cases h
    · cases h
