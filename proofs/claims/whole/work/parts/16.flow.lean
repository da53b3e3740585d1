/-! 16: the rows as the printed functions use them: from here the method ends with v and Mz, and the cells only grow -/
def sw_F (g : sw_G) (k : sw_K) (d n0 : Nat) (v : Option Value) (Mz : sw_M) (pc : Nat) (lv : List (Nat × Value)) (st : List Value) (M : sw_M) : Prop :=
  rd_N M ≤ rd_N Mz ∧ ∀ x, sw_Xm g k d n0 v Mz x → sw_W g x pc lv st M
theorem sw_p1_mono {e : sw_I} {lv lv' : List (Nat × Value)} {st st' : List Value} {M M' : sw_M} {ob : List Bool} (h : sw_p1 e (lv, st, M) = some (ob, lv', st', M')) : rd_N M ≤ rd_N M' := by
  obtain ⟨ins, ca, ck, cv⟩ := e
  have hn : rd_N M ≤ rd_N (wr_N M) := Nat.le_succ _
  have hm : ∀ n, rd_N M ≤ rd_N (sw_mk M n) := fun n => by show rd_N M ≤ rd_N M + 1 + n; omega
  cases ins <;> dsimp only [sw_p1] at h <;> first | (cases h; done) | (cases h; exact Nat.le_refl _) | (cases h; exact hn) | (split at h <;> first | (cases h; done) | (cases h; exact Nat.le_refl _) | (cases h; exact hn) | (cases h; exact hm _))
theorem sw_run_mono : ∀ (bl : List sw_I) {lv lv' : List (Nat × Value)} {st st' : List Value} {M M' : sw_M} {ob : List Bool}, sw_run bl (lv, st, M) = some (ob, lv', st', M') → rd_N M ≤ rd_N M'
  | [], lv, lv', st, st', M, M', ob, h => by cases h; exact Nat.le_refl _
  | e :: r, lv, lv', st, st', M, M', ob, h => by
    unfold sw_run at h
    split at h
    · rename_i ob1 s1 h1
      obtain ⟨lv1, st1, M1⟩ := s1
      split at h
      · rename_i ob2 s2 h2
        obtain ⟨lv2, st2, M2⟩ := s2
        cases h
        exact Nat.le_trans (sw_p1_mono h1) (sw_run_mono r h2)
      · cases h
    · cases h
theorem sw_lgl (g : sw_G) : ∀ As : List Value, (lg_sl (As.map (sw_tr g))).length = (lg_sl As).length
  | [] => rfl
  | v :: r => by
    have ih := sw_lgl g r
    unfold lg_sl at ih ⊢
    rw [List.map_cons, List.flatMap_cons, List.flatMap_cons, List.length_append, List.length_append, ih, sw_tr_cat]
    split <;> rfl
section FF
variable {α : Type} {r : α} {A B : Option α} {g : sw_G} {kx : sw_K} {d n0 : Nat} {v : Option Value} {Mz : sw_M} {pc tgt : Nat} {off : Int} {lv : List (Nat × Value)} {st : List Value} {M M1 : sw_M}
/-- a contract out of a printed function -/
theorem sf_met {As : List Value} (hy : plainName (k_y kx).cls = true) (ho : sw_on (k_o kx) = (k_y kx).cls) (hi : k_i kx = true → (k_y kx).name = "<init>") (hL : (lg_sl As).length ≤ k_L kx) (h : sw_F g kx d (rd_N M) v Mz 0 (lv_args 0 As) [] M) : sw_Ok g kx d As M v Mz := sw_met hy ho hi (by rw [sw_lgl]; exact hL) h.2 h.1
theorem sf_weak {lv' : List (Nat × Value)} (ks : List Nat) (h : lv_pick lv ks = lv') (k : sw_F g kx d n0 v Mz pc lv' st M) : sw_F g kx d n0 v Mz pc lv st M := ⟨k.1, fun x hX => sw_weak ks h (k.2 x hX)⟩
theorem sf_blk (bl : List sw_I) {lv' : List (Nat × Value)} {st' : List Value} {ob : List Bool} {pc' : Nat} (hc : sw_ck (k_o kx) (k_i kx) (k_L kx) (k_c kx) pc bl = true) (hp : sw_pc pc bl = pc') (hr : sw_run bl (lv, st, M) = some (ob, lv', st', M1)) (hob : ob.all id = true) (k : sw_F g kx d n0 v Mz pc' lv' st' M1) : sw_F g kx d n0 v Mz pc lv st M := by
  subst hp
  exact ⟨Nat.le_trans (sw_run_mono bl hr) k.1, fun x hX => sw_blk hX bl hc hr hob (k.2 x hX)⟩
theorem sf_goto (hd : decode (k_c kx) pc = .ok (.goto off, 3)) (ht : (pc : Int) + off = (tgt : Int)) (k : sw_F g kx d n0 v Mz tgt lv st M) : sw_F g kx d n0 v Mz pc lv st M := ⟨k.1, fun x hX => sw_goto hX hd ht (k.2 x hX)⟩
theorem sf_tin {dflt lo hi : Int} {offs : Array Int} {len : Nat} {a : Int32} (hd : decode (k_c kx) pc = .ok (.tableswitch dflt lo hi offs, len)) (h1 : ¬ a.toInt < lo) (h2 : ¬ hi < a.toInt) (ho : offs[(a.toInt - lo).toNat]? = some off) (ht : (pc : Int) + off = (tgt : Int)) (k : sw_F g kx d n0 v Mz tgt lv st M) : sw_F g kx d n0 v Mz pc lv (.int a :: st) M := ⟨k.1, fun x hX => sw_tin hX hd h1 h2 ho ht (k.2 x hX)⟩
theorem sf_tout {dflt lo hi : Int} {offs : Array Int} {len : Nat} {a : Int32} (hd : decode (k_c kx) pc = .ok (.tableswitch dflt lo hi offs, len)) (h1 : a.toInt < lo ∨ hi < a.toInt) (ht : (pc : Int) + dflt = (tgt : Int)) (k : sw_F g kx d n0 v Mz tgt lv st M) : sw_F g kx d n0 v Mz pc lv (.int a :: st) M := ⟨k.1, fun x hX => sw_tout hX hd h1 ht (k.2 x hX)⟩
theorem sf_look {dflt : Int} {ps : Array (Int × Int)} {len : Nat} {a : Int32} (hd : decode (k_c kx) pc = .ok (.lookupswitch dflt ps, len)) (hp : (ps.toList.zip (ps.toList.drop 1)).all (fun (a, next) => a.1 < next.1) = true) (ho : Op.lookupswitch.offset ps.toList dflt a.toInt = off) (ht : (pc : Int) + off = (tgt : Int)) (k : sw_F g kx d n0 v Mz tgt lv st M) : sw_F g kx d n0 v Mz pc lv (.int a :: st) M := ⟨k.1, fun x hX => sw_look hX hd hp ho ht (k.2 x hX)⟩
theorem sf_obj {q i : Nat} (hl : Jvm.Cond.methodLink (sw_on (k_o kx)) i Lib.objectInit ∈ sw_ws) (hi : Jvm.Cond.instanceMethod Lib.objectInit ∈ sw_ws) (hc : Jvm.Cond.code Lib.objectInit ⟨#[0xb1]⟩ 1 none ∈ sw_ws) (hd : decode (k_c kx) pc = .ok (.invokespecial i, 3)) (hd1 : 1 ≤ d) (hst : (st.map fun v => v.category).sum ≤ 8) (hq : ¬ q = 0) (k : sw_F g kx d n0 v Mz (pc + 3) lv st M) : sw_F g kx d n0 v Mz pc lv (.ref q :: st) M := ⟨k.1, fun x hX => sw_obj hX hl hi hc hd hd1 hst hq (k.2 x hX)⟩
theorem sf_ldc0 (ho : sw_on (k_o kx) = "SwarmHouse$Reader") (hd : decode (k_c kx) pc = .ok (.ldc 179, 2)) (k : sw_F g kx d n0 v Mz (pc + 2) lv (.retAddr 0 :: st) M) : sw_F g kx d n0 v Mz pc lv st M := ⟨k.1, fun x hX => sw_s_ldc0 hX ho hd (k.2 x hX)⟩
theorem sf_ldc1 (ho : sw_on (k_o kx) = "SwarmHouseModel") (hd : decode (k_c kx) pc = .ok (.ldc 202, 2)) (k : sw_F g kx d n0 v Mz (pc + 2) lv (.retAddr 1 :: st) M) : sw_F g kx d n0 v Mz pc lv st M := ⟨k.1, fun x hX => sw_s_ldc1 hX ho hd (k.2 x hX)⟩
theorem sf_val {i j : Nat} (hj : j < 2) (hl : Jvm.Cond.fieldLink (sw_on (k_o kx)) i "java/lang/String" "value" "[B" ∈ sw_ws) (hd : decode (k_c kx) pc = .ok (.getfield i, 3)) (k : sw_F g kx d n0 v Mz (pc + 3) lv (.retAddr (j + 10) :: st) M) : sw_F g kx d n0 v Mz pc lv (.retAddr j :: st) M := ⟨k.1, fun x hX => sw_s_val hX hj hl hd (k.2 x hX)⟩
theorem sf_cod {i j : Nat} (hj : j < 2) (hl : Jvm.Cond.fieldLink (sw_on (k_o kx)) i "java/lang/String" "coder" "B" ∈ sw_ws) (hd : decode (k_c kx) pc = .ok (.getfield i, 3)) (k : sw_F g kx d n0 v Mz (pc + 3) lv (.int 0 :: st) M) : sw_F g kx d n0 v Mz pc lv (.retAddr j :: st) M := ⟨k.1, fun x hX => sw_s_cod hX hj hl hd (k.2 x hX)⟩
theorem sf_cs {i : Nat} (hl : Jvm.Cond.fieldLink (sw_on (k_o kx)) i "java/lang/String" "COMPACT_STRINGS" "Z" ∈ sw_ws) (hd : decode (k_c kx) pc = .ok (.getstatic i, 3)) (k : sw_F g kx d n0 v Mz (pc + 3) lv (.int 1 :: st) M) : sw_F g kx d n0 v Mz pc lv st M := ⟨k.1, fun x hX => sw_s_cs hX hl hd (k.2 x hX)⟩
theorem sf_len {j : Nat} (hj : j < 2) (hd : decode (k_c kx) pc = .ok (.arraylength, 1)) (k : sw_F g kx d n0 v Mz (pc + 1) lv (.int (Int32.ofNat ([120, 73].getD j 0)) :: st) M) : sw_F g kx d n0 v Mz pc lv (.retAddr (j + 10) :: st) M := ⟨k.1, fun x hX => sw_s_len hX hj hd (k.2 x hX)⟩
theorem sf_at {j : Nat} {i : Int32} (hj : j < 2) (hin : vp_in i ([120, 73].getD j 0)) (hd : decode (k_c kx) pc = .ok (.baload, 1)) (k : sw_F g kx d n0 v Mz (pc + 1) lv (.int ((([sw_byt sw_txt0, sw_byt sw_txt1] : List (List Int32)).getD j []).getD i.toNatClampNeg 0) :: st) M) : sw_F g kx d n0 v Mz pc lv (.int i :: .retAddr (j + 10) :: st) M := ⟨k.1, fun x hX => sw_s_at hX hj hin hd (k.2 x hX)⟩
theorem sf_callV {k2 : sw_K} {d2 n i q ci : Nat} {As : List Value} {v2 : Option Value} (hm : sw_mf k2 n) (hmi : Jvm.Cond.instanceMethod (k_y k2) ∈ sw_ws) (hms : Jvm.Cond.selects (k_y k2).cls (k_y k2) (k_y k2) ∈ sw_ws) (hl : Jvm.Cond.methodLink (sw_on (k_o kx)) i (k_y k2) ∈ sw_ws) (hC : (sw_cl[ci]?).map (fun r => r.1) = some (k_y k2).cls) (hc : ci < 13) (hd : decode (k_c kx) pc = .ok (.invokevirtual i, 3)) (hn : As.length = n) (hst : (st.map fun v => v.category).sum ≤ 8) (hd2 : d2 + 1 ≤ d) (hq : sw_ok M q ci = true) (hok : sw_Ok g k2 d2 (.ref q :: As) M v2 M1) (k : sw_F g kx d n0 v Mz (pc + 3) lv (v2.toList ++ st) M1) : sw_F g kx d n0 v Mz pc lv (As.reverse ++ .ref q :: st) M := ⟨Nat.le_trans hok.1 k.1, fun x hX => sw_callV hX hm hmi hms hl hC hc hd hn hst hd2 hq hok (k.2 x hX)⟩
theorem sf_callS {k2 : sw_K} {d2 n i : Nat} {As : List Value} {v2 : Option Value} (hm : sw_mf k2 n) (hms : Jvm.Cond.static (k_y k2) ∈ sw_ws) (hl : Jvm.Cond.methodLink (sw_on (k_o kx)) i (k_y k2) ∈ sw_ws) (hd : decode (k_c kx) pc = .ok (.invokestatic i, 3)) (hn : As.length = n) (hst : (st.map fun v => v.category).sum ≤ 8) (hd2 : d2 + 1 ≤ d) (hok : sw_Ok g k2 d2 As M v2 M1) (k : sw_F g kx d n0 v Mz (pc + 3) lv (v2.toList ++ st) M1) : sw_F g kx d n0 v Mz pc lv (As.reverse ++ st) M := ⟨Nat.le_trans hok.1 k.1, fun x hX => sw_callS hX hm hms hl hd hn hst hd2 hok (k.2 x hX)⟩
theorem sf_callI {k2 : sw_K} {d2 n i q ci : Nat} {As : List Value} (hm : sw_mf k2 n) (hr2 : k_r k2 = none) (hnm : (k_y k2).name = "<init>") (hmi : Jvm.Cond.instanceMethod (k_y k2) ∈ sw_ws) (hl : Jvm.Cond.methodLink (sw_on (k_o kx)) i (k_y k2) ∈ sw_ws) (hc : ci < 13) (hd : decode (k_c kx) pc = .ok (.invokespecial i, 3)) (hn : As.length = n) (hst : (st.map fun v => v.category).sum ≤ 8) (hd2 : d2 + 1 ≤ d) (hq : sw_ok M q ci = true) (hok : sw_Ok g k2 d2 (.ref q :: As) M none M1) (k : sw_F g kx d n0 v Mz (pc + 3) lv st M1) : sw_F g kx d n0 v Mz pc lv (As.reverse ++ .ref q :: st) M := ⟨Nat.le_trans hok.1 k.1, fun x hX => sw_callI hX hm hr2 hnm hmi hl hc hd hn hst hd2 hq hok (k.2 x hX)⟩
theorem sf_callIN {k2 : sw_K} {d2 n i q ci : Nat} {As : List Value} {host : String} (hm : sw_mf k2 n) (hr2 : k_r k2 = none) (hnm : (k_y k2).name = "<init>") (hmi : Jvm.Cond.instanceMethod (k_y k2) ∈ sw_ws) (hl : Jvm.Cond.methodLinkNest (sw_on (k_o kx)) i (k_y k2) host ∈ sw_ws) (hc : ci < 13) (hd : decode (k_c kx) pc = .ok (.invokespecial i, 3)) (hn : As.length = n) (hst : (st.map fun v => v.category).sum ≤ 8) (hd2 : d2 + 1 ≤ d) (hq : sw_ok M q ci = true) (hok : sw_Ok g k2 d2 (.ref q :: As) M none M1) (k : sw_F g kx d n0 v Mz (pc + 3) lv st M1) : sw_F g kx d n0 v Mz pc lv (As.reverse ++ .ref q :: st) M := ⟨Nat.le_trans hok.1 k.1, fun x hX => sw_callIN hX hm hr2 hnm hmi hl hc hd hn hst hd2 hq hok (k.2 x hX)⟩
theorem sf_callT {k2 : sw_K} {d2 n i j : Nat} {As : List Value} {v2 : Option Value} (hm : sw_mf k2 n) (hmi : Jvm.Cond.instanceMethod (k_y k2) ∈ sw_ws) (hms : Jvm.Cond.selects (k_y k2).cls (k_y k2) (k_y k2) ∈ sw_ws) (hl : Jvm.Cond.methodLink (sw_on (k_o kx)) i (k_y k2) ∈ sw_ws) (hC : (k_y k2).cls = "java/lang/String") (hd : decode (k_c kx) pc = .ok (.invokevirtual i, 3)) (hn : As.length = n) (hst : (st.map fun v => v.category).sum ≤ 8) (hd2 : d2 + 1 ≤ d) (hj : j < 2) (hok : sw_Ok g k2 d2 (.retAddr j :: As) M v2 M1) (k : sw_F g kx d n0 v Mz (pc + 3) lv (v2.toList ++ st) M1) : sw_F g kx d n0 v Mz pc lv (As.reverse ++ .retAddr j :: st) M := ⟨Nat.le_trans hok.1 k.1, fun x hX => sw_callT hX hm hmi hms hl hC hd hn hst hd2 hj hok (k.2 x hX)⟩
theorem sf_int {w : Int32} (hr : k_r kx = some .int) (hd : decode (k_c kx) pc = .ok (.ireturn, 1)) : sw_F g kx d n0 (some (.int w)) M pc lv [.int w] M := ⟨Nat.le_refl _, fun x hX => sw_e_int hX hr hd⟩
theorem sf_bool {w : Int32} (hr : k_r kx = some .boolean) (hw : sw_bz w = true) (hd : decode (k_c kx) pc = .ok (.ireturn, 1)) : sw_F g kx d n0 (some (.int w)) M pc lv [.int w] M := ⟨Nat.le_refl _, fun x hX => sw_e_bool hX hr hw hd⟩
theorem sf_long {w : Int64} (hr : k_r kx = some .long) (hd : decode (k_c kx) pc = .ok (.lreturn, 1)) : sw_F g kx d n0 (some (.long w)) M pc lv [.long w] M := ⟨Nat.le_refl _, fun x hX => sw_e_long hX hr hd⟩
theorem sf_ref {w : Nat} {C : String} (hr : k_r kx = some (.object C)) (hd : decode (k_c kx) pc = .ok (.areturn, 1)) : sw_F g kx d n0 (some (.ref w)) M pc lv [.ref w] M := ⟨Nat.le_refl _, fun x hX => sw_e_ref hX hr hd⟩
theorem sf_void (hr : k_r kx = none) (hd : decode (k_c kx) pc = .ok (.return_, 1)) : sw_F g kx d n0 none M pc lv [] M := ⟨Nat.le_refl _, fun x hX => sw_e_void hX hr hd⟩
theorem sf_j_eq {a b : Int32} (hd : decode (k_c kx) pc = .ok (.if_icmp .eq off, 3)) (ht : (pc : Int) + off = (tgt : Int)) (hf : (if a = b then A else B) = some r) (kt : a = b → A = some r → sw_F g kx d n0 v Mz tgt lv st M) (kf : ¬ a = b → B = some r → sw_F g kx d n0 v Mz (pc + 3) lv st M) : sw_F g kx d n0 v Mz pc lv (.int b :: .int a :: st) M := by
  rcases sw_ite hf with ⟨h1, h2⟩ | ⟨h1, h2⟩
  · have k := kt h1 h2; exact ⟨k.1, fun x hX => sw_j_eq hX hd ht hf (fun _ _ => k.2 x hX) (fun q _ => absurd h1 q)⟩
  · have k := kf h1 h2; exact ⟨k.1, fun x hX => sw_j_eq hX hd ht hf (fun q _ => absurd q h1) (fun _ _ => k.2 x hX)⟩
theorem sf_l_eq {a b : Int64} (hd : decode (k_c kx) pc = .ok (.ifCond .eq off, 3)) (ht : (pc : Int) + off = (tgt : Int)) (hf : (if a = b then A else B) = some r) (kt : a = b → A = some r → sw_F g kx d n0 v Mz tgt lv st M) (kf : ¬ a = b → B = some r → sw_F g kx d n0 v Mz (pc + 3) lv st M) : sw_F g kx d n0 v Mz pc lv (.int (lg_cmp a b) :: st) M := by
  rcases sw_ite hf with ⟨h1, h2⟩ | ⟨h1, h2⟩
  · have k := kt h1 h2; exact ⟨k.1, fun x hX => sw_l_eq hX hd ht hf (fun _ _ => k.2 x hX) (fun q _ => absurd h1 q)⟩
  · have k := kf h1 h2; exact ⟨k.1, fun x hX => sw_l_eq hX hd ht hf (fun q _ => absurd q h1) (fun _ _ => k.2 x hX)⟩
theorem sf_j_ne {a b : Int32} (hd : decode (k_c kx) pc = .ok (.if_icmp .ne off, 3)) (ht : (pc : Int) + off = (tgt : Int)) (hf : (if a = b then B else A) = some r) (kt : ¬ a = b → A = some r → sw_F g kx d n0 v Mz tgt lv st M) (kf : a = b → B = some r → sw_F g kx d n0 v Mz (pc + 3) lv st M) : sw_F g kx d n0 v Mz pc lv (.int b :: .int a :: st) M := by
  rcases sw_ite hf with ⟨h1, h2⟩ | ⟨h1, h2⟩
  · have k := kf h1 h2; exact ⟨k.1, fun x hX => sw_j_ne hX hd ht hf (fun q _ => absurd h1 q) (fun _ _ => k.2 x hX)⟩
  · have k := kt h1 h2; exact ⟨k.1, fun x hX => sw_j_ne hX hd ht hf (fun _ _ => k.2 x hX) (fun q _ => absurd q h1)⟩
theorem sf_l_ne {a b : Int64} (hd : decode (k_c kx) pc = .ok (.ifCond .ne off, 3)) (ht : (pc : Int) + off = (tgt : Int)) (hf : (if a = b then B else A) = some r) (kt : ¬ a = b → A = some r → sw_F g kx d n0 v Mz tgt lv st M) (kf : a = b → B = some r → sw_F g kx d n0 v Mz (pc + 3) lv st M) : sw_F g kx d n0 v Mz pc lv (.int (lg_cmp a b) :: st) M := by
  rcases sw_ite hf with ⟨h1, h2⟩ | ⟨h1, h2⟩
  · have k := kf h1 h2; exact ⟨k.1, fun x hX => sw_l_ne hX hd ht hf (fun q _ => absurd h1 q) (fun _ _ => k.2 x hX)⟩
  · have k := kt h1 h2; exact ⟨k.1, fun x hX => sw_l_ne hX hd ht hf (fun _ _ => k.2 x hX) (fun q _ => absurd q h1)⟩
theorem sf_j_lt {a b : Int32} (hd : decode (k_c kx) pc = .ok (.if_icmp .lt off, 3)) (ht : (pc : Int) + off = (tgt : Int)) (hf : (if a < b then A else B) = some r) (kt : a < b → A = some r → sw_F g kx d n0 v Mz tgt lv st M) (kf : ¬ a < b → B = some r → sw_F g kx d n0 v Mz (pc + 3) lv st M) : sw_F g kx d n0 v Mz pc lv (.int b :: .int a :: st) M := by
  rcases sw_ite hf with ⟨h1, h2⟩ | ⟨h1, h2⟩
  · have k := kt h1 h2; exact ⟨k.1, fun x hX => sw_j_lt hX hd ht hf (fun _ _ => k.2 x hX) (fun q _ => absurd h1 q)⟩
  · have k := kf h1 h2; exact ⟨k.1, fun x hX => sw_j_lt hX hd ht hf (fun q _ => absurd q h1) (fun _ _ => k.2 x hX)⟩
theorem sf_l_lt {a b : Int64} (hd : decode (k_c kx) pc = .ok (.ifCond .lt off, 3)) (ht : (pc : Int) + off = (tgt : Int)) (hf : (if a < b then A else B) = some r) (kt : a < b → A = some r → sw_F g kx d n0 v Mz tgt lv st M) (kf : ¬ a < b → B = some r → sw_F g kx d n0 v Mz (pc + 3) lv st M) : sw_F g kx d n0 v Mz pc lv (.int (lg_cmp a b) :: st) M := by
  rcases sw_ite hf with ⟨h1, h2⟩ | ⟨h1, h2⟩
  · have k := kt h1 h2; exact ⟨k.1, fun x hX => sw_l_lt hX hd ht hf (fun _ _ => k.2 x hX) (fun q _ => absurd h1 q)⟩
  · have k := kf h1 h2; exact ⟨k.1, fun x hX => sw_l_lt hX hd ht hf (fun q _ => absurd q h1) (fun _ _ => k.2 x hX)⟩
theorem sf_j_ge {a b : Int32} (hd : decode (k_c kx) pc = .ok (.if_icmp .ge off, 3)) (ht : (pc : Int) + off = (tgt : Int)) (hf : (if b ≤ a then A else B) = some r) (kt : b ≤ a → A = some r → sw_F g kx d n0 v Mz tgt lv st M) (kf : ¬ b ≤ a → B = some r → sw_F g kx d n0 v Mz (pc + 3) lv st M) : sw_F g kx d n0 v Mz pc lv (.int b :: .int a :: st) M := by
  rcases sw_ite hf with ⟨h1, h2⟩ | ⟨h1, h2⟩
  · have k := kt h1 h2; exact ⟨k.1, fun x hX => sw_j_ge hX hd ht hf (fun _ _ => k.2 x hX) (fun q _ => absurd h1 q)⟩
  · have k := kf h1 h2; exact ⟨k.1, fun x hX => sw_j_ge hX hd ht hf (fun q _ => absurd q h1) (fun _ _ => k.2 x hX)⟩
theorem sf_l_ge {a b : Int64} (hd : decode (k_c kx) pc = .ok (.ifCond .ge off, 3)) (ht : (pc : Int) + off = (tgt : Int)) (hf : (if b ≤ a then A else B) = some r) (kt : b ≤ a → A = some r → sw_F g kx d n0 v Mz tgt lv st M) (kf : ¬ b ≤ a → B = some r → sw_F g kx d n0 v Mz (pc + 3) lv st M) : sw_F g kx d n0 v Mz pc lv (.int (lg_cmp a b) :: st) M := by
  rcases sw_ite hf with ⟨h1, h2⟩ | ⟨h1, h2⟩
  · have k := kt h1 h2; exact ⟨k.1, fun x hX => sw_l_ge hX hd ht hf (fun _ _ => k.2 x hX) (fun q _ => absurd h1 q)⟩
  · have k := kf h1 h2; exact ⟨k.1, fun x hX => sw_l_ge hX hd ht hf (fun q _ => absurd q h1) (fun _ _ => k.2 x hX)⟩
theorem sf_j_gt {a b : Int32} (hd : decode (k_c kx) pc = .ok (.if_icmp .gt off, 3)) (ht : (pc : Int) + off = (tgt : Int)) (hf : (if b < a then A else B) = some r) (kt : b < a → A = some r → sw_F g kx d n0 v Mz tgt lv st M) (kf : ¬ b < a → B = some r → sw_F g kx d n0 v Mz (pc + 3) lv st M) : sw_F g kx d n0 v Mz pc lv (.int b :: .int a :: st) M := by
  rcases sw_ite hf with ⟨h1, h2⟩ | ⟨h1, h2⟩
  · have k := kt h1 h2; exact ⟨k.1, fun x hX => sw_j_gt hX hd ht hf (fun _ _ => k.2 x hX) (fun q _ => absurd h1 q)⟩
  · have k := kf h1 h2; exact ⟨k.1, fun x hX => sw_j_gt hX hd ht hf (fun q _ => absurd q h1) (fun _ _ => k.2 x hX)⟩
theorem sf_l_gt {a b : Int64} (hd : decode (k_c kx) pc = .ok (.ifCond .gt off, 3)) (ht : (pc : Int) + off = (tgt : Int)) (hf : (if b < a then A else B) = some r) (kt : b < a → A = some r → sw_F g kx d n0 v Mz tgt lv st M) (kf : ¬ b < a → B = some r → sw_F g kx d n0 v Mz (pc + 3) lv st M) : sw_F g kx d n0 v Mz pc lv (.int (lg_cmp a b) :: st) M := by
  rcases sw_ite hf with ⟨h1, h2⟩ | ⟨h1, h2⟩
  · have k := kt h1 h2; exact ⟨k.1, fun x hX => sw_l_gt hX hd ht hf (fun _ _ => k.2 x hX) (fun q _ => absurd h1 q)⟩
  · have k := kf h1 h2; exact ⟨k.1, fun x hX => sw_l_gt hX hd ht hf (fun q _ => absurd q h1) (fun _ _ => k.2 x hX)⟩
theorem sf_j_le {a b : Int32} (hd : decode (k_c kx) pc = .ok (.if_icmp .le off, 3)) (ht : (pc : Int) + off = (tgt : Int)) (hf : (if a ≤ b then A else B) = some r) (kt : a ≤ b → A = some r → sw_F g kx d n0 v Mz tgt lv st M) (kf : ¬ a ≤ b → B = some r → sw_F g kx d n0 v Mz (pc + 3) lv st M) : sw_F g kx d n0 v Mz pc lv (.int b :: .int a :: st) M := by
  rcases sw_ite hf with ⟨h1, h2⟩ | ⟨h1, h2⟩
  · have k := kt h1 h2; exact ⟨k.1, fun x hX => sw_j_le hX hd ht hf (fun _ _ => k.2 x hX) (fun q _ => absurd h1 q)⟩
  · have k := kf h1 h2; exact ⟨k.1, fun x hX => sw_j_le hX hd ht hf (fun q _ => absurd q h1) (fun _ _ => k.2 x hX)⟩
theorem sf_l_le {a b : Int64} (hd : decode (k_c kx) pc = .ok (.ifCond .le off, 3)) (ht : (pc : Int) + off = (tgt : Int)) (hf : (if a ≤ b then A else B) = some r) (kt : a ≤ b → A = some r → sw_F g kx d n0 v Mz tgt lv st M) (kf : ¬ a ≤ b → B = some r → sw_F g kx d n0 v Mz (pc + 3) lv st M) : sw_F g kx d n0 v Mz pc lv (.int (lg_cmp a b) :: st) M := by
  rcases sw_ite hf with ⟨h1, h2⟩ | ⟨h1, h2⟩
  · have k := kt h1 h2; exact ⟨k.1, fun x hX => sw_l_le hX hd ht hf (fun _ _ => k.2 x hX) (fun q _ => absurd h1 q)⟩
  · have k := kf h1 h2; exact ⟨k.1, fun x hX => sw_l_le hX hd ht hf (fun q _ => absurd q h1) (fun _ _ => k.2 x hX)⟩
theorem sf_z_eq {a : Int32} (hd : decode (k_c kx) pc = .ok (.ifCond .eq off, 3)) (ht : (pc : Int) + off = (tgt : Int)) (hf : (if a = 0 then A else B) = some r) (kt : a = 0 → A = some r → sw_F g kx d n0 v Mz tgt lv st M) (kf : ¬ a = 0 → B = some r → sw_F g kx d n0 v Mz (pc + 3) lv st M) : sw_F g kx d n0 v Mz pc lv (.int a :: st) M := by
  rcases sw_ite hf with ⟨h1, h2⟩ | ⟨h1, h2⟩
  · have k := kt h1 h2; exact ⟨k.1, fun x hX => sw_z_eq hX hd ht hf (fun _ _ => k.2 x hX) (fun q _ => absurd h1 q)⟩
  · have k := kf h1 h2; exact ⟨k.1, fun x hX => sw_z_eq hX hd ht hf (fun q _ => absurd q h1) (fun _ _ => k.2 x hX)⟩
theorem sf_z_ne {a : Int32} (hd : decode (k_c kx) pc = .ok (.ifCond .ne off, 3)) (ht : (pc : Int) + off = (tgt : Int)) (hf : (if a = 0 then B else A) = some r) (kt : ¬ a = 0 → A = some r → sw_F g kx d n0 v Mz tgt lv st M) (kf : a = 0 → B = some r → sw_F g kx d n0 v Mz (pc + 3) lv st M) : sw_F g kx d n0 v Mz pc lv (.int a :: st) M := by
  rcases sw_ite hf with ⟨h1, h2⟩ | ⟨h1, h2⟩
  · have k := kf h1 h2; exact ⟨k.1, fun x hX => sw_z_ne hX hd ht hf (fun q _ => absurd h1 q) (fun _ _ => k.2 x hX)⟩
  · have k := kt h1 h2; exact ⟨k.1, fun x hX => sw_z_ne hX hd ht hf (fun _ _ => k.2 x hX) (fun q _ => absurd q h1)⟩
theorem sf_z_lt {a : Int32} (hd : decode (k_c kx) pc = .ok (.ifCond .lt off, 3)) (ht : (pc : Int) + off = (tgt : Int)) (hf : (if a < 0 then A else B) = some r) (kt : a < 0 → A = some r → sw_F g kx d n0 v Mz tgt lv st M) (kf : ¬ a < 0 → B = some r → sw_F g kx d n0 v Mz (pc + 3) lv st M) : sw_F g kx d n0 v Mz pc lv (.int a :: st) M := by
  rcases sw_ite hf with ⟨h1, h2⟩ | ⟨h1, h2⟩
  · have k := kt h1 h2; exact ⟨k.1, fun x hX => sw_z_lt hX hd ht hf (fun _ _ => k.2 x hX) (fun q _ => absurd h1 q)⟩
  · have k := kf h1 h2; exact ⟨k.1, fun x hX => sw_z_lt hX hd ht hf (fun q _ => absurd q h1) (fun _ _ => k.2 x hX)⟩
theorem sf_z_ge {a : Int32} (hd : decode (k_c kx) pc = .ok (.ifCond .ge off, 3)) (ht : (pc : Int) + off = (tgt : Int)) (hf : (if 0 ≤ a then A else B) = some r) (kt : 0 ≤ a → A = some r → sw_F g kx d n0 v Mz tgt lv st M) (kf : ¬ 0 ≤ a → B = some r → sw_F g kx d n0 v Mz (pc + 3) lv st M) : sw_F g kx d n0 v Mz pc lv (.int a :: st) M := by
  rcases sw_ite hf with ⟨h1, h2⟩ | ⟨h1, h2⟩
  · have k := kt h1 h2; exact ⟨k.1, fun x hX => sw_z_ge hX hd ht hf (fun _ _ => k.2 x hX) (fun q _ => absurd h1 q)⟩
  · have k := kf h1 h2; exact ⟨k.1, fun x hX => sw_z_ge hX hd ht hf (fun q _ => absurd q h1) (fun _ _ => k.2 x hX)⟩
theorem sf_z_gt {a : Int32} (hd : decode (k_c kx) pc = .ok (.ifCond .gt off, 3)) (ht : (pc : Int) + off = (tgt : Int)) (hf : (if 0 < a then A else B) = some r) (kt : 0 < a → A = some r → sw_F g kx d n0 v Mz tgt lv st M) (kf : ¬ 0 < a → B = some r → sw_F g kx d n0 v Mz (pc + 3) lv st M) : sw_F g kx d n0 v Mz pc lv (.int a :: st) M := by
  rcases sw_ite hf with ⟨h1, h2⟩ | ⟨h1, h2⟩
  · have k := kt h1 h2; exact ⟨k.1, fun x hX => sw_z_gt hX hd ht hf (fun _ _ => k.2 x hX) (fun q _ => absurd h1 q)⟩
  · have k := kf h1 h2; exact ⟨k.1, fun x hX => sw_z_gt hX hd ht hf (fun q _ => absurd q h1) (fun _ _ => k.2 x hX)⟩
theorem sf_z_le {a : Int32} (hd : decode (k_c kx) pc = .ok (.ifCond .le off, 3)) (ht : (pc : Int) + off = (tgt : Int)) (hf : (if a ≤ 0 then A else B) = some r) (kt : a ≤ 0 → A = some r → sw_F g kx d n0 v Mz tgt lv st M) (kf : ¬ a ≤ 0 → B = some r → sw_F g kx d n0 v Mz (pc + 3) lv st M) : sw_F g kx d n0 v Mz pc lv (.int a :: st) M := by
  rcases sw_ite hf with ⟨h1, h2⟩ | ⟨h1, h2⟩
  · have k := kt h1 h2; exact ⟨k.1, fun x hX => sw_z_le hX hd ht hf (fun _ _ => k.2 x hX) (fun q _ => absurd h1 q)⟩
  · have k := kf h1 h2; exact ⟨k.1, fun x hX => sw_z_le hX hd ht hf (fun q _ => absurd q h1) (fun _ _ => k.2 x hX)⟩
theorem sf_n_null {q : Nat} (hd : decode (k_c kx) pc = .ok (.ifnull off, 3)) (ht : (pc : Int) + off = (tgt : Int)) (hf : (if q = 0 then A else B) = some r) (kt : q = 0 → A = some r → sw_F g kx d n0 v Mz tgt lv st M) (kf : ¬ q = 0 → B = some r → sw_F g kx d n0 v Mz (pc + 3) lv st M) : sw_F g kx d n0 v Mz pc lv (.ref q :: st) M := by
  rcases sw_ite hf with ⟨h1, h2⟩ | ⟨h1, h2⟩
  · have k := kt h1 h2; exact ⟨k.1, fun x hX => sw_n_null hX hd ht hf (fun _ _ => k.2 x hX) (fun q _ => absurd h1 q)⟩
  · have k := kf h1 h2; exact ⟨k.1, fun x hX => sw_n_null hX hd ht hf (fun q _ => absurd q h1) (fun _ _ => k.2 x hX)⟩
theorem sf_n_nonnull {q : Nat} (hd : decode (k_c kx) pc = .ok (.ifnonnull off, 3)) (ht : (pc : Int) + off = (tgt : Int)) (hf : (if q = 0 then B else A) = some r) (kt : ¬ q = 0 → A = some r → sw_F g kx d n0 v Mz tgt lv st M) (kf : q = 0 → B = some r → sw_F g kx d n0 v Mz (pc + 3) lv st M) : sw_F g kx d n0 v Mz pc lv (.ref q :: st) M := by
  rcases sw_ite hf with ⟨h1, h2⟩ | ⟨h1, h2⟩
  · have k := kf h1 h2; exact ⟨k.1, fun x hX => sw_n_nonnull hX hd ht hf (fun q _ => absurd h1 q) (fun _ _ => k.2 x hX)⟩
  · have k := kt h1 h2; exact ⟨k.1, fun x hX => sw_n_nonnull hX hd ht hf (fun _ _ => k.2 x hX) (fun q _ => absurd q h1)⟩
end FF
