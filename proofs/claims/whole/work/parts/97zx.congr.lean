/-! 97zx: what lies beyond the PARTS of the FIELD doesn't count -/
theorem pullN_c {P P' : Nat → PartS} (mass : Int32) (x y : Int64) (t : Int32) : ∀ n, (∀ p, p < n → P' p = P p) → pullN P' mass x y t n = pullN P mass x y t n
  | 0, _ => rfl
  | n + 1, h => by
    rw [pullN, pullN, pullN_c mass x y t n (fun p hp => h p (by omega)), h n (by omega)]
theorem fwd_c {P P' : Nat → PartS} {n : Nat} (h : ∀ p, p < n → P' p = P p) (mass : Int32) : fwd P' n mass = fwd P n mass := by
  funext s
  unfold fwd su sv
  simp only [pullN_c mass _ _ _ n h]
  rfl
theorem tr_c {P P' : Nat → PartS} {n : Nat} (h : ∀ p, p < n → P' p = P p) (mass : Int32) (s : SS) : tr P' n mass s = tr P n mass s := by
  funext t
  induction t with
  | zero => rfl
  | succ t ih => rw [tr, tr, ih, fwd_c h]
theorem go1_c {P P' : Nat → PartS} {n : Nat} (h : ∀ p, p < n → P' p = P p) (mass : Int32) : ∀ d s, go1 P' n mass d s = go1 P n mass d s
  | 0, s => rfl
  | d + 1, s => by
    rw [go1, go1, fwd_c h]
    simp only [go1_c h mass d]
def EN.wp (E : EN) (P : Nat → PartS) : EN := (P, E.2)
theorem TT_c {E : EN} {P : Nat → PartS} (h : ∀ p, p < E.n → P p = E.P p) : TT (E.wp P) = TT E := by
  funext mass o
  exact tr_c h mass (E.st o)
theorem DD_c {E : EN} {P : Nat → PartS} (h : ∀ p, p < E.n → P p = E.P p) : DD (E.wp P) = DD E := by
  funext mass o
  show (go1 P E.n mass E.L (E.st o)).1 = (go1 E.P E.n mass E.L (E.st o)).1
  rw [go1_c h]
theorem UU_c {E : EN} {P : Nat → PartS} (h : ∀ p, p < E.n → P p = E.P p) : UU (E.wp P) = UU E := by
  funext mass o
  unfold UU
  rw [TT_c h, DD_c h]
  rfl
theorem SH_c {E : EN} {P : Nat → PartS} (h : ∀ p, p < E.n → P p = E.P p) : SH (E.wp P) = SH E := by
  funext mass o c
  unfold SH
  rw [TT_c h, DD_c h]
  rfl
theorem GO_c {E : EN} {P : Nat → PartS} (h : ∀ p, p < E.n → P p = E.P p) : GO (E.wp P) = GO E := by
  funext mass o c
  unfold GO
  rw [TT_c h, DD_c h]
  rfl
theorem HO_c {E : EN} {P : Nat → PartS} (h : ∀ p, p < E.n → P p = E.P p) (M : sw_M) : HO M (E.wp P) = HO M E := by
  funext mass p
  unfold HO
  rw [TT_c h, DD_c h, UU_c h, SH_c h, GO_c h]
theorem CH_c {E : EN} {P : Nat → PartS} (h : ∀ p, p < E.n → P p = E.P p) {M : sw_M} (g : CH M E) : CH M (E.wp P) := by
  unfold CH at *
  rw [HO_c h]
  exact g
theorem ul_c {E : EN} {P : Nat → PartS} (h : ∀ p, p < E.n → P p = E.P p) (r : Int32 × NN × Nat × Int32) : ul (E.wp P, r) = ul (E, r) := by
  unfold ul ulT
  show (List.range E.no).filter (fun o => UU (E.wp P) _ o) = _
  rw [UU_c h]
  rfl
theorem lgS_c {E : EN} {P : Nat → PartS} (h : ∀ p, p < E.n → P p = E.P p) (r : Int32 × NN × Nat × Int32) (W : Nat → Int32) (c : Nat) : ∀ k, lgS (E.wp P, r) W c k = lgS (E, r) W c k
  | 0 => rfl
  | k + 1 => by
    show lgS (E.wp P, r) W c k + W k * SH (E.wp P) r.1 k c = lgS (E, r) W c k + W k * SH E r.1 k c
    rw [lgS_c h r W c k, SH_c h]
theorem glS_c {E : EN} {P : Nat → PartS} (h : ∀ p, p < E.n → P p = E.P p) (r : Int32 × NN × Nat × Int32) (W : Nat → Int32) (c : Nat) : ∀ k, glS (E.wp P, r) W c k = glS (E, r) W c k
  | 0 => rfl
  | k + 1 => by
    show glS (E.wp P, r) W c k + (W k).toInt64 * (GO (E.wp P) r.1 k c).toInt64 = glS (E, r) W c k + (W k).toInt64 * (GO E r.1 k c).toInt64
    rw [glS_c h r W c k, GO_c h]
theorem lig_c {E : EN} {P : Nat → PartS} (h : ∀ p, p < E.n → P p = E.P p) (r : Int32 × NN × Nat × Int32) : lig (E.wp P, r) = lig (E, r) := by
  funext W c
  exact lgS_c h r W c E.no
theorem hld_c {E : EN} {P : Nat → PartS} (h : ∀ p, p < E.n → P p = E.P p) (r : Int32 × NN × Nat × Int32) : hld (E.wp P, r) = hld (E, r) := by
  funext W i
  unfold hld
  rw [lig_c h, glS_c h]
  rfl
theorem fitB_c {E : EN} {P : Nat → PartS} (h : ∀ p, p < E.n → P p = E.P p) (r : Int32 × NN × Nat × Int32) : fitB (E.wp P, r) = fitB (E, r) := by
  funext W
  unfold fitB
  rw [hld_c h]
  rfl
theorem uu_c {E : EN} {P : Nat → PartS} (h : ∀ p, p < E.n → P p = E.P p) (r : Int32 × NN × Nat × Int32) : uu (E.wp P, r) = uu (E, r) := by
  funext i
  unfold uu
  rw [ul_c h]
theorem nu_c {E : EN} {P : Nat → PartS} (h : ∀ p, p < E.n → P p = E.P p) (r : Int32 × NN × Nat × Int32) : nu (E.wp P, r) = nu (E, r) := by
  unfold nu
  rw [ul_c h]
theorem sr_c {E : EN} {P : Nat → PartS} (h : ∀ p, p < E.n → P p = E.P p) (r : Int32 × NN × Nat × Int32) : ∀ f W, sr (E.wp P, r) f W = sr (E, r) f W
  | 0, W => rfl
  | f + 1, W => by
    show (if fitB (E.wp P, r) W = true then some W else match nW (uu (E.wp P, r)) (nu (E.wp P, r)) W with | none => none | some V => sr (E.wp P, r) f V) = (if fitB (E, r) W = true then some W else match nW (uu (E, r)) (nu (E, r)) W with | none => none | some V => sr (E, r) f V)
    rw [fitB_c h, uu_c h, nu_c h]
    simp only [sr_c h r f]
theorem FF_c {E : EN} {P : Nat → PartS} (h : ∀ p, p < E.n → P p = E.P p) (r : Int32 × NN × Nat × Int32) : FF (E.wp P, r) = FF (E, r) := by
  unfold FF W0
  rw [nu_c h, sr_c h, uu_c h]
  rfl
theorem Fk_c {E : EN} {P : Nat → PartS} (h : ∀ p, p < E.n → P p = E.P p) (r : NN × Int32 × Int32 × Int32 × Int32) (k : Nat) : FF (Fk (E.wp P, r) k) = FF (Fk (E, r) k) := FF_c h _
theorem kp_c {E : EN} {P : Nat → PartS} (h : ∀ p, p < E.n → P p = E.P p) (r : NN × Int32 × Int32 × Int32 × Int32) : kp (E.wp P, r) = kp (E, r) := by
  funext k
  unfold kp
  rw [Fk_c h]
  rfl
theorem tel_c {E : EN} {P : Nat → PartS} (h : ∀ p, p < E.n → P p = E.P p) (r : NN × Int32 × Int32 × Int32 × Int32) : tel (E.wp P, r) = tel (E, r) := by
  funext k c
  unfold tel
  rw [Fk_c h]
  cases FF (Fk (E, r) k) with
  | none => rfl
  | some V =>
    show lig (E.wp P, _) V c = lig (E, _) V c
    rw [lig_c h]
    rfl
theorem HD_c {E : EN} {P : Nat → PartS} (h : ∀ p, p < E.n → P p = E.P p) (r : NN × Int32 × Int32 × Int32 × Int32) {M : sw_M} (g : HD M (E, r)) : HD M (E.wp P, r) := by
  have e1 : KP (E.wp P, r) = KP (E, r) := by unfold KP; rw [kp_c h]; rfl
  have e2 : tws (E.wp P, r) = tws (E, r) := by
    have : pp (E.wp P, r) = pp (E, r) := by
      funext a b
      unfold pp twn
      rw [kp_c h, tel_c h]
      rfl
    unfold tws
    rw [this]
    rfl
  unfold HD tw8 tw9 HTe at *
  rw [e1, e2, kp_c h, tel_c h]
  exact g
theorem CM_c {E : EN} {P : Nat → PartS} (h : ∀ p, p < E.n → P p = E.P p) (hk : EK (E.wp P)) {M : sw_M} {B : NN} {por lo hi : Int32} (g : CM M E B por lo hi) : CM M (E.wp P) B por lo hi := by
  rcases g with g | ⟨pa, g1, g2⟩
  · exact Or.inl g
  · exact Or.inr ⟨pa, ⟨hk, g1.2⟩, HD_c h _ g2⟩
