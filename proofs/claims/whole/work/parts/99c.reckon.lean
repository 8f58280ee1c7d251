/-! reckon -/
section RK
/-- not the negative zero -/
def NZ (x : UInt64) : Prop := ∀ q, Jvm.FP.Core.val64 x ≠ .fin true 0 q
theorem nz_0 : NZ FP.dconst0 := fun q z => by
  rw [show Jvm.FP.Core.val64 FP.dconst0 = .fin false 0 Jvm.FP.Core.b64.qmin from Jvm.FP.Core.val64_dconst0] at z
  cases z
theorem nz_add {x y : UInt64} (hx : Jvm.FP.Core.DFin x) (hy : Jvm.FP.Core.DFin y) (h : NZ x) : NZ (FP.dadd x y) := by
  intro p hp
  obtain ⟨s, c, q, hx⟩ := hx
  obtain ⟨t, d, r, hy⟩ := hy
  have e : Jvm.FP.Core.val64 (FP.dadd x y) = Jvm.FP.Core.round Jvm.FP.Core.b64 (Jvm.FP.Core.exactSum (Jvm.FP.Core.val64 x) (Jvm.FP.Core.val64 y)) := Jvm.FP.Core.val64_dadd x y
  rw [hx, hy, hp] at e
  have e : Jvm.FP.Core.Datum.fin true 0 p = Jvm.FP.Core.roundRatio Jvm.FP.Core.b64 (Jvm.FP.Core.sumSign s t (Jvm.FP.Core.sumUnits s c q t d r (min q r))) (Jvm.FP.Core.sumUnits s c q t d r (min q r)).natAbs 1 (min q r) := e
  have fx := Jvm.FP.Core.val64_fits x
  have fy := Jvm.FP.Core.val64_fits y
  rw [hx] at fx
  rw [hy] at fy
  have q1 : Jvm.FP.Core.b64.qmin ≤ q := fx.2.1
  have r1 : Jvm.FP.Core.b64.qmin ≤ r := fy.2.1
  have hs := congrArg Jvm.FP.Core.sgn e
  rw [Jvm.FP.Core.sgn_roundRatio] at hs
  have hs : true = Jvm.FP.Core.sumSign s t (Jvm.FP.Core.sumUnits s c q t d r (min q r)) := hs
  have hz := congrArg (Jvm.FP.Core.zmag Jvm.FP.Core.b64) e
  have h0 : Jvm.FP.Core.zmag Jvm.FP.Core.b64 (.fin true 0 p) = 0 := by
    show 0 * 2 ^ _ = 0
    rw [Nat.zero_mul]
  rw [h0] at hz
  unfold Jvm.FP.Core.sumSign at hs
  by_cases v0 : Jvm.FP.Core.sumUnits s c q t d r (min q r) = 0
  · rw [if_pos v0] at hs
    have hst : s = true ∧ t = true := by revert hs; cases s <;> cases t <;> decide
    obtain ⟨rfl, rfl⟩ := hst
    have v1 : -((c * 2 ^ (q - min q r).toNat : Nat) : Int) + -((d * 2 ^ (r - min q r).toNat : Nat) : Int) = 0 := v0
    have v2 : c * 2 ^ (q - min q r).toNat = 0 := by omega
    have v3 : c = 0 := by
      rcases Nat.mul_eq_zero.mp v2 with z | z
      · exact z
      · exact absurd z (Nat.ne_of_gt (Nat.two_pow_pos _))
    subst v3
    exact h q hx
  · have hm : Jvm.FP.Core.b64.qmin ≤ min q r := by omega
    have g := Jvm.FP.Core.zmag_roundRatio_ge Jvm.FP.Core.good_b64 (s := Jvm.FP.Core.sumSign s t (Jvm.FP.Core.sumUnits s c q t d r (min q r))) (A := (Jvm.FP.Core.sumUnits s c q t d r (min q r)).natAbs) (B := 1) (e := min q r) (e0 := Jvm.FP.Core.b64.qmin) (V := .fin true 1 Jvm.FP.Core.b64.qmin) (by decide) ⟨by decide, Int.le_refl _, by decide, Or.inl rfl⟩ (Int.le_refl _) hm (by
      have e1 : Jvm.FP.Core.zmag Jvm.FP.Core.b64 (.fin true 1 Jvm.FP.Core.b64.qmin) = 1 := by decide
      rw [e1, Int.sub_self, Nat.mul_one]
      show 1 * 2 ^ 0 ≤ (Jvm.FP.Core.sumUnits s c q t d r (min q r)).natAbs * 2 ^ (min q r - Jvm.FP.Core.b64.qmin).toNat
      have := Nat.mul_pos (show 0 < (Jvm.FP.Core.sumUnits s c q t d r (min q r)).natAbs by omega) (Nat.two_pow_pos (min q r - Jvm.FP.Core.b64.qmin).toNat)
      omega)
    have e1 : Jvm.FP.Core.zmag Jvm.FP.Core.b64 (.fin true 1 Jvm.FP.Core.b64.qmin) = 1 := by decide
    rw [e1] at g
    omega
/-- a pace, as a double -/
def md (p : Nat) : UInt64 := FP.f2d (FP.fdiv (FP.i2f (nI p)) (1086324736 : UInt32))
def sn (h : Nat) : UInt64 := if h = 1 ∨ h = 3 then 4604544271217802189 else if h = 2 then FP.dconst1 else if h = 5 ∨ h = 7 then 13827916308072577997 else if h = 6 then 13830554455654793216 else FP.dconst0
def cs8 (h : Nat) : Nat := (h + 2) % 8
theorem md_f : ∀ p, p ≤ 12 → nn32 (FP.fdiv (FP.i2f (nI p)) (1086324736 : UInt32)) = true ∧ nn64 (FP.f2d (FP.fdiv (FP.i2f (nI p)) (1086324736 : UInt32))) = true := by decide +kernel
theorem ad_f : ∀ p, p ≤ 12 → ∀ h, h < 8 → nn64 (FP.dmul (md p) (sn h)) = true ∧ (FP.dmul (md p) (sn h)).toNat % 2 ^ 63 < 1030 * 2 ^ 52 := by decide +kernel
theorem x_sin : ∀ h, h < 8 → ∀ μ, f_X2_sine (nI h) μ = some (sn h, μ) := by
  intro h hh μ
  match h, hh with
  | 0, _ => rfl
  | 1, _ => rfl
  | 2, _ => rfl
  | 3, _ => rfl
  | 4, _ => rfl
  | 5, _ => rfl
  | 6, _ => rfl
  | 7, _ => rfl
theorem m_sin : ∀ h, h < 8 → ∀ μ, f_X11_sine (nI h) μ = some (sn h, μ) := by
  intro h hh μ
  match h, hh with
  | 0, _ => rfl
  | 1, _ => rfl
  | 2, _ => rfl
  | 3, _ => rfl
  | 4, _ => rfl
  | 5, _ => rfl
  | 6, _ => rfl
  | 7, _ => rfl
theorem cs8_e : ∀ h, h < 8 → (nI h + nI 2) - (nI h + nI 2) / nI 8 * nI 8 = nI (cs8 h) := by decide +kernel
theorem cs8_lt (h : Nat) : cs8 h < 8 := Nat.mod_lt _ (by decide)
theorem x_cos {h : Nat} (hh : h < 8) (μ : Mem) : f_X2_cosine (nI h) μ = some (sn (cs8 h), μ) := by
  unfold f_X2_cosine
  simp only [il]
  rw [cs8_e h hh, bnd_e (x_sin _ (cs8_lt h) μ)]
theorem m_cos {h : Nat} (hh : h < 8) (μ : Mem) : f_X11_cosine (nI h) μ = some (sn (cs8 h), μ) := by
  unfold f_X11_cosine
  simp only [il]
  rw [cs8_e h hh, bnd_e (m_sin _ (cs8_lt h) μ)]
/-- a sum, step by step -/
def rs (g : Nat → UInt64) : Nat → UInt64
  | 0 => FP.dconst0
  | k + 1 => FP.dadd (rs g k) (g k)
theorem rs_ok {g : Nat → UInt64} {c : Nat} (hg : ∀ k, k < c → (g k).toNat % 2 ^ 63 < 1030 * 2 ^ 52) (hc : c ≤ 8) : ∀ k, k ≤ c → (rs g k).toNat % 2 ^ 63 < (1030 + 2 * k) * 2 ^ 52 ∧ NZ (rs g k) := by
  intro k
  induction k with
  | zero => intro _; exact ⟨show FP.dconst0.toNat % 2 ^ 63 < 1030 * 2 ^ 52 by decide +kernel, nz_0⟩
  | succ k ih =>
    intro hk
    obtain ⟨h1, h2⟩ := ih (by omega)
    have h3 := hg k (by omega)
    have h4 : (g k).toNat % 2 ^ 63 < (1030 + 2 * k) * 2 ^ 52 := Nat.lt_of_lt_of_le h3 (Nat.mul_le_mul_right _ (Nat.le_add_right _ _))
    have h5 : (FP.dadd (rs g k) (g k)).toNat % 2 ^ 63 < (1030 + 2 * k + 2) * 2 ^ 52 := Jvm.FP.Core.dadd_mag h1 h4 (by omega)
    rw [rs]
    rw [show 1030 + 2 * (k + 1) = 1030 + 2 * k + 2 by omega]
    exact ⟨h5, nz_add (Jvm.FP.Core.fin_of_lt h1 (by omega)) (Jvm.FP.Core.fin_of_lt h3 (by omega)) h2⟩
theorem rs_fin {g : Nat → UInt64} {c : Nat} (hg : ∀ k, k < c → (g k).toNat % 2 ^ 63 < 1030 * 2 ^ 52) (hc : c ≤ 8) {k : Nat} (hk : k ≤ c) : Jvm.FP.Core.DFin (rs g k) := Jvm.FP.Core.fin_of_lt (rs_ok hg hc k hk).1 (by omega)
theorem rs_nn {g : Nat → UInt64} {c : Nat} (hg : ∀ k, k < c → (g k).toNat % 2 ^ 63 < 1030 * 2 ^ 52) (hc : c ≤ 8) {k : Nat} (hk : k < c) : nn64 (FP.dadd (rs g k) (g k)) = true := by
  obtain ⟨s, d, q, h⟩ := rs_fin hg hc (k := k + 1) (by omega)
  rw [rs] at h
  exact nn_of (by rw [h]; exact fun z => by cases z)
/-- the pace at the kth of the headings told -/
def pk_ (V H : SV) (k : Nat) : Nat := s_pace V (s_zone (V 7 0)) (s_span (V 7 2 + 10 * k)) (H 8 k)
def ga (V H : SV) (b : Bool) (k : Nat) : UInt64 := FP.dmul (md (pk_ V H k)) (sn (if b then cs8 (H 8 k) else H 8 k))
section RL
variable {V H : SV} {μ : Mem}
theorem ga_m (hV : SVok V) (hH : HVok H) (b : Bool) : ∀ k, k < H 15 0 → nn64 (ga V H b k) = true ∧ (ga V H b k).toNat % 2 ^ 63 < 1030 * 2 ^ 52 := by
  intro k hk2
  have h8 := hH.1.2 k hk2
  refine ad_f _ (s_pace_le hV (s_zone_lt hV.2.2.2.2.2.1) s_span_lt) _ ?_
  cases b
  · exact h8
  · exact cs8_lt _
theorem x_rk (hV : SVok V) (hH : HVok H) (hS : XSea 1 μ V) (hX : XHand 8 μ H) (a1 : Int32) (b : Bool) (hb : (a1 = nI 0) ↔ b = true) : ∀ (m n k : Nat), k + m = H 15 0 → m < n → f_X10_reckoned_b25 0 a1 n (nI (s_zone (V 7 0))) (nI (V 7 2 + 10 * k)) (rs (ga V H b) k) (nI k) μ = some (rs (ga V H b) (H 15 0), μ) := by
  have h1 := hH.1.1
  have h72 := hV.2.2.2.2.2.2.2.1
  have e0 : f_X5_size 9 μ = some (nI (H 15 0), μ) := by unfold f_X5_size; rw [show μ.1 9 2 = nI (H 15 0) from hX.1.1]
  intro m
  induction m with
  | zero =>
    intro n k hk hn
    obtain ⟨n, rfl⟩ : ∃ j, n = j + 1 := ⟨n - 1, by omega⟩
    rw [f_X10_reckoned_b25]
    simp only [il, rf_0_1, rf_8_0]
    rw [bnd_e e0, if_pos (nI_le (by omega) (by omega)), show k = H 15 0 by omega]
  | succ m ih =>
    intro n k hk hn
    obtain ⟨n, rfl⟩ : ∃ j, n = j + 1 := ⟨n - 1, by omega⟩
    have hk2 : k < H 15 0 := by omega
    have h8 := hH.1.2 k hk2
    have hz := s_zone_lt hV.2.2.2.2.2.1
    have hp : pk_ V H k ≤ 12 := s_pace_le hV hz s_span_lt
    obtain ⟨p1, p2⟩ := md_f _ hp
    obtain ⟨g1, g2⟩ := ga_m hV hH b k hk2
    have g3 := rs_nn (fun k h => (ga_m hV hH b k h).2) h1 hk2
    have ef : f_X5_first 9 (nI k) μ = some (nI (H 8 k), μ) := by
      have bel : f_X10_below (nI k) (nI (H 15 0)) μ = some (nI 1, μ) := by
        unfold f_X10_below; simp only [il]; rw [if_neg (nI_lt0 (by omega)), if_neg (nI_ge (by omega) (by omega))]
      unfold f_X5_first
      simp only [il]
      rw [show μ.1 9 2 = nI (H 15 0) from hX.1.1, bnd_e bel, nI_b1, rf_9_0, al_10, gA_n (by omega) (by omega), nI_clamp (by omega), show μ.1 10 k = nI (H 8 k) from hX.1.2 k hk2]
    have ep : f_X6_paceBy 1 (nI (s_zone (V 7 0))) (nI (s_span (V 7 2 + 10 * k))) (nI (H 8 k)) μ = some (nI (pk_ V H k), μ) := x_pace hV (Or.inl rfl) hS hz s_span_lt h8
    have hl : f_X10_reckoned_b101 0 a1 (f_X10_reckoned_b25 0 a1 n) (nI (s_zone (V 7 0))) (nI (V 7 2 + 10 * k)) (nI k) (rs (ga V H b) k) (md (pk_ V H k)) (sn (if b then cs8 (H 8 k) else H 8 k)) μ = some (rs (ga V H b) (H 15 0), μ) := by
      unfold f_X10_reckoned_b101
      simp only [il]
      rw [show FP.dmul (md (pk_ V H k)) (sn (if b then cs8 (H 8 k) else H 8 k)) = ga V H b k from rfl, g1, gP_t, g3, gP_t, lt_d, nI_add, lt_d, nI_add, lt_d]
      exact ih n (k + 1) (by omega) (by omega)
    rw [f_X10_reckoned_b25]
    simp only [il, rf_0_1, rf_8_0, rf_0_0]
    rw [bnd_e e0, if_neg (nI_ge (by omega) (by omega)), bnd_e ef, bnd_e (x_span (by omega) μ), bnd_e ep, p1, gP_t, p2, gP_t, lt_d]
    cases b with
    | true => rw [if_pos (hb.mpr rfl), bnd_e (x_cos h8 μ)]; exact hl
    | false => rw [if_neg (fun z => absurd (hb.mp z) (by decide)), bnd_e (x_sin _ h8 μ)]; exact hl
theorem m_rk (hV : SVok V) (hH : HVok H) (hS : MSea μ V) (hM : MHand μ H) (a1 a2 : Int32) : ∀ (m n k : Nat), k + m = H 15 0 → m < n → f_X11_reckon_b34 85 a1 a2 n (rs (ga V H false) k) (rs (ga V H true) k) (nI (V 7 2 + 10 * k)) (nI k) μ = if a1 = nI 0 then f_X11_reckon_b122 85 a1 a2 (rs (ga V H false) (H 15 0)) μ else f_X11_reckon_b122 85 a1 a2 (rs (ga V H true) (H 15 0)) μ := by
  have h1 := hH.1.1
  have h72 := hV.2.2.2.2.2.2.2.1
  have h70 := hV.2.2.2.2.2.1
  have c10 : μ.1 85 10 = nI (H 15 0) := hM.1.1
  have c7 : μ.1 85 7 = nI (V 7 0) := hS.2.2.2.2.2.2.2.1
  intro m
  induction m with
  | zero =>
    intro n k hk hn
    obtain ⟨n, rfl⟩ : ∃ j, n = j + 1 := ⟨n - 1, by omega⟩
    rw [f_X11_reckon_b34]
    simp only [il]
    rw [c10, if_pos (nI_le (by omega) (by omega)), show k = H 15 0 by omega]
  | succ m ih =>
    intro n k hk hn
    obtain ⟨n, rfl⟩ : ∃ j, n = j + 1 := ⟨n - 1, by omega⟩
    have hk2 : k < H 15 0 := by omega
    have h8 := hH.1.2 k hk2
    have hp : pk_ V H k ≤ 12 := s_pace_le hV (s_zone_lt h70) s_span_lt
    obtain ⟨p1, p2⟩ := md_f _ hp
    obtain ⟨g1, g2⟩ := ga_m hV hH false k hk2
    obtain ⟨g4, g5⟩ := ga_m hV hH true k hk2
    have g3 := rs_nn (fun k h => (ga_m hV hH false k h).2) h1 hk2
    have g6 := rs_nn (fun k h => (ga_m hV hH true k h).2) h1 hk2
    have ep : f_X11_paceOf 85 (nI (V 7 0)) (nI (H 8 k)) (nI (V 7 2 + 10 * k)) μ = some (nI (pk_ V H k), μ) := m_pace hV hS h70 h8 (by omega)
    have e1 : FP.dmul (FP.f2d (FP.fdiv (FP.i2f (nI (pk_ V H k))) (1086324736 : UInt32))) (sn (H 8 k)) = ga V H false k := rfl
    have e2 : FP.dmul (FP.f2d (FP.fdiv (FP.i2f (nI (pk_ V H k))) (1086324736 : UInt32))) (sn (cs8 (H 8 k))) = ga V H true k := rfl
    rw [f_X11_reckon_b34]
    simp only [il]
    rw [c10, if_neg (nI_ge (by omega) (by omega)), rf_85_11, al_93, gA_n (by omega) (by omega), nI_clamp (by omega), show μ.1 93 k = nI (H 8 k) from hM.1.2 k hk2, c7, bnd_e ep, p1, gP_t, lt_d, p2, gP_t, gA_n (by omega) (by omega), show μ.1 93 k = nI (H 8 k) from hM.1.2 k hk2, bnd_e (m_sin _ h8 μ), e1, g1, gP_t, g3, gP_t, lt_d, gP_t, gA_n (by omega) (by omega), show μ.1 93 k = nI (H 8 k) from hM.1.2 k hk2, bnd_e (m_cos h8 μ), e2, g4, gP_t, g6, gP_t, lt_d, nI_add, lt_d, nI_add, lt_d]
    exact ih n (k + 1) (by omega) (by omega)
end RL
theorem call_reckon (a1 a2 : Int32) : CALL (f_X10_reckon 0 a1 a2) (f_X11_reckon 85 a1 a2) := by
  intro n S μ hn hX hM
  have hFU : FU = 1000000000000 := rfl
  obtain ⟨b1, x1, m1, h1⟩ := argc a1 2 (by decide) (by decide)
  obtain ⟨b2, x2, m2, h2⟩ := arg_pa a2
  rcases h1 with rfl | ⟨rfl, p, hp, rfl⟩
  · exact call_q hX hM (r := -9223372036854775808) (by unfold f_X10_reckon; simp only [il]; rw [bnd_e (x1 _), nI_b0]) (by unfold f_X11_reckon; simp only [il]; rw [bnd_e (m1 _), nI_b0])
  rcases h2 with rfl | ⟨rfl, j, hj, rfl⟩
  · exact call_q hX hM (r := -9223372036854775808) (by unfold f_X10_reckon; simp only [il]; rw [bnd_e (x1 _), nI_b1, bnd_e (x2 _), nI_b0]) (by unfold f_X11_reckon; simp only [il]; rw [bnd_e (m1 _), nI_b1, bnd_e (m2 _), nI_b0])
  obtain ⟨hV, hH⟩ := hX.1.1
  have hH1 := hH.1.1
  obtain ⟨a, b, W, _, _, _, _, _, _, _, hK, _, _⟩ := hX.2.1
  have hS : XSea 1 μ S.1 := hK.1
  have d7 : μ.1 1 7 = nI (S.1 7 0) := hS.2.2.2.2.2.2.2.1
  have d9 : μ.1 1 9 = nI (S.1 7 2) := hS.2.2.2.2.2.2.2.2.2
  have k9 : μ.1 85 9 = nI (S.1 7 2) := hM.2.1.2.2.2.2.2.2.2.2.2
  have xr : ∀ (x : Int32) (c : Bool), ((x = nI 0) ↔ c = true) → f_X10_reckoned 0 x μ = some (rs (ga S.1 S.2.1 c) (S.2.1 15 0), μ) := fun x c hc => by
    unfold f_X10_reckoned
    simp only [il, rf_0_0]
    rw [d7, bnd_e (x_zone hV.2.2.2.2.2.1 μ), lt_d, d9]
    exact x_rk hV hH hS hX.2.2.1 x c hc (S.2.1 15 0) FU 0 (by omega) (by omega)
  have ok : ∀ c, Jvm.FP.Core.DFin (rs (ga S.1 S.2.1 c) (S.2.1 15 0)) ∧ ∀ q, Jvm.FP.Core.val64 (rs (ga S.1 S.2.1 c) (S.2.1 15 0)) ≠ .fin true 0 q := fun c =>
    ⟨rs_fin (fun k h => (ga_m hV hH c k h).2) hH1 (Nat.le_refl _), (rs_ok (fun k h => (ga_m hV hH c k h).2) hH1 _ (Nat.le_refl _)).2⟩
  have xb : ∀ (a1 x : Int32) (c : Bool), ((x = nI 0) ↔ c = true) → f_X10_reckon_b30 0 a1 (nI j) 0 x μ = some (if nI j = nI 0 then ((rs (ga S.1 S.2.1 c) (S.2.1 15 0)).toInt64.toUInt64 >>> ((nI 32).toInt64.toUInt64 &&& Int64.toUInt64 63)).toInt64 else ((rs (ga S.1 S.2.1 c) (S.2.1 15 0)).toInt64 &&& (4294967295 : Int64)), μ) := fun a1 x c hc => by
    unfold f_X10_reckon_b30
    simp only [il]
    rw [bnd_e (xr x c hc), bnd_e (x_ofd (ok c).1 (ok c).2 μ)]
    by_cases e : nI j = nI 0
    · rw [if_pos e, if_pos e]
    · rw [if_neg e, if_neg e]
  have mb : ∀ (a1 : Int32) (c : Bool), f_X11_reckon_b122 85 a1 (nI j) (rs (ga S.1 S.2.1 c) (S.2.1 15 0)) μ = some (if nI j = nI 0 then ((rs (ga S.1 S.2.1 c) (S.2.1 15 0)).toInt64.toUInt64 >>> ((nI 32).toInt64.toUInt64 &&& Int64.toUInt64 63)).toInt64 else ((rs (ga S.1 S.2.1 c) (S.2.1 15 0)).toInt64 &&& (4294967295 : Int64)), μ) := fun a1 c => by
    unfold f_X11_reckon_b122
    simp only [il]
    rw [bnd_e (m_ofd (ok c).1 μ)]
    by_cases e : nI j = nI 0
    · rw [if_pos e, if_pos e]
    · rw [if_neg e, if_neg e]
  have eM : f_X11_reckon 85 (nI p) (nI j) μ = if nI p = nI 0 then f_X11_reckon_b122 85 (nI p) (nI j) (rs (ga S.1 S.2.1 false) (S.2.1 15 0)) μ else f_X11_reckon_b122 85 (nI p) (nI j) (rs (ga S.1 S.2.1 true) (S.2.1 15 0)) μ := by
    unfold f_X11_reckon
    simp only [il]
    rw [bnd_e (m1 _), nI_b1, bnd_e (m2 _), nI_b1, lt_d, k9]
    exact m_rk hV hH hM.2.1 hM.2.2.1 (nI p) (nI j) (S.2.1 15 0) FU 0 (by omega) (by omega)
  have eX : f_X10_reckon 0 (nI p) (nI j) μ = if nI p = nI 0 then f_X10_reckon_b30 0 (nI p) (nI j) 0 (nI 1) μ else f_X10_reckon_b30 0 (nI p) (nI j) 0 (nI 0) μ := by
    unfold f_X10_reckon
    simp only [il]
    rw [bnd_e (x1 _), nI_b1, bnd_e (x2 _), nI_b1]
  by_cases e : nI p = nI 0
  · rw [if_pos e] at eM eX
    rw [xb _ _ false (by decide)] at eX
    rw [mb] at eM
    exact call_q hX hM eX eM
  · rw [if_neg e] at eM eX
    rw [xb _ _ true (by decide)] at eX
    rw [mb] at eM
    exact call_q hX hM eX eM
end RK
