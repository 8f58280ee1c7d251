/-! the class: LAST and courses -/
def s_into (n : Nat) : Nat := (k_into n).toNatClampNeg
theorem into_e : ∀ n, n < 8 → k_into n = nI (s_into n) ∧ s_into n < 8 := by decide +kernel
theorem into_b : ∀ q, q < 36 → ∀ n, n < 8 → s_bes q ((s_into n + 4) % 8) < 36 → s_bes (s_bes q ((s_into n + 4) % 8)) (s_into n) = q ∧ ∀ m, m < n → s_bes q ((s_into m + 4) % 8) < 36 → s_bes q ((s_into m + 4) % 8) < s_bes q ((s_into n + 4) % 8) := by decide +kernel
theorem into_c : ∀ q, q < 36 → ∀ p, p < 36 → ∀ h, h < 8 → s_bes p h = q → ∃ n, n < 8 ∧ s_into n = h ∧ s_bes q ((s_into n + 4) % 8) = p := by decide +kernel
section XE
variable {e : Nat} {V : SV} {v : Nat → Nat} {μ : Mem}
theorem LE.to (hV : SVok V) {k h s : Nat} (hE : LE V v k h s) (hk : k < 72) : s_to V (k / 2) h = s / 2 ∧ s_bes (k / 2) h = s / 2 ∧ v k < v s := by
  obtain ⟨h1, j, hj, h2, h3, h4⟩ := hE
  have hsd := @s_sd_lt V (s_zone (k / 2)) (s_span (s_dep (v k) j)) h (k % 2) (by omega)
  have h5 : s_to V (k / 2) h = s / 2 := by unfold s_st at h3; omega
  refine ⟨h5, ?_, ?_⟩
  · have h6 := h2.1
    unfold s_to at h5 h6
    by_cases c : s_bes (k / 2) h = 36
    · rw [if_pos c] at h6; omega
    · rw [if_neg c] at h5 h6
      by_cases c2 : V 6 (s_bes (k / 2) h) = 1
      · rw [if_pos c2] at h6; omega
      · rw [if_neg c2] at h5; exact h5
  · have g1 := s_dep_le (t := v k) (j := j)
    have g2 := s_arr_gt hV (sd := k % 2) (by omega : k / 2 < 36) h2
    omega
/-- the square of what has LEAST is no land -/
theorem IsL.land (hV : SVok V) (hL : IsL V v) {s : Nat} (hs : s < 72) (hv : v s < NV) : V 6 (s / 2) = 0 := by
  have h6 := hV.2.2.2.2.1 (s / 2) (by omega)
  by_cases c : s = 2 * V 7 0 + V 7 1
  · have hb := hV.2.2.2.2.2
    rw [show s / 2 = V 7 0 by omega]
    exact hb.2.2.2
  · obtain ⟨i, hi, hiv, h, hh, j, hj, hl, hst, -⟩ := hL.2.2.2 s hs c hv
    have hsd := @s_sd_lt V (s_zone (i / 2)) (s_span (s_dep (v i) j)) h (i % 2) (by omega)
    have e1 : s_to V (i / 2) h = s / 2 := by unfold s_st at hst; omega
    have e2 := hl.1
    unfold s_to at e1 e2
    by_cases c1 : s_bes (i / 2) h = 36
    · rw [if_pos c1] at e2; omega
    · rw [if_neg c1] at e1 e2
      by_cases c2 : V 6 (s_bes (i / 2) h) = 1
      · rw [if_pos c2] at e2; omega
      · rw [if_neg c2] at e1
        rw [e1] at c2
        omega
theorem x_ends20 (hV : SVok V) (he : e < 2) (hC : CO e μ V v) {k h s : Nat} (hk : k < 72) (hh : h < 8) (hs : s < 72) (hv : v s < NV) (hkv : v k < v s) (hb : s_bes (k / 2) h = s / 2) : ∀ (n j : Nat), j ≤ 4 → 4 - j < n → (∀ i, i < j → NW V v s k h i) → ∃ r, f_X1_endsAtLeast_b20 (21 + 17 * e) (nI k) (nI h) (nI s) n (nI j) μ = some (r, μ) ∧ ((r = nI 1 ∧ LE V v k h s) ∨ (r = nI 0 ∧ ¬ LE V v k h s)) := by
  obtain ⟨hL, hX, hG, hR, -⟩ := hC
  have hvk : v k < NV := by omega
  have b1 := hL.lt hk hvk
  have b2 := hL.lt hs hv
  have hto : s_to V (k / 2) h = s / 2 := by
    have := hL.land hV hs hv
    unfold s_to
    rw [hb, if_neg (by omega), if_neg (by omega)]
  intro n
  induction n with
  | zero => intro j hj hn; omega
  | succ n ih =>
    intro j hj hn hc
    have hNV : NV = 1000000000 := rfl
    rw [f_X1_endsAtLeast_b20]
    simp (disch := omega) only [il, nI_leI, (tc he).2.2.1, (tc he).2.1, (ta he).2.2.2.1, gA_n, nI_clamp, hR k hk, hR s hs, (nI_half (show k < 2 ^ 31 by omega)).1, (nI_half (show k < 2 ^ 31 by omega)).2, (nI_half (show s < 2 ^ 31 by omega)).1, (nI_half (show s < 2 ^ 31 by omega)).2]
    by_cases c : 4 ≤ j
    · rw [if_pos c]
      refine ⟨nI 0, rfl, Or.inr ⟨rfl, fun z => ?_⟩⟩
      obtain ⟨-, j2, hj2, z⟩ := z
      exact hc j2 (by omega) z
    rw [if_neg c]
    have hd := @s_dep_ub (v k) j (by omega)
    rw [bnd_e (x_dep (by omega) (by omega) μ), bnd_e (x_kind (by omega) hh (by omega) μ), bnd_e (x_side he hG (by omega) hh)]
    have hsd := @s_sd_lt V (s_zone (k / 2)) (s_span (s_dep (v k) j)) h (k % 2) (by omega)
    have go : NW V v s k h j → ∃ r, f_X1_endsAtLeast_b20 (21 + 17 * e) (nI k) (nI h) (nI s) n (nI (j + 1)) μ = some (r, μ) ∧ ((r = nI 1 ∧ LE V v k h s) ∨ (r = nI 0 ∧ ¬ LE V v k h s)) := fun z => ih (j + 1) (by omega) (by omega) (fun i hi => by
      rcases (show i < j ∨ i = j by omega) with q | q
      · exact hc i q
      · rw [q]; exact z)
    unfold f_X1_endsAtLeast_b73
    simp (disch := omega) only [il, nI_eq, lt_d, nI_add, (tc he).2.2.1, (tc he).2.1, (ta he).2.2.2.1, gA_n, nI_clamp, hR s hs, (nI_half (show k < 2 ^ 31 by omega)).1, (nI_half (show k < 2 ^ 31 by omega)).2]
    have est : s_st V (k / 2) (k % 2) h (s_dep (v k) j) = 2 * (s / 2) + s_sd V (s_zone (k / 2)) (s_span (s_dep (v k) j)) h (k % 2) := by unfold s_st; rw [hto]
    by_cases c2 : s_sd V (s_zone (k / 2)) (s_span (s_dep (v k) j)) h (k % 2) = s % 2
    · rw [if_pos c2, if_neg (by decide)]
      rw [bnd_e (x_arr hV he hG (by omega) hh (by omega) (by omega)), hR s hs]
      by_cases c3 : s_pace V (s_zone (k / 2)) (s_span (s_dep (v k) j)) h = 0
      · rw [if_pos c3, if_neg (nI_ne (by omega) (by omega) (by omega))]
        exact go (fun z => by have := z.1.2; omega)
      · rw [if_neg c3]
        have hleg : s_leg V (k / 2) h (s_dep (v k) j) := ⟨by omega, by omega⟩
        have har := s_arr_le hV (sd := k % 2) hleg
        by_cases c4 : s_arr V (k / 2) (k % 2) h (s_dep (v k) j) = v s
        · rw [c4, if_pos rfl]
          exact ⟨nI 1, rfl, Or.inl ⟨rfl, hvk, j, by omega, hleg, by omega, c4⟩⟩
        · rw [if_neg (nI_ne (by omega) (by omega) c4)]
          exact go (fun z => c4 z.2.2)
    · rw [if_neg c2, if_pos (by decide)]
      exact go (fun z => by have := z.2.1; omega)
theorem x_ends (hV : SVok V) (he : e < 2) (hC : CO e μ V v) {k h s : Nat} (hk : k < 72) (hh : h < 8) (hs : s < 72) (hv : v s < NV) (hb : s_bes (k / 2) h = s / 2) : ∃ r, f_X1_endsAtLeast (21 + 17 * e) (nI k) (nI h) (nI s) μ = some (r, μ) ∧ ((r = nI 1 ∧ LE V v k h s) ∨ (r = nI 0 ∧ ¬ LE V v k h s)) := by
  have hR := hC.2.2.2.1
  have hNV : NV = 1000000000 := rfl
  have hkl := hC.1.le hk
  unfold f_X1_endsAtLeast
  simp (disch := omega) only [il, nI_ltI, (tc he).2.2.1, (ta he).2.2.2.1, gA_n, nI_clamp, hR k hk, hR s hs]
  by_cases c : v k < v s
  · rw [if_pos c]
    exact x_ends20 hV he hC hk hh hs hv c hb FU 0 (by omega) (Nat.le_of_ble_eq_true rfl) (fun i hi => by omega)
  · rw [if_neg c]
    exact ⟨nI 0, rfl, Or.inr ⟨rfl, fun z => c (z.to hV hk).2.2⟩⟩
/-- what the scan has tried -/
def SK (V : SV) (v : Nat → Nat) (q sd n w : Nat) : Prop := ∀ m x, x < 2 → (m < n ∨ (m = n ∧ x < w)) → s_bes q ((s_into m + 4) % 8) < 36 → ¬ LE V v (2 * s_bes q ((s_into m + 4) % 8) + x) (s_into m) (2 * q + sd)
theorem x_sk42 (hV : SVok V) (he : e < 2) (hC : CO e μ V v) {q sd n : Nat} (hq : q < 36) (hsd : sd < 2) (hn : n < 8) (hv : v (2 * q + sd) < NV) (h0 : 2 * q + sd ≠ 2 * V 7 0 + V 7 1) (hb : s_bes q ((s_into n + 4) % 8) < 36) (K2 : Int32 → Mem → Option (Int32 × Mem)) (hK : SK V v q sd (n + 1) 0 → ∃ c, K2 (nI (n + 1)) μ = some (lcode c, μ) ∧ LW V v (2 * q + sd) c) : ∀ (m w : Nat), w ≤ 2 → 2 - w < m → SK V v q sd n w → ∃ c, f_X1_seekLast_b42 (21 + 17 * e) (nI q) (nI sd) K2 m (nI n) (nI (s_into n)) (nI (s_bes q ((s_into n + 4) % 8))) (nI w) μ = some (lcode c, μ) ∧ LW V v (2 * q + sd) c := by
  intro m
  induction m with
  | zero => intro w hw hm; omega
  | succ m ih =>
    intro w hw hm hS
    have hi := (into_e n hn).2
    have hbb := into_b q hq n hn hb
    rw [f_X1_seekLast_b42]
    simp (disch := omega) only [il, nI_leI, lt_d, pk_mul, nI_add]
    by_cases c : 2 ≤ w
    · rw [if_pos c]
      refine hK (fun m2 x hx hm2 => hS m2 x hx ?_)
      omega
    rw [if_neg c]
    obtain ⟨r, e1, e2⟩ := x_ends hV he hC (k := 2 * s_bes q ((s_into n + 4) % 8) + w) (h := s_into n) (s := 2 * q + sd) (by omega) hi (by omega) hv (by
      rw [show (2 * s_bes q ((s_into n + 4) % 8) + w) / 2 = s_bes q ((s_into n + 4) % 8) by omega, show (2 * q + sd) / 2 = q by omega]
      exact hbb.1)
    rw [bnd_e e1]
    rcases e2 with ⟨rfl, hE⟩ | ⟨rfl, hE⟩
    · rw [if_neg (by decide)]
      generalize hp : s_bes q ((s_into n + 4) % 8) = p at *
      refine ⟨8 * (2 * p + w) + s_into n, ?_, Or.inr ⟨by omega, hv, h0, ?_, fun c2 hc2 hE2 => ?_⟩⟩
      · unfold lcode
        rw [if_neg (by omega), show (8 * (2 * p + w) + s_into n) / 16 = p by omega, show (8 * (2 * p + w) + s_into n) / 8 % 2 = w by omega, show (8 * (2 * p + w) + s_into n) % 8 = s_into n by omega]
      · rw [show (8 * (2 * p + w) + s_into n) / 8 = 2 * p + w by omega, show (8 * (2 * p + w) + s_into n) % 8 = s_into n by omega]
        exact hE
      · have g1 := (hE2.to hV (by omega)).2.1
        rw [show c2 / 8 / 2 = c2 / 16 by omega, show (2 * q + sd) / 2 = q by omega] at g1
        obtain ⟨m2, hm2, g2, g3⟩ := into_c q hq (c2 / 16) (by omega) (c2 % 8) (by omega) g1
        rw [show c2 / 8 = 2 * (c2 / 16) + c2 / 8 % 2 by omega, ← g2, ← g3] at hE2
        rcases (show m2 < n ∨ m2 = n ∨ n < m2 by omega) with z | z | z
        · exact hS m2 (c2 / 8 % 2) (by omega) (Or.inl z) (by omega) hE2
        · subst z
          exact hS m2 (c2 / 8 % 2) (by omega) (Or.inr ⟨rfl, by omega⟩) (by omega) hE2
        · have := (into_b q hq m2 hm2 (by omega)).2 n z (by omega)
          omega
    · rw [if_pos rfl]
      refine ih (w + 1) (by omega) (by omega) (fun m2 x hx hm2 => ?_)
      by_cases z : m2 = n ∧ x = w
      · obtain ⟨rfl, rfl⟩ := z
        exact fun _ => hE
      · exact hS m2 x hx (by omega)
theorem x_sk2 (hV : SVok V) (he : e < 2) (hC : CO e μ V v) {q sd : Nat} (hq : q < 36) (hsd : sd < 2) (hv : v (2 * q + sd) < NV) (h0 : 2 * q + sd ≠ 2 * V 7 0 + V 7 1) : ∀ (m n : Nat), n ≤ 8 → 8 - n < m → SK V v q sd n 0 → ∃ c, f_X1_seekLast_b2 (21 + 17 * e) (nI q) (nI sd) m (nI n) μ = some (lcode c, μ) ∧ LW V v (2 * q + sd) c := by
  intro m
  induction m with
  | zero => intro n hn hm; omega
  | succ m ih =>
    intro n hn hm hS
    rw [f_X1_seekLast_b2]
    simp (disch := omega) only [il, nI_leI, lt_d]
    by_cases c : 8 ≤ n
    · exfalso
      obtain ⟨i, hi, hiv, h, hh, j, hj, hl, hst, har⟩ := hC.1.2.2.2 _ (by omega) h0 hv
      have hE : LE V v i h (2 * q + sd) := ⟨hiv, j, hj, hl, hst, har⟩
      have g1 := (hE.to hV hi).2.1
      rw [show (2 * q + sd) / 2 = q by omega] at g1
      obtain ⟨m2, hm2, g2, g3⟩ := into_c q hq (i / 2) (by omega) h hh g1
      refine hS m2 (i % 2) (by omega) (Or.inl (by omega)) (by omega) ?_
      rw [g2] at g3
      rw [g2, g3, show 2 * (i / 2) + i % 2 = i by omega]
      exact hE
    rw [if_neg c]
    have hi := into_e n (by omega)
    simp (disch := omega) only [gA_n, nI_clamp, hi.1, il, nI_add, pk_div, pk_mul, pk_sub, n_rem]
    rw [bnd_e (x_beside hq (by omega) μ)]
    have hle := s_bes_lt (h := (s_into n + 4) % 8) hq
    have skip : (s_bes q ((s_into n + 4) % 8) < 36 → False) → ∃ c, f_X1_seekLast_b2 (21 + 17 * e) (nI q) (nI sd) m (nI (n + 1)) μ = some (lcode c, μ) ∧ LW V v (2 * q + sd) c := fun z => ih (n + 1) (by omega) (by omega) (fun m2 x hx hm2 hb => by
      by_cases y : m2 = n
      · subst y; exact (z hb).elim
      · exact hS m2 x hx (by omega) hb)
    by_cases c2 : s_bes q ((s_into n + 4) % 8) = 36
    · rw [if_pos c2, if_pos rfl]
      exact skip (fun z => by omega)
    · rw [if_neg c2, if_neg (nI_m1 (by omega))]
      exact x_sk42 hV he hC hq hsd (by omega) hv h0 (by omega) _ (fun z => ih (n + 1) (by omega) (by omega) z) FU 0 (by omega) (Nat.le_of_ble_eq_true rfl) hS
def XL (e : Nat) (μ μ2 : Mem) : Prop := μ2.2 = μ.2 ∧ ∀ i, i ≠ 28 + 17 * e → μ2.1 i = μ.1 i
theorem XL.rf (e : Nat) (μ : Mem) : XL e μ μ := ⟨rfl, fun _ _ => rfl⟩
theorem XL.tr {a b c : Mem} (h : XL e a b) (g : XL e b c) : XL e a c := ⟨g.1.trans h.1, fun i x => (g.2 i x).trans (h.2 i x)⟩
theorem XL.xf {a b : Mem} (h : XL e a b) : XF e a b := ⟨h.1, fun i hi => h.2 i (by omega)⟩
theorem lcode_n {c : Nat} (h : c ≤ 576) : ¬ lcode c = -nI 1 := by
  unfold lcode
  by_cases z : c = 576
  · rw [if_pos z]; decide
  · rw [if_neg z]; exact nI_m1 (by omega)
theorem x_lastOf (hV : SVok V) (he : e < 2) (hC : CO e μ V v) {q sd : Nat} (hq : q < 36) (hsd : sd < 2) : ∃ μ2 c, f_X1_lastOf (21 + 17 * e) (nI q) (nI sd) μ = some (lcode c, μ2) ∧ LW V v (2 * q + sd) c ∧ XL e μ μ2 ∧ CO e μ2 V v := by
  obtain ⟨hL, hX, hG, hR, hLL⟩ := id hC
  have hVb := hV.2.2.2.2.2
  have hNV : NV = 1000000000 := rfl
  have hvl := hL.le (k := 2 * q + sd) (by omega)
  have fin : ∀ c, LW V v (2 * q + sd) c → XL e μ (sI μ (28 + 17 * e) (2 * q + sd) (lcode c)) ∧ CO e (sI μ (28 + 17 * e) (2 * q + sd) (lcode c)) V v := by
    intro c hc
    have f : XL e μ (sI μ (28 + 17 * e) (2 * q + sd) (lcode c)) := ⟨rfl, fun i hi => sI_o hi⟩
    refine ⟨f, hL, hX.xf he f.xf, hG.s (by omega), fun k hk => ?_, fun k hk => ?_⟩
    · rw [sI_o (by omega)]; exact hR k hk
    · by_cases z : k = 2 * q + sd
      · subst z; exact Or.inr ⟨c, hc, sI_e⟩
      · rw [sI_n (Or.inr z)]; exact hLL k hk
  unfold f_X1_lastOf
  simp (disch := omega) only [il, pk_mul, nI_add, lt_d, (tc he).2.2.1, (tc he).2.2.2.2.1, (ta he).2.2.2.1, (ta he).2.2.2.2.2.1, gA_n, nI_clamp, hR (2 * q + sd) (by omega)]
  by_cases c : μ.1 (28 + 17 * e) (2 * q + sd) = -nI 1
  · rw [if_pos c]
    unfold f_X1_lastOf_b35 f_X1_startSpot
    rw [bnd_s]
    have none : LW V v (2 * q + sd) 576 → ∃ μ2 c, f_X1_lastOf_b40 (21 + 17 * e) (nI q) (nI sd) (nI (2 * q + sd)) (nI 1) μ = some (lcode c, μ2) ∧ LW V v (2 * q + sd) c ∧ XL e μ μ2 ∧ CO e μ2 V v := by
      intro hw
      obtain ⟨f1, f2⟩ := fin 576 hw
      unfold f_X1_lastOf_b40 f_X1_lastOf_b63
      simp (disch := omega) only [il, lt_d, (tc he).2.2.2.2.1, (ta he).2.2.2.2.2.1, gA_n, nI_clamp]
      rw [if_neg (by decide), sI_e]
      exact ⟨_, 576, rfl, hw, f1, f2⟩
    by_cases cv : v (2 * q + sd) = NV
    · rw [cv, show nI 1000000000 = nI NV from rfl, if_pos rfl]
      exact none (Or.inl ⟨rfl, Or.inl cv⟩)
    · rw [if_neg (nI_ne (by omega) (by omega) (by omega))]
      simp (disch := omega) only [il, (tc he).1, hX.2.2.2.2.2.2.2.1, hX.2.2.2.2.2.2.2.2.1, pk_mul, nI_add, nI_eq]
      by_cases c0 : 2 * q + sd = 2 * V 7 0 + V 7 1
      · rw [if_pos c0]
        exact none (Or.inl ⟨rfl, Or.inr c0⟩)
      · rw [if_neg c0]
        obtain ⟨c', e1, e2⟩ := x_sk2 hV he hC hq hsd (by omega) c0 FU 0 (by omega) (Nat.le_of_ble_eq_true rfl) (fun m x hx hm => by omega)
        obtain ⟨f1, f2⟩ := fin c' e2
        unfold f_X1_lastOf_b40 f_X1_lastOf_b63 f_X1_seekLast
        simp only [il]
        rw [if_pos trivial, bnd_e e1]
        simp (disch := omega) only [il, lt_d, (tc he).2.2.2.2.1, (ta he).2.2.2.2.2.1, gA_n, nI_clamp]
        rw [sI_e]
        exact ⟨_, c', rfl, e2, f1, f2⟩
  · rw [if_neg c]
    rcases hLL (2 * q + sd) (by omega) with z | ⟨c', z1, z2⟩
    · exact absurd z c
    · rw [z2]
      exact ⟨μ, c', rfl, z1, XL.rf e μ, hC⟩
end XE
