/-! leg: the soonest -/
def s_aj (V : SV) (q sd h t j : Nat) : Nat := if s_to V q h < 36 ∧ 0 < s_pace V (s_zone q) (s_span (s_dep t j)) h then s_arr V q sd h (s_dep t j) else NV
def s_bs (A : Nat → Nat) : Nat → Nat → Nat → Nat → Nat
  | 0, _, b, _ => b
  | m + 1, j, b, f => if A j < f then s_bs A m (j + 1) j (A j) else s_bs A m (j + 1) b f
theorem s_bs_nv {A : Nat → Nat} (h : ∀ j, A j = NV) : ∀ m j b, s_bs A m j b NV = b := by
  intro m
  induction m with
  | zero => intro j b; rfl
  | succ m ih => intro j b; rw [s_bs, h, if_neg (by omega)]; exact ih _ _
section LG
variable {V : SV} {μ : Mem} {q sd h t : Nat}
theorem s_aj_1 {j : Nat} (hl : s_leg V q h (s_dep t j)) : s_aj V q sd h t j = s_arr V q sd h (s_dep t j) := if_pos hl
theorem s_aj_0 {j : Nat} (hl : ¬ s_leg V q h (s_dep t j)) : s_aj V q sd h t j = NV := if_neg hl
theorem s_aj_le (hV : SVok V) (ht : t ≤ 9999) {j : Nat} (hj : j < 4) : s_aj V q sd h t j ≤ NV := by
  have hNV : NV = 1000000000 := rfl
  by_cases hl : s_leg V q h (s_dep t j)
  · rw [s_aj_1 hl]
    have := s_arr_le hV (sd := sd) hl
    have := @s_dep_ub t j hj
    omega
  · rw [s_aj_0 hl]; omega
theorem s_aj_lt (hV : SVok V) (ht : t ≤ 9999) {j : Nat} (hj : j < 4) (hl : s_leg V q h (s_dep t j)) : s_aj V q sd h t j < 20000 := by
  rw [s_aj_1 hl]
  have := s_arr_le hV (sd := sd) hl
  have := @s_dep_ub t j hj
  omega
theorem x_soon (hV : SVok V) {e : Nat} (he : e < 2) (hL : LegsTo e μ V 128) (hq : q < 36) (hs : sd < 2) (hh : h < 8) (ht : t ≤ 9999) (hto : s_to V q h < 36) : ∀ (m n j b f : Nat), j + m = 4 → m < n → f ≤ NV → f_X4_soonestDeparture_b24 (22 + 17 * e) (nI q) (nI sd) (nI h) (nI t) n (nI (if b = 4 then NV else s_dep t b)) (nI f) (nI j) μ = some (nI (if s_bs (s_aj V q sd h t) m j b f = 4 then NV else s_dep t (s_bs (s_aj V q sd h t) m j b f)), μ) := by
  have hNV : NV = 1000000000 := rfl
  intro m
  induction m with
  | zero =>
    intro n j b f hj hn hf
    obtain ⟨n, rfl⟩ : ∃ i, n = i + 1 := ⟨n - 1, by omega⟩
    rw [f_X4_soonestDeparture_b24]
    simp only [il]
    rw [if_pos (nI_le (by omega) (by omega))]
    rfl
  | succ m ih =>
    intro n j b f hj hn hf
    obtain ⟨n, rfl⟩ : ∃ i, n = i + 1 := ⟨n - 1, by omega⟩
    have hub := @s_dep_ub t j (by omega)
    have hA := s_aj_le (sd := sd) (q := q) (h := h) hV ht (show j < 4 by omega)
    rw [f_X4_soonestDeparture_b24]
    simp only [il]
    rw [if_neg (nI_ge (by omega) (by omega)), bnd_e (x_dep (t := t) (j := j) (by omega) (by omega) _), bnd_e (x_kind hq hh (by omega) _), bnd_e (x_arr hV he hL hq hh hs (by omega))]
    have eA : (if s_pace V (s_zone q) (s_span (s_dep t j)) h = 0 then NV else s_arr V q sd h (s_dep t j)) = s_aj V q sd h t j := by
      by_cases c : s_pace V (s_zone q) (s_span (s_dep t j)) h = 0
      · rw [if_pos c, s_aj_0 (fun z => by have := z.2; omega)]
      · rw [if_neg c, s_aj_1 ⟨hto, by omega⟩]
    rw [eA, s_bs]
    simp (disch := omega) only [nI_leI, lt_d, nI_add]
    by_cases c : s_aj V q sd h t j < f
    · rw [if_pos c, if_neg (by omega)]
      have i1 := ih n (j + 1) j (s_aj V q sd h t j) (by omega) (by omega) hA
      rw [if_neg (show ¬ j = 4 by omega)] at i1
      exact i1
    · rw [if_neg c, if_pos (by omega)]
      exact ih n (j + 1) b f (by omega) (by omega) hf
def bI (b : Nat) : Int32 := if b = 4 then -nI 1 else nI b
theorem m_soon (hV : SVok V) (hq : q < 36) (hs : sd < 2) (hh : h < 8) (ht : t ≤ 9999) : ∀ (m n j b f : Nat) (μ : Mem), j + m = 4 → m < n → MSea μ V → ((b = 4 ∧ f = NV ∧ (j = 0 ∨ μ.1 85 29 = -nI 1)) ∨ (b < 4 ∧ s_leg V q h (s_dep t b) ∧ f < 20000)) → ∃ μf, f_X11_soonest_b9 85 (nI q) (nI sd) (nI h) (nI t) n (bI b) (enc f) (nI j) μ = some μf ∧ MF0 μ μf ∧ ((s_bs (s_aj V q sd h t) m j b f = 4 ∧ μf.1 85 29 = -nI 1) ∨ (s_bs (s_aj V q sd h t) m j b f < 4 ∧ s_leg V q h (s_dep t (s_bs (s_aj V q sd h t) m j b f)) ∧ μf.1 85 29 = nI (s_arr V q sd h (s_dep t (s_bs (s_aj V q sd h t) m j b f))) ∧ μf.1 85 30 = nI (s_dep t (s_bs (s_aj V q sd h t) m j b f)) ∧ μf.1 85 31 = nI (s_sd V (s_zone q) (s_span (s_dep t (s_bs (s_aj V q sd h t) m j b f))) h sd))) := by
  have hNV : NV = 1000000000 := rfl
  intro m
  induction m with
  | zero =>
    intro n j b f μ hj hn hM hI
    obtain ⟨n, rfl⟩ : ∃ i, n = i + 1 := ⟨n - 1, by omega⟩
    rw [f_X11_soonest_b9]
    simp only [il]
    rw [if_pos (nI_le (by omega) (by omega))]
    rcases hI with ⟨rfl, rfl, h29⟩ | ⟨hb, hl, hf⟩
    · rw [if_pos (show bI 4 < nI 0 by decide)]
      exact ⟨μ, rfl, MF0.rf μ, Or.inl ⟨rfl, by rcases h29 with z | z; omega; exact z⟩⟩
    · have hub := @s_dep_ub t b hb
      rw [show bI b = nI b from if_neg (by omega), if_neg (nI_lt0 (by omega)), bnd_e (m_dep (by omega) hb _)]
      obtain ⟨μ2, g1, g2, g3⟩ := m_goes hV hM hq hs hh (show s_dep t b < 2 ^ 29 by omega)
      rw [bnv_e g1]
      refine ⟨μ2, rfl, g2, Or.inr ⟨hb, hl, ?_⟩⟩
      rcases g3 with ⟨_, g4, g5, g6, _⟩ | ⟨g4, _⟩
      · exact ⟨g4, g5, g6⟩
      · exact absurd hl g4
  | succ m ih =>
    intro n j b f μ hj hn hM hI
    obtain ⟨n, rfl⟩ : ∃ i, n = i + 1 := ⟨n - 1, by omega⟩
    have hub := @s_dep_ub t j (by omega)
    rw [f_X11_soonest_b9]
    simp only [il]
    rw [if_neg (nI_ge (by omega) (by omega)), bnd_e (m_dep (by omega) (by omega) _)]
    obtain ⟨μ2, g1, g2, g3⟩ := m_goes hV hM hq hs hh (show s_dep t j < 2 ^ 29 by omega)
    rw [bnv_e g1, s_bs]
    rcases g3 with ⟨hl, g4, g5, g6, _⟩ | ⟨hl, g4⟩
    · have hA := s_aj_lt (sd := sd) hV ht (show j < 4 by omega) hl
      have hE := s_aj_1 (sd := sd) hl
      rw [g4, ← hE, if_neg (nI_lt0 (by omega))]
      unfold f_X11_soonest_b50
      simp only [il]
      rw [g4, ← hE]
      rcases hI with ⟨rfl, rfl, h29⟩ | ⟨hb, hl2, hf⟩
      · rw [enc_nv, if_pos (show -nI 1 < nI 0 by decide), if_pos (by omega)]
        simp (disch := omega) only [lt_d, nI_add]
        obtain ⟨μf, r1, r2, r3⟩ := ih n (j + 1) j (s_aj V q sd h t j) μ2 (by omega) (by omega) (hM.fr g2) (Or.inr ⟨by omega, hl, hA⟩)
        rw [show bI j = nI j from if_neg (by omega), enc_n (by omega)] at r1
        exact ⟨μf, r1, g2.tr r2, r3⟩
      · rw [enc_n (by omega), if_neg (nI_lt0 (by omega))]
        simp (disch := omega) only [lt_d, nI_add, nI_leI]
        by_cases c : s_aj V q sd h t j < f
        · rw [if_pos c, if_neg (by omega)]
          obtain ⟨μf, r1, r2, r3⟩ := ih n (j + 1) j (s_aj V q sd h t j) μ2 (by omega) (by omega) (hM.fr g2) (Or.inr ⟨by omega, hl, hA⟩)
          rw [show bI j = nI j from if_neg (by omega), enc_n (by omega)] at r1
          exact ⟨μf, r1, g2.tr r2, r3⟩
        · rw [if_neg c, if_pos (by omega)]
          obtain ⟨μf, r1, r2, r3⟩ := ih n (j + 1) b f μ2 (by omega) (by omega) (hM.fr g2) (Or.inr ⟨hb, hl2, hf⟩)
          rw [enc_n (by omega)] at r1
          exact ⟨μf, r1, g2.tr r2, r3⟩
    · have hE := s_aj_0 (sd := sd) hl
      have hf : f ≤ NV := by rcases hI with ⟨_, z, _⟩ | ⟨_, _, z⟩ <;> omega
      rw [g4, if_pos (show -nI 1 < nI 0 by decide), hE, if_neg (by omega), lt_d, nI_add]
      obtain ⟨μf, r1, r2, r3⟩ := ih n (j + 1) b f μ2 (by omega) (by omega) (hM.fr g2) (by
        rcases hI with ⟨z1, z2, _⟩ | z
        · exact Or.inl ⟨z1, z2, Or.inr g4⟩
        · exact Or.inr z)
      exact ⟨μf, r1, g2.tr r2, r3⟩
end LG
/-- the legs made fresh alone -/
theorem XI.lf {n : Nat} {S : ST} {μ : Mem} (h : XI n S μ) : ∃ μ2, f_X1_freshLegs 21 μ = some (22, μ2) ∧ XI n S μ2 ∧ hi μ μ2 ∧ LegsTo 0 μ2 S.1 128 := by
  have hV := h.1.1.1
  obtain ⟨a, b, W, c1, c2, c3, c4, c5, c6, c7, c8, c9, c10⟩ := id h.2.1
  obtain ⟨k1, k2, k3⟩ := c8
  obtain ⟨μ2, e1, e2, e3, e4, e5⟩ := x_lfresh hV (e := 0) (by decide) k1 k3
  have e21 : μ2.1 21 = μ.1 21 := e5 21 (by omega)
  have e11 : μ2.1 1 = μ.1 1 := e5 1 (by omega)
  have e26 : μ2.1 26 = μ.1 26 := e5 26 (by omega)
  have e28 : μ2.1 28 = μ.1 28 := e5 28 (by omega)
  have hK : KI 0 μ2 S.1 := by
    refine ⟨k1.xf (by decide) e2, fun z => ?_, fun _ => e3⟩
    obtain ⟨v, d1, d2, d3, d4, d5⟩ := k2 (by
      show μ.1 21 8 = μ.1 1 10
      rw [← e21, ← e11]; exact z)
    refine ⟨v, d1, k1.xf (by decide) e2, e3, fun k hk => ?_, fun k hk => ?_⟩
    · show μ2.1 26 k = _
      rw [e26]; exact d4 k hk
    · show μ2.1 28 k = -nI 1 ∨ ∃ c, LW S.1 v k c ∧ μ2.1 28 k = lcode c
      rw [e28]; exact d5 k hk
  refine ⟨μ2, ?_, h.xf e2 hK (Or.inl (by rw [e21])) (Or.inr e4), e2.hi, e3⟩
  unfold f_X1_freshLegs
  rw [rf_21_1, bnv_e e1]
theorem gK2 {β : Type} {k : Option β} : gP (decide (knd 22 = 2)) k = k := by
  rw [show decide (knd 22 = 2) = true by decide +kernel]
  exact gP_t
theorem call_leg (a1 a2 a3 a4 a5 : Int32) : CALL (f_X10_leg 0 a1 a2 a3 a4 a5) (f_X11_leg 85 a1 a2 a3 a4 a5) := by
  intro n S μ hn hX hM
  have hNV : NV = 1000000000 := rfl
  have hFU : FU = 1000000000000 := rfl
  obtain ⟨b1, x1, m1, h1⟩ := arg_sq a1
  obtain ⟨b2, x2, m2, h2⟩ := arg_si a2
  obtain ⟨b3, x3, m3, h3⟩ := arg_he a3
  obtain ⟨b5, x5, m5, h5⟩ := argc a5 3 (by decide) (by decide)
  rcases h1 with rfl | ⟨rfl, q, hq, rfl⟩
  · exact call_q hX hM (r := -nI 1) (by unfold f_X10_leg; simp only [il]; rw [bnd_e (x1 _), nI_b0]) (by unfold f_X11_leg; simp only [il]; rw [bnd_e (m1 _), nI_b0])
  obtain ⟨hV, hS⟩ := hX.sea
  have hMs := hM.2.1
  have h6 := hV.2.2.2.2.1 q hq
  have eX : ∀ μ, XSea 1 μ S.1 → f_X6_isLand 1 (nI q) μ = some (nI (S.1 6 q), μ) := fun μ h => x_land hV h hq
  have eM : ∀ {β : Type} (μ : Mem) (x y : Option β), MSea μ S.1 → gA (nI q) (aln (rf 85 0)) (if μ.1 (rf 85 0) (nI q).toNatClampNeg = nI 1 then x else y) = if S.1 6 q = 1 then x else y := by
    intro β μ x y hm
    simp (disch := omega) only [rf_85_0, rf_85_1, rf_85_2, rf_85_3, rf_85_4, rf_85_5, rf_85_6, rf_85_11, rf_85_13, rf_85_14, rf_85_16, rf_85_17, rf_85_19, rf_85_20, rf_85_21, rf_85_22, rf_85_24, rf_85_27, rf_85_33, rf_85_34, rf_85_36, rf_85_37, rf_85_38, rf_85_39, al_86, al_87, al_88, al_89, al_90, al_91, al_92, al_93, al_94, al_95, al_96, al_97, al_98, al_99, al_100, al_101, al_102, al_103, al_104, al_105, al_106, al_107, al_108, al_109, gA_n, nI_clamp, hm.2.2.2.2.2.2.1 q hq, nI_eq]
  by_cases c6 : S.1 6 q = 1
  · refine call_q hX hM (r := -nI 1) ?_ ?_
    · unfold f_X10_leg; simp only [il, rf_0_0]; rw [bnd_e (x1 _), nI_b1, bnd_e (eX _ hS), c6, nI_b1]
    · unfold f_X11_leg; simp only [il]; rw [bnd_e (m1 _), nI_b1, eM _ _ _ hMs, if_pos c6]
  have c60 : S.1 6 q = 0 := by omega
  rcases h2 with rfl | ⟨rfl, sd, hs, rfl⟩
  · refine call_q hX hM (r := -nI 1) ?_ ?_
    · unfold f_X10_leg; simp only [il, rf_0_0]; rw [bnd_e (x1 _), nI_b1, bnd_e (eX _ hS), c60, nI_b0, bnd_e (x2 _), nI_b0]
    · unfold f_X11_leg; simp only [il]; rw [bnd_e (m1 _), nI_b1, eM _ _ _ hMs, if_neg c6, bnd_e (m2 _), nI_b0]
  rcases h3 with rfl | ⟨rfl, h, hh, rfl⟩
  · refine call_q hX hM (r := -nI 1) ?_ ?_
    · unfold f_X10_leg; simp only [il, rf_0_0]; rw [bnd_e (x1 _), nI_b1, bnd_e (eX _ hS), c60, nI_b0, bnd_e (x2 _), nI_b1, bnd_e (x3 _), nI_b0]
    · unfold f_X11_leg; simp only [il]; rw [bnd_e (m1 _), nI_b1, eM _ _ _ hMs, if_neg c6, bnd_e (m2 _), nI_b1, bnd_e (m3 _), nI_b0]
  rcases h5 with rfl | ⟨rfl, w, hw, rfl⟩
  · refine call_q hX hM (r := -nI 1) ?_ ?_
    · unfold f_X10_leg; simp only [il, rf_0_0]; rw [bnd_e (x1 _), nI_b1, bnd_e (eX _ hS), c60, nI_b0, bnd_e (x2 _), nI_b1, bnd_e (x3 _), nI_b1, bnd_e (x5 _), nI_b0]
    · unfold f_X11_leg; simp only [il]; rw [bnd_e (m1 _), nI_b1, eM _ _ _ hMs, if_neg c6, bnd_e (m2 _), nI_b1, bnd_e (m3 _), nI_b1, bnd_e (m5 _), nI_b0]
  rcases arg_m a4 9999 (by decide) with ⟨q1, q2⟩ | ⟨t, ht, rfl, q0, q1, q2⟩
  · refine call_q hX hM (r := -nI 2) ?_ ?_
    · unfold f_X10_leg; simp only [il, rf_0_0]; rw [bnd_e (x1 _), nI_b1, bnd_e (eX _ hS), c60, nI_b0, bnd_e (x2 _), nI_b1, bnd_e (x3 _), nI_b1, bnd_e (x5 _), nI_b1]
      rcases q1 with z | ⟨z0, z⟩
      · rw [if_pos z]
      · rw [if_neg z0, if_neg z]
    · unfold f_X11_leg; simp only [il]; rw [bnd_e (m1 _), nI_b1, eM _ _ _ hMs, if_neg c6, bnd_e (m2 _), nI_b1, bnd_e (m3 _), nI_b1, bnd_e (m5 _), nI_b1, bnd_e (q2 _), nI_b0]
  obtain ⟨μ1, f1, f2, f3, f4⟩ := hX.lf
  have hM1 := hM.hi f3
  have hS1 := f2.sea.2
  obtain ⟨b, hb⟩ : ∃ b, b = s_bs (s_aj S.1 q sd h t) 4 0 4 NV := ⟨_, rfl⟩
  obtain ⟨μ2, s1, s2, s3⟩ := m_soon (V := S.1) hV hq hs hh ht 4 FU 0 4 NV μ1 rfl (by omega) hM1.2.1 (Or.inl ⟨rfl, rfl, Or.inl rfl⟩)
  rw [← hb] at s3
  have eSo : f_X11_soonest 85 (nI q) (nI sd) (nI h) (nI t) μ1 = some μ2 := s1
  have eDp : f_X4_soonestDeparture 22 (nI q) (nI sd) (nI h) (nI t) μ1 = some (nI (if b = 4 then NV else s_dep t b), μ1) := by
    unfold f_X4_soonestDeparture
    simp only [il]
    rw [bnd_e (x_target hV (e := 0) (by decide) hS1 hq hh)]
    by_cases c : s_to S.1 q h = 36
    · have hb4 : b = 4 := by rw [hb]; exact s_bs_nv (fun j => s_aj_0 (fun z => by have := z.1; omega)) 4 0 4
      rw [if_pos c, if_pos rfl, hb4]
      rfl
    · have hto : s_to S.1 q h < 36 := by
        have := s_bes_lt (h := h) hq
        unfold s_to at *
        split at c
        · exact absurd rfl c
        · rename_i z1
          split at c
          · exact absurd rfl c
          · rename_i z2
            rw [if_neg z1, if_neg z2]
            omega
      rw [if_neg c, if_neg (nI_m1 (by omega)), hb]
      exact x_soon hV (e := 0) (by decide) f4 hq hs hh ht hto 4 FU 0 4 NV rfl (by omega) (Nat.le_refl _)
  have mleg : f_X11_leg 85 (nI q) (nI sd) (nI h) (nI t) (nI w) μ1 = (if nI 0 ≤ μ2.1 85 29 then (if nI w = nI 0 then some (μ2.1 85 29, μ2) else (if nI w = nI 1 then some (μ2.1 85 30, μ2) else some (μ2.1 85 31, μ2))) else some (-nI 5, μ2)) := by
    unfold f_X11_leg; simp only [il]; rw [bnd_e (m1 _), nI_b1, eM _ _ _ hM1.2.1, if_neg c6, bnd_e (m2 _), nI_b1, bnd_e (m3 _), nI_b1, bnd_e (m5 _), nI_b1, bnd_e (q2 _), nI_b1, bnv_e eSo]
  have xleg : f_X10_leg 0 (nI q) (nI sd) (nI h) (nI t) (nI w) μ = (if nI (if b = 4 then NV else s_dep t b) = nI 1000000000 then some (-nI 5, μ1) else (if nI w = nI 1 then some (nI (if b = 4 then NV else s_dep t b), μ1) else bnd (f_X4_kindOf (nI q) (nI h) (nI (if b = 4 then NV else s_dep t b)) μ1) (fun r16 μ15 => (if nI w = nI 0 then bnd (f_X4_arrival 22 r16 (nI sd) (nI (if b = 4 then NV else s_dep t b)) μ15) (fun r20 μ19 => some (r20, μ19)) else bnd (f_X4_sideThen 22 r16 (nI sd) μ15) (fun r18 μ17 => some (r18, μ17)))))) := by
    unfold f_X10_leg; simp only [il, rf_0_0, rf_0_2]; rw [bnd_e (x1 _), nI_b1, bnd_e (eX _ hS), c60, nI_b0, bnd_e (x2 _), nI_b1, bnd_e (x3 _), nI_b1, bnd_e (x5 _), nI_b1, if_neg q0, if_pos q1, bnd_e f1, gK2, bnd_e eDp]
  rcases s3 with ⟨hb4, g4⟩ | ⟨hb4, hl, g4, g5, g6⟩
  · refine call_0 (r := -nI 5) f2 hM ?_ f3 ?_ (MF0.q s2)
    · rw [xleg, if_pos hb4, if_pos (show nI NV = nI 1000000000 from rfl)]
    · rw [mleg, g4, if_neg (by decide)]
  · have hub := @s_dep_ub t b hb4
    have hal := s_arr_le hV (sd := sd) hl
    have hk : kd q h (s_dep t b) = kd q h (s_dep t b) := rfl
    rw [if_neg (show ¬ b = 4 by omega), if_neg (nI_ne (by omega) (by omega) (by omega)), bnd_e (x_kind hq hh (by omega) _), bnd_e (x_arr hV (e := 0) (by decide) f4 hq hh hs (by omega)), bnd_e (x_side (e := 0) (by decide) f4 hq hh), if_neg (show ¬ s_pace S.1 (s_zone q) (s_span (s_dep t b)) h = 0 by have := hl.2; omega)] at xleg
    rw [g4, if_pos (nI_le (Nat.zero_le _) (by omega)), g5, g6] at mleg
    by_cases w0 : w = 0
    · subst w0
      refine call_0 (r := nI (s_arr S.1 q sd h (s_dep t b))) f2 hM ?_ f3 ?_ (MF0.q s2)
      · rw [xleg, if_neg (nI_ne (by decide) (by decide) (by decide)), if_pos rfl]
      · rw [mleg, if_pos rfl]
    · by_cases w1 : w = 1
      · subst w1
        refine call_0 (r := nI (s_dep t b)) f2 hM ?_ f3 ?_ (MF0.q s2)
        · rw [xleg, if_pos rfl]
        · rw [mleg, if_neg (nI_ne (by decide) (by decide) (by decide)), if_pos rfl]
      · refine call_0 (r := nI (s_sd S.1 (s_zone q) (s_span (s_dep t b)) h sd)) f2 hM ?_ f3 ?_ (MF0.q s2)
        · rw [xleg, if_neg (nI_ne (by omega) (by decide) w1), if_neg (nI_ne (by omega) (by decide) w0)]
        · rw [mleg, if_neg (nI_ne (by omega) (by decide) w0), if_neg (nI_ne (by omega) (by decide) w1)]
