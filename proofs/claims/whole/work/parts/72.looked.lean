/-! looked -/
def s_lk (H : SV) (v : Nat → Nat) : Nat → Nat → Int32
  | 0, _ => -nI 5
  | m + 1, k => if s_lq v (H 13 k) = H 14 k then s_lk H v m (k + 1) else nI k
theorem x_lk {S : ST} : ∀ (m f k n : Nat) (μ : Mem), XI n S μ → k + m = S.2.1 15 3 → m < f → ∃ μ1, f_X10_looked_b2 0 f (nI k) μ = some (s_lk S.2.1 (s_L S.1) m k, μ1) ∧ XI n S μ1 ∧ hi μ μ1 := by
  intro m
  induction m with
  | zero =>
    intro f k n μ hX hk hf
    obtain ⟨f, rfl⟩ : ∃ g, f = g + 1 := ⟨f - 1, by omega⟩
    have hc := hX.2.2.1.2.2.2.1
    have h8 := hX.1.1.2.2.2.2.1
    rw [f_X10_looked_b2]
    unfold f_X5_size
    simp only [il, rf_0_1, rf_8_3, bnd_s]
    rw [show μ.1 18 2 = nI (S.2.1 15 3) from hc, if_pos (nI_le (by omega) (by omega))]
    exact ⟨μ, rfl, hX, hi.rf μ⟩
  | succ m ih =>
    intro f k n μ hX hk hf
    obtain ⟨f, rfl⟩ : ∃ g, f = g + 1 := ⟨f - 1, by omega⟩
    have hNV : NV = 1000000000 := rfl
    have hc := hX.2.2.1.2.2.2.1
    have h8 := hX.1.1.2.2.2.2
    have hb := h8.2 k (by omega)
    obtain ⟨μ1, f1, f2, f3, f4⟩ := hX.fr
    have hr := f2.2.2.1.2.2.2
    have hr2 := hr.2 k (by omega)
    have r1 : μ1.1 18 2 = nI (S.2.1 15 3) := hr.1
    have bel : ∀ μ, f_X10_below (nI k) (nI (S.2.1 15 3)) μ = some (nI 1, μ) := fun μ => by
      unfold f_X10_below; simp only [il]; rw [if_neg (nI_lt0 (by omega)), if_neg (nI_ge (by omega) (by omega))]
    have e1 : f_X5_first 18 (nI k) μ1 = some (nI (S.2.1 13 k), μ1) := by
      unfold f_X5_first
      simp only [il]
      rw [r1, bnd_e (bel _), nI_b1]
      simp (disch := omega) only [rf_18_0, al_19, gA_n, nI_clamp]
      rw [show μ1.1 19 k = nI (S.2.1 13 k) from hr2.1]
    have e2 : f_X5_second 18 (nI k) μ1 = some (nI (S.2.1 14 k), μ1) := by
      unfold f_X5_second
      simp only [il]
      rw [r1, bnd_e (bel _), nI_b1]
      simp (disch := omega) only [rf_18_1, al_20, gA_n, nI_clamp]
      rw [show μ1.1 20 k = nI (S.2.1 14 k) from hr2.2]
    have hq := s_lq_le f4.1 hb.1
    rw [f_X10_looked_b2]
    unfold f_X5_size
    simp only [il, rf_0_1, rf_8_3, bnd_s]
    rw [show μ.1 18 2 = nI (S.2.1 15 3) from hc, if_neg (nI_ge (by omega) (by omega)), bnd_e f1, gK0, bnd_e e1, bnd_e (x_lsq (e := 0) (by decide) f4.1 f4 hb.1), bnd_e e2]
    rw [s_lk]
    by_cases c : s_lq (s_L S.1) (S.2.1 13 k) = S.2.1 14 k
    · rw [if_pos c, if_pos (congrArg nI c), lt_d, nI_add]
      obtain ⟨μ2, g1, g2, g3⟩ := ih f (k + 1) n μ1 f2 (by omega) (by omega)
      exact ⟨μ2, g1, g2, f3.tr g3⟩
    · rw [if_neg c, if_neg (nI_ne (by omega) (by omega) c)]
      exact ⟨μ1, rfl, f2, f3⟩
theorem m_lk {S : ST} {μ : Mem} (hM : MI S μ) (hL : IsL S.1 (s_L S.1)) (hR : MLr μ (s_L S.1)) : ∀ (m f k : Nat), k + m = S.2.1 15 3 → m < f → f_X11_looked_b6 85 f (nI k) μ = some (s_lk S.2.1 (s_L S.1) m k, μ) := by
  have hc := hM.2.2.1.2.2.2
  have h8 := hM.1.1.2.2.2.2
  have hNV : NV = 1000000000 := rfl
  intro m
  induction m with
  | zero =>
    intro f k hk hf
    obtain ⟨f, rfl⟩ : ∃ g, f = g + 1 := ⟨f - 1, by omega⟩
    have := h8.1
    rw [f_X11_looked_b6, hc.1, if_pos (nI_le (by omega) (by omega))]
    rfl
  | succ m ih =>
    intro f k hk hf
    obtain ⟨f, rfl⟩ : ∃ g, f = g + 1 := ⟨f - 1, by omega⟩
    have := h8.1
    have hb := h8.2 k (by omega)
    have hr := hc.2 k (by omega)
    have hq := s_lq_le hL hb.1
    rw [f_X11_looked_b6, hc.1, if_neg (nI_ge (by omega) (by omega))]
    simp (disch := omega) only [il, rf_85_0, rf_85_1, rf_85_2, rf_85_3, rf_85_4, rf_85_5, rf_85_6, rf_85_11, rf_85_13, rf_85_14, rf_85_16, rf_85_17, rf_85_19, rf_85_20, rf_85_21, rf_85_22, rf_85_24, rf_85_27, rf_85_33, rf_85_34, rf_85_36, rf_85_37, rf_85_38, rf_85_39, al_86, al_87, al_88, al_89, al_90, al_91, al_92, al_93, al_94, al_95, al_96, al_97, al_98, al_99, al_100, al_101, al_102, al_103, al_104, al_105, al_106, al_107, al_108, al_109, gA_n, nI_clamp, hr.1]
    rw [bnd_e (m_lsq hL hR hb.1), hr.2, s_lk]
    by_cases c : s_lq (s_L S.1) (S.2.1 13 k) = S.2.1 14 k
    · rw [if_pos c, enc_n (by omega), if_pos (congrArg nI c), lt_d, nI_add]
      exact ih f (k + 1) (by omega) (by omega)
    · rw [if_neg c]
      by_cases c2 : s_lq (s_L S.1) (S.2.1 13 k) = NV
      · rw [c2, enc_nv, if_neg (fun z => nI_m1 (by omega) z.symm)]
      · rw [enc_n (by omega), if_neg (nI_ne (by omega) (by omega) c)]
theorem call_looked : CALL (f_X10_looked 0) (f_X11_looked 85) := by
  intro n S μ hn hX hM
  have hFU : FU = 1000000000000 := rfl
  have h8 := hX.1.1.2.2.2.2.1
  obtain ⟨μ1, f1, f2, f3⟩ := x_lk (S.2.1 15 3) FU 0 n μ hX (by omega) (by omega)
  obtain ⟨μ2, s1, s2, s3, s4⟩ := (hM.hi f3).seek
  refine call_0 f2 hM (r := s_lk S.2.1 (s_L S.1) (S.2.1 15 3) 0) f1 f3 ?_ s2
  unfold f_X11_looked
  rw [bnv_e s1]
  exact m_lk s3 (s_L_is hX.1.1.1) s4 (S.2.1 15 3) FU 0 (by omega) (by omega)
