/-! told -/
theorem srt_s (k : Nat) : srt (k + 1) = nI k := if_neg (by omega)
theorem srt_m : ∀ k, k < 37 → nI k + -nI 1 = srt k := by decide +kernel
theorem srt_0 : srt 0 < nI 0 := by decide
section FA
variable {V : SV} {v : Nat → Nat} {μ : Mem}
def s_far (v : Nat → Nat) : Nat → Nat → Nat
  | 0, f => f
  | k + 1, f => s_far v k (if s_lq v k = NV then f else if s_lq v k < s_lq v f then f else k)
theorem s_far_lt : ∀ (k f : Nat), k ≤ 36 → f < 36 → s_lq v f < NV → (∀ q, q < 36 → s_lq v q ≤ NV) → s_far v k f < 36 ∧ s_lq v (s_far v k f) < NV := by
  intro k
  induction k with
  | zero => intro f _ hf hl _; exact ⟨hf, hl⟩
  | succ k ih =>
    intro f hk hf hl hb
    rw [s_far]
    have := hb k (by omega)
    split
    · exact ih f (by omega) hf hl hb
    · split
      · exact ih f (by omega) hf hl hb
      · exact ih k (by omega) (by omega) (by omega) hb
theorem x_far {e : Nat} (he : e < 2) (hL : IsL V v) (hC : CO e μ V v) : ∀ (n k f : Nat), k ≤ 36 → k < n → f < 36 → f_X1_farthestSquare_b11 (21 + 17 * e) n (nI f) (srt k) μ = some (nI (s_far v k f), μ) := by
  intro n
  induction n with
  | zero => intro k f hk hn; omega
  | succ n ih =>
    intro k f hk hn hf
    have hNV : NV = 1000000000 := rfl
    cases k with
    | zero => rw [f_X1_farthestSquare_b11]; simp only [il]; rw [if_pos srt_0]; rfl
    | succ k =>
      have hb := s_lq_le hL (q := k) (by omega)
      have hb2 := s_lq_le hL hf
      rw [f_X1_farthestSquare_b11, srt_s]
      simp only [il]
      rw [if_neg (nI_lt0 (by omega)), bnd_e (x_lsq he hL hC (by omega)), s_far]
      by_cases c : s_lq v k = NV
      · rw [if_pos c, if_pos (show nI (s_lq v k) = nI 1000000000 from congrArg nI c), lt_d, srt_m k (by omega)]
        exact ih k f (by omega) (by omega) hf
      · rw [if_neg c, if_neg (nI_ne (by omega) (by omega) (show s_lq v k ≠ 1000000000 from c)), bnd_e (x_lsq he hL hC (by omega)), bnd_e (x_lsq he hL hC hf)]
        simp (disch := omega) only [nI_ltI, lt_d, srt_m]
        by_cases c2 : s_lq v k < s_lq v f
        · rw [if_pos c2, if_pos c2]; exact ih k f (by omega) (by omega) hf
        · rw [if_neg c2, if_neg c2]; exact ih k k (by omega) (by omega) (by omega)
theorem m_far (hL : IsL V v) (hR : MLr μ v) : ∀ (n k f : Nat), k ≤ 36 → k < n → f < 36 → s_lq v f < NV → f_X11_farthest_b8 85 n (nI f) (srt k) μ = some (nI (s_far v k f), μ) := by
  intro n
  induction n with
  | zero => intro k f hk hn; omega
  | succ n ih =>
    intro k f hk hn hf hfl
    have hNV : NV = 1000000000 := rfl
    cases k with
    | zero => rw [f_X11_farthest_b8]; simp only [il]; rw [if_pos srt_0]; rfl
    | succ k =>
      have hb := s_lq_le hL (q := k) (by omega)
      rw [f_X11_farthest_b8, srt_s]
      simp only [il]
      rw [if_neg (nI_lt0 (by omega)), bnd_e (m_lsq hL hR (by omega)), bnd_e (m_lsq hL hR hf), s_far, enc_n hfl]
      by_cases c : s_lq v k = NV
      · rw [if_pos c, c, enc_nv, if_pos (show -nI 1 < nI (s_lq v f) from by
          have h1 : nI 0 ≤ nI (s_lq v f) := nI_le (Nat.zero_le _) (by omega)
          rw [Int32.le_iff_toInt_le] at h1
          rw [Int32.lt_iff_toInt_lt]
          rw [show (nI 0).toInt = 0 by decide] at h1
          rw [show (-nI 1).toInt = -1 by decide]
          omega), lt_d, srt_m k (by omega)]
        exact ih k f (by omega) (by omega) hf hfl
      · rw [if_neg c, enc_n (by omega)]
        simp (disch := omega) only [nI_ltI, lt_d, srt_m]
        by_cases c2 : s_lq v k < s_lq v f
        · rw [if_pos c2, if_pos c2]; exact ih k f (by omega) (by omega) hf hfl
        · rw [if_neg c2, if_neg c2]; exact ih k k (by omega) (by omega) (by omega) (by omega)
theorem s_lq_start (hV : SVok V) (hL : IsL V v) : s_lq v (V 7 0) < NV := by
  have hNV : NV = 1000000000 := rfl
  have h1 := hL.1
  have h2 := hV.2.2.2.2.2.2.1
  have h3 := hV.2.2.2.2.2.2.2.1
  have e : s_lq v (V 7 0) = min (v (2 * V 7 0)) (v (2 * V 7 0 + 1)) := rfl
  rcases (show V 7 1 = 0 ∨ V 7 1 = 1 by omega) with c | c
  · rw [c] at h1; rw [Nat.add_zero] at h1; omega
  · rw [c] at h1; omega
end FA
theorem call_told (a1 : Int32) : CALL (f_X10_told 0 a1) (f_X11_told 85 a1) := by
  intro n S μ hn hX hM
  have hNV : NV = 1000000000 := rfl
  have hFU : FU = 1000000000000 := rfl
  obtain ⟨hV, hS⟩ := hX.sea
  obtain ⟨μ2, s1, s2, s3, s4⟩ := hM.seek
  have hMs := s3.2.1
  obtain ⟨μ3, f1, f2, f3, f4⟩ := hX.fr
  obtain ⟨μ4, t1, t2, t3, t4⟩ := (hM.hi f3).seek
  have h70 := hV.2.2.2.2.2.1
  have hst := s_lq_start hV f4.1
  have hfar := s_far_lt (v := s_L S.1) 36 (S.1 7 0) (by decide) h70 hst (fun q hq => by have := s_lq_le f4.1 hq; omega)
  have xfar : ∀ μ5, CO 0 μ5 S.1 (s_L S.1) → f_X1_farthestSquare 21 μ5 = some (nI (s_far (s_L S.1) 36 (S.1 7 0)), μ5) := fun μ5 hC => by
    unfold f_X1_farthestSquare
    rw [rf_21_0, lt_d, show μ5.1 1 7 = nI (S.1 7 0) from hC.2.1.2.2.2.2.2.2.2.1]
    exact x_far (e := 0) (by decide) hC.1 hC FU 36 (S.1 7 0) (by decide) (by omega) h70
  have mfar : f_X11_farthest 85 μ4 = some (nI (s_far (s_L S.1) 36 (S.1 7 0)), μ4) := by
    unfold f_X11_farthest
    rw [lt_d, show μ4.1 85 7 = nI (S.1 7 0) from t3.2.1.2.2.2.2.2.2.2.1]
    exact m_far f4.1 t4 FU 36 (S.1 7 0) (by decide) (by omega) h70 hst
  by_cases c0 : a1 = nI 0
  · refine call_0 (r := nI (S.1 5 0)) hX hM ?_ (hi.rf μ) ?_ s2
    · unfold f_X10_told; simp only [il, rf_0_0]; rw [if_pos c0, c0, bnd_e (x_loss (Or.inl rfl) hS (by decide))]
    · unfold f_X11_told; simp only [il]; rw [bnv_e s1, if_pos c0, c0]
      simp (disch := omega) only [rf_85_0, rf_85_1, rf_85_2, rf_85_3, rf_85_4, rf_85_5, rf_85_6, rf_85_11, rf_85_13, rf_85_14, rf_85_16, rf_85_17, rf_85_19, rf_85_20, rf_85_21, rf_85_22, rf_85_24, rf_85_27, rf_85_33, rf_85_34, rf_85_36, rf_85_37, rf_85_38, rf_85_39, al_86, al_87, al_88, al_89, al_90, al_91, al_92, al_93, al_94, al_95, al_96, al_97, al_98, al_99, al_100, al_101, al_102, al_103, al_104, al_105, al_106, al_107, al_108, al_109, gA_n, nI_clamp, hMs.2.2.2.2.2.1.1]
  by_cases c1 : a1 = nI 1
  · refine call_0 (r := nI (S.1 5 1)) hX hM ?_ (hi.rf μ) ?_ s2
    · unfold f_X10_told; simp only [il, rf_0_0]; rw [if_neg c0, if_pos c1, c1, bnd_e (x_loss (Or.inl rfl) hS (by decide))]
    · unfold f_X11_told; simp only [il]; rw [bnv_e s1, if_neg c0, if_pos c1, c1]
      simp (disch := omega) only [rf_85_0, rf_85_1, rf_85_2, rf_85_3, rf_85_4, rf_85_5, rf_85_6, rf_85_11, rf_85_13, rf_85_14, rf_85_16, rf_85_17, rf_85_19, rf_85_20, rf_85_21, rf_85_22, rf_85_24, rf_85_27, rf_85_33, rf_85_34, rf_85_36, rf_85_37, rf_85_38, rf_85_39, al_86, al_87, al_88, al_89, al_90, al_91, al_92, al_93, al_94, al_95, al_96, al_97, al_98, al_99, al_100, al_101, al_102, al_103, al_104, al_105, al_106, al_107, al_108, al_109, gA_n, nI_clamp, hMs.2.2.2.2.2.1.2]
  by_cases c2 : a1 = nI 2
  · refine call_0 (r := nI (S.1 7 0)) hX hM ?_ (hi.rf μ) ?_ s2
    · unfold f_X10_told; simp only [il, rf_0_0]; rw [if_neg c0, if_neg c1, if_pos c2, hS.2.2.2.2.2.2.2.1]
    · unfold f_X11_told; simp only [il]; rw [bnv_e s1, if_neg c0, if_neg c1, if_pos c2, hMs.2.2.2.2.2.2.2.1]
  by_cases c3 : a1 = nI 3
  · refine call_0 (r := nI (S.1 7 1)) hX hM ?_ (hi.rf μ) ?_ s2
    · unfold f_X10_told; simp only [il, rf_0_0]; rw [if_neg c0, if_neg c1, if_neg c2, if_pos c3, hS.2.2.2.2.2.2.2.2.1]
    · unfold f_X11_told; simp only [il]; rw [bnv_e s1, if_neg c0, if_neg c1, if_neg c2, if_pos c3, hMs.2.2.2.2.2.2.2.2.1]
  by_cases c4 : a1 = nI 4
  · refine call_0 (r := nI (S.1 7 2)) hX hM ?_ (hi.rf μ) ?_ s2
    · unfold f_X10_told; simp only [il, rf_0_0]; rw [if_neg c0, if_neg c1, if_neg c2, if_neg c3, if_pos c4, hS.2.2.2.2.2.2.2.2.2]
    · unfold f_X11_told; simp only [il]; rw [bnv_e s1, if_neg c0, if_neg c1, if_neg c2, if_neg c3, if_pos c4, hMs.2.2.2.2.2.2.2.2.2]
  by_cases c5 : a1 = nI 5
  · refine call_0 (r := nI (s_lan S.1)) hX hM ?_ (hi.rf μ) ?_ s2
    · unfold f_X10_told; simp only [il, rf_0_0]; rw [if_neg c0, if_neg c1, if_neg c2, if_neg c3, if_neg c4, if_pos c5, bnd_e (x_lan hS)]
    · unfold f_X11_told; simp only [il]; rw [bnv_e s1, if_neg c0, if_neg c1, if_neg c2, if_neg c3, if_neg c4, if_pos c5, bnd_e (m_lan hV hMs)]
  by_cases c6 : a1 = nI 6
  · refine call_0 (r := nI (s_rch (s_L S.1) 36)) f2 hM ?_ f3 ?_ t2
    · unfold f_X10_told; simp only [il, rf_0_0]; rw [if_neg c0, if_neg c1, if_neg c2, if_neg c3, if_neg c4, if_neg c5, if_pos c6, bnd_e f1, gK0]
      unfold f_X1_squaresReached
      rw [bnd_e (show f_X1_squaresReached_b4 21 FU 0 0 μ3 = _ from x_rch (e := 0) (by decide) f4.1 f4 FU 0 (by decide) (by omega))]
    · unfold f_X11_told; simp only [il]; rw [bnv_e t1, if_neg c0, if_neg c1, if_neg c2, if_neg c3, if_neg c4, if_neg c5, if_pos c6]
      unfold f_X11_reached
      rw [bnd_e (show f_X11_reached_b4 85 FU 0 0 μ4 = _ from m_rch f4.1 t4 FU 0 (by decide) (by omega))]
  by_cases c7 : a1 = nI 7
  · obtain ⟨μ5, g1, g2, g3, g4⟩ := f2.fr
    obtain ⟨μ6, u1, u2, u3, u4⟩ := ((hM.hi f3).hi g3).seek
    have mfar2 : f_X11_farthest 85 μ6 = some (nI (s_far (s_L S.1) 36 (S.1 7 0)), μ6) := by
      unfold f_X11_farthest
      rw [lt_d, show μ6.1 85 7 = nI (S.1 7 0) from u3.2.1.2.2.2.2.2.2.2.1]
      exact m_far f4.1 u4 FU 36 (S.1 7 0) (by decide) (by omega) h70 hst
    refine call_0 (r := nI (s_lq (s_L S.1) (s_far (s_L S.1) 36 (S.1 7 0)))) g2 hM ?_ (f3.tr g3) ?_ u2
    · unfold f_X10_told; simp only [il, rf_0_0]; rw [if_neg c0, if_neg c1, if_neg c2, if_neg c3, if_neg c4, if_neg c5, if_neg c6, if_pos c7, bnd_e f1, gK0, bnd_e g1, gK0, bnd_e (xfar _ g4), bnd_e (x_lsq (e := 0) (by decide) g4.1 g4 hfar.1)]
    · unfold f_X11_told; simp only [il]; rw [bnv_e u1, if_neg c0, if_neg c1, if_neg c2, if_neg c3, if_neg c4, if_neg c5, if_neg c6, if_pos c7, bnd_e mfar2, bnd_e (m_lsq f4.1 u4 hfar.1), enc_n hfar.2]
  by_cases c8 : a1 = nI 8
  · refine call_0 (r := nI (s_far (s_L S.1) 36 (S.1 7 0))) f2 hM ?_ f3 ?_ t2
    · unfold f_X10_told; simp only [il, rf_0_0]; rw [if_neg c0, if_neg c1, if_neg c2, if_neg c3, if_neg c4, if_neg c5, if_neg c6, if_neg c7, if_pos c8, bnd_e f1, gK0, bnd_e (xfar _ f4)]
    · unfold f_X11_told; simp only [il]; rw [bnv_e t1, if_neg c0, if_neg c1, if_neg c2, if_neg c3, if_neg c4, if_neg c5, if_neg c6, if_neg c7, if_pos c8, bnd_e mfar]
  · refine call_0 (r := -nI 1) hX hM ?_ (hi.rf μ) ?_ s2
    · unfold f_X10_told; simp only [il, rf_0_0]; rw [if_neg c0, if_neg c1, if_neg c2, if_neg c3, if_neg c4, if_neg c5, if_neg c6, if_neg c7, if_neg c8]
    · unfold f_X11_told; simp only [il]; rw [bnv_e s1, if_neg c0, if_neg c1, if_neg c2, if_neg c3, if_neg c4, if_neg c5, if_neg c6, if_neg c7, if_neg c8]
