/-! judge -/
theorem lgc0 {x y : Int64} : (lg_cmp x y = nI 0) ↔ x = y := lgc
def s_jd (T : Nat → Int64) (L i : Nat) (v : Nat → Nat) : Nat → Nat → Int32
  | 0, _ => -nI 5
  | m + 1, k => if i + k < L then (if T (i + k) = (enc (s_lq v k)).toInt64 then s_jd T L i v m (k + 1) else nI k) else nI (100 + k)
theorem lg_lt {i k L : Nat} (h_i : i < 2 ^ 31) (hk : k < 36) (hL : L ≤ 60) : (lg_cmp ((nI i).toInt64 + (nI k).toInt64) (nI L).toInt64 < nI 0) ↔ i + k < L := by
  rw [nI_l h_i, nI_l (by omega), nI_l (by omega), lN_add, lgN (by omega) (by omega)]
  by_cases c : L < i + k
  · rw [if_pos c]; exact ⟨fun z => absurd z (by decide), fun z => by omega⟩
  · rw [if_neg c]
    by_cases d : i + k = L
    · rw [if_pos d]; exact ⟨fun z => absurd z (by decide), fun z => by omega⟩
    · rw [if_neg d]; exact ⟨fun _ => by omega, fun _ => by decide⟩
theorem x_jd {S : ST} {x i : Nat} (hx : x < 6) (h_i : i < 2 ^ 31) : ∀ (m f k n : Nat) (μ : Mem), XI n S μ → k + m = 36 → m < f → ∃ μ1, f_X10_judge_b36 0 (nI x) (nI i) f (53 + 2 * x) (nI k) μ = some (s_jd (S.2.2.2.2.2 x) (S.2.2.2.2.1 4 x) i (s_L S.1) m k, μ1) ∧ XI n S μ1 ∧ hi μ μ1 := by
  intro m
  induction m with
  | zero =>
    intro f k n μ hX hk hf
    obtain ⟨f, rfl⟩ : ∃ g, f = g + 1 := ⟨f - 1, by omega⟩
    rw [f_X10_judge_b36]
    simp only [il]
    rw [if_pos (nI_le (by omega) (by omega))]
    exact ⟨μ, rfl, hX, hi.rf μ⟩
  | succ m ih =>
    intro f k n μ hX hk hf
    obtain ⟨f, rfl⟩ : ∃ g, f = g + 1 := ⟨f - 1, by omega⟩
    have hNV : NV = 1000000000 := rfl
    obtain ⟨t1, t2, t3, t4⟩ := tp hx
    obtain ⟨p1, p2, p3⟩ := hX.2.2.2.2.2 x hx
    obtain ⟨k1, k2, k3⟩ := hX.1.2.2.2.2 x hx
    rw [f_X10_judge_b36, s_jd]
    unfold f_X9_length
    simp only [il, lt_d]
    rw [if_neg (nI_ge (by omega) (by omega)), if_neg (nI_lt0 h_i), bnd_s, p2]
    by_cases c : i + k < S.2.2.2.2.1 4 x
    · rw [if_pos c, if_pos ((lg_lt h_i (by omega) k2).mpr c)]
      obtain ⟨μ1, f1, f2, f3, f4⟩ := hX.fr
      have hq := s_lq_le f4.1 (show k < 36 by omega)
      obtain ⟨q1, q2, q3⟩ := f2.2.2.2.2.2 x hx
      have eG : f_X9_get (53 + 2 * x) ((nI i).toInt64 + (nI k).toInt64).toInt32 μ1 = some (S.2.2.2.2.2 x (i + k), μ1) := by
        rw [nI_l h_i, nI_l (by omega), lN_add, lN_i]
        unfold f_X9_get f_X10_below
        simp only [il]
        rw [q2, if_neg (nI_lt0 (by omega)), if_neg (nI_ge c (by omega)), bnd_s, nI_b1, t2, t3, gA_n (by omega) (by omega), nI_clamp (by omega), q3 _ (by omega)]
      rw [bnd_e f1, gK0, bnd_e (x_lsq (e := 0) (by decide) f4.1 f4 (by omega)), bnd_e eG]
      unfold f_X10_judge_b103
      simp only [il, lt_d, nI_add]
      have e : (if nI (s_lq (s_L S.1) k) = nI 1000000000 then (if lg_cmp (S.2.2.2.2.2 x (i + k)) (-nI 1).toInt64 = nI 0 then f_X10_judge_b36 0 (nI x) (nI i) f (53 + 2 * x) (nI (k + 1)) μ1 else some (nI k, μ1)) else (if lg_cmp (S.2.2.2.2.2 x (i + k)) (nI (s_lq (s_L S.1) k)).toInt64 = nI 0 then f_X10_judge_b36 0 (nI x) (nI i) f (53 + 2 * x) (nI (k + 1)) μ1 else some (nI k, μ1))) = (if S.2.2.2.2.2 x (i + k) = (enc (s_lq (s_L S.1) k)).toInt64 then f_X10_judge_b36 0 (nI x) (nI i) f (53 + 2 * x) (nI (k + 1)) μ1 else some (nI k, μ1)) := by
        by_cases d : s_lq (s_L S.1) k = NV
        · rw [if_pos (show nI (s_lq (s_L S.1) k) = nI 1000000000 from congrArg nI d), d, enc_nv]
          by_cases g : S.2.2.2.2.2 x (i + k) = (-nI 1).toInt64
          · rw [if_pos g, if_pos (lgc0.mpr g)]
          · rw [if_neg g, if_neg (fun z => g (lgc0.mp z))]
        · rw [if_neg (nI_ne (by omega) (by omega) (show s_lq (s_L S.1) k ≠ 1000000000 from d)), enc_n (by omega)]
          by_cases g : S.2.2.2.2.2 x (i + k) = (nI (s_lq (s_L S.1) k)).toInt64
          · rw [if_pos g, if_pos (lgc0.mpr g)]
          · rw [if_neg g, if_neg (fun z => g (lgc0.mp z))]
      rw [e]
      by_cases g : S.2.2.2.2.2 x (i + k) = (enc (s_lq (s_L S.1) k)).toInt64
      · rw [if_pos g, if_pos g]
        obtain ⟨μ2, g1, g2, g3⟩ := ih f (k + 1) n μ1 f2 (by omega) (by omega)
        exact ⟨μ2, g1, g2, f3.tr g3⟩
      · rw [if_neg g, if_neg g]
        exact ⟨μ1, rfl, f2, f3⟩
    · rw [if_neg c, if_neg (fun z => c ((lg_lt h_i (by omega) k2).mp z)), nI_add]
      exact ⟨μ, rfl, hX, hi.rf μ⟩
theorem m_jd {S : ST} {μ : Mem} {x i : Nat} (hM : MI S μ) (hL : IsL S.1 (s_L S.1)) (hR : MLr μ (s_L S.1)) (hx : x < 6) (h_i : i < 2 ^ 31) (hs : S.2.2.2.2.1 3 x ≠ 0) : ∀ (m f k : Nat), k + m = 36 → m < f → f_X11_judge_b37 85 (nI x) (nI i) f (nI k) μ = some (s_jd (S.2.2.2.2.2 x) (S.2.2.2.2.1 4 x) i (s_L S.1) m k, μ) := by
  obtain ⟨r1, r2, r3⟩ := hM.2.2.2.2.2 x hx
  obtain ⟨k1, k2, k3⟩ := hM.1.2.2.2.2 x hx
  obtain ⟨g1, g2, g3, g4⟩ := srt_h k1
  intro m
  induction m with
  | zero =>
    intro f k hk hf
    obtain ⟨f, rfl⟩ : ∃ g, f = g + 1 := ⟨f - 1, by omega⟩
    rw [f_X11_judge_b37]
    simp only [il]
    rw [if_pos (nI_le (by omega) (by omega))]
    rfl
  | succ m ih =>
    intro f k hk hf
    obtain ⟨f, rfl⟩ : ∃ g, f = g + 1 := ⟨f - 1, by omega⟩
    rw [f_X11_judge_b37, s_jd]
    simp only [il]
    rw [if_neg (nI_ge (by omega) (by omega)), rf_85_36, rf_85_37, rf_85_38, al_106, al_107, al_108, gA_n (by omega) (by omega), nI_clamp (by omega), r1, if_neg (fun z => hs (g2.mp z)), if_neg (nI_lt0 h_i), gA_n (by omega) (by omega), r2]
    by_cases c : i + k < S.2.2.2.2.1 4 x
    · rw [if_pos c, if_pos ((lg_lt h_i (by omega) k2).mpr c)]
      rw [pk_mul, nI_add, nI_add, gA_n (by omega) (by omega), bnd_e (m_lsq hL hR (by omega)), nI_clamp (by omega), show 60 * x + i + k = 60 * x + (i + k) by omega, r3 _ (by omega), lt_d, nI_add]
      by_cases g : S.2.2.2.2.2 x (i + k) = (enc (s_lq (s_L S.1) k)).toInt64
      · rw [if_pos g, if_pos (lgc0.mpr g)]
        exact ih f (k + 1) (by omega) (by omega)
      · rw [if_neg g, if_neg (fun z => g (lgc0.mp z))]
    · rw [if_neg c, if_neg (fun z => c ((lg_lt h_i (by omega) k2).mp z)), nI_add]
theorem call_judge (a1 a2 : Int32) : CALL (f_X10_judge 0 a1 a2) (f_X11_judge 85 a1 a2) := by
  intro n S μ hn hX hM
  have hFU : FU = 1000000000000 := rfl
  obtain ⟨b1, x1, m1, h1⟩ := arg_ta a1
  rcases h1 with rfl | ⟨rfl, x, hx, rfl⟩
  · exact call_q hX hM (r := -nI 1) (by unfold f_X10_judge; simp only [il]; rw [bnd_e (x_at x1 rfl), cs_0]) (by unfold f_X11_judge; simp only [il]; rw [bnd_e (m1 _), nI_b0])
  obtain ⟨t1, t2, t3, t4⟩ := tp hx
  obtain ⟨p1, p2, p3⟩ := hX.2.2.2.2.2 x hx
  obtain ⟨k1, k2, k3⟩ := hX.1.2.2.2.2 x hx
  obtain ⟨g1, g2, g3, g4⟩ := srt_h k1
  have eX : f_X10_judge 0 (nI x) a2 μ = (if srt (S.2.2.2.2.1 3 x) = -nI 1 then some (nI 100, μ) else if srt (S.2.2.2.2.1 3 x) = nI 2 then f_X10_judge_b36 0 (nI x) a2 FU (53 + 2 * x) (nI 0) μ else some (-nI 12, μ)) := by
    unfold f_X10_judge
    simp only [il]
    rw [bnd_e (x_at1 hx x1), cs_1 t4]
    unfold f_X9_holdsNothing f_X9_sort
    simp only [il]
    rw [p1]
    by_cases c : srt (S.2.2.2.2.1 3 x) = -nI 1
    · rw [if_pos c, if_pos c, bnd_s, if_neg (by decide)]
    · rw [if_neg c, if_neg c, bnd_s, if_pos rfl, bnd_s, p1]
  have eM : ∀ μ, MI S μ → f_X11_judge 85 (nI x) a2 μ = (if srt (S.2.2.2.2.1 3 x) < nI 0 then f_X11_judge_b31 85 (nI x) a2 μ else if srt (S.2.2.2.2.1 3 x) = nI 2 then f_X11_judge_b31 85 (nI x) a2 μ else some (-nI 12, μ)) := by
    intro μ hM
    obtain ⟨r1, r2, r3⟩ := hM.2.2.2.2.2 x hx
    unfold f_X11_judge
    simp only [il]
    rw [bnd_e (m1 _), nI_b1, rf_85_36, al_106, gA_n (by omega) (by omega), gA_n (by omega) (by omega), nI_clamp (by omega), r1]
  have low : ∀ f μ, MI S μ → (S.2.2.2.2.1 3 x = 0 ∨ a2 < nI 0) → f_X11_judge_b37 85 (nI x) a2 (f + 1) (nI 0) μ = some (nI 100, μ) := by
    intro f μ hM h
    obtain ⟨r1, r2, r3⟩ := hM.2.2.2.2.2 x hx
    rw [f_X11_judge_b37]
    simp only [il]
    rw [if_neg (by decide), rf_85_36, al_106, gA_n (by omega) (by omega), nI_clamp (by omega), r1, nI_add]
    by_cases c : S.2.2.2.2.1 3 x = 0
    · rw [if_pos (g2.mpr c)]
    · rw [if_neg (fun z => c (g2.mp z)), if_pos (by rcases h with z | z; exact absurd z c; exact z)]
  by_cases c : S.2.2.2.2.1 3 x = 0
  · obtain ⟨μ2, s1, s2, s3, s4⟩ := hM.seek
    refine call_0 (r := nI 100) hX hM ?_ (show hi μ μ from fun _ _ => ⟨rfl, rfl⟩) ?_ s2
    · rw [eX, if_pos (g1.mpr c)]
    · rw [eM μ hM, if_pos (g2.mpr c)]
      unfold f_X11_judge_b31
      rw [bnv_e s1]
      exact low (FU - 1) μ2 s3 (Or.inl c)
  rw [if_neg (fun z => c (g1.mp z))] at eX
  by_cases d : srt (S.2.2.2.2.1 3 x) = nI 2
  case neg =>
    refine call_q hX hM (r := -nI 12) ?_ ?_
    · rw [eX, if_neg d]
    · rw [eM μ hM, if_neg (fun z => c (g2.mp z)), if_neg d]
  rw [if_pos d] at eX
  have eM2 : ∀ μ, MI S μ → f_X11_judge 85 (nI x) a2 μ = f_X11_judge_b31 85 (nI x) a2 μ := fun μ hM => by rw [eM μ hM, if_neg (fun z => c (g2.mp z)), if_pos d]
  by_cases h_i : a2 < nI 0
  · obtain ⟨μ2, s1, s2, s3, s4⟩ := hM.seek
    refine call_0 (r := nI 100) hX hM ?_ (show hi μ μ from fun _ _ => ⟨rfl, rfl⟩) ?_ s2
    · rw [eX]
      show f_X10_judge_b36 0 (nI x) a2 (FU - 1 + 1) (53 + 2 * x) (nI 0) μ = _
      rw [f_X10_judge_b36]
      simp only [il, lt_d]
      rw [if_neg (by decide), if_pos h_i, nI_add]
    · rw [eM2 μ hM]
      unfold f_X11_judge_b31
      rw [bnv_e s1]
      exact low (FU - 1) μ2 s3 (Or.inr h_i)
  obtain ⟨i, hi2, rfl⟩ := argn h_i
  obtain ⟨μ1, f1, f2, f3⟩ := x_jd hx hi2 36 FU 0 n μ hX rfl (by omega)
  obtain ⟨μ2, s1, s2, s3, s4⟩ := (hM.hi f3).seek
  refine call_0 (r := s_jd (S.2.2.2.2.2 x) (S.2.2.2.2.1 4 x) i (s_L S.1) 36 0) f2 hM ?_ f3 ?_ s2
  · rw [eX]; exact f1
  · rw [eM2 μ1 (hM.hi f3)]
    unfold f_X11_judge_b31
    rw [bnv_e s1]
    exact m_jd s3 (s_L_is hX.1.1.1) s4 hx hi2 c 36 FU 0 rfl (by omega)
