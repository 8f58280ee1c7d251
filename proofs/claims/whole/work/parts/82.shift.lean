/-! shift, judge -/
theorem nI_b1' {β : Type} {x y : β} : (if nI 1 = 0 then x else y) = y := if_neg (by decide)
theorem lN_i64 {a : Nat} (h : a < 2 ^ 63) : (lN a).toInt = (a : Int) := Int64.toInt_ofNat_of_lt h
theorem lgN {a b : Nat} (ha : a < 2 ^ 63) (hb : b < 2 ^ 63) : lg_cmp (lN a) (lN b) = if b < a then nI 1 else if a = b then nI 0 else -nI 1 := by
  unfold lg_cmp
  by_cases c : b < a
  · rw [if_pos c, if_pos (show lN a > lN b from by
      show lN b < lN a
      rw [Int64.lt_iff_toInt_lt, lN_i64 ha, lN_i64 hb]; omega)]
    rfl
  · rw [if_neg c, if_neg (show ¬ lN a > lN b from fun z => by
      have z2 : lN b < lN a := z
      rw [Int64.lt_iff_toInt_lt, lN_i64 ha, lN_i64 hb] at z2; omega)]
    by_cases d : a = b
    · rw [if_pos d, if_pos (congrArg lN d)]; rfl
    · rw [if_neg d, if_neg (fun z => d (by
        have := congrArg Int64.toInt z
        rw [lN_i64 ha, lN_i64 hb] at this
        omega))]
      rfl
/-- n items from a place on are there, or not -/
theorem x_has {x L : Nat} {μ : Mem} (h : μ.1 (53 + 2 * x) 2 = nI L) (hL : L ≤ 60) (a c : Int32) : ((a < nI 0 ∨ c < nI 0 ∨ ∃ i k, i < 2 ^ 31 ∧ k < 2 ^ 31 ∧ a = nI i ∧ c = nI k ∧ L < i + k) ∧ f_X9_has (53 + 2 * x) a c μ = some (nI 0, μ)) ∨ (∃ i k, a = nI i ∧ c = nI k ∧ i + k ≤ L ∧ f_X9_has (53 + 2 * x) a c μ = some (nI 1, μ)) := by
  unfold f_X9_has
  simp only [il]
  rw [h]
  by_cases ha : a < nI 0
  · exact Or.inl ⟨Or.inl ha, if_pos ha⟩
  rw [if_neg ha]
  by_cases hc : c < nI 0
  · exact Or.inl ⟨Or.inr (Or.inl hc), if_pos hc⟩
  rw [if_neg hc]
  obtain ⟨i, hi, rfl⟩ := argn ha
  obtain ⟨k, hk, rfl⟩ := argn hc
  by_cases h1 : L < i
  · exact Or.inl ⟨Or.inr (Or.inr ⟨i, k, hi, hk, rfl, rfl, by omega⟩), if_pos (nI_lt h1 hi)⟩
  rw [if_neg (fun z => h1 ((nI_ltI (by omega) hi).mp z)), pk_sub (by omega)]
  by_cases h2 : L - i < k
  · exact Or.inl ⟨Or.inr (Or.inr ⟨i, k, hi, hk, rfl, rfl, by omega⟩), if_pos (nI_lt h2 hk)⟩
  · exact Or.inr ⟨i, k, rfl, rfl, by omega, if_neg (fun z => h2 ((nI_ltI (by omega) hk).mp z))⟩
theorem m_147 {x y i j K : Nat} (hy : y < 6) (hj : j + K ≤ 60) (a1 a2 : Int32) : ∀ (n k : Nat) (μ : Mem), k ≤ K → K - k < n → f_X11_shift_b147 85 a1 a2 (nI y) (nI j) (nI K) n (nI k) μ = some (nI K, rL μ 108 (fun p => if 60 * y + j + k ≤ p ∧ p < 60 * y + j + K then μ.2 109 (p - (60 * y + j)) else μ.2 108 p)) := by
  intro n
  induction n with
  | zero => intro k μ hk hn; omega
  | succ n ih =>
    intro k μ hk hn
    rw [f_X11_shift_b147]
    simp (disch := omega) only [il, nI_leI]
    by_cases c : K ≤ k
    · rw [if_pos c]
      refine congrArg some (Prod.ext rfl (Prod.ext rfl ?_))
      funext t
      show μ.2 t = if t = 108 then _ else μ.2 t
      by_cases ht : t = 108
      · rw [if_pos ht, ht]; funext z; rw [if_neg (by omega)]
      · rw [if_neg ht]
    · rw [if_neg c]
      simp (disch := omega) only [rf_85_0, rf_85_1, rf_85_2, rf_85_3, rf_85_4, rf_85_5, rf_85_6, rf_85_11, rf_85_13, rf_85_14, rf_85_16, rf_85_17, rf_85_19, rf_85_20, rf_85_21, rf_85_22, rf_85_24, rf_85_27, rf_85_33, rf_85_34, rf_85_36, rf_85_37, rf_85_38, rf_85_39, al_86, al_87, al_88, al_89, al_90, al_91, al_92, al_93, al_94, al_95, al_96, al_97, al_98, al_99, al_100, al_101, al_102, al_103, al_104, al_105, al_106, al_107, al_108, al_109, pk_mul, nI_add, gA_n, nI_clamp, lt_d]
      rw [ih (k + 1) _ (by omega) (by omega)]
      refine congrArg some (Prod.ext rfl (Prod.ext rfl ?_))
      funext t
      rw [rL_2, rL_2]
      by_cases ht : t = 108
      · rw [if_pos ht, if_pos ht]
        funext z
        rw [sL_o (by decide)]
        by_cases hz : z = 60 * y + j + k
        · subst hz
          rw [if_neg (by omega), if_pos (by omega), sL_e, show 60 * y + j + k - (60 * y + j) = k by omega]
        · rw [sL_n hz]
          by_cases h2 : 60 * y + j + k ≤ z ∧ z < 60 * y + j + K
          · rw [if_pos (by omega), if_pos h2]
          · rw [if_neg (by omega), if_neg h2]
      · rw [if_neg ht, if_neg ht, sL_o ht]
theorem m_110 {x y i j K : Nat} (hx : x < 6) (hi : i + K ≤ 60) : ∀ (n k : Nat) (μ : Mem), k ≤ K → K - k < n → f_X11_shift_b110 85 (nI x) (nI i) (nI y) (nI j) (nI K) n (nI k) μ = f_X11_shift_b147 85 (nI x) (nI i) (nI y) (nI j) (nI K) FU (nI 0) (rL μ 109 (fun t => if k ≤ t ∧ t < K then μ.2 108 (60 * x + i + t) else μ.2 109 t)) := by
  intro n
  induction n with
  | zero => intro k μ hk hn; omega
  | succ n ih =>
    intro k μ hk hn
    rw [f_X11_shift_b110]
    simp (disch := omega) only [il, nI_leI]
    by_cases c : K ≤ k
    · rw [if_pos c]
      refine congrArg _ (Prod.ext rfl ?_)
      funext t
      show μ.2 t = if t = 109 then _ else μ.2 t
      by_cases ht : t = 109
      · rw [if_pos ht, ht]; funext z; rw [if_neg (by omega)]
      · rw [if_neg ht]
    · rw [if_neg c]
      simp (disch := omega) only [rf_85_0, rf_85_1, rf_85_2, rf_85_3, rf_85_4, rf_85_5, rf_85_6, rf_85_11, rf_85_13, rf_85_14, rf_85_16, rf_85_17, rf_85_19, rf_85_20, rf_85_21, rf_85_22, rf_85_24, rf_85_27, rf_85_33, rf_85_34, rf_85_36, rf_85_37, rf_85_38, rf_85_39, al_86, al_87, al_88, al_89, al_90, al_91, al_92, al_93, al_94, al_95, al_96, al_97, al_98, al_99, al_100, al_101, al_102, al_103, al_104, al_105, al_106, al_107, al_108, al_109, pk_mul, nI_add, gA_n, nI_clamp, lt_d]
      rw [ih (k + 1) _ (by omega) (by omega)]
      refine congrArg _ (Prod.ext rfl ?_)
      funext t
      rw [rL_2, rL_2]
      by_cases ht : t = 109
      · rw [if_pos ht, if_pos ht]
        funext z
        rw [sL_o (by decide)]
        by_cases hz : z = k
        · subst hz
          rw [if_neg (by omega), if_pos (by omega), sL_e]
        · rw [sL_n hz]
          by_cases h2 : k ≤ z ∧ z < K
          · rw [if_pos (by omega), if_pos h2]
          · rw [if_neg (by omega), if_neg h2]
      · rw [if_neg ht, if_neg ht, sL_o ht]
theorem call_shift (a1 a2 a3 a4 a5 : Int32) : CALL (f_X10_shift 0 a1 a2 a3 a4 a5) (f_X11_shift 85 a1 a2 a3 a4 a5) := by
  intro n S μ hn hX hM
  have hFU : FU = 1000000000000 := rfl
  obtain ⟨b1, x1, m1, h1⟩ := arg_ta a1
  obtain ⟨b3, x3, m3, h3⟩ := arg_ta a3
  rcases h1 with rfl | ⟨rfl, x, hx, rfl⟩
  · refine call_q hX hM (r := -nI 1) ?_ ?_
    · unfold f_X10_shift; simp only [il]; rw [bnd_e (x_at x1 rfl), cs_0]
      rcases h3 with rfl | ⟨rfl, y, hy, rfl⟩
      · rw [bnd_e (x_at x3 rfl), cs_0]
      · rw [bnd_e (x_at1 hy x3), cs_1 (tp hy).2.2.2]
    · unfold f_X11_shift; simp only [il]; rw [bnd_e (m1 _), nI_b0]
  obtain ⟨t1, t2, t3, t4⟩ := tp hx
  rcases h3 with rfl | ⟨rfl, y, hy, rfl⟩
  · refine call_q hX hM (r := -nI 1) ?_ ?_
    · unfold f_X10_shift; simp only [il]; rw [bnd_e (x_at1 hx x1), cs_1 t4, bnd_e (x_at x3 rfl), cs_0]
    · unfold f_X11_shift; simp only [il]; rw [bnd_e (m1 _), nI_b1, bnd_e (m3 _), nI_b0]
  obtain ⟨u1, u2, u3, u4⟩ := tp hy
  obtain ⟨p1, p2, p3⟩ := hX.2.2.2.2.2 x hx
  obtain ⟨o1, o2, o3⟩ := hX.2.2.2.2.2 y hy
  obtain ⟨k1, k2, k3⟩ := hX.1.2.2.2.2 x hx
  obtain ⟨l1, l2, l3⟩ := hX.1.2.2.2.2 y hy
  obtain ⟨g1, g2, g3, g4⟩ := srt_h k1
  obtain ⟨j1, j2, j3, j4⟩ := srt_h l1
  have eX : f_X10_shift 0 (nI x) a2 (nI y) a4 a5 μ = (if srt (S.2.2.2.2.1 3 x) = -nI 1 then some (-nI 11, μ) else if srt (S.2.2.2.2.1 3 y) = -nI 1 then some (-nI 11, μ) else if srt (S.2.2.2.2.1 3 x) = srt (S.2.2.2.2.1 3 y) then bnd (f_X9_has (53 + 2 * x) a2 a5 μ) (fun r16 μ15 => (if r16 = nI 0 then some (-nI 13, μ15) else bnd (f_X9_has (53 + 2 * y) a4 a5 μ15) (fun r18 μ17 => (if r18 = nI 0 then some (-nI 13, μ17) else bnv (f_X9_take (53 + 2 * y) (53 + 2 * x) a2 a4 a5 μ17) (fun μ19 => some (a5, μ19)))))) else some (-nI 12, μ)) := by
    unfold f_X10_shift
    simp only [il]
    rw [bnd_e (x_at1 hx x1), cs_1 t4, bnd_e (x_at1 hy x3), cs_1 u4]
    unfold f_X9_holdsNothing f_X9_sort
    simp only [il]
    rw [p1]
    by_cases c : srt (S.2.2.2.2.1 3 x) = -nI 1
    · rw [if_pos c, if_pos c, bnd_s, if_neg (by decide)]
    · rw [if_neg c, if_neg c, bnd_s, if_pos rfl, o1]
      by_cases d : srt (S.2.2.2.2.1 3 y) = -nI 1
      · rw [if_pos d, if_pos d, bnd_s, if_neg (by decide)]
      · rw [if_neg d, if_neg d, bnd_s, if_pos rfl, bnd_s, bnd_s, p1, o1]
  have eM : ∀ μ, MI S μ → f_X11_shift 85 (nI x) a2 (nI y) a4 a5 μ = (if srt (S.2.2.2.2.1 3 x) < nI 0 then some (-nI 11, μ) else if nI 0 ≤ srt (S.2.2.2.2.1 3 y) then (if srt (S.2.2.2.2.1 3 x) = srt (S.2.2.2.2.1 3 y) then (if a5 < nI 0 then some (-nI 13, μ) else if a2 < nI 0 then some (-nI 13, μ) else if a4 < nI 0 then some (-nI 13, μ) else if nI 0 < lg_cmp (a2.toInt64 + a5.toInt64) (nI (S.2.2.2.2.1 4 x)).toInt64 then some (-nI 13, μ) else if lg_cmp (a4.toInt64 + a5.toInt64) (nI (S.2.2.2.2.1 4 y)).toInt64 ≤ nI 0 then f_X11_shift_b110 85 (nI x) a2 (nI y) a4 a5 FU (nI 0) μ else some (-nI 13, μ)) else some (-nI 12, μ)) else some (-nI 11, μ)) := by
    intro μ hM
    obtain ⟨r1, r2, r3⟩ := hM.2.2.2.2.2 x hx
    obtain ⟨s1, s2, s3⟩ := hM.2.2.2.2.2 y hy
    unfold f_X11_shift
    rw [rf_85_36, rf_85_37, al_106, al_107, bnd_e (m1 _), nI_b1', bnd_e (m3 _), nI_b1']
    rw [gA_n (by omega) (by omega), gA_n (by omega) (by omega), gA_n (by omega) (by omega), gA_n (by omega) (by omega), gA_n (by omega) (by omega), gA_n (by omega) (by omega), nI_clamp (by omega), nI_clamp (by omega), r1, r2, s1, s2]
    rfl
  by_cases c1 : S.2.2.2.2.1 3 x = 0
  · refine call_q hX hM (r := -nI 11) ?_ ?_
    · rw [eX, if_pos (g1.mpr c1)]
    · rw [eM μ hM, if_pos (g2.mpr c1)]
  rw [if_neg (fun z => c1 (g1.mp z))] at eX
  by_cases c2 : S.2.2.2.2.1 3 y = 0
  · refine call_q hX hM (r := -nI 11) ?_ ?_
    · rw [eX, if_pos (j1.mpr c2)]
    · rw [eM μ hM, if_neg (fun z => c1 (g2.mp z)), if_neg (fun z => (j3.mp z) c2)]
  rw [if_neg (fun z => c2 (j1.mp z))] at eX
  by_cases c3 : srt (S.2.2.2.2.1 3 x) = srt (S.2.2.2.2.1 3 y)
  case neg =>
    refine call_q hX hM (r := -nI 12) ?_ ?_
    · rw [eX, if_neg c3]
    · rw [eM μ hM, if_neg (fun z => c1 (g2.mp z)), if_pos (j3.mpr c2), if_neg c3]
  rw [if_pos c3] at eX
  have eM2 : ∀ μ, MI S μ → f_X11_shift 85 (nI x) a2 (nI y) a4 a5 μ = (if a5 < nI 0 then some (-nI 13, μ) else if a2 < nI 0 then some (-nI 13, μ) else if a4 < nI 0 then some (-nI 13, μ) else if nI 0 < lg_cmp (a2.toInt64 + a5.toInt64) (nI (S.2.2.2.2.1 4 x)).toInt64 then some (-nI 13, μ) else if lg_cmp (a4.toInt64 + a5.toInt64) (nI (S.2.2.2.2.1 4 y)).toInt64 ≤ nI 0 then f_X11_shift_b110 85 (nI x) a2 (nI y) a4 a5 FU (nI 0) μ else some (-nI 13, μ)) := by
    intro μ hM
    rw [eM μ hM, if_neg (fun z => c1 (g2.mp z)), if_pos (j3.mpr c2), if_pos c3]
  have cmp : ∀ i k L : Nat, i < 2 ^ 31 → k < 2 ^ 31 → L ≤ 60 → lg_cmp ((nI i).toInt64 + (nI k).toInt64) (nI L).toInt64 = if L < i + k then nI 1 else if i + k = L then nI 0 else -nI 1 := by
    intro i k L hi hk hL
    rw [nI_l hi, nI_l hk, nI_l (by omega), lN_add, lgN (by omega) (by omega)]
  have no : (a5 < nI 0 ∨ a2 < nI 0 ∨ a4 < nI 0) → f_X11_shift 85 (nI x) a2 (nI y) a4 a5 μ = some (-nI 13, μ) := by
    intro h
    rw [eM2 μ hM]
    by_cases d1 : a5 < nI 0
    · rw [if_pos d1]
    · rw [if_neg d1]
      by_cases d2 : a2 < nI 0
      · rw [if_pos d2]
      · rw [if_neg d2, if_pos (by rcases h with z | z | z; exact absurd z d1; exact absurd z d2; exact z)]
  rcases x_has p2 k2 a2 a5 with ⟨hv, e0⟩ | ⟨i, K, rfl, rfl, hiK, e1⟩
  · refine call_q hX hM (r := -nI 13) ?_ ?_
    · rw [eX, bnd_e e0, nI_b0]
    · rcases hv with z | z | ⟨i, K, hi, hK, rfl, rfl, hlt⟩
      · exact no (Or.inr (Or.inl z))
      · exact no (Or.inl z)
      · by_cases d : a4 < nI 0
        · exact no (Or.inr (Or.inr d))
        · rw [eM2 μ hM, if_neg (nI_lt0 hK), if_neg (nI_lt0 hi), if_neg d, cmp i K _ hi hK k2, if_pos hlt, if_pos (by decide)]
  rw [bnd_e e1, nI_b1] at eX
  have q1 : ¬ nI 0 < (if S.2.2.2.2.1 4 x < i + K then nI 1 else if i + K = S.2.2.2.2.1 4 x then nI 0 else -nI 1) := by
    rw [if_neg (by omega)]
    split <;> decide
  rcases x_has o2 l2 a4 (nI K) with ⟨hv, e0⟩ | ⟨j, K2, rfl, hK2, hjK, e2⟩
  · refine call_q hX hM (r := -nI 13) ?_ ?_
    · rw [eX, bnd_e e0, nI_b0]
    · rcases hv with z | z | ⟨j, K2, hj, hK2, rfl, e, hlt⟩
      · exact no (Or.inr (Or.inr z))
      · exact no (Or.inl z)
      · have eK : K2 = K := ((nI_eq (by omega) hK2).mp e).symm
        subst eK
        rw [eM2 μ hM, if_neg (nI_lt0 (by omega)), if_neg (nI_lt0 (by omega)), if_neg (nI_lt0 hj), cmp i K2 _ (by omega) hK2 k2, if_neg q1, cmp j K2 _ hj hK2 l2, if_pos hlt, if_neg (by decide)]
  by_cases hb : K2 < 2 ^ 31
  case neg => omega
  have eK : K2 = K := ((nI_eq (by omega) hb).mp hK2).symm
  subst eK
  rw [bnd_e e2, nI_b1] at eX
  have eT : f_X9_take (53 + 2 * y) (53 + 2 * x) (nI i) (nI j) (nI K2) μ = some (rL μ (54 + 2 * y) (va_cpy (μ.2 (54 + 2 * x)) (μ.2 (54 + 2 * y)) i j K2)) := by
    unfold f_X9_take
    simp only [il]
    rw [bnd_e e1, nI_b1, bnd_e e2, nI_b1, t2, u2, t3, u3, lt_d]
    have ok : cp_ok (nI i) (nI j) (nI K2) 60 60 = true := by
      unfold cp_ok
      rw [nI_clamp (by omega), nI_clamp (by omega), nI_clamp (by omega)]
      rw [decide_eq_false (show ¬ nI i < 0 from nI_pos (by omega)), decide_eq_false (show ¬ nI j < 0 from nI_pos (by omega)), decide_eq_false (show ¬ nI K2 < 0 from nI_pos (by omega)), decide_eq_true (show i + K2 ≤ 60 by omega), decide_eq_true (show j + K2 ≤ 60 by omega)]
      rfl
    rw [ok, gP_t]
    unfold cpL
    rw [nI_clamp (by omega), nI_clamp (by omega), nI_clamp (by omega)]
  rw [bnv_e eT] at eX
  obtain ⟨μ1, hμ1⟩ : ∃ μ1, μ1 = rL μ (54 + 2 * y) (va_cpy (μ.2 (54 + 2 * x)) (μ.2 (54 + 2 * y)) i j K2) := ⟨_, rfl⟩
  rw [← hμ1] at eX
  have f1 : ∀ t, t ≠ 54 + 2 * y → μ1.1 t = μ.1 t ∧ μ1.2 t = μ.2 t := fun t ht => by rw [hμ1]; exact ⟨rfl, by rw [rL_2, if_neg ht]⟩
  have f0 : ∀ t, μ1.1 t = μ.1 t := fun t => by rw [hμ1]; rfl
  have hM1 := hM.hi (show hi μ μ1 from fun t ht => f1 t (by omega))
  obtain ⟨D, hD⟩ : ∃ D : Nat → Nat → Int64, D = fun z k => if z = y ∧ j ≤ k ∧ k < j + K2 then S.2.2.2.2.2 x (i + (k - j)) else S.2.2.2.2.2 z k := ⟨_, rfl⟩
  have hX1 : XI n (upD S S.2.2.2.2.1 D) μ1 := hX.tape rfl rfl rfl hX.1.2.2.2.2 (fun z hz => by
    obtain ⟨q1, q2, q3⟩ := hX.2.2.2.2.2 z hz
    refine ⟨by rw [f0]; exact q1, by rw [f0]; exact q2, fun k hk => ?_⟩
    show _ = D z k
    rw [hD]
    dsimp only
    by_cases e : z = y
    · subst e
      rw [hμ1, rL_2, if_pos rfl]
      by_cases e2 : j ≤ k ∧ k < j + K2
      · rw [if_pos ⟨rfl, e2.1, e2.2⟩, pk_cpy_in e2.1 e2.2]; exact p3 _ (by omega)
      · rw [if_neg (fun w => e2 w.2), pk_cpy_out (by omega)]; exact q3 k hk
    · rw [if_neg (fun w => e w.1), (f1 _ (by omega)).2]; exact q3 k hk) (fun t ht => f1 t (by omega))
  obtain ⟨μ2, hμ2⟩ : ∃ μ2, μ2 = rL μ1 109 (fun t => if 0 ≤ t ∧ t < K2 then μ1.2 108 (60 * x + i + t) else μ1.2 109 t) := ⟨_, rfl⟩
  obtain ⟨μ3, hμ3⟩ : ∃ μ3, μ3 = rL μ2 108 (fun p => if 60 * y + j + 0 ≤ p ∧ p < 60 * y + j + K2 then μ2.2 109 (p - (60 * y + j)) else μ2.2 108 p) := ⟨_, rfl⟩
  have eM3 : f_X11_shift 85 (nI x) (nI i) (nI y) (nI j) (nI K2) μ1 = some (nI K2, μ3) := by
    rw [eM2 μ1 hM1, if_neg (nI_lt0 (by omega)), if_neg (nI_lt0 (by omega)), if_neg (nI_lt0 (by omega)), cmp i K2 _ (by omega) (by omega) k2, if_neg q1, cmp j K2 _ (by omega) (by omega) l2, if_pos (show (if S.2.2.2.2.1 4 y < j + K2 then nI 1 else if j + K2 = S.2.2.2.2.1 4 y then nI 0 else -nI 1) ≤ nI 0 from by
      rw [if_neg (by omega)]
      split <;> decide)]
    rw [m_110 hx (by omega) FU 0 μ1 (by omega) (by omega), ← hμ2, m_147 (x := x) (i := i) hy (by omega) _ _ FU 0 μ2 (by omega) (by omega), ← hμ3]
  have f2 : ∀ t, t < 106 → μ3.1 t = μ1.1 t ∧ μ3.2 t = μ1.2 t := fun t ht => by
    rw [hμ3, hμ2]
    exact ⟨rfl, by rw [rL_2, if_neg (by omega), rL_2, if_neg (by omega)]⟩
  have f3 : ∀ t, μ3.1 t = μ1.1 t := fun t => by rw [hμ3, hμ2]; rfl
  refine ⟨nI K2, μ1, μ3, upD S S.2.2.2.2.1 D, eX, eM3, (hX1.lo (show lo μ1 μ3 from fun t ht => f2 t (by omega))).up (Nat.le_succ n), hM1.tape rfl rfl rfl hX.1.2.2.2.2 (fun z hz => ?_) f2⟩
  obtain ⟨q1, q2, q3⟩ := hM1.2.2.2.2.2 z hz
  refine ⟨by rw [f3]; exact q1, by rw [f3]; exact q2, fun k hk => ?_⟩
  show _ = D z k
  rw [hD, hμ3, rL_2, if_pos rfl]
  dsimp only
  have e109 : ∀ t, t < K2 → μ2.2 109 t = S.2.2.2.2.2 x (i + t) := fun t ht => by
    rw [hμ2, rL_2, if_pos rfl, if_pos ⟨Nat.zero_le _, ht⟩, Nat.add_assoc]
    exact (hM1.2.2.2.2.2 x hx).2.2 _ (by omega)
  by_cases e : z = y ∧ j ≤ k ∧ k < j + K2
  · obtain ⟨rfl, ea, eb⟩ := e
    rw [if_pos (by omega), if_pos ⟨rfl, ea, eb⟩, show 60 * z + k - (60 * z + j) = k - j by omega]
    exact e109 _ (by omega)
  · rw [if_neg (fun w => e (by
      have : z = y := by omega
      exact ⟨this, by omega, by omega⟩)), if_neg e, hμ2, rL_2, if_neg (by decide)]
    exact q3 k hk
