/-! the mean pace -/
theorem nn32_of {x : UInt32} (h : Jvm.FP.Core.val32 x ≠ .nan) : nn32 x = true := by
  have h2 := (Jvm.FP.Core.ne_nan32 x).mp h
  unfold nn32
  refine decide_eq_true ?_
  rw [UInt32.le_iff_toNat_le, UInt32.toNat_and]
  rw [show (0x7fffffff : UInt32).toNat = 2 ^ 31 - 1 from rfl, Nat.and_two_pow_sub_one_eq_mod]
  exact h2
theorem pos_i2f {n : Nat} (hn : n < 2 ^ 31) : ∃ c q, Jvm.FP.Core.val32 (Jvm.FP.Core.i2f (nI n)) = .fin false c q := by
  obtain ⟨s, c, q, h⟩ := Jvm.FP.Core.i2f_fin (nI n)
  have e := Jvm.FP.Core.val32_i2f (nI n)
  have e : Jvm.FP.Core.val32 (Jvm.FP.Core.i2f (nI n)) = Jvm.FP.Core.roundRatio Jvm.FP.Core.b32 (decide ((nI n).toInt < 0)) (nI n).toInt.natAbs 1 0 := e
  have g := congrArg Jvm.FP.Core.sgn e
  rw [Jvm.FP.Core.sgn_roundRatio, h, nI_toInt hn, decide_eq_false (by omega)] at g
  have g : s = false := g
  subst g
  exact ⟨c, q, h⟩
theorem pos_div {a b : Nat} (ha : a < 2 ^ 31) (hb : b < 2 ^ 31) (h0 : 0 < b) : ∃ c q, Jvm.FP.Core.val32 (FP.fdiv (FP.i2f (nI a)) (FP.i2f (nI b))) = .fin false c q := by
  obtain ⟨c1, q1, h1⟩ := pos_i2f ha
  obtain ⟨c2, q2, h2⟩ := pos_i2f hb
  have m1 := Jvm.FP.Core.i2f_mag (nI a)
  obtain ⟨m2, m3⟩ := Jvm.FP.Core.i2f_big (v := nI b) (by rw [nI_toInt hb]; omega)
  have m4 := Jvm.FP.Core.fdiv_mag m1 m2 m3 (by decide) (by decide)
  obtain ⟨s, c, q, h⟩ := Jvm.FP.Core.fin_of_lt32 m4 (by decide)
  have e := Jvm.FP.Core.val32_fdiv (Jvm.FP.Core.i2f (nI a)) (Jvm.FP.Core.i2f (nI b))
  rw [h, h1, h2] at e
  have e : Jvm.FP.Core.Datum.fin s c q = if c2 = 0 then (if c1 = 0 then .nan else .inf (false != false)) else Jvm.FP.Core.roundRatio Jvm.FP.Core.b32 (false != false) c1 c2 (q1 - q2) := e
  by_cases z : c2 = 0
  · rw [if_pos z] at e
    exfalso
    revert e
    split
    · exact fun z => by cases z
    · exact fun z => by cases z
  · rw [if_neg z] at e
    have g := congrArg Jvm.FP.Core.sgn e
    rw [Jvm.FP.Core.sgn_roundRatio] at g
    have g : s = false := g
    subst g
    exact ⟨c, q, h⟩
/-- how far it is, over the first k legs -/
def s_fa (l : List Nat) (k : Nat) : Nat := sm (fun j => s_len (l.getD j 0)) k
theorem s_fa_le {l : List Nat} {k : Nat} : s_fa l k ≤ k * 850 := sm_le (fun _ _ => s_len_b.2)
section MP
variable {μ : Mem} {l : List Nat}
theorem x_clen (h7 : μ.1 21 7 = nI l.length) (h29 : ∀ j, j < l.length → μ.1 29 j = nI (l.getD j 0)) (h8 : ∀ j, j < l.length → l.getD j 0 < 8) (hl : l.length ≤ 71) : ∀ (m n k : Nat), k + m = l.length → m < n → f_X1_courseLength_b4 21 n (nI (s_fa l k)) (nI k) μ = some (nI (s_fa l l.length), μ) := by
  intro m
  induction m with
  | zero =>
    intro n k hk hn
    obtain ⟨n, rfl⟩ : ∃ j, n = j + 1 := ⟨n - 1, by omega⟩
    rw [f_X1_courseLength_b4]
    simp only [il]
    rw [h7, if_pos (nI_le (by omega) (by omega)), show k = l.length by omega]
  | succ m ih =>
    intro n k hk hn
    obtain ⟨n, rfl⟩ : ∃ j, n = j + 1 := ⟨n - 1, by omega⟩
    rw [f_X1_courseLength_b4]
    simp only [il]
    rw [h7, if_neg (nI_ge (by omega) (by omega)), rf_21_6, al_29, gA_n (by omega) (by omega), nI_clamp (by omega), h29 k (by omega), bnd_e (x_len (h8 k (by omega)) μ), nI_add, lt_d, nI_add, lt_d, show s_fa l k + s_len (l.getD k 0) = s_fa l (k + 1) by rw [s_fa, s_fa, sm]]
    exact ih n (k + 1) (by omega) (by omega)
theorem m_clen (h7 : μ.1 85 35 = nI l.length) (h29 : ∀ j, j < l.length → μ.1 105 j = nI (l.getD j 0)) (h8 : ∀ j, j < l.length → l.getD j 0 < 8) (hl : l.length ≤ 71) (a1 : Int32) : ∀ (m n k : Nat), k + m = l.length → m < n → f_X11_meanPace_b36 85 a1 n (nI (s_fa l k)) (nI k) μ = f_X11_meanPace_b36 85 a1 1 (nI (s_fa l l.length)) (nI l.length) μ := by
  intro m
  induction m with
  | zero =>
    intro n k hk hn
    obtain ⟨n, rfl⟩ : ∃ j, n = j + 1 := ⟨n - 1, by omega⟩
    rw [show k = l.length by omega, f_X11_meanPace_b36, f_X11_meanPace_b36, h7, if_pos (Int32.le_refl _), if_pos (Int32.le_refl _)]
  | succ m ih =>
    intro n k hk hn
    obtain ⟨n, rfl⟩ : ∃ j, n = j + 1 := ⟨n - 1, by omega⟩
    rw [f_X11_meanPace_b36]
    simp only [il]
    rw [h7, if_neg (nI_ge (by omega) (by omega)), rf_85_34, al_105, gA_n (by omega) (by omega), nI_clamp (by omega), h29 k (by omega), bnd_e (m_len (h8 k (by omega)) μ), nI_add, lt_d, nI_add, lt_d, show s_fa l k + s_len (l.getD k 0) = s_fa l (k + 1) by rw [s_fa, s_fa, sm]]
    exact ih n (k + 1) (by omega) (by omega)
end MP
theorem f0_bits (a1 : Int32) (μ : Mem) : f_X11_meanPace_b86 85 a1 FP.fconst0 μ = some (0, μ) := by
  unfold f_X11_meanPace_b86
  rw [bnd_e (m_off (x := FP.fconst0) (c := 0) (q := Jvm.FP.Core.Fmt.qmin Jvm.FP.Core.b32) Jvm.FP.Core.val32_fconst0 μ)]
  rfl
theorem call_mpace (a1 : Int32) : CALL (f_X10_meanPace 0 a1) (f_X11_meanPace 85 a1) := by
  intro n S μ hn hX hM
  have hFU : FU = 1000000000000 := rfl
  have hNV : NV = 1000000000 := rfl
  obtain ⟨b1, x1, m1, h1⟩ := arg_sq a1
  rcases h1 with rfl | ⟨rfl, q, hq, rfl⟩
  · exact call_q hX hM (r := -9223372036854775808) (by unfold f_X10_meanPace; simp only [il]; rw [bnd_e (x1 _), nI_b0]) (by unfold f_X11_meanPace; simp only [il]; rw [bnd_e (m1 _), nI_b0])
  have hV := hX.1.1.1
  obtain ⟨μ1, f1, f2, f3, f4⟩ := hX.fr
  have hL := f4.1
  have hs := s_sid_lt (s_L S.1) q
  have hb := s_lq_le hL hq
  obtain ⟨l, hl⟩ := CH.ex hV hL (s_L S.1 (2 * q + s_sid (s_L S.1) q)) (2 * q + s_sid (s_L S.1) q) rfl (by omega)
  obtain ⟨μ2, g1, g2, g3, g4⟩ := x_course hV f4 hq hl
  have hh : hi μ μ2 := f3.tr g2.xf.hi
  have hX2 := f2.xw g2 g3
  obtain ⟨μ3, s1, s2, s3, s4⟩ := (hM.hi hh).seek
  by_cases c : s_lq (s_L S.1) q = NV
  · rw [if_pos c] at g1
    refine call_0 (r := -9223372036854775808) hX2 hM ?_ hh ?_ s2
    · unfold f_X10_meanPace; simp only [il]
      rw [bnd_e (x1 _), nI_b1, bnd_e f1, gK0, bnd_e g1]
      exact if_pos rfl
    · unfold f_X11_meanPace; simp only [il]
      rw [bnd_e (m1 _), nI_b1, bnv_e s1, bnd_e (m_lsq hL s4 hq), c, enc_nv, if_neg (by decide)]
  · rw [if_neg c] at g1
    obtain ⟨k1, k2⟩ := g4 c
    obtain ⟨μ4, t1, t2, t3, t4⟩ := m_course hV hL s3.2.1 s4 hq hl c
    have hlen : l.length ≤ 71 := by
      have g1 := CH.len hV (by omega) hl
      have g2 := s_bel_lt (v := s_L S.1) (s := 2 * q + s_sid (s_L S.1) q) (by omega)
      omega
    have h8 := CH.lt8 hl
    have d9 : μ2.1 1 9 = nI (S.1 7 2) := g3.2.1.2.2.2.2.2.2.2.2.2
    have s5 : MSea μ4 S.1 := s3.2.1.cong (fun i _ _ => (t2.q.2.1 i (by omega) (by omega) (by omega) (by omega) (by omega) (by omega)).1) (fun k _ _ => t2.q.2.2 k (by omega) (by omega) (by omega) (by omega) (by omega) (by omega) (by omega))
    have k9 : μ4.1 85 9 = nI (S.1 7 2) := s5.2.2.2.2.2.2.2.2.2
    have hge : S.1 7 2 ≤ s_lq (s_L S.1) q := by
      have a := hL.ge hV _ (2 * q) rfl (by omega)
      have b := hL.ge hV _ (2 * q + 1) rfl (by omega)
      have e : s_lq (s_L S.1) q = min (s_L S.1 (2 * q)) (s_L S.1 (2 * q + 1)) := rfl
      omega
    have h72 := hV.2.2.2.2.2.2.2.1
    have hfa := @s_fa_le l l.length
    have r4 : MLr μ4 (s_L S.1) := fun k hk => by rw [t2.2.1 104 (by decide) (by decide)]; exact s4 k hk
    have eX : f_X10_meanPace 0 (nI q) μ = (if nI (s_lq (s_L S.1) q - S.1 7 2) = nI 0 then some (0, μ2) else gP (nn32 (FP.fdiv (FP.i2f (nI (s_fa l l.length))) (FP.i2f (nI (s_lq (s_L S.1) q - S.1 7 2))))) (bnd (f_X0_ofFloat (FP.fdiv (FP.i2f (nI (s_fa l l.length))) (FP.i2f (nI (s_lq (s_L S.1) q - S.1 7 2)))) μ2) (fun r13 μ12 => some (r13, μ12)))) := by
      unfold f_X10_meanPace; simp only [il, rf_0_2, rf_0_0]
      rw [bnd_e (x1 _), nI_b1, bnd_e f1, gK0, bnd_e g1, if_neg (m5_nI (by omega)), bnd_e (x_lsq (e := 0) (by decide) hL g3 hq), d9, pk_sub hge, lt_d]
      unfold f_X1_courseLength
      simp only [il]
      rw [bnd_e (show f_X1_courseLength_b4 21 FU (nI 0) (nI 0) μ2 = _ from x_clen k1 k2 h8 hlen l.length FU 0 (by omega) (by omega))]
    have eM : f_X11_meanPace 85 (nI q) μ2 = (if nI (s_lq (s_L S.1) q - S.1 7 2) = nI 0 then f_X11_meanPace_b86 85 (nI q) FP.fconst0 μ4 else gP (nn32 (FP.fdiv (FP.i2f (nI (s_fa l l.length))) (FP.i2f (nI (s_lq (s_L S.1) q - S.1 7 2))))) (f_X11_meanPace_b86 85 (nI q) (FP.fdiv (FP.i2f (nI (s_fa l l.length))) (FP.i2f (nI (s_lq (s_L S.1) q - S.1 7 2)))) μ4)) := by
      unfold f_X11_meanPace; simp only [il]
      rw [bnd_e (m1 _), nI_b1, bnv_e s1, bnd_e (m_lsq hL s4 hq), enc_n (by omega), if_pos (nI_le (Nat.zero_le _) (by omega)), bnv_e t1]
      rw [show f_X11_meanPace_b36 85 (nI q) FU (nI 0) (nI 0) μ4 = _ from m_clen t3 t4 h8 hlen (nI q) l.length FU 0 (by omega) (by omega)]
      rw [f_X11_meanPace_b36, t3, if_pos (Int32.le_refl _), bnd_e (m_lsq hL r4 hq), enc_n (by omega), k9, pk_sub hge, lt_d]
      rfl
    by_cases d : s_lq (s_L S.1) q - S.1 7 2 = 0
    · rw [d, if_pos rfl] at eX eM
      rw [f0_bits] at eM
      exact call_0 hX2 hM eX hh eM (s2.tr t2.q)
    · have dz : ¬ nI (s_lq (s_L S.1) q - S.1 7 2) = nI 0 := nI_ne (by omega) (by omega) d
      rw [if_neg dz] at eX eM
      obtain ⟨cc, qq, hv⟩ := pos_div (a := s_fa l l.length) (b := s_lq (s_L S.1) q - S.1 7 2) (by omega) (by omega) (by omega)
      have hnn : nn32 (FP.fdiv (FP.i2f (nI (s_fa l l.length))) (FP.i2f (nI (s_lq (s_L S.1) q - S.1 7 2)))) = true := nn32_of (by rw [hv]; exact fun z => by cases z)
      rw [hnn, gP_t, bnd_e (x_off hv μ2)] at eX
      unfold f_X11_meanPace_b86 at eM
      rw [hnn, gP_t, bnd_e (m_off hv μ4), u32_n, nI_l (bits32_lt hv)] at eM
      exact call_0 hX2 hM eX hh eM (s2.tr t2.q)
