/-! the chart made fresh between calls; the reference's LEAST -/
theorem LE.cong {V : SV} {v w : Nat → Nat} (e : ∀ k, k < 72 → v k = w k) {k h s : Nat} (hk : k < 72) (hs : s < 72) (hE : LE V v k h s) : LE V w k h s := by
  unfold LE at *
  rw [e k hk, e s hs] at hE
  exact hE
theorem LW.cong {V : SV} {v w : Nat → Nat} (e : ∀ k, k < 72 → v k = w k) {s c : Nat} (hs : s < 72) (h : LW V v s c) : LW V w s c := by
  rcases h with ⟨a, b⟩ | ⟨a, b1, b2, b3, b4⟩
  · exact Or.inl ⟨a, by rw [← e s hs]; exact b⟩
  · exact Or.inr ⟨a, by rw [← e s hs]; exact b1, b2, b3.cong e (by omega) hs, fun c2 hc z => b4 c2 hc (z.cong (fun k hk => (e k hk).symm) (by omega) hs)⟩
theorem CO.L {e : Nat} {μ : Mem} {V : SV} {v : Nat → Nat} (hV : SVok V) (h : CO e μ V v) : CO e μ V (s_L V) := by
  obtain ⟨c1, c2, c3, c4, c5⟩ := h
  have eq : ∀ k, k < 72 → v k = s_L V k := fun k hk => c1.eq hV hk
  refine ⟨s_L_is hV, c2, c3, fun k hk => by rw [← eq k hk]; exact c4 k hk, fun k hk => ?_⟩
  rcases c5 k hk with z | ⟨c, z1, z2⟩
  · exact Or.inl z
  · exact Or.inr ⟨c, z1.cong eq hk, z2⟩
/-- a change of the chart alone -/
theorem XI.xf {n : Nat} {S : ST} {μ μ2 : Mem} (h : XI n S μ) (f : XF 0 μ μ2) (hK : KI 0 μ2 S.1) (h1 : μ2.1 21 8 = μ.1 21 8 ∨ μ2.1 21 8 = μ.1 1 10) (h2 : μ2.1 22 4 = μ.1 22 4 ∨ μ2.1 22 4 = μ.1 1 10) : XI n S μ2 := by
  obtain ⟨g, ⟨a, b, W, c1, c2, c3, c4, c5, c6, c7, c8, c9, c10⟩, hh, ⟨i1, i2, i3⟩, ht, hp⟩ := h
  have e1 : ∀ i, i < 21 ∨ 29 < i → μ2.1 i = μ.1 i := fun i hi => f.2 i (by omega)
  have e2 : ∀ i, μ2.2 i = μ.2 i := fun i => by rw [f.1]
  refine ⟨g, ⟨a, b, W, c1, c2, c3, ?_, ?_, ⟨?_, ?_, ?_⟩, ?_, hK, c9.cong (by omega) (fun i hi => e1 i (by omega)) (e2 _), c10.cong (e1 30 (by omega)) (by rw [e1 1 (by omega)]) (e1 47 (by omega))⟩, hh.cong (fun i _ _ => e1 i (by omega)), ⟨i1.cong (fun j hj => e1 _ (by omega)) (e2 _) (fun j _ _ => by rw [e1 _ (by omega)]), i2.cong (fun i _ _ => e1 i (by omega)), by rw [e1 0 (by omega)]; exact i3⟩, ht.cong (by rw [e1 48 (by omega)]) (e1 49 (by omega)), hp.cong (fun i _ _ => ⟨e1 i (by omega), e2 i⟩)⟩
  · rw [e1 1 (by omega)]; exact c4
  · rw [e1 31 (by omega)]; exact c5
  · rcases h1 with z | z
    · rw [z]; exact c6.1
    · rw [z, c4]; exact Or.inr ⟨a, Nat.le_refl _, rfl⟩
  · rcases h2 with z | z
    · rw [z]; exact c6.2.1
    · rw [z, c4]; exact Or.inr ⟨a, Nat.le_refl _, rfl⟩
  · rw [e1 30 (by omega)]; exact c6.2.2
  · rw [e1 38 (by omega), e1 39 (by omega)]; exact c7
theorem XF.hi {a b : Mem} (f : XF 0 a b) : hi a b := fun i h => ⟨f.2 i (by omega), by rw [f.1]⟩
theorem XI.fr {n : Nat} {S : ST} {μ : Mem} (h : XI n S μ) : ∃ μ2, f_X10_freshChart 0 μ = some (21, μ2) ∧ XI n S μ2 ∧ hi μ μ2 ∧ CO 0 μ2 S.1 (s_L S.1) := by
  have hV := h.1.1.1
  obtain ⟨a, b, W, c1, c2, c3, c4, c5, c6, c7, c8, c9, c10⟩ := id h.2.1
  obtain ⟨μ2, v, e1, e2, e3, e4, e5, e6⟩ := x_freshen hV (by decide : 0 < 2) c8
  refine ⟨μ2, ?_, h.xf e2 e3 (Or.inr e5) e6, e2.hi, e4.L hV⟩
  unfold f_X10_freshChart
  rw [rf_0_2]
  exact bnv_e e1
theorem MI.seek {S : ST} {μ : Mem} (h : MI S μ) : ∃ μ2, f_X11_seeks 85 μ = some μ2 ∧ Qm μ μ2 ∧ MI S μ2 ∧ MLr μ2 (s_L S.1) := by
  have hV := h.1.1.1
  obtain ⟨μ2, e1, e2, v, hv, hr⟩ := m_seeks hV h.2.1
  exact ⟨μ2, e1, e2.q, h.q e2.q, fun k hk => by rw [hr k hk, hv.eq hV hk]⟩
theorem gK0 {β : Type} {k : Option β} : gP (decide (knd 21 = 0)) k = k := by
  rw [show decide (knd 21 = 0) = true by decide +kernel]
  exact gP_t
theorem call_least (a1 a2 : Int32) : CALL (f_X10_least 0 a1 a2) (f_X11_least 85 a1 a2) := by
  intro n S μ hn hX hM
  have hNV : NV = 1000000000 := rfl
  obtain ⟨b1, x1, m1, h1⟩ := arg_sq a1
  obtain ⟨b2, x2, m2, h2⟩ := argc a2 3 (by decide) (by decide)
  rcases h1 with rfl | ⟨rfl, q, hq, rfl⟩
  · exact call_q hX hM (r := -nI 1) (by unfold f_X10_least; simp only [il]; rw [bnd_e (x1 _), nI_b0]) (by unfold f_X11_least; simp only [il]; rw [bnd_e (m1 _), nI_b0])
  rcases h2 with rfl | ⟨rfl, s, hs, rfl⟩
  · exact call_q hX hM (r := -nI 1) (by unfold f_X10_least; simp only [il]; rw [bnd_e (x1 _), nI_b1, bnd_e (x2 _), nI_b0]) (by unfold f_X11_least; simp only [il]; rw [bnd_e (m1 _), nI_b1, bnd_e (m2 _), nI_b0])
  obtain ⟨μ1, f1, f2, f3, f4⟩ := hX.fr
  obtain ⟨μ2, s1, s2, s3, s4⟩ := (hM.hi f3).seek
  have hL := f4.1
  have val : ∃ x, (x ≤ 160000 ∨ x = NV) ∧ f_X10_least 0 (nI q) (nI s) μ = f_X10_least_b44 0 (nI q) (nI s) (nI x) μ1 ∧ f_X11_least 85 (nI q) (nI s) μ1 = f_X11_least_b45 85 (nI q) (nI s) (enc x) μ2 := by
    by_cases c : s = 2
    · subst c
      refine ⟨s_lq (s_L S.1) q, s_lq_le hL hq, ?_, ?_⟩
      · unfold f_X10_least; simp only [il]
        rw [bnd_e (x1 _), nI_b1, bnd_e (x2 _), nI_b1, if_pos trivial, bnd_e f1, gK0, bnd_e (x_lsq (e := 0) (by decide) hL f4 hq)]
      · unfold f_X11_least; simp only [il]
        rw [bnd_e (m1 _), nI_b1, bnd_e (m2 _), nI_b1, bnv_e s1, if_pos trivial, bnd_e (m_lsq hL s4 hq)]
    · have hc : ¬ nI s = nI 2 := nI_ne (by omega) (by omega) c
      refine ⟨s_L S.1 (2 * q + s), hL.2.1 _ (by omega), ?_, ?_⟩
      · unfold f_X10_least; simp only [il]
        rw [bnd_e (x1 _), nI_b1, bnd_e (x2 _), nI_b1, if_neg hc, bnd_e f1, gK0]
        have eW : f_X1_leastWith 21 (nI q) (nI s) μ1 = some (nI (s_L S.1 (2 * q + s)), μ1) := by
          have g4 : μ1.1 26 (2 * q + s) = nI (s_L S.1 (2 * q + s)) := f4.2.2.2.1 (2 * q + s) (by omega)
          unfold f_X1_leastWith
          simp (disch := omega) only [il, rf_21_2, al_26, pk_mul, nI_add, gA_n, nI_clamp, g4]
        rw [bnd_e eW]
      · unfold f_X11_least; simp only [il]
        rw [bnd_e (m1 _), nI_b1, bnd_e (m2 _), nI_b1, bnv_e s1, if_neg hc]
        simp (disch := omega) only [rf_85_0, rf_85_1, rf_85_2, rf_85_3, rf_85_4, rf_85_5, rf_85_6, rf_85_11, rf_85_13, rf_85_14, rf_85_16, rf_85_17, rf_85_19, rf_85_20, rf_85_21, rf_85_22, rf_85_24, rf_85_27, rf_85_33, rf_85_34, rf_85_36, rf_85_37, rf_85_38, rf_85_39, al_86, al_87, al_88, al_89, al_90, al_91, al_92, al_93, al_94, al_95, al_96, al_97, al_98, al_99, al_100, al_101, al_102, al_103, al_104, al_105, al_106, al_107, al_108, al_109, pk_mul, nI_add, gA_n, nI_clamp, s4 (2 * q + s) (by omega)]
  obtain ⟨x, hx, v1, v2⟩ := val
  refine call_0 (r := if x = NV then -nI 5 else nI x) f2 hM ?_ f3 ?_ s2
  · rw [v1]
    unfold f_X10_least_b44
    by_cases c : x = NV
    · rw [if_pos c, c]; exact if_pos rfl
    · rw [if_neg c]; exact if_neg (show ¬ nI x = nI NV from nI_ne (by omega) (by omega) c)
  · rw [v2]
    unfold f_X11_least_b45
    by_cases c : x = NV
    · rw [if_pos c, c, enc_nv]; exact if_neg (by decide)
    · rw [if_neg c, enc_n (by omega)]; exact if_pos (nI_le (Nat.zero_le _) (by omega))
