/-! the reference: small functions, one leg -/
theorem mi_turn : ∀ a, a < 8 → ∀ b, b < 8 → mimin (((nI a - nI b) + nI 8) - ((nI a - nI b) + nI 8) / nI 8 * nI 8) (nI 8 - (((nI a - nI b) + nI 8) - ((nI a - nI b) + nI 8) / nI 8 * nI 8)) = nI (s_turn a b) := by decide +kernel
theorem m_turn {a b : Nat} (ha : a < 8) (hb : b < 8) (μ : Mem) : f_X11_turn (nI a) (nI b) μ = some (nI (s_turn a b), μ) := by
  unfold f_X11_turn
  rw [lt_d]
  exact congrArg (fun z => some (z, μ)) (mi_turn a ha b hb)
theorem m_by : ∀ a, a < 8 → ∀ b, b < 8 → ((nI a - nI b) + nI 8) - ((nI a - nI b) + nI 8) / nI 8 * nI 8 = nI ((a + 8 - b) % 8) := by decide +kernel
theorem m_zoneOf : ∀ q, q < 36 → ((nI 2 * (nI q / nI 18)) + ((nI q - nI q / nI 6 * nI 6) / nI 3)) = nI (s_zone q) := by decide +kernel
theorem m_zone {q : Nat} (h : q < 36) (μ : Mem) : f_X11_zoneOf (nI q) μ = some (nI (s_zone q), μ) := congrArg (fun z => some (z, μ)) (m_zoneOf q h)
theorem m_span {t : Nat} (h : t < 2 ^ 31) (μ : Mem) : f_X11_spanOf (nI t) μ = some (nI (s_span t), μ) := by
  unfold f_X11_spanOf s_span
  simp (disch := omega) only [il, nI_add, pk_mul, pk_sub, pk_div, pk_rem, nI_clamp, n_rem, nI_leI, nI_ltI, nI_eq]
theorem m_len {h : Nat} (hh : h < 8) (μ : Mem) : f_X11_length (nI h) μ = some (nI (s_len h), μ) := by
  unfold f_X11_length s_len
  simp (disch := omega) only [il, nI_add, pk_mul, pk_sub, pk_div, pk_rem, nI_clamp, n_rem, nI_leI, nI_ltI, nI_eq]
  by_cases hc : h % 2 = 0
  · rw [if_pos hc, if_pos hc]
  · rw [if_neg hc, if_neg hc]
theorem m_dep {t j : Nat} (ht : t < 2 ^ 29) (hj : j < 4) (μ : Mem) : f_X11_minuteOf (nI t) (nI j) μ = some (nI (s_dep t j), μ) := by
  unfold f_X11_minuteOf s_dep
  simp (disch := omega) only [il, nI_add, pk_mul, pk_sub, pk_div, pk_rem, nI_clamp, n_rem, nI_leI, nI_ltI, nI_eq]
  split <;> rfl
theorem m_in (x a b : Int32) (μ : Mem) : f_X11_in x a b μ = some (if a ≤ x ∧ x ≤ b then nI 1 else nI 0, μ) := by
  unfold f_X11_in
  by_cases h1 : x < a
  · rw [if_pos h1, if_neg (fun q => Int32.not_lt.mpr q.1 h1)]; rfl
  · rw [if_neg h1]
    by_cases h2 : b < x
    · rw [if_pos h2, if_neg (fun q => Int32.not_lt.mpr q.2 h2)]; rfl
    · rw [if_neg h2, if_pos ⟨Int32.not_lt.mp h1, Int32.not_lt.mp h2⟩]; rfl
theorem m_inN {x a b : Nat} (hx : x < 2 ^ 31) (ha : a < 2 ^ 31) (hb : b < 2 ^ 31) (μ : Mem) : f_X11_in (nI x) (nI a) (nI b) μ = some (if a ≤ x ∧ x ≤ b then nI 1 else nI 0, μ) := by
  rw [m_in]
  simp (disch := omega) only [nI_leI]
theorem m_ax : ∀ r, r < 6 → ∀ d, d < 3 → ((nI 0 ≤ nI r + (nI d + (-nI 1)) ∧ nI r + (nI d + (-nI 1)) ≤ nI 5) ↔ (1 ≤ r + d ∧ r + d ≤ 6)) ∧ (1 ≤ r + d → nI r + (nI d + (-nI 1)) = nI (r + d - 1)) := by decide +kernel
theorem m_bes68 {q d i : Nat} (hq : q < 36) (hd : d < 3) (hi : i < 3) (a2 : Int32) (μ : Mem) : f_X11_beside_b68 85 (nI q) a2 (nI d + (-nI 1)) (nI i + (-nI 1)) μ = some (if (1 ≤ q / 6 + d ∧ q / 6 + d ≤ 6) ∧ (1 ≤ q % 6 + i ∧ q % 6 + i ≤ 6) then (if μ.1 86 (6 * (q / 6 + d - 1) + (q % 6 + i - 1)) = nI 1 then (-nI 1) else nI (6 * (q / 6 + d - 1) + (q % 6 + i - 1))) else (-nI 1), μ) := by
  obtain ⟨h1, h2⟩ := m_ax (q / 6) (by omega) d hd
  obtain ⟨h3, h4⟩ := m_ax (q % 6) (by omega) i hi
  unfold f_X11_beside_b68
  simp (disch := omega) only [lt_d, il, pk_div, pk_mul, pk_sub, n_rem, m_in, bnd_s, ite_n, h1, h3, rf_85_0, rf_85_1, rf_85_2, rf_85_3, rf_85_4, rf_85_5, rf_85_6, rf_85_11, rf_85_13, rf_85_14, rf_85_16, rf_85_17, rf_85_19, rf_85_20, rf_85_21, rf_85_22, rf_85_24, rf_85_27, rf_85_33, rf_85_34, rf_85_36, rf_85_37, rf_85_38, rf_85_39, al_86, al_87, al_88, al_89, al_90, al_91, al_92, al_93, al_94, al_95, al_96, al_97, al_98, al_99, al_100, al_101, al_102, al_103, al_104, al_105, al_106, al_107, al_108, al_109]
  by_cases c1 : 1 ≤ q / 6 + d ∧ q / 6 + d ≤ 6
  · by_cases c2 : 1 ≤ q % 6 + i ∧ q % 6 + i ≤ 6
    · rw [if_neg (fun z => z c1), if_neg (fun z => z c2), if_pos (show (1 ≤ q / 6 + d ∧ q / 6 + d ≤ 6) ∧ (1 ≤ q % 6 + i ∧ q % 6 + i ≤ 6) from And.intro c1 c2), h2 c1.1, h4 c2.1]
      simp (disch := omega) only [pk_mul, nI_add, nI_clamp, gA_n]
      split <;> rfl
    · rw [if_neg (fun z => z c1), if_pos c2, if_neg (fun z => c2 z.2)]
  · rw [if_pos c1, if_neg (fun z => c1 z.1)]
/-- the reference's sea -/
def MSea (μ : Mem) (V : SV) : Prop := (∀ k, k < 16 → μ.1 87 k = nI (V 0 k)) ∧ (∀ k, k < 16 → μ.1 88 k = nI (V 1 k)) ∧ (∀ k, k < 20 → μ.1 89 k = nI (V 4 k)) ∧ (∀ k, k < 4 → μ.1 90 k = nI (V 2 k)) ∧ (∀ k, k < 4 → μ.1 91 k = nI (V 3 k)) ∧ (μ.1 92 0 = nI (V 5 0) ∧ μ.1 92 1 = nI (V 5 1)) ∧ (∀ q, q < 36 → μ.1 86 q = nI (V 6 q)) ∧ μ.1 85 7 = nI (V 7 0) ∧ μ.1 85 8 = nI (V 7 1) ∧ μ.1 85 9 = nI (V 7 2)
/-- only what a leg leaves behind differs -/
def MF0 (μ μ2 : Mem) : Prop := μ2.2 = μ.2 ∧ (∀ i, i ≠ 85 → μ2.1 i = μ.1 i) ∧ ∀ k, k ≠ 29 → k ≠ 30 → k ≠ 31 → k ≠ 32 → μ2.1 85 k = μ.1 85 k
theorem MF0.rf (μ : Mem) : MF0 μ μ := ⟨rfl, fun _ _ => rfl, fun _ _ _ _ _ => rfl⟩
theorem MF0.tr {a b c : Mem} (h : MF0 a b) (g : MF0 b c) : MF0 a c := ⟨g.1.trans h.1, fun i hi => (g.2.1 i hi).trans (h.2.1 i hi), fun k a b c d => (g.2.2 k a b c d).trans (h.2.2 k a b c d)⟩
theorem MF0.s {μ : Mem} {k : Nat} {v : Int32} (hk : k = 29 ∨ k = 30 ∨ k = 31 ∨ k = 32) : MF0 μ (sI μ 85 k v) := by
  refine ⟨rfl, fun i hi => ?_, fun j a b c d => ?_⟩
  · rw [sI_1, if_neg hi]
  · rw [sI_1, if_pos rfl, upd_a, if_neg (by omega)]
theorem MSea.fr {μ μ2 : Mem} {V : SV} (h : MSea μ V) (f : MF0 μ μ2) : MSea μ2 V := by
  obtain ⟨h1, h2, h3, h4, h5, h6, h7, h8, h9, h10⟩ := h
  have e := f.2.1
  have g := f.2.2
  refine ⟨fun k hk => ?_, fun k hk => ?_, fun k hk => ?_, fun k hk => ?_, fun k hk => ?_, ?_, fun k hk => ?_, ?_, ?_, ?_⟩
  · rw [e 87 (by decide)]; exact h1 k hk
  · rw [e 88 (by decide)]; exact h2 k hk
  · rw [e 89 (by decide)]; exact h3 k hk
  · rw [e 90 (by decide)]; exact h4 k hk
  · rw [e 91 (by decide)]; exact h5 k hk
  · rw [e 92 (by decide)]; exact h6
  · rw [e 86 (by decide)]; exact h7 k hk
  · rw [g 7 (by decide) (by decide) (by decide) (by decide)]; exact h8
  · rw [g 8 (by decide) (by decide) (by decide) (by decide)]; exact h9
  · rw [g 9 (by decide) (by decide) (by decide) (by decide)]; exact h10
theorem m_b39 {q h : Nat} (hh : h < 8) (x3 : Int32) (μ : Mem) : f_X11_beside_b39 85 (nI q) (nI h) x3 μ = f_X11_beside_b68 85 (nI q) (nI h) x3 (nI (s_ri h) + (-nI 1)) μ := by
  have e : ∀ t : Int32, t = nI (s_ri h) + (-nI 1) → f_X11_beside_b68 85 (nI q) (nI h) x3 t μ = f_X11_beside_b68 85 (nI q) (nI h) x3 (nI (s_ri h) + (-nI 1)) μ := fun t ht => by rw [ht]
  unfold f_X11_beside_b39
  simp (disch := omega) only [il, m_inN, bnd_s, ite_n]
  by_cases c1 : 1 ≤ h ∧ h ≤ 3
  · rw [if_neg (fun z => z c1)]
    refine e _ ?_
    rcases (show h = 1 ∨ h = 2 ∨ h = 3 by omega) with rfl | rfl | rfl <;> decide +kernel
  · rw [if_pos c1]
    by_cases c2 : 5 ≤ h ∧ h ≤ 7
    · rw [if_neg (fun z => z c2)]
      refine e _ ?_
      rcases (show h = 5 ∨ h = 6 ∨ h = 7 by omega) with rfl | rfl | rfl <;> decide +kernel
    · rw [if_pos c2]
      refine e _ ?_
      rcases (show h = 0 ∨ h = 4 by omega) with rfl | rfl <;> decide +kernel
theorem m_b0 {q h : Nat} (hh : h < 8) (μ : Mem) : f_X11_beside 85 (nI q) (nI h) μ = f_X11_beside_b39 85 (nI q) (nI h) (nI (s_dn h) + (-nI 1)) μ := by
  have e : ∀ t : Int32, t = nI (s_dn h) + (-nI 1) → f_X11_beside_b39 85 (nI q) (nI h) t μ = f_X11_beside_b39 85 (nI q) (nI h) (nI (s_dn h) + (-nI 1)) μ := fun t ht => by rw [ht]
  unfold f_X11_beside f_X11_beside_b15 f_X11_beside_b34
  simp (disch := omega) only [il, nI_eq]
  by_cases c0 : h = 0
  · rw [if_pos c0]; subst c0; exact e _ (by decide +kernel)
  rw [if_neg c0]
  by_cases c1 : h = 1
  · rw [if_pos c1]; subst c1; exact e _ (by decide +kernel)
  rw [if_neg c1]
  by_cases c7 : h = 7
  · rw [if_pos c7]; subst c7; exact e _ (by decide +kernel)
  rw [if_neg c7]
  by_cases c3 : h = 3
  · rw [if_pos c3]; subst c3; exact e _ (by decide +kernel)
  rw [if_neg c3]
  by_cases c4 : h = 4
  · rw [if_pos c4]; subst c4; exact e _ (by decide +kernel)
  rw [if_neg c4]
  by_cases c5 : h = 5
  · rw [if_pos c5]; subst c5; exact e _ (by decide +kernel)
  rw [if_neg c5]
  refine e _ ?_
  rcases (show h = 2 ∨ h = 6 by omega) with rfl | rfl <;> decide +kernel
theorem m_bes {μ : Mem} {V : SV} (hV : SVok V) (hM : MSea μ V) {q h : Nat} (hq : q < 36) (hh : h < 8) : f_X11_beside 85 (nI q) (nI h) μ = some (if s_to V q h = 36 then -nI 1 else nI (s_to V q h), μ) := by
  have hd : s_dn h < 3 := (show ∀ h, h < 8 → s_dn h < 3 by decide) h hh
  have hi : s_ri h < 3 := (show ∀ h, h < 8 → s_ri h < 3 by decide) h hh
  rw [m_b0 hh, m_b39 hh, m_bes68 hq hd hi]
  unfold s_to s_bes
  by_cases c : (1 ≤ q / 6 + s_dn h ∧ q / 6 + s_dn h ≤ 6) ∧ (1 ≤ q % 6 + s_ri h ∧ q % 6 + s_ri h ≤ 6)
  · rw [if_pos c, if_pos c]
    have hlt : 6 * (q / 6 + s_dn h - 1) + (q % 6 + s_ri h - 1) < 36 := by omega
    generalize 6 * (q / 6 + s_dn h - 1) + (q % 6 + s_ri h - 1) = N at hlt ⊢
    have hv := hV.2.2.2.2.1 N hlt
    have h36 : ¬ N = 36 := by omega
    rw [hM.2.2.2.2.2.2.1 N hlt, if_neg h36]
    by_cases c2 : V 6 N = 1
    · rw [if_pos c2, if_pos (show nI (V 6 N) = nI 1 by rw [c2])]; simp only [if_true]
    · rw [if_neg c2, if_neg (nI_ne (by omega) (by omega) c2)]; simp only [h36, if_false]
  · rw [if_neg c, if_neg c]; simp only [if_true]
theorem m_dr : ∀ p, p < 10 → ∀ r, r < 4 → mimax (nI 0) (nI p + nI r) = nI (p + r) ∧ mimax (nI 0) (nI p + nI r / nI 2) = nI (p + r / 2) ∧ mimax (nI 0) (nI p) = nI p ∧ mimax (nI 0) (nI p - nI r / nI 2) = nI (p - r / 2) ∧ mimax (nI 0) (nI p - nI r) = nI (p - r) := by decide +kernel
theorem m_b57 {μ : Mem} {V : SV} (hV : SVok V) (hM : MSea μ V) {z h p : Nat} (hz : z < 4) (hh : h < 8) (hp : p < 10) (a1 a3 : Int32) : f_X11_paceOf_b57 85 a1 (nI h) a3 (nI z) (nI p) μ = some (nI (s_drift (V 3 z) (s_turn h (V 2 z)) p), μ) := by
  obtain ⟨d0, d1, d2, d3, d4⟩ := m_dr p hp (V 3 z) (hV.2.1 z hz).2
  have ht := @s_turn_le h (V 2 z)
  unfold f_X11_paceOf_b57 f_X11_paceOf_b168 s_drift
  simp (disch := omega) only [il, rf_85_0, rf_85_1, rf_85_2, rf_85_3, rf_85_4, rf_85_5, rf_85_6, rf_85_11, rf_85_13, rf_85_14, rf_85_16, rf_85_17, rf_85_19, rf_85_20, rf_85_21, rf_85_22, rf_85_24, rf_85_27, rf_85_33, rf_85_34, rf_85_36, rf_85_37, rf_85_38, rf_85_39, al_86, al_87, al_88, al_89, al_90, al_91, al_92, al_93, al_94, al_95, al_96, al_97, al_98, al_99, al_100, al_101, al_102, al_103, al_104, al_105, al_106, al_107, al_108, al_109, gA_n, nI_clamp, hM.2.2.2.1 z hz, hM.2.2.2.2.1 z hz, bnd_e (m_turn hh (hV.2.1 z hz).1 μ), nI_eq, lt_d]
  rcases (show s_turn h (V 2 z) = 0 ∨ s_turn h (V 2 z) = 1 ∨ s_turn h (V 2 z) = 2 ∨ s_turn h (V 2 z) = 3 ∨ s_turn h (V 2 z) = 4 by omega) with e | e | e | e | e <;> rw [e]
  · rw [if_pos rfl, if_pos rfl, d0]
  · rw [if_neg (by decide), if_pos rfl, if_neg (by decide), if_pos rfl, d1]
  · rw [if_neg (by decide), if_neg (by decide), if_pos rfl, if_neg (by decide), if_neg (by decide), if_neg (by decide), if_neg (by decide), d2]
  · rw [if_neg (by decide), if_neg (by decide), if_neg (by decide), if_pos rfl, if_neg (by decide), if_neg (by decide), if_pos rfl, d3]
  · rw [if_neg (by decide), if_neg (by decide), if_neg (by decide), if_neg (by decide), if_pos rfl, if_neg (by decide), if_neg (by decide), if_neg (by decide), if_pos rfl, d4]
theorem m_pace {μ : Mem} {V : SV} (hV : SVok V) (hM : MSea μ V) {q h t : Nat} (hq : q < 36) (hh : h < 8) (ht : t < 2 ^ 29) : f_X11_paceOf 85 (nI q) (nI h) (nI t) μ = some (nI (s_pace V (s_zone q) (s_span t) h), μ) := by
  have hz := s_zone_lt hq
  have hs := @s_span_lt t
  have hk : 4 * s_zone q + s_span t < 16 := by omega
  obtain ⟨hv0, hv1⟩ := hV.1 _ hk
  unfold f_X11_paceOf s_pace
  rw [bnd_e (m_zone hq μ), bnd_e (m_span (by omega) μ)]
  simp (disch := omega) only [il, rf_85_0, rf_85_1, rf_85_2, rf_85_3, rf_85_4, rf_85_5, rf_85_6, rf_85_11, rf_85_13, rf_85_14, rf_85_16, rf_85_17, rf_85_19, rf_85_20, rf_85_21, rf_85_22, rf_85_24, rf_85_27, rf_85_33, rf_85_34, rf_85_36, rf_85_37, rf_85_38, rf_85_39, al_86, al_87, al_88, al_89, al_90, al_91, al_92, al_93, al_94, al_95, al_96, al_97, al_98, al_99, al_100, al_101, al_102, al_103, al_104, al_105, al_106, al_107, al_108, al_109, lt_d, nI_add, pk_mul, gA_n, nI_clamp, hM.1 _ hk, hM.2.1 _ hk, nI_eq, bnd_e (m_turn hh hv0 μ)]
  by_cases c : V 1 (4 * s_zone q + s_span t) = 0
  · rw [if_pos c, if_pos c]
    exact m_b57 hV hM hz hh (by decide) _ _
  · rw [if_neg c, if_neg c]
    have htn := @s_turn_le h (V 0 (4 * s_zone q + s_span t))
    have hx : 5 * V 1 (4 * s_zone q + s_span t) + s_turn h (V 0 (4 * s_zone q + s_span t)) < 20 := by omega
    rw [gA_n hx (by omega), nI_clamp (by omega), hM.2.2.1 _ hx]
    exact m_b57 hV hM hz hh (hV.2.2.1 _ hx) _ _
theorem s_by_lt {V : SV} {z s h : Nat} : s_by V z s h < 8 := by unfold s_by; omega
theorem m_136 {μ : Mem} {h t p x8 cst : Nat} (hh : h < 8) (hp : 0 < p) (hp2 : p ≤ 12) (ht : t < 2 ^ 29) (hc : cst ≤ 60) (q sd : Int32) : f_X11_goes_b136 85 q sd (nI h) (nI t) (nI p) (nI x8) (nI cst) μ = some (sI (sI (sI μ 85 29 (nI (t + (s_len h + p - 1) / p + cst))) 85 30 (nI t)) 85 31 (nI x8)) := by
  have hb := @s_len_b h
  unfold f_X11_goes_b136
  rw [bnd_e (m_len hh μ)]
  have hd : (s_len h + p - 1) / p < 2 ^ 20 := Nat.lt_of_le_of_lt (Nat.div_le_self _ _) (by omega)
  simp (disch := omega) only [il, lt_d, nI_add, pk_sub, pk_div, gZ_n]
theorem m_99 {μ : Mem} {V : SV} (hV : SVok V) (hM : MSea μ V) {q sd h t p x s2 : Nat} (hq : q < 36) (hs : sd < 2) (hs2 : s2 < 2) (hh : h < 8) (hx : x < 8) (hp : 0 < p) (hp2 : p ≤ 12) (ht : t < 2 ^ 29) : f_X11_goes_b99 85 (nI q) (nI sd) (nI h) (nI t) (nI p) (nI x) (nI s2) μ = some (sI (sI (sI μ 85 29 (nI (t + (s_len h + p - 1) / p + (if s2 = sd then 0 else if s_turn h x ≤ 2 then V 5 0 else V 5 1)))) 85 30 (nI t)) 85 31 (nI s2)) := by
  have hc := hV.2.2.2.1
  have htn := @s_turn_le h x
  unfold f_X11_goes_b99
  simp (disch := omega) only [il, nI_eq, bnd_e (m_turn hh hx μ), nI_ltI, rf_85_0, rf_85_1, rf_85_2, rf_85_3, rf_85_4, rf_85_5, rf_85_6, rf_85_11, rf_85_13, rf_85_14, rf_85_16, rf_85_17, rf_85_19, rf_85_20, rf_85_21, rf_85_22, rf_85_24, rf_85_27, rf_85_33, rf_85_34, rf_85_36, rf_85_37, rf_85_38, rf_85_39, al_86, al_87, al_88, al_89, al_90, al_91, al_92, al_93, al_94, al_95, al_96, al_97, al_98, al_99, al_100, al_101, al_102, al_103, al_104, al_105, al_106, al_107, al_108, al_109, gA_n, nI_clamp, hM.2.2.2.2.2.1.1, hM.2.2.2.2.2.1.2]
  by_cases c : s2 = sd
  · rw [if_pos c, if_pos c]
    exact m_136 hh hp hp2 ht (by decide) _ _
  · rw [if_neg c, if_neg c]
    by_cases c2 : 2 < s_turn h x
    · rw [if_pos c2, if_neg (by omega)]
      exact m_136 hh hp hp2 ht hc.2 _ _
    · rw [if_neg c2, if_pos (by omega)]
      exact m_136 hh hp hp2 ht hc.1 _ _
theorem m_goes {μ : Mem} {V : SV} (hV : SVok V) (hM : MSea μ V) {q sd h t : Nat} (hq : q < 36) (hs : sd < 2) (hh : h < 8) (ht : t < 2 ^ 29) : ∃ μ2, f_X11_goes 85 (nI q) (nI sd) (nI h) (nI t) μ = some μ2 ∧ MF0 μ μ2 ∧ ((s_leg V q h t ∧ μ2.1 85 29 = nI (s_arr V q sd h t) ∧ μ2.1 85 30 = nI t ∧ μ2.1 85 31 = nI (s_sd V (s_zone q) (s_span t) h sd) ∧ μ2.1 85 32 = nI (s_to V q h)) ∨ (¬ s_leg V q h t ∧ μ2.1 85 29 = -nI 1)) := by
  have f1 : MF0 μ (sI μ 85 29 (-nI 1)) := MF0.s (by omega)
  have M1 := hM.fr f1
  unfold f_X11_goes
  simp only [il, lt_d]
  rw [bnd_e (m_bes hV M1 hq hh)]
  generalize hto : (if s_to V q h = 36 then -nI 1 else nI (s_to V q h)) = r3
  have f2 : MF0 (sI μ 85 29 (-nI 1)) (sI (sI μ 85 29 (-nI 1)) 85 32 r3) := MF0.s (by omega)
  have M2 := M1.fr f2
  rw [bnd_e (m_pace hV M2 hq hh ht)]
  have e32 : (sI (sI μ 85 29 (-nI 1)) 85 32 r3).1 85 32 = r3 := by rw [sI_1, if_pos rfl, upd_a, if_pos rfl]
  have e29 : (sI (sI μ 85 29 (-nI 1)) 85 32 r3).1 85 29 = -nI 1 := by
    rw [sI_1, if_pos rfl, upd_a, if_neg (by decide), sI_1, if_pos rfl, upd_a, if_pos rfl]
  rw [e32]
  have hpl := s_pace_le hV (h := h) (s_zone_lt hq) (@s_span_lt t)
  have hz := s_zone_lt hq
  have hsp := @s_span_lt t
  have hb := s_bes_lt (h := h) hq
  have hto36 : s_to V q h ≤ 36 := by unfold s_to; repeat' split
                                     all_goals omega
  by_cases c36 : s_to V q h = 36
  · rw [if_pos c36] at hto
    subst hto
    rw [if_pos (by decide)]
    exact ⟨_, rfl, f1.tr f2, Or.inr ⟨fun hl => by have := hl.1; omega, e29⟩⟩
  rw [if_neg c36] at hto
  subst hto
  rw [if_neg (nI_lt0 (by omega))]
  by_cases cp : s_pace V (s_zone q) (s_span t) h = 0
  · rw [cp, if_pos rfl]
    exact ⟨_, rfl, f1.tr f2, Or.inr ⟨fun hl => by have := hl.2; omega, e29⟩⟩
  rw [if_neg (nI_ne (by omega) (by omega) cp)]
  have hleg : s_leg V q h t := ⟨by omega, by omega⟩
  have hk : 4 * s_zone q + s_span t < 16 := by omega
  obtain ⟨hv0, hv1⟩ := hV.1 _ hk
  rw [bnd_e (m_zone hq _), bnd_e (m_span (by omega) _)]
  simp (disch := omega) only [nI_add, pk_mul, rf_85_0, rf_85_1, rf_85_2, rf_85_3, rf_85_4, rf_85_5, rf_85_6, rf_85_11, rf_85_13, rf_85_14, rf_85_16, rf_85_17, rf_85_19, rf_85_20, rf_85_21, rf_85_22, rf_85_24, rf_85_27, rf_85_33, rf_85_34, rf_85_36, rf_85_37, rf_85_38, rf_85_39, al_86, al_87, al_88, al_89, al_90, al_91, al_92, al_93, al_94, al_95, al_96, al_97, al_98, al_99, al_100, al_101, al_102, al_103, al_104, al_105, al_106, al_107, al_108, al_109, gA_n, nI_clamp, M2.1 _ hk]
  have hby := @s_by_lt V (s_zone q) (s_span t) h
  simp (disch := omega) only [m_by h hh _ hv0, m_inN, bnd_s, ite_n]
  have fin : ∀ s2 : Nat, s2 < 2 → s_sd V (s_zone q) (s_span t) h sd = s2 → ∃ μ2, f_X11_goes_b99 85 (nI q) (nI sd) (nI h) (nI t) (nI (s_pace V (s_zone q) (s_span t) h)) (nI (V 0 (4 * s_zone q + s_span t))) (nI s2) (sI (sI μ 85 29 (-nI 1)) 85 32 (nI (s_to V q h))) = some μ2 ∧ MF0 μ μ2 ∧ ((s_leg V q h t ∧ μ2.1 85 29 = nI (s_arr V q sd h t) ∧ μ2.1 85 30 = nI t ∧ μ2.1 85 31 = nI (s_sd V (s_zone q) (s_span t) h sd) ∧ μ2.1 85 32 = nI (s_to V q h)) ∨ (¬ s_leg V q h t ∧ μ2.1 85 29 = -nI 1)) := by
    intro s2 hs2 e
    refine ⟨_, m_99 hV M2 hq hs hs2 hh hv0 (by omega) hpl ht, ?_, Or.inl ⟨hleg, ?_, ?_, ?_, ?_⟩⟩
    · exact ((f1.tr f2).tr (MF0.s (by omega))).tr ((MF0.s (by omega)).tr (MF0.s (by omega)))
    · simp only [sI_1, upd_a, if_true]
      rw [if_neg (by decide), if_neg (by decide)]
      unfold s_arr s_cost
      rw [e]
    · simp only [sI_1, upd_a, if_true]
      rw [if_neg (by decide)]
    · simp only [sI_1, upd_a, if_true]
      rw [e]
    · simp only [sI_1, upd_a, if_true]
      rw [if_neg (by decide), if_neg (by decide), if_neg (by decide)]
  have hsd : s_sd V (s_zone q) (s_span t) h sd = if 1 ≤ s_by V (s_zone q) (s_span t) h ∧ s_by V (s_zone q) (s_span t) h ≤ 3 then 0 else if 5 ≤ s_by V (s_zone q) (s_span t) h then 1 else sd := rfl
  have hbe : (h + 8 - V 0 (4 * s_zone q + s_span t)) % 8 = s_by V (s_zone q) (s_span t) h := rfl
  rw [hbe]
  by_cases c1 : 1 ≤ s_by V (s_zone q) (s_span t) h ∧ s_by V (s_zone q) (s_span t) h ≤ 3
  · rw [if_neg (fun z => z c1)]
    exact fin 0 (by decide) (by rw [hsd, if_pos c1])
  · rw [if_pos c1]
    by_cases c2 : 5 ≤ s_by V (s_zone q) (s_span t) h ∧ s_by V (s_zone q) (s_span t) h ≤ 7
    · rw [if_neg (fun z => z c2)]
      exact fin 1 (by decide) (by rw [hsd, if_neg c1, if_pos c2.1])
    · rw [if_pos c2]
      exact fin sd hs (by rw [hsd, if_neg c1, if_neg (by omega)])
