/-! the reference: LAST and courses -/
theorem m5_nI {n : Nat} (h : n < 2 ^ 31) : ¬ nI n = -nI 5 := fun z => absurd (nI_le (Nat.zero_le n) h) (by rw [z]; decide)
/-- what is known of LEAST's row -/
def MLr (μ : Mem) (v : Nat → Nat) : Prop := ∀ k, k < 72 → μ.1 104 k = enc (v k)
section ML
variable {V : SV} {v : Nat → Nat}
theorem IsL.lt (hL : IsL V v) {k : Nat} (hk : k < 72) (h : v k < NV) : v k ≤ 160000 := by
  have hNV : NV = 1000000000 := rfl
  rcases hL.2.1 k hk with e | e <;> omega
theorem IsL.le (hL : IsL V v) {k : Nat} (hk : k < 72) : v k ≤ NV := by
  have hNV : NV = 1000000000 := rfl
  rcases hL.2.1 k hk with e | e <;> omega
/-- one way of the scan is no last leg -/
def NW (V : SV) (v : Nat → Nat) (s k h j : Nat) : Prop := ¬ (s_leg V (k / 2) h (s_dep (v k) j) ∧ s_st V (k / 2) (k % 2) h (s_dep (v k) j) = s ∧ s_arr V (k / 2) (k % 2) h (s_dep (v k) j) = v s)
theorem m_lo37 (hV : SVok V) (hL : IsL V v) {s : Nat} (hs : s < 72) (hvs : v s < NV) (hs0 : s ≠ 2 * V 7 0 + V 7 1) {μ0 : Mem} {k : Nat} (hk : k < 72) (K29 : Int32 → Mem → Option (Int32 × Mem)) (hK : ∀ μ, MSea μ V → MLr μ v → MF0 μ0 μ → (∀ c2, c2 < 8 * (k + 1) → ¬ LE V v (c2 / 8) (c2 % 8) s) → ∃ μf c, K29 (nI (k + 1)) μ = some (lcode c, μf) ∧ MF0 μ0 μf ∧ LW V v s c) : ∀ (n w : Nat) (μ : Mem), w ≤ 32 → 32 - w < n → MSea μ V → MLr μ v → MF0 μ0 μ → (∀ c2, c2 < 8 * k + w / 4 → ¬ LE V v (c2 / 8) (c2 % 8) s) → (∀ j, j < w % 4 → NW V v s k (w / 4) j) → ∃ μf c, f_X11_lastOf_b37 85 (nI s) K29 n (nI k) (nI w) μ = some (lcode c, μf) ∧ MF0 μ0 μf ∧ LW V v s c := by
  intro n
  induction n with
  | zero => intro w μ hw hn; omega
  | succ n ih =>
    intro w μ hw hn hM hR hF hc hj
    rw [f_X11_lastOf_b37]
    simp (disch := omega) only [il, nI_leI, lt_d, rf_85_0, rf_85_1, rf_85_2, rf_85_3, rf_85_4, rf_85_5, rf_85_6, rf_85_11, rf_85_13, rf_85_14, rf_85_16, rf_85_17, rf_85_19, rf_85_20, rf_85_21, rf_85_22, rf_85_24, rf_85_27, rf_85_33, rf_85_34, rf_85_36, rf_85_37, rf_85_38, rf_85_39, al_86, al_87, al_88, al_89, al_90, al_91, al_92, al_93, al_94, al_95, al_96, al_97, al_98, al_99, al_100, al_101, al_102, al_103, al_104, al_105, al_106, al_107, al_108, al_109, gA_n, nI_clamp, hR k hk]
    by_cases c : 32 ≤ w
    · rw [if_pos c, nI_add]
      exact hK μ hM hR hF (fun c2 h2 => hc c2 (by omega))
    rw [if_neg c]
    by_cases cv : v k = NV
    · rw [cv, enc_nv, if_pos (by decide), nI_add]
      refine hK μ hM hR hF (fun c2 h2 hLE => ?_)
      by_cases q : c2 < 8 * k + w / 4
      · exact hc c2 q hLE
      · have h3 := hLE.1
        rw [show c2 / 8 = k by omega] at h3
        omega
    have hNV : NV = 1000000000 := rfl
    have hvk : v k < NV := by rcases hL.2.1 k hk with e | e <;> omega
    have hb := hL.lt hk hvk
    rw [enc_n hvk, if_neg (nI_lt0 (by omega))]
    have hd := @s_dep_ub (v k) (w % 4) (by omega)
    simp (disch := omega) only [pk_div, pk_mul, pk_sub, n_rem]
    rw [bnd_e (m_dep (by omega) (by omega) μ)]
    obtain ⟨μ6, e6, f6, h6⟩ := m_goes hV hM (q := k / 2) (sd := k % 2) (h := w / 4) (t := s_dep (v k) (w % 4)) (by omega) (by omega) (by omega) (by omega)
    rw [bnv_e e6]
    have M6 := hM.fr f6
    have R6 : MLr μ6 v := fun k hk => by rw [f6.2.1 104 (by decide)]; exact hR k hk
    have F6 := hF.tr f6
    have hvs2 := hL.lt hs hvs
    rw [R6 s hs, enc_n hvs]
    have go : NW V v s k (w / 4) (w % 4) → ∃ μf c, f_X11_lastOf_b37 85 (nI s) K29 n (nI k) (nI w + nI 1) μ6 = some (lcode c, μf) ∧ MF0 μ0 μf ∧ LW V v s c := by
      intro hn2
      rw [nI_add]
      have base : ∀ j, j ≤ w % 4 → NW V v s k (w / 4) j := fun j hj2 => by
        rcases (show j < w % 4 ∨ j = w % 4 by omega) with q | q
        · exact hj j q
        · rw [q]; exact hn2
      refine ih (w + 1) μ6 (by omega) (by omega) M6 R6 F6 (fun c2 h2 hLE => ?_) (fun j hj2 => ?_)
      · by_cases q : c2 < 8 * k + w / 4
        · exact hc c2 q hLE
        · have e1 : c2 / 8 = k := by omega
          have e2 : c2 % 8 = w / 4 := by omega
          rw [e1, e2] at hLE
          obtain ⟨-, j, hj4, l1, l2, l3⟩ := hLE
          exact base j (by omega) ⟨l1, l2, l3⟩
      · have e2 : (w + 1) / 4 = w / 4 := by omega
        rw [e2]
        exact base j (by omega)
    rcases h6 with ⟨hleg, g1, g2, g3, g4⟩ | ⟨hleg, g1⟩
    · rw [g1, g3, g4]
      have har := s_arr_le hV (sd := k % 2) hleg
      have hsd := @s_sd_lt V (s_zone (k / 2)) (s_span (s_dep (v k) (w % 4))) (w / 4) (k % 2) (by omega)
      have hto := hleg.1
      simp (disch := omega) only [pk_mul, nI_add, nI_eq]
      by_cases ca : s_arr V (k / 2) (k % 2) (w / 4) (s_dep (v k) (w % 4)) = v s
      · rw [if_pos ca]
        by_cases cs : 2 * s_to V (k / 2) (w / 4) + s_sd V (s_zone (k / 2)) (s_span (s_dep (v k) (w % 4))) (w / 4) (k % 2) = s
        · rw [if_pos cs]
          refine ⟨μ6, 8 * k + w / 4, ?_, F6, Or.inr ⟨by omega, hvs, hs0, ?_, hc⟩⟩
          · unfold lcode
            rw [if_neg (by omega), show (8 * k + w / 4) / 16 = k / 2 by omega, show (8 * k + w / 4) / 8 % 2 = k % 2 by omega, show (8 * k + w / 4) % 8 = w / 4 by omega]
          · rw [show (8 * k + w / 4) / 8 = k by omega, show (8 * k + w / 4) % 8 = w / 4 by omega]
            exact ⟨hvk, w % 4, by omega, hleg, cs, ca⟩
        · rw [if_neg cs]; rw [← nI_add]
          exact go (fun z => cs z.2.1)
      · rw [if_neg ca]; rw [← nI_add]
        exact go (fun z => ca z.2.2)
    · rw [g1, if_neg (fun z => nI_m1 (by omega) z.symm)]
      exact go (fun z => hleg z.1)
theorem m_lo29 (hV : SVok V) (hL : IsL V v) {s : Nat} (hs : s < 72) (hvs : v s < NV) (hs0 : s ≠ 2 * V 7 0 + V 7 1) {μ0 : Mem} : ∀ (n k : Nat) (μ : Mem), k ≤ 72 → 72 - k < n → MSea μ V → MLr μ v → MF0 μ0 μ → (∀ c2, c2 < 8 * k → ¬ LE V v (c2 / 8) (c2 % 8) s) → ∃ μf c, f_X11_lastOf_b29 85 (nI s) n (nI k) μ = some (lcode c, μf) ∧ MF0 μ0 μf ∧ LW V v s c := by
  intro n
  induction n with
  | zero => intro k μ hk hn; omega
  | succ n ih =>
    intro k μ hk hn hM hR hF hc
    rw [f_X11_lastOf_b29]
    simp (disch := omega) only [il, nI_leI]
    by_cases c : 72 ≤ k
    · exfalso
      obtain ⟨i, hi, hiv, h, hh, j, hj, hl, hst, har⟩ := hL.2.2.2 s hs hs0 hvs
      refine hc (8 * i + h) (by omega) ?_
      rw [show (8 * i + h) / 8 = i by omega, show (8 * i + h) % 8 = h by omega]
      exact ⟨hiv, j, hj, hl, hst, har⟩
    · rw [if_neg c]
      exact m_lo37 hV hL hs hvs hs0 (by omega) _ (fun μ g1 g2 g3 g4 => ih (k + 1) μ (by omega) (by omega) g1 g2 g3 g4) FU 0 μ (by omega) (Nat.le_of_ble_eq_true rfl) hM hR hF (fun c2 h2 => hc c2 (by omega)) (fun j hj => by omega)
theorem m_lastOf (hV : SVok V) (hL : IsL V v) {s : Nat} (hs : s < 72) {μ : Mem} (hM : MSea μ V) (hR : MLr μ v) : ∃ μf c, f_X11_lastOf 85 (nI s) μ = some (lcode c, μf) ∧ MF0 μ μf ∧ LW V v s c := by
  have hNV : NV = 1000000000 := rfl
  have hVb := hV.2.2.2.2.2
  unfold f_X11_lastOf
  simp (disch := omega) only [il, rf_85_0, rf_85_1, rf_85_2, rf_85_3, rf_85_4, rf_85_5, rf_85_6, rf_85_11, rf_85_13, rf_85_14, rf_85_16, rf_85_17, rf_85_19, rf_85_20, rf_85_21, rf_85_22, rf_85_24, rf_85_27, rf_85_33, rf_85_34, rf_85_36, rf_85_37, rf_85_38, rf_85_39, al_86, al_87, al_88, al_89, al_90, al_91, al_92, al_93, al_94, al_95, al_96, al_97, al_98, al_99, al_100, al_101, al_102, al_103, al_104, al_105, al_106, al_107, al_108, al_109, gA_n, nI_clamp, hR s hs, hM.2.2.2.2.2.2.2.1, hM.2.2.2.2.2.2.2.2.1, pk_mul, nI_add, nI_eq]
  by_cases cv : v s = NV
  · rw [cv, enc_nv, if_pos (by decide)]
    exact ⟨μ, 576, rfl, MF0.rf μ, Or.inl ⟨rfl, Or.inl cv⟩⟩
  · have hvs : v s < NV := by have := hL.le hs; omega
    have hb := hL.lt hs hvs
    rw [enc_n hvs, if_neg (nI_lt0 (by omega))]
    by_cases c0 : s = 2 * V 7 0 + V 7 1
    · rw [if_pos c0]
      exact ⟨μ, 576, rfl, MF0.rf μ, Or.inl ⟨rfl, Or.inr c0⟩⟩
    · rw [if_neg c0]
      exact m_lo29 hV hL hs hvs c0 FU 0 μ (by omega) (Nat.le_of_ble_eq_true rfl) hM hR (MF0.rf μ) (fun c2 h2 => by omega)
end ML
