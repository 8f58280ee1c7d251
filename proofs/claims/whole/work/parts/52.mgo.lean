/-! the reference: small functions, one leg -/
theorem mi_turn : ∀ a, a < 8 → ∀ b, b < 8 → mimin (((nI a - nI b) + nI 8) - ((nI a - nI b) + nI 8) / nI 8 * nI 8) (nI 8 - (((nI a - nI b) + nI 8) - ((nI a - nI b) + nI 8) / nI 8 * nI 8)) = nI (s_turn a b) := by decide +kernel
theorem m_turn {a b : Nat} (ha : a < 8) (hb : b < 8) (μ : Mem) : f_X11_turn (nI a) (nI b) μ = some (nI (s_turn a b), μ) := by
  unfold f_X11_turn
  rw [lt_d]
  exact congrArg (fun z => some (z, μ)) (mi_turn a ha b hb)
theorem m_by : ∀ a, a < 8 → ∀ b, b < 8 → ((nI a - nI b) + nI 8) - ((nI a - nI b) + nI 8) / nI 8 * nI 8 = nI ((a + 8 - b) % 8) := by decide +kernel
theorem m_zoneOf : ∀ q, q < 36 → ((nI 2 * (nI q / nI 18)) + ((nI q - nI q / nI 6 * nI 6) / nI 3)) = nI (s_zone q) := by decide +kernel
theorem m_zone {q : Nat} (h : q < 36) (μ : Mem) : f_X11_zoneOf (nI q) μ = some (nI (s_zone q), μ) := congrArg (fun z => some (z, μ)) (m_zoneOf q h)
theorem m_span {t : Nat} (h : t < 2 ^ 31) (μ : Mem) : f_X11_spanOf (nI t) μ = some (nI (s_span t), μ) := by
  unfold f_X11_spanOf s_span
  simp (disch := omega) only [il, nI_add, pk_mul, pk_sub, pk_div, pk_rem, nI_clamp, nI_leI, nI_ltI, nI_eq]
theorem m_len {h : Nat} (hh : h < 8) (μ : Mem) : f_X11_length (nI h) μ = some (nI (s_len h), μ) := by
  unfold f_X11_length s_len
  simp (disch := omega) only [il, nI_add, pk_mul, pk_sub, pk_div, pk_rem, nI_clamp, nI_leI, nI_ltI, nI_eq]
  split <;> rfl
theorem m_dep {t j : Nat} (ht : t < 2 ^ 29) (hj : j < 4) (μ : Mem) : f_X11_minuteOf (nI t) (nI j) μ = some (nI (s_dep t j), μ) := by
  unfold f_X11_minuteOf s_dep
  simp (disch := omega) only [il, nI_add, pk_mul, pk_sub, pk_div, pk_rem, nI_clamp, nI_leI, nI_ltI, nI_eq]
  split <;> rfl
theorem m_in (x a b : Int32) (μ : Mem) : f_X11_in x a b μ = some (if a ≤ x ∧ x ≤ b then nI 1 else nI 0, μ) := by
  unfold f_X11_in
  by_cases h1 : x < a
  · rw [if_pos h1, if_neg (fun q => Int32.not_lt.mpr q.1 h1)]; rfl
  · rw [if_neg h1]
    by_cases h2 : b < x
    · rw [if_pos h2, if_neg (fun q => Int32.not_lt.mpr q.2 h2)]; rfl
    · rw [if_neg h2, if_pos ⟨Int32.not_lt.mp h1, Int32.not_lt.mp h2⟩]; rfl
theorem m_inN {x a b : Nat} (hx : x < 2 ^ 31) (ha : a < 2 ^ 31) (hb : b < 2 ^ 31) (μ : Mem) : f_X11_in (nI x) (nI a) (nI b) μ = some (if a ≤ x ∧ x ≤ b then nI 1 else nI 0, μ) := by
  rw [m_in]
  simp (disch := omega) only [nI_leI]
