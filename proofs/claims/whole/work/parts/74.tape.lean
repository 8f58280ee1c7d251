/-! tapes -/
theorem tp {x : Nat} (h : x < 6) : rf 52 x = 53 + 2 * x ∧ rf (53 + 2 * x) 0 = 54 + 2 * x ∧ aln (54 + 2 * x) = 60 ∧ knd (53 + 2 * x) = 7 := by rcases (show x = 0 ∨ x = 1 ∨ x = 2 ∨ x = 3 ∨ x = 4 ∨ x = 5 by omega) with rfl | rfl | rfl | rfl | rfl | rfl <;> decide +kernel
theorem cs_0 {β : Type} {k : Nat} {a : Option β} {b : Nat → Option β} : cs none k a b = a := (Eq.refl _).trans (Eq.refl _)
theorem cs_1 {β : Type} {k o : Nat} {a : Option β} {b : Nat → Option β} (h : knd o = k) : cs (some o) k a b = b o := if_pos h
theorem x_at {a1 : Int32} {b : Nat} {μ : Mem} (x1 : ∀ μ, f_X10_below a1 (nI 6) μ = some (nI b, μ)) (h : b = 0) : f_X10_tapeAt 0 a1 μ = some (none, μ) := by
  subst h
  unfold f_X10_tapeAt
  simp only [il]
  rw [bnd_e (x1 _), nI_b0]
theorem x_at1 {x : Nat} (hx : x < 6) {μ : Mem} (x1 : ∀ μ, f_X10_below (nI x) (nI 6) μ = some (nI 1, μ)) : f_X10_tapeAt 0 (nI x) μ = some (some (53 + 2 * x), μ) := by
  unfold f_X10_tapeAt
  simp only [il]
  rw [bnd_e (x1 _), nI_b1, rf_0_5, show aln 52 = 6 by decide +kernel, gA_n (by omega) (by omega), nI_clamp (by omega), (tp hx).1]
theorem srt_h {s : Nat} (h : s ≤ 5) : (srt s = -nI 1 ↔ s = 0) ∧ (srt s < nI 0 ↔ s = 0) ∧ (nI 0 ≤ srt s ↔ s ≠ 0) ∧ (∀ k, k < 5 → (srt s = nI k ↔ s = k + 1)) := (show ∀ s, s ≤ 5 → (srt s = -nI 1 ↔ s = 0) ∧ (srt s < nI 0 ↔ s = 0) ∧ (nI 0 ≤ srt s ↔ s ≠ 0) ∧ (∀ k, k < 5 → (srt s = nI k ↔ s = k + 1)) by decide +kernel) s h
/-- an index against a length, on both sides -/
theorem arg_l (x : Int32) (c : Nat) (hc : c ≤ 60) : ∃ b, (∀ μ, f_X10_below x (nI c) μ = some (nI b, μ)) ∧ (∀ μ, f_X11_in x (nI 0) (nI c - nI 1) μ = some (nI b, μ)) ∧ (b = 0 ∨ (b = 1 ∧ ∃ n, n < c ∧ x = nI n)) := by
  by_cases h : c = 0
  · subst h
    refine ⟨0, fun μ => ?_, fun μ => ?_, Or.inl rfl⟩
    · unfold f_X10_below
      simp only [il]
      by_cases h0 : x < nI 0
      · rw [if_pos h0]
      · obtain ⟨n, hn, rfl⟩ := argn h0
        rw [if_neg h0, if_pos (nI_le (Nat.zero_le _) hn)]
    · unfold f_X11_in
      simp only [il]
      by_cases h0 : x < nI 0
      · rw [if_pos h0]
      · obtain ⟨n, hn, rfl⟩ := argn h0
        rw [if_neg h0, if_pos (show nI 0 - nI 1 < nI n from by
          have h1 : nI 0 ≤ nI n := nI_le (Nat.zero_le _) hn
          rw [Int32.le_iff_toInt_le] at h1
          rw [Int32.lt_iff_toInt_lt]
          rw [show (nI 0).toInt = 0 by decide] at h1
          rw [show (nI 0 - nI 1).toInt = -1 by decide]
          omega)]
  · obtain ⟨b, h1, h2, h3⟩ := argc x c (by omega) (by omega)
    exact ⟨b, h1, fun μ => by rw [pk_sub (by omega)]; exact h2 μ, h3⟩
