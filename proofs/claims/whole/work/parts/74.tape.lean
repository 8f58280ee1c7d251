/-! tapes -/
theorem tp {x : Nat} (h : x < 6) : rf 52 x = 53 + 2 * x ∧ rf (53 + 2 * x) 0 = 54 + 2 * x ∧ aln (54 + 2 * x) = 60 ∧ knd (53 + 2 * x) = 7 := by rcases (show x = 0 ∨ x = 1 ∨ x = 2 ∨ x = 3 ∨ x = 4 ∨ x = 5 by omega) with rfl | rfl | rfl | rfl | rfl | rfl <;> decide +kernel
theorem cs_0 {β : Type} {k : Nat} {a : Option β} {b : Nat → Option β} : cs none k a b = a := (Eq.refl _).trans (Eq.refl _)
theorem cs_1 {β : Type} {k o : Nat} {a : Option β} {b : Nat → Option β} (h : knd o = k) : cs (some o) k a b = b o := if_pos h
theorem x_at {a1 : Int32} {b : Nat} {μ : Mem} (x1 : ∀ μ, f_X10_below a1 (nI 6) μ = some (nI b, μ)) (h : b = 0) : f_X10_tapeAt 0 a1 μ = some (none, μ) := by
  subst h
  unfold f_X10_tapeAt
  simp only [il]
  rw [bnd_e (x1 _), nI_b0]
theorem x_at1 {x : Nat} (hx : x < 6) {μ : Mem} (x1 : ∀ μ, f_X10_below (nI x) (nI 6) μ = some (nI 1, μ)) : f_X10_tapeAt 0 (nI x) μ = some (some (53 + 2 * x), μ) := by
  unfold f_X10_tapeAt
  simp only [il]
  rw [bnd_e (x1 _), nI_b1, rf_0_5, show aln 52 = 6 by decide +kernel, gA_n (by omega) (by omega), nI_clamp (by omega), (tp hx).1]
