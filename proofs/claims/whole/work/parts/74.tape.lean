/-! tapes -/
theorem tp {x : Nat} (h : x < 6) : rf 52 x = 53 + 2 * x ∧ rf (53 + 2 * x) 0 = 54 + 2 * x ∧ aln (54 + 2 * x) = 60 ∧ knd (53 + 2 * x) = 7 := by rcases (show x = 0 ∨ x = 1 ∨ x = 2 ∨ x = 3 ∨ x = 4 ∨ x = 5 by omega) with rfl | rfl | rfl | rfl | rfl | rfl <;> decide +kernel
theorem cs_0 {β : Type} {k : Nat} {a : Option β} {b : Nat → Option β} : cs none k a b = a := (Eq.refl _).trans (Eq.refl _)
theorem cs_1 {β : Type} {k o : Nat} {a : Option β} {b : Nat → Option β} (h : knd o = k) : cs (some o) k a b = b o := if_pos h
theorem x_at {a1 : Int32} {b : Nat} {μ : Mem} (x1 : ∀ μ, f_X10_below a1 (nI 6) μ = some (nI b, μ)) (h : b = 0) : f_X10_tapeAt 0 a1 μ = some (none, μ) := by
  subst h
  unfold f_X10_tapeAt
  simp only [il]
  rw [bnd_e (x1 _), nI_b0]
theorem x_at1 {x : Nat} (hx : x < 6) {μ : Mem} (x1 : ∀ μ, f_X10_below (nI x) (nI 6) μ = some (nI 1, μ)) : f_X10_tapeAt 0 (nI x) μ = some (some (53 + 2 * x), μ) := by
  unfold f_X10_tapeAt
  simp only [il]
  rw [bnd_e (x1 _), nI_b1, rf_0_5, show aln 52 = 6 by decide +kernel, gA_n (by omega) (by omega), nI_clamp (by omega), (tp hx).1]
theorem srt_h {s : Nat} (h : s ≤ 5) : (srt s = -nI 1 ↔ s = 0) ∧ (srt s < nI 0 ↔ s = 0) ∧ (nI 0 ≤ srt s ↔ s ≠ 0) ∧ (∀ k, k < 5 → (srt s = nI k ↔ s = k + 1)) := (show ∀ s, s ≤ 5 → (srt s = -nI 1 ↔ s = 0) ∧ (srt s < nI 0 ↔ s = 0) ∧ (nI 0 ≤ srt s ↔ s ≠ 0) ∧ (∀ k, k < 5 → (srt s = nI k ↔ s = k + 1)) by decide +kernel) s h
/-- an index against a length, on both sides -/
theorem arg_l (x : Int32) (c : Nat) (hc : c ≤ 60) : ∃ b, (∀ μ, f_X10_below x (nI c) μ = some (nI b, μ)) ∧ (∀ μ, f_X11_in x (nI 0) (nI c - nI 1) μ = some (nI b, μ)) ∧ (b = 0 ∨ (b = 1 ∧ ∃ n, n < c ∧ x = nI n)) := by
  by_cases h : c = 0
  · subst h
    refine ⟨0, fun μ => ?_, fun μ => ?_, Or.inl rfl⟩
    · unfold f_X10_below
      simp only [il]
      by_cases h0 : x < nI 0
      · rw [if_pos h0]
      · obtain ⟨n, hn, rfl⟩ := argn h0
        rw [if_neg h0, if_pos (nI_le (Nat.zero_le _) hn)]
    · unfold f_X11_in
      simp only [il]
      by_cases h0 : x < nI 0
      · rw [if_pos h0]
      · obtain ⟨n, hn, rfl⟩ := argn h0
        rw [if_neg h0, if_pos (show nI 0 - nI 1 < nI n from by
          have h1 : nI 0 ≤ nI n := nI_le (Nat.zero_le _) hn
          rw [Int32.le_iff_toInt_le] at h1
          rw [Int32.lt_iff_toInt_lt]
          rw [show (nI 0).toInt = 0 by decide] at h1
          rw [show (nI 0 - nI 1).toInt = -1 by decide]
          omega)]
  · obtain ⟨b, h1, h2, h3⟩ := argc x c (by omega) (by omega)
    exact ⟨b, h1, fun μ => by rw [pk_sub (by omega)]; exact h2 μ, h3⟩
theorem call_peek (a1 a2 : Int32) : CALL (f_X10_peek 0 a1 a2) (f_X11_peek 85 a1 a2) := by
  intro n S μ hn hX hM
  obtain ⟨b1, x1, m1, h1⟩ := arg_ta a1
  rcases h1 with rfl | ⟨rfl, x, hx, rfl⟩
  · exact call_q hX hM (r := -9223372036854775808) (by unfold f_X10_peek; rw [bnd_e (x_at x1 rfl), cs_0]) (by unfold f_X11_peek; rw [bnd_e (m1 _)]; exact if_pos rfl)
  obtain ⟨t1, t2, t3, t4⟩ := tp hx
  obtain ⟨p1, p2, p3⟩ := hX.2.2.2.2.2 x hx
  obtain ⟨r1, r2, r3⟩ := hM.2.2.2.2.2 x hx
  obtain ⟨k1, k2, k3⟩ := hX.1.2.2.2.2 x hx
  obtain ⟨g1, g2, g3, g4⟩ := srt_h k1
  obtain ⟨b2, x2, m2, h2⟩ := arg_l a2 (S.2.2.2.2.1 4 x) k2
  have eX : f_X10_peek 0 (nI x) a2 μ = (if srt (S.2.2.2.2.1 3 x) = -nI 1 then some (-9223372036854775808, μ) else if nI b2 = nI 0 then some (-9223372036854775808, μ) else bnd (f_X9_get (53 + 2 * x) a2 μ) (fun r μ => some (r, μ))) := by
    unfold f_X10_peek
    rw [bnd_e (x_at1 hx x1), cs_1 t4]
    unfold f_X9_holdsNothing f_X9_length
    rw [p1]
    by_cases c : srt (S.2.2.2.2.1 3 x) = -nI 1
    · rw [if_pos c, if_pos c, bnd_s]; exact if_neg (by decide)
    · rw [if_neg c, if_neg c, bnd_s, if_pos (by decide), bnd_s, p2, bnd_e (x2 _)]
      rfl
  have eM : f_X11_peek 85 (nI x) a2 μ = (if nI b2 = nI 0 then some (-9223372036854775808, μ) else gA (nI 60 * nI x + a2) 360 (some (μ.2 108 (nI 60 * nI x + a2).toNatClampNeg, μ))) := by
    unfold f_X11_peek
    simp (disch := omega) only [il, rf_85_0, rf_85_1, rf_85_2, rf_85_3, rf_85_4, rf_85_5, rf_85_6, rf_85_11, rf_85_13, rf_85_14, rf_85_16, rf_85_17, rf_85_19, rf_85_20, rf_85_21, rf_85_22, rf_85_24, rf_85_27, rf_85_33, rf_85_34, rf_85_36, rf_85_37, rf_85_38, rf_85_39, al_86, al_87, al_88, al_89, al_90, al_91, al_92, al_93, al_94, al_95, al_96, al_97, al_98, al_99, al_100, al_101, al_102, al_103, al_104, al_105, al_106, al_107, al_108, al_109, gA_n, nI_clamp]
    rw [bnd_e (m1 _), nI_b1, r2, bnd_e (m2 _)]
    rfl
  sorry
