/-! steer, see, book, event -/
theorem x_add {r cap c x y : Nat} {μ : Mem} (h0 : rf r 0 = r + 1) (h1 : rf r 1 = r + 2) (a0 : aln (r + 1) = cap) (a1 : aln (r + 2) = cap) (hcap : cap < 100) (hs : μ.1 r 2 = nI c) (hc : c ≤ cap) : f_X5_add r (nI x) (nI y) μ = some (if c = cap then (-nI 4, μ) else (nI (c + 1), sI (sI (sI μ (r + 1) c (nI x)) (r + 2) c (nI y)) r 2 (nI (c + 1)))) := by
  unfold f_X5_add
  simp (disch := omega) only [il, h0, h1, a0, a1, hs, nI_ltI]
  by_cases e : c = cap
  · rw [if_neg (by omega), if_pos e]
  · rw [if_pos (by omega), if_neg e]
    simp (disch := omega) only [gA_n, nI_clamp, lt_d]
    have e1 : (sI μ (r + 1) c (nI x)).1 r 2 = nI c := by rw [sI_o (by omega)]; exact hs
    rw [e1]
    simp (disch := omega) only [gA_n, nI_clamp]
    have e2 : (sI (sI μ (r + 1) c (nI x)) (r + 2) c (nI y)).1 r 2 = nI c := by rw [sI_o (by omega)]; exact e1
    rw [e2, nI_add, sI_e]
theorem fin_h {fx fm : Mem → Option (Int32 × Mem)} {n : Nat} {S : ST} {μ μ1 μ2 : Mem} {r : Int32} {H2 : SV} (hX : XI n S μ) (hM : MI S μ) (e1 : fx μ = some (r, μ1)) (e2 : fm μ1 = some (r, μ2)) (ok : HVok H2) (x1 : XHand 8 μ1 H2) (fx9 : ∀ i, i < 9 ∨ 20 < i → μ1.1 i = μ.1 i ∧ μ1.2 i = μ.2 i) (fl : lo μ1 μ2) (m1 : MHand μ1 S.2.1 → MHand μ2 H2) (f1 : ∀ i, 85 < i → i < 93 ∨ 99 < i → μ2.1 i = μ1.1 i ∧ μ2.2 i = μ1.2 i) (f2 : ∀ k, k ≠ 10 → k ≠ 12 → k ≠ 15 → k ≠ 18 → μ2.1 85 k = μ1.1 85 k) : ∃ r μ1 μ2 S2, fx μ = some (r, μ1) ∧ fm μ1 = some (r, μ2) ∧ XI (n + 1) S2 μ2 ∧ MI S2 μ2 := by
  have hh : hi μ μ1 := fun i hi => fx9 i (by omega)
  have hM1 := hM.hi hh
  exact ⟨r, μ1, μ2, (S.1, H2, S.2.2), e1, e2, ((hX.hand ok x1 fx9).lo fl).up (by omega), hM1.hand ok (m1 hM1.2.2.1) f1 f2⟩
theorem m1_n {n : Nat} (h : n < 2 ^ 31) : ¬ nI n = -nI 1 := nI_m1 h
theorem arg_m (x : Int32) (c : Nat) (hc : c < 2 ^ 31) : ((x < nI 0 ∨ (¬ x < nI 0 ∧ ¬ x ≤ nI c)) ∧ ∀ μ, f_X11_in x (nI 0) (nI c) μ = some (nI 0, μ)) ∨ (∃ y, y ≤ c ∧ x = nI y ∧ ¬ x < nI 0 ∧ x ≤ nI c ∧ ∀ μ, f_X11_in x (nI 0) (nI c) μ = some (nI 1, μ)) := by
  by_cases h0 : x < nI 0
  · exact Or.inl ⟨Or.inl h0, fun μ => by unfold f_X11_in; rw [if_pos h0]; rfl⟩
  obtain ⟨y, hy, rfl⟩ := argn h0
  by_cases h1 : y ≤ c
  · exact Or.inr ⟨y, h1, rfl, h0, nI_le h1 hc, fun μ => by unfold f_X11_in; rw [if_neg h0, if_neg (fun z => absurd ((nI_ltI hc hy).mp z) (by omega))]; rfl⟩
  · exact Or.inl ⟨Or.inr ⟨h0, nI_ge (by omega) hy⟩, fun μ => by unfold f_X11_in; rw [if_neg h0, if_pos (nI_lt (by omega) hy)]; rfl⟩

theorem call_see (a1 a2 : Int32) : CALL (f_X10_see 0 a1 a2) (f_X11_see 85 a1 a2) := by
  intro n S μ hn hX hM
  have ex : ∀ μ, f_X10_see 0 a1 a2 μ = bnd (f_X10_tellSquareAndMinute 12 a1 a2 μ) (fun r μ => some (r, μ)) := fun μ => by unfold f_X10_see; rw [rf_0_1, rf_8_1]
  by_cases hm1 : a1 = -nI 1
  · subst hm1
    refine fin_h (r := nI 0) (μ1 := sI μ 12 2 (nI 0)) (μ2 := sI (sI μ 12 2 (nI 0)) 85 12 (nI 0)) hX hM ?_ ?_ (h_se_0ok hX.1.1.2) (h_se_0x hX.2.2.1) (fun i hi => ⟨sI_o (by omega), rfl⟩) (fun i hi => ⟨sI_o (by omega), rfl⟩) h_se_0m (fun i _ _ => ⟨sI_o (by omega), rfl⟩) (fun k _ _ _ _ => sI_n (Or.inr (by omega)))
    · rw [ex]; unfold f_X10_tellSquareAndMinute f_X5_clear; simp only [il, lt_d]; rw [if_pos trivial, bnd_s, bnd_s]
    · unfold f_X11_see; simp only [il, lt_d]; rw [if_pos trivial]
  obtain ⟨b1, x1, p1, h1⟩ := arg_sq a1
  rcases h1 with rfl | ⟨rfl, x, hx, rfl⟩
  · refine call_0 hX hM (r := -nI 1) ?_ (hi.rf μ) ?_ (Qm.rf μ)
    · rw [ex]; unfold f_X10_tellSquareAndMinute; simp only [il]; rw [if_neg hm1, bnd_e (x1 _), nI_b0, bnd_s]
    · unfold f_X11_see; simp only [il]; rw [if_neg hm1, bnd_e (p1 _), nI_b0]
  have ex2 : ∀ μ, f_X10_see 0 (nI x) a2 μ = bnd (if a2 < nI 0 then some (-nI 2, μ) else if a2 ≤ nI 99999 then bnd (f_X5_add 12 (nI x) a2 μ) (fun r4 μ3 => some (r4, μ3)) else some (-nI 2, μ)) (fun r μ => some (r, μ)) := fun μ => by
    rw [ex]; unfold f_X10_tellSquareAndMinute; simp only [il]; rw [if_neg hm1, bnd_e (x1 _), nI_b1]
  rcases arg_m a2 99999 (by decide) with ⟨q1, q2⟩ | ⟨y, hy, rfl, q0, q1, q2⟩
  · refine call_0 hX hM (r := -nI 2) ?_ (hi.rf μ) ?_ (Qm.rf μ)
    · rw [ex2]
      rcases q1 with q | ⟨q0, q⟩
      · rw [if_pos q, bnd_s]
      · rw [if_neg q0, if_neg q, bnd_s]
    · unfold f_X11_see; simp only [il]; rw [if_neg hm1, bnd_e (p1 _), nI_b1, bnd_e (q2 _), nI_b0]
  have hc := hX.1.1.2.2.1.1
  have eA := x_add (x := x) (y := y) (cap := 5) rf_12_0 rf_12_1 al_13 al_14 (by decide) hX.2.2.1.2.1.1 hc
  have em : ∀ μ, MHand μ S.2.1 → f_X11_see 85 (nI x) (nI y) μ = some (if S.2.1 15 1 = 5 then (-nI 4, μ) else (nI (S.2.1 15 1 + 1), sI (sI (sI μ 94 (S.2.1 15 1) (nI x)) 95 (S.2.1 15 1) (nI y)) 85 12 (nI (S.2.1 15 1 + 1)))) := by
    intro μ hm
    have hs := hm.2.1.1
    unfold f_X11_see
    simp only [il]
    rw [if_neg hm1, bnd_e (p1 _), nI_b1, bnd_e (q2 _), nI_b1, hs]
    simp (disch := omega) only [nI_eq]
    by_cases e : S.2.1 15 1 = 5
    · rw [if_pos e, if_pos e]
    · rw [if_neg e, if_neg e]
      simp (disch := omega) only [rf_85_0, rf_85_1, rf_85_2, rf_85_3, rf_85_4, rf_85_5, rf_85_6, rf_85_11, rf_85_13, rf_85_14, rf_85_16, rf_85_17, rf_85_19, rf_85_20, rf_85_21, rf_85_22, rf_85_24, rf_85_27, rf_85_33, rf_85_34, rf_85_36, rf_85_37, rf_85_38, rf_85_39, al_86, al_87, al_88, al_89, al_90, al_91, al_92, al_93, al_94, al_95, al_96, al_97, al_98, al_99, al_100, al_101, al_102, al_103, al_104, al_105, al_106, al_107, al_108, al_109, gA_n, nI_clamp, lt_d]
      have e1 : (sI μ 94 (S.2.1 15 1) (nI x)).1 85 12 = nI (S.2.1 15 1) := by rw [sI_o (by decide)]; exact hs
      rw [e1]
      simp (disch := omega) only [rf_85_0, rf_85_1, rf_85_2, rf_85_3, rf_85_4, rf_85_5, rf_85_6, rf_85_11, rf_85_13, rf_85_14, rf_85_16, rf_85_17, rf_85_19, rf_85_20, rf_85_21, rf_85_22, rf_85_24, rf_85_27, rf_85_33, rf_85_34, rf_85_36, rf_85_37, rf_85_38, rf_85_39, al_86, al_87, al_88, al_89, al_90, al_91, al_92, al_93, al_94, al_95, al_96, al_97, al_98, al_99, al_100, al_101, al_102, al_103, al_104, al_105, al_106, al_107, al_108, al_109, gA_n, nI_clamp, lt_d]
      have e2 : (sI (sI μ 94 (S.2.1 15 1) (nI x)) 95 (S.2.1 15 1) (nI y)).1 85 12 = nI (S.2.1 15 1) := by rw [sI_o (by decide)]; exact e1
      rw [e2, nI_add, sI_e]
  by_cases e : S.2.1 15 1 = 5
  · rw [if_pos e] at eA
    refine call_0 hX hM (r := -nI 4) ?_ (hi.rf μ) ?_ (Qm.rf μ)
    · rw [ex2, if_neg q0, if_pos q1, bnd_e eA, bnd_s]
    · rw [em μ hM.2.2.1, if_pos e]
  · rw [if_neg e] at eA
    have hh : hi μ (sI (sI (sI μ 13 (S.2.1 15 1) (nI x)) 14 (S.2.1 15 1) (nI y)) 12 2 (nI (S.2.1 15 1 + 1))) := fun i h => ⟨by rw [sI_o (by omega), sI_o (by omega), sI_o (by omega)], rfl⟩
    refine fin_h (r := nI (S.2.1 15 1 + 1)) (μ1 := sI (sI (sI μ 13 (S.2.1 15 1) (nI x)) 14 (S.2.1 15 1) (nI y)) 12 2 (nI (S.2.1 15 1 + 1))) (μ2 := sI (sI (sI (sI (sI (sI μ 13 (S.2.1 15 1) (nI x)) 14 (S.2.1 15 1) (nI y)) 12 2 (nI (S.2.1 15 1 + 1))) 94 (S.2.1 15 1) (nI x)) 95 (S.2.1 15 1) (nI y)) 85 12 (nI (S.2.1 15 1 + 1))) hX hM (by rw [ex2, if_neg q0, if_pos q1, bnd_e eA, bnd_s]) (by rw [em _ (hM.hi hh).2.2.1, if_neg e]) (h_se_ok hX.1.1.2 (by omega) hx hy) (h_se_x hX.2.2.1) (fun i hi => ⟨by rw [sI_o (by omega), sI_o (by omega), sI_o (by omega)], rfl⟩) (fun i hi => ⟨by rw [sI_o (by omega), sI_o (by omega), sI_o (by omega)], rfl⟩) h_se_m (fun i _ _ => ⟨by rw [sI_o (by omega), sI_o (by omega), sI_o (by omega)], rfl⟩) (fun k _ _ _ _ => by rw [sI_n (Or.inr (by omega)), sI_o (by decide), sI_o (by decide)])
theorem call_book (a1 a2 : Int32) : CALL (f_X10_book 0 a1 a2) (f_X11_book 85 a1 a2) := by
  intro n S μ hn hX hM
  have ex : ∀ μ, f_X10_book 0 a1 a2 μ = bnd (f_X10_tellSquareAndMinute 18 a1 a2 μ) (fun r μ => some (r, μ)) := fun μ => by unfold f_X10_book; rw [rf_0_1, rf_8_3]
  by_cases hm1 : a1 = -nI 1
  · subst hm1
    refine fin_h (r := nI 0) (μ1 := sI μ 18 2 (nI 0)) (μ2 := sI (sI μ 18 2 (nI 0)) 85 18 (nI 0)) hX hM ?_ ?_ (h_bo_0ok hX.1.1.2) (h_bo_0x hX.2.2.1) (fun i hi => ⟨sI_o (by omega), rfl⟩) (fun i hi => ⟨sI_o (by omega), rfl⟩) h_bo_0m (fun i _ _ => ⟨sI_o (by omega), rfl⟩) (fun k _ _ _ _ => sI_n (Or.inr (by omega)))
    · rw [ex]; unfold f_X10_tellSquareAndMinute f_X5_clear; simp only [il, lt_d]; rw [if_pos trivial, bnd_s, bnd_s]
    · unfold f_X11_book; simp only [il, lt_d]; rw [if_pos trivial]
  obtain ⟨b1, x1, p1, h1⟩ := arg_sq a1
  rcases h1 with rfl | ⟨rfl, x, hx, rfl⟩
  · refine call_0 hX hM (r := -nI 1) ?_ (hi.rf μ) ?_ (Qm.rf μ)
    · rw [ex]; unfold f_X10_tellSquareAndMinute; simp only [il]; rw [if_neg hm1, bnd_e (x1 _), nI_b0, bnd_s]
    · unfold f_X11_book; simp only [il]; rw [if_neg hm1, bnd_e (p1 _), nI_b0]
  have ex2 : ∀ μ, f_X10_book 0 (nI x) a2 μ = bnd (if a2 < nI 0 then some (-nI 2, μ) else if a2 ≤ nI 99999 then bnd (f_X5_add 18 (nI x) a2 μ) (fun r4 μ3 => some (r4, μ3)) else some (-nI 2, μ)) (fun r μ => some (r, μ)) := fun μ => by
    rw [ex]; unfold f_X10_tellSquareAndMinute; simp only [il]; rw [if_neg hm1, bnd_e (x1 _), nI_b1]
  rcases arg_m a2 99999 (by decide) with ⟨q1, q2⟩ | ⟨y, hy, rfl, q0, q1, q2⟩
  · refine call_0 hX hM (r := -nI 2) ?_ (hi.rf μ) ?_ (Qm.rf μ)
    · rw [ex2]
      rcases q1 with q | ⟨q0, q⟩
      · rw [if_pos q, bnd_s]
      · rw [if_neg q0, if_neg q, bnd_s]
    · unfold f_X11_book; simp only [il]; rw [if_neg hm1, bnd_e (p1 _), nI_b1, bnd_e (q2 _), nI_b0]
  have hc := hX.1.1.2.2.2.2.1
  have eA := x_add (x := x) (y := y) (cap := 8) rf_18_0 rf_18_1 al_19 al_20 (by decide) hX.2.2.1.2.2.2.1 hc
  have em : ∀ μ, MHand μ S.2.1 → f_X11_book 85 (nI x) (nI y) μ = some (if S.2.1 15 3 = 8 then (-nI 4, μ) else (nI (S.2.1 15 3 + 1), sI (sI (sI μ 98 (S.2.1 15 3) (nI x)) 99 (S.2.1 15 3) (nI y)) 85 18 (nI (S.2.1 15 3 + 1)))) := by
    intro μ hm
    have hs := hm.2.2.2.1
    unfold f_X11_book
    simp only [il]
    rw [if_neg hm1, bnd_e (p1 _), nI_b1, bnd_e (q2 _), nI_b1, hs]
    simp (disch := omega) only [nI_eq]
    by_cases e : S.2.1 15 3 = 8
    · rw [if_pos e, if_pos e]
    · rw [if_neg e, if_neg e]
      simp (disch := omega) only [rf_85_0, rf_85_1, rf_85_2, rf_85_3, rf_85_4, rf_85_5, rf_85_6, rf_85_11, rf_85_13, rf_85_14, rf_85_16, rf_85_17, rf_85_19, rf_85_20, rf_85_21, rf_85_22, rf_85_24, rf_85_27, rf_85_33, rf_85_34, rf_85_36, rf_85_37, rf_85_38, rf_85_39, al_86, al_87, al_88, al_89, al_90, al_91, al_92, al_93, al_94, al_95, al_96, al_97, al_98, al_99, al_100, al_101, al_102, al_103, al_104, al_105, al_106, al_107, al_108, al_109, gA_n, nI_clamp, lt_d]
      have e1 : (sI μ 98 (S.2.1 15 3) (nI x)).1 85 18 = nI (S.2.1 15 3) := by rw [sI_o (by decide)]; exact hs
      rw [e1]
      simp (disch := omega) only [rf_85_0, rf_85_1, rf_85_2, rf_85_3, rf_85_4, rf_85_5, rf_85_6, rf_85_11, rf_85_13, rf_85_14, rf_85_16, rf_85_17, rf_85_19, rf_85_20, rf_85_21, rf_85_22, rf_85_24, rf_85_27, rf_85_33, rf_85_34, rf_85_36, rf_85_37, rf_85_38, rf_85_39, al_86, al_87, al_88, al_89, al_90, al_91, al_92, al_93, al_94, al_95, al_96, al_97, al_98, al_99, al_100, al_101, al_102, al_103, al_104, al_105, al_106, al_107, al_108, al_109, gA_n, nI_clamp, lt_d]
      have e2 : (sI (sI μ 98 (S.2.1 15 3) (nI x)) 99 (S.2.1 15 3) (nI y)).1 85 18 = nI (S.2.1 15 3) := by rw [sI_o (by decide)]; exact e1
      rw [e2, nI_add, sI_e]
  by_cases e : S.2.1 15 3 = 8
  · rw [if_pos e] at eA
    refine call_0 hX hM (r := -nI 4) ?_ (hi.rf μ) ?_ (Qm.rf μ)
    · rw [ex2, if_neg q0, if_pos q1, bnd_e eA, bnd_s]
    · rw [em μ hM.2.2.1, if_pos e]
  · rw [if_neg e] at eA
    have hh : hi μ (sI (sI (sI μ 19 (S.2.1 15 3) (nI x)) 20 (S.2.1 15 3) (nI y)) 18 2 (nI (S.2.1 15 3 + 1))) := fun i h => ⟨by rw [sI_o (by omega), sI_o (by omega), sI_o (by omega)], rfl⟩
    refine fin_h (r := nI (S.2.1 15 3 + 1)) (μ1 := sI (sI (sI μ 19 (S.2.1 15 3) (nI x)) 20 (S.2.1 15 3) (nI y)) 18 2 (nI (S.2.1 15 3 + 1))) (μ2 := sI (sI (sI (sI (sI (sI μ 19 (S.2.1 15 3) (nI x)) 20 (S.2.1 15 3) (nI y)) 18 2 (nI (S.2.1 15 3 + 1))) 98 (S.2.1 15 3) (nI x)) 99 (S.2.1 15 3) (nI y)) 85 18 (nI (S.2.1 15 3 + 1))) hX hM (by rw [ex2, if_neg q0, if_pos q1, bnd_e eA, bnd_s]) (by rw [em _ (hM.hi hh).2.2.1, if_neg e]) (h_bo_ok hX.1.1.2 (by omega) hx hy) (h_bo_x hX.2.2.1) (fun i hi => ⟨by rw [sI_o (by omega), sI_o (by omega), sI_o (by omega)], rfl⟩) (fun i hi => ⟨by rw [sI_o (by omega), sI_o (by omega), sI_o (by omega)], rfl⟩) h_bo_m (fun i _ _ => ⟨by rw [sI_o (by omega), sI_o (by omega), sI_o (by omega)], rfl⟩) (fun k _ _ _ _ => by rw [sI_n (Or.inr (by omega)), sI_o (by decide), sI_o (by decide)])
theorem call_steer (a1 : Int32) : CALL (f_X10_steer 0 a1) (f_X11_steer 85 a1) := by
  intro n S μ hn hX hM
  by_cases hm1 : a1 = -nI 1
  · subst hm1
    refine fin_h (r := nI 0) (μ1 := sI μ 9 2 (nI 0)) (μ2 := sI (sI μ 9 2 (nI 0)) 85 10 (nI 0)) hX hM ?_ ?_ (h_st_0ok hX.1.1.2) (h_st_0x hX.2.2.1) (fun i hi => ⟨sI_o (by omega), rfl⟩) (fun i hi => ⟨sI_o (by omega), rfl⟩) h_st_0m (fun i _ _ => ⟨sI_o (by omega), rfl⟩) (fun k _ _ _ _ => sI_n (Or.inr (by omega)))
    · unfold f_X10_steer f_X5_clear; simp only [il, lt_d, rf_0_1, rf_8_0]; rw [if_pos trivial, bnd_s]
    · unfold f_X11_steer; simp only [il, lt_d]; rw [if_pos trivial]
  obtain ⟨b1, x1, p1, h1⟩ := arg_he a1
  rcases h1 with rfl | ⟨rfl, x, hx, rfl⟩
  · refine call_0 hX hM (r := -nI 1) ?_ (hi.rf μ) ?_ (Qm.rf μ)
    · unfold f_X10_steer; simp only [il]; rw [if_neg hm1, bnd_e (x1 _), nI_b0]
    · unfold f_X11_steer; simp only [il]; rw [if_neg hm1, bnd_e (p1 _), nI_b0]
  have hc := hX.1.1.2.1.1
  have eA := x_add (x := x) (y := 0) (cap := 8) rf_9_0 rf_9_1 al_10 al_11 (by decide) hX.2.2.1.1.1 hc
  have ex : ∀ μ, f_X10_steer 0 (nI x) μ = bnd (f_X5_add 9 (nI x) (nI 0) μ) (fun r μ => some (r, μ)) := fun μ => by
    unfold f_X10_steer; simp only [il, rf_0_1, rf_8_0]; rw [if_neg hm1, bnd_e (x1 _), nI_b1]
  have em : ∀ μ, MHand μ S.2.1 → f_X11_steer 85 (nI x) μ = some (if S.2.1 15 0 = 8 then (-nI 4, μ) else (nI (S.2.1 15 0 + 1), sI (sI μ 93 (S.2.1 15 0) (nI x)) 85 10 (nI (S.2.1 15 0 + 1)))) := by
    intro μ hm
    have hs := hm.1.1
    unfold f_X11_steer
    simp only [il]
    rw [if_neg hm1, bnd_e (p1 _), nI_b1, hs]
    simp (disch := omega) only [nI_eq]
    by_cases e : S.2.1 15 0 = 8
    · rw [if_pos e, if_pos e]
    · rw [if_neg e, if_neg e]
      simp (disch := omega) only [rf_85_0, rf_85_1, rf_85_2, rf_85_3, rf_85_4, rf_85_5, rf_85_6, rf_85_11, rf_85_13, rf_85_14, rf_85_16, rf_85_17, rf_85_19, rf_85_20, rf_85_21, rf_85_22, rf_85_24, rf_85_27, rf_85_33, rf_85_34, rf_85_36, rf_85_37, rf_85_38, rf_85_39, al_86, al_87, al_88, al_89, al_90, al_91, al_92, al_93, al_94, al_95, al_96, al_97, al_98, al_99, al_100, al_101, al_102, al_103, al_104, al_105, al_106, al_107, al_108, al_109, gA_n, nI_clamp, lt_d]
      have e1 : (sI μ 93 (S.2.1 15 0) (nI x)).1 85 10 = nI (S.2.1 15 0) := by rw [sI_o (by decide)]; exact hs
      rw [e1, nI_add, sI_e]
  by_cases e : S.2.1 15 0 = 8
  · rw [if_pos e] at eA
    refine call_0 hX hM (r := -nI 4) ?_ (hi.rf μ) ?_ (Qm.rf μ)
    · rw [ex, bnd_e eA]
    · rw [em μ hM.2.2.1, if_pos e]
  · rw [if_neg e] at eA
    have hh : hi μ (sI (sI (sI μ 10 (S.2.1 15 0) (nI x)) 11 (S.2.1 15 0) (nI 0)) 9 2 (nI (S.2.1 15 0 + 1))) := fun i h => ⟨by rw [sI_o (by omega), sI_o (by omega), sI_o (by omega)], rfl⟩
    refine fin_h (r := nI (S.2.1 15 0 + 1)) (μ1 := sI (sI (sI μ 10 (S.2.1 15 0) (nI x)) 11 (S.2.1 15 0) (nI 0)) 9 2 (nI (S.2.1 15 0 + 1))) (μ2 := sI (sI (sI (sI (sI μ 10 (S.2.1 15 0) (nI x)) 11 (S.2.1 15 0) (nI 0)) 9 2 (nI (S.2.1 15 0 + 1))) 93 (S.2.1 15 0) (nI x)) 85 10 (nI (S.2.1 15 0 + 1))) (H2 := h_st S.2.1 x 0) hX hM (by rw [ex, bnd_e eA]) (by rw [em _ (hM.hi hh).2.2.1, if_neg e]) (h_st_ok hX.1.1.2 (by omega) hx) (h_st_x hX.2.2.1) (fun i hi => ⟨by rw [sI_o (by omega), sI_o (by omega), sI_o (by omega)], rfl⟩) (fun i hi => ⟨by rw [sI_o (by omega), sI_o (by omega)], rfl⟩) h_st_m (fun i _ _ => ⟨by rw [sI_o (by omega), sI_o (by omega)], rfl⟩) (fun k _ _ _ _ => by rw [sI_n (Or.inr (by omega)), sI_o (by decide)])
theorem m_zone8 {z : Nat} (hz : z < 4) (μ : Mem) : f_X10_below (nI z) (nI 8) μ = some (nI 1, μ) := by
  unfold f_X10_below
  simp only [il]
  rw [if_neg (nI_lt0 (by omega)), if_neg (nI_ge (by omega) (by omega))]
theorem call_event (a1 a2 : Int32) : CALL (f_X10_event 0 a1 a2) (f_X11_event 85 a1 a2) := by
  intro n S μ hn hX hM
  by_cases hm1 : a1 = -nI 1
  · subst hm1
    refine fin_h (r := nI 0) (μ1 := sI μ 15 2 (nI 0)) (μ2 := sI (sI μ 15 2 (nI 0)) 85 15 (nI 0)) hX hM ?_ ?_ (h_ev_0ok hX.1.1.2) (h_ev_0x hX.2.2.1) (fun i hi => ⟨sI_o (by omega), rfl⟩) (fun i hi => ⟨sI_o (by omega), rfl⟩) h_ev_0m (fun i _ _ => ⟨sI_o (by omega), rfl⟩) (fun k _ _ _ _ => sI_n (Or.inr (by omega)))
    · unfold f_X10_event f_X5_clear; simp only [il, lt_d, rf_0_1, rf_8_2]; rw [if_pos trivial, bnd_s]
    · unfold f_X11_event; simp only [il, lt_d]; rw [if_pos trivial]
  obtain ⟨b1, x1, p1, h1⟩ := argc a1 4 (by decide) (by decide)
  rcases h1 with rfl | ⟨rfl, x, hx, rfl⟩
  · refine call_0 hX hM (r := -nI 1) ?_ (hi.rf μ) ?_ (Qm.rf μ)
    · unfold f_X10_event; simp only [il]; rw [if_neg hm1, bnd_e (x1 _), nI_b0]
    · unfold f_X11_event; simp only [il]; rw [if_neg hm1, bnd_e (p1 _), nI_b0]
  have hc := hX.1.1.2.2.2.1.1
  have add : ∀ y, y < 8 → (x ≠ 2 → y < 4) → (∀ μ, f_X10_event 0 (nI x) (nI y) μ = bnd (f_X5_add 15 (nI x) (nI y) μ) (fun r μ => some (r, μ))) → (∀ μ, f_X11_event 85 (nI x) (nI y) μ = f_X11_event_b50 85 (nI x) (nI y) μ) → ∃ r μ1 μ2 S2, f_X10_event 0 (nI x) (nI y) μ = some (r, μ1) ∧ f_X11_event 85 (nI x) (nI y) μ1 = some (r, μ2) ∧ XI (n + 1) S2 μ2 ∧ MI S2 μ2 := by
    intro y hy hz ex em0
    have eA := x_add (x := x) (y := y) (cap := 8) rf_15_0 rf_15_1 al_16 al_17 (by decide) hX.2.2.1.2.2.1.1 hc
    have em : ∀ μ, MHand μ S.2.1 → f_X11_event 85 (nI x) (nI y) μ = some (if S.2.1 15 2 = 8 then (-nI 4, μ) else (nI (S.2.1 15 2 + 1), sI (sI (sI μ 96 (S.2.1 15 2) (nI x)) 97 (S.2.1 15 2) (nI y)) 85 15 (nI (S.2.1 15 2 + 1)))) := by
      intro μ hm
      have hs := hm.2.2.1.1
      rw [em0]
      unfold f_X11_event_b50
      simp only [il]
      rw [hs]
      simp (disch := omega) only [nI_eq]
      by_cases e : S.2.1 15 2 = 8
      · rw [if_pos e, if_pos e]
      · rw [if_neg e, if_neg e]
        simp (disch := omega) only [rf_85_0, rf_85_1, rf_85_2, rf_85_3, rf_85_4, rf_85_5, rf_85_6, rf_85_11, rf_85_13, rf_85_14, rf_85_16, rf_85_17, rf_85_19, rf_85_20, rf_85_21, rf_85_22, rf_85_24, rf_85_27, rf_85_33, rf_85_34, rf_85_36, rf_85_37, rf_85_38, rf_85_39, al_86, al_87, al_88, al_89, al_90, al_91, al_92, al_93, al_94, al_95, al_96, al_97, al_98, al_99, al_100, al_101, al_102, al_103, al_104, al_105, al_106, al_107, al_108, al_109, gA_n, nI_clamp, lt_d]
        have e1 : (sI μ 96 (S.2.1 15 2) (nI x)).1 85 15 = nI (S.2.1 15 2) := by rw [sI_o (by decide)]; exact hs
        rw [e1]
        simp (disch := omega) only [rf_85_0, rf_85_1, rf_85_2, rf_85_3, rf_85_4, rf_85_5, rf_85_6, rf_85_11, rf_85_13, rf_85_14, rf_85_16, rf_85_17, rf_85_19, rf_85_20, rf_85_21, rf_85_22, rf_85_24, rf_85_27, rf_85_33, rf_85_34, rf_85_36, rf_85_37, rf_85_38, rf_85_39, al_86, al_87, al_88, al_89, al_90, al_91, al_92, al_93, al_94, al_95, al_96, al_97, al_98, al_99, al_100, al_101, al_102, al_103, al_104, al_105, al_106, al_107, al_108, al_109, gA_n, nI_clamp, lt_d]
        have e2 : (sI (sI μ 96 (S.2.1 15 2) (nI x)) 97 (S.2.1 15 2) (nI y)).1 85 15 = nI (S.2.1 15 2) := by rw [sI_o (by decide)]; exact e1
        rw [e2, nI_add, sI_e]
    by_cases e : S.2.1 15 2 = 8
    · rw [if_pos e] at eA
      refine call_0 hX hM (r := -nI 4) ?_ (hi.rf μ) ?_ (Qm.rf μ)
      · rw [ex, bnd_e eA]
      · rw [em μ hM.2.2.1, if_pos e]
    · rw [if_neg e] at eA
      have hh : hi μ (sI (sI (sI μ 16 (S.2.1 15 2) (nI x)) 17 (S.2.1 15 2) (nI y)) 15 2 (nI (S.2.1 15 2 + 1))) := fun i h => ⟨by rw [sI_o (by omega), sI_o (by omega), sI_o (by omega)], rfl⟩
      refine fin_h (r := nI (S.2.1 15 2 + 1)) (μ1 := sI (sI (sI μ 16 (S.2.1 15 2) (nI x)) 17 (S.2.1 15 2) (nI y)) 15 2 (nI (S.2.1 15 2 + 1))) (μ2 := sI (sI (sI (sI (sI (sI μ 16 (S.2.1 15 2) (nI x)) 17 (S.2.1 15 2) (nI y)) 15 2 (nI (S.2.1 15 2 + 1))) 96 (S.2.1 15 2) (nI x)) 97 (S.2.1 15 2) (nI y)) 85 15 (nI (S.2.1 15 2 + 1))) hX hM (by rw [ex, bnd_e eA]) (by rw [em _ (hM.hi hh).2.2.1, if_neg e]) (h_ev_ok hX.1.1.2 (by omega) hx hy hz) (h_ev_x hX.2.2.1) (fun i hi => ⟨by rw [sI_o (by omega), sI_o (by omega), sI_o (by omega)], rfl⟩) (fun i hi => ⟨by rw [sI_o (by omega), sI_o (by omega), sI_o (by omega)], rfl⟩) h_ev_m (fun i _ _ => ⟨by rw [sI_o (by omega), sI_o (by omega), sI_o (by omega)], rfl⟩) (fun k _ _ _ _ => by rw [sI_n (Or.inr (by omega)), sI_o (by decide), sI_o (by decide)])
  by_cases c2 : x = 2
  · subst c2
    have ex : ∀ μ, f_X10_event 0 (nI 2) a2 μ = bnd (f_X10_below a2 (nI 8) μ) (fun r4 μ3 => (if r4 = nI 0 then some (-nI 2, μ3) else bnd (f_X5_add 15 (nI 2) a2 μ3) (fun r6 μ5 => some (r6, μ5)))) := fun μ => by
      unfold f_X10_event f_X10_event_b39; simp only [il, rf_0_1, rf_8_2]; rw [if_neg hm1, bnd_e (x1 _), nI_b1, if_pos trivial]
    have em : ∀ μ, f_X11_event 85 (nI 2) a2 μ = bnd (f_X11_isHeading a2 μ) (fun r7 μ6 => (if r7 = nI 0 then some (-nI 2, μ6) else f_X11_event_b50 85 (nI 2) a2 μ6)) := fun μ => by
      unfold f_X11_event f_X11_event_b35; simp only [il]; rw [if_neg hm1, bnd_e (p1 _), nI_b1, if_pos trivial, if_pos trivial]
    obtain ⟨b2, x2, p2, h2⟩ := arg_he a2
    rcases h2 with rfl | ⟨rfl, y, hy, rfl⟩
    · refine call_0 hX hM (r := -nI 2) ?_ (hi.rf μ) ?_ (Qm.rf μ)
      · rw [ex, bnd_e (x2 _), nI_b0]
      · rw [em, bnd_e (p2 _), nI_b0]
    · exact add y hy (fun z => absurd rfl z) (fun μ => by rw [ex, bnd_e (x2 _), nI_b1]) (fun μ => by rw [em, bnd_e (p2 _), nI_b1])
  · have hx2 : ¬ nI x = nI 2 := nI_ne (by omega) (by omega) c2
    have ex : ∀ μ, f_X10_event 0 (nI x) a2 μ = bnd (f_X10_below a2 (nI 4) μ) (fun r8 μ7 => (if r8 = nI 0 then some (-nI 1, μ7) else f_X10_event_b39 0 (nI x) a2 μ7)) := fun μ => by
      unfold f_X10_event; simp only [il, rf_0_1, rf_8_2]; rw [if_neg hm1, bnd_e (x1 _), nI_b1, if_neg hx2]
    have em : ∀ μ, f_X11_event 85 (nI x) a2 μ = bnd (f_X11_isZone a2 μ) (fun r7 μ6 => (if r7 = nI 0 then some (-nI 1, μ6) else f_X11_event_b50 85 (nI x) a2 μ6)) := fun μ => by
      unfold f_X11_event f_X11_event_b35; simp only [il]; rw [if_neg hm1, bnd_e (p1 _), nI_b1, if_neg hx2]; simp only [if_neg hx2]
    obtain ⟨b2, x2, p2, h2⟩ := arg_zo a2
    rcases h2 with rfl | ⟨rfl, y, hy, rfl⟩
    · refine call_0 hX hM (r := -nI 1) ?_ (hi.rf μ) ?_ (Qm.rf μ)
      · rw [ex, bnd_e (x2 _), nI_b0]
      · rw [em, bnd_e (p2 _), nI_b0]
    · refine add y (by omega) (fun _ => hy) (fun μ => ?_) (fun μ => by rw [em, bnd_e (p2 _), nI_b1])
      rw [ex, bnd_e (x2 _), nI_b1]
      unfold f_X10_event_b39
      simp only [il, rf_0_1, rf_8_2]
      rw [bnd_e (m_zone8 hy _), nI_b1]
