theorem XI.sea {n : Nat} {S : ST} {μ : Mem} (h : XI n S μ) : SVok S.1 ∧ XSea 1 μ S.1 := by
  obtain ⟨_, _, _, _, _, _, _, _, _, _, hK, _⟩ := id h.2.1
  exact ⟨h.1.1.1, hK.1⟩
theorem call_current (a1 a2 a3 : Int32) : CALL (f_X10_current 0 a1 a2 a3) (f_X11_current 85 a1 a2 a3) := by
  intro n S μ hn hX hM
  obtain ⟨b1, x1, m1, h1⟩ := arg_zo a1
  obtain ⟨b2, x2, m2, h2⟩ := arg_he a2
  obtain ⟨b3, x3, m3, h3⟩ := arg_fo a3
  rcases h1 with rfl | ⟨rfl, z, hz, rfl⟩
  · exact call_0 hX hM (r := -nI 1) (by unfold f_X10_current; simp only [il]; rw [bnd_e (x1 _), nI_b0]) (hi.rf μ) (by unfold f_X11_current; simp only [il]; rw [bnd_e (m1 _), nI_b0]) (Qm.rf μ)
  rcases h2 with rfl | ⟨rfl, f, hf, rfl⟩
  · exact call_0 hX hM (r := -nI 2) (by unfold f_X10_current; simp only [il]; rw [bnd_e (x1 _), nI_b1, bnd_e (x2 _), nI_b0]) (hi.rf μ) (by unfold f_X11_current; simp only [il]; rw [bnd_e (m1 _), nI_b1, bnd_e (m2 _), nI_b0]) (Qm.rf μ)
  rcases h3 with rfl | ⟨rfl, g, hg, rfl⟩
  · exact call_0 hX hM (r := -nI 2) (by unfold f_X10_current; simp only [il]; rw [bnd_e (x1 _), nI_b1, bnd_e (x2 _), nI_b1, bnd_e (x3 _), nI_b0]) (hi.rf μ) (by unfold f_X11_current; simp only [il]; rw [bnd_e (m1 _), nI_b1, bnd_e (m2 _), nI_b1, bnd_e (m3 _), nI_b0]) (Qm.rf μ)
  obtain ⟨hV, hS⟩ := hX.sea
  have V2 : SVok (upV (upV S.1 2 z f) 3 z g) := ok3 (ok2 hV hf) hg
  have eX : f_X10_current 0 (nI z) (nI f) (nI g) μ = some (nI (10 * S.1 2 z + S.1 3 z), sI (sI (sI μ 4 z (nI f)) 5 z (nI g)) 1 10 (μ.1 1 10 + nI 1)) := by
    unfold f_X10_current
    simp only [il, rf_0_0]
    rw [bnd_e (x1 _), nI_b1, bnd_e (x2 _), nI_b1, bnd_e (x3 _), nI_b1, bnd_e (x_to (Or.inl rfl) hS hz), bnd_e (x_rate (Or.inl rfl) hS hz)]
    unfold f_X6_putCurrent
    simp (disch := omega) only [il, rf_1_0, rf_1_1, rf_1_2, rf_1_3, rf_1_4, rf_1_5, al_2, al_3, al_4, al_5, al_6, al_7, pk_mul, nI_add, gA_n, nI_clamp, lt_d]
    rw [bnv_s, sI_o (by decide), sI_o (by decide)]
  have eM : ∀ μ, MSea μ S.1 → f_X11_current 85 (nI z) (nI f) (nI g) μ = some (nI (10 * S.1 2 z + S.1 3 z), sI (sI μ 90 z (nI f)) 91 z (nI g)) := by
    intro μ hMs
    unfold f_X11_current
    simp only [il]
    rw [bnd_e (m1 _), nI_b1, bnd_e (m2 _), nI_b1, bnd_e (m3 _), nI_b1]
    simp (disch := omega) only [il, rf_85_0, rf_85_1, rf_85_2, rf_85_3, rf_85_4, rf_85_5, rf_85_6, rf_85_11, rf_85_13, rf_85_14, rf_85_16, rf_85_17, rf_85_19, rf_85_20, rf_85_21, rf_85_22, rf_85_24, rf_85_27, rf_85_33, rf_85_34, rf_85_36, rf_85_37, rf_85_38, rf_85_39, al_86, al_87, al_88, al_89, al_90, al_91, al_92, al_93, al_94, al_95, al_96, al_97, al_98, al_99, al_100, al_101, al_102, al_103, al_104, al_105, al_106, al_107, al_108, al_109, pk_mul, nI_add, gA_n, nI_clamp, lt_d, hMs.2.2.2.1 z hz, hMs.2.2.2.2.1 z hz]
  have hh : hi μ (sI (sI (sI μ 4 z (nI f)) 5 z (nI g)) 1 10 (μ.1 1 10 + nI 1)) := fun i h => ⟨by rw [sI_o (by omega), sI_o (by omega), sI_o (by omega)], rfl⟩
  have hM1 := hM.hi hh
  refine ⟨_, _, _, (upV (upV S.1 2 z f) 3 z g, S.2), eX, eM _ hM1.2.1, (hX.bump (k := 1) (μ2 := sI (sI (sI μ 4 z (nI f)) 5 z (nI g)) 1 10 (μ.1 1 10 + nI 1)) V2 (hS.p2.p3.ver) (fun i hi => ⟨by rw [sI_o (by omega), sI_o (by omega), sI_o (by omega)], rfl⟩) (by rw [sI_e]) (by decide) (by decide) hn).lo (fun i hi => ⟨by rw [sI_o (by omega), sI_o (by omega)], rfl⟩), hM1.sea V2 (hM1.2.1.p2.p3) (fun i hi => ⟨by rw [sI_o (by omega), sI_o (by omega)], rfl⟩) (fun k hk => by rw [sI_o (by omega), sI_o (by omega)])⟩
theorem call_loss (a1 a2 : Int32) : CALL (f_X10_loss 0 a1 a2) (f_X11_loss 85 a1 a2) := by
  intro n S μ hn hX hM
  obtain ⟨b1, x1, m1, h1⟩ := argc a1 2 (by decide) (by decide)
  rcases h1 with rfl | ⟨rfl, z, hz, rfl⟩
  · exact call_0 hX hM (r := -nI 1) (by unfold f_X10_loss; simp only [il]; rw [bnd_e (x1 _), nI_b0]) (hi.rf μ) (by unfold f_X11_loss; simp only [il]; rw [bnd_e (m1 _), nI_b0]) (Qm.rf μ)
  have ex : ∀ μ, f_X10_loss 0 (nI z) a2 μ = (if a2 < nI 0 then some (-nI 2, μ) else if a2 ≤ nI 60 then bnd (f_X6_lossBy 1 (nI z) μ) (fun r4 μ3 => bnv (f_X6_putLoss 1 (nI z) a2 μ3) (fun μ5 => some (r4, μ5))) else some (-nI 2, μ)) := by
    intro μ
    unfold f_X10_loss
    simp only [il, rf_0_0]
    rw [bnd_e (x1 _), nI_b1]
  have em : ∀ μ, f_X11_loss 85 (nI z) a2 μ = bnd (f_X11_in a2 (nI 0) (nI 60) μ) (fun r4 μ3 => (if r4 = nI 0 then some (-nI 2, μ3) else gA (nI z) 2 (lt (μ3.1 92 z) (fun v5 => gA (nI z) 2 (lt (sI μ3 92 z a2) (fun μ6 => some (v5, μ6))))))) := by
    intro μ
    unfold f_X11_loss
    simp (disch := omega) only [il, rf_85_0, rf_85_1, rf_85_2, rf_85_3, rf_85_4, rf_85_5, rf_85_6, rf_85_11, rf_85_13, rf_85_14, rf_85_16, rf_85_17, rf_85_19, rf_85_20, rf_85_21, rf_85_22, rf_85_24, rf_85_27, rf_85_33, rf_85_34, rf_85_36, rf_85_37, rf_85_38, rf_85_39, al_86, al_87, al_88, al_89, al_90, al_91, al_92, al_93, al_94, al_95, al_96, al_97, al_98, al_99, al_100, al_101, al_102, al_103, al_104, al_105, al_106, al_107, al_108, al_109, nI_clamp]
    rw [bnd_e (m1 _), nI_b1]
  obtain ⟨b2, x2, m2, h2⟩ := argc a2 61 (by decide) (by decide)
  by_cases h0 : a2 < nI 0
  · have q : ∀ μ, f_X11_in a2 (nI 0) (nI 60) μ = some (nI 0, μ) := fun μ => by unfold f_X11_in; rw [if_pos h0]; rfl
    exact call_0 hX hM (r := -nI 2) (by rw [ex, if_pos h0]) (hi.rf μ) (by rw [em, bnd_e (q _), nI_b0]) (Qm.rf μ)
  obtain ⟨g, hg, rfl⟩ := argn h0
  by_cases h1 : 60 < g
  · have q : ∀ μ, f_X11_in (nI g) (nI 0) (nI 60) μ = some (nI 0, μ) := fun μ => by unfold f_X11_in; rw [if_neg h0, if_pos (nI_lt h1 hg)]; rfl
    exact call_0 hX hM (r := -nI 2) (by rw [ex, if_neg h0, if_neg (nI_ge (by omega) (by omega))]) (hi.rf μ) (by rw [em, bnd_e (q _), nI_b0]) (Qm.rf μ)
  have q : ∀ μ, f_X11_in (nI g) (nI 0) (nI 60) μ = some (nI 1, μ) := fun μ => by
    unfold f_X11_in
    rw [if_neg h0, if_neg (fun z => absurd ((nI_ltI (by omega) (by omega)).mp z) (by omega))]
    rfl
  obtain ⟨hV, hS⟩ := hX.sea
  have V2 : SVok (upV S.1 5 z g) := ok5 hV (by omega)
  have hh : hi μ (sI (sI μ 7 z (nI g)) 1 10 (μ.1 1 10 + nI 1)) := fun i h => ⟨by rw [sI_o (by omega), sI_o (by omega)], rfl⟩
  have hM1 := hM.hi hh
  refine ⟨nI (S.1 5 z), sI (sI μ 7 z (nI g)) 1 10 (μ.1 1 10 + nI 1), sI (sI (sI μ 7 z (nI g)) 1 10 (μ.1 1 10 + nI 1)) 92 z (nI g), (upV S.1 5 z g, S.2), ?_, ?_, (hX.bump (k := 1) (μ2 := sI (sI μ 7 z (nI g)) 1 10 (μ.1 1 10 + nI 1)) V2 (hS.p5.ver) (fun i hi => ⟨by rw [sI_o (by omega), sI_o (by omega)], rfl⟩) (by rw [sI_e]) (by decide) (by decide) hn).lo (fun i hi => ⟨by rw [sI_o (by omega)], rfl⟩), hM1.sea V2 (hM1.2.1.p5) (fun i hi => ⟨by rw [sI_o (by omega)], rfl⟩) (fun k hk => by rw [sI_o (by omega)])⟩
  · rw [ex, if_neg h0, if_pos (nI_le (by omega) (by omega)), bnd_e (x_loss (Or.inl rfl) hS hz)]
    unfold f_X6_putLoss
    simp (disch := omega) only [il, rf_1_0, rf_1_1, rf_1_2, rf_1_3, rf_1_4, rf_1_5, al_2, al_3, al_4, al_5, al_6, al_7, gA_n, nI_clamp, lt_d]
    rw [bnv_s, sI_o (by decide)]
  · rw [em, bnd_e (q _), nI_b1, gA_n (by omega) (by omega), lt_d, gA_n (by omega) (by omega), lt_d]
    have e5 := two (f := (sI (sI μ 7 z (nI g)) 1 10 (μ.1 1 10 + nI 1)).1 92) (g := S.1 5) hM1.2.1.2.2.2.2.2.1 z hz
    rw [e5]
theorem arg_fc (x : Int32) : ((x < nI 1 ∨ (¬ x < nI 1 ∧ nI 3 < x)) ∧ ∀ μ, f_X11_in x (nI 1) (nI 3) μ = some (nI 0, μ)) ∨ (∃ f, 1 ≤ f ∧ f ≤ 3 ∧ x = nI f ∧ ¬ x < nI 1 ∧ ¬ nI 3 < x ∧ ∀ μ, f_X11_in x (nI 1) (nI 3) μ = some (nI 1, μ)) := by
  by_cases h0 : x < nI 1
  · exact Or.inl ⟨Or.inl h0, fun μ => by unfold f_X11_in; rw [if_pos h0]; rfl⟩
  by_cases h1 : nI 3 < x
  · exact Or.inl ⟨Or.inr ⟨h0, h1⟩, fun μ => by unfold f_X11_in; rw [if_neg h0, if_pos h1]; rfl⟩
  right
  have h2 : ¬ x < nI 0 := fun z => h0 (by
    rw [Int32.lt_iff_toInt_lt] at z ⊢
    rw [nI_toInt (by decide)] at z ⊢
    omega)
  obtain ⟨f, hf, rfl⟩ := argn h2
  have g1 : 1 ≤ f := by
    by_cases c : 1 ≤ f
    · exact c
    · exact absurd (nI_lt (by omega) (by decide)) h0
  have g2 : f ≤ 3 := by
    by_cases c : f ≤ 3
    · exact c
    · exact absurd (nI_lt (by omega) (by omega)) h1
  exact ⟨f, g1, g2, rfl, h0, h1, fun μ => by unfold f_X11_in; rw [if_neg h0, if_neg h1]; rfl⟩
theorem call_table (a1 a2 a3 : Int32) : CALL (f_X10_table 0 a1 a2 a3) (f_X11_table 85 a1 a2 a3) := by
  intro n S μ hn hX hM
  obtain ⟨b2, x2, m2, h2⟩ := argc a2 5 (by decide) (by decide)
  obtain ⟨b3, x3, m3, h3⟩ := argc a3 10 (by decide) (by decide)
  rcases arg_fc a1 with ⟨h1, q⟩ | ⟨f, f1, f2, rfl, f4, f5, q⟩
  · refine call_0 hX hM (r := -nI 1) ?_ (hi.rf μ) ?_ (Qm.rf μ)
    · unfold f_X10_table
      simp only [il]
      rcases h1 with h1 | ⟨h0, h1⟩
      · rw [if_pos h1]
      · rw [if_neg h0, if_pos h1]
    · unfold f_X11_table f_X11_isEntry
      simp only [il]
      rw [bnd_e (show bnd (f_X11_in a1 (nI 1) (nI 3) μ) _ = some (nI 0, μ) by rw [bnd_e (q _), nI_b0]), nI_b0]
  have eE : ∀ μ, f_X11_isEntry (nI f) a2 μ = some (nI b2, μ) := by
    intro μ
    unfold f_X11_isEntry
    simp only [il]
    rw [bnd_e (q _), nI_b1, bnd_e (m2 _)]
    rcases h2 with rfl | ⟨rfl, -⟩
    · rw [nI_b0]
    · rw [nI_b1]
  rcases h2 with rfl | ⟨rfl, z, hz, rfl⟩
  · exact call_0 hX hM (r := -nI 1) (by unfold f_X10_table; simp only [il]; rw [if_neg f4, if_neg f5, bnd_e (x2 _), nI_b0]) (hi.rf μ) (by unfold f_X11_table; simp only [il]; rw [bnd_e (eE _), nI_b0]) (Qm.rf μ)
  rcases h3 with rfl | ⟨rfl, g, hg, rfl⟩
  · exact call_0 hX hM (r := -nI 2) (by unfold f_X10_table; simp only [il]; rw [if_neg f4, if_neg f5, bnd_e (x2 _), nI_b1, bnd_e (x3 _), nI_b0]) (hi.rf μ) (by unfold f_X11_table; simp only [il]; rw [bnd_e (eE _), nI_b1, bnd_e (m3 _), nI_b0]) (Qm.rf μ)
  obtain ⟨hV, hS⟩ := hX.sea
  have ej : 5 * f + z = (5 * (f - 1) + z) + 5 := by omega
  have V2 : SVok (upV S.1 4 (5 * (f - 1) + z + 5) g) := ok4 hV hg
  have eX : f_X10_table 0 (nI f) (nI z) (nI g) μ = some (nI (S.1 4 (5 * (f - 1) + z + 5)), sI (sI μ 6 (5 * (f - 1) + z) (nI g)) 1 10 (μ.1 1 10 + nI 1)) := by
    unfold f_X10_table
    simp only [il, rf_0_0]
    rw [if_neg f4, if_neg f5, bnd_e (x2 _), nI_b1, bnd_e (x3 _), nI_b1, bnd_e (x_speed (Or.inl rfl) hS (by omega) (by omega)), if_neg (by omega), ej]
    unfold f_X6_putSpeed
    simp (disch := omega) only [il, rf_1_0, rf_1_1, rf_1_2, rf_1_3, rf_1_4, rf_1_5, al_2, al_3, al_4, al_5, al_6, al_7, pk_sub, pk_mul, nI_add, gA_n, nI_clamp, lt_d, show (f - 1) * 5 = 5 * (f - 1) from Nat.mul_comm _ 5]
    rw [bnv_s, sI_o (by decide)]
  have eM : ∀ μ, MSea μ S.1 → f_X11_table 85 (nI f) (nI z) (nI g) μ = some (nI (S.1 4 (5 * (f - 1) + z + 5)), sI μ 89 (5 * (f - 1) + z + 5) (nI g)) := by
    intro μ hMs
    unfold f_X11_table
    simp only [il]
    rw [bnd_e (eE _), nI_b1, bnd_e (m3 _), nI_b1]
    simp (disch := omega) only [il, rf_85_0, rf_85_1, rf_85_2, rf_85_3, rf_85_4, rf_85_5, rf_85_6, rf_85_11, rf_85_13, rf_85_14, rf_85_16, rf_85_17, rf_85_19, rf_85_20, rf_85_21, rf_85_22, rf_85_24, rf_85_27, rf_85_33, rf_85_34, rf_85_36, rf_85_37, rf_85_38, rf_85_39, al_86, al_87, al_88, al_89, al_90, al_91, al_92, al_93, al_94, al_95, al_96, al_97, al_98, al_99, al_100, al_101, al_102, al_103, al_104, al_105, al_106, al_107, al_108, al_109, pk_mul, nI_add, gA_n, nI_clamp, lt_d, hMs.2.2.1 (5 * f + z) (by omega)]
    rw [ej]
  have hh : hi μ (sI (sI μ 6 (5 * (f - 1) + z) (nI g)) 1 10 (μ.1 1 10 + nI 1)) := fun i h => ⟨by rw [sI_o (by omega), sI_o (by omega)], rfl⟩
  have hM1 := hM.hi hh
  refine ⟨_, _, _, (upV S.1 4 (5 * (f - 1) + z + 5) g, S.2), eX, eM _ hM1.2.1, (hX.bump (k := 1) (μ2 := sI (sI μ 6 (5 * (f - 1) + z) (nI g)) 1 10 (μ.1 1 10 + nI 1)) V2 (hS.p4.ver) (fun i hi => ⟨by rw [sI_o (by omega), sI_o (by omega)], rfl⟩) (by rw [sI_e]) (by decide) (by decide) hn).lo (fun i hi => ⟨by rw [sI_o (by omega)], rfl⟩), hM1.sea V2 (hM1.2.1.p4) (fun i hi => ⟨by rw [sI_o (by omega)], rfl⟩) (fun k hk => by rw [sI_o (by omega)])⟩
