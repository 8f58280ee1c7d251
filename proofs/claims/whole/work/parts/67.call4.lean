/-! of, speed, pace, count -/
theorem call_q {α : Type} {fx fm : Mem → Option (α × Mem)} {n : Nat} {S : ST} {μ : Mem} {r : α} (hX : XI n S μ) (hM : MI S μ) (h1 : fx μ = some (r, μ)) (h2 : fm μ = some (r, μ)) : ∃ r μ1 μ2 S2, fx μ = some (r, μ1) ∧ fm μ1 = some (r, μ2) ∧ XI (n + 1) S2 μ2 ∧ MI S2 μ2 := call_0 hX hM h1 (hi.rf μ) h2 (Qm.rf μ)
theorem call_of (a1 a2 a3 : Int32) : CALL (f_X10_of 0 a1 a2 a3) (f_X11_of 85 a1 a2 a3) := by
  intro n S μ hn hX hM
  obtain ⟨b1, x1, m1, h1⟩ := arg_zo a1
  obtain ⟨b2, x2, m2, h2⟩ := arg_sp a2
  rcases h1 with rfl | ⟨rfl, z, hz, rfl⟩
  · exact call_q hX hM (r := -nI 1) (by unfold f_X10_of; simp only [il]; rw [bnd_e (x1 _), nI_b0]) (by unfold f_X11_of; simp only [il]; rw [bnd_e (m1 _), nI_b0])
  rcases h2 with rfl | ⟨rfl, s, hs, rfl⟩
  · exact call_q hX hM (r := -nI 1) (by unfold f_X10_of; simp only [il]; rw [bnd_e (x1 _), nI_b1, bnd_e (x2 _), nI_b0]) (by unfold f_X11_of; simp only [il]; rw [bnd_e (m1 _), nI_b1, bnd_e (m2 _), nI_b0])
  obtain ⟨hV, hS⟩ := hX.sea
  have hMs := hM.2.1
  have eX : f_X10_of 0 (nI z) (nI s) a3 μ = some (if a3 = nI 0 then nI (S.1 0 (4 * z + s)) else if a3 = nI 1 then nI (S.1 1 (4 * z + s)) else if a3 = nI 2 then nI (S.1 2 z) else if a3 = nI 3 then nI (S.1 3 z) else -nI 1, μ) := by
    unfold f_X10_of
    simp only [il, rf_0_0]
    rw [bnd_e (x1 _), nI_b1, bnd_e (x2 _), nI_b1, bnd_e (x_from (Or.inl rfl) hS hz hs), bnd_e (x_force (Or.inl rfl) hS hz hs), bnd_e (x_to (Or.inl rfl) hS hz), bnd_e (x_rate (Or.inl rfl) hS hz)]
    repeat' split
    all_goals rfl
  have eM : f_X11_of 85 (nI z) (nI s) a3 μ = some (if a3 = nI 0 then nI (S.1 0 (4 * z + s)) else if a3 = nI 1 then nI (S.1 1 (4 * z + s)) else if a3 = nI 2 then nI (S.1 2 z) else if a3 = nI 3 then nI (S.1 3 z) else -nI 1, μ) := by
    unfold f_X11_of
    simp only [il]
    rw [bnd_e (m1 _), nI_b1, bnd_e (m2 _), nI_b1]
    simp (disch := omega) only [il, rf_85_0, rf_85_1, rf_85_2, rf_85_3, rf_85_4, rf_85_5, rf_85_6, rf_85_11, rf_85_13, rf_85_14, rf_85_16, rf_85_17, rf_85_19, rf_85_20, rf_85_21, rf_85_22, rf_85_24, rf_85_27, rf_85_33, rf_85_34, rf_85_36, rf_85_37, rf_85_38, rf_85_39, al_86, al_87, al_88, al_89, al_90, al_91, al_92, al_93, al_94, al_95, al_96, al_97, al_98, al_99, al_100, al_101, al_102, al_103, al_104, al_105, al_106, al_107, al_108, al_109, pk_mul, nI_add, gA_n, nI_clamp, hMs.1 (4 * z + s) (by omega), hMs.2.1 (4 * z + s) (by omega), hMs.2.2.2.1 z hz, hMs.2.2.2.2.1 z hz]
    repeat' split
    all_goals rfl
  exact call_q hX hM eX eM
theorem call_speed (a1 a2 : Int32) : CALL (f_X10_speed 0 a1 a2) (f_X11_speed 85 a1 a2) := by
  intro n S μ hn hX hM
  obtain ⟨b2, x2, m2, h2⟩ := argc a2 5 (by decide) (by decide)
  rcases arg_fc a1 with ⟨h1, q⟩ | ⟨f, f1, f2, rfl, f4, f5, q⟩
  · refine call_q hX hM (r := -nI 1) ?_ ?_
    · unfold f_X10_speed
      simp only [il]
      rcases h1 with h1 | ⟨h0, h1⟩
      · rw [if_pos h1]
      · rw [if_neg h0, if_pos h1]
    · unfold f_X11_speed f_X11_isEntry
      simp only [il]
      rw [bnd_e (show bnd (f_X11_in a1 (nI 1) (nI 3) μ) _ = some (nI 0, μ) by rw [bnd_e (q _), nI_b0]), nI_b0]
  have eE : ∀ μ, f_X11_isEntry (nI f) a2 μ = some (nI b2, μ) := by
    intro μ
    unfold f_X11_isEntry
    simp only [il]
    rw [bnd_e (q _), nI_b1, bnd_e (m2 _)]
    rcases h2 with rfl | ⟨rfl, -⟩
    · rw [nI_b0]
    · rw [nI_b1]
  rcases h2 with rfl | ⟨rfl, z, hz, rfl⟩
  · exact call_q hX hM (r := -nI 1) (by unfold f_X10_speed; simp only [il]; rw [if_neg f4, if_neg f5, bnd_e (x2 _), nI_b0]) (by unfold f_X11_speed; simp only [il]; rw [bnd_e (eE _), nI_b0])
  obtain ⟨hV, hS⟩ := hX.sea
  have hMs := hM.2.1
  refine call_q hX hM (r := nI (S.1 4 (5 * f + z))) ?_ ?_
  · unfold f_X10_speed
    simp only [il, rf_0_0]
    rw [if_neg f4, if_neg f5, bnd_e (x2 _), nI_b1, bnd_e (x_speed (Or.inl rfl) hS (by omega) (by omega)), if_neg (by omega)]
  · unfold f_X11_speed
    simp only [il]
    rw [bnd_e (eE _), nI_b1]
    simp (disch := omega) only [il, rf_85_0, rf_85_1, rf_85_2, rf_85_3, rf_85_4, rf_85_5, rf_85_6, rf_85_11, rf_85_13, rf_85_14, rf_85_16, rf_85_17, rf_85_19, rf_85_20, rf_85_21, rf_85_22, rf_85_24, rf_85_27, rf_85_33, rf_85_34, rf_85_36, rf_85_37, rf_85_38, rf_85_39, al_86, al_87, al_88, al_89, al_90, al_91, al_92, al_93, al_94, al_95, al_96, al_97, al_98, al_99, al_100, al_101, al_102, al_103, al_104, al_105, al_106, al_107, al_108, al_109, pk_mul, nI_add, gA_n, nI_clamp, hMs.2.2.1 (5 * f + z) (by omega)]
theorem call_count (a1 : Int32) : CALL (f_X10_count 0 a1) (f_X11_count 85 a1) := by
  intro n S μ hn hX hM
  have hx := hX.2.2.1
  have hm := hM.2.2.1
  have eX : f_X10_count 0 a1 μ = some (if a1 = nI 0 then nI (S.2.1 15 1) else if a1 = nI 1 then nI (S.2.1 15 2) else if a1 = nI 2 then nI (S.2.1 15 3) else if a1 = nI 3 then nI (S.2.2.2.2.1 1 0) else if a1 = nI 4 then nI (S.2.1 15 0) else -nI 2, μ) := by
    unfold f_X10_count f_X5_size f_X7_length
    simp only [il, rf_0_1, rf_8_0, rf_8_1, rf_8_2, rf_8_3, rf_0_4, bnd_s, hX.2.2.2.2.1.1]
    rw [show μ.1 9 2 = nI (S.2.1 15 0) from hx.1.1, show μ.1 12 2 = nI (S.2.1 15 1) from hx.2.1.1, show μ.1 15 2 = nI (S.2.1 15 2) from hx.2.2.1.1, show μ.1 18 2 = nI (S.2.1 15 3) from hx.2.2.2.1]
    repeat' split
    all_goals rfl
  have eM : f_X11_count 85 a1 μ = some (if a1 = nI 0 then nI (S.2.1 15 1) else if a1 = nI 1 then nI (S.2.1 15 2) else if a1 = nI 2 then nI (S.2.1 15 3) else if a1 = nI 3 then nI (S.2.2.2.2.1 1 0) else if a1 = nI 4 then nI (S.2.1 15 0) else -nI 2, μ) := by
    unfold f_X11_count
    simp only [il]
    rw [hm.1.1, hm.2.1.1, hm.2.2.1.1, hm.2.2.2.1, hM.2.2.2.2.1.1]
    repeat' split
    all_goals rfl
  exact call_q hX hM eX eM
