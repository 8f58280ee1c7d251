/-! keeps as a whole; again -/
theorem m_keeps {a : Nat} (ha : iA a) {V H : SV} {μ : Mem} (hM : MSea μ V) (hH : HVok H) (hh : MHand μ H) : ∃ μ2, f_X11_keeps 85 a μ = some μ2 ∧ KF a μ μ2 ∧ MImg a μ2 V H := by
  have hFU : FU = 1000000000000 := rfl
  have hal := ha.al
  have hlt := ha.lt
  obtain ⟨μ1, e1, F1, v1_0, g1⟩ := kp_b2 ha FU 0 μ (by decide) (by omega)
  have K1 := F1
  obtain ⟨μ2, e2, F2, v2_0, v2_1, g2⟩ := kp_b25 ha FU 0 μ1 (by decide) (by omega)
  have K2 := K1.tr F2
  obtain ⟨μ3, e3, F3, v3_0, g3⟩ := kp_b63 ha FU 0 μ2 (by decide) (by omega)
  have K3 := K2.tr F3
  obtain ⟨μ4, e4, F4, v4_0, v4_1, g4⟩ := kp_b89 ha FU 0 μ3 (by decide) (by omega)
  have K4 := K3.tr F4
  obtain ⟨μ5, e5, F5, v5_0, v5_1, v5_2, v5_3, v5_4, g5⟩ := kp_b126 ha FU 0 μ4 (by decide) (by omega)
  have K5 := K4.tr F5
  obtain ⟨μ6, e6, F6, v6_0, v6_1, g6⟩ := kp_b201 ha FU 0 μ5 (by decide) (by omega)
  have K6 := K5.tr F6
  obtain ⟨ν, hν⟩ : ∃ ν, ν = (sI (sI (sI (sI (sI (sI (sI (sI (sI μ6 a 146 (μ6.1 92 0)) a 147 (μ6.1 92 1)) a 148 (μ6.1 85 7)) a 149 (μ6.1 85 8)) a 150 (μ6.1 85 9)) a 151 (μ6.1 85 10)) a 152 (μ6.1 85 12)) a 153 (μ6.1 85 15)) a 154 (μ6.1 85 18)) := ⟨_, rfl⟩
  have eL : f_X11_keeps_b201 85 a 1 (nI 5) μ6 = some ν := by
    rw [f_X11_keeps_b201]
    rw [if_pos (by decide)]
    simp (disch := omega) only [il, rf_85_6, al_92, hal, gA_n, nI_clamp, lt_d, sI_o (show 92 ≠ a by omega), sI_o (show 85 ≠ a by omega)]
    rw [hν]
  have Fν : KF a μ6 ν := by
    rw [hν]
    exact ⟨rfl, fun i hi => by rw [sI_o hi, sI_o hi, sI_o hi, sI_o hi, sI_o hi, sI_o hi, sI_o hi, sI_o hi, sI_o hi]⟩
  have fν : ∀ j, j < 146 → ν.1 a j = μ6.1 a j := fun j hj => by rw [hν, sI_n (Or.inr (by omega)), sI_n (Or.inr (by omega)), sI_n (Or.inr (by omega)), sI_n (Or.inr (by omega)), sI_n (Or.inr (by omega)), sI_n (Or.inr (by omega)), sI_n (Or.inr (by omega)), sI_n (Or.inr (by omega)), sI_n (Or.inr (by omega))]
  have s146 : ν.1 a 146 = μ.1 92 0 := by rw [hν, sI_n (Or.inr (by decide)), sI_n (Or.inr (by decide)), sI_n (Or.inr (by decide)), sI_n (Or.inr (by decide)), sI_n (Or.inr (by decide)), sI_n (Or.inr (by decide)), sI_n (Or.inr (by decide)), sI_n (Or.inr (by decide)), sI_e, K6.2 92 (by omega)]
  have s147 : ν.1 a 147 = μ.1 92 1 := by rw [hν, sI_n (Or.inr (by decide)), sI_n (Or.inr (by decide)), sI_n (Or.inr (by decide)), sI_n (Or.inr (by decide)), sI_n (Or.inr (by decide)), sI_n (Or.inr (by decide)), sI_n (Or.inr (by decide)), sI_e, K6.2 92 (by omega)]
  have s148 : ν.1 a 148 = μ.1 85 7 := by rw [hν, sI_n (Or.inr (by decide)), sI_n (Or.inr (by decide)), sI_n (Or.inr (by decide)), sI_n (Or.inr (by decide)), sI_n (Or.inr (by decide)), sI_n (Or.inr (by decide)), sI_e, K6.2 85 (by omega)]
  have s149 : ν.1 a 149 = μ.1 85 8 := by rw [hν, sI_n (Or.inr (by decide)), sI_n (Or.inr (by decide)), sI_n (Or.inr (by decide)), sI_n (Or.inr (by decide)), sI_n (Or.inr (by decide)), sI_e, K6.2 85 (by omega)]
  have s150 : ν.1 a 150 = μ.1 85 9 := by rw [hν, sI_n (Or.inr (by decide)), sI_n (Or.inr (by decide)), sI_n (Or.inr (by decide)), sI_n (Or.inr (by decide)), sI_e, K6.2 85 (by omega)]
  have s151 : ν.1 a 151 = μ.1 85 10 := by rw [hν, sI_n (Or.inr (by decide)), sI_n (Or.inr (by decide)), sI_n (Or.inr (by decide)), sI_e, K6.2 85 (by omega)]
  have s152 : ν.1 a 152 = μ.1 85 12 := by rw [hν, sI_n (Or.inr (by decide)), sI_n (Or.inr (by decide)), sI_e, K6.2 85 (by omega)]
  have s153 : ν.1 a 153 = μ.1 85 15 := by rw [hν, sI_n (Or.inr (by decide)), sI_e, K6.2 85 (by omega)]
  have s154 : ν.1 a 154 = μ.1 85 18 := by rw [hν, sI_e, K6.2 85 (by omega)]
  have src : ∀ i, i ≠ a → ν.1 i = μ.1 i := (K6.tr Fν).2
  have r86 : ∀ t, t < 36 → ν.1 a (0 + t) = μ.1 86 t := fun t ht => by
    rw [fν _ (by omega), g6 _ (by omega) (by omega), g5 _ (by omega) (by omega) (by omega) (by omega) (by omega), g4 _ (by omega) (by omega), g3 _ (by omega), g2 _ (by omega) (by omega), v1_0 t (Nat.zero_le _) ht]
  have r87 : ∀ t, t < 16 → ν.1 a (36 + t) = μ.1 87 t := fun t ht => by
    rw [fν _ (by omega), g6 _ (by omega) (by omega), g5 _ (by omega) (by omega) (by omega) (by omega) (by omega), g4 _ (by omega) (by omega), g3 _ (by omega), v2_0 t (Nat.zero_le _) ht, K1.2 87 (by omega)]
  have r88 : ∀ t, t < 16 → ν.1 a (52 + t) = μ.1 88 t := fun t ht => by
    rw [fν _ (by omega), g6 _ (by omega) (by omega), g5 _ (by omega) (by omega) (by omega) (by omega) (by omega), g4 _ (by omega) (by omega), g3 _ (by omega), v2_1 t (Nat.zero_le _) ht, K1.2 88 (by omega)]
  have r89 : ∀ t, t < 20 → ν.1 a (68 + t) = μ.1 89 t := fun t ht => by
    rw [fν _ (by omega), g6 _ (by omega) (by omega), g5 _ (by omega) (by omega) (by omega) (by omega) (by omega), g4 _ (by omega) (by omega), v3_0 t (Nat.zero_le _) ht, K2.2 89 (by omega)]
  have r90 : ∀ t, t < 4 → ν.1 a (88 + t) = μ.1 90 t := fun t ht => by
    rw [fν _ (by omega), g6 _ (by omega) (by omega), g5 _ (by omega) (by omega) (by omega) (by omega) (by omega), v4_0 t (Nat.zero_le _) ht, K3.2 90 (by omega)]
  have r91 : ∀ t, t < 4 → ν.1 a (92 + t) = μ.1 91 t := fun t ht => by
    rw [fν _ (by omega), g6 _ (by omega) (by omega), g5 _ (by omega) (by omega) (by omega) (by omega) (by omega), v4_1 t (Nat.zero_le _) ht, K3.2 91 (by omega)]
  have r93 : ∀ t, t < 8 → ν.1 a (96 + t) = μ.1 93 t := fun t ht => by
    rw [fν _ (by omega), g6 _ (by omega) (by omega), v5_0 t (Nat.zero_le _) ht, K4.2 93 (by omega)]
  have r96 : ∀ t, t < 8 → ν.1 a (104 + t) = μ.1 96 t := fun t ht => by
    rw [fν _ (by omega), g6 _ (by omega) (by omega), v5_1 t (Nat.zero_le _) ht, K4.2 96 (by omega)]
  have r97 : ∀ t, t < 8 → ν.1 a (112 + t) = μ.1 97 t := fun t ht => by
    rw [fν _ (by omega), g6 _ (by omega) (by omega), v5_2 t (Nat.zero_le _) ht, K4.2 97 (by omega)]
  have r98 : ∀ t, t < 8 → ν.1 a (120 + t) = μ.1 98 t := fun t ht => by
    rw [fν _ (by omega), g6 _ (by omega) (by omega), v5_3 t (Nat.zero_le _) ht, K4.2 98 (by omega)]
  have r99 : ∀ t, t < 8 → ν.1 a (128 + t) = μ.1 99 t := fun t ht => by
    rw [fν _ (by omega), g6 _ (by omega) (by omega), v5_4 t (Nat.zero_le _) ht, K4.2 99 (by omega)]
  have r94 : ∀ t, t < 5 → ν.1 a (136 + t) = μ.1 94 t := fun t ht => by
    rw [fν _ (by omega), v6_0 t (Nat.zero_le _) ht, K5.2 94 (by omega)]
  have r95 : ∀ t, t < 5 → ν.1 a (141 + t) = μ.1 95 t := fun t ht => by
    rw [fν _ (by omega), v6_1 t (Nat.zero_le _) ht, K5.2 95 (by omega)]
  obtain ⟨m0, m1, m4, m2, m3, m5, m6, m7, m8, m9⟩ := hM
  obtain ⟨⟨a1, a2⟩, ⟨b1, b2⟩, ⟨c1, c2⟩, ⟨d1, d2⟩⟩ := hh
  obtain ⟨o1, o2, o3, o4⟩ := hH
  refine ⟨ν, ?_, K6.tr Fν, ⟨fun k hk => ?_, fun k hk => ⟨?_, ?_⟩, fun k hk => ?_, fun k hk => ⟨?_, ?_⟩, ⟨?_, ?_⟩, ⟨?_, ?_, ?_⟩⟩, ⟨?_, fun k hk => ?_⟩, ⟨?_, fun k hk => ⟨?_, ?_⟩⟩, ⟨?_, fun k hk => ⟨?_, ?_⟩⟩, ⟨?_, fun k hk => ⟨?_, ?_⟩⟩⟩
  · unfold f_X11_keeps
    rw [show f_X11_keeps_b2 85 a FU (0 : Int32) μ = _ from e1, e2, e3, e4, e5, e6]
    exact eL
  · have h := r86 k hk
    rw [Nat.zero_add] at h
    rw [h]; exact m6 k hk
  · rw [r87 k hk]; exact m0 k hk
  · rw [r88 k hk]; exact m1 k hk
  · rw [r89 k hk]; exact m4 k hk
  · rw [r90 k hk]; exact m2 k hk
  · rw [r91 k hk]; exact m3 k hk
  · rw [s146]; exact m5.1
  · rw [s147]; exact m5.2
  · rw [s148]; exact m7
  · rw [s149]; exact m8
  · rw [s150]; exact m9
  · rw [s151]; exact a1
  · rw [r93 k (by omega)]; exact a2 k hk
  · rw [s152]; exact b1
  · rw [r94 k (by omega)]; exact (b2 k hk).1
  · rw [r95 k (by omega)]; exact (b2 k hk).2
  · rw [s153]; exact c1
  · rw [r96 k (by omega)]; exact (c2 k hk).1
  · rw [r97 k (by omega)]; exact (c2 k hk).2
  · rw [s154]; exact d1
  · rw [r98 k (by omega)]; exact (d2 k hk).1
  · rw [r99 k (by omega)]; exact (d2 k hk).2
theorem ag_b2 {a : Nat} (ha : iA a) : ∀ (n k : Nat) (μ : Mem), k ≤ 36 → 36 - k < n → ∃ μ2, f_X11_again_b2 85 a n (nI k) μ = f_X11_again_b25 85 a FU (nI 0) μ2 ∧ μ2.2 = μ.2 ∧ (∀ i, i ≠ 86 → μ2.1 i = μ.1 i) ∧ (∀ t, k ≤ t → t < 36 → μ2.1 86 t = μ.1 a (0 + t)) ∧ (∀ t, t < k ∨ 36 ≤ t → μ2.1 86 t = μ.1 86 t) := by
  have hal := ha.al
  have hlt := ha.lt
  intro n
  induction n with
  | zero => intro k μ hk hn; omega
  | succ n ih =>
    intro k μ hk hn
    by_cases c : 36 ≤ k
    · have e : k = 36 := by omega
      subst e
      refine ⟨μ, ?_, rfl, fun i _ => rfl, fun t h1 h2 => by omega, fun t _ => rfl⟩
      rw [f_X11_again_b2]
      exact if_pos (by decide)
    · obtain ⟨μ2, e1, e2, e3, v0, u0⟩ := ih (k + 1) (sI μ 86 k (μ.1 a k)) (by omega) (by omega)
      refine ⟨μ2, ?_, e2, fun i h0 => ?_, fun t h1 h2 => ?_, fun t h1 => ?_⟩
      · rw [← e1]
        conv => lhs; rw [f_X11_again_b2]
        rw [if_neg (show ¬ (36 : Int32) ≤ nI k from nI_ge (a := k) (b := 36) (by omega) (by omega))]
        simp (disch := omega) only [il, rf_85_0, al_86, hal, gA_n, nI_clamp, lt_d, nI_add]
      · rw [e3 i h0, sI_o h0]
      · by_cases d : t = k
        · subst d
          rw [u0 _ (by omega)]
          rw [sI_e, Nat.zero_add]
        · rw [v0 t (by omega) h2]
          rw [sI_o (show a ≠ 86 by omega)]
      · rw [u0 t (by omega)]
        rw [sI_n (Or.inr (by omega))]
theorem ag_b25 {a : Nat} (ha : iA a) : ∀ (n k : Nat) (μ : Mem), k ≤ 16 → 16 - k < n → ∃ μ2, f_X11_again_b25 85 a n (nI k) μ = f_X11_again_b63 85 a FU (nI 0) μ2 ∧ μ2.2 = μ.2 ∧ (∀ i, i ≠ 87 → i ≠ 88 → μ2.1 i = μ.1 i) ∧ (∀ t, k ≤ t → t < 16 → μ2.1 87 t = μ.1 a (36 + t)) ∧ (∀ t, t < k ∨ 16 ≤ t → μ2.1 87 t = μ.1 87 t) ∧ (∀ t, k ≤ t → t < 16 → μ2.1 88 t = μ.1 a (52 + t)) ∧ (∀ t, t < k ∨ 16 ≤ t → μ2.1 88 t = μ.1 88 t) := by
  have hal := ha.al
  have hlt := ha.lt
  intro n
  induction n with
  | zero => intro k μ hk hn; omega
  | succ n ih =>
    intro k μ hk hn
    by_cases c : 16 ≤ k
    · have e : k = 16 := by omega
      subst e
      refine ⟨μ, ?_, rfl, fun i _ _ => rfl, fun t h1 h2 => by omega, fun t _ => rfl, fun t h1 h2 => by omega, fun t _ => rfl⟩
      rw [f_X11_again_b25]
      exact if_pos (by decide)
    · obtain ⟨μ2, e1, e2, e3, v0, u0, v1, u1⟩ := ih (k + 1) (sI (sI μ 87 k (μ.1 a (36 + k))) 88 k (μ.1 a (52 + k))) (by omega) (by omega)
      refine ⟨μ2, ?_, e2, fun i h0 h1 => ?_, fun t h1 h2 => ?_, fun t h1 => ?_, fun t h1 h2 => ?_, fun t h1 => ?_⟩
      · rw [← e1]
        conv => lhs; rw [f_X11_again_b25]
        rw [if_neg (show ¬ (16 : Int32) ≤ nI k from nI_ge (a := k) (b := 16) (by omega) (by omega))]
        simp (disch := omega) only [il, rf_85_1, al_87, rf_85_2, al_88, hal, gA_n, nI_clamp, lt_d, nI_add, sI_o (show a ≠ 87 by omega)]
      · rw [e3 i h0 h1, sI_o h1, sI_o h0]
      · by_cases d : t = k
        · subst d
          rw [u0 _ (by omega)]
          rw [sI_o (by decide), sI_e]
        · rw [v0 t (by omega) h2]
          rw [sI_o (show a ≠ 88 by omega), sI_o (show a ≠ 87 by omega)]
      · rw [u0 t (by omega)]
        rw [sI_o (by decide), sI_n (Or.inr (by omega))]
      · by_cases d : t = k
        · subst d
          rw [u1 _ (by omega)]
          rw [sI_e]
        · rw [v1 t (by omega) h2]
          rw [sI_o (show a ≠ 88 by omega), sI_o (show a ≠ 87 by omega)]
      · rw [u1 t (by omega)]
        rw [sI_n (Or.inr (by omega)), sI_o (by decide)]
theorem ag_b63 {a : Nat} (ha : iA a) : ∀ (n k : Nat) (μ : Mem), k ≤ 20 → 20 - k < n → ∃ μ2, f_X11_again_b63 85 a n (nI k) μ = f_X11_again_b89 85 a FU (nI 0) μ2 ∧ μ2.2 = μ.2 ∧ (∀ i, i ≠ 89 → μ2.1 i = μ.1 i) ∧ (∀ t, k ≤ t → t < 20 → μ2.1 89 t = μ.1 a (68 + t)) ∧ (∀ t, t < k ∨ 20 ≤ t → μ2.1 89 t = μ.1 89 t) := by
  have hal := ha.al
  have hlt := ha.lt
  intro n
  induction n with
  | zero => intro k μ hk hn; omega
  | succ n ih =>
    intro k μ hk hn
    by_cases c : 20 ≤ k
    · have e : k = 20 := by omega
      subst e
      refine ⟨μ, ?_, rfl, fun i _ => rfl, fun t h1 h2 => by omega, fun t _ => rfl⟩
      rw [f_X11_again_b63]
      exact if_pos (by decide)
    · obtain ⟨μ2, e1, e2, e3, v0, u0⟩ := ih (k + 1) (sI μ 89 k (μ.1 a (68 + k))) (by omega) (by omega)
      refine ⟨μ2, ?_, e2, fun i h0 => ?_, fun t h1 h2 => ?_, fun t h1 => ?_⟩
      · rw [← e1]
        conv => lhs; rw [f_X11_again_b63]
        rw [if_neg (show ¬ (20 : Int32) ≤ nI k from nI_ge (a := k) (b := 20) (by omega) (by omega))]
        simp (disch := omega) only [il, rf_85_3, al_89, hal, gA_n, nI_clamp, lt_d, nI_add]
      · rw [e3 i h0, sI_o h0]
      · by_cases d : t = k
        · subst d
          rw [u0 _ (by omega)]
          rw [sI_e]
        · rw [v0 t (by omega) h2]
          rw [sI_o (show a ≠ 89 by omega)]
      · rw [u0 t (by omega)]
        rw [sI_n (Or.inr (by omega))]
theorem ag_b89 {a : Nat} (ha : iA a) : ∀ (n k : Nat) (μ : Mem), k ≤ 4 → 4 - k < n → ∃ μ2, f_X11_again_b89 85 a n (nI k) μ = f_X11_again_b126 85 a FU (nI 0) μ2 ∧ μ2.2 = μ.2 ∧ (∀ i, i ≠ 90 → i ≠ 91 → μ2.1 i = μ.1 i) ∧ (∀ t, k ≤ t → t < 4 → μ2.1 90 t = μ.1 a (88 + t)) ∧ (∀ t, t < k ∨ 4 ≤ t → μ2.1 90 t = μ.1 90 t) ∧ (∀ t, k ≤ t → t < 4 → μ2.1 91 t = μ.1 a (92 + t)) ∧ (∀ t, t < k ∨ 4 ≤ t → μ2.1 91 t = μ.1 91 t) := by
  have hal := ha.al
  have hlt := ha.lt
  intro n
  induction n with
  | zero => intro k μ hk hn; omega
  | succ n ih =>
    intro k μ hk hn
    by_cases c : 4 ≤ k
    · have e : k = 4 := by omega
      subst e
      refine ⟨μ, ?_, rfl, fun i _ _ => rfl, fun t h1 h2 => by omega, fun t _ => rfl, fun t h1 h2 => by omega, fun t _ => rfl⟩
      rw [f_X11_again_b89]
      exact if_pos (by decide)
    · obtain ⟨μ2, e1, e2, e3, v0, u0, v1, u1⟩ := ih (k + 1) (sI (sI μ 90 k (μ.1 a (88 + k))) 91 k (μ.1 a (92 + k))) (by omega) (by omega)
      refine ⟨μ2, ?_, e2, fun i h0 h1 => ?_, fun t h1 h2 => ?_, fun t h1 => ?_, fun t h1 h2 => ?_, fun t h1 => ?_⟩
      · rw [← e1]
        conv => lhs; rw [f_X11_again_b89]
        rw [if_neg (show ¬ (4 : Int32) ≤ nI k from nI_ge (a := k) (b := 4) (by omega) (by omega))]
        simp (disch := omega) only [il, rf_85_4, al_90, rf_85_5, al_91, hal, gA_n, nI_clamp, lt_d, nI_add, sI_o (show a ≠ 90 by omega)]
      · rw [e3 i h0 h1, sI_o h1, sI_o h0]
      · by_cases d : t = k
        · subst d
          rw [u0 _ (by omega)]
          rw [sI_o (by decide), sI_e]
        · rw [v0 t (by omega) h2]
          rw [sI_o (show a ≠ 91 by omega), sI_o (show a ≠ 90 by omega)]
      · rw [u0 t (by omega)]
        rw [sI_o (by decide), sI_n (Or.inr (by omega))]
      · by_cases d : t = k
        · subst d
          rw [u1 _ (by omega)]
          rw [sI_e]
        · rw [v1 t (by omega) h2]
          rw [sI_o (show a ≠ 91 by omega), sI_o (show a ≠ 90 by omega)]
      · rw [u1 t (by omega)]
        rw [sI_n (Or.inr (by omega)), sI_o (by decide)]
theorem ag_b126 {a : Nat} (ha : iA a) : ∀ (n k : Nat) (μ : Mem), k ≤ 8 → 8 - k < n → ∃ μ2, f_X11_again_b126 85 a n (nI k) μ = f_X11_again_b201 85 a FU (nI 0) μ2 ∧ μ2.2 = μ.2 ∧ (∀ i, i ≠ 93 → i ≠ 96 → i ≠ 97 → i ≠ 98 → i ≠ 99 → μ2.1 i = μ.1 i) ∧ (∀ t, k ≤ t → t < 8 → μ2.1 93 t = μ.1 a (96 + t)) ∧ (∀ t, t < k ∨ 8 ≤ t → μ2.1 93 t = μ.1 93 t) ∧ (∀ t, k ≤ t → t < 8 → μ2.1 96 t = μ.1 a (104 + t)) ∧ (∀ t, t < k ∨ 8 ≤ t → μ2.1 96 t = μ.1 96 t) ∧ (∀ t, k ≤ t → t < 8 → μ2.1 97 t = μ.1 a (112 + t)) ∧ (∀ t, t < k ∨ 8 ≤ t → μ2.1 97 t = μ.1 97 t) ∧ (∀ t, k ≤ t → t < 8 → μ2.1 98 t = μ.1 a (120 + t)) ∧ (∀ t, t < k ∨ 8 ≤ t → μ2.1 98 t = μ.1 98 t) ∧ (∀ t, k ≤ t → t < 8 → μ2.1 99 t = μ.1 a (128 + t)) ∧ (∀ t, t < k ∨ 8 ≤ t → μ2.1 99 t = μ.1 99 t) := by
  have hal := ha.al
  have hlt := ha.lt
  intro n
  induction n with
  | zero => intro k μ hk hn; omega
  | succ n ih =>
    intro k μ hk hn
    by_cases c : 8 ≤ k
    · have e : k = 8 := by omega
      subst e
      refine ⟨μ, ?_, rfl, fun i _ _ _ _ _ => rfl, fun t h1 h2 => by omega, fun t _ => rfl, fun t h1 h2 => by omega, fun t _ => rfl, fun t h1 h2 => by omega, fun t _ => rfl, fun t h1 h2 => by omega, fun t _ => rfl, fun t h1 h2 => by omega, fun t _ => rfl⟩
      rw [f_X11_again_b126]
      exact if_pos (by decide)
    · obtain ⟨μ2, e1, e2, e3, v0, u0, v1, u1, v2, u2, v3, u3, v4, u4⟩ := ih (k + 1) (sI (sI (sI (sI (sI μ 93 k (μ.1 a (96 + k))) 96 k (μ.1 a (104 + k))) 97 k (μ.1 a (112 + k))) 98 k (μ.1 a (120 + k))) 99 k (μ.1 a (128 + k))) (by omega) (by omega)
      refine ⟨μ2, ?_, e2, fun i h0 h1 h2 h3 h4 => ?_, fun t h1 h2 => ?_, fun t h1 => ?_, fun t h1 h2 => ?_, fun t h1 => ?_, fun t h1 h2 => ?_, fun t h1 => ?_, fun t h1 h2 => ?_, fun t h1 => ?_, fun t h1 h2 => ?_, fun t h1 => ?_⟩
      · rw [← e1]
        conv => lhs; rw [f_X11_again_b126]
        rw [if_neg (show ¬ (8 : Int32) ≤ nI k from nI_ge (a := k) (b := 8) (by omega) (by omega))]
        simp (disch := omega) only [il, rf_85_11, al_93, rf_85_16, al_96, rf_85_17, al_97, rf_85_19, al_98, rf_85_20, al_99, hal, gA_n, nI_clamp, lt_d, nI_add, sI_o (show a ≠ 93 by omega), sI_o (show a ≠ 96 by omega), sI_o (show a ≠ 97 by omega), sI_o (show a ≠ 98 by omega)]
      · rw [e3 i h0 h1 h2 h3 h4, sI_o h4, sI_o h3, sI_o h2, sI_o h1, sI_o h0]
      · by_cases d : t = k
        · subst d
          rw [u0 _ (by omega)]
          rw [sI_o (by decide), sI_o (by decide), sI_o (by decide), sI_o (by decide), sI_e]
        · rw [v0 t (by omega) h2]
          rw [sI_o (show a ≠ 99 by omega), sI_o (show a ≠ 98 by omega), sI_o (show a ≠ 97 by omega), sI_o (show a ≠ 96 by omega), sI_o (show a ≠ 93 by omega)]
      · rw [u0 t (by omega)]
        rw [sI_o (by decide), sI_o (by decide), sI_o (by decide), sI_o (by decide), sI_n (Or.inr (by omega))]
      · by_cases d : t = k
        · subst d
          rw [u1 _ (by omega)]
          rw [sI_o (by decide), sI_o (by decide), sI_o (by decide), sI_e]
        · rw [v1 t (by omega) h2]
          rw [sI_o (show a ≠ 99 by omega), sI_o (show a ≠ 98 by omega), sI_o (show a ≠ 97 by omega), sI_o (show a ≠ 96 by omega), sI_o (show a ≠ 93 by omega)]
      · rw [u1 t (by omega)]
        rw [sI_o (by decide), sI_o (by decide), sI_o (by decide), sI_n (Or.inr (by omega)), sI_o (by decide)]
      · by_cases d : t = k
        · subst d
          rw [u2 _ (by omega)]
          rw [sI_o (by decide), sI_o (by decide), sI_e]
        · rw [v2 t (by omega) h2]
          rw [sI_o (show a ≠ 99 by omega), sI_o (show a ≠ 98 by omega), sI_o (show a ≠ 97 by omega), sI_o (show a ≠ 96 by omega), sI_o (show a ≠ 93 by omega)]
      · rw [u2 t (by omega)]
        rw [sI_o (by decide), sI_o (by decide), sI_n (Or.inr (by omega)), sI_o (by decide), sI_o (by decide)]
      · by_cases d : t = k
        · subst d
          rw [u3 _ (by omega)]
          rw [sI_o (by decide), sI_e]
        · rw [v3 t (by omega) h2]
          rw [sI_o (show a ≠ 99 by omega), sI_o (show a ≠ 98 by omega), sI_o (show a ≠ 97 by omega), sI_o (show a ≠ 96 by omega), sI_o (show a ≠ 93 by omega)]
      · rw [u3 t (by omega)]
        rw [sI_o (by decide), sI_n (Or.inr (by omega)), sI_o (by decide), sI_o (by decide), sI_o (by decide)]
      · by_cases d : t = k
        · subst d
          rw [u4 _ (by omega)]
          rw [sI_e]
        · rw [v4 t (by omega) h2]
          rw [sI_o (show a ≠ 99 by omega), sI_o (show a ≠ 98 by omega), sI_o (show a ≠ 97 by omega), sI_o (show a ≠ 96 by omega), sI_o (show a ≠ 93 by omega)]
      · rw [u4 t (by omega)]
        rw [sI_n (Or.inr (by omega)), sI_o (by decide), sI_o (by decide), sI_o (by decide), sI_o (by decide)]
theorem ag_b201 {a : Nat} (ha : iA a) : ∀ (n k : Nat) (μ : Mem), k ≤ 5 → 5 - k < n → ∃ μ2, f_X11_again_b201 85 a n (nI k) μ = f_X11_again_b201 85 a 1 (nI 5) μ2 ∧ μ2.2 = μ.2 ∧ (∀ i, i ≠ 94 → i ≠ 95 → μ2.1 i = μ.1 i) ∧ (∀ t, k ≤ t → t < 5 → μ2.1 94 t = μ.1 a (136 + t)) ∧ (∀ t, t < k ∨ 5 ≤ t → μ2.1 94 t = μ.1 94 t) ∧ (∀ t, k ≤ t → t < 5 → μ2.1 95 t = μ.1 a (141 + t)) ∧ (∀ t, t < k ∨ 5 ≤ t → μ2.1 95 t = μ.1 95 t) := by
  have hal := ha.al
  have hlt := ha.lt
  intro n
  induction n with
  | zero => intro k μ hk hn; omega
  | succ n ih =>
    intro k μ hk hn
    by_cases c : 5 ≤ k
    · have e : k = 5 := by omega
      subst e
      refine ⟨μ, ?_, rfl, fun i _ _ => rfl, fun t h1 h2 => by omega, fun t _ => rfl, fun t h1 h2 => by omega, fun t _ => rfl⟩
      rw [f_X11_again_b201, f_X11_again_b201]
      rw [if_pos (by decide), if_pos (by decide)]
    · obtain ⟨μ2, e1, e2, e3, v0, u0, v1, u1⟩ := ih (k + 1) (sI (sI μ 94 k (μ.1 a (136 + k))) 95 k (μ.1 a (141 + k))) (by omega) (by omega)
      refine ⟨μ2, ?_, e2, fun i h0 h1 => ?_, fun t h1 h2 => ?_, fun t h1 => ?_, fun t h1 h2 => ?_, fun t h1 => ?_⟩
      · rw [← e1]
        conv => lhs; rw [f_X11_again_b201]
        rw [if_neg (show ¬ (5 : Int32) ≤ nI k from nI_ge (a := k) (b := 5) (by omega) (by omega))]
        simp (disch := omega) only [il, rf_85_13, al_94, rf_85_14, al_95, hal, gA_n, nI_clamp, lt_d, nI_add, sI_o (show a ≠ 94 by omega)]
      · rw [e3 i h0 h1, sI_o h1, sI_o h0]
      · by_cases d : t = k
        · subst d
          rw [u0 _ (by omega)]
          rw [sI_o (by decide), sI_e]
        · rw [v0 t (by omega) h2]
          rw [sI_o (show a ≠ 95 by omega), sI_o (show a ≠ 94 by omega)]
      · rw [u0 t (by omega)]
        rw [sI_o (by decide), sI_n (Or.inr (by omega))]
      · by_cases d : t = k
        · subst d
          rw [u1 _ (by omega)]
          rw [sI_e]
        · rw [v1 t (by omega) h2]
          rw [sI_o (show a ≠ 95 by omega), sI_o (show a ≠ 94 by omega)]
      · rw [u1 t (by omega)]
        rw [sI_n (Or.inr (by omega)), sI_o (by decide)]
theorem m_again {a : Nat} (ha : iA a) {V H : SV} {μ : Mem} (hI : MImg a μ V H) (hH : HVok H) : ∃ μ2, f_X11_again 85 a μ = some μ2 ∧ MSea μ2 V ∧ MHand μ2 H ∧ μ2.2 = μ.2 ∧ (∀ i, i < 85 ∨ 99 < i → μ2.1 i = μ.1 i) ∧ ∀ k, k ≠ 7 → k ≠ 8 → k ≠ 9 → k ≠ 10 → k ≠ 12 → k ≠ 15 → k ≠ 18 → μ2.1 85 k = μ.1 85 k := by
  have hFU : FU = 1000000000000 := rfl
  have hal := ha.al
  have hlt := ha.lt
  obtain ⟨μ1, e1, z1, f1, v1_0, u1_0⟩ := ag_b2 ha FU 0 μ (by decide) (by omega)
  obtain ⟨μ2, e2, z2, f2, v2_0, u2_0, v2_1, u2_1⟩ := ag_b25 ha FU 0 μ1 (by decide) (by omega)
  obtain ⟨μ3, e3, z3, f3, v3_0, u3_0⟩ := ag_b63 ha FU 0 μ2 (by decide) (by omega)
  obtain ⟨μ4, e4, z4, f4, v4_0, u4_0, v4_1, u4_1⟩ := ag_b89 ha FU 0 μ3 (by decide) (by omega)
  obtain ⟨μ5, e5, z5, f5, v5_0, u5_0, v5_1, u5_1, v5_2, u5_2, v5_3, u5_3, v5_4, u5_4⟩ := ag_b126 ha FU 0 μ4 (by decide) (by omega)
  obtain ⟨μ6, e6, z6, f6, v6_0, u6_0, v6_1, u6_1⟩ := ag_b201 ha FU 0 μ5 (by decide) (by omega)
  obtain ⟨ν, hν⟩ : ∃ ν, ν = (sI (sI (sI (sI (sI (sI (sI (sI (sI μ6 92 0 (μ6.1 a 146)) 92 1 (μ6.1 a 147)) 85 7 (μ6.1 a 148)) 85 8 (μ6.1 a 149)) 85 9 (μ6.1 a 150)) 85 10 (μ6.1 a 151)) 85 12 (μ6.1 a 152)) 85 15 (μ6.1 a 153)) 85 18 (μ6.1 a 154)) := ⟨_, rfl⟩
  have eL : f_X11_again_b201 85 a 1 (nI 5) μ6 = some ν := by
    rw [f_X11_again_b201]
    rw [if_pos (by decide)]
    unfold f_X11_begins
    simp (disch := omega) only [il, rf_85_6, al_92, hal, gA_n, nI_clamp, lt_d, bnv_s, sI_o (show a ≠ 92 by omega), sI_o (show a ≠ 85 by omega)]
    rw [hν]
  have fa : μ6.1 a = μ.1 a := by rw [f6 a (by omega) (by omega), f5 a (by omega) (by omega) (by omega) (by omega) (by omega), f4 a (by omega) (by omega), f3 a (by omega), f2 a (by omega) (by omega), f1 a (by omega)]
  have fν : ∀ i, i ≠ 92 → i ≠ 85 → ν.1 i = μ6.1 i := fun i h1 h2 => by rw [hν, sI_o h2, sI_o h2, sI_o h2, sI_o h2, sI_o h2, sI_o h2, sI_o h2, sI_o h1, sI_o h1]
  have s146 : ν.1 92 0 = μ.1 a 146 := by rw [hν, sI_o (by decide), sI_o (by decide), sI_o (by decide), sI_o (by decide), sI_o (by decide), sI_o (by decide), sI_o (by decide), sI_n (Or.inr (by decide)), sI_e, fa]
  have s147 : ν.1 92 1 = μ.1 a 147 := by rw [hν, sI_o (by decide), sI_o (by decide), sI_o (by decide), sI_o (by decide), sI_o (by decide), sI_o (by decide), sI_o (by decide), sI_e, fa]
  have s148 : ν.1 85 7 = μ.1 a 148 := by rw [hν, sI_n (Or.inr (by decide)), sI_n (Or.inr (by decide)), sI_n (Or.inr (by decide)), sI_n (Or.inr (by decide)), sI_n (Or.inr (by decide)), sI_n (Or.inr (by decide)), sI_e, fa]
  have s149 : ν.1 85 8 = μ.1 a 149 := by rw [hν, sI_n (Or.inr (by decide)), sI_n (Or.inr (by decide)), sI_n (Or.inr (by decide)), sI_n (Or.inr (by decide)), sI_n (Or.inr (by decide)), sI_e, fa]
  have s150 : ν.1 85 9 = μ.1 a 150 := by rw [hν, sI_n (Or.inr (by decide)), sI_n (Or.inr (by decide)), sI_n (Or.inr (by decide)), sI_n (Or.inr (by decide)), sI_e, fa]
  have s151 : ν.1 85 10 = μ.1 a 151 := by rw [hν, sI_n (Or.inr (by decide)), sI_n (Or.inr (by decide)), sI_n (Or.inr (by decide)), sI_e, fa]
  have s152 : ν.1 85 12 = μ.1 a 152 := by rw [hν, sI_n (Or.inr (by decide)), sI_n (Or.inr (by decide)), sI_e, fa]
  have s153 : ν.1 85 15 = μ.1 a 153 := by rw [hν, sI_n (Or.inr (by decide)), sI_e, fa]
  have s154 : ν.1 85 18 = μ.1 a 154 := by rw [hν, sI_e, fa]
  have r86 : ∀ t, t < 36 → ν.1 86 t = μ.1 a (0 + t) := fun t ht => by
    rw [fν 86 (by decide) (by decide), f6 86 (by decide) (by decide), f5 86 (by decide) (by decide) (by decide) (by decide) (by decide), f4 86 (by decide) (by decide), f3 86 (by decide), f2 86 (by decide) (by decide), v1_0 t (Nat.zero_le _) ht]
  have r87 : ∀ t, t < 16 → ν.1 87 t = μ.1 a (36 + t) := fun t ht => by
    rw [fν 87 (by decide) (by decide), f6 87 (by decide) (by decide), f5 87 (by decide) (by decide) (by decide) (by decide) (by decide), f4 87 (by decide) (by decide), f3 87 (by decide), v2_0 t (Nat.zero_le _) ht, f1 a (by omega)]
  have r88 : ∀ t, t < 16 → ν.1 88 t = μ.1 a (52 + t) := fun t ht => by
    rw [fν 88 (by decide) (by decide), f6 88 (by decide) (by decide), f5 88 (by decide) (by decide) (by decide) (by decide) (by decide), f4 88 (by decide) (by decide), f3 88 (by decide), v2_1 t (Nat.zero_le _) ht, f1 a (by omega)]
  have r89 : ∀ t, t < 20 → ν.1 89 t = μ.1 a (68 + t) := fun t ht => by
    rw [fν 89 (by decide) (by decide), f6 89 (by decide) (by decide), f5 89 (by decide) (by decide) (by decide) (by decide) (by decide), f4 89 (by decide) (by decide), v3_0 t (Nat.zero_le _) ht, f2 a (by omega) (by omega), f1 a (by omega)]
  have r90 : ∀ t, t < 4 → ν.1 90 t = μ.1 a (88 + t) := fun t ht => by
    rw [fν 90 (by decide) (by decide), f6 90 (by decide) (by decide), f5 90 (by decide) (by decide) (by decide) (by decide) (by decide), v4_0 t (Nat.zero_le _) ht, f3 a (by omega), f2 a (by omega) (by omega), f1 a (by omega)]
  have r91 : ∀ t, t < 4 → ν.1 91 t = μ.1 a (92 + t) := fun t ht => by
    rw [fν 91 (by decide) (by decide), f6 91 (by decide) (by decide), f5 91 (by decide) (by decide) (by decide) (by decide) (by decide), v4_1 t (Nat.zero_le _) ht, f3 a (by omega), f2 a (by omega) (by omega), f1 a (by omega)]
  have r93 : ∀ t, t < 8 → ν.1 93 t = μ.1 a (96 + t) := fun t ht => by
    rw [fν 93 (by decide) (by decide), f6 93 (by decide) (by decide), v5_0 t (Nat.zero_le _) ht, f4 a (by omega) (by omega), f3 a (by omega), f2 a (by omega) (by omega), f1 a (by omega)]
  have r96 : ∀ t, t < 8 → ν.1 96 t = μ.1 a (104 + t) := fun t ht => by
    rw [fν 96 (by decide) (by decide), f6 96 (by decide) (by decide), v5_1 t (Nat.zero_le _) ht, f4 a (by omega) (by omega), f3 a (by omega), f2 a (by omega) (by omega), f1 a (by omega)]
  have r97 : ∀ t, t < 8 → ν.1 97 t = μ.1 a (112 + t) := fun t ht => by
    rw [fν 97 (by decide) (by decide), f6 97 (by decide) (by decide), v5_2 t (Nat.zero_le _) ht, f4 a (by omega) (by omega), f3 a (by omega), f2 a (by omega) (by omega), f1 a (by omega)]
  have r98 : ∀ t, t < 8 → ν.1 98 t = μ.1 a (120 + t) := fun t ht => by
    rw [fν 98 (by decide) (by decide), f6 98 (by decide) (by decide), v5_3 t (Nat.zero_le _) ht, f4 a (by omega) (by omega), f3 a (by omega), f2 a (by omega) (by omega), f1 a (by omega)]
  have r99 : ∀ t, t < 8 → ν.1 99 t = μ.1 a (128 + t) := fun t ht => by
    rw [fν 99 (by decide) (by decide), f6 99 (by decide) (by decide), v5_4 t (Nat.zero_le _) ht, f4 a (by omega) (by omega), f3 a (by omega), f2 a (by omega) (by omega), f1 a (by omega)]
  have r94 : ∀ t, t < 5 → ν.1 94 t = μ.1 a (136 + t) := fun t ht => by
    rw [fν 94 (by decide) (by decide), v6_0 t (Nat.zero_le _) ht, f5 a (by omega) (by omega) (by omega) (by omega) (by omega), f4 a (by omega) (by omega), f3 a (by omega), f2 a (by omega) (by omega), f1 a (by omega)]
  have r95 : ∀ t, t < 5 → ν.1 95 t = μ.1 a (141 + t) := fun t ht => by
    rw [fν 95 (by decide) (by decide), v6_1 t (Nat.zero_le _) ht, f5 a (by omega) (by omega) (by omega) (by omega) (by omega), f4 a (by omega) (by omega), f3 a (by omega), f2 a (by omega) (by omega), f1 a (by omega)]
  obtain ⟨⟨m6, m01, m4, m23, m5, m7, m8, m9⟩, ⟨a1, a2⟩, ⟨b1, b2⟩, ⟨c1, c2⟩, ⟨d1, d2⟩⟩ := hI
  obtain ⟨o1, o2, o3, o4⟩ := hH
  refine ⟨ν, ?_, ⟨fun k hk => ?_, fun k hk => ?_, fun k hk => ?_, fun k hk => ?_, fun k hk => ?_, ⟨?_, ?_⟩, fun k hk => ?_, ?_, ?_, ?_⟩, ⟨⟨?_, fun k hk => ?_⟩, ⟨?_, fun k hk => ⟨?_, ?_⟩⟩, ⟨?_, fun k hk => ⟨?_, ?_⟩⟩, ⟨?_, fun k hk => ⟨?_, ?_⟩⟩⟩, ?_, fun i hi => ?_, fun k h1 h2 h3 h4 h5 h6 h7 => ?_⟩
  · unfold f_X11_again
    rw [show f_X11_again_b2 85 a FU (0 : Int32) μ = _ from e1, e2, e3, e4, e5, e6]
    exact eL
  · rw [r87 k hk]; exact (m01 k hk).1
  · rw [r88 k hk]; exact (m01 k hk).2
  · rw [r89 k hk]; exact m4 k hk
  · rw [r90 k hk]; exact (m23 k hk).1
  · rw [r91 k hk]; exact (m23 k hk).2
  · rw [s146]; exact m5.1
  · rw [s147]; exact m5.2
  · rw [r86 k hk, Nat.zero_add]; exact m6 k hk
  · rw [s148]; exact m7
  · rw [s149]; exact m8
  · rw [s150]; exact m9
  · rw [s151]; exact a1
  · rw [r93 k (by omega)]; exact a2 k hk
  · rw [s152]; exact b1
  · rw [r94 k (by omega)]; exact (b2 k hk).1
  · rw [r95 k (by omega)]; exact (b2 k hk).2
  · rw [s153]; exact c1
  · rw [r96 k (by omega)]; exact (c2 k hk).1
  · rw [r97 k (by omega)]; exact (c2 k hk).2
  · rw [s154]; exact d1
  · rw [r98 k (by omega)]; exact (d2 k hk).1
  · rw [r99 k (by omega)]; exact (d2 k hk).2
  · rw [hν]
    show μ6.2 = μ.2
    rw [z6, z5, z4, z3, z2, z1]
  · rw [fν i (by omega) (by omega), f6 i (by omega) (by omega), f5 i (by omega) (by omega) (by omega) (by omega) (by omega), f4 i (by omega) (by omega), f3 i (by omega), f2 i (by omega) (by omega), f1 i (by omega)]
  · have e85 : μ6.1 85 = μ.1 85 := by rw [f6 85 (by decide) (by decide), f5 85 (by decide) (by decide) (by decide) (by decide) (by decide), f4 85 (by decide) (by decide), f3 85 (by decide), f2 85 (by decide) (by decide), f1 85 (by decide)]
    rw [hν, sI_n (Or.inr h7), sI_n (Or.inr h6), sI_n (Or.inr h5), sI_n (Or.inr h4), sI_n (Or.inr h3), sI_n (Or.inr h2), sI_n (Or.inr h1), sI_o (by decide), sI_o (by decide), e85]
