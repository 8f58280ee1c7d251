/-! keeps, again -/
def KF (a : Nat) (μ μ2 : Mem) : Prop := μ2.2 = μ.2 ∧ ∀ i, i ≠ a → μ2.1 i = μ.1 i
theorem KF.rf (a : Nat) (μ : Mem) : KF a μ μ := ⟨rfl, fun _ _ => rfl⟩
theorem KF.tr {a : Nat} {x y z : Mem} (h : KF a x y) (g : KF a y z) : KF a x z := ⟨g.1.trans h.1, fun i hi => (g.2 i hi).trans (h.2 i hi)⟩
def iA (a : Nat) : Prop := a = 100 ∨ a = 101
theorem iA.al {a : Nat} (h : iA a) : aln a = 170 := by rcases h with rfl | rfl <;> decide +kernel
theorem iA.lt {a : Nat} (h : iA a) : 100 ≤ a ∧ a ≤ 101 := by rcases h with rfl | rfl <;> decide
theorem kp_b2 {a : Nat} (ha : iA a) : ∀ (n k : Nat) (μ : Mem), k ≤ 36 → 36 - k < n → ∃ μ2, f_X11_keeps_b2 85 a n (nI k) μ = f_X11_keeps_b25 85 a FU (nI 0) μ2 ∧ KF a μ μ2 ∧ (∀ t, k ≤ t → t < 36 → μ2.1 a (0 + t) = μ.1 86 t) ∧ (∀ j, (j < 0 + k ∨ 0 + 36 ≤ j) → μ2.1 a j = μ.1 a j) := by
  have hal := ha.al
  have hlt := ha.lt
  intro n
  induction n with
  | zero => intro k μ hk hn; omega
  | succ n ih =>
    intro k μ hk hn
    by_cases c : 36 ≤ k
    · have e : k = 36 := by omega
      subst e
      refine ⟨μ, ?_, KF.rf a μ, fun t h1 h2 => by omega, fun j _ => rfl⟩
      rw [f_X11_keeps_b2]
      exact if_pos (by decide)
    · obtain ⟨μ2, e1, e2, v0, e3⟩ := ih (k + 1) (sI μ a k (μ.1 86 k)) (by omega) (by omega)
      have F : KF a μ (sI μ a k (μ.1 86 k)) := ⟨rfl, fun i hi => by rw [sI_o hi]⟩
      refine ⟨μ2, ?_, F.tr e2, fun t h1 h2 => ?_, fun j g0 => ?_⟩
      · rw [← e1]
        conv => lhs; rw [f_X11_keeps_b2]
        rw [if_neg (show ¬ (36 : Int32) ≤ nI k from nI_ge (a := k) (b := 36) (by omega) (by omega))]
        simp (disch := omega) only [il, rf_85_0, al_86, hal, gA_n, nI_clamp, lt_d, nI_add]
      · by_cases d : t = k
        · subst d
          rw [e3 _ (by omega), Nat.zero_add]
          rw [sI_e]
        · rw [v0 t (by omega) h2]
          rw [F.2 86 (by omega)]
      · rw [e3 j (by omega), sI_n (Or.inr (by omega))]
theorem kp_b25 {a : Nat} (ha : iA a) : ∀ (n k : Nat) (μ : Mem), k ≤ 16 → 16 - k < n → ∃ μ2, f_X11_keeps_b25 85 a n (nI k) μ = f_X11_keeps_b63 85 a FU (nI 0) μ2 ∧ KF a μ μ2 ∧ (∀ t, k ≤ t → t < 16 → μ2.1 a (36 + t) = μ.1 87 t) ∧ (∀ t, k ≤ t → t < 16 → μ2.1 a (52 + t) = μ.1 88 t) ∧ (∀ j, (j < 36 + k ∨ 36 + 16 ≤ j) → (j < 52 + k ∨ 52 + 16 ≤ j) → μ2.1 a j = μ.1 a j) := by
  have hal := ha.al
  have hlt := ha.lt
  intro n
  induction n with
  | zero => intro k μ hk hn; omega
  | succ n ih =>
    intro k μ hk hn
    by_cases c : 16 ≤ k
    · have e : k = 16 := by omega
      subst e
      refine ⟨μ, ?_, KF.rf a μ, fun t h1 h2 => by omega, fun t h1 h2 => by omega, fun j _ _ => rfl⟩
      rw [f_X11_keeps_b25]
      exact if_pos (by decide)
    · obtain ⟨μ2, e1, e2, v0, v1, e3⟩ := ih (k + 1) (sI (sI μ a (36 + k) (μ.1 87 k)) a (52 + k) (μ.1 88 k)) (by omega) (by omega)
      have F : KF a μ (sI (sI μ a (36 + k) (μ.1 87 k)) a (52 + k) (μ.1 88 k)) := ⟨rfl, fun i hi => by rw [sI_o hi, sI_o hi]⟩
      refine ⟨μ2, ?_, F.tr e2, fun t h1 h2 => ?_, fun t h1 h2 => ?_, fun j g0 g1 => ?_⟩
      · rw [← e1]
        conv => lhs; rw [f_X11_keeps_b25]
        rw [if_neg (show ¬ (16 : Int32) ≤ nI k from nI_ge (a := k) (b := 16) (by omega) (by omega))]
        simp (disch := omega) only [il, rf_85_1, al_87, rf_85_2, al_88, hal, gA_n, nI_clamp, lt_d, nI_add, sI_o (show 88 ≠ a by omega)]
      · by_cases d : t = k
        · subst d
          rw [e3 _ (by omega) (by omega)]
          rw [sI_n (Or.inr (by omega)), sI_e]
        · rw [v0 t (by omega) h2]
          rw [F.2 87 (by omega)]
      · by_cases d : t = k
        · subst d
          rw [e3 _ (by omega) (by omega)]
          rw [sI_e]
        · rw [v1 t (by omega) h2]
          rw [F.2 88 (by omega)]
      · rw [e3 j (by omega) (by omega), sI_n (Or.inr (by omega)), sI_n (Or.inr (by omega))]
theorem kp_b63 {a : Nat} (ha : iA a) : ∀ (n k : Nat) (μ : Mem), k ≤ 20 → 20 - k < n → ∃ μ2, f_X11_keeps_b63 85 a n (nI k) μ = f_X11_keeps_b89 85 a FU (nI 0) μ2 ∧ KF a μ μ2 ∧ (∀ t, k ≤ t → t < 20 → μ2.1 a (68 + t) = μ.1 89 t) ∧ (∀ j, (j < 68 + k ∨ 68 + 20 ≤ j) → μ2.1 a j = μ.1 a j) := by
  have hal := ha.al
  have hlt := ha.lt
  intro n
  induction n with
  | zero => intro k μ hk hn; omega
  | succ n ih =>
    intro k μ hk hn
    by_cases c : 20 ≤ k
    · have e : k = 20 := by omega
      subst e
      refine ⟨μ, ?_, KF.rf a μ, fun t h1 h2 => by omega, fun j _ => rfl⟩
      rw [f_X11_keeps_b63]
      exact if_pos (by decide)
    · obtain ⟨μ2, e1, e2, v0, e3⟩ := ih (k + 1) (sI μ a (68 + k) (μ.1 89 k)) (by omega) (by omega)
      have F : KF a μ (sI μ a (68 + k) (μ.1 89 k)) := ⟨rfl, fun i hi => by rw [sI_o hi]⟩
      refine ⟨μ2, ?_, F.tr e2, fun t h1 h2 => ?_, fun j g0 => ?_⟩
      · rw [← e1]
        conv => lhs; rw [f_X11_keeps_b63]
        rw [if_neg (show ¬ (20 : Int32) ≤ nI k from nI_ge (a := k) (b := 20) (by omega) (by omega))]
        simp (disch := omega) only [il, rf_85_3, al_89, hal, gA_n, nI_clamp, lt_d, nI_add]
      · by_cases d : t = k
        · subst d
          rw [e3 _ (by omega)]
          rw [sI_e]
        · rw [v0 t (by omega) h2]
          rw [F.2 89 (by omega)]
      · rw [e3 j (by omega), sI_n (Or.inr (by omega))]
theorem kp_b89 {a : Nat} (ha : iA a) : ∀ (n k : Nat) (μ : Mem), k ≤ 4 → 4 - k < n → ∃ μ2, f_X11_keeps_b89 85 a n (nI k) μ = f_X11_keeps_b126 85 a FU (nI 0) μ2 ∧ KF a μ μ2 ∧ (∀ t, k ≤ t → t < 4 → μ2.1 a (88 + t) = μ.1 90 t) ∧ (∀ t, k ≤ t → t < 4 → μ2.1 a (92 + t) = μ.1 91 t) ∧ (∀ j, (j < 88 + k ∨ 88 + 4 ≤ j) → (j < 92 + k ∨ 92 + 4 ≤ j) → μ2.1 a j = μ.1 a j) := by
  have hal := ha.al
  have hlt := ha.lt
  intro n
  induction n with
  | zero => intro k μ hk hn; omega
  | succ n ih =>
    intro k μ hk hn
    by_cases c : 4 ≤ k
    · have e : k = 4 := by omega
      subst e
      refine ⟨μ, ?_, KF.rf a μ, fun t h1 h2 => by omega, fun t h1 h2 => by omega, fun j _ _ => rfl⟩
      rw [f_X11_keeps_b89]
      exact if_pos (by decide)
    · obtain ⟨μ2, e1, e2, v0, v1, e3⟩ := ih (k + 1) (sI (sI μ a (88 + k) (μ.1 90 k)) a (92 + k) (μ.1 91 k)) (by omega) (by omega)
      have F : KF a μ (sI (sI μ a (88 + k) (μ.1 90 k)) a (92 + k) (μ.1 91 k)) := ⟨rfl, fun i hi => by rw [sI_o hi, sI_o hi]⟩
      refine ⟨μ2, ?_, F.tr e2, fun t h1 h2 => ?_, fun t h1 h2 => ?_, fun j g0 g1 => ?_⟩
      · rw [← e1]
        conv => lhs; rw [f_X11_keeps_b89]
        rw [if_neg (show ¬ (4 : Int32) ≤ nI k from nI_ge (a := k) (b := 4) (by omega) (by omega))]
        simp (disch := omega) only [il, rf_85_4, al_90, rf_85_5, al_91, hal, gA_n, nI_clamp, lt_d, nI_add, sI_o (show 91 ≠ a by omega)]
      · by_cases d : t = k
        · subst d
          rw [e3 _ (by omega) (by omega)]
          rw [sI_n (Or.inr (by omega)), sI_e]
        · rw [v0 t (by omega) h2]
          rw [F.2 90 (by omega)]
      · by_cases d : t = k
        · subst d
          rw [e3 _ (by omega) (by omega)]
          rw [sI_e]
        · rw [v1 t (by omega) h2]
          rw [F.2 91 (by omega)]
      · rw [e3 j (by omega) (by omega), sI_n (Or.inr (by omega)), sI_n (Or.inr (by omega))]
theorem kp_b126 {a : Nat} (ha : iA a) : ∀ (n k : Nat) (μ : Mem), k ≤ 8 → 8 - k < n → ∃ μ2, f_X11_keeps_b126 85 a n (nI k) μ = f_X11_keeps_b201 85 a FU (nI 0) μ2 ∧ KF a μ μ2 ∧ (∀ t, k ≤ t → t < 8 → μ2.1 a (96 + t) = μ.1 93 t) ∧ (∀ t, k ≤ t → t < 8 → μ2.1 a (104 + t) = μ.1 96 t) ∧ (∀ t, k ≤ t → t < 8 → μ2.1 a (112 + t) = μ.1 97 t) ∧ (∀ t, k ≤ t → t < 8 → μ2.1 a (120 + t) = μ.1 98 t) ∧ (∀ t, k ≤ t → t < 8 → μ2.1 a (128 + t) = μ.1 99 t) ∧ (∀ j, (j < 96 + k ∨ 96 + 8 ≤ j) → (j < 104 + k ∨ 104 + 8 ≤ j) → (j < 112 + k ∨ 112 + 8 ≤ j) → (j < 120 + k ∨ 120 + 8 ≤ j) → (j < 128 + k ∨ 128 + 8 ≤ j) → μ2.1 a j = μ.1 a j) := by
  have hal := ha.al
  have hlt := ha.lt
  intro n
  induction n with
  | zero => intro k μ hk hn; omega
  | succ n ih =>
    intro k μ hk hn
    by_cases c : 8 ≤ k
    · have e : k = 8 := by omega
      subst e
      refine ⟨μ, ?_, KF.rf a μ, fun t h1 h2 => by omega, fun t h1 h2 => by omega, fun t h1 h2 => by omega, fun t h1 h2 => by omega, fun t h1 h2 => by omega, fun j _ _ _ _ _ => rfl⟩
      rw [f_X11_keeps_b126]
      exact if_pos (by decide)
    · obtain ⟨μ2, e1, e2, v0, v1, v2, v3, v4, e3⟩ := ih (k + 1) (sI (sI (sI (sI (sI μ a (96 + k) (μ.1 93 k)) a (104 + k) (μ.1 96 k)) a (112 + k) (μ.1 97 k)) a (120 + k) (μ.1 98 k)) a (128 + k) (μ.1 99 k)) (by omega) (by omega)
      have F : KF a μ (sI (sI (sI (sI (sI μ a (96 + k) (μ.1 93 k)) a (104 + k) (μ.1 96 k)) a (112 + k) (μ.1 97 k)) a (120 + k) (μ.1 98 k)) a (128 + k) (μ.1 99 k)) := ⟨rfl, fun i hi => by rw [sI_o hi, sI_o hi, sI_o hi, sI_o hi, sI_o hi]⟩
      refine ⟨μ2, ?_, F.tr e2, fun t h1 h2 => ?_, fun t h1 h2 => ?_, fun t h1 h2 => ?_, fun t h1 h2 => ?_, fun t h1 h2 => ?_, fun j g0 g1 g2 g3 g4 => ?_⟩
      · rw [← e1]
        conv => lhs; rw [f_X11_keeps_b126]
        rw [if_neg (show ¬ (8 : Int32) ≤ nI k from nI_ge (a := k) (b := 8) (by omega) (by omega))]
        simp (disch := omega) only [il, rf_85_11, al_93, rf_85_16, al_96, rf_85_17, al_97, rf_85_19, al_98, rf_85_20, al_99, hal, gA_n, nI_clamp, lt_d, nI_add, sI_o (show 96 ≠ a by omega), sI_o (show 97 ≠ a by omega), sI_o (show 98 ≠ a by omega), sI_o (show 99 ≠ a by omega)]
      · by_cases d : t = k
        · subst d
          rw [e3 _ (by omega) (by omega) (by omega) (by omega) (by omega)]
          rw [sI_n (Or.inr (by omega)), sI_n (Or.inr (by omega)), sI_n (Or.inr (by omega)), sI_n (Or.inr (by omega)), sI_e]
        · rw [v0 t (by omega) h2]
          rw [F.2 93 (by omega)]
      · by_cases d : t = k
        · subst d
          rw [e3 _ (by omega) (by omega) (by omega) (by omega) (by omega)]
          rw [sI_n (Or.inr (by omega)), sI_n (Or.inr (by omega)), sI_n (Or.inr (by omega)), sI_e]
        · rw [v1 t (by omega) h2]
          rw [F.2 96 (by omega)]
      · by_cases d : t = k
        · subst d
          rw [e3 _ (by omega) (by omega) (by omega) (by omega) (by omega)]
          rw [sI_n (Or.inr (by omega)), sI_n (Or.inr (by omega)), sI_e]
        · rw [v2 t (by omega) h2]
          rw [F.2 97 (by omega)]
      · by_cases d : t = k
        · subst d
          rw [e3 _ (by omega) (by omega) (by omega) (by omega) (by omega)]
          rw [sI_n (Or.inr (by omega)), sI_e]
        · rw [v3 t (by omega) h2]
          rw [F.2 98 (by omega)]
      · by_cases d : t = k
        · subst d
          rw [e3 _ (by omega) (by omega) (by omega) (by omega) (by omega)]
          rw [sI_e]
        · rw [v4 t (by omega) h2]
          rw [F.2 99 (by omega)]
      · rw [e3 j (by omega) (by omega) (by omega) (by omega) (by omega), sI_n (Or.inr (by omega)), sI_n (Or.inr (by omega)), sI_n (Or.inr (by omega)), sI_n (Or.inr (by omega)), sI_n (Or.inr (by omega))]
theorem kp_b201 {a : Nat} (ha : iA a) : ∀ (n k : Nat) (μ : Mem), k ≤ 5 → 5 - k < n → ∃ μ2, f_X11_keeps_b201 85 a n (nI k) μ = f_X11_keeps_b201 85 a 1 (nI 5) μ2 ∧ KF a μ μ2 ∧ (∀ t, k ≤ t → t < 5 → μ2.1 a (136 + t) = μ.1 94 t) ∧ (∀ t, k ≤ t → t < 5 → μ2.1 a (141 + t) = μ.1 95 t) ∧ (∀ j, (j < 136 + k ∨ 136 + 5 ≤ j) → (j < 141 + k ∨ 141 + 5 ≤ j) → μ2.1 a j = μ.1 a j) := by
  have hal := ha.al
  have hlt := ha.lt
  intro n
  induction n with
  | zero => intro k μ hk hn; omega
  | succ n ih =>
    intro k μ hk hn
    by_cases c : 5 ≤ k
    · have e : k = 5 := by omega
      subst e
      refine ⟨μ, ?_, KF.rf a μ, fun t h1 h2 => by omega, fun t h1 h2 => by omega, fun j _ _ => rfl⟩
      rw [f_X11_keeps_b201, f_X11_keeps_b201]
      rw [if_pos (by decide), if_pos (by decide)]
    · obtain ⟨μ2, e1, e2, v0, v1, e3⟩ := ih (k + 1) (sI (sI μ a (136 + k) (μ.1 94 k)) a (141 + k) (μ.1 95 k)) (by omega) (by omega)
      have F : KF a μ (sI (sI μ a (136 + k) (μ.1 94 k)) a (141 + k) (μ.1 95 k)) := ⟨rfl, fun i hi => by rw [sI_o hi, sI_o hi]⟩
      refine ⟨μ2, ?_, F.tr e2, fun t h1 h2 => ?_, fun t h1 h2 => ?_, fun j g0 g1 => ?_⟩
      · rw [← e1]
        conv => lhs; rw [f_X11_keeps_b201]
        rw [if_neg (show ¬ (5 : Int32) ≤ nI k from nI_ge (a := k) (b := 5) (by omega) (by omega))]
        simp (disch := omega) only [il, rf_85_13, al_94, rf_85_14, al_95, hal, gA_n, nI_clamp, lt_d, nI_add, sI_o (show 95 ≠ a by omega)]
      · by_cases d : t = k
        · subst d
          rw [e3 _ (by omega) (by omega)]
          rw [sI_n (Or.inr (by omega)), sI_e]
        · rw [v0 t (by omega) h2]
          rw [F.2 94 (by omega)]
      · by_cases d : t = k
        · subst d
          rw [e3 _ (by omega) (by omega)]
          rw [sI_e]
        · rw [v1 t (by omega) h2]
          rw [F.2 95 (by omega)]
      · rw [e3 j (by omega) (by omega), sI_n (Or.inr (by omega)), sI_n (Or.inr (by omega))]
