/-! arguments, and changes of the sea -/
theorem argn {x : Int32} (h0 : ¬ x < nI 0) : ∃ n, n < 2 ^ 31 ∧ x = nI n := nI_of h0
theorem argc (x : Int32) (c : Nat) (hc : 0 < c) (hc2 : c < 2 ^ 31) : ∃ b, (∀ μ, f_X10_below x (nI c) μ = some (nI b, μ)) ∧ (∀ μ, f_X11_in x (nI 0) (nI (c - 1)) μ = some (nI b, μ)) ∧ (b = 0 ∨ (b = 1 ∧ ∃ n, n < c ∧ x = nI n)) := by
  by_cases h0 : x < nI 0
  · exact ⟨0, fun μ => by unfold f_X10_below; simp only [il]; rw [if_pos h0], fun μ => by unfold f_X11_in; simp only [il]; rw [if_pos h0], Or.inl rfl⟩
  · obtain ⟨n, hn, rfl⟩ := argn h0
    by_cases h1 : c ≤ n
    · refine ⟨0, fun μ => ?_, fun μ => ?_, Or.inl rfl⟩
      · unfold f_X10_below; simp only [il]; rw [if_neg h0, if_pos (nI_le h1 (by omega))]
      · unfold f_X11_in; simp only [il]; rw [if_neg h0, if_pos (nI_lt (by omega) (by omega))]
    · refine ⟨1, fun μ => ?_, fun μ => ?_, Or.inr ⟨rfl, n, by omega, rfl⟩⟩
      · unfold f_X10_below; simp only [il]; rw [if_neg h0, if_neg (nI_ge (by omega) (by omega))]
      · unfold f_X11_in; simp only [il]; rw [if_neg h0, if_neg (show ¬ nI (c - 1) < nI n from fun z => absurd ((nI_ltI (by omega) (by omega)).mp z) (by omega))]
theorem m_gB {f : Mem → Option (Int32 × Mem)} {b : Nat} {μ : Mem} (h : f μ = some (nI b, μ)) (hb : b = 0 ∨ b = 1) : bnd (f μ) (fun r μ => gB r (some (r, μ))) = some (nI b, μ) := by
  rw [bnd_e h]
  rcases hb with rfl | rfl
  · exact gB_0
  · exact gB_1
theorem m_pred {g : Int32 → Mem → Option (Int32 × Mem)} {c b : Nat} {x : Int32} (hg : ∀ μ, g x μ = bnd (f_X11_in x (nI 0) (nI (c - 1)) μ) (fun r μ => gB r (some (r, μ)))) (h : ∀ μ, f_X11_in x (nI 0) (nI (c - 1)) μ = some (nI b, μ)) (hb : b = 0 ∨ b = 1) (μ : Mem) : g x μ = some (nI b, μ) := by
  rw [hg, bnd_e (h μ)]
  rcases hb with rfl | rfl
  · exact gB_0
  · exact gB_1

theorem arg_sq (x : Int32) : ∃ b, (∀ μ, f_X10_below x (nI 36) μ = some (nI b, μ)) ∧ (∀ μ, f_X11_isSquare x μ = some (nI b, μ)) ∧ (b = 0 ∨ (b = 1 ∧ ∃ n, n < 36 ∧ x = nI n)) := by
  obtain ⟨b, h1, h2, h3⟩ := argc x 36 (by decide) (by decide)
  exact ⟨b, h1, m_pred (g := f_X11_isSquare) (c := 36) (fun μ => by unfold f_X11_isSquare; simp only [il]) h2 (h3.imp id (fun z => z.1)), h3⟩
theorem arg_zo (x : Int32) : ∃ b, (∀ μ, f_X10_below x (nI 4) μ = some (nI b, μ)) ∧ (∀ μ, f_X11_isZone x μ = some (nI b, μ)) ∧ (b = 0 ∨ (b = 1 ∧ ∃ n, n < 4 ∧ x = nI n)) := by
  obtain ⟨b, h1, h2, h3⟩ := argc x 4 (by decide) (by decide)
  exact ⟨b, h1, m_pred (g := f_X11_isZone) (c := 4) (fun μ => by unfold f_X11_isZone; simp only [il]) h2 (h3.imp id (fun z => z.1)), h3⟩
theorem arg_sp (x : Int32) : ∃ b, (∀ μ, f_X10_below x (nI 4) μ = some (nI b, μ)) ∧ (∀ μ, f_X11_isSpan x μ = some (nI b, μ)) ∧ (b = 0 ∨ (b = 1 ∧ ∃ n, n < 4 ∧ x = nI n)) := by
  obtain ⟨b, h1, h2, h3⟩ := argc x 4 (by decide) (by decide)
  exact ⟨b, h1, m_pred (g := f_X11_isSpan) (c := 4) (fun μ => by unfold f_X11_isSpan; simp only [il]) h2 (h3.imp id (fun z => z.1)), h3⟩
theorem arg_si (x : Int32) : ∃ b, (∀ μ, f_X10_below x (nI 2) μ = some (nI b, μ)) ∧ (∀ μ, f_X11_isSide x μ = some (nI b, μ)) ∧ (b = 0 ∨ (b = 1 ∧ ∃ n, n < 2 ∧ x = nI n)) := by
  obtain ⟨b, h1, h2, h3⟩ := argc x 2 (by decide) (by decide)
  exact ⟨b, h1, m_pred (g := f_X11_isSide) (c := 2) (fun μ => by unfold f_X11_isSide; simp only [il]) h2 (h3.imp id (fun z => z.1)), h3⟩
theorem arg_he (x : Int32) : ∃ b, (∀ μ, f_X10_below x (nI 8) μ = some (nI b, μ)) ∧ (∀ μ, f_X11_isHeading x μ = some (nI b, μ)) ∧ (b = 0 ∨ (b = 1 ∧ ∃ n, n < 8 ∧ x = nI n)) := by
  obtain ⟨b, h1, h2, h3⟩ := argc x 8 (by decide) (by decide)
  exact ⟨b, h1, m_pred (g := f_X11_isHeading) (c := 8) (fun μ => by unfold f_X11_isHeading; simp only [il]) h2 (h3.imp id (fun z => z.1)), h3⟩
theorem arg_fo (x : Int32) : ∃ b, (∀ μ, f_X10_below x (nI 4) μ = some (nI b, μ)) ∧ (∀ μ, f_X11_isForce x μ = some (nI b, μ)) ∧ (b = 0 ∨ (b = 1 ∧ ∃ n, n < 4 ∧ x = nI n)) := by
  obtain ⟨b, h1, h2, h3⟩ := argc x 4 (by decide) (by decide)
  exact ⟨b, h1, m_pred (g := f_X11_isForce) (c := 4) (fun μ => by unfold f_X11_isForce; simp only [il]) h2 (h3.imp id (fun z => z.1)), h3⟩
theorem arg_pa (x : Int32) : ∃ b, (∀ μ, f_X10_below x (nI 2) μ = some (nI b, μ)) ∧ (∀ μ, f_X11_isPart x μ = some (nI b, μ)) ∧ (b = 0 ∨ (b = 1 ∧ ∃ n, n < 2 ∧ x = nI n)) := by
  obtain ⟨b, h1, h2, h3⟩ := argc x 2 (by decide) (by decide)
  exact ⟨b, h1, m_pred (g := f_X11_isPart) (c := 2) (fun μ => by unfold f_X11_isPart; simp only [il]) h2 (h3.imp id (fun z => z.1)), h3⟩
theorem arg_ta (x : Int32) : ∃ b, (∀ μ, f_X10_below x (nI 6) μ = some (nI b, μ)) ∧ (∀ μ, f_X11_isTape x μ = some (nI b, μ)) ∧ (b = 0 ∨ (b = 1 ∧ ∃ n, n < 6 ∧ x = nI n)) := by
  obtain ⟨b, h1, h2, h3⟩ := argc x 6 (by decide) (by decide)
  exact ⟨b, h1, m_pred (g := f_X11_isTape) (c := 6) (fun μ => by unfold f_X11_isTape; simp only [il]) h2 (h3.imp id (fun z => z.1)), h3⟩
theorem two {f : Nat → Int32} {g : Nat → Nat} (h : f 0 = nI (g 0) ∧ f 1 = nI (g 1)) : ∀ k, k < 2 → f k = nI (g k) := fun k hk => by
  rcases (show k = 0 ∨ k = 1 by omega) with rfl | rfl
  · exact h.1
  · exact h.2
theorem row_u {μ : Mem} {f g : Nat → Nat} {o j x N : Nat} (h : ∀ k, k < N → μ.1 o k = nI (f k)) (hj : g j = x) (hg : ∀ k, k ≠ j → g k = f k) : ∀ k, k < N → (sI μ o j (nI x)).1 o k = nI (g k) := fun k hk => by
  by_cases c : k = j
  · rw [c, sI_e, hj]
  · rw [sI_n (Or.inr c), hg k c]; exact h k hk
theorem row_o {μ : Mem} {f g : Nat → Nat} {o i j N : Nat} {x : Int32} (h : ∀ k, k < N → μ.1 o k = nI (f k)) (hi : o ≠ i) (hg : ∀ k, g k = f k) : ∀ k, k < N → (sI μ i j x).1 o k = nI (g k) := fun k hk => by
  rw [sI_o hi, hg k]; exact h k hk
section XP
variable {o : Nat} {V : SV} {μ : Mem} {j x : Nat}
theorem XSea.p0 (h : XSea o μ V) : XSea o (sI μ (o + 1) j (nI x)) (upV V 0 (j) x) := by
  obtain ⟨h0, h1, h2, h3, h4, h5, ⟨B, hB, hB2, hB3⟩, h7, h8, h9⟩ := h
  refine ⟨row_u h0 upV_e (fun k c => upV_n (Or.inr c)), row_o h1 (by omega) (fun k => upV_n (Or.inl (by omega))), row_o h2 (by omega) (fun k => upV_n (Or.inl (by omega))), row_o h3 (by omega) (fun k => upV_n (Or.inl (by omega))), fun k hk => row_o (f := fun k => V 4 (k + 5)) (g := fun k => upV V 0 (j) x 4 (k + 5)) (N := 15) h4 (by omega) (fun k => upV_n (Or.inl (by omega))) k hk, by rw [sI_o (by omega), upV_n (Or.inl (by decide)), upV_n (Or.inl (by decide))]; exact h5, ⟨B, hB, hB2, fun q hq => by rw [upV_n (Or.inl (by decide))]; exact hB3 q hq⟩, ?_, ?_, ?_⟩
  · rw [sI_o (by omega), upV_n (Or.inl (by decide))]; exact h7
  · rw [sI_o (by omega), upV_n (Or.inl (by decide))]; exact h8
  · rw [sI_o (by omega), upV_n (Or.inl (by decide))]; exact h9
theorem XSea.p1 (h : XSea o μ V) : XSea o (sI μ (o + 2) j (nI x)) (upV V 1 (j) x) := by
  obtain ⟨h0, h1, h2, h3, h4, h5, ⟨B, hB, hB2, hB3⟩, h7, h8, h9⟩ := h
  refine ⟨row_o h0 (by omega) (fun k => upV_n (Or.inl (by omega))), row_u h1 upV_e (fun k c => upV_n (Or.inr c)), row_o h2 (by omega) (fun k => upV_n (Or.inl (by omega))), row_o h3 (by omega) (fun k => upV_n (Or.inl (by omega))), fun k hk => row_o (f := fun k => V 4 (k + 5)) (g := fun k => upV V 1 (j) x 4 (k + 5)) (N := 15) h4 (by omega) (fun k => upV_n (Or.inl (by omega))) k hk, by rw [sI_o (by omega), upV_n (Or.inl (by decide)), upV_n (Or.inl (by decide))]; exact h5, ⟨B, hB, hB2, fun q hq => by rw [upV_n (Or.inl (by decide))]; exact hB3 q hq⟩, ?_, ?_, ?_⟩
  · rw [sI_o (by omega), upV_n (Or.inl (by decide))]; exact h7
  · rw [sI_o (by omega), upV_n (Or.inl (by decide))]; exact h8
  · rw [sI_o (by omega), upV_n (Or.inl (by decide))]; exact h9
theorem XSea.p2 (h : XSea o μ V) : XSea o (sI μ (o + 3) j (nI x)) (upV V 2 (j) x) := by
  obtain ⟨h0, h1, h2, h3, h4, h5, ⟨B, hB, hB2, hB3⟩, h7, h8, h9⟩ := h
  refine ⟨row_o h0 (by omega) (fun k => upV_n (Or.inl (by omega))), row_o h1 (by omega) (fun k => upV_n (Or.inl (by omega))), row_u h2 upV_e (fun k c => upV_n (Or.inr c)), row_o h3 (by omega) (fun k => upV_n (Or.inl (by omega))), fun k hk => row_o (f := fun k => V 4 (k + 5)) (g := fun k => upV V 2 (j) x 4 (k + 5)) (N := 15) h4 (by omega) (fun k => upV_n (Or.inl (by omega))) k hk, by rw [sI_o (by omega), upV_n (Or.inl (by decide)), upV_n (Or.inl (by decide))]; exact h5, ⟨B, hB, hB2, fun q hq => by rw [upV_n (Or.inl (by decide))]; exact hB3 q hq⟩, ?_, ?_, ?_⟩
  · rw [sI_o (by omega), upV_n (Or.inl (by decide))]; exact h7
  · rw [sI_o (by omega), upV_n (Or.inl (by decide))]; exact h8
  · rw [sI_o (by omega), upV_n (Or.inl (by decide))]; exact h9
theorem XSea.p3 (h : XSea o μ V) : XSea o (sI μ (o + 4) j (nI x)) (upV V 3 (j) x) := by
  obtain ⟨h0, h1, h2, h3, h4, h5, ⟨B, hB, hB2, hB3⟩, h7, h8, h9⟩ := h
  refine ⟨row_o h0 (by omega) (fun k => upV_n (Or.inl (by omega))), row_o h1 (by omega) (fun k => upV_n (Or.inl (by omega))), row_o h2 (by omega) (fun k => upV_n (Or.inl (by omega))), row_u h3 upV_e (fun k c => upV_n (Or.inr c)), fun k hk => row_o (f := fun k => V 4 (k + 5)) (g := fun k => upV V 3 (j) x 4 (k + 5)) (N := 15) h4 (by omega) (fun k => upV_n (Or.inl (by omega))) k hk, by rw [sI_o (by omega), upV_n (Or.inl (by decide)), upV_n (Or.inl (by decide))]; exact h5, ⟨B, hB, hB2, fun q hq => by rw [upV_n (Or.inl (by decide))]; exact hB3 q hq⟩, ?_, ?_, ?_⟩
  · rw [sI_o (by omega), upV_n (Or.inl (by decide))]; exact h7
  · rw [sI_o (by omega), upV_n (Or.inl (by decide))]; exact h8
  · rw [sI_o (by omega), upV_n (Or.inl (by decide))]; exact h9
theorem XSea.p4 (h : XSea o μ V) : XSea o (sI μ (o + 5) j (nI x)) (upV V 4 (j + 5) x) := by
  obtain ⟨h0, h1, h2, h3, h4, h5, ⟨B, hB, hB2, hB3⟩, h7, h8, h9⟩ := h
  refine ⟨row_o h0 (by omega) (fun k => upV_n (Or.inl (by omega))), row_o h1 (by omega) (fun k => upV_n (Or.inl (by omega))), row_o h2 (by omega) (fun k => upV_n (Or.inl (by omega))), row_o h3 (by omega) (fun k => upV_n (Or.inl (by omega))), fun k hk => row_u (f := fun k => V 4 (k + 5)) (g := fun k => upV V 4 (j + 5) x 4 (k + 5)) (N := 15) h4 upV_e (fun k c => upV_n (Or.inr (by omega))) k hk, by rw [sI_o (by omega), upV_n (Or.inl (by decide)), upV_n (Or.inl (by decide))]; exact h5, ⟨B, hB, hB2, fun q hq => by rw [upV_n (Or.inl (by decide))]; exact hB3 q hq⟩, ?_, ?_, ?_⟩
  · rw [sI_o (by omega), upV_n (Or.inl (by decide))]; exact h7
  · rw [sI_o (by omega), upV_n (Or.inl (by decide))]; exact h8
  · rw [sI_o (by omega), upV_n (Or.inl (by decide))]; exact h9
theorem XSea.p5 (h : XSea o μ V) : XSea o (sI μ (o + 6) j (nI x)) (upV V 5 (j) x) := by
  obtain ⟨h0, h1, h2, h3, h4, h5, ⟨B, hB, hB2, hB3⟩, h7, h8, h9⟩ := h
  refine ⟨row_o h0 (by omega) (fun k => upV_n (Or.inl (by omega))), row_o h1 (by omega) (fun k => upV_n (Or.inl (by omega))), row_o h2 (by omega) (fun k => upV_n (Or.inl (by omega))), row_o h3 (by omega) (fun k => upV_n (Or.inl (by omega))), fun k hk => row_o (f := fun k => V 4 (k + 5)) (g := fun k => upV V 5 (j) x 4 (k + 5)) (N := 15) h4 (by omega) (fun k => upV_n (Or.inl (by omega))) k hk, by
    have r := row_u (f := V 5) (g := upV V 5 j x 5) (N := 2) (μ := μ) (o := o + 6) (j := j) (x := x) (two h5) upV_e (fun k c => upV_n (Or.inr c))
    exact ⟨r 0 (by decide), r 1 (by decide)⟩, ⟨B, hB, hB2, fun q hq => by rw [upV_n (Or.inl (by decide))]; exact hB3 q hq⟩, ?_, ?_, ?_⟩
  · rw [sI_o (by omega), upV_n (Or.inl (by decide))]; exact h7
  · rw [sI_o (by omega), upV_n (Or.inl (by decide))]; exact h8
  · rw [sI_o (by omega), upV_n (Or.inl (by decide))]; exact h9
theorem XSea.s0 (h : XSea o μ V) : XSea o (sI μ o 7 (nI x)) (upV V 7 0 x) := by
  obtain ⟨h0, h1, h2, h3, h4, h5, ⟨B, hB, hB2, hB3⟩, h7, h8, h9⟩ := h
  refine ⟨row_o h0 (by omega) (fun k => upV_n (Or.inl (by omega))), row_o h1 (by omega) (fun k => upV_n (Or.inl (by omega))), row_o h2 (by omega) (fun k => upV_n (Or.inl (by omega))), row_o h3 (by omega) (fun k => upV_n (Or.inl (by omega))), fun k hk => row_o (f := fun k => V 4 (k + 5)) (g := fun k => upV V 7 0 x 4 (k + 5)) (N := 15) h4 (by omega) (fun k => upV_n (Or.inl (by omega))) k hk, by rw [sI_o (by omega), upV_n (Or.inl (by decide)), upV_n (Or.inl (by decide))]; exact h5, ⟨B, hB, hB2, fun q hq => by rw [upV_n (Or.inl (by decide))]; exact hB3 q hq⟩, ?_, ?_, ?_⟩
  · rw [sI_e, upV_e]
  · rw [sI_n (Or.inr (by decide)), upV_n (Or.inr (by decide))]; exact h8
  · rw [sI_n (Or.inr (by decide)), upV_n (Or.inr (by decide))]; exact h9
theorem XSea.s1 (h : XSea o μ V) : XSea o (sI μ o 8 (nI x)) (upV V 7 1 x) := by
  obtain ⟨h0, h1, h2, h3, h4, h5, ⟨B, hB, hB2, hB3⟩, h7, h8, h9⟩ := h
  refine ⟨row_o h0 (by omega) (fun k => upV_n (Or.inl (by omega))), row_o h1 (by omega) (fun k => upV_n (Or.inl (by omega))), row_o h2 (by omega) (fun k => upV_n (Or.inl (by omega))), row_o h3 (by omega) (fun k => upV_n (Or.inl (by omega))), fun k hk => row_o (f := fun k => V 4 (k + 5)) (g := fun k => upV V 7 1 x 4 (k + 5)) (N := 15) h4 (by omega) (fun k => upV_n (Or.inl (by omega))) k hk, by rw [sI_o (by omega), upV_n (Or.inl (by decide)), upV_n (Or.inl (by decide))]; exact h5, ⟨B, hB, hB2, fun q hq => by rw [upV_n (Or.inl (by decide))]; exact hB3 q hq⟩, ?_, ?_, ?_⟩
  · rw [sI_n (Or.inr (by decide)), upV_n (Or.inr (by decide))]; exact h7
  · rw [sI_e, upV_e]
  · rw [sI_n (Or.inr (by decide)), upV_n (Or.inr (by decide))]; exact h9
theorem XSea.s2 (h : XSea o μ V) : XSea o (sI μ o 9 (nI x)) (upV V 7 2 x) := by
  obtain ⟨h0, h1, h2, h3, h4, h5, ⟨B, hB, hB2, hB3⟩, h7, h8, h9⟩ := h
  refine ⟨row_o h0 (by omega) (fun k => upV_n (Or.inl (by omega))), row_o h1 (by omega) (fun k => upV_n (Or.inl (by omega))), row_o h2 (by omega) (fun k => upV_n (Or.inl (by omega))), row_o h3 (by omega) (fun k => upV_n (Or.inl (by omega))), fun k hk => row_o (f := fun k => V 4 (k + 5)) (g := fun k => upV V 7 2 x 4 (k + 5)) (N := 15) h4 (by omega) (fun k => upV_n (Or.inl (by omega))) k hk, by rw [sI_o (by omega), upV_n (Or.inl (by decide)), upV_n (Or.inl (by decide))]; exact h5, ⟨B, hB, hB2, fun q hq => by rw [upV_n (Or.inl (by decide))]; exact hB3 q hq⟩, ?_, ?_, ?_⟩
  · rw [sI_n (Or.inr (by decide)), upV_n (Or.inr (by decide))]; exact h7
  · rw [sI_n (Or.inr (by decide)), upV_n (Or.inr (by decide))]; exact h8
  · rw [sI_e, upV_e]
theorem XSea.ver {v : Int32} (h : XSea o μ V) : XSea o (sI μ o 10 v) V := h.cong (fun j _ => sI_o (by omega)) rfl (fun j _ _ => sI_n (Or.inr (by omega)))
theorem XSea.p6 {B q : Nat} (h : XSea o μ V) (hB : LB B (upV V 6 q x)) : XSea o (sL μ o 6 (lN B)) (upV V 6 q x) := by
  obtain ⟨h0, h1, h2, h3, h4, h5, -, h7, h8, h9⟩ := h
  have e : ∀ a k, a ≠ 6 → upV V 6 q x a k = V a k := fun a k ha => upV_n (Or.inl ha)
  unfold XSea
  simp only [sL_1, e 0 _ (by decide), e 1 _ (by decide), e 2 _ (by decide), e 3 _ (by decide), e 4 _ (by decide), e 5 _ (by decide), e 7 _ (by decide)]
  exact ⟨h0, h1, h2, h3, h4, h5, ⟨B, by rw [sL_2, if_pos rfl, updL_a, if_pos rfl], hB⟩, h7, h8, h9⟩
end XP
section MP
variable {V : SV} {μ : Mem} {j x : Nat}
theorem MSea.p0 (h : MSea μ V) : MSea (sI μ 87 j (nI x)) (upV V 0 j x) := by
  obtain ⟨h0, h1, h2, h3, h4, h5, h6, h7, h8, h9⟩ := h
  refine ⟨row_u h0 upV_e (fun k c => upV_n (Or.inr c)), row_o h1 (by decide) (fun k => upV_n (Or.inl (by decide))), row_o h2 (by decide) (fun k => upV_n (Or.inl (by decide))), row_o h3 (by decide) (fun k => upV_n (Or.inl (by decide))), row_o h4 (by decide) (fun k => upV_n (Or.inl (by decide))), by rw [sI_o (by decide), upV_n (Or.inl (by decide)), upV_n (Or.inl (by decide))]; exact h5, row_o h6 (by decide) (fun k => upV_n (Or.inl (by decide))), ?_, ?_, ?_⟩
  · rw [sI_o (by decide), upV_n (Or.inl (by decide))]; exact h7
  · rw [sI_o (by decide), upV_n (Or.inl (by decide))]; exact h8
  · rw [sI_o (by decide), upV_n (Or.inl (by decide))]; exact h9
theorem MSea.p1 (h : MSea μ V) : MSea (sI μ 88 j (nI x)) (upV V 1 j x) := by
  obtain ⟨h0, h1, h2, h3, h4, h5, h6, h7, h8, h9⟩ := h
  refine ⟨row_o h0 (by decide) (fun k => upV_n (Or.inl (by decide))), row_u h1 upV_e (fun k c => upV_n (Or.inr c)), row_o h2 (by decide) (fun k => upV_n (Or.inl (by decide))), row_o h3 (by decide) (fun k => upV_n (Or.inl (by decide))), row_o h4 (by decide) (fun k => upV_n (Or.inl (by decide))), by rw [sI_o (by decide), upV_n (Or.inl (by decide)), upV_n (Or.inl (by decide))]; exact h5, row_o h6 (by decide) (fun k => upV_n (Or.inl (by decide))), ?_, ?_, ?_⟩
  · rw [sI_o (by decide), upV_n (Or.inl (by decide))]; exact h7
  · rw [sI_o (by decide), upV_n (Or.inl (by decide))]; exact h8
  · rw [sI_o (by decide), upV_n (Or.inl (by decide))]; exact h9
theorem MSea.p4 (h : MSea μ V) : MSea (sI μ 89 j (nI x)) (upV V 4 j x) := by
  obtain ⟨h0, h1, h2, h3, h4, h5, h6, h7, h8, h9⟩ := h
  refine ⟨row_o h0 (by decide) (fun k => upV_n (Or.inl (by decide))), row_o h1 (by decide) (fun k => upV_n (Or.inl (by decide))), row_u h2 upV_e (fun k c => upV_n (Or.inr c)), row_o h3 (by decide) (fun k => upV_n (Or.inl (by decide))), row_o h4 (by decide) (fun k => upV_n (Or.inl (by decide))), by rw [sI_o (by decide), upV_n (Or.inl (by decide)), upV_n (Or.inl (by decide))]; exact h5, row_o h6 (by decide) (fun k => upV_n (Or.inl (by decide))), ?_, ?_, ?_⟩
  · rw [sI_o (by decide), upV_n (Or.inl (by decide))]; exact h7
  · rw [sI_o (by decide), upV_n (Or.inl (by decide))]; exact h8
  · rw [sI_o (by decide), upV_n (Or.inl (by decide))]; exact h9
theorem MSea.p2 (h : MSea μ V) : MSea (sI μ 90 j (nI x)) (upV V 2 j x) := by
  obtain ⟨h0, h1, h2, h3, h4, h5, h6, h7, h8, h9⟩ := h
  refine ⟨row_o h0 (by decide) (fun k => upV_n (Or.inl (by decide))), row_o h1 (by decide) (fun k => upV_n (Or.inl (by decide))), row_o h2 (by decide) (fun k => upV_n (Or.inl (by decide))), row_u h3 upV_e (fun k c => upV_n (Or.inr c)), row_o h4 (by decide) (fun k => upV_n (Or.inl (by decide))), by rw [sI_o (by decide), upV_n (Or.inl (by decide)), upV_n (Or.inl (by decide))]; exact h5, row_o h6 (by decide) (fun k => upV_n (Or.inl (by decide))), ?_, ?_, ?_⟩
  · rw [sI_o (by decide), upV_n (Or.inl (by decide))]; exact h7
  · rw [sI_o (by decide), upV_n (Or.inl (by decide))]; exact h8
  · rw [sI_o (by decide), upV_n (Or.inl (by decide))]; exact h9
theorem MSea.p3 (h : MSea μ V) : MSea (sI μ 91 j (nI x)) (upV V 3 j x) := by
  obtain ⟨h0, h1, h2, h3, h4, h5, h6, h7, h8, h9⟩ := h
  refine ⟨row_o h0 (by decide) (fun k => upV_n (Or.inl (by decide))), row_o h1 (by decide) (fun k => upV_n (Or.inl (by decide))), row_o h2 (by decide) (fun k => upV_n (Or.inl (by decide))), row_o h3 (by decide) (fun k => upV_n (Or.inl (by decide))), row_u h4 upV_e (fun k c => upV_n (Or.inr c)), by rw [sI_o (by decide), upV_n (Or.inl (by decide)), upV_n (Or.inl (by decide))]; exact h5, row_o h6 (by decide) (fun k => upV_n (Or.inl (by decide))), ?_, ?_, ?_⟩
  · rw [sI_o (by decide), upV_n (Or.inl (by decide))]; exact h7
  · rw [sI_o (by decide), upV_n (Or.inl (by decide))]; exact h8
  · rw [sI_o (by decide), upV_n (Or.inl (by decide))]; exact h9
theorem MSea.p5 (h : MSea μ V) : MSea (sI μ 92 j (nI x)) (upV V 5 j x) := by
  obtain ⟨h0, h1, h2, h3, h4, h5, h6, h7, h8, h9⟩ := h
  refine ⟨row_o h0 (by decide) (fun k => upV_n (Or.inl (by decide))), row_o h1 (by decide) (fun k => upV_n (Or.inl (by decide))), row_o h2 (by decide) (fun k => upV_n (Or.inl (by decide))), row_o h3 (by decide) (fun k => upV_n (Or.inl (by decide))), row_o h4 (by decide) (fun k => upV_n (Or.inl (by decide))), by
    have r := row_u (f := V 5) (g := upV V 5 j x 5) (N := 2) (μ := μ) (o := 92) (j := j) (x := x) (two h5) upV_e (fun k c => upV_n (Or.inr c))
    exact ⟨r 0 (by decide), r 1 (by decide)⟩, row_o h6 (by decide) (fun k => upV_n (Or.inl (by decide))), ?_, ?_, ?_⟩
  · rw [sI_o (by decide), upV_n (Or.inl (by decide))]; exact h7
  · rw [sI_o (by decide), upV_n (Or.inl (by decide))]; exact h8
  · rw [sI_o (by decide), upV_n (Or.inl (by decide))]; exact h9
theorem MSea.p6 (h : MSea μ V) : MSea (sI μ 86 j (nI x)) (upV V 6 j x) := by
  obtain ⟨h0, h1, h2, h3, h4, h5, h6, h7, h8, h9⟩ := h
  refine ⟨row_o h0 (by decide) (fun k => upV_n (Or.inl (by decide))), row_o h1 (by decide) (fun k => upV_n (Or.inl (by decide))), row_o h2 (by decide) (fun k => upV_n (Or.inl (by decide))), row_o h3 (by decide) (fun k => upV_n (Or.inl (by decide))), row_o h4 (by decide) (fun k => upV_n (Or.inl (by decide))), by rw [sI_o (by decide), upV_n (Or.inl (by decide)), upV_n (Or.inl (by decide))]; exact h5, row_u h6 upV_e (fun k c => upV_n (Or.inr c)), ?_, ?_, ?_⟩
  · rw [sI_o (by decide), upV_n (Or.inl (by decide))]; exact h7
  · rw [sI_o (by decide), upV_n (Or.inl (by decide))]; exact h8
  · rw [sI_o (by decide), upV_n (Or.inl (by decide))]; exact h9
theorem MSea.s0 (h : MSea μ V) : MSea (sI μ 85 7 (nI x)) (upV V 7 0 x) := by
  obtain ⟨h0, h1, h2, h3, h4, h5, h6, h7, h8, h9⟩ := h
  refine ⟨row_o h0 (by decide) (fun k => upV_n (Or.inl (by decide))), row_o h1 (by decide) (fun k => upV_n (Or.inl (by decide))), row_o h2 (by decide) (fun k => upV_n (Or.inl (by decide))), row_o h3 (by decide) (fun k => upV_n (Or.inl (by decide))), row_o h4 (by decide) (fun k => upV_n (Or.inl (by decide))), by rw [sI_o (by decide), upV_n (Or.inl (by decide)), upV_n (Or.inl (by decide))]; exact h5, row_o h6 (by decide) (fun k => upV_n (Or.inl (by decide))), ?_, ?_, ?_⟩
  · rw [sI_e, upV_e]
  · rw [sI_n (Or.inr (by decide)), upV_n (Or.inr (by decide))]; exact h8
  · rw [sI_n (Or.inr (by decide)), upV_n (Or.inr (by decide))]; exact h9
theorem MSea.s1 (h : MSea μ V) : MSea (sI μ 85 8 (nI x)) (upV V 7 1 x) := by
  obtain ⟨h0, h1, h2, h3, h4, h5, h6, h7, h8, h9⟩ := h
  refine ⟨row_o h0 (by decide) (fun k => upV_n (Or.inl (by decide))), row_o h1 (by decide) (fun k => upV_n (Or.inl (by decide))), row_o h2 (by decide) (fun k => upV_n (Or.inl (by decide))), row_o h3 (by decide) (fun k => upV_n (Or.inl (by decide))), row_o h4 (by decide) (fun k => upV_n (Or.inl (by decide))), by rw [sI_o (by decide), upV_n (Or.inl (by decide)), upV_n (Or.inl (by decide))]; exact h5, row_o h6 (by decide) (fun k => upV_n (Or.inl (by decide))), ?_, ?_, ?_⟩
  · rw [sI_n (Or.inr (by decide)), upV_n (Or.inr (by decide))]; exact h7
  · rw [sI_e, upV_e]
  · rw [sI_n (Or.inr (by decide)), upV_n (Or.inr (by decide))]; exact h9
theorem MSea.s2 (h : MSea μ V) : MSea (sI μ 85 9 (nI x)) (upV V 7 2 x) := by
  obtain ⟨h0, h1, h2, h3, h4, h5, h6, h7, h8, h9⟩ := h
  refine ⟨row_o h0 (by decide) (fun k => upV_n (Or.inl (by decide))), row_o h1 (by decide) (fun k => upV_n (Or.inl (by decide))), row_o h2 (by decide) (fun k => upV_n (Or.inl (by decide))), row_o h3 (by decide) (fun k => upV_n (Or.inl (by decide))), row_o h4 (by decide) (fun k => upV_n (Or.inl (by decide))), by rw [sI_o (by decide), upV_n (Or.inl (by decide)), upV_n (Or.inl (by decide))]; exact h5, row_o h6 (by decide) (fun k => upV_n (Or.inl (by decide))), ?_, ?_, ?_⟩
  · rw [sI_n (Or.inr (by decide)), upV_n (Or.inr (by decide))]; exact h7
  · rw [sI_n (Or.inr (by decide)), upV_n (Or.inr (by decide))]; exact h8
  · rw [sI_e, upV_e]
end MP
theorem upV_h {V : SV} {a k x : Nat} (ha : a < 8) {i : Nat} (hi : 8 ≤ i) : upV V a k x i = V i := by
  funext j
  exact upV_n (Or.inl (by omega))
/-- the sea has changed -/
theorem XI.bump {n : Nat} {S : ST} {μ μ2 : Mem} {V2 : SV} {k : Nat} (h : XI n S μ) (hV : SVok V2) (hX : XSea 1 μ2 V2) (hf : ∀ i, (i = 0 ∨ 7 < i) → μ2.1 i = μ.1 i ∧ μ2.2 i = μ.2 i) (hk : μ2.1 1 10 = μ.1 1 10 + nI k) (h1 : 1 ≤ k) (h2 : k ≤ 100) (hn : n ≤ 100000) : XI (n + 1) (V2, S.2) μ2 := by
  obtain ⟨⟨⟨g1, g2⟩, g3, g4⟩, ⟨a, b, W, c1, c2, c3, c4, c5, c6, c7, c8, c9, c10⟩, hh, ⟨i1, i2, i3⟩, ht, hp⟩ := h
  have e1 : ∀ i, (i = 0 ∨ 7 < i) → μ2.1 i = μ.1 i := fun i hi => (hf i hi).1
  have ea : μ2.1 1 10 = nI (a + k) := by rw [hk, c4, nI_add]
  have hne : ∀ x, VL x a → x ≠ nI (a + k) := fun x hx => hx.ne (by omega) (by omega)
  refine ⟨⟨⟨hV, g2⟩, g3, g4⟩, ⟨a + k, b, W, by omega, by omega, c3, ea, ?_, ?_, ?_, ?_, c9.cong (by omega) (fun i hi => e1 i (by omega)) (hf 31 (by omega)).2, ?_⟩, ?_, ⟨i1.cong (fun j hj => e1 _ (by omega)) (hf _ (by omega)).2 (fun j _ _ => by rw [e1 _ (by omega)]), i2.cong (fun i _ _ => e1 i (by omega)), ?_⟩, ht.cong (by rw [e1 48 (by omega)]) (e1 49 (by omega)), hp.cong (fun i _ _ => hf i (by omega))⟩
  · rw [e1 31 (by omega)]; exact c5
  · rw [e1 21 (by omega), e1 22 (by omega), e1 30 (by omega)]
    exact ⟨c6.1.up (by omega), c6.2.1.up (by omega), c6.2.2.up (by omega)⟩
  · rw [e1 38 (by omega), e1 39 (by omega)]; exact c7
  · refine ⟨hX, fun z => ?_, fun z => ?_⟩
    · exfalso
      rw [show 21 + 17 * 0 = 21 from rfl, e1 21 (by omega), show 1 + 30 * 0 = 1 from rfl, ea] at z
      exact hne _ c6.1 z
    · exfalso
      rw [show 22 + 17 * 0 = 22 from rfl, e1 22 (by omega), show 1 + 30 * 0 = 1 from rfl, ea] at z
      exact hne _ c6.2.1 z
  · intro z s hz hs _ _ z5
    exfalso
    rw [e1 30 (by omega), ea] at z5
    exact hne _ c6.2.2 z5
  · exact hh.cong (fun i _ _ => e1 i (by omega))
  · rw [e1 0 (by omega)]; exact i3
theorem MI.sea {S : ST} {μ μ2 : Mem} {V2 : SV} (h : MI S μ) (hV : SVok V2) (hM : MSea μ2 V2) (hf : ∀ i, 92 < i → μ2.1 i = μ.1 i ∧ μ2.2 i = μ.2 i) (hs : ∀ k, k < 7 ∨ 9 < k → μ2.1 85 k = μ.1 85 k) : MI (V2, S.2) μ2 := by
  obtain ⟨⟨⟨g1, g2⟩, g3, g4⟩, m1, m2, ⟨m3, m4⟩, m5, m6⟩ := h
  have e1 : ∀ i, 92 < i → μ2.1 i = μ.1 i := fun i hi => (hf i hi).1
  refine ⟨⟨⟨hV, g2⟩, g3, g4⟩, hM, m2.cong (fun i _ _ => e1 i (by omega)) (fun k _ => hs k (by omega)), ⟨?_, fun z => (m4 z).cong (e1 100 (by omega))⟩, m5.cong (hs 25 (by omega)) (e1 102 (by omega)), m6.cong (e1 106 (by omega)) (e1 107 (by omega)) (hf 108 (by omega)).2⟩
  rw [hs 23 (by omega)]
  exact m3

