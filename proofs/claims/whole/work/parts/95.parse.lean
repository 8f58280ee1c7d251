/-! the set-up parsed, on both sides -/
/-- whether it is without fault; where the fault is; the clauses -/
def s_pa (T : Nat → Nat) (L : Nat) : Nat → Nat → Nat × Nat × List (Nat × List Nat)
  | 0, p => (0, p, [])
  | m + 1, p => if (s_cl T L p).1 = 1 then (if (s_cl T L p).2.1 = L then (1, L, [(T p, (s_cl T L p).2.2)]) else if m = 0 then (0, (s_cl T L p).2.1, []) else if T (s_cl T L p).2.1 = 59 then ((s_pa T L m ((s_cl T L p).2.1 + 1)).1, (s_pa T L m ((s_cl T L p).2.1 + 1)).2.1, (T p, (s_cl T L p).2.2) :: (s_pa T L m ((s_cl T L p).2.1 + 1)).2.2) else (0, (s_cl T L p).2.1, [])) else (0, (s_cl T L p).2.1, [])
/-- the clauses lie in the class's rows from k on -/
def CA (k : Nat) (l : List (Nat × List Nat)) (μ : Mem) : Prop := ∀ i, i < l.length → μ.1 50 (k + i) = nI (l.getD i (0, [])).1 ∧ ∀ j, j < (l.getD i (0, [])).2.length → μ.1 51 (6 * (k + i) + j) = nI ((l.getD i (0, [])).2.getD j 0)
section PA
variable {T : Nat → Nat} {L : Nat}
theorem s_cl_L {p : Nat} (hp : p ≤ L) : (s_cl T L p).2.1 ≤ L ∧ (s_cl T L p).1 ≤ 1 := by
  unfold s_cl
  by_cases c : p < L
  · rw [if_pos c]
    by_cases d : s_fo (T p) = 6
    · rw [if_pos d]; exact ⟨hp, Nat.zero_le _⟩
    · rw [if_neg d]
      have := s_fm_L (T := T) (L := L) (s_form (T p)) (p + 1) (by omega)
      exact ⟨this.1, this.2.1⟩
  · rw [if_neg c]; exact ⟨hp, Nat.zero_le _⟩
theorem s_cl_1 {p : Nat} (h : (s_cl T L p).1 = 1) : p < L := by
  unfold s_cl at h
  by_cases c : p < L
  · exact c
  · rw [if_neg c] at h
    exact absurd (show (0 : Nat) = 1 from h) (by decide)
theorem s_pa_1 : ∀ (m p : Nat), (s_pa T L m p).1 ≤ 1 := by
  intro m
  induction m with
  | zero => intro p; exact Nat.zero_le _
  | succ m ih =>
    intro p
    rw [s_pa]
    split
    · split
      · exact Nat.le_refl _
      · split
        · exact Nat.zero_le _
        · split
          · exact ih _
          · exact Nat.zero_le _
    · exact Nat.zero_le _
theorem x_pa (ok : TOk T L) : ∀ (m n k p : Nat) (μ : Mem), k + m = 12 → m < n → XQ T L μ → μ.1 48 6 = nI p → p ≤ L → μ.1 48 4 = nI k → ∃ μ2, f_X7_parse_b12 48 n (nI k) μ = some (if (s_pa T L m p).1 = 1 then -nI 1 else nI (s_pa T L m p).2.1, μ2) ∧ ((s_pa T L m p).1 = 1 → μ2.1 48 4 = nI (k + (s_pa T L m p).2.2.length) ∧ k + (s_pa T L m p).2.2.length ≤ 12 ∧ CA k (s_pa T L m p).2.2 μ2) ∧ μ2.2 = μ.2 ∧ (∀ i, i ≠ 48 → i ≠ 50 → i ≠ 51 → μ2.1 i = μ.1 i) ∧ (∀ j, j ≠ 4 → j ≠ 5 → j ≠ 6 → μ2.1 48 j = μ.1 48 j) ∧ (∀ j, j < k → μ2.1 50 j = μ.1 50 j) ∧ ∀ j, j < 6 * k → μ2.1 51 j = μ.1 51 j := by
  have hL := ok.1
  intro m
  induction m with
  | zero =>
    intro n k p μ hk hn hQ hp hpL h4
    obtain ⟨n, rfl⟩ : ∃ t, n = t + 1 := ⟨n - 1, by omega⟩
    rw [f_X7_parse_b12, if_pos (show (12 : Int32) ≤ nI k from nI_le (a := 12) (b := k) (by omega) (by omega)), hp]
    exact ⟨μ, rfl, fun z => absurd (show (0 : Nat) = 1 from z) (by decide), rfl, fun _ _ _ _ => rfl, fun _ _ _ _ => rfl, fun _ _ => rfl, fun _ _ => rfl⟩
  | succ m ih =>
    intro n k p μ hk hn hQ hp hpL h4
    obtain ⟨n, rfl⟩ : ∃ t, n = t + 1 := ⟨n - 1, by omega⟩
    obtain ⟨μ2, r1, r2, r3, r4, r5, r6, r7, r8⟩ := x_cl ok (cl := k) (by omega) hQ hp hpL h4
    obtain ⟨hcL, hc1⟩ := s_cl_L (T := T) (L := L) hpL
    rw [f_X7_parse_b12, if_neg (show ¬ (12 : Int32) ≤ nI k from nI_ge (a := k) (b := 12) (by omega) (by omega)), bnd_e r1, s_pa, r2, r6 1 (by decide) (by decide) (by decide), hQ.1]
    by_cases c : (s_cl T L p).1 = 1
    case neg =>
      rw [if_neg c, if_pos (show nI (s_cl T L p).1 = (0 : Int32) from congrArg nI (show (s_cl T L p).1 = 0 by omega))]
      exact ⟨μ2, rfl, fun z => absurd (show (0 : Nat) = 1 from z) (by decide), r4, r5, r6, fun j hj => r7 j (by omega), r8⟩
    obtain ⟨u1, u2, u3⟩ := r3 c
    have CA1 : CA k [(T p, (s_cl T L p).2.2)] μ2 := fun i hi => by
      have : i = 0 := Nat.lt_one_iff.mp hi
      subst this
      exact ⟨u2, fun j hj => u3 j hj⟩
    have Q2 : XQ T L μ2 := ⟨by rw [r6 1 (by decide) (by decide) (by decide)]; exact hQ.1, fun j hj => by rw [r5 49 (by decide) (by decide) (by decide)]; exact hQ.2 j hj⟩
    rw [if_pos c, c, nI_b1']
    simp (disch := omega) only [nI_eq]
    by_cases d : (s_cl T L p).2.1 = L
    · rw [if_pos d, if_pos d]
      exact ⟨μ2, rfl, fun _ => ⟨u1, by show k + 1 ≤ 12; omega, CA1⟩, r4, r5, r6, fun j hj => r7 j (by omega), r8⟩
    · rw [if_neg d, if_neg d, u1]
      by_cases e : m = 0
      · rw [if_pos e, if_pos (show nI (k + 1) = (12 : Int32) from congrArg nI (show k + 1 = 12 by omega))]
        exact ⟨μ2, rfl, fun z => absurd (show (0 : Nat) = 1 from z) (by decide), r4, r5, r6, fun j hj => r7 j (by omega), r8⟩
      · rw [if_neg e, if_neg (show ¬ nI (k + 1) = (12 : Int32) from nI_ne (b := 12) (by omega) (by omega) (by omega))]
        obtain ⟨μ3, t1, t2, t3⟩ := x_take (a := 59) ok Q2 r2 hcL (by decide)
        rw [show (59 : Int32) = nI 59 from rfl, bnd_e t1]
        by_cases g : T (s_cl T L p).2.1 = 59
        · have gg : (s_cl T L p).2.1 < L ∧ T (s_cl T L p).2.1 = 59 := ⟨by omega, g⟩
          rw [if_pos g]
          rw [if_pos gg] at t3 ⊢
          rw [nI_b1', show (1 : Int32) = nI 1 from rfl, nI_add, lt_d]
          obtain ⟨μ4, v1, v2, v3, v4, v5, v6, v7⟩ := ih n (k + 1) ((s_cl T L p).2.1 + 1) μ3 (by omega) (by omega) (Q2.tp t2) t3 (by omega) (by rw [t2.2.2 4 (by decide)]; exact u1)
          refine ⟨μ4, v1, fun z => ?_, by rw [v3, t2.1, r4], fun i h1 h2 h3 => by rw [v4 i h1 h2 h3, t2.2.1 i h1, r5 i h1 h2 h3], fun j h1 h2 h3 => by rw [v5 j h1 h2 h3, t2.2.2 j h3, r6 j h1 h2 h3], fun j hj => by rw [v6 j (by omega), t2.2.1 50 (by decide), r7 j (by omega)], fun j hj => by rw [v7 j (by omega), t2.2.1 51 (by decide), r8 j hj]⟩
          obtain ⟨w1, w2, w3⟩ := v2 z
          refine ⟨by rw [w1, List.length_cons]; exact congrArg nI (by omega), by rw [List.length_cons]; omega, fun i hi => ?_⟩
          cases i with
          | zero =>
            obtain ⟨y1, y2⟩ := CA1 0 Nat.zero_lt_one
            refine ⟨?_, fun j hj => ?_⟩
            · rw [v6 (k + 0) (by omega), t2.2.1 50 (by decide)]; exact y1
            · have hj6 : j < 6 := by
                have hh := (s_fm_L (T := T) (L := L) (s_form (T p)) (p + 1) (s_cl_1 c)).2.2
                have h6 : (s_form (T p)).length ≤ 6 := by
                  rcases fo_form (T p) with ⟨_, q⟩ | ⟨q1, q2⟩
                  · rw [q]; decide
                  · rw [← q2]; exact (str_n _ q1).1
                have hj2 : j < (s_cl T L p).2.2.length := hj
                unfold s_cl at hj2
                rw [if_pos (s_cl_1 c)] at hj2
                split at hj2
                · exact absurd hj2 (Nat.not_lt_zero j)
                · omega
              rw [v7 (6 * (k + 0) + j) (by omega), t2.2.1 51 (by decide)]
              exact y2 j hj
          | succ i =>
            have hi2 := Nat.lt_of_succ_lt_succ hi
            obtain ⟨y1, y2⟩ := w3 i hi2
            rw [show k + (i + 1) = k + 1 + i by omega]
            exact ⟨y1, y2⟩
        · have gg : ¬ ((s_cl T L p).2.1 < L ∧ T (s_cl T L p).2.1 = 59) := fun z => g z.2
          rw [if_neg g]
          rw [if_neg gg] at t3 ⊢
          rw [if_pos (show nI 0 = 0 from rfl), t3]
          exact ⟨μ3, rfl, fun z => absurd (show (0 : Nat) = 1 from z) (by decide), by rw [t2.1, r4], fun i h1 h2 h3 => by rw [t2.2.1 i h1, r5 i h1 h2 h3], fun j h1 h2 h3 => by rw [t2.2.2 j h3, r6 j h1 h2 h3], fun j hj => by rw [t2.2.1 50 (by decide), r7 j (by omega)], fun j hj => by rw [t2.2.1 51 (by decide), r8 j hj]⟩
/-- the first time: nothing is done -/
theorem m_pa (ok : TOk T L) : ∀ (m n k p : Nat) (μ : Mem), k + m = 12 → m < n → MQ2 T L μ → μ.1 85 26 = nI p → p ≤ L → ∃ μ2, f_X11_clauses_b9 85 (nI 0) n (nI 0) (nI k) μ = some (if (s_pa T L m p).1 = 1 then nI 0 else -nI 1, μ2) ∧ RP μ μ2 ∧ ((s_pa T L m p).1 ≠ 1 → μ2.1 85 26 = nI (s_pa T L m p).2.1) := by
  have hL := ok.1
  intro m
  induction m with
  | zero =>
    intro n k p μ hk hn hQ h26 hpL
    obtain ⟨n, rfl⟩ : ∃ t, n = t + 1 := ⟨n - 1, by omega⟩
    rw [f_X11_clauses_b9, if_pos (show (12 : Int32) ≤ nI k from nI_le (a := 12) (b := k) (by omega) (by omega))]
    exact ⟨μ, rfl, RP.rf μ, fun _ => h26⟩
  | succ m ih =>
    intro n k p μ hk hn hQ h26 hpL
    obtain ⟨n, rfl⟩ : ∃ t, n = t + 1 := ⟨n - 1, by omega⟩
    obtain ⟨μ2, r1, r2, r3, r4⟩ := m_cl ok hQ h26 hpL
    obtain ⟨hcL, hc1⟩ := s_cl_L (T := T) (L := L) hpL
    rw [f_X11_clauses_b9, if_neg (show ¬ (12 : Int32) ≤ nI k from nI_ge (a := k) (b := 12) (by omega) (by omega)), bnd_e r1, s_pa]
    by_cases c : (s_cl T L p).1 = 1
    case neg =>
      rw [if_neg c, if_neg c, if_neg (show ¬ (0 : Int32) ≤ -nI 1 by decide)]
      exact ⟨μ2, rfl, r2, fun _ => r3⟩
    have ht := ok.2 p (s_cl_1 c)
    have Q2 := hQ.rp r2
    rw [if_pos c, if_pos c, if_pos (show (0 : Int32) ≤ nI (T p) from nI_le (Nat.zero_le _) (by omega)), if_pos (show nI 0 = 0 from rfl)]
    unfold f_X11_clauses_b46 f_X11_clauses_b47
    rw [show (0 : Int32) = nI 0 from rfl, nI_add, lt_d, r3, Q2.1]
    simp (disch := omega) only [nI_eq]
    by_cases d : (s_cl T L p).2.1 = L
    · rw [if_pos d, if_pos d]
      exact ⟨μ2, rfl, r2, fun z => absurd rfl z⟩
    · rw [if_neg d, if_neg d]
      by_cases e : m = 0
      · rw [if_pos e, if_pos (show nI k = (11 : Int32) from congrArg nI (show k = 11 by omega))]
        exact ⟨μ2, rfl, r2, fun _ => r3⟩
      · rw [if_neg e, if_neg (show ¬ nI k = (11 : Int32) from nI_ne (b := 11) (by omega) (by omega) (by omega)), bnd_e (m_here ok Q2 r3 hcL), show s_he T L (s_cl T L p).2.1 = nI (T (s_cl T L p).2.1) from if_neg (by omega)]
        have ht2 := ok.2 (s_cl T L p).2.1 (by omega)
        by_cases g : T (s_cl T L p).2.1 = 59
        · rw [if_pos g, if_pos (show nI (T (s_cl T L p).2.1) = (59 : Int32) from congrArg nI g), r3, show (1 : Int32) = nI 1 from rfl, nI_add, nI_add, lt_d, lt_d]
          have G : RP μ2 (sI μ2 85 26 (nI ((s_cl T L p).2.1 + 1))) := RP.s (Or.inr ⟨rfl, Or.inl rfl⟩)
          obtain ⟨μ4, v1, v2, v3⟩ := ih n (k + 1) ((s_cl T L p).2.1 + 1) _ (by omega) (by omega) (Q2.rp G) sI_e (by omega)
          exact ⟨μ4, v1, (r2.tr G).tr v2, v3⟩
        · rw [if_neg g, if_neg (show ¬ nI (T (s_cl T L p).2.1) = (59 : Int32) from nI_ne (b := 59) (by omega) (by omega) g)]
          exact ⟨μ2, rfl, r2, fun _ => r3⟩
end PA
