/-! one clause read by the reference -/
section MC
variable {T : Nat → Nat} {L : Nat}
theorem fm_d {fs : List Nat} {p : Nat} : s_fm T L (100 :: fs) p = if 1 ≤ (s_dv T L 1 p 0).1 then ((s_fm T L fs (p + (s_dv T L 1 p 0).1)).1, (s_fm T L fs (p + (s_dv T L 1 p 0).1)).2.1, (s_dv T L 1 p 0).2 :: (s_fm T L fs (p + (s_dv T L 1 p 0).1)).2.2) else (0, p + (s_dv T L 1 p 0).1, []) := rfl
theorem m_ones (ok : TOk T L) {k : Nat} (hk : k ≤ 5) : ∀ (m n x p : Nat) (μ : Mem), x + m = k → m < n → MQ2 T L μ → μ.1 85 26 = nI p → p ≤ L → ∃ μ2, f_X11_ones_b2 85 (nI k) n (nI x) μ = some (nI (s_fm T L (List.replicate m 100) p).1, μ2) ∧ RP μ μ2 ∧ μ2.1 85 26 = nI (s_fm T L (List.replicate m 100) p).2.1 ∧ μ2.1 85 28 = μ.1 85 28 ∧ (∀ j, j < (s_fm T L (List.replicate m 100) p).2.2.length → μ2.1 103 (x + j) = nI ((s_fm T L (List.replicate m 100) p).2.2.getD j 0)) ∧ ∀ j, j < x → μ2.1 103 j = μ.1 103 j := by
  intro m
  induction m with
  | zero =>
    intro n x p μ hx hn hQ h26 hpL
    obtain ⟨n, rfl⟩ : ∃ t, n = t + 1 := ⟨n - 1, by omega⟩
    rw [f_X11_ones_b2, if_pos (nI_le (by omega) (by omega))]
    exact ⟨μ, rfl, RP.rf μ, h26, rfl, fun j hj => absurd hj (Nat.not_lt_zero j), fun _ _ => rfl⟩
  | succ m ih =>
    intro n x p μ hx hn hQ h26 hpL
    obtain ⟨n, rfl⟩ : ∃ t, n = t + 1 := ⟨n - 1, by omega⟩
    obtain ⟨μ2, d1, d2, d3, d4, d5, d6⟩ := m_dig ok (i := x) (a := 1) (b := 1) (by omega) (by decide) (by decide) hQ h26 hpL
    rw [f_X11_ones_b2, if_neg (nI_ge (by omega) (by omega)), show (1 : Int32) = nI 1 from rfl, bnd_e d1, List.replicate_succ, fm_d, lt_d, nI_add]
    by_cases c : 1 ≤ (s_dv T L 1 p 0).1
    · rw [if_pos c, if_pos c, nI_b1']
      obtain ⟨μ3, r1, r2, r3, r4, r5, r6⟩ := ih n (x + 1) _ μ2 (by omega) (by omega) (hQ.rp d2) d3 (s_dv_L _ _ _ hpL)
      refine ⟨μ3, r1, d2.tr r2, r3, by rw [r4, d4], fun j hj => ?_, fun j hj => by rw [r6 j (by omega), d6 j (by omega)]⟩
      cases j with
      | zero => rw [Nat.add_zero, r6 x (by omega)]; exact d5
      | succ j =>
        have hj2 := Nat.lt_of_succ_lt_succ hj
        rw [show x + (j + 1) = x + 1 + j by omega]
        exact r5 j hj2
    · rw [if_neg c, if_neg c, if_pos (show nI 0 = 0 from rfl)]
      exact ⟨μ2, rfl, d2, d3, d4, fun j hj => absurd hj (Nat.not_lt_zero j), fun j hj => d6 j (by omega)⟩
/-- what a clause's reading leaves in the reference -/
def CR (T : Nat → Nat) (L p : Nat) (r : Nat × Nat × List Nat) (μ μ2 : Mem) : Prop := RP μ μ2 ∧ μ2.1 85 26 = nI r.2.1 ∧ (r.1 = 1 → (T p = 98 → μ2.1 85 28 = nI (r.2.2.getD 0 0) ∧ ∀ j, j + 1 < r.2.2.length → μ2.1 103 j = nI (r.2.2.getD (j + 1) 0)) ∧ (T p ≠ 98 → ∀ j, j < r.2.2.length → μ2.1 103 j = nI (r.2.2.getD j 0)))
theorem b172 (x y : Int32) (μ : Mem) : f_X11_clause_b172 85 x y μ = if y = 0 then some (-nI 1, μ) else some (x, μ) := rfl
theorem b172n (x : Int32) {a : Nat} (ha : a ≤ 1) (μ : Mem) : f_X11_clause_b172 85 x (nI a) μ = some (if a = 1 then x else -nI 1, μ) := by
  rw [b172]
  rcases (show a = 0 ∨ a = 1 by omega) with rfl | rfl
  · rfl
  · rfl
theorem gB_n {β : Type} {a : Nat} {k : Option β} (ha : a ≤ 1) : gB (nI a) k = k := by
  rcases (show a = 0 ∨ a = 1 by omega) with rfl | rfl
  · exact gB_0
  · exact gB_1
theorem m_cl (ok : TOk T L) {p : Nat} {μ : Mem} (hQ : MQ2 T L μ) (h26 : μ.1 85 26 = nI p) (hpL : p ≤ L) : ∃ μ2, f_X11_clause 85 μ = some (if (s_cl T L p).1 = 1 then nI (T p) else -nI 1, μ2) ∧ CR T L p (s_cl T L p) μ μ2 := by
  have hFU : FU = 1000000000000 := rfl
  have hL := ok.1
  have F : RP μ (sI μ 85 26 (nI (p + 1))) := RP.s (Or.inr ⟨rfl, Or.inl rfl⟩)
  have q26 : (sI μ 85 26 (nI (p + 1))).1 85 26 = nI (p + 1) := sI_e
  have hQ1 := hQ.rp F
  have bad : ∀ x : Int32, (∀ k, k < 128 → x = (OfNat.ofNat k : Int32) → k ≠ 98 ∧ k ≠ 99 ∧ k ≠ 108 ∧ k ≠ 115 ∧ k ≠ 116 ∧ k ≠ 119) → s_he T L p = x → ∃ μ2, f_X11_clause 85 μ = some (-nI 1, μ2) ∧ RP μ μ2 ∧ μ2.1 85 26 = nI p := by
    intro x hx hh
    have hne : ∀ k, k < 128 → (k = 98 ∨ k = 99 ∨ k = 108 ∨ k = 115 ∨ k = 116 ∨ k = 119) → ¬ x = (OfNat.ofNat k : Int32) := fun k hk h z => by have := hx k hk z; omega
    unfold f_X11_clause
    rw [bnd_e (m_here ok hQ h26 hpL), h26, hh, show (1 : Int32) = nI 1 from rfl, nI_add, lt_d]
    rw [if_neg (hne 98 (by decide) (by decide)), if_neg (hne 99 (by decide) (by decide)), if_neg (hne 108 (by decide) (by decide)), if_neg (hne 115 (by decide) (by decide)), if_neg (hne 116 (by decide) (by decide)), if_neg (hne 119 (by decide) (by decide)), q26, pk_sub (by omega), lt_d, b172]
    rw [if_pos rfl]
    exact ⟨_, rfl, F.tr (RP.s (Or.inr ⟨rfl, Or.inl rfl⟩)), by rw [sI_e, Nat.add_sub_cancel]⟩
  unfold s_cl
  by_cases c : p < L
  case neg =>
    obtain ⟨μ2, e1, e2, e3⟩ := bad (-nI 1) (fun k hk z => absurd z.symm (nI_m1 (n := k) (by omega))) (if_pos (by omega))
    rw [if_neg c]
    exact ⟨μ2, e1, e2, e3, fun z => absurd (show (0 : Nat) = 1 from z) (by decide)⟩
  have ht := ok.2 p c
  rw [if_pos c]
  have key : ∀ k, k < 128 → (nI (T p) = (OfNat.ofNat k : Int32) ↔ T p = k) := fun k hk => nI_eq (by omega) (by omega)
  have hh : s_he T L p = nI (T p) := if_neg (by omega)
  by_cases h98 : T p = 98
  · have e6 : s_fo (T p) = 2 := by rw [h98]; rfl
    have eF : s_form (T p) = 100 :: List.replicate 5 100 := by rw [h98]; rfl
    rw [e6, if_neg (show ¬ (2 : Nat) = 6 by decide), eF, fm_d]
    obtain ⟨μ2, d1, d2, d3, d4, d5, d6⟩ := m_dig ok (i := 0) (a := 1) (b := 1) (by decide) (by decide) (by decide) hQ1 q26 (by omega)
    unfold f_X11_clause f_X11_tables
    rw [bnd_e (m_here ok hQ h26 hpL), h26, hh, show (1 : Int32) = nI 1 from rfl, show (0 : Int32) = nI 0 from rfl, nI_add, lt_d, if_pos ((key 98 (by decide)).mpr h98), bnd_e d1]
    by_cases g : 1 ≤ (s_dv T L 1 (p + 1) 0).1
    · rw [if_pos g, if_pos g, nI_b1, rf_85_27, al_103, gA_n (by decide) (by decide), nI_clamp (by decide), d5, lt_d]
      have hb := s_dv_L (T := T) (L := L) 1 (p + 1) 0 (by omega)
      have G : RP μ2 (sI μ2 85 28 (nI (s_dv T L 1 (p + 1) 0).2)) := RP.s (Or.inr ⟨rfl, Or.inr rfl⟩)
      obtain ⟨μ3, r1, r2, r3, r4, r5, r6⟩ := m_ones ok (k := 5) (by decide) 5 FU 0 _ (sI μ2 85 28 (nI (s_dv T L 1 (p + 1) 0).2)) rfl (by omega) ((hQ1.rp d2).rp G) (by rw [sI_n (Or.inr (by decide))]; exact d3) hb
      have h1 := (s_fm_L (T := T) (L := L) (List.replicate 5 100) _ hb).2.1
      rw [bnd_e (show f_X11_ones 85 (5 : Int32) _ = _ from r1), gB_n h1, bnd_s, b172n _ h1]
      refine ⟨μ3, rfl, (F.tr d2).tr (G.tr r2), r3, fun z => ⟨fun _ => ⟨?_, fun j hj => ?_⟩, fun w => absurd h98 w⟩⟩
      · rw [r4, sI_e]; rfl
      · have hj2 : j < (s_fm T L (List.replicate 5 100) (p + 1 + (s_dv T L 1 (p + 1) 0).1)).2.2.length := Nat.lt_of_succ_lt_succ hj
        have := r5 j hj2
        rw [Nat.zero_add] at this
        exact this
    · rw [if_neg g, if_neg g, nI_b0, bnd_s, show nI 0 = nI 0 from rfl, b172n _ (by decide)]
      exact ⟨μ2, rfl, F.tr d2, d3, fun z => absurd (show (0 : Nat) = 1 from z) (by decide)⟩
  by_cases h99 : T p = 99
  · have e6 : s_fo (T p) = 1 := by rw [h99]; rfl
    have eF : s_form (T p) = List.replicate 3 100 := by rw [h99]; rfl
    rw [e6, if_neg (show ¬ (1 : Nat) = 6 by decide), eF]
    obtain ⟨μ3, r1, r2, r3, r4, r5, r6⟩ := m_ones ok (k := 3) (by decide) 3 FU 0 (p + 1) _ rfl (by omega) hQ1 q26 (by omega)
    have h1 := (s_fm_L (T := T) (L := L) (List.replicate 3 100) (p + 1) (by omega)).2.1
    unfold f_X11_clause
    rw [bnd_e (m_here ok hQ h26 hpL), h26, hh, show (1 : Int32) = nI 1 from rfl, nI_add, lt_d, if_neg (fun z => h98 ((key 98 (by decide)).mp z)), if_pos ((key 99 (by decide)).mpr h99), bnd_e (show f_X11_ones 85 (3 : Int32) _ = _ from r1), b172n _ h1]
    exact ⟨μ3, rfl, F.tr r2, r3, fun z => ⟨fun w => absurd w h98, fun _ j hj => by have := r5 j hj; rw [Nat.zero_add] at this; exact this⟩⟩
  by_cases h119 : T p = 119
  · have e6 : s_fo (T p) = 0 := by rw [h119]; rfl
    have eF : s_form (T p) = List.replicate 4 100 := by rw [h119]; rfl
    rw [e6, if_neg (show ¬ (0 : Nat) = 6 by decide), eF]
    obtain ⟨μ3, r1, r2, r3, r4, r5, r6⟩ := m_ones ok (k := 4) (by decide) 4 FU 0 (p + 1) _ rfl (by omega) hQ1 q26 (by omega)
    have h1 := (s_fm_L (T := T) (L := L) (List.replicate 4 100) (p + 1) (by omega)).2.1
    unfold f_X11_clause
    rw [bnd_e (m_here ok hQ h26 hpL), h26, hh, show (1 : Int32) = nI 1 from rfl, nI_add, lt_d, if_neg (fun z => h98 ((key 98 (by decide)).mp z)), if_neg (fun z => h99 ((key 99 (by decide)).mp z)), if_neg (fun z => by have := (key 108 (by decide)).mp z; omega), if_neg (fun z => by have := (key 115 (by decide)).mp z; omega), if_neg (fun z => by have := (key 116 (by decide)).mp z; omega), if_pos ((key 119 (by decide)).mpr h119), bnd_e (show f_X11_ones 85 (4 : Int32) _ = _ from r1), b172n _ h1]
    exact ⟨μ3, rfl, F.tr r2, r3, fun z => ⟨fun w => absurd w h98, fun _ j hj => by have := r5 j hj; rw [Nat.zero_add] at this; exact this⟩⟩
  by_cases h108 : T p = 108
  · have e6 : s_fo (T p) = 3 := by rw [h108]; rfl
    have eF : s_form (T p) = [113] := by rw [h108]; rfl
    rw [e6, if_neg (show ¬ (3 : Nat) = 6 by decide), eF]
    obtain ⟨μ2, d1, d2, d3, d4, d5, d6⟩ := m_dig ok (i := 0) (a := 2) (b := 2) (by decide) (by decide) (by decide) hQ1 q26 (by omega)
    unfold f_X11_clause
    rw [bnd_e (m_here ok hQ h26 hpL), h26, hh, show (1 : Int32) = nI 1 from rfl, nI_add, lt_d, if_neg (fun z => h98 ((key 98 (by decide)).mp z)), if_neg (fun z => h99 ((key 99 (by decide)).mp z)), if_pos ((key 108 (by decide)).mpr h108), bnd_e (show f_X11_digits 85 (0 : Int32) (2 : Int32) (2 : Int32) _ = _ from d1)]
    rw [show s_fm T L [113] (p + 1) = (if 2 ≤ (s_dv T L 2 (p + 1) 0).1 then (1, p + 1 + (s_dv T L 2 (p + 1) 0).1, [(s_dv T L 2 (p + 1) 0).2]) else (0, p + 1 + (s_dv T L 2 (p + 1) 0).1, [])) from rfl]
    by_cases g : 2 ≤ (s_dv T L 2 (p + 1) 0).1
    · rw [if_pos g, if_pos g, b172n _ (by decide)]
      refine ⟨μ2, rfl, F.tr d2, d3, fun z => ⟨fun w => absurd w h98, fun _ j hj => ?_⟩⟩
      have : j = 0 := Nat.lt_one_iff.mp hj
      subst this
      exact d5
    · rw [if_neg g, if_neg g, b172n _ (by decide)]
      exact ⟨μ2, rfl, F.tr d2, d3, fun z => absurd (show (0 : Nat) = 1 from z) (by decide)⟩
  by_cases h115 : T p = 115
  · have e6 : s_fo (T p) = 4 := by rw [h115]; rfl
    have eF : s_form (T p) = [113, 100, 109] := by rw [h115]; rfl
    rw [e6, if_neg (show ¬ (4 : Nat) = 6 by decide), eF]
    obtain ⟨μ2, d1, d2, d3, d4, d5, d6⟩ := m_dig ok (i := 0) (a := 2) (b := 2) (by decide) (by decide) (by decide) hQ1 q26 (by omega)
    unfold f_X11_clause f_X11_clause_b147 f_X11_clause_b148
    rw [bnd_e (m_here ok hQ h26 hpL), h26, hh, show (1 : Int32) = nI 1 from rfl, nI_add, lt_d, if_neg (fun z => h98 ((key 98 (by decide)).mp z)), if_neg (fun z => h99 ((key 99 (by decide)).mp z)), if_neg (fun z => h108 ((key 108 (by decide)).mp z)), if_pos ((key 115 (by decide)).mpr h115), bnd_e (show f_X11_digits 85 (0 : Int32) (2 : Int32) (2 : Int32) _ = _ from d1)]
    generalize hp1 : p + 1 + (s_dv T L 2 (p + 1) 0).1 = p1 at *
    have hb1 : p1 ≤ L := by rw [← hp1]; exact s_dv_L _ _ _ (by omega)
    obtain ⟨μ3, f1, f2, f3, f4, f5, f6⟩ := m_dig ok (i := 1) (a := 1) (b := 1) (by decide) (by decide) (by decide) (hQ1.rp d2) d3 hb1
    have hb2 := s_dv_L (T := T) (L := L) 1 p1 0 hb1
    obtain ⟨μ4, g1, g2, g3, g4, g5, g6⟩ := m_dig ok (i := 2) (a := 1) (b := 4) (by decide) (by decide) (by decide) ((hQ1.rp d2).rp f2) f3 hb2
    rw [show s_fm T L [113, 100, 109] (p + 1) = (if 2 ≤ (s_dv T L 2 (p + 1) 0).1 then ((s_fm T L [100, 109] p1).1, (s_fm T L [100, 109] p1).2.1, (s_dv T L 2 (p + 1) 0).2 :: (s_fm T L [100, 109] p1).2.2) else (0, p1, [])) by rw [← hp1]; rfl]
    rw [show s_fm T L [100, 109] p1 = (if 1 ≤ (s_dv T L 1 p1 0).1 then ((s_fm T L [109] (p1 + (s_dv T L 1 p1 0).1)).1, (s_fm T L [109] (p1 + (s_dv T L 1 p1 0).1)).2.1, (s_dv T L 1 p1 0).2 :: (s_fm T L [109] (p1 + (s_dv T L 1 p1 0).1)).2.2) else (0, p1 + (s_dv T L 1 p1 0).1, [])) from rfl]
    generalize hp2 : p1 + (s_dv T L 1 p1 0).1 = p2 at *
    rw [show s_fm T L [109] p2 = (if 1 ≤ (s_dv T L 4 p2 0).1 then (1, p2 + (s_dv T L 4 p2 0).1, [(s_dv T L 4 p2 0).2]) else (0, p2 + (s_dv T L 4 p2 0).1, [])) from rfl]
    by_cases x1 : 2 ≤ (s_dv T L 2 (p + 1) 0).1
    · rw [if_pos x1, if_pos x1, nI_b1', bnd_e f1]
      by_cases x2 : 1 ≤ (s_dv T L 1 p1 0).1
      · rw [if_pos x2, if_pos x2, nI_b1', bnd_e (show f_X11_digits 85 (2 : Int32) (nI 1) (4 : Int32) _ = _ from g1)]
        by_cases x3 : 1 ≤ (s_dv T L 4 p2 0).1
        · rw [if_pos x3, if_pos x3, nI_b1', b172n _ (by decide)]
          refine ⟨μ4, rfl, ((F.tr d2).tr f2).tr g2, g3, fun z => ⟨fun w => absurd w h98, fun _ j hj => ?_⟩⟩
          have hj3 : j < 3 := hj
          rcases (show j = 0 ∨ j = 1 ∨ j = 2 by omega) with rfl | rfl | rfl
          · rw [g6 0 (by decide), f6 0 (by decide)]; exact d5
          · rw [g6 1 (by decide)]; exact f5
          · exact g5
        · rw [if_neg x3, if_neg x3, if_pos (show nI 0 = 0 from rfl), show (0 : Int32) = nI 0 from rfl, b172n _ (by decide)]
          exact ⟨μ4, rfl, ((F.tr d2).tr f2).tr g2, g3, fun z => absurd (show (0 : Nat) = 1 from z) (by decide)⟩
      · rw [if_neg x2, if_neg x2, if_pos (show nI 0 = 0 from rfl), show (0 : Int32) = nI 0 from rfl, b172n _ (by decide)]
        exact ⟨μ3, rfl, (F.tr d2).tr f2, f3, fun z => absurd (show (0 : Nat) = 1 from z) (by decide)⟩
    · rw [if_neg x1, if_neg x1, if_pos (show nI 0 = 0 from rfl), show (0 : Int32) = nI 0 from rfl, b172n _ (by decide)]
      exact ⟨μ2, rfl, F.tr d2, d3, fun z => absurd (show (0 : Nat) = 1 from z) (by decide)⟩
  by_cases h116 : T p = 116
  · have e6 : s_fo (T p) = 5 := by rw [h116]; rfl
    have eF : s_form (T p) = [117, 44, 117] := by rw [h116]; rfl
    rw [e6, if_neg (show ¬ (5 : Nat) = 6 by decide), eF]
    obtain ⟨μ2, d1, d2, d3, d4, d5, d6⟩ := m_dig ok (i := 0) (a := 1) (b := 2) (by decide) (by decide) (by decide) hQ1 q26 (by omega)
    unfold f_X11_clause f_X11_losses
    rw [bnd_e (m_here ok hQ h26 hpL), h26, hh, show (1 : Int32) = nI 1 from rfl, nI_add, lt_d, if_neg (fun z => h98 ((key 98 (by decide)).mp z)), if_neg (fun z => h99 ((key 99 (by decide)).mp z)), if_neg (fun z => h108 ((key 108 (by decide)).mp z)), if_neg (fun z => h115 ((key 115 (by decide)).mp z)), if_pos ((key 116 (by decide)).mpr h116), bnd_e (show f_X11_digits 85 (0 : Int32) (nI 1) (2 : Int32) _ = _ from d1)]
    generalize hp1 : p + 1 + (s_dv T L 2 (p + 1) 0).1 = p1 at *
    have hb1 : p1 ≤ L := by rw [← hp1]; exact s_dv_L _ _ _ (by omega)
    have hm2 := m_here ok (hQ1.rp d2) d3 hb1
    rw [show s_fm T L [117, 44, 117] (p + 1) = (if 1 ≤ (s_dv T L 2 (p + 1) 0).1 then ((s_fm T L [44, 117] p1).1, (s_fm T L [44, 117] p1).2.1, (s_dv T L 2 (p + 1) 0).2 :: (s_fm T L [44, 117] p1).2.2) else (0, p1, [])) by rw [← hp1]; rfl]
    rw [show s_fm T L [44, 117] p1 = (if p1 < L ∧ T p1 = 44 then s_fm T L [117] (p1 + 1) else (0, p1, [])) from rfl]
    rw [show s_fm T L [117] (p1 + 1) = (if 1 ≤ (s_dv T L 2 (p1 + 1) 0).1 then (1, p1 + 1 + (s_dv T L 2 (p1 + 1) 0).1, [(s_dv T L 2 (p1 + 1) 0).2]) else (0, p1 + 1 + (s_dv T L 2 (p1 + 1) 0).1, [])) from rfl]
    by_cases x1 : 1 ≤ (s_dv T L 2 (p + 1) 0).1
    · rw [if_pos x1, if_pos x1, nI_b1', bnd_e hm2]
      by_cases x2 : p1 < L ∧ T p1 = 44
      · have eh : s_he T L p1 = (44 : Int32) := by unfold s_he; rw [if_neg (by omega), x2.2]; rfl
        have G : RP μ2 (sI μ2 85 26 (nI (p1 + 1))) := RP.s (Or.inr ⟨rfl, Or.inl rfl⟩)
        obtain ⟨μ3, f1, f2, f3, f4, f5, f6⟩ := m_dig ok (i := 1) (a := 1) (b := 2) (p := p1 + 1) (μ := sI μ2 85 26 (nI (p1 + 1))) (by decide) (by decide) (by decide) ((hQ1.rp d2).rp G) sI_e (by omega)
        rw [if_pos x2, if_pos eh, d3, nI_add, lt_d, bnd_e (show f_X11_digits 85 (nI 1) (nI 1) (2 : Int32) _ = _ from f1), gB_if, bnd_s]
        by_cases x3 : 1 ≤ (s_dv T L 2 (p1 + 1) 0).1
        · rw [if_pos x3, if_pos x3, b172n _ (by decide)]
          refine ⟨μ3, rfl, ((F.tr d2).tr G).tr f2, f3, fun z => ⟨fun w => absurd w h98, fun _ j hj => ?_⟩⟩
          have hj3 : j < 2 := hj
          rcases (show j = 0 ∨ j = 1 by omega) with rfl | rfl
          · rw [f6 0 (by decide), sI_o (by decide)]; exact d5
          · exact f5
        · rw [if_neg x3, if_neg x3, b172n _ (by decide)]
          exact ⟨μ3, rfl, ((F.tr d2).tr G).tr f2, f3, fun z => absurd (show (0 : Nat) = 1 from z) (by decide)⟩
      · have eh : ¬ s_he T L p1 = (44 : Int32) := by
          unfold s_he
          by_cases y : L ≤ p1
          · rw [if_pos y]; decide
          · rw [if_neg y]
            have := ok.2 p1 (by omega)
            exact nI_ne (b := 44) (by omega) (by omega) (fun w => x2 ⟨by omega, w⟩)
        rw [if_neg x2, if_neg eh, bnd_s, show (0 : Int32) = nI 0 from rfl, b172n _ (by decide)]
        exact ⟨μ2, rfl, F.tr d2, d3, fun z => absurd (show (0 : Nat) = 1 from z) (by decide)⟩
    · rw [if_neg x1, if_neg x1, if_pos (show nI 0 = 0 from rfl), bnd_s, show (0 : Int32) = nI 0 from rfl, b172n _ (by decide)]
      exact ⟨μ2, rfl, F.tr d2, d3, fun z => absurd (show (0 : Nat) = 1 from z) (by decide)⟩
  · have e6 : s_fo (T p) = 6 := by unfold s_fo; rw [if_neg h98, if_neg h99, if_neg h108, if_neg h115, if_neg h116, if_neg h119]
    rw [if_pos e6]
    obtain ⟨μ2, e1, e2, e3⟩ := bad (nI (T p)) (fun k hk z => by have := (key k hk).mp z; omega) hh
    exact ⟨μ2, e1, e2, e3, fun z => absurd (show (0 : Nat) = 1 from z) (by decide)⟩
end MC
