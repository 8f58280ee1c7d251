/-! tape, item -/
theorem x_fillL_b : ∀ (n i : Nat) (a : Nat) (v : Int64) (μ : Mem), i ≤ aln a → aln a - i < n → aln a < 2 ^ 31 → f_J7_fill_d0a16_b6 a v n (nI i) (nI (aln a)) μ = some (rL μ a (fun j => if i ≤ j ∧ j < aln a then v else μ.2 a j)) := by
  intro n
  induction n with
  | zero => intro i a v μ hi hn; omega
  | succ n ih =>
    intro i a v μ hi hn ha
    rw [f_J7_fill_d0a16_b6]
    simp (disch := omega) only [il, nI_leI, lt_d]
    by_cases c : aln a ≤ i
    · rw [if_pos c]
      refine congrArg some (Prod.ext rfl ?_)
      funext j
      show μ.2 j = if j = a then _ else μ.2 j
      by_cases hj : j = a
      · rw [if_pos hj, hj]; funext x; rw [if_neg (by omega)]
      · rw [if_neg hj]
    · rw [if_neg c, gA_n (by omega) (by omega), nI_clamp (by omega), nI_add, ih (i + 1) a v _ (by omega) (by omega) ha]
      refine congrArg some (Prod.ext rfl ?_)
      funext j
      show (if j = a then _ else (sL μ a i v).2 j) = if j = a then _ else μ.2 j
      by_cases hj : j = a
      · rw [if_pos hj, if_pos hj]
        funext x
        by_cases hx : x = i
        · subst hx; rw [if_neg (by omega), if_pos (by omega), sL_2, if_pos rfl, updL_a, if_pos rfl]
        · rw [sL_2, if_pos rfl, updL_a, if_neg hx]
          by_cases h2 : i ≤ x ∧ x < aln a
          · rw [if_pos (by omega), if_pos h2]
          · rw [if_neg (by omega), if_neg h2]
      · rw [if_neg hj, if_neg hj, sL_2, if_neg hj]
theorem rL_2 {μ : Mem} {i : Nat} {f : Nat → Int64} (j : Nat) : (rL μ i f).2 j = if j = i then f else μ.2 j := (Eq.refl _).trans (Eq.refl _)
theorem rL_1 {μ : Mem} {i : Nat} {f : Nat → Int64} : (rL μ i f).1 = μ.1 := (Eq.refl _).trans (Eq.refl _)
theorem sL_e {μ : Mem} {i k : Nat} {v : Int64} : (sL μ i k v).2 i k = v := by rw [sL_2, if_pos rfl, updL_a, if_pos rfl]
theorem sL_o {μ : Mem} {i k j : Nat} {v : Int64} (h : j ≠ i) : (sL μ i k v).2 j = μ.2 j := by rw [sL_2, if_neg h]
theorem sL_n {μ : Mem} {i k l : Nat} {v : Int64} (h : l ≠ k) : (sL μ i k v).2 i l = μ.2 i l := by rw [sL_2, if_pos rfl, updL_a, if_neg h]
def upD (S : ST) (X : SV) (D : Nat → Nat → Int64) : ST := (S.1, S.2.1, S.2.2.1, S.2.2.2.1, X, D)
theorem XI.tape {n : Nat} {S : ST} {μ μ2 : Mem} {X : SV} {D : Nat → Nat → Int64} (h : XI n S μ) (e0 : X 0 0 = S.2.2.2.2.1 0 0) (e1 : X 1 = S.2.2.2.2.1 1) (e2 : X 2 = S.2.2.2.2.1 2) (ok : ∀ x, x < 6 → X 3 x ≤ 5 ∧ X 4 x ≤ 60 ∧ (X 3 x = 0 → X 4 x = 0)) (hT : XTape (upD S X D) μ2) (hf : ∀ i, i < 53 ∨ 64 < i → μ2.1 i = μ.1 i ∧ μ2.2 i = μ.2 i) : XI n (upD S X D) μ2 := by
  obtain ⟨⟨g1, g2, g3, g4, g5⟩, hc, hh, ⟨i1, i2, i3⟩, ht, hp⟩ := h
  have f1 : ∀ i, i < 53 ∨ 64 < i → μ2.1 i = μ.1 i := fun i hi => (hf i hi).1
  refine ⟨⟨g1, g2, ?_, ?_, ok⟩, hc.cong (fun i hi => hf i (by omega)), hh.cong (fun i _ _ => f1 i (by omega)), ⟨i1.cong (fun j hj => f1 _ (by omega)) (hf _ (by omega)).2 (fun j _ _ => by rw [f1 _ (by omega)]), i2.cong (fun i _ _ => f1 i (by omega)), ?_⟩, ?_, hT⟩
  · show X 0 0 < 2
    rw [e0]; exact g3
  · show X 1 0 ≤ 100 ∧ ∀ k, k < X 1 0 → X 2 k < 128
    rw [e1, e2]; exact g4
  · show μ2.1 0 8 = nI (X 0 0)
    rw [e0, f1 0 (by omega)]; exact i3
  · show μ2.1 48 1 = nI (X 1 0) ∧ ∀ k, k < X 1 0 → μ2.1 49 k = nI (X 2 k)
    rw [e1, e2, f1 48 (by omega), f1 49 (by omega)]; exact ht
theorem MI.tape {S : ST} {μ μ2 : Mem} {X : SV} {D : Nat → Nat → Int64} (h : MI S μ) (e0 : X 0 0 = S.2.2.2.2.1 0 0) (e1 : X 1 = S.2.2.2.2.1 1) (e2 : X 2 = S.2.2.2.2.1 2) (ok : ∀ x, x < 6 → X 3 x ≤ 5 ∧ X 4 x ≤ 60 ∧ (X 3 x = 0 → X 4 x = 0)) (hT : MTape (upD S X D) μ2) (hf : ∀ i, i < 106 → μ2.1 i = μ.1 i ∧ μ2.2 i = μ.2 i) : MI (upD S X D) μ2 := by
  obtain ⟨⟨g1, g2, g3, g4, g5⟩, m1, m2, ⟨m3, m4⟩, m5, m6⟩ := h
  have f1 : ∀ i, i < 106 → μ2.1 i = μ.1 i := fun i hi => (hf i hi).1
  refine ⟨⟨g1, g2, ?_, ?_, ok⟩, m1.cong (fun i _ _ => f1 i (by omega)) (fun k _ _ => by rw [f1 85 (by omega)]), m2.cong (fun i _ _ => f1 i (by omega)) (fun k _ => by rw [f1 85 (by omega)]), ⟨?_, fun z => ?_⟩, ?_, hT⟩
  · show X 0 0 < 2
    rw [e0]; exact g3
  · show X 1 0 ≤ 100 ∧ ∀ k, k < X 1 0 → X 2 k < 128
    rw [e1, e2]; exact g4
  · show μ2.1 85 23 = nI (X 0 0)
    rw [e0, f1 85 (by omega)]; exact m3
  · have z2 : X 0 0 = 1 := z
    rw [e0] at z2
    exact (m4 z2).cong (f1 100 (by omega))
  · show μ2.1 85 25 = nI (X 1 0) ∧ ∀ k, k < X 1 0 → μ2.1 102 k = nI (X 2 k)
    rw [e1, e2, f1 85 (by omega), f1 102 (by omega)]; exact m5
theorem m_t67 {x : Nat} (hx : x < 6) (a2 a3 : Int32) : ∀ (n k : Nat) (μ : Mem), k ≤ 60 → 60 - k < n → f_X11_tape_b67 85 (nI x) a2 a3 n (nI k) μ = some (nI 1, rL μ 108 (fun j => if 60 * x + k ≤ j ∧ j < 60 * x + 60 then lN 0 else μ.2 108 j)) := by
  intro n
  induction n with
  | zero => intro k μ hk hn; omega
  | succ n ih =>
    intro k μ hk hn
    rw [f_X11_tape_b67]
    simp (disch := omega) only [il, nI_leI]
    by_cases c : 60 ≤ k
    · rw [if_pos c]
      refine congrArg some (Prod.ext rfl (Prod.ext rfl ?_))
      funext j
      show μ.2 j = if j = 108 then _ else μ.2 j
      by_cases hj : j = 108
      · rw [if_pos hj, hj]; funext y; rw [if_neg (by omega)]
      · rw [if_neg hj]
    · rw [if_neg c]
      simp (disch := omega) only [rf_85_0, rf_85_1, rf_85_2, rf_85_3, rf_85_4, rf_85_5, rf_85_6, rf_85_11, rf_85_13, rf_85_14, rf_85_16, rf_85_17, rf_85_19, rf_85_20, rf_85_21, rf_85_22, rf_85_24, rf_85_27, rf_85_33, rf_85_34, rf_85_36, rf_85_37, rf_85_38, rf_85_39, al_86, al_87, al_88, al_89, al_90, al_91, al_92, al_93, al_94, al_95, al_96, al_97, al_98, al_99, al_100, al_101, al_102, al_103, al_104, al_105, al_106, al_107, al_108, al_109, pk_mul, nI_add, gA_n, nI_clamp, lt_d]
      rw [ih (k + 1) _ (by omega) (by omega)]
      refine congrArg some (Prod.ext rfl (Prod.ext rfl ?_))
      funext j
      show (if j = 108 then _ else (sL μ 108 (60 * x + k) (0 : Int64)).2 j) = if j = 108 then _ else μ.2 j
      by_cases hj : j = 108
      · rw [if_pos hj, if_pos hj]
        funext y
        by_cases hy : y = 60 * x + k
        · subst hy; rw [if_neg (by omega), if_pos (by omega), sL_e]; rfl
        · rw [sL_n hy]
          by_cases h2 : 60 * x + k ≤ y ∧ y < 60 * x + 60
          · rw [if_pos (by omega), if_pos h2]
          · rw [if_neg (by omega), if_neg h2]
      · rw [if_neg hj, if_neg hj, sL_o hj]
/-- a tape becomes a row of zeros -/
theorem tape_set {n : Nat} {S : ST} {μ : Mem} {x s c : Nat} (hX : XI n S μ) (hM : MI S μ) (hx : x < 6) (hs : s ≤ 5) (hc : c ≤ 60) (h0 : s = 0 → c = 0) : ∃ μ1 μ2 S2, f_X9_become (53 + 2 * x) (srt s) (nI c) μ = some μ1 ∧ (∀ a3, (s ≠ 0 → a3 = nI c) → f_X11_tape_b42 85 (nI x) (srt s) a3 μ1 = some (nI 1, μ2)) ∧ XI n S2 μ2 ∧ MI S2 μ2 := by
  have hFU : FU = 1000000000000 := rfl
  obtain ⟨t1, t2, t3, t4⟩ := tp hx
  obtain ⟨g1, g2, g3, g4⟩ := srt_h hs
  obtain ⟨μ1, hμ1⟩ : ∃ μ1, μ1 = rL (sI (sI μ (53 + 2 * x) 1 (srt s)) (53 + 2 * x) 2 (nI c)) (54 + 2 * x) (fun j => if 0 ≤ j ∧ j < aln (54 + 2 * x) then (0 : Int64) else μ.2 (54 + 2 * x) j) := ⟨_, rfl⟩
  obtain ⟨μ2, hμ2⟩ : ∃ μ2, μ2 = rL (sI (sI μ1 106 x (srt s)) 107 x (nI c)) 108 (fun j => if 60 * x + 0 ≤ j ∧ j < 60 * x + 60 then lN 0 else μ1.2 108 j) := ⟨_, rfl⟩
  obtain ⟨X, hXd⟩ : ∃ X, X = upV (upV S.2.2.2.2.1 3 x s) 4 x c := ⟨_, rfl⟩
  obtain ⟨D, hD⟩ : ∃ D : Nat → Nat → Int64, D = fun y => if y = x then (fun _ => lN 0) else S.2.2.2.2.2 y := ⟨_, rfl⟩
  have x0 : X 0 0 = S.2.2.2.2.1 0 0 := by rw [hXd, upV_n (Or.inl (by decide)), upV_n (Or.inl (by decide))]
  have x1 : X 1 = S.2.2.2.2.1 1 := by funext k; rw [hXd, upV_n (Or.inl (by decide)), upV_n (Or.inl (by decide))]
  have x2 : X 2 = S.2.2.2.2.1 2 := by funext k; rw [hXd, upV_n (Or.inl (by decide)), upV_n (Or.inl (by decide))]
  have x3 : X 3 x = s := by rw [hXd, upV_n (Or.inl (by decide)), upV_e]
  have x4 : X 4 x = c := by rw [hXd, upV_e]
  have x3n : ∀ y, y ≠ x → X 3 y = S.2.2.2.2.1 3 y := fun y hy => by rw [hXd, upV_n (Or.inl (by decide)), upV_n (Or.inr hy)]
  have x4n : ∀ y, y ≠ x → X 4 y = S.2.2.2.2.1 4 y := fun y hy => by rw [hXd, upV_n (Or.inr hy), upV_n (Or.inl (by decide))]
  have ok : ∀ y, y < 6 → X 3 y ≤ 5 ∧ X 4 y ≤ 60 ∧ (X 3 y = 0 → X 4 y = 0) := fun y hy => by
    by_cases e : y = x
    · subst e; rw [x3, x4]; exact ⟨hs, hc, h0⟩
    · rw [x3n y e, x4n y e]; exact hX.1.2.2.2.2 y hy
  have f1 : ∀ i, i ≠ 53 + 2 * x → i ≠ 54 + 2 * x → μ1.1 i = μ.1 i ∧ μ1.2 i = μ.2 i := fun i h1 h2 => by
    rw [hμ1]
    exact ⟨by rw [rL_1, sI_o h1, sI_o h1], by rw [rL_2, if_neg h2]; rfl⟩
  have f2 : ∀ i, i < 106 → μ2.1 i = μ1.1 i ∧ μ2.2 i = μ1.2 i := fun i h1 => by
    rw [hμ2]
    exact ⟨by rw [rL_1, sI_o (by omega), sI_o (by omega)], by rw [rL_2, if_neg (by omega)]; rfl⟩
  have eX : f_X9_become (53 + 2 * x) (srt s) (nI c) μ = some μ1 := by
    unfold f_X9_become f_J7_fill_d0a16
    simp only [lt_d, il]
    rw [t2, x_fillL_b FU 0 (54 + 2 * x) 0 _ (Nat.zero_le _) (by omega) (by omega), bnv_s, hμ1]
    rfl
  have eM : ∀ a3, (s ≠ 0 → a3 = nI c) → f_X11_tape_b42 85 (nI x) (srt s) a3 μ1 = some (nI 1, μ2) := by
    intro a3 h3
    unfold f_X11_tape_b42
    simp (disch := omega) only [il, rf_85_0, rf_85_1, rf_85_2, rf_85_3, rf_85_4, rf_85_5, rf_85_6, rf_85_11, rf_85_13, rf_85_14, rf_85_16, rf_85_17, rf_85_19, rf_85_20, rf_85_21, rf_85_22, rf_85_24, rf_85_27, rf_85_33, rf_85_34, rf_85_36, rf_85_37, rf_85_38, rf_85_39, al_86, al_87, al_88, al_89, al_90, al_91, al_92, al_93, al_94, al_95, al_96, al_97, al_98, al_99, al_100, al_101, al_102, al_103, al_104, al_105, al_106, al_107, al_108, al_109, gA_n, nI_clamp, lt_d]
    by_cases e : s = 0
    · rw [if_neg (fun z => (g3.mp z) e), m_t67 hx _ _ FU 0 _ (by decide) (by omega), hμ2, h0 e]
      rfl
    · rw [if_pos (g3.mpr e), h3 e, m_t67 hx _ _ FU 0 _ (by decide) (by omega), hμ2]
      rfl
  have hX1 : XI n (upD S X D) μ1 := hX.tape x0 x1 x2 ok (fun y hy => by
    show μ1.1 (53 + 2 * y) 1 = srt (X 3 y) ∧ μ1.1 (53 + 2 * y) 2 = nI (X 4 y) ∧ ∀ k, k < 60 → μ1.2 (54 + 2 * y) k = D y k
    by_cases e : y = x
    · subst e
      rw [x3, x4, hμ1, hD]
      refine ⟨?_, ?_, fun k hk => ?_⟩
      · rw [rL_1, sI_n (Or.inr (by decide)), sI_e]
      · rw [rL_1, sI_e]
      · rw [rL_2, if_pos rfl, if_pos (by omega)]; dsimp only; rw [if_pos rfl]; rfl
    · rw [x3n y e, x4n y e, (f1 (53 + 2 * y) (by omega) (by omega)).1, (f1 (54 + 2 * y) (by omega) (by omega)).2, hD]
      dsimp only
      rw [if_neg e]
      exact hX.2.2.2.2.2 y hy) (fun i hi => f1 i (by omega) (by omega))
  have hM1 : MI S μ1 := hM.hi (fun i hi => f1 i (by omega) (by omega))
  refine ⟨μ1, μ2, upD S X D, eX, eM, hX1.lo (fun i hi => f2 i (by omega)), hM1.tape x0 x1 x2 ok (fun y hy => ?_) f2⟩
  show μ2.1 106 y = srt (X 3 y) ∧ μ2.1 107 y = nI (X 4 y) ∧ ∀ k, k < 60 → μ2.2 108 (60 * y + k) = D y k
  obtain ⟨r1, r2, r3⟩ := hM1.2.2.2.2.2 y hy
  by_cases e : y = x
  · subst e
    rw [x3, x4, hμ2, hD]
    refine ⟨?_, ?_, fun k hk => ?_⟩
    · rw [rL_1, sI_o (by decide), sI_e]
    · rw [rL_1, sI_e]
    · rw [rL_2, if_pos rfl, if_pos (by omega)]; dsimp only; rw [if_pos rfl]
  · rw [x3n y e, x4n y e, hμ2, hD]
    dsimp only
    rw [if_neg e]
    refine ⟨?_, ?_, fun k hk => ?_⟩
    · rw [rL_1, sI_o (by decide), sI_n (Or.inr e)]; exact r1
    · rw [rL_1, sI_n (Or.inr e), sI_o (by decide)]; exact r2
    · rw [rL_2, if_pos rfl, if_neg (by omega)]; exact r3 k hk
theorem in_m14 (a : Int32) : ∃ s : Nat, (∀ μ, f_X11_in a (-nI 1) (nI 4) μ = some (nI (if s ≤ 5 then 1 else 0), μ)) ∧ ((s = 0 ∧ a = -nI 1) ∨ (1 ≤ s ∧ ¬ a = -nI 1 ∧ (s ≤ 5 → ¬ a < nI 0 ∧ a = nI (s - 1) ∧ ∀ μ, f_X10_below a (nI 5) μ = some (nI 1, μ)) ∧ (6 ≤ s → ∀ μ, f_X10_below a (nI 5) μ = some (nI 0, μ)))) := by
  by_cases c : a = -nI 1
  · subst c
    exact ⟨0, fun μ => by unfold f_X11_in; rw [if_neg (by decide), if_neg (by decide)]; rfl, Or.inl ⟨rfl, rfl⟩⟩
  · by_cases d : a < nI 0
    · refine ⟨6, fun μ => ?_, Or.inr ⟨by decide, c, fun z => absurd z (by decide), fun _ μ => ?_⟩⟩
      · unfold f_X11_in
        rw [if_pos (show a < -nI 1 from by
          rw [Int32.lt_iff_toInt_lt] at d ⊢
          rw [show (nI 0).toInt = 0 by decide] at d
          rw [show (-nI 1).toInt = -1 by decide]
          have : a.toInt ≠ -1 := fun z => c (Int32.toInt_inj.mp (by rw [z]; decide))
          omega)]
        rfl
      · unfold f_X10_below
        simp only [il]
        rw [if_pos d]
    · obtain ⟨k, hk, rfl⟩ := argn d
      by_cases e : k < 5
      · refine ⟨k + 1, fun μ => ?_, Or.inr ⟨by omega, c, fun _ => ⟨d, rfl, fun μ => ?_⟩, fun z => by omega⟩⟩
        · rw [if_pos (by omega)]
          unfold f_X11_in
          rw [if_neg (fun z => by have := m1_lt hk; rw [Int32.lt_iff_toInt_lt] at z this; omega), if_neg (fun z => absurd ((nI_ltI (by omega) hk).mp z) (by omega))]
          rfl
        · unfold f_X10_below
          simp only [il]
          rw [if_neg d, if_neg (nI_ge (by omega) (by omega))]
      · refine ⟨6, fun μ => ?_, Or.inr ⟨by decide, c, fun z => absurd z (by decide), fun _ μ => ?_⟩⟩
        · unfold f_X11_in
          rw [if_neg (fun z => by have := m1_lt hk; rw [Int32.lt_iff_toInt_lt] at z this; omega), if_pos (nI_lt (by omega) hk)]
          rfl
        · unfold f_X10_below
          simp only [il]
          rw [if_neg d, if_pos (nI_le (by omega) hk)]
theorem call_tape (a1 a2 a3 : Int32) : CALL (f_X10_tape 0 a1 a2 a3) (f_X11_tape 85 a1 a2 a3) := by
  intro n S μ hn hX hM
  obtain ⟨b1, x1, m1, h1⟩ := arg_ta a1
  rcases h1 with rfl | ⟨rfl, x, hx, rfl⟩
  · exact call_q hX hM (r := -nI 1) (by unfold f_X10_tape; simp only [il]; rw [bnd_e (x_at x1 rfl), cs_0]) (by unfold f_X11_tape; simp only [il]; rw [bnd_e (m1 _), nI_b0])
  obtain ⟨t1, t2, t3, t4⟩ := tp hx
  obtain ⟨s, i1, i2⟩ := in_m14 a2
  have eX : f_X10_tape 0 (nI x) a2 a3 μ = (if a2 = -nI 1 then bnv (f_X9_become (53 + 2 * x) (-nI 1) (nI 0) μ) (fun μ6 => some (nI 1, μ6)) else bnd (f_X10_below a2 (nI 5) μ) (fun r4 μ3 => (if r4 = nI 0 then some (-nI 2, μ3) else (if a3 ≤ nI 60 then (if nI 0 ≤ a3 then bnv (f_X9_become (53 + 2 * x) a2 a3 μ3) (fun μ5 => some (nI 1, μ5)) else some (-nI 14, μ3)) else some (-nI 2, μ3))))) := by
    unfold f_X10_tape
    simp only [il]
    rw [bnd_e (x_at1 hx x1), cs_1 t4]
  have eM : ∀ μ, f_X11_tape 85 (nI x) a2 a3 μ = (if nI (if s ≤ 5 then 1 else 0) = nI 0 then some (-nI 2, μ) else (if a2 < nI 0 then f_X11_tape_b31 85 (nI x) a2 a3 μ else (if a3 ≤ nI 60 then f_X11_tape_b31 85 (nI x) a2 a3 μ else some (-nI 2, μ)))) := by
    intro μ
    unfold f_X11_tape
    simp only [il]
    rw [bnd_e (m1 _), nI_b1, bnd_e (i1 _)]
  rcases i2 with ⟨rfl, rfl⟩ | ⟨hs, hne, i3, i4⟩
  · obtain ⟨μ1, μ2, S2, e1, e2, e3, e4⟩ := tape_set hX hM hx (s := 0) (c := 0) (by decide) (by decide) (fun _ => rfl)
    rw [show srt 0 = -nI 1 from rfl] at e1 e2
    refine ⟨nI 1, μ1, μ2, S2, ?_, ?_, e3.up (by omega), e4⟩
    · rw [eX, if_pos rfl, bnv_e e1]
    · rw [eM, if_pos (show (0 : Nat) ≤ 5 by decide), nI_b1, if_pos (by decide)]
      unfold f_X11_tape_b31
      simp only [il]
      rw [if_pos (by decide)]
      exact e2 a3 (fun z => absurd rfl z)
  · rw [if_neg hne] at eX
    by_cases h5 : s ≤ 5
    · obtain ⟨j1, j2, j3⟩ := i3 h5
      rw [bnd_e (j3 μ), nI_b1] at eX
      by_cases h6 : a3 ≤ nI 60
      · rw [if_pos h6] at eX
        by_cases h7 : nI 0 ≤ a3
        · obtain ⟨k, hk, rfl⟩ := argn (show ¬ a3 < nI 0 from fun z => by rw [Int32.le_iff_toInt_le] at h7; rw [Int32.lt_iff_toInt_lt] at z; omega)
          have hk6 := (nI_leI hk (by decide)).mp h6
          obtain ⟨μ1, μ2, S2, e1, e2, e3, e4⟩ := tape_set hX hM hx (s := s) (c := k) h5 hk6 (fun z => by omega)
          have es : srt s = a2 := by rw [j2]; exact if_neg (by omega)
          rw [es] at e1 e2
          refine ⟨nI 1, μ1, μ2, S2, ?_, ?_, e3.up (by omega), e4⟩
          · rw [eX, if_pos h7, bnv_e e1]
          · rw [eM, if_pos h5, nI_b1, if_neg j1, if_pos h6]
            unfold f_X11_tape_b31
            simp only [il]
            rw [if_neg j1, if_pos h7]
            exact e2 (nI k) (fun _ => rfl)
        · refine call_q hX hM (r := -nI 14) ?_ ?_
          · rw [eX, if_neg h7]
          · rw [eM, if_pos h5, nI_b1, if_neg j1, if_pos h6]
            unfold f_X11_tape_b31
            simp only [il]
            rw [if_neg j1, if_neg h7]
      · refine call_q hX hM (r := -nI 2) ?_ ?_
        · rw [eX, if_neg h6]
        · rw [eM, if_pos h5, nI_b1, if_neg j1, if_neg h6]
    · refine call_q hX hM (r := -nI 2) ?_ ?_
      · rw [eX, bnd_e (i4 (by omega) μ), nI_b0]
      · rw [eM, if_neg h5, nI_b0]
theorem x_fit {s : Nat} (hs : 1 ≤ s) (hs5 : s ≤ 5) (v : Int64) {o : Nat} {μ μ' : Mem} (h : μ.1 o 1 = srt s) : ∃ w, f_X9_fitted o v μ = some (w, μ) ∧ f_X11_narrowed (srt s) v μ' = some (w, μ') := by
  unfold f_X9_fitted f_X11_narrowed
  simp only [il]
  rw [h]
  rcases (show s = 1 ∨ s = 2 ∨ s = 3 ∨ s = 4 ∨ s = 5 by omega) with rfl | rfl | rfl | rfl | rfl
  · rw [if_pos (by decide), if_pos (by decide)]; exact ⟨_, rfl, rfl⟩
  · rw [if_neg (by decide), if_pos (by decide), if_neg (by decide), if_pos (by decide)]; exact ⟨_, rfl, rfl⟩
  · rw [if_neg (by decide), if_neg (by decide), if_pos (by decide), if_neg (by decide), if_neg (by decide), if_pos (by decide)]; exact ⟨_, rfl, rfl⟩
  · rw [if_neg (by decide), if_neg (by decide), if_neg (by decide), if_pos (by decide), if_neg (by decide), if_neg (by decide), if_neg (by decide), if_pos (by decide)]; exact ⟨_, rfl, rfl⟩
  · by_cases c : lg_cmp v 0 = nI 0
    · refine ⟨0, ?_, ?_⟩
      · rw [if_neg (by decide), if_neg (by decide), if_neg (by decide), if_neg (by decide), if_pos (by decide), if_pos c]
      · rw [if_neg (by decide), if_neg (by decide), if_neg (by decide), if_neg (by decide), if_pos c]
    · refine ⟨1, ?_, ?_⟩
      · rw [if_neg (by decide), if_neg (by decide), if_neg (by decide), if_neg (by decide), if_pos (by decide), if_neg c]
      · rw [if_neg (by decide), if_neg (by decide), if_neg (by decide), if_neg (by decide), if_neg c]
theorem call_item (a1 a2 : Int32) (a3 : Int64) : CALL (f_X10_item 0 a1 a2 a3) (f_X11_item 85 a1 a2 a3) := by
  intro n S μ hn hX hM
  obtain ⟨b1, x1, m1, h1⟩ := arg_ta a1
  rcases h1 with rfl | ⟨rfl, x, hx, rfl⟩
  · exact call_q hX hM (r := -nI 1) (by unfold f_X10_item; simp only [il]; rw [bnd_e (x_at x1 rfl), cs_0]) (by unfold f_X11_item; simp only [il]; rw [bnd_e (m1 _), nI_b0])
  obtain ⟨t1, t2, t3, t4⟩ := tp hx
  obtain ⟨p1, p2, p3⟩ := hX.2.2.2.2.2 x hx
  obtain ⟨k1, k2, k3⟩ := hX.1.2.2.2.2 x hx
  obtain ⟨g1, g2, g3, g4⟩ := srt_h k1
  obtain ⟨b2, x2, m2, h2⟩ := arg_l a2 (S.2.2.2.2.1 4 x) k2
  have eX : f_X10_item 0 (nI x) a2 a3 μ = (if srt (S.2.2.2.2.1 3 x) = -nI 1 then some (-nI 11, μ) else if nI b2 = nI 0 then some (-nI 13, μ) else bnv (f_X9_put (53 + 2 * x) a2 a3 μ) (fun μ9 => some (nI 1, μ9))) := by
    unfold f_X10_item
    simp only [il]
    rw [bnd_e (x_at1 hx x1), cs_1 t4]
    unfold f_X9_holdsNothing f_X9_length
    simp only [il]
    rw [p1]
    by_cases c : srt (S.2.2.2.2.1 3 x) = -nI 1
    · rw [if_pos c, if_pos c, bnd_s, if_neg (by decide)]
    · rw [if_neg c, if_neg c, bnd_s, if_pos rfl, bnd_s, p2, bnd_e (x2 _)]
  have eM : ∀ μ, MI S μ → f_X11_item 85 (nI x) a2 a3 μ = (if nI 0 ≤ srt (S.2.2.2.2.1 3 x) then (if nI b2 = nI 0 then some (-nI 13, μ) else bnd (f_X11_narrowed (srt (S.2.2.2.2.1 3 x)) a3 μ) (fun r6 μ5 => gA (nI 60 * nI x + a2) 360 (lt (sL μ5 108 (nI 60 * nI x + a2).toNatClampNeg r6) (fun μ7 => some (nI 1, μ7))))) else some (-nI 11, μ)) := by
    intro μ hM
    obtain ⟨r1, r2, r3⟩ := hM.2.2.2.2.2 x hx
    unfold f_X11_item
    simp (disch := omega) only [il, rf_85_0, rf_85_1, rf_85_2, rf_85_3, rf_85_4, rf_85_5, rf_85_6, rf_85_11, rf_85_13, rf_85_14, rf_85_16, rf_85_17, rf_85_19, rf_85_20, rf_85_21, rf_85_22, rf_85_24, rf_85_27, rf_85_33, rf_85_34, rf_85_36, rf_85_37, rf_85_38, rf_85_39, al_86, al_87, al_88, al_89, al_90, al_91, al_92, al_93, al_94, al_95, al_96, al_97, al_98, al_99, al_100, al_101, al_102, al_103, al_104, al_105, al_106, al_107, al_108, al_109, gA_n, nI_clamp]
    rw [bnd_e (m1 _), nI_b1, r1, r2, bnd_e (m2 _), r1]
  by_cases c : S.2.2.2.2.1 3 x = 0
  · refine call_q hX hM (r := -nI 11) ?_ ?_
    · rw [eX, if_pos (g1.mpr c)]
    · rw [eM μ hM, if_neg (fun z => (g3.mp z) c)]
  rw [if_neg (fun z => c (g1.mp z))] at eX
  rcases h2 with rfl | ⟨rfl, m, hm, rfl⟩
  · refine call_q hX hM (r := -nI 13) ?_ ?_
    · rw [eX, nI_b0]
    · rw [eM μ hM, if_pos (g3.mpr c), nI_b0]
  obtain ⟨w, w1, _⟩ := x_fit (s := S.2.2.2.2.1 3 x) (by omega) k1 a3 (o := 53 + 2 * x) (μ := μ) (μ' := μ) p1
  have eP : f_X9_put (53 + 2 * x) (nI m) a3 μ = some (sL μ (54 + 2 * x) m w) := by
    unfold f_X9_put
    simp only [il]
    rw [p2, bnd_e (x2 _), nI_b1, bnd_e w1, t2, t3, gA_n (by omega) (by omega), nI_clamp (by omega), lt_d]
  rw [nI_b1, bnv_e eP] at eX
  have f1 : ∀ i, i ≠ 54 + 2 * x → (sL μ (54 + 2 * x) m w).1 i = μ.1 i ∧ (sL μ (54 + 2 * x) m w).2 i = μ.2 i := fun i hi => ⟨rfl, sL_o hi⟩
  have hM1 := hM.hi (show hi μ (sL μ (54 + 2 * x) m w) from fun i hi => f1 i (by omega))
  obtain ⟨w', w2, w3⟩ := x_fit (s := S.2.2.2.2.1 3 x) (by omega) k1 a3 (o := 53 + 2 * x) (μ := μ) (μ' := sL μ (54 + 2 * x) m w) p1
  have ew : w' = w := by rw [w1] at w2; exact (congrArg Prod.fst (Option.some.inj w2)).symm
  subst ew
  obtain ⟨D, hD⟩ : ∃ D : Nat → Nat → Int64, D = fun y k => if y = x ∧ k = m then w' else S.2.2.2.2.2 y k := ⟨_, rfl⟩
  have hX1 : XI n (upD S S.2.2.2.2.1 D) (sL μ (54 + 2 * x) m w') := hX.tape rfl rfl rfl hX.1.2.2.2.2 (fun y hy => by
    obtain ⟨q1, q2, q3⟩ := hX.2.2.2.2.2 y hy
    refine ⟨q1, q2, fun k hk => ?_⟩
    show _ = D y k
    rw [hD]
    dsimp only
    by_cases e : y = x
    · subst e
      by_cases e2 : k = m
      · rw [if_pos ⟨rfl, e2⟩, e2, sL_e]
      · rw [if_neg (fun z => e2 z.2), sL_n e2]; exact q3 k hk
    · rw [if_neg (fun z => e z.1), sL_o (by omega)]; exact q3 k hk) (fun i hi => f1 i (by omega))
  refine ⟨nI 1, _, sL (sL μ (54 + 2 * x) m w') 108 (60 * x + m) w', upD S S.2.2.2.2.1 D, eX, ?_, (hX1.lo (show lo (sL μ (54 + 2 * x) m w') (sL (sL μ (54 + 2 * x) m w') 108 (60 * x + m) w') from fun i hi => ⟨rfl, sL_o (by omega)⟩)).up (Nat.le_succ n), hM1.tape rfl rfl rfl hX.1.2.2.2.2 (fun y hy => ?_) (fun i hi => ⟨rfl, sL_o (by omega)⟩)⟩
  · rw [eM _ hM1, if_pos (g3.mpr c), nI_b1, bnd_e w3, pk_mul, nI_add, gA_n (by omega) (by omega), nI_clamp (by omega), lt_d]
  · obtain ⟨q1, q2, q3⟩ := hM1.2.2.2.2.2 y hy
    refine ⟨q1, q2, fun k hk => ?_⟩
    show _ = D y k
    rw [hD]
    dsimp only
    by_cases e : y = x ∧ k = m
    · rw [if_pos e, e.1, e.2, sL_e]
    · rw [if_neg e, sL_n (by omega)]; exact q3 k hk
