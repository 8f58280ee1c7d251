/-! one clause, on both sides -/
def s_form (t : Nat) : List Nat := if t = 98 then [100, 100, 100, 100, 100, 100] else if t = 99 then [100, 100, 100] else if t = 108 then [113] else if t = 115 then [113, 100, 109] else if t = 116 then [117, 44, 117] else if t = 119 then [100, 100, 100, 100] else []
def s_fo (t : Nat) : Nat := if t = 98 then 2 else if t = 99 then 1 else if t = 108 then 3 else if t = 115 then 4 else if t = 116 then 5 else if t = 119 then 0 else 6
def s_fl (f : Nat) : Nat := if f = 113 then 2 else 1
def s_fh (f : Nat) : Nat := if f = 109 then 4 else if f = 113 then 2 else if f = 117 then 2 else 1
/-- the fields of a clause: whether they are there, the place then, the numbers -/
def s_fm (T : Nat → Nat) (L : Nat) : List Nat → Nat → Nat × Nat × List Nat
  | [], p => (1, p, [])
  | f :: fs, p => if f = 44 then (if p < L ∧ T p = 44 then s_fm T L fs (p + 1) else (0, p, [])) else if s_fl f ≤ (s_dv T L (s_fh f) p 0).1 then ((s_fm T L fs (p + (s_dv T L (s_fh f) p 0).1)).1, (s_fm T L fs (p + (s_dv T L (s_fh f) p 0).1)).2.1, (s_dv T L (s_fh f) p 0).2 :: (s_fm T L fs (p + (s_dv T L (s_fh f) p 0).1)).2.2) else (0, p + (s_dv T L (s_fh f) p 0).1, [])
def s_cl (T : Nat → Nat) (L p : Nat) : Nat × Nat × List Nat := if p < L then (if s_fo (T p) = 6 then (0, p, []) else s_fm T L (s_form (T p)) (p + 1)) else (0, p, [])
/-- a sign of a form -/
def FS (f : Nat) : Prop := f = 100 ∨ f = 109 ∨ f = 113 ∨ f = 117 ∨ f = 44
def strF (si : Nat) : List Nat := [[100, 100, 100, 100], [100, 100, 100], [100, 100, 100, 100, 100, 100], [113], [113, 100, 109], [117, 44, 117]].getD si []
theorem str_co (o : Nat) (μ : Mem) : f_J0_coder_7d493 o μ = some (nI 0, μ) := by
  unfold f_J0_coder_7d493
  rw [if_neg (by decide), show chr_ok (0 : Int32) = true by decide, gP_t]
  rfl
theorem str_la (o : Nat) (μ : Mem) : f_J0_isLatin1_aae02 o μ = some (nI 1, μ) := by
  unfold f_J0_isLatin1_aae02
  rw [if_neg (by decide), if_pos (by decide)]
  rfl
theorem str_k1 : ∀ si, si < 6 → (nI (lenS.getD si 0)) >>> (nI 0 &&& 31) = nI (strF si).length := by decide +kernel
theorem str_l : ∀ si, si < 6 → ∀ μ, f_J0_length_8abf5 si μ = some (nI (strF si).length, μ) := by
  intro si h μ
  unfold f_J0_length_8abf5
  rw [bnd_e (str_co si μ), str_k1 si h]
theorem str_ln : ∀ si, si < 6 → lenS.getD si 0 = (strF si).length := by decide +kernel
def chV (si i : Nat) : Int32 := (((((bytS.getD si []).getD i 0) &&& (255 : Int32)).toUInt32 % 65536).toInt32)
theorem str_k4 : ∀ si, si < 6 → ∀ i, i < (strF si).length → chr_ok (chV si i) = true := by decide +kernel
theorem str_k5 : ∀ si, si < 6 → ∀ i, i < (strF si).length → chV si i = nI ((strF si).getD i 0) := by decide +kernel
theorem str_k3 : ∀ si, si < 6 → (strF si).length ≤ 6 := by decide +kernel
theorem str_c : ∀ si, si < 6 → ∀ i, i < (strF si).length → ∀ μ, f_J0_charAt_5068e si (nI i) μ = some (nI ((strF si).getD i 0), μ) := by
  intro si h i hi μ
  have hl := str_k3 si h
  have hn := str_ln si h
  have k4 := str_k4 si h i hi
  have k5 := str_k5 si h i hi
  unfold chV at k4 k5
  have e1 : f_J0_checkIndex_df160 (nI i) (nI (lenS.getD si 0)) μ = some μ := by
    unfold f_J0_checkIndex_df160 f_J3_checkIndex_8e157
    rw [if_neg (nI_pos (by omega)), if_pos (nI_lt (by omega) (by omega)), bnd_s]
  have e2 : f_J1_charAt_3b067 si (nI i) μ = some (nI ((strF si).getD i 0), μ) := by
    unfold f_J1_charAt_3b067
    rw [bnv_e e1, gA_n (by omega) (by omega), nI_clamp (by omega), k4, gP_t, k5]
  unfold f_J0_charAt_5068e
  rw [bnd_e (str_la si μ), nI_b1', bnd_e e2, ← k5, k4, gP_t]
theorem str_n : ∀ si, si < 6 → (strF si).length ≤ 6 ∧ ∀ f, f ∈ strF si → FS f := by unfold FS; decide +kernel
section CM
variable {T : Nat → Nat} {L : Nat}
theorem s_fm_L : ∀ (fs : List Nat) (p : Nat), p ≤ L → (s_fm T L fs p).2.1 ≤ L ∧ (s_fm T L fs p).1 ≤ 1 ∧ (s_fm T L fs p).2.2.length ≤ fs.length := by
  intro fs
  induction fs with
  | nil => intro p h; exact ⟨h, Nat.le_refl _, Nat.le_refl _⟩
  | cons f fs ih =>
    intro p h
    rw [s_fm]
    split
    · split
      · obtain ⟨a, b, c⟩ := ih (p + 1) (by omega)
        exact ⟨a, b, by rw [List.length_cons]; omega⟩
      · exact ⟨h, Nat.zero_le _, by rw [List.length_cons]; exact Nat.zero_le _⟩
    · have hL := s_dv_L (T := T) (L := L) (s_fh f) p 0 h
      split
      · obtain ⟨a, b, c⟩ := ih _ hL
        exact ⟨a, b, by rw [List.length_cons, List.length_cons]; omega⟩
      · exact ⟨hL, Nat.zero_le _, by rw [List.length_cons]; exact Nat.zero_le _⟩
theorem x_fld {f : Nat} {μ : Mem} (hf : FS f) (hn : f ≠ 44) : f_X7_takeField 48 (nI f) μ = bnd (f_X7_takeNumber 48 (nI (s_fl f)) (nI (s_fh f)) μ) (fun r μ => gB r (some (r, μ))) := by
  rcases hf with rfl | rfl | rfl | rfl | rfl
  · rfl
  · rfl
  · rfl
  · rfl
  · exact absurd rfl hn
theorem s_fh_le (f : Nat) : s_fh f ≤ 4 ∧ s_fl f < 10 := by
  unfold s_fh s_fl
  constructor
  · repeat' split
    all_goals omega
  · split <;> omega
theorem gB_if {β : Type} {c : Prop} [Decidable c] {k : Option β} : gB (nI (if c then 1 else 0)) k = k := by
  by_cases h : c
  · rw [if_pos h]; exact gB_1
  · rw [if_neg h]; exact gB_0
theorem x_fm (ok : TOk T L) {si cl : Nat} (hsi : si < 6) (hcl : cl < 12) : ∀ (fs : List Nat) (i n nh p : Nat) (μ : Mem), (strF si).drop i = fs → i + fs.length = (strF si).length → fs.length < n → nh + fs.length ≤ 6 → XQ T L μ → μ.1 48 6 = nI p → p ≤ L → μ.1 48 4 = nI cl → μ.1 48 5 = nI nh → ∃ μ2, f_X7_takeClause_b79 48 n si (nI i) μ = some (nI (s_fm T L fs p).1, μ2) ∧ μ2.1 48 6 = nI (s_fm T L fs p).2.1 ∧ ((s_fm T L fs p).1 = 1 → μ2.1 48 4 = nI (cl + 1) ∧ ∀ j, j < (s_fm T L fs p).2.2.length → μ2.1 51 (6 * cl + nh + j) = nI ((s_fm T L fs p).2.2.getD j 0)) ∧ μ2.2 = μ.2 ∧ (∀ i, i ≠ 48 → i ≠ 51 → μ2.1 i = μ.1 i) ∧ (∀ k, k ≠ 4 → k ≠ 5 → k ≠ 6 → μ2.1 48 k = μ.1 48 k) ∧ ∀ j, j < 6 * cl + nh → μ2.1 51 j = μ.1 51 j := by
  obtain ⟨hlen, hall⟩ := str_n si hsi
  intro fs
  induction fs with
  | nil =>
    intro i n nh p μ hd hi hn hnh hQ hp hpL h4 h5
    obtain ⟨n, rfl⟩ : ∃ t, n = t + 1 := ⟨n - 1, by omega⟩
    rw [List.length_nil] at hi
    rw [f_X7_takeClause_b79, bnd_e (str_l si hsi μ), if_pos (nI_le (by omega) (by omega)), h4, show (1 : Int32) = nI 1 from rfl, nI_add, lt_d]
    exact ⟨_, rfl, by rw [sI_n (Or.inr (by decide))]; exact hp, fun _ => ⟨sI_e, fun j hj => absurd hj (Nat.not_lt_zero j)⟩, rfl, fun i h _ => sI_o h, fun k h _ _ => sI_n (Or.inr h), fun j _ => by rw [sI_o (by decide)]⟩
  | cons f fs ih =>
    intro i n nh p μ hd hi hn hnh hQ hp hpL h4 h5
    obtain ⟨n, rfl⟩ : ∃ t, n = t + 1 := ⟨n - 1, by omega⟩
    rw [List.length_cons] at hi hn hnh
    have hil : i < (strF si).length := by omega
    have hfe : (strF si).getD i 0 = f := by
      have h1 : (strF si)[i]? = some f := by
        have h2 := congrArg List.head? hd
        rw [List.head?_drop] at h2
        exact h2
      rw [List.getD_eq_getElem?_getD, h1]
      rfl
    have hd2 : (strF si).drop (i + 1) = fs := by
      rw [← List.drop_drop, hd]
      rfl
    have hfs : FS f := hall f (by
      have : f ∈ (strF si).drop i := by rw [hd]; exact List.mem_cons_self ..
      exact List.mem_of_mem_drop this)
    rw [f_X7_takeClause_b79, bnd_e (str_l si hsi μ), if_neg (nI_ge hil (by omega)), bnd_e (str_c si hsi i hil μ), hfe, s_fm]
    by_cases c44 : f = 44
    · subst c44
      rw [if_pos rfl]
      have eF : f_X7_takeField 48 (nI 44) μ = bnd (f_X7_take 48 (nI 44) μ) (fun r μ => gB r (some (r, μ))) := rfl
      obtain ⟨μ2, t1, t2, t3⟩ := x_take (a := 44) ok hQ hp hpL (by decide)
      rw [eF, bnd_e t1, gB_if, bnd_s]
      by_cases c : p < L ∧ T p = 44
      · rw [if_pos c] at t3 ⊢
        rw [if_pos c, nI_b1', show (1 : Int32) = nI 1 from rfl, nI_add, lt_d]
        obtain ⟨μ3, r1, r2, r3, r4, r5, r6, r7⟩ := ih (i + 1) n nh (p + 1) μ2 hd2 (by omega) (by omega) (by omega) (hQ.tp t2) t3 (by omega) (by rw [t2.2.2 4 (by decide)]; exact h4) (by rw [t2.2.2 5 (by decide)]; exact h5)
        exact ⟨μ3, r1, r2, r3, by rw [r4, t2.1], fun i h1 h2 => by rw [r5 i h1 h2, t2.2.1 i h1], fun k h1 h2 h3 => by rw [r6 k h1 h2 h3, t2.2.2 k h3], fun j hj => by rw [r7 j hj, t2.2.1 51 (by decide)]⟩
      · rw [if_neg c] at t3 ⊢
        rw [if_neg c, if_pos (show nI 0 = 0 from rfl)]
        exact ⟨μ2, rfl, t3, fun z => absurd (show (0 : Nat) = 1 from z) (by decide), t2.1, fun i h1 _ => t2.2.1 i h1, fun k _ _ h3 => t2.2.2 k h3, fun j _ => by rw [t2.2.1 51 (by decide)]⟩
    · rw [if_neg c44, x_fld hfs c44]
      obtain ⟨b1, b2⟩ := s_fh_le f
      obtain ⟨μ2, t1, t2, t3, t4, t5, t6, t7⟩ := x_num ok (a := s_fl f) (most := s_fh f) b1 b2 hQ hp hpL h4 hcl h5 (by omega)
      have hpL2 := s_dv_L (T := T) (L := L) (s_fh f) p 0 hpL
      rw [bnd_e t1, gB_if, bnd_s]
      by_cases c : s_fl f ≤ (s_dv T L (s_fh f) p 0).1
      · obtain ⟨u1, u2⟩ := t3 c
        rw [if_pos c, if_pos c, nI_b1', show (1 : Int32) = nI 1 from rfl, nI_add, lt_d]
        obtain ⟨μ3, r1, r2, r3, r4, r5, r6, r7⟩ := ih (i + 1) n (nh + 1) (p + (s_dv T L (s_fh f) p 0).1) μ2 hd2 (by omega) (by omega) (by omega) ⟨by rw [t6 1 (by decide) (by decide)]; exact hQ.1, fun k hk => by rw [t5 49 (by decide) (by decide)]; exact hQ.2 k hk⟩ t2 hpL2 (by rw [t6 4 (by decide) (by decide)]; exact h4) u1
        refine ⟨μ3, r1, r2, fun z => ⟨(r3 z).1, fun j hj => ?_⟩, by rw [r4, t4], fun i h1 h2 => by rw [r5 i h1 h2, t5 i h1 h2], fun k h1 h2 h3 => by rw [r6 k h1 h2 h3, t6 k h2 h3], fun j hj => by rw [r7 j (by omega), t7 j (by omega)]⟩
        cases j with
        | zero => rw [Nat.add_zero, r7 (6 * cl + nh) (by omega)]; exact u2
        | succ j =>
          have hj2 : j < (s_fm T L fs (p + (s_dv T L (s_fh f) p 0).1)).2.2.length := Nat.lt_of_succ_lt_succ hj
          rw [show 6 * cl + nh + (j + 1) = 6 * cl + (nh + 1) + j by omega]
          exact (r3 z).2 j hj2
      · rw [if_neg c, if_neg c, if_pos (show nI 0 = 0 from rfl)]
        exact ⟨μ2, rfl, t2, fun z => absurd (show (0 : Nat) = 1 from z) (by decide), t4, t5, fun k _ h2 h3 => t6 k h2 h3, fun j hj => t7 j (by omega)⟩
theorem fo_form (t : Nat) : (s_fo t = 6 ∧ s_form t = []) ∨ (s_fo t < 6 ∧ strF (s_fo t) = s_form t) := by
  unfold s_fo s_form
  by_cases h1 : t = 98
  · rw [if_pos h1, if_pos h1]; exact Or.inr ⟨by decide, rfl⟩
  rw [if_neg h1, if_neg h1]
  by_cases h2 : t = 99
  · rw [if_pos h2, if_pos h2]; exact Or.inr ⟨by decide, rfl⟩
  rw [if_neg h2, if_neg h2]
  by_cases h3 : t = 108
  · rw [if_pos h3, if_pos h3]; exact Or.inr ⟨by decide, rfl⟩
  rw [if_neg h3, if_neg h3]
  by_cases h4 : t = 115
  · rw [if_pos h4, if_pos h4]; exact Or.inr ⟨by decide, rfl⟩
  rw [if_neg h4, if_neg h4]
  by_cases h5 : t = 116
  · rw [if_pos h5, if_pos h5]; exact Or.inr ⟨by decide, rfl⟩
  rw [if_neg h5, if_neg h5]
  by_cases h6 : t = 119
  · rw [if_pos h6, if_pos h6]; exact Or.inr ⟨by decide, rfl⟩
  rw [if_neg h6, if_neg h6]
  exact Or.inl ⟨rfl, rfl⟩
theorem x_fo {t : Nat} (ht : t < 128) (μ : Mem) : f_X7_formOf (nI t) μ = some (s_fo t, μ) := by
  have key : ∀ k, k < 128 → (nI t = (OfNat.ofNat k : Int32) ↔ t = k) := fun k hk => nI_eq (by omega) (by omega)
  unfold f_X7_formOf s_fo
  by_cases h1 : t = 98
  · rw [if_pos ((key 98 (by decide)).mpr h1), if_pos h1]
  rw [if_neg (fun z => h1 ((key 98 (by decide)).mp z)), if_neg h1]
  by_cases h2 : t = 99
  · rw [if_pos ((key 99 (by decide)).mpr h2), if_pos h2]
  rw [if_neg (fun z => h2 ((key 99 (by decide)).mp z)), if_neg h2]
  by_cases h3 : t = 108
  · rw [if_pos ((key 108 (by decide)).mpr h3), if_pos h3]
  rw [if_neg (fun z => h3 ((key 108 (by decide)).mp z)), if_neg h3]
  by_cases h4 : t = 115
  · rw [if_pos ((key 115 (by decide)).mpr h4), if_pos h4]
  rw [if_neg (fun z => h4 ((key 115 (by decide)).mp z)), if_neg h4]
  by_cases h5 : t = 116
  · rw [if_pos ((key 116 (by decide)).mpr h5), if_pos h5]
  rw [if_neg (fun z => h5 ((key 116 (by decide)).mp z)), if_neg h5]
  by_cases h6 : t = 119
  · rw [if_pos ((key 119 (by decide)).mpr h6), if_pos h6]
  rw [if_neg (fun z => h6 ((key 119 (by decide)).mp z)), if_neg h6]
theorem x_emp : ∀ si, si < 7 → ∀ μ, f_J0_isEmpty_aae02 si μ = some (nI (if si = 6 then 1 else 0), μ) := by
  intro si h μ
  rcases (show si = 0 ∨ si = 1 ∨ si = 2 ∨ si = 3 ∨ si = 4 ∨ si = 5 ∨ si = 6 by omega) with rfl | rfl | rfl | rfl | rfl | rfl | rfl <;> rfl
theorem x_cl (ok : TOk T L) {cl p : Nat} {μ : Mem} (hcl : cl < 12) (hQ : XQ T L μ) (hp : μ.1 48 6 = nI p) (hpL : p ≤ L) (h4 : μ.1 48 4 = nI cl) : ∃ μ2, f_X7_takeClause 48 μ = some (nI (s_cl T L p).1, μ2) ∧ μ2.1 48 6 = nI (s_cl T L p).2.1 ∧ ((s_cl T L p).1 = 1 → μ2.1 48 4 = nI (cl + 1) ∧ μ2.1 50 cl = nI (T p) ∧ ∀ j, j < (s_cl T L p).2.2.length → μ2.1 51 (6 * cl + j) = nI ((s_cl T L p).2.2.getD j 0)) ∧ μ2.2 = μ.2 ∧ (∀ i, i ≠ 48 → i ≠ 50 → i ≠ 51 → μ2.1 i = μ.1 i) ∧ (∀ k, k ≠ 4 → k ≠ 5 → k ≠ 6 → μ2.1 48 k = μ.1 48 k) ∧ (∀ j, j ≠ cl → μ2.1 50 j = μ.1 50 j) ∧ ∀ j, j < 6 * cl → μ2.1 51 j = μ.1 51 j := by
  have hFU : FU = 1000000000000 := rfl
  have hL := ok.1
  unfold f_X7_takeClause s_cl
  rw [hQ.1, hp, h4]
  by_cases c : p < L
  case neg =>
    rw [if_pos (nI_le (by omega) (by omega)), if_neg c]
    exact ⟨μ, rfl, hp, fun z => absurd (show (0 : Nat) = 1 from z) (by decide), rfl, fun _ _ _ _ => rfl, fun _ _ _ _ => rfl, fun _ _ => rfl, fun _ _ => rfl⟩
  have ht := ok.2 p c
  rw [if_neg (nI_ge c (by omega)), if_pos c, if_pos (show nI cl < (12 : Int32) from nI_lt hcl (by decide)), rf_48_0, al_49, gA_n (by omega) (by omega), nI_clamp (by omega), hQ.2 p c, bnd_e (x_fo ht μ)]
  rcases fo_form (T p) with ⟨e1, e2⟩ | ⟨e1, e2⟩
  · rw [e1, if_pos rfl, show decide (6 < 7) = true from rfl, gP_t, bnd_e (x_emp 6 (by decide) μ), if_pos rfl, nI_b1']
    exact ⟨μ, rfl, hp, fun z => absurd (show (0 : Nat) = 1 from z) (by decide), rfl, fun _ _ _ _ => rfl, fun _ _ _ _ => rfl, fun _ _ => rfl, fun _ _ => rfl⟩
  · rw [if_neg (show ¬ s_fo (T p) = 6 by omega), show decide (s_fo (T p) < 7) = true from decide_eq_true (by omega), gP_t, bnd_e (x_emp _ (by omega) μ), if_neg (show ¬ s_fo (T p) = 6 by omega), if_pos (show nI 0 = 0 from rfl), hp, gA_n (by omega) (by omega), nI_clamp (by omega), hQ.2 p c, h4, rf_48_2, al_50, gA_n (by omega) (by omega), nI_clamp (by omega), lt_d, lt_d, lt_d, show (0 : Int32) = nI 0 from rfl, show (1 : Int32) = nI 1 from rfl]
    obtain ⟨ν, hν⟩ : ∃ ν, ν = sI (sI (sI μ 50 cl (nI (T p))) 48 5 (nI 0)) 48 6 (nI (p + 1)) := ⟨_, rfl⟩
    have q6 : (sI (sI μ 50 cl (nI (T p))) 48 5 (nI 0)).1 48 6 = nI p := by rw [sI_n (Or.inr (by decide)), sI_o (by decide)]; exact hp
    rw [q6, nI_add, ← hν]
    have n1 : ν.1 48 1 = μ.1 48 1 := by rw [hν, sI_n (Or.inr (by decide)), sI_n (Or.inr (by decide)), sI_o (by decide)]
    have n4 : ν.1 48 4 = μ.1 48 4 := by rw [hν, sI_n (Or.inr (by decide)), sI_n (Or.inr (by decide)), sI_o (by decide)]
    have ni : ∀ i, i ≠ 48 → i ≠ 50 → ν.1 i = μ.1 i := fun i h1 h2 => by rw [hν, sI_o h1, sI_o h1, sI_o h2]
    have nk : ∀ k, k ≠ 5 → k ≠ 6 → ν.1 48 k = μ.1 48 k := fun k h1 h2 => by rw [hν, sI_n (Or.inr h2), sI_n (Or.inr h1), sI_o (by decide)]
    obtain ⟨μ2, r1, r2, r3, r4, r5, r6, r7⟩ := x_fm ok (si := s_fo (T p)) (cl := cl) e1 hcl (s_form (T p)) 0 FU 0 (p + 1) ν (by rw [List.drop_zero]; exact e2) (by rw [e2]; omega) (by have := (str_n _ e1).1; rw [e2] at this; omega) (by have := (str_n _ e1).1; rw [e2] at this; omega) ⟨by rw [n1]; exact hQ.1, fun k hk => by rw [ni 49 (by decide) (by decide)]; exact hQ.2 k hk⟩ (by rw [hν, sI_e]) (by omega) (by rw [n4]; exact h4) (by rw [hν, sI_n (Or.inr (by decide)), sI_e])
    refine ⟨μ2, r1, r2, fun z => ⟨(r3 z).1, ?_, fun j hj => ?_⟩, by rw [r4, hν]; rfl, fun i h1 h2 h3 => by rw [r5 i h1 h3, ni i h1 h2], fun k h1 h2 h3 => by rw [r6 k h1 h2 h3, nk k h2 h3], fun j hj => ?_, fun j hj => ?_⟩
    · rw [r5 50 (by decide) (by decide), hν, sI_o (by decide), sI_o (by decide), sI_e]
    · have := (r3 z).2 j hj
      rw [Nat.add_zero] at this
      exact this
    · rw [r5 50 (by decide) (by decide), hν, sI_o (by decide), sI_o (by decide), sI_n (Or.inr hj)]
    · rw [r7 j (by omega), ni 51 (by decide) (by decide)]
end CM
