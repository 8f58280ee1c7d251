/-! numbers read from the text, on both sides -/
/-- how many digits, at most m, from p on; the number that they make behind v -/
def s_dv (T : Nat → Nat) (L : Nat) : Nat → Nat → Nat → Nat × Nat
  | 0, _, v => (0, v)
  | m + 1, p, v => if p < L ∧ 48 ≤ T p ∧ T p ≤ 57 then ((s_dv T L m (p + 1) (10 * v + T p - 48)).1 + 1, (s_dv T L m (p + 1) (10 * v + T p - 48)).2) else (0, v)
section DG
variable {T : Nat → Nat} {L : Nat}
theorem s_dv_le : ∀ (m p v : Nat), (s_dv T L m p v).1 ≤ m := by
  intro m
  induction m with
  | zero => intro p v; exact Nat.le_refl _
  | succ m ih =>
    intro p v
    rw [s_dv]
    split
    · have := ih (p + 1) (10 * v + T p - 48)
      show _ + 1 ≤ _
      omega
    · exact Nat.zero_le _
theorem s_dv_L : ∀ (m p v : Nat), p ≤ L → p + (s_dv T L m p v).1 ≤ L := by
  intro m
  induction m with
  | zero => intro p v h; exact h
  | succ m ih =>
    intro p v h
    rw [s_dv]
    split
    · rename_i c
      have := ih (p + 1) (10 * v + T p - 48) (by omega)
      show p + (_ + 1) ≤ L
      omega
    · exact h
theorem s_dv_b : ∀ (m p v B : Nat), v < B → (s_dv T L m p v).2 < B * 10 ^ m := by
  intro m
  induction m with
  | zero => intro p v B h; show v < B * 1; omega
  | succ m ih =>
    intro p v B h
    rw [s_dv]
    split
    · rename_i c
      have := ih (p + 1) (10 * v + T p - 48) (B * 10) (by omega)
      rw [Nat.pow_succ, Nat.mul_comm (10 ^ m) 10, ← Nat.mul_assoc]
      exact this
    · show v < _
      have : 1 ≤ 10 ^ (m + 1) := Nat.one_le_pow _ _ (by decide)
      calc v < B := h
        _ = B * 1 := (Nat.mul_one B).symm
        _ ≤ B * 10 ^ (m + 1) := Nat.mul_le_mul_left B this
def XQ (T : Nat → Nat) (L : Nat) (μ : Mem) : Prop := μ.1 48 1 = nI L ∧ ∀ k, k < L → μ.1 49 k = nI (T k)
def MQ2 (T : Nat → Nat) (L : Nat) (μ : Mem) : Prop := μ.1 85 25 = nI L ∧ ∀ k, k < L → μ.1 102 k = nI (T k)
def TOk (T : Nat → Nat) (L : Nat) : Prop := L ≤ 100 ∧ ∀ k, k < L → T k < 128
theorem x_next {μ : Mem} {p a b : Nat} (ok : TOk T L) (hQ : XQ T L μ) (hp : μ.1 48 6 = nI p) (hpL : p ≤ L) (ha : a < 1000) (hb : b < 1000) : f_X7_isNext 48 (nI a) (nI b) μ = some (nI (if p < L ∧ a ≤ T p ∧ T p ≤ b then 1 else 0), μ) := by
  have hL := ok.1
  unfold f_X7_isNext
  rw [hQ.1, hp, rf_48_0, al_49]
  by_cases c : L ≤ p
  · rw [if_pos (nI_le c (by omega)), if_neg (by omega)]; rfl
  · have ht := ok.2 p (by omega)
    rw [if_neg (nI_ge (by omega) (by omega)), gA_n (by omega) (by omega), gA_n (by omega) (by omega), nI_clamp (by omega), hQ.2 p (by omega)]
    by_cases d : T p < a
    · rw [if_pos (nI_lt d (by omega)), if_neg (by omega)]; rfl
    · rw [if_neg (fun z => d ((nI_ltI (by omega) (by omega)).mp z))]
      by_cases e : b < T p
      · rw [if_pos (nI_lt e (by omega)), if_neg (by omega)]; rfl
      · rw [if_neg (fun z => e ((nI_ltI (by omega) (by omega)).mp z)), if_pos (by omega)]; rfl
/-- only the place moved -/
def TP (μ μ2 : Mem) : Prop := μ2.2 = μ.2 ∧ (∀ i, i ≠ 48 → μ2.1 i = μ.1 i) ∧ ∀ k, k ≠ 6 → μ2.1 48 k = μ.1 48 k
theorem TP.rf (μ : Mem) : TP μ μ := ⟨rfl, fun _ _ => rfl, fun _ _ => rfl⟩
theorem TP.tr {a b c : Mem} (h : TP a b) (g : TP b c) : TP a c := ⟨g.1.trans h.1, fun i hi => (g.2.1 i hi).trans (h.2.1 i hi), fun k hk => (g.2.2 k hk).trans (h.2.2 k hk)⟩
theorem TP.s {μ : Mem} {v : Int32} : TP μ (sI μ 48 6 v) := ⟨rfl, fun i hi => sI_o hi, fun k hk => sI_n (Or.inr hk)⟩
theorem XQ.tp {μ μ2 : Mem} (h : XQ T L μ) (f : TP μ μ2) : XQ T L μ2 := ⟨by rw [f.2.2 1 (by decide)]; exact h.1, fun k hk => by rw [f.2.1 49 (by decide)]; exact h.2 k hk⟩
theorem x_nb5 (ok : TOk T L) {a most : Nat} (hmo : most ≤ 4) : ∀ (m n d v p B : Nat) (μ : Mem), d + m = most → m < n → v < B → B * 10 ^ m ≤ 100000 → XQ T L μ → μ.1 48 6 = nI p → p ≤ L → ∃ μ2, f_X7_takeNumber_b5 48 (nI a) (nI most) n (nI v) (nI d) μ = f_X7_takeNumber_b56 48 (nI a) (nI most) (nI (s_dv T L m p v).2) (nI (d + (s_dv T L m p v).1)) μ2 ∧ TP μ μ2 ∧ μ2.1 48 6 = nI (p + (s_dv T L m p v).1) := by
  intro m
  induction m with
  | zero =>
    intro n d v p B μ hd hn hv hB hQ hp hpL
    obtain ⟨n, rfl⟩ : ∃ i, n = i + 1 := ⟨n - 1, by omega⟩
    rw [f_X7_takeNumber_b5, if_pos (nI_le (by omega) (by omega))]
    exact ⟨μ, rfl, TP.rf μ, hp⟩
  | succ m ih =>
    intro n d v p B μ hd hn hv hB hQ hp hpL
    obtain ⟨n, rfl⟩ : ∃ i, n = i + 1 := ⟨n - 1, by omega⟩
    have hL := ok.1
    rw [f_X7_takeNumber_b5, if_neg (nI_ge (by omega) (by omega)), show (48 : Int32) = nI 48 from rfl, show (57 : Int32) = nI 57 from rfl, bnd_e (x_next ok hQ hp hpL (by decide) (by decide)), s_dv]
    by_cases c : p < L ∧ 48 ≤ T p ∧ T p ≤ 57
    · have h1 : 1 ≤ 10 ^ m := Nat.one_le_pow _ _ (by decide)
      have h2 : B * 10 * 10 ^ m ≤ 100000 := by
        rw [Nat.pow_succ, Nat.mul_comm (10 ^ m) 10, ← Nat.mul_assoc] at hB
        exact hB
      have h3 : B * 10 * 1 ≤ B * 10 * 10 ^ m := Nat.mul_le_mul_left _ h1
      rw [if_pos c, if_pos c, nI_b1', rf_48_0, al_49, hp, gA_n (by omega) (by omega), nI_clamp (by omega), hQ.2 p c.1]
      simp (disch := omega) only [il, pk_mul, nI_add, pk_sub, lt_d]
      obtain ⟨μ2, r1, r2, r3⟩ := ih n (d + 1) (10 * v + T p - 48) (p + 1) (B * 10) (sI μ 48 6 (nI (p + 1))) (by omega) (by omega) (by omega) h2 (hQ.tp TP.s) sI_e (by omega)
      refine ⟨μ2, ?_, TP.s.tr r2, ?_⟩
      · rw [r1]
        show _ = f_X7_takeNumber_b56 48 (nI a) (nI most) _ (nI (d + ((s_dv T L m (p + 1) (10 * v + T p - 48)).1 + 1))) μ2
        rw [show d + 1 + (s_dv T L m (p + 1) (10 * v + T p - 48)).1 = d + ((s_dv T L m (p + 1) (10 * v + T p - 48)).1 + 1) by omega]
      · rw [r3]
        show _ = nI (p + ((s_dv T L m (p + 1) (10 * v + T p - 48)).1 + 1))
        rw [show p + 1 + (s_dv T L m (p + 1) (10 * v + T p - 48)).1 = p + ((s_dv T L m (p + 1) (10 * v + T p - 48)).1 + 1) by omega]
    · rw [if_neg c, if_neg c, if_pos (show nI 0 = 0 from rfl)]
      exact ⟨μ, rfl, TP.rf μ, hp⟩
theorem x_num (ok : TOk T L) {a most p cl nh : Nat} {μ : Mem} (hmo : most ≤ 4) (ha : a < 10) (hQ : XQ T L μ) (hp : μ.1 48 6 = nI p) (hpL : p ≤ L) (hcl : μ.1 48 4 = nI cl) (hc : cl < 12) (hnh : μ.1 48 5 = nI nh) (hn : nh < 6) : ∃ μ2, f_X7_takeNumber 48 (nI a) (nI most) μ = some (nI (if a ≤ (s_dv T L most p 0).1 then 1 else 0), μ2) ∧ μ2.1 48 6 = nI (p + (s_dv T L most p 0).1) ∧ (a ≤ (s_dv T L most p 0).1 → μ2.1 48 5 = nI (nh + 1) ∧ μ2.1 51 (6 * cl + nh) = nI (s_dv T L most p 0).2) ∧ μ2.2 = μ.2 ∧ (∀ i, i ≠ 48 → i ≠ 51 → μ2.1 i = μ.1 i) ∧ (∀ k, k ≠ 5 → k ≠ 6 → μ2.1 48 k = μ.1 48 k) ∧ ∀ j, j ≠ 6 * cl + nh → μ2.1 51 j = μ.1 51 j := by
  have hFU : FU = 1000000000000 := rfl
  have hle := s_dv_le (T := T) (L := L) most p 0
  have hB : 1 * 10 ^ most ≤ 100000 := by
    rcases (show most = 0 ∨ most = 1 ∨ most = 2 ∨ most = 3 ∨ most = 4 by omega) with rfl | rfl | rfl | rfl | rfl <;> decide
  obtain ⟨μ1, e1, e2, e3⟩ := x_nb5 ok (a := a) hmo most FU 0 0 p 1 μ (by omega) (by omega) (by decide) hB hQ hp hpL
  rw [Nat.zero_add] at e1
  have e0 : f_X7_takeNumber 48 (nI a) (nI most) μ = _ := e1
  rw [e0]
  unfold f_X7_takeNumber_b56
  rw [rf_48_3, al_51, e2.2.2 4 (by decide), e2.2.2 5 (by decide), hcl, hnh]
  by_cases c : a ≤ (s_dv T L most p 0).1
  · rw [if_neg (fun z => absurd ((nI_ltI (by omega) (by omega)).mp z) (by omega)), if_pos (show nI nh < (6 : Int32) from nI_lt hn (by decide)), if_pos c]
    simp (disch := omega) only [il, pk_mul, nI_add, gA_n, nI_clamp, lt_d]
    rw [show (sI μ1 51 (cl * 6 + nh) (nI (s_dv T L most p 0).2)).1 48 5 = nI nh by rw [sI_o (by decide), e2.2.2 5 (by decide)]; exact hnh, nI_add]
    refine ⟨_, rfl, ?_, fun _ => ⟨?_, ?_⟩, e2.1, fun i h1 h2 => ?_, fun k h1 h2 => ?_, fun j hj => ?_⟩
    · rw [sI_n (Or.inr (by decide)), sI_o (by decide)]; exact e3
    · rw [sI_e]
    · rw [sI_o (by decide), show 6 * cl + nh = cl * 6 + nh by omega, sI_e]
    · rw [sI_o h1, sI_o h2]; exact e2.2.1 i h1
    · rw [sI_n (Or.inr h1), sI_o (by decide)]; exact e2.2.2 k h2
    · rw [sI_o (by decide), sI_n (Or.inr (by omega)), e2.2.1 51 (by decide)]
  · rw [if_pos (nI_lt (by omega) (by omega)), if_neg c]
    exact ⟨μ1, rfl, e3, fun z => absurd z c, e2.1, fun i h1 _ => e2.2.1 i h1, fun k _ h2 => e2.2.2 k h2, fun j _ => by rw [e2.2.1 51 (by decide)]⟩
theorem x_take {μ : Mem} {p a : Nat} (ok : TOk T L) (hQ : XQ T L μ) (hp : μ.1 48 6 = nI p) (hpL : p ≤ L) (ha : a < 1000) : ∃ μ2, f_X7_take 48 (nI a) μ = some (nI (if p < L ∧ T p = a then 1 else 0), μ2) ∧ TP μ μ2 ∧ μ2.1 48 6 = nI (if p < L ∧ T p = a then p + 1 else p) := by
  unfold f_X7_take
  rw [bnd_e (x_next ok hQ hp hpL ha ha)]
  by_cases c : p < L ∧ T p = a
  · rw [if_pos (show p < L ∧ a ≤ T p ∧ T p ≤ a by omega), nI_b1', if_pos c, if_pos c, hp, lt_d]
    exact ⟨_, rfl, TP.s, by rw [sI_e, nI_1]⟩
  · rw [if_neg (show ¬ (p < L ∧ a ≤ T p ∧ T p ≤ a) by omega), if_pos (show nI 0 = 0 from rfl), if_neg c, if_neg c]
    exact ⟨μ, rfl, TP.rf μ, hp⟩
/-- the reference: the place, the number read, the force told -/
def RP (μ μ2 : Mem) : Prop := μ2.2 = μ.2 ∧ (∀ i, i ≠ 85 → i ≠ 103 → μ2.1 i = μ.1 i) ∧ ∀ k, k ≠ 26 → k ≠ 28 → μ2.1 85 k = μ.1 85 k
theorem RP.rf (μ : Mem) : RP μ μ := ⟨rfl, fun _ _ _ => rfl, fun _ _ _ => rfl⟩
theorem RP.tr {a b c : Mem} (h : RP a b) (g : RP b c) : RP a c := ⟨g.1.trans h.1, fun i h1 h2 => (g.2.1 i h1 h2).trans (h.2.1 i h1 h2), fun k h1 h2 => (g.2.2 k h1 h2).trans (h.2.2 k h1 h2)⟩
theorem RP.s {μ : Mem} {i k : Nat} {v : Int32} (h : i = 103 ∨ (i = 85 ∧ (k = 26 ∨ k = 28))) : RP μ (sI μ i k v) := ⟨rfl, fun j h1 h2 => sI_o (by omega), fun j h1 h2 => sI_n (by omega)⟩
theorem MQ2.rp {μ μ2 : Mem} (h : MQ2 T L μ) (f : RP μ μ2) : MQ2 T L μ2 := ⟨by rw [f.2.2 25 (by decide) (by decide)]; exact h.1, fun k hk => by rw [f.2.1 102 (by decide) (by decide)]; exact h.2 k hk⟩
def s_he (T : Nat → Nat) (L p : Nat) : Int32 := if L ≤ p then -nI 1 else nI (T p)
theorem m_here {μ : Mem} {p : Nat} (ok : TOk T L) (hQ : MQ2 T L μ) (hp : μ.1 85 26 = nI p) (hpL : p ≤ L) : f_X11_here 85 μ = some (s_he T L p, μ) := by
  have hL := ok.1
  unfold f_X11_here s_he
  rw [hQ.1, hp, rf_85_24, al_102]
  by_cases c : L ≤ p
  · rw [if_pos (nI_le c (by omega)), if_pos c]; rfl
  · rw [if_neg (nI_ge (by omega) (by omega)), if_neg c, gA_n (by omega) (by omega), nI_clamp (by omega), hQ.2 p (by omega)]
theorem m_isd {p : Nat} (ok : TOk T L) (μ : Mem) : f_X11_in (s_he T L p) (nI 48) (nI 57) μ = some (nI (if p < L ∧ 48 ≤ T p ∧ T p ≤ 57 then 1 else 0), μ) := by
  unfold s_he
  by_cases c : L ≤ p
  · rw [if_pos c, if_neg (by omega)]
    unfold f_X11_in
    rw [if_pos (by decide)]
    rfl
  · have ht := ok.2 p (by omega)
    rw [if_neg c, m_inN (by omega) (by decide) (by decide)]
    by_cases d : 48 ≤ T p ∧ T p ≤ 57
    · rw [if_pos d, if_pos ⟨by omega, d⟩]
    · rw [if_neg d, if_neg (fun z => d z.2)]
theorem m_d13 (ok : TOk T L) {i a b beg : Nat} (hi : i < 5) (hb : b ≤ 4) (hbeg : beg ≤ 100) : ∀ (m n v p B : Nat) (μ : Mem), p + m = beg + b → m < n → v < B → B * 10 ^ m ≤ 100000 → MQ2 T L μ → μ.1 85 26 = nI p → p ≤ L → μ.1 103 i = nI v → ∃ μ2, f_X11_digits_b13 85 (nI i) (nI a) (nI b) n (nI beg) μ = f_X11_digits_b74 85 (nI i) (nI a) (nI b) (nI beg) μ2 ∧ RP μ μ2 ∧ μ2.1 85 26 = nI (p + (s_dv T L m p v).1) ∧ μ2.1 85 28 = μ.1 85 28 ∧ μ2.1 103 i = nI (s_dv T L m p v).2 ∧ ∀ j, j ≠ i → μ2.1 103 j = μ.1 103 j := by
  have hL := ok.1
  intro m
  induction m with
  | zero =>
    intro n v p B μ hp hn hv hB hQ h26 hpL h103
    obtain ⟨n, rfl⟩ : ∃ t, n = t + 1 := ⟨n - 1, by omega⟩
    rw [f_X11_digits_b13, h26, nI_add, if_pos (nI_le (by omega) (by omega))]
    exact ⟨μ, rfl, RP.rf μ, h26, rfl, h103, fun _ _ => rfl⟩
  | succ m ih =>
    intro n v p B μ hp hn hv hB hQ h26 hpL h103
    obtain ⟨n, rfl⟩ : ∃ t, n = t + 1 := ⟨n - 1, by omega⟩
    have eH := m_here ok hQ h26 hpL
    rw [f_X11_digits_b13, h26, nI_add, if_neg (nI_ge (by omega) (by omega)), bnd_e eH, show (48 : Int32) = nI 48 from rfl, show (57 : Int32) = nI 57 from rfl, bnd_e (m_isd ok _), s_dv]
    by_cases c : p < L ∧ 48 ≤ T p ∧ T p ≤ 57
    · have h1 : 1 ≤ 10 ^ m := Nat.one_le_pow _ _ (by decide)
      have h2 : B * 10 * 10 ^ m ≤ 100000 := by
        rw [Nat.pow_succ, Nat.mul_comm (10 ^ m) 10, ← Nat.mul_assoc] at hB
        exact hB
      have h3 : B * 10 * 1 ≤ B * 10 * 10 ^ m := Nat.mul_le_mul_left _ h1
      rw [if_pos c, if_pos c, nI_b1', rf_85_27, al_103, gA_n (by omega) (by omega), bnd_e eH, gA_n (by omega) (by omega), nI_clamp (by omega), h103, show s_he T L p = nI (T p) from if_neg (by omega)]
      simp (disch := omega) only [il, pk_mul, nI_add, pk_sub, lt_d]
      rw [show (sI μ 103 i (nI (10 * v + T p - 48))).1 85 26 = nI p by rw [sI_o (by decide)]; exact h26, nI_add]
      have F : RP μ (sI (sI μ 103 i (nI (10 * v + T p - 48))) 85 26 (nI (p + 1))) := (RP.s (Or.inl rfl)).tr (RP.s (Or.inr ⟨rfl, Or.inl rfl⟩))
      obtain ⟨μ2, r1, r2, r3, r4, r5, r6⟩ := ih n (10 * v + T p - 48) (p + 1) (B * 10) (sI (sI μ 103 i (nI (10 * v + T p - 48))) 85 26 (nI (p + 1))) (by omega) (by omega) (by omega) h2 (hQ.rp F) sI_e (by omega) (by rw [sI_o (by decide), sI_e])
      refine ⟨μ2, r1, F.tr r2, ?_, ?_, r5, fun j hj => ?_⟩
      · rw [r3]
        show _ = nI (p + ((s_dv T L m (p + 1) (10 * v + T p - 48)).1 + 1))
        rw [show p + 1 + (s_dv T L m (p + 1) (10 * v + T p - 48)).1 = p + ((s_dv T L m (p + 1) (10 * v + T p - 48)).1 + 1) by omega]
      · rw [r4, sI_n (Or.inr (by decide)), sI_o (by decide)]
      · rw [r6 j hj, sI_o (by decide), sI_n (Or.inr hj)]
    · rw [if_neg c, if_neg c, if_pos (show nI 0 = 0 from rfl)]
      exact ⟨μ, rfl, RP.rf μ, h26, rfl, h103, fun _ _ => rfl⟩
theorem m_dig (ok : TOk T L) {i a b p : Nat} {μ : Mem} (hi : i < 5) (hb : b ≤ 4) (ha : a < 10) (hQ : MQ2 T L μ) (hp : μ.1 85 26 = nI p) (hpL : p ≤ L) : ∃ μ2, f_X11_digits 85 (nI i) (nI a) (nI b) μ = some (nI (if a ≤ (s_dv T L b p 0).1 then 1 else 0), μ2) ∧ RP μ μ2 ∧ μ2.1 85 26 = nI (p + (s_dv T L b p 0).1) ∧ μ2.1 85 28 = μ.1 85 28 ∧ μ2.1 103 i = nI (s_dv T L b p 0).2 ∧ ∀ j, j ≠ i → μ2.1 103 j = μ.1 103 j := by
  have hFU : FU = 1000000000000 := rfl
  have hL := ok.1
  have hle := s_dv_le (T := T) (L := L) b p 0
  have hB : 1 * 10 ^ b ≤ 100000 := by
    rcases (show b = 0 ∨ b = 1 ∨ b = 2 ∨ b = 3 ∨ b = 4 by omega) with rfl | rfl | rfl | rfl | rfl <;> decide
  have F : RP μ (sI μ 103 i (nI 0)) := RP.s (Or.inl rfl)
  obtain ⟨μ2, r1, r2, r3, r4, r5, r6⟩ := m_d13 ok (i := i) (a := a) (b := b) (beg := p) hi hb (by omega) b FU 0 p 1 (sI μ 103 i (nI 0)) rfl (by omega) (by decide) hB (hQ.rp F) (by rw [sI_o (by decide)]; exact hp) hpL sI_e
  refine ⟨μ2, ?_, F.tr r2, r3, by rw [r4, sI_o (by decide)], r5, fun j hj => by rw [r6 j hj, sI_n (Or.inr hj)]⟩
  unfold f_X11_digits
  rw [rf_85_27, al_103, hp, lt_d, gA_n (by omega) (by omega), nI_clamp (by omega), show (0 : Int32) = nI 0 from rfl, lt_d, r1]
  unfold f_X11_digits_b74
  rw [r3, nI_add]
  by_cases c : a ≤ (s_dv T L b p 0).1
  · rw [if_neg (fun z => absurd ((nI_ltI (by omega) (by omega)).mp z) (by omega)), if_pos c]; rfl
  · rw [if_pos (nI_lt (by omega) (by omega)), if_neg c]; rfl
end DG
