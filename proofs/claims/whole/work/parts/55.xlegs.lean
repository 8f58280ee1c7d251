/-! the class: legs. Chart e (0 the main one, 1 the tried one): object 21 + 17 e, its rows behind it, its sea 1 + 30 e -/
theorem tc {e : Nat} (h : e < 2) : rf (21 + 17 * e) 0 = 1 + 30 * e ∧ rf (21 + 17 * e) 1 = 22 + 17 * e ∧ rf (21 + 17 * e) 2 = 26 + 17 * e ∧ rf (21 + 17 * e) 3 = 27 + 17 * e ∧ rf (21 + 17 * e) 5 = 28 + 17 * e ∧ rf (21 + 17 * e) 6 = 29 + 17 * e := by rcases (show e = 0 ∨ e = 1 by omega) with rfl | rfl <;> decide +kernel
theorem tg {e : Nat} (h : e < 2) : rf (22 + 17 * e) 0 = 1 + 30 * e ∧ rf (22 + 17 * e) 1 = 23 + 17 * e ∧ rf (22 + 17 * e) 2 = 24 + 17 * e ∧ rf (22 + 17 * e) 3 = 25 + 17 * e := by rcases (show e = 0 ∨ e = 1 by omega) with rfl | rfl <;> decide +kernel
theorem ta {e : Nat} (h : e < 2) : aln (23 + 17 * e) = 128 ∧ aln (24 + 17 * e) = 128 ∧ aln (25 + 17 * e) = 128 ∧ aln (26 + 17 * e) = 72 ∧ aln (27 + 17 * e) = 72 ∧ aln (28 + 17 * e) = 72 ∧ aln (29 + 17 * e) = 72 := by rcases (show e = 0 ∨ e = 1 by omega) with rfl | rfl <;> decide +kernel
theorem ts {e : Nat} (h : e < 2) : isS (1 + 30 * e) := by
  rcases (show e = 0 ∨ e = 1 by omega) with rfl | rfl
  · exact Or.inl rfl
  · exact Or.inr (Or.inl rfl)
def lm (V : SV) (k : Nat) : Nat := if s_pace V (k / 32) (k / 8 % 4) (k % 8) = 0 then 0 else (s_len (k % 8) + s_pace V (k / 32) (k / 8 % 4) (k % 8) - 1) / s_pace V (k / 32) (k / 8 % 4) (k % 8)
def lb (V : SV) (k : Nat) : Nat := if s_by V (k / 32) (k / 8 % 4) (k % 8) = 0 ∨ s_by V (k / 32) (k / 8 % 4) (k % 8) = 4 then 2 else if s_by V (k / 32) (k / 8 % 4) (k % 8) < 4 then 0 else 1
def lc (V : SV) (k : Nat) : Nat := if s_turn (k % 8) (V 0 (4 * (k / 32) + k / 8 % 4)) ≤ 2 then V 5 0 else V 5 1
/-- the legs' rows hold, for what is below n -/
def LegsTo (e : Nat) (μ : Mem) (V : SV) (n : Nat) : Prop := ∀ k, k < n → μ.1 (23 + 17 * e) k = nI (lm V k) ∧ μ.1 (24 + 17 * e) k = nI (lb V k) ∧ μ.1 (25 + 17 * e) k = nI (lc V k)
/-- nothing but chart e has changed -/
def XF (e : Nat) (μ μ2 : Mem) : Prop := μ2.2 = μ.2 ∧ ∀ i, (i < 21 + 17 * e ∨ 29 + 17 * e < i) → μ2.1 i = μ.1 i
theorem XF.rf (e : Nat) (μ : Mem) : XF e μ μ := ⟨rfl, fun _ _ => rfl⟩
theorem XF.tr {e : Nat} {a b c : Mem} (h : XF e a b) (g : XF e b c) : XF e a c := ⟨g.1.trans h.1, fun i hi => (g.2 i hi).trans (h.2 i hi)⟩
theorem XF.s {e i k : Nat} {μ : Mem} {v : Int32} (h1 : 21 + 17 * e ≤ i) (h2 : i ≤ 29 + 17 * e) : XF e μ (sI μ i k v) := ⟨rfl, fun j hj => by rw [sI_1, if_neg (by omega)]⟩
theorem XSea.xf {e : Nat} (he : e < 2) {μ μ2 : Mem} {V : SV} (h : XSea (1 + 30 * e) μ V) (f : XF e μ μ2) : XSea (1 + 30 * e) μ2 V := h.cong (fun j hj => f.2 _ (by omega)) (by rw [f.1]) (fun j _ _ => by rw [f.2 _ (by omega)])
theorem sI_e {μ : Mem} {i k : Nat} {v : Int32} : (sI μ i k v).1 i k = v := by rw [sI_1, if_pos rfl, upd_a, if_pos rfl]
theorem sI_n {μ : Mem} {i k j l : Nat} {v : Int32} (h : j ≠ i ∨ l ≠ k) : (sI μ i k v).1 j l = μ.1 j l := by
  rw [sI_1]
  by_cases c : j = i
  · subst c
    rw [if_pos rfl, upd_a, if_neg (by omega)]
  · rw [if_neg c]
theorem sI_o {μ : Mem} {i k j : Nat} {v : Int32} (h : j ≠ i) : (sI μ i k v).1 j = μ.1 j := by rw [sI_1, if_neg h]
section XL
variable {e : Nat} {μ : Mem} {V : SV}
theorem x_work (hV : SVok V) (he : e < 2) (hM : XSea (1 + 30 * e) μ V) {k : Nat} (hk : k < 128) : f_X4_workOut (22 + 17 * e) (nI k) μ = some (sI (sI (sI μ (23 + 17 * e) k (nI (lm V k))) (24 + 17 * e) k (nI (lb V k))) (25 + 17 * e) k (nI (lc V k))) := by
  have hz : k / 32 < 4 := by omega
  have hs : k / 8 % 4 < 4 := by omega
  have hh : k % 8 < 8 := by omega
  obtain ⟨hv0, hv1⟩ := hV.1 (4 * (k / 32) + k / 8 % 4) (by omega)
  have hl5 := hV.2.2.2.1
  have hpl := s_pace_le hV (h := k % 8) hz hs
  have hb := @s_len_b (k % 8)
  have f1 : XF e μ (sI μ (23 + 17 * e) k (nI (lm V k))) := XF.s (by omega) (by omega)
  have M1 := hM.xf he f1
  have f2 : XF e (sI μ (23 + 17 * e) k (nI (lm V k))) (sI (sI μ (23 + 17 * e) k (nI (lm V k))) (24 + 17 * e) k (nI (lb V k))) := XF.s (by omega) (by omega)
  have M2 := M1.xf he f2
  have tail : ∀ w : Nat, w < 2 → lc V k = V 5 w → f_X4_workOut_b141 (22 + 17 * e) (nI k) (25 + 17 * e) (nI k) (1 + 30 * e) (nI w) (sI (sI μ (23 + 17 * e) k (nI (lm V k))) (24 + 17 * e) k (nI (lb V k))) = some (sI (sI (sI μ (23 + 17 * e) k (nI (lm V k))) (24 + 17 * e) k (nI (lb V k))) (25 + 17 * e) k (nI (lc V k))) := by
    intro w hw hlc
    unfold f_X4_workOut_b141
    rw [bnd_e (x_loss (ts he) M2 hw)]
    simp (disch := omega) only [(ta he).2.2.1, gA_n, nI_clamp, lt_d]
    rw [hlc]
  have mid : ∀ b : Nat, lb V k = b → f_X4_workOut_b116 (22 + 17 * e) (nI k) (nI (k % 8)) (nI (V 0 (4 * (k / 32) + k / 8 % 4))) (24 + 17 * e) (nI k) (nI b) (sI μ (23 + 17 * e) k (nI (lm V k))) = some (sI (sI (sI μ (23 + 17 * e) k (nI (lm V k))) (24 + 17 * e) k (nI (lb V k))) (25 + 17 * e) k (nI (lc V k))) := by
    intro b hlb
    subst hlb
    unfold f_X4_workOut_b116
    have htn := @s_turn_le (k % 8) (V 0 (4 * (k / 32) + k / 8 % 4))
    simp (disch := omega) only [il, (ta he).2.1, gA_n, nI_clamp, lt_d, bnd_e (x_turn hh hv0 _), nI_ltI, (tg he).1, (tg he).2.2.2]
    by_cases c : 2 < s_turn (k % 8) (V 0 (4 * (k / 32) + k / 8 % 4))
    · rw [if_pos c]; exact tail 1 (by decide) (by unfold lc; rw [if_neg (by omega)])
    · rw [if_neg c]; exact tail 0 (by decide) (by unfold lc; rw [if_pos (by omega)])
  have up : ∀ m : Nat, lm V k = m → f_X4_workOut_b72 (22 + 17 * e) (nI k) (nI (k % 8)) (nI (V 0 (4 * (k / 32) + k / 8 % 4))) (23 + 17 * e) (nI k) (nI m) μ = some (sI (sI (sI μ (23 + 17 * e) k (nI (lm V k))) (24 + 17 * e) k (nI (lb V k))) (25 + 17 * e) k (nI (lc V k))) := by
    intro m hlm
    subst hlm
    unfold f_X4_workOut_b72 f_X4_workOut_b101
    have hby : (k % 8 + 8 - V 0 (4 * (k / 32) + k / 8 % 4)) % 8 = s_by V (k / 32) (k / 8 % 4) (k % 8) := rfl
    have hb8 := @s_by_lt V (k / 32) (k / 8 % 4) (k % 8)
    simp (disch := omega) only [il, (ta he).1, gA_n, nI_clamp, lt_d, nI_add, pk_sub, pk_div, pk_mul, n_rem, hby, nI_eq, nI_leI, (tg he).2.2.1]
    by_cases c0 : s_by V (k / 32) (k / 8 % 4) (k % 8) = 0
    · rw [if_pos c0]; exact mid 2 (by unfold lb; rw [if_pos (Or.inl c0)])
    rw [if_neg c0]
    by_cases c4 : s_by V (k / 32) (k / 8 % 4) (k % 8) = 4
    · rw [if_pos c4]; exact mid 2 (by unfold lb; rw [if_pos (Or.inr c4)])
    rw [if_neg c4]
    by_cases c5 : 4 ≤ s_by V (k / 32) (k / 8 % 4) (k % 8)
    · rw [if_pos c5]; exact mid 1 (by unfold lb; rw [if_neg (by omega), if_neg (by omega)])
    · rw [if_neg c5]; exact mid 0 (by unfold lb; rw [if_neg (by omega), if_pos (by omega)])
  unfold f_X4_workOut
  simp (disch := omega) only [il, lt_d, pk_div, pk_mul, pk_sub, n_rem, (tg he).1, (tg he).2.1]
  rw [show k / 8 / 4 = k / 32 by omega]
  rw [bnd_e (x_from (ts he) hM hz hs), bnd_e (x_pace hV (ts he) hM hz hs hh)]
  by_cases c : 1 ≤ s_pace V (k / 32) (k / 8 % 4) (k % 8)
  · rw [if_pos (nI_le c (by omega)), bnd_e (x_len hh μ)]
    have hd : (s_len (k % 8) + s_pace V (k / 32) (k / 8 % 4) (k % 8) - 1) / s_pace V (k / 32) (k / 8 % 4) (k % 8) < 2 ^ 20 := Nat.lt_of_le_of_lt (Nat.div_le_self _ _) (by omega)
    simp (disch := omega) only [nI_add, pk_sub, pk_div, gZ_n]
    exact up _ (by unfold lm; rw [if_neg (by omega)])
  · rw [if_neg (nI_ge (by omega) (by omega))]
    exact up _ (by unfold lm; rw [if_pos (by omega)])
theorem LegsTo.s {i k n : Nat} {v : Int32} (h : LegsTo e μ V n) (hi : i < 23 + 17 * e ∨ 25 + 17 * e < i) : LegsTo e (sI μ i k v) V n := by
  intro j hj
  obtain ⟨a, b, c⟩ := h j hj
  rw [sI_o (by omega), sI_o (by omega), sI_o (by omega)]
  exact ⟨a, b, c⟩
theorem x_fr17 (hV : SVok V) (he : e < 2) : ∀ (n k : Nat) (μ : Mem), k ≤ 128 → 128 - k < n → XSea (1 + 30 * e) μ V → LegsTo e μ V k → ∃ μ2, f_X4_freshen_b17 (22 + 17 * e) n (nI k) μ = some μ2 ∧ XF e μ μ2 ∧ LegsTo e μ2 V 128 ∧ μ2.1 (22 + 17 * e) 4 = μ.1 (1 + 30 * e) 10 ∧ ∀ i, (i < 22 + 17 * e ∨ 25 + 17 * e < i) → μ2.1 i = μ.1 i := by
  intro n
  induction n with
  | zero => intro k μ hk hn; omega
  | succ n ih =>
    intro k μ hk hn hM hL
    rw [f_X4_freshen_b17]
    simp (disch := omega) only [il, nI_leI, lt_d, (tg he).1]
    by_cases c : 128 ≤ k
    · rw [if_pos c]
      have hk2 : k = 128 := by omega
      subst hk2
      refine ⟨_, rfl, XF.s (by omega) (by omega), hL.s (by omega), sI_e, fun i hi => sI_o (by omega)⟩
    · rw [if_neg c, bnv_e (x_work hV he hM (by omega)), nI_add]
      have f1 : XF e μ (sI (sI (sI μ (23 + 17 * e) k (nI (lm V k))) (24 + 17 * e) k (nI (lb V k))) (25 + 17 * e) k (nI (lc V k))) := ((XF.s (by omega) (by omega)).tr (XF.s (by omega) (by omega))).tr (XF.s (by omega) (by omega))
      obtain ⟨μ2, g1, g2, g3, g4, g5⟩ := ih (k + 1) _ (by omega) (by omega) (hM.xf he f1) (fun j hj => by
        by_cases hjk : j = k
        · subst hjk
          refine ⟨?_, ?_, sI_e⟩
          · rw [sI_o (by omega), sI_o (by omega), sI_e]
          · rw [sI_o (by omega), sI_e]
        · obtain ⟨a, b, c⟩ := hL j (by omega)
          refine ⟨?_, ?_, ?_⟩
          · rw [sI_o (by omega), sI_o (by omega), sI_n (Or.inr hjk)]; exact a
          · rw [sI_o (by omega), sI_n (Or.inr hjk), sI_o (by omega)]; exact b
          · rw [sI_n (Or.inr hjk), sI_o (by omega), sI_o (by omega)]; exact c)
      refine ⟨μ2, g1, f1.tr g2, g3, ?_, fun i hi => ?_⟩
      · rw [g4, f1.2 _ (by omega)]
      · rw [g5 i hi, sI_o (by omega), sI_o (by omega), sI_o (by omega)]
/-- Legs.freshen -/
theorem x_lfresh (hV : SVok V) (he : e < 2) (hM : XSea (1 + 30 * e) μ V) (hv : μ.1 (22 + 17 * e) 4 = μ.1 (1 + 30 * e) 10 → LegsTo e μ V 128) : ∃ μ2, f_X4_freshen (22 + 17 * e) μ = some μ2 ∧ XF e μ μ2 ∧ LegsTo e μ2 V 128 ∧ μ2.1 (22 + 17 * e) 4 = μ.1 (1 + 30 * e) 10 ∧ ∀ i, (i < 22 + 17 * e ∨ 25 + 17 * e < i) → μ2.1 i = μ.1 i := by
  unfold f_X4_freshen
  simp only [(tg he).1]
  by_cases c : μ.1 (22 + 17 * e) 4 = μ.1 (1 + 30 * e) 10
  · rw [if_pos c]
    exact ⟨μ, rfl, XF.rf e μ, hv c, c, fun _ _ => rfl⟩
  · rw [if_neg c]
    exact x_fr17 hV he FU 0 μ (by omega) (Nat.le_of_ble_eq_true rfl) hM (fun k hk => by omega)
def kd (q h t : Nat) : Nat := (s_zone q * 4 + s_span t) * 8 + h
theorem kd_lt {q h t : Nat} (hq : q < 36) (hh : h < 8) : kd q h t < 128 ∧ kd q h t / 32 = s_zone q ∧ kd q h t / 8 % 4 = s_span t ∧ kd q h t % 8 = h := by
  have := s_zone_lt hq
  have := @s_span_lt t
  unfold kd
  omega
theorem x_kind {q h t : Nat} (hq : q < 36) (hh : h < 8) (ht : t < 2 ^ 31) (μ : Mem) : f_X4_kindOf (nI q) (nI h) (nI t) μ = some (nI (kd q h t), μ) := by
  have := s_zone_lt hq
  have := @s_span_lt t
  unfold f_X4_kindOf kd
  rw [bnd_e (x_zone hq μ), bnd_e (x_span ht μ)]
  simp only [il, lt_d, pk_mul, nI_add]
theorem x_dep {t j : Nat} (ht : t < 2 ^ 29) (hj : j < 4) (μ : Mem) : f_X4_departure (nI t) (nI j) μ = some (nI (s_dep t j), μ) := by
  unfold f_X4_departure s_dep
  simp (disch := omega) only [il, nI_add, pk_mul, pk_sub, pk_div, pk_rem, nI_clamp, n_rem, nI_leI, nI_ltI, nI_eq]
  by_cases c : j = 0
  · rw [if_pos c, if_pos c]
  · rw [if_neg c, if_neg c, Nat.mul_comm]
theorem x_side (he : e < 2) (hL : LegsTo e μ V 128) {q h t sd : Nat} (hq : q < 36) (hh : h < 8) : f_X4_sideThen (22 + 17 * e) (nI (kd q h t)) (nI sd) μ = some (nI (s_sd V (s_zone q) (s_span t) h sd), μ) := by
  obtain ⟨k1, k2, k3, k4⟩ := @kd_lt q h t hq hh
  obtain ⟨-, l2, -⟩ := hL _ k1
  have hb := @s_by_lt V (s_zone q) (s_span t) h
  unfold f_X4_sideThen
  have hlb : lb V (kd q h t) ≤ 2 := by unfold lb; repeat' split
                                       all_goals omega
  simp (disch := omega) only [il, (tg he).2.2.1, (ta he).2.1, gA_n, nI_clamp, l2, nI_eq]
  unfold lb s_sd at *
  rw [k2, k3, k4] at *
  by_cases c : s_by V (s_zone q) (s_span t) h = 0 ∨ s_by V (s_zone q) (s_span t) h = 4
  · rw [if_pos c, if_pos rfl, if_neg (by omega), if_neg (by omega)]
  · rw [if_neg c]
    by_cases c2 : s_by V (s_zone q) (s_span t) h < 4
    · rw [if_pos c2, if_neg (by decide), if_pos (by omega)]
    · rw [if_neg c2, if_neg (by decide), if_neg (by omega), if_pos (by omega)]
theorem x_arr (hV : SVok V) (he : e < 2) (hL : LegsTo e μ V 128) {q h t sd : Nat} (hq : q < 36) (hh : h < 8) (hs : sd < 2) (ht : t < 2 ^ 29) : f_X4_arrival (22 + 17 * e) (nI (kd q h t)) (nI sd) (nI t) μ = some (nI (if s_pace V (s_zone q) (s_span t) h = 0 then NV else s_arr V q sd h t), μ) := by
  obtain ⟨k1, k2, k3, k4⟩ := @kd_lt q h t hq hh
  obtain ⟨l1, l2, l3⟩ := hL _ k1
  have hb := @s_by_lt V (s_zone q) (s_span t) h
  have hpl := s_pace_le hV (h := h) (s_zone_lt hq) (@s_span_lt t)
  have hln := @s_len_b h
  have hl5 := hV.2.2.2.1
  unfold f_X4_arrival f_X4_arrival_b34
  by_cases c0 : s_pace V (s_zone q) (s_span t) h = 0
  · have em : lm V (kd q h t) = 0 := by unfold lm; rw [k2, k3, k4, if_pos c0]
    simp (disch := omega) only [il, (tg he).2.1, (ta he).1, gA_n, nI_clamp, l1, em]
    simp only [if_true]
    rw [if_pos c0]
    rfl
  · have em : lm V (kd q h t) = (s_len h + s_pace V (s_zone q) (s_span t) h - 1) / s_pace V (s_zone q) (s_span t) h := by unfold lm; rw [k2, k3, k4, if_neg c0]
    have hd1 : (s_len h + s_pace V (s_zone q) (s_span t) h - 1) / s_pace V (s_zone q) (s_span t) h < 2 ^ 20 := Nat.lt_of_le_of_lt (Nat.div_le_self _ _) (by omega)
    have hd2 : 1 ≤ (s_len h + s_pace V (s_zone q) (s_span t) h - 1) / s_pace V (s_zone q) (s_span t) h := (Nat.le_div_iff_mul_le (by omega)).mpr (by omega)
    have hlb : lb V (kd q h t) ≤ 2 := by unfold lb; repeat' split
                                         all_goals omega
    simp (disch := omega) only [il, (tg he).2.1, (tg he).2.2.1, (tg he).2.2.2, (ta he).1, (ta he).2.1, (ta he).2.2.1, gA_n, nI_clamp, l1, l2, l3, em, pk_sub, nI_eq, nI_add]
    rw [if_neg (show ¬ (s_len h + s_pace V (s_zone q) (s_span t) h - 1) / s_pace V (s_zone q) (s_span t) h = 0 by omega), if_neg c0]
    unfold s_arr s_cost s_sd
    unfold lb lc at *
    rw [k2, k3, k4] at *
    by_cases c : s_by V (s_zone q) (s_span t) h = 0 ∨ s_by V (s_zone q) (s_span t) h = 4
    · rw [if_pos c, if_neg (by omega), if_neg (show ¬ (1 ≤ s_by V (s_zone q) (s_span t) h ∧ s_by V (s_zone q) (s_span t) h ≤ 3) by omega), if_neg (show ¬ 5 ≤ s_by V (s_zone q) (s_span t) h by omega), if_pos rfl]
    · rw [if_neg c]
      by_cases c2 : s_by V (s_zone q) (s_span t) h < 4
      · rw [if_pos c2, if_pos (show 1 ≤ s_by V (s_zone q) (s_span t) h ∧ s_by V (s_zone q) (s_span t) h ≤ 3 by omega)]
        rcases (show sd = 0 ∨ sd = 1 by omega) with rfl | rfl
        · rw [if_neg (show ¬ 0 = 1 - 0 by decide), if_pos (show 0 = 0 from rfl)]
        · rw [if_pos (show 0 = 1 - 1 from rfl), if_neg (show ¬ 0 = 1 by decide)]
      · rw [if_neg c2, if_neg (show ¬ (1 ≤ s_by V (s_zone q) (s_span t) h ∧ s_by V (s_zone q) (s_span t) h ≤ 3) by omega), if_pos (show 5 ≤ s_by V (s_zone q) (s_span t) h by omega)]
        rcases (show sd = 0 ∨ sd = 1 by omega) with rfl | rfl
        · rw [if_pos (show 1 = 1 - 0 from rfl), if_neg (show ¬ 1 = 0 by decide)]
        · rw [if_neg (show ¬ 1 = 1 - 1 by decide), if_pos (show 1 = 1 from rfl)]
theorem x_bes : ∀ q, q < 36 → ∀ h, h < 8 → ((nI q / nI 6 + k_south h < nI 0) ∨ (nI 5 < nI q / nI 6 + k_south h) ∨ ((nI q - nI q / nI 6 * nI 6) + k_east h < nI 0) ∨ ¬ ((nI q - nI q / nI 6 * nI 6) + k_east h ≤ nI 5) ↔ s_bes q h = 36) ∧ (s_bes q h < 36 → nI 6 * (nI q / nI 6 + k_south h) + ((nI q - nI q / nI 6 * nI 6) + k_east h) = nI (s_bes q h)) := by decide +kernel
theorem x_beside {q h : Nat} (hq : q < 36) (hh : h < 8) (μ : Mem) : f_X2_squareBeside (nI q) (nI h) μ = some (if s_bes q h = 36 then -nI 1 else nI (s_bes q h), μ) := by
  obtain ⟨e1, e2⟩ := x_bes q hq h hh
  have hb := s_bes_lt (h := h) hq
  unfold f_X2_squareBeside
  simp only [il]
  rw [if_neg (nI_lt0 (by omega)), if_neg (nI_ge (by omega) (by omega)), if_pos (nI_lt (by omega) (by omega))]
  simp (disch := omega) only [gA_n, nI_clamp, lt_d]
  by_cases c1 : nI q / nI 6 + k_south h < nI 0
  · rw [if_pos c1, if_pos (e1.mp (Or.inl c1))]
  rw [if_neg c1]
  by_cases c2 : nI 5 < nI q / nI 6 + k_south h
  · rw [if_pos c2, if_pos (e1.mp (Or.inr (Or.inl c2)))]
  rw [if_neg c2]
  by_cases c3 : (nI q - nI q / nI 6 * nI 6) + k_east h < nI 0
  · rw [if_pos c3, if_pos (e1.mp (Or.inr (Or.inr (Or.inl c3))))]
  rw [if_neg c3]
  by_cases c4 : (nI q - nI q / nI 6 * nI 6) + k_east h ≤ nI 5
  · have c5 : ¬ s_bes q h = 36 := fun z => by
      rcases e1.mpr z with y | y | y | y
      · exact c1 y
      · exact c2 y
      · exact c3 y
      · exact y c4
    rw [if_pos c4, if_neg c5, e2 (by omega)]
  · rw [if_neg c4, if_pos (e1.mp (Or.inr (Or.inr (Or.inr c4))))]
theorem x_target (hV : SVok V) (he : e < 2) (hM : XSea (1 + 30 * e) μ V) {q h : Nat} (hq : q < 36) (hh : h < 8) : f_X4_targetOf (22 + 17 * e) (nI q) (nI h) μ = some (if s_to V q h = 36 then -nI 1 else nI (s_to V q h), μ) := by
  have hb := s_bes_lt (h := h) hq
  unfold f_X4_targetOf s_to
  rw [bnd_e (x_beside hq hh μ)]
  simp only [il]
  by_cases c : s_bes q h = 36
  · rw [if_pos c, if_pos c, if_pos rfl]; simp only [if_true]
  · have hn : ¬ nI (s_bes q h) = -nI 1 := fun z => absurd z ((show ∀ n, n < 36 → ¬ nI n = -nI 1 by decide +kernel) _ (by omega))
    rw [if_neg c, if_neg c, if_neg hn, (tg he).1, bnd_e (x_land hV hM (by omega))]
    have hv := hV.2.2.2.2.1 (s_bes q h) (by omega)
    by_cases c2 : V 6 (s_bes q h) = 1
    · rw [if_neg (nI_ne (by omega) (by omega) (by omega)), if_pos c2]; simp only [if_true]
    · rw [if_pos (by rw [show V 6 (s_bes q h) = 0 by omega]), if_neg c2]; simp only [c, if_false]
end XL
