/-! what a sea is, as numbers: V 0 from (16), 1 force (16), 2 to (4), 3 rate (4), 4 table (20, by 5 times the force and the angle), 5 losses (2), 6 land (36), 7 start (square, side, minute) -/
abbrev SV : Type := Nat → Nat → Nat
def SVok (V : SV) : Prop := (∀ k, k < 16 → V 0 k < 8 ∧ V 1 k < 4) ∧ (∀ k, k < 4 → V 2 k < 8 ∧ V 3 k < 4) ∧ (∀ k, k < 20 → V 4 k < 10) ∧ (V 5 0 ≤ 60 ∧ V 5 1 ≤ 60) ∧ (∀ k, k < 36 → V 6 k < 2) ∧ V 7 0 < 36 ∧ V 7 1 < 2 ∧ V 7 2 ≤ 9999 ∧ V 6 (V 7 0) = 0
def s_turn (a b : Nat) : Nat := if (a + 8 - b) % 8 ≤ 4 then (a + 8 - b) % 8 else 8 - (a + 8 - b) % 8
def s_zone (q : Nat) : Nat := 2 * (q / 18) + q % 6 / 3
def s_span (t : Nat) : Nat := t / 360 % 4
def s_len (h : Nat) : Nat := if h % 2 = 0 then 600 else 850
def s_dep (t k : Nat) : Nat := if k = 0 then t else 360 * (t / 360 + k)
def s_drift (r tn sp : Nat) : Nat := if tn = 0 then sp + r else if tn = 1 then sp + r / 2 else if tn = 3 then sp - r / 2 else if tn = 4 then sp - r else sp
def s_pace (V : SV) (z s h : Nat) : Nat := s_drift (V 3 z) (s_turn h (V 2 z)) (if V 1 (4 * z + s) = 0 then 0 else V 4 (5 * V 1 (4 * z + s) + s_turn h (V 0 (4 * z + s))))
def s_dn (h : Nat) : Nat := [0, 0, 1, 2, 2, 2, 1, 0].getD h 1
def s_ri (h : Nat) : Nat := [1, 2, 2, 2, 1, 0, 0, 0].getD h 1
/-- the square beside, 36: none -/
def s_bes (q h : Nat) : Nat := if (1 ≤ q / 6 + s_dn h ∧ q / 6 + s_dn h ≤ 6) ∧ (1 ≤ q % 6 + s_ri h ∧ q % 6 + s_ri h ≤ 6) then 6 * (q / 6 + s_dn h - 1) + (q % 6 + s_ri h - 1) else 36
/-- where a leg ends, 36: nowhere -/
def s_to (V : SV) (q h : Nat) : Nat := if s_bes q h = 36 then 36 else if V 6 (s_bes q h) = 1 then 36 else s_bes q h
def s_by (V : SV) (z s h : Nat) : Nat := (h + 8 - V 0 (4 * z + s)) % 8
/-- the side then; what turning costs -/
def s_sd (V : SV) (z s h sd : Nat) : Nat := if 1 ≤ s_by V z s h ∧ s_by V z s h ≤ 3 then 0 else if 5 ≤ s_by V z s h then 1 else sd
def s_cost (V : SV) (z s h sd : Nat) : Nat := if s_sd V z s h sd = sd then 0 else if s_turn h (V 0 (4 * z + s)) ≤ 2 then V 5 0 else V 5 1
/-- there is a leg; when it arrives; its state then -/
def s_leg (V : SV) (q h t : Nat) : Prop := s_to V q h < 36 ∧ 0 < s_pace V (s_zone q) (s_span t) h
def s_arr (V : SV) (q sd h t : Nat) : Nat := t + (s_len h + s_pace V (s_zone q) (s_span t) h - 1) / s_pace V (s_zone q) (s_span t) h + s_cost V (s_zone q) (s_span t) h sd
def s_st (V : SV) (q sd h t : Nat) : Nat := 2 * s_to V q h + s_sd V (s_zone q) (s_span t) h sd
def NV : Nat := 1000000000
/-- v is LEAST by states (2 times the square, and the side); NV: none -/
def IsL (V : SV) (v : Nat → Nat) : Prop :=
  v (2 * V 7 0 + V 7 1) = V 7 2 ∧ (∀ k, k < 72 → v k ≤ 160000 ∨ v k = NV) ∧
  (∀ k, k < 72 → v k < NV → ∀ h, h < 8 → ∀ j, j < 4 → s_leg V (k / 2) h (s_dep (v k) j) → v (s_st V (k / 2) (k % 2) h (s_dep (v k) j)) ≤ s_arr V (k / 2) (k % 2) h (s_dep (v k) j)) ∧
  (∀ k, k < 72 → k ≠ 2 * V 7 0 + V 7 1 → v k < NV → ∃ i, i < 72 ∧ v i < NV ∧ ∃ h, h < 8 ∧ ∃ j, j < 4 ∧ s_leg V (i / 2) h (s_dep (v i) j) ∧ s_st V (i / 2) (i % 2) h (s_dep (v i) j) = k ∧ s_arr V (i / 2) (i % 2) h (s_dep (v i) j) = v k)
theorem s_turn_le {a b : Nat} : s_turn a b ≤ 4 := by unfold s_turn; split <;> omega
theorem s_zone_lt {q : Nat} (h : q < 36) : s_zone q < 4 := by unfold s_zone; omega
theorem s_span_lt {t : Nat} : s_span t < 4 := by unfold s_span; omega
theorem s_dep_le {t j : Nat} : t ≤ s_dep t j := by unfold s_dep; split <;> omega
theorem s_dep_ub {t j : Nat} (h : j < 4) : s_dep t j ≤ t + 1080 := by unfold s_dep; split <;> omega
theorem s_len_b {h : Nat} : 600 ≤ s_len h ∧ s_len h ≤ 850 := by unfold s_len; split <;> omega
theorem s_drift_le {r tn sp : Nat} : s_drift r tn sp ≤ sp + r := by
  unfold s_drift
  repeat' split
  all_goals omega
theorem s_pace_le {V : SV} (hV : SVok V) {z s h : Nat} (hz : z < 4) (hs : s < 4) : s_pace V z s h ≤ 12 := by
  unfold s_pace
  have h1 := (hV.2.1 z hz).2
  have h2 := (hV.1 (4 * z + s) (by omega)).2
  have h3 : (if V 1 (4 * z + s) = 0 then 0 else V 4 (5 * V 1 (4 * z + s) + s_turn h (V 0 (4 * z + s)))) ≤ 9 := by
    split
    · omega
    · have := @s_turn_le h (V 0 (4 * z + s))
      have := hV.2.2.1 (5 * V 1 (4 * z + s) + s_turn h (V 0 (4 * z + s))) (by omega)
      omega
  exact Nat.le_trans s_drift_le (by omega)
theorem s_sd_lt {V : SV} {z s h sd : Nat} (hs : sd < 2) : s_sd V z s h sd < 2 := by
  unfold s_sd
  repeat' split
  all_goals omega
theorem s_cost_le {V : SV} (hV : SVok V) {z s h sd : Nat} : s_cost V z s h sd ≤ 60 := by
  have h1 := hV.2.2.2.1
  unfold s_cost
  split
  · omega
  · split <;> omega
theorem s_bes_lt {q h : Nat} (hq : q < 36) : s_bes q h ≤ 36 := by unfold s_bes; split <;> omega
theorem s_arr_gt {V : SV} (hV : SVok V) {q sd h t : Nat} (hq : q < 36) (hl : s_leg V q h t) : t < s_arr V q sd h t := by
  have hp := s_pace_le hV (h := h) (s_zone_lt hq) (@s_span_lt t)
  have hb := @s_len_b h
  unfold s_arr
  have h1 : 1 ≤ (s_len h + s_pace V (s_zone q) (s_span t) h - 1) / s_pace V (s_zone q) (s_span t) h := (Nat.le_div_iff_mul_le hl.2).mpr (by omega)
  omega
theorem s_arr_le {V : SV} (hV : SVok V) {q sd h t : Nat} (hl : s_leg V q h t) : s_arr V q sd h t ≤ t + 910 := by
  have hb := @s_len_b h
  have hc := @s_cost_le V hV (s_zone q) (s_span t) h sd
  have hp := hl.2
  unfold s_arr
  have h1 : (s_len h + s_pace V (s_zone q) (s_span t) h - 1) / s_pace V (s_zone q) (s_span t) h ≤ 850 := by
    apply Nat.le_of_lt_succ
    apply (Nat.div_lt_iff_lt_mul hp).mpr
    have : s_len h + s_pace V (s_zone q) (s_span t) h - 1 < s_len h + s_pace V (s_zone q) (s_span t) h := by omega
    have h2 : s_len h + s_pace V (s_zone q) (s_span t) h ≤ 851 * s_pace V (s_zone q) (s_span t) h := by
      have : 850 * 1 ≤ 850 * s_pace V (s_zone q) (s_span t) h := Nat.mul_le_mul_left 850 hp
      omega
    have h3 : (850 + 1) * s_pace V (s_zone q) (s_span t) h = 851 * s_pace V (s_zone q) (s_span t) h := rfl
    omega
  omega
/-- an earlier one departs by each span as early -/
theorem s_fifo {V : SV} {q sd h t t2 j : Nat} (hj : j < 4) (ht : t2 ≤ t) (hl : s_leg V q h (s_dep t j)) : ∃ i, i < 4 ∧ s_leg V q h (s_dep t2 i) ∧ s_st V q sd h (s_dep t2 i) = s_st V q sd h (s_dep t j) ∧ s_arr V q sd h (s_dep t2 i) ≤ s_arr V q sd h (s_dep t j) := by
  have key : ∃ i, i < 4 ∧ s_span (s_dep t2 i) = s_span (s_dep t j) ∧ s_dep t2 i ≤ s_dep t j := by
    have hc : ∀ i : Nat, i < 4 → s_span (s_dep t2 i) = (t2 / 360 + i) % 4 := by
      intro i hi
      unfold s_span s_dep
      split
      · subst i; rfl
      · rw [Nat.mul_div_cancel_left _ (by omega)]
    have hcj : s_span (s_dep t j) = (t / 360 + j) % 4 := by
      unfold s_span s_dep
      split
      · subst j; rfl
      · rw [Nat.mul_div_cancel_left _ (by omega)]
    have hd : t2 / 360 ≤ t / 360 := Nat.div_le_div_right ht
    refine ⟨(t / 360 + j - t2 / 360) % 4, by omega, ?_, ?_⟩
    · rw [hc _ (by omega), hcj]; omega
    · unfold s_dep
      split
      · split <;> omega
      · split <;> omega
  obtain ⟨i, hi, h1, h2⟩ := key
  refine ⟨i, hi, ⟨hl.1, by rw [h1]; exact hl.2⟩, by unfold s_st; rw [h1], ?_⟩
  unfold s_arr
  rw [h1]
  omega
theorem s_st_lt {V : SV} {q sd h t : Nat} (hs : sd < 2) (hl : s_leg V q h t) : s_st V q sd h t < 72 := by
  have := @s_sd_lt V (s_zone q) (s_span t) h sd hs
  have := hl.1
  unfold s_st
  omega
theorem IsL_one {V : SV} (hV : SVok V) {v w : Nat → Nat} (hv : IsL V v) (hw : IsL V w) : ∀ k, k < 72 → v k = w k := by
  have half : ∀ {v w : Nat → Nat}, IsL V v → IsL V w → ∀ m k, k < 72 → v k = m → v k < NV → w k ≤ v k := by
    intro v w hv hw m
    induction m using Nat.strongRecOn with
    | ind m ih =>
      intro k hk hm hkv
      by_cases h0 : k = 2 * V 7 0 + V 7 1
      · subst h0; rw [hv.1, hw.1]; exact Nat.le_refl _
      · obtain ⟨i, hi, hiv, h, hh, j, hj, hl, hst, har⟩ := hv.2.2.2 k hk h0 hkv
        have hgt := s_arr_gt hV (sd := i % 2) (by omega : i / 2 < 36) hl
        have hle := @s_dep_le (v i) j
        have hlt : v i < m := by omega
        have hwi := ih (v i) hlt i hi rfl hiv
        obtain ⟨i2, hi2, g1, g2, g3⟩ := s_fifo (sd := i % 2) (t2 := w i) hj hwi hl
        have := hw.2.2.1 i hi (by omega) h hh i2 hi2 g1
        rw [g2, hst] at this
        omega
  intro k hk
  have a := hv.2.1 k hk
  have b := hw.2.1 k hk
  have c := half hv hw (v k) k hk rfl
  have d := half hw hv (w k) k hk rfl
  have : NV = 1000000000 := rfl
  omega
