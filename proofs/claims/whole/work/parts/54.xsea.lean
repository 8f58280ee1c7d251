/-! the class: the sea, read -/
def isS (o : Nat) : Prop := o = 1 ∨ o = 31 ∨ o = 65
theorem xs_rf {o : Nat} (h : isS o) : rf o 0 = o + 1 ∧ rf o 1 = o + 2 ∧ rf o 2 = o + 3 ∧ rf o 3 = o + 4 ∧ rf o 4 = o + 5 ∧ rf o 5 = o + 6 := by rcases h with rfl | rfl | rfl <;> decide +kernel
theorem xs_al {o : Nat} (h : isS o) : aln (o + 1) = 16 ∧ aln (o + 2) = 16 ∧ aln (o + 3) = 4 ∧ aln (o + 4) = 4 ∧ aln (o + 5) = 15 ∧ aln (o + 6) = 2 := by rcases h with rfl | rfl | rfl <;> decide +kernel
/-- the bits of LAND -/
def LB (B : Nat) (V : SV) : Prop := B < 2 ^ 36 ∧ ∀ q, q < 36 → B / 2 ^ q % 2 = V 6 q
def XSea (o : Nat) (μ : Mem) (V : SV) : Prop := (∀ k, k < 16 → μ.1 (o + 1) k = nI (V 0 k)) ∧ (∀ k, k < 16 → μ.1 (o + 2) k = nI (V 1 k)) ∧ (∀ k, k < 4 → μ.1 (o + 3) k = nI (V 2 k)) ∧ (∀ k, k < 4 → μ.1 (o + 4) k = nI (V 3 k)) ∧ (∀ k, k < 15 → μ.1 (o + 5) k = nI (V 4 (k + 5))) ∧ (μ.1 (o + 6) 0 = nI (V 5 0) ∧ μ.1 (o + 6) 1 = nI (V 5 1)) ∧ (∃ B, μ.2 o 6 = lN B ∧ LB B V) ∧ μ.1 o 7 = nI (V 7 0) ∧ μ.1 o 8 = nI (V 7 1) ∧ μ.1 o 9 = nI (V 7 2)
theorem XSea.cong {o : Nat} {μ μ2 : Mem} {V : SV} (h : XSea o μ V) (e1 : ∀ j, j < 6 → μ2.1 (o + 1 + j) = μ.1 (o + 1 + j)) (e2 : μ2.2 o = μ.2 o) (e3 : ∀ j, 7 ≤ j → j < 10 → μ2.1 o j = μ.1 o j) : XSea o μ2 V := by
  obtain ⟨h1, h2, h3, h4, h5, h6, h7, h8, h9, h10⟩ := h
  refine ⟨fun k hk => ?_, fun k hk => ?_, fun k hk => ?_, fun k hk => ?_, fun k hk => ?_, ?_, ?_, ?_, ?_, ?_⟩
  · rw [e1 0 (by decide)]; exact h1 k hk
  · rw [show o + 2 = o + 1 + 1 from rfl, e1 1 (by decide)]; exact h2 k hk
  · rw [show o + 3 = o + 1 + 2 from rfl, e1 2 (by decide)]; exact h3 k hk
  · rw [show o + 4 = o + 1 + 3 from rfl, e1 3 (by decide)]; exact h4 k hk
  · rw [show o + 5 = o + 1 + 4 from rfl, e1 4 (by decide)]; exact h5 k hk
  · rw [show o + 6 = o + 1 + 5 from rfl, e1 5 (by decide)]; exact h6
  · rw [e2]; exact h7
  · rw [e3 7 (by decide) (by decide)]; exact h8
  · rw [e3 8 (by decide) (by decide)]; exact h9
  · rw [e3 9 (by decide) (by decide)]; exact h10
theorem x_turn {a b : Nat} (ha : a < 8) (hb : b < 8) (μ : Mem) : f_X2_turnBetween (nI a) (nI b) μ = some (nI (s_turn a b), μ) := by
  have e : ∀ c : Nat, c = s_turn a b → (some (nI c, μ) : Option (Int32 × Mem)) = some (nI (s_turn a b), μ) := fun c h => by rw [h]
  unfold f_X2_turnBetween f_X2_turnBetween_b14
  simp (disch := omega) only [il, nI_leI]
  by_cases c : b ≤ a
  · rw [if_pos c]
    simp (disch := omega) only [pk_sub, nI_leI]
    by_cases c2 : a - b ≤ 4
    · rw [if_pos c2]; exact e _ (by unfold s_turn; split <;> omega)
    · rw [if_neg c2]; exact e _ (by unfold s_turn; split <;> omega)
  · rw [if_neg c]
    simp (disch := omega) only [pk_sub, nI_leI]
    by_cases c2 : b - a ≤ 4
    · rw [if_pos c2]; exact e _ (by unfold s_turn; split <;> omega)
    · rw [if_neg c2]; exact e _ (by unfold s_turn; split <;> omega)
theorem x_zone {q : Nat} (h : q < 36) (μ : Mem) : f_X2_zoneOf (nI q) μ = some (nI (s_zone q), μ) := congrArg (fun z => some (z, μ)) ((show ∀ q, q < 36 → ((nI 2 * ((nI q / nI 6) / nI 3)) + ((nI q - nI q / nI 6 * nI 6) / nI 3)) = nI (s_zone q) by decide +kernel) q h)
theorem x_span {t : Nat} (h : t < 2 ^ 31) (μ : Mem) : f_X2_spanOf (nI t) μ = some (nI (s_span t), μ) := by
  unfold f_X2_spanOf s_span
  simp (disch := omega) only [il, nI_add, pk_mul, pk_sub, pk_div, pk_rem, nI_clamp, n_rem, nI_leI, nI_ltI, nI_eq]
theorem x_len {h : Nat} (hh : h < 8) (μ : Mem) : f_X2_lengthOf (nI h) μ = some (nI (s_len h), μ) := by
  unfold f_X2_lengthOf s_len
  simp (disch := omega) only [il, nI_add, pk_mul, pk_sub, pk_div, pk_rem, nI_clamp, n_rem, nI_leI, nI_ltI, nI_eq]
  by_cases hc : h % 2 = 0
  · rw [if_pos hc, if_neg (by omega)]
  · rw [if_neg hc, if_pos (by omega)]
section XS
variable {o : Nat} {μ : Mem} {V : SV}
theorem x_from (ho : isS o) (hM : XSea o μ V) {z s : Nat} (hz : z < 4) (hs : s < 4) : f_X6_fromIn o (nI z) (nI s) μ = some (nI (V 0 (4 * z + s)), μ) := by
  unfold f_X6_fromIn
  simp (disch := omega) only [il, pk_mul, nI_add, (xs_rf ho).1, (xs_al ho).1, gA_n, nI_clamp]
  rw [hM.1 _ (by omega), Nat.mul_comm]
theorem x_force (ho : isS o) (hM : XSea o μ V) {z s : Nat} (hz : z < 4) (hs : s < 4) : f_X6_forceIn o (nI z) (nI s) μ = some (nI (V 1 (4 * z + s)), μ) := by
  unfold f_X6_forceIn
  simp (disch := omega) only [il, pk_mul, nI_add, (xs_rf ho).2.1, (xs_al ho).2.1, gA_n, nI_clamp]
  rw [hM.2.1 _ (by omega), Nat.mul_comm]
theorem x_to (ho : isS o) (hM : XSea o μ V) {z : Nat} (hz : z < 4) : f_X6_toIn o (nI z) μ = some (nI (V 2 z), μ) := by
  unfold f_X6_toIn
  simp (disch := omega) only [(xs_rf ho).2.2.1, (xs_al ho).2.2.1, gA_n, nI_clamp]
  rw [hM.2.2.1 _ hz]
theorem x_rate (ho : isS o) (hM : XSea o μ V) {z : Nat} (hz : z < 4) : f_X6_rateIn o (nI z) μ = some (nI (V 3 z), μ) := by
  unfold f_X6_rateIn
  simp (disch := omega) only [(xs_rf ho).2.2.2.1, (xs_al ho).2.2.2.1, gA_n, nI_clamp]
  rw [hM.2.2.2.1 _ hz]
theorem x_speed (ho : isS o) (hM : XSea o μ V) {f a : Nat} (hf : f < 4) (ha : a ≤ 4) : f_X6_speedBy o (nI f) (nI a) μ = some (nI (if f = 0 then 0 else V 4 (5 * f + a)), μ) := by
  unfold f_X6_speedBy
  simp (disch := omega) only [il, nI_eq]
  by_cases c : f = 0
  · rw [if_pos c, if_pos c]
  · rw [if_neg c, if_neg c]
    simp (disch := omega) only [pk_sub, pk_mul, nI_add, (xs_rf ho).2.2.2.2.1, (xs_al ho).2.2.2.2.1, gA_n, nI_clamp]
    rw [hM.2.2.2.2.1 _ (by omega), show (f - 1) * 5 + a + 5 = 5 * f + a by omega]
theorem x_loss (ho : isS o) (hM : XSea o μ V) {w : Nat} (hw : w < 2) : f_X6_lossBy o (nI w) μ = some (nI (V 5 w), μ) := by
  unfold f_X6_lossBy
  simp (disch := omega) only [(xs_rf ho).2.2.2.2.2, (xs_al ho).2.2.2.2.2, gA_n, nI_clamp]
  rcases (show w = 0 ∨ w = 1 by omega) with rfl | rfl
  · rw [hM.2.2.2.2.2.1.1]
  · rw [hM.2.2.2.2.2.1.2]
theorem x_drift {r tn : Nat} (hr : r < 4) (ht : tn ≤ 4) (μ : Mem) : ∃ d : Int32, f_X6_driftBy (nI r) (nI tn) μ = some (d, μ) ∧ ∀ p, p < 10 → mimax (nI p + d) (nI 0) = nI (s_drift r tn p) := by
  have key : ∀ r, r < 4 → ∀ p, p < 10 → mimax (nI p + nI r) (nI 0) = nI (p + r) ∧ mimax (nI p + nI r / nI 2) (nI 0) = nI (p + r / 2) ∧ mimax (nI p + nI 0) (nI 0) = nI p ∧ mimax (nI p + -(nI r / nI 2)) (nI 0) = nI (p - r / 2) ∧ mimax (nI p + -nI r) (nI 0) = nI (p - r) := by decide +kernel
  unfold f_X6_driftBy
  simp (disch := omega) only [il, nI_eq]
  rcases (show tn = 0 ∨ tn = 1 ∨ tn = 2 ∨ tn = 3 ∨ tn = 4 by omega) with rfl | rfl | rfl | rfl | rfl
  · exact ⟨_, if_pos rfl, fun p hp => (key r hr p hp).1⟩
  · exact ⟨_, by rw [if_neg (by decide), if_pos rfl], fun p hp => (key r hr p hp).2.1⟩
  · exact ⟨_, by rw [if_neg (by decide), if_neg (by decide), if_pos rfl], fun p hp => (key r hr p hp).2.2.1⟩
  · exact ⟨_, by rw [if_neg (by decide), if_neg (by decide), if_neg (by decide), if_pos rfl], fun p hp => (key r hr p hp).2.2.2.1⟩
  · exact ⟨_, by rw [if_neg (by decide), if_neg (by decide), if_neg (by decide), if_neg (by decide), if_pos rfl], fun p hp => (key r hr p hp).2.2.2.2⟩
theorem x_pace (hV : SVok V) (ho : isS o) (hM : XSea o μ V) {z s h : Nat} (hz : z < 4) (hs : s < 4) (hh : h < 8) : f_X6_paceBy o (nI z) (nI s) (nI h) μ = some (nI (s_pace V z s h), μ) := by
  obtain ⟨hv0, hv1⟩ := hV.1 (4 * z + s) (by omega)
  obtain ⟨hv2, hv3⟩ := hV.2.1 z hz
  obtain ⟨d, e1, e2⟩ := x_drift hv3 (@s_turn_le h (V 2 z)) μ
  have hsp : (if V 1 (4 * z + s) = 0 then 0 else V 4 (5 * V 1 (4 * z + s) + s_turn h (V 0 (4 * z + s)))) < 10 := by
    split
    · omega
    · have := @s_turn_le h (V 0 (4 * z + s))
      exact hV.2.2.1 _ (by omega)
  unfold f_X6_paceBy s_pace
  rw [bnd_e (x_from ho hM hz hs), bnd_e (x_turn hh hv0 μ), bnd_e (x_rate ho hM hz), bnd_e (x_to ho hM hz), bnd_e (x_turn hh hv2 μ), bnd_e e1, bnd_e (x_force ho hM hz hs), bnd_e (x_speed ho hM hv1 s_turn_le)]
  exact congrArg (fun z => some (z, μ)) (e2 _ hsp)
theorem lgc {x y : Int64} : (lg_cmp x y = 0) ↔ x = y := by
  unfold lg_cmp
  split
  · rename_i h; exact ⟨fun z => absurd z (by decide), fun z => by subst z; exact absurd h (by simp)⟩
  · split
    · rename_i h1 h2; exact ⟨fun _ => h2, fun _ => rfl⟩
    · rename_i h1 h2; exact ⟨fun z => absurd z (by decide), fun z => absurd z h2⟩
theorem x_land (hV : SVok V) (hM : XSea o μ V) {q : Nat} (hq : q < 36) : f_X6_isLand o (nI q) μ = some (nI (V 6 q), μ) := by
  obtain ⟨B, hB, hB2, hB3⟩ := hM.2.2.2.2.2.2.1
  have hv := hV.2.2.2.2.1 q hq
  unfold f_X6_isLand
  have e : (((μ.2 o 6).toUInt64 >>> ((nI q).toInt64.toUInt64 &&& Int64.toUInt64 63)).toInt64 &&& (1 : Int64)) = lN (V 6 q) := by
    rw [hB, wb_bit (by omega) (by omega), hB3 q hq]
  rw [e]
  rcases (show V 6 q = 0 ∨ V 6 q = 1 by omega) with z | z <;> rw [z]
  · rw [if_pos (lgc.mpr (show lN 0 = 0 from rfl))]; rfl
  · rw [if_neg (fun y => absurd (show lN 1 = 0 from lgc.mp y) (by decide))]; rfl
end XS
