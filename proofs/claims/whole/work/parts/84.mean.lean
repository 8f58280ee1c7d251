/-! fractions; mean -/
theorem lN_n0 {b : Nat} (h : 0 < b) (hb : b < 2 ^ 63) : ¬ lN b = 0 := fun z => by
  have e := congrArg Int64.toInt z
  rw [lN_i64 hb] at e
  rw [show (0 : Int64).toInt = 0 by decide] at e
  omega
theorem gW_n {β : Type} {b : Nat} {k : Option β} (h : 0 < b) (hb : b < 2 ^ 63) : gW (lN b) k = k := if_neg (lN_n0 h hb)
theorem lg_0 {b : Nat} (hb : b < 2 ^ 63) : (lg_cmp (lN b) (0 : Int64) = nI 0) ↔ b = 0 := by
  rw [lgc0]
  refine ⟨fun z => ?_, fun z => by rw [z]; rfl⟩
  rcases Nat.eq_zero_or_pos b with h | h
  · exact h
  · exact absurd z (lN_n0 h hb)
theorem gcd_s (a b : Nat) : Nat.gcd b (a % b) = Nat.gcd a b := by rw [Nat.gcd_comm a b, Nat.gcd_rec b a, Nat.gcd_comm]
theorem x_gd (a0 a2 : Int64) (μ : Mem) : ∀ (n b a s : Nat), a < 2 ^ 40 → b < n → b ≤ 150 → s + b < 200 → f_X0_greatestDivisor_b9 a0 a2 n (lN a) (lN b) (nI s) μ = some (lN (Nat.gcd a b), μ) := by
  intro n
  induction n with
  | zero => intro b a s ha hb; omega
  | succ n ih =>
    intro b a s ha hb hb2 hs
    rw [f_X0_greatestDivisor_b9]
    simp only [il]
    rw [if_neg (nI_ge (by omega) (by omega))]
    by_cases c : b = 0
    · rw [if_pos ((lg_0 (by omega)).mpr c), c, Nat.gcd_zero_right]
    · have hm : a % b < b := Nat.mod_lt _ (by omega)
      rw [if_neg (fun z => c ((lg_0 (by omega)).mp z)), gW_n (by omega) (by omega), lt_d, pk_lRem (by omega) (by omega) (by omega), lt_d, nI_add, ih (a % b) b (s + 1) (by omega) (by omega) (by omega) (by omega), gcd_s]
theorem m_gd (a0 a2 : Int64) (μ : Mem) : ∀ (n b a : Nat), a < 2 ^ 40 → b < n → b ≤ 150 → f_X11_divisor_b6 a0 a2 n (lN a) (lN b) μ = some (lN (Nat.gcd a b), μ) := by
  intro n
  induction n with
  | zero => intro b a ha hb; omega
  | succ n ih =>
    intro b a ha hb hb2
    rw [f_X11_divisor_b6]
    simp only [il]
    by_cases c : b = 0
    · rw [if_pos ((lg_0 (by omega)).mpr c), c, Nat.gcd_zero_right]
    · have hm : a % b < b := Nat.mod_lt _ (by omega)
      rw [if_neg (fun z => c ((lg_0 (by omega)).mp z)), gW_n (by omega) (by omega), lt_d, pk_lRem (by omega) (by omega) (by omega), ih (a % b) b (by omega) (by omega) (by omega), gcd_s]
theorem x_fr {a b : Nat} (ha : a < 2 ^ 40) (hb : 0 < b) (hb2 : b ≤ 100) (p : Int32) (μ : Mem) : f_X10_fractionPart (lN a) (lN b) p μ = some (lN ((if p = nI 0 then a else b) / Nat.gcd a b), μ) := by
  have hg : 0 < Nat.gcd a b := Nat.gcd_pos_of_pos_right a hb
  have hg2 : Nat.gcd a b ≤ b := Nat.gcd_le_right a hb
  have hFU : FU = 1000000000000 := rfl
  have e : f_X0_greatestDivisor (lN a) (lN b) μ = some (lN (Nat.gcd a b), μ) := x_gd (lN a) (lN b) μ FU b a 0 ha (by omega) (by omega) (by omega)
  unfold f_X10_fractionPart
  simp only [il]
  rw [bnd_e e, if_neg (fun z => by have := (lg_0 (by omega)).mp z; omega), gW_n hg (by omega), gW_n hg (by omega), pk_lDiv (by omega) hg (by omega), pk_lDiv (by omega) hg (by omega)]
  by_cases c : p = nI 0
  · rw [if_pos c, if_pos c]
  · rw [if_neg c, if_neg c]
theorem m_fr {a b : Nat} (ha : a < 2 ^ 40) (hb : 0 < b) (hb2 : b ≤ 100) (p : Int32) (μ : Mem) : f_X11_part (lN a) (lN b) p μ = some (lN ((if p = nI 0 then a else b) / Nat.gcd a b), μ) := by
  have hg : 0 < Nat.gcd a b := Nat.gcd_pos_of_pos_right a hb
  have hg2 : Nat.gcd a b ≤ b := Nat.gcd_le_right a hb
  have hFU : FU = 1000000000000 := rfl
  have e : f_X11_divisor (lN a) (lN b) μ = some (lN (Nat.gcd a b), μ) := m_gd (lN a) (lN b) μ FU b a ha (by omega) (by omega)
  unfold f_X11_part f_X11_part_b10
  simp only [il]
  rw [bnd_e e, bnd_e e, gW_n hg (by omega), gW_n hg (by omega), pk_lDiv (by omega) hg (by omega), pk_lDiv (by omega) hg (by omega)]
  by_cases c : p = nI 0
  · rw [if_pos c, if_pos c]
  · rw [if_neg c, if_neg c]
theorem sm_ge {f : Nat → Nat} : ∀ {n k : Nat}, k < n → f k ≤ sm f n
  | 0, _, h => absurd h (Nat.not_lt_zero _)
  | n + 1, k, h => by
    rw [sm]
    rcases (show k < n ∨ k = n by omega) with q | q
    · have := sm_ge (f := f) q; omega
    · subst q; omega
section MN
variable {V : SV} {v : Nat → Nat}
theorem IsL.ge (hV : SVok V) (hL : IsL V v) : ∀ (x k : Nat), v k = x → k < 72 → V 7 2 ≤ v k := by
  have h72 := hV.2.2.2.2.2.2.2.1
  have hNV : NV = 1000000000 := rfl
  intro x
  induction x using Nat.strongRecOn with
  | ind x ih =>
    intro k hx hk
    rcases hL.2.1 k hk with a | a
    · by_cases h0 : k = 2 * V 7 0 + V 7 1
      · rw [h0, hL.1]; omega
      · obtain ⟨i, hi, hiv, h, hh, j, hj, hl, hst, har⟩ := hL.2.2.2 k hk h0 (by omega)
        have hgt := s_arr_gt hV (sd := i % 2) (by omega : i / 2 < 36) hl
        have hle := @s_dep_le (v i) j
        have := ih (v i) (by omega) i rfl hi
        omega
    · omega
theorem s_tog_ge (hV : SVok V) (hL : IsL V v) : ∀ n, n ≤ 36 → s_rch v n * V 7 2 ≤ s_tog v n := by
  intro n
  induction n with
  | zero => intro _; rw [show s_rch v 0 = 0 from rfl]; omega
  | succ n ih =>
    intro hn
    have i1 := ih (by omega)
    by_cases c : s_lq v n = NV
    · rw [s_rch_0 c, s_tog_0 c]; exact i1
    · rw [s_rch_1 c, s_tog_1 c, Nat.succ_mul]
      have a := hL.ge hV (v (2 * n)) (2 * n) rfl (by omega)
      have b := hL.ge hV (v (2 * n + 1)) (2 * n + 1) rfl (by omega)
      have e : s_lq v n = min (v (2 * n)) (v (2 * n + 1)) := rfl
      omega
theorem s_rch_pos (hV : SVok V) (hL : IsL V v) : 0 < s_rch v 36 := by
  have h1 := s_lq_start hV hL
  have h2 := sm_ge (f := fun q => if s_lq v q = NV then 0 else 1) (n := 36) hV.2.2.2.2.2.1
  rw [if_neg (by omega)] at h2
  exact h2
end MN
theorem call_mean (a1 : Int32) : CALL (f_X10_mean 0 a1) (f_X11_mean 85 a1) := by
  intro n S μ hn hX hM
  have hFU : FU = 1000000000000 := rfl
  obtain ⟨b1, x1, m1, h1⟩ := arg_pa a1
  rcases h1 with rfl | ⟨rfl, p, hp, rfl⟩
  · exact call_q hX hM (r := -9223372036854775808) (by unfold f_X10_mean; simp only [il]; rw [bnd_e (x1 _), nI_b0]) (by unfold f_X11_mean; simp only [il]; rw [bnd_e (m1 _), nI_b0])
  have hV := hX.1.1.1
  obtain ⟨μ1, f1, f2, f3, f4⟩ := hX.fr
  obtain ⟨μ2, s1, s2, s3, s4⟩ := (hM.hi f3).seek
  have hL := f4.1
  have h72 := hV.2.2.2.2.2.2.2.1
  have g1 := s_tog_ge hV hL 36 (by decide)
  have g2 := s_tog_le hL (n := 36) (by decide)
  have g3 := @s_rch_le (s_L S.1) 36
  have g4 := s_rch_pos hV hL
  have g5 : s_rch (s_L S.1) 36 * S.1 7 2 ≤ 36 * 9999 := Nat.mul_le_mul g3 h72
  have hst1 : μ1.1 1 9 = nI (S.1 7 2) := f4.2.1.2.2.2.2.2.2.2.2.2
  have hst2 : μ2.1 85 9 = nI (S.1 7 2) := s3.2.1.2.2.2.2.2.2.2.2.2
  have ev : (nI (s_tog (s_L S.1) 36)).toInt64 - ((nI (s_rch (s_L S.1) 36)).toInt64 * (nI (S.1 7 2)).toInt64) = lN (s_tog (s_L S.1) 36 - s_rch (s_L S.1) 36 * S.1 7 2) := by
    rw [nI_l (by omega), nI_l (by omega), nI_l (by omega), lN_mul, lN_sub g1]
  have er : (nI (s_rch (s_L S.1) 36)).toInt64 = lN (s_rch (s_L S.1) 36) := nI_l (by omega)
  refine call_0 (r := lN ((if nI p = nI 0 then s_tog (s_L S.1) 36 - s_rch (s_L S.1) 36 * S.1 7 2 else s_rch (s_L S.1) 36) / Nat.gcd (s_tog (s_L S.1) 36 - s_rch (s_L S.1) 36 * S.1 7 2) (s_rch (s_L S.1) 36))) f2 hM ?_ f3 ?_ s2
  · unfold f_X10_mean; simp only [il, rf_0_0, rf_0_2]
    rw [bnd_e (x1 _), nI_b1, bnd_e f1, gK0]
    unfold f_X1_squaresReached f_X1_leastTogether
    rw [bnd_e (show f_X1_squaresReached_b4 21 FU 0 0 μ1 = _ from x_rch (e := 0) (by decide) hL f4 FU 0 (by decide) (by omega)), bnd_e (show f_X1_leastTogether_b4 21 FU 0 0 μ1 = _ from x_tog (e := 0) (by decide) hL f4 FU 0 (by decide) (by omega))]
    rw [hst1, ev, er, lt_d, bnd_e (x_fr (by omega) g4 (by omega) _ _)]
  · unfold f_X11_mean; simp only [il]
    rw [bnd_e (m1 _), nI_b1, bnv_e s1]
    unfold f_X11_reached f_X11_allLeast
    rw [bnd_e (show f_X11_allLeast_b4 85 FU 0 0 μ2 = _ from m_tog hL s4 FU 0 (by decide) (by omega)), bnd_e (show f_X11_reached_b4 85 FU 0 0 μ2 = _ from m_rch hL s4 FU 0 (by decide) (by omega)), bnd_e (show f_X11_reached_b4 85 FU 0 0 μ2 = _ from m_rch hL s4 FU 0 (by decide) (by omega))]
    rw [hst2, ev, er, bnd_e (m_fr (by omega) g4 (by omega) _ _)]
