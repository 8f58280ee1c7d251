/-! floats: a double by its units of 2^-1074; halving and doubling are exact -/
abbrev q64 : Int := Jvm.FP.Core.Fmt.qmin Jvm.FP.Core.b64
def PU (x : UInt64) (u : Nat) : Prop := ∃ (c : Nat) (q : Int), Jvm.FP.Core.val64 x = .fin false c q ∧ c * 2 ^ (q - q64).toNat = u
theorem v_two : Jvm.FP.Core.val64 (4611686018427387904 : UInt64) = .fin false (2 ^ 52) (-51) := by decide +kernel
theorem v_one : Jvm.FP.Core.val64 FP.dconst1 = .fin false (2 ^ 52) (-52) := by decide +kernel
theorem v_52 : Jvm.FP.Core.val64 (FP.l2d ((1 : Int64) <<< ((nI 52).toInt64 &&& 63))) = .fin false (2 ^ 52) 0 := by decide +kernel
theorem v_23 : Jvm.FP.Core.val64 (FP.l2d ((1 : Int64) <<< ((nI 23).toInt64 &&& 63))) = .fin false (2 ^ 52) (-29) := by decide +kernel
theorem q64_e : q64 = -1074 := by decide
theorem pu_fit {x : UInt64} {c : Nat} {q : Int} (h : Jvm.FP.Core.val64 x = .fin false c q) : c < 2 ^ 53 ∧ -1074 ≤ q ∧ q ≤ 971 ∧ (q = -1074 ∨ 2 ^ 52 ≤ c) := by
  have hf := Jvm.FP.Core.val64_fits x
  rw [h] at hf
  obtain ⟨h1, h2, h3, h4⟩ := hf
  exact ⟨h1, h2, h3, h4⟩
theorem pow_le_of {a b : Nat} (h : 2 ^ a < 2 ^ b) : a < b := (Nat.pow_lt_pow_iff_right (by decide : 1 < 2)).mp h
theorem pu_dbl {x : UInt64} {u : Nat} (h : PU x u) (hu : u < 2 ^ 1074) : PU (FP.dmul x (4611686018427387904 : UInt64)) (2 * u) := by
  obtain ⟨c, q, hv, hcu⟩ := h
  obtain ⟨f1, f2, f3, f4⟩ := pu_fit hv
  rw [q64_e] at hcu
  have hq : q < 0 := by
    rcases Nat.eq_zero_or_pos c with z | z
    · subst z
      rcases f4 with y | y
      · omega
      · exact absurd y (by decide)
    · have h1 : 1 * 2 ^ (q - -1074).toNat ≤ c * 2 ^ (q - -1074).toNat := Nat.mul_le_mul_right _ z
      have h2 := pow_le_of (a := (q - -1074).toNat) (b := 1074) (by omega)
      omega
  have e1 : Jvm.FP.Core.val64 (FP.dmul x (4611686018427387904 : UInt64)) = Jvm.FP.Core.round Jvm.FP.Core.b64 (.fin false (c * 2 ^ 52) (q + -51)) := by
    rw [show FP.dmul x (4611686018427387904 : UInt64) = Jvm.FP.Core.dmul x (4611686018427387904 : UInt64) from rfl, Jvm.FP.Core.val64_dmul, hv, v_two]
    rfl
  have e2 : Jvm.FP.Core.round Jvm.FP.Core.b64 (.fin false (c * 2 ^ 52) (q + -51)) = Jvm.FP.Core.round Jvm.FP.Core.b64 (.fin false c (q + 1)) := by
    refine Jvm.FP.Core.roundRatio_congr (by decide) (by decide) ?_
    rw [show ((q + -51) - (q + 1)).toNat = 0 by omega, show ((q + 1) - (q + -51)).toNat = 52 by omega, Nat.pow_zero, Nat.mul_one, Nat.mul_one, Nat.mul_one]
  obtain ⟨c2, q2, r1, r2⟩ := Jvm.FP.Core.round_exact Jvm.FP.Core.good_b64 false (c := c) (q := q + 1) f1 (by rw [Jvm.FP.Core.qmin_b64]; omega) (show q + 1 ≤ 971 by omega)
  refine ⟨c2, q2, by rw [e1, e2, r1], ?_⟩
  have r3 : c2 * 2 ^ (q2 - q64).toNat = c * 2 ^ ((q + 1) - q64).toNat := r2
  rw [r3, q64_e, ← hcu, show ((q + 1) - -1074).toNat = (q - -1074).toNat + 1 by omega, Nat.pow_succ, ← Nat.mul_assoc, Nat.mul_comm]
theorem pu_half {x : UInt64} {u : Nat} (h : PU x u) (hu : 2 ^ 1075 ≤ u) : ∃ w, u = 2 * w ∧ PU (FP.ddiv x (4611686018427387904 : UInt64)) w := by
  obtain ⟨c, q, hv, hcu⟩ := h
  obtain ⟨f1, f2, f3, f4⟩ := pu_fit hv
  rw [q64_e] at hcu
  have hq : -1074 < q := by
    rcases Int.lt_or_le (-1074) q with z | z
    · exact z
    · exfalso
      have : q = -1074 := by omega
      subst this
      rw [show ((-1074 : Int) - -1074).toNat = 0 by decide, Nat.pow_zero, Nat.mul_one] at hcu
      have : 2 ^ 53 ≤ 2 ^ 1075 := Nat.pow_le_pow_right (by decide) (by decide)
      omega
  have e1 : Jvm.FP.Core.val64 (FP.ddiv x (4611686018427387904 : UInt64)) = Jvm.FP.Core.roundRatio Jvm.FP.Core.b64 false c (2 ^ 52) (q - -51) := by
    rw [show FP.ddiv x (4611686018427387904 : UInt64) = Jvm.FP.Core.ddiv x (4611686018427387904 : UInt64) from rfl, Jvm.FP.Core.val64_ddiv, hv, v_two]
    show (if (2 ^ 52 : Nat) = 0 then (if c = 0 then (Jvm.FP.Core.Datum.nan) else Jvm.FP.Core.Datum.inf (false != false)) else Jvm.FP.Core.roundRatio Jvm.FP.Core.b64 (false != false) c (2 ^ 52) (q - -51)) = _
    rw [if_neg (show ¬ (2 ^ 52 : Nat) = 0 by decide)]
    rfl
  have e2 : Jvm.FP.Core.roundRatio Jvm.FP.Core.b64 false c (2 ^ 52) (q - -51) = Jvm.FP.Core.round Jvm.FP.Core.b64 (.fin false c (q - 1)) := by
    refine Jvm.FP.Core.roundRatio_congr (by decide) (by decide) ?_
    rw [show ((q - -51) - (q - 1)).toNat = 52 by omega, show ((q - 1) - (q - -51)).toNat = 0 by omega, Nat.pow_zero, Nat.mul_one, Nat.mul_one]
  obtain ⟨c2, q2, r1, r2⟩ := Jvm.FP.Core.round_exact Jvm.FP.Core.good_b64 false (c := c) (q := q - 1) f1 (by rw [Jvm.FP.Core.qmin_b64]; omega) (show q - 1 ≤ 971 by omega)
  refine ⟨c2 * 2 ^ (q2 - q64).toNat, ?_, c2, q2, by rw [e1, e2, r1], rfl⟩
  have r3 : c2 * 2 ^ (q2 - q64).toNat = c * 2 ^ ((q - 1) - q64).toNat := r2
  rw [r3, q64_e, ← hcu, show (q - -1074).toNat = ((q - 1) - -1074).toNat + 1 by omega, Nat.pow_succ, ← Nat.mul_assoc, Nat.mul_comm]
theorem pu_ne {x : UInt64} {u : Nat} (h : PU x u) : Jvm.FP.Core.val64 x ≠ .nan := by
  obtain ⟨c, q, hv, _⟩ := h
  rw [hv]
  exact fun z => by cases z
theorem pu_z {x : UInt64} {u : Nat} (h : PU x u) : Jvm.FP.Core.zval Jvm.FP.Core.b64 (Jvm.FP.Core.val64 x) = (u : Int) := by
  obtain ⟨c, q, hv, hu⟩ := h
  rw [hv, ← hu]
  rfl
theorem pu_cmp {x y : UInt64} {u w : Nat} (h : PU x u) (g : PU y w) : FP.dcmp x y = some (compare (u : Int) (w : Int)) := by
  have e : FP.dcmp x y = Jvm.FP.Core.order (Jvm.FP.Core.val64 x) (Jvm.FP.Core.val64 y) := rfl
  rw [e, Jvm.FP.Core.order_zval Jvm.FP.Core.good_b64 (Jvm.FP.Core.val64_fits x) (Jvm.FP.Core.val64_fits y) (pu_ne h) (pu_ne g), pu_z h, pu_z g]
theorem cv_lt {a b : Nat} (op : CmpOp) : (Op.cmpValue (some (compare (a : Int) (b : Int))) op < nI 0) ↔ a < b := by
  rcases (show a < b ∨ a = b ∨ b < a by omega) with h | h | h
  · have : compare (a : Int) (b : Int) = .lt := Int.compare_eq_lt.mpr (by omega)
    rw [this]
    exact ⟨fun _ => h, fun _ => by cases op <;> decide⟩
  · have : compare (a : Int) (b : Int) = .eq := Int.compare_eq_eq.mpr (by omega)
    rw [this]
    exact ⟨fun z => by cases op <;> exact absurd z (by decide), fun z => by omega⟩
  · have : compare (a : Int) (b : Int) = .gt := Int.compare_eq_gt.mpr (by omega)
    rw [this]
    exact ⟨fun z => by cases op <;> exact absurd z (by decide), fun z => by omega⟩
theorem cv_ge {a b : Nat} (op : CmpOp) : (nI 0 ≤ Op.cmpValue (some (compare (a : Int) (b : Int))) op) ↔ b ≤ a := by
  rw [← Int32.not_lt, cv_lt]
  omega
theorem pu_two : PU (4611686018427387904 : UInt64) (2 ^ 1075) := ⟨_, _, v_two, by decide +kernel⟩
theorem pu_one : PU FP.dconst1 (2 ^ 1074) := ⟨_, _, v_one, by decide +kernel⟩
theorem pu_zero : PU FP.dconst0 0 := ⟨0, q64, Jvm.FP.Core.val64_dconst0, by rw [Nat.zero_mul]⟩
theorem nn_of {x : UInt64} (h : Jvm.FP.Core.val64 x ≠ .nan) : nn64 x = true := by
  have h2 := (Jvm.FP.Core.ne_nan x).mp h
  unfold nn64
  refine decide_eq_true ?_
  rw [UInt64.le_iff_toNat_le, UInt64.toNat_and]
  rw [show (0x7fffffffffffffff : UInt64).toNat = 2 ^ 63 - 1 from rfl, Nat.and_two_pow_sub_one_eq_mod]
  exact h2
theorem pu_nn {x : UInt64} {u : Nat} (h : PU x u) : nn64 x = true := nn_of (pu_ne h)
/-- the last step: times 2^52 (2^23) it is whole -/
theorem pu_last {x : UInt64} {u w r0 : Nat} {y : UInt64} (h : PU x u) (hy : Jvm.FP.Core.val64 y = .fin false (2 ^ 52) (-(r0 : Int))) (hr : r0 ≤ 29) (hu : u = w * 2 ^ (1022 + r0)) (hw : w ≤ 2 ^ 53) : nn64 (FP.dmul x y) = true ∧ FP.d2l (FP.dmul x y) = lN w := by
  obtain ⟨c, q, hv, hcu⟩ := h
  obtain ⟨f1, f2, f3, f4⟩ := pu_fit hv
  rw [q64_e] at hcu
  have e1 : Jvm.FP.Core.val64 (FP.dmul x y) = Jvm.FP.Core.round Jvm.FP.Core.b64 (.fin false (c * 2 ^ 52) (q + -(r0 : Int))) := by
    rw [show FP.dmul x y = Jvm.FP.Core.dmul x y from rfl, Jvm.FP.Core.val64_dmul, hv, hy]
    rfl
  have hwh : Jvm.FP.Core.Whole (w : Int) (.fin false (c * 2 ^ 52) (q + -(r0 : Int))) := by
    have key : c * 2 ^ 52 * 2 ^ (q + -(r0 : Int)).toNat = w * 2 ^ (-(q + -(r0 : Int))).toNat := by
      have h1 : c * 2 ^ (q - -1074).toNat = w * 2 ^ (1022 + r0) := hcu.trans hu
      rcases Int.lt_or_le (q + -(r0 : Int)) 0 with z | z
      · rw [show (q + -(r0 : Int)).toNat = 0 by omega, Nat.pow_zero, Nat.mul_one]
        have h2 : (q - -1074).toNat + (-(q + -(r0 : Int))).toNat = 1074 + r0 := by omega
        have h3 : c * 2 ^ 52 * 2 ^ (q - -1074).toNat = w * 2 ^ (-(q + -(r0 : Int))).toNat * 2 ^ (q - -1074).toNat := by
          rw [Nat.mul_assoc w, ← Nat.pow_add, Nat.add_comm _ (q - -1074).toNat, h2, Nat.mul_right_comm, h1, Nat.mul_assoc, ← Nat.pow_add]
          congr 2
          omega
        exact Nat.eq_of_mul_eq_mul_right (Nat.two_pow_pos _) h3
      · rw [show (-(q + -(r0 : Int))).toNat = 0 by omega, Nat.pow_zero, Nat.mul_one]
        have h2 : (q - -1074).toNat = (q + -(r0 : Int)).toNat + (1074 + r0) := by omega
        rw [h2, Nat.pow_add, ← Nat.mul_assoc] at h1
        have h3 : c * 2 ^ 52 * 2 ^ (q + -(r0 : Int)).toNat * 2 ^ (1022 + r0) = w * 2 ^ (1022 + r0) := by
          rw [← h1, Nat.mul_right_comm c, Nat.mul_assoc (c * _) (2 ^ 52), ← Nat.pow_add]
          congr 2
          omega
        exact Nat.eq_of_mul_eq_mul_right (Nat.two_pow_pos _) h3
    show Jvm.FP.Core.signed false (c * 2 ^ 52 * 2 ^ (q + -(r0 : Int)).toNat) = (w : Int) * ((2 ^ (-(q + -(r0 : Int))).toNat : Nat) : Int)
    rw [key]
    show ((w * 2 ^ (-(q + -(r0 : Int))).toNat : Nat) : Int) = _
    rw [Int.natCast_mul]
  have hwr := Jvm.FP.Core.whole_round Jvm.FP.Core.good_b64 Jvm.FP.Core.wide_b64 (i := (w : Int)) (by show ((w : Int)).natAbs ≤ 2 ^ 53; omega) hwh
  rw [← e1] at hwr
  have ne : Jvm.FP.Core.val64 (FP.dmul x y) ≠ .nan := fun z => by rw [z] at hwr; exact hwr
  refine ⟨nn_of ne, ?_⟩
  exact Jvm.FP.Core.d2l_int (a := lN w) (by
    show Jvm.FP.Core.Whole ((lN w).toInt) _
    rw [lN_i64 (by omega)]
    exact hwr)
/-! a double's magnitude taken apart as the class does it -/
section OM
variable {fb bias g r0 : Nat} {a0 : UInt64}
/-- 52, 1023 for a double; 23, 127 for a float in a double -/
def FW (fb bias g r0 : Nat) : Prop := (fb = 52 ∧ bias = 1023 ∧ g = 0 ∧ r0 = 0) ∨ (fb = 23 ∧ bias = 127 ∧ g = 925 ∧ r0 = 29)
theorem x_b86 (hw : FW fb bias g r0) {x : UInt64} {w y : Nat} {x6 : Int32} {μ : Mem} (h : PU x (w * 2 ^ (1022 + r0))) (hw2 : w ≤ 2 ^ 53) (h6 : x6 + nI bias - nI 1 = nI y) (hy : y < 2 ^ 11) : f_X0_ofMagnitude_b86 a0 (nI fb) (nI bias) x x6 μ = some (lN (y * 2 ^ fb + w), μ) := by
  unfold f_X0_ofMagnitude_b86
  rw [show (1 : Int32) = nI 1 from rfl, h6]
  rcases hw with ⟨rfl, rfl, rfl, rfl⟩ | ⟨rfl, rfl, rfl, rfl⟩
  · obtain ⟨e1, e2⟩ := pu_last (r0 := 0) h v_52 (by decide) rfl hw2
    rw [e1, gP_t, e2, lt_d, nI_l (by omega), wb_shl _ (by decide), lN_add]
  · obtain ⟨e1, e2⟩ := pu_last (r0 := 29) h v_23 (by decide) rfl hw2
    rw [e1, gP_t, e2, lt_d, nI_l (by omega), wb_shl _ (by decide), lN_add]
theorem i_sub1 (a b : Nat) : nI a - nI (b + 1) + nI 1 = nI a - nI b := by
  rw [← nI_add b 1]
  generalize nI a = x
  generalize nI b = y
  generalize nI 1 = z
  apply Int32.toBitVec_inj.mp
  rw [Int32.toBitVec_add, Int32.toBitVec_sub, Int32.toBitVec_sub, Int32.toBitVec_add]
  generalize x.toBitVec = x
  generalize y.toBitVec = y
  generalize z.toBitVec = z
  bv_omega
theorem i_add1 (a b : Nat) : nI a - nI b + (-nI 1) = nI a - nI (b + 1) := by
  rw [← nI_add b 1]
  generalize nI a = x
  generalize nI b = y
  generalize nI 1 = z
  apply Int32.toBitVec_inj.mp
  rw [Int32.toBitVec_add, Int32.toBitVec_sub, Int32.toBitVec_sub, Int32.toBitVec_add, Int32.toBitVec_neg]
  generalize x.toBitVec = x
  generalize y.toBitVec = y
  generalize z.toBitVec = z
  bv_omega
theorem i_toInt {a b : Nat} (ha : a < 2 ^ 20) (hb : b < 2 ^ 20) : (nI a - nI b).toInt = (a : Int) - b := by
  rw [Int32.toInt_sub, nI_toInt (by omega), nI_toInt (by omega)]
  exact Int.bmod_eq_of_le (by omega) (by omega)
/-- doubling up to 1, a number with its leading 1 -/
theorem x_b46n (hw : FW fb bias g r0) {C E : Nat} (hC1 : 2 ^ fb ≤ C) (hC2 : C < 2 ^ (fb + 1)) (hE1 : 1 ≤ E) (hE2 : E ≤ 2 * bias) {μ : Mem} : ∀ (k n E2 s : Nat) (x : UInt64), E2 + k = bias → 1 ≤ E2 → (k ≠ 0 → E2 ≤ bias ∧ E2 + 1 ≤ E + bias) → s + k < 1100 → k < n → (E ≤ bias → E ≤ E2) → (bias < E → k = 0) → PU x (C * 2 ^ (E2 - 1 + g)) → f_X0_ofMagnitude_b46 a0 (nI fb) (nI bias) n x (nI E - nI E2) (nI s) μ = some (lN ((E - 1) * 2 ^ fb + C), μ) := by
  have hb : bias ≤ 1023 := by rcases hw with ⟨_, h, _⟩ | ⟨_, h, _⟩ <;> omega
  have hb1 : 127 ≤ bias := by rcases hw with ⟨_, h, _⟩ | ⟨_, h, _⟩ <;> omega
  have hbg : bias - 1 + g = 1022 + r0 ∧ fb + (bias - 1 + g) = 1074 := by rcases hw with ⟨rfl, rfl, rfl, rfl⟩ | ⟨rfl, rfl, rfl, rfl⟩ <;> decide
  have hfb : fb ≤ 52 := by rcases hw with ⟨h, _⟩ | ⟨h, _⟩ <;> omega
  have hC53 : C ≤ 2 ^ 53 := by
    have : 2 ^ (fb + 1) ≤ 2 ^ 53 := Nat.pow_le_pow_right (by decide) (by omega)
    omega
  intro k
  induction k with
  | zero =>
    intro n E2 s x h1 h2 _ h4 h5 _ _ hP
    obtain ⟨n, rfl⟩ : ∃ t, n = t + 1 := ⟨n - 1, by omega⟩
    have e2 : E2 = bias := by omega
    subst e2
    rw [f_X0_ofMagnitude_b46]
    simp only [il]
    have hge : 2 ^ 1074 ≤ C * 2 ^ (E2 - 1 + g) := by
      rw [← hbg.2, Nat.pow_add]
      exact Nat.mul_le_mul_right _ hC1
    rw [if_neg (nI_ge (by omega) (by omega)), pu_cmp hP pu_one, if_pos ((cv_ge _).mpr hge)]
    rw [hbg.1] at hP
    exact x_b86 hw hP hC53 (by rw [Int32.sub_add_cancel, pk_sub hE1]) (by omega)
  | succ k ih =>
    intro n E2 s x h1 h2 h3 h4 h5 h6 h7 hP
    obtain ⟨n, rfl⟩ : ∃ t, n = t + 1 := ⟨n - 1, by omega⟩
    obtain ⟨h3a, h3b⟩ := h3 (by omega)
    have hlt : C * 2 ^ (E2 - 1 + g) < 2 ^ 1074 := by
      have q1 : C * 2 ^ (E2 - 1 + g) < 2 ^ (fb + 1) * 2 ^ (E2 - 1 + g) := Nat.mul_lt_mul_of_pos_right hC2 (Nat.two_pow_pos _)
      rw [← Nat.pow_add] at q1
      have q2 : 2 ^ (fb + 1 + (E2 - 1 + g)) ≤ 2 ^ 1074 := Nat.pow_le_pow_right (by decide) (by omega)
      omega
    rw [f_X0_ofMagnitude_b46]
    simp only [il]
    rw [if_neg (nI_ge (by omega) (by omega)), pu_cmp hP pu_one, if_neg (fun z => absurd ((cv_ge _).mp z) (by omega))]
    rw [if_neg (fun z => by
      rw [Int32.le_iff_toInt_le, i_toInt (by omega) (by omega), i_toInt (by omega) (by omega)] at z
      omega)]
    have hP2 := pu_dbl hP hlt
    rw [pu_nn hP2, gP_t, lt_d, lt_d, lt_d, i_add1, nI_add]
    refine ih n (E2 + 1) (s + 1) _ (by omega) (by omega) (fun _ => ⟨by omega, by omega⟩) (by omega) (by omega) (fun z => by have := h6 z; omega) (fun z => by have := h7 z; omega) ?_
    rw [show E2 + 1 - 1 + g = (E2 - 1 + g) + 1 by omega, Nat.pow_succ, ← Nat.mul_assoc, Nat.mul_comm]
    exact hP2
/-- doubling a number without its leading 1, as often as may be -/
theorem x_b46s (hw : FW fb bias g r0) {C : Nat} (hC2 : C < 2 ^ fb) {μ : Mem} : ∀ (k n d : Nat) (x : UInt64), d + k = bias - 1 → k < n → PU x (C * 2 ^ (d + g)) → f_X0_ofMagnitude_b46 a0 (nI fb) (nI bias) n x (nI 0 - nI d) (nI d) μ = some (lN C, μ) := by
  have hb : bias ≤ 1023 := by rcases hw with ⟨_, h, _⟩ | ⟨_, h, _⟩ <;> omega
  have hb1 : 127 ≤ bias := by rcases hw with ⟨_, h, _⟩ | ⟨_, h, _⟩ <;> omega
  have hbg : bias - 1 + g = 1022 + r0 ∧ fb + (bias - 1 + g) = 1074 := by rcases hw with ⟨rfl, rfl, rfl, rfl⟩ | ⟨rfl, rfl, rfl, rfl⟩ <;> decide
  have hfb : fb ≤ 52 := by rcases hw with ⟨h, _⟩ | ⟨h, _⟩ <;> omega
  have hC53 : C ≤ 2 ^ 53 := by
    have : 2 ^ fb ≤ 2 ^ 53 := Nat.pow_le_pow_right (by decide) (by omega)
    omega
  have small : ∀ d, d ≤ bias - 1 → C * 2 ^ (d + g) < 2 ^ 1074 := fun d hd => by
    have q1 : C * 2 ^ (d + g) < 2 ^ fb * 2 ^ (d + g) := Nat.mul_lt_mul_of_pos_right hC2 (Nat.two_pow_pos _)
    rw [← Nat.pow_add] at q1
    have q2 : 2 ^ (fb + (d + g)) ≤ 2 ^ 1074 := Nat.pow_le_pow_right (by decide) (by omega)
    omega
  intro k
  induction k with
  | zero =>
    intro n d x h1 h5 hP
    obtain ⟨n, rfl⟩ : ∃ t, n = t + 1 := ⟨n - 1, by omega⟩
    have hlt := small d (by omega)
    rw [f_X0_ofMagnitude_b46]
    simp only [il]
    rw [if_neg (nI_ge (by omega) (by omega)), pu_cmp hP pu_one, if_neg (fun z => absurd ((cv_ge _).mp z) (by omega)), if_pos (by
      rw [Int32.le_iff_toInt_le, i_toInt (by omega) (by omega), i_toInt (by omega) (by omega)]
      omega)]
    have ed : d = bias - 1 := by omega
    subst ed
    rw [hbg.1] at hP
    have := x_b86 (a0 := a0) (μ := μ) (y := 0) (x6 := nI 0 - nI (bias - 1)) hw hP hC53 (by
      apply Int32.toInt_inj.mp
      rw [Int32.toInt_sub, Int32.toInt_add, i_toInt (by omega) (by omega), nI_toInt (by omega), nI_toInt (by omega), nI_toInt (by omega)]
      rw [show ((0 : Nat) : Int) - ((bias - 1 : Nat) : Int) + (bias : Int) = 1 by omega]
      decide) (by decide)
    rw [Nat.zero_mul, Nat.zero_add] at this
    exact this
  | succ k ih =>
    intro n d x h1 h5 hP
    obtain ⟨n, rfl⟩ : ∃ t, n = t + 1 := ⟨n - 1, by omega⟩
    have hlt := small d (by omega)
    rw [f_X0_ofMagnitude_b46]
    simp only [il]
    rw [if_neg (nI_ge (by omega) (by omega)), pu_cmp hP pu_one, if_neg (fun z => absurd ((cv_ge _).mp z) (by omega)), if_neg (fun z => by
      rw [Int32.le_iff_toInt_le, i_toInt (by omega) (by omega), i_toInt (by omega) (by omega)] at z
      omega)]
    have hP2 := pu_dbl hP hlt
    rw [pu_nn hP2, gP_t, lt_d, lt_d, lt_d, i_add1, nI_add]
    refine ih n (d + 1) _ (by omega) (by omega) ?_
    rw [show d + 1 + g = (d + g) + 1 by omega, Nat.pow_succ, ← Nat.mul_assoc, Nat.mul_comm]
    exact hP2
/-- halving down below 2 -/
theorem x_b9n (hw : FW fb bias g r0) {C E : Nat} (hC1 : 2 ^ fb ≤ C) (hC2 : C < 2 ^ (fb + 1)) (hE1 : 1 ≤ E) (hE2 : E ≤ 2 * bias) {μ : Mem} : ∀ (k n E2 s : Nat) (x : UInt64), E2 = (if E ≤ bias then E else bias + k) → s + k < 1100 → k < n → (E ≤ bias → k = 0) → PU x (C * 2 ^ (E2 - 1 + g)) → f_X0_ofMagnitude_b9 a0 (nI fb) (nI bias) n x (nI E - nI E2) (nI s) μ = some (lN ((E - 1) * 2 ^ fb + C), μ) := by
  have hFU : FU = 1000000000000 := rfl
  have hb : bias ≤ 1023 := by rcases hw with ⟨_, h, _⟩ | ⟨_, h, _⟩ <;> omega
  have hb1 : 127 ≤ bias := by rcases hw with ⟨_, h, _⟩ | ⟨_, h, _⟩ <;> omega
  have hbg : bias - 1 + g = 1022 + r0 ∧ fb + (bias - 1 + g) = 1074 := by rcases hw with ⟨rfl, rfl, rfl, rfl⟩ | ⟨rfl, rfl, rfl, rfl⟩ <;> decide
  intro k
  induction k with
  | zero =>
    intro n E2 s x h1 h4 h5 h6 hP
    obtain ⟨n, rfl⟩ : ∃ t, n = t + 1 := ⟨n - 1, by omega⟩
    have hE2b : E2 ≤ bias ∧ 1 ≤ E2 := by rw [h1]; split <;> omega
    have hlt : C * 2 ^ (E2 - 1 + g) < 2 ^ 1075 := by
      have q1 : C * 2 ^ (E2 - 1 + g) < 2 ^ (fb + 1) * 2 ^ (E2 - 1 + g) := Nat.mul_lt_mul_of_pos_right hC2 (Nat.two_pow_pos _)
      rw [← Nat.pow_add] at q1
      have q2 : 2 ^ (fb + 1 + (E2 - 1 + g)) ≤ 2 ^ 1075 := Nat.pow_le_pow_right (by decide) (by omega)
      omega
    rw [f_X0_ofMagnitude_b9]
    simp only [il]
    rw [if_neg (nI_ge (by omega) (by omega)), pu_cmp hP pu_two, if_pos ((cv_lt _).mpr hlt)]
    refine x_b46n hw hC1 hC2 hE1 hE2 (bias - E2) FU E2 0 x (by omega) hE2b.2 (fun _ => ⟨by omega, ?_⟩) (by omega) (by omega) (fun z => ?_) (fun z => ?_) hP
    · omega
    · rw [h1, if_pos z]; exact Nat.le_refl _
    · rw [h1, if_neg (by omega)]; omega
  | succ k ih =>
    intro n E2 s x h1 h4 h5 h6 hP
    obtain ⟨n, rfl⟩ : ∃ t, n = t + 1 := ⟨n - 1, by omega⟩
    have hEb : bias < E := by
      rcases Nat.lt_or_ge bias E with z | z
      · exact z
      · exact absurd (h6 z) (by omega)
    rw [if_neg (by omega)] at h1
    have hge : 2 ^ 1075 ≤ C * 2 ^ (E2 - 1 + g) := by
      have q1 : 2 ^ fb * 2 ^ (E2 - 1 + g) ≤ C * 2 ^ (E2 - 1 + g) := Nat.mul_le_mul_right _ hC1
      rw [← Nat.pow_add] at q1
      have q2 : 2 ^ 1075 ≤ 2 ^ (fb + (E2 - 1 + g)) := Nat.pow_le_pow_right (by decide) (by omega)
      omega
    rw [f_X0_ofMagnitude_b9]
    simp only [il]
    rw [if_neg (nI_ge (by omega) (by omega)), pu_cmp hP pu_two, if_neg (fun z => absurd ((cv_lt _).mp z) (by omega))]
    obtain ⟨w, hw1, hP2⟩ := pu_half hP hge
    rw [pu_nn hP2, gP_t, lt_d, lt_d, lt_d]
    have hE3 : E2 = (E2 - 1) + 1 := by omega
    have hw2 : w = C * 2 ^ (E2 - 1 - 1 + g) := by
      have h8 : C * 2 ^ (E2 - 1 + g) = 2 * (C * 2 ^ (E2 - 1 - 1 + g)) := by
        rw [show E2 - 1 + g = (E2 - 1 - 1 + g) + 1 by omega, Nat.pow_succ, ← Nat.mul_assoc, Nat.mul_comm]
      omega
    rw [hw2] at hP2
    rw [show nI E - nI E2 + nI 1 = nI E - nI (E2 - 1) by rw [hE3, i_sub1, Nat.add_sub_cancel], nI_add]
    exact ih n (E2 - 1) (s + 1) _ (by rw [if_neg (by omega)]; omega) (by omega) (by omega) (fun z => by omega) hP2
theorem x_magn (hw : FW fb bias g r0) {C E : Nat} (hC1 : 2 ^ fb ≤ C) (hC2 : C < 2 ^ (fb + 1)) (hE1 : 1 ≤ E) (hE2 : E ≤ 2 * bias) {μ : Mem} (hP : PU a0 (C * 2 ^ (E - 1 + g))) : f_X0_ofMagnitude a0 (nI fb) (nI bias) μ = some (lN ((E - 1) * 2 ^ fb + C), μ) := by
  have hFU : FU = 1000000000000 := rfl
  have hb : bias ≤ 1023 := by rcases hw with ⟨_, h, _⟩ | ⟨_, h, _⟩ <;> omega
  have := x_b9n (a0 := a0) (μ := μ) hw hC1 hC2 hE1 hE2 (if E ≤ bias then 0 else E - bias) FU E 0 a0 (by split <;> omega) (by split <;> omega) (by split <;> omega) (fun z => if_pos z) hP
  unfold f_X0_ofMagnitude
  rw [show (0 : Int32) = nI E - nI E by rw [Int32.sub_self]]
  rw [show nI E - nI E = nI E - nI E from rfl]
  have e0 : nI E - nI E = nI 0 := by rw [Int32.sub_self]; rfl
  rw [e0] at this ⊢
  exact this
theorem x_mags (hw : FW fb bias g r0) {C : Nat} (hC2 : C < 2 ^ fb) {μ : Mem} (hP : PU a0 (C * 2 ^ g)) : f_X0_ofMagnitude a0 (nI fb) (nI bias) μ = some (lN C, μ) := by
  have hFU : FU = 1000000000000 := rfl
  have hb : bias ≤ 1023 := by rcases hw with ⟨_, h, _⟩ | ⟨_, h, _⟩ <;> omega
  have hbg : bias - 1 + g = 1022 + r0 ∧ fb + (bias - 1 + g) = 1074 := by rcases hw with ⟨rfl, rfl, rfl, rfl⟩ | ⟨rfl, rfl, rfl, rfl⟩ <;> decide
  have hlt : C * 2 ^ g < 2 ^ 1075 := by
    have q1 : C * 2 ^ g < 2 ^ fb * 2 ^ g := Nat.mul_lt_mul_of_pos_right hC2 (Nat.two_pow_pos _)
    rw [← Nat.pow_add] at q1
    have q2 : 2 ^ (fb + g) ≤ 2 ^ 1075 := Nat.pow_le_pow_right (by decide) (by omega)
    omega
  unfold f_X0_ofMagnitude
  show f_X0_ofMagnitude_b9 a0 (nI fb) (nI bias) (FU - 1 + 1) a0 (nI 0) (nI 0) μ = _
  rw [f_X0_ofMagnitude_b9]
  simp only [il]
  rw [if_neg (by decide), pu_cmp hP pu_two, if_pos ((cv_lt _).mpr hlt)]
  have := x_b46s (a0 := a0) (μ := μ) hw hC2 (bias - 1) FU 0 a0 (by omega) (by omega) (by rw [Nat.zero_add]; exact hP)
  rw [show nI 0 - nI 0 = nI 0 by decide] at this
  exact this
end OM
