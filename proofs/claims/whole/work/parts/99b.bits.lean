/-! the bits of a double, of a float, on both sides -/
theorem u64_l (x : UInt64) : x.toInt64 = lN x.toNat := by
  apply wb_inj
  rw [wb_tb]
  show x.toBitVec = BitVec.ofNat 64 x.toBitVec.toNat
  rw [BitVec.ofNat_toNat, BitVec.setWidth_eq]
theorem u32_n (x : UInt32) : x.toInt32 = nI x.toNat := by
  apply Int32.toBitVec_inj.mp
  show x.toBitVec = BitVec.ofNat 32 x.toBitVec.toNat
  rw [BitVec.ofNat_toNat, BitVec.setWidth_eq]
theorem enc64 {x : UInt64} {s : Bool} {c : Nat} {q : Int} (h : Jvm.FP.Core.val64 x = .fin s c q) : x.toNat = Jvm.FP.Core.encode Jvm.FP.Core.b64 (.fin s c q) := by
  have h1 := Jvm.FP.Core.of64_val64 (a := x) (by rw [h]; exact fun z => by cases z)
  rw [h] at h1
  have hf := Jvm.FP.Core.val64_fits x
  rw [h] at hf
  have h2 := Jvm.FP.Core.toNat_of64 hf
  rw [h1] at h2
  exact h2
theorem enc32 {x : UInt32} {s : Bool} {c : Nat} {q : Int} (h : Jvm.FP.Core.val32 x = .fin s c q) : x.toNat = Jvm.FP.Core.encode Jvm.FP.Core.b32 (.fin s c q) := by
  have h1 := Jvm.FP.Core.of32_val32 (a := x) (by rw [h]; exact fun z => by cases z)
  rw [h] at h1
  have hf := Jvm.FP.Core.val32_fits x
  rw [h] at hf
  have h2 := Jvm.FP.Core.toNat_of32 hf
  rw [h1] at h2
  exact h2
theorem x_mag64 {x : UInt64} {c : Nat} {q : Int} (h : Jvm.FP.Core.val64 x = .fin false c q) (μ : Mem) : f_X0_ofMagnitude x (nI 52) (nI 1023) μ = some (lN x.toNat, μ) := by
  obtain ⟨f1, f2, f3, f4⟩ := pu_fit h
  have he := enc64 h
  by_cases hc : c < 2 ^ 52
  · have hq : q = -1074 := by omega
    subst hq
    have e1 : Jvm.FP.Core.encode Jvm.FP.Core.b64 (.fin false c (-1074)) = c := by
      show (if c < 2 ^ 52 then (0 * 2 ^ 11 + 0) * 2 ^ 52 + c else _) = c
      rw [if_pos hc]
      omega
    rw [he, e1]
    refine x_mags (fb := 52) (bias := 1023) (g := 0) (r0 := 0) (Or.inl ⟨rfl, rfl, rfl, rfl⟩) hc ⟨c, -1074, h, ?_⟩
    rw [q64_e]
    rfl
  · have e1 : Jvm.FP.Core.encode Jvm.FP.Core.b64 (.fin false c q) = ((q - -1074).toNat + 1) * 2 ^ 52 + (c - 2 ^ 52) := by
      show (if c < 2 ^ 52 then _ else (0 * 2 ^ 11 + ((q - Jvm.FP.Core.Fmt.qmin Jvm.FP.Core.b64).toNat + 1)) * 2 ^ 52 + (c - 2 ^ 52)) = _
      rw [if_neg hc, show Jvm.FP.Core.Fmt.qmin Jvm.FP.Core.b64 = -1074 from q64_e, Nat.zero_mul, Nat.zero_add]
    have := x_magn (a0 := x) (fb := 52) (bias := 1023) (g := 0) (r0 := 0) (C := c) (E := (q - -1074).toNat + 1) (μ := μ) (Or.inl ⟨rfl, rfl, rfl, rfl⟩) (by omega) f1 (by omega) (by omega) ⟨c, q, h, by rw [q64_e, Nat.add_sub_cancel, Nat.add_zero]⟩
    have e2 : ((q - -1074).toNat + 1 - 1) * 2 ^ 52 + c = ((q - -1074).toNat + 1) * 2 ^ 52 + (c - 2 ^ 52) := by
      rw [Nat.add_sub_cancel, Nat.add_mul]
      omega
    rw [this, he, e1, e2]
theorem neg0 {x : UInt64} {c : Nat} {q : Int} (h : Jvm.FP.Core.val64 x = .fin true c q) : Jvm.FP.Core.val64 (FP.dneg x) = .fin false c q := by
  rw [Jvm.FP.val64_dneg, h]
  rfl
theorem x_ofd {x : UInt64} (h : Jvm.FP.Core.DFin x) (h0 : ∀ q, Jvm.FP.Core.val64 x ≠ .fin true 0 q) (μ : Mem) : f_X0_ofDouble x μ = some (x.toInt64, μ) := by
  obtain ⟨s, c, q, hv⟩ := h
  unfold f_X0_ofDouble
  rw [show (0 : Int32) = nI 0 from rfl, show (52 : Int32) = nI 52 from rfl, show (1023 : Int32) = nI 1023 from rfl]
  cases s with
  | false =>
    rw [pu_cmp (u := c * 2 ^ (q - q64).toNat) ⟨c, q, hv, rfl⟩ pu_zero, if_pos ((cv_ge _).mpr (Nat.zero_le _)), bnd_e (x_mag64 hv μ), u64_l]
  | true =>
    have hc : 0 < c := by
      rcases Nat.eq_zero_or_pos c with z | z
      · subst z; exact absurd hv (h0 q)
      · exact z
    have hz : FP.dcmp x FP.dconst0 = some .lt := by
      have e : FP.dcmp x FP.dconst0 = Jvm.FP.Core.order (Jvm.FP.Core.val64 x) (Jvm.FP.Core.val64 FP.dconst0) := rfl
      rw [e, Jvm.FP.Core.order_zval Jvm.FP.Core.good_b64 (Jvm.FP.Core.val64_fits x) (Jvm.FP.Core.val64_fits _) (by rw [hv]; exact fun z => by cases z) (pu_ne pu_zero), pu_z pu_zero, hv]
      have e2 : Jvm.FP.Core.zval Jvm.FP.Core.b64 (.fin true c q) = -((c * 2 ^ (q - q64).toNat : Nat) : Int) := rfl
      have hp : 0 < c * 2 ^ (q - q64).toNat := Nat.mul_pos hc (Nat.two_pow_pos _)
      rw [e2, Int.compare_eq_lt.mpr (by omega)]
    have hn := neg0 hv
    have hm := x_mag64 hn μ
    rw [hz, if_neg (by decide), bnd_e hm]
    have he := enc64 hv
    have hen := enc64 hn
    have hxn : (FP.dneg x).toNat < 2 ^ 63 ∧ x.toNat = (FP.dneg x).toNat + 2 ^ 63 := by
      obtain ⟨f1, f2, f3, f4⟩ := pu_fit hn
      rw [he, hen]
      by_cases hc2 : c < 2 ^ 52
      · have e1 : Jvm.FP.Core.encode Jvm.FP.Core.b64 (.fin false c q) = c := by
          show (if c < 2 ^ 52 then (0 * 2 ^ 11 + 0) * 2 ^ 52 + c else _) = c
          rw [if_pos hc2]
          omega
        have e2 : Jvm.FP.Core.encode Jvm.FP.Core.b64 (.fin true c q) = 2 ^ 63 + c := by
          show (if c < 2 ^ 52 then (1 * 2 ^ 11 + 0) * 2 ^ 52 + c else _) = _
          rw [if_pos hc2]
        rw [e1, e2]
        omega
      · have e1 : Jvm.FP.Core.encode Jvm.FP.Core.b64 (.fin false c q) = ((q - -1074).toNat + 1) * 2 ^ 52 + (c - 2 ^ 52) := by
          show (if c < 2 ^ 52 then _ else (0 * 2 ^ 11 + ((q - Jvm.FP.Core.Fmt.qmin Jvm.FP.Core.b64).toNat + 1)) * 2 ^ 52 + (c - 2 ^ 52)) = _
          rw [if_neg hc2, show Jvm.FP.Core.Fmt.qmin Jvm.FP.Core.b64 = -1074 from q64_e, Nat.zero_mul, Nat.zero_add]
        have e2 : Jvm.FP.Core.encode Jvm.FP.Core.b64 (.fin true c q) = (2 ^ 11 + ((q - -1074).toNat + 1)) * 2 ^ 52 + (c - 2 ^ 52) := by
          show (if c < 2 ^ 52 then _ else (1 * 2 ^ 11 + ((q - Jvm.FP.Core.Fmt.qmin Jvm.FP.Core.b64).toNat + 1)) * 2 ^ 52 + (c - 2 ^ 52)) = _
          rw [if_neg hc2, show Jvm.FP.Core.Fmt.qmin Jvm.FP.Core.b64 = -1074 from q64_e, Nat.one_mul]
        rw [e1, e2]
        omega
    rw [u64_l, hxn.2]
    have e3 : lN (FP.dneg x).toNat ||| (-9223372036854775808 : Int64) = lN ((FP.dneg x).toNat + 2 ^ 63) := by
      rw [show (-9223372036854775808 : Int64) = lN (2 ^ 63) by decide, wb_or (by omega) (by decide)]
      have := Nat.two_pow_add_eq_or_of_lt hxn.1 1
      rw [Nat.mul_one] at this
      rw [Nat.or_comm, ← this, Nat.add_comm]
    rw [e3]
theorem m_ofd {x : UInt64} (h : Jvm.FP.Core.DFin x) (μ : Mem) : f_Jxe99ae_doubleToLongBits_ccdee x μ = some (x.toInt64, μ) := by
  obtain ⟨s, c, q, hv⟩ := h
  unfold f_Jxe99ae_doubleToLongBits_ccdee f_Jxe99ae_isNaN_b9ae7
  rw [show FP.dcmp x x = some .eq from Jvm.FP.Core.dcmp_self (by rw [hv]; exact fun z => by cases z), if_pos (by decide), bnd_s, if_pos rfl]
theorem x_off {x : UInt32} {c : Nat} {q : Int} (hv : Jvm.FP.Core.val32 x = .fin false c q) (μ : Mem) : f_X0_ofFloat x μ = some (lN x.toNat, μ) := by
  have hne : Jvm.FP.Core.val32 x ≠ .nan := by rw [hv]; exact fun z => by cases z
  have hf := Jvm.FP.Core.val32_fits x
  rw [hv] at hf
  obtain ⟨f1, f2, f3, f4⟩ := hf
  have f1 : c < 2 ^ 24 := f1
  have f2 : -149 ≤ q := f2
  have f3 : q ≤ 104 := f3
  have f4 : q = -149 ∨ 2 ^ 23 ≤ c := f4
  have hfd : FP.f2d x = Jvm.FP.Core.f2d x := Jvm.FP.f2d_core ((Jvm.FP.Core.notNaN_iff32 x).mpr hne)
  have hv2 : Jvm.FP.Core.val64 (FP.f2d x) = Jvm.FP.Core.round Jvm.FP.Core.b64 (.fin false c q) := by
    rw [hfd, Jvm.FP.Core.val64_f2d, hv]
  obtain ⟨c2, q2, r1, r2⟩ := Jvm.FP.Core.round_exact Jvm.FP.Core.good_b64 false (c := c) (q := q) (show c < 2 ^ 53 by omega) (by rw [Jvm.FP.Core.qmin_b64]; omega) (show q ≤ 971 by omega)
  have hP : PU (FP.f2d x) (c * 2 ^ (q - -1074).toNat) := ⟨c2, q2, by rw [hv2, r1], r2⟩
  have he := enc32 hv
  unfold f_X0_ofFloat
  rw [show (23 : Int32) = nI 23 from rfl, show (127 : Int32) = nI 127 from rfl, pu_nn hP, gP_t]
  by_cases hc : c < 2 ^ 23
  · have hq : q = -149 := by omega
    subst hq
    have e1 : Jvm.FP.Core.encode Jvm.FP.Core.b32 (.fin false c (-149)) = c := by
      show (if c < 2 ^ 23 then (0 * 2 ^ 8 + 0) * 2 ^ 23 + c else _) = c
      rw [if_pos hc]
      omega
    rw [he, e1, bnd_e (x_mags (a0 := FP.f2d x) (fb := 23) (bias := 127) (g := 925) (r0 := 29) (C := c) (Or.inr ⟨rfl, rfl, rfl, rfl⟩) hc hP)]
  · have e1 : Jvm.FP.Core.encode Jvm.FP.Core.b32 (.fin false c q) = ((q - -149).toNat + 1) * 2 ^ 23 + (c - 2 ^ 23) := by
      show (if c < 2 ^ 23 then _ else (0 * 2 ^ 8 + ((q - Jvm.FP.Core.Fmt.qmin Jvm.FP.Core.b32).toNat + 1)) * 2 ^ 23 + (c - 2 ^ 23)) = _
      rw [if_neg hc, Jvm.FP.Core.qmin_b32, Nat.zero_mul, Nat.zero_add]
    have hP2 : PU (FP.f2d x) (c * 2 ^ ((q - -149).toNat + 1 - 1 + 925)) := by
      rw [show (q - -149).toNat + 1 - 1 + 925 = (q - -1074).toNat by omega]
      exact hP
    have e2 : ((q - -149).toNat + 1 - 1) * 2 ^ 23 + c = ((q - -149).toNat + 1) * 2 ^ 23 + (c - 2 ^ 23) := by
      rw [Nat.add_sub_cancel, Nat.add_mul]
      omega
    rw [bnd_e (x_magn (a0 := FP.f2d x) (fb := 23) (bias := 127) (g := 925) (r0 := 29) (C := c) (E := (q - -149).toNat + 1) (Or.inr ⟨rfl, rfl, rfl, rfl⟩) (by omega) f1 (by omega) (by omega) hP2), he, e1, e2]
theorem m_off {x : UInt32} {c : Nat} {q : Int} (hv : Jvm.FP.Core.val32 x = .fin false c q) (μ : Mem) : f_Jxf58ca_floatToIntBits_5c35a x μ = some (x.toInt32, μ) := by
  unfold f_Jxf58ca_floatToIntBits_5c35a f_Jxf58ca_isNaN_12338
  rw [show FP.fcmp x x = some .eq from Jvm.FP.Core.fcmp_self (by rw [hv]; exact fun z => by cases z), if_pos (by decide), bnd_s, if_pos rfl]
theorem bits32_lt {x : UInt32} {c : Nat} {q : Int} (hv : Jvm.FP.Core.val32 x = .fin false c q) : x.toNat < 2 ^ 31 := by
  have hf := Jvm.FP.Core.val32_fits x
  rw [hv] at hf
  obtain ⟨f1, f2, f3, f4⟩ := hf
  have f1 : c < 2 ^ 24 := f1
  have f2 : -149 ≤ q := f2
  have f3 : q ≤ 104 := f3
  rw [enc32 hv]
  by_cases hc : c < 2 ^ 23
  · have e1 : Jvm.FP.Core.encode Jvm.FP.Core.b32 (.fin false c q) = c := by
      show (if c < 2 ^ 23 then (0 * 2 ^ 8 + 0) * 2 ^ 23 + c else _) = c
      rw [if_pos hc]
      omega
    omega
  · have e1 : Jvm.FP.Core.encode Jvm.FP.Core.b32 (.fin false c q) = ((q - -149).toNat + 1) * 2 ^ 23 + (c - 2 ^ 23) := by
      show (if c < 2 ^ 23 then _ else (0 * 2 ^ 8 + ((q - Jvm.FP.Core.Fmt.qmin Jvm.FP.Core.b32).toNat + 1)) * 2 ^ 23 + (c - 2 ^ 23)) = _
      rw [if_neg hc, Jvm.FP.Core.qmin_b32, Nat.zero_mul, Nat.zero_add]
    omega
