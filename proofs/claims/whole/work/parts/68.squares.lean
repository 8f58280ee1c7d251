/-! pace; LEAST by squares on both sides -/
theorem call_pace (a1 a2 a3 : Int32) : CALL (f_X10_pace 0 a1 a2 a3) (f_X11_pace 85 a1 a2 a3) := by
  intro n S μ hn hX hM
  obtain ⟨b1, x1, m1, h1⟩ := arg_sq a1
  obtain ⟨b2, x2, m2, h2⟩ := arg_he a2
  rcases h1 with rfl | ⟨rfl, q, hq, rfl⟩
  · exact call_q hX hM (r := -nI 1) (by unfold f_X10_pace; simp only [il]; rw [bnd_e (x1 _), nI_b0]) (by unfold f_X11_pace; simp only [il]; rw [bnd_e (m1 _), nI_b0])
  rcases h2 with rfl | ⟨rfl, h, hh, rfl⟩
  · exact call_q hX hM (r := -nI 1) (by unfold f_X10_pace; simp only [il]; rw [bnd_e (x1 _), nI_b1, bnd_e (x2 _), nI_b0]) (by unfold f_X11_pace; simp only [il]; rw [bnd_e (m1 _), nI_b1, bnd_e (m2 _), nI_b0])
  obtain ⟨hV, hS⟩ := hX.sea
  have hMs := hM.2.1
  rcases arg_m a3 9999 (by decide) with ⟨q1, q2⟩ | ⟨y, hy, rfl, q0, q1, q2⟩
  · refine call_q hX hM (r := -nI 2) ?_ ?_
    · unfold f_X10_pace; simp only [il]; rw [bnd_e (x1 _), nI_b1, bnd_e (x2 _), nI_b1]
      rcases q1 with q | ⟨q0, q⟩
      · rw [if_pos q]
      · rw [if_neg q0, if_neg q]
    · unfold f_X11_pace; simp only [il]; rw [bnd_e (m1 _), nI_b1, bnd_e (m2 _), nI_b1, bnd_e (q2 _), nI_b0]
  · refine call_q hX hM (r := nI (s_pace S.1 (s_zone q) (s_span y) h)) ?_ ?_
    · unfold f_X10_pace; simp only [il, rf_0_0]; rw [bnd_e (x1 _), nI_b1, bnd_e (x2 _), nI_b1, if_neg q0, if_pos q1, bnd_e (x_zone hq _), bnd_e (x_span (by omega) _), bnd_e (x_pace hV (Or.inl rfl) hS (s_zone_lt hq) s_span_lt hh)]
    · unfold f_X11_pace; simp only [il]; rw [bnd_e (m1 _), nI_b1, bnd_e (m2 _), nI_b1, bnd_e (q2 _), nI_b1, bnd_e (m_pace hV hMs hq hh (by omega))]
theorem mimin_n {a b : Nat} (ha : a < 2 ^ 31) (hb : b < 2 ^ 31) : mimin (nI a) (nI b) = nI (min a b) := by
  by_cases c : b < a
  · rw [show mimin (nI a) (nI b) = nI b from if_pos (nI_lt c ha), show min a b = b by omega]
  · rw [show mimin (nI a) (nI b) = nI a from if_neg (fun z => c ((nI_ltI hb ha).mp z)), show min a b = a by omega]
section SQ
variable {V : SV} {v : Nat → Nat} {μ : Mem}
theorem s_lq_le (hL : IsL V v) {q : Nat} (hq : q < 36) : s_lq v q ≤ 160000 ∨ s_lq v q = NV := by
  have hNV : NV = 1000000000 := rfl
  have a := hL.2.1 (2 * q) (by omega)
  have b := hL.2.1 (2 * q + 1) (by omega)
  have e : s_lq v q = min (v (2 * q)) (v (2 * q + 1)) := rfl
  omega
theorem m_lsq (hL : IsL V v) (hR : MLr μ v) {q : Nat} (hq : q < 36) : f_X11_leastOf 85 (nI q) μ = some (enc (s_lq v q), μ) := by
  have hNV : NV = 1000000000 := rfl
  have a := hL.2.1 (2 * q) (by omega)
  have b := hL.2.1 (2 * q + 1) (by omega)
  have e : s_lq v q = min (v (2 * q)) (v (2 * q + 1)) := rfl
  unfold f_X11_leastOf
  simp (disch := omega) only [il, rf_85_0, rf_85_1, rf_85_2, rf_85_3, rf_85_4, rf_85_5, rf_85_6, rf_85_11, rf_85_13, rf_85_14, rf_85_16, rf_85_17, rf_85_19, rf_85_20, rf_85_21, rf_85_22, rf_85_24, rf_85_27, rf_85_33, rf_85_34, rf_85_36, rf_85_37, rf_85_38, rf_85_39, al_86, al_87, al_88, al_89, al_90, al_91, al_92, al_93, al_94, al_95, al_96, al_97, al_98, al_99, al_100, al_101, al_102, al_103, al_104, al_105, al_106, al_107, al_108, al_109, pk_mul, nI_add, gA_n, nI_clamp, lt_d, hR (2 * q) (by omega), hR (2 * q + 1) (by omega)]
  by_cases c1 : v (2 * q) = NV
  · rw [c1, enc_nv, if_neg (by decide)]
    rw [c1] at e
    rw [e, show min NV (v (2 * q + 1)) = v (2 * q + 1) by omega]
  · rw [enc_n (by omega : v (2 * q) < NV), if_pos (nI_le (by omega) (by omega))]
    by_cases c2 : v (2 * q + 1) = NV
    · rw [c2, enc_nv, if_neg (by decide)]
      rw [e, c2, show min (v (2 * q)) NV = v (2 * q) by omega, enc_n (by omega)]
    · rw [enc_n (by omega : v (2 * q + 1) < NV), if_pos (nI_le (by omega) (by omega))]
      rw [e, enc_n (by omega)]
      rw [mimin_n (by omega) (by omega)]
theorem x_lsq {e : Nat} (he : e < 2) (hL : IsL V v) (hC : CO e μ V v) {q : Nat} (hq : q < 36) : f_X1_leastOf (21 + 17 * e) (nI q) μ = some (nI (s_lq v q), μ) := by
  have hNV : NV = 1000000000 := rfl
  have a := hL.2.1 (2 * q) (by omega)
  have b := hL.2.1 (2 * q + 1) (by omega)
  unfold f_X1_leastOf
  simp (disch := omega) only [il, (tc he).2.2.1, (ta he).2.2.2.1, pk_mul, nI_add, gA_n, nI_clamp, hC.2.2.2.1 (2 * q) (by omega), hC.2.2.2.1 (2 * q + 1) (by omega)]
  rw [mimin_n (by omega) (by omega)]
  rfl
/-- how many squares have LEAST; all LEAST together -/
def s_rch (v : Nat → Nat) (n : Nat) : Nat := sm (fun q => if s_lq v q = NV then 0 else 1) n
def s_tog (v : Nat → Nat) (n : Nat) : Nat := sm (fun q => if s_lq v q = NV then 0 else s_lq v q) n
theorem s_rch_le {n : Nat} : s_rch v n ≤ n := by
  have := sm_le (f := fun q => if s_lq v q = NV then 0 else 1) (c := 1) (n := n) (fun k _ => by split <;> omega)
  unfold s_rch
  omega
theorem s_tog_le (hL : IsL V v) {n : Nat} (hn : n ≤ 36) : s_tog v n ≤ n * 160000 := by
  refine sm_le (fun k hk => ?_)
  have := s_lq_le hL (q := k) (by omega)
  split <;> omega
theorem s_rch_0 {k : Nat} (h : s_lq v k = NV) : s_rch v (k + 1) = s_rch v k := by
  show s_rch v k + (if s_lq v k = NV then 0 else 1) = _
  rw [if_pos h]
  rfl
theorem s_rch_1 {k : Nat} (h : ¬ s_lq v k = NV) : s_rch v (k + 1) = s_rch v k + 1 := by
  show s_rch v k + (if s_lq v k = NV then 0 else 1) = _
  rw [if_neg h]
theorem s_tog_0 {k : Nat} (h : s_lq v k = NV) : s_tog v (k + 1) = s_tog v k := by
  show s_tog v k + (if s_lq v k = NV then 0 else s_lq v k) = _
  rw [if_pos h]
  rfl
theorem s_tog_1 {k : Nat} (h : ¬ s_lq v k = NV) : s_tog v (k + 1) = s_tog v k + s_lq v k := by
  show s_tog v k + (if s_lq v k = NV then 0 else s_lq v k) = _
  rw [if_neg h]
theorem x_rch {e : Nat} (he : e < 2) (hL : IsL V v) (hC : CO e μ V v) : ∀ (n k : Nat), k ≤ 36 → 36 - k < n → f_X1_squaresReached_b4 (21 + 17 * e) n (nI (s_rch v k)) (nI k) μ = some (nI (s_rch v 36), μ) := by
  intro n
  induction n with
  | zero => intro k hk hn; omega
  | succ n ih =>
    intro k hk hn
    have hNV : NV = 1000000000 := rfl
    rw [f_X1_squaresReached_b4]
    simp (disch := omega) only [il, nI_leI]
    by_cases c : 36 ≤ k
    · rw [if_pos c, show k = 36 by omega]
    · rw [if_neg c, bnd_e (x_lsq he hL hC (by omega))]
      have hb := s_lq_le hL (q := k) (by omega)
      have hr := @s_rch_le v k
      simp (disch := omega) only [nI_eq, lt_d, nI_add]
      have i1 := ih (k + 1) (by omega) (by omega)
      by_cases c2 : s_lq v k = NV
      · rw [if_pos (show s_lq v k = 1000000000 from c2)]
        rw [s_rch_0 c2] at i1
        exact i1
      · rw [if_neg (show ¬ s_lq v k = 1000000000 from c2)]
        rw [s_rch_1 c2] at i1
        exact i1
theorem m_rch (hL : IsL V v) (hR : MLr μ v) : ∀ (n k : Nat), k ≤ 36 → 36 - k < n → f_X11_reached_b4 85 n (nI (s_rch v k)) (nI k) μ = some (nI (s_rch v 36), μ) := by
  intro n
  induction n with
  | zero => intro k hk hn; omega
  | succ n ih =>
    intro k hk hn
    have hNV : NV = 1000000000 := rfl
    rw [f_X11_reached_b4]
    simp (disch := omega) only [il, nI_leI]
    by_cases c : 36 ≤ k
    · rw [if_pos c, show k = 36 by omega]
    · rw [if_neg c, bnd_e (m_lsq hL hR (by omega))]
      have hb := s_lq_le hL (q := k) (by omega)
      simp (disch := omega) only [lt_d, nI_add]
      have i1 := ih (k + 1) (by omega) (by omega)
      by_cases c2 : s_lq v k = NV
      · rw [show enc (s_lq v k) = -nI 1 from if_pos c2, if_pos (by decide)]
        rw [s_rch_0 c2] at i1
        exact i1
      · rw [show enc (s_lq v k) = nI (s_lq v k) from if_neg c2, if_neg (nI_lt0 (by omega))]
        rw [s_rch_1 c2] at i1
        exact i1
theorem x_tog {e : Nat} (he : e < 2) (hL : IsL V v) (hC : CO e μ V v) : ∀ (n k : Nat), k ≤ 36 → 36 - k < n → f_X1_leastTogether_b4 (21 + 17 * e) n (nI (s_tog v k)) (nI k) μ = some (nI (s_tog v 36), μ) := by
  intro n
  induction n with
  | zero => intro k hk hn; omega
  | succ n ih =>
    intro k hk hn
    have hNV : NV = 1000000000 := rfl
    rw [f_X1_leastTogether_b4]
    simp (disch := omega) only [il, nI_leI]
    by_cases c : 36 ≤ k
    · rw [if_pos c, show k = 36 by omega]
    · rw [if_neg c, bnd_e (x_lsq he hL hC (by omega)), bnd_e (x_lsq he hL hC (by omega))]
      have hb := s_lq_le hL (q := k) (by omega)
      simp (disch := omega) only [nI_eq, lt_d, nI_add]
      have i1 := ih (k + 1) (by omega) (by omega)
      by_cases c2 : s_lq v k = NV
      · rw [if_pos (show s_lq v k = 1000000000 from c2)]
        rw [s_tog_0 c2] at i1
        exact i1
      · rw [if_neg (show ¬ s_lq v k = 1000000000 from c2)]
        rw [s_tog_1 c2] at i1
        exact i1
theorem mimax_n {b : Nat} (hb : b < 2 ^ 31) : mimax (nI 0) (nI b) = nI b := by
  by_cases c : 0 < b
  · exact if_pos (nI_lt c hb)
  · rw [show b = 0 by omega]; rfl
theorem m_tog (hL : IsL V v) (hR : MLr μ v) : ∀ (n k : Nat), k ≤ 36 → 36 - k < n → f_X11_allLeast_b4 85 n (nI (s_tog v k)) (nI k) μ = some (nI (s_tog v 36), μ) := by
  intro n
  induction n with
  | zero => intro k hk hn; omega
  | succ n ih =>
    intro k hk hn
    have hNV : NV = 1000000000 := rfl
    rw [f_X11_allLeast_b4]
    simp (disch := omega) only [il, nI_leI]
    by_cases c : 36 ≤ k
    · rw [if_pos c, show k = 36 by omega]
    · rw [if_neg c, bnd_e (m_lsq hL hR (by omega))]
      have hb := s_lq_le hL (q := k) (by omega)
      have i1 := ih (k + 1) (by omega) (by omega)
      by_cases c2 : s_lq v k = NV
      · rw [show enc (s_lq v k) = -nI 1 from if_pos c2, show mimax (nI 0) (-nI 1) = nI 0 by decide]
        rw [s_tog_0 c2] at i1
        simp (disch := omega) only [lt_d, nI_add]
        exact i1
      · rw [show enc (s_lq v k) = nI (s_lq v k) from if_neg c2, mimax_n (by omega)]
        rw [s_tog_1 c2] at i1
        simp (disch := omega) only [lt_d, nI_add]
        exact i1
end SQ
