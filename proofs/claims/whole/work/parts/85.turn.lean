/-! another wind: the sea copied, the legs tried -/
theorem cp_k {n : Nat} (hn : n < 2 ^ 31) : cp_ok (0 : Int32) (0 : Int32) (nI n) n n = true := by
  unfold cp_ok
  rw [show (0 : Int32) = nI 0 from rfl, nI_clamp (by decide), nI_clamp hn]
  rw [decide_eq_false (show ¬ nI 0 < nI 0 by decide), decide_eq_false (show ¬ nI n < nI 0 from nI_pos hn), Nat.zero_add, decide_eq_true (Nat.le_refl n)]
  rfl
theorem cpI_o {μ : Mem} {a b n i : Nat} (h : i ≠ b) : (cpI μ a b (0 : Int32) (0 : Int32) (nI n)).1 i = μ.1 i := if_neg h
theorem cpI_e {μ : Mem} {a b n k : Nat} (hn : n < 2 ^ 31) (hk : k < n) : (cpI μ a b (0 : Int32) (0 : Int32) (nI n)).1 b k = μ.1 a k := by
  show (rI μ b _).1 b k = _
  rw [rI_1, if_pos rfl, show (0 : Int32) = nI 0 from rfl, nI_clamp (by decide), nI_clamp hn, pk_cpy_in (Nat.zero_le _) (by omega), Nat.sub_zero, Nat.zero_add]
theorem cpI_2 {μ : Mem} {a b n : Nat} : (cpI μ a b (0 : Int32) (0 : Int32) (nI n)).2 = μ.2 := rfl
theorem x_like {o a : Nat} {μ : Mem} {V : SV} (ho : isS o) (ha : isS a) (hne : o ≠ a) (hM : XSea a μ V) : ∃ μ2, f_X6_becomeLike o a μ = some μ2 ∧ XSea o μ2 V ∧ μ2.1 o 10 = μ.1 o 10 + nI 1 ∧ (∀ i, (i < o ∨ o + 6 < i) → μ2.1 i = μ.1 i ∧ μ2.2 i = μ.2 i) := by
  obtain ⟨r1, r2, r3, r4, r5, r6⟩ := xs_rf ho
  obtain ⟨s1, s2, s3, s4, s5, s6⟩ := xs_rf ha
  obtain ⟨l1, l2, l3, l4, l5, l6⟩ := xs_al ho
  obtain ⟨n1, n2, n3, n4, n5, n6⟩ := xs_al ha
  have hd : o + 6 < a ∨ a + 6 < o := by
    rcases ho with rfl | rfl | rfl <;> rcases ha with rfl | rfl | rfl <;> first | omega | exact absurd rfl hne
  obtain ⟨h1, h2, h3, h4, h5, h6, ⟨B, hB, hB2⟩, h8, h9, h10⟩ := hM
  unfold f_X6_becomeLike
  simp only [lt_d, r1, r2, r3, r4, r5, r6, s1, s2, s3, s4, s5, s6, l1, l2, l3, l4, l5, l6, n1, n2, n3, n4, n5, n6]
  rw [cp_k (n := 16) (by decide), cp_k (n := 4) (by decide), cp_k (n := 15) (by decide), cp_k (n := 2) (by decide), gP_t, gP_t, gP_t, gP_t, gP_t, gP_t]
  refine ⟨_, rfl, ⟨fun k hk => ?_, fun k hk => ?_, fun k hk => ?_, fun k hk => ?_, fun k hk => ?_, ⟨?_, ?_⟩, ⟨B, ?_, hB2⟩, ?_, ?_, ?_⟩, ?_, fun i hi => ⟨?_, ?_⟩⟩
  all_goals simp only [sI_2, sL_1]
  · rw [sI_o (by omega), sI_o (by omega), sI_o (by omega), sI_o (by omega), sL_1, cpI_o (by omega), cpI_o (by omega), cpI_o (by omega), cpI_o (by omega), cpI_o (by omega), cpI_e (by decide) hk]; exact h1 k hk
  · rw [sI_o (by omega), sI_o (by omega), sI_o (by omega), sI_o (by omega), sL_1, cpI_o (by omega), cpI_o (by omega), cpI_o (by omega), cpI_o (by omega), cpI_e (by decide) hk, cpI_o (by omega)]; exact h2 k hk
  · rw [sI_o (by omega), sI_o (by omega), sI_o (by omega), sI_o (by omega), sL_1, cpI_o (by omega), cpI_o (by omega), cpI_o (by omega), cpI_e (by decide) hk, cpI_o (by omega), cpI_o (by omega)]; exact h3 k hk
  · rw [sI_o (by omega), sI_o (by omega), sI_o (by omega), sI_o (by omega), sL_1, cpI_o (by omega), cpI_o (by omega), cpI_e (by decide) hk, cpI_o (by omega), cpI_o (by omega), cpI_o (by omega)]; exact h4 k hk
  · rw [sI_o (by omega), sI_o (by omega), sI_o (by omega), sI_o (by omega), sL_1, cpI_o (by omega), cpI_e (by decide) hk, cpI_o (by omega), cpI_o (by omega), cpI_o (by omega), cpI_o (by omega)]; exact h5 k hk
  · rw [sI_o (by omega), sI_o (by omega), sI_o (by omega), sI_o (by omega), sL_1, cpI_e (by decide) (by decide), cpI_o (by omega), cpI_o (by omega), cpI_o (by omega), cpI_o (by omega), cpI_o (by omega)]; exact h6.1
  · rw [sI_o (by omega), sI_o (by omega), sI_o (by omega), sI_o (by omega), sL_1, cpI_e (by decide) (by decide), cpI_o (by omega), cpI_o (by omega), cpI_o (by omega), cpI_o (by omega), cpI_o (by omega)]; exact h6.2
  · rw [sL_2, if_pos rfl, updL_a, if_pos rfl]; exact hB
  · rw [sI_n (Or.inr (by decide)), sI_n (Or.inr (by decide)), sI_n (Or.inr (by decide)), sI_e, cpI_o (by omega), cpI_o (by omega), cpI_o (by omega), cpI_o (by omega), cpI_o (by omega), cpI_o (by omega)]; exact h8
  · rw [sI_n (Or.inr (by decide)), sI_n (Or.inr (by decide)), sI_e, sI_o (by omega), sL_1, cpI_o (by omega), cpI_o (by omega), cpI_o (by omega), cpI_o (by omega), cpI_o (by omega), cpI_o (by omega)]; exact h9
  · rw [sI_n (Or.inr (by decide)), sI_e, sI_o (by omega), sI_o (by omega), sL_1, cpI_o (by omega), cpI_o (by omega), cpI_o (by omega), cpI_o (by omega), cpI_o (by omega), cpI_o (by omega)]; exact h10
  · rw [sI_e, sI_n (Or.inr (by decide)), sI_n (Or.inr (by decide)), sI_n (Or.inr (by decide)), sL_1, cpI_o (by omega), cpI_o (by omega), cpI_o (by omega), cpI_o (by omega), cpI_o (by omega), cpI_o (by omega)]; rfl
  · rw [sI_o (by omega), sI_o (by omega), sI_o (by omega), sI_o (by omega), sL_1, cpI_o (by omega), cpI_o (by omega), cpI_o (by omega), cpI_o (by omega), cpI_o (by omega), cpI_o (by omega)]
  · rw [sL_2, if_neg (by omega)]; rfl
theorem upV_id {V : SV} {a k x : Nat} (h : V a k = x) : upV V a k x = V := by
  funext i j
  by_cases c : i = a ∧ j = k
  · rw [show upV V a k x i j = x from if_pos c, c.1, c.2, h]
  · exact if_neg c
theorem upV_up {V : SV} {a k x y : Nat} : upV (upV V a k x) a k y = upV V a k y := by
  funext i j
  by_cases c : i = a ∧ j = k
  · rw [show upV (upV V a k x) a k y i j = y from if_pos c, show upV V a k y i j = y from if_pos c]
  · rw [show upV (upV V a k x) a k y i j = upV V a k x i j from if_neg c, show upV V a k y i j = V i j from if_neg c]
    exact if_neg c
/-- the tried sea has just changed -/
theorem KI.st {μ : Mem} {W : SV} {b : Nat} (hX : XSea 31 μ W) (h1 : VL (μ.1 38 8) b) (h2 : VL (μ.1 39 4) b) (hv : μ.1 31 10 = nI (b + 1)) (hb : b < 2 ^ 30) : KI 1 μ W := by
  refine ⟨hX, fun z => ?_, fun z => ?_⟩
  · exact absurd (z.trans hv) (h1.ne (by omega) (by omega))
  · exact absurd (z.trans hv) (h2.ne (by omega) (by omega))
/-- what stands while winds are tried -/
def TW (μ0 : Mem) (b0 f : Nat) (W : SV) (μ : Mem) : Prop := (∀ i, i ≤ 30 ∨ 47 < i → μ.1 i = μ0.1 i ∧ μ.2 i = μ0.2 i) ∧ ∃ b, b ≤ b0 + 1 + f ∧ μ.1 31 10 = nI b ∧ VL (μ.1 38 8) b ∧ VL (μ.1 39 4) b ∧ KI 1 μ W
def LB47 (V : SV) (k f q : Nat) (μ : Mem) : Prop := ∀ f2 q2, (f2 < f ∨ (f2 = f ∧ q2 < q)) → f2 < 8 → q2 < 36 → μ.1 47 (36 * f2 + q2) = nI (s_lq (s_L (upV V 0 k f2)) q2)
theorem x_tw73 {V : SV} {k f : Nat} {μ0 : Mem} {b0 : Nat} (hf : f < 8) (a1 : Nat) (a2 a3 : Int32) (K39 : Int32 → Mem → Option Mem) {v : Nat → Nat} (hv : v = s_L (upV V 0 k f)) {R : Mem → Prop} (hK : ∀ μ, TW μ0 b0 (f + 1) (upV V 0 k f) μ → LB47 V k (f + 1) 0 μ → ∃ μf, K39 (nI (f + 1)) μ = some μf ∧ R μf) : ∀ (n q : Nat) (μ : Mem), q ≤ 36 → 36 - q < n → TW μ0 b0 (f + 1) (upV V 0 k f) μ → CO 1 μ (upV V 0 k f) v → LB47 V k f q μ → ∃ μf, f_X8_turnWind_b73 30 a1 a2 a3 K39 n (nI f) (nI q) μ = some μf ∧ R μf := by
  intro n
  induction n with
  | zero => intro q μ hq hn; omega
  | succ n ih =>
    intro q μ hq hn hT hC hB
    rw [f_X8_turnWind_b73]
    simp (disch := omega) only [il, nI_leI]
    by_cases c : 36 ≤ q
    · rw [if_pos c, lt_d, nI_add]
      exact hK μ hT (fun f2 q2 h1 h2 h3 => hB f2 q2 (by omega) h2 h3)
    · have r47 : rf 30 2 = 47 := by decide +kernel
      have r38 : rf 30 1 = 38 := by decide +kernel
      have a47 : aln 47 = 288 := by decide +kernel
      rw [if_neg c, r38, bnd_e (x_lsq (e := 1) (by decide) hC.1 hC (show q < 36 by omega)), r47, a47]
      simp (disch := omega) only [pk_mul, nI_add, gA_n, nI_clamp, lt_d]
      obtain ⟨t1, b, t2, t3, t4, t5, t6, t7, t8⟩ := hT
      refine ih (q + 1) _ (by omega) (by omega) ⟨fun i hi => ⟨by rw [sI_o (by omega)]; exact (t1 i hi).1, (t1 i hi).2⟩, b, t2, by rw [sI_o (by decide)]; exact t3, by rw [sI_o (by decide)]; exact t4, by rw [sI_o (by decide)]; exact t5, KI.cong (by decide) ⟨t6, t7, t8⟩ (fun i hi => sI_o (by omega)) rfl⟩ ?_ (fun f2 q2 h1 h2 h3 => ?_)
      · obtain ⟨c1, c2, c3, c4, c5⟩ := hC
        refine ⟨c1, c2.cong (fun j hj => sI_o (by omega)) rfl (fun j _ _ => by rw [sI_o (by omega)]), fun k hk => ?_, fun k hk => ?_, fun k hk => ?_⟩
        · rw [sI_o (by omega), sI_o (by omega), sI_o (by omega)]; exact c3 k hk
        · rw [sI_o (by omega)]; exact c4 k hk
        · rw [sI_o (by omega)]; exact c5 k hk
      · by_cases e : f2 = f ∧ q2 = q
        · rw [e.1, e.2, show f * 36 + q = 36 * f + q by omega, sI_e, hv]
        · rw [sI_n (Or.inr (by omega))]; exact hB f2 q2 (by omega) h2 h3
/-- the winds were tried -/
def TWf (μ0 : Mem) (b0 z s : Nat) (V : SV) (μf : Mem) : Prop := (∀ i, i < 30 ∨ 47 < i → μf.1 i = μ0.1 i ∧ μf.2 i = μ0.2 i) ∧ (∃ b W2, b ≤ b0 + 9 ∧ SVok W2 ∧ μf.1 31 10 = nI b ∧ VL (μf.1 38 8) b ∧ VL (μf.1 39 4) b ∧ KI 1 μf W2) ∧ μf.1 30 3 = nI z ∧ μf.1 30 4 = nI s ∧ μf.1 30 5 = μ0.1 1 10 ∧ LB47 V (4 * z + s) 8 0 μf
theorem x_tw39 {V : SV} (hV : SVok V) {z s : Nat} (hz : z < 4) (hs : s < 4) {μ0 : Mem} {b0 : Nat} (hb0 : b0 < 2 ^ 25) (h0 : XSea 1 μ0 V) : ∀ (n f : Nat) (W : SV) (μ : Mem), f ≤ 8 → 8 - f < n → SVok W → W 1 = V 1 → (∀ x, upV W 0 (4 * z + s) x = upV V 0 (4 * z + s) x) → TW μ0 b0 f W μ → LB47 V (4 * z + s) f 0 μ → ∃ μf, f_X8_turnWind_b39 30 1 (nI z) (nI s) n (nI f) μ = some μf ∧ TWf μ0 b0 z s V μf := by
  intro n
  induction n with
  | zero => intro f W μ hf hn; omega
  | succ n ih =>
    intro f W μ hf hn hW hW2 hW3 hT hB
    have hFU : FU = 1000000000000 := rfl
    have r31 : rf 30 0 = 31 := by decide +kernel
    have r38 : rf 30 1 = 38 := by decide +kernel
    obtain ⟨t1, b, t2, t3, t4, t5, t6⟩ := hT
    rw [f_X8_turnWind_b39]
    simp (disch := omega) only [il, nI_leI]
    by_cases c : 8 ≤ f
    · rw [if_pos c]
      simp only [lt_d]
      refine ⟨_, rfl, fun i hi => ⟨?_, ?_⟩, ⟨b, W, by omega, hW, ?_, ?_, ?_, ?_⟩, ?_, ?_, ?_, ?_⟩
      · rw [sI_o (by omega), sI_o (by omega), sI_o (by omega)]; exact (t1 i (by omega)).1
      · exact (t1 i (by omega)).2
      · rw [sI_o (by decide), sI_o (by decide), sI_o (by decide)]; exact t3
      · rw [sI_o (by decide), sI_o (by decide), sI_o (by decide)]; exact t4
      · rw [sI_o (by decide), sI_o (by decide), sI_o (by decide)]; exact t5
      · exact t6.cong (by decide) (fun i hi => by rw [sI_o (by omega), sI_o (by omega), sI_o (by omega)]) rfl
      · rw [sI_n (Or.inr (by decide)), sI_n (Or.inr (by decide)), sI_e]
      · rw [sI_n (Or.inr (by decide)), sI_e]
      · rw [sI_e, sI_o (by decide), sI_o (by decide)]; rw [(t1 1 (by omega)).1]
      · intro f2 q2 h1 h2 h3
        rw [sI_o (by decide), sI_o (by decide), sI_o (by decide)]
        exact hB f2 q2 (by omega) h2 h3
    · have hX1 : XSea 1 μ V := h0.cong (fun j hj => (t1 _ (by omega)).1) (t1 1 (by omega)).2 (fun j _ _ => by rw [(t1 1 (by omega)).1])
      have hk : 4 * z + s < 16 := by omega
      have ef := hV.1 (4 * z + s) hk
      rw [if_neg c, bnd_e (x_force (Or.inl rfl) hX1 hz hs), r31, r38]
      have eP : f_X6_putWind 31 (nI z) (nI s) (nI f) (nI (V 1 (4 * z + s))) μ = some (sI (sI (sI μ 32 (4 * z + s) (nI f)) 33 (4 * z + s) (nI (V 1 (4 * z + s)))) 31 10 (nI (b + 1))) := by
        unfold f_X6_putWind
        simp (disch := omega) only [il, rf_31_0, rf_31_1, rf_31_2, rf_31_3, rf_31_4, rf_31_5, al_32, al_33, al_34, al_35, al_36, al_37, pk_mul, nI_add, gA_n, nI_clamp, lt_d, show z * 4 = 4 * z from Nat.mul_comm z 4]
        rw [sI_o (by decide), sI_o (by decide), t3, nI_add]
      rw [bnv_e eP]
      have hXt := ((t6.1).p0 (j := 4 * z + s) (x := f)).p1 (j := 4 * z + s) (x := V 1 (4 * z + s))
      rw [hW3 f, upV_id (show upV V 0 (4 * z + s) f 1 (4 * z + s) = V 1 (4 * z + s) from upV_n (Or.inl (by decide)))] at hXt
      have hV2 : SVok (upV V 0 (4 * z + s) f) := ok0 hV (by omega)
      have hK1 : KI 1 (sI (sI (sI μ 32 (4 * z + s) (nI f)) 33 (4 * z + s) (nI (V 1 (4 * z + s)))) 31 10 (nI (b + 1))) (upV V 0 (4 * z + s) f) := KI.st (b := b) (hXt.ver) (by rw [sI_o (by decide), sI_o (by decide), sI_o (by decide)]; exact t4) (by rw [sI_o (by decide), sI_o (by decide), sI_o (by decide)]; exact t5) (by rw [sI_e]) (by omega)
      obtain ⟨μ2, v, e1, e2, e3, e4, e5, e6⟩ := x_freshen hV2 (e := 1) (by decide) hK1
      rw [bnv_e e1]
      have e31 : μ2.1 31 10 = nI (b + 1) := by rw [e2.2 31 (by omega), sI_e]
      have hT2 : TW μ0 b0 (f + 1) (upV V 0 (4 * z + s) f) μ2 := by
        refine ⟨fun i hi => ⟨?_, ?_⟩, b + 1, by omega, e31, ?_, ?_, e3⟩
        · rw [e2.2 i (by omega), sI_o (by omega), sI_o (by omega), sI_o (by omega)]; exact (t1 i hi).1
        · rw [e2.1]; exact (t1 i hi).2
        · exact Or.inr ⟨b + 1, Nat.le_refl _, by rw [e5]; exact sI_e⟩
        · rcases e6 with w | w
          · rw [w, sI_o (by decide), sI_o (by decide), sI_o (by decide)]; exact t5.up (by omega)
          · exact Or.inr ⟨b + 1, Nat.le_refl _, by rw [w]; exact sI_e⟩
      refine x_tw73 (v := s_L (upV V 0 (4 * z + s) f)) (by omega) 1 (nI z) (nI s) (f_X8_turnWind_b39 30 1 (nI z) (nI s) n) rfl (fun μ3 h1 h2 => ?_) FU 0 μ2 (by decide) (by omega) hT2 (e4.L hV2) (fun f2 q2 h1 h2 h3 => ?_)
      · refine ih (f + 1) (upV V 0 (4 * z + s) f) μ3 (by omega) (by omega) hV2 ?_ (fun x => upV_up) h1 h2
        funext j
        exact upV_n (Or.inl (by decide))
      · rw [e2.2 47 (by omega), sI_o (by decide), sI_o (by decide), sI_o (by decide)]
        exact hB f2 q2 (by omega) h2 h3
/-- the winds of a zone and a span tried -/
theorem XI.turn {n : Nat} {S : ST} {μ : Mem} (h : XI n S μ) (hn : n ≤ 100000) {z s : Nat} (hz : z < 4) (hs : s < 4) : ∃ μ2, f_X8_turnWind 30 1 (nI z) (nI s) μ = some μ2 ∧ XI (n + 1) S μ2 ∧ hi μ μ2 ∧ ∀ f q, f < 8 → q < 36 → μ2.1 47 (36 * f + q) = nI (s_lq (s_L (upV S.1 0 (4 * z + s) f)) q) := by
  have hFU : FU = 1000000000000 := rfl
  have hV := h.1.1.1
  obtain ⟨g, ⟨a, b, W, c1, c2, c3, c4, c5, c6, c7, c8, c9, c10⟩, hh, ⟨i1, i2, i3⟩, ht, hp⟩ := id h
  have h28 : ∃ μ2, f_X8_turnWind_b28 30 1 (nI z) (nI s) μ = some μ2 ∧ TWf μ b z s S.1 μ2 := by
    obtain ⟨μ1, l1, l2, l3, l4⟩ := x_like (o := 31) (a := 1) (Or.inr (Or.inl rfl)) (Or.inl rfl) (by decide) c8.1
    unfold f_X8_turnWind_b28
    rw [show rf 30 0 = 31 by decide +kernel, bnv_e l1]
    have v31 : μ1.1 31 10 = nI (b + 1) := by rw [l3, c5, nI_add]
    have f38 : μ1.1 38 8 = μ.1 38 8 := by rw [(l4 38 (by omega)).1]
    have f39 : μ1.1 39 4 = μ.1 39 4 := by rw [(l4 39 (by omega)).1]
    have hT : TW μ b 0 S.1 μ1 := ⟨fun i hi => l4 i (by omega), b + 1, by omega, v31, by rw [f38]; exact c7.1.up (by omega), by rw [f39]; exact c7.2.up (by omega), KI.st (b := b) l2 (by rw [f38]; exact c7.1) (by rw [f39]; exact c7.2) v31 (by omega)⟩
    exact x_tw39 hV hz hs (by omega) c8.1 FU 0 S.1 μ1 (by decide) (by omega) hV rfl (fun _ => rfl) hT (fun f2 q2 h1 _ _ => by omega)
  have fin : ∀ μ2, TWf μ b z s S.1 μ2 → XI (n + 1) S μ2 ∧ hi μ μ2 ∧ ∀ f q, f < 8 → q < 36 → μ2.1 47 (36 * f + q) = nI (s_lq (s_L (upV S.1 0 (4 * z + s) f)) q) := by
    intro μ2 ⟨t1, ⟨b2, W2, w1, w2, w3, w4, w5, w6⟩, t3, t4, t5, t6⟩
    have vals : ∀ f q, f < 8 → q < 36 → μ2.1 47 (36 * f + q) = nI (s_lq (s_L (upV S.1 0 (4 * z + s) f)) q) := fun f q hf hq => t6 f q (Or.inl hf) hf hq
    have e1 : ∀ i, i < 30 ∨ 47 < i → μ2.1 i = μ.1 i := fun i hi => (t1 i hi).1
    refine ⟨⟨g, ⟨a, b2, W2, by omega, by omega, w2, by rw [e1 1 (by omega)]; exact c4, w3, ⟨?_, ?_, ?_⟩, ⟨w4, w5⟩, c8.cong (by decide) (fun i hi => e1 i (by omega)) (t1 1 (by omega)).2, w6, ?_⟩, hh.cong (fun i _ _ => e1 i (by omega)), ⟨i1.cong (fun j hj => e1 _ (by omega)) (t1 _ (by omega)).2 (fun j _ _ => by rw [e1 _ (by omega)]), i2.cong (fun i _ _ => e1 i (by omega)), by rw [e1 0 (by omega)]; exact i3⟩, ht.cong (by rw [e1 48 (by omega)]) (e1 49 (by omega)), hp.cong (fun i _ _ => t1 i (by omega))⟩, fun i hi => t1 i (by omega), vals⟩
    · rw [e1 21 (by omega)]; exact c6.1
    · rw [e1 22 (by omega)]; exact c6.2.1
    · rw [t5, c4]; exact Or.inr ⟨a, Nat.le_refl _, rfl⟩
    · intro z2 s2 hz2 hs2 y3 y4 _
      rw [t3] at y3
      rw [t4] at y4
      have ez := (nI_eq (by omega) (by omega)).mp y3
      have es := (nI_eq (by omega) (by omega)).mp y4
      subst ez
      subst es
      exact vals
  unfold f_X8_turnWind
  by_cases d1 : nI z = μ.1 30 3
  · by_cases d2 : nI s = μ.1 30 4
    · by_cases d3 : μ.1 30 5 = μ.1 1 10
      · rw [if_pos d1, if_pos d2, if_pos d3]
        exact ⟨μ, rfl, h.up (by omega), hi.rf μ, c10 z s hz hs d1.symm d2.symm d3⟩
      · rw [if_pos d1, if_pos d2, if_neg d3]
        obtain ⟨μ2, e1, e2⟩ := h28
        exact ⟨μ2, e1, fin μ2 e2⟩
    · rw [if_pos d1, if_neg d2]
      obtain ⟨μ2, e1, e2⟩ := h28
      exact ⟨μ2, e1, fin μ2 e2⟩
  · rw [if_neg d1]
    obtain ⟨μ2, e1, e2⟩ := h28
    exact ⟨μ2, e1, fin μ2 e2⟩
