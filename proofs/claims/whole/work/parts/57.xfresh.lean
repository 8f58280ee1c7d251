/-! the class: the whole chart -/
section XD
variable {e : Nat} {V : SV}
theorem nI_half {u : Nat} (h : u < 2 ^ 31) : nI u / nI 2 = nI (u / 2) ∧ nI u - nI (u / 2) * nI 2 = nI (u % 2) := by
  constructor
  · simp (disch := omega) only [pk_div]
  · simp (disch := omega) only [pk_mul, pk_sub, n_rem]
theorem nI_m1 {n : Nat} (h : n < 2 ^ 31) : ¬ nI n = -nI 1 := fun z => absurd (nI_le (Nat.zero_le n) h) (by rw [z]; decide)
theorem x_sail (hV : SVok V) (he : e < 2) {T : Nat → Bool} {u h : Nat} (hu : u < 72) (hh : h < 8) {v O : Nat → Nat} {cnt : Nat} {μ : Mem} (hC : CM e μ V v O cnt) (hP : PQ V v T O cnt) (hS : SG V v T u h) : ∃ μ2 v2 O2 cnt2, f_X1_sailOn (21 + 17 * e) (nI u) (nI h) μ = some μ2 ∧ XG e μ μ2 ∧ CM e μ2 V v2 O2 cnt2 ∧ PQ V v2 T O2 cnt2 ∧ SG V v2 T u (h + 1) := by
  have hb := @s_bes_lt (u / 2) h (by omega)
  have hto : s_to V (u / 2) h ≤ 36 := by unfold s_to; repeat' split
                                         all_goals omega
  unfold f_X1_sailOn
  simp only [il, (nI_half (show u < 2 ^ 31 by omega)).1, (nI_half (show u < 2 ^ 31 by omega)).2, lt_d, (tc he).2.1]
  rw [bnd_e (x_target hV he hC.1 (by omega) hh)]
  by_cases c : s_to V (u / 2) h = 36
  · rw [if_pos c, if_pos rfl]
    refine ⟨μ, v, O, cnt, rfl, XG.rf e μ, hC, hP, hS.1, hS.2.1, hS.2.2.1, hS.2.2.2.1, fun h2 hh2 => ?_⟩
    rcases (show h2 < h ∨ h2 = h by omega) with q | q
    · exact hS.2.2.2.2 h2 q
    · intro j hj hl
      rw [q] at hl
      have := hl.1
      omega
  · rw [if_neg c, if_neg (nI_m1 (by omega))]
    exact x_sail_b hV he hu hh (by omega) FU 0 v O cnt μ (by omega) (Nat.le_of_ble_eq_true rfl) hC hP hS (fun i hi => by omega)
def DN (e : Nat) (V : SV) (μ0 μ2 : Mem) : Prop := XG e μ0 μ2 ∧ ∃ v, IsL V v ∧ XSea (1 + 30 * e) μ2 V ∧ LegsTo e μ2 V 128 ∧ ∀ k, k < 72 → μ2.1 (26 + 17 * e) k = nI (v k)
theorem x_set22 (hV : SVok V) (he : e < 2) {T : Nat → Bool} {u : Nat} (hu : u < 72) {μ0 : Mem} {x1 : Nat} (K2 : Int32 → Mem → Option Mem) (hK : ∀ (v O : Nat → Nat) (cnt : Nat) (μ : Mem), XG e μ0 μ → CM e μ V v O cnt → PQ V v T O cnt → SG V v T u 8 → ∃ μf, K2 (nI (x1 + 1)) μ = some μf ∧ DN e V μ0 μf) : ∀ (n h : Nat) (v O : Nat → Nat) (cnt : Nat) (μ : Mem), h ≤ 8 → 8 - h < n → XG e μ0 μ → CM e μ V v O cnt → PQ V v T O cnt → SG V v T u h → ∃ μf, f_X1_settleAll_b22 (21 + 17 * e) K2 n (nI x1) (nI u) (nI h) μ = some μf ∧ DN e V μ0 μf := by
  intro n
  induction n with
  | zero => intro h v O cnt μ hh hn; omega
  | succ n ih =>
    intro h v O cnt μ hh hn hG hC hP hS
    rw [f_X1_settleAll_b22]
    simp (disch := omega) only [il, nI_leI, lt_d, nI_add]
    by_cases c : 8 ≤ h
    · rw [if_pos c]
      exact hK v O cnt μ hG hC hP (by have e8 : h = 8 := by omega
                                      rw [← e8]; exact hS)
    · rw [if_neg c]
      obtain ⟨μ2, v2, O2, cnt2, g1, g2, g3, g4, g5⟩ := x_sail hV he hu (by omega) hC hP hS
      rw [bnv_e g1]
      exact ih (h + 1) v2 O2 cnt2 μ2 (by omega) (by omega) (hG.tr g2) g3 g4 g5
theorem x_set2 (hV : SVok V) (he : e < 2) {μ0 : Mem} : ∀ (n r : Nat) (T : Nat → Bool) (v O : Nat → Nat) (cnt : Nat) (μ : Mem), r ≤ 72 → 72 - r < n → XG e μ0 μ → CM e μ V v O cnt → PQ V v T O cnt → OT v T → (∀ x, T x = true → ∀ h, h < 8 → clu V v x h) → ti T = r → ∃ μf, f_X1_settleAll_b2 (21 + 17 * e) n (nI r) μ = some μf ∧ DN e V μ0 μf := by
  intro n
  induction n with
  | zero => intro r T v O cnt μ hr hn; omega
  | succ n ih =>
    intro r T v O cnt μ hr hn hG hC hP hO hcl hti
    have hcs := s_cnt_le v
    have hcn := hP.2.2.2.2.2
    rw [f_X1_settleAll_b2]
    rw [hC.2.2.2.1]
    simp (disch := omega) only [il, nI_leI]
    have fin : cnt = 0 → ∃ μf, some μ = some μf ∧ DN e V μ0 μf := fun h0 => by
      subst h0
      exact ⟨μ, rfl, hG, v, hP.fin hcl, hC.1, hC.2.1, hC.2.2.1⟩
    by_cases c : 72 ≤ r
    · rw [if_pos c]; exact fin (by omega)
    rw [if_neg c]
    by_cases c2 : cnt ≤ 0
    · rw [if_pos c2]; exact fin (by omega)
    rw [if_neg c2]
    obtain ⟨cn, rfl⟩ : ∃ cn, cnt = cn + 1 := ⟨cnt - 1, by omega⟩
    obtain ⟨i0, q1, q2, μ2, q3, q4, q5⟩ := x_take_b he hC hP FU 0 1 (by omega) (by omega) (by omega) (by have : FU = 1000000000000 := rfl; omega) (fun i hi => by rw [show i = 0 by omega]; exact Nat.le_refl _)
    have hu := (hP.2.1 i0 q1).1
    obtain ⟨p1, p2, p3⟩ := hP.take q1 q2 hO hcl
    unfold f_X1_takeNearest
    simp only [il]
    rw [bnd_e q3]
    refine x_set22 hV he hu _ (fun v3 O3 cnt3 μ3 g1 g2 g3 g4 => ?_) FU 0 v _ cn μ2 (by omega) (Nat.le_of_ble_eq_true rfl) (hG.tr q4) q5 p1 p2
    exact ih (r + 1) _ v3 O3 cnt3 μ3 (by omega) (by omega) g1 g2 g3 g4.1 (fun x hx h hh => by
      by_cases c : x = O i0
      · rw [c]; exact g4.2.2.2.2 h hh
      · exact g4.2.2.2.1 x hx c h hh) (by rw [p3, hti])
/-- what LAST is: code 8 times the state before, and the heading; 576: none -/
def LE (V : SV) (v : Nat → Nat) (k h s : Nat) : Prop := v k < NV ∧ ∃ j, j < 4 ∧ s_leg V (k / 2) h (s_dep (v k) j) ∧ s_st V (k / 2) (k % 2) h (s_dep (v k) j) = s ∧ s_arr V (k / 2) (k % 2) h (s_dep (v k) j) = v s
def LW (V : SV) (v : Nat → Nat) (s c : Nat) : Prop := (c = 576 ∧ (v s = NV ∨ s = 2 * V 7 0 + V 7 1)) ∨ (c < 576 ∧ v s < NV ∧ s ≠ 2 * V 7 0 + V 7 1 ∧ LE V v (c / 8) (c % 8) s ∧ ∀ c2, c2 < c → ¬ LE V v (c2 / 8) (c2 % 8) s)
def lcode (c : Nat) : Int32 := if c = 576 then -nI 5 else nI (100 * (c / 16) + 10 * (c / 8 % 2) + c % 8)
theorem LW.one {V : SV} {v : Nat → Nat} {s c d : Nat} (h : LW V v s c) (g : LW V v s d) : c = d := by
  rcases h with ⟨a, b⟩ | ⟨a, b1, b2, b3, b4⟩ <;> rcases g with ⟨a', b'⟩ | ⟨a', b1', b2', b3', b4'⟩
  · omega
  · rcases b with q | q
    · omega
    · exact absurd q b2'
  · rcases b' with q | q
    · omega
    · exact absurd q b2
  · rcases (show c < d ∨ c = d ∨ d < c by omega) with q | q | q
    · exact absurd b3 (b4' c q)
    · exact q
    · exact absurd b3' (b4 d q)
/-- the chart holds v, and what it kept of LAST is right -/
def CO (e : Nat) (μ : Mem) (V : SV) (v : Nat → Nat) : Prop := IsL V v ∧ XSea (1 + 30 * e) μ V ∧ LegsTo e μ V 128 ∧ (∀ k, k < 72 → μ.1 (26 + 17 * e) k = nI (v k)) ∧ ∀ k, k < 72 → μ.1 (28 + 17 * e) k = -nI 1 ∨ ∃ c, LW V v k c ∧ μ.1 (28 + 17 * e) k = lcode c
/-- a chart by its versions -/
def KI (e : Nat) (μ : Mem) (V : SV) : Prop := XSea (1 + 30 * e) μ V ∧ (μ.1 (21 + 17 * e) 8 = μ.1 (1 + 30 * e) 10 → ∃ v, CO e μ V v) ∧ (μ.1 (22 + 17 * e) 4 = μ.1 (1 + 30 * e) 10 → LegsTo e μ V 128)
theorem x_freshen (hV : SVok V) (he : e < 2) {μ : Mem} (hK : KI e μ V) : ∃ μ2 v, f_X1_freshen (21 + 17 * e) μ = some μ2 ∧ XF e μ μ2 ∧ KI e μ2 V ∧ CO e μ2 V v ∧ μ2.1 (21 + 17 * e) 8 = μ.1 (1 + 30 * e) 10 ∧ (μ2.1 (22 + 17 * e) 4 = μ.1 (22 + 17 * e) 4 ∨ μ2.1 (22 + 17 * e) 4 = μ.1 (1 + 30 * e) 10) := by
  obtain ⟨k1, k2, k3⟩ := id hK
  have hVb := hV.2.2.2.2.2
  have hNV : NV = 1000000000 := rfl
  unfold f_X1_freshen
  simp only [(tc he).1, (tc he).2.1, (tc he).2.2.1, (tc he).2.2.2.2.1, il]
  by_cases c : μ.1 (21 + 17 * e) 8 = μ.1 (1 + 30 * e) 10
  · rw [if_pos c]
    obtain ⟨v, hv⟩ := k2 c
    exact ⟨μ, v, rfl, XF.rf e μ, hK, hv, c, Or.inl rfl⟩
  rw [if_neg c]
  obtain ⟨μ1, a1, a2, a3, a4, a5⟩ := x_lfresh hV he k1 k3
  rw [bnv_e a1]
  have hal := ta he
  have e26 : aln (26 + 17 * e) = 72 := hal.2.2.2.1
  have e28 : aln (28 + 17 * e) = 72 := hal.2.2.2.2.2.1
  have hFU : FU = 1000000000000 := rfl
  rw [bnv_e (x_fill (by omega) _ μ1 (by omega)), bnv_e (x_fill (by omega) _ _ (by omega))]
  simp only [lt_d, e26, e28]
  generalize hm3 : sI (rI (rI μ1 (26 + 17 * e) fun j => if j < 72 then nI 1000000000 else μ1.1 (26 + 17 * e) j) (28 + 17 * e) fun j => if j < 72 then -nI 1 else (rI μ1 (26 + 17 * e) fun j => if j < 72 then nI 1000000000 else μ1.1 (26 + 17 * e) j).1 (28 + 17 * e) j) (21 + 17 * e) 4 (nI 0) = μ3
  have f13 : XF e μ1 μ3 := by
    subst hm3
    refine ⟨rfl, fun i hi => ?_⟩
    rw [sI_o (by omega), rI_1, if_neg (by omega), rI_1, if_neg (by omega)]
  have L3 : LegsTo e μ3 V 128 := by
    intro k hk
    have := a3 k hk
    subst hm3
    rw [sI_o (by omega), sI_o (by omega), sI_o (by omega), rI_1, if_neg (by omega), rI_1, if_neg (by omega), rI_1, if_neg (by omega), rI_1, if_neg (by omega), rI_1, if_neg (by omega), rI_1, if_neg (by omega)]
    exact this
  have l3 : ∀ k, k < 72 → μ3.1 (26 + 17 * e) k = nI NV := by
    intro k hk
    subst hm3
    rw [sI_o (by omega), rI_1, if_neg (by omega), rI_1, if_pos rfl, if_pos hk]
    rfl
  have g3 : ∀ k, k < 72 → μ3.1 (28 + 17 * e) k = -nI 1 := by
    intro k hk
    subst hm3
    rw [sI_o (by omega), rI_1, if_pos rfl, if_pos hk]
  have o3 : μ3.1 (21 + 17 * e) 4 = nI 0 := by subst hm3; exact sI_e
  have v3 : μ3.1 (22 + 17 * e) 4 = μ.1 (1 + 30 * e) 10 := by
    subst hm3
    rw [sI_o (by omega), rI_1, if_neg (by omega), rI_1, if_neg (by omega)]
    exact a4
  have F3 : XF e μ μ3 := a2.tr f13
  have S3 : XSea (1 + 30 * e) μ3 V := k1.xf he F3
  clear hm3
  unfold f_X1_startSpot
  rw [bnd_s]
  simp (disch := omega) only [il, (tc he).1, S3.2.2.2.2.2.2.2.1, S3.2.2.2.2.2.2.2.2.1, S3.2.2.2.2.2.2.2.2.2, pk_mul, nI_add]
  have C3 : CM e μ3 V (fun _ => NV) (fun _ => 0) 0 := ⟨S3, L3, l3, o3, fun i hi => absurd hi (Nat.not_lt_zero i)⟩
  obtain ⟨μ4, b1, b2, b3⟩ := x_reach he C3 (s := 2 * V 7 0 + V 7 1) (a := V 7 2) (by omega) (Nat.le_refl _) (fun _ => by decide) (by decide)
  rw [bnv_e b1]
  have es : s_up (fun _ => NV) (2 * V 7 0 + V 7 1) (V 7 2) = s_v0 V := rfl
  have ec : c_up (fun _ => NV) 0 (2 * V 7 0 + V 7 1) = 1 := if_pos rfl
  have eo : ∀ i, i < 1 → o_up (fun _ => NV) (fun _ => 0) 0 (2 * V 7 0 + V 7 1) i = 2 * V 7 0 + V 7 1 := fun i hi => by
    unfold o_up
    rw [if_pos rfl]
    exact if_pos (by omega)
  rw [es, ec] at b3
  have hcnt : s_cnt (s_v0 V) = 1 := by
    have e1 := s_cnt_up (v := fun _ => NV) (s := 2 * V 7 0 + V 7 1) (a := V 7 2) (by omega) (by omega)
    rw [es] at e1
    rw [if_neg (by decide), show s_cnt (fun _ => NV) = 0 by decide +kernel] at e1
    omega
  have P4 : PQ V (s_v0 V) (fun _ => false) (o_up (fun _ => NV) (fun _ => 0) 0 (2 * V 7 0 + V 7 1)) 1 := by
    refine ⟨⟨s_v0_p, fun k hk => ?_, fun k hk hk0 hv => ?_⟩, fun i hi => ?_, fun i j hi hj _ => by omega, fun k hk hv => ?_, fun k hk => (Bool.noConfusion hk), ?_⟩
    · by_cases ck : k = 2 * V 7 0 + V 7 1
      · right; rw [ck, s_v0_p]; omega
      · left; exact s_v0_n ck
    · exfalso; rw [s_v0_n hk0] at hv; omega
    · rw [eo i hi]
      exact ⟨by omega, by rw [s_v0_p]; omega, rfl⟩
    · by_cases ck : k = 2 * V 7 0 + V 7 1
      · exact Or.inr ⟨0, by omega, by rw [eo 0 (by omega), ck]⟩
      · exfalso; rw [s_v0_n ck] at hv; omega
    · rw [hcnt, show ti (fun _ => false) = 0 by decide +kernel]
  unfold f_X1_settleAll
  obtain ⟨μ5, d1, d2, v, d3, d4, d5, d6⟩ := x_set2 hV he (μ0 := μ4) FU 0 (fun _ => false) _ _ 1 μ4 (by omega) (Nat.le_of_ble_eq_true rfl) (XG.rf e μ4) b3 P4 (fun x w hx => Bool.noConfusion hx) (fun x hx => Bool.noConfusion hx) (by decide +kernel)
  rw [show (0 : Int32) = nI 0 from rfl, bnv_e d1]
  have F5 : XF e μ μ5 := (F3.tr b2.xf).tr d2.xf
  have e10 : μ5.1 (1 + 30 * e) = μ.1 (1 + 30 * e) := F5.2 _ (by omega)
  have G5 : XG e μ3 μ5 := b2.tr d2
  have F6 : XF e μ (sI μ5 (21 + 17 * e) 8 (μ5.1 (1 + 30 * e) 10)) := F5.tr (XF.s (by omega) (by omega))
  have hL : LegsTo e (sI μ5 (21 + 17 * e) 8 (μ5.1 (1 + 30 * e) 10)) V 128 := d5.s (by omega)
  have hCO : CO e (sI μ5 (21 + 17 * e) 8 (μ5.1 (1 + 30 * e) 10)) V v := by
    refine ⟨d3, k1.xf he F6, hL, fun k hk => ?_, fun k hk => Or.inl ?_⟩
    · rw [sI_o (by omega)]; exact d6 k hk
    · rw [sI_o (by omega), G5.2.1 _ (by omega) (by omega) (by omega)]; exact g3 k hk
  refine ⟨_, v, rfl, F6, ⟨k1.xf he F6, fun _ => ⟨v, hCO⟩, fun _ => hL⟩, hCO, ?_, Or.inr ?_⟩
  · rw [sI_e, e10]
  · rw [sI_o (by omega), G5.2.1 _ (by omega) (by omega) (by omega), v3]
end XD
