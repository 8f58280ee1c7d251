/-! land -/
theorem lb_m1 : ∀ q, q < 36 → ∀ k, k < 36 → (2 ^ q).testBit k = decide (k = q) := by decide +kernel
theorem lb_m0 : ∀ q, q < 36 → ∀ k, k < 36 → (2 ^ 64 - 1 - 2 ^ q).testBit k = !decide (k = q) := by decide +kernel
theorem lb_x : ∀ q, q < 36 → (lN (2 ^ q) ^^^ (-1 : Int64)) = lN (2 ^ 64 - 1 - 2 ^ q) := by decide +kernel
theorem lb_b {B k : Nat} : B / 2 ^ k % 2 = (B.testBit k).toNat := (Nat.toNat_testBit B k).symm
theorem lb_or {B q : Nat} {V : SV} (h : LB B V) (hq : q < 36) : LB (B ||| 2 ^ q) (upV V 6 q 1) := by
  refine ⟨Nat.or_lt_two_pow h.1 (wb_lt2 hq), fun k hk => ?_⟩
  rw [lb_b, Nat.testBit_or, lb_m1 q hq k hk]
  by_cases c : k = q
  · subst c; rw [upV_e]; simp
  · rw [upV_n (Or.inr c), ← h.2 k hk, lb_b]; simp [c]
theorem lb_an {B q : Nat} {V : SV} (h : LB B V) (hq : q < 36) : LB (B &&& (2 ^ 64 - 1 - 2 ^ q)) (upV V 6 q 0) := by
  refine ⟨Nat.lt_of_le_of_lt Nat.and_le_left h.1, fun k hk => ?_⟩
  rw [lb_b, Nat.testBit_and, lb_m0 q hq k hk]
  by_cases c : k = q
  · subst c; rw [upV_e]; simp
  · rw [upV_n (Or.inr c), ← h.2 k hk, lb_b]; simp [c]
def zb (a : Int32) : Nat := if a = nI 0 then 0 else 1
theorem x_putLand {o q : Nat} {V : SV} {μ : Mem} (hM : XSea o μ V) (hq : q < 36) (a2 : Int32) : ∃ B2, f_X6_putLand o (nI q) a2 μ = some (sI (sL μ o 6 (lN B2)) o 10 (μ.1 o 10 + nI 1)) ∧ LB B2 (upV V 6 q (zb a2)) := by
  obtain ⟨B, hB, hL⟩ := hM.2.2.2.2.2.2.1
  have e1 : (1 : Int64) <<< ((nI q).toInt64 &&& 63) = lN (2 ^ q) := by
    have h := wb_shl 1 (k := q) (by omega)
    rw [Nat.one_mul] at h
    exact h
  have hB36 := hL.1
  have hq36 := wb_lt2 hq
  unfold f_X6_putLand f_X6_putLand_b28
  rw [e1, hB]
  simp only [il, lt_d]
  by_cases c : a2 = nI 0
  · rw [if_pos c, show zb a2 = 0 from if_pos c, lb_x q hq, wb_and (by omega) (Nat.lt_of_le_of_lt (Nat.sub_le _ _) (by decide))]
    exact ⟨_, rfl, lb_an hL hq⟩
  · rw [if_neg c, show zb a2 = 1 from if_neg c, wb_or (by omega) (by omega)]
    exact ⟨_, rfl, lb_or hL hq⟩
theorem ok6 {V : SV} (h : SVok V) {q x : Nat} (hx : x < 2) (hq : x = 0 ∨ q ≠ V 7 0) : SVok (upV V 6 q x) := by
  obtain ⟨h1, h2, h3, h4, h5, h6, h7, h8, h9⟩ := h
  have e : ∀ a k, a ≠ 6 → upV V 6 q x a k = V a k := fun a k ha => upV_n (Or.inl ha)
  refine ⟨fun k hk => ?_, fun k hk => ?_, fun k hk => ?_, ?_, fun k hk => ?_, ?_, ?_, ?_, ?_⟩
  · rw [e 0 _ (by decide), e 1 _ (by decide)]; exact h1 k hk
  · rw [e 2 _ (by decide), e 3 _ (by decide)]; exact h2 k hk
  · rw [e 4 _ (by decide)]; exact h3 k hk
  · rw [e 5 _ (by decide), e 5 _ (by decide)]; exact h4
  · by_cases c : k = q
    · rw [c, upV_e]; exact hx
    · rw [upV_n (Or.inr c)]; exact h5 k hk
  · rw [e 7 _ (by decide)]; exact h6
  · rw [e 7 _ (by decide)]; exact h7
  · rw [e 7 _ (by decide)]; exact h8
  · rw [e 7 _ (by decide)]
    by_cases c : V 7 0 = q
    · rcases hq with z | z
      · rw [c, upV_e, z]
      · exact absurd c.symm z
    · rw [upV_n (Or.inr c)]; exact h9
theorem zb_lt (a : Int32) : zb a < 2 := by unfold zb; split <;> omega
theorem call_land (a1 a2 : Int32) : CALL (f_X10_land 0 a1 a2) (f_X11_land 85 a1 a2) := by
  intro n S μ hn hX hM
  obtain ⟨b1, x1, m1, h1⟩ := arg_sq a1
  rcases h1 with rfl | ⟨rfl, q, hq, rfl⟩
  · exact call_q hX hM (r := -nI 1) (by unfold f_X10_land; simp only [il]; rw [bnd_e (x1 _), nI_b0]) (by unfold f_X11_land; simp only [il]; rw [bnd_e (m1 _), nI_b0])
  obtain ⟨hV, hS⟩ := hX.sea
  have hMs := hM.2.1
  have h70 := hV.2.2.2.2.2.1
  have hs0 : μ.1 1 7 = nI (S.1 7 0) := hS.2.2.2.2.2.2.2.1
  have hm0 : ∀ μ, MSea μ S.1 → μ.1 85 7 = nI (S.1 7 0) := fun μ h => h.2.2.2.2.2.2.2.1
  obtain ⟨B2, p1, p2⟩ := x_putLand hS hq a2
  have x29 : f_X10_land_b29 0 (nI q) a2 μ = some (nI (S.1 6 q), sI (sL μ 1 6 (lN B2)) 1 10 (μ.1 1 10 + nI 1)) := by
    have h6 := hV.2.2.2.2.1 q hq
    unfold f_X10_land_b29 f_X10_land_b45
    simp only [il, rf_0_0]
    rw [bnd_e (x_land hV hS hq), bnv_e p1, bnv_e p1]
    by_cases c : S.1 6 q = 0
    · rw [c]; exact if_pos rfl
    · rw [show S.1 6 q = 1 by omega]; exact if_neg (show ¬ nI 1 = nI 0 by decide)
  have m24 : ∀ μ, MSea μ S.1 → f_X11_land_b24 85 (nI q) a2 μ = some (nI (S.1 6 q), sI μ 86 q (nI (zb a2))) := by
    intro μ hm
    unfold f_X11_land_b24
    simp (disch := omega) only [il, rf_85_0, rf_85_1, rf_85_2, rf_85_3, rf_85_4, rf_85_5, rf_85_6, rf_85_11, rf_85_13, rf_85_14, rf_85_16, rf_85_17, rf_85_19, rf_85_20, rf_85_21, rf_85_22, rf_85_24, rf_85_27, rf_85_33, rf_85_34, rf_85_36, rf_85_37, rf_85_38, rf_85_39, al_86, al_87, al_88, al_89, al_90, al_91, al_92, al_93, al_94, al_95, al_96, al_97, al_98, al_99, al_100, al_101, al_102, al_103, al_104, al_105, al_106, al_107, al_108, al_109, gA_n, nI_clamp, lt_d, hm.2.2.2.2.2.2.1 q hq]
    unfold zb
    by_cases c : a2 = nI 0
    · rw [if_pos c, if_pos c]
    · rw [if_neg c, if_neg c]
  by_cases hz : zb a2 = 0 ∨ q ≠ S.1 7 0
  · have eX : f_X10_land 0 (nI q) a2 μ = some (nI (S.1 6 q), sI (sL μ 1 6 (lN B2)) 1 10 (μ.1 1 10 + nI 1)) := by
      unfold f_X10_land
      simp only [il, rf_0_0]
      rw [bnd_e (x1 _), nI_b1, x29, hs0]
      by_cases c : a2 = nI 0
      · rw [if_pos c]
      · rw [if_neg c, if_neg (nI_ne (by omega) (by omega) (by rcases hz with z | z; exact absurd z (by unfold zb; rw [if_neg c]; decide); exact z))]
    have eM : ∀ μ, MSea μ S.1 → f_X11_land 85 (nI q) a2 μ = some (nI (S.1 6 q), sI μ 86 q (nI (zb a2))) := by
      intro μ hm
      unfold f_X11_land
      simp only [il]
      rw [bnd_e (m1 _), nI_b1, m24 μ hm, hm0 μ hm]
      by_cases c : a2 = nI 0
      · rw [if_pos c]
      · rw [if_neg c, if_neg (nI_ne (by omega) (by omega) (by rcases hz with z | z; exact absurd z (by unfold zb; rw [if_neg c]; decide); exact z))]
    have V2 : SVok (upV S.1 6 q (zb a2)) := ok6 hV (zb_lt a2) hz
    have f1 : ∀ i, i ≠ 1 → (sI (sL μ 1 6 (lN B2)) 1 10 (μ.1 1 10 + nI 1)).1 i = μ.1 i ∧ (sI (sL μ 1 6 (lN B2)) 1 10 (μ.1 1 10 + nI 1)).2 i = μ.2 i := fun i hi => ⟨by rw [sI_o hi, sL_1], by rw [sI_2, sL_2, if_neg hi]⟩
    have hX2 := hX.bump (k := 1) (μ2 := sI (sL μ 1 6 (lN B2)) 1 10 (μ.1 1 10 + nI 1)) V2 ((hS.p6 p2).ver) (fun i hi => f1 i (by omega)) (by rw [sI_e]) (by decide) (by decide) hn
    have hM1 := hM.hi (show hi μ (sI (sL μ 1 6 (lN B2)) 1 10 (μ.1 1 10 + nI 1)) from fun i hi => f1 i (by omega))
    exact ⟨_, _, _, (upV S.1 6 q (zb a2), S.2), eX, eM _ hM1.2.1, hX2.lo (fun i hi => ⟨by rw [sI_o (by omega)], rfl⟩), hM1.sea V2 (hM1.2.1.p6) (fun i hi => ⟨by rw [sI_o (by omega)], rfl⟩) (fun k hk => by rw [sI_o (by omega)])⟩
  · have hq2 : q = S.1 7 0 := Classical.byContradiction (fun z => hz (Or.inr z))
    have hc : ¬ a2 = nI 0 := fun z => hz (Or.inl (if_pos z))
    refine call_q hX hM (r := -nI 3) ?_ ?_
    · unfold f_X10_land
      simp only [il, rf_0_0]
      rw [bnd_e (x1 _), nI_b1, if_neg hc, hs0, if_pos (congrArg nI hq2)]
    · unfold f_X11_land
      simp only [il]
      rw [bnd_e (m1 _), nI_b1, if_neg hc, hm0 μ hMs, if_pos (congrArg nI hq2)]
