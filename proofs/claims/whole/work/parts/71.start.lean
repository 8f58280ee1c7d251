/-! start -/
def up7 (V : SV) (q s t : Nat) : SV := upV (upV (upV V 7 0 q) 7 1 s) 7 2 t
theorem ok7 {V : SV} (h : SVok V) {q s t : Nat} (hq : q < 36) (hs : s < 2) (ht : t ≤ 9999) (hl : V 6 q = 0) : SVok (up7 V q s t) := by
  obtain ⟨h1, h2, h3, h4, h5, h6⟩ := h
  have e : ∀ i j, i ≠ 7 → up7 V q s t i j = V i j := fun i j hi => by unfold up7; rw [upV_n (Or.inl hi), upV_n (Or.inl hi), upV_n (Or.inl hi)]
  have e0 : up7 V q s t 7 0 = q := by unfold up7; rw [upV_n (Or.inr (by decide)), upV_n (Or.inr (by decide)), upV_e]
  have e1 : up7 V q s t 7 1 = s := by unfold up7; rw [upV_n (Or.inr (by decide)), upV_e]
  have e2 : up7 V q s t 7 2 = t := by unfold up7; rw [upV_e]
  refine ⟨fun k hk => ?_, fun k hk => ?_, fun k hk => ?_, ?_, fun k hk => ?_, ?_⟩
  · rw [e 0 _ (by decide), e 1 _ (by decide)]; exact h1 k hk
  · rw [e 2 _ (by decide), e 3 _ (by decide)]; exact h2 k hk
  · rw [e 4 _ (by decide)]; exact h3 k hk
  · rw [e 5 _ (by decide), e 5 _ (by decide)]; exact h4
  · rw [e 6 _ (by decide)]; exact h5 k hk
  · rw [e0, e1, e2, e 6 _ (by decide)]; exact ⟨hq, hs, ht, hl⟩
/-- who may start: both sides refuse alike -/
theorem start_r {n : Nat} {S : ST} {μ : Mem} (hX : XI n S μ) (a1 a2 a3 : Int32) : (∃ r : Int32, r < 0 ∧ (f_X10_refusalOfStart 0 a1 a2 a3 μ = some (r, μ)) ∧ ∀ μ, MSea μ S.1 → f_X11_notStart 85 a1 a2 a3 μ = some (r, μ)) ∨ (∃ q s t, q < 36 ∧ s < 2 ∧ t ≤ 9999 ∧ a1 = nI q ∧ a2 = nI s ∧ a3 = nI t ∧ S.1 6 q = 0 ∧ f_X10_refusalOfStart 0 a1 a2 a3 μ = some (nI 0, μ) ∧ ∀ μ, MSea μ S.1 → f_X11_notStart 85 a1 a2 a3 μ = some (nI 0, μ)) := by
  obtain ⟨b1, x1, m1, h1⟩ := arg_sq a1
  obtain ⟨b2, x2, m2, h2⟩ := arg_si a2
  rcases h1 with rfl | ⟨rfl, q, hq, rfl⟩
  · exact Or.inl ⟨-nI 1, by decide, by unfold f_X10_refusalOfStart; simp only [il]; rw [bnd_e (x1 _), nI_b0], fun μ _ => by unfold f_X11_notStart; simp only [il]; rw [bnd_e (m1 _), nI_b0]⟩
  rcases h2 with rfl | ⟨rfl, s, hs, rfl⟩
  · exact Or.inl ⟨-nI 1, by decide, by unfold f_X10_refusalOfStart; simp only [il]; rw [bnd_e (x1 _), nI_b1, bnd_e (x2 _), nI_b0], fun μ _ => by unfold f_X11_notStart; simp only [il]; rw [bnd_e (m1 _), nI_b1, bnd_e (m2 _), nI_b0]⟩
  obtain ⟨hV, hS⟩ := hX.sea
  rcases arg_m a3 9999 (by decide) with ⟨q1, q2⟩ | ⟨t, ht, rfl, q0, q1, q2⟩
  · refine Or.inl ⟨-nI 2, by decide, ?_, fun μ _ => by unfold f_X11_notStart; simp only [il]; rw [bnd_e (m1 _), nI_b1, bnd_e (m2 _), nI_b1, bnd_e (q2 _), nI_b0]⟩
    unfold f_X10_refusalOfStart; simp only [il]; rw [bnd_e (x1 _), nI_b1, bnd_e (x2 _), nI_b1]
    rcases q1 with q | ⟨q0, q⟩
    · rw [if_pos q]
    · rw [if_neg q0, if_neg q]
  have eX : f_X10_refusalOfStart 0 (nI q) (nI s) (nI t) μ = (if nI (S.1 6 q) = nI 0 then some (nI 0, μ) else some (-nI 3, μ)) := by
    unfold f_X10_refusalOfStart; simp only [il, rf_0_0]
    rw [bnd_e (x1 _), nI_b1, bnd_e (x2 _), nI_b1, if_neg q0, if_pos q1, bnd_e (x_land hV hS hq)]
  have eM : ∀ μ, MSea μ S.1 → f_X11_notStart 85 (nI q) (nI s) (nI t) μ = (if nI (S.1 6 q) = nI 1 then some (-nI 3, μ) else some (nI 0, μ)) := by
    intro μ hm
    unfold f_X11_notStart; simp only [il]
    rw [bnd_e (m1 _), nI_b1, bnd_e (m2 _), nI_b1, bnd_e (q2 _), nI_b1]
    simp (disch := omega) only [rf_85_0, rf_85_1, rf_85_2, rf_85_3, rf_85_4, rf_85_5, rf_85_6, rf_85_11, rf_85_13, rf_85_14, rf_85_16, rf_85_17, rf_85_19, rf_85_20, rf_85_21, rf_85_22, rf_85_24, rf_85_27, rf_85_33, rf_85_34, rf_85_36, rf_85_37, rf_85_38, rf_85_39, al_86, al_87, al_88, al_89, al_90, al_91, al_92, al_93, al_94, al_95, al_96, al_97, al_98, al_99, al_100, al_101, al_102, al_103, al_104, al_105, al_106, al_107, al_108, al_109, gA_n, nI_clamp, hm.2.2.2.2.2.2.1 q hq]
  have h6 := hV.2.2.2.2.1 q hq
  by_cases c : S.1 6 q = 0
  · refine Or.inr ⟨q, s, t, hq, hs, ht, rfl, rfl, rfl, c, ?_, fun μ hm => ?_⟩
    · rw [eX, c]; exact if_pos rfl
    · rw [eM μ hm, c]; exact if_neg (by decide)
  · have c1 : S.1 6 q = 1 := by omega
    refine Or.inl ⟨-nI 3, by decide, ?_, fun μ hm => ?_⟩
    · rw [eX, c1]; exact if_neg (by decide)
    · rw [eM μ hm, c1]; exact if_pos rfl
theorem call_start (a1 a2 a3 : Int32) : CALL (f_X10_start 0 a1 a2 a3) (f_X11_start 85 a1 a2 a3) := by
  intro n S μ hn hX hM
  rcases start_r hX a1 a2 a3 with ⟨r, hr, e1, e2⟩ | ⟨q, s, t, hq, hs, ht, rfl, rfl, rfl, hl, e1, e2⟩
  · have n0 : ¬ r = nI 0 := fun z => by rw [z] at hr; exact absurd hr (by decide)
    have n1 : ¬ nI 0 ≤ r := fun z => by
      rw [Int32.lt_iff_toInt_lt] at hr
      rw [Int32.le_iff_toInt_le] at z
      rw [show (nI 0).toInt = 0 by decide] at z
      rw [show (0 : Int32).toInt = 0 by decide] at hr
      omega
    refine call_q hX hM (r := r) ?_ ?_
    · unfold f_X10_start; simp only [il]; rw [bnd_e e1, if_neg n0]
    · unfold f_X11_start; simp only [il]; rw [bnd_e (e2 μ hM.2.1), if_neg n1]
  obtain ⟨hV, hS⟩ := hX.sea
  have V2 : SVok (up7 S.1 q s t) := ok7 hV hq hs ht hl
  have hX2 := hX.bump (k := 1) (μ2 := sI (sI (sI (sI μ 1 7 (nI q)) 1 8 (nI s)) 1 9 (nI t)) 1 10 (μ.1 1 10 + nI 1)) V2 (hS.s0.s1.s2.ver) (fun i hi => ⟨by rw [sI_o (by omega), sI_o (by omega), sI_o (by omega), sI_o (by omega)], rfl⟩) (by rw [sI_e]) (by decide) (by decide) hn
  have hh : hi μ (sI (sI (sI (sI μ 1 7 (nI q)) 1 8 (nI s)) 1 9 (nI t)) 1 10 (μ.1 1 10 + nI 1)) := fun i h => ⟨by rw [sI_o (by omega), sI_o (by omega), sI_o (by omega), sI_o (by omega)], rfl⟩
  obtain ⟨μ1, f1, f2, f3, f4⟩ := hX2.fr
  have hM1 := (hM.hi hh).hi f3
  have hM2 := hM1.sea (V2 := up7 S.1 q s t) (μ2 := sI (sI (sI μ1 85 7 (nI q)) 85 8 (nI s)) 85 9 (nI t)) V2 (hM1.2.1.s0.s1.s2) (fun i hi => ⟨by rw [sI_o (by omega), sI_o (by omega), sI_o (by omega)], rfl⟩) (fun k hk => by rw [sI_n (Or.inr (by omega)), sI_n (Or.inr (by omega)), sI_n (Or.inr (by omega))])
  obtain ⟨μ2, s1, s2, s3, s4⟩ := hM2.seek
  have hFU : FU = 1000000000000 := rfl
  refine ⟨nI (s_rch (s_L (up7 S.1 q s t)) 36), μ1, μ2, (up7 S.1 q s t, S.2), ?_, ?_, f2.lo ((show lo μ1 (sI (sI (sI μ1 85 7 (nI q)) 85 8 (nI s)) 85 9 (nI t)) from fun i hi => ⟨by rw [sI_o (by omega), sI_o (by omega), sI_o (by omega)], rfl⟩).tr s2.1), s3⟩
  · unfold f_X10_start; simp only [il, rf_0_0]
    rw [bnd_e e1, nI_b0]
    unfold f_X6_putStart
    simp only [il, lt_d]
    rw [bnv_s, sI_n (Or.inr (by decide)), sI_n (Or.inr (by decide)), sI_n (Or.inr (by decide)), bnd_e f1, gK0]
    unfold f_X1_squaresReached
    rw [bnd_e (show f_X1_squaresReached_b4 21 FU 0 0 μ1 = _ from x_rch (e := 0) (by decide) f4.1 f4 FU 0 (by decide) (by omega))]
  · unfold f_X11_start; simp only [il]
    rw [bnd_e (e2 μ1 hM1.2.1), if_pos (by decide)]
    unfold f_X11_begins
    simp only [lt_d]
    rw [bnv_s, bnv_e s1]
    unfold f_X11_reached
    rw [bnd_e (show f_X11_reached_b4 85 FU 0 0 μ2 = _ from m_rch f4.1 s4 FU 0 (by decide) (by omega))]
