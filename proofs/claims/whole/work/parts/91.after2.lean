/-! after -/
section AF
variable {H : SV}
theorem x_ug10 {μ1 : Mem} {b0 : Nat} (hH : HVok H) (hX8 : XHand 8 μ1 H) (hb0 : b0 < 2 ^ 25) (v1 : VL (μ1.1 38 8) b0) (v2 : VL (μ1.1 39 4) b0) : ∀ (m f r : Nat) (W : SV) (μ : Mem), r + m = H 15 2 → m < f → SVok W → XSea 31 μ W → μ.2 = μ1.2 → (∀ i, (i < 31 ∨ 37 < i) → μ.1 i = μ1.1 i) → μ.1 31 10 = nI (b0 + r + 1) → ∃ μ2, f_X8_undergo_b10 30 1 15 f (nI r) μ = some (38, μ2) ∧ SVok (s_evs H m r W) ∧ CO 1 μ2 (s_evs H m r W) (s_L (s_evs H m r W)) ∧ KI 1 μ2 (s_evs H m r W) ∧ μ2.2 = μ1.2 ∧ (∀ i, (i < 31 ∨ 46 < i) → μ2.1 i = μ1.1 i) ∧ ∃ b2, b2 ≤ b0 + 9 ∧ μ2.1 31 10 = nI b2 ∧ VL (μ2.1 38 8) b2 ∧ VL (μ2.1 39 4) b2 := by
  have h3 := hH.2.2.1
  have hx := hX8.2.2.1
  have r15 : μ1.1 15 2 = nI (H 15 2) := hx.1
  intro m
  induction m with
  | zero =>
    intro f r W μ hr hf hW hX e2 e1 hv
    obtain ⟨f, rfl⟩ : ∃ i, f = i + 1 := ⟨f - 1, by omega⟩
    have h8 := h3.1
    rw [f_X8_undergo_b10]
    unfold f_X5_size
    rw [bnd_s, show μ.1 15 2 = nI (H 15 2) by rw [e1 15 (by omega)]; exact r15, if_pos (nI_le (by omega) (by omega)), show rf 30 1 = 38 by decide +kernel]
    have hK : KI 1 μ W := KI.st (b := b0 + r) hX (by rw [e1 38 (by omega)]; exact v1.up (by omega)) (by rw [e1 39 (by omega)]; exact v2.up (by omega)) hv (by omega)
    obtain ⟨μ2, v, q1, q2, q3, q4, q5, q6⟩ := x_freshen hW (e := 1) (by decide) hK
    rw [bnv_e q1]
    refine ⟨μ2, rfl, hW, q4.L hW, q3, by rw [q2.1]; exact e2, fun i hi => by rw [q2.2 i (by omega)]; exact e1 i (by omega), b0 + r + 1, by omega, by rw [q2.2 31 (by omega)]; exact hv, Or.inr ⟨_, Nat.le_refl _, by rw [q5]; exact hv⟩, ?_⟩
    rcases q6 with w | w
    · rw [w, show (22 + 17 * 1) = 39 from rfl, e1 39 (by omega)]; exact v2.up (by omega)
    · rw [w]; exact Or.inr ⟨_, Nat.le_refl _, hv⟩
  | succ m ih =>
    intro f r W μ hr hf hW hX e2 e1 hv
    obtain ⟨f, rfl⟩ : ∃ i, f = i + 1 := ⟨f - 1, by omega⟩
    have h8 := h3.1
    obtain ⟨ha, hb, hc⟩ := h3.2 r (by omega)
    have hr2 := hx.2 r (by omega)
    have r15b : μ.1 15 2 = nI (H 15 2) := by rw [e1 15 (by omega)]; exact r15
    obtain ⟨w1, w2⟩ := x_row (r := 15) (c := H 15 2) (cap := 8) (j := r) (μ := μ) rf_15_0 rf_15_1 al_16 al_17 (by decide) r15b (by omega) (by omega)
    rw [show (15 + 1) = 16 from rfl, e1 16 (by omega), show μ1.1 16 r = nI (H 11 r) from hr2.1] at w1
    rw [show (15 + 2) = 17 from rfl, e1 17 (by omega), show μ1.1 17 r = nI (H 12 r) from hr2.2] at w2
    obtain ⟨μ2, g1, g2, g3, g4, g5⟩ := x_evt hW ha hb hc hX
    rw [f_X8_undergo_b10]
    unfold f_X5_size
    rw [bnd_s, r15b, if_neg (nI_ge (by omega) (by omega)), bnd_e w1, bnd_e w2, show rf 30 0 = 31 by decide +kernel, bnv_e g1, show (1 : Int32) = nI 1 from rfl, lt_d, nI_add]
    exact ih f (r + 1) (s_evt W (H 11 r) (H 12 r)) μ2 (by omega) (by omega) (evt_ok hW ha) g2 (by rw [g3]; exact e2) (fun i hi => by rw [g4 i hi]; exact e1 i hi) (by rw [g5, hv, nI_add]; rfl)
theorem XI.undergo {n : Nat} {S : ST} {μ : Mem} (h : XI n S μ) (hn : n ≤ 100000) : ∃ μ2, f_X8_undergo 30 1 15 μ = some (38, μ2) ∧ XI (n + 1) S μ2 ∧ hi μ μ2 ∧ SVok (s_evs S.2.1 (S.2.1 15 2) 0 S.1) ∧ CO 1 μ2 (s_evs S.2.1 (S.2.1 15 2) 0 S.1) (s_L (s_evs S.2.1 (S.2.1 15 2) 0 S.1)) := by
  have hFU : FU = 1000000000000 := rfl
  have hV := h.1.1.1
  have hH := h.1.1.2
  have h8 := hH.2.2.1.1
  obtain ⟨g, ⟨a, b, W, c1, c2, c3, c4, c5, c6, c7, c8, c9, c10⟩, hh, ⟨i1, i2, i3⟩, ht, hp⟩ := id h
  obtain ⟨μ1, l1, l2, l3, l4⟩ := x_like (o := 31) (a := 1) (Or.inr (Or.inl rfl)) (Or.inl rfl) (by decide) c8.1
  have v31 : μ1.1 31 10 = nI (b + 0 + 1) := by rw [l3, c5, nI_add]
  obtain ⟨μ2, q1, q2, q3, q4, q5, q6, b2, q7, q8, q9, q10⟩ := x_ug10 (μ1 := μ1) (b0 := b) hH (hh.cong (fun i _ _ => (l4 i (by omega)).1)) (by omega) (by rw [(l4 38 (by omega)).1]; exact c7.1) (by rw [(l4 39 (by omega)).1]; exact c7.2) (S.2.1 15 2) FU 0 S.1 μ1 (by omega) (by omega) hV l2 rfl (fun i _ => rfl) v31
  have e1 : ∀ i, i < 31 ∨ 46 < i → μ2.1 i = μ.1 i := fun i hi => by rw [q6 i hi, (l4 i (by omega)).1]
  have e2 : ∀ i, i < 31 ∨ 37 < i → μ2.2 i = μ.2 i := fun i hi => by rw [q5, (l4 i (by omega)).2]
  refine ⟨μ2, ?_, ⟨g, ⟨a, b2, _, by omega, by omega, q2, by rw [e1 1 (by omega)]; exact c4, q8, ⟨by rw [e1 21 (by omega)]; exact c6.1, by rw [e1 22 (by omega)]; exact c6.2.1, by rw [e1 30 (by omega)]; exact c6.2.2⟩, ⟨q9, q10⟩, c8.cong (by decide) (fun i hi => e1 i (by omega)) (e2 1 (by omega)), q4, c10.cong (e1 30 (by omega)) (by rw [e1 1 (by omega)]) (e1 47 (by omega))⟩, hh.cong (fun i _ _ => e1 i (by omega)), ⟨i1.cong (fun j hj => e1 _ (by omega)) (e2 _ (by omega)) (fun j _ _ => by rw [e1 _ (by omega)]), i2.cong (fun i _ _ => e1 i (by omega)), by rw [e1 0 (by omega)]; exact i3⟩, ht.cong (by rw [e1 48 (by omega)]) (e1 49 (by omega)), hp.cong (fun i _ _ => ⟨e1 i (by omega), e2 i (by omega)⟩)⟩, fun i hi => ⟨e1 i (by omega), e2 i (by omega)⟩, q2, q3⟩
  unfold f_X8_undergo
  rw [show rf 30 0 = 31 by decide +kernel, bnv_e l1]
  exact q1
def s_aft (w : Nat) (v : Nat → Nat) : Int32 := if w = 0 then enc (s_lq v 35) else if w = 1 then nI (s_rch v 36) else nI (s_tog v 36)
theorem m_af21 {μ1 : Mem} (hH : HVok H) (hM8 : MHand μ1 H) {w : Nat} (hw : w < 3) : ∀ (m f r : Nat) (W : SV) (μ : Mem), r + m = H 15 2 → m < f → SVok W → MSea μ W → HF μ1 μ → ∃ μ2, f_X11_after_b21 85 (nI w) f (nI r) μ = f_X11_after_b84 85 (nI w) (s_aft w (s_L (s_evs H m r W))) μ2 ∧ μ2.2 = μ1.2 ∧ (∀ i, i ≠ 85 → i ≠ 87 → i ≠ 88 → i ≠ 91 → i ≠ 104 → μ2.1 i = μ1.1 i) ∧ ∀ k, k ≠ 29 → k ≠ 30 → k ≠ 31 → k ≠ 32 → μ2.1 85 k = μ1.1 85 k := by
  have hFU : FU = 1000000000000 := rfl
  have h3 := hH.2.2.1
  have hm := hM8.2.2.1
  intro m
  induction m with
  | zero =>
    intro f r W μ hr hf hW hM hF
    obtain ⟨f, rfl⟩ : ∃ i, f = i + 1 := ⟨f - 1, by omega⟩
    have h8 := h3.1
    rw [f_X11_after_b21]
    simp only [il]
    rw [hF.2 85 (by decide) (by decide) (by decide), hm.1, if_pos (nI_le (by omega) (by omega))]
    obtain ⟨μ2, e1, e2, v, hv, hr2⟩ := m_seeks hW hM
    have hL := s_L_is hW
    have hR : MLr μ2 (s_L W) := fun k hk => by rw [hr2 k hk, hv.eq hW hk]
    rw [bnv_e e1]
    refine ⟨μ2, ?_, by rw [e2.1]; exact hF.1, fun i a1 a2 a3 a4 a5 => by rw [e2.2.1 i a1 a5]; exact hF.2 i a2 a3 a4, fun k a1 a2 a3 a4 => by rw [e2.2.2 k a1 a2 a3 a4, hF.2 85 (by decide) (by decide) (by decide)]⟩
    show _ = f_X11_after_b84 85 (nI w) (s_aft w (s_L W)) μ2
    rcases (show w = 0 ∨ w = 1 ∨ w = 2 by omega) with rfl | rfl | rfl
    · rw [if_pos rfl, bnd_e (m_lsq hL hR (by decide))]
      rfl
    · unfold f_X11_reached
      rw [if_neg (by decide), if_pos rfl, bnd_e (show f_X11_reached_b4 85 FU 0 0 μ2 = _ from m_rch hL hR FU 0 (by decide) (by omega))]
      rfl
    · unfold f_X11_allLeast
      rw [if_neg (by decide), if_neg (by decide), bnd_e (show f_X11_allLeast_b4 85 FU 0 0 μ2 = _ from m_tog hL hR FU 0 (by decide) (by omega))]
      rfl
  | succ m ih =>
    intro f r W μ hr hf hW hM hF
    obtain ⟨f, rfl⟩ : ∃ i, f = i + 1 := ⟨f - 1, by omega⟩
    have h8 := h3.1
    obtain ⟨ha, hb, hc⟩ := h3.2 r (by omega)
    have hr2 := hm.2 r (by omega)
    obtain ⟨μ2, g1, g2, g3⟩ := m_hap hW ha hb hc FU 0 μ (by decide) (by omega) (by rw [evk0]; exact hM)
    rw [f_X11_after_b21]
    simp only [il]
    rw [hF.2 85 (by decide) (by decide) (by decide), hm.1, if_neg (nI_ge (by omega) (by omega)), rf_85_16, rf_85_17, al_96, al_97, gA_n (by omega) (by omega), gA_n (by omega) (by omega), nI_clamp (by omega), hF.2 96 (by decide) (by decide) (by decide), hF.2 97 (by decide) (by decide) (by decide), hr2.1, hr2.2, bnv_e (show f_X11_happens 85 (nI (H 11 r)) (nI (H 12 r)) μ = some μ2 from g1), lt_d, nI_add]
    exact ih f (r + 1) (s_evt W (H 11 r) (H 12 r)) μ2 (by omega) (by omega) (evt_ok hW ha) g2 (hF.tr g3)
end AF
theorem gK38 {β : Type} {k : Option β} : gP (decide (knd 38 = 0)) k = k := by
  rw [show decide (knd 38 = 0) = true by decide +kernel]
  exact gP_t
theorem call_after (a1 : Int32) : CALL (f_X10_after 0 a1) (f_X11_after 85 a1) := by
  intro n S μ hn hX hM
  have hFU : FU = 1000000000000 := rfl
  have hNV : NV = 1000000000 := rfl
  obtain ⟨b1, x1, m1, h1⟩ := argc a1 3 (by decide) (by decide)
  rcases h1 with rfl | ⟨rfl, w, hw, rfl⟩
  · exact call_q hX hM (r := -nI 1) (by unfold f_X10_after; simp only [il]; rw [bnd_e (x1 _), nI_b0]) (by unfold f_X11_after; simp only [il]; rw [bnd_e (m1 _), nI_b0])
  have hV := hX.1.1.1
  have hH := hX.1.1.2
  have h8 := hH.2.2.1.1
  obtain ⟨μ1, f1, f2, f3, f4, f5⟩ := hX.undergo hn
  generalize hV' : s_evs S.2.1 (S.2.1 15 2) 0 S.1 = V' at *
  have hL := f5.1
  have hq := s_lq_le hL (show 35 < 36 by decide)
  have htg := s_tog_le hL (n := 36) (by decide)
  have hM1 := hM.hi f3
  obtain ⟨μ2, k1, k2, k3⟩ := m_keeps (a := 101) (Or.inr rfl) hM1.2.1 hH hM1.2.2.1
  have hMs2 := hM1.2.1.kf (Or.inr rfl) k2
  have hMh2 : MHand μ2 S.2.1 := hM1.2.2.1.cong (fun i _ _ => k2.2 i (by omega)) (fun k _ => by rw [k2.2 85 (by decide)])
  obtain ⟨μ3, t1, t2, t3, t4⟩ := m_af21 (μ1 := μ2) hH hMh2 hw (S.2.1 15 2) FU 0 S.1 μ2 (by omega) (by omega) hV hMs2 (HF.rf μ2)
  rw [hV'] at t1
  obtain ⟨μ4, u1, u2, u3, u4, u5, u6⟩ := m_again (a := 101) (Or.inr rfl) (k3.cong (t3 101 (by decide) (by decide) (by decide) (by decide) (by decide))) hH
  obtain ⟨_, z1, z2, ⟨z3, z4⟩, z5, z6⟩ := hM1
  have far : ∀ i, 99 < i → i ≠ 101 → i ≠ 104 → μ4.1 i = μ1.1 i := fun i a b c => by rw [u5 i (by omega), t3 i (by omega) (by omega) (by omega) (by omega) c, k2.2 i b]
  have sl : ∀ k, k = 23 ∨ k = 25 → μ4.1 85 k = μ1.1 85 k := fun k hk => by rw [u6 k (by omega) (by omega) (by omega) (by omega) (by omega) (by omega) (by omega), t4 k (by omega) (by omega) (by omega) (by omega), k2.2 85 (by decide)]
  have e42 : μ4.2 = μ1.2 := by rw [u4, t2, k2.1]
  have hMI : MI S μ4 := ⟨hX.1, u2, u3, ⟨by rw [sl 23 (Or.inl rfl)]; exact z3, fun c => (z4 c).cong (far 100 (by decide) (by decide) (by decide))⟩, z5.cong (sl 25 (Or.inr rfl)) (far 102 (by decide) (by decide) (by decide)), z6.cong (far 106 (by decide) (by decide) (by decide)) (far 107 (by decide) (by decide) (by decide)) (by rw [e42])⟩
  have hlo : lo μ1 μ4 := fun i hi => ⟨by rw [u5 i (by omega), t3 i (by omega) (by omega) (by omega) (by omega) (by omega), k2.2 i (by omega)], by rw [e42]⟩
  have eM : f_X11_after 85 (nI w) μ1 = (if nI w = nI 0 then (if nI 0 ≤ s_aft w (s_L V') then some (s_aft w (s_L V'), μ4) else some (-nI 5, μ4)) else some (s_aft w (s_L V'), μ4)) := by
    unfold f_X11_after
    simp only [il]
    rw [bnd_e (m1 _), nI_b1, rf_85_22, bnv_e k1, show f_X11_after_b21 85 (nI w) FU (nI 0) μ2 = _ from t1]
    unfold f_X11_after_b84
    simp only [il]
    rw [rf_85_22, bnv_e u1]
  have eX : f_X10_after 0 (nI w) μ = (if nI w = nI 1 then bnd (f_X1_squaresReached 38 μ1) (fun r10 μ9 => some (r10, μ9)) else (if nI w = nI 2 then bnd (f_X1_leastTogether 38 μ1) (fun r8 μ7 => some (r8, μ7)) else bnd (f_X1_leastOf 38 (nI 35) μ1) (fun r6 μ5 => (if r6 = nI 1000000000 then some (-nI 5, μ5) else some (r6, μ5))))) := by
    unfold f_X10_after
    simp only [il]
    rw [bnd_e (x1 _), nI_b1, rf_0_3, rf_0_0, rf_0_1, rf_8_2, bnd_e f1, gK38]
  have fin : ∀ r, f_X10_after 0 (nI w) μ = some (r, μ1) → f_X11_after 85 (nI w) μ1 = some (r, μ4) → ∃ r μ1 μ2 S2, f_X10_after 0 (nI w) μ = some (r, μ1) ∧ f_X11_after 85 (nI w) μ1 = some (r, μ2) ∧ XI (n + 1) S2 μ2 ∧ MI S2 μ2 := fun r e1 e2 => ⟨r, μ1, μ4, S, e1, e2, f2.lo hlo, hMI⟩
  rcases (show w = 0 ∨ w = 1 ∨ w = 2 by omega) with rfl | rfl | rfl
  · rw [if_neg (by decide), if_neg (by decide), bnd_e (x_lsq (e := 1) (by decide) hL f5 (by decide))] at eX
    rw [if_pos rfl, show s_aft 0 (s_L V') = enc (s_lq (s_L V') 35) from rfl] at eM
    by_cases c : s_lq (s_L V') 35 = NV
    · refine fin (-nI 5) ?_ ?_
      · rw [eX, if_pos (show nI (s_lq (s_L V') 35) = nI 1000000000 from congrArg nI c)]
      · rw [eM, c, enc_nv, if_neg (by decide)]
    · refine fin (nI (s_lq (s_L V') 35)) ?_ ?_
      · rw [eX, if_neg (nI_ne (by omega) (by omega) (show s_lq (s_L V') 35 ≠ 1000000000 from c))]
      · rw [eM, enc_n (by omega), if_pos (nI_le (Nat.zero_le _) (by omega))]
  · unfold f_X1_squaresReached at eX
    rw [if_pos rfl, bnd_e (show f_X1_squaresReached_b4 38 FU 0 0 μ1 = _ from x_rch (e := 1) (by decide) hL f5 FU 0 (by decide) (by omega))] at eX
    rw [if_neg (by decide)] at eM
    exact fin _ eX eM
  · unfold f_X1_leastTogether at eX
    rw [if_neg (by decide), if_pos rfl, bnd_e (show f_X1_leastTogether_b4 38 FU 0 0 μ1 = _ from x_tog (e := 1) (by decide) hL f5 FU 0 (by decide) (by omega))] at eX
    rw [if_neg (by decide)] at eM
    exact fin _ eX eM
