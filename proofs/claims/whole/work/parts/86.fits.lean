/-! fits, odds -/
theorem x_row {r c cap j : Nat} {μ : Mem} (h0 : rf r 0 = r + 1) (h1 : rf r 1 = r + 2) (a0 : aln (r + 1) = cap) (a1 : aln (r + 2) = cap) (hcap : cap < 100) (hs : μ.1 r 2 = nI c) (hc : c ≤ cap) (hj : j < c) : f_X5_first r (nI j) μ = some (μ.1 (r + 1) j, μ) ∧ f_X5_second r (nI j) μ = some (μ.1 (r + 2) j, μ) := by
  have bel : f_X10_below (nI j) (nI c) μ = some (nI 1, μ) := by
    unfold f_X10_below; simp only [il]; rw [if_neg (nI_lt0 (by omega)), if_neg (nI_ge (by omega) (by omega))]
  constructor
  · unfold f_X5_first
    simp only [il]
    rw [hs, bnd_e bel, nI_b1, h0, a0, gA_n (by omega) (by omega), nI_clamp (by omega)]
  · unfold f_X5_second
    simp only [il]
    rw [hs, bnd_e bel, nI_b1, h1, a1, gA_n (by omega) (by omega), nI_clamp (by omega)]
def Qw (k : Nat) (μ μ2 : Mem) : Prop := lo μ μ2 ∧ (∀ i, 85 < i → i ≠ 87 → i ≠ 101 → i ≠ 103 → i ≠ 104 → i ≠ 105 → i ≠ 109 → μ2.1 i = μ.1 i ∧ μ2.2 i = μ.2 i) ∧ (μ2.2 87 = μ.2 87 ∧ ∀ j, j ≠ k → μ2.1 87 j = μ.1 87 j) ∧ ∀ j, j ≠ 26 → j ≠ 28 → j ≠ 29 → j ≠ 30 → j ≠ 31 → j ≠ 32 → j ≠ 35 → μ2.1 85 j = μ.1 85 j
theorem Qm.w {k : Nat} {a b : Mem} (h : Qm a b) : Qw k a b := ⟨h.1, fun i a1 _ a2 a3 a4 a5 a6 => h.2.1 i a1 a2 a3 a4 a5 a6, ⟨(h.2.1 87 (by decide) (by decide) (by decide) (by decide) (by decide) (by decide)).2, fun j _ => by rw [(h.2.1 87 (by decide) (by decide) (by decide) (by decide) (by decide) (by decide)).1]⟩, h.2.2⟩
theorem Qw.rf (k : Nat) (μ : Mem) : Qw k μ μ := (Qm.rf μ).w
theorem Qw.tr {k : Nat} {a b c : Mem} (h : Qw k a b) (g : Qw k b c) : Qw k a c := ⟨h.1.tr g.1, fun i a1 a2 a3 a4 a5 a6 a7 => ⟨(g.2.1 i a1 a2 a3 a4 a5 a6 a7).1.trans (h.2.1 i a1 a2 a3 a4 a5 a6 a7).1, (g.2.1 i a1 a2 a3 a4 a5 a6 a7).2.trans (h.2.1 i a1 a2 a3 a4 a5 a6 a7).2⟩, ⟨g.2.2.1.1.trans h.2.2.1.1, fun j hj => (g.2.2.1.2 j hj).trans (h.2.2.1.2 j hj)⟩, fun j a1 a2 a3 a4 a5 a6 a7 => (g.2.2.2 j a1 a2 a3 a4 a5 a6 a7).trans (h.2.2.2 j a1 a2 a3 a4 a5 a6 a7)⟩
theorem Qw.s {k : Nat} {μ : Mem} {x : Int32} : Qw k μ (sI μ 87 k x) := ⟨fun i hi => ⟨sI_o (by omega), rfl⟩, fun i _ h _ _ _ _ _ => ⟨sI_o h, rfl⟩, ⟨rfl, fun j hj => sI_n (Or.inr hj)⟩, fun j _ _ _ _ _ _ _ => sI_n (Or.inl (by decide))⟩
theorem Qw.fin {k : Nat} {μ μ2 : Mem} (h : Qw k μ μ2) (e : μ2.1 87 k = μ.1 87 k) : Qm μ μ2 := by
  refine ⟨h.1, fun i a1 a2 a3 a4 a5 a6 => ?_, h.2.2.2⟩
  by_cases c : i = 87
  · subst c
    refine ⟨?_, h.2.2.1.1⟩
    funext j
    by_cases d : j = k
    · rw [d]; exact e
    · exact h.2.2.1.2 j d
  · exact h.2.1 i a1 c a2 a3 a4 a5 a6
theorem MHand.w {k : Nat} {μ μ2 : Mem} {H : SV} (h : MHand μ H) (f : Qw k μ μ2) : MHand μ2 H := h.cong (fun i a b => (f.2.1 i (by omega) (by omega) (by omega) (by omega) (by omega) (by omega) (by omega)).1) (fun j hj => f.2.2.2 j (by omega) (by omega) (by omega) (by omega) (by omega) (by omega) (by omega))
/-- all that was seen is in time: 1 -/
def s_sn (H : SV) (v : Nat → Nat) : Nat → Nat → Nat
  | 0, _ => 1
  | m + 1, r => if s_lq v (H 9 r) ≤ H 10 r then s_sn H v m (r + 1) else 0
def s_ft (P : Nat → Nat) : Nat → Nat → Int32 → Nat × Int32
  | 0, c, f => (c, f)
  | k + 1, c, f => if P k = 0 then s_ft P k c f else s_ft P k (c + 1) (nI k)
def s_od (P : Nat → Nat) : Nat → Nat → Nat → Nat
  | 0, _, c => c
  | m + 1, k, c => s_od P m (k + 1) (c + P k)
section FT
variable {V H : SV} {v : Nat → Nat} {μ : Mem}
theorem m_by2 (hL : IsL V v) (hR : MLr μ v) {q t : Nat} (hq : q < 36) (ht : t ≤ 99999) : f_X11_isBy 85 (nI q) (nI t) μ = some (nI (if s_lq v q ≤ t then 1 else 0), μ) := by
  have hNV : NV = 1000000000 := rfl
  have hb := s_lq_le hL hq
  unfold f_X11_isBy
  simp only [il]
  rw [bnd_e (m_lsq hL hR hq), bnd_e (m_lsq hL hR hq)]
  by_cases c : s_lq v q = NV
  · rw [c, enc_nv, if_pos (by decide), if_neg (by omega)]
  · rw [enc_n (by omega), if_neg (nI_lt0 (by omega))]
    by_cases d : s_lq v q ≤ t
    · rw [if_pos d, if_neg (fun z => absurd ((nI_ltI (by omega) (by omega)).mp z) (by omega))]
    · rw [if_neg d, if_pos (nI_lt (by omega) (by omega))]
theorem m_seen (hL : IsL V v) (hR : MLr μ v) (hH : HVok H) (hM : MHand μ H) : ∀ (m f r : Nat), r + m = H 15 1 → m < f → f_X11_allSeen_b2 85 f (nI r) μ = some (nI (s_sn H v m r), μ) := by
  have h5 := hH.2.1
  have hm := hM.2.1
  intro m
  induction m with
  | zero =>
    intro f r hr hf
    obtain ⟨f, rfl⟩ : ∃ g, f = g + 1 := ⟨f - 1, by omega⟩
    rw [f_X11_allSeen_b2]
    simp only [il]
    rw [hm.1, if_pos (nI_le (by omega) (by omega))]
    rfl
  | succ m ih =>
    intro f r hr hf
    obtain ⟨f, rfl⟩ : ∃ g, f = g + 1 := ⟨f - 1, by omega⟩
    have hb := h5.2 r (by omega)
    have hr2 := hm.2 r (by omega)
    rw [f_X11_allSeen_b2]
    simp only [il]
    rw [hm.1, if_neg (nI_ge (by omega) (by omega)), rf_85_13, rf_85_14, al_94, al_95, gA_n (by omega) (by omega), gA_n (by omega) (by omega), nI_clamp (by omega), hr2.1, hr2.2, bnd_e (m_by2 hL hR hb.1 hb.2), s_sn]
    by_cases c : s_lq v (H 9 r) ≤ H 10 r
    · rw [if_pos c, if_pos c, nI_b1, lt_d, nI_add]; exact ih f (r + 1) (by omega) (by omega)
    · rw [if_neg c, if_neg c, nI_b0]
theorem s_sn_lt : ∀ (m r : Nat), s_sn H v m r ≤ 1 := by
  intro m
  induction m with
  | zero => intro r; exact Nat.le_refl 1
  | succ m ih => intro r; rw [s_sn]; split; exact ih _; omega
theorem x_lwf {k f q : Nat} (h : ∀ f q, f < 8 → q < 36 → μ.1 47 (36 * f + q) = nI (s_lq (s_L (upV V 0 k f)) q)) (hf : f < 8) (hq : q < 36) : f_X8_leastWhenFrom 30 (nI f) (nI q) μ = some (nI (s_lq (s_L (upV V 0 k f)) q), μ) := by
  have r47 : rf 30 2 = 47 := by decide +kernel
  have a47 : aln 47 = 288 := by decide +kernel
  unfold f_X8_leastWhenFrom
  rw [r47, a47, show (36 : Int32) = nI 36 from rfl, pk_mul, nI_add, gA_n (by omega) (by omega), nI_clamp (by omega), show f * 36 + q = 36 * f + q by omega, h f q hf hq]
theorem x_seen {k : Nat} (hV : SVok V) (hk : k < 16) (h : ∀ f q, f < 8 → q < 36 → μ.1 47 (36 * f + q) = nI (s_lq (s_L (upV V 0 k f)) q)) (hH : HVok H) (hX : XHand 8 μ H) {f : Nat} (hf : f < 8) : ∀ (m g r : Nat), r + m = H 15 1 → m < g → f_X8_allSeenInTime_b2 30 (nI f) 12 g (nI r) μ = some (nI (s_sn H (s_L (upV V 0 k f)) m r), μ) := by
  have h5 := hH.2.1
  have hx := hX.2.1
  have hL : IsL (upV V 0 k f) (s_L (upV V 0 k f)) := s_L_is (ok0 hV hf)
  have r12 : μ.1 12 2 = nI (H 15 1) := hx.1
  have hNV : NV = 1000000000 := rfl
  intro m
  induction m with
  | zero =>
    intro g r hr hg
    obtain ⟨g, rfl⟩ : ∃ i, g = i + 1 := ⟨g - 1, by omega⟩
    rw [f_X8_allSeenInTime_b2]
    unfold f_X5_size
    simp only [il]
    rw [bnd_s, r12, if_pos (nI_le (by omega) (by omega))]
    rfl
  | succ m ih =>
    intro g r hr hg
    obtain ⟨g, rfl⟩ : ∃ i, g = i + 1 := ⟨g - 1, by omega⟩
    have hb := h5.2 r (by omega)
    have hr2 := hx.2 r (by omega)
    obtain ⟨e1, e2⟩ := x_row (r := 12) (c := H 15 1) (cap := 5) (j := r) (μ := μ) rf_12_0 rf_12_1 al_13 al_14 (by decide) r12 h5.1 (by omega)
    have hq := s_lq_le hL hb.1
    rw [f_X8_allSeenInTime_b2]
    unfold f_X5_size
    simp only [il]
    rw [bnd_s, r12, if_neg (nI_ge (by omega) (by omega)), bnd_e e1, show μ.1 (12 + 1) r = nI (H 9 r) from hr2.1, bnd_e (x_lwf h hf hb.1), bnd_e e2, show μ.1 (12 + 2) r = nI (H 10 r) from hr2.2, s_sn]
    by_cases c : s_lq (s_L (upV V 0 k f)) (H 9 r) ≤ H 10 r
    · rw [if_pos c, if_pos (nI_le c (by omega)), lt_d, nI_add]; exact ih g (r + 1) (by omega) (by omega)
    · rw [if_neg c, if_neg (nI_ge (by omega) (by omega))]
theorem x_fits {k : Nat} (hV : SVok V) (hk : k < 16) (h : ∀ f q, f < 8 → q < 36 → μ.1 47 (36 * f + q) = nI (s_lq (s_L (upV V 0 k f)) q)) (hH : HVok H) (hX : XHand 8 μ H) (a1 a2 a3 : Int32) : ∀ (n j c : Nat) (f : Int32), j ≤ 8 → j < n → f_X10_fits_b50 0 a1 a2 a3 n (nI c) f (srt j) μ = some (if a3 = nI 0 then nI (s_ft (fun d => s_sn H (s_L (upV V 0 k d)) (H 15 1) 0) j c f).1 else (s_ft (fun d => s_sn H (s_L (upV V 0 k d)) (H 15 1) 0) j c f).2, μ) := by
  have hFU : FU = 1000000000000 := rfl
  have h5 := hH.2.1.1
  intro n
  induction n with
  | zero => intro j c f hj hn; omega
  | succ n ih =>
    intro j c f hj hn
    rw [f_X10_fits_b50]
    simp only [il, rf_0_1, rf_0_3, rf_8_1]
    cases j with
    | zero =>
      rw [if_pos srt_0]
      by_cases w : a3 = nI 0
      · rw [if_pos w, if_pos w]; rfl
      · rw [if_neg w, if_neg w]; rfl
    | succ j =>
      have es : f_X8_allSeenInTime 30 (nI j) 12 μ = some (nI (s_sn H (s_L (upV V 0 k j)) (H 15 1) 0), μ) := x_seen hV hk h hH hX (by omega) (H 15 1) FU 0 (by omega) (by omega)
      rw [srt_s, if_neg (nI_lt0 (by omega)), bnd_e es, s_ft]
      simp (disch := omega) only [lt_d, srt_m, nI_add]
      have hl := @s_sn_lt H (s_L (upV V 0 k j)) (H 15 1) 0
      by_cases d : s_sn H (s_L (upV V 0 k j)) (H 15 1) 0 = 0
      · rw [d, nI_b0, if_pos rfl]; exact ih j c f (by omega) (by omega)
      · rw [show s_sn H (s_L (upV V 0 k j)) (H 15 1) 0 = 1 by omega, nI_b1, if_neg (show ¬ (1 : Nat) = 0 by decide)]; exact ih j (c + 1) (nI j) (by omega) (by omega)
/-- one wind tried by the reference -/
theorem m_try {z s d d2 : Nat} {μ0 : Mem} (hV : SVok V) (hz : z < 4) (hs : s < 4) (hd2 : d2 < 8) (hM : MSea μ (upV V 0 (4 * z + s) d)) (hQ : Qw (4 * z + s) μ0 μ) : ∃ μ2, f_X11_seeks 85 (sI μ 87 (4 * z + s) (nI d2)) = some μ2 ∧ MSea μ2 (upV V 0 (4 * z + s) d2) ∧ Qw (4 * z + s) μ0 μ2 ∧ IsL (upV V 0 (4 * z + s) d2) (s_L (upV V 0 (4 * z + s) d2)) ∧ MLr μ2 (s_L (upV V 0 (4 * z + s) d2)) := by
  have hM2 := hM.p0 (j := 4 * z + s) (x := d2)
  rw [upV_up] at hM2
  have hV2 : SVok (upV V 0 (4 * z + s) d2) := ok0 hV hd2
  obtain ⟨μ2, e1, e2, v, hv, hr⟩ := m_seeks hV2 hM2
  exact ⟨μ2, e1, hM2.fr2 e2, hQ.tr (Qw.s.tr e2.q.w), s_L_is hV2, fun k hk => by rw [hr k hk, hv.eq hV2 hk]⟩
theorem m_fits {z s : Nat} {μ0 : Mem} (hV : SVok V) (hz : z < 4) (hs : s < 4) (hH : HVok H) (hM0 : MSea μ0 V) (hMH : MHand μ0 H) (a3 : Int32) : ∀ (n j c : Nat) (f : Int32) (d : Nat) (μ : Mem), j ≤ 8 → j < n → MSea μ (upV V 0 (4 * z + s) d) → Qw (4 * z + s) μ0 μ → ∃ μf, f_X11_fits_b48 85 (nI z) (nI s) a3 n (nI (V 0 (4 * z + s))) (nI c) f (srt j) μ = some (if a3 = nI 0 then nI (s_ft (fun d => s_sn H (s_L (upV V 0 (4 * z + s) d)) (H 15 1) 0) j c f).1 else (s_ft (fun d => s_sn H (s_L (upV V 0 (4 * z + s) d)) (H 15 1) 0) j c f).2, μf) ∧ Qm μ0 μf := by
  have hFU : FU = 1000000000000 := rfl
  have h5 := hH.2.1.1
  intro n
  induction n with
  | zero => intro j c f d μ hj hn; omega
  | succ n ih =>
    intro j c f d μ hj hn hM hQ
    rw [f_X11_fits_b48]
    simp (disch := omega) only [il, rf_85_1, al_87, pk_mul, nI_add, gA_n, nI_clamp, lt_d]
    cases j with
    | zero =>
      rw [if_pos srt_0]
      refine ⟨sI μ 87 (4 * z + s) (nI (V 0 (4 * z + s))), ?_, (hQ.tr Qw.s).fin (by rw [sI_e, hM0.1 _ (by omega)])⟩
      by_cases w : a3 = nI 0
      · rw [if_pos w, if_pos w]; rfl
      · rw [if_neg w, if_neg w]; rfl
    | succ j =>
      obtain ⟨μ2, e1, e2, e3, e4, e5⟩ := m_try hV hz hs (show j < 8 by omega) hM hQ
      have es : f_X11_allSeen 85 μ2 = some (nI (s_sn H (s_L (upV V 0 (4 * z + s) j)) (H 15 1) 0), μ2) := m_seen e4 e5 hH (hMH.w e3) (H 15 1) FU 0 (by omega) (by omega)
      rw [srt_s, if_neg (nI_lt0 (by omega)), bnv_e e1, bnd_e es, s_ft]
      simp (disch := omega) only [lt_d, srt_m, nI_add]
      have hl := @s_sn_lt H (s_L (upV V 0 (4 * z + s) j)) (H 15 1) 0
      by_cases d : s_sn H (s_L (upV V 0 (4 * z + s) j)) (H 15 1) 0 = 0
      · rw [d, nI_b0, if_pos rfl]; exact ih j c f j μ2 (by omega) (by omega) e2 e3
      · rw [show s_sn H (s_L (upV V 0 (4 * z + s) j)) (H 15 1) 0 = 1 by omega, nI_b1, if_neg (show ¬ (1 : Nat) = 0 by decide)]; exact ih j (c + 1) (nI j) j μ2 (by omega) (by omega) e2 e3
noncomputable def s_in (V : SV) (k q t d : Nat) : Nat := if s_lq (s_L (upV V 0 k d)) q ≤ t then 1 else 0
theorem x_odds {k q t : Nat} (hV : SVok V) (hk : k < 16) (h : ∀ f q, f < 8 → q < 36 → μ.1 47 (36 * f + q) = nI (s_lq (s_L (upV V 0 k f)) q)) (hq : q < 36) (ht : t ≤ 99999) (a1 a2 a5 : Int32) : ∀ (n m j c : Nat), j + m = 8 → m < n → f_X10_odds_b73 0 a1 a2 (nI q) (nI t) a5 n (nI c) (nI j) μ = bnd (f_X10_fractionPart (nI (s_od (s_in V k q t) m j c)).toInt64 (8 : Int64) a5 μ) (fun r11 μ10 => some (r11, μ10)) := by
  have hNV : NV = 1000000000 := rfl
  intro n
  induction n with
  | zero => intro m j c hj hn; omega
  | succ n ih =>
    intro m j c hj hn
    rw [f_X10_odds_b73]
    simp (disch := omega) only [il, rf_0_3, nI_leI]
    cases m with
    | zero => rw [if_pos (by omega)]; rfl
    | succ m =>
      have hL : IsL (upV V 0 k j) (s_L (upV V 0 k j)) := s_L_is (ok0 hV (by omega))
      have hb := s_lq_le hL hq
      rw [if_neg (by omega), bnd_e (x_lwf h (by omega) hq), s_od]
      simp (disch := omega) only [lt_d, nI_add, nI_ltI]
      unfold s_in at ih ⊢
      by_cases d : s_lq (s_L (upV V 0 k j)) q ≤ t
      · rw [if_pos d, if_neg (by omega)]; exact ih m (j + 1) (c + 1) (by omega) (by omega)
      · rw [if_neg d, if_pos (by omega)]; exact ih m (j + 1) c (by omega) (by omega)
theorem m_odds {z s q t : Nat} {μ0 : Mem} (hV : SVok V) (hz : z < 4) (hs : s < 4) (hM0 : MSea μ0 V) (hq : q < 36) (ht : t ≤ 99999) (a5 : Int32) : ∀ (n m j c d : Nat) (μ : Mem), j + m = 8 → m < n → MSea μ (upV V 0 (4 * z + s) d) → Qw (4 * z + s) μ0 μ → ∃ μf, f_X11_odds_b63 85 (nI z) (nI s) (nI q) (nI t) a5 n (nI (V 0 (4 * z + s))) (nI c) (nI j) μ = bnd (f_X11_part (nI (s_od (s_in V (4 * z + s) q t) m j c)).toInt64 (8 : Int64) a5 μf) (fun r11 μ10 => some (r11, μ10)) ∧ Qm μ0 μf := by
  intro n
  induction n with
  | zero => intro m j c d μ hj hn; omega
  | succ n ih =>
    intro m j c d μ hj hn hM hQ
    rw [f_X11_odds_b63]
    simp (disch := omega) only [il, rf_85_1, al_87, pk_mul, nI_add, gA_n, nI_clamp, lt_d, nI_leI]
    cases m with
    | zero =>
      rw [if_pos (by omega)]
      exact ⟨sI μ 87 (4 * z + s) (nI (V 0 (4 * z + s))), rfl, (hQ.tr Qw.s).fin (by rw [sI_e, hM0.1 _ (by omega)])⟩
    | succ m =>
      obtain ⟨μ2, e1, e2, e3, e4, e5⟩ := m_try hV hz hs (show j < 8 by omega) hM hQ
      rw [if_neg (by omega), bnv_e e1, bnd_e (m_by2 e4 e5 hq ht), s_od]
      unfold s_in at ih ⊢
      by_cases d : s_lq (s_L (upV V 0 (4 * z + s) j)) q ≤ t
      · rw [if_pos d, nI_b1]; exact ih m (j + 1) (c + 1) j μ2 (by omega) (by omega) e2 e3
      · rw [if_neg d, nI_b0]; exact ih m (j + 1) c j μ2 (by omega) (by omega) e2 e3
theorem s_od_le {P : Nat → Nat} (hP : ∀ k, P k ≤ 1) : ∀ m k c, s_od P m k c ≤ c + m := by
  intro m
  induction m with
  | zero => intro k c; exact Nat.le_refl _
  | succ m ih =>
    intro k c
    rw [s_od]
    have := ih (k + 1) (c + P k)
    have := hP k
    omega
end FT
/-- an answer that changes nothing, but what was worked out -/
theorem call_1 {α : Type} {fx fm : Mem → Option (α × Mem)} {n : Nat} {S : ST} {μ μ1 μ2 : Mem} {r : α} (hX : XI (n + 1) S μ1) (hM : MI S μ) (h1 : fx μ = some (r, μ1)) (hh : hi μ μ1) (h2 : fm μ1 = some (r, μ2)) (hq : Qm μ1 μ2) : ∃ r μ1 μ2 S2, fx μ = some (r, μ1) ∧ fm μ1 = some (r, μ2) ∧ XI (n + 1) S2 μ2 ∧ MI S2 μ2 :=
  ⟨r, μ1, μ2, S, h1, h2, hX.lo hq.1, (hM.hi hh).q hq⟩
theorem call_fits (a1 a2 a3 : Int32) : CALL (f_X10_fits 0 a1 a2 a3) (f_X11_fits 85 a1 a2 a3) := by
  intro n S μ hn hX hM
  have hFU : FU = 1000000000000 := rfl
  obtain ⟨b1, x1, m1, h1⟩ := arg_zo a1
  obtain ⟨b2, x2, m2, h2⟩ := arg_sp a2
  obtain ⟨b3, x3, m3, h3⟩ := argc a3 2 (by decide) (by decide)
  rcases h1 with rfl | ⟨rfl, z, hz, rfl⟩
  · exact call_q hX hM (r := -nI 1) (by unfold f_X10_fits; simp only [il]; rw [bnd_e (x1 _), nI_b0]) (by unfold f_X11_fits; simp only [il]; rw [bnd_e (m1 _), nI_b0])
  rcases h2 with rfl | ⟨rfl, s, hs, rfl⟩
  · exact call_q hX hM (r := -nI 1) (by unfold f_X10_fits; simp only [il]; rw [bnd_e (x1 _), nI_b1, bnd_e (x2 _), nI_b0]) (by unfold f_X11_fits; simp only [il]; rw [bnd_e (m1 _), nI_b1, bnd_e (m2 _), nI_b0])
  rcases h3 with rfl | ⟨rfl, w, hw, rfl⟩
  · exact call_q hX hM (r := -nI 1) (by unfold f_X10_fits; simp only [il]; rw [bnd_e (x1 _), nI_b1, bnd_e (x2 _), nI_b1, bnd_e (x3 _), nI_b0]) (by unfold f_X11_fits; simp only [il]; rw [bnd_e (m1 _), nI_b1, bnd_e (m2 _), nI_b1, bnd_e (m3 _), nI_b0])
  have hV := hX.1.1.1
  have hH := hX.1.1.2
  obtain ⟨μ1, f1, f2, f3, f4⟩ := hX.turn hn hz hs
  have hM1 := hM.hi f3
  have h0 := hV.1 (4 * z + s) (by omega)
  obtain ⟨μ2, g1, g2⟩ := m_fits (V := S.1) (H := S.2.1) hV hz hs hH hM1.2.1 hM1.2.2.1 (nI w) FU 8 0 (-nI 5) (S.1 0 (4 * z + s)) μ1 (by decide) (by omega) (by rw [upV_id rfl]; exact hM1.2.1) (Qw.rf _ _)
  refine call_1 f2 hM (μ2 := μ2) (r := if nI w = nI 0 then nI (s_ft (fun d => s_sn S.2.1 (s_L (upV S.1 0 (4 * z + s) d)) (S.2.1 15 1) 0) 8 0 (-nI 5)).1 else (s_ft (fun d => s_sn S.2.1 (s_L (upV S.1 0 (4 * z + s) d)) (S.2.1 15 1) 0) 8 0 (-nI 5)).2) ?_ f3 ?_ g2
  · unfold f_X10_fits; simp only [il, rf_0_3, rf_0_0]
    rw [bnd_e (x1 _), nI_b1, bnd_e (x2 _), nI_b1, bnd_e (x3 _), nI_b1, bnv_e f1]
    exact x_fits hV (by omega) f4 hH f2.2.2.1 _ _ _ FU 8 0 (-nI 5) (by decide) (by omega)
  · unfold f_X11_fits; simp only [il]
    rw [bnd_e (m1 _), nI_b1, bnd_e (m2 _), nI_b1, bnd_e (m3 _), nI_b1]
    simp (disch := omega) only [il, rf_85_1, al_87, pk_mul, nI_add, gA_n, nI_clamp, lt_d]
    rw [hM1.2.1.1 _ (by omega)]
    exact g1
theorem call_odds (a1 a2 a3 a4 a5 : Int32) : CALL (f_X10_odds 0 a1 a2 a3 a4 a5) (f_X11_odds 85 a1 a2 a3 a4 a5) := by
  intro n S μ hn hX hM
  have hFU : FU = 1000000000000 := rfl
  obtain ⟨b1, x1, m1, h1⟩ := arg_zo a1
  obtain ⟨b2, x2, m2, h2⟩ := arg_sp a2
  obtain ⟨b3, x3, m3, h3⟩ := arg_sq a3
  obtain ⟨b5, x5, m5, h5⟩ := arg_pa a5
  rcases h1 with rfl | ⟨rfl, z, hz, rfl⟩
  · exact call_q hX hM (r := -9223372036854775808) (by unfold f_X10_odds; simp only [il]; rw [bnd_e (x1 _), nI_b0]) (by unfold f_X11_odds; simp only [il]; rw [bnd_e (m1 _), nI_b0])
  rcases h2 with rfl | ⟨rfl, s, hs, rfl⟩
  · exact call_q hX hM (r := -9223372036854775808) (by unfold f_X10_odds; simp only [il]; rw [bnd_e (x1 _), nI_b1, bnd_e (x2 _), nI_b0]) (by unfold f_X11_odds; simp only [il]; rw [bnd_e (m1 _), nI_b1, bnd_e (m2 _), nI_b0])
  rcases h3 with rfl | ⟨rfl, q, hq, rfl⟩
  · exact call_q hX hM (r := -9223372036854775808) (by unfold f_X10_odds; simp only [il]; rw [bnd_e (x1 _), nI_b1, bnd_e (x2 _), nI_b1, bnd_e (x3 _), nI_b0]) (by unfold f_X11_odds; simp only [il]; rw [bnd_e (m1 _), nI_b1, bnd_e (m2 _), nI_b1, bnd_e (m3 _), nI_b0])
  rcases arg_m a4 99999 (by decide) with ⟨q1, q2⟩ | ⟨t, ht, rfl, q0, q1, q2⟩
  · refine call_q hX hM (r := -9223372036854775808) ?_ ?_
    · unfold f_X10_odds; simp only [il]; rw [bnd_e (x1 _), nI_b1, bnd_e (x2 _), nI_b1, bnd_e (x3 _), nI_b1]
      rcases q1 with w | ⟨w0, w⟩
      · rw [if_pos w]
      · rw [if_neg w0, if_pos (Int32.not_le.mp w)]
    · unfold f_X11_odds; simp only [il]; rw [bnd_e (m1 _), nI_b1, bnd_e (m2 _), nI_b1, bnd_e (m3 _), nI_b1, bnd_e (q2 _), nI_b0]
  have q3 : ¬ nI 99999 < nI t := fun w => absurd ((nI_ltI (by decide) (by omega)).mp w) (by omega)
  rcases h5 with rfl | ⟨rfl, p, hp, rfl⟩
  · exact call_q hX hM (r := -9223372036854775808) (by unfold f_X10_odds; simp only [il]; rw [bnd_e (x1 _), nI_b1, bnd_e (x2 _), nI_b1, bnd_e (x3 _), nI_b1, if_neg q0, if_neg q3, bnd_e (x5 _), nI_b0]) (by unfold f_X11_odds; simp only [il]; rw [bnd_e (m1 _), nI_b1, bnd_e (m2 _), nI_b1, bnd_e (m3 _), nI_b1, bnd_e (q2 _), nI_b1, bnd_e (m5 _), nI_b0])
  have hV := hX.1.1.1
  obtain ⟨μ1, f1, f2, f3, f4⟩ := hX.turn hn hz hs
  have hM1 := hM.hi f3
  have h0 := hV.1 (4 * z + s) (by omega)
  obtain ⟨μ2, g1, g2⟩ := m_odds (V := S.1) hV hz hs hM1.2.1 hq ht (nI p) FU 8 0 0 (S.1 0 (4 * z + s)) μ1 rfl (by omega) (by rw [upV_id rfl]; exact hM1.2.1) (Qw.rf _ _)
  have hle := s_od_le (P := s_in S.1 (4 * z + s) q t) (fun k => by unfold s_in; split <;> omega) 8 0 0
  have e8 : (8 : Int64) = lN 8 := rfl
  refine call_1 f2 hM (μ2 := μ2) (r := lN ((if nI p = nI 0 then s_od (s_in S.1 (4 * z + s) q t) 8 0 0 else 8) / Nat.gcd (s_od (s_in S.1 (4 * z + s) q t) 8 0 0) 8)) ?_ f3 ?_ g2
  · unfold f_X10_odds; simp only [il, rf_0_3, rf_0_0]
    rw [bnd_e (x1 _), nI_b1, bnd_e (x2 _), nI_b1, bnd_e (x3 _), nI_b1, if_neg q0, if_neg q3, bnd_e (x5 _), nI_b1, bnv_e f1]
    rw [x_odds hV (by omega) f4 hq ht _ _ _ FU 8 0 0 rfl (by omega), nI_l (by omega), e8, bnd_e (x_fr (by omega) (by decide) (by decide) _ _)]
  · unfold f_X11_odds; simp only [il]
    rw [bnd_e (m1 _), nI_b1, bnd_e (m2 _), nI_b1, bnd_e (m3 _), nI_b1, bnd_e (q2 _), nI_b1, bnd_e (m5 _), nI_b1]
    simp (disch := omega) only [il, rf_85_1, al_87, pk_mul, nI_add, gA_n, nI_clamp, lt_d]
    rw [hM1.2.1.1 _ (by omega), g1, nI_l (by omega), e8, bnd_e (m_fr (by omega) (by decide) (by decide) _ _)]
