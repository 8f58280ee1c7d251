/-! clauses done, whole -/
section TB
variable {V : SV}
theorem tab_ok (hV : SVok V) {f : Nat} {ns : List Nat} (h : ∀ j, ns.getD j 0 < 10) : ∀ j, SVok (s_tab V f ns j) := by
  intro j
  induction j with
  | zero => exact hV
  | succ j ih => exact ok4 ih (h (1 + j))
theorem x_b14 {k cnt f : Nat} {ns : List Nat} {μ0 : Mem} (hV : SVok V) (hS : XSea 1 μ0 V) (hk : k < cnt) (hc : cnt ≤ 12) (h4 : μ0.1 48 4 = nI cnt) (hf : 1 ≤ f) (hf3 : f ≤ 3) (hns : ∀ j, ns.getD j 0 < 10) (hr : ∀ j, j < 6 → μ0.1 51 (6 * k + j) = nI (ns.getD j 0)) : ∀ (m n j : Nat) (μ : Mem), j + m = 5 → m < n → XSea 1 μ (s_tab V f ns j) → μ.1 1 10 = μ0.1 1 10 + nI j → (∀ i, (i = 0 ∨ 7 < i) → μ.1 i = μ0.1 i ∧ μ.2 i = μ0.2 i) → ∃ μ2, f_X10_doTable_b14 0 (nI k) (nI f) n (nI j) μ = some (nI 1, μ2) ∧ XSea 1 μ2 (s_tab V f ns 5) ∧ μ2.1 1 10 = μ0.1 1 10 + nI 5 ∧ ∀ i, (i = 0 ∨ 7 < i) → μ2.1 i = μ0.1 i ∧ μ2.2 i = μ0.2 i := by
  intro m
  induction m with
  | zero =>
    intro n j μ hj hn hX hv hF
    obtain ⟨n, rfl⟩ : ∃ t, n = t + 1 := ⟨n - 1, by omega⟩
    have : j = 5 := by omega
    subst this
    rw [f_X10_doTable_b14, if_pos (show (5 : Int32) ≤ nI 5 from nI_le (a := 5) (b := 5) (by decide) (by decide))]
    exact ⟨μ, rfl, hX, hv, hF⟩
  | succ m ih =>
    intro n j μ hj hn hX hv hF
    obtain ⟨n, rfl⟩ : ∃ t, n = t + 1 := ⟨n - 1, by omega⟩
    rw [f_X10_doTable_b14, if_neg (show ¬ (5 : Int32) ≤ nI j from nI_ge (a := j) (b := 5) (by omega) (by decide)), show (1 : Int32) = nI 1 from rfl, nI_add, rf_0_4, rf_0_0]
    have eN : f_X7_number 48 (nI k) (nI (1 + j)) μ = some (nI (ns.getD (1 + j) 0), μ) := by
      unfold f_X7_number
      simp only [il]
      rw [(hF 48 (by omega)).1, h4, bnd_e (x_bel (by omega) (by omega) _), if_pos hk, nI_b1, bnd_e (x_bel (by omega) (by decide) _), if_pos (show 1 + j < 6 by omega), nI_b1, rf_48_3, al_51, pk_mul, nI_add, gA_n (by omega) (by omega), nI_clamp (by omega), (hF 51 (by omega)).1, show k * 6 + (1 + j) = 6 * k + (1 + j) by omega, hr (1 + j) (by omega)]
    rw [bnd_e eN]
    have eP : f_X6_putSpeed 1 (nI f) (nI j) (nI (ns.getD (1 + j) 0)) μ = some (sI (sI μ 6 ((f - 1) * 5 + j) (nI (ns.getD (1 + j) 0))) 1 10 (μ.1 1 10 + nI 1)) := by
      unfold f_X6_putSpeed
      simp (disch := omega) only [il, rf_1_0, rf_1_1, rf_1_2, rf_1_3, rf_1_4, rf_1_5, al_2, al_3, al_4, al_5, al_6, al_7, pk_sub, pk_mul, nI_add, gA_n, nI_clamp, lt_d]
      rw [sI_o (by decide)]
    rw [bnv_e eP, lt_d, nI_add]
    have hX2 := (hX.p4 (j := (f - 1) * 5 + j) (x := ns.getD (1 + j) 0)).ver (v := μ.1 1 10 + nI 1)
    rw [show (f - 1) * 5 + j + 5 = 5 * f + j by omega] at hX2
    exact ih n (j + 1) _ (by omega) (by omega) hX2 (by rw [sI_e, hv, Int32.add_assoc, nI_add]) (fun i hi => ⟨by rw [sI_o (by omega), sI_o (by omega)]; exact (hF i hi).1, (hF i hi).2⟩)
theorem m_b16 {f : Nat} {ns : List Nat} {μ0 : Mem} (hf : 1 ≤ f) (hf3 : f ≤ 3) (h28 : μ0.1 85 28 = nI f) (hr : ∀ j, j < 5 → μ0.1 103 j = nI (ns.getD (j + 1) 0)) : ∀ (m n j : Nat) (μ : Mem), j + m = 5 → m < n → MSea μ (s_tab V f ns j) → μ.2 = μ0.2 → (∀ i, i ≠ 89 → μ.1 i = μ0.1 i) → ∃ μ2, f_X11_isTabled_b16 85 n (nI j) μ = some (nI 1, μ2) ∧ MSea μ2 (s_tab V f ns 5) ∧ μ2.2 = μ0.2 ∧ ∀ i, i ≠ 89 → μ2.1 i = μ0.1 i := by
  intro m
  induction m with
  | zero =>
    intro n j μ hj hn hM h2 hF
    obtain ⟨n, rfl⟩ : ∃ t, n = t + 1 := ⟨n - 1, by omega⟩
    have : j = 5 := by omega
    subst this
    rw [f_X11_isTabled_b16, if_pos (show (5 : Int32) ≤ nI 5 from nI_le (a := 5) (b := 5) (by decide) (by decide))]
    exact ⟨μ, rfl, hM, h2, hF⟩
  | succ m ih =>
    intro n j μ hj hn hM h2 hF
    obtain ⟨n, rfl⟩ : ∃ t, n = t + 1 := ⟨n - 1, by omega⟩
    rw [f_X11_isTabled_b16, if_neg (show ¬ (5 : Int32) ≤ nI j from nI_ge (a := j) (b := 5) (by omega) (by decide)), rf_85_27, al_103, rf_85_3, al_89, gA_n (by omega) (by omega), hF 85 (by decide), h28, show (5 : Int32) = nI 5 from rfl, pk_mul, nI_add, gA_n (by omega) (by omega), nI_clamp (by omega), nI_clamp (by omega), hF 103 (by decide), hr j (by omega), show (1 : Int32) = nI 1 from rfl, lt_d, nI_add, lt_d]
    have hM2 := hM.p4 (j := 5 * f + j) (x := ns.getD (j + 1) 0)
    rw [show ns.getD (j + 1) 0 = ns.getD (1 + j) 0 by rw [Nat.add_comm]] at hM2 ⊢
    exact ih n (j + 1) _ (by omega) (by omega) hM2 h2 (fun i hi => by rw [sI_o hi]; exact hF i hi)
end TB
/-- the reference's numbers of a clause -/
def RN (kd : Nat) (ns : List Nat) (μ : Mem) : Prop := (kd = 98 → μ.1 85 28 = nI (ns.getD 0 0) ∧ ∀ j, j + 1 < ns.length → μ.1 103 j = nI (ns.getD (j + 1) 0)) ∧ (kd ≠ 98 → ∀ j, j < ns.length → μ.1 103 j = nI (ns.getD j 0))
section DC
variable {V : SV} {μ : Mem}
theorem dn_le (o : Option SV) : dn o ≤ 1 := by unfold dn; split <;> omega
theorem dn_s (V2 : SV) : dn (some V2) = 1 := rfl
theorem dn_n : dn (none : Option SV) = 0 := rfl
theorem x_num_k {k cnt j : Nat} (hk : k < cnt) (hc : cnt ≤ 12) (h4 : μ.1 48 4 = nI cnt) (hj : j < 6) : f_X7_number 48 (nI k) (nI j) μ = some (μ.1 51 (6 * k + j), μ) := by
  unfold f_X7_number
  simp only [il]
  rw [h4, bnd_e (x_bel (by omega) (by omega) _), if_pos hk, nI_b1, bnd_e (x_bel (by omega) (by decide) _), if_pos hj, nI_b1, rf_48_3, al_51, pk_mul, nI_add, gA_n (by omega) (by omega), nI_clamp (by omega), show k * 6 + j = 6 * k + j by omega]
theorem x_doc (hV : SVok V) (hS : XSea 1 μ V) {k cnt kd : Nat} {ns : List Nat} (hk : k < cnt) (hc : cnt ≤ 12) (h4 : μ.1 48 4 = nI cnt) (h50 : μ.1 50 k = nI kd) (h51 : ∀ j, j < ns.length → μ.1 51 (6 * k + j) = nI (ns.getD j 0)) (hK : CK kd ns) : ∃ μ2, f_X10_doClause 0 (nI k) μ = some (nI (dn (s_do V kd ns)), μ2) ∧ DX (s_do V kd ns) V μ μ2 := by
  have hFU : FU = 1000000000000 := rfl
  obtain ⟨hkd, hb⟩ := hK
  have eK : f_X7_kind 48 (nI k) μ = some (nI kd, μ) := by
    unfold f_X7_kind
    rw [h4, bnd_e (x_bel (by omega) (by omega) _), if_pos hk, nI_b1', rf_48_2, al_50, gA_n (by omega) (by omega), nI_clamp (by omega), h50]
  have e0 := x_num_k (j := 0) hk hc h4 (by decide)
  have e1 := x_num_k (j := 1) hk hc h4 (by decide)
  have e2 := x_num_k (j := 2) hk hc h4 (by decide)
  have e3 := x_num_k (j := 3) hk hc h4 (by decide)
  unfold f_X10_doClause
  simp only [il, rf_0_4, rf_0_0]
  rw [bnd_e e0, bnd_e e1, bnd_e e2, bnd_e eK]
  rcases hkd with ⟨rfl, hl⟩ | ⟨rfl, hl⟩ | ⟨rfl, hl, h10⟩ | ⟨rfl, hl⟩ | ⟨rfl, hl⟩ | ⟨rfl, hl⟩
  · rw [if_neg (by decide), if_neg (by decide), if_neg (by decide), if_neg (by decide), if_neg (by decide), if_pos rfl, bnd_e e3, h51 0 (by omega), h51 1 (by omega), h51 2 (by omega), h51 3 (by omega)]
    obtain ⟨r, μ2, w1, w2⟩ := x_wind_n hV hS (hb 0) (hb 1) (hb 2) (hb 3)
    rw [bnd_e w1]
    rw [show s_do V 119 ns = (if ns.getD 0 0 < 4 ∧ ns.getD 1 0 < 4 ∧ ns.getD 2 0 < 8 ∧ ns.getD 3 0 < 4 then some (upV (upV V 0 (4 * ns.getD 0 0 + ns.getD 1 0) (ns.getD 2 0)) 1 (4 * ns.getD 0 0 + ns.getD 1 0) (ns.getD 3 0)) else none) from rfl]
    rcases w2 with ⟨c, d, e⟩ | ⟨c, d, e⟩
    · rw [if_neg (show ¬ r < nI 0 from d), if_pos c]; exact ⟨μ2, rfl, Or.inr ⟨_, rfl, e⟩⟩
    · rw [if_pos (show r < nI 0 from d), if_neg c]; exact ⟨μ2, rfl, Or.inl ⟨rfl, e⟩⟩
  · rw [if_neg (by decide), if_pos rfl, h51 0 (by omega), h51 1 (by omega), h51 2 (by omega)]
    obtain ⟨r, μ2, w1, w2⟩ := x_cur_n hV hS (hb 0) (hb 1) (hb 2)
    rw [bnd_e w1]
    rw [show s_do V 99 ns = (if ns.getD 0 0 < 4 ∧ ns.getD 1 0 < 8 ∧ ns.getD 2 0 < 4 then some (upV (upV V 2 (ns.getD 0 0) (ns.getD 1 0)) 3 (ns.getD 0 0) (ns.getD 2 0)) else none) from rfl]
    rcases w2 with ⟨c, d, e⟩ | ⟨c, d, e⟩
    · rw [if_neg (show ¬ r < nI 0 from d), if_pos c]; exact ⟨μ2, rfl, Or.inr ⟨_, rfl, e⟩⟩
    · rw [if_pos (show r < nI 0 from d), if_neg c]; exact ⟨μ2, rfl, Or.inl ⟨rfl, e⟩⟩
  · rw [if_pos rfl, h51 0 (by omega)]
    rw [show s_do V 98 ns = (if 1 ≤ ns.getD 0 0 ∧ ns.getD 0 0 ≤ 3 then some (s_tab V (ns.getD 0 0) ns 5) else none) from rfl]
    have hb0 := hb 0
    have et : ∃ μ2, f_X10_doTable 0 (nI k) (nI (ns.getD 0 0)) μ = some (nI (dn (if 1 ≤ ns.getD 0 0 ∧ ns.getD 0 0 ≤ 3 then some (s_tab V (ns.getD 0 0) ns 5) else none)), μ2) ∧ DX (if 1 ≤ ns.getD 0 0 ∧ ns.getD 0 0 ≤ 3 then some (s_tab V (ns.getD 0 0) ns 5) else none) V μ μ2 := by
      unfold f_X10_doTable
      simp only [il]
      by_cases c1 : 1 ≤ ns.getD 0 0
      case neg => rw [if_pos (nI_lt (by omega) (by decide)), if_neg (fun z => c1 z.1)]; exact ⟨μ, rfl, Or.inl ⟨rfl, rfl⟩⟩
      rw [if_neg (fun z => absurd ((nI_ltI (by omega) (by decide)).mp z) (by omega))]
      by_cases c2 : ns.getD 0 0 ≤ 3
      case neg => rw [if_neg (nI_ge (by omega) (by omega)), if_neg (fun z => c2 z.2)]; exact ⟨μ, rfl, Or.inl ⟨rfl, rfl⟩⟩
      rw [if_pos (nI_le c2 (by decide)), if_pos ⟨c1, c2⟩]
      obtain ⟨μ2, t1, t2, t3, t4⟩ := x_b14 hV hS hk hc h4 c1 c2 h10 (fun j hj => h51 j (by omega)) 5 FU 0 μ rfl (by omega) hS (by
        show _ = _ + (0 : Int32)
        rw [Int32.add_zero]) (fun i _ => ⟨rfl, rfl⟩)
      exact ⟨μ2, t1, Or.inr ⟨_, rfl, tab_ok hV h10 5, t2, ⟨5, by decide, by decide, t3⟩, t4⟩⟩
    obtain ⟨μ2, t1, t2⟩ := et
    rw [bnd_e t1, gB_n (dn_le _)]
    exact ⟨μ2, rfl, t2⟩
  · rw [if_neg (by decide), if_neg (by decide), if_pos rfl, h51 0 (by omega)]
    have hb0 := hb 0
    rw [bnd_e (x_bel (by omega) (by decide) _)]
    rw [show s_do V 108 ns = (if ns.getD 0 0 < 36 then (if V 6 (ns.getD 0 0) = 0 then (if ns.getD 0 0 = V 7 0 then none else some (upV V 6 (ns.getD 0 0) 1)) else some (upV V 6 (ns.getD 0 0) 0)) else none) from rfl]
    by_cases c : ns.getD 0 0 < 36
    case neg => rw [if_neg c, if_neg c, nI_b0]; exact ⟨μ, rfl, Or.inl ⟨rfl, rfl⟩⟩
    have h6 := hV.2.2.2.2.1 _ c
    rw [if_pos c, if_pos c, nI_b1, bnd_e (x_land hV hS c)]
    unfold f_X10_doClause_b173
    by_cases d : V 6 (ns.getD 0 0) = 0
    · obtain ⟨r, μ2, w1, w2⟩ := x_lan_n hV hS c (show 1 < 2 by decide)
      rw [d, nI_b0, if_pos rfl, bnd_e w1]
      rcases w2 with ⟨c1, d1, e1⟩ | ⟨c1, d1, e1⟩
      · rw [if_neg d1, if_neg (fun z => by rcases c1 with y | y; exact absurd y (by decide); exact y z)]; exact ⟨μ2, rfl, Or.inr ⟨_, rfl, e1⟩⟩
      · rw [if_pos d1, if_pos (Classical.byContradiction (fun z => c1 (Or.inr z)))]; exact ⟨μ2, rfl, Or.inl ⟨rfl, e1⟩⟩
    · obtain ⟨r, μ2, w1, w2⟩ := x_lan_n hV hS c (show 0 < 2 by decide)
      rw [if_neg (show ¬ nI (V 6 (ns.getD 0 0)) = nI 0 from nI_ne (by omega) (by decide) d), if_neg d, bnd_e w1]
      rcases w2 with ⟨c1, d1, e1⟩ | ⟨c1, d1, e1⟩
      · rw [if_neg d1]; exact ⟨μ2, rfl, Or.inr ⟨_, rfl, e1⟩⟩
      · exact absurd (Or.inl rfl) c1
  · rw [if_neg (by decide), if_neg (by decide), if_neg (by decide), if_pos rfl, h51 0 (by omega), h51 1 (by omega), h51 2 (by omega)]
    obtain ⟨μ2, w1, w2⟩ := x_start_n hV hS (hb 0) (hb 1) (hb 2)
    rw [bnd_e w1, gB_if]
    rw [show s_do V 115 ns = (if ns.getD 0 0 < 36 ∧ ns.getD 1 0 < 2 ∧ V 6 (ns.getD 0 0) = 0 then some (up7 V (ns.getD 0 0) (ns.getD 1 0) (ns.getD 2 0)) else none) from rfl]
    rcases w2 with ⟨c, e⟩ | ⟨c, e⟩
    · rw [if_pos c, if_pos c]; exact ⟨μ2, rfl, Or.inr ⟨_, rfl, e⟩⟩
    · rw [if_neg c, if_neg c]; exact ⟨μ2, rfl, Or.inl ⟨rfl, e⟩⟩
  · rw [if_neg (by decide), if_neg (by decide), if_neg (by decide), if_neg (by decide), if_pos rfl, h51 0 (by omega), h51 1 (by omega)]
    obtain ⟨μ2, w1, w2⟩ := x_los_n hV hS (hb 0) (hb 1)
    rw [bnd_e w1, gB_if]
    rw [show s_do V 116 ns = (if ns.getD 0 0 ≤ 60 ∧ ns.getD 1 0 ≤ 60 then some (upV (upV V 5 0 (ns.getD 0 0)) 5 1 (ns.getD 1 0)) else none) from rfl]
    rcases w2 with ⟨c, e⟩ | ⟨c, e⟩
    · rw [if_pos c, if_pos c]; exact ⟨μ2, rfl, Or.inr ⟨_, rfl, e⟩⟩
    · rw [if_neg c, if_neg c]; exact ⟨μ2, rfl, Or.inl ⟨rfl, e⟩⟩
theorem m_doc (hV : SVok V) (hM : MSea μ V) {kd : Nat} {ns : List Nat} (hR : RN kd ns μ) (hK : CK kd ns) : ∃ μ2, f_X11_isDone 85 (nI kd) μ = some (nI (dn (s_do V kd ns)), μ2) ∧ DM (s_do V kd ns) V μ μ2 := by
  have hFU : FU = 1000000000000 := rfl
  obtain ⟨hkd, hb⟩ := hK
  unfold f_X11_isDone
  simp only [il, rf_85_27, al_103]
  rcases hkd with ⟨rfl, hl⟩ | ⟨rfl, hl⟩ | ⟨rfl, hl, h10⟩ | ⟨rfl, hl⟩ | ⟨rfl, hl⟩ | ⟨rfl, hl⟩
  · have hr := hR.2 (by decide)
    rw [if_neg (by decide), if_neg (by decide), if_neg (by decide), if_neg (by decide), if_pos rfl, gA_n (by decide) (by decide), gA_n (by decide) (by decide), gA_n (by decide) (by decide), gA_n (by decide) (by decide), nI_clamp (by decide), nI_clamp (by decide), nI_clamp (by decide), nI_clamp (by decide), hr 0 (by omega), hr 1 (by omega), hr 2 (by omega), hr 3 (by omega)]
    obtain ⟨r, μ2, w1, w2⟩ := m_wind_n hV hM (hb 0) (hb 1) (hb 2) (hb 3)
    rw [bnd_e w1]
    rw [show s_do V 119 ns = (if ns.getD 0 0 < 4 ∧ ns.getD 1 0 < 4 ∧ ns.getD 2 0 < 8 ∧ ns.getD 3 0 < 4 then some (upV (upV V 0 (4 * ns.getD 0 0 + ns.getD 1 0) (ns.getD 2 0)) 1 (4 * ns.getD 0 0 + ns.getD 1 0) (ns.getD 3 0)) else none) from rfl]
    rcases w2 with ⟨c, d, e⟩ | ⟨c, d, e⟩
    · rw [if_neg (show ¬ r < nI 0 from d), if_pos c]; exact ⟨μ2, rfl, Or.inr ⟨_, rfl, e⟩⟩
    · rw [if_pos (show r < nI 0 from d), if_neg c]; exact ⟨μ2, rfl, Or.inl ⟨rfl, e⟩⟩
  · have hr := hR.2 (by decide)
    rw [if_neg (by decide), if_pos rfl, gA_n (by decide) (by decide), gA_n (by decide) (by decide), gA_n (by decide) (by decide), nI_clamp (by decide), nI_clamp (by decide), nI_clamp (by decide), hr 0 (by omega), hr 1 (by omega), hr 2 (by omega)]
    obtain ⟨r, μ2, w1, w2⟩ := m_cur_n hV hM (hb 0) (hb 1) (hb 2)
    rw [bnd_e w1]
    rw [show s_do V 99 ns = (if ns.getD 0 0 < 4 ∧ ns.getD 1 0 < 8 ∧ ns.getD 2 0 < 4 then some (upV (upV V 2 (ns.getD 0 0) (ns.getD 1 0)) 3 (ns.getD 0 0) (ns.getD 2 0)) else none) from rfl]
    rcases w2 with ⟨c, d, e⟩ | ⟨c, d, e⟩
    · rw [if_neg (show ¬ r < nI 0 from d), if_pos c]; exact ⟨μ2, rfl, Or.inr ⟨_, rfl, e⟩⟩
    · rw [if_pos (show r < nI 0 from d), if_neg c]; exact ⟨μ2, rfl, Or.inl ⟨rfl, e⟩⟩
  · obtain ⟨h28, hr⟩ := hR.1 rfl
    rw [if_pos rfl]
    rw [show s_do V 98 ns = (if 1 ≤ ns.getD 0 0 ∧ ns.getD 0 0 ≤ 3 then some (s_tab V (ns.getD 0 0) ns 5) else none) from rfl]
    have hb0 := hb 0
    have et : ∃ μ2, f_X11_isTabled 85 μ = some (nI (dn (if 1 ≤ ns.getD 0 0 ∧ ns.getD 0 0 ≤ 3 then some (s_tab V (ns.getD 0 0) ns 5) else none)), μ2) ∧ DM (if 1 ≤ ns.getD 0 0 ∧ ns.getD 0 0 ≤ 3 then some (s_tab V (ns.getD 0 0) ns 5) else none) V μ μ2 := by
      unfold f_X11_isTabled
      rw [h28, show (1 : Int32) = nI 1 from rfl, show (3 : Int32) = nI 3 from rfl, bnd_e (m_inN (by omega) (by decide) (by decide) _)]
      by_cases c : 1 ≤ ns.getD 0 0 ∧ ns.getD 0 0 ≤ 3
      case neg => rw [if_neg c, if_neg c, if_pos (show nI 0 = 0 from rfl)]; exact ⟨μ, rfl, Or.inl ⟨rfl, rfl⟩⟩
      rw [if_pos c, if_pos c, nI_b1']
      obtain ⟨μ2, t1, t2, t3, t4⟩ := m_b16 (V := V) (ns := ns) c.1 c.2 h28 (fun j hj => hr j (by omega)) 5 FU 0 μ rfl (by omega) hM rfl (fun _ _ => rfl)
      exact ⟨μ2, t1, Or.inr ⟨_, rfl, t2, t3, fun i hi => t4 i (by omega), fun k _ => by rw [t4 85 (by decide)]⟩⟩
    obtain ⟨μ2, t1, t2⟩ := et
    rw [bnd_e t1, gB_n (dn_le _)]
    exact ⟨μ2, rfl, t2⟩
  · have hr := hR.2 (by decide)
    have hb0 := hb 0
    rw [if_neg (by decide), if_neg (by decide), if_pos rfl, gA_n (by decide) (by decide), nI_clamp (by decide), hr 0 (by omega), bnd_e (m_isQ (by omega) _)]
    rw [show s_do V 108 ns = (if ns.getD 0 0 < 36 then (if V 6 (ns.getD 0 0) = 0 then (if ns.getD 0 0 = V 7 0 then none else some (upV V 6 (ns.getD 0 0) 1)) else some (upV V 6 (ns.getD 0 0) 0)) else none) from rfl]
    by_cases c : ns.getD 0 0 < 36
    case neg => rw [if_neg c, if_neg c, nI_b0]; exact ⟨μ, rfl, Or.inl ⟨rfl, rfl⟩⟩
    have h6 := hV.2.2.2.2.1 _ c
    rw [if_pos c, if_pos c, nI_b1, gA_n (by decide) (by decide), gA_n (by decide) (by decide), hr 0 (by omega), rf_85_0, al_86, gA_n (by omega) (by omega), nI_clamp (by omega), hM.2.2.2.2.2.2.1 _ c]
    unfold f_X11_isDone_b163
    by_cases d : V 6 (ns.getD 0 0) = 0
    · obtain ⟨r, μ2, w1, w2⟩ := m_lan_n hV hM c (show 1 < 2 by decide)
      rw [d, nI_b0, if_pos rfl, bnd_e w1]
      rcases w2 with ⟨c1, d1, e1⟩ | ⟨c1, d1, e1⟩
      · rw [if_neg d1, if_neg (fun z => by rcases c1 with y | y; exact absurd y (by decide); exact y z)]; exact ⟨μ2, rfl, Or.inr ⟨_, rfl, e1⟩⟩
      · rw [if_pos d1, if_pos (Classical.byContradiction (fun z => c1 (Or.inr z)))]; exact ⟨μ2, rfl, Or.inl ⟨rfl, e1⟩⟩
    · obtain ⟨r, μ2, w1, w2⟩ := m_lan_n hV hM c (show 0 < 2 by decide)
      rw [if_neg (show ¬ nI (V 6 (ns.getD 0 0)) = nI 0 from nI_ne (by omega) (by decide) d), if_neg d, bnd_e w1]
      rcases w2 with ⟨c1, d1, e1⟩ | ⟨c1, d1, e1⟩
      · rw [if_neg d1]; exact ⟨μ2, rfl, Or.inr ⟨_, rfl, e1⟩⟩
      · exact absurd (Or.inl rfl) c1
  · have hr := hR.2 (by decide)
    rw [if_neg (by decide), if_neg (by decide), if_neg (by decide), if_pos rfl]
    obtain ⟨μ2, w1, w2⟩ := m_start_n hV hM (hb 0) (hb 1) (hb 2) (hr 0 (by omega)) (hr 1 (by omega)) (hr 2 (by omega))
    rw [bnd_e w1, gB_if]
    rw [show s_do V 115 ns = (if ns.getD 0 0 < 36 ∧ ns.getD 1 0 < 2 ∧ V 6 (ns.getD 0 0) = 0 then some (up7 V (ns.getD 0 0) (ns.getD 1 0) (ns.getD 2 0)) else none) from rfl]
    rcases w2 with ⟨c, e⟩ | ⟨c, e⟩
    · rw [if_pos c, if_pos c]; exact ⟨μ2, rfl, Or.inr ⟨_, rfl, e⟩⟩
    · rw [if_neg c, if_neg c]; exact ⟨μ2, rfl, Or.inl ⟨rfl, e⟩⟩
  · have hr := hR.2 (by decide)
    rw [if_neg (by decide), if_neg (by decide), if_neg (by decide), if_neg (by decide), if_neg (by decide)]
    obtain ⟨μ2, w1, w2⟩ := m_los_n hV hM (hb 0) (hb 1) (hr 0 (by omega)) (hr 1 (by omega))
    rw [bnd_e w1, gB_if]
    rw [show s_do V 116 ns = (if ns.getD 0 0 ≤ 60 ∧ ns.getD 1 0 ≤ 60 then some (upV (upV V 5 0 (ns.getD 0 0)) 5 1 (ns.getD 1 0)) else none) from rfl]
    rcases w2 with ⟨c, e⟩ | ⟨c, e⟩
    · rw [if_pos c, if_pos c]; exact ⟨μ2, rfl, Or.inr ⟨_, rfl, e⟩⟩
    · rw [if_neg c, if_neg c]; exact ⟨μ2, rfl, Or.inl ⟨rfl, e⟩⟩
end DC
