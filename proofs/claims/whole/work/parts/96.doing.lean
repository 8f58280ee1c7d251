/-! a clause done, on both sides -/
def s_tab (V : SV) (f : Nat) (ns : List Nat) : Nat → SV
  | 0 => V
  | j + 1 => upV (s_tab V f ns j) 4 (5 * f + j) (ns.getD (1 + j) 0)
/-- the sea behind a clause; none: it isn't done -/
def s_do (V : SV) (kd : Nat) (ns : List Nat) : Option SV :=
  if kd = 98 then (if 1 ≤ ns.getD 0 0 ∧ ns.getD 0 0 ≤ 3 then some (s_tab V (ns.getD 0 0) ns 5) else none)
  else if kd = 99 then (if ns.getD 0 0 < 4 ∧ ns.getD 1 0 < 8 ∧ ns.getD 2 0 < 4 then some (upV (upV V 2 (ns.getD 0 0) (ns.getD 1 0)) 3 (ns.getD 0 0) (ns.getD 2 0)) else none)
  else if kd = 108 then (if ns.getD 0 0 < 36 then (if V 6 (ns.getD 0 0) = 0 then (if ns.getD 0 0 = V 7 0 then none else some (upV V 6 (ns.getD 0 0) 1)) else some (upV V 6 (ns.getD 0 0) 0)) else none)
  else if kd = 115 then (if ns.getD 0 0 < 36 ∧ ns.getD 1 0 < 2 ∧ V 6 (ns.getD 0 0) = 0 then some (up7 V (ns.getD 0 0) (ns.getD 1 0) (ns.getD 2 0)) else none)
  else if kd = 116 then (if ns.getD 0 0 ≤ 60 ∧ ns.getD 1 0 ≤ 60 then some (upV (upV V 5 0 (ns.getD 0 0)) 5 1 (ns.getD 1 0)) else none)
  else (if ns.getD 0 0 < 4 ∧ ns.getD 1 0 < 4 ∧ ns.getD 2 0 < 8 ∧ ns.getD 3 0 < 4 then some (upV (upV V 0 (4 * ns.getD 0 0 + ns.getD 1 0) (ns.getD 2 0)) 1 (4 * ns.getD 0 0 + ns.getD 1 0) (ns.getD 3 0)) else none)
/-- what is known of a clause that was read -/
def CK (kd : Nat) (ns : List Nat) : Prop := ((kd = 119 ∧ ns.length = 4) ∨ (kd = 99 ∧ ns.length = 3) ∨ (kd = 98 ∧ ns.length = 6 ∧ ∀ j, ns.getD j 0 < 10) ∨ (kd = 108 ∧ ns.length = 1) ∨ (kd = 115 ∧ ns.length = 3) ∨ (kd = 116 ∧ ns.length = 2)) ∧ ∀ j, ns.getD j 0 < 10000
theorem x_bel {a k : Nat} (ha : a < 2 ^ 31) (hk : k < 2 ^ 31) (μ : Mem) : f_X10_below (nI a) (nI k) μ = some (nI (if a < k then 1 else 0), μ) := by
  unfold f_X10_below
  simp only [il]
  rw [if_neg (nI_lt0 ha)]
  by_cases c : a < k
  · rw [if_pos c, if_neg (nI_ge c hk)]
  · rw [if_neg c, if_pos (nI_le (by omega) ha)]
theorem bel_b {a k b : Nat} (ha : a < 2 ^ 31) (hk : k < 2 ^ 31) {μ : Mem} (h : f_X10_below (nI a) (nI k) μ = some (nI b, μ)) : nI b = nI (if a < k then 1 else 0) := by
  rw [x_bel ha hk μ] at h
  exact (congrArg Prod.fst (Option.some.inj h)).symm
theorem m_isZ {a : Nat} (ha : a < 2 ^ 31) (μ : Mem) : f_X11_isZone (nI a) μ = some (nI (if a < 4 then 1 else 0), μ) := by
  obtain ⟨b, x1, m1, _⟩ := arg_zo (nI a)
  rw [m1 μ, bel_b ha (by decide) (x1 μ)]
theorem m_isP {a : Nat} (ha : a < 2 ^ 31) (μ : Mem) : f_X11_isSpan (nI a) μ = some (nI (if a < 4 then 1 else 0), μ) := by
  obtain ⟨b, x1, m1, _⟩ := arg_sp (nI a)
  rw [m1 μ, bel_b ha (by decide) (x1 μ)]
theorem m_isH {a : Nat} (ha : a < 2 ^ 31) (μ : Mem) : f_X11_isHeading (nI a) μ = some (nI (if a < 8 then 1 else 0), μ) := by
  obtain ⟨b, x1, m1, _⟩ := arg_he (nI a)
  rw [m1 μ, bel_b ha (by decide) (x1 μ)]
theorem m_isF {a : Nat} (ha : a < 2 ^ 31) (μ : Mem) : f_X11_isForce (nI a) μ = some (nI (if a < 4 then 1 else 0), μ) := by
  obtain ⟨b, x1, m1, _⟩ := arg_fo (nI a)
  rw [m1 μ, bel_b ha (by decide) (x1 μ)]
theorem m_isQ {a : Nat} (ha : a < 2 ^ 31) (μ : Mem) : f_X11_isSquare (nI a) μ = some (nI (if a < 36 then 1 else 0), μ) := by
  obtain ⟨b, x1, m1, _⟩ := arg_sq (nI a)
  rw [m1 μ, bel_b ha (by decide) (x1 μ)]
theorem m_isI {a : Nat} (ha : a < 2 ^ 31) (μ : Mem) : f_X11_isSide (nI a) μ = some (nI (if a < 2 then 1 else 0), μ) := by
  obtain ⟨b, x1, m1, _⟩ := arg_si (nI a)
  rw [m1 μ, bel_b ha (by decide) (x1 μ)]
/-- what a clause done leaves in the class, in the reference -/
def XE (V2 : SV) (μ μ2 : Mem) : Prop := SVok V2 ∧ XSea 1 μ2 V2 ∧ (∃ v, 1 ≤ v ∧ v ≤ 5 ∧ μ2.1 1 10 = μ.1 1 10 + nI v) ∧ ∀ i, (i = 0 ∨ 7 < i) → μ2.1 i = μ.1 i ∧ μ2.2 i = μ.2 i
def ME (V2 : SV) (μ μ2 : Mem) : Prop := MSea μ2 V2 ∧ μ2.2 = μ.2 ∧ (∀ i, (i < 85 ∨ 92 < i) → μ2.1 i = μ.1 i) ∧ ∀ k, (k < 7 ∨ 9 < k) → μ2.1 85 k = μ.1 85 k
def DX (o : Option SV) (V : SV) (μ μ2 : Mem) : Prop := (o = none ∧ μ2 = μ) ∨ ∃ V2, o = some V2 ∧ XE V2 μ μ2
def DM (o : Option SV) (V : SV) (μ μ2 : Mem) : Prop := (o = none ∧ μ2 = μ) ∨ ∃ V2, o = some V2 ∧ ME V2 μ μ2
def dn (o : Option SV) : Nat := if o.isSome = true then 1 else 0
section DO
variable {V : SV} {μ : Mem}
theorem neg_lt {c : Nat} (h : 1 ≤ c) (h2 : c < 2 ^ 31) : -nI c < (0 : Int32) := by
  rw [Int32.lt_iff_toInt_lt]
  rw [show (0 : Int32).toInt = 0 by decide, Int32.toInt_neg, nI_toInt h2]
  rw [Int.bmod_eq_of_le (by omega) (by omega)]
  omega
theorem pos_nlt {c : Nat} (h2 : c < 2 ^ 31) : ¬ nI c < (0 : Int32) := nI_pos h2
theorem x_wind_n (hV : SVok V) (hS : XSea 1 μ V) {a b c d : Nat} (ha : a < 10000) (hb : b < 10000) (hc : c < 10000) (hd : d < 10000) : ∃ r μ2, f_X10_wind 0 (nI a) (nI b) (nI c) (nI d) μ = some (r, μ2) ∧ (((a < 4 ∧ b < 4 ∧ c < 8 ∧ d < 4) ∧ ¬ r < (0 : Int32) ∧ XE (upV (upV V 0 (4 * a + b) c) 1 (4 * a + b) d) μ μ2) ∨ (¬ (a < 4 ∧ b < 4 ∧ c < 8 ∧ d < 4) ∧ r < (0 : Int32) ∧ μ2 = μ)) := by
  unfold f_X10_wind
  simp only [il, rf_0_0]
  rw [bnd_e (x_bel (by omega) (by decide) _)]
  by_cases h1 : a < 4
  case neg => rw [if_neg h1, nI_b0]; exact ⟨_, μ, rfl, Or.inr ⟨fun z => h1 z.1, neg_lt (by decide) (by decide), rfl⟩⟩
  rw [if_pos h1, nI_b1, bnd_e (x_bel (by omega) (by decide) _)]
  by_cases h2 : b < 4
  case neg => rw [if_neg h2, nI_b0]; exact ⟨_, μ, rfl, Or.inr ⟨fun z => h2 z.2.1, neg_lt (by decide) (by decide), rfl⟩⟩
  rw [if_pos h2, nI_b1, bnd_e (x_bel (by omega) (by decide) _)]
  by_cases h3 : c < 8
  case neg => rw [if_neg h3, nI_b0]; exact ⟨_, μ, rfl, Or.inr ⟨fun z => h3 z.2.2.1, neg_lt (by decide) (by decide), rfl⟩⟩
  rw [if_pos h3, nI_b1, bnd_e (x_bel (by omega) (by decide) _)]
  by_cases h4 : d < 4
  case neg => rw [if_neg h4, nI_b0]; exact ⟨_, μ, rfl, Or.inr ⟨fun z => h4 z.2.2.2, neg_lt (by decide) (by decide), rfl⟩⟩
  have b0 := hV.1 (4 * a + b) (by omega)
  rw [if_pos h4, nI_b1, bnd_e (x_from (Or.inl rfl) hS h1 h2), bnd_e (x_force (Or.inl rfl) hS h1 h2)]
  unfold f_X6_putWind
  simp (disch := omega) only [il, rf_1_0, rf_1_1, rf_1_2, rf_1_3, rf_1_4, rf_1_5, al_2, al_3, al_4, al_5, al_6, al_7, pk_mul, nI_add, gA_n, nI_clamp, lt_d, show a * 4 = 4 * a from Nat.mul_comm a 4]
  rw [bnv_s, sI_o (by decide), sI_o (by decide)]
  refine ⟨_, _, rfl, Or.inl ⟨⟨h1, h2, h3, h4⟩, pos_nlt (by omega), ok1 (ok0 hV h3) h4, hS.p0.p1.ver, ⟨1, by decide, by decide, by rw [sI_e]⟩, fun i hi => ⟨by rw [sI_o (by omega), sI_o (by omega), sI_o (by omega)], rfl⟩⟩⟩
theorem m_wind_n (hV : SVok V) (hM : MSea μ V) {a b c d : Nat} (ha : a < 10000) (hb : b < 10000) (hc : c < 10000) (hd : d < 10000) : ∃ r μ2, f_X11_wind 85 (nI a) (nI b) (nI c) (nI d) μ = some (r, μ2) ∧ (((a < 4 ∧ b < 4 ∧ c < 8 ∧ d < 4) ∧ ¬ r < (0 : Int32) ∧ ME (upV (upV V 0 (4 * a + b) c) 1 (4 * a + b) d) μ μ2) ∨ (¬ (a < 4 ∧ b < 4 ∧ c < 8 ∧ d < 4) ∧ r < (0 : Int32) ∧ μ2 = μ)) := by
  unfold f_X11_wind
  simp only [il]
  rw [bnd_e (m_isZ (by omega) _)]
  by_cases h1 : a < 4
  case neg => rw [if_neg h1, nI_b0]; exact ⟨_, μ, rfl, Or.inr ⟨fun z => h1 z.1, neg_lt (by decide) (by decide), rfl⟩⟩
  rw [if_pos h1, nI_b1, bnd_e (m_isP (by omega) _)]
  by_cases h2 : b < 4
  case neg => rw [if_neg h2, nI_b0]; exact ⟨_, μ, rfl, Or.inr ⟨fun z => h2 z.2.1, neg_lt (by decide) (by decide), rfl⟩⟩
  rw [if_pos h2, nI_b1, bnd_e (m_isH (by omega) _)]
  by_cases h3 : c < 8
  case neg => rw [if_neg h3, nI_b0]; exact ⟨_, μ, rfl, Or.inr ⟨fun z => h3 z.2.2.1, neg_lt (by decide) (by decide), rfl⟩⟩
  rw [if_pos h3, nI_b1, bnd_e (m_isF (by omega) _)]
  by_cases h4 : d < 4
  case neg => rw [if_neg h4, nI_b0]; exact ⟨_, μ, rfl, Or.inr ⟨fun z => h4 z.2.2.2, neg_lt (by decide) (by decide), rfl⟩⟩
  have b0 := hV.1 (4 * a + b) (by omega)
  rw [if_pos h4, nI_b1]
  simp (disch := omega) only [il, rf_85_0, rf_85_1, rf_85_2, rf_85_3, rf_85_4, rf_85_5, rf_85_6, rf_85_11, rf_85_13, rf_85_14, rf_85_16, rf_85_17, rf_85_19, rf_85_20, rf_85_21, rf_85_22, rf_85_24, rf_85_27, rf_85_33, rf_85_34, rf_85_36, rf_85_37, rf_85_38, rf_85_39, al_86, al_87, al_88, al_89, al_90, al_91, al_92, al_93, al_94, al_95, al_96, al_97, al_98, al_99, al_100, al_101, al_102, al_103, al_104, al_105, al_106, al_107, al_108, al_109, pk_mul, nI_add, gA_n, nI_clamp, lt_d, hM.1 (4 * a + b) (by omega), hM.2.1 (4 * a + b) (by omega)]
  refine ⟨_, _, rfl, Or.inl ⟨⟨h1, h2, h3, h4⟩, pos_nlt (by omega), hM.p0.p1, rfl, fun i hi => by rw [sI_o (by omega), sI_o (by omega)], fun k hk => by rw [sI_o (by omega), sI_o (by omega)]⟩⟩
theorem x_cur_n (hV : SVok V) (hS : XSea 1 μ V) {a c d : Nat} (ha : a < 10000) (hc : c < 10000) (hd : d < 10000) : ∃ r μ2, f_X10_current 0 (nI a) (nI c) (nI d) μ = some (r, μ2) ∧ (((a < 4 ∧ c < 8 ∧ d < 4) ∧ ¬ r < (0 : Int32) ∧ XE (upV (upV V 2 a c) 3 a d) μ μ2) ∨ (¬ (a < 4 ∧ c < 8 ∧ d < 4) ∧ r < (0 : Int32) ∧ μ2 = μ)) := by
  unfold f_X10_current
  simp only [il, rf_0_0]
  rw [bnd_e (x_bel (by omega) (by decide) _)]
  by_cases h1 : a < 4
  case neg => rw [if_neg h1, nI_b0]; exact ⟨_, μ, rfl, Or.inr ⟨fun z => h1 z.1, neg_lt (by decide) (by decide), rfl⟩⟩
  rw [if_pos h1, nI_b1, bnd_e (x_bel (by omega) (by decide) _)]
  by_cases h3 : c < 8
  case neg => rw [if_neg h3, nI_b0]; exact ⟨_, μ, rfl, Or.inr ⟨fun z => h3 z.2.1, neg_lt (by decide) (by decide), rfl⟩⟩
  rw [if_pos h3, nI_b1, bnd_e (x_bel (by omega) (by decide) _)]
  by_cases h4 : d < 4
  case neg => rw [if_neg h4, nI_b0]; exact ⟨_, μ, rfl, Or.inr ⟨fun z => h4 z.2.2, neg_lt (by decide) (by decide), rfl⟩⟩
  have b0 := hV.2.1 a h1
  rw [if_pos h4, nI_b1, bnd_e (x_to (Or.inl rfl) hS h1), bnd_e (x_rate (Or.inl rfl) hS h1)]
  unfold f_X6_putCurrent
  simp (disch := omega) only [il, rf_1_0, rf_1_1, rf_1_2, rf_1_3, rf_1_4, rf_1_5, al_2, al_3, al_4, al_5, al_6, al_7, pk_mul, nI_add, gA_n, nI_clamp, lt_d]
  rw [bnv_s, sI_o (by decide), sI_o (by decide)]
  refine ⟨_, _, rfl, Or.inl ⟨⟨h1, h3, h4⟩, pos_nlt (by omega), ok3 (ok2 hV h3) h4, hS.p2.p3.ver, ⟨1, by decide, by decide, by rw [sI_e]⟩, fun i hi => ⟨by rw [sI_o (by omega), sI_o (by omega), sI_o (by omega)], rfl⟩⟩⟩
theorem m_cur_n (hV : SVok V) (hM : MSea μ V) {a c d : Nat} (ha : a < 10000) (hc : c < 10000) (hd : d < 10000) : ∃ r μ2, f_X11_current 85 (nI a) (nI c) (nI d) μ = some (r, μ2) ∧ (((a < 4 ∧ c < 8 ∧ d < 4) ∧ ¬ r < (0 : Int32) ∧ ME (upV (upV V 2 a c) 3 a d) μ μ2) ∨ (¬ (a < 4 ∧ c < 8 ∧ d < 4) ∧ r < (0 : Int32) ∧ μ2 = μ)) := by
  unfold f_X11_current
  simp only [il]
  rw [bnd_e (m_isZ (by omega) _)]
  by_cases h1 : a < 4
  case neg => rw [if_neg h1, nI_b0]; exact ⟨_, μ, rfl, Or.inr ⟨fun z => h1 z.1, neg_lt (by decide) (by decide), rfl⟩⟩
  rw [if_pos h1, nI_b1, bnd_e (m_isH (by omega) _)]
  by_cases h3 : c < 8
  case neg => rw [if_neg h3, nI_b0]; exact ⟨_, μ, rfl, Or.inr ⟨fun z => h3 z.2.1, neg_lt (by decide) (by decide), rfl⟩⟩
  rw [if_pos h3, nI_b1, bnd_e (m_isF (by omega) _)]
  by_cases h4 : d < 4
  case neg => rw [if_neg h4, nI_b0]; exact ⟨_, μ, rfl, Or.inr ⟨fun z => h4 z.2.2, neg_lt (by decide) (by decide), rfl⟩⟩
  have b0 := hV.2.1 a h1
  rw [if_pos h4, nI_b1]
  simp (disch := omega) only [il, rf_85_0, rf_85_1, rf_85_2, rf_85_3, rf_85_4, rf_85_5, rf_85_6, rf_85_11, rf_85_13, rf_85_14, rf_85_16, rf_85_17, rf_85_19, rf_85_20, rf_85_21, rf_85_22, rf_85_24, rf_85_27, rf_85_33, rf_85_34, rf_85_36, rf_85_37, rf_85_38, rf_85_39, al_86, al_87, al_88, al_89, al_90, al_91, al_92, al_93, al_94, al_95, al_96, al_97, al_98, al_99, al_100, al_101, al_102, al_103, al_104, al_105, al_106, al_107, al_108, al_109, pk_mul, nI_add, gA_n, nI_clamp, lt_d, hM.2.2.2.1 a h1, hM.2.2.2.2.1 a h1]
  refine ⟨_, _, rfl, Or.inl ⟨⟨h1, h3, h4⟩, pos_nlt (by omega), hM.p2.p3, rfl, fun i hi => by rw [sI_o (by omega), sI_o (by omega)], fun k hk => by rw [sI_o (by omega), sI_o (by omega)]⟩⟩
/-- land, told by a clause -/
theorem x_lan_n (hV : SVok V) (hS : XSea 1 μ V) {q w : Nat} (hq : q < 36) (hw : w < 2) : ∃ r μ2, f_X10_land 0 (nI q) (nI w) μ = some (r, μ2) ∧ (((w = 0 ∨ q ≠ V 7 0) ∧ ¬ r < (0 : Int32) ∧ XE (upV V 6 q w) μ μ2) ∨ (¬ (w = 0 ∨ q ≠ V 7 0) ∧ r < (0 : Int32) ∧ μ2 = μ)) := by
  have h70 := hV.2.2.2.2.2.1
  have hs0 : μ.1 1 7 = nI (V 7 0) := hS.2.2.2.2.2.2.2.1
  obtain ⟨B2, p1, p2⟩ := x_putLand hS hq (nI w)
  have hz : zb (nI w) = w := by
    rcases (show w = 0 ∨ w = 1 by omega) with rfl | rfl
    · exact if_pos rfl
    · exact if_neg (by decide)
  rw [hz] at p2
  have x29 : f_X10_land_b29 0 (nI q) (nI w) μ = some (nI (V 6 q), sI (sL μ 1 6 (lN B2)) 1 10 (μ.1 1 10 + nI 1)) := by
    have h6 := hV.2.2.2.2.1 q hq
    unfold f_X10_land_b29 f_X10_land_b45
    simp only [il, rf_0_0]
    rw [bnd_e (x_land hV hS hq), bnv_e p1, bnv_e p1]
    by_cases c : V 6 q = 0
    · rw [c]; exact if_pos rfl
    · rw [show V 6 q = 1 by omega]; exact if_neg (show ¬ nI 1 = nI 0 by decide)
  have good : (w = 0 ∨ q ≠ V 7 0) → XE (upV V 6 q w) μ (sI (sL μ 1 6 (lN B2)) 1 10 (μ.1 1 10 + nI 1)) := fun h => ⟨ok6 hV hw h, (hS.p6 p2).ver, ⟨1, by decide, by decide, by rw [sI_e]⟩, fun i hi => ⟨by rw [sI_o (by omega), sL_1], by rw [sI_2, sL_2, if_neg (by omega)]⟩⟩
  have h6 := hV.2.2.2.2.1 q hq
  unfold f_X10_land
  simp only [il, rf_0_0]
  rw [bnd_e (x_bel (by omega) (by decide) _), if_pos hq, nI_b1, x29, hs0]
  by_cases h0 : w = 0
  · subst h0
    rw [if_pos (show nI 0 = nI 0 from rfl)]
    exact ⟨_, _, rfl, Or.inl ⟨Or.inl rfl, pos_nlt (by omega), good (Or.inl rfl)⟩⟩
  · rw [if_neg (show ¬ nI w = nI 0 from nI_ne (by omega) (by decide) h0)]
    by_cases hc : q = V 7 0
    · rw [if_pos (congrArg nI hc)]
      exact ⟨_, _, rfl, Or.inr ⟨fun z => by rcases z with y | y; exact h0 y; exact y hc, neg_lt (by decide) (by decide), rfl⟩⟩
    · rw [if_neg (nI_ne (by omega) (by omega) hc)]
      exact ⟨_, _, rfl, Or.inl ⟨Or.inr hc, pos_nlt (by omega), good (Or.inr hc)⟩⟩
theorem m_lan_n (hV : SVok V) (hM : MSea μ V) {q w : Nat} (hq : q < 36) (hw : w < 2) : ∃ r μ2, f_X11_land 85 (nI q) (nI w) μ = some (r, μ2) ∧ (((w = 0 ∨ q ≠ V 7 0) ∧ ¬ r < (0 : Int32) ∧ ME (upV V 6 q w) μ μ2) ∨ (¬ (w = 0 ∨ q ≠ V 7 0) ∧ r < (0 : Int32) ∧ μ2 = μ)) := by
  have h70 := hV.2.2.2.2.2.1
  have h6 := hV.2.2.2.2.1 q hq
  have hm0 : μ.1 85 7 = nI (V 7 0) := hM.2.2.2.2.2.2.2.1
  have m24 : f_X11_land_b24 85 (nI q) (nI w) μ = some (nI (V 6 q), sI μ 86 q (nI w)) := by
    unfold f_X11_land_b24
    simp (disch := omega) only [il, rf_85_0, rf_85_1, rf_85_2, rf_85_3, rf_85_4, rf_85_5, rf_85_6, rf_85_11, rf_85_13, rf_85_14, rf_85_16, rf_85_17, rf_85_19, rf_85_20, rf_85_21, rf_85_22, rf_85_24, rf_85_27, rf_85_33, rf_85_34, rf_85_36, rf_85_37, rf_85_38, rf_85_39, al_86, al_87, al_88, al_89, al_90, al_91, al_92, al_93, al_94, al_95, al_96, al_97, al_98, al_99, al_100, al_101, al_102, al_103, al_104, al_105, al_106, al_107, al_108, al_109, gA_n, nI_clamp, lt_d, hM.2.2.2.2.2.2.1 q hq]
    rcases (show w = 0 ∨ w = 1 by omega) with rfl | rfl
    · exact if_pos rfl
    · exact if_neg (show ¬ nI 1 = nI 0 by decide)
  have good : ME (upV V 6 q w) μ (sI μ 86 q (nI w)) := ⟨hM.p6, rfl, fun i hi => sI_o (by omega), fun k hk => by rw [sI_o (by omega)]⟩
  unfold f_X11_land
  simp only [il]
  rw [bnd_e (m_isQ (by omega) _), if_pos hq, nI_b1, m24, hm0]
  by_cases h0 : w = 0
  · subst h0
    rw [if_pos (show nI 0 = nI 0 from rfl)]
    exact ⟨_, _, rfl, Or.inl ⟨Or.inl rfl, pos_nlt (by omega), good⟩⟩
  · rw [if_neg (show ¬ nI w = nI 0 from nI_ne (by omega) (by decide) h0)]
    by_cases hc : q = V 7 0
    · rw [if_pos (congrArg nI hc)]
      exact ⟨_, _, rfl, Or.inr ⟨fun z => by rcases z with y | y; exact h0 y; exact y hc, neg_lt (by decide) (by decide), rfl⟩⟩
    · rw [if_neg (nI_ne (by omega) (by omega) hc)]
      exact ⟨_, _, rfl, Or.inl ⟨Or.inr hc, pos_nlt (by omega), good⟩⟩
theorem x_start_n (hV : SVok V) (hS : XSea 1 μ V) {a b c : Nat} (ha : a < 10000) (hb : b < 10000) (hc : c < 10000) : ∃ μ2, f_X10_doStart 0 (nI a) (nI b) (nI c) μ = some (nI (if a < 36 ∧ b < 2 ∧ V 6 a = 0 then 1 else 0), μ2) ∧ (((a < 36 ∧ b < 2 ∧ V 6 a = 0) ∧ XE (up7 V a b c) μ μ2) ∨ (¬ (a < 36 ∧ b < 2 ∧ V 6 a = 0) ∧ μ2 = μ)) := by
  unfold f_X10_doStart f_X10_refusalOfStart
  simp only [il, rf_0_0]
  rw [bnd_e (x_bel (by omega) (by decide) _)]
  by_cases h1 : a < 36
  case neg => rw [if_neg h1, nI_b0, bnd_s, if_neg (by decide), if_neg (fun z => h1 z.1)]; exact ⟨μ, rfl, Or.inr ⟨fun z => h1 z.1, rfl⟩⟩
  rw [if_pos h1, nI_b1, bnd_e (x_bel (by omega) (by decide) _)]
  by_cases h2 : b < 2
  case neg => rw [if_neg h2, nI_b0, bnd_s, if_neg (by decide), if_neg (fun z => h2 z.2.1)]; exact ⟨μ, rfl, Or.inr ⟨fun z => h2 z.2.1, rfl⟩⟩
  have h6 := hV.2.2.2.2.1 a h1
  rw [if_pos h2, nI_b1, if_neg (nI_lt0 (by omega)), if_pos (nI_le (by omega) (by decide)), bnd_e (x_land hV hS h1)]
  by_cases h3 : V 6 a = 0
  · rw [h3, nI_b0, bnd_s, nI_b0, if_pos ⟨h1, h2, rfl⟩]
    unfold f_X6_putStart
    simp only [il, lt_d]
    rw [bnv_s, sI_n (Or.inr (by decide)), sI_n (Or.inr (by decide)), sI_n (Or.inr (by decide))]
    exact ⟨_, rfl, Or.inl ⟨⟨h1, h2, by first | trivial | exact h3⟩, ok7 hV h1 h2 (by omega) h3, hS.s0.s1.s2.ver, ⟨1, by decide, by decide, by rw [sI_e]⟩, fun i hi => ⟨by rw [sI_o (by omega), sI_o (by omega), sI_o (by omega), sI_o (by omega)], rfl⟩⟩⟩
  · rw [show V 6 a = 1 by omega, nI_b1, bnd_s, if_neg (by decide), if_neg (fun z => absurd z.2.2 (by decide))]
    exact ⟨μ, rfl, Or.inr ⟨fun z => by have := z.2.2; omega, rfl⟩⟩
theorem m_start_n (hV : SVok V) (hM : MSea μ V) {a b c : Nat} (ha : a < 10000) (hb : b < 10000) (hc : c < 10000) (h0 : μ.1 103 0 = nI a) (h1' : μ.1 103 1 = nI b) (h2' : μ.1 103 2 = nI c) : ∃ μ2, f_X11_isBegun 85 μ = some (nI (if a < 36 ∧ b < 2 ∧ V 6 a = 0 then 1 else 0), μ2) ∧ (((a < 36 ∧ b < 2 ∧ V 6 a = 0) ∧ ME (up7 V a b c) μ μ2) ∨ (¬ (a < 36 ∧ b < 2 ∧ V 6 a = 0) ∧ μ2 = μ)) := by
  unfold f_X11_isBegun f_X11_notStart
  simp only [il, rf_85_27, al_103]
  rw [gA_n (by decide) (by decide), gA_n (by decide) (by decide), gA_n (by decide) (by decide), nI_clamp (by decide), nI_clamp (by decide), nI_clamp (by decide), h0, h1', h2', bnd_e (m_isQ (by omega) _)]
  by_cases h1 : a < 36
  case neg => rw [if_neg h1, nI_b0, bnd_s, if_neg (by decide), if_neg (fun z => h1 z.1)]; exact ⟨μ, rfl, Or.inr ⟨fun z => h1 z.1, rfl⟩⟩
  rw [if_pos h1, nI_b1, bnd_e (m_isI (by omega) _)]
  by_cases h2 : b < 2
  case neg => rw [if_neg h2, nI_b0, bnd_s, if_neg (by decide), if_neg (fun z => h2 z.2.1)]; exact ⟨μ, rfl, Or.inr ⟨fun z => h2 z.2.1, rfl⟩⟩
  have h6 := hV.2.2.2.2.1 a h1
  rw [if_pos h2, nI_b1, bnd_e (m_inN (by omega) (by decide) (by decide) _), show (if 0 ≤ c ∧ c ≤ 9999 then nI 1 else nI 0) = nI 1 from if_pos ⟨Nat.zero_le _, by omega⟩, nI_b1, rf_85_0, al_86, gA_n (by omega) (by omega), nI_clamp (by omega), hM.2.2.2.2.2.2.1 a h1]
  by_cases h3 : V 6 a = 0
  · rw [h3, if_neg (by decide), bnd_s, if_pos (by decide), if_pos ⟨h1, h2, rfl⟩]
    unfold f_X11_begins
    simp only [lt_d]
    rw [gA_n (by decide) (by decide), gA_n (by decide) (by decide), gA_n (by decide) (by decide), h0, h1', h2', bnv_s]
    exact ⟨_, rfl, Or.inl ⟨⟨h1, h2, by first | trivial | exact h3⟩, hM.s0.s1.s2, rfl, fun i hi => by rw [sI_o (by omega), sI_o (by omega), sI_o (by omega)], fun k hk => by rw [sI_n (Or.inr (by omega)), sI_n (Or.inr (by omega)), sI_n (Or.inr (by omega))]⟩⟩
  · rw [show V 6 a = 1 by omega, if_pos rfl, bnd_s, if_neg (by decide), if_neg (fun z => absurd z.2.2 (by decide))]
    exact ⟨μ, rfl, Or.inr ⟨fun z => by have := z.2.2; omega, rfl⟩⟩
theorem x_los_n (hV : SVok V) (hS : XSea 1 μ V) {a b : Nat} (ha : a < 10000) (hb : b < 10000) : ∃ μ2, f_X10_doLosses 0 (nI a) (nI b) μ = some (nI (if a ≤ 60 ∧ b ≤ 60 then 1 else 0), μ2) ∧ (((a ≤ 60 ∧ b ≤ 60) ∧ XE (upV (upV V 5 0 a) 5 1 b) μ μ2) ∨ (¬ (a ≤ 60 ∧ b ≤ 60) ∧ μ2 = μ)) := by
  unfold f_X10_doLosses
  simp only [il, rf_0_0]
  by_cases h1 : a ≤ 60
  case neg => rw [if_pos (nI_lt (by omega) (by omega)), if_neg (fun z => h1 z.1)]; exact ⟨μ, rfl, Or.inr ⟨fun z => h1 z.1, rfl⟩⟩
  rw [if_neg (fun z => absurd ((nI_ltI (by decide) (by omega)).mp z) (by omega))]
  by_cases h2 : b ≤ 60
  case neg => rw [if_neg (nI_ge (by omega) (by omega)), if_neg (fun z => h2 z.2)]; exact ⟨μ, rfl, Or.inr ⟨fun z => h2 z.2, rfl⟩⟩
  rw [if_pos (nI_le h2 (by decide)), if_pos ⟨h1, h2⟩]
  unfold f_X6_putLoss
  simp (disch := omega) only [il, rf_1_0, rf_1_1, rf_1_2, rf_1_3, rf_1_4, rf_1_5, al_2, al_3, al_4, al_5, al_6, al_7, gA_n, nI_clamp, lt_d]
  rw [bnv_s, bnv_s]
  refine ⟨_, rfl, Or.inl ⟨⟨h1, h2⟩, ok5 (ok5 hV h1) h2, (hS.p5.ver).p5.ver, ⟨2, by decide, by decide, ?_⟩, fun i hi => ⟨by rw [sI_o (by omega), sI_o (by omega), sI_o (by omega), sI_o (by omega)], rfl⟩⟩⟩
  rw [sI_e, sI_o (by decide), sI_e, sI_o (by decide), Int32.add_assoc, nI_add]
theorem m_los_n (hV : SVok V) (hM : MSea μ V) {a b : Nat} (ha : a < 10000) (hb : b < 10000) (h0 : μ.1 103 0 = nI a) (h1' : μ.1 103 1 = nI b) : ∃ μ2, f_X11_isLost 85 μ = some (nI (if a ≤ 60 ∧ b ≤ 60 then 1 else 0), μ2) ∧ (((a ≤ 60 ∧ b ≤ 60) ∧ ME (upV (upV V 5 0 a) 5 1 b) μ μ2) ∨ (¬ (a ≤ 60 ∧ b ≤ 60) ∧ μ2 = μ)) := by
  unfold f_X11_isLost
  simp only [il, rf_85_27, al_103, rf_85_6, al_92]
  rw [gA_n (by decide) (by decide), nI_clamp (by decide), nI_clamp (by decide), h0]
  by_cases h1 : a ≤ 60
  case neg => rw [if_pos (nI_lt (by omega) (by omega)), if_neg (fun z => h1 z.1)]; exact ⟨μ, rfl, Or.inr ⟨fun z => h1 z.1, rfl⟩⟩
  rw [if_neg (fun z => absurd ((nI_ltI (by decide) (by omega)).mp z) (by omega)), gA_n (by decide) (by decide), h1']
  by_cases h2 : b ≤ 60
  case neg => rw [if_neg (nI_ge (by omega) (by omega)), if_neg (fun z => h2 z.2)]; exact ⟨μ, rfl, Or.inr ⟨fun z => h2 z.2, rfl⟩⟩
  rw [if_pos (nI_le h2 (by decide)), if_pos ⟨h1, h2⟩]
  simp (disch := omega) only [gA_n, lt_d]
  rw [sI_o (by decide), h1']
  exact ⟨_, rfl, Or.inl ⟨⟨h1, h2⟩, hM.p5.p5, rfl, fun i hi => by rw [sI_o (by omega), sI_o (by omega)], fun k hk => by rw [sI_o (by omega), sI_o (by omega)]⟩⟩
end DO
