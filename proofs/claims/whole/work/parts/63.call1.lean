/-! the calls that change the sea -/
theorem hi.rf (μ : Mem) : hi μ μ := fun _ _ => ⟨rfl, rfl⟩
theorem nI_b0 {β : Type} {x y : β} : (if nI 0 = nI 0 then x else y) = x := if_pos rfl
theorem nI_b1 {β : Type} {x y : β} : (if nI 1 = nI 0 then x else y) = y := if_neg (by decide)
section CA
variable {V : SV}
theorem ok0 (h : SVok V) {j x : Nat} (hx : x < 8) : SVok (upV V 0 j x) := by
  obtain ⟨h1, h2, h3, h4, h5, h6⟩ := h
  refine ⟨fun k hk => ⟨?_, ?_⟩, fun k hk => ?_, fun k hk => ?_, ?_, fun k hk => ?_, ?_⟩
  · by_cases c : k = j
    · rw [c, upV_e]; exact hx
    · rw [upV_n (Or.inr c)]; exact (h1 k hk).1
  · rw [upV_n (Or.inl (by decide))]; exact (h1 k hk).2
  · rw [upV_n (Or.inl (by decide)), upV_n (Or.inl (by decide))]; exact h2 k hk
  · rw [upV_n (Or.inl (by decide))]; exact h3 k hk
  · rw [upV_n (Or.inl (by decide)), upV_n (Or.inl (by decide))]; exact h4
  · rw [upV_n (Or.inl (by decide))]; exact h5 k hk
  · rw [upV_n (Or.inl (by decide)), upV_n (Or.inl (by decide)), upV_n (Or.inl (by decide)), upV_n (Or.inl (by decide))]; exact h6
theorem ok1 (h : SVok V) {j x : Nat} (hx : x < 4) : SVok (upV V 1 j x) := by
  obtain ⟨h1, h2, h3, h4, h5, h6⟩ := h
  refine ⟨fun k hk => ⟨?_, ?_⟩, fun k hk => ?_, fun k hk => ?_, ?_, fun k hk => ?_, ?_⟩
  · rw [upV_n (Or.inl (by decide))]; exact (h1 k hk).1
  · by_cases c : k = j
    · rw [c, upV_e]; exact hx
    · rw [upV_n (Or.inr c)]; exact (h1 k hk).2
  · rw [upV_n (Or.inl (by decide)), upV_n (Or.inl (by decide))]; exact h2 k hk
  · rw [upV_n (Or.inl (by decide))]; exact h3 k hk
  · rw [upV_n (Or.inl (by decide)), upV_n (Or.inl (by decide))]; exact h4
  · rw [upV_n (Or.inl (by decide))]; exact h5 k hk
  · rw [upV_n (Or.inl (by decide)), upV_n (Or.inl (by decide)), upV_n (Or.inl (by decide)), upV_n (Or.inl (by decide))]; exact h6
theorem ok2 (h : SVok V) {j x : Nat} (hx : x < 8) : SVok (upV V 2 j x) := by
  obtain ⟨h1, h2, h3, h4, h5, h6⟩ := h
  refine ⟨fun k hk => ?_, fun k hk => ⟨?_, ?_⟩, fun k hk => ?_, ?_, fun k hk => ?_, ?_⟩
  · rw [upV_n (Or.inl (by decide)), upV_n (Or.inl (by decide))]; exact h1 k hk
  · by_cases c : k = j
    · rw [c, upV_e]; exact hx
    · rw [upV_n (Or.inr c)]; exact (h2 k hk).1
  · rw [upV_n (Or.inl (by decide))]; exact (h2 k hk).2
  · rw [upV_n (Or.inl (by decide))]; exact h3 k hk
  · rw [upV_n (Or.inl (by decide)), upV_n (Or.inl (by decide))]; exact h4
  · rw [upV_n (Or.inl (by decide))]; exact h5 k hk
  · rw [upV_n (Or.inl (by decide)), upV_n (Or.inl (by decide)), upV_n (Or.inl (by decide)), upV_n (Or.inl (by decide))]; exact h6
theorem ok3 (h : SVok V) {j x : Nat} (hx : x < 4) : SVok (upV V 3 j x) := by
  obtain ⟨h1, h2, h3, h4, h5, h6⟩ := h
  refine ⟨fun k hk => ?_, fun k hk => ⟨?_, ?_⟩, fun k hk => ?_, ?_, fun k hk => ?_, ?_⟩
  · rw [upV_n (Or.inl (by decide)), upV_n (Or.inl (by decide))]; exact h1 k hk
  · rw [upV_n (Or.inl (by decide))]; exact (h2 k hk).1
  · by_cases c : k = j
    · rw [c, upV_e]; exact hx
    · rw [upV_n (Or.inr c)]; exact (h2 k hk).2
  · rw [upV_n (Or.inl (by decide))]; exact h3 k hk
  · rw [upV_n (Or.inl (by decide)), upV_n (Or.inl (by decide))]; exact h4
  · rw [upV_n (Or.inl (by decide))]; exact h5 k hk
  · rw [upV_n (Or.inl (by decide)), upV_n (Or.inl (by decide)), upV_n (Or.inl (by decide)), upV_n (Or.inl (by decide))]; exact h6
theorem ok4 (h : SVok V) {j x : Nat} (hx : x < 10) : SVok (upV V 4 j x) := by
  obtain ⟨h1, h2, h3, h4, h5, h6⟩ := h
  refine ⟨fun k hk => ?_, fun k hk => ?_, fun k hk => ?_, ?_, fun k hk => ?_, ?_⟩
  · rw [upV_n (Or.inl (by decide)), upV_n (Or.inl (by decide))]; exact h1 k hk
  · rw [upV_n (Or.inl (by decide)), upV_n (Or.inl (by decide))]; exact h2 k hk
  · by_cases c : k = j
    · rw [c, upV_e]; exact hx
    · rw [upV_n (Or.inr c)]; exact h3 k hk
  · rw [upV_n (Or.inl (by decide)), upV_n (Or.inl (by decide))]; exact h4
  · rw [upV_n (Or.inl (by decide))]; exact h5 k hk
  · rw [upV_n (Or.inl (by decide)), upV_n (Or.inl (by decide)), upV_n (Or.inl (by decide)), upV_n (Or.inl (by decide))]; exact h6
theorem ok5 (h : SVok V) {j x : Nat} (hx : x ≤ 60) : SVok (upV V 5 j x) := by
  obtain ⟨h1, h2, h3, h4, h5, h6⟩ := h
  refine ⟨fun k hk => ?_, fun k hk => ?_, fun k hk => ?_, ⟨?_, ?_⟩, fun k hk => ?_, ?_⟩
  · rw [upV_n (Or.inl (by decide)), upV_n (Or.inl (by decide))]; exact h1 k hk
  · rw [upV_n (Or.inl (by decide)), upV_n (Or.inl (by decide))]; exact h2 k hk
  · rw [upV_n (Or.inl (by decide))]; exact h3 k hk
  · by_cases c : 0 = j
    · rw [c, upV_e]; exact hx
    · rw [upV_n (Or.inr c)]; exact h4.1
  · by_cases c : 1 = j
    · rw [c, upV_e]; exact hx
    · rw [upV_n (Or.inr c)]; exact h4.2
  · rw [upV_n (Or.inl (by decide))]; exact h5 k hk
  · rw [upV_n (Or.inl (by decide)), upV_n (Or.inl (by decide)), upV_n (Or.inl (by decide)), upV_n (Or.inl (by decide))]; exact h6
end CA
theorem call_wind (a1 a2 a3 a4 : Int32) : CALL (f_X10_wind 0 a1 a2 a3 a4) (f_X11_wind 85 a1 a2 a3 a4) := by
  intro n S μ hn hX hM
  obtain ⟨b1, x1, m1, h1⟩ := arg_zo a1
  obtain ⟨b2, x2, m2, h2⟩ := arg_sp a2
  obtain ⟨b3, x3, m3, h3⟩ := arg_he a3
  obtain ⟨b4, x4, m4, h4⟩ := arg_fo a4
  have eX : f_X10_wind 0 a1 a2 a3 a4 μ = (f_X10_wind 0 a1 a2 a3 a4 μ) := rfl
  rcases h1 with rfl | ⟨rfl, z, hz, rfl⟩
  · exact call_0 hX hM (r := -nI 1) (by unfold f_X10_wind; simp only [il]; rw [bnd_e (x1 _), nI_b0]) (hi.rf μ) (by unfold f_X11_wind; simp only [il]; rw [bnd_e (m1 _), nI_b0]) (Qm.rf μ)
  rcases h2 with rfl | ⟨rfl, s, hs, rfl⟩
  · exact call_0 hX hM (r := -nI 1) (by unfold f_X10_wind; simp only [il]; rw [bnd_e (x1 _), nI_b1, bnd_e (x2 _), nI_b0]) (hi.rf μ) (by unfold f_X11_wind; simp only [il]; rw [bnd_e (m1 _), nI_b1, bnd_e (m2 _), nI_b0]) (Qm.rf μ)
  rcases h3 with rfl | ⟨rfl, f, hf, rfl⟩
  · exact call_0 hX hM (r := -nI 2) (by unfold f_X10_wind; simp only [il]; rw [bnd_e (x1 _), nI_b1, bnd_e (x2 _), nI_b1, bnd_e (x3 _), nI_b0]) (hi.rf μ) (by unfold f_X11_wind; simp only [il]; rw [bnd_e (m1 _), nI_b1, bnd_e (m2 _), nI_b1, bnd_e (m3 _), nI_b0]) (Qm.rf μ)
  rcases h4 with rfl | ⟨rfl, g, hg, rfl⟩
  · exact call_0 hX hM (r := -nI 2) (by unfold f_X10_wind; simp only [il]; rw [bnd_e (x1 _), nI_b1, bnd_e (x2 _), nI_b1, bnd_e (x3 _), nI_b1, bnd_e (x4 _), nI_b0]) (hi.rf μ) (by unfold f_X11_wind; simp only [il]; rw [bnd_e (m1 _), nI_b1, bnd_e (m2 _), nI_b1, bnd_e (m3 _), nI_b1, bnd_e (m4 _), nI_b0]) (Qm.rf μ)
  have hV := hX.1.1.1
  obtain ⟨_, _, _, _, _, _, _, _, _, _, hK, _⟩ := id hX.2.1
  have hS : XSea 1 μ S.1 := hK.1
  have hMs := hM.2.1
  have V2 : SVok (upV (upV S.1 0 (4 * z + s) f) 1 (4 * z + s) g) := ok1 (ok0 hV hf) hg
  have b0 := (hV.1 (4 * z + s) (by omega))
  have eX : f_X10_wind 0 (nI z) (nI s) (nI f) (nI g) μ = some (nI (10 * S.1 0 (4 * z + s) + S.1 1 (4 * z + s)), sI (sI (sI μ 2 (4 * z + s) (nI f)) 3 (4 * z + s) (nI g)) 1 10 (μ.1 1 10 + nI 1)) := by
    unfold f_X10_wind
    simp only [il, rf_0_0]
    rw [bnd_e (x1 _), nI_b1, bnd_e (x2 _), nI_b1, bnd_e (x3 _), nI_b1, bnd_e (x4 _), nI_b1, bnd_e (x_from (Or.inl rfl) hS hz hs), bnd_e (x_force (Or.inl rfl) hS hz hs)]
    unfold f_X6_putWind
    simp (disch := omega) only [il, rf_1_0, rf_1_1, rf_1_2, rf_1_3, rf_1_4, rf_1_5, al_2, al_3, al_4, al_5, al_6, al_7, pk_mul, nI_add, gA_n, nI_clamp, lt_d, show z * 4 = 4 * z from Nat.mul_comm z 4]
    rw [bnv_s, sI_o (by decide), sI_o (by decide)]
  have eM : ∀ μ, MSea μ S.1 → f_X11_wind 85 (nI z) (nI s) (nI f) (nI g) μ = some (nI (10 * S.1 0 (4 * z + s) + S.1 1 (4 * z + s)), sI (sI μ 87 (4 * z + s) (nI f)) 88 (4 * z + s) (nI g)) := by
    intro μ hMs
    unfold f_X11_wind
    simp only [il]
    rw [bnd_e (m1 _), nI_b1, bnd_e (m2 _), nI_b1, bnd_e (m3 _), nI_b1, bnd_e (m4 _), nI_b1]
    simp (disch := omega) only [il, rf_85_0, rf_85_1, rf_85_2, rf_85_3, rf_85_4, rf_85_5, rf_85_6, rf_85_11, rf_85_13, rf_85_14, rf_85_16, rf_85_17, rf_85_19, rf_85_20, rf_85_21, rf_85_22, rf_85_24, rf_85_27, rf_85_33, rf_85_34, rf_85_36, rf_85_37, rf_85_38, rf_85_39, al_86, al_87, al_88, al_89, al_90, al_91, al_92, al_93, al_94, al_95, al_96, al_97, al_98, al_99, al_100, al_101, al_102, al_103, al_104, al_105, al_106, al_107, al_108, al_109, pk_mul, nI_add, gA_n, nI_clamp, lt_d, hMs.1 (4 * z + s) (by omega), hMs.2.1 (4 * z + s) (by omega)]
  have hh : hi μ (sI (sI (sI μ 2 (4 * z + s) (nI f)) 3 (4 * z + s) (nI g)) 1 10 (μ.1 1 10 + nI 1)) := fun i h => ⟨by rw [sI_o (by omega), sI_o (by omega), sI_o (by omega)], rfl⟩
  have hM1 := hM.hi hh
  refine ⟨_, _, _, (upV (upV S.1 0 (4 * z + s) f) 1 (4 * z + s) g, S.2), eX, eM _ hM1.2.1, (hX.bump (k := 1) (μ2 := sI (sI (sI μ 2 (4 * z + s) (nI f)) 3 (4 * z + s) (nI g)) 1 10 (μ.1 1 10 + nI 1)) V2 (hS.p0.p1.ver) (fun i hi => ⟨by rw [sI_o (by omega), sI_o (by omega), sI_o (by omega)], rfl⟩) (by rw [sI_e]) (by decide) (by decide) hn).lo (fun i hi => ⟨by rw [sI_o (by omega), sI_o (by omega)], rfl⟩), hM1.sea V2 (hM1.2.1.p0.p1) (fun i hi => ⟨by rw [sI_o (by omega), sI_o (by omega)], rfl⟩) (fun k hk => by rw [sI_o (by omega), sI_o (by omega)])⟩
