theorem call_peek (a1 a2 : Int32) : CALL (f_X10_peek 0 a1 a2) (f_X11_peek 85 a1 a2) := by
  intro n S μ hn hX hM
  obtain ⟨b1, x1, m1, h1⟩ := arg_ta a1
  rcases h1 with rfl | ⟨rfl, x, hx, rfl⟩
  · exact call_q hX hM (r := -9223372036854775808) (by unfold f_X10_peek; rw [bnd_e (x_at x1 rfl), cs_0]) (by unfold f_X11_peek; rw [bnd_e (m1 _)]; exact if_pos rfl)
  obtain ⟨t1, t2, t3, t4⟩ := tp hx
  obtain ⟨p1, p2, p3⟩ := hX.2.2.2.2.2 x hx
  obtain ⟨r1, r2, r3⟩ := hM.2.2.2.2.2 x hx
  obtain ⟨k1, k2, k3⟩ := hX.1.2.2.2.2 x hx
  obtain ⟨g1, g2, g3, g4⟩ := srt_h k1
  obtain ⟨b2, x2, m2, h2⟩ := arg_l a2 (S.2.2.2.2.1 4 x) k2
  have eX : f_X10_peek 0 (nI x) a2 μ = (if srt (S.2.2.2.2.1 3 x) = -nI 1 then some (-9223372036854775808, μ) else if nI b2 = nI 0 then some (-9223372036854775808, μ) else bnd (f_X9_get (53 + 2 * x) a2 μ) (fun r μ => some (r, μ))) := by
    unfold f_X10_peek
    rw [bnd_e (x_at1 hx x1), cs_1 t4]
    unfold f_X9_holdsNothing f_X9_length
    simp only [il]
    rw [p1]
    by_cases c : srt (S.2.2.2.2.1 3 x) = -nI 1
    · rw [if_pos c, if_pos c, bnd_s]; exact if_neg (by decide)
    · rw [if_neg c, if_neg c, bnd_s, if_pos rfl, bnd_s, p2, bnd_e (x2 _)]
  have eM : f_X11_peek 85 (nI x) a2 μ = (if nI b2 = nI 0 then some (-9223372036854775808, μ) else gA (nI 60 * nI x + a2) 360 (some (μ.2 108 (nI 60 * nI x + a2).toNatClampNeg, μ))) := by
    unfold f_X11_peek
    simp (disch := omega) only [il, rf_85_0, rf_85_1, rf_85_2, rf_85_3, rf_85_4, rf_85_5, rf_85_6, rf_85_11, rf_85_13, rf_85_14, rf_85_16, rf_85_17, rf_85_19, rf_85_20, rf_85_21, rf_85_22, rf_85_24, rf_85_27, rf_85_33, rf_85_34, rf_85_36, rf_85_37, rf_85_38, rf_85_39, al_86, al_87, al_88, al_89, al_90, al_91, al_92, al_93, al_94, al_95, al_96, al_97, al_98, al_99, al_100, al_101, al_102, al_103, al_104, al_105, al_106, al_107, al_108, al_109, gA_n, nI_clamp]
    rw [bnd_e (m1 _), nI_b1, r2, bnd_e (m2 _)]
  by_cases c : S.2.2.2.2.1 3 x = 0
  · have hb : b2 = 0 := by
      rcases h2 with z | ⟨_, m, hm, _⟩
      · exact z
      · rw [k3 c] at hm; omega
    exact call_q hX hM (r := -9223372036854775808) (by rw [eX, if_pos (g1.mpr c)]) (by rw [eM, hb]; exact if_pos rfl)
  · rw [if_neg (fun z => c (g1.mp z))] at eX
    rcases h2 with rfl | ⟨rfl, m, hm, rfl⟩
    · exact call_q hX hM (r := -9223372036854775808) (by rw [eX]; exact if_pos rfl) (by rw [eM]; exact if_pos rfl)
    · refine call_q hX hM (r := S.2.2.2.2.2 x m) ?_ ?_
      · rw [eX, nI_b1]
        unfold f_X9_get
        simp only [il]
        rw [p2, bnd_e (x2 _), nI_b1, t2, t3, gA_n (by omega) (by omega), nI_clamp (by omega), bnd_s, p3 m (by omega)]
      · rw [eM, nI_b1, pk_mul, nI_add, gA_n (by omega) (by omega), nI_clamp (by omega), r3 m (by omega)]
