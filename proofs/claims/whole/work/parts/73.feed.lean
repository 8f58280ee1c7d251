/-! feed -/
def upX (S : ST) (X : SV) : ST := (S.1, S.2.1, S.2.2.1, S.2.2.2.1, X, S.2.2.2.2.2)
theorem XI.text {n : Nat} {S : ST} {μ μ2 : Mem} {X : SV} (h : XI n S μ) (e0 : X 0 0 = S.2.2.2.2.1 0 0) (e3 : X 3 = S.2.2.2.2.1 3) (e4 : X 4 = S.2.2.2.2.1 4) (ok : X 1 0 ≤ 100 ∧ ∀ k, k < X 1 0 → X 2 k < 128) (hT : XText (upX S X) μ2) (hf : ∀ i, i < 48 ∨ 51 < i → μ2.1 i = μ.1 i ∧ μ2.2 i = μ.2 i) : XI n (upX S X) μ2 := by
  obtain ⟨⟨g1, g2, g3, g4, g5⟩, hc, hh, ⟨i1, i2, i3⟩, ht, hp⟩ := h
  have e1 : ∀ i, i < 48 ∨ 51 < i → μ2.1 i = μ.1 i := fun i hi => (hf i hi).1
  refine ⟨⟨g1, g2, ?_, ok, fun x hx => ?_⟩, hc.cong (fun i hi => hf i (by omega)), hh.cong (fun i _ _ => e1 i (by omega)), ⟨i1.cong (fun j hj => e1 _ (by omega)) (hf _ (by omega)).2 (fun j _ _ => by rw [e1 _ (by omega)]), i2.cong (fun i _ _ => e1 i (by omega)), ?_⟩, hT, fun x hx => ?_⟩
  · show X 0 0 < 2
    rw [e0]; exact g3
  · show X 3 x ≤ 5 ∧ X 4 x ≤ 60 ∧ (X 3 x = 0 → X 4 x = 0)
    rw [e3, e4]; exact g5 x hx
  · show μ2.1 0 8 = nI (X 0 0)
    rw [e0, e1 0 (by omega)]; exact i3
  · show μ2.1 (53 + 2 * x) 1 = srt (X 3 x) ∧ μ2.1 (53 + 2 * x) 2 = nI (X 4 x) ∧ _
    rw [e3, e4]
    exact (hp.cong (fun i _ _ => hf i (by omega))) x hx
theorem MI.text {S : ST} {μ μ2 : Mem} {X : SV} (h : MI S μ) (e0 : X 0 0 = S.2.2.2.2.1 0 0) (e3 : X 3 = S.2.2.2.2.1 3) (e4 : X 4 = S.2.2.2.2.1 4) (ok : X 1 0 ≤ 100 ∧ ∀ k, k < X 1 0 → X 2 k < 128) (hT : MText (upX S X) μ2) (hf : ∀ i, 85 < i → i ≠ 102 → μ2.1 i = μ.1 i ∧ μ2.2 i = μ.2 i) (hs : ∀ k, k ≠ 25 → μ2.1 85 k = μ.1 85 k) : MI (upX S X) μ2 := by
  obtain ⟨⟨g1, g2, g3, g4, g5⟩, m1, m2, ⟨m3, m4⟩, m5, m6⟩ := h
  have e1 : ∀ i, 85 < i → i ≠ 102 → μ2.1 i = μ.1 i := fun i hi h2 => (hf i hi h2).1
  refine ⟨⟨g1, g2, ?_, ok, fun x hx => ?_⟩, m1.cong (fun i _ _ => e1 i (by omega) (by omega)) (fun k _ _ => hs k (by omega)), m2.cong (fun i _ _ => e1 i (by omega) (by omega)) (fun k _ => hs k (by omega)), ⟨?_, fun z => ?_⟩, hT, fun x hx => ?_⟩
  · show X 0 0 < 2
    rw [e0]; exact g3
  · show X 3 x ≤ 5 ∧ X 4 x ≤ 60 ∧ (X 3 x = 0 → X 4 x = 0)
    rw [e3, e4]; exact g5 x hx
  · show μ2.1 85 23 = nI (X 0 0)
    rw [e0, hs 23 (by omega)]; exact m3
  · have z2 : X 0 0 = 1 := z
    rw [e0] at z2
    exact (m4 z2).cong (e1 100 (by omega) (by omega))
  · show μ2.1 106 x = srt (X 3 x) ∧ μ2.1 107 x = nI (X 4 x) ∧ _
    rw [e3, e4]
    exact (m6.cong (e1 106 (by omega) (by omega)) (e1 107 (by omega) (by omega)) (hf 108 (by omega) (by omega)).2) x hx
theorem call_feed (a1 : Int32) : CALL (f_X10_feed 0 a1) (f_X11_feed 85 a1) := by
  intro n S μ hn hX hM
  obtain ⟨b1, x1, m1, h1⟩ := argc a1 128 (by decide) (by decide)
  rcases h1 with rfl | ⟨rfl, x, hx, rfl⟩
  · exact call_q hX hM (r := -nI 2) (by unfold f_X10_feed; simp only [il]; rw [bnd_e (x1 _), nI_b0]) (by unfold f_X11_feed; simp only [il]; rw [bnd_e (m1 _), nI_b0])
  have hok := hX.1.2.2.2.1
  have ht := hX.2.2.2.2.1
  generalize hc : S.2.2.2.2.1 1 0 = c at *
  have tx : μ.1 48 1 = nI c := by rw [← hc]; exact ht.1
  have eX : f_X10_feed 0 (nI x) μ = some (if c = 100 then (-nI 4, μ) else (nI (c + 1), sI (sI μ 49 c (nI x)) 48 1 (nI (c + 1)))) := by
    unfold f_X10_feed f_X7_append
    simp only [il, rf_0_4]
    rw [bnd_e (x1 _), nI_b1, tx]
    simp (disch := omega) only [nI_ltI]
    by_cases e : c = 100
    · rw [if_neg (by omega), if_pos e, bnd_s]
    · rw [if_pos (by omega), if_neg e]
      simp (disch := omega) only [rf_48_0, al_49, gA_n, nI_clamp, lt_d]
      rw [sI_e, show (sI μ 49 c (nI x)).1 48 1 = nI c by rw [sI_o (by decide)]; exact tx]
      rw [nI_add, bnd_s]
  have eM : ∀ μ, MText S μ → f_X11_feed 85 (nI x) μ = some (if c = 100 then (-nI 4, μ) else (nI (c + 1), sI (sI μ 102 c (nI x)) 85 25 (nI (c + 1)))) := by
    intro μ hm
    have tm : μ.1 85 25 = nI c := by rw [← hc]; exact hm.1
    unfold f_X11_feed
    simp only [il]
    rw [bnd_e (m1 _), nI_b1, tm]
    simp (disch := omega) only [nI_eq]
    by_cases e : c = 100
    · rw [if_pos e, if_pos e]
    · rw [if_neg e, if_neg e]
      simp (disch := omega) only [rf_85_0, rf_85_1, rf_85_2, rf_85_3, rf_85_4, rf_85_5, rf_85_6, rf_85_11, rf_85_13, rf_85_14, rf_85_16, rf_85_17, rf_85_19, rf_85_20, rf_85_21, rf_85_22, rf_85_24, rf_85_27, rf_85_33, rf_85_34, rf_85_36, rf_85_37, rf_85_38, rf_85_39, al_86, al_87, al_88, al_89, al_90, al_91, al_92, al_93, al_94, al_95, al_96, al_97, al_98, al_99, al_100, al_101, al_102, al_103, al_104, al_105, al_106, al_107, al_108, al_109, gA_n, nI_clamp, lt_d]
      rw [sI_e, show (sI μ 102 c (nI x)).1 85 25 = nI c by rw [sI_o (by decide)]; exact tm]
      rw [nI_add]
  have hmt := hM.2.2.2.2.1
  by_cases e : c = 100
  · rw [if_pos e] at eX
    exact call_q hX hM eX (by rw [eM μ hmt, if_pos e])
  · rw [if_neg e] at eX
    have hh : hi μ (sI (sI μ 49 c (nI x)) 48 1 (nI (c + 1))) := fun i h => ⟨by rw [sI_o (by omega), sI_o (by omega)], rfl⟩
    have hM1 := hM.hi hh
    have q1 : upV (upV S.2.2.2.2.1 2 c x) 1 0 (c + 1) 1 0 = c + 1 := upV_e
    have q2 : ∀ k, upV (upV S.2.2.2.2.1 2 c x) 1 0 (c + 1) 2 k = if k = c then x else S.2.2.2.2.1 2 k := fun k => by
      rw [upV_n (Or.inl (by decide))]
      by_cases z : k = c
      · rw [if_pos z, z, upV_e]
      · rw [if_neg z, upV_n (Or.inr z)]
    have q0 : upV (upV S.2.2.2.2.1 2 c x) 1 0 (c + 1) 0 0 = S.2.2.2.2.1 0 0 := by rw [upV_n (Or.inl (by decide)), upV_n (Or.inl (by decide))]
    have q3 : upV (upV S.2.2.2.2.1 2 c x) 1 0 (c + 1) 3 = S.2.2.2.2.1 3 := by funext k; rw [upV_n (Or.inl (by decide)), upV_n (Or.inl (by decide))]
    have q4 : upV (upV S.2.2.2.2.1 2 c x) 1 0 (c + 1) 4 = S.2.2.2.2.1 4 := by funext k; rw [upV_n (Or.inl (by decide)), upV_n (Or.inl (by decide))]
    have ok : upV (upV S.2.2.2.2.1 2 c x) 1 0 (c + 1) 1 0 ≤ 100 ∧ ∀ k, k < upV (upV S.2.2.2.2.1 2 c x) 1 0 (c + 1) 1 0 → upV (upV S.2.2.2.2.1 2 c x) 1 0 (c + 1) 2 k < 128 := by
      rw [q1]
      refine ⟨by omega, fun k hk => ?_⟩
      rw [q2]
      by_cases z : k = c
      · rw [if_pos z]; exact hx
      · rw [if_neg z]; exact hok.2 k (by omega)
    have row : ∀ (ν : Nat → Int32), (∀ k, k < c → ν k = nI (S.2.2.2.2.1 2 k)) → ∀ k, k < c + 1 → upd ν c (nI x) k = nI (upV (upV S.2.2.2.2.1 2 c x) 1 0 (c + 1) 2 k) := fun ν h k hk => by rw [q2]; exact row_a h k hk
    refine ⟨nI (c + 1), _, sI (sI (sI (sI μ 49 c (nI x)) 48 1 (nI (c + 1))) 102 c (nI x)) 85 25 (nI (c + 1)), upX S (upV (upV S.2.2.2.2.1 2 c x) 1 0 (c + 1)), eX, by rw [eM _ hM1.2.2.2.2.1, if_neg e], ((hX.text (μ2 := sI (sI μ 49 c (nI x)) 48 1 (nI (c + 1))) q0 q3 q4 ok ⟨?_, ?_⟩ (fun i hi => ⟨(sI_o (by omega)).trans (sI_o (by omega)), rfl⟩)).lo (show lo (sI (sI μ 49 c (nI x)) 48 1 (nI (c + 1))) (sI (sI (sI (sI μ 49 c (nI x)) 48 1 (nI (c + 1))) 102 c (nI x)) 85 25 (nI (c + 1))) from fun i hi => ⟨(sI_o (by omega)).trans (sI_o (by omega)), rfl⟩)).up (by omega), hM1.text q0 q3 q4 ok ⟨?_, ?_⟩ (fun i _ h2 => ⟨by rw [sI_o (by omega), sI_o (by omega)], rfl⟩) (fun k hk => by rw [sI_n (Or.inr hk), sI_o (by decide)])⟩
    · show _ = nI (upV (upV S.2.2.2.2.1 2 c x) 1 0 (c + 1) 1 0)
      rw [q1, sI_e]
    · intro k hk
      have hk2 : k < c + 1 := by rw [← q1]; exact hk
      rw [sI_o (by decide), sI_u]
      exact row _ (fun k hk => ht.2 k (by omega)) k hk2
    · show _ = nI (upV (upV S.2.2.2.2.1 2 c x) 1 0 (c + 1) 1 0)
      rw [q1, sI_e]
    · intro k hk
      have hk2 : k < c + 1 := by rw [← q1]; exact hk
      rw [sI_o (by decide), sI_u]
      exact row _ (fun k hk => hM1.2.2.2.2.1.2 k (by omega)) k hk2
