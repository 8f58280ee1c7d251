/-! image, undo -/
theorem x_addG {r cap c : Nat} {x y : Int32} {μ : Mem} (h0 : rf r 0 = r + 1) (h1 : rf r 1 = r + 2) (a0 : aln (r + 1) = cap) (a1 : aln (r + 2) = cap) (hcap : cap < 100) (hs : μ.1 r 2 = nI c) (hc : c < cap) : f_X5_add r x y μ = some (nI (c + 1), sI (sI (sI μ (r + 1) c x) (r + 2) c y) r 2 (nI (c + 1))) := by
  unfold f_X5_add
  simp (disch := omega) only [il, h0, h1, a0, a1, hs, nI_ltI]
  rw [if_pos (by omega)]
  simp (disch := omega) only [gA_n, nI_clamp, lt_d]
  have e1 : (sI μ (r + 1) c x).1 r 2 = nI c := by rw [sI_o (by omega)]; exact hs
  rw [e1]
  simp (disch := omega) only [gA_n, nI_clamp]
  have e2 : (sI (sI μ (r + 1) c x) (r + 2) c y).1 r 2 = nI c := by rw [sI_o (by omega)]; exact e1
  rw [e2, nI_add, sI_e]
/-- where the parts of a row of two lie -/
def RO (r cap : Nat) : Prop := rf r 0 = r + 1 ∧ rf r 1 = r + 2 ∧ aln (r + 1) = cap ∧ aln (r + 2) = cap
theorem x_rl7 {r s c cap : Nat} {μ0 : Mem} (hr : RO r cap) (hs : RO s cap) (hcap : cap < 100) (h2 : μ0.1 s 2 = nI c) (hc : c ≤ cap) (hd : r + 2 < s ∨ s + 2 < r) : ∀ (m n k : Nat) (μ : Mem), k + m = c → m < n → μ.2 = μ0.2 → (∀ i, (i < r ∨ r + 2 < i) → μ.1 i = μ0.1 i) → μ.1 r 2 = nI k → (∀ j, j < k → μ.1 (r + 1) j = μ0.1 (s + 1) j ∧ μ.1 (r + 2) j = μ0.1 (s + 2) j) → ∃ μ2, f_X5_becomeLike_b7 r s n (nI k) μ = some μ2 ∧ μ2.2 = μ0.2 ∧ (∀ i, (i < r ∨ r + 2 < i) → μ2.1 i = μ0.1 i) ∧ μ2.1 r 2 = nI c ∧ ∀ j, j < c → μ2.1 (r + 1) j = μ0.1 (s + 1) j ∧ μ2.1 (r + 2) j = μ0.1 (s + 2) j := by
  intro m
  induction m with
  | zero =>
    intro n k μ hk hn h1 hf hr2 hv
    obtain ⟨n, rfl⟩ : ∃ i, n = i + 1 := ⟨n - 1, by omega⟩
    rw [f_X5_becomeLike_b7, hf s (by omega), h2, if_pos (nI_le (by omega) (by omega))]
    exact ⟨μ, rfl, h1, hf, by rw [hr2]; exact congrArg nI (by omega), fun j hj => hv j (by omega)⟩
  | succ m ih =>
    intro n k μ hk hn h1 hf hr2 hv
    obtain ⟨n, rfl⟩ : ∃ i, n = i + 1 := ⟨n - 1, by omega⟩
    rw [f_X5_becomeLike_b7, hf s (by omega), h2, if_neg (nI_ge (by omega) (by omega)), hs.1, hs.2.1, hs.2.2.1, hs.2.2.2, gA_n (by omega) (by omega), gA_n (by omega) (by omega), bnd_e (x_addG hr.1 hr.2.1 hr.2.2.1 hr.2.2.2 hcap hr2 (by omega)), show (1 : Int32) = nI 1 from rfl, lt_d, nI_add, nI_clamp (by omega)]
    refine ih n (k + 1) _ (by omega) (by omega) h1 (fun i hi => ?_) ?_ (fun j hj => ?_)
    · rw [sI_o (by omega), sI_o (by omega), sI_o (by omega)]; exact hf i hi
    · rw [sI_e]
    · by_cases e : j = k
      · subst e
        constructor
        · rw [sI_o (by omega), sI_o (by omega), sI_e, hf (s + 1) (by omega)]
        · rw [sI_o (by omega), sI_e, hf (s + 2) (by omega)]
      · constructor
        · rw [sI_o (by omega), sI_o (by omega), sI_n (Or.inr e)]; exact (hv j (by omega)).1
        · rw [sI_o (by omega), sI_n (Or.inr e), sI_o (by omega)]; exact (hv j (by omega)).2
theorem x_rl {r s c cap : Nat} {μ : Mem} (hr : RO r cap) (hs : RO s cap) (hcap : cap < 100) (h2 : μ.1 s 2 = nI c) (hc : c ≤ cap) (hd : r + 2 < s ∨ s + 2 < r) : ∃ μ2, f_X5_becomeLike r s μ = some μ2 ∧ μ2.2 = μ.2 ∧ (∀ i, (i < r ∨ r + 2 < i) → μ2.1 i = μ.1 i) ∧ μ2.1 r 2 = nI c ∧ ∀ j, j < c → μ2.1 (r + 1) j = μ.1 (s + 1) j ∧ μ2.1 (r + 2) j = μ.1 (s + 2) j := by
  have hFU : FU = 1000000000000 := rfl
  unfold f_X5_becomeLike f_X5_clear
  rw [lt_d, bnd_s]
  exact x_rl7 hr hs hcap h2 hc hd c FU 0 (sI μ r 2 (0 : Int32)) (by omega) (by omega) rfl (fun i hi => sI_o (by omega)) (by rw [sI_e]; rfl) (fun j hj => by omega)
def isH (o : Nat) : Prop := o = 8 ∨ o = 72
theorem hd_rf {o : Nat} (h : isH o) : rf o 0 = o + 1 ∧ rf o 1 = o + 4 ∧ rf o 2 = o + 7 ∧ rf o 3 = o + 10 := by rcases h with rfl | rfl <;> decide +kernel
theorem hd_ro {o : Nat} (h : isH o) : RO (o + 1) 8 ∧ RO (o + 4) 5 ∧ RO (o + 7) 8 ∧ RO (o + 10) 8 := by unfold RO; rcases h with rfl | rfl <;> decide +kernel
theorem x_hlike {o a : Nat} {μ : Mem} {H : SV} (ho : isH o) (ha : isH a) (hne : o ≠ a) (hH : HVok H) (hX : XHand a μ H) : ∃ μ2, f_X3_becomeLike o a μ = some μ2 ∧ XHand o μ2 H ∧ μ2.2 = μ.2 ∧ ∀ i, (i < o + 1 ∨ o + 12 < i) → μ2.1 i = μ.1 i := by
  have hd : o + 12 < a ∨ a + 12 < o := by
    rcases ho with rfl | rfl <;> rcases ha with rfl | rfl <;> first | omega | exact absurd rfl hne
  obtain ⟨r1, r2, r3, r4⟩ := hd_rf ho
  obtain ⟨s1, s2, s3, s4⟩ := hd_rf ha
  obtain ⟨p1, p2, p3, p4⟩ := hd_ro ho
  obtain ⟨q1, q2, q3, q4⟩ := hd_ro ha
  obtain ⟨⟨a1, a2⟩, ⟨b1, b2⟩, ⟨c1, c2⟩, ⟨d1, d2⟩⟩ := hX
  obtain ⟨o1, o2, o3, o4⟩ := hH
  obtain ⟨μ1, e1, f1, g1, h1, v1⟩ := x_rl p1 q1 (by decide) a1 o1.1 (by omega)
  obtain ⟨μ2, e2, f2, g2, h2, v2⟩ := x_rl p2 q2 (by decide) ((congrFun (g1 (a + 4) (by omega)) 2).trans b1) o2.1 (by omega)
  obtain ⟨μ3, e3, f3, g3, h3, v3⟩ := x_rl p3 q3 (by decide) ((congrFun ((g2 (a + 7) (by omega)).trans (g1 (a + 7) (by omega))) 2).trans c1) o3.1 (by omega)
  obtain ⟨μ4, e4, f4, g4, h4, v4⟩ := x_rl p4 q4 (by decide) ((congrFun ((g3 (a + 10) (by omega)).trans ((g2 (a + 10) (by omega)).trans (g1 (a + 10) (by omega)))) 2).trans d1) o4.1 (by omega)
  refine ⟨μ4, ?_, ⟨⟨?_, fun k hk => ?_⟩, ⟨?_, fun k hk => ⟨?_, ?_⟩⟩, ⟨?_, fun k hk => ⟨?_, ?_⟩⟩, ⟨?_, fun k hk => ⟨?_, ?_⟩⟩⟩, ?_, fun i hi => ?_⟩
  · unfold f_X3_becomeLike
    rw [r1, r2, r3, r4, s1, s2, s3, s4, bnv_e e1, bnv_e e2, bnv_e e3, bnv_e e4]
  · rw [g4 (o + 1) (by omega), g3 (o + 1) (by omega), g2 (o + 1) (by omega)]; exact h1
  · rw [g4 (o + 2) (by omega), g3 (o + 2) (by omega), g2 (o + 2) (by omega)]; rw [(v1 k hk).1]; exact a2 k hk
  · rw [g4 (o + 4) (by omega), g3 (o + 4) (by omega)]; exact h2
  · rw [g4 (o + 5) (by omega), g3 (o + 5) (by omega)]; rw [(v2 k hk).1, g1 (a + 5) (by omega)]; exact (b2 k hk).1
  · rw [g4 (o + 6) (by omega), g3 (o + 6) (by omega)]; rw [(v2 k hk).2, g1 (a + 6) (by omega)]; exact (b2 k hk).2
  · rw [g4 (o + 7) (by omega)]; exact h3
  · rw [g4 (o + 8) (by omega)]; rw [(v3 k hk).1, g2 (a + 8) (by omega), g1 (a + 8) (by omega)]; exact (c2 k hk).1
  · rw [g4 (o + 9) (by omega)]; rw [(v3 k hk).2, g2 (a + 9) (by omega), g1 (a + 9) (by omega)]; exact (c2 k hk).2
  · exact h4
  · rw [(v4 k hk).1, g3 (a + 11) (by omega), g2 (a + 11) (by omega), g1 (a + 11) (by omega)]; exact (d2 k hk).1
  · rw [(v4 k hk).2, g3 (a + 12) (by omega), g2 (a + 12) (by omega), g1 (a + 12) (by omega)]; exact (d2 k hk).2
  · rw [f4, f3, f2, f1]
  · rw [g4 i (by omega), g3 i (by omega), g2 i (by omega), g1 i (by omega)]
theorem MSea.kf {a : Nat} {μ μ2 : Mem} {V : SV} (ha : iA a) (h : MSea μ V) (f : KF a μ μ2) : MSea μ2 V := by
  have := ha.lt
  exact h.cong (fun i _ _ => f.2 i (by omega)) (fun k _ _ => by rw [f.2 85 (by omega)])
theorem XC.cong1 {n : Nat} {V : SV} {μ μ2 : Mem} (h : XC n V μ) (f : ∀ i, (1 ≤ i ∧ i ≤ 7) ∨ (21 ≤ i ∧ i ≤ 47) → μ2.1 i = μ.1 i ∧ μ2.2 i = μ.2 i) : XC n V μ2 := by
  obtain ⟨a, b, W, h1, h2, h3, h4, h5, h6, h7, h8, h9, h10⟩ := h
  refine ⟨a, b, W, h1, h2, h3, ?_, ?_, ?_, ?_, h8.cong (by omega) (fun i hi => (f i (by omega)).1) (f 1 (by omega)).2, h9.cong (by omega) (fun i hi => (f i (by omega)).1) (f 31 (by omega)).2, h10.cong (f 30 (by omega)).1 (by rw [(f 1 (by omega)).1]) (f 47 (by omega)).1⟩
  · rw [(f 1 (by omega)).1]; exact h4
  · rw [(f 31 (by omega)).1]; exact h5
  · rw [(f 21 (by omega)).1, (f 22 (by omega)).1, (f 30 (by omega)).1]; exact h6
  · rw [(f 38 (by omega)).1, (f 39 (by omega)).1]; exact h7
theorem call_image : CALL (f_X10_image 0) (f_X11_image 85) := by
  intro n S μ hn hX hM
  obtain ⟨⟨⟨hV, hH⟩, g3, g4, g5, g6⟩, hc, hh, ⟨i1, i2, i3⟩, ht, hp⟩ := id hX
  have hS := hX.sea.2
  obtain ⟨μ1, l1, l2, l3, l4⟩ := x_like (o := 65) (a := 1) (Or.inr (Or.inr rfl)) (Or.inl rfl) (by decide) hS
  obtain ⟨μ2, k1, k2, k3, k4⟩ := x_hlike (o := 72) (a := 8) (Or.inr rfl) (Or.inl rfl) (by decide) hH (hh.cong (μ2 := μ1) (fun i _ _ => (l4 i (by omega)).1))
  obtain ⟨ν, hν⟩ : ∃ ν, ν = sI μ2 0 8 (nI 1) := ⟨_, rfl⟩
  have f1 : ∀ i, i ≠ 0 → (i < 65 ∨ 84 < i) → ν.1 i = μ.1 i ∧ ν.2 i = μ.2 i := fun i h1 h2 => by
    rw [hν]
    exact ⟨by rw [sI_o h1, k4 i (by omega), (l4 i (by omega)).1], by show μ2.2 i = μ.2 i; rw [k3, (l4 i (by omega)).2]⟩
  have s1 : XSea 1 ν S.1 := hS.cong (fun j hj => (f1 _ (by omega) (by omega)).1) (f1 1 (by omega) (by omega)).2 (fun j _ _ => by rw [(f1 1 (by omega) (by omega)).1])
  obtain ⟨X, hXd⟩ : ∃ X, X = upV S.2.2.2.2.1 0 0 1 := ⟨_, rfl⟩
  have x0 : X 0 0 = 1 := by rw [hXd, upV_e]
  have xn : ∀ i, i ≠ 0 → X i = S.2.2.2.2.1 i := fun i hi => by funext j; rw [hXd, upV_n (Or.inl hi)]
  have eX : f_X10_image 0 μ = some (nI (s_lan S.1), ν) := by
    unfold f_X10_image
    simp only [rf_0_6, rf_0_0, rf_0_7, rf_0_1]
    rw [bnv_e l1, bnv_e k1, lt_d]
    rw [show sI μ2 0 8 (1 : Int32) = ν from hν.symm, bnd_e (x_lan s1)]
  have ok2 : STok (S.1, S.2.1, S.1, S.2.1, X, S.2.2.2.2.2) := by
    refine ⟨⟨hV, hH⟩, ⟨hV, hH⟩, ?_, ?_, ?_⟩
    · show X 0 0 < 2
      rw [x0]; decide
    · show X 1 0 ≤ 100 ∧ ∀ k, k < X 1 0 → X 2 k < 128
      rw [xn 1 (by decide), xn 2 (by decide)]; exact g5
    · show ∀ x, x < 6 → X 3 x ≤ 5 ∧ X 4 x ≤ 60 ∧ (X 3 x = 0 → X 4 x = 0)
      rw [xn 3 (by decide), xn 4 (by decide)]; exact g6
  have hX2 : XI n (S.1, S.2.1, S.1, S.2.1, X, S.2.2.2.2.2) ν := by
    refine ⟨ok2, hc.cong1 (fun i hi => f1 i (by omega) (by omega)), hh.cong (fun i a b => (f1 i (by omega) (by omega)).1), ⟨?_, ?_, ?_⟩, ?_, ?_⟩
    · rw [hν]
      exact l2.cong (fun j hj => by rw [sI_o (by omega), k4 _ (by omega)]) (by show μ2.2 65 = _; rw [k3]) (fun j _ _ => by rw [sI_o (by omega), k4 _ (by omega)])
    · rw [hν]
      exact k2.cong (fun i a b => sI_o (by omega))
    · show ν.1 0 8 = nI (X 0 0)
      rw [x0, hν, sI_e]
    · show ν.1 48 1 = nI (X 1 0) ∧ ∀ k, k < X 1 0 → ν.1 49 k = nI (X 2 k)
      rw [xn 1 (by decide), xn 2 (by decide), (f1 48 (by omega) (by omega)).1, (f1 49 (by omega) (by omega)).1]
      exact ht
    · intro x hx
      show ν.1 (53 + 2 * x) 1 = srt (X 3 x) ∧ ν.1 (53 + 2 * x) 2 = nI (X 4 x) ∧ ∀ k, k < 60 → ν.2 (54 + 2 * x) k = S.2.2.2.2.2 x k
      rw [xn 3 (by decide), xn 4 (by decide), (f1 (53 + 2 * x) (by omega) (by omega)).1, (f1 (54 + 2 * x) (by omega) (by omega)).2]
      exact hp x hx
  have hM1 : MI S ν := hM.hi (fun i hi => f1 i (by omega) (by omega))
  obtain ⟨_, m1, m2, ⟨m3, m4⟩, m5, m6⟩ := hM1
  have F0 : ∀ k, k ≠ 23 → (sI ν 85 23 (nI 1)).1 85 k = ν.1 85 k := fun k hk => sI_n (Or.inr hk)
  have n1 : MSea (sI ν 85 23 (nI 1)) S.1 := m1.cong (fun i _ _ => sI_o (by omega)) (fun k _ _ => F0 k (by omega))
  have n2 : MHand (sI ν 85 23 (nI 1)) S.2.1 := m2.cong (fun i _ _ => sI_o (by omega)) (fun k _ => F0 k (by omega))
  obtain ⟨μ3, t1, t2, t3⟩ := m_keeps (a := 100) (Or.inl rfl) n1 hH n2
  have f3 : ∀ i, i ≠ 85 → i ≠ 100 → μ3.1 i = ν.1 i := fun i h1 h2 => by rw [t2.2 i h2, sI_o h1]
  have f4 : ∀ k, k ≠ 23 → μ3.1 85 k = ν.1 85 k := fun k hk => by rw [t2.2 85 (by decide)]; exact F0 k hk
  refine ⟨nI (s_lan S.1), ν, μ3, (S.1, S.2.1, S.1, S.2.1, X, S.2.2.2.2.2), eX, ?_, (hX2.lo (fun i hi => ⟨f3 i (by omega) (by omega), by rw [t2.1]; rfl⟩)).up (Nat.le_succ n), ok2, ?_, ?_, ⟨?_, fun _ => t3⟩, ?_, ?_⟩
  · unfold f_X11_image
    rw [rf_85_21, lt_d, bnv_e (show f_X11_keeps 85 100 (sI ν 85 23 (1 : Int32)) = some μ3 from t1), bnd_e (m_lan hV (n1.kf (Or.inl rfl) t2))]
  · exact n1.kf (Or.inl rfl) t2
  · exact n2.cong (fun i _ _ => t2.2 i (by omega)) (fun k _ => by rw [t2.2 85 (by decide)])
  · show μ3.1 85 23 = nI (X 0 0)
    rw [x0, t2.2 85 (by decide), sI_e]
  · show μ3.1 85 25 = nI (X 1 0) ∧ ∀ k, k < X 1 0 → μ3.1 102 k = nI (X 2 k)
    rw [xn 1 (by decide), xn 2 (by decide), f4 25 (by decide), f3 102 (by decide) (by decide)]
    exact m5
  · intro x hx
    show μ3.1 106 x = srt (X 3 x) ∧ μ3.1 107 x = nI (X 4 x) ∧ ∀ k, k < 60 → μ3.2 108 (60 * x + k) = S.2.2.2.2.2 x k
    rw [xn 3 (by decide), xn 4 (by decide), f3 106 (by decide) (by decide), f3 107 (by decide) (by decide), t2.1]
    exact m6 x hx
theorem call_undo : CALL (f_X10_undo 0) (f_X11_undo 85) := by
  intro n S μ hn hX hM
  obtain ⟨⟨⟨hV, hH⟩, ⟨hV2, hH2⟩, g4, g5, g6⟩, hc, hh, ⟨i1, i2, i3⟩, ht, hp⟩ := id hX
  by_cases c : S.2.2.2.2.1 0 0 = 0
  · refine call_q hX hM (r := -nI 3) ?_ ?_
    · unfold f_X10_undo; simp only [il]; rw [i3, c, nI_b0]
    · unfold f_X11_undo; simp only [il]; rw [hM.2.2.2.1.1, c, nI_b0]
  have c1 : S.2.2.2.2.1 0 0 = 1 := by omega
  obtain ⟨μ1, l1, l2, l3, l4⟩ := x_like (o := 1) (a := 65) (Or.inl rfl) (Or.inr (Or.inr rfl)) (by decide) i1
  have hX1 := hX.bump (k := 1) (μ2 := μ1) hV2 l2 (fun i hi => l4 i (by omega)) l3 (by decide) (by decide) hn
  obtain ⟨μ2, k1, k2, k3, k4⟩ := x_hlike (o := 8) (a := 72) (Or.inl rfl) (Or.inr rfl) (by decide) hH2 hX1.2.2.2.1.2.1
  have hX2 := hX1.hand (H2 := S.2.2.2.1) hH2 k2 (fun i hi => ⟨k4 i (by omega), by rw [k3]⟩)
  have f1 : ∀ i, 20 < i → μ2.1 i = μ.1 i ∧ μ2.2 i = μ.2 i := fun i hi => ⟨by rw [k4 i (by omega), (l4 i (by omega)).1], by rw [k3, (l4 i (by omega)).2]⟩
  have hM1 : MI S μ2 := hM.hi (fun i hi => f1 i (by omega))
  obtain ⟨_, m1, m2, ⟨m3, m4⟩, m5, m6⟩ := hM1
  obtain ⟨μ3, t1, t2, t3, t4, t5, t6⟩ := m_again (a := 100) (Or.inl rfl) (m4 c1) hH2
  refine ⟨nI (s_lan S.2.2.1), μ2, μ3, (S.2.2.1, S.2.2.2.1, S.2.2), ?_, ?_, hX2.lo (fun i hi => ⟨t5 i (by omega), by rw [t4]⟩), ⟨⟨hV2, hH2⟩, ⟨hV2, hH2⟩, g4, g5, g6⟩, t2, t3, ⟨?_, fun _ => (m4 c1).cong (t5 100 (by omega))⟩, m5.cong (t6 25 (by decide) (by decide) (by decide) (by decide) (by decide) (by decide) (by decide)) (t5 102 (by omega)), m6.cong (t5 106 (by omega)) (t5 107 (by omega)) (by rw [t4])⟩
  · unfold f_X10_undo
    simp only [rf_0_6, rf_0_0, rf_0_7, rf_0_1]
    rw [i3, c1, nI_b1', bnv_e l1, bnv_e k1, bnd_e (x_lan hX2.sea.2)]
  · unfold f_X11_undo
    rw [m3, c1, nI_b1', rf_85_21, bnv_e t1, bnd_e (m_lan hV2 t2)]
  · show μ3.1 85 23 = nI (S.2.2.2.2.1 0 0)
    rw [t6 23 (by decide) (by decide) (by decide) (by decide) (by decide) (by decide) (by decide)]
    exact m3
