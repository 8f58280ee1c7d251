/-! the hand's rows -/
theorem XI.hand {n : Nat} {S : ST} {μ μ2 : Mem} {H2 : SV} (h : XI n S μ) (hH : HVok H2) (hX : XHand 8 μ2 H2) (hf : ∀ i, i < 9 ∨ 20 < i → μ2.1 i = μ.1 i ∧ μ2.2 i = μ.2 i) : XI n (S.1, H2, S.2.2) μ2 := by
  obtain ⟨⟨⟨g1, g2⟩, g3, g4⟩, hc, hh, ⟨i1, i2, i3⟩, ht, hp⟩ := h
  have e1 : ∀ i, i < 9 ∨ 20 < i → μ2.1 i = μ.1 i := fun i hi => (hf i hi).1
  exact ⟨⟨⟨g1, hH⟩, g3, g4⟩, hc.cong (fun i hi => hf i (by omega)), hX, ⟨i1.cong (fun j hj => e1 _ (by omega)) (hf _ (by omega)).2 (fun j _ _ => by rw [e1 _ (by omega)]), i2.cong (fun i _ _ => e1 i (by omega)), by rw [e1 0 (by omega)]; exact i3⟩, ht.cong (by rw [e1 48 (by omega)]) (e1 49 (by omega)), hp.cong (fun i _ _ => hf i (by omega))⟩
theorem MI.hand {S : ST} {μ μ2 : Mem} {H2 : SV} (h : MI S μ) (hH : HVok H2) (hM : MHand μ2 H2) (hf : ∀ i, 85 < i → i < 93 ∨ 99 < i → μ2.1 i = μ.1 i ∧ μ2.2 i = μ.2 i) (hs : ∀ k, k ≠ 10 → k ≠ 12 → k ≠ 15 → k ≠ 18 → μ2.1 85 k = μ.1 85 k) : MI (S.1, H2, S.2.2) μ2 := by
  obtain ⟨⟨⟨g1, g2⟩, g3, g4⟩, m1, m2, ⟨m3, m4⟩, m5, m6⟩ := h
  refine ⟨⟨⟨g1, hH⟩, g3, g4⟩, m1.cong (fun i _ _ => (hf i (by omega) (by omega)).1) (fun k _ _ => hs k (by omega) (by omega) (by omega) (by omega)), hM, ⟨?_, fun z => (m4 z).cong (hf 100 (by omega) (by omega)).1⟩, m5.cong (hs 25 (by omega) (by omega) (by omega) (by omega)) (hf 102 (by omega) (by omega)).1, m6.cong (hf 106 (by omega) (by omega)).1 (hf 107 (by omega) (by omega)).1 (hf 108 (by omega) (by omega)).2⟩
  rw [hs 23 (by omega) (by omega) (by omega) (by omega)]
  exact m3
theorem row_a {μ : Nat → Int32} {f : Nat → Nat} {c x : Nat} (h : ∀ k, k < c → μ k = nI (f k)) : ∀ k, k < c + 1 → upd μ c (nI x) k = nI (if k = c then x else f k) := fun k hk => by
  rw [upd_a]
  by_cases z : k = c
  · rw [if_pos z, if_pos z]
  · rw [if_neg z, if_neg z]; exact h k (by omega)
theorem sI_u {μ : Mem} {i k : Nat} {v : Int32} : (sI μ i k v).1 i = upd (μ.1 i) k v := by rw [sI_1, if_pos rfl]
theorem sI_ne {μ : Mem} {i k j : Nat} {v : Int32} (h : j ≠ i) : (sI μ i k v).1 j = μ.1 j := sI_o h
section XH
variable {μ : Mem} {H : SV} {x y : Nat}

def h_st (H : SV) (x y : Nat) : SV := upV (upV H 8 (H 15 0) x) 15 0 (H 15 0 + 1)
theorem h_st_c : h_st H x y 15 0 = H 15 0 + 1 := upV_e
theorem h_st_n {i j : Nat} (h1 : i ≠ 8) (h2 : i ≠ 15 ∨ j ≠ 0) : h_st H x y i j = H i j := by unfold h_st; rw [upV_n h2, upV_n (Or.inl h1)]
theorem h_st_a {j : Nat} : h_st H x y 8 j = if j = H 15 0 then x else H 8 j := by
  unfold h_st; rw [upV_n (Or.inl (by decide))]
  by_cases c : j = H 15 0
  · rw [if_pos c, c, upV_e]
  · rw [if_neg c, upV_n (Or.inr c)]
theorem h_st_ok (h : HVok H) (hc : H 15 0 < 8) (hx : x < 8) : HVok (h_st H x y) := by
  obtain ⟨h1, h2, h3, h4⟩ := h
  unfold HVok
  simp only [h_st_n (H := H) (x := x) (y := y) (i := 15) (j := 1) (by decide) (Or.inr (by decide)), (fun j => h_st_n (H := H) (x := x) (y := y) (i := 9) (j := j) (by decide) (Or.inl (by decide))), (fun j => h_st_n (H := H) (x := x) (y := y) (i := 10) (j := j) (by decide) (Or.inl (by decide))), h_st_n (H := H) (x := x) (y := y) (i := 15) (j := 2) (by decide) (Or.inr (by decide)), (fun j => h_st_n (H := H) (x := x) (y := y) (i := 11) (j := j) (by decide) (Or.inl (by decide))), (fun j => h_st_n (H := H) (x := x) (y := y) (i := 12) (j := j) (by decide) (Or.inl (by decide))), h_st_n (H := H) (x := x) (y := y) (i := 15) (j := 3) (by decide) (Or.inr (by decide)), (fun j => h_st_n (H := H) (x := x) (y := y) (i := 13) (j := j) (by decide) (Or.inl (by decide))), (fun j => h_st_n (H := H) (x := x) (y := y) (i := 14) (j := j) (by decide) (Or.inl (by decide)))]
  refine ⟨⟨by rw [h_st_c]; omega, fun k hk => by
    rw [h_st_c] at hk
    rw [h_st_a]
    by_cases c : k = H 15 0
    · rw [if_pos c]; exact hx
    · rw [if_neg c]; exact h1.2 k (by omega)⟩, h2, h3, h4⟩
theorem h_st_x {v : Int32} (h : XHand 8 μ H) : XHand 8 (sI (sI (sI μ 10 (H 15 0) (nI x)) 11 (H 15 0) v) 9 2 (nI (H 15 0 + 1))) (h_st H x y) := by
  obtain ⟨h1, h2, h3, h4⟩ := h
  unfold XHand
  simp only [h_st_n (H := H) (x := x) (y := y) (i := 15) (j := 1) (by decide) (Or.inr (by decide)), (fun j => h_st_n (H := H) (x := x) (y := y) (i := 9) (j := j) (by decide) (Or.inl (by decide))), (fun j => h_st_n (H := H) (x := x) (y := y) (i := 10) (j := j) (by decide) (Or.inl (by decide))), h_st_n (H := H) (x := x) (y := y) (i := 15) (j := 2) (by decide) (Or.inr (by decide)), (fun j => h_st_n (H := H) (x := x) (y := y) (i := 11) (j := j) (by decide) (Or.inl (by decide))), (fun j => h_st_n (H := H) (x := x) (y := y) (i := 12) (j := j) (by decide) (Or.inl (by decide))), h_st_n (H := H) (x := x) (y := y) (i := 15) (j := 3) (by decide) (Or.inr (by decide)), (fun j => h_st_n (H := H) (x := x) (y := y) (i := 13) (j := j) (by decide) (Or.inl (by decide))), (fun j => h_st_n (H := H) (x := x) (y := y) (i := 14) (j := j) (by decide) (Or.inl (by decide))), Nat.reduceAdd, (show (sI (sI (sI μ 10 (H 15 0) (nI x)) 11 (H 15 0) v) 9 2 (nI (H 15 0 + 1))).1 12 = μ.1 12 by rw [sI_ne (by decide), sI_ne (by decide), sI_ne (by decide)]), (show (sI (sI (sI μ 10 (H 15 0) (nI x)) 11 (H 15 0) v) 9 2 (nI (H 15 0 + 1))).1 13 = μ.1 13 by rw [sI_ne (by decide), sI_ne (by decide), sI_ne (by decide)]), (show (sI (sI (sI μ 10 (H 15 0) (nI x)) 11 (H 15 0) v) 9 2 (nI (H 15 0 + 1))).1 14 = μ.1 14 by rw [sI_ne (by decide), sI_ne (by decide), sI_ne (by decide)]), (show (sI (sI (sI μ 10 (H 15 0) (nI x)) 11 (H 15 0) v) 9 2 (nI (H 15 0 + 1))).1 15 = μ.1 15 by rw [sI_ne (by decide), sI_ne (by decide), sI_ne (by decide)]), (show (sI (sI (sI μ 10 (H 15 0) (nI x)) 11 (H 15 0) v) 9 2 (nI (H 15 0 + 1))).1 16 = μ.1 16 by rw [sI_ne (by decide), sI_ne (by decide), sI_ne (by decide)]), (show (sI (sI (sI μ 10 (H 15 0) (nI x)) 11 (H 15 0) v) 9 2 (nI (H 15 0 + 1))).1 17 = μ.1 17 by rw [sI_ne (by decide), sI_ne (by decide), sI_ne (by decide)]), (show (sI (sI (sI μ 10 (H 15 0) (nI x)) 11 (H 15 0) v) 9 2 (nI (H 15 0 + 1))).1 18 = μ.1 18 by rw [sI_ne (by decide), sI_ne (by decide), sI_ne (by decide)]), (show (sI (sI (sI μ 10 (H 15 0) (nI x)) 11 (H 15 0) v) 9 2 (nI (H 15 0 + 1))).1 19 = μ.1 19 by rw [sI_ne (by decide), sI_ne (by decide), sI_ne (by decide)]), (show (sI (sI (sI μ 10 (H 15 0) (nI x)) 11 (H 15 0) v) 9 2 (nI (H 15 0 + 1))).1 20 = μ.1 20 by rw [sI_ne (by decide), sI_ne (by decide), sI_ne (by decide)])]
  refine ⟨⟨?_, fun k hk => ?_⟩, h2, h3, h4⟩
  · rw [sI_e, h_st_c]
  · rw [h_st_c] at hk
    rw [h_st_a, sI_ne (by decide), sI_ne (by decide), sI_u]; exact row_a h1.2 k hk
theorem h_st_m (h : MHand μ H) : MHand (sI (sI μ 93 (H 15 0) (nI x)) 85 10 (nI (H 15 0 + 1))) (h_st H x y) := by
  obtain ⟨h1, h2, h3, h4⟩ := h
  unfold MHand
  simp only [h_st_n (H := H) (x := x) (y := y) (i := 15) (j := 1) (by decide) (Or.inr (by decide)), (fun j => h_st_n (H := H) (x := x) (y := y) (i := 9) (j := j) (by decide) (Or.inl (by decide))), (fun j => h_st_n (H := H) (x := x) (y := y) (i := 10) (j := j) (by decide) (Or.inl (by decide))), h_st_n (H := H) (x := x) (y := y) (i := 15) (j := 2) (by decide) (Or.inr (by decide)), (fun j => h_st_n (H := H) (x := x) (y := y) (i := 11) (j := j) (by decide) (Or.inl (by decide))), (fun j => h_st_n (H := H) (x := x) (y := y) (i := 12) (j := j) (by decide) (Or.inl (by decide))), h_st_n (H := H) (x := x) (y := y) (i := 15) (j := 3) (by decide) (Or.inr (by decide)), (fun j => h_st_n (H := H) (x := x) (y := y) (i := 13) (j := j) (by decide) (Or.inl (by decide))), (fun j => h_st_n (H := H) (x := x) (y := y) (i := 14) (j := j) (by decide) (Or.inl (by decide))), (show (sI (sI μ 93 (H 15 0) (nI x)) 85 10 (nI (H 15 0 + 1))).1 94 = μ.1 94 by rw [sI_ne (by decide), sI_ne (by decide)]), (show (sI (sI μ 93 (H 15 0) (nI x)) 85 10 (nI (H 15 0 + 1))).1 95 = μ.1 95 by rw [sI_ne (by decide), sI_ne (by decide)]), (show (sI (sI μ 93 (H 15 0) (nI x)) 85 10 (nI (H 15 0 + 1))).1 96 = μ.1 96 by rw [sI_ne (by decide), sI_ne (by decide)]), (show (sI (sI μ 93 (H 15 0) (nI x)) 85 10 (nI (H 15 0 + 1))).1 97 = μ.1 97 by rw [sI_ne (by decide), sI_ne (by decide)]), (show (sI (sI μ 93 (H 15 0) (nI x)) 85 10 (nI (H 15 0 + 1))).1 98 = μ.1 98 by rw [sI_ne (by decide), sI_ne (by decide)]), (show (sI (sI μ 93 (H 15 0) (nI x)) 85 10 (nI (H 15 0 + 1))).1 99 = μ.1 99 by rw [sI_ne (by decide), sI_ne (by decide)]), (show (sI (sI μ 93 (H 15 0) (nI x)) 85 10 (nI (H 15 0 + 1))).1 85 12 = μ.1 85 12 by rw [sI_n (Or.inr (by decide)), sI_ne (by decide)]), (show (sI (sI μ 93 (H 15 0) (nI x)) 85 10 (nI (H 15 0 + 1))).1 85 15 = μ.1 85 15 by rw [sI_n (Or.inr (by decide)), sI_ne (by decide)]), (show (sI (sI μ 93 (H 15 0) (nI x)) 85 10 (nI (H 15 0 + 1))).1 85 18 = μ.1 85 18 by rw [sI_n (Or.inr (by decide)), sI_ne (by decide)])]
  refine ⟨⟨?_, fun k hk => ?_⟩, h2, h3, h4⟩
  · rw [sI_e, h_st_c]
  · rw [h_st_c] at hk
    rw [h_st_a, sI_ne (by decide), sI_u]; exact row_a h1.2 k hk
def h_se (H : SV) (x y : Nat) : SV := upV (upV (upV H 9 (H 15 1) x) 10 (H 15 1) y) 15 1 (H 15 1 + 1)
theorem h_se_c : h_se H x y 15 1 = H 15 1 + 1 := upV_e
theorem h_se_n {i j : Nat} (h1 : i ≠ 9) (h3 : i ≠ 10) (h2 : i ≠ 15 ∨ j ≠ 1) : h_se H x y i j = H i j := by unfold h_se; rw [upV_n h2, upV_n (Or.inl h3), upV_n (Or.inl h1)]
theorem h_se_a {j : Nat} : h_se H x y 9 j = if j = H 15 1 then x else H 9 j := by
  unfold h_se; rw [upV_n (Or.inl (by decide)), upV_n (Or.inl (by decide))]
  by_cases c : j = H 15 1
  · rw [if_pos c, c, upV_e]
  · rw [if_neg c, upV_n (Or.inr c)]
theorem h_se_b {j : Nat} : h_se H x y 10 j = if j = H 15 1 then y else H 10 j := by
  unfold h_se; rw [upV_n (Or.inl (by decide))]
  by_cases c : j = H 15 1
  · rw [if_pos c, c, upV_e]
  · rw [if_neg c, upV_n (Or.inr c), upV_n (Or.inl (by decide))]
theorem h_se_ok (h : HVok H) (hc : H 15 1 < 5) (hx : x < 36) (hy : y ≤ 99999) : HVok (h_se H x y) := by
  obtain ⟨h1, h2, h3, h4⟩ := h
  unfold HVok
  simp only [h_se_n (H := H) (x := x) (y := y) (i := 15) (j := 0) (by decide) (by decide) (Or.inr (by decide)), (fun j => h_se_n (H := H) (x := x) (y := y) (i := 8) (j := j) (by decide) (by decide) (Or.inl (by decide))), h_se_n (H := H) (x := x) (y := y) (i := 15) (j := 2) (by decide) (by decide) (Or.inr (by decide)), (fun j => h_se_n (H := H) (x := x) (y := y) (i := 11) (j := j) (by decide) (by decide) (Or.inl (by decide))), (fun j => h_se_n (H := H) (x := x) (y := y) (i := 12) (j := j) (by decide) (by decide) (Or.inl (by decide))), h_se_n (H := H) (x := x) (y := y) (i := 15) (j := 3) (by decide) (by decide) (Or.inr (by decide)), (fun j => h_se_n (H := H) (x := x) (y := y) (i := 13) (j := j) (by decide) (by decide) (Or.inl (by decide))), (fun j => h_se_n (H := H) (x := x) (y := y) (i := 14) (j := j) (by decide) (by decide) (Or.inl (by decide)))]
  refine ⟨h1, ⟨by rw [h_se_c]; omega, fun k hk => by
    rw [h_se_c] at hk
    rw [h_se_a, h_se_b]
    by_cases c : k = H 15 1
    · rw [if_pos c, if_pos c]; exact ⟨hx, hy⟩
    · rw [if_neg c, if_neg c]; exact h2.2 k (by omega)⟩, h3, h4⟩
theorem h_se_x (h : XHand 8 μ H) : XHand 8 (sI (sI (sI μ 13 (H 15 1) (nI x)) 14 (H 15 1) (nI y)) 12 2 (nI (H 15 1 + 1))) (h_se H x y) := by
  obtain ⟨h1, h2, h3, h4⟩ := h
  unfold XHand
  simp only [h_se_n (H := H) (x := x) (y := y) (i := 15) (j := 0) (by decide) (by decide) (Or.inr (by decide)), (fun j => h_se_n (H := H) (x := x) (y := y) (i := 8) (j := j) (by decide) (by decide) (Or.inl (by decide))), h_se_n (H := H) (x := x) (y := y) (i := 15) (j := 2) (by decide) (by decide) (Or.inr (by decide)), (fun j => h_se_n (H := H) (x := x) (y := y) (i := 11) (j := j) (by decide) (by decide) (Or.inl (by decide))), (fun j => h_se_n (H := H) (x := x) (y := y) (i := 12) (j := j) (by decide) (by decide) (Or.inl (by decide))), h_se_n (H := H) (x := x) (y := y) (i := 15) (j := 3) (by decide) (by decide) (Or.inr (by decide)), (fun j => h_se_n (H := H) (x := x) (y := y) (i := 13) (j := j) (by decide) (by decide) (Or.inl (by decide))), (fun j => h_se_n (H := H) (x := x) (y := y) (i := 14) (j := j) (by decide) (by decide) (Or.inl (by decide))), Nat.reduceAdd, (show (sI (sI (sI μ 13 (H 15 1) (nI x)) 14 (H 15 1) (nI y)) 12 2 (nI (H 15 1 + 1))).1 9 = μ.1 9 by rw [sI_ne (by decide), sI_ne (by decide), sI_ne (by decide)]), (show (sI (sI (sI μ 13 (H 15 1) (nI x)) 14 (H 15 1) (nI y)) 12 2 (nI (H 15 1 + 1))).1 10 = μ.1 10 by rw [sI_ne (by decide), sI_ne (by decide), sI_ne (by decide)]), (show (sI (sI (sI μ 13 (H 15 1) (nI x)) 14 (H 15 1) (nI y)) 12 2 (nI (H 15 1 + 1))).1 15 = μ.1 15 by rw [sI_ne (by decide), sI_ne (by decide), sI_ne (by decide)]), (show (sI (sI (sI μ 13 (H 15 1) (nI x)) 14 (H 15 1) (nI y)) 12 2 (nI (H 15 1 + 1))).1 16 = μ.1 16 by rw [sI_ne (by decide), sI_ne (by decide), sI_ne (by decide)]), (show (sI (sI (sI μ 13 (H 15 1) (nI x)) 14 (H 15 1) (nI y)) 12 2 (nI (H 15 1 + 1))).1 17 = μ.1 17 by rw [sI_ne (by decide), sI_ne (by decide), sI_ne (by decide)]), (show (sI (sI (sI μ 13 (H 15 1) (nI x)) 14 (H 15 1) (nI y)) 12 2 (nI (H 15 1 + 1))).1 18 = μ.1 18 by rw [sI_ne (by decide), sI_ne (by decide), sI_ne (by decide)]), (show (sI (sI (sI μ 13 (H 15 1) (nI x)) 14 (H 15 1) (nI y)) 12 2 (nI (H 15 1 + 1))).1 19 = μ.1 19 by rw [sI_ne (by decide), sI_ne (by decide), sI_ne (by decide)]), (show (sI (sI (sI μ 13 (H 15 1) (nI x)) 14 (H 15 1) (nI y)) 12 2 (nI (H 15 1 + 1))).1 20 = μ.1 20 by rw [sI_ne (by decide), sI_ne (by decide), sI_ne (by decide)])]
  refine ⟨h1, ⟨?_, fun k hk => ⟨?_, ?_⟩⟩, h3, h4⟩
  · rw [sI_e, h_se_c]
  · rw [h_se_c] at hk
    rw [h_se_a, sI_ne (by decide), sI_ne (by decide), sI_u]; exact row_a (fun k hk => (h2.2 k hk).1) k hk
  · rw [h_se_c] at hk
    rw [h_se_b, sI_ne (by decide), sI_u, sI_ne (by decide)]; exact row_a (fun k hk => (h2.2 k hk).2) k hk
theorem h_se_m (h : MHand μ H) : MHand (sI (sI (sI μ 94 (H 15 1) (nI x)) 95 (H 15 1) (nI y)) 85 12 (nI (H 15 1 + 1))) (h_se H x y) := by
  obtain ⟨h1, h2, h3, h4⟩ := h
  unfold MHand
  simp only [h_se_n (H := H) (x := x) (y := y) (i := 15) (j := 0) (by decide) (by decide) (Or.inr (by decide)), (fun j => h_se_n (H := H) (x := x) (y := y) (i := 8) (j := j) (by decide) (by decide) (Or.inl (by decide))), h_se_n (H := H) (x := x) (y := y) (i := 15) (j := 2) (by decide) (by decide) (Or.inr (by decide)), (fun j => h_se_n (H := H) (x := x) (y := y) (i := 11) (j := j) (by decide) (by decide) (Or.inl (by decide))), (fun j => h_se_n (H := H) (x := x) (y := y) (i := 12) (j := j) (by decide) (by decide) (Or.inl (by decide))), h_se_n (H := H) (x := x) (y := y) (i := 15) (j := 3) (by decide) (by decide) (Or.inr (by decide)), (fun j => h_se_n (H := H) (x := x) (y := y) (i := 13) (j := j) (by decide) (by decide) (Or.inl (by decide))), (fun j => h_se_n (H := H) (x := x) (y := y) (i := 14) (j := j) (by decide) (by decide) (Or.inl (by decide))), (show (sI (sI (sI μ 94 (H 15 1) (nI x)) 95 (H 15 1) (nI y)) 85 12 (nI (H 15 1 + 1))).1 93 = μ.1 93 by rw [sI_ne (by decide), sI_ne (by decide), sI_ne (by decide)]), (show (sI (sI (sI μ 94 (H 15 1) (nI x)) 95 (H 15 1) (nI y)) 85 12 (nI (H 15 1 + 1))).1 96 = μ.1 96 by rw [sI_ne (by decide), sI_ne (by decide), sI_ne (by decide)]), (show (sI (sI (sI μ 94 (H 15 1) (nI x)) 95 (H 15 1) (nI y)) 85 12 (nI (H 15 1 + 1))).1 97 = μ.1 97 by rw [sI_ne (by decide), sI_ne (by decide), sI_ne (by decide)]), (show (sI (sI (sI μ 94 (H 15 1) (nI x)) 95 (H 15 1) (nI y)) 85 12 (nI (H 15 1 + 1))).1 98 = μ.1 98 by rw [sI_ne (by decide), sI_ne (by decide), sI_ne (by decide)]), (show (sI (sI (sI μ 94 (H 15 1) (nI x)) 95 (H 15 1) (nI y)) 85 12 (nI (H 15 1 + 1))).1 99 = μ.1 99 by rw [sI_ne (by decide), sI_ne (by decide), sI_ne (by decide)]), (show (sI (sI (sI μ 94 (H 15 1) (nI x)) 95 (H 15 1) (nI y)) 85 12 (nI (H 15 1 + 1))).1 85 10 = μ.1 85 10 by rw [sI_n (Or.inr (by decide)), sI_ne (by decide), sI_ne (by decide)]), (show (sI (sI (sI μ 94 (H 15 1) (nI x)) 95 (H 15 1) (nI y)) 85 12 (nI (H 15 1 + 1))).1 85 15 = μ.1 85 15 by rw [sI_n (Or.inr (by decide)), sI_ne (by decide), sI_ne (by decide)]), (show (sI (sI (sI μ 94 (H 15 1) (nI x)) 95 (H 15 1) (nI y)) 85 12 (nI (H 15 1 + 1))).1 85 18 = μ.1 85 18 by rw [sI_n (Or.inr (by decide)), sI_ne (by decide), sI_ne (by decide)])]
  refine ⟨h1, ⟨?_, fun k hk => ⟨?_, ?_⟩⟩, h3, h4⟩
  · rw [sI_e, h_se_c]
  · rw [h_se_c] at hk
    rw [h_se_a, sI_ne (by decide), sI_ne (by decide), sI_u]; exact row_a (fun k hk => (h2.2 k hk).1) k hk
  · rw [h_se_c] at hk
    rw [h_se_b, sI_ne (by decide), sI_u, sI_ne (by decide)]; exact row_a (fun k hk => (h2.2 k hk).2) k hk
def h_ev (H : SV) (x y : Nat) : SV := upV (upV (upV H 11 (H 15 2) x) 12 (H 15 2) y) 15 2 (H 15 2 + 1)
theorem h_ev_c : h_ev H x y 15 2 = H 15 2 + 1 := upV_e
theorem h_ev_n {i j : Nat} (h1 : i ≠ 11) (h3 : i ≠ 12) (h2 : i ≠ 15 ∨ j ≠ 2) : h_ev H x y i j = H i j := by unfold h_ev; rw [upV_n h2, upV_n (Or.inl h3), upV_n (Or.inl h1)]
theorem h_ev_a {j : Nat} : h_ev H x y 11 j = if j = H 15 2 then x else H 11 j := by
  unfold h_ev; rw [upV_n (Or.inl (by decide)), upV_n (Or.inl (by decide))]
  by_cases c : j = H 15 2
  · rw [if_pos c, c, upV_e]
  · rw [if_neg c, upV_n (Or.inr c)]
theorem h_ev_b {j : Nat} : h_ev H x y 12 j = if j = H 15 2 then y else H 12 j := by
  unfold h_ev; rw [upV_n (Or.inl (by decide))]
  by_cases c : j = H 15 2
  · rw [if_pos c, c, upV_e]
  · rw [if_neg c, upV_n (Or.inr c), upV_n (Or.inl (by decide))]
theorem h_ev_ok (h : HVok H) (hc : H 15 2 < 8) (hx : x < 4) (hy : y < 8) (hz : x ≠ 2 → y < 4) : HVok (h_ev H x y) := by
  obtain ⟨h1, h2, h3, h4⟩ := h
  unfold HVok
  simp only [h_ev_n (H := H) (x := x) (y := y) (i := 15) (j := 0) (by decide) (by decide) (Or.inr (by decide)), (fun j => h_ev_n (H := H) (x := x) (y := y) (i := 8) (j := j) (by decide) (by decide) (Or.inl (by decide))), h_ev_n (H := H) (x := x) (y := y) (i := 15) (j := 1) (by decide) (by decide) (Or.inr (by decide)), (fun j => h_ev_n (H := H) (x := x) (y := y) (i := 9) (j := j) (by decide) (by decide) (Or.inl (by decide))), (fun j => h_ev_n (H := H) (x := x) (y := y) (i := 10) (j := j) (by decide) (by decide) (Or.inl (by decide))), h_ev_n (H := H) (x := x) (y := y) (i := 15) (j := 3) (by decide) (by decide) (Or.inr (by decide)), (fun j => h_ev_n (H := H) (x := x) (y := y) (i := 13) (j := j) (by decide) (by decide) (Or.inl (by decide))), (fun j => h_ev_n (H := H) (x := x) (y := y) (i := 14) (j := j) (by decide) (by decide) (Or.inl (by decide)))]
  refine ⟨h1, h2, ⟨by rw [h_ev_c]; omega, fun k hk => by
    rw [h_ev_c] at hk
    rw [h_ev_a, h_ev_b]
    by_cases c : k = H 15 2
    · rw [if_pos c, if_pos c]; exact ⟨hx, hy, hz⟩
    · rw [if_neg c, if_neg c]; exact h3.2 k (by omega)⟩, h4⟩
theorem h_ev_x (h : XHand 8 μ H) : XHand 8 (sI (sI (sI μ 16 (H 15 2) (nI x)) 17 (H 15 2) (nI y)) 15 2 (nI (H 15 2 + 1))) (h_ev H x y) := by
  obtain ⟨h1, h2, h3, h4⟩ := h
  unfold XHand
  simp only [h_ev_n (H := H) (x := x) (y := y) (i := 15) (j := 0) (by decide) (by decide) (Or.inr (by decide)), (fun j => h_ev_n (H := H) (x := x) (y := y) (i := 8) (j := j) (by decide) (by decide) (Or.inl (by decide))), h_ev_n (H := H) (x := x) (y := y) (i := 15) (j := 1) (by decide) (by decide) (Or.inr (by decide)), (fun j => h_ev_n (H := H) (x := x) (y := y) (i := 9) (j := j) (by decide) (by decide) (Or.inl (by decide))), (fun j => h_ev_n (H := H) (x := x) (y := y) (i := 10) (j := j) (by decide) (by decide) (Or.inl (by decide))), h_ev_n (H := H) (x := x) (y := y) (i := 15) (j := 3) (by decide) (by decide) (Or.inr (by decide)), (fun j => h_ev_n (H := H) (x := x) (y := y) (i := 13) (j := j) (by decide) (by decide) (Or.inl (by decide))), (fun j => h_ev_n (H := H) (x := x) (y := y) (i := 14) (j := j) (by decide) (by decide) (Or.inl (by decide))), Nat.reduceAdd, (show (sI (sI (sI μ 16 (H 15 2) (nI x)) 17 (H 15 2) (nI y)) 15 2 (nI (H 15 2 + 1))).1 9 = μ.1 9 by rw [sI_ne (by decide), sI_ne (by decide), sI_ne (by decide)]), (show (sI (sI (sI μ 16 (H 15 2) (nI x)) 17 (H 15 2) (nI y)) 15 2 (nI (H 15 2 + 1))).1 10 = μ.1 10 by rw [sI_ne (by decide), sI_ne (by decide), sI_ne (by decide)]), (show (sI (sI (sI μ 16 (H 15 2) (nI x)) 17 (H 15 2) (nI y)) 15 2 (nI (H 15 2 + 1))).1 12 = μ.1 12 by rw [sI_ne (by decide), sI_ne (by decide), sI_ne (by decide)]), (show (sI (sI (sI μ 16 (H 15 2) (nI x)) 17 (H 15 2) (nI y)) 15 2 (nI (H 15 2 + 1))).1 13 = μ.1 13 by rw [sI_ne (by decide), sI_ne (by decide), sI_ne (by decide)]), (show (sI (sI (sI μ 16 (H 15 2) (nI x)) 17 (H 15 2) (nI y)) 15 2 (nI (H 15 2 + 1))).1 14 = μ.1 14 by rw [sI_ne (by decide), sI_ne (by decide), sI_ne (by decide)]), (show (sI (sI (sI μ 16 (H 15 2) (nI x)) 17 (H 15 2) (nI y)) 15 2 (nI (H 15 2 + 1))).1 18 = μ.1 18 by rw [sI_ne (by decide), sI_ne (by decide), sI_ne (by decide)]), (show (sI (sI (sI μ 16 (H 15 2) (nI x)) 17 (H 15 2) (nI y)) 15 2 (nI (H 15 2 + 1))).1 19 = μ.1 19 by rw [sI_ne (by decide), sI_ne (by decide), sI_ne (by decide)]), (show (sI (sI (sI μ 16 (H 15 2) (nI x)) 17 (H 15 2) (nI y)) 15 2 (nI (H 15 2 + 1))).1 20 = μ.1 20 by rw [sI_ne (by decide), sI_ne (by decide), sI_ne (by decide)])]
  refine ⟨h1, h2, ⟨?_, fun k hk => ⟨?_, ?_⟩⟩, h4⟩
  · rw [sI_e, h_ev_c]
  · rw [h_ev_c] at hk
    rw [h_ev_a, sI_ne (by decide), sI_ne (by decide), sI_u]; exact row_a (fun k hk => (h3.2 k hk).1) k hk
  · rw [h_ev_c] at hk
    rw [h_ev_b, sI_ne (by decide), sI_u, sI_ne (by decide)]; exact row_a (fun k hk => (h3.2 k hk).2) k hk
theorem h_ev_m (h : MHand μ H) : MHand (sI (sI (sI μ 96 (H 15 2) (nI x)) 97 (H 15 2) (nI y)) 85 15 (nI (H 15 2 + 1))) (h_ev H x y) := by
  obtain ⟨h1, h2, h3, h4⟩ := h
  unfold MHand
  simp only [h_ev_n (H := H) (x := x) (y := y) (i := 15) (j := 0) (by decide) (by decide) (Or.inr (by decide)), (fun j => h_ev_n (H := H) (x := x) (y := y) (i := 8) (j := j) (by decide) (by decide) (Or.inl (by decide))), h_ev_n (H := H) (x := x) (y := y) (i := 15) (j := 1) (by decide) (by decide) (Or.inr (by decide)), (fun j => h_ev_n (H := H) (x := x) (y := y) (i := 9) (j := j) (by decide) (by decide) (Or.inl (by decide))), (fun j => h_ev_n (H := H) (x := x) (y := y) (i := 10) (j := j) (by decide) (by decide) (Or.inl (by decide))), h_ev_n (H := H) (x := x) (y := y) (i := 15) (j := 3) (by decide) (by decide) (Or.inr (by decide)), (fun j => h_ev_n (H := H) (x := x) (y := y) (i := 13) (j := j) (by decide) (by decide) (Or.inl (by decide))), (fun j => h_ev_n (H := H) (x := x) (y := y) (i := 14) (j := j) (by decide) (by decide) (Or.inl (by decide))), (show (sI (sI (sI μ 96 (H 15 2) (nI x)) 97 (H 15 2) (nI y)) 85 15 (nI (H 15 2 + 1))).1 93 = μ.1 93 by rw [sI_ne (by decide), sI_ne (by decide), sI_ne (by decide)]), (show (sI (sI (sI μ 96 (H 15 2) (nI x)) 97 (H 15 2) (nI y)) 85 15 (nI (H 15 2 + 1))).1 94 = μ.1 94 by rw [sI_ne (by decide), sI_ne (by decide), sI_ne (by decide)]), (show (sI (sI (sI μ 96 (H 15 2) (nI x)) 97 (H 15 2) (nI y)) 85 15 (nI (H 15 2 + 1))).1 95 = μ.1 95 by rw [sI_ne (by decide), sI_ne (by decide), sI_ne (by decide)]), (show (sI (sI (sI μ 96 (H 15 2) (nI x)) 97 (H 15 2) (nI y)) 85 15 (nI (H 15 2 + 1))).1 98 = μ.1 98 by rw [sI_ne (by decide), sI_ne (by decide), sI_ne (by decide)]), (show (sI (sI (sI μ 96 (H 15 2) (nI x)) 97 (H 15 2) (nI y)) 85 15 (nI (H 15 2 + 1))).1 99 = μ.1 99 by rw [sI_ne (by decide), sI_ne (by decide), sI_ne (by decide)]), (show (sI (sI (sI μ 96 (H 15 2) (nI x)) 97 (H 15 2) (nI y)) 85 15 (nI (H 15 2 + 1))).1 85 10 = μ.1 85 10 by rw [sI_n (Or.inr (by decide)), sI_ne (by decide), sI_ne (by decide)]), (show (sI (sI (sI μ 96 (H 15 2) (nI x)) 97 (H 15 2) (nI y)) 85 15 (nI (H 15 2 + 1))).1 85 12 = μ.1 85 12 by rw [sI_n (Or.inr (by decide)), sI_ne (by decide), sI_ne (by decide)]), (show (sI (sI (sI μ 96 (H 15 2) (nI x)) 97 (H 15 2) (nI y)) 85 15 (nI (H 15 2 + 1))).1 85 18 = μ.1 85 18 by rw [sI_n (Or.inr (by decide)), sI_ne (by decide), sI_ne (by decide)])]
  refine ⟨h1, h2, ⟨?_, fun k hk => ⟨?_, ?_⟩⟩, h4⟩
  · rw [sI_e, h_ev_c]
  · rw [h_ev_c] at hk
    rw [h_ev_a, sI_ne (by decide), sI_ne (by decide), sI_u]; exact row_a (fun k hk => (h3.2 k hk).1) k hk
  · rw [h_ev_c] at hk
    rw [h_ev_b, sI_ne (by decide), sI_u, sI_ne (by decide)]; exact row_a (fun k hk => (h3.2 k hk).2) k hk
def h_bo (H : SV) (x y : Nat) : SV := upV (upV (upV H 13 (H 15 3) x) 14 (H 15 3) y) 15 3 (H 15 3 + 1)
theorem h_bo_c : h_bo H x y 15 3 = H 15 3 + 1 := upV_e
theorem h_bo_n {i j : Nat} (h1 : i ≠ 13) (h3 : i ≠ 14) (h2 : i ≠ 15 ∨ j ≠ 3) : h_bo H x y i j = H i j := by unfold h_bo; rw [upV_n h2, upV_n (Or.inl h3), upV_n (Or.inl h1)]
theorem h_bo_a {j : Nat} : h_bo H x y 13 j = if j = H 15 3 then x else H 13 j := by
  unfold h_bo; rw [upV_n (Or.inl (by decide)), upV_n (Or.inl (by decide))]
  by_cases c : j = H 15 3
  · rw [if_pos c, c, upV_e]
  · rw [if_neg c, upV_n (Or.inr c)]
theorem h_bo_b {j : Nat} : h_bo H x y 14 j = if j = H 15 3 then y else H 14 j := by
  unfold h_bo; rw [upV_n (Or.inl (by decide))]
  by_cases c : j = H 15 3
  · rw [if_pos c, c, upV_e]
  · rw [if_neg c, upV_n (Or.inr c), upV_n (Or.inl (by decide))]
theorem h_bo_ok (h : HVok H) (hc : H 15 3 < 8) (hx : x < 36) (hy : y ≤ 99999) : HVok (h_bo H x y) := by
  obtain ⟨h1, h2, h3, h4⟩ := h
  unfold HVok
  simp only [h_bo_n (H := H) (x := x) (y := y) (i := 15) (j := 0) (by decide) (by decide) (Or.inr (by decide)), (fun j => h_bo_n (H := H) (x := x) (y := y) (i := 8) (j := j) (by decide) (by decide) (Or.inl (by decide))), h_bo_n (H := H) (x := x) (y := y) (i := 15) (j := 1) (by decide) (by decide) (Or.inr (by decide)), (fun j => h_bo_n (H := H) (x := x) (y := y) (i := 9) (j := j) (by decide) (by decide) (Or.inl (by decide))), (fun j => h_bo_n (H := H) (x := x) (y := y) (i := 10) (j := j) (by decide) (by decide) (Or.inl (by decide))), h_bo_n (H := H) (x := x) (y := y) (i := 15) (j := 2) (by decide) (by decide) (Or.inr (by decide)), (fun j => h_bo_n (H := H) (x := x) (y := y) (i := 11) (j := j) (by decide) (by decide) (Or.inl (by decide))), (fun j => h_bo_n (H := H) (x := x) (y := y) (i := 12) (j := j) (by decide) (by decide) (Or.inl (by decide)))]
  refine ⟨h1, h2, h3, ⟨by rw [h_bo_c]; omega, fun k hk => by
    rw [h_bo_c] at hk
    rw [h_bo_a, h_bo_b]
    by_cases c : k = H 15 3
    · rw [if_pos c, if_pos c]; exact ⟨hx, hy⟩
    · rw [if_neg c, if_neg c]; exact h4.2 k (by omega)⟩⟩
theorem h_bo_x (h : XHand 8 μ H) : XHand 8 (sI (sI (sI μ 19 (H 15 3) (nI x)) 20 (H 15 3) (nI y)) 18 2 (nI (H 15 3 + 1))) (h_bo H x y) := by
  obtain ⟨h1, h2, h3, h4⟩ := h
  unfold XHand
  simp only [h_bo_n (H := H) (x := x) (y := y) (i := 15) (j := 0) (by decide) (by decide) (Or.inr (by decide)), (fun j => h_bo_n (H := H) (x := x) (y := y) (i := 8) (j := j) (by decide) (by decide) (Or.inl (by decide))), h_bo_n (H := H) (x := x) (y := y) (i := 15) (j := 1) (by decide) (by decide) (Or.inr (by decide)), (fun j => h_bo_n (H := H) (x := x) (y := y) (i := 9) (j := j) (by decide) (by decide) (Or.inl (by decide))), (fun j => h_bo_n (H := H) (x := x) (y := y) (i := 10) (j := j) (by decide) (by decide) (Or.inl (by decide))), h_bo_n (H := H) (x := x) (y := y) (i := 15) (j := 2) (by decide) (by decide) (Or.inr (by decide)), (fun j => h_bo_n (H := H) (x := x) (y := y) (i := 11) (j := j) (by decide) (by decide) (Or.inl (by decide))), (fun j => h_bo_n (H := H) (x := x) (y := y) (i := 12) (j := j) (by decide) (by decide) (Or.inl (by decide))), Nat.reduceAdd, (show (sI (sI (sI μ 19 (H 15 3) (nI x)) 20 (H 15 3) (nI y)) 18 2 (nI (H 15 3 + 1))).1 9 = μ.1 9 by rw [sI_ne (by decide), sI_ne (by decide), sI_ne (by decide)]), (show (sI (sI (sI μ 19 (H 15 3) (nI x)) 20 (H 15 3) (nI y)) 18 2 (nI (H 15 3 + 1))).1 10 = μ.1 10 by rw [sI_ne (by decide), sI_ne (by decide), sI_ne (by decide)]), (show (sI (sI (sI μ 19 (H 15 3) (nI x)) 20 (H 15 3) (nI y)) 18 2 (nI (H 15 3 + 1))).1 12 = μ.1 12 by rw [sI_ne (by decide), sI_ne (by decide), sI_ne (by decide)]), (show (sI (sI (sI μ 19 (H 15 3) (nI x)) 20 (H 15 3) (nI y)) 18 2 (nI (H 15 3 + 1))).1 13 = μ.1 13 by rw [sI_ne (by decide), sI_ne (by decide), sI_ne (by decide)]), (show (sI (sI (sI μ 19 (H 15 3) (nI x)) 20 (H 15 3) (nI y)) 18 2 (nI (H 15 3 + 1))).1 14 = μ.1 14 by rw [sI_ne (by decide), sI_ne (by decide), sI_ne (by decide)]), (show (sI (sI (sI μ 19 (H 15 3) (nI x)) 20 (H 15 3) (nI y)) 18 2 (nI (H 15 3 + 1))).1 15 = μ.1 15 by rw [sI_ne (by decide), sI_ne (by decide), sI_ne (by decide)]), (show (sI (sI (sI μ 19 (H 15 3) (nI x)) 20 (H 15 3) (nI y)) 18 2 (nI (H 15 3 + 1))).1 16 = μ.1 16 by rw [sI_ne (by decide), sI_ne (by decide), sI_ne (by decide)]), (show (sI (sI (sI μ 19 (H 15 3) (nI x)) 20 (H 15 3) (nI y)) 18 2 (nI (H 15 3 + 1))).1 17 = μ.1 17 by rw [sI_ne (by decide), sI_ne (by decide), sI_ne (by decide)])]
  refine ⟨h1, h2, h3, ⟨?_, fun k hk => ⟨?_, ?_⟩⟩⟩
  · rw [sI_e, h_bo_c]
  · rw [h_bo_c] at hk
    rw [h_bo_a, sI_ne (by decide), sI_ne (by decide), sI_u]; exact row_a (fun k hk => (h4.2 k hk).1) k hk
  · rw [h_bo_c] at hk
    rw [h_bo_b, sI_ne (by decide), sI_u, sI_ne (by decide)]; exact row_a (fun k hk => (h4.2 k hk).2) k hk
theorem h_bo_m (h : MHand μ H) : MHand (sI (sI (sI μ 98 (H 15 3) (nI x)) 99 (H 15 3) (nI y)) 85 18 (nI (H 15 3 + 1))) (h_bo H x y) := by
  obtain ⟨h1, h2, h3, h4⟩ := h
  unfold MHand
  simp only [h_bo_n (H := H) (x := x) (y := y) (i := 15) (j := 0) (by decide) (by decide) (Or.inr (by decide)), (fun j => h_bo_n (H := H) (x := x) (y := y) (i := 8) (j := j) (by decide) (by decide) (Or.inl (by decide))), h_bo_n (H := H) (x := x) (y := y) (i := 15) (j := 1) (by decide) (by decide) (Or.inr (by decide)), (fun j => h_bo_n (H := H) (x := x) (y := y) (i := 9) (j := j) (by decide) (by decide) (Or.inl (by decide))), (fun j => h_bo_n (H := H) (x := x) (y := y) (i := 10) (j := j) (by decide) (by decide) (Or.inl (by decide))), h_bo_n (H := H) (x := x) (y := y) (i := 15) (j := 2) (by decide) (by decide) (Or.inr (by decide)), (fun j => h_bo_n (H := H) (x := x) (y := y) (i := 11) (j := j) (by decide) (by decide) (Or.inl (by decide))), (fun j => h_bo_n (H := H) (x := x) (y := y) (i := 12) (j := j) (by decide) (by decide) (Or.inl (by decide))), (show (sI (sI (sI μ 98 (H 15 3) (nI x)) 99 (H 15 3) (nI y)) 85 18 (nI (H 15 3 + 1))).1 93 = μ.1 93 by rw [sI_ne (by decide), sI_ne (by decide), sI_ne (by decide)]), (show (sI (sI (sI μ 98 (H 15 3) (nI x)) 99 (H 15 3) (nI y)) 85 18 (nI (H 15 3 + 1))).1 94 = μ.1 94 by rw [sI_ne (by decide), sI_ne (by decide), sI_ne (by decide)]), (show (sI (sI (sI μ 98 (H 15 3) (nI x)) 99 (H 15 3) (nI y)) 85 18 (nI (H 15 3 + 1))).1 95 = μ.1 95 by rw [sI_ne (by decide), sI_ne (by decide), sI_ne (by decide)]), (show (sI (sI (sI μ 98 (H 15 3) (nI x)) 99 (H 15 3) (nI y)) 85 18 (nI (H 15 3 + 1))).1 96 = μ.1 96 by rw [sI_ne (by decide), sI_ne (by decide), sI_ne (by decide)]), (show (sI (sI (sI μ 98 (H 15 3) (nI x)) 99 (H 15 3) (nI y)) 85 18 (nI (H 15 3 + 1))).1 97 = μ.1 97 by rw [sI_ne (by decide), sI_ne (by decide), sI_ne (by decide)]), (show (sI (sI (sI μ 98 (H 15 3) (nI x)) 99 (H 15 3) (nI y)) 85 18 (nI (H 15 3 + 1))).1 85 10 = μ.1 85 10 by rw [sI_n (Or.inr (by decide)), sI_ne (by decide), sI_ne (by decide)]), (show (sI (sI (sI μ 98 (H 15 3) (nI x)) 99 (H 15 3) (nI y)) 85 18 (nI (H 15 3 + 1))).1 85 12 = μ.1 85 12 by rw [sI_n (Or.inr (by decide)), sI_ne (by decide), sI_ne (by decide)]), (show (sI (sI (sI μ 98 (H 15 3) (nI x)) 99 (H 15 3) (nI y)) 85 18 (nI (H 15 3 + 1))).1 85 15 = μ.1 85 15 by rw [sI_n (Or.inr (by decide)), sI_ne (by decide), sI_ne (by decide)])]
  refine ⟨h1, h2, h3, ⟨?_, fun k hk => ⟨?_, ?_⟩⟩⟩
  · rw [sI_e, h_bo_c]
  · rw [h_bo_c] at hk
    rw [h_bo_a, sI_ne (by decide), sI_ne (by decide), sI_u]; exact row_a (fun k hk => (h4.2 k hk).1) k hk
  · rw [h_bo_c] at hk
    rw [h_bo_b, sI_ne (by decide), sI_u, sI_ne (by decide)]; exact row_a (fun k hk => (h4.2 k hk).2) k hk
theorem h_st_0ok (h : HVok H) : HVok (upV H 15 0 0) := by
  obtain ⟨h1, h2, h3, h4⟩ := h
  unfold HVok
  simp only [(fun j => show upV H 15 0 0 8 j = H 8 j from upV_n (Or.inl (by decide))), (show upV H 15 0 0 15 1 = H 15 1 from upV_n (Or.inr (by decide))), (fun j => show upV H 15 0 0 9 j = H 9 j from upV_n (Or.inl (by decide))), (fun j => show upV H 15 0 0 10 j = H 10 j from upV_n (Or.inl (by decide))), (show upV H 15 0 0 15 2 = H 15 2 from upV_n (Or.inr (by decide))), (fun j => show upV H 15 0 0 11 j = H 11 j from upV_n (Or.inl (by decide))), (fun j => show upV H 15 0 0 12 j = H 12 j from upV_n (Or.inl (by decide))), (show upV H 15 0 0 15 3 = H 15 3 from upV_n (Or.inr (by decide))), (fun j => show upV H 15 0 0 13 j = H 13 j from upV_n (Or.inl (by decide))), (fun j => show upV H 15 0 0 14 j = H 14 j from upV_n (Or.inl (by decide)))]
  exact ⟨⟨by rw [upV_e]; omega, fun k hk => by rw [upV_e] at hk; omega⟩, h2, h3, h4⟩
theorem h_st_0x (h : XHand 8 μ H) : XHand 8 (sI μ 9 2 (nI 0)) (upV H 15 0 0) := by
  obtain ⟨h1, h2, h3, h4⟩ := h
  unfold XHand
  simp only [(fun j => show upV H 15 0 0 8 j = H 8 j from upV_n (Or.inl (by decide))), (show upV H 15 0 0 15 1 = H 15 1 from upV_n (Or.inr (by decide))), (fun j => show upV H 15 0 0 9 j = H 9 j from upV_n (Or.inl (by decide))), (fun j => show upV H 15 0 0 10 j = H 10 j from upV_n (Or.inl (by decide))), (show upV H 15 0 0 15 2 = H 15 2 from upV_n (Or.inr (by decide))), (fun j => show upV H 15 0 0 11 j = H 11 j from upV_n (Or.inl (by decide))), (fun j => show upV H 15 0 0 12 j = H 12 j from upV_n (Or.inl (by decide))), (show upV H 15 0 0 15 3 = H 15 3 from upV_n (Or.inr (by decide))), (fun j => show upV H 15 0 0 13 j = H 13 j from upV_n (Or.inl (by decide))), (fun j => show upV H 15 0 0 14 j = H 14 j from upV_n (Or.inl (by decide))), Nat.reduceAdd, (show (sI μ 9 2 (nI 0)).1 10 = μ.1 10 by rw [sI_ne (by decide)]), (show (sI μ 9 2 (nI 0)).1 12 = μ.1 12 by rw [sI_ne (by decide)]), (show (sI μ 9 2 (nI 0)).1 13 = μ.1 13 by rw [sI_ne (by decide)]), (show (sI μ 9 2 (nI 0)).1 14 = μ.1 14 by rw [sI_ne (by decide)]), (show (sI μ 9 2 (nI 0)).1 15 = μ.1 15 by rw [sI_ne (by decide)]), (show (sI μ 9 2 (nI 0)).1 16 = μ.1 16 by rw [sI_ne (by decide)]), (show (sI μ 9 2 (nI 0)).1 17 = μ.1 17 by rw [sI_ne (by decide)]), (show (sI μ 9 2 (nI 0)).1 18 = μ.1 18 by rw [sI_ne (by decide)]), (show (sI μ 9 2 (nI 0)).1 19 = μ.1 19 by rw [sI_ne (by decide)]), (show (sI μ 9 2 (nI 0)).1 20 = μ.1 20 by rw [sI_ne (by decide)])]
  exact ⟨⟨by rw [upV_e, sI_e], fun k hk => by rw [upV_e] at hk; omega⟩, h2, h3, h4⟩
theorem h_st_0m (h : MHand μ H) : MHand (sI μ 85 10 (nI 0)) (upV H 15 0 0) := by
  obtain ⟨h1, h2, h3, h4⟩ := h
  unfold MHand
  simp only [(fun j => show upV H 15 0 0 8 j = H 8 j from upV_n (Or.inl (by decide))), (show upV H 15 0 0 15 1 = H 15 1 from upV_n (Or.inr (by decide))), (fun j => show upV H 15 0 0 9 j = H 9 j from upV_n (Or.inl (by decide))), (fun j => show upV H 15 0 0 10 j = H 10 j from upV_n (Or.inl (by decide))), (show upV H 15 0 0 15 2 = H 15 2 from upV_n (Or.inr (by decide))), (fun j => show upV H 15 0 0 11 j = H 11 j from upV_n (Or.inl (by decide))), (fun j => show upV H 15 0 0 12 j = H 12 j from upV_n (Or.inl (by decide))), (show upV H 15 0 0 15 3 = H 15 3 from upV_n (Or.inr (by decide))), (fun j => show upV H 15 0 0 13 j = H 13 j from upV_n (Or.inl (by decide))), (fun j => show upV H 15 0 0 14 j = H 14 j from upV_n (Or.inl (by decide))), (show (sI μ 85 10 (nI 0)).1 93 = μ.1 93 by rw [sI_ne (by decide)]), (show (sI μ 85 10 (nI 0)).1 94 = μ.1 94 by rw [sI_ne (by decide)]), (show (sI μ 85 10 (nI 0)).1 95 = μ.1 95 by rw [sI_ne (by decide)]), (show (sI μ 85 10 (nI 0)).1 96 = μ.1 96 by rw [sI_ne (by decide)]), (show (sI μ 85 10 (nI 0)).1 97 = μ.1 97 by rw [sI_ne (by decide)]), (show (sI μ 85 10 (nI 0)).1 98 = μ.1 98 by rw [sI_ne (by decide)]), (show (sI μ 85 10 (nI 0)).1 99 = μ.1 99 by rw [sI_ne (by decide)]), (show (sI μ 85 10 (nI 0)).1 85 12 = μ.1 85 12 by rw [sI_n (Or.inr (by decide))]), (show (sI μ 85 10 (nI 0)).1 85 15 = μ.1 85 15 by rw [sI_n (Or.inr (by decide))]), (show (sI μ 85 10 (nI 0)).1 85 18 = μ.1 85 18 by rw [sI_n (Or.inr (by decide))])]
  exact ⟨⟨by rw [upV_e, sI_e], fun k hk => by rw [upV_e] at hk; omega⟩, h2, h3, h4⟩
theorem h_se_0ok (h : HVok H) : HVok (upV H 15 1 0) := by
  obtain ⟨h1, h2, h3, h4⟩ := h
  unfold HVok
  simp only [(show upV H 15 1 0 15 0 = H 15 0 from upV_n (Or.inr (by decide))), (fun j => show upV H 15 1 0 8 j = H 8 j from upV_n (Or.inl (by decide))), (fun j => show upV H 15 1 0 9 j = H 9 j from upV_n (Or.inl (by decide))), (fun j => show upV H 15 1 0 10 j = H 10 j from upV_n (Or.inl (by decide))), (show upV H 15 1 0 15 2 = H 15 2 from upV_n (Or.inr (by decide))), (fun j => show upV H 15 1 0 11 j = H 11 j from upV_n (Or.inl (by decide))), (fun j => show upV H 15 1 0 12 j = H 12 j from upV_n (Or.inl (by decide))), (show upV H 15 1 0 15 3 = H 15 3 from upV_n (Or.inr (by decide))), (fun j => show upV H 15 1 0 13 j = H 13 j from upV_n (Or.inl (by decide))), (fun j => show upV H 15 1 0 14 j = H 14 j from upV_n (Or.inl (by decide)))]
  exact ⟨h1, ⟨by rw [upV_e]; omega, fun k hk => by rw [upV_e] at hk; omega⟩, h3, h4⟩
theorem h_se_0x (h : XHand 8 μ H) : XHand 8 (sI μ 12 2 (nI 0)) (upV H 15 1 0) := by
  obtain ⟨h1, h2, h3, h4⟩ := h
  unfold XHand
  simp only [(show upV H 15 1 0 15 0 = H 15 0 from upV_n (Or.inr (by decide))), (fun j => show upV H 15 1 0 8 j = H 8 j from upV_n (Or.inl (by decide))), (fun j => show upV H 15 1 0 9 j = H 9 j from upV_n (Or.inl (by decide))), (fun j => show upV H 15 1 0 10 j = H 10 j from upV_n (Or.inl (by decide))), (show upV H 15 1 0 15 2 = H 15 2 from upV_n (Or.inr (by decide))), (fun j => show upV H 15 1 0 11 j = H 11 j from upV_n (Or.inl (by decide))), (fun j => show upV H 15 1 0 12 j = H 12 j from upV_n (Or.inl (by decide))), (show upV H 15 1 0 15 3 = H 15 3 from upV_n (Or.inr (by decide))), (fun j => show upV H 15 1 0 13 j = H 13 j from upV_n (Or.inl (by decide))), (fun j => show upV H 15 1 0 14 j = H 14 j from upV_n (Or.inl (by decide))), Nat.reduceAdd, (show (sI μ 12 2 (nI 0)).1 9 = μ.1 9 by rw [sI_ne (by decide)]), (show (sI μ 12 2 (nI 0)).1 10 = μ.1 10 by rw [sI_ne (by decide)]), (show (sI μ 12 2 (nI 0)).1 13 = μ.1 13 by rw [sI_ne (by decide)]), (show (sI μ 12 2 (nI 0)).1 14 = μ.1 14 by rw [sI_ne (by decide)]), (show (sI μ 12 2 (nI 0)).1 15 = μ.1 15 by rw [sI_ne (by decide)]), (show (sI μ 12 2 (nI 0)).1 16 = μ.1 16 by rw [sI_ne (by decide)]), (show (sI μ 12 2 (nI 0)).1 17 = μ.1 17 by rw [sI_ne (by decide)]), (show (sI μ 12 2 (nI 0)).1 18 = μ.1 18 by rw [sI_ne (by decide)]), (show (sI μ 12 2 (nI 0)).1 19 = μ.1 19 by rw [sI_ne (by decide)]), (show (sI μ 12 2 (nI 0)).1 20 = μ.1 20 by rw [sI_ne (by decide)])]
  exact ⟨h1, ⟨by rw [upV_e, sI_e], fun k hk => by rw [upV_e] at hk; omega⟩, h3, h4⟩
theorem h_se_0m (h : MHand μ H) : MHand (sI μ 85 12 (nI 0)) (upV H 15 1 0) := by
  obtain ⟨h1, h2, h3, h4⟩ := h
  unfold MHand
  simp only [(show upV H 15 1 0 15 0 = H 15 0 from upV_n (Or.inr (by decide))), (fun j => show upV H 15 1 0 8 j = H 8 j from upV_n (Or.inl (by decide))), (fun j => show upV H 15 1 0 9 j = H 9 j from upV_n (Or.inl (by decide))), (fun j => show upV H 15 1 0 10 j = H 10 j from upV_n (Or.inl (by decide))), (show upV H 15 1 0 15 2 = H 15 2 from upV_n (Or.inr (by decide))), (fun j => show upV H 15 1 0 11 j = H 11 j from upV_n (Or.inl (by decide))), (fun j => show upV H 15 1 0 12 j = H 12 j from upV_n (Or.inl (by decide))), (show upV H 15 1 0 15 3 = H 15 3 from upV_n (Or.inr (by decide))), (fun j => show upV H 15 1 0 13 j = H 13 j from upV_n (Or.inl (by decide))), (fun j => show upV H 15 1 0 14 j = H 14 j from upV_n (Or.inl (by decide))), (show (sI μ 85 12 (nI 0)).1 93 = μ.1 93 by rw [sI_ne (by decide)]), (show (sI μ 85 12 (nI 0)).1 94 = μ.1 94 by rw [sI_ne (by decide)]), (show (sI μ 85 12 (nI 0)).1 95 = μ.1 95 by rw [sI_ne (by decide)]), (show (sI μ 85 12 (nI 0)).1 96 = μ.1 96 by rw [sI_ne (by decide)]), (show (sI μ 85 12 (nI 0)).1 97 = μ.1 97 by rw [sI_ne (by decide)]), (show (sI μ 85 12 (nI 0)).1 98 = μ.1 98 by rw [sI_ne (by decide)]), (show (sI μ 85 12 (nI 0)).1 99 = μ.1 99 by rw [sI_ne (by decide)]), (show (sI μ 85 12 (nI 0)).1 85 10 = μ.1 85 10 by rw [sI_n (Or.inr (by decide))]), (show (sI μ 85 12 (nI 0)).1 85 15 = μ.1 85 15 by rw [sI_n (Or.inr (by decide))]), (show (sI μ 85 12 (nI 0)).1 85 18 = μ.1 85 18 by rw [sI_n (Or.inr (by decide))])]
  exact ⟨h1, ⟨by rw [upV_e, sI_e], fun k hk => by rw [upV_e] at hk; omega⟩, h3, h4⟩
theorem h_ev_0ok (h : HVok H) : HVok (upV H 15 2 0) := by
  obtain ⟨h1, h2, h3, h4⟩ := h
  unfold HVok
  simp only [(show upV H 15 2 0 15 0 = H 15 0 from upV_n (Or.inr (by decide))), (fun j => show upV H 15 2 0 8 j = H 8 j from upV_n (Or.inl (by decide))), (show upV H 15 2 0 15 1 = H 15 1 from upV_n (Or.inr (by decide))), (fun j => show upV H 15 2 0 9 j = H 9 j from upV_n (Or.inl (by decide))), (fun j => show upV H 15 2 0 10 j = H 10 j from upV_n (Or.inl (by decide))), (fun j => show upV H 15 2 0 11 j = H 11 j from upV_n (Or.inl (by decide))), (fun j => show upV H 15 2 0 12 j = H 12 j from upV_n (Or.inl (by decide))), (show upV H 15 2 0 15 3 = H 15 3 from upV_n (Or.inr (by decide))), (fun j => show upV H 15 2 0 13 j = H 13 j from upV_n (Or.inl (by decide))), (fun j => show upV H 15 2 0 14 j = H 14 j from upV_n (Or.inl (by decide)))]
  exact ⟨h1, h2, ⟨by rw [upV_e]; omega, fun k hk => by rw [upV_e] at hk; omega⟩, h4⟩
theorem h_ev_0x (h : XHand 8 μ H) : XHand 8 (sI μ 15 2 (nI 0)) (upV H 15 2 0) := by
  obtain ⟨h1, h2, h3, h4⟩ := h
  unfold XHand
  simp only [(show upV H 15 2 0 15 0 = H 15 0 from upV_n (Or.inr (by decide))), (fun j => show upV H 15 2 0 8 j = H 8 j from upV_n (Or.inl (by decide))), (show upV H 15 2 0 15 1 = H 15 1 from upV_n (Or.inr (by decide))), (fun j => show upV H 15 2 0 9 j = H 9 j from upV_n (Or.inl (by decide))), (fun j => show upV H 15 2 0 10 j = H 10 j from upV_n (Or.inl (by decide))), (fun j => show upV H 15 2 0 11 j = H 11 j from upV_n (Or.inl (by decide))), (fun j => show upV H 15 2 0 12 j = H 12 j from upV_n (Or.inl (by decide))), (show upV H 15 2 0 15 3 = H 15 3 from upV_n (Or.inr (by decide))), (fun j => show upV H 15 2 0 13 j = H 13 j from upV_n (Or.inl (by decide))), (fun j => show upV H 15 2 0 14 j = H 14 j from upV_n (Or.inl (by decide))), Nat.reduceAdd, (show (sI μ 15 2 (nI 0)).1 9 = μ.1 9 by rw [sI_ne (by decide)]), (show (sI μ 15 2 (nI 0)).1 10 = μ.1 10 by rw [sI_ne (by decide)]), (show (sI μ 15 2 (nI 0)).1 12 = μ.1 12 by rw [sI_ne (by decide)]), (show (sI μ 15 2 (nI 0)).1 13 = μ.1 13 by rw [sI_ne (by decide)]), (show (sI μ 15 2 (nI 0)).1 14 = μ.1 14 by rw [sI_ne (by decide)]), (show (sI μ 15 2 (nI 0)).1 16 = μ.1 16 by rw [sI_ne (by decide)]), (show (sI μ 15 2 (nI 0)).1 17 = μ.1 17 by rw [sI_ne (by decide)]), (show (sI μ 15 2 (nI 0)).1 18 = μ.1 18 by rw [sI_ne (by decide)]), (show (sI μ 15 2 (nI 0)).1 19 = μ.1 19 by rw [sI_ne (by decide)]), (show (sI μ 15 2 (nI 0)).1 20 = μ.1 20 by rw [sI_ne (by decide)])]
  exact ⟨h1, h2, ⟨by rw [upV_e, sI_e], fun k hk => by rw [upV_e] at hk; omega⟩, h4⟩
theorem h_ev_0m (h : MHand μ H) : MHand (sI μ 85 15 (nI 0)) (upV H 15 2 0) := by
  obtain ⟨h1, h2, h3, h4⟩ := h
  unfold MHand
  simp only [(show upV H 15 2 0 15 0 = H 15 0 from upV_n (Or.inr (by decide))), (fun j => show upV H 15 2 0 8 j = H 8 j from upV_n (Or.inl (by decide))), (show upV H 15 2 0 15 1 = H 15 1 from upV_n (Or.inr (by decide))), (fun j => show upV H 15 2 0 9 j = H 9 j from upV_n (Or.inl (by decide))), (fun j => show upV H 15 2 0 10 j = H 10 j from upV_n (Or.inl (by decide))), (fun j => show upV H 15 2 0 11 j = H 11 j from upV_n (Or.inl (by decide))), (fun j => show upV H 15 2 0 12 j = H 12 j from upV_n (Or.inl (by decide))), (show upV H 15 2 0 15 3 = H 15 3 from upV_n (Or.inr (by decide))), (fun j => show upV H 15 2 0 13 j = H 13 j from upV_n (Or.inl (by decide))), (fun j => show upV H 15 2 0 14 j = H 14 j from upV_n (Or.inl (by decide))), (show (sI μ 85 15 (nI 0)).1 93 = μ.1 93 by rw [sI_ne (by decide)]), (show (sI μ 85 15 (nI 0)).1 94 = μ.1 94 by rw [sI_ne (by decide)]), (show (sI μ 85 15 (nI 0)).1 95 = μ.1 95 by rw [sI_ne (by decide)]), (show (sI μ 85 15 (nI 0)).1 96 = μ.1 96 by rw [sI_ne (by decide)]), (show (sI μ 85 15 (nI 0)).1 97 = μ.1 97 by rw [sI_ne (by decide)]), (show (sI μ 85 15 (nI 0)).1 98 = μ.1 98 by rw [sI_ne (by decide)]), (show (sI μ 85 15 (nI 0)).1 99 = μ.1 99 by rw [sI_ne (by decide)]), (show (sI μ 85 15 (nI 0)).1 85 10 = μ.1 85 10 by rw [sI_n (Or.inr (by decide))]), (show (sI μ 85 15 (nI 0)).1 85 12 = μ.1 85 12 by rw [sI_n (Or.inr (by decide))]), (show (sI μ 85 15 (nI 0)).1 85 18 = μ.1 85 18 by rw [sI_n (Or.inr (by decide))])]
  exact ⟨h1, h2, ⟨by rw [upV_e, sI_e], fun k hk => by rw [upV_e] at hk; omega⟩, h4⟩
theorem h_bo_0ok (h : HVok H) : HVok (upV H 15 3 0) := by
  obtain ⟨h1, h2, h3, h4⟩ := h
  unfold HVok
  simp only [(show upV H 15 3 0 15 0 = H 15 0 from upV_n (Or.inr (by decide))), (fun j => show upV H 15 3 0 8 j = H 8 j from upV_n (Or.inl (by decide))), (show upV H 15 3 0 15 1 = H 15 1 from upV_n (Or.inr (by decide))), (fun j => show upV H 15 3 0 9 j = H 9 j from upV_n (Or.inl (by decide))), (fun j => show upV H 15 3 0 10 j = H 10 j from upV_n (Or.inl (by decide))), (show upV H 15 3 0 15 2 = H 15 2 from upV_n (Or.inr (by decide))), (fun j => show upV H 15 3 0 11 j = H 11 j from upV_n (Or.inl (by decide))), (fun j => show upV H 15 3 0 12 j = H 12 j from upV_n (Or.inl (by decide))), (fun j => show upV H 15 3 0 13 j = H 13 j from upV_n (Or.inl (by decide))), (fun j => show upV H 15 3 0 14 j = H 14 j from upV_n (Or.inl (by decide)))]
  exact ⟨h1, h2, h3, ⟨by rw [upV_e]; omega, fun k hk => by rw [upV_e] at hk; omega⟩⟩
theorem h_bo_0x (h : XHand 8 μ H) : XHand 8 (sI μ 18 2 (nI 0)) (upV H 15 3 0) := by
  obtain ⟨h1, h2, h3, h4⟩ := h
  unfold XHand
  simp only [(show upV H 15 3 0 15 0 = H 15 0 from upV_n (Or.inr (by decide))), (fun j => show upV H 15 3 0 8 j = H 8 j from upV_n (Or.inl (by decide))), (show upV H 15 3 0 15 1 = H 15 1 from upV_n (Or.inr (by decide))), (fun j => show upV H 15 3 0 9 j = H 9 j from upV_n (Or.inl (by decide))), (fun j => show upV H 15 3 0 10 j = H 10 j from upV_n (Or.inl (by decide))), (show upV H 15 3 0 15 2 = H 15 2 from upV_n (Or.inr (by decide))), (fun j => show upV H 15 3 0 11 j = H 11 j from upV_n (Or.inl (by decide))), (fun j => show upV H 15 3 0 12 j = H 12 j from upV_n (Or.inl (by decide))), (fun j => show upV H 15 3 0 13 j = H 13 j from upV_n (Or.inl (by decide))), (fun j => show upV H 15 3 0 14 j = H 14 j from upV_n (Or.inl (by decide))), Nat.reduceAdd, (show (sI μ 18 2 (nI 0)).1 9 = μ.1 9 by rw [sI_ne (by decide)]), (show (sI μ 18 2 (nI 0)).1 10 = μ.1 10 by rw [sI_ne (by decide)]), (show (sI μ 18 2 (nI 0)).1 12 = μ.1 12 by rw [sI_ne (by decide)]), (show (sI μ 18 2 (nI 0)).1 13 = μ.1 13 by rw [sI_ne (by decide)]), (show (sI μ 18 2 (nI 0)).1 14 = μ.1 14 by rw [sI_ne (by decide)]), (show (sI μ 18 2 (nI 0)).1 15 = μ.1 15 by rw [sI_ne (by decide)]), (show (sI μ 18 2 (nI 0)).1 16 = μ.1 16 by rw [sI_ne (by decide)]), (show (sI μ 18 2 (nI 0)).1 17 = μ.1 17 by rw [sI_ne (by decide)]), (show (sI μ 18 2 (nI 0)).1 19 = μ.1 19 by rw [sI_ne (by decide)]), (show (sI μ 18 2 (nI 0)).1 20 = μ.1 20 by rw [sI_ne (by decide)])]
  exact ⟨h1, h2, h3, ⟨by rw [upV_e, sI_e], fun k hk => by rw [upV_e] at hk; omega⟩⟩
theorem h_bo_0m (h : MHand μ H) : MHand (sI μ 85 18 (nI 0)) (upV H 15 3 0) := by
  obtain ⟨h1, h2, h3, h4⟩ := h
  unfold MHand
  simp only [(show upV H 15 3 0 15 0 = H 15 0 from upV_n (Or.inr (by decide))), (fun j => show upV H 15 3 0 8 j = H 8 j from upV_n (Or.inl (by decide))), (show upV H 15 3 0 15 1 = H 15 1 from upV_n (Or.inr (by decide))), (fun j => show upV H 15 3 0 9 j = H 9 j from upV_n (Or.inl (by decide))), (fun j => show upV H 15 3 0 10 j = H 10 j from upV_n (Or.inl (by decide))), (show upV H 15 3 0 15 2 = H 15 2 from upV_n (Or.inr (by decide))), (fun j => show upV H 15 3 0 11 j = H 11 j from upV_n (Or.inl (by decide))), (fun j => show upV H 15 3 0 12 j = H 12 j from upV_n (Or.inl (by decide))), (fun j => show upV H 15 3 0 13 j = H 13 j from upV_n (Or.inl (by decide))), (fun j => show upV H 15 3 0 14 j = H 14 j from upV_n (Or.inl (by decide))), (show (sI μ 85 18 (nI 0)).1 93 = μ.1 93 by rw [sI_ne (by decide)]), (show (sI μ 85 18 (nI 0)).1 94 = μ.1 94 by rw [sI_ne (by decide)]), (show (sI μ 85 18 (nI 0)).1 95 = μ.1 95 by rw [sI_ne (by decide)]), (show (sI μ 85 18 (nI 0)).1 96 = μ.1 96 by rw [sI_ne (by decide)]), (show (sI μ 85 18 (nI 0)).1 97 = μ.1 97 by rw [sI_ne (by decide)]), (show (sI μ 85 18 (nI 0)).1 98 = μ.1 98 by rw [sI_ne (by decide)]), (show (sI μ 85 18 (nI 0)).1 99 = μ.1 99 by rw [sI_ne (by decide)]), (show (sI μ 85 18 (nI 0)).1 85 10 = μ.1 85 10 by rw [sI_n (Or.inr (by decide))]), (show (sI μ 85 18 (nI 0)).1 85 12 = μ.1 85 12 by rw [sI_n (Or.inr (by decide))]), (show (sI μ 85 18 (nI 0)).1 85 15 = μ.1 85 15 by rw [sI_n (Or.inr (by decide))])]
  exact ⟨h1, h2, h3, ⟨by rw [upV_e, sI_e], fun k hk => by rw [upV_e] at hk; omega⟩⟩
end XH
