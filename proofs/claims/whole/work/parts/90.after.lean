/-! after: events on both sides -/
/-- an event done in the cells below k -/
def s_evk (V : SV) (w n k : Nat) : SV := fun i j =>
  if w = 0 then (if i = 1 ∧ j / 4 = n ∧ j < k then 0 else V i j)
  else if w = 1 then (if i = 1 ∧ j / 4 = n ∧ j < k then min (V 1 j + 1) 3 else V i j)
  else if w = 2 then (if i = 0 ∧ j < k then (V 0 j + n) % 8 else V i j)
  else V i j
def s_evt (V : SV) (w n : Nat) : SV := if w = 3 then upV V 3 n 0 else s_evk V w n 16
def s_evs (H : SV) : Nat → Nat → SV → SV
  | 0, _, V => V
  | m + 1, r, V => s_evs H m (r + 1) (s_evt V (H 11 r) (H 12 r))
section EV
variable {V : SV} {n k : Nat}
theorem evk0 {w : Nat} : s_evk V w n 0 = V := by
  funext i j
  unfold s_evk
  rw [if_neg (show ¬ (i = 1 ∧ j / 4 = n ∧ j < 0) by omega), if_neg (show ¬ (i = 1 ∧ j / 4 = n ∧ j < 0) by omega), if_neg (show ¬ (i = 0 ∧ j < 0) by omega)]
  split
  · rfl
  · split
    · rfl
    · split <;> rfl
theorem evk3 : s_evk V 3 n k = V := by
  funext i j
  rfl
theorem evk_0 (h : k / 4 = n) : upV (s_evk V 0 n k) 1 k 0 = s_evk V 0 n (k + 1) := by
  funext i j
  show (if i = 1 ∧ j = k then 0 else (if i = 1 ∧ j / 4 = n ∧ j < k then 0 else V i j)) = (if i = 1 ∧ j / 4 = n ∧ j < k + 1 then 0 else V i j)
  by_cases c : i = 1 ∧ j = k
  · rw [if_pos c, if_pos ⟨c.1, by rw [c.2]; exact h, by omega⟩]
  · rw [if_neg c]
    by_cases d : i = 1 ∧ j / 4 = n ∧ j < k
    · rw [if_pos d, if_pos ⟨d.1, d.2.1, by omega⟩]
    · rw [if_neg d, if_neg (fun z => by omega)]
theorem evk_1 (h : k / 4 = n) : upV (s_evk V 1 n k) 1 k (min (V 1 k + 1) 3) = s_evk V 1 n (k + 1) := by
  funext i j
  show (if i = 1 ∧ j = k then min (V 1 k + 1) 3 else (if i = 1 ∧ j / 4 = n ∧ j < k then min (V 1 j + 1) 3 else V i j)) = (if i = 1 ∧ j / 4 = n ∧ j < k + 1 then min (V 1 j + 1) 3 else V i j)
  by_cases c : i = 1 ∧ j = k
  · rw [if_pos c, if_pos ⟨c.1, by rw [c.2]; exact h, by omega⟩, c.2]
  · rw [if_neg c]
    by_cases d : i = 1 ∧ j / 4 = n ∧ j < k
    · rw [if_pos d, if_pos ⟨d.1, d.2.1, by omega⟩]
    · rw [if_neg d, if_neg (fun z => by omega)]
theorem evk_2 : upV (s_evk V 2 n k) 0 k ((V 0 k + n) % 8) = s_evk V 2 n (k + 1) := by
  funext i j
  show (if i = 0 ∧ j = k then (V 0 k + n) % 8 else (if i = 0 ∧ j < k then (V 0 j + n) % 8 else V i j)) = (if i = 0 ∧ j < k + 1 then (V 0 j + n) % 8 else V i j)
  by_cases c : i = 0 ∧ j = k
  · rw [if_pos c, if_pos ⟨c.1, by omega⟩, c.2]
  · rw [if_neg c]
    by_cases d : i = 0 ∧ j < k
    · rw [if_pos d, if_pos ⟨d.1, by omega⟩]
    · rw [if_neg d, if_neg (fun z => by omega)]
theorem evk_n {w : Nat} (hw : w < 2) (h : k / 4 ≠ n) : s_evk V w n (k + 1) = s_evk V w n k := by
  funext i j
  rcases (show w = 0 ∨ w = 1 by omega) with rfl | rfl
  · show (if i = 1 ∧ j / 4 = n ∧ j < k + 1 then 0 else V i j) = (if i = 1 ∧ j / 4 = n ∧ j < k then 0 else V i j)
    by_cases d : i = 1 ∧ j / 4 = n ∧ j < k
    · rw [if_pos d, if_pos ⟨d.1, d.2.1, by omega⟩]
    · rw [if_neg d, if_neg (fun z => by omega)]
  · show (if i = 1 ∧ j / 4 = n ∧ j < k + 1 then min (V 1 j + 1) 3 else V i j) = (if i = 1 ∧ j / 4 = n ∧ j < k then min (V 1 j + 1) 3 else V i j)
    by_cases d : i = 1 ∧ j / 4 = n ∧ j < k
    · rw [if_pos d, if_pos ⟨d.1, d.2.1, by omega⟩]
    · rw [if_neg d, if_neg (fun z => by omega)]
theorem evk_e {w a b : Nat} (hw : w < 2) (h : ∀ j, j / 4 = n → (j < a ↔ j < b)) : s_evk V w n a = s_evk V w n b := by
  funext i j
  rcases (show w = 0 ∨ w = 1 by omega) with rfl | rfl
  · show (if i = 1 ∧ j / 4 = n ∧ j < a then 0 else V i j) = (if i = 1 ∧ j / 4 = n ∧ j < b then 0 else V i j)
    by_cases d : i = 1 ∧ j / 4 = n ∧ j < a
    · rw [if_pos d, if_pos ⟨d.1, d.2.1, (h j d.2.1).mp d.2.2⟩]
    · rw [if_neg d, if_neg (fun z => d ⟨z.1, z.2.1, (h j z.2.1).mpr z.2.2⟩)]
  · show (if i = 1 ∧ j / 4 = n ∧ j < a then min (V 1 j + 1) 3 else V i j) = (if i = 1 ∧ j / 4 = n ∧ j < b then min (V 1 j + 1) 3 else V i j)
    by_cases d : i = 1 ∧ j / 4 = n ∧ j < a
    · rw [if_pos d, if_pos ⟨d.1, d.2.1, (h j d.2.1).mp d.2.2⟩]
    · rw [if_neg d, if_neg (fun z => d ⟨z.1, z.2.1, (h j z.2.1).mpr z.2.2⟩)]
theorem evt_ok (hV : SVok V) {w : Nat} (hw : w < 4) : SVok (s_evt V w n) := by
  by_cases c : w = 3
  · unfold s_evt
    rw [if_pos c]
    exact ok3 hV (by decide)
  · unfold s_evt
    rw [if_neg c]
    obtain ⟨h1, h2, h3, h4, h5, h6, h7, h8, h9⟩ := hV
    rcases (show w = 0 ∨ w = 1 ∨ w = 2 by omega) with rfl | rfl | rfl
    · refine ⟨fun k hk => ⟨(h1 k hk).1, ?_⟩, h2, h3, h4, h5, h6, h7, h8, h9⟩
      show (if 1 = 1 ∧ k / 4 = n ∧ k < 16 then 0 else V 1 k) < 4
      have := (h1 k hk).2
      split <;> omega
    · refine ⟨fun k hk => ⟨(h1 k hk).1, ?_⟩, h2, h3, h4, h5, h6, h7, h8, h9⟩
      show (if 1 = 1 ∧ k / 4 = n ∧ k < 16 then min (V 1 k + 1) 3 else V 1 k) < 4
      have := (h1 k hk).2
      split <;> omega
    · refine ⟨fun k hk => ⟨?_, (h1 k hk).2⟩, h2, h3, h4, h5, h6, h7, h8, h9⟩
      show (if 0 = 0 ∧ k < 16 then (V 0 k + n) % 8 else V 0 k) < 8
      have := (h1 k hk).1
      split <;> omega
/-- what events touch in the reference -/
def HF (μ μ2 : Mem) : Prop := μ2.2 = μ.2 ∧ ∀ i, i ≠ 87 → i ≠ 88 → i ≠ 91 → μ2.1 i = μ.1 i
theorem HF.rf (μ : Mem) : HF μ μ := ⟨rfl, fun _ _ _ _ => rfl⟩
theorem HF.tr {a b c : Mem} (h : HF a b) (g : HF b c) : HF a c := ⟨g.1.trans h.1, fun i a1 a2 a3 => (g.2 i a1 a2 a3).trans (h.2 i a1 a2 a3)⟩
theorem HF.s {μ : Mem} {i k : Nat} {v : Int32} (h : i = 87 ∨ i = 88 ∨ i = 91) : HF μ (sI μ i k v) := ⟨rfl, fun j a b c => sI_o (by omega)⟩
theorem m_hap (hV : SVok V) {w : Nat} (hw : w < 4) (hn : n < 8) (h2 : w ≠ 2 → n < 4) : ∀ (f k : Nat) (μ : Mem), k ≤ 16 → 16 - k < f → MSea μ (s_evk V w n k) → ∃ μ2, f_X11_happens_b2 85 (nI w) (nI n) f (nI k) μ = some μ2 ∧ MSea μ2 (s_evt V w n) ∧ HF μ μ2 := by
  intro f
  induction f with
  | zero => intro k μ hk hf; omega
  | succ f ih =>
    intro k μ hk hf hM
    rw [f_X11_happens_b2]
    simp (disch := omega) only [il, nI_leI]
    by_cases c : 16 ≤ k
    · have hk16 : k = 16 := by omega
      subst hk16
      rw [if_pos c]
      by_cases d : w = 3
      · subst d
        rw [if_pos rfl, rf_85_5, al_91, gA_n (by omega) (by omega), nI_clamp (by omega), lt_d]
        rw [evk3] at hM
        refine ⟨_, rfl, ?_, HF.s (Or.inr (Or.inr rfl))⟩
        unfold s_evt
        rw [if_pos rfl]
        exact hM.p3
      · rw [if_neg (nI_ne (by omega) (by omega) d)]
        refine ⟨μ, rfl, ?_, HF.rf μ⟩
        unfold s_evt
        rw [if_neg d]
        exact hM
    · rw [if_neg c]
      have hb := hV.1 k (by omega)
      unfold f_X11_happens_b20
      simp (disch := omega) only [il, rf_85_1, rf_85_2, al_87, al_88, pk_div, nI_eq, gA_n, nI_clamp, lt_d, nI_add]
      rcases (show w = 0 ∨ w = 1 ∨ w = 2 ∨ w = 3 by omega) with rfl | rfl | rfl | rfl
      · by_cases e : k / 4 = n
        · rw [if_pos e, if_neg (by decide), if_neg (by decide), if_neg (by decide), if_pos (by decide)]
          have hM2 := hM.p1 (j := k) (x := 0)
          rw [evk_0 e] at hM2
          obtain ⟨μ2, r1, r2, r3⟩ := ih (k + 1) _ (by omega) (by omega) hM2
          exact ⟨μ2, r1, r2, (HF.s (Or.inr (Or.inl rfl))).tr r3⟩
        · rw [if_neg e, if_neg (by decide), if_pos (by decide)]
          rw [← evk_n (by decide) e] at hM
          exact ih (k + 1) μ (by omega) (by omega) hM
      · by_cases e : k / 4 = n
        · have hv : μ.1 88 k = nI (V 1 k) := by
            rw [hM.2.1 k (by omega)]
            show nI (if 1 = 1 ∧ k / 4 = n ∧ k < k then _ else V 1 k) = _
            rw [if_neg (by omega)]
          rw [if_pos e, if_neg (by decide), if_neg (by decide), if_neg (by decide), if_neg (by decide), hv, nI_add, mimin_n (by decide) (by omega), show min 3 (V 1 k + 1) = min (V 1 k + 1) 3 by omega]
          have hM2 := hM.p1 (j := k) (x := min (V 1 k + 1) 3)
          rw [evk_1 e] at hM2
          obtain ⟨μ2, r1, r2, r3⟩ := ih (k + 1) _ (by omega) (by omega) hM2
          exact ⟨μ2, r1, r2, (HF.s (Or.inr (Or.inl rfl))).tr r3⟩
        · rw [if_neg e, if_neg (by decide), if_pos (by decide)]
          rw [← evk_n (by decide) e] at hM
          exact ih (k + 1) μ (by omega) (by omega) hM
      · have hv : μ.1 87 k = nI (V 0 k) := by
          rw [hM.1 k (by omega)]
          show nI (if 0 = 0 ∧ k < k then _ else V 0 k) = _
          rw [if_neg (by omega)]
        have step : ∃ μf, f_X11_happens_b2 85 (nI 2) (nI n) f (nI (k + 1)) (sI μ 87 k (nI ((V 0 k + n) % 8))) = some μf ∧ MSea μf (s_evt V 2 n) ∧ HF μ μf := by
          have hM2 := hM.p0 (j := k) (x := (V 0 k + n) % 8)
          rw [evk_2] at hM2
          obtain ⟨μ2, r1, r2, r3⟩ := ih (k + 1) _ (by omega) (by omega) hM2
          exact ⟨μ2, r1, r2, (HF.s (Or.inl rfl)).tr r3⟩
        rw [hv]
        simp (disch := omega) only [nI_add, pk_div, pk_mul, pk_sub, n_rem]
        by_cases e : k / 4 = n
        · rw [if_pos e, if_pos (by decide)]; exact step
        · rw [if_neg e, if_pos (by decide)]; exact step
      · rw [evk3] at hM
        by_cases e : k / 4 = n
        · rw [if_pos e, if_neg (by decide), if_neg (by decide), if_pos (by decide)]
          exact ih (k + 1) μ (by omega) (by omega) (by rw [evk3]; exact hM)
        · rw [if_neg e, if_neg (by decide), if_pos (by decide)]
          exact ih (k + 1) μ (by omega) (by omega) (by rw [evk3]; exact hM)
/-- what an event touches in the tried sea -/
def TF (μ μ2 : Mem) : Prop := μ2.2 = μ.2 ∧ (∀ i, (i < 31 ∨ 37 < i) → μ2.1 i = μ.1 i) ∧ μ2.1 31 10 = μ.1 31 10
theorem TF.rf (μ : Mem) : TF μ μ := ⟨rfl, fun _ _ => rfl, rfl⟩
theorem TF.tr {a b c : Mem} (h : TF a b) (g : TF b c) : TF a c := ⟨g.1.trans h.1, fun i hi => (g.2.1 i hi).trans (h.2.1 i hi), g.2.2.trans h.2.2⟩
theorem TF.s {μ : Mem} {i k : Nat} {v : Int32} (h : 32 ≤ i) (h2 : i ≤ 37) : TF μ (sI μ i k v) := ⟨rfl, fun j hj => sI_o (by omega), by rw [sI_o (by omega)]⟩
theorem x_fl10 {a1 : Int32} (hn : n < 4) : ∀ (f k : Nat) (μ : Mem), 4 * n ≤ k → k ≤ 4 * n + 4 → 4 * n + 4 - k < f → XSea 31 μ (s_evk V 0 n k) → ∃ μ2, f_J7_fill_fda19_b10 33 a1 (nI (4 * n + 4)) (nI 0) f (nI k) μ = some μ2 ∧ XSea 31 μ2 (s_evk V 0 n (4 * n + 4)) ∧ TF μ μ2 := by
  intro f
  induction f with
  | zero => intro k μ h1 hk hf; omega
  | succ f ih =>
    intro k μ h1 hk hf hX
    rw [f_J7_fill_fda19_b10]
    simp (disch := omega) only [il, nI_leI]
    by_cases c : 4 * n + 4 ≤ k
    · rw [if_pos c]
      exact ⟨μ, rfl, by rw [show 4 * n + 4 = k by omega]; exact hX, TF.rf μ⟩
    · rw [if_neg c, show aln 33 = 16 by decide +kernel, gA_n (by omega) (by omega), nI_clamp (by omega), lt_d, lt_d, nI_add]
      have hX2 := hX.p1 (j := k) (x := 0)
      rw [evk_0 (by omega)] at hX2
      obtain ⟨μ2, r1, r2, r3⟩ := ih (k + 1) _ (by omega) (by omega) (by omega) hX2
      exact ⟨μ2, r1, r2, (TF.s (by decide) (by decide)).tr r3⟩
theorem x_ug61 (hV : SVok V) (hn : n < 4) (a1 : Int32) : ∀ (f k : Nat) (μ : Mem), k ≤ 4 → 4 - k < f → XSea 31 μ (s_evk V 1 n (4 * n + k)) → ∃ μ2, f_X6_undergo_b61 31 a1 (nI n) f (nI k) μ = some μ2 ∧ XSea 31 μ2 (s_evk V 1 n (4 * n + 4)) ∧ TF μ μ2 := by
  intro f
  induction f with
  | zero => intro k μ hk hf; omega
  | succ f ih =>
    intro k μ hk hf hX
    rw [f_X6_undergo_b61]
    simp (disch := omega) only [il, nI_leI]
    by_cases c : 4 ≤ k
    · rw [if_pos c]
      exact ⟨μ, rfl, by rw [show 4 * n + 4 = 4 * n + k by omega]; exact hX, TF.rf μ⟩
    · have hb := hV.1 (4 * n + k) (by omega)
      have hv : s_evk V 1 n (4 * n + k) 1 (4 * n + k) = V 1 (4 * n + k) := by
        show (if 1 = 1 ∧ (4 * n + k) / 4 = n ∧ 4 * n + k < 4 * n + k then _ else V 1 (4 * n + k)) = _
        rw [if_neg (by omega)]
      rw [if_neg c, bnd_e (x_force (Or.inr (Or.inl rfl)) hX hn (by omega)), hv, show rf 31 1 = 33 by decide +kernel, show aln 33 = 16 by decide +kernel]
      simp (disch := omega) only [pk_mul, nI_add, gA_n, nI_clamp, lt_d]
      rw [mimin_n (by omega) (by decide), show n * 4 + k = 4 * n + k by omega]
      have hX2 := hX.p1 (j := 4 * n + k) (x := min (V 1 (4 * n + k) + 1) 3)
      rw [evk_1 (by omega)] at hX2
      obtain ⟨μ2, r1, r2, r3⟩ := ih (k + 1) _ (by omega) (by omega) hX2
      exact ⟨μ2, r1, r2, (TF.s (by decide) (by decide)).tr r3⟩
theorem x_ug99 (hV : SVok V) (hn : n < 8) (a1 : Int32) : ∀ (f k : Nat) (μ : Mem), k ≤ 16 → 16 - k < f → XSea 31 μ (s_evk V 2 n k) → ∃ μ2, f_X6_undergo_b99 31 a1 (nI n) f (nI k) μ = some μ2 ∧ XSea 31 μ2 (s_evk V 2 n 16) ∧ TF μ μ2 := by
  intro f
  induction f with
  | zero => intro k μ hk hf; omega
  | succ f ih =>
    intro k μ hk hf hX
    rw [f_X6_undergo_b99, show rf 31 0 = 32 by decide +kernel, show aln 32 = 16 by decide +kernel]
    simp (disch := omega) only [il, nI_leI]
    by_cases c : 16 ≤ k
    · rw [if_pos c]
      exact ⟨μ, rfl, by rw [show 16 = k by omega]; exact hX, TF.rf μ⟩
    · have hb := hV.1 k (by omega)
      have hv : μ.1 32 k = nI (V 0 k) := by
        rw [show μ.1 32 k = nI (s_evk V 2 n k 0 k) from hX.1 k (by omega)]
        show nI (if 0 = 0 ∧ k < k then _ else V 0 k) = _
        rw [if_neg (by omega)]
      rw [if_neg c, gA_n (by omega) (by omega), gA_n (by omega) (by omega), nI_clamp (by omega), hv]
      simp (disch := omega) only [nI_add, pk_div, pk_mul, pk_sub, n_rem, lt_d]
      have hX2 := hX.p0 (j := k) (x := (V 0 k + n) % 8)
      rw [evk_2] at hX2
      obtain ⟨μ2, r1, r2, r3⟩ := ih (k + 1) _ (by omega) (by omega) hX2
      exact ⟨μ2, r1, r2, (TF.s (by decide) (by decide)).tr r3⟩
theorem x_evt (hV : SVok V) {w : Nat} (hw : w < 4) (hn : n < 8) (h2 : w ≠ 2 → n < 4) {μ : Mem} (hX : XSea 31 μ V) : ∃ μ2, f_X6_undergo 31 (nI w) (nI n) μ = some μ2 ∧ XSea 31 μ2 (s_evt V w n) ∧ μ2.2 = μ.2 ∧ (∀ i, (i < 31 ∨ 37 < i) → μ2.1 i = μ.1 i) ∧ μ2.1 31 10 = μ.1 31 10 + nI 1 := by
  have hFU : FU = 1000000000000 := rfl
  have hX1 : XSea 31 (sI μ 31 10 (μ.1 31 10 + nI 1)) V := hX.ver
  have key : ∀ μ2, TF (sI μ 31 10 (μ.1 31 10 + nI 1)) μ2 → μ2.2 = μ.2 ∧ (∀ i, (i < 31 ∨ 37 < i) → μ2.1 i = μ.1 i) ∧ μ2.1 31 10 = μ.1 31 10 + nI 1 := fun μ2 h => ⟨h.1, fun i hi => by rw [h.2.1 i hi, sI_o (by omega)], by rw [h.2.2, sI_e]⟩
  unfold f_X6_undergo
  simp only [il, lt_d]
  rcases (show w = 0 ∨ w = 1 ∨ w = 2 ∨ w = 3 by omega) with rfl | rfl | rfl | rfl
  · have hn4 := h2 (by decide)
    rw [if_pos rfl]
    unfold f_J7_fill_fda19 f_J7_rangeCheck_23922
    rw [show rf 31 1 = 33 by decide +kernel, show aln 33 = 16 by decide +kernel, nI_add, pk_mul, pk_mul, show (n + 1) * 4 = 4 * n + 4 by omega, show n * 4 = 4 * n by omega, if_pos (nI_le (by omega) (by omega)), if_pos (show (0 : Int32) ≤ nI (4 * n) from nI_le (Nat.zero_le _) (by omega)), if_pos (nI_le (by omega) (by omega)), bnv_s]
    obtain ⟨μ2, r1, r2, r3⟩ := x_fl10 (V := V) (n := n) (a1 := nI (4 * n)) hn4 FU (4 * n) _ (Nat.le_refl _) (by omega) (by omega) (by
      rw [evk_e (b := 0) (by decide) (fun j hj => by omega), evk0]; exact hX1)
    rw [bnv_e r1]
    refine ⟨μ2, rfl, ?_, key μ2 r3⟩
    rw [evk_e (b := 16) (by decide) (fun j hj => by omega)] at r2
    exact r2
  · have hn4 := h2 (by decide)
    rw [if_neg (by decide), if_pos rfl]
    obtain ⟨μ2, r1, r2, r3⟩ := x_ug61 hV hn4 (nI 1) FU 0 _ (by decide) (by omega) (by
      rw [Nat.add_zero, evk_e (b := 0) (by decide) (fun j hj => by omega), evk0]; exact hX1)
    refine ⟨μ2, r1, ?_, key μ2 r3⟩
    rw [evk_e (b := 16) (by decide) (fun j hj => by omega)] at r2
    exact r2
  · rw [if_neg (by decide), if_neg (by decide), if_pos rfl]
    obtain ⟨μ2, r1, r2, r3⟩ := x_ug99 hV hn (nI 2) FU 0 _ (by decide) (by omega) (by rw [evk0]; exact hX1)
    exact ⟨μ2, r1, r2, key μ2 r3⟩
  · have hn4 := h2 (by decide)
    rw [if_neg (by decide), if_neg (by decide), if_neg (by decide), if_pos rfl, show rf 31 3 = 35 by decide +kernel, show aln 35 = 4 by decide +kernel, gA_n (by omega) (by omega), nI_clamp (by omega)]
    refine ⟨_, rfl, ?_, key _ (TF.s (by decide) (by decide))⟩
    exact hX1.p3
end EV
