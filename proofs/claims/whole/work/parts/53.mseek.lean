/-! the reference: LEAST by trying all legs again and again -/
def sm (f : Nat → Nat) : Nat → Nat
  | 0 => 0
  | n + 1 => sm f n + f n
theorem sm_cong {f g : Nat → Nat} : ∀ {n : Nat}, (∀ k, k < n → f k = g k) → sm f n = sm g n
  | 0, _ => rfl
  | n + 1, h => by rw [sm, sm, sm_cong (fun k hk => h k (by omega)), h n (by omega)]
theorem sm_upd (f : Nat → Nat) (x : Nat) {k : Nat} : ∀ {n : Nat}, k < n → sm (fun j => if j = k then x else f j) n + f k = sm f n + x
  | 0, h => absurd h (Nat.not_lt_zero k)
  | n + 1, h => by
    rw [sm, sm]
    rcases Nat.lt_or_ge k n with q | q
    · have e := sm_upd f x q
      rw [if_neg (by omega : ¬ n = k)]
      omega
    · have hk : k = n := by omega
      subst hk
      rw [if_pos rfl, sm_cong (f := fun j => if j = k then x else f j) (g := f) (fun j hj => if_neg (by omega))]
      omega
theorem sm_le {f : Nat → Nat} {c : Nat} : ∀ {n : Nat}, (∀ k, k < n → f k ≤ c) → sm f n ≤ n * c
  | 0, _ => by rw [sm]; omega
  | n + 1, h => by
    have e := sm_le (f := f) (c := c) (n := n) (fun k hk => h k (by omega))
    have e2 := h n (by omega)
    rw [sm, Nat.succ_mul]
    omega
def s_cnt (v : Nat → Nat) : Nat := sm (fun k => if v k < NV then 1 else 0) 72
def s_up (v : Nat → Nat) (s a : Nat) : Nat → Nat := fun j => if j = s then a else v j
theorem s_up_e {v : Nat → Nat} {s a : Nat} : s_up v s a s = a := if_pos rfl
theorem s_up_n {v : Nat → Nat} {s a j : Nat} (h : j ≠ s) : s_up v s a j = v j := if_neg h
theorem s_cnt_up {v : Nat → Nat} {s a : Nat} (hs : s < 72) (ha : a < NV) : s_cnt (s_up v s a) + (if v s < NV then 1 else 0) = s_cnt v + 1 := by
  have e := sm_upd (fun k => if v k < NV then 1 else 0) 1 hs
  have e2 : s_cnt (s_up v s a) = sm (fun j => if j = s then 1 else (fun k => if v k < NV then 1 else 0) j) 72 := by
    refine sm_cong (fun k _ => ?_)
    by_cases hk : k = s
    · subst hk; rw [s_up_e, if_pos ha, if_pos rfl]
    · rw [s_up_n hk, if_neg hk]
  rw [e2]
  exact e
theorem s_cnt_le (v : Nat → Nat) : s_cnt v ≤ 72 := by
  have := sm_le (f := fun k => if v k < NV then 1 else 0) (c := 1) (n := 72) (fun k _ => by dsimp only; split <;> omega)
  unfold s_cnt
  omega
def enc (n : Nat) : Int32 := if n = NV then -nI 1 else nI n
theorem enc_nv : enc NV = -nI 1 := if_pos rfl
theorem enc_n {n : Nat} (h : n < NV) : enc n = nI n := if_neg (by omega)
def MFr (μ μ2 : Mem) : Prop := μ2.2 = μ.2 ∧ (∀ i, i ≠ 85 → i ≠ 104 → μ2.1 i = μ.1 i) ∧ ∀ k, k ≠ 29 → k ≠ 30 → k ≠ 31 → k ≠ 32 → μ2.1 85 k = μ.1 85 k
theorem MFr.rf (μ : Mem) : MFr μ μ := ⟨rfl, fun _ _ _ => rfl, fun _ _ _ _ _ => rfl⟩
theorem MFr.tr {a b c : Mem} (h : MFr a b) (g : MFr b c) : MFr a c := ⟨g.1.trans h.1, fun i hi h2 => (g.2.1 i hi h2).trans (h.2.1 i hi h2), fun k a b c d => (g.2.2 k a b c d).trans (h.2.2 k a b c d)⟩
theorem MFr.of {a b : Mem} (h : MF0 a b) : MFr a b := ⟨h.1, fun i hi _ => h.2.1 i hi, h.2.2⟩
theorem MFr.s {μ : Mem} {k : Nat} {v : Int32} : MFr μ (sI μ 104 k v) := by
  refine ⟨rfl, fun i _ hi => ?_, fun j _ _ _ _ => ?_⟩
  · rw [sI_1, if_neg hi]
  · rw [sI_1, if_neg (by decide)]
theorem MSea.fr2 {μ μ2 : Mem} {V : SV} (h : MSea μ V) (f : MFr μ μ2) : MSea μ2 V := by
  obtain ⟨h1, h2, h3, h4, h5, h6, h7, h8, h9, h10⟩ := h
  have e := f.2.1
  have g := f.2.2
  refine ⟨fun k hk => ?_, fun k hk => ?_, fun k hk => ?_, fun k hk => ?_, fun k hk => ?_, ?_, fun k hk => ?_, ?_, ?_, ?_⟩
  · rw [e 87 (by decide) (by decide)]; exact h1 k hk
  · rw [e 88 (by decide) (by decide)]; exact h2 k hk
  · rw [e 89 (by decide) (by decide)]; exact h3 k hk
  · rw [e 90 (by decide) (by decide)]; exact h4 k hk
  · rw [e 91 (by decide) (by decide)]; exact h5 k hk
  · rw [e 92 (by decide) (by decide)]; exact h6
  · rw [e 86 (by decide) (by decide)]; exact h7 k hk
  · rw [g 7 (by decide) (by decide) (by decide) (by decide)]; exact h8
  · rw [g 8 (by decide) (by decide) (by decide) (by decide)]; exact h9
  · rw [g 9 (by decide) (by decide) (by decide) (by decide)]; exact h10
/-- the values on the way: each is had, or better, by a leg from another -/
def Sup (V : SV) (v : Nat → Nat) : Prop := v (2 * V 7 0 + V 7 1) = V 7 2 ∧ (∀ k, k < 72 → v k = NV ∨ (V 7 2 ≤ v k ∧ v k ≤ 9999 + 2000 * s_cnt v)) ∧
  (∀ k, k < 72 → k ≠ 2 * V 7 0 + V 7 1 → v k < NV → ∃ i, i < 72 ∧ v i < NV ∧ ∃ h, h < 8 ∧ ∃ j, j < 4 ∧ s_leg V (i / 2) h (s_dep (v i) j) ∧ s_st V (i / 2) (i % 2) h (s_dep (v i) j) = k ∧ s_arr V (i / 2) (i % 2) h (s_dep (v i) j) ≤ v k)
/-- what is tried holds, before state k's leg w -/
def Cl (V : SV) (v : Nat → Nat) (k w : Nat) : Prop := ∀ i, i < 72 → ∀ h, h < 8 → ∀ j, j < 4 → (i < k ∨ (i = k ∧ 4 * h + j < w)) → v i < NV → s_leg V (i / 2) h (s_dep (v i) j) → v (s_st V (i / 2) (i % 2) h (s_dep (v i) j)) ≤ s_arr V (i / 2) (i % 2) h (s_dep (v i) j)
theorem Sup.fin {V : SV} {v : Nat → Nat} (h : Sup V v) (hc : Cl V v 72 0) : IsL V v := by
  have hcn := s_cnt_le v
  refine ⟨h.1, fun k hk => ?_, fun k hk hv a ha j hj hl => hc k hk a ha j hj (Or.inl hk) hv hl, fun k hk h0 hv => ?_⟩
  · rcases h.2.1 k hk with e | e
    · exact Or.inr e
    · left; omega
  · obtain ⟨i, hi, hv2, a, ha, j, hj, hl, hst, hle⟩ := h.2.2 k hk h0 hv
    have h2 := hc i hi a ha j hj (Or.inl hi) hv2 hl
    rw [hst] at h2
    exact ⟨i, hi, hv2, a, ha, j, hj, hl, hst, by omega⟩
theorem Sup.lt {V : SV} {v : Nat → Nat} (h : Sup V v) {k : Nat} (hk : k < 72) (hv : v k < NV) : v k ≤ 160000 ∧ V 7 2 ≤ v k := by
  have hcn := s_cnt_le v
  rcases h.2.1 k hk with e | e
  · omega
  · omega
theorem Sup.up {V : SV} (hV : SVok V) {v : Nat → Nat} (h : Sup V v) {i a j : Nat} (hi : i < 72) (hv : v i < NV) (ha : a < 8) (hj : j < 4) (hl : s_leg V (i / 2) a (s_dep (v i) j)) (hlt : s_arr V (i / 2) (i % 2) a (s_dep (v i) j) < v (s_st V (i / 2) (i % 2) a (s_dep (v i) j))) : Sup V (s_up v (s_st V (i / 2) (i % 2) a (s_dep (v i) j)) (s_arr V (i / 2) (i % 2) a (s_dep (v i) j))) ∧ s_arr V (i / 2) (i % 2) a (s_dep (v i) j) < NV ∧ sm (s_up v (s_st V (i / 2) (i % 2) a (s_dep (v i) j)) (s_arr V (i / 2) (i % 2) a (s_dep (v i) j))) 72 < sm v 72 := by
  have hst := s_st_lt (sd := i % 2) (by omega) hl
  have hgt := s_arr_gt hV (sd := i % 2) (by omega : i / 2 < 36) hl
  have hle := s_arr_le hV (sd := i % 2) hl
  have hd := @s_dep_le (v i) j
  have hd2 := @s_dep_ub (v i) j hj
  obtain ⟨b1, b2⟩ := h.lt hi hv
  have hcn := s_cnt_le v
  have bi : v i ≤ 9999 + 2000 * s_cnt v := by rcases h.2.1 i hi with e | e <;> omega
  have hNV : NV = 1000000000 := rfl
  generalize hs : s_st V (i / 2) (i % 2) a (s_dep (v i) j) = s at *
  generalize hr : s_arr V (i / 2) (i % 2) a (s_dep (v i) j) = r at *
  have hrN : r < NV := by omega
  have hs0 : s ≠ 2 * V 7 0 + V 7 1 := by
    intro e
    rw [e, h.1] at hlt
    omega
  have his : i ≠ s := by intro e; rw [← e] at hlt; omega
  have hcu := s_cnt_up (v := v) hst hrN
  have hsum := sm_upd v r hst
  refine ⟨⟨?_, ?_, ?_⟩, hrN, ?_⟩
  · rw [s_up_n hs0.symm]; exact h.1
  · intro k hk
    by_cases hks : k = s
    · subst hks
      rw [s_up_e]
      right
      refine ⟨by omega, ?_⟩
      by_cases c : v k < NV
      · rw [if_pos c] at hcu
        rcases h.2.1 k hk with e | e <;> omega
      · rw [if_neg c] at hcu; omega
    · rw [s_up_n hks]
      rcases h.2.1 k hk with e | e
      · exact Or.inl e
      · right
        refine ⟨e.1, ?_⟩
        split at hcu <;> omega
  · intro k hk hk0 hkv
    by_cases hks : k = s
    · subst hks
      exact ⟨i, hi, by rw [s_up_n his]; exact hv, a, ha, j, hj, by rw [s_up_n his]; exact hl, by rw [s_up_n his]; exact hs, by rw [s_up_n his, s_up_e, hr]; exact Nat.le_refl _⟩
    · rw [s_up_n hks] at hkv ⊢
      obtain ⟨i2, g1, g2, a2, g3, j2, g4, g5, g6, g7⟩ := h.2.2 k hk hk0 hkv
      by_cases hi2 : i2 = s
      · have hle2 : r ≤ v i2 := by rw [hi2]; omega
        obtain ⟨j3, e1, e2, e3, e4⟩ := s_fifo (sd := i2 % 2) g4 hle2 g5
        refine ⟨i2, g1, ?_, a2, g3, j3, e1, ?_⟩
        · rw [hi2, s_up_e]; exact hrN
        · have e5 : s_up v s r i2 = r := by rw [hi2]; exact s_up_e
          rw [e5]
          exact ⟨e2, e3.trans g6, Nat.le_trans e4 g7⟩
      · rw [show s_up v s r i2 = v i2 from s_up_n hi2] at *
        exact ⟨i2, g1, by rw [s_up_n hi2]; exact g2, a2, g3, j2, g4, by rw [s_up_n hi2]; exact ⟨g5, g6, g7⟩⟩
  · have e2 : sm (s_up v s r) 72 = sm (fun k => if k = s then r else v k) 72 := rfl
    rw [e2]
    omega
