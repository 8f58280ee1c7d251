/-! the reference: LEAST by trying all legs again and again -/
def sm (f : Nat → Nat) : Nat → Nat
  | 0 => 0
  | n + 1 => sm f n + f n
theorem sm_cong {f g : Nat → Nat} : ∀ {n : Nat}, (∀ k, k < n → f k = g k) → sm f n = sm g n
  | 0, _ => rfl
  | n + 1, h => by rw [sm, sm, sm_cong (fun k hk => h k (by omega)), h n (by omega)]
theorem sm_upd (f : Nat → Nat) (x : Nat) {k : Nat} : ∀ {n : Nat}, k < n → sm (fun j => if j = k then x else f j) n + f k = sm f n + x
  | 0, h => absurd h (Nat.not_lt_zero k)
  | n + 1, h => by
    rw [sm, sm]
    rcases Nat.lt_or_ge k n with q | q
    · have e := sm_upd f x q
      rw [if_neg (by omega : ¬ n = k)]
      omega
    · have hk : k = n := by omega
      subst hk
      rw [if_pos rfl, sm_cong (f := fun j => if j = k then x else f j) (g := f) (fun j hj => if_neg (by omega))]
      omega
theorem sm_le {f : Nat → Nat} {c : Nat} : ∀ {n : Nat}, (∀ k, k < n → f k ≤ c) → sm f n ≤ n * c
  | 0, _ => by rw [sm]; omega
  | n + 1, h => by
    have e := sm_le (f := f) (c := c) (n := n) (fun k hk => h k (by omega))
    have e2 := h n (by omega)
    rw [sm, Nat.succ_mul]
    omega
def s_cnt (v : Nat → Nat) : Nat := sm (fun k => if v k < NV then 1 else 0) 72
def s_up (v : Nat → Nat) (s a : Nat) : Nat → Nat := fun j => if j = s then a else v j
theorem s_up_e {v : Nat → Nat} {s a : Nat} : s_up v s a s = a := if_pos rfl
theorem s_up_n {v : Nat → Nat} {s a j : Nat} (h : j ≠ s) : s_up v s a j = v j := if_neg h
theorem s_cnt_up {v : Nat → Nat} {s a : Nat} (hs : s < 72) (ha : a < NV) : s_cnt (s_up v s a) + (if v s < NV then 1 else 0) = s_cnt v + 1 := by
  have e := sm_upd (fun k => if v k < NV then 1 else 0) 1 hs
  have e2 : s_cnt (s_up v s a) = sm (fun j => if j = s then 1 else (fun k => if v k < NV then 1 else 0) j) 72 := by
    refine sm_cong (fun k _ => ?_)
    by_cases hk : k = s
    · subst hk; rw [s_up_e, if_pos ha, if_pos rfl]
    · rw [s_up_n hk, if_neg hk]
  rw [e2]
  exact e
theorem s_cnt_le (v : Nat → Nat) : s_cnt v ≤ 72 := by
  have := sm_le (f := fun k => if v k < NV then 1 else 0) (c := 1) (n := 72) (fun k _ => by split <;> omega)
  unfold s_cnt
  omega
def enc (n : Nat) : Int32 := if n = NV then -nI 1 else nI n
theorem enc_nv : enc NV = -nI 1 := if_pos rfl
theorem enc_n {n : Nat} (h : n < NV) : enc n = nI n := if_neg (by omega)
def MFr (μ μ2 : Mem) : Prop := μ2.2 = μ.2 ∧ (∀ i, i ≠ 85 → i ≠ 104 → μ2.1 i = μ.1 i) ∧ ∀ k, k ≠ 29 → k ≠ 30 → k ≠ 31 → k ≠ 32 → μ2.1 85 k = μ.1 85 k
theorem MFr.rf (μ : Mem) : MFr μ μ := ⟨rfl, fun _ _ _ => rfl, fun _ _ _ _ _ => rfl⟩
theorem MFr.tr {a b c : Mem} (h : MFr a b) (g : MFr b c) : MFr a c := ⟨g.1.trans h.1, fun i hi h2 => (g.2.1 i hi h2).trans (h.2.1 i hi h2), fun k a b c d => (g.2.2 k a b c d).trans (h.2.2 k a b c d)⟩
theorem MFr.of {a b : Mem} (h : MF0 a b) : MFr a b := ⟨h.1, fun i hi _ => h.2.1 i hi, h.2.2⟩
theorem MFr.s {μ : Mem} {k : Nat} {v : Int32} : MFr μ (sI μ 104 k v) := by
  refine ⟨rfl, fun i _ hi => ?_, fun j _ _ _ _ => ?_⟩
  · rw [sI_1, if_neg hi]
  · rw [sI_1, if_neg (by decide)]
theorem MSea.fr2 {μ μ2 : Mem} {V : SV} (h : MSea μ V) (f : MFr μ μ2) : MSea μ2 V := by
  obtain ⟨h1, h2, h3, h4, h5, h6, h7, h8, h9, h10⟩ := h
  have e := f.2.1
  have g := f.2.2
  refine ⟨fun k hk => ?_, fun k hk => ?_, fun k hk => ?_, fun k hk => ?_, fun k hk => ?_, ?_, fun k hk => ?_, ?_, ?_, ?_⟩
  · rw [e 87 (by decide) (by decide)]; exact h1 k hk
  · rw [e 88 (by decide) (by decide)]; exact h2 k hk
  · rw [e 89 (by decide) (by decide)]; exact h3 k hk
  · rw [e 90 (by decide) (by decide)]; exact h4 k hk
  · rw [e 91 (by decide) (by decide)]; exact h5 k hk
  · rw [e 92 (by decide) (by decide)]; exact h6
  · rw [e 86 (by decide) (by decide)]; exact h7 k hk
  · rw [g 7 (by decide) (by decide) (by decide) (by decide)]; exact h8
  · rw [g 8 (by decide) (by decide) (by decide) (by decide)]; exact h9
  · rw [g 9 (by decide) (by decide) (by decide) (by decide)]; exact h10
/-- the values on the way: each is had, or better, by a leg from another -/
def Sup (V : SV) (v : Nat → Nat) : Prop := v (2 * V 7 0 + V 7 1) = V 7 2 ∧ (∀ k, k < 72 → v k = NV ∨ (V 7 2 ≤ v k ∧ v k ≤ 9999 + 2000 * s_cnt v)) ∧
  (∀ k, k < 72 → k ≠ 2 * V 7 0 + V 7 1 → v k < NV → ∃ i, i < 72 ∧ v i < NV ∧ ∃ h, h < 8 ∧ ∃ j, j < 4 ∧ s_leg V (i / 2) h (s_dep (v i) j) ∧ s_st V (i / 2) (i % 2) h (s_dep (v i) j) = k ∧ s_arr V (i / 2) (i % 2) h (s_dep (v i) j) ≤ v k)
/-- what is tried holds, before state k's leg w -/
def Cl (V : SV) (v : Nat → Nat) (k w : Nat) : Prop := ∀ i, i < 72 → ∀ h, h < 8 → ∀ j, j < 4 → (i < k ∨ (i = k ∧ 4 * h + j < w)) → v i < NV → s_leg V (i / 2) h (s_dep (v i) j) → v (s_st V (i / 2) (i % 2) h (s_dep (v i) j)) ≤ s_arr V (i / 2) (i % 2) h (s_dep (v i) j)
theorem Sup.fin {V : SV} {v : Nat → Nat} (h : Sup V v) (hc : Cl V v 72 0) : IsL V v := by
  have hcn := s_cnt_le v
  refine ⟨h.1, fun k hk => ?_, fun k hk hv a ha j hj hl => hc k hk a ha j hj (Or.inl hk) hv hl, fun k hk h0 hv => ?_⟩
  · rcases h.2.1 k hk with e | e
    · exact Or.inr e
    · left; omega
  · obtain ⟨i, hi, hv2, a, ha, j, hj, hl, hst, hle⟩ := h.2.2 k hk h0 hv
    have h2 := hc i hi a ha j hj (Or.inl hi) hv2 hl
    rw [hst] at h2
    exact ⟨i, hi, hv2, a, ha, j, hj, hl, hst, by omega⟩
theorem Sup.lt {V : SV} {v : Nat → Nat} (h : Sup V v) {k : Nat} (hk : k < 72) (hv : v k < NV) : v k ≤ 160000 ∧ V 7 2 ≤ v k := by
  have hcn := s_cnt_le v
  rcases h.2.1 k hk with e | e
  · omega
  · omega
theorem Sup.up {V : SV} (hV : SVok V) {v : Nat → Nat} (h : Sup V v) {i a j : Nat} (hi : i < 72) (hv : v i < NV) (ha : a < 8) (hj : j < 4) (hl : s_leg V (i / 2) a (s_dep (v i) j)) (hlt : s_arr V (i / 2) (i % 2) a (s_dep (v i) j) < v (s_st V (i / 2) (i % 2) a (s_dep (v i) j))) : Sup V (s_up v (s_st V (i / 2) (i % 2) a (s_dep (v i) j)) (s_arr V (i / 2) (i % 2) a (s_dep (v i) j))) ∧ s_arr V (i / 2) (i % 2) a (s_dep (v i) j) < NV ∧ sm (s_up v (s_st V (i / 2) (i % 2) a (s_dep (v i) j)) (s_arr V (i / 2) (i % 2) a (s_dep (v i) j))) 72 < sm v 72 := by
  have hst := s_st_lt (sd := i % 2) (by omega) hl
  have hgt := s_arr_gt hV (sd := i % 2) (by omega : i / 2 < 36) hl
  have hle := s_arr_le hV (sd := i % 2) hl
  have hd := @s_dep_le (v i) j
  have hd2 := @s_dep_ub (v i) j hj
  obtain ⟨b1, b2⟩ := h.lt hi hv
  have hcn := s_cnt_le v
  have bi : v i ≤ 9999 + 2000 * s_cnt v := by rcases h.2.1 i hi with e | e <;> omega
  have hNV : NV = 1000000000 := rfl
  generalize hs : s_st V (i / 2) (i % 2) a (s_dep (v i) j) = s at *
  generalize hr : s_arr V (i / 2) (i % 2) a (s_dep (v i) j) = r at *
  have hrN : r < NV := by omega
  have hs0 : s ≠ 2 * V 7 0 + V 7 1 := by
    intro e
    rw [e, h.1] at hlt
    omega
  have his : i ≠ s := by intro e; rw [← e] at hlt; omega
  have hcu := s_cnt_up (v := v) hst hrN
  have hsum := sm_upd v r hst
  refine ⟨⟨?_, ?_, ?_⟩, hrN, ?_⟩
  · rw [s_up_n hs0.symm]; exact h.1
  · intro k hk
    by_cases hks : k = s
    · subst hks
      rw [s_up_e]
      right
      refine ⟨by omega, ?_⟩
      by_cases c : v k < NV
      · rw [if_pos c] at hcu
        rcases h.2.1 k hk with e | e <;> omega
      · rw [if_neg c] at hcu; omega
    · rw [s_up_n hks]
      rcases h.2.1 k hk with e | e
      · exact Or.inl e
      · right
        refine ⟨e.1, ?_⟩
        split at hcu <;> omega
  · intro k hk hk0 hkv
    by_cases hks : k = s
    · subst hks
      exact ⟨i, hi, by rw [s_up_n his]; exact hv, a, ha, j, hj, by rw [s_up_n his]; exact hl, by rw [s_up_n his]; exact hs, by rw [s_up_n his, s_up_e, hr]; exact Nat.le_refl _⟩
    · rw [s_up_n hks] at hkv ⊢
      obtain ⟨i2, g1, g2, a2, g3, j2, g4, g5, g6, g7⟩ := h.2.2 k hk hk0 hkv
      by_cases hi2 : i2 = s
      · have hle2 : r ≤ v i2 := by rw [hi2]; omega
        obtain ⟨j3, e1, e2, e3, e4⟩ := s_fifo (sd := i2 % 2) g4 hle2 g5
        refine ⟨i2, g1, ?_, a2, g3, j3, e1, ?_⟩
        · rw [hi2, s_up_e]; exact hrN
        · have e5 : s_up v s r i2 = r := by rw [hi2]; exact s_up_e
          rw [e5]
          exact ⟨e2, e3.trans g6, Nat.le_trans e4 g7⟩
      · refine ⟨i2, g1, ?_, a2, g3, j2, g4, ?_⟩
        · rw [s_up_n hi2]; exact g2
        · rw [s_up_n hi2]; exact ⟨g5, g6, g7⟩
  · have e2 : sm (s_up v s r) 72 = sm (fun k => if k = s then r else v k) 72 := rfl
    rw [e2]
    omega
def LI (V : SV) (μ0 : Mem) (v : Nat → Nat) (μ : Mem) : Prop := MSea μ V ∧ MFr μ0 μ ∧ (∀ k, k < 72 → μ.1 104 k = enc (v k)) ∧ Sup V v
def Good (V : SV) (μ0 μ2 : Mem) : Prop := MFr μ0 μ2 ∧ ∃ v, IsL V v ∧ ∀ k, k < 72 → μ2.1 104 k = enc (v k)
def Sw (V : SV) (vs v : Nat → Nat) (x k w : Nat) : Prop := (x = 0 ∧ v = vs ∧ Cl V v k w) ∨ (x = 1 ∧ sm v 72 < sm vs 72)
theorem LI.mf {V : SV} {μ0 μ μ2 : Mem} {v : Nat → Nat} (h : LI V μ0 v μ) (f : MF0 μ μ2) : LI V μ0 v μ2 := ⟨h.1.fr f, h.2.1.tr (MFr.of f), fun k hk => by rw [f.2.1 104 (by decide)]; exact h.2.2.1 k hk, h.2.2.2⟩
theorem m_b59 {V : SV} (hV : SVok V) {μ0 : Mem} {vs : Nat → Nat} {k : Nat} (hk : k < 72) (K51 : Int32 → Int32 → Mem → Option Mem) (K43 : Int32 → Mem → Option Mem) (hK : ∀ (x : Nat) (v : Nat → Nat) (μ : Mem), LI V μ0 v μ → Sw V vs v x (k + 1) 0 → ∃ μf, K51 (nI x) (nI (k + 1)) μ = some μf ∧ Good V μ0 μf) : ∀ (n w x : Nat) (v : Nat → Nat) (μ : Mem), w ≤ 32 → 32 - w < n → LI V μ0 v μ → Sw V vs v x k w → ∃ μf, f_X11_seeks_b59 85 K51 K43 n (nI x) (nI k) (nI w) μ = some μf ∧ Good V μ0 μf := by
  intro n
  induction n with
  | zero => intro w x v μ hw hn; omega
  | succ n ih =>
    intro w x v μ hw hn hL hS
    obtain ⟨hM, hF, hE, hU⟩ := id hL
    rw [f_X11_seeks_b59]
    have nxt : Sw V vs v x (k + 1) 0 → ∃ μf, K51 (nI x) (nI k + nI 1) μ = some μf ∧ Good V μ0 μf := by
      intro h
      rw [nI_add]
      exact hK x v μ hL h
    simp (disch := omega) only [il, nI_leI, lt_d, rf_85_0, rf_85_1, rf_85_2, rf_85_3, rf_85_4, rf_85_5, rf_85_6, rf_85_11, rf_85_13, rf_85_14, rf_85_16, rf_85_17, rf_85_19, rf_85_20, rf_85_21, rf_85_22, rf_85_24, rf_85_27, rf_85_33, rf_85_34, rf_85_36, rf_85_37, rf_85_38, rf_85_39, al_86, al_87, al_88, al_89, al_90, al_91, al_92, al_93, al_94, al_95, al_96, al_97, al_98, al_99, al_100, al_101, al_102, al_103, al_104, al_105, al_106, al_107, al_108, al_109, gA_n, nI_clamp, hE k hk]
    by_cases c : 32 ≤ w
    · rw [if_pos c]
      refine nxt ?_
      rcases hS with ⟨a, b, d⟩ | d
      · refine Or.inl ⟨a, b, fun i hi h hh j hj hc => d i hi h hh j hj ?_⟩
        rcases hc with hc | hc
        · rcases (show i < k ∨ i = k by omega) with q | q
          · exact Or.inl q
          · exact Or.inr ⟨q, by omega⟩
        · omega
      · exact Or.inr d
    rw [if_neg c]
    by_cases cv : v k = NV
    · rw [cv, enc_nv, if_pos (by decide)]
      refine nxt ?_
      rcases hS with ⟨a, b, d⟩ | d
      · refine Or.inl ⟨a, b, fun i hi h hh j hj hc hv => d i hi h hh j hj ?_ hv⟩
        rcases hc with hc | hc
        · rcases (show i < k ∨ i = k by omega) with q | q
          · exact Or.inl q
          · subst q; omega
        · omega
      · exact Or.inr d
    have hNV : NV = 1000000000 := rfl
    have hvk : v k < NV := by rcases hU.2.1 k hk with e | e <;> have := s_cnt_le v <;> omega
    obtain ⟨b1, b2⟩ := hU.lt hk hvk
    rw [enc_n hvk, if_neg (nI_lt0 (by omega))]
    have hd := @s_dep_ub (v k) (w % 4) (by omega)
    simp (disch := omega) only [pk_div, pk_mul, pk_sub, n_rem]
    rw [bnd_e (m_dep (by omega) (by omega) μ)]
    obtain ⟨μ6, e6, f6, h6⟩ := m_goes hV hM (q := k / 2) (sd := k % 2) (h := w / 4) (t := s_dep (v k) (w % 4)) (by omega) (by omega) (by omega) (by omega)
    rw [bnv_e e6]
    have L6 := hL.mf f6
    have hwe : 4 * (w / 4) + w % 4 = w := by omega
    have adv : (∀ (_ : s_leg V (k / 2) (w / 4) (s_dep (v k) (w % 4))), v (s_st V (k / 2) (k % 2) (w / 4) (s_dep (v k) (w % 4))) ≤ s_arr V (k / 2) (k % 2) (w / 4) (s_dep (v k) (w % 4))) → Sw V vs v x k (w + 1) := by
      intro hq
      rcases hS with ⟨a, b, d⟩ | d
      · refine Or.inl ⟨a, b, fun i hi h hh j hj hc hv hl => ?_⟩
        by_cases z : i = k ∧ 4 * h + j = w
        · obtain ⟨rfl, z⟩ := z
          have e1 : h = w / 4 := by omega
          have e2 : j = w % 4 := by omega
          subst e1; subst e2
          exact hq hl
        · exact d i hi h hh j hj (by omega) hv hl
      · exact Or.inr d
    have wadd : nI w + nI 1 = nI (w + 1) := nI_add w 1
    rcases h6 with ⟨hleg, g1, g2, g3, g4⟩ | ⟨hleg, g1⟩
    · rw [g1, g3, g4]
      have hst := s_st_lt (sd := k % 2) (by omega) hleg
      have har := s_arr_le hV (sd := k % 2) hleg
      have hto := hleg.1
      have hsd := @s_sd_lt V (s_zone (k / 2)) (s_span (s_dep (v k) (w % 4))) (w / 4) (k % 2) (by omega)
      simp only [pk_mul, nI_add]
      rw [if_neg (nI_lt0 (by omega))]
      have est : 2 * s_to V (k / 2) (w / 4) + s_sd V (s_zone (k / 2)) (s_span (s_dep (v k) (w % 4))) (w / 4) (k % 2) = s_st V (k / 2) (k % 2) (w / 4) (s_dep (v k) (w % 4)) := rfl
      rw [est]
      simp (disch := omega) only [gA_n, nI_clamp]
      rw [L6.2.2.1 _ hst]
      have upd : s_arr V (k / 2) (k % 2) (w / 4) (s_dep (v k) (w % 4)) < v (s_st V (k / 2) (k % 2) (w / 4) (s_dep (v k) (w % 4))) → ∃ μf, f_X11_seeks_b143 85 (f_X11_seeks_b59 85 K51 K43 n) K51 K43 (nI k) (nI w) (nI (s_st V (k / 2) (k % 2) (w / 4) (s_dep (v k) (w % 4)))) μ6 = some μf ∧ Good V μ0 μf := by
        intro hlt
        obtain ⟨u1, u2, u3⟩ := hU.up hV hk hvk (by omega) (by omega) hleg hlt
        unfold f_X11_seeks_b143
        simp (disch := omega) only [il, rf_85_0, rf_85_1, rf_85_2, rf_85_3, rf_85_4, rf_85_5, rf_85_6, rf_85_11, rf_85_13, rf_85_14, rf_85_16, rf_85_17, rf_85_19, rf_85_20, rf_85_21, rf_85_22, rf_85_24, rf_85_27, rf_85_33, rf_85_34, rf_85_36, rf_85_37, rf_85_38, rf_85_39, al_86, al_87, al_88, al_89, al_90, al_91, al_92, al_93, al_94, al_95, al_96, al_97, al_98, al_99, al_100, al_101, al_102, al_103, al_104, al_105, al_106, al_107, al_108, al_109, gA_n, nI_clamp, lt_d, nI_add, g1]
        refine ih (w + 1) 1 _ _ (by omega) (by omega) ⟨L6.1.fr2 MFr.s, L6.2.1.tr MFr.s, fun i hi => ?_, u1⟩ (Or.inr ⟨rfl, ?_⟩)
        · rw [sI_1, if_pos rfl, upd_a]
          by_cases hie : i = s_st V (k / 2) (k % 2) (w / 4) (s_dep (v k) (w % 4))
          · rw [if_pos hie, hie, s_up_e, enc_n u2]
          · rw [if_neg hie, s_up_n hie]; exact L6.2.2.1 i hi
        · rcases hS with ⟨a, b, d⟩ | d
          · rw [b] at u3 ⊢; exact u3
          · omega
      by_cases cn : v (s_st V (k / 2) (k % 2) (w / 4) (s_dep (v k) (w % 4))) = NV
      · rw [cn, enc_nv, if_pos (by decide)]
        exact upd (by omega)
      · have hvs : v (s_st V (k / 2) (k % 2) (w / 4) (s_dep (v k) (w % 4))) < NV := by rcases hU.2.1 _ hst with e | e <;> have := s_cnt_le v <;> omega
        have hb3 := (hU.lt hst hvs).1
        rw [enc_n hvs, if_neg (nI_lt0 (by omega))]
        by_cases cl : v (s_st V (k / 2) (k % 2) (w / 4) (s_dep (v k) (w % 4))) ≤ s_arr V (k / 2) (k % 2) (w / 4) (s_dep (v k) (w % 4))
        · rw [if_pos (nI_le cl (by omega))]
          exact ih (w + 1) x v μ6 (by omega) (by omega) L6 (adv (fun _ => cl))
        · rw [if_neg (nI_ge (by omega) (by omega))]
          exact upd (by omega)
    · rw [g1, if_pos (by decide), wadd]
      exact ih (w + 1) x v μ6 (by omega) (by omega) L6 (adv (fun hl => absurd hl hleg))
theorem m_b51 {V : SV} (hV : SVok V) {μ0 : Mem} {vs : Nat → Nat} (K43 : Int32 → Mem → Option Mem) (hK : ∀ (x : Nat) (v : Nat → Nat) (μ : Mem), LI V μ0 v μ → Sw V vs v x 72 0 → ∃ μf, K43 (nI x) μ = some μf ∧ Good V μ0 μf) : ∀ (n k x : Nat) (v : Nat → Nat) (μ : Mem), k ≤ 72 → 72 - k < n → LI V μ0 v μ → Sw V vs v x k 0 → ∃ μf, f_X11_seeks_b51 85 K43 n (nI x) (nI k) μ = some μf ∧ Good V μ0 μf := by
  intro n
  induction n with
  | zero => intro k x v μ hk hn; omega
  | succ n ih =>
    intro k x v μ hk hn hL hS
    rw [f_X11_seeks_b51]
    simp (disch := omega) only [il, nI_leI]
    by_cases c : 72 ≤ k
    · rw [if_pos c]
      have : k = 72 := by omega
      subst this
      exact hK x v μ hL hS
    · rw [if_neg c]
      exact m_b59 hV (by omega) _ _ (fun x v μ hL hS => ih (k + 1) x v μ (by omega) (by omega) hL hS) FU 0 x v μ (by omega) (Nat.le_of_ble_eq_true rfl) hL hS
theorem m_b43 {V : SV} (hV : SVok V) {μ0 : Mem} : ∀ (n : Nat) (v : Nat → Nat) (μ : Mem), sm v 72 + 2 ≤ n → LI V μ0 v μ → ∃ μf, f_X11_seeks_b43 85 n (nI 1) μ = some μf ∧ Good V μ0 μf := by
  intro n
  induction n with
  | zero => intro v μ hn; omega
  | succ n ih =>
    intro v μ hn hL
    rw [f_X11_seeks_b43, if_neg (by decide)]
    refine m_b51 hV (vs := v) _ (fun x v2 μ2 hL2 hS2 => ?_) FU 0 0 v μ (by omega) (Nat.le_of_ble_eq_true rfl) hL (Or.inl ⟨rfl, rfl, fun i hi h hh j hj hc => by omega⟩)
    rcases hS2 with ⟨rfl, rfl, hc⟩ | ⟨rfl, hlt⟩
    · obtain ⟨n, rfl⟩ : ∃ n', n = n' + 1 := ⟨n - 1, by omega⟩
      rw [f_X11_seeks_b43, if_pos (by decide)]
      exact ⟨_, rfl, hL2.2.1, v2, hL2.2.2.2.fin hc, hL2.2.2.1⟩
    · exact ih v2 μ2 (by omega) hL2
def s_v0 (V : SV) : Nat → Nat := fun k => if k = 2 * V 7 0 + V 7 1 then V 7 2 else NV
theorem s_v0_p {V : SV} : s_v0 V (2 * V 7 0 + V 7 1) = V 7 2 := if_pos rfl
theorem s_v0_n {V : SV} {k : Nat} (h : k ≠ 2 * V 7 0 + V 7 1) : s_v0 V k = NV := if_neg h
theorem m_b2 {V : SV} (hV : SVok V) {μ0 : Mem} (h0 : MSea μ0 V) : ∀ (n i : Nat) (μ : Mem), i ≤ 72 → 72 - i < n → MFr μ0 μ → (∀ k, k < i → μ.1 104 k = -nI 1) → ∃ μf, f_X11_seeks_b2 85 n (nI i) μ = some μf ∧ Good V μ0 μf := by
  intro n
  induction n with
  | zero => intro i μ hi hn; omega
  | succ n ih =>
    intro i μ hi hn hF hE
    have hM := h0.fr2 hF
    have hs := hV.2.2.2.2.2
    rw [f_X11_seeks_b2]
    simp (disch := omega) only [il, nI_leI, lt_d, rf_85_0, rf_85_1, rf_85_2, rf_85_3, rf_85_4, rf_85_5, rf_85_6, rf_85_11, rf_85_13, rf_85_14, rf_85_16, rf_85_17, rf_85_19, rf_85_20, rf_85_21, rf_85_22, rf_85_24, rf_85_27, rf_85_33, rf_85_34, rf_85_36, rf_85_37, rf_85_38, rf_85_39, al_86, al_87, al_88, al_89, al_90, al_91, al_92, al_93, al_94, al_95, al_96, al_97, al_98, al_99, al_100, al_101, al_102, al_103, al_104, al_105, al_106, al_107, al_108, al_109, hM.2.2.2.2.2.2.2.1, hM.2.2.2.2.2.2.2.2.1, hM.2.2.2.2.2.2.2.2.2, pk_mul, nI_add, nI_clamp]
    by_cases c : 72 ≤ i
    · rw [if_pos c, gA_n (by omega) (by omega)]
      have hi2 : i = 72 := by omega
      subst hi2
      have hNV : NV = 1000000000 := rfl
      refine m_b43 hV FU (s_v0 V) _ ?_ ⟨hM.fr2 MFr.s, hF.tr MFr.s, fun k hk => ?_, s_v0_p, fun k hk => ?_, fun k hk hk0 hv => ?_⟩
      · have e := sm_le (f := s_v0 V) (c := NV) (n := 72) (fun k _ => by unfold s_v0; split <;> omega)
        have e2 : FU = 1000000000000 := rfl
        omega
      · rw [sI_1, if_pos rfl, upd_a]
        by_cases ck : k = 2 * V 7 0 + V 7 1
        · rw [if_pos ck, ck, s_v0_p, enc_n (by omega)]
        · rw [if_neg ck, s_v0_n ck, enc_nv]; exact hE k hk
      · by_cases ck : k = 2 * V 7 0 + V 7 1
        · right; rw [ck, s_v0_p]; omega
        · left; exact s_v0_n ck
      · exfalso; rw [s_v0_n hk0] at hv; omega
    · rw [if_neg c, gA_n (by omega) (by omega)]
      refine ih (i + 1) _ (by omega) (by omega) (hF.tr MFr.s) (fun k hk => ?_)
      rw [sI_1, if_pos rfl, upd_a]
      by_cases ck : k = i
      · rw [if_pos ck]
      · rw [if_neg ck]; exact hE k (by omega)
theorem m_seeks {V : SV} (hV : SVok V) {μ : Mem} (h0 : MSea μ V) : ∃ μ2, f_X11_seeks 85 μ = some μ2 ∧ Good V μ μ2 := by
  unfold f_X11_seeks
  exact m_b2 hV h0 FU 0 μ (by omega) (Nat.le_of_ble_eq_true rfl) (MFr.rf μ) (fun k hk => by omega)
