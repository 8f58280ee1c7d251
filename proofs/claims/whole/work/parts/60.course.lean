/-! courses: the chain of last legs -/
def CH (V : SV) (v : Nat → Nat) : List Nat → Nat → Prop
  | [], s => LW V v s 576
  | h :: t, s => ∃ c, c < 576 ∧ LW V v s c ∧ h = c % 8 ∧ CH V v t (c / 8)
theorem CH.one {V : SV} {v : Nat → Nat} : ∀ {l m : List Nat} {s : Nat}, CH V v l s → CH V v m s → l = m
  | [], [], _, _, _ => rfl
  | [], _ :: _, _, h, ⟨c, a, b, _, _⟩ => absurd (LW.one h b) (by omega)
  | _ :: _, [], _, ⟨c, a, b, _, _⟩, h => absurd (LW.one h b) (by omega)
  | _ :: _, _ :: _, _, ⟨c, a, b, d, f⟩, ⟨c2, a2, b2, d2, f2⟩ => by
    have e := LW.one b b2
    subst e
    rw [d, d2, CH.one f f2]
theorem sm_lt {f g : Nat → Nat} : ∀ {n k : Nat}, (∀ j, j < n → f j ≤ g j) → k < n → f k < g k → sm f n < sm g n
  | 0, _, _, hk, _ => absurd hk (Nat.not_lt_zero _)
  | n + 1, k, h, hk, hlt => by
    rw [sm, sm]
    have hn := h n (by omega)
    rcases (show k < n ∨ k = n by omega) with q | q
    · have := sm_lt (fun j hj => h j (by omega)) q hlt
      omega
    · subst q
      have : ∀ m, m ≤ k → sm f m ≤ sm g m := by
        intro m
        induction m with
        | zero => intro _; exact Nat.le_refl _
        | succ m ih =>
          intro hm
          rw [sm, sm]
          have := ih (by omega)
          have := h m (by omega)
          omega
      have := this k (Nat.le_refl _)
      omega
def s_bel (v : Nat → Nat) (x : Nat) : Nat := sm (fun k => if v k < x then 1 else 0) 72
theorem s_bel_lt {v : Nat → Nat} {s : Nat} (hs : s < 72) : s_bel v (v s) < 72 := by
  have e : sm (fun _ => 1) 72 = 72 := by decide +kernel
  have := sm_lt (f := fun k => if v k < v s then 1 else 0) (g := fun _ => 1) (n := 72) (k := s) (fun j _ => by split <;> omega) hs (by rw [if_neg (by omega)]; omega)
  unfold s_bel
  omega
theorem s_bel_up {v : Nat → Nat} {k x : Nat} (hk : k < 72) (h : v k < x) : s_bel v (v k) < s_bel v x := by
  refine sm_lt (k := k) (fun j _ => ?_) hk ?_
  · by_cases c : v j < v k
    · rw [if_pos c, if_pos (by omega)]; omega
    · rw [if_neg c]; omega
  · rw [if_neg (by omega), if_pos h]; omega
theorem LW.dn {V : SV} (hV : SVok V) {v : Nat → Nat} {s c : Nat} (h : LW V v s c) (hc : c < 576) : c / 8 < 72 ∧ v (c / 8) < v s := by
  rcases h with ⟨a, _⟩ | ⟨_, _, _, b3, _⟩
  · omega
  · exact ⟨by omega, (b3.to hV (by omega)).2.2⟩
theorem CH.len {V : SV} (hV : SVok V) {v : Nat → Nat} : ∀ {l : List Nat} {s : Nat}, s < 72 → CH V v l s → l.length ≤ s_bel v (v s)
  | [], _, _, _ => Nat.zero_le _
  | h :: t, s, hs, ⟨c, a, b, d, f⟩ => by
    obtain ⟨g1, g2⟩ := b.dn hV a
    have := CH.len hV g1 f
    have := s_bel_up g1 g2
    rw [List.length_cons]
    omega
theorem minN {P : Nat → Prop} : ∀ n, P n → ∃ m, m ≤ n ∧ P m ∧ ∀ j, j < m → ¬ P j := by
  intro n
  induction n using Nat.strongRecOn with
  | ind n ih =>
    intro hn
    by_cases c : ∃ j, j < n ∧ P j
    · obtain ⟨j, hj, hp⟩ := c
      obtain ⟨m, h1, h2⟩ := ih j hj hp
      exact ⟨m, by omega, h2⟩
    · exact ⟨n, Nat.le_refl _, hn, fun j hj hp => c ⟨j, hj, hp⟩⟩
theorem LW.ex {V : SV} {v : Nat → Nat} (hL : IsL V v) {s : Nat} (hs : s < 72) : ∃ c, c ≤ 576 ∧ LW V v s c := by
  by_cases c : v s = NV ∨ s = 2 * V 7 0 + V 7 1
  · exact ⟨576, by omega, Or.inl ⟨rfl, c⟩⟩
  · have hv : v s < NV := by have := hL.le hs; omega
    obtain ⟨i, hi, hiv, h, hh, j, hj, hl, hst, har⟩ := hL.2.2.2 s hs (fun z => c (Or.inr z)) hv
    obtain ⟨m, h1, h2, h3⟩ := minN (P := fun c => LE V v (c / 8) (c % 8) s) (8 * i + h) (by
      show LE V v ((8 * i + h) / 8) ((8 * i + h) % 8) s
      rw [show (8 * i + h) / 8 = i by omega, show (8 * i + h) % 8 = h by omega]
      exact ⟨hiv, j, hj, hl, hst, har⟩)
    exact ⟨m, by omega, Or.inr ⟨by omega, hv, fun z => c (Or.inr z), h2, h3⟩⟩
theorem CH.ex {V : SV} (hV : SVok V) {v : Nat → Nat} (hL : IsL V v) : ∀ (x s : Nat), v s = x → s < 72 → ∃ l, CH V v l s := by
  intro x
  induction x using Nat.strongRecOn with
  | ind x ih =>
    intro s hx hs
    obtain ⟨c, hc, hw⟩ := LW.ex hL hs
    by_cases z : c = 576
    · subst z; exact ⟨[], hw⟩
    · obtain ⟨g1, g2⟩ := hw.dn hV (by omega)
      obtain ⟨l, hl⟩ := ih (v (c / 8)) (by omega) (c / 8) rfl g1
      exact ⟨c % 8 :: l, c, by omega, hw, rfl, hl⟩
theorem lcode_p {c : Nat} (h : c < 576) : lcode c = nI (100 * (c / 16) + 10 * (c / 8 % 2) + c % 8) ∧ (100 * (c / 16) + 10 * (c / 8 % 2) + c % 8) % 10 = c % 8 ∧ (100 * (c / 16) + 10 * (c / 8 % 2) + c % 8) / 100 = c / 16 ∧ (100 * (c / 16) + 10 * (c / 8 % 2) + c % 8) / 10 % 10 = c / 8 % 2 := by
  refine ⟨if_neg (by omega), by omega, by omega, by omega⟩
/-- what a chain loop of the reference touches -/
def MFc (μ μ2 : Mem) : Prop := μ2.2 = μ.2 ∧ (∀ i, i ≠ 85 → i ≠ 105 → μ2.1 i = μ.1 i) ∧ ∀ k, k ≠ 29 → k ≠ 30 → k ≠ 31 → k ≠ 32 → k ≠ 35 → μ2.1 85 k = μ.1 85 k
theorem MFc.rf (μ : Mem) : MFc μ μ := ⟨rfl, fun _ _ _ => rfl, fun _ _ _ _ _ _ => rfl⟩
theorem MFc.tr {a b c : Mem} (h : MFc a b) (g : MFc b c) : MFc a c := ⟨g.1.trans h.1, fun i hi h2 => (g.2.1 i hi h2).trans (h.2.1 i hi h2), fun k a b c d f => (g.2.2 k a b c d f).trans (h.2.2 k a b c d f)⟩
theorem MFc.of {a b : Mem} (h : MF0 a b) : MFc a b := ⟨h.1, fun i hi _ => h.2.1 i hi, fun k a b c d _ => h.2.2 k a b c d⟩
theorem MFc.s {μ : Mem} {i k : Nat} {v : Int32} (h : i = 105 ∨ (i = 85 ∧ k = 35)) : MFc μ (sI μ i k v) := ⟨rfl, fun j a b => sI_o (by omega), fun j _ _ _ _ _ => sI_n (by omega)⟩
theorem MSea.fc {μ μ2 : Mem} {V : SV} (h : MSea μ V) (f : MFc μ μ2) : MSea μ2 V := by
  obtain ⟨h1, h2, h3, h4, h5, h6, h7, h8, h9, h10⟩ := h
  have e := f.2.1
  have g := f.2.2
  refine ⟨fun k hk => ?_, fun k hk => ?_, fun k hk => ?_, fun k hk => ?_, fun k hk => ?_, ?_, fun k hk => ?_, ?_, ?_, ?_⟩
  · rw [e 87 (by decide) (by decide)]; exact h1 k hk
  · rw [e 88 (by decide) (by decide)]; exact h2 k hk
  · rw [e 89 (by decide) (by decide)]; exact h3 k hk
  · rw [e 90 (by decide) (by decide)]; exact h4 k hk
  · rw [e 91 (by decide) (by decide)]; exact h5 k hk
  · rw [e 92 (by decide) (by decide)]; exact h6
  · rw [e 86 (by decide) (by decide)]; exact h7 k hk
  · rw [g 7 (by decide) (by decide) (by decide) (by decide) (by decide)]; exact h8
  · rw [g 8 (by decide) (by decide) (by decide) (by decide) (by decide)]; exact h9
  · rw [g 9 (by decide) (by decide) (by decide) (by decide) (by decide)]; exact h10
section CC
variable {V : SV} {v : Nat → Nat}
theorem m_ct66 (hV : SVok V) (hL : IsL V v) (a1 : Int32) : ∀ (l : List Nat) (n s c i : Nat) (μ : Mem), l.length < n → s < 72 → CH V v l s → LW V v s c → c ≤ 576 → i + l.length ≤ 72 → MSea μ V → MLr μ v → μ.1 85 35 = nI i → ∃ μf, f_X11_courseTo_b66 85 a1 n (lcode c) μ = some μf ∧ MFc μ μf ∧ μf.1 85 35 = nI (i + l.length) ∧ (∀ j, j < l.length → μf.1 105 (i + j) = nI (l.getD j 0)) ∧ ∀ j, j < i → μf.1 105 j = μ.1 105 j := by
  intro l
  induction l with
  | nil =>
    intro n s c i μ hn hs hch hw hc hi hM hR h35
    obtain ⟨n, rfl⟩ : ∃ m, n = m + 1 := ⟨n - 1, by omega⟩
    have e : c = 576 := (LW.one hw hch)
    subst e
    rw [f_X11_courseTo_b66]
    simp only [il]
    rw [show lcode 576 = -nI 5 from rfl, if_pos rfl]
    exact ⟨μ, rfl, MFc.rf μ, h35, fun j hj => absurd hj (Nat.not_lt_zero j), fun _ _ => rfl⟩
  | cons h t ih =>
    intro n s c i μ hn hs hch hw hc hi hM hR h35
    obtain ⟨n, rfl⟩ : ∃ m, n = m + 1 := ⟨n - 1, by omega⟩
    obtain ⟨c2, hc2, hw2, hh, ht⟩ := hch
    have e := LW.one hw hw2
    subst e
    obtain ⟨p1, p2, p3, p4⟩ := lcode_p hc2
    rw [List.length_cons] at hi hn
    rw [f_X11_courseTo_b66]
    rw [p1]
    generalize hX : 100 * (c / 16) + 10 * (c / 8 % 2) + c % 8 = X at *
    have hXb : X < 10000 := by omega
    simp only [il]
    rw [if_neg (m5_nI (by omega)), h35]
    simp (disch := omega) only [rf_85_0, rf_85_1, rf_85_2, rf_85_3, rf_85_4, rf_85_5, rf_85_6, rf_85_11, rf_85_13, rf_85_14, rf_85_16, rf_85_17, rf_85_19, rf_85_20, rf_85_21, rf_85_22, rf_85_24, rf_85_27, rf_85_33, rf_85_34, rf_85_36, rf_85_37, rf_85_38, rf_85_39, al_86, al_87, al_88, al_89, al_90, al_91, al_92, al_93, al_94, al_95, al_96, al_97, al_98, al_99, al_100, al_101, al_102, al_103, al_104, al_105, al_106, al_107, al_108, al_109, gA_n, nI_clamp, lt_d, pk_mul, pk_div, pk_sub, n_rem, nI_add]
    rw [p2, p3, p4, show 2 * (c / 16) + c / 8 % 2 = c / 8 by omega]
    have h35b : (sI μ 105 i (nI (c % 8))).1 85 35 = nI i := by rw [sI_o (by decide)]; exact h35
    rw [h35b, nI_add]
    have F1 : MFc μ (sI (sI μ 105 i (nI (c % 8))) 85 35 (nI (i + 1))) := (MFc.s (Or.inl rfl)).tr (MFc.s (Or.inr ⟨rfl, rfl⟩))
    have M1 := hM.fc F1
    have R1 : MLr (sI (sI μ 105 i (nI (c % 8))) 85 35 (nI (i + 1))) v := fun k hk => by rw [F1.2.1 104 (by decide) (by decide)]; exact hR k hk
    obtain ⟨g1, g2⟩ := hw.dn hV hc2
    obtain ⟨μ3, c3, q1, q2, q3⟩ := m_lastOf hV hL g1 M1 R1
    rw [bnd_e q1]
    have hc3 : c3 ≤ 576 := by rcases q3 with z | z <;> omega
    have h353 : μ3.1 85 35 = nI (i + 1) := by rw [q2.2.2 35 (by decide) (by decide) (by decide) (by decide), sI_e]
    have F3 : MFc μ μ3 := F1.tr (MFc.of q2)
    obtain ⟨μf, r1, r2, r3, r4, r5⟩ := ih n (c / 8) c3 (i + 1) μ3 (by omega) g1 ht q3 hc3 (by omega) (hM.fc F3) (fun k hk => by rw [F3.2.1 104 (by decide) (by decide)]; exact hR k hk) h353
    have e105 : ∀ j, j ≠ i → μ3.1 105 j = μ.1 105 j := fun j hj => by
      rw [q2.2.1 105 (by decide), sI_o (by decide), sI_n (Or.inr hj)]
    have e105i : μ3.1 105 i = nI (c % 8) := by
      rw [q2.2.1 105 (by decide), sI_o (by decide), sI_e]
    refine ⟨μf, r1, F3.tr r2, ?_, fun j hj => ?_, fun j hj => ?_⟩
    · rw [r3, List.length_cons]; exact congrArg nI (by omega)
    · cases j with
      | zero => rw [Nat.add_zero, r5 i (by omega), e105i, hh]; rfl
      | succ j =>
        rw [show i + (j + 1) = i + 1 + j by omega, r4 j (by rw [List.length_cons] at hj; omega)]
        rfl
    · rw [r5 j (by omega), e105 j (by omega)]
end CC
