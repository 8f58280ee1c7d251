/-! read -/
def s_nc : List Nat → Nat
  | [] => 0
  | f :: fs => if f = 44 then s_nc fs else s_nc fs + 1
def s_ex : List (Nat × List Nat) → SV → Nat → SV × Nat
  | [], V, c => (V, c)
  | x :: l, V, c => s_ex l ((s_do V x.1 x.2).getD V) (c + dn (s_do V x.1 x.2))
theorem getD_b {B : Nat} (hB : 0 < B) : ∀ {l : List Nat}, (∀ x, x ∈ l → x < B) → ∀ j, l.getD j 0 < B
  | [], _, _ => hB
  | x :: l, h, 0 => h x (List.mem_cons_self ..)
  | x :: l, h, j + 1 => getD_b hB (fun y hy => h y (List.mem_cons_of_mem _ hy)) j
section RD
variable {T : Nat → Nat} {L : Nat}
theorem s_fm_n : ∀ (fs : List Nat) (p : Nat), (s_fm T L fs p).1 = 1 → (s_fm T L fs p).2.2.length = s_nc fs := by
  intro fs
  induction fs with
  | nil => intro p _; rfl
  | cons f fs ih =>
    intro p h
    rw [s_fm] at h ⊢
    rw [s_nc]
    by_cases c : f = 44
    · rw [if_pos c] at h ⊢
      rw [if_pos c]
      by_cases d : p < L ∧ T p = 44
      · rw [if_pos d] at h ⊢; exact ih _ h
      · rw [if_neg d] at h; exact absurd (show (0 : Nat) = 1 from h) (by decide)
    · rw [if_neg c] at h ⊢
      rw [if_neg c]
      by_cases d : s_fl f ≤ (s_dv T L (s_fh f) p 0).1
      · rw [if_pos d] at h ⊢
        show (_ :: _).length = _
        rw [List.length_cons, ih _ h]
      · rw [if_neg d] at h; exact absurd (show (0 : Nat) = 1 from h) (by decide)
theorem s_fm_b {B : Nat} : ∀ (fs : List Nat) (p : Nat), (∀ f, f ∈ fs → 10 ^ s_fh f ≤ B) → ∀ x, x ∈ (s_fm T L fs p).2.2 → x < B := by
  intro fs
  induction fs with
  | nil => intro p _ x hx; exact absurd hx List.not_mem_nil
  | cons f fs ih =>
    intro p h x hx
    have h0 := h f (List.mem_cons_self ..)
    rw [s_fm] at hx
    by_cases c : f = 44
    · rw [if_pos c] at hx
      by_cases d : p < L ∧ T p = 44
      · rw [if_pos d] at hx; exact ih _ (fun g hg => h g (List.mem_cons_of_mem _ hg)) x hx
      · rw [if_neg d] at hx; exact absurd hx List.not_mem_nil
    · rw [if_neg c] at hx
      by_cases d : s_fl f ≤ (s_dv T L (s_fh f) p 0).1
      · rw [if_pos d] at hx
        rcases List.mem_cons.mp hx with e | e
        · rw [e]
          have := s_dv_b (T := T) (L := L) (s_fh f) p 0 1 (by decide)
          rw [Nat.one_mul] at this
          omega
        · exact ih _ (fun g hg => h g (List.mem_cons_of_mem _ hg)) x e
      · rw [if_neg d] at hx; exact absurd hx List.not_mem_nil
theorem s_cl_ck {p : Nat} (h : (s_cl T L p).1 = 1) : CK (T p) (s_cl T L p).2.2 := by
  have hp := s_cl_1 h
  unfold s_cl at h ⊢
  rw [if_pos hp] at h ⊢
  by_cases c : s_fo (T p) = 6
  · rw [if_pos c] at h; exact absurd (show (0 : Nat) = 1 from h) (by decide)
  rw [if_neg c] at h ⊢
  have hn := s_fm_n _ _ h
  have hb : ∀ x, x ∈ (s_fm T L (s_form (T p)) (p + 1)).2.2 → x < 10000 := s_fm_b _ _ (fun f hf => by
    have h4 := (s_fh_le f).1
    rcases (show s_fh f = 0 ∨ s_fh f = 1 ∨ s_fh f = 2 ∨ s_fh f = 3 ∨ s_fh f = 4 by omega) with e | e | e | e | e <;> rw [e] <;> decide)
  refine ⟨?_, getD_b (by decide) hb⟩
  have key : T p = 98 ∨ T p = 99 ∨ T p = 108 ∨ T p = 115 ∨ T p = 116 ∨ T p = 119 := by
    unfold s_fo at c
    repeat' split at c
    all_goals first | omega | exact absurd rfl c
  rcases key with e | e | e | e | e | e
  · refine Or.inr (Or.inr (Or.inl ⟨e, by rw [hn, e]; rfl, ?_⟩))
    refine getD_b (by decide) (s_fm_b _ _ (fun f hf => ?_))
    rw [e] at hf
    have : f = 100 := by
      have h2 : f ∈ [100, 100, 100, 100, 100, 100] := hf
      simp only [List.mem_cons, List.not_mem_nil, or_false, or_self] at h2
      exact h2
    rw [this]
    decide
  · exact Or.inr (Or.inl ⟨e, by rw [hn, e]; rfl⟩)
  · exact Or.inr (Or.inr (Or.inr (Or.inl ⟨e, by rw [hn, e]; rfl⟩)))
  · exact Or.inr (Or.inr (Or.inr (Or.inr (Or.inl ⟨e, by rw [hn, e]; rfl⟩))))
  · exact Or.inr (Or.inr (Or.inr (Or.inr (Or.inr ⟨e, by rw [hn, e]; rfl⟩))))
  · exact Or.inl ⟨e, by rw [hn, e]; rfl⟩
theorem s_pa_ck : ∀ (m p : Nat), ∀ x, x ∈ (s_pa T L m p).2.2 → CK x.1 x.2 := by
  intro m
  induction m with
  | zero => intro p x hx; exact absurd hx List.not_mem_nil
  | succ m ih =>
    intro p x hx
    rw [s_pa] at hx
    by_cases c : (s_cl T L p).1 = 1
    · rw [if_pos c] at hx
      by_cases d : (s_cl T L p).2.1 = L
      · rw [if_pos d] at hx
        rcases List.mem_cons.mp hx with e | e
        · rw [e]; exact s_cl_ck c
        · exact absurd e List.not_mem_nil
      · rw [if_neg d] at hx
        by_cases e : m = 0
        · rw [if_pos e] at hx; exact absurd hx List.not_mem_nil
        · rw [if_neg e] at hx
          by_cases g : T (s_cl T L p).2.1 = 59
          · rw [if_pos g] at hx
            rcases List.mem_cons.mp hx with y | y
            · rw [y]; exact s_cl_ck c
            · exact ih _ x y
          · rw [if_neg g] at hx; exact absurd hx List.not_mem_nil
    · rw [if_neg c] at hx; exact absurd hx List.not_mem_nil
theorem x_ex {cnt : Nat} (hc : cnt ≤ 12) : ∀ (l : List (Nat × List Nat)) (n c k : Nat) (V : SV) (μ : Mem), l.length < n → k + l.length = cnt → c ≤ k → (∀ x, x ∈ l → CK x.1 x.2) → CA k l μ → μ.1 48 4 = nI cnt → SVok V → XSea 1 μ V → ∃ μ2, f_X10_read_b29 0 n (nI c) (nI k) μ = some (nI (s_ex l V c).2, μ2) ∧ SVok (s_ex l V c).1 ∧ XSea 1 μ2 (s_ex l V c).1 ∧ (∀ i, (i = 0 ∨ 7 < i) → μ2.1 i = μ.1 i ∧ μ2.2 i = μ.2 i) ∧ ∃ v, v ≤ 5 * l.length ∧ μ2.1 1 10 = μ.1 1 10 + nI v ∧ (v = 0 → μ2 = μ ∧ (s_ex l V c).1 = V) := by
  intro l
  induction l with
  | nil =>
    intro n c k V μ hn hk hcc hK hA h4 hV hX
    obtain ⟨n, rfl⟩ : ∃ t, n = t + 1 := ⟨n - 1, by omega⟩
    rw [List.length_nil] at hk
    rw [f_X10_read_b29]
    unfold f_X7_clauseCount
    rw [rf_0_4, h4, bnd_s, if_pos (nI_le (by omega) (by omega))]
    exact ⟨μ, rfl, hV, hX, fun _ _ => ⟨rfl, rfl⟩, 0, Nat.zero_le _, by
      show _ = _ + (0 : Int32)
      rw [Int32.add_zero], fun _ => ⟨rfl, rfl⟩⟩
  | cons x l ih =>
    intro n c k V μ hn hk hcc hK hA h4 hV hX
    obtain ⟨n, rfl⟩ : ∃ t, n = t + 1 := ⟨n - 1, by omega⟩
    rw [List.length_cons] at hk hn
    obtain ⟨a1, a2⟩ := hA 0 (by rw [List.length_cons]; omega)
    obtain ⟨μ2, d1, d2⟩ := x_doc hV hX (k := k) (cnt := cnt) (kd := x.1) (ns := x.2) (by omega) hc h4 a1 (fun j hj => a2 j hj) (hK x (List.mem_cons_self ..))
    rw [f_X10_read_b29]
    unfold f_X7_clauseCount
    rw [rf_0_4, h4, bnd_s, if_neg (nI_ge (by omega) (by omega)), bnd_e d1, show (1 : Int32) = nI 1 from rfl, lt_d, lt_d, lt_d, nI_add, nI_add]
    have step : ∀ V2, (s_do V x.1 x.2).getD V = V2 → SVok V2 → XSea 1 μ2 V2 → (∀ i, (i = 0 ∨ 7 < i) → μ2.1 i = μ.1 i ∧ μ2.2 i = μ.2 i) → (∃ w, w ≤ 5 ∧ μ2.1 1 10 = μ.1 1 10 + nI w ∧ (w = 0 → μ2 = μ ∧ V2 = V)) → ∃ μ3, f_X10_read_b29 0 n (nI (c + dn (s_do V x.1 x.2))) (nI (k + 1)) μ2 = some (nI (s_ex (x :: l) V c).2, μ3) ∧ SVok (s_ex (x :: l) V c).1 ∧ XSea 1 μ3 (s_ex (x :: l) V c).1 ∧ (∀ i, (i = 0 ∨ 7 < i) → μ3.1 i = μ.1 i ∧ μ3.2 i = μ.2 i) ∧ ∃ v, v ≤ 5 * (l.length + 1) ∧ μ3.1 1 10 = μ.1 1 10 + nI v ∧ (v = 0 → μ3 = μ ∧ (s_ex (x :: l) V c).1 = V) := by
      intro V2 e hV2 hX2 hF ⟨w, w1, w2, w3⟩
      have hdn := dn_le (s_do V x.1 x.2)
      have hA2 : CA (k + 1) l μ2 := fun i hi => by
        obtain ⟨b1, b2⟩ := hA (i + 1) (by rw [List.length_cons]; omega)
        rw [show k + (i + 1) = k + 1 + i by omega] at b1 b2
        exact ⟨by rw [(hF 50 (by omega)).1]; exact b1, fun j hj => by rw [(hF 51 (by omega)).1]; exact b2 j hj⟩
      have hcc2 : c + dn (s_do V x.1 x.2) ≤ k + 1 := by omega
      · obtain ⟨μ3, r1, r2, r3, r4, v, r5, r6, r7⟩ := ih n (c + dn (s_do V x.1 x.2)) (k + 1) V2 μ2 (by omega) (by omega) hcc2 (fun y hy => hK y (List.mem_cons_of_mem _ hy)) hA2 (by rw [(hF 48 (by omega)).1]; exact h4) hV2 hX2
        rw [s_ex, e]
        refine ⟨μ3, r1, r2, r3, fun i hi => ⟨(r4 i hi).1.trans (hF i hi).1, (r4 i hi).2.trans (hF i hi).2⟩, v + w, by omega, by rw [r6, w2, Int32.add_assoc, nI_add, Nat.add_comm], fun z => ?_⟩
        obtain ⟨y1, y2⟩ := w3 (by omega)
        obtain ⟨y3, y4⟩ := r7 (by omega)
        exact ⟨y3.trans y1, by rw [y4, y2]⟩
    rw [List.length_cons]
    rcases d2 with ⟨e1, e2⟩ | ⟨V2, e1, e2, e3, ⟨v, e4, e5, e6⟩, e7⟩
    · have := step V (by rw [e1]; rfl) hV (by rw [e2]; exact hX) (fun i _ => by rw [e2]; exact ⟨rfl, rfl⟩) ⟨0, by decide, by rw [e2]; show _ = _ + (0 : Int32); rw [Int32.add_zero], fun _ => ⟨e2, rfl⟩⟩
      rw [e1, dn_n, Nat.add_zero] at this
      rw [e1, dn_n, if_pos (show nI 0 = 0 from rfl)]
      exact this
    · have := step V2 (by rw [e1]; rfl) e2 e3 e7 ⟨v, e5, e6, fun z => by omega⟩
      rw [e1, dn_s] at this
      rw [e1, dn_s, nI_b1']
      exact this
/-- the reference's second reading: what it touches -/
def PF (μ μ2 : Mem) : Prop := μ2.2 = μ.2 ∧ (∀ i, (i < 85 ∨ 92 < i) → i ≠ 103 → μ2.1 i = μ.1 i) ∧ ∀ k, (k < 7 ∨ 9 < k) → k ≠ 26 → k ≠ 28 → μ2.1 85 k = μ.1 85 k
theorem PF.tr {a b c : Mem} (h : PF a b) (g : PF b c) : PF a c := ⟨g.1.trans h.1, fun i h1 h2 => (g.2.1 i h1 h2).trans (h.2.1 i h1 h2), fun k h1 h2 h3 => (g.2.2 k h1 h2 h3).trans (h.2.2 k h1 h2 h3)⟩
theorem RP.pf {a b : Mem} (h : RP a b) : PF a b := ⟨h.1, fun i h1 h2 => h.2.1 i (by omega) h2, fun k _ h2 h3 => h.2.2 k h2 h3⟩
theorem ME.pf {V : SV} {a b : Mem} (h : ME V a b) : PF a b := ⟨h.2.1, fun i h1 _ => h.2.2.1 i h1, fun k h1 _ _ => h.2.2.2 k h1⟩
theorem PF.rf (μ : Mem) : PF μ μ := ⟨rfl, fun _ _ _ => rfl, fun _ _ _ _ => rfl⟩
theorem MQ2.pf {μ μ2 : Mem} (h : MQ2 T L μ) (f : PF μ μ2) : MQ2 T L μ2 := ⟨by rw [f.2.2 25 (by decide) (by decide) (by decide)]; exact h.1, fun k hk => by rw [f.2.1 102 (by decide) (by decide)]; exact h.2 k hk⟩
theorem MSea.rp {V : SV} {μ μ2 : Mem} (h : MSea μ V) (f : RP μ μ2) : MSea μ2 V := h.cong (fun i _ _ => f.2.1 i (by omega) (by omega)) (fun k _ _ => f.2.2 k (by omega) (by omega))
theorem m_ex (ok : TOk T L) : ∀ (m n k p c : Nat) (V : SV) (μ : Mem), k + m = 12 → m < n → (s_pa T L m p).1 = 1 → MQ2 T L μ → μ.1 85 26 = nI p → p ≤ L → SVok V → (∀ (V2 : SV) (x : Nat × List Nat), CK x.1 x.2 → SVok V2 → SVok ((s_do V2 x.1 x.2).getD V2)) → MSea μ V → ∃ μ2, f_X11_clauses_b9 85 (nI 1) n (nI c) (nI k) μ = some (nI (s_ex (s_pa T L m p).2.2 V c).2, μ2) ∧ MSea μ2 (s_ex (s_pa T L m p).2.2 V c).1 ∧ PF μ μ2 := by
  have hL := ok.1
  intro m
  induction m with
  | zero => intro n k p c V μ _ _ h; exact absurd (show (0 : Nat) = 1 from h) (by decide)
  | succ m ih =>
    intro n k p c V μ hk hn h1 hQ h26 hpL hV hdo hM
    obtain ⟨n, rfl⟩ : ∃ t, n = t + 1 := ⟨n - 1, by omega⟩
    obtain ⟨μ2, r1, r2, r3, r4⟩ := m_cl ok hQ h26 hpL
    obtain ⟨hcL, hc1⟩ := s_cl_L (T := T) (L := L) hpL
    rw [s_pa] at h1 ⊢
    by_cases g1 : (s_cl T L p).1 = 1
    case neg => rw [if_neg g1] at h1; exact absurd (show (0 : Nat) = 1 from h1) (by decide)
    have ht := ok.2 p (s_cl_1 g1)
    have hck := s_cl_ck g1
    obtain ⟨μ3, d1, d2⟩ := m_doc hV (hM.rp r2) (kd := T p) (ns := (s_cl T L p).2.2) (r4 g1) hck
    have st : MSea μ3 ((s_do V (T p) (s_cl T L p).2.2).getD V) ∧ PF μ2 μ3 ∧ μ3.1 85 26 = μ2.1 85 26 := by
      rcases d2 with ⟨e1, e2⟩ | ⟨V2, e1, e2⟩
      · rw [e1, e2]; exact ⟨hM.rp r2, PF.rf μ2, rfl⟩
      · rw [e1]; exact ⟨e2.1, e2.pf, e2.2.2.2 26 (by omega)⟩
    obtain ⟨st1, st2, st3⟩ := st
    have hV3 := hdo V (T p, (s_cl T L p).2.2) hck hV
    rw [if_pos g1] at r1
    have FF := r2.pf.tr st2
    have Q3 := hQ.pf FF
    have h263 : μ3.1 85 26 = nI (s_cl T L p).2.1 := st3.trans r3
    rw [if_pos g1] at h1 ⊢
    rw [f_X11_clauses_b9, if_neg (show ¬ (12 : Int32) ≤ nI k from nI_ge (a := k) (b := 12) (by omega) (by omega)), bnd_e r1, if_pos (show (0 : Int32) ≤ nI (T p) from nI_le (Nat.zero_le _) (by omega)), nI_b1', bnd_e d1]
    have e47 : (if nI (dn (s_do V (T p) (s_cl T L p).2.2)) = 0 then f_X11_clauses_b46 85 (nI 1) (f_X11_clauses_b9 85 (nI 1) n) (nI k) (nI c) μ3 else f_X11_clauses_b47 85 (nI 1) (f_X11_clauses_b9 85 (nI 1) n) (nI k) (nI c) (1 : Int32) μ3) = f_X11_clauses_b47 85 (nI 1) (f_X11_clauses_b9 85 (nI 1) n) (nI k) (nI c) (nI (dn (s_do V (T p) (s_cl T L p).2.2))) μ3 := by
      have hd := dn_le (s_do V (T p) (s_cl T L p).2.2)
      rcases (show dn (s_do V (T p) (s_cl T L p).2.2) = 0 ∨ dn (s_do V (T p) (s_cl T L p).2.2) = 1 by omega) with e | e
      · rw [e, if_pos (show nI 0 = 0 from rfl)]; rfl
      · rw [e, nI_b1']; rfl
    rw [e47]
    unfold f_X11_clauses_b47
    rw [nI_add, lt_d, h263, Q3.1]
    simp (disch := omega) only [nI_eq]
    by_cases d : (s_cl T L p).2.1 = L
    · rw [if_pos d, if_pos d]
      exact ⟨μ3, rfl, st1, FF⟩
    · rw [if_neg d] at h1 ⊢
      rw [if_neg d]
      by_cases e : m = 0
      · rw [if_pos e] at h1; exact absurd (show (0 : Nat) = 1 from h1) (by decide)
      · rw [if_neg e] at h1 ⊢
        rw [if_neg (show ¬ nI k = (11 : Int32) from nI_ne (b := 11) (by omega) (by omega) (by omega)), bnd_e (m_here ok Q3 h263 hcL), show s_he T L (s_cl T L p).2.1 = nI (T (s_cl T L p).2.1) from if_neg (by omega)]
        by_cases g : T (s_cl T L p).2.1 = 59
        · rw [if_pos g] at h1 ⊢
          rw [if_pos (show nI (T (s_cl T L p).2.1) = (59 : Int32) from congrArg nI g), h263, show (1 : Int32) = nI 1 from rfl, nI_add, nI_add, lt_d, lt_d]
          have G : RP μ3 (sI μ3 85 26 (nI ((s_cl T L p).2.1 + 1))) := RP.s (Or.inr ⟨rfl, Or.inl rfl⟩)
          obtain ⟨μ4, v1, v2, v3⟩ := ih n (k + 1) ((s_cl T L p).2.1 + 1) (c + dn (s_do V (T p) (s_cl T L p).2.2)) _ _ (by omega) (by omega) h1 (Q3.rp G) sI_e (by omega) hV3 hdo (st1.rp G)
          exact ⟨μ4, v1, v2, FF.tr (G.pf.tr v3)⟩
        · rw [if_neg g] at h1; exact absurd (show (0 : Nat) = 1 from h1) (by decide)
theorem do_ok {V : SV} (hV : SVok V) {kd : Nat} {ns : List Nat} (hK : CK kd ns) : SVok ((s_do V kd ns).getD V) := by
  obtain ⟨hkd, hb⟩ := hK
  rcases hkd with ⟨rfl, hl⟩ | ⟨rfl, hl⟩ | ⟨rfl, hl, h10⟩ | ⟨rfl, hl⟩ | ⟨rfl, hl⟩ | ⟨rfl, hl⟩
  · rw [show s_do V 119 ns = (if ns.getD 0 0 < 4 ∧ ns.getD 1 0 < 4 ∧ ns.getD 2 0 < 8 ∧ ns.getD 3 0 < 4 then some (upV (upV V 0 (4 * ns.getD 0 0 + ns.getD 1 0) (ns.getD 2 0)) 1 (4 * ns.getD 0 0 + ns.getD 1 0) (ns.getD 3 0)) else none) from rfl]
    by_cases c : ns.getD 0 0 < 4 ∧ ns.getD 1 0 < 4 ∧ ns.getD 2 0 < 8 ∧ ns.getD 3 0 < 4
    · rw [if_pos c]; exact ok1 (ok0 hV c.2.2.1) c.2.2.2
    · rw [if_neg c]; exact hV
  · rw [show s_do V 99 ns = (if ns.getD 0 0 < 4 ∧ ns.getD 1 0 < 8 ∧ ns.getD 2 0 < 4 then some (upV (upV V 2 (ns.getD 0 0) (ns.getD 1 0)) 3 (ns.getD 0 0) (ns.getD 2 0)) else none) from rfl]
    by_cases c : ns.getD 0 0 < 4 ∧ ns.getD 1 0 < 8 ∧ ns.getD 2 0 < 4
    · rw [if_pos c]; exact ok3 (ok2 hV c.2.1) c.2.2
    · rw [if_neg c]; exact hV
  · rw [show s_do V 98 ns = (if 1 ≤ ns.getD 0 0 ∧ ns.getD 0 0 ≤ 3 then some (s_tab V (ns.getD 0 0) ns 5) else none) from rfl]
    split
    · exact tab_ok hV h10 5
    · exact hV
  · rw [show s_do V 108 ns = (if ns.getD 0 0 < 36 then (if V 6 (ns.getD 0 0) = 0 then (if ns.getD 0 0 = V 7 0 then none else some (upV V 6 (ns.getD 0 0) 1)) else some (upV V 6 (ns.getD 0 0) 0)) else none) from rfl]
    split
    · split
      · split
        · exact hV
        · rename_i c; exact ok6 hV (by decide) (Or.inr c)
      · exact ok6 hV (by decide) (Or.inl rfl)
    · exact hV
  · rw [show s_do V 115 ns = (if ns.getD 0 0 < 36 ∧ ns.getD 1 0 < 2 ∧ V 6 (ns.getD 0 0) = 0 then some (up7 V (ns.getD 0 0) (ns.getD 1 0) (ns.getD 2 0)) else none) from rfl]
    by_cases c : ns.getD 0 0 < 36 ∧ ns.getD 1 0 < 2 ∧ V 6 (ns.getD 0 0) = 0
    · rw [if_pos c]
      have := hb 2
      exact ok7 hV c.1 c.2.1 (by omega) c.2.2
    · rw [if_neg c]; exact hV
  · rw [show s_do V 116 ns = (if ns.getD 0 0 ≤ 60 ∧ ns.getD 1 0 ≤ 60 then some (upV (upV V 5 0 (ns.getD 0 0)) 5 1 (ns.getD 1 0)) else none) from rfl]
    by_cases c : ns.getD 0 0 ≤ 60 ∧ ns.getD 1 0 ≤ 60
    · rw [if_pos c]; exact ok5 (ok5 hV c.1) c.2
    · rw [if_neg c]; exact hV
end RD
theorem MI.pf {S : ST} {μ μ2 : Mem} {V2 : SV} (h : MI S μ) (hV : SVok V2) (hM : MSea μ2 V2) (f : PF μ μ2) : MI (V2, S.2) μ2 := by
  obtain ⟨⟨⟨g1, g2⟩, g3, g4⟩, m1, m2, ⟨m3, m4⟩, m5, m6⟩ := h
  have e1 : ∀ i, 92 < i → i ≠ 103 → μ2.1 i = μ.1 i := fun i h1 h2 => f.2.1 i (by omega) h2
  have e2 : ∀ k, (k < 7 ∨ 9 < k) → k ≠ 26 → k ≠ 28 → μ2.1 85 k = μ.1 85 k := f.2.2
  exact ⟨⟨⟨hV, g2⟩, g3, g4⟩, hM, m2.cong (fun i a b => e1 i (by omega) (by omega)) (fun k hk => e2 k (by omega) (by omega) (by omega)), ⟨by rw [e2 23 (by omega) (by omega) (by omega)]; exact m3, fun z => (m4 z).cong (e1 100 (by omega) (by omega))⟩, m5.cong (e2 25 (by omega) (by omega) (by omega)) (e1 102 (by omega) (by omega)), m6.cong (e1 106 (by omega) (by omega)) (e1 107 (by omega) (by omega)) (by rw [f.1])⟩
theorem call_read : CALL (f_X10_read 0) (f_X11_read 85) := by
  intro n S μ hn hX hM
  have hFU : FU = 1000000000000 := rfl
  have hok := hX.1.2.2.2.1
  obtain ⟨T, hT⟩ : ∃ T, T = S.2.2.2.2.1 2 := ⟨_, rfl⟩
  obtain ⟨L, hL⟩ : ∃ L, L = S.2.2.2.2.1 1 0 := ⟨_, rfl⟩
  have ok : TOk T L := by rw [hT, hL]; exact hok
  obtain ⟨X, hXd⟩ : ∃ X, X = upV S.2.2.2.2.1 1 0 0 := ⟨_, rfl⟩
  have x10 : X 1 0 = 0 := by rw [hXd, upV_e]
  have xn : ∀ i, i ≠ 1 → X i = S.2.2.2.2.1 i := fun i hi => by funext j; rw [hXd, upV_n (Or.inl hi)]
  have okX : X 1 0 ≤ 100 ∧ ∀ k, k < X 1 0 → X 2 k < 128 := by rw [x10]; exact ⟨by decide, fun k hk => absurd hk (Nat.not_lt_zero k)⟩
  -- the class parses
  have Q0 : XQ T L μ := by rw [hT, hL]; exact hX.2.2.2.2.1
  obtain ⟨ν, hν⟩ : ∃ ν, ν = sI (sI μ 48 6 (nI 0)) 48 4 (nI 0) := ⟨_, rfl⟩
  have Q1 : XQ T L ν := ⟨by rw [hν, sI_n (Or.inr (by decide)), sI_n (Or.inr (by decide))]; exact Q0.1, fun k hk => by rw [hν, sI_o (by decide), sI_o (by decide)]; exact Q0.2 k hk⟩
  obtain ⟨μ1, p1, p2, p3, p4, p5, p6, p7⟩ := x_pa ok 12 FU 0 0 ν rfl (by omega) Q1 (by rw [hν, sI_n (Or.inr (by decide)), sI_e]) (Nat.zero_le _) (by rw [hν, sI_e])
  have eP : f_X7_parse 48 μ = some (if (s_pa T L 12 0).1 = 1 then -nI 1 else nI (s_pa T L 12 0).2.1, μ1) := by
    unfold f_X7_parse
    simp only [lt_d]
    rw [show sI (sI μ 48 6 (0 : Int32)) 48 4 (0 : Int32) = ν from hν.symm]
    exact p1
  obtain ⟨μ2, hμ2⟩ : ∃ μ2, μ2 = sI μ1 48 1 (nI 0) := ⟨_, rfl⟩
  have eC : f_X7_clear 48 μ1 = some μ2 := by
    unfold f_X7_clear
    rw [lt_d, hμ2]
    rfl
  have f2 : ∀ i, i < 48 ∨ 51 < i → μ2.1 i = μ.1 i ∧ μ2.2 i = μ.2 i := fun i hi => by
    rw [hμ2]
    exact ⟨by rw [sI_o (by omega), p4 i (by omega) (by omega) (by omega), hν, sI_o (by omega), sI_o (by omega)], by show μ1.2 i = _; rw [p3, hν]; rfl⟩
  have hX2 : XI n (upX S X) μ2 := hX.text (xn 0 (by decide) ▸ rfl) (xn 3 (by decide)) (xn 4 (by decide)) okX ⟨by
    show μ2.1 48 1 = nI (X 1 0)
    rw [x10, hμ2, sI_e], fun k hk => by
    have hk2 : k < X 1 0 := hk
    rw [x10] at hk2
    exact absurd hk2 (Nat.not_lt_zero k)⟩ f2
  have eR : f_X10_read 0 μ = (if (if (s_pa T L 12 0).1 = 1 then -nI 1 else nI (s_pa T L 12 0).2.1) = -nI 1 then f_X10_read_b29 0 FU (nI 0) (nI 0) μ2 else some (-nI 10 - (if (s_pa T L 12 0).1 = 1 then -nI 1 else nI (s_pa T L 12 0).2.1), μ2)) := by
    unfold f_X10_read
    rw [rf_0_4, bnd_e eP, bnv_e eC]
    rfl
  -- the reference reads for the first time
  have ref1 : ∀ μ, MI S μ → ∃ μ3, f_X11_clauses 85 (nI 0) μ = some (if (s_pa T L 12 0).1 = 1 then nI 0 else -nI 1, μ3) ∧ RP μ μ3 ∧ ((s_pa T L 12 0).1 ≠ 1 → μ3.1 85 26 = nI (s_pa T L 12 0).2.1) := by
    intro μ hM
    have F : RP μ (sI μ 85 26 (nI 0)) := RP.s (Or.inr ⟨rfl, Or.inl rfl⟩)
    have Q : MQ2 T L μ := by rw [hT, hL]; exact hM.2.2.2.2.1
    obtain ⟨μ3, r1, r2, r3⟩ := m_pa ok 12 FU 0 0 (sI μ 85 26 (nI 0)) rfl (by omega) (Q.rp F) sI_e (Nat.zero_le _)
    refine ⟨μ3, ?_, F.tr r2, r3⟩
    unfold f_X11_clauses
    rw [lt_d]
    exact r1
  have clr : ∀ S2 μ, MI S2 μ → S2.2.2.2.2.1 = S.2.2.2.2.1 → MI (upX S2 X) (sI μ 85 25 (nI 0)) := by
    intro S2 μ h e
    refine h.text (by rw [e, xn 0 (by decide)]) (by rw [e]; exact xn 3 (by decide)) (by rw [e]; exact xn 4 (by decide)) okX ⟨?_, fun k hk => ?_⟩ (fun i h1 h2 => ⟨sI_o (by omega), rfl⟩) (fun k hk => sI_n (Or.inr hk))
    · show _ = nI (X 1 0)
      rw [x10, sI_e]
    · have hk2 : k < X 1 0 := hk
      rw [x10] at hk2
      exact absurd hk2 (Nat.not_lt_zero k)
  have rpq : ∀ a b : Mem, RP a b → Qm a b := fun a b h => ⟨fun i hi => ⟨h.2.1 i (by omega) (by omega), by rw [h.1]⟩, fun i a1 a2 a3 a4 a5 a6 => ⟨h.2.1 i (by omega) a3, by rw [h.1]⟩, fun k a1 a2 _ _ _ _ _ => h.2.2 k a1 a2⟩
  by_cases g : (s_pa T L 12 0).1 = 1
  · rw [if_pos g, if_pos rfl] at eR
    obtain ⟨q1, q2, q3⟩ := p2 g
    have hA : CA 0 (s_pa T L 12 0).2.2 μ2 := fun i hi => by
      obtain ⟨b1, b2⟩ := q3 i hi
      rw [hμ2]
      exact ⟨by rw [sI_o (by decide)]; exact b1, fun j hj => by rw [sI_o (by decide)]; exact b2 j hj⟩
    have h4 : μ2.1 48 4 = nI (0 + (s_pa T L 12 0).2.2.length) := by rw [hμ2, sI_n (Or.inr (by decide))]; exact q1
    obtain ⟨hV, hS2⟩ := hX2.sea
    obtain ⟨μ4, t1, t2, t3, t4, v, t5, t6, t7⟩ := x_ex (cnt := 0 + (s_pa T L 12 0).2.2.length) q2 (s_pa T L 12 0).2.2 FU 0 0 S.1 μ2 (by omega) rfl (Nat.le_refl _) (s_pa_ck 12 0) hA h4 hV hS2
    generalize hE : s_ex (s_pa T L 12 0).2.2 S.1 0 = E at *
    have hX4 : XI (n + 1) (E.1, (upX S X).2) μ4 := by
      by_cases v0 : v = 0
      · obtain ⟨w1, w2⟩ := t7 v0
        rw [w1, w2]
        exact hX2.up (by omega)
      · exact hX2.bump (k := v) t2 t3 t4 t6 (by omega) (by omega) hn
    have hh : hi μ μ4 := fun i hi => ⟨(t4 i (by omega)).1.trans (f2 i (by omega)).1, (t4 i (by omega)).2.trans (f2 i (by omega)).2⟩
    have hM4 := hM.hi hh
    obtain ⟨μ5, r1, r2, r3⟩ := ref1 μ4 hM4
    have hM5 := hM4.q (rpq _ _ r2)
    have F : RP μ5 (sI μ5 85 26 (nI 0)) := RP.s (Or.inr ⟨rfl, Or.inl rfl⟩)
    have Q5 : MQ2 T L μ5 := by rw [hT, hL]; exact hM5.2.2.2.2.1
    obtain ⟨μ6, y1, y2, y3⟩ := m_ex ok 12 FU 0 0 0 S.1 (sI μ5 85 26 (nI 0)) rfl (by omega) g (Q5.rp F) sI_e (Nat.zero_le _) hV (fun V2 x hK h2 => do_ok h2 hK) (hM5.2.1.rp F)
    rw [hE] at y1 y2
    have hM6 := hM5.pf t2 y2 (F.pf.tr y3)
    have ref2 : f_X11_clauses 85 (nI 1) μ5 = some (nI E.2, μ6) := by
      unfold f_X11_clauses
      rw [lt_d]
      exact y1
    have hlo : lo μ4 (sI μ6 85 25 (nI 0)) := fun i hi => ⟨by rw [sI_o (by omega), y3.2.1 i (by omega) (by omega), sI_o (by omega), r2.2.1 i (by omega) (by omega)], by show μ6.2 i = _; rw [y3.1]; show μ5.2 i = _; rw [r2.1]⟩
    refine ⟨nI E.2, μ4, sI μ6 85 25 (nI 0), upX (E.1, S.2) X, ?_, ?_, hX4.lo hlo, clr _ _ hM6 rfl⟩
    · rw [eR]; exact t1
    · unfold f_X11_read f_X11_read_b23
      rw [bnd_e (show f_X11_clauses 85 (0 : Int32) μ4 = _ from r1), if_pos g, if_pos (show (0 : Int32) ≤ nI 0 by decide), bnd_e (show f_X11_clauses 85 (1 : Int32) μ5 = _ from ref2), lt_d]
      rfl
  · rw [if_neg g] at eR
    have hfb : (s_pa T L 12 0).2.1 < 2 ^ 31 := by
      have : ∀ m p, p ≤ L → (s_pa T L m p).2.1 ≤ L := by
        intro m
        induction m with
        | zero => intro p hp; exact hp
        | succ m ih =>
          intro p hp
          have hc := (s_cl_L (T := T) (L := L) hp).1
          rw [s_pa]
          split
          · split
            · exact Nat.le_refl _
            · split
              · exact hc
              · split
                · rename_i z1 z2 z3
                  exact ih _ (by omega)
                · exact hc
          · exact hc
      have := this 12 0 (Nat.zero_le _)
      have := ok.1
      omega
    rw [if_neg (nI_m1 hfb)] at eR
    have hh : hi μ μ2 := fun i hi => f2 i (by omega)
    have hM2 := hM.hi hh
    obtain ⟨μ5, r1, r2, r3⟩ := ref1 μ2 hM2
    have hM5 := hM2.q (rpq _ _ r2)
    have hlo : lo μ2 (sI μ5 85 25 (nI 0)) := fun i hi => ⟨by rw [sI_o (by omega), r2.2.1 i (by omega) (by omega)], by show μ5.2 i = _; rw [r2.1]⟩
    refine ⟨-nI 10 - nI (s_pa T L 12 0).2.1, μ2, sI μ5 85 25 (nI 0), upX S X, eR, ?_, (hX2.lo hlo).up (Nat.le_succ n), clr _ _ hM5 rfl⟩
    unfold f_X11_read f_X11_read_b23
    rw [bnd_e (show f_X11_clauses 85 (0 : Int32) μ2 = _ from r1), if_neg g, if_neg (show ¬ (0 : Int32) ≤ -nI 1 by decide), r3 g, lt_d]
    rfl
