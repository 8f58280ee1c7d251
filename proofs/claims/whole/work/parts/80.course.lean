/-! course -/
def XW (μ μ2 : Mem) : Prop := μ2.2 = μ.2 ∧ (∀ i, i ≠ 21 → i ≠ 28 → i ≠ 29 → μ2.1 i = μ.1 i) ∧ ∀ k, k ≠ 7 → μ2.1 21 k = μ.1 21 k
theorem XW.rf (μ : Mem) : XW μ μ := ⟨rfl, fun _ _ _ _ => rfl, fun _ _ => rfl⟩
theorem XW.tr {a b c : Mem} (h : XW a b) (g : XW b c) : XW a c := ⟨g.1.trans h.1, fun i a1 a2 a3 => (g.2.1 i a1 a2 a3).trans (h.2.1 i a1 a2 a3), fun k hk => (g.2.2 k hk).trans (h.2.2 k hk)⟩
theorem XW.s {μ : Mem} {i k : Nat} {v : Int32} (h : i = 29 ∨ (i = 21 ∧ k = 7)) : XW μ (sI μ i k v) := ⟨rfl, fun j a b c => sI_o (by omega), fun j hj => sI_n (by omega)⟩
theorem XW.of {a b : Mem} (h : XL 0 a b) : XW a b := ⟨h.1, fun i _ a2 _ => h.2 i a2, fun k _ => by rw [h.2 21 (by decide)]⟩
theorem XW.xf {a b : Mem} (h : XW a b) : XF 0 a b := ⟨h.1, fun i hi => h.2.1 i (by omega) (by omega) (by omega)⟩
theorem CO.w {μ : Mem} {V : SV} {v : Nat → Nat} {i k : Nat} {x : Int32} (h : CO 0 μ V v) (hi : i = 29 ∨ i = 21) : CO 0 (sI μ i k x) V v := by
  obtain ⟨h1, h2, h3, h4, h5⟩ := h
  refine ⟨h1, h2.cong (fun j hj => sI_o (by omega)) rfl (fun j _ _ => sI_n (Or.inl (by omega))), fun k hk => ?_, fun k hk => ?_, fun k hk => ?_⟩
  · rw [sI_o (by omega), sI_o (by omega), sI_o (by omega)]; exact h3 k hk
  · rw [sI_o (by omega)]; exact h4 k hk
  · rw [sI_o (by omega)]; exact h5 k hk
section CW
variable {V : SV} {v : Nat → Nat}
theorem CH.lt8 : ∀ {l : List Nat} {s : Nat}, CH V v l s → ∀ j, j < l.length → l.getD j 0 < 8
  | [], _, _, j, hj => absurd hj (Nat.not_lt_zero j)
  | h :: t, s, ⟨c, a, b, d, f⟩, j, hj => by
    cases j with
    | zero => show h < 8; omega
    | succ j => exact CH.lt8 f j (by rw [List.length_cons] at hj; omega)
theorem x_ct55 (hV : SVok V) (a1 : Int32) : ∀ (l : List Nat) (n s c i : Nat) (μ : Mem), l.length < n → s < 72 → CH V v l s → LW V v s c → c ≤ 576 → i + l.length ≤ 72 → CO 0 μ V v → μ.1 21 7 = nI i → ∃ μf, f_X1_layCourse_b55 21 a1 n (lcode c) (nI i) μ = some (nI (i + l.length), μf) ∧ XW μ μf ∧ CO 0 μf V v ∧ μf.1 21 7 = nI (i + l.length) ∧ (∀ j, j < l.length → μf.1 29 (i + j) = nI (l.getD j 0)) ∧ ∀ j, j < i → μf.1 29 j = μ.1 29 j := by
  intro l
  induction l with
  | nil =>
    intro n s c i μ hn hs hch hw hc hi hC h7
    obtain ⟨n, rfl⟩ : ∃ m, n = m + 1 := ⟨n - 1, by omega⟩
    have e : c = 576 := (LW.one hw hch)
    subst e
    rw [List.length_nil] at hi
    refine ⟨μ, ?_, XW.rf μ, hC, h7, fun j hj => absurd hj (Nat.not_lt_zero j), fun _ _ => rfl⟩
    rw [f_X1_layCourse_b55]
    simp (disch := omega) only [il, nI_leI]
    rw [show lcode 576 = -nI 5 from rfl, if_pos rfl, h7]
    by_cases z : 72 ≤ i
    · rw [if_pos z]; rfl
    · rw [if_neg z]; rfl
  | cons h t ih =>
    intro n s c i μ hn hs hch hw hc hi hC h7
    obtain ⟨n, rfl⟩ : ∃ m, n = m + 1 := ⟨n - 1, by omega⟩
    obtain ⟨c2, hc2, hw2, hh, ht⟩ := hch
    have e := LW.one hw hw2
    subst e
    obtain ⟨p1, p2, p3, p4⟩ := lcode_p hc2
    rw [List.length_cons] at hi hn
    rw [f_X1_layCourse_b55]
    rw [p1]
    generalize hX : 100 * (c / 16) + 10 * (c / 8 % 2) + c % 8 = X at *
    have hXb : X < 10000 := by omega
    simp (disch := omega) only [il, nI_leI]
    rw [if_neg (show ¬ 72 ≤ i by omega), if_neg (m5_nI (by omega))]
    simp (disch := omega) only [rf_21_6, al_29, gA_n, nI_clamp, lt_d, pk_mul, pk_div, pk_sub, n_rem, nI_add]
    rw [p2, p3, p4]
    have h7b : (sI μ 29 i (nI (c % 8))).1 21 7 = nI i := by rw [sI_o (by decide)]; exact h7
    rw [h7b, nI_add]
    have F1 : XW μ (sI (sI μ 29 i (nI (c % 8))) 21 7 (nI (i + 1))) := (XW.s (Or.inl rfl)).tr (XW.s (Or.inr ⟨rfl, rfl⟩))
    have C1 : CO 0 (sI (sI μ 29 i (nI (c % 8))) 21 7 (nI (i + 1))) V v := (hC.w (Or.inl rfl)).w (Or.inr rfl)
    obtain ⟨g1, g2⟩ := hw.dn hV hc2
    obtain ⟨μ3, c3, q1, q2, q3, q4⟩ := x_lastOf hV (e := 0) (by decide) C1 (q := c / 16) (sd := c / 8 % 2) (by omega) (by omega)
    rw [show 2 * (c / 16) + c / 8 % 2 = c / 8 by omega] at q2
    rw [bnd_e q1]
    have hc3 : c3 ≤ 576 := by rcases q2 with z | z <;> omega
    have h73 : μ3.1 21 7 = nI (i + 1) := by rw [q3.2 21 (by decide), sI_e]
    have F3 : XW μ μ3 := F1.tr (XW.of q3)
    obtain ⟨μf, r1, r2, r3, r4, r5, r6⟩ := ih n (c / 8) c3 (i + 1) μ3 (by omega) g1 ht q2 hc3 (by omega) q4 h73
    have e29 : ∀ j, j ≠ i → μ3.1 29 j = μ.1 29 j := fun j hj => by
      rw [q3.2 29 (by decide), sI_o (by decide), sI_n (Or.inr hj)]
    have e29i : μ3.1 29 i = nI (c % 8) := by
      rw [q3.2 29 (by decide), sI_o (by decide), sI_e]
    refine ⟨μf, ?_, F3.tr r2, r3, ?_, fun j hj => ?_, fun j hj => ?_⟩
    · rw [r1, List.length_cons, show i + 1 + t.length = i + (t.length + 1) by omega]
    · rw [r4, List.length_cons]; exact congrArg nI (by omega)
    · cases j with
      | zero => rw [Nat.add_zero, r6 i (by omega), e29i, hh]; rfl
      | succ j =>
        rw [show i + (j + 1) = i + 1 + j by omega, r5 j (by rw [List.length_cons] at hj; omega)]
        rfl
    · rw [r6 j (by omega), e29 j (by omega)]
def s_sid (v : Nat → Nat) (q : Nat) : Nat := if v (2 * q + 1) < v (2 * q) then 1 else 0
theorem s_sid_lt (v : Nat → Nat) (q : Nat) : s_sid v q < 2 := by unfold s_sid; split <;> omega
theorem x_course (hV : SVok V) {μ : Mem} {q : Nat} {l : List Nat} (hC : CO 0 μ V v) (hq : q < 36) (hl : CH V v l (2 * q + s_sid v q)) : ∃ μf, f_X1_layCourse 21 (nI q) μ = some (if s_lq v q = NV then -nI 5 else nI l.length, μf) ∧ XW μ μf ∧ CO 0 μf V v ∧ (s_lq v q ≠ NV → μf.1 21 7 = nI l.length ∧ ∀ j, j < l.length → μf.1 29 j = nI (l.getD j 0)) := by
  have hNV : NV = 1000000000 := rfl
  have hFU : FU = 1000000000000 := rfl
  have hL := hC.1
  have a := hL.2.1 (2 * q) (by omega)
  have b := hL.2.1 (2 * q + 1) (by omega)
  have hb := s_lq_le hL hq
  have hs := s_sid_lt v q
  have C1 : CO 0 (sI μ 21 7 (nI 0)) V v := hC.w (Or.inr rfl)
  have F1 : XW μ (sI μ 21 7 (nI 0)) := XW.s (Or.inr ⟨rfl, rfl⟩)
  unfold f_X1_layCourse
  simp only [il]
  rw [lt_d, bnd_e (x_lsq (e := 0) (by decide) hL C1 hq)]
  by_cases c : s_lq v q = NV
  · rw [if_pos c, if_pos (show nI (s_lq v q) = nI 1000000000 from congrArg nI c)]
    exact ⟨_, rfl, F1, C1, fun z => absurd c z⟩
  · rw [if_neg c, if_neg (nI_ne (by omega) (by omega) (show s_lq v q ≠ 1000000000 from c))]
    have r0 : (sI μ 21 7 (nI 0)).1 26 (2 * q) = nI (v (2 * q)) := C1.2.2.2.1 _ (by omega)
    have r1 : (sI μ 21 7 (nI 0)).1 26 (2 * q + 1) = nI (v (2 * q + 1)) := C1.2.2.2.1 _ (by omega)
    simp (disch := omega) only [rf_21_2, al_26, pk_mul, nI_add, gA_n, nI_clamp, r0, r1, nI_ltI]
    obtain ⟨μ3, c3, q1, q2, q3, q4⟩ := x_lastOf hV (e := 0) (by decide) C1 hq hs
    have hc3 : c3 ≤ 576 := by rcases q2 with z | z <;> omega
    have hlen : l.length ≤ 71 := by
      have g1 := CH.len hV (by omega) hl
      have g2 := s_bel_lt (v := v) (s := 2 * q + s_sid v q) (by omega)
      omega
    obtain ⟨μf, r1, r2, r3, r4, r5, r6⟩ := x_ct55 hV (nI q) l FU (2 * q + s_sid v q) c3 0 μ3 (by omega) (by omega) hl q2 hc3 (by omega) q4 (by rw [q3.2 21 (by decide), sI_e])
    rw [Nat.zero_add] at r1 r4
    have e44 : f_X1_layCourse_b44 21 (nI q) (nI (s_sid v q)) (sI μ 21 7 (nI 0)) = some (nI l.length, μf) := by
      unfold f_X1_layCourse_b44
      rw [bnd_e q1]
      exact r1
    refine ⟨μf, ?_, (F1.tr (XW.of q3)).tr r2, r3, fun _ => ⟨r4, fun j hj => by have := r5 j hj; rw [Nat.zero_add] at this; exact this⟩⟩
    unfold s_sid at e44
    by_cases d : v (2 * q + 1) < v (2 * q)
    · rw [if_pos d] at e44 ⊢; exact e44
    · rw [if_neg d] at e44 ⊢; exact e44
theorem m_course (hV : SVok V) (hL : IsL V v) {μ : Mem} {q : Nat} {l : List Nat} (hM : MSea μ V) (hR : MLr μ v) (hq : q < 36) (hl : CH V v l (2 * q + s_sid v q)) (hn : s_lq v q ≠ NV) : ∃ μf, f_X11_courseTo 85 (nI q) μ = some μf ∧ MFc μ μf ∧ μf.1 85 35 = nI l.length ∧ ∀ j, j < l.length → μf.1 105 j = nI (l.getD j 0) := by
  have hNV : NV = 1000000000 := rfl
  have hFU : FU = 1000000000000 := rfl
  have a := hL.2.1 (2 * q) (by omega)
  have b := hL.2.1 (2 * q + 1) (by omega)
  have e : s_lq v q = min (v (2 * q)) (v (2 * q + 1)) := rfl
  have hs := s_sid_lt v q
  have F1 : MFc μ (sI μ 85 35 (nI 0)) := MFc.s (Or.inr ⟨rfl, rfl⟩)
  obtain ⟨μ3, c3, q1, q2, q3⟩ := m_lastOf hV hL (s := 2 * q + s_sid v q) (by omega) (hM.fc F1) (fun k hk => by rw [F1.2.1 104 (by decide) (by decide)]; exact hR k hk)
  have F3 : MFc μ μ3 := F1.tr (MFc.of q2)
  have hc3 : c3 ≤ 576 := by rcases q3 with z | z <;> omega
  have hlen : l.length ≤ 71 := by
    have g1 := CH.len hV (by omega) hl
    have g2 := s_bel_lt (v := v) (s := 2 * q + s_sid v q) (by omega)
    omega
  obtain ⟨μf, r1, r2, r3, r4, r5⟩ := m_ct66 hV hL (nI q) l FU (2 * q + s_sid v q) c3 0 μ3 (by omega) (by omega) hl q3 hc3 (by omega) (hM.fc F3) (fun k hk => by rw [F3.2.1 104 (by decide) (by decide)]; exact hR k hk) (by rw [q2.2.2 35 (by decide) (by decide) (by decide) (by decide), sI_e])
  rw [Nat.zero_add] at r3
  have e53 : f_X11_courseTo_b53 85 (nI q) (nI (2 * q)) (nI (s_sid v q)) μ = some μf := by
    unfold f_X11_courseTo_b53
    simp only [il, lt_d, nI_add]
    rw [bnd_e q1]
    exact r1
  refine ⟨μf, ?_, F3.tr r2, r3, fun j hj => by have := r4 j hj; rw [Nat.zero_add] at this; exact this⟩
  unfold f_X11_courseTo f_X11_courseTo_b48 f_X11_courseTo_b52
  simp (disch := omega) only [il, rf_85_0, rf_85_1, rf_85_2, rf_85_3, rf_85_4, rf_85_5, rf_85_6, rf_85_11, rf_85_13, rf_85_14, rf_85_16, rf_85_17, rf_85_19, rf_85_20, rf_85_21, rf_85_22, rf_85_24, rf_85_27, rf_85_33, rf_85_34, rf_85_36, rf_85_37, rf_85_38, rf_85_39, al_86, al_87, al_88, al_89, al_90, al_91, al_92, al_93, al_94, al_95, al_96, al_97, al_98, al_99, al_100, al_101, al_102, al_103, al_104, al_105, al_106, al_107, al_108, al_109, pk_mul, nI_add, gA_n, nI_clamp, hR (2 * q) (by omega), hR (2 * q + 1) (by omega)]
  unfold s_sid at e53
  by_cases c1 : v (2 * q) = NV
  · rw [if_pos (show v (2 * q + 1) < v (2 * q) by omega)] at e53
    rw [c1, enc_nv, if_pos (by decide)]
    exact e53
  · rw [enc_n (by omega : v (2 * q) < NV), if_neg (nI_lt0 (by omega))]
    by_cases c2 : v (2 * q + 1) = NV
    · rw [if_neg (show ¬ v (2 * q + 1) < v (2 * q) by omega)] at e53
      rw [c2, enc_nv, if_pos (by decide)]
      exact e53
    · rw [enc_n (by omega : v (2 * q + 1) < NV), if_neg (nI_lt0 (by omega))]
      simp (disch := omega) only [nI_leI]
      by_cases c3 : v (2 * q + 1) < v (2 * q)
      · rw [if_pos c3] at e53
        rw [if_neg (by omega)]; exact e53
      · rw [if_neg c3] at e53
        rw [if_pos (by omega)]; exact e53
end CW
theorem m1_or {x : Int32} (h : -nI 1 ≤ x) : x = -nI 1 ∨ ∃ k, k < 2 ^ 31 ∧ x = nI k := by
  by_cases c : x < nI 0
  · left
    rw [Int32.le_iff_toInt_le] at h
    rw [Int32.lt_iff_toInt_lt] at c
    rw [show (nI 0).toInt = 0 by decide] at c
    rw [show (-nI 1).toInt = -1 by decide] at h
    apply Int32.toInt_inj.mp
    rw [show (-nI 1).toInt = -1 by decide]
    omega
  · exact Or.inr (argn c)
theorem m1_lt {n : Nat} (hn : n < 2 ^ 31) : -nI 1 < nI n := by
  have h1 : nI 0 ≤ nI n := nI_le (Nat.zero_le _) hn
  rw [Int32.le_iff_toInt_le] at h1
  rw [Int32.lt_iff_toInt_lt]
  rw [show (nI 0).toInt = 0 by decide] at h1
  rw [show (-nI 1).toInt = -1 by decide]
  omega
/-- a course was laid -/
theorem XI.xw {n : Nat} {S : ST} {μ μ2 : Mem} {v : Nat → Nat} (h : XI n S μ) (f : XW μ μ2) (hC : CO 0 μ2 S.1 v) : XI n S μ2 :=
  h.xf f.xf ⟨hC.2.1, fun _ => ⟨v, hC⟩, fun _ => hC.2.2.1⟩ (Or.inl (f.2.2 8 (by decide))) (Or.inl (by rw [f.2.1 22 (by decide) (by decide) (by decide)]))
theorem call_course (a1 a2 : Int32) : CALL (f_X10_course 0 a1 a2) (f_X11_course 85 a1 a2) := by
  intro n S μ hn hX hM
  have hNV : NV = 1000000000 := rfl
  obtain ⟨b1, x1, m1, h1⟩ := arg_sq a1
  rcases h1 with rfl | ⟨rfl, q, hq, rfl⟩
  · exact call_q hX hM (r := -nI 1) (by unfold f_X10_course; simp only [il]; rw [bnd_e (x1 _), nI_b0]) (by unfold f_X11_course; simp only [il]; rw [bnd_e (m1 _), nI_b0])
  rcases Classical.em (-nI 1 ≤ a2) with ha | ha
  case inr => exact call_q hX hM (r := -nI 1) (by unfold f_X10_course; simp only [il]; rw [bnd_e (x1 _), nI_b1, if_neg ha]) (by unfold f_X11_course; simp only [il]; rw [bnd_e (m1 _), nI_b1, if_neg ha])
  have hV := hX.1.1.1
  obtain ⟨μ1, f1, f2, f3, f4⟩ := hX.fr
  have hL := f4.1
  have hs := s_sid_lt (s_L S.1) q
  have hb := s_lq_le hL hq
  obtain ⟨l, hl⟩ := CH.ex hV hL (s_L S.1 (2 * q + s_sid (s_L S.1) q)) (2 * q + s_sid (s_L S.1) q) rfl (by omega)
  obtain ⟨μ2, g1, g2, g3, g4⟩ := x_course hV f4 hq hl
  have hh : hi μ μ2 := f3.tr g2.xf.hi
  have hX2 := f2.xw g2 g3
  obtain ⟨μ3, s1, s2, s3, s4⟩ := (hM.hi hh).seek
  by_cases c : s_lq (s_L S.1) q = NV
  · rw [if_pos c] at g1
    refine call_0 (r := -nI 5) hX2 hM ?_ hh ?_ s2
    · unfold f_X10_course; simp only [il]
      rw [bnd_e (x1 _), nI_b1, if_pos ha, bnd_e f1, gK0, bnd_e g1]
      exact if_pos rfl
    · unfold f_X11_course; simp only [il]
      rw [bnd_e (m1 _), nI_b1, if_pos ha, bnv_e s1, bnd_e (m_lsq hL s4 hq), c, enc_nv, if_neg (by decide)]
  · rw [if_neg c] at g1
    obtain ⟨k1, k2⟩ := g4 c
    obtain ⟨μ4, t1, t2, t3, t4⟩ := m_course hV hL s3.2.1 s4 hq hl c
    have hlen : l.length ≤ 71 := by
      have g1 := CH.len hV (by omega) hl
      have g2 := s_bel_lt (v := s_L S.1) (s := 2 * q + s_sid (s_L S.1) q) (by omega)
      omega
    have eX : f_X10_course 0 (nI q) a2 μ = (if a2 < nI l.length then (if a2 = -nI 1 then some (nI l.length, μ2) else bnd (f_X1_courseHeading 21 a2 μ2) (fun r8 μ7 => some (r8, μ7))) else some (-nI 5, μ2)) := by
      unfold f_X10_course; simp only [il, rf_0_2]
      rw [bnd_e (x1 _), nI_b1, if_pos ha, bnd_e f1, gK0, bnd_e g1, if_neg (m5_nI (by omega))]
    have eM : f_X11_course 85 (nI q) a2 μ2 = (if nI 0 ≤ a2 then (if nI l.length ≤ a2 then some (-nI 5, μ4) else gA ((nI l.length - nI 1) - a2) 72 (some (μ4.1 105 ((nI l.length - nI 1) - a2).toNatClampNeg, μ4))) else some (nI l.length, μ4)) := by
      unfold f_X11_course; simp only [il]
      rw [bnd_e (m1 _), nI_b1, if_pos ha, bnv_e s1, bnd_e (m_lsq hL s4 hq), enc_n (by omega), if_pos (nI_le (Nat.zero_le _) (by omega)), bnv_e t1, t3]
      simp only [rf_85_0, rf_85_1, rf_85_2, rf_85_3, rf_85_4, rf_85_5, rf_85_6, rf_85_11, rf_85_13, rf_85_14, rf_85_16, rf_85_17, rf_85_19, rf_85_20, rf_85_21, rf_85_22, rf_85_24, rf_85_27, rf_85_33, rf_85_34, rf_85_36, rf_85_37, rf_85_38, rf_85_39, al_86, al_87, al_88, al_89, al_90, al_91, al_92, al_93, al_94, al_95, al_96, al_97, al_98, al_99, al_100, al_101, al_102, al_103, al_104, al_105, al_106, al_107, al_108, al_109]
    rcases m1_or ha with rfl | ⟨k, hk, rfl⟩
    · refine call_0 (r := nI l.length) hX2 hM ?_ hh ?_ (s2.tr t2.q)
      · rw [eX, if_pos (m1_lt (by omega))]; exact if_pos rfl
      · rw [eM]; exact if_neg (by decide)
    · by_cases d : k < l.length
      · refine call_0 (r := nI (l.getD (l.length - 1 - k) 0)) hX2 hM ?_ hh ?_ (s2.tr t2.q)
        · rw [eX, if_pos (nI_lt d (by omega)), if_neg (nI_m1 (by omega))]
          unfold f_X1_courseHeading
          simp only [il]
          have bel : f_X10_below (nI k) (nI l.length) μ2 = some (nI 1, μ2) := by
            unfold f_X10_below; simp only [il]; rw [if_neg (nI_lt0 (by omega)), if_neg (nI_ge (by omega) (by omega))]
          rw [k1, bnd_e bel, nI_b1, k1]
          simp (disch := omega) only [rf_21_6, al_29, pk_sub, gA_n, nI_clamp, k2 (l.length - 1 - k) (by omega), bnd_s]
        · rw [eM, if_pos (nI_le (Nat.zero_le _) (by omega)), if_neg (nI_ge (by omega) (by omega))]
          simp (disch := omega) only [pk_sub, gA_n, nI_clamp, t4 (l.length - 1 - k) (by omega)]
      · refine call_0 (r := -nI 5) hX2 hM ?_ hh ?_ (s2.tr t2.q)
        · rw [eX, if_neg (fun z => d ((nI_ltI (by omega) (by omega)).mp z))]
        · rw [eM, if_pos (nI_le (Nat.zero_le _) (by omega)), if_pos (nI_le (by omega) (by omega))]
