/-! how the law begins: what stands -/
section ST
variable {s : State} {args : Array Value}
theorem st_tab {C n : String} {N : Nat} {f : Nat → Int32} {A : Nat → Prop} (hN : N < 2 ^ 31) (hl : (Cond.laysStatic C n "[I").before args s = true) (hini : (Cond.initialized C).before args s = true) (harr : (Cond.arrayOf (.static C n "[I") .int).before args s = true) (hlen : (Cond.eq (.length (.static C n "[I")) (.int (Int32.ofNat N))).before args s = true)
    (hel : ∀ j, j < N → (Cond.eq (.elem (.static C n "[I") (.int (Int32.ofNat j))) (.int (f j))).before args s = true) (hA : ∀ a : Nat, a < s.heap.size → ¬ A a) : ∃ t : Nat, va_Z C n "[I" (.ref t) A s s.heap ∧ va_T .int t N (fun j => .int (f j)) A s s.heap := by
  obtain ⟨t, ht, hT⟩ := va_Tof (f := fun j => .int (f j)) hN harr (va_eqt hlen) (fun j hj => va_eqt (hel j hj)) hA
  exact ⟨t, va_Zref hl hini ht hA, hT⟩
theorem st_arr {ty : FieldType} (hty : ∀ C, ty ≠ .object C) (h : (Cond.arrayClass ty).before args s = true) : ∃ cA, ArrOfT s cA ty ∧ va_RA s cA ty := by
  obtain ⟨cA, kA, comp, h1, h2, h3⟩ := Cond.arrayClass_spec (args := args) (first := s) (o := none) (s := s) (idx := []) h
  refine ⟨cA, fun n z => ⟨fun k h => (by cases h), kA, h2, comp, h3⟩, ?_⟩
  cases ty with
  | object C => exact absurd rfl (hty C)
  | _ => exact h1
theorem st_arrO {C : String} (h : (Cond.arrayOver (.object C)).before args s = true) : ∃ cA, ArrOfT s cA (.object C) ∧ va_RA s cA (.object C) := by
  obtain ⟨comp, cA, kA, h1, h2, h3, h4, h5⟩ := Cond.arrayOver_spec (args := args) (first := s) (o := none) (s := s) (idx := []) h
  exact ⟨cA, fun n z => ⟨fun k h => (by cases h), kA, h3, comp, h4⟩, kA, comp, h3, h4, h1, h5⟩
def st_tm (i : Nat) : Term := .string "SailCourses$SetUp" (68 + 2 * i)
def st_F : List Cond := flatC (Jvm.Cond.and given_1 narrow_1)
theorem st_e1 : ∀ i, i < 7 → Cond.exactly (st_tm i) "java/lang/String" ∈ st_F := by decide +kernel
theorem st_e2 : ∀ i, i < 7 → Cond.eq (.field (st_tm i) "java/lang/String" "coder" "B") (.int 0) ∈ st_F := by decide +kernel
theorem st_e3 : ∀ i, i < 7 → Cond.arrayOf (.field (st_tm i) "java/lang/String" "value" "[B") .byte ∈ st_F := by decide +kernel
theorem st_e4 : ∀ i, i < 7 → Cond.eq (.length (.field (st_tm i) "java/lang/String" "value" "[B")) (.int (Int32.ofNat (lenS.getD i 0))) ∈ st_F := by decide +kernel
theorem st_e5 : ∀ i, i < 7 → ∀ j, j < lenS.getD i 0 → Cond.eq (.elem (.field (st_tm i) "java/lang/String" "value" "[B") (.int (Int32.ofNat j))) (.int ((bytS.getD i []).getD j 0)) ∈ st_F := by decide +kernel
theorem st_e6 : ∀ i, i < 7 → ∀ j, j < 7 → i ≠ j → Cond.not (Cond.eq (st_tm i) (st_tm j)) ∈ st_F ∨ Cond.not (Cond.eq (st_tm j) (st_tm i)) ∈ st_F := by decide +kernel
theorem st_t0 : Cond.arrayOf (.static "SailCourses$Compass" "SOUTHWARD" "[I") .int ∈ st_F ∧ Cond.eq (.length (.static "SailCourses$Compass" "SOUTHWARD" "[I")) (.int (Int32.ofNat 8)) ∈ st_F ∧ ∀ j, j < 8 → Cond.eq (.elem (.static "SailCourses$Compass" "SOUTHWARD" "[I") (.int (Int32.ofNat j))) (.int (k_south j)) ∈ st_F := by decide +kernel
theorem st_t1 : Cond.arrayOf (.static "SailCourses$Compass" "EASTWARD" "[I") .int ∈ st_F ∧ Cond.eq (.length (.static "SailCourses$Compass" "EASTWARD" "[I")) (.int (Int32.ofNat 8)) ∈ st_F ∧ ∀ j, j < 8 → Cond.eq (.elem (.static "SailCourses$Compass" "EASTWARD" "[I") (.int (Int32.ofNat j))) (.int (k_east j)) ∈ st_F := by decide +kernel
theorem st_t2 : Cond.arrayOf (.static "SailCourses$Sea" "FIRST_TABLE" "[I") .int ∈ st_F ∧ Cond.eq (.length (.static "SailCourses$Sea" "FIRST_TABLE" "[I")) (.int (Int32.ofNat 15)) ∈ st_F ∧ ∀ j, j < 15 → Cond.eq (.elem (.static "SailCourses$Sea" "FIRST_TABLE" "[I") (.int (Int32.ofNat j))) (.int (k_first j)) ∈ st_F := by decide +kernel
theorem st_t3 : Cond.arrayOf (.static "SailCourses$Chart" "HEADINGS_INTO" "[I") .int ∈ st_F ∧ Cond.eq (.length (.static "SailCourses$Chart" "HEADINGS_INTO" "[I")) (.int (Int32.ofNat 8)) ∈ st_F ∧ ∀ j, j < 8 → Cond.eq (.elem (.static "SailCourses$Chart" "HEADINGS_INTO" "[I") (.int (Int32.ofNat j))) (.int (k_into j)) ∈ st_F := by decide +kernel
theorem st_c : Cond.eq (.static "java/lang/String" "COMPACT_STRINGS" "Z") (.int 1) ∈ st_F ∧ Cond.isRef (.static "jdk/internal/util/Preconditions" "SIOOBE_FORMATTER" "Ljava/util/function/BiFunction;") ∈ st_F := by decide +kernel
theorem st_w1 : Cond.laysStatic "SailCourses$Compass" "SOUTHWARD" "[I" ∈ lw_tbl ∧ Cond.laysStatic "SailCourses$Compass" "EASTWARD" "[I" ∈ lw_tbl ∧ Cond.laysStatic "SailCourses$Sea" "FIRST_TABLE" "[I" ∈ lw_tbl ∧ Cond.laysStatic "SailCourses$Chart" "HEADINGS_INTO" "[I" ∈ lw_tbl ∧ Cond.laysStatic "java/lang/String" "COMPACT_STRINGS" "Z" ∈ lw_tbl ∧ Cond.laysStatic "jdk/internal/util/Preconditions" "SIOOBE_FORMATTER" "Ljava/util/function/BiFunction;" ∈ lw_tbl := by decide +kernel
theorem st_w2 : Cond.initialized "SailCourses$Compass" ∈ lw_tbl ∧ Cond.initialized "SailCourses$Sea" ∈ lw_tbl ∧ Cond.initialized "SailCourses$Chart" ∈ lw_tbl ∧ Cond.initialized "java/lang/String" ∈ lw_tbl ∧ Cond.initialized "jdk/internal/util/Preconditions" ∈ lw_tbl := by decide +kernel
theorem st_w3 : Cond.stringRef RX7 68 "dddd" ∈ lw_tbl ∧ Cond.stringRef RX7 70 "ddd" ∈ lw_tbl ∧ Cond.stringRef RX7 72 "dddddd" ∈ lw_tbl ∧ Cond.stringRef RX7 74 "q" ∈ lw_tbl ∧ Cond.stringRef RX7 76 "qdm" ∈ lw_tbl ∧ Cond.stringRef RX7 78 "u,u" ∈ lw_tbl ∧ Cond.stringRef RX7 80 "" ∈ lw_tbl := by decide +kernel
theorem st_w4 : Cond.methodLinkNest RX7 34 yX10_below RX10 ∈ lw_tbl ∧ Cond.methodLinkNest RX1 130 yX10_below RX10 ∈ lw_tbl ∧ Cond.methodLinkNest RX5 22 yX10_below RX10 ∈ lw_tbl ∧ Cond.methodLinkNest RX9 28 yX10_below RX10 ∈ lw_tbl := by decide +kernel
theorem st_w5 : Cond.methodLinkNest RX10 20 yX3_init RX10 ∈ lw_tbl ∧ Cond.methodLinkNest RX10 36 yX8_init RX10 ∈ lw_tbl ∧ Cond.methodLinkNest RX10 43 yX7_init RX10 ∈ lw_tbl ∧ Cond.methodLinkNest RX10 64 yX9_init RX10 ∈ lw_tbl := by decide +kernel
theorem st_w6 : Cond.arrayOver (.object "SailCourses$Tape") ∈ lw_tbl ∧ Cond.arrayClass .int ∈ lw_tbl ∧ Cond.arrayClass .long ∈ lw_tbl := by decide +kernel
end ST
theorem st_all {b : Addr} {s : State} (hts : ∀ w ∈ lw_tbl, w.before #[Value.ref b] s = true) (hgv : (Jvm.Cond.and given_1 narrow_1).before #[Value.ref b] s = true) : ∃ (D : va_G) (T : ClassId × ClassId × ClassId) (S : Nat → Nat), ∀ a : Nat → Nat, KX (D, T, a, S) (fun q => s.heap.size ≤ q) s ∧ ((∀ q, AA (D, T, a, S) q → s.heap.size ≤ q) → SS (D, T, a, S) s s.heap) := by
  have hs : ∀ w ∈ st_F, w.before #[Value.ref b] s = true := flat_of_before _ hgv
  have hA : ∀ a : Nat, a < s.heap.size → ¬ (fun q : Nat => s.heap.size ≤ q) a := fun a h => Nat.not_le.mpr h
  have hW : ∀ w ∈ wsL_law, w.before #[Value.ref b] s = true := fun w h => hts w (wsL_law_in w h)
  obtain ⟨c0, i0, n0⟩ := u_known (C := RX1) (T := TX1) (N := 9) (n := 9) hW inlX1 (hW _ q_1_22)
  obtain ⟨c1, i1, n1⟩ := u_known (C := RX3) (T := TX3) (N := 4) (n := 4) hW inlX3 (hW _ q_1_18)
  obtain ⟨c2, i2, n2⟩ := u_known (C := RX4) (T := TX4) (N := 5) (n := 5) hW inlX4 (hW _ q_4_23)
  obtain ⟨c3, i3, n3⟩ := u_known (C := RX5) (T := TX5) (N := 3) (n := 3) hW inlX5 (hW _ q_3_21)
  obtain ⟨c4, i4, n4⟩ := u_known (C := RX6) (T := TX6) (N := 11) (n := 11) hW inlX6 (hW _ q_1_14)
  obtain ⟨c5, i5, n5⟩ := u_known (C := RX7) (T := TX7) (N := 7) (n := 7) hW inlX7 (hW _ q_2_6)
  obtain ⟨c6, i6, n6⟩ := u_known (C := RX8) (T := TX8) (N := 6) (n := 6) hW inlX8 (hW _ q_2_2)
  obtain ⟨c7, i7, n7⟩ := u_known (C := RX9) (T := TX9) (N := 3) (n := 3) hW inlX9 (hW _ q_2_14)
  obtain ⟨c8, i8, n8⟩ := u_known (C := RX10) (T := TX10) (N := 9) (n := 9) hW inlX10 (hW _ q_1_1)
  obtain ⟨c9, i9, n9⟩ := u_known (C := RX11) (T := TX11) (N := 40) (n := 40) hW inlX11 (hW _ q_1_4)
  obtain ⟨dC, dI, hKc⟩ : ∃ (dC : Nat → ClassId) (dI : Nat → Nat → Nat), ∀ (k : Nat) (q : vw_C), vwCl[k]? = some q → u_Kn s q.1 q.2.1 q.2.2 (dC k) (dI k) := by
    refine ⟨fun k => if k = 0 then c0 else if k = 1 then c1 else if k = 2 then c2 else if k = 3 then c3 else if k = 4 then c4 else if k = 5 then c5 else if k = 6 then c6 else if k = 7 then c7 else if k = 8 then c8 else c9, fun k => if k = 0 then i0 else if k = 1 then i1 else if k = 2 then i2 else if k = 3 then i3 else if k = 4 then i4 else if k = 5 then i5 else if k = 6 then i6 else if k = 7 then i7 else if k = 8 then i8 else i9, ?_⟩
    intro k q hq
    match k, hq with
    | 0, hq => cases hq; exact n0
    | 1, hq => cases hq; exact n1
    | 2, hq => cases hq; exact n2
    | 3, hq => cases hq; exact n3
    | 4, hq => cases hq; exact n4
    | 5, hq => cases hq; exact n5
    | 6, hq => cases hq; exact n6
    | 7, hq => cases hq; exact n7
    | 8, hq => cases hq; exact n8
    | 9, hq => cases hq; exact n9
    | k + 10, hq => simp at hq
  obtain ⟨tI, aI, rI⟩ := st_arr (ty := .int) (fun _ z => by cases z) (hts _ st_w6.2.1)
  obtain ⟨tJ, aJ, rJ⟩ := st_arr (ty := .long) (fun _ z => by cases z) (hts _ st_w6.2.2)
  obtain ⟨tT, aT, rT⟩ := st_arrO (hts _ st_w6.1)
  obtain ⟨t0, z0, y0⟩ := st_tab (f := k_south) (by decide) (hts _ st_w1.1) (hts _ st_w2.1) (hs _ st_t0.1) (hs _ st_t0.2.1) (fun j hj => hs _ (st_t0.2.2 j hj)) hA
  obtain ⟨t1, z1, y1⟩ := st_tab (f := k_east) (by decide) (hts _ st_w1.2.1) (hts _ st_w2.1) (hs _ st_t1.1) (hs _ st_t1.2.1) (fun j hj => hs _ (st_t1.2.2 j hj)) hA
  obtain ⟨t2, z2, y2⟩ := st_tab (f := k_first) (by decide) (hts _ st_w1.2.2.1) (hts _ st_w2.2.1) (hs _ st_t2.1) (hs _ st_t2.2.1) (fun j hj => hs _ (st_t2.2.2 j hj)) hA
  obtain ⟨t3, z3, y3⟩ := st_tab (f := k_into) (by decide) (hts _ st_w1.2.2.2.1) (hts _ st_w2.2.2.1) (hs _ st_t3.1) (hs _ st_t3.2.1) (fun j hj => hs _ (st_t3.2.2 j hj)) hA
  obtain ⟨adK, adV, hv, hev⟩ := vk_Sof (N := 7) (tm := st_tm) (len := lenS) (byt := bytS) (by decide) (fun i hi => hs _ (st_e1 i hi)) (fun i hi => hs _ (st_e2 i hi)) (fun i hi => hs _ (st_e3 i hi)) (fun i hi => hs _ (st_e4 i hi)) (fun i hi j hj => hs _ (st_e5 i hi j hj)) (fun i j hi hj hn => (st_e6 i hi j hj hn).imp (fun z => hs _ z) (fun z => hs _ z)) hA
  refine ⟨(dC, dI), (tI, tJ, tT), fun k => if k < 10 then [t0, t1, t2, t3].getD k 0 else if k < 20 then adK (k - 10) else adV (k - 20), fun a => ⟨⟨⟨hKc, fun k q hk => ?_⟩, ⟨z2, y2⟩, va_AO.of (hts _ st_w6.1), va_tabs rfl rfl (hts _ st_w5.1), va_tabs rfl rfl (hts _ st_w5.2.1), va_tabs rfl rfl (hts _ st_w5.2.2.1), va_tabs rfl rfl (hts _ st_w5.2.2.2)⟩, fun hAA => ?_⟩⟩
  · match k, hk with
    | 0, hk => cases hk; exact ⟨aI, rI⟩
    | 1, hk => cases hk; exact ⟨aJ, rJ⟩
    | 2, hk => cases hk; exact ⟨aT, rT⟩
    | k + 3, hk => simp [tyO] at hk
  · generalize hE : ((dC, dI), (tI, tJ, tT), a, fun k => if k < 10 then [t0, t1, t2, t3].getD k 0 else if k < 20 then adK (k - 10) else adV (k - 20)) = E at hAA ⊢
    have eK : ∀ i, i < 7 → aK E i = adK i := fun i hi => by
      subst hE
      show (if 10 + i < 10 then _ else if 10 + i < 20 then adK (10 + i - 10) else _) = _
      rw [if_neg (by omega), if_pos (by omega), Nat.add_sub_cancel_left]
    have eV : ∀ i, i < 7 → aV E i = adV i := fun i hi => by
      subst hE
      show (if 20 + i < 10 then _ else if 20 + i < 20 then _ else adV (20 + i - 20)) = _
      rw [if_neg (by omega), if_neg (by omega), Nat.add_sub_cancel_left]
    have e0 : eS E 0 = t0 := by subst hE; rfl
    have e1 : eS E 1 = t1 := by subst hE; rfl
    have e2 : eS E 2 = t2 := by subst hE; rfl
    have e3 : eS E 3 = t3 := by subst hE; rfl
    have hR : ∀ (i : Nat) (tx : String), i < 7 → (Cond.stringRef RX7 (68 + 2 * i) tx).before #[Value.ref b] s = true → vk_R RX7 (68 + 2 * i) tx (aK E i) s := fun i tx hi h => by
      rw [eK i hi]
      exact vk_R.of h (hev i hi)
    refine ⟨⟨⟨?_, ?_⟩, ⟨?_, ?_⟩, ⟨?_, ?_⟩, ⟨?_, ?_⟩⟩, ⟨va_tabs rfl rfl (hts _ st_w4.1), va_tabs rfl rfl (hts _ st_w4.2.1), va_tabs rfl rfl (hts _ st_w4.2.2.1), va_tabs rfl rfl (hts _ st_w4.2.2.2)⟩, ⟨hR 0 _ (by decide) (hts _ st_w3.1), hR 1 _ (by decide) (hts _ st_w3.2.1), hR 2 _ (by decide) (hts _ st_w3.2.2.1), hR 3 _ (by decide) (hts _ st_w3.2.2.2.1), hR 4 _ (by decide) (hts _ st_w3.2.2.2.2.1), hR 5 _ (by decide) (hts _ st_w3.2.2.2.2.2.1), hR 6 _ (by decide) (hts _ st_w3.2.2.2.2.2.2)⟩, ⟨?_, ?_⟩, ?_, ?_⟩
    · rw [e0]; exact z0.narrow hAA
    · rw [e0]; exact y0.narrow hAA
    · rw [e1]; exact z1.narrow hAA
    · rw [e1]; exact y1.narrow hAA
    · rw [e2]; exact z2.narrow hAA
    · rw [e2]; exact y2.narrow hAA
    · rw [e3]; exact z3.narrow hAA
    · rw [e3]; exact y3.narrow hAA
    · intro i hi
      rw [eK i hi, eV i hi]
      have h := hv.1 i hi
      exact ⟨h.1.narrow hAA, h.2.1.narrow hAA, h.2.2.1.narrow hAA, h.2.2.2.narrow hAA⟩
    · intro i j hi hj e
      rw [eK i hi, eK j hj] at e
      exact hv.2 i j hi hj e
    · exact (va_Zof (hts _ st_w1.2.2.2.2.1) (hts _ st_w2.2.2.2.1) (va_eqi (hs _ st_c.1)) hA).narrow hAA
    · exact (va_Zqof (hts _ st_w1.2.2.2.2.2) (hts _ st_w2.2.2.2.2) (hs _ st_c.2) hA).narrow hAA
