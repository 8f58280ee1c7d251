/-! how the law begins: what stands -/
section ST
variable {s : State} {args : Array Value}
theorem st_tab {C n : String} {N : Nat} {f : Nat → Int32} {A : Nat → Prop} (hN : N < 2 ^ 31) (hl : (Cond.laysStatic C n "[I").before args s = true) (hini : (Cond.initialized C).before args s = true) (harr : (Cond.arrayOf (.static C n "[I") .int).before args s = true) (hlen : (Cond.eq (.length (.static C n "[I")) (.int (Int32.ofNat N))).before args s = true)
    (hel : ∀ j, j < N → (Cond.eq (.elem (.static C n "[I") (.int (Int32.ofNat j))) (.int (f j))).before args s = true) (hA : ∀ a : Nat, a < s.heap.size → ¬ A a) : ∃ t : Nat, va_Z C n "[I" (.ref t) A s s.heap ∧ va_T .int t N (fun j => .int (f j)) A s s.heap := by
  obtain ⟨t, ht, hT⟩ := va_Tof (f := fun j => .int (f j)) hN harr (va_eqt hlen) (fun j hj => va_eqt (hel j hj)) hA
  exact ⟨t, va_Zref hl hini ht hA, hT⟩
theorem st_arr {ty : FieldType} (hty : ∀ C, ty ≠ .object C) (h : (Cond.arrayClass ty).before args s = true) : ∃ cA, ArrOfT s cA ty ∧ va_RA s cA ty := by
  obtain ⟨cA, kA, comp, h1, h2, h3⟩ := Cond.arrayClass_spec (args := args) (first := s) (o := none) (s := s) (idx := []) h
  refine ⟨cA, fun n z => ⟨fun k h => (by cases h), kA, h2, comp, h3⟩, ?_⟩
  cases ty with
  | object C => exact absurd rfl (hty C)
  | _ => exact h1
theorem st_arrO {C : String} (h : (Cond.arrayOver (.object C)).before args s = true) : ∃ cA, ArrOfT s cA (.object C) ∧ va_RA s cA (.object C) := by
  obtain ⟨comp, cA, kA, h1, h2, h3, h4, h5⟩ := Cond.arrayOver_spec (args := args) (first := s) (o := none) (s := s) (idx := []) h
  exact ⟨cA, fun n z => ⟨fun k h => (by cases h), kA, h3, comp, h4⟩, kA, comp, h3, h4, h1, h5⟩
def st_tm (i : Nat) : Term := .string "SailCourses$SetUp" (68 + 2 * i)
def st_F : List Cond := flatC (Jvm.Cond.and given_1 narrow_1)
theorem st_e1 : ∀ i, i < 7 → Cond.exactly (st_tm i) "java/lang/String" ∈ st_F := by decide +kernel
theorem st_e2 : ∀ i, i < 7 → Cond.eq (.field (st_tm i) "java/lang/String" "coder" "B") (.int 0) ∈ st_F := by decide +kernel
theorem st_e3 : ∀ i, i < 7 → Cond.arrayOf (.field (st_tm i) "java/lang/String" "value" "[B") .byte ∈ st_F := by decide +kernel
theorem st_e4 : ∀ i, i < 7 → Cond.eq (.length (.field (st_tm i) "java/lang/String" "value" "[B")) (.int (Int32.ofNat (lenS.getD i 0))) ∈ st_F := by decide +kernel
theorem st_e5 : ∀ i, i < 7 → ∀ j, j < lenS.getD i 0 → Cond.eq (.elem (.field (st_tm i) "java/lang/String" "value" "[B") (.int (Int32.ofNat j))) (.int ((bytS.getD i []).getD j 0)) ∈ st_F := by decide +kernel
theorem st_e6 : ∀ i, i < 7 → ∀ j, j < 7 → i ≠ j → Cond.not (Cond.eq (st_tm i) (st_tm j)) ∈ st_F ∨ Cond.not (Cond.eq (st_tm j) (st_tm i)) ∈ st_F := by decide +kernel
theorem st_t0 : Cond.arrayOf (.static "SailCourses$Compass" "SOUTHWARD" "[I") .int ∈ st_F ∧ Cond.eq (.length (.static "SailCourses$Compass" "SOUTHWARD" "[I")) (.int (Int32.ofNat 8)) ∈ st_F ∧ ∀ j, j < 8 → Cond.eq (.elem (.static "SailCourses$Compass" "SOUTHWARD" "[I") (.int (Int32.ofNat j))) (.int (k_south j)) ∈ st_F := by decide +kernel
theorem st_t1 : Cond.arrayOf (.static "SailCourses$Compass" "EASTWARD" "[I") .int ∈ st_F ∧ Cond.eq (.length (.static "SailCourses$Compass" "EASTWARD" "[I")) (.int (Int32.ofNat 8)) ∈ st_F ∧ ∀ j, j < 8 → Cond.eq (.elem (.static "SailCourses$Compass" "EASTWARD" "[I") (.int (Int32.ofNat j))) (.int (k_east j)) ∈ st_F := by decide +kernel
theorem st_t2 : Cond.arrayOf (.static "SailCourses$Sea" "FIRST_TABLE" "[I") .int ∈ st_F ∧ Cond.eq (.length (.static "SailCourses$Sea" "FIRST_TABLE" "[I")) (.int (Int32.ofNat 15)) ∈ st_F ∧ ∀ j, j < 15 → Cond.eq (.elem (.static "SailCourses$Sea" "FIRST_TABLE" "[I") (.int (Int32.ofNat j))) (.int (k_first j)) ∈ st_F := by decide +kernel
theorem st_t3 : Cond.arrayOf (.static "SailCourses$Chart" "HEADINGS_INTO" "[I") .int ∈ st_F ∧ Cond.eq (.length (.static "SailCourses$Chart" "HEADINGS_INTO" "[I")) (.int (Int32.ofNat 8)) ∈ st_F ∧ ∀ j, j < 8 → Cond.eq (.elem (.static "SailCourses$Chart" "HEADINGS_INTO" "[I") (.int (Int32.ofNat j))) (.int (k_into j)) ∈ st_F := by decide +kernel
theorem st_c : Cond.eq (.static "java/lang/String" "COMPACT_STRINGS" "Z") (.int 1) ∈ st_F ∧ Cond.isRef (.static "jdk/internal/util/Preconditions" "SIOOBE_FORMATTER" "Ljava/util/function/BiFunction;") ∈ st_F := by decide +kernel
theorem st_w1 : Cond.laysStatic "SailCourses$Compass" "SOUTHWARD" "[I" ∈ lw_tbl ∧ Cond.laysStatic "SailCourses$Compass" "EASTWARD" "[I" ∈ lw_tbl ∧ Cond.laysStatic "SailCourses$Sea" "FIRST_TABLE" "[I" ∈ lw_tbl ∧ Cond.laysStatic "SailCourses$Chart" "HEADINGS_INTO" "[I" ∈ lw_tbl ∧ Cond.laysStatic "java/lang/String" "COMPACT_STRINGS" "Z" ∈ lw_tbl ∧ Cond.laysStatic "jdk/internal/util/Preconditions" "SIOOBE_FORMATTER" "Ljava/util/function/BiFunction;" ∈ lw_tbl := by decide +kernel
theorem st_w2 : Cond.initialized "SailCourses$Compass" ∈ lw_tbl ∧ Cond.initialized "SailCourses$Sea" ∈ lw_tbl ∧ Cond.initialized "SailCourses$Chart" ∈ lw_tbl ∧ Cond.initialized "java/lang/String" ∈ lw_tbl ∧ Cond.initialized "jdk/internal/util/Preconditions" ∈ lw_tbl := by decide +kernel
theorem st_w3 : Cond.stringRef RX7 68 "dddd" ∈ lw_tbl ∧ Cond.stringRef RX7 70 "ddd" ∈ lw_tbl ∧ Cond.stringRef RX7 72 "dddddd" ∈ lw_tbl ∧ Cond.stringRef RX7 74 "q" ∈ lw_tbl ∧ Cond.stringRef RX7 76 "qdm" ∈ lw_tbl ∧ Cond.stringRef RX7 78 "u,u" ∈ lw_tbl ∧ Cond.stringRef RX7 80 "" ∈ lw_tbl := by decide +kernel
theorem st_w4 : Cond.methodLinkNest RX7 34 yX10_below RX10 ∈ lw_tbl ∧ Cond.methodLinkNest RX1 130 yX10_below RX10 ∈ lw_tbl ∧ Cond.methodLinkNest RX5 22 yX10_below RX10 ∈ lw_tbl ∧ Cond.methodLinkNest RX9 28 yX10_below RX10 ∈ lw_tbl := by decide +kernel
theorem st_w5 : Cond.methodLinkNest RX10 20 yX3_init RX3 ∈ lw_tbl ∧ Cond.methodLinkNest RX10 36 yX8_init RX8 ∈ lw_tbl ∧ Cond.methodLinkNest RX10 43 yX7_init RX7 ∈ lw_tbl ∧ Cond.methodLinkNest RX10 64 yX9_init RX9 ∈ lw_tbl := by decide +kernel
theorem st_w6 : Cond.arrayOver (.object "SailCourses$Tape") ∈ lw_tbl ∧ Cond.arrayClass .int ∈ lw_tbl ∧ Cond.arrayClass .long ∈ lw_tbl := by decide +kernel
end ST
