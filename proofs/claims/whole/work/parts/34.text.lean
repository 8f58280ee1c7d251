section PG
variable {p : Program} {e : Env} {s : State} {m : MethodId} {args : Array Value} {below : List Frame} {meth : Method} {c : Code} {E : EE}
def f_X7_append (o : Nat) (a1 : Int32) (μ : Mem) : Option (Int32 × Mem) :=
  (if (μ.1 o 1) < (100 : Int32) then gA (μ.1 o 1) (aln (rf o 0)) (lt (sI μ (rf o 0) (μ.1 o 1).toNatClampNeg a1) (fun μ1 => lt (sI μ1 o 1 ((μ1.1 o 1) + (1 : Int32))) (fun μ2 => some ((μ2.1 o 1), μ2)))) else some ((-4 : Int32), μ))
set_option maxHeartbeats 4000000 in
set_option maxRecDepth 100000 in
theorem w_X7_append (l : Launch) {o : Nat} {a1 : Int32} (ho : knd o = 5) {μ μ2 : Mem} {r : Int32} {H : Heap} {locs : List Loc} {ls : Array Slot} (hf : f_X7_append o a1 μ = some (r, μ2)) (hX : XX E p m meth c cX7_append 2 (some .int) s args RX7) (hM : MM E s μ H locs) (hl : lv_has ls 2 [(0, .ref (eA E o)), (1, .int a1)]) : W p l e (rmF 0 0) s m args below meth c H locs 0 0 (MQ below (QC E (some (.int r)) μ2) args s 0 0 (AA E)) (F0 m 0 ls []) := by
  obtain ⟨⟨hx, hb, hml, hown, hts⟩, hXr⟩ := id hX
  unfold f_X7_append at hf
  refine lv_aload_n hx hb dX7_append_0 rfl (lv_at hl 0 rfl) ?_
  refine gf_5_1 hX hM ho q_6_4 dX7_append_1 ?_
  refine lv_bipush (v := 100) hx hb dX7_append_4 (by decide) ?_
  refine lv_icmp_lt (tgt := 12) hx hb dX7_append_6 (by decide) (fun hc6 => ?_) (fun hc6 => ?_)
  · replace hf := it_t hf hc6
    refine lv_aload_n hx hb dX7_append_12 rfl (lv_at hl 0 rfl) ?_
    refine gf_5_0 hX hM ho q_6_3 dX7_append_13 ?_
    refine lv_aload_n hx hb dX7_append_16 rfl (lv_at hl 0 rfl) ?_
    refine gf_5_1 hX hM ho q_6_4 dX7_append_17 ?_
    refine lv_iload_n hx hb dX7_append_20 rfl (lv_at hl 1 rfl) ?_
    replace hf := gA_some hf
    obtain ⟨hi, hf⟩ := hf
    refine ast hX hM (kr_5_0 ho) hi dX7_append_21 (fun μ1 H locs eμ1 hM => ?_)
    replace hf := lt_e eμ1 hf
    refine lv_aload_n hx hb dX7_append_22 rfl (lv_at hl 0 rfl) ?_
    refine lv_dup hx hb dX7_append_23 rfl ?_
    refine gf_5_1 hX hM ho q_6_4 dX7_append_24 ?_
    refine lv_iconst (v := 1) hx hb dX7_append_27 (by decide) ?_
    refine lv_iadd hx hb dX7_append_28 ?_
    refine pf_5_1 hX hM ho q_6_4 dX7_append_29 (fun μ2 H locs eμ2 hM => ?_)
    replace hf := lt_e eμ2 hf
    refine lv_aload_n hx hb dX7_append_32 rfl (lv_at hl 0 rfl) ?_
    refine gf_5_1 hX hM ho q_6_4 dX7_append_33 ?_
    exact rt_i hX hM (congrArg (fun z => some (Value.int z)) (so_1 hf)) (so_2 hf) dX7_append_36
  · replace hf := it_f hf hc6
    refine lv_bipush (v := (-4)) hx hb dX7_append_9 (by decide) ?_
    exact rt_i hX hM (congrArg (fun z => some (Value.int z)) (so_1 hf)) (so_2 hf) dX7_append_11
theorem c_X7_append (l : Launch) {o : Nat} {a1 : Int32} (ho : knd o = 5) {μ μ2 : Mem} {r : Int32} (hf : f_X7_append o a1 μ = some (r, μ2)) : CT E l yX7_append cX7_append 2 (some .int) (rmF 0 0) [.ref (eA E o), .int a1] μ (some (.int r)) μ2 := CT.of (show plainFor yX7_append = true by decide +kernel) (Nat.le_of_ble_eq_true rfl) rfl (fun _ _ _ _ _ _ _ _ hX hM hl => w_X7_append l ho hf hX hM hl)
theorem mv_X7_append : MV yX7_append cX7_append 2 (some .int) RX7 1 := ⟨q_21_10, q_21_8, q_21_9, q_2_7, by decide +kernel⟩
def f_X7_formOf (a0 : Int32) (μ : Mem) : Option (Nat × Mem) :=
  (if a0 = (98 : Int32) then some (2, μ) else (if a0 = (99 : Int32) then some (1, μ) else (if a0 = (108 : Int32) then some (3, μ) else (if a0 = (115 : Int32) then some (4, μ) else (if a0 = (116 : Int32) then some (5, μ) else (if a0 = (119 : Int32) then some (0, μ) else some (6, μ)))))))
set_option maxHeartbeats 4000000 in
set_option maxRecDepth 100000 in
theorem w_X7_formOf (l : Launch) {a0 : Int32}  {μ μ2 : Mem} {r : Nat} {H : Heap} {locs : List Loc} {ls : Array Slot} (hf : f_X7_formOf a0 μ = some (r, μ2)) (hX : XX E p m meth c cX7_formOf 1 (some (.object "java/lang/String")) s args RX7) (hM : MM E s μ H locs) (hl : lv_has ls 1 [(0, .int a0)]) : W p l e (rmF 0 0) s m args below meth c H locs 0 0 (MQ below (QC E (some (.ref (aK E r))) μ2) args s 0 0 (AA E)) (F0 m 0 ls []) := by
  obtain ⟨⟨hx, hb, hml, hown, hts⟩, hXr⟩ := id hX
  unfold f_X7_formOf at hf
  refine lv_iload_n hx hb dX7_formOf_0 rfl (lv_at hl 0 rfl) ?_
  by_cases hs1_98 : a0 = (98 : Int32)
  · replace hf := it_t hf hs1_98
    refine lv_lookup (off := 65) (tgt := 66) hx hb dX7_formOf_1 (by decide) (by rw [hs1_98]; rfl) (by decide) ?_
    refine va_ldcS hx hb hown (hXr.2.2.1.2.2.1.2.2.1) dX7_formOf_66 ?_
    exact rt_a hX hM (Or.inl ⟨_, rfl⟩) (congrArg (fun z => some (Value.ref (aK E z))) (so_1 hf)) (so_2 hf) dX7_formOf_68
  · replace hf := it_f hf hs1_98
    by_cases hs1_99 : a0 = (99 : Int32)
    · replace hf := it_t hf hs1_99
      refine lv_lookup (off := 62) (tgt := 63) hx hb dX7_formOf_1 (by decide) (by rw [hs1_99]; rfl) (by decide) ?_
      refine va_ldcS hx hb hown (hXr.2.2.1.2.2.1.2.1) dX7_formOf_63 ?_
      exact rt_a hX hM (Or.inl ⟨_, rfl⟩) (congrArg (fun z => some (Value.ref (aK E z))) (so_1 hf)) (so_2 hf) dX7_formOf_65
    · replace hf := it_f hf hs1_99
      by_cases hs1_108 : a0 = (108 : Int32)
      · replace hf := it_t hf hs1_108
        refine lv_lookup (off := 68) (tgt := 69) hx hb dX7_formOf_1 (by decide) (by rw [hs1_108]; rfl) (by decide) ?_
        refine va_ldcS hx hb hown (hXr.2.2.1.2.2.1.2.2.2.1) dX7_formOf_69 ?_
        exact rt_a hX hM (Or.inl ⟨_, rfl⟩) (congrArg (fun z => some (Value.ref (aK E z))) (so_1 hf)) (so_2 hf) dX7_formOf_71
      · replace hf := it_f hf hs1_108
        by_cases hs1_115 : a0 = (115 : Int32)
        · replace hf := it_t hf hs1_115
          refine lv_lookup (off := 71) (tgt := 72) hx hb dX7_formOf_1 (by decide) (by rw [hs1_115]; rfl) (by decide) ?_
          refine va_ldcS hx hb hown (hXr.2.2.1.2.2.1.2.2.2.2.1) dX7_formOf_72 ?_
          exact rt_a hX hM (Or.inl ⟨_, rfl⟩) (congrArg (fun z => some (Value.ref (aK E z))) (so_1 hf)) (so_2 hf) dX7_formOf_74
        · replace hf := it_f hf hs1_115
          by_cases hs1_116 : a0 = (116 : Int32)
          · replace hf := it_t hf hs1_116
            refine lv_lookup (off := 74) (tgt := 75) hx hb dX7_formOf_1 (by decide) (by rw [hs1_116]; rfl) (by decide) ?_
            refine va_ldcS hx hb hown (hXr.2.2.1.2.2.1.2.2.2.2.2.1) dX7_formOf_75 ?_
            exact rt_a hX hM (Or.inl ⟨_, rfl⟩) (congrArg (fun z => some (Value.ref (aK E z))) (so_1 hf)) (so_2 hf) dX7_formOf_77
          · replace hf := it_f hf hs1_116
            by_cases hs1_119 : a0 = (119 : Int32)
            · replace hf := it_t hf hs1_119
              refine lv_lookup (off := 59) (tgt := 60) hx hb dX7_formOf_1 (by decide) (by rw [hs1_119]; rfl) (by decide) ?_
              refine va_ldcS hx hb hown (hXr.2.2.1.2.2.1.1) dX7_formOf_60 ?_
              exact rt_a hX hM (Or.inl ⟨_, rfl⟩) (congrArg (fun z => some (Value.ref (aK E z))) (so_1 hf)) (so_2 hf) dX7_formOf_62
            · replace hf := it_f hf hs1_119
              refine lv_lookup (off := 77) (tgt := 78) hx hb dX7_formOf_1 (by decide) ((lv_osw hs1_98 rfl).trans ((lv_osw hs1_99 rfl).trans ((lv_osw hs1_108 rfl).trans ((lv_osw hs1_115 rfl).trans ((lv_osw hs1_116 rfl).trans ((lv_osw hs1_119 rfl).trans rfl)))))) (by decide) ?_
              refine va_ldcS hx hb hown (hXr.2.2.1.2.2.1.2.2.2.2.2.2) dX7_formOf_78 ?_
              exact rt_a hX hM (Or.inl ⟨_, rfl⟩) (congrArg (fun z => some (Value.ref (aK E z))) (so_1 hf)) (so_2 hf) dX7_formOf_80
theorem c_X7_formOf (l : Launch) {a0 : Int32}  {μ μ2 : Mem} {r : Nat} (hf : f_X7_formOf a0 μ = some (r, μ2)) : CT E l yX7_formOf cX7_formOf 1 (some (.object "java/lang/String")) (rmF 0 0) [.int a0] μ (some (.ref (aK E r))) μ2 := CT.of (show plainFor yX7_formOf = true by decide +kernel) (Nat.le_of_ble_eq_true rfl) rfl (fun _ _ _ _ _ _ _ _ hX hM hl => w_X7_formOf l  hf hX hM hl)
theorem mt_X7_formOf : MT yX7_formOf cX7_formOf 1 (some (.object "java/lang/String")) 1 := ⟨q_22_6, q_22_5, q_2_7, by decide +kernel⟩
def f_X7_isNext (o : Nat) (a1 : Int32) (a2 : Int32) (μ : Mem) : Option (Int32 × Mem) :=
  (if (μ.1 o 1) ≤ (μ.1 o 6) then some ((0 : Int32), μ) else gA (μ.1 o 6) (aln (rf o 0)) ((if (μ.1 (rf o 0) (μ.1 o 6).toNatClampNeg) < a1 then some ((0 : Int32), μ) else gA (μ.1 o 6) (aln (rf o 0)) ((if a2 < (μ.1 (rf o 0) (μ.1 o 6).toNatClampNeg) then some ((0 : Int32), μ) else some ((1 : Int32), μ))))))
set_option maxHeartbeats 4000000 in
set_option maxRecDepth 100000 in
theorem w_X7_isNext (l : Launch) {o : Nat} {a1 : Int32} {a2 : Int32} (ho : knd o = 5) {μ μ2 : Mem} {r : Int32} {H : Heap} {locs : List Loc} {ls : Array Slot} (hf : f_X7_isNext o a1 a2 μ = some (r, μ2)) (hX : XX E p m meth c cX7_isNext 3 (some .boolean) s args RX7) (hM : MM E s μ H locs) (hl : lv_has ls 3 [(0, .ref (eA E o)), (1, .int a1), (2, .int a2)]) : W p l e (rmF 0 0) s m args below meth c H locs 0 0 (MQ below (QC E (some (.int r)) μ2) args s 0 0 (AA E)) (F0 m 0 ls []) := by
  obtain ⟨⟨hx, hb, hml, hown, hts⟩, hXr⟩ := id hX
  unfold f_X7_isNext at hf
  refine lv_aload_n hx hb dX7_isNext_0 rfl (lv_at hl 0 rfl) ?_
  refine gf_5_6 hX hM ho q_6_9 dX7_isNext_1 ?_
  refine lv_aload_n hx hb dX7_isNext_4 rfl (lv_at hl 0 rfl) ?_
  refine gf_5_1 hX hM ho q_6_4 dX7_isNext_5 ?_
  refine lv_icmp_ge (tgt := 41) hx hb dX7_isNext_8 (by decide) (fun hc8 => ?_) (fun hc8 => ?_)
  · replace hf := it_t hf hc8
    refine lv_iconst (v := 0) hx hb dX7_isNext_41 (by decide) ?_
    exact rt_z hX hM rfl (congrArg (fun z => some (Value.int z)) (so_1 hf)) (so_2 hf) dX7_isNext_42
  · replace hf := it_f hf hc8
    refine lv_aload_n hx hb dX7_isNext_11 rfl (lv_at hl 0 rfl) ?_
    refine gf_5_0 hX hM ho q_6_3 dX7_isNext_12 ?_
    refine lv_aload_n hx hb dX7_isNext_15 rfl (lv_at hl 0 rfl) ?_
    refine gf_5_6 hX hM ho q_6_9 dX7_isNext_16 ?_
    replace hf := gA_some hf
    obtain ⟨hi, hf⟩ := hf
    refine ald hX hM (kr_5_0 ho) hi dX7_isNext_19 ?_
    refine lv_iload_n hx hb dX7_isNext_20 rfl (lv_at hl 1 rfl) ?_
    refine lv_icmp_lt (tgt := 41) hx hb dX7_isNext_21 (by decide) (fun hc21 => ?_) (fun hc21 => ?_)
    · replace hf := it_t hf hc21
      refine lv_iconst (v := 0) hx hb dX7_isNext_41 (by decide) ?_
      exact rt_z hX hM rfl (congrArg (fun z => some (Value.int z)) (so_1 hf)) (so_2 hf) dX7_isNext_42
    · replace hf := it_f hf hc21
      refine lv_aload_n hx hb dX7_isNext_24 rfl (lv_at hl 0 rfl) ?_
      refine gf_5_0 hX hM ho q_6_3 dX7_isNext_25 ?_
      refine lv_aload_n hx hb dX7_isNext_28 rfl (lv_at hl 0 rfl) ?_
      refine gf_5_6 hX hM ho q_6_9 dX7_isNext_29 ?_
      replace hf := gA_some hf
      obtain ⟨hi, hf⟩ := hf
      refine ald hX hM (kr_5_0 ho) hi dX7_isNext_32 ?_
      refine lv_iload_n hx hb dX7_isNext_33 rfl (lv_at hl 2 rfl) ?_
      refine lv_icmp_gt (tgt := 41) hx hb dX7_isNext_34 (by decide) (fun hc34 => ?_) (fun hc34 => ?_)
      · replace hf := it_t hf hc34
        refine lv_iconst (v := 0) hx hb dX7_isNext_41 (by decide) ?_
        exact rt_z hX hM rfl (congrArg (fun z => some (Value.int z)) (so_1 hf)) (so_2 hf) dX7_isNext_42
      · replace hf := it_f hf hc34
        refine lv_iconst (v := 1) hx hb dX7_isNext_37 (by decide) ?_
        refine lv_goto (tgt := 42) hx hb dX7_isNext_38 (by decide) ?_
        exact rt_z hX hM rfl (congrArg (fun z => some (Value.int z)) (so_1 hf)) (so_2 hf) dX7_isNext_42
theorem c_X7_isNext (l : Launch) {o : Nat} {a1 : Int32} {a2 : Int32} (ho : knd o = 5) {μ μ2 : Mem} {r : Int32} (hf : f_X7_isNext o a1 a2 μ = some (r, μ2)) : CT E l yX7_isNext cX7_isNext 3 (some .boolean) (rmF 0 0) [.ref (eA E o), .int a1, .int a2] μ (some (.int r)) μ2 := CT.of (show plainFor yX7_isNext = true by decide +kernel) (Nat.le_of_ble_eq_true rfl) rfl (fun _ _ _ _ _ _ _ _ hX hM hl => w_X7_isNext l ho hf hX hM hl)
theorem mv_X7_isNext : MV yX7_isNext cX7_isNext 3 (some .boolean) RX7 2 := ⟨q_24_23, q_24_21, q_24_22, q_2_7, by decide +kernel⟩
def f_X7_takeNumber_b56 (o : Nat) (a1 : Int32) (a2 : Int32)  (x3 : Int32) (x4 : Int32) (μ : Mem) : Option (Int32 × Mem) :=
  (if x4 < a1 then some ((0 : Int32), μ) else (if (μ.1 o 5) < (6 : Int32) then gA (((μ.1 o 4) * (6 : Int32)) + (μ.1 o 5)) (aln (rf o 3)) (lt (sI μ (rf o 3) (((μ.1 o 4) * (6 : Int32)) + (μ.1 o 5)).toNatClampNeg x3) (fun μ1 => lt (sI μ1 o 5 ((μ1.1 o 5) + (1 : Int32))) (fun μ2 => some ((1 : Int32), μ2)))) else some ((0 : Int32), μ)))
set_option maxHeartbeats 4000000 in
set_option maxRecDepth 100000 in
theorem w_X7_takeNumber_b56 (l : Launch) {o : Nat} {a1 : Int32} {a2 : Int32} (ho : knd o = 5) {μ2 : Mem} {r : Int32}   {x3 : Int32} {x4 : Int32} {μ : Mem} {H : Heap} {locs : List Loc} {ls : Array Slot}  (hf : f_X7_takeNumber_b56 o a1 a2  x3 x4 μ = some (r, μ2)) (hX : XX E p m meth c cX7_takeNumber 5 (some .boolean) s args RX7) (hM : MM E s μ H locs) (hl : lv_has ls 5 [(0, .ref (eA E o)), (1, .int a1), (2, .int a2), (3, .int x3), (4, .int x4)]) : W p l e (rmF 1 22) s m args below meth c H locs 0 0 (MQ below (QC E (some (.int r)) μ2) args s 0 0 (AA E)) (F0 m 56 ls []) := by
  obtain ⟨⟨hx, hb, hml, hown, hts⟩, hXr⟩ := id hX
  unfold f_X7_takeNumber_b56 at hf
  refine lv_iload hx hb dX7_takeNumber_56 (lv_at hl 4 rfl) ?_
  refine lv_iload_n hx hb dX7_takeNumber_58 rfl (lv_at hl 1 rfl) ?_
  refine lv_icmp_lt (tgt := 71) hx hb dX7_takeNumber_59 (by decide) (fun hc59 => ?_) (fun hc59 => ?_)
  · replace hf := it_t hf hc59
    refine lv_iconst (v := 0) hx hb dX7_takeNumber_71 (by decide) ?_
    exact rt_z hX hM rfl (congrArg (fun z => some (Value.int z)) (so_1 hf)) (so_2 hf) dX7_takeNumber_72
  · replace hf := it_f hf hc59
    refine lv_aload_n hx hb dX7_takeNumber_62 rfl (lv_at hl 0 rfl) ?_
    refine gf_5_5 hX hM ho q_6_8 dX7_takeNumber_63 ?_
    refine lv_bipush (v := 6) hx hb dX7_takeNumber_66 (by decide) ?_
    refine lv_icmp_lt (tgt := 73) hx hb dX7_takeNumber_68 (by decide) (fun hc68 => ?_) (fun hc68 => ?_)
    · replace hf := it_t hf hc68
      refine lv_aload_n hx hb dX7_takeNumber_73 rfl (lv_at hl 0 rfl) ?_
      refine gf_5_3 hX hM ho q_6_6 dX7_takeNumber_74 ?_
      refine lv_aload_n hx hb dX7_takeNumber_77 rfl (lv_at hl 0 rfl) ?_
      refine gf_5_4 hX hM ho q_6_7 dX7_takeNumber_78 ?_
      refine lv_bipush (v := 6) hx hb dX7_takeNumber_81 (by decide) ?_
      refine lv_imul hx hb dX7_takeNumber_83 ?_
      refine lv_aload_n hx hb dX7_takeNumber_84 rfl (lv_at hl 0 rfl) ?_
      refine gf_5_5 hX hM ho q_6_8 dX7_takeNumber_85 ?_
      refine lv_iadd hx hb dX7_takeNumber_88 ?_
      refine lv_iload_n hx hb dX7_takeNumber_89 rfl (lv_at hl 3 rfl) ?_
      replace hf := gA_some hf
      obtain ⟨hi, hf⟩ := hf
      refine ast hX hM (kr_5_3 ho) hi dX7_takeNumber_90 (fun μ1 H locs eμ1 hM => ?_)
      replace hf := lt_e eμ1 hf
      refine lv_aload_n hx hb dX7_takeNumber_91 rfl (lv_at hl 0 rfl) ?_
      refine lv_dup hx hb dX7_takeNumber_92 rfl ?_
      refine gf_5_5 hX hM ho q_6_8 dX7_takeNumber_93 ?_
      refine lv_iconst (v := 1) hx hb dX7_takeNumber_96 (by decide) ?_
      refine lv_iadd hx hb dX7_takeNumber_97 ?_
      refine pf_5_5 hX hM ho q_6_8 dX7_takeNumber_98 (fun μ2 H locs eμ2 hM => ?_)
      replace hf := lt_e eμ2 hf
      refine lv_iconst (v := 1) hx hb dX7_takeNumber_101 (by decide) ?_
      exact rt_z hX hM rfl (congrArg (fun z => some (Value.int z)) (so_1 hf)) (so_2 hf) dX7_takeNumber_102
    · replace hf := it_f hf hc68
      refine lv_iconst (v := 0) hx hb dX7_takeNumber_71 (by decide) ?_
      exact rt_z hX hM rfl (congrArg (fun z => some (Value.int z)) (so_1 hf)) (so_2 hf) dX7_takeNumber_72
def f_X7_takeNumber_b5 (o : Nat) (a1 : Int32) (a2 : Int32)  : Nat → Int32 → Int32 → Mem → Option (Int32 × Mem)
  | 0, _, _, _ => none
  | n + 1, x3, x4, μ =>
    (if a2 ≤ x4 then f_X7_takeNumber_b56 o a1 a2  x3 x4 μ else bnd (f_X7_isNext o (48 : Int32) (57 : Int32) μ) (fun r4 μ3 => (if r4 = 0 then f_X7_takeNumber_b56 o a1 a2  x3 x4 μ3 else gA (μ3.1 o 6) (aln (rf o 0)) (lt ((((10 : Int32) * x3) + (μ3.1 (rf o 0) (μ3.1 o 6).toNatClampNeg)) - (48 : Int32)) (fun v5 => lt (sI μ3 o 6 ((μ3.1 o 6) + (1 : Int32))) (fun μ6 => lt (x4 + (1 : Int32)) (fun v7 => (f_X7_takeNumber_b5 o a1 a2  n) v5 v7 μ6)))))))
set_option maxHeartbeats 4000000 in
set_option maxRecDepth 100000 in
theorem w_X7_takeNumber_b5 (l : Launch) {o : Nat} {a1 : Int32} {a2 : Int32} (ho : knd o = 5) {μ2 : Mem} {r : Int32}  (hX : XX E p m meth c cX7_takeNumber 5 (some .boolean) s args RX7)  : ∀ (n : Nat) (x3 : Int32) (x4 : Int32) (μ : Mem), f_X7_takeNumber_b5 o a1 a2  n x3 x4 μ = some (r, μ2) → ∀ (H : Heap) (locs : List Loc), MM E s μ H locs → ∀ ls : Array Slot, lv_has ls 5 [(0, .ref (eA E o)), (1, .int a1), (2, .int a2), (3, .int x3), (4, .int x4)] → W p l e (rmF 1 22) s m args below meth c H locs 0 0 (MQ below (QC E (some (.int r)) μ2) args s 0 0 (AA E)) (F0 m 5 ls []) := by
  obtain ⟨⟨hx, hb, hml, hown, hts⟩, hXr⟩ := id hX
  intro n
  induction n with
  | zero => intro x3 x4 μ  hf; exact no_none hf
  | succ n ih =>
    intro x3 x4 μ  hf H locs hM ls hl
    rw [f_X7_takeNumber_b5] at hf
    have hK5 := ih
    clear ih
    refine lv_iload hx hb dX7_takeNumber_5 (lv_at hl 4 rfl) ?_
    refine lv_iload_n hx hb dX7_takeNumber_7 rfl (lv_at hl 2 rfl) ?_
    refine lv_icmp_ge (tgt := 56) hx hb dX7_takeNumber_8 (by decide) (fun hc8 => ?_) (fun hc8 => ?_)
    · replace hf := it_t hf hc8
      exact w_X7_takeNumber_b56 l ho   hf hX hM (lv_sub hl [0, 1, 2, 3, 4] rfl)
    · replace hf := it_f hf hc8
      refine lv_aload_n hx hb dX7_takeNumber_11 rfl (lv_at hl 0 rfl) ?_
      refine lv_bipush (v := 48) hx hb dX7_takeNumber_12 (by decide) ?_
      refine lv_bipush (v := 57) hx hb dX7_takeNumber_14 (by decide) ?_
      replace hf := bnd_some hf
      obtain ⟨r4, μ3, h16, hf⟩ := hf
      refine cl_V (As := [.int (48 : Int32), .int (57 : Int32)]) (rest := []) (st2 := [.int r4]) (n := 2) hX hM (c_X7_isNext l ho h16) mv_X7_isNext q_24_20 ⟨rfl, rfl⟩ ⟨Nat.le_of_ble_eq_true rfl, Nat.le_of_ble_eq_true rfl⟩ ho (by decide) rfl rfl rfl hl.1 rfl (Nat.le_of_ble_eq_true rfl) dX7_takeNumber_16 rfl (fun H locs hM => ?_)
      refine lv_if_eq (tgt := 56) hx hb dX7_takeNumber_19 (by decide) (fun hc19 => ?_) (fun hc19 => ?_)
      · replace hf := it_t hf hc19
        exact w_X7_takeNumber_b56 l ho   hf hX hM (lv_sub hl [0, 1, 2, 3, 4] rfl)
      · replace hf := it_f hf hc19
        refine lv_bipush (v := 10) hx hb dX7_takeNumber_22 (by decide) ?_
        refine lv_iload_n hx hb dX7_takeNumber_24 rfl (lv_at hl 3 rfl) ?_
        refine lv_imul hx hb dX7_takeNumber_25 ?_
        refine lv_aload_n hx hb dX7_takeNumber_26 rfl (lv_at hl 0 rfl) ?_
        refine gf_5_0 hX hM ho q_6_3 dX7_takeNumber_27 ?_
        refine lv_aload_n hx hb dX7_takeNumber_30 rfl (lv_at hl 0 rfl) ?_
        refine gf_5_6 hX hM ho q_6_9 dX7_takeNumber_31 ?_
        replace hf := gA_some hf
        obtain ⟨hi, hf⟩ := hf
        refine ald hX hM (kr_5_0 ho) hi dX7_takeNumber_34 ?_
        refine lv_iadd hx hb dX7_takeNumber_35 ?_
        refine lv_bipush (v := 48) hx hb dX7_takeNumber_36 (by decide) ?_
        refine lv_isub hx hb dX7_takeNumber_38 ?_
        refine lv_topi (fun v5 ev5 => ?_)
        replace hf := lt_e ev5 hf
        refine lv_istore_n (lv' := [(3, .int v5), (0, .ref (eA E o)), (1, .int a1), (2, .int a2), (4, .int x4)]) hx hb dX7_takeNumber_39 rfl hl (by decide) rfl (fun ls hl => ?_)
        refine lv_aload_n hx hb dX7_takeNumber_40 rfl (lv_at hl 1 rfl) ?_
        refine lv_dup hx hb dX7_takeNumber_41 rfl ?_
        refine gf_5_6 hX hM ho q_6_9 dX7_takeNumber_42 ?_
        refine lv_iconst (v := 1) hx hb dX7_takeNumber_45 (by decide) ?_
        refine lv_iadd hx hb dX7_takeNumber_46 ?_
        refine pf_5_6 hX hM ho q_6_9 dX7_takeNumber_47 (fun μ6 H locs eμ6 hM => ?_)
        replace hf := lt_e eμ6 hf
        obtain ⟨v7, ev7⟩ : ∃ y : Int32, y = x4 + (1 : Int32) := ⟨_, rfl⟩
        replace hf := lt_e ev7 hf
        refine lv_iinc (v := v7) (lv' := [(4, .int v7), (3, .int v5), (0, .ref (eA E o)), (1, .int a1), (2, .int a2)]) hx hb dX7_takeNumber_50 hl (k := 4) rfl (by rw [ev7]; rfl) (by decide) rfl (fun ls hl => ?_)
        refine lv_goto (tgt := 5) hx hb dX7_takeNumber_53 (by decide) ?_
        exact hK5 _ _ _  hf _ _ hM _ (lv_sub hl [2, 3, 4, 1, 0] rfl)
def f_X7_takeNumber (o : Nat) (a1 : Int32) (a2 : Int32) (μ : Mem) : Option (Int32 × Mem) :=
  f_X7_takeNumber_b5 o a1 a2  FU (0 : Int32) (0 : Int32) μ
set_option maxHeartbeats 4000000 in
set_option maxRecDepth 100000 in
theorem w_X7_takeNumber (l : Launch) {o : Nat} {a1 : Int32} {a2 : Int32} (ho : knd o = 5) {μ μ2 : Mem} {r : Int32} {H : Heap} {locs : List Loc} {ls : Array Slot} (hf : f_X7_takeNumber o a1 a2 μ = some (r, μ2)) (hX : XX E p m meth c cX7_takeNumber 5 (some .boolean) s args RX7) (hM : MM E s μ H locs) (hl : lv_has ls 5 [(0, .ref (eA E o)), (1, .int a1), (2, .int a2)]) : W p l e (rmF 1 22) s m args below meth c H locs 0 0 (MQ below (QC E (some (.int r)) μ2) args s 0 0 (AA E)) (F0 m 0 ls []) := by
  obtain ⟨⟨hx, hb, hml, hown, hts⟩, hXr⟩ := id hX
  unfold f_X7_takeNumber at hf
  refine lv_iconst (v := 0) hx hb dX7_takeNumber_0 (by decide) ?_
  refine lv_istore_n (lv' := [(3, .int (0 : Int32)), (0, .ref (eA E o)), (1, .int a1), (2, .int a2)]) hx hb dX7_takeNumber_1 rfl hl (by decide) rfl (fun ls hl => ?_)
  refine lv_iconst (v := 0) hx hb dX7_takeNumber_2 (by decide) ?_
  refine lv_istore (lv' := [(4, .int (0 : Int32)), (3, .int (0 : Int32)), (0, .ref (eA E o)), (1, .int a1), (2, .int a2)]) hx hb dX7_takeNumber_3 hl (by decide) rfl (fun ls hl => ?_)
  exact w_X7_takeNumber_b5 l ho hX  FU _ _ _  hf _ _ hM _ (lv_sub hl [2, 3, 4, 1, 0] rfl)
theorem c_X7_takeNumber (l : Launch) {o : Nat} {a1 : Int32} {a2 : Int32} (ho : knd o = 5) {μ μ2 : Mem} {r : Int32} (hf : f_X7_takeNumber o a1 a2 μ = some (r, μ2)) : CT E l yX7_takeNumber cX7_takeNumber 5 (some .boolean) (rmF 1 22) [.ref (eA E o), .int a1, .int a2] μ (some (.int r)) μ2 := CT.of (show plainFor yX7_takeNumber = true by decide +kernel) (Nat.le_of_ble_eq_true rfl) rfl (fun _ _ _ _ _ _ _ _ hX hM hl => w_X7_takeNumber l ho hf hX hM hl)
theorem mv_X7_takeNumber : MV yX7_takeNumber cX7_takeNumber 5 (some .boolean) RX7 2 := ⟨q_24_19, q_24_17, q_24_18, q_2_7, by decide +kernel⟩
def f_X7_take (o : Nat) (a1 : Int32) (μ : Mem) : Option (Int32 × Mem) :=
  bnd (f_X7_isNext o a1 a1 μ) (fun r2 μ1 => (if r2 = 0 then some ((0 : Int32), μ1) else lt (sI μ1 o 6 ((μ1.1 o 6) + (1 : Int32))) (fun μ3 => some ((1 : Int32), μ3))))
set_option maxHeartbeats 4000000 in
set_option maxRecDepth 100000 in
theorem w_X7_take (l : Launch) {o : Nat} {a1 : Int32} (ho : knd o = 5) {μ μ2 : Mem} {r : Int32} {H : Heap} {locs : List Loc} {ls : Array Slot} (hf : f_X7_take o a1 μ = some (r, μ2)) (hX : XX E p m meth c cX7_take 2 (some .boolean) s args RX7) (hM : MM E s μ H locs) (hl : lv_has ls 2 [(0, .ref (eA E o)), (1, .int a1)]) : W p l e (rmF 1 22) s m args below meth c H locs 0 0 (MQ below (QC E (some (.int r)) μ2) args s 0 0 (AA E)) (F0 m 0 ls []) := by
  obtain ⟨⟨hx, hb, hml, hown, hts⟩, hXr⟩ := id hX
  unfold f_X7_take at hf
  refine lv_aload_n hx hb dX7_take_0 rfl (lv_at hl 0 rfl) ?_
  refine lv_iload_n hx hb dX7_take_1 rfl (lv_at hl 1 rfl) ?_
  refine lv_iload_n hx hb dX7_take_2 rfl (lv_at hl 1 rfl) ?_
  replace hf := bnd_some hf
  obtain ⟨r2, μ1, h3, hf⟩ := hf
  refine cl_V (As := [.int a1, .int a1]) (rest := []) (st2 := [.int r2]) (n := 2) hX hM (c_X7_isNext l ho h3) mv_X7_isNext q_24_20 ⟨rfl, rfl⟩ ⟨Nat.le_of_ble_eq_true rfl, Nat.le_of_ble_eq_true rfl⟩ ho (by decide) rfl rfl rfl hl.1 rfl (Nat.le_of_ble_eq_true rfl) dX7_take_3 rfl (fun H locs hM => ?_)
  refine lv_if_ne (tgt := 11) hx hb dX7_take_6 (by decide) (fun hc6 => ?_) (fun hc6 => ?_)
  · replace hf := it_f hf hc6
    refine lv_aload_n hx hb dX7_take_11 rfl (lv_at hl 0 rfl) ?_
    refine lv_dup hx hb dX7_take_12 rfl ?_
    refine gf_5_6 hX hM ho q_6_9 dX7_take_13 ?_
    refine lv_iconst (v := 1) hx hb dX7_take_16 (by decide) ?_
    refine lv_iadd hx hb dX7_take_17 ?_
    refine pf_5_6 hX hM ho q_6_9 dX7_take_18 (fun μ3 H locs eμ3 hM => ?_)
    replace hf := lt_e eμ3 hf
    refine lv_iconst (v := 1) hx hb dX7_take_21 (by decide) ?_
    exact rt_z hX hM rfl (congrArg (fun z => some (Value.int z)) (so_1 hf)) (so_2 hf) dX7_take_22
  · replace hf := it_t hf hc6
    refine lv_iconst (v := 0) hx hb dX7_take_9 (by decide) ?_
    exact rt_z hX hM rfl (congrArg (fun z => some (Value.int z)) (so_1 hf)) (so_2 hf) dX7_take_10
theorem c_X7_take (l : Launch) {o : Nat} {a1 : Int32} (ho : knd o = 5) {μ μ2 : Mem} {r : Int32} (hf : f_X7_take o a1 μ = some (r, μ2)) : CT E l yX7_take cX7_take 2 (some .boolean) (rmF 1 22) [.ref (eA E o), .int a1] μ (some (.int r)) μ2 := CT.of (show plainFor yX7_take = true by decide +kernel) (Nat.le_of_ble_eq_true rfl) rfl (fun _ _ _ _ _ _ _ _ hX hM hl => w_X7_take l ho hf hX hM hl)
theorem mv_X7_take : MV yX7_take cX7_take 2 (some .boolean) RX7 1 := ⟨q_25_3, q_25_1, q_25_2, q_2_7, by decide +kernel⟩
def f_X7_takeField (o : Nat) (a1 : Int32) (μ : Mem) : Option (Int32 × Mem) :=
  (if a1 = (100 : Int32) then bnd (f_X7_takeNumber o (1 : Int32) (1 : Int32) μ) (fun r2 μ1 => gB r2 (some (r2, μ1))) else (if a1 = (109 : Int32) then bnd (f_X7_takeNumber o (1 : Int32) (4 : Int32) μ) (fun r4 μ3 => gB r4 (some (r4, μ3))) else (if a1 = (113 : Int32) then bnd (f_X7_takeNumber o (2 : Int32) (2 : Int32) μ) (fun r6 μ5 => gB r6 (some (r6, μ5))) else (if a1 = (117 : Int32) then bnd (f_X7_takeNumber o (1 : Int32) (2 : Int32) μ) (fun r8 μ7 => gB r8 (some (r8, μ7))) else bnd (f_X7_take o a1 μ) (fun r10 μ9 => gB r10 (some (r10, μ9)))))))
set_option maxHeartbeats 4000000 in
set_option maxRecDepth 100000 in
theorem w_X7_takeField (l : Launch) {o : Nat} {a1 : Int32} (ho : knd o = 5) {μ μ2 : Mem} {r : Int32} {H : Heap} {locs : List Loc} {ls : Array Slot} (hf : f_X7_takeField o a1 μ = some (r, μ2)) (hX : XX E p m meth c cX7_takeField 2 (some .boolean) s args RX7) (hM : MM E s μ H locs) (hl : lv_has ls 2 [(0, .ref (eA E o)), (1, .int a1)]) : W p l e (rmF 2 46) s m args below meth c H locs 0 0 (MQ below (QC E (some (.int r)) μ2) args s 0 0 (AA E)) (F0 m 0 ls []) := by
  obtain ⟨⟨hx, hb, hml, hown, hts⟩, hXr⟩ := id hX
  unfold f_X7_takeField at hf
  refine lv_iload_n hx hb dX7_takeField_0 rfl (lv_at hl 1 rfl) ?_
  by_cases hs1_100 : a1 = (100 : Int32)
  · replace hf := it_t hf hs1_100
    refine lv_lookup (off := 43) (tgt := 44) hx hb dX7_takeField_1 (by decide) (by rw [hs1_100]; rfl) (by decide) ?_
    refine lv_aload_n hx hb dX7_takeField_44 rfl (lv_at hl 0 rfl) ?_
    refine lv_iconst (v := 1) hx hb dX7_takeField_45 (by decide) ?_
    refine lv_iconst (v := 1) hx hb dX7_takeField_46 (by decide) ?_
    replace hf := bnd_some hf
    obtain ⟨r2, μ1, h47, hf⟩ := hf
    refine cl_V (As := [.int (1 : Int32), .int (1 : Int32)]) (rest := []) (st2 := [.int r2]) (n := 2) hX hM (c_X7_takeNumber l ho h47) mv_X7_takeNumber q_24_16 ⟨rfl, rfl⟩ ⟨Nat.le_of_ble_eq_true rfl, Nat.le_of_ble_eq_true rfl⟩ ho (by decide) rfl rfl rfl hl.1 rfl (Nat.le_of_ble_eq_true rfl) dX7_takeField_47 rfl (fun H locs hM => ?_)
    replace hf := gB_some hf
    obtain ⟨hz, hf⟩ := hf
    exact rt_z hX hM hz (congrArg (fun z => some (Value.int z)) (so_1 hf)) (so_2 hf) dX7_takeField_50
  · replace hf := it_f hf hs1_100
    by_cases hs1_109 : a1 = (109 : Int32)
    · replace hf := it_t hf hs1_109
      refine lv_lookup (off := 64) (tgt := 65) hx hb dX7_takeField_1 (by decide) (by rw [hs1_109]; rfl) (by decide) ?_
      refine lv_aload_n hx hb dX7_takeField_65 rfl (lv_at hl 0 rfl) ?_
      refine lv_iconst (v := 1) hx hb dX7_takeField_66 (by decide) ?_
      refine lv_iconst (v := 4) hx hb dX7_takeField_67 (by decide) ?_
      replace hf := bnd_some hf
      obtain ⟨r4, μ3, h68, hf⟩ := hf
      refine cl_V (As := [.int (1 : Int32), .int (4 : Int32)]) (rest := []) (st2 := [.int r4]) (n := 2) hX hM (c_X7_takeNumber l ho h68) mv_X7_takeNumber q_24_16 ⟨rfl, rfl⟩ ⟨Nat.le_of_ble_eq_true rfl, Nat.le_of_ble_eq_true rfl⟩ ho (by decide) rfl rfl rfl hl.1 rfl (Nat.le_of_ble_eq_true rfl) dX7_takeField_68 rfl (fun H locs hM => ?_)
      replace hf := gB_some hf
      obtain ⟨hz, hf⟩ := hf
      exact rt_z hX hM hz (congrArg (fun z => some (Value.int z)) (so_1 hf)) (so_2 hf) dX7_takeField_71
    · replace hf := it_f hf hs1_109
      by_cases hs1_113 : a1 = (113 : Int32)
      · replace hf := it_t hf hs1_113
        refine lv_lookup (off := 50) (tgt := 51) hx hb dX7_takeField_1 (by decide) (by rw [hs1_113]; rfl) (by decide) ?_
        refine lv_aload_n hx hb dX7_takeField_51 rfl (lv_at hl 0 rfl) ?_
        refine lv_iconst (v := 2) hx hb dX7_takeField_52 (by decide) ?_
        refine lv_iconst (v := 2) hx hb dX7_takeField_53 (by decide) ?_
        replace hf := bnd_some hf
        obtain ⟨r6, μ5, h54, hf⟩ := hf
        refine cl_V (As := [.int (2 : Int32), .int (2 : Int32)]) (rest := []) (st2 := [.int r6]) (n := 2) hX hM (c_X7_takeNumber l ho h54) mv_X7_takeNumber q_24_16 ⟨rfl, rfl⟩ ⟨Nat.le_of_ble_eq_true rfl, Nat.le_of_ble_eq_true rfl⟩ ho (by decide) rfl rfl rfl hl.1 rfl (Nat.le_of_ble_eq_true rfl) dX7_takeField_54 rfl (fun H locs hM => ?_)
        replace hf := gB_some hf
        obtain ⟨hz, hf⟩ := hf
        exact rt_z hX hM hz (congrArg (fun z => some (Value.int z)) (so_1 hf)) (so_2 hf) dX7_takeField_57
      · replace hf := it_f hf hs1_113
        by_cases hs1_117 : a1 = (117 : Int32)
        · replace hf := it_t hf hs1_117
          refine lv_lookup (off := 57) (tgt := 58) hx hb dX7_takeField_1 (by decide) (by rw [hs1_117]; rfl) (by decide) ?_
          refine lv_aload_n hx hb dX7_takeField_58 rfl (lv_at hl 0 rfl) ?_
          refine lv_iconst (v := 1) hx hb dX7_takeField_59 (by decide) ?_
          refine lv_iconst (v := 2) hx hb dX7_takeField_60 (by decide) ?_
          replace hf := bnd_some hf
          obtain ⟨r8, μ7, h61, hf⟩ := hf
          refine cl_V (As := [.int (1 : Int32), .int (2 : Int32)]) (rest := []) (st2 := [.int r8]) (n := 2) hX hM (c_X7_takeNumber l ho h61) mv_X7_takeNumber q_24_16 ⟨rfl, rfl⟩ ⟨Nat.le_of_ble_eq_true rfl, Nat.le_of_ble_eq_true rfl⟩ ho (by decide) rfl rfl rfl hl.1 rfl (Nat.le_of_ble_eq_true rfl) dX7_takeField_61 rfl (fun H locs hM => ?_)
          replace hf := gB_some hf
          obtain ⟨hz, hf⟩ := hf
          exact rt_z hX hM hz (congrArg (fun z => some (Value.int z)) (so_1 hf)) (so_2 hf) dX7_takeField_64
        · replace hf := it_f hf hs1_117
          refine lv_lookup (off := 71) (tgt := 72) hx hb dX7_takeField_1 (by decide) ((lv_osw hs1_100 rfl).trans ((lv_osw hs1_109 rfl).trans ((lv_osw hs1_113 rfl).trans ((lv_osw hs1_117 rfl).trans rfl)))) (by decide) ?_
          refine lv_aload_n hx hb dX7_takeField_72 rfl (lv_at hl 0 rfl) ?_
          refine lv_iload_n hx hb dX7_takeField_73 rfl (lv_at hl 1 rfl) ?_
          replace hf := bnd_some hf
          obtain ⟨r10, μ9, h74, hf⟩ := hf
          refine cl_V (As := [.int a1]) (rest := []) (st2 := [.int r10]) (n := 1) hX hM (c_X7_take l ho h74) mv_X7_take q_25_0 ⟨rfl, rfl⟩ ⟨Nat.le_of_ble_eq_true rfl, Nat.le_of_ble_eq_true rfl⟩ ho (by decide) rfl rfl rfl hl.1 rfl (Nat.le_of_ble_eq_true rfl) dX7_takeField_74 rfl (fun H locs hM => ?_)
          replace hf := gB_some hf
          obtain ⟨hz, hf⟩ := hf
          exact rt_z hX hM hz (congrArg (fun z => some (Value.int z)) (so_1 hf)) (so_2 hf) dX7_takeField_77
theorem c_X7_takeField (l : Launch) {o : Nat} {a1 : Int32} (ho : knd o = 5) {μ μ2 : Mem} {r : Int32} (hf : f_X7_takeField o a1 μ = some (r, μ2)) : CT E l yX7_takeField cX7_takeField 2 (some .boolean) (rmF 2 46) [.ref (eA E o), .int a1] μ (some (.int r)) μ2 := CT.of (show plainFor yX7_takeField = true by decide +kernel) (Nat.le_of_ble_eq_true rfl) rfl (fun _ _ _ _ _ _ _ _ hX hM hl => w_X7_takeField l ho hf hX hM hl)
theorem mv_X7_takeField : MV yX7_takeField cX7_takeField 2 (some .boolean) RX7 1 := ⟨q_24_15, q_24_13, q_24_14, q_2_7, by decide +kernel⟩
def f_X7_takeClause_b79 (o : Nat)  : Nat → Nat → Int32 → Mem → Option (Int32 × Mem)
  | 0, _, _, _ => none
  | n + 1, x1, x2, μ =>
    bnd (f_J0_length_8abf5 x1 μ) (fun r9 μ8 => (if r9 ≤ x2 then lt (sI μ8 o 4 ((μ8.1 o 4) + (1 : Int32))) (fun μ10 => some ((1 : Int32), μ10)) else bnd (f_J0_charAt_5068e x1 x2 μ8) (fun r12 μ11 => bnd (f_X7_takeField o r12 μ11) (fun r14 μ13 => (if r14 = 0 then some ((0 : Int32), μ13) else lt (x2 + (1 : Int32)) (fun v15 => (f_X7_takeClause_b79 o  n) x1 v15 μ13))))))
set_option maxHeartbeats 4000000 in
set_option maxRecDepth 100000 in
theorem w_X7_takeClause_b79 (l : Launch) {o : Nat} (ho : knd o = 5) {μ2 : Mem} {r : Int32}  (hX : XX E p m meth c cX7_takeClause 3 (some .boolean) s args RX7)  : ∀ (n : Nat) (x1 : Nat) (x2 : Int32) (μ : Mem), x1 < 7 → f_X7_takeClause_b79 o  n x1 x2 μ = some (r, μ2) → ∀ (H : Heap) (locs : List Loc), MM E s μ H locs → ∀ ls : Array Slot, lv_has ls 3 [(0, .ref (eA E o)), (1, .ref (aK E x1)), (2, .int x2)] → W p l e (rmF 4 85) s m args below meth c H locs 0 0 (MQ below (QC E (some (.int r)) μ2) args s 0 0 (AA E)) (F0 m 79 ls []) := by
  obtain ⟨⟨hx, hb, hml, hown, hts⟩, hXr⟩ := id hX
  intro n
  induction n with
  | zero => intro x1 x2 μ hx1 hf; exact no_none hf
  | succ n ih =>
    intro x1 x2 μ hx1 hf H locs hM ls hl
    rw [f_X7_takeClause_b79] at hf
    have hK79 := ih
    clear ih
    refine lv_iload_n hx hb dX7_takeClause_79 rfl (lv_at hl 2 rfl) ?_
    refine lv_aload_n hx hb dX7_takeClause_80 rfl (lv_at hl 1 rfl) ?_
    replace hf := bnd_some hf
    obtain ⟨r9, μ8, h81, hf⟩ := hf
    refine cl_VS (As := []) (rest := [.int x2]) (st2 := [.int r9, .int x2]) (n := 0) hX hM (c_J0_length_8abf5 l hx1 h81) mv_J0_length_8abf5 q_22_13 ⟨rfl, rfl⟩ ⟨Nat.le_of_ble_eq_true rfl, Nat.le_of_ble_eq_true rfl⟩ hx1 rfl rfl hl.1 rfl (Nat.le_of_ble_eq_true rfl) dX7_takeClause_81 rfl (fun H locs hM => ?_)
    refine lv_icmp_ge (tgt := 107) hx hb dX7_takeClause_84 (by decide) (fun hc84 => ?_) (fun hc84 => ?_)
    · replace hf := it_t hf hc84
      refine lv_aload_n hx hb dX7_takeClause_107 rfl (lv_at hl 0 rfl) ?_
      refine lv_dup hx hb dX7_takeClause_108 rfl ?_
      refine gf_5_4 hX hM ho q_6_7 dX7_takeClause_109 ?_
      refine lv_iconst (v := 1) hx hb dX7_takeClause_112 (by decide) ?_
      refine lv_iadd hx hb dX7_takeClause_113 ?_
      refine pf_5_4 hX hM ho q_6_7 dX7_takeClause_114 (fun μ10 H locs eμ10 hM => ?_)
      replace hf := lt_e eμ10 hf
      refine lv_iconst (v := 1) hx hb dX7_takeClause_117 (by decide) ?_
      exact rt_z hX hM rfl (congrArg (fun z => some (Value.int z)) (so_1 hf)) (so_2 hf) dX7_takeClause_118
    · replace hf := it_f hf hc84
      refine lv_aload_n hx hb dX7_takeClause_87 rfl (lv_at hl 0 rfl) ?_
      refine lv_aload_n hx hb dX7_takeClause_88 rfl (lv_at hl 1 rfl) ?_
      refine lv_iload_n hx hb dX7_takeClause_89 rfl (lv_at hl 2 rfl) ?_
      replace hf := bnd_some hf
      obtain ⟨r12, μ11, h90, hf⟩ := hf
      refine cl_VS (As := [.int x2]) (rest := [.ref (eA E o)]) (st2 := [.int r12, .ref (eA E o)]) (n := 1) hX hM (c_J0_charAt_5068e l hx1 h90) mv_J0_charAt_5068e q_22_23 ⟨rfl, rfl⟩ ⟨Nat.le_of_ble_eq_true rfl, Nat.le_of_ble_eq_true rfl⟩ hx1 rfl rfl hl.1 rfl (Nat.le_of_ble_eq_true rfl) dX7_takeClause_90 rfl (fun H locs hM => ?_)
      replace hf := bnd_some hf
      obtain ⟨r14, μ13, h93, hf⟩ := hf
      refine cl_V (As := [.int r12]) (rest := []) (st2 := [.int r14]) (n := 1) hX hM (c_X7_takeField l ho h93) mv_X7_takeField q_24_12 ⟨rfl, rfl⟩ ⟨Nat.le_of_ble_eq_true rfl, Nat.le_of_ble_eq_true rfl⟩ ho (by decide) rfl rfl rfl hl.1 rfl (Nat.le_of_ble_eq_true rfl) dX7_takeClause_93 rfl (fun H locs hM => ?_)
      refine lv_if_ne (tgt := 101) hx hb dX7_takeClause_96 (by decide) (fun hc96 => ?_) (fun hc96 => ?_)
      · replace hf := it_f hf hc96
        obtain ⟨v15, ev15⟩ : ∃ y : Int32, y = x2 + (1 : Int32) := ⟨_, rfl⟩
        replace hf := lt_e ev15 hf
        refine lv_iinc (v := v15) (lv' := [(2, .int v15), (0, .ref (eA E o)), (1, .ref (aK E x1))]) hx hb dX7_takeClause_101 hl (k := 2) rfl (by rw [ev15]; rfl) (by decide) rfl (fun ls hl => ?_)
        refine lv_goto (tgt := 79) hx hb dX7_takeClause_104 (by decide) ?_
        exact hK79 _ _ _  hx1 hf _ _ hM _ (lv_sub hl [1, 2, 0] rfl)
      · replace hf := it_t hf hc96
        refine lv_iconst (v := 0) hx hb dX7_takeClause_99 (by decide) ?_
        exact rt_z hX hM rfl (congrArg (fun z => some (Value.int z)) (so_1 hf)) (so_2 hf) dX7_takeClause_100
def f_X7_takeClause (o : Nat) (μ : Mem) : Option (Int32 × Mem) :=
  (if (μ.1 o 1) ≤ (μ.1 o 6) then some ((0 : Int32), μ) else (if (μ.1 o 4) < (12 : Int32) then gA (μ.1 o 6) (aln (rf o 0)) (bnd (f_X7_formOf (μ.1 (rf o 0) (μ.1 o 6).toNatClampNeg) μ) (fun r2 μ1 => gP (decide (r2 < 7)) (bnd (f_J0_isEmpty_aae02 r2 μ1) (fun r4 μ3 => (if r4 = 0 then gA (μ3.1 o 6) (aln (rf o 0)) (gA (μ3.1 o 4) (aln (rf o 2)) (lt (sI μ3 (rf o 2) (μ3.1 o 4).toNatClampNeg (μ3.1 (rf o 0) (μ3.1 o 6).toNatClampNeg)) (fun μ5 => lt (sI μ5 o 5 (0 : Int32)) (fun μ6 => lt (sI μ6 o 6 ((μ6.1 o 6) + (1 : Int32))) (fun μ7 => f_X7_takeClause_b79 o  FU r2 (0 : Int32) μ7))))) else some ((0 : Int32), μ3)))))) else some ((0 : Int32), μ)))
set_option maxHeartbeats 4000000 in
set_option maxRecDepth 100000 in
theorem w_X7_takeClause (l : Launch) {o : Nat} (ho : knd o = 5) {μ μ2 : Mem} {r : Int32} {H : Heap} {locs : List Loc} {ls : Array Slot} (hf : f_X7_takeClause o μ = some (r, μ2)) (hX : XX E p m meth c cX7_takeClause 3 (some .boolean) s args RX7) (hM : MM E s μ H locs) (hl : lv_has ls 3 [(0, .ref (eA E o))]) : W p l e (rmF 4 85) s m args below meth c H locs 0 0 (MQ below (QC E (some (.int r)) μ2) args s 0 0 (AA E)) (F0 m 0 ls []) := by
  obtain ⟨⟨hx, hb, hml, hown, hts⟩, hXr⟩ := id hX
  unfold f_X7_takeClause at hf
  refine lv_aload_n hx hb dX7_takeClause_0 rfl (lv_at hl 0 rfl) ?_
  refine gf_5_6 hX hM ho q_6_9 dX7_takeClause_1 ?_
  refine lv_aload_n hx hb dX7_takeClause_4 rfl (lv_at hl 0 rfl) ?_
  refine gf_5_1 hX hM ho q_6_4 dX7_takeClause_5 ?_
  refine lv_icmp_ge (tgt := 20) hx hb dX7_takeClause_8 (by decide) (fun hc8 => ?_) (fun hc8 => ?_)
  · replace hf := it_t hf hc8
    refine lv_iconst (v := 0) hx hb dX7_takeClause_20 (by decide) ?_
    exact rt_z hX hM rfl (congrArg (fun z => some (Value.int z)) (so_1 hf)) (so_2 hf) dX7_takeClause_21
  · replace hf := it_f hf hc8
    refine lv_aload_n hx hb dX7_takeClause_11 rfl (lv_at hl 0 rfl) ?_
    refine gf_5_4 hX hM ho q_6_7 dX7_takeClause_12 ?_
    refine lv_bipush (v := 12) hx hb dX7_takeClause_15 (by decide) ?_
    refine lv_icmp_lt (tgt := 22) hx hb dX7_takeClause_17 (by decide) (fun hc17 => ?_) (fun hc17 => ?_)
    · replace hf := it_t hf hc17
      refine lv_aload_n hx hb dX7_takeClause_22 rfl (lv_at hl 0 rfl) ?_
      refine gf_5_0 hX hM ho q_6_3 dX7_takeClause_23 ?_
      refine lv_aload_n hx hb dX7_takeClause_26 rfl (lv_at hl 0 rfl) ?_
      refine gf_5_6 hX hM ho q_6_9 dX7_takeClause_27 ?_
      replace hf := gA_some hf
      obtain ⟨hi, hf⟩ := hf
      refine ald hX hM (kr_5_0 ho) hi dX7_takeClause_30 ?_
      replace hf := bnd_some hf
      obtain ⟨r2, μ1, h31, hf⟩ := hf
      replace hf := gP_some hf
      obtain ⟨hzr2, hf⟩ := hf
      replace hzr2 := of_decide_eq_true hzr2
      refine cl_S (As := [.int (μ.1 (rf o 0) (μ.1 o 6).toNatClampNeg)]) (rest := []) (st2 := [.ref (aK E r2)]) (n := 1) hX hM (c_X7_formOf l  h31) mt_X7_formOf q_22_4 ⟨rfl, rfl⟩ ⟨Nat.le_of_ble_eq_true rfl, Nat.le_of_ble_eq_true rfl⟩ rfl hl.1 rfl (Nat.le_of_ble_eq_true rfl) dX7_takeClause_31 rfl (fun H locs hM => ?_)
      refine lv_astore_n (lv' := [(1, .ref (aK E r2)), (0, .ref (eA E o))]) hx hb dX7_takeClause_34 rfl hl (by decide) rfl (fun ls hl => ?_)
      refine lv_aload_n hx hb dX7_takeClause_35 rfl (lv_at hl 0 rfl) ?_
      replace hf := bnd_some hf
      obtain ⟨r4, μ3, h36, hf⟩ := hf
      refine cl_VS (As := []) (rest := []) (st2 := [.int r4]) (n := 0) hX hM (c_J0_isEmpty_aae02 l hzr2 h36) mv_J0_isEmpty_aae02 q_22_7 ⟨rfl, rfl⟩ ⟨Nat.le_of_ble_eq_true rfl, Nat.le_of_ble_eq_true rfl⟩ hzr2 rfl rfl hl.1 rfl (Nat.le_of_ble_eq_true rfl) dX7_takeClause_36 rfl (fun H locs hM => ?_)
      refine lv_if_eq (tgt := 44) hx hb dX7_takeClause_39 (by decide) (fun hc39 => ?_) (fun hc39 => ?_)
      · replace hf := it_t hf hc39
        refine lv_aload_n hx hb dX7_takeClause_44 rfl (lv_at hl 1 rfl) ?_
        refine gf_5_2 hX hM ho q_6_5 dX7_takeClause_45 ?_
        refine lv_aload_n hx hb dX7_takeClause_48 rfl (lv_at hl 1 rfl) ?_
        refine gf_5_4 hX hM ho q_6_7 dX7_takeClause_49 ?_
        refine lv_aload_n hx hb dX7_takeClause_52 rfl (lv_at hl 1 rfl) ?_
        refine gf_5_0 hX hM ho q_6_3 dX7_takeClause_53 ?_
        refine lv_aload_n hx hb dX7_takeClause_56 rfl (lv_at hl 1 rfl) ?_
        refine gf_5_6 hX hM ho q_6_9 dX7_takeClause_57 ?_
        replace hf := gA_some hf
        obtain ⟨hi, hf⟩ := hf
        refine ald hX hM (kr_5_0 ho) hi dX7_takeClause_60 ?_
        replace hf := gA_some hf
        obtain ⟨hi, hf⟩ := hf
        refine ast hX hM (kr_5_2 ho) hi dX7_takeClause_61 (fun μ5 H locs eμ5 hM => ?_)
        replace hf := lt_e eμ5 hf
        refine lv_aload_n hx hb dX7_takeClause_62 rfl (lv_at hl 1 rfl) ?_
        refine lv_iconst (v := 0) hx hb dX7_takeClause_63 (by decide) ?_
        refine pf_5_5 hX hM ho q_6_8 dX7_takeClause_64 (fun μ6 H locs eμ6 hM => ?_)
        replace hf := lt_e eμ6 hf
        refine lv_aload_n hx hb dX7_takeClause_67 rfl (lv_at hl 1 rfl) ?_
        refine lv_dup hx hb dX7_takeClause_68 rfl ?_
        refine gf_5_6 hX hM ho q_6_9 dX7_takeClause_69 ?_
        refine lv_iconst (v := 1) hx hb dX7_takeClause_72 (by decide) ?_
        refine lv_iadd hx hb dX7_takeClause_73 ?_
        refine pf_5_6 hX hM ho q_6_9 dX7_takeClause_74 (fun μ7 H locs eμ7 hM => ?_)
        replace hf := lt_e eμ7 hf
        refine lv_iconst (v := 0) hx hb dX7_takeClause_77 (by decide) ?_
        refine lv_istore_n (lv' := [(2, .int (0 : Int32)), (1, .ref (aK E r2)), (0, .ref (eA E o))]) hx hb dX7_takeClause_78 rfl hl (by decide) rfl (fun ls hl => ?_)
        exact w_X7_takeClause_b79 l ho hX  FU _ _ _  hzr2 hf _ _ hM _ (lv_sub hl [2, 1, 0] rfl)
      · replace hf := it_f hf hc39
        refine lv_iconst (v := 0) hx hb dX7_takeClause_42 (by decide) ?_
        exact rt_z hX hM rfl (congrArg (fun z => some (Value.int z)) (so_1 hf)) (so_2 hf) dX7_takeClause_43
    · replace hf := it_f hf hc17
      refine lv_iconst (v := 0) hx hb dX7_takeClause_20 (by decide) ?_
      exact rt_z hX hM rfl (congrArg (fun z => some (Value.int z)) (so_1 hf)) (so_2 hf) dX7_takeClause_21
theorem c_X7_takeClause (l : Launch) {o : Nat} (ho : knd o = 5) {μ μ2 : Mem} {r : Int32} (hf : f_X7_takeClause o μ = some (r, μ2)) : CT E l yX7_takeClause cX7_takeClause 3 (some .boolean) (rmF 4 85) [.ref (eA E o)] μ (some (.int r)) μ2 := CT.of (show plainFor yX7_takeClause = true by decide +kernel) (Nat.le_of_ble_eq_true rfl) rfl (fun _ _ _ _ _ _ _ _ hX hM hl => w_X7_takeClause l ho hf hX hM hl)
theorem mv_X7_takeClause : MV yX7_takeClause cX7_takeClause 3 (some .boolean) RX7 0 := ⟨q_22_3, q_22_1, q_22_2, q_2_7, by decide +kernel⟩
def f_X7_parse_b12 (o : Nat)  : Nat → Int32 → Mem → Option (Int32 × Mem)
  | 0, _, _ => none
  | n + 1, x1, μ =>
    (if (12 : Int32) ≤ x1 then some ((μ.1 o 6), μ) else bnd (f_X7_takeClause o μ) (fun r4 μ3 => (if r4 = 0 then some ((μ3.1 o 6), μ3) else (if (μ3.1 o 6) = (μ3.1 o 1) then some ((-1 : Int32), μ3) else (if (μ3.1 o 4) = (12 : Int32) then some ((μ3.1 o 6), μ3) else bnd (f_X7_take o (59 : Int32) μ3) (fun r6 μ5 => (if r6 = 0 then some ((μ5.1 o 6), μ5) else lt (x1 + (1 : Int32)) (fun v7 => (f_X7_parse_b12 o  n) v7 μ5))))))))
set_option maxHeartbeats 4000000 in
set_option maxRecDepth 100000 in
theorem w_X7_parse_b12 (l : Launch) {o : Nat} (ho : knd o = 5) {μ2 : Mem} {r : Int32}  (hX : XX E p m meth c cX7_parse 2 (some .int) s args RX7)  : ∀ (n : Nat) (x1 : Int32) (μ : Mem), f_X7_parse_b12 o  n x1 μ = some (r, μ2) → ∀ (H : Heap) (locs : List Loc), MM E s μ H locs → ∀ ls : Array Slot, lv_has ls 2 [(0, .ref (eA E o)), (1, .int x1)] → W p l e (rmF 5 107) s m args below meth c H locs 0 0 (MQ below (QC E (some (.int r)) μ2) args s 0 0 (AA E)) (F0 m 12 ls []) := by
  obtain ⟨⟨hx, hb, hml, hown, hts⟩, hXr⟩ := id hX
  intro n
  induction n with
  | zero => intro x1 μ  hf; exact no_none hf
  | succ n ih =>
    intro x1 μ  hf H locs hM ls hl
    rw [f_X7_parse_b12] at hf
    have hK12 := ih
    clear ih
    refine lv_iload_n hx hb dX7_parse_12 rfl (lv_at hl 1 rfl) ?_
    refine lv_bipush (v := 12) hx hb dX7_parse_13 (by decide) ?_
    refine lv_icmp_ge (tgt := 72) hx hb dX7_parse_15 (by decide) (fun hc15 => ?_) (fun hc15 => ?_)
    · replace hf := it_t hf hc15
      refine lv_aload_n hx hb dX7_parse_72 rfl (lv_at hl 0 rfl) ?_
      refine gf_5_6 hX hM ho q_6_9 dX7_parse_73 ?_
      exact rt_i hX hM (congrArg (fun z => some (Value.int z)) (so_1 hf)) (so_2 hf) dX7_parse_76
    · replace hf := it_f hf hc15
      refine lv_aload_n hx hb dX7_parse_18 rfl (lv_at hl 0 rfl) ?_
      replace hf := bnd_some hf
      obtain ⟨r4, μ3, h19, hf⟩ := hf
      refine cl_V (As := []) (rest := []) (st2 := [.int r4]) (n := 0) hX hM (c_X7_takeClause l ho h19) mv_X7_takeClause q_22_0 ⟨rfl, rfl⟩ ⟨Nat.le_of_ble_eq_true rfl, Nat.le_of_ble_eq_true rfl⟩ ho (by decide) rfl rfl rfl hl.1 rfl (Nat.le_of_ble_eq_true rfl) dX7_parse_19 rfl (fun H locs hM => ?_)
      refine lv_if_ne (tgt := 30) hx hb dX7_parse_22 (by decide) (fun hc22 => ?_) (fun hc22 => ?_)
      · replace hf := it_f hf hc22
        refine lv_aload_n hx hb dX7_parse_30 rfl (lv_at hl 0 rfl) ?_
        refine gf_5_6 hX hM ho q_6_9 dX7_parse_31 ?_
        refine lv_aload_n hx hb dX7_parse_34 rfl (lv_at hl 0 rfl) ?_
        refine gf_5_1 hX hM ho q_6_4 dX7_parse_35 ?_
        refine lv_icmp_ne (tgt := 43) hx hb dX7_parse_38 (by decide) (fun hc38 => ?_) (fun hc38 => ?_)
        · replace hf := it_f hf hc38
          refine lv_aload_n hx hb dX7_parse_43 rfl (lv_at hl 0 rfl) ?_
          refine gf_5_4 hX hM ho q_6_7 dX7_parse_44 ?_
          refine lv_bipush (v := 12) hx hb dX7_parse_47 (by decide) ?_
          refine lv_icmp_eq (tgt := 61) hx hb dX7_parse_49 (by decide) (fun hc49 => ?_) (fun hc49 => ?_)
          · replace hf := it_t hf hc49
            refine lv_aload_n hx hb dX7_parse_61 rfl (lv_at hl 0 rfl) ?_
            refine gf_5_6 hX hM ho q_6_9 dX7_parse_62 ?_
            exact rt_i hX hM (congrArg (fun z => some (Value.int z)) (so_1 hf)) (so_2 hf) dX7_parse_65
          · replace hf := it_f hf hc49
            refine lv_aload_n hx hb dX7_parse_52 rfl (lv_at hl 0 rfl) ?_
            refine lv_bipush (v := 59) hx hb dX7_parse_53 (by decide) ?_
            replace hf := bnd_some hf
            obtain ⟨r6, μ5, h55, hf⟩ := hf
            refine cl_V (As := [.int (59 : Int32)]) (rest := []) (st2 := [.int r6]) (n := 1) hX hM (c_X7_take l ho h55) mv_X7_take q_25_0 ⟨rfl, rfl⟩ ⟨Nat.le_of_ble_eq_true rfl, Nat.le_of_ble_eq_true rfl⟩ ho (by decide) rfl rfl rfl hl.1 rfl (Nat.le_of_ble_eq_true rfl) dX7_parse_55 rfl (fun H locs hM => ?_)
            refine lv_if_ne (tgt := 66) hx hb dX7_parse_58 (by decide) (fun hc58 => ?_) (fun hc58 => ?_)
            · replace hf := it_f hf hc58
              obtain ⟨v7, ev7⟩ : ∃ y : Int32, y = x1 + (1 : Int32) := ⟨_, rfl⟩
              replace hf := lt_e ev7 hf
              refine lv_iinc (v := v7) (lv' := [(1, .int v7), (0, .ref (eA E o))]) hx hb dX7_parse_66 hl (k := 1) rfl (by rw [ev7]; rfl) (by decide) rfl (fun ls hl => ?_)
              refine lv_goto (tgt := 12) hx hb dX7_parse_69 (by decide) ?_
              exact hK12 _ _  hf _ _ hM _ (lv_sub hl [1, 0] rfl)
            · replace hf := it_t hf hc58
              refine lv_aload_n hx hb dX7_parse_61 rfl (lv_at hl 0 rfl) ?_
              refine gf_5_6 hX hM ho q_6_9 dX7_parse_62 ?_
              exact rt_i hX hM (congrArg (fun z => some (Value.int z)) (so_1 hf)) (so_2 hf) dX7_parse_65
        · replace hf := it_t hf hc38
          refine lv_iconst (v := (-1)) hx hb dX7_parse_41 (by decide) ?_
          exact rt_i hX hM (congrArg (fun z => some (Value.int z)) (so_1 hf)) (so_2 hf) dX7_parse_42
      · replace hf := it_t hf hc22
        refine lv_aload_n hx hb dX7_parse_25 rfl (lv_at hl 0 rfl) ?_
        refine gf_5_6 hX hM ho q_6_9 dX7_parse_26 ?_
        exact rt_i hX hM (congrArg (fun z => some (Value.int z)) (so_1 hf)) (so_2 hf) dX7_parse_29
def f_X7_parse (o : Nat) (μ : Mem) : Option (Int32 × Mem) :=
  lt (sI μ o 6 (0 : Int32)) (fun μ1 => lt (sI μ1 o 4 (0 : Int32)) (fun μ2 => f_X7_parse_b12 o  FU (0 : Int32) μ2))
set_option maxHeartbeats 4000000 in
set_option maxRecDepth 100000 in
theorem w_X7_parse (l : Launch) {o : Nat} (ho : knd o = 5) {μ μ2 : Mem} {r : Int32} {H : Heap} {locs : List Loc} {ls : Array Slot} (hf : f_X7_parse o μ = some (r, μ2)) (hX : XX E p m meth c cX7_parse 2 (some .int) s args RX7) (hM : MM E s μ H locs) (hl : lv_has ls 2 [(0, .ref (eA E o))]) : W p l e (rmF 5 107) s m args below meth c H locs 0 0 (MQ below (QC E (some (.int r)) μ2) args s 0 0 (AA E)) (F0 m 0 ls []) := by
  obtain ⟨⟨hx, hb, hml, hown, hts⟩, hXr⟩ := id hX
  unfold f_X7_parse at hf
  refine lv_aload_n hx hb dX7_parse_0 rfl (lv_at hl 0 rfl) ?_
  refine lv_iconst (v := 0) hx hb dX7_parse_1 (by decide) ?_
  refine pf_5_6 hX hM ho q_6_9 dX7_parse_2 (fun μ1 H locs eμ1 hM => ?_)
  replace hf := lt_e eμ1 hf
  refine lv_aload_n hx hb dX7_parse_5 rfl (lv_at hl 0 rfl) ?_
  refine lv_iconst (v := 0) hx hb dX7_parse_6 (by decide) ?_
  refine pf_5_4 hX hM ho q_6_7 dX7_parse_7 (fun μ2 H locs eμ2 hM => ?_)
  replace hf := lt_e eμ2 hf
  refine lv_iconst (v := 0) hx hb dX7_parse_10 (by decide) ?_
  refine lv_istore_n (lv' := [(1, .int (0 : Int32)), (0, .ref (eA E o))]) hx hb dX7_parse_11 rfl hl (by decide) rfl (fun ls hl => ?_)
  exact w_X7_parse_b12 l ho hX  FU _ _  hf _ _ hM _ (lv_sub hl [1, 0] rfl)
theorem c_X7_parse (l : Launch) {o : Nat} (ho : knd o = 5) {μ μ2 : Mem} {r : Int32} (hf : f_X7_parse o μ = some (r, μ2)) : CT E l yX7_parse cX7_parse 2 (some .int) (rmF 5 107) [.ref (eA E o)] μ (some (.int r)) μ2 := CT.of (show plainFor yX7_parse = true by decide +kernel) (Nat.le_of_ble_eq_true rfl) rfl (fun _ _ _ _ _ _ _ _ hX hM hl => w_X7_parse l ho hf hX hM hl)
theorem mv_X7_parse : MV yX7_parse cX7_parse 2 (some .int) RX7 0 := ⟨q_21_23, q_21_21, q_21_22, q_2_7, by decide +kernel⟩
def f_X7_clear (o : Nat) (μ : Mem) : Option (Mem) :=
  lt (sI μ o 1 (0 : Int32)) (fun μ1 => some μ1)
set_option maxHeartbeats 4000000 in
set_option maxRecDepth 100000 in
theorem w_X7_clear (l : Launch) {o : Nat} (ho : knd o = 5) {μ μ2 : Mem} {H : Heap} {locs : List Loc} {ls : Array Slot} (hf : f_X7_clear o μ = some μ2) (hX : XX E p m meth c cX7_clear 1 none s args RX7) (hM : MM E s μ H locs) (hl : lv_has ls 1 [(0, .ref (eA E o))]) : W p l e (rmF 0 0) s m args below meth c H locs 0 0 (MQ below (QC E (none) μ2) args s 0 0 (AA E)) (F0 m 0 ls []) := by
  obtain ⟨⟨hx, hb, hml, hown, hts⟩, hXr⟩ := id hX
  unfold f_X7_clear at hf
  refine lv_aload_n hx hb dX7_clear_0 rfl (lv_at hl 0 rfl) ?_
  refine lv_iconst (v := 0) hx hb dX7_clear_1 (by decide) ?_
  refine pf_5_1 hX hM ho q_6_4 dX7_clear_2 (fun μ1 H locs eμ1 hM => ?_)
  replace hf := lt_e eμ1 hf
  exact rt_v hX hM rfl (Option.some.inj hf) dX7_clear_5
theorem c_X7_clear (l : Launch) {o : Nat} (ho : knd o = 5) {μ μ2 : Mem} (hf : f_X7_clear o μ = some μ2) : CT E l yX7_clear cX7_clear 1 none (rmF 0 0) [.ref (eA E o)] μ (none) μ2 := CT.of (show plainFor yX7_clear = true by decide +kernel) (Nat.le_of_ble_eq_true rfl) rfl (fun _ _ _ _ _ _ _ _ hX hM hl => w_X7_clear l ho hf hX hM hl)
theorem mv_X7_clear : MV yX7_clear cX7_clear 1 none RX7 0 := ⟨q_25_7, q_25_5, q_25_6, q_2_7, by decide +kernel⟩
def f_X7_clauseCount (o : Nat) (μ : Mem) : Option (Int32 × Mem) :=
  some ((μ.1 o 4), μ)
set_option maxHeartbeats 4000000 in
set_option maxRecDepth 100000 in
theorem w_X7_clauseCount (l : Launch) {o : Nat} (ho : knd o = 5) {μ μ2 : Mem} {r : Int32} {H : Heap} {locs : List Loc} {ls : Array Slot} (hf : f_X7_clauseCount o μ = some (r, μ2)) (hX : XX E p m meth c cX7_clauseCount 1 (some .int) s args RX7) (hM : MM E s μ H locs) (hl : lv_has ls 1 [(0, .ref (eA E o))]) : W p l e (rmF 0 0) s m args below meth c H locs 0 0 (MQ below (QC E (some (.int r)) μ2) args s 0 0 (AA E)) (F0 m 0 ls []) := by
  obtain ⟨⟨hx, hb, hml, hown, hts⟩, hXr⟩ := id hX
  unfold f_X7_clauseCount at hf
  refine lv_aload_n hx hb dX7_clauseCount_0 rfl (lv_at hl 0 rfl) ?_
  refine gf_5_4 hX hM ho q_6_7 dX7_clauseCount_1 ?_
  exact rt_i hX hM (congrArg (fun z => some (Value.int z)) (so_1 hf)) (so_2 hf) dX7_clauseCount_4
theorem c_X7_clauseCount (l : Launch) {o : Nat} (ho : knd o = 5) {μ μ2 : Mem} {r : Int32} (hf : f_X7_clauseCount o μ = some (r, μ2)) : CT E l yX7_clauseCount cX7_clauseCount 1 (some .int) (rmF 0 0) [.ref (eA E o)] μ (some (.int r)) μ2 := CT.of (show plainFor yX7_clauseCount = true by decide +kernel) (Nat.le_of_ble_eq_true rfl) rfl (fun _ _ _ _ _ _ _ _ hX hM hl => w_X7_clauseCount l ho hf hX hM hl)
theorem mv_X7_clauseCount : MV yX7_clauseCount cX7_clauseCount 1 (some .int) RX7 0 := ⟨q_25_11, q_25_9, q_25_10, q_2_7, by decide +kernel⟩
def f_X7_number (o : Nat) (a1 : Int32) (a2 : Int32) (μ : Mem) : Option (Int32 × Mem) :=
  bnd (f_X10_below a1 (μ.1 o 4) μ) (fun r2 μ1 => (if r2 = 0 then some ((-1 : Int32), μ1) else bnd (f_X10_below a2 (6 : Int32) μ1) (fun r4 μ3 => (if r4 = 0 then some ((-1 : Int32), μ3) else gA ((a1 * (6 : Int32)) + a2) (aln (rf o 3)) (some ((μ3.1 (rf o 3) ((a1 * (6 : Int32)) + a2).toNatClampNeg), μ3))))))
set_option maxHeartbeats 4000000 in
set_option maxRecDepth 100000 in
theorem w_X7_number (l : Launch) {o : Nat} {a1 : Int32} {a2 : Int32} (ho : knd o = 5) {μ μ2 : Mem} {r : Int32} {H : Heap} {locs : List Loc} {ls : Array Slot} (hf : f_X7_number o a1 a2 μ = some (r, μ2)) (hX : XX E p m meth c cX7_number 3 (some .int) s args RX7) (hM : MM E s μ H locs) (hl : lv_has ls 3 [(0, .ref (eA E o)), (1, .int a1), (2, .int a2)]) : W p l e (rmF 1 21) s m args below meth c H locs 0 0 (MQ below (QC E (some (.int r)) μ2) args s 0 0 (AA E)) (F0 m 0 ls []) := by
  obtain ⟨⟨hx, hb, hml, hown, hts⟩, hXr⟩ := id hX
  unfold f_X7_number at hf
  refine lv_iload_n hx hb dX7_number_0 rfl (lv_at hl 1 rfl) ?_
  refine lv_aload_n hx hb dX7_number_1 rfl (lv_at hl 0 rfl) ?_
  refine gf_5_4 hX hM ho q_6_7 dX7_number_2 ?_
  replace hf := bnd_some hf
  obtain ⟨r2, μ1, h5, hf⟩ := hf
  refine cl_N (As := [.int a1, .int (μ.1 o 4)]) (rest := []) (st2 := [.int r2]) (n := 2) hX hM (c_X10_below l  h5) mt_X10_below (hXr.2.2.1.2.1.1) ⟨rfl, rfl⟩ ⟨Nat.le_of_ble_eq_true rfl, Nat.le_of_ble_eq_true rfl⟩ rfl hl.1 rfl (Nat.le_of_ble_eq_true rfl) dX7_number_5 rfl (fun H locs hM => ?_)
  refine lv_if_eq (tgt := 20) hx hb dX7_number_8 (by decide) (fun hc8 => ?_) (fun hc8 => ?_)
  · replace hf := it_t hf hc8
    refine lv_iconst (v := (-1)) hx hb dX7_number_20 (by decide) ?_
    exact rt_i hX hM (congrArg (fun z => some (Value.int z)) (so_1 hf)) (so_2 hf) dX7_number_21
  · replace hf := it_f hf hc8
    refine lv_iload_n hx hb dX7_number_11 rfl (lv_at hl 2 rfl) ?_
    refine lv_bipush (v := 6) hx hb dX7_number_12 (by decide) ?_
    replace hf := bnd_some hf
    obtain ⟨r4, μ3, h14, hf⟩ := hf
    refine cl_N (As := [.int a2, .int (6 : Int32)]) (rest := []) (st2 := [.int r4]) (n := 2) hX hM (c_X10_below l  h14) mt_X10_below (hXr.2.2.1.2.1.1) ⟨rfl, rfl⟩ ⟨Nat.le_of_ble_eq_true rfl, Nat.le_of_ble_eq_true rfl⟩ rfl hl.1 rfl (Nat.le_of_ble_eq_true rfl) dX7_number_14 rfl (fun H locs hM => ?_)
    refine lv_if_ne (tgt := 22) hx hb dX7_number_17 (by decide) (fun hc17 => ?_) (fun hc17 => ?_)
    · replace hf := it_f hf hc17
      refine lv_aload_n hx hb dX7_number_22 rfl (lv_at hl 0 rfl) ?_
      refine gf_5_3 hX hM ho q_6_6 dX7_number_23 ?_
      refine lv_iload_n hx hb dX7_number_26 rfl (lv_at hl 1 rfl) ?_
      refine lv_bipush (v := 6) hx hb dX7_number_27 (by decide) ?_
      refine lv_imul hx hb dX7_number_29 ?_
      refine lv_iload_n hx hb dX7_number_30 rfl (lv_at hl 2 rfl) ?_
      refine lv_iadd hx hb dX7_number_31 ?_
      replace hf := gA_some hf
      obtain ⟨hi, hf⟩ := hf
      refine ald hX hM (kr_5_3 ho) hi dX7_number_32 ?_
      exact rt_i hX hM (congrArg (fun z => some (Value.int z)) (so_1 hf)) (so_2 hf) dX7_number_33
    · replace hf := it_t hf hc17
      refine lv_iconst (v := (-1)) hx hb dX7_number_20 (by decide) ?_
      exact rt_i hX hM (congrArg (fun z => some (Value.int z)) (so_1 hf)) (so_2 hf) dX7_number_21
theorem c_X7_number (l : Launch) {o : Nat} {a1 : Int32} {a2 : Int32} (ho : knd o = 5) {μ μ2 : Mem} {r : Int32} (hf : f_X7_number o a1 a2 μ = some (r, μ2)) : CT E l yX7_number cX7_number 3 (some .int) (rmF 1 21) [.ref (eA E o), .int a1, .int a2] μ (some (.int r)) μ2 := CT.of (show plainFor yX7_number = true by decide +kernel) (Nat.le_of_ble_eq_true rfl) rfl (fun _ _ _ _ _ _ _ _ hX hM hl => w_X7_number l ho hf hX hM hl)
theorem mv_X7_number : MV yX7_number cX7_number 3 (some .int) RX7 2 := ⟨q_25_19, q_25_17, q_25_18, q_2_7, by decide +kernel⟩
def f_X7_kind (o : Nat) (a1 : Int32) (μ : Mem) : Option (Int32 × Mem) :=
  bnd (f_X10_below a1 (μ.1 o 4) μ) (fun r2 μ1 => (if r2 = 0 then some ((0 : Int32), μ1) else gA a1 (aln (rf o 2)) (some ((μ1.1 (rf o 2) a1.toNatClampNeg), μ1))))
set_option maxHeartbeats 4000000 in
set_option maxRecDepth 100000 in
theorem w_X7_kind (l : Launch) {o : Nat} {a1 : Int32} (ho : knd o = 5) {μ μ2 : Mem} {r : Int32} {H : Heap} {locs : List Loc} {ls : Array Slot} (hf : f_X7_kind o a1 μ = some (r, μ2)) (hX : XX E p m meth c cX7_kind 2 (some .int) s args RX7) (hM : MM E s μ H locs) (hl : lv_has ls 2 [(0, .ref (eA E o)), (1, .int a1)]) : W p l e (rmF 1 21) s m args below meth c H locs 0 0 (MQ below (QC E (some (.int r)) μ2) args s 0 0 (AA E)) (F0 m 0 ls []) := by
  obtain ⟨⟨hx, hb, hml, hown, hts⟩, hXr⟩ := id hX
  unfold f_X7_kind at hf
  refine lv_iload_n hx hb dX7_kind_0 rfl (lv_at hl 1 rfl) ?_
  refine lv_aload_n hx hb dX7_kind_1 rfl (lv_at hl 0 rfl) ?_
  refine gf_5_4 hX hM ho q_6_7 dX7_kind_2 ?_
  replace hf := bnd_some hf
  obtain ⟨r2, μ1, h5, hf⟩ := hf
  refine cl_N (As := [.int a1, .int (μ.1 o 4)]) (rest := []) (st2 := [.int r2]) (n := 2) hX hM (c_X10_below l  h5) mt_X10_below (hXr.2.2.1.2.1.1) ⟨rfl, rfl⟩ ⟨Nat.le_of_ble_eq_true rfl, Nat.le_of_ble_eq_true rfl⟩ rfl hl.1 rfl (Nat.le_of_ble_eq_true rfl) dX7_kind_5 rfl (fun H locs hM => ?_)
  refine lv_if_eq (tgt := 20) hx hb dX7_kind_8 (by decide) (fun hc8 => ?_) (fun hc8 => ?_)
  · replace hf := it_t hf hc8
    refine lv_iconst (v := 0) hx hb dX7_kind_20 (by decide) ?_
    exact rt_i hX hM (congrArg (fun z => some (Value.int z)) (so_1 hf)) (so_2 hf) dX7_kind_21
  · replace hf := it_f hf hc8
    refine lv_aload_n hx hb dX7_kind_11 rfl (lv_at hl 0 rfl) ?_
    refine gf_5_2 hX hM ho q_6_5 dX7_kind_12 ?_
    refine lv_iload_n hx hb dX7_kind_15 rfl (lv_at hl 1 rfl) ?_
    replace hf := gA_some hf
    obtain ⟨hi, hf⟩ := hf
    refine ald hX hM (kr_5_2 ho) hi dX7_kind_16 ?_
    refine lv_goto (tgt := 21) hx hb dX7_kind_17 (by decide) ?_
    exact rt_i hX hM (congrArg (fun z => some (Value.int z)) (so_1 hf)) (so_2 hf) dX7_kind_21
theorem c_X7_kind (l : Launch) {o : Nat} {a1 : Int32} (ho : knd o = 5) {μ μ2 : Mem} {r : Int32} (hf : f_X7_kind o a1 μ = some (r, μ2)) : CT E l yX7_kind cX7_kind 2 (some .int) (rmF 1 21) [.ref (eA E o), .int a1] μ (some (.int r)) μ2 := CT.of (show plainFor yX7_kind = true by decide +kernel) (Nat.le_of_ble_eq_true rfl) rfl (fun _ _ _ _ _ _ _ _ hX hM hl => w_X7_kind l ho hf hX hM hl)
theorem mv_X7_kind : MV yX7_kind cX7_kind 2 (some .int) RX7 1 := ⟨q_25_23, q_25_21, q_25_22, q_2_7, by decide +kernel⟩
def f_X8_turnWind_b73 (o : Nat) (a1 : Nat) (a2 : Int32) (a3 : Int32) (K39 : Int32 → Mem → Option (Mem)) : Nat → Int32 → Int32 → Mem → Option (Mem)
  | 0, _, _, _ => none
  | n + 1, x4, x5, μ =>
    (if (36 : Int32) ≤ x5 then lt (x4 + (1 : Int32)) (fun v9 => K39 v9 μ) else bnd (f_X1_leastOf (rf o 1) x5 μ) (fun r11 μ10 => gA ((x4 * (36 : Int32)) + x5) (aln (rf o 2)) (lt (sI μ10 (rf o 2) ((x4 * (36 : Int32)) + x5).toNatClampNeg r11) (fun μ12 => lt (x5 + (1 : Int32)) (fun v13 => (f_X8_turnWind_b73 o a1 a2 a3 K39 n) x4 v13 μ12)))))
set_option maxHeartbeats 4000000 in
set_option maxRecDepth 100000 in
theorem w_X8_turnWind_b73 (l : Launch) {o : Nat} {a1 : Nat} {a2 : Int32} {a3 : Int32} (ho : knd o = 6) (ha1 : knd a1 = 4) {μ2 : Mem} {K39 : Int32 → Mem → Option (Mem)} (hX : XX E p m meth c cX8_turnWind 6 none s args RX8) (hK39 : ∀ (x4 : Int32) (μ : Mem), K39 x4 μ = some μ2 → ∀ (H : Heap) (locs : List Loc), MM E s μ H locs → ∀ ls : Array Slot, lv_has ls 6 [(0, .ref (eA E o)), (1, .ref (eA E a1)), (2, .int a2), (3, .int a3), (4, .int x4)] → W p l e (rmF 5 119) s m args below meth c H locs 0 0 (MQ below (QC E (none) μ2) args s 0 0 (AA E)) (F0 m 39 ls [])) : ∀ (n : Nat) (x4 : Int32) (x5 : Int32) (μ : Mem), f_X8_turnWind_b73 o a1 a2 a3 K39 n x4 x5 μ = some μ2 → ∀ (H : Heap) (locs : List Loc), MM E s μ H locs → ∀ ls : Array Slot, lv_has ls 6 [(0, .ref (eA E o)), (1, .ref (eA E a1)), (2, .int a2), (3, .int a3), (4, .int x4), (5, .int x5)] → W p l e (rmF 5 119) s m args below meth c H locs 0 0 (MQ below (QC E (none) μ2) args s 0 0 (AA E)) (F0 m 73 ls []) := by
  obtain ⟨⟨hx, hb, hml, hown, hts⟩, hXr⟩ := id hX
  intro n
  induction n with
  | zero => intro x4 x5 μ  hf; exact no_none hf
  | succ n ih =>
    intro x4 x5 μ  hf H locs hM ls hl
    rw [f_X8_turnWind_b73] at hf
    have hK73 := ih
    clear ih
    refine lv_iload hx hb dX8_turnWind_73 (lv_at hl 5 rfl) ?_
    refine lv_bipush (v := 36) hx hb dX8_turnWind_75 (by decide) ?_
    refine lv_icmp_ge (tgt := 108) hx hb dX8_turnWind_77 (by decide) (fun hc77 => ?_) (fun hc77 => ?_)
    · replace hf := it_t hf hc77
      obtain ⟨v9, ev9⟩ : ∃ y : Int32, y = x4 + (1 : Int32) := ⟨_, rfl⟩
      replace hf := lt_e ev9 hf
      refine lv_iinc (v := v9) (lv' := [(4, .int v9), (0, .ref (eA E o)), (1, .ref (eA E a1)), (2, .int a2), (3, .int a3), (5, .int x5)]) hx hb dX8_turnWind_108 hl (k := 4) rfl (by rw [ev9]; rfl) (by decide) rfl (fun ls hl => ?_)
      refine lv_goto (tgt := 39) hx hb dX8_turnWind_111 (by decide) ?_
      exact hK39 _ _  hf _ _ hM _ (lv_sub hl [1, 2, 3, 4, 0] rfl)
    · replace hf := it_f hf hc77
      refine lv_aload_n hx hb dX8_turnWind_80 rfl (lv_at hl 0 rfl) ?_
      refine gf_6_2 hX hM ho q_5_18 dX8_turnWind_81 ?_
      refine lv_iload hx hb dX8_turnWind_84 (lv_at hl 4 rfl) ?_
      refine lv_bipush (v := 36) hx hb dX8_turnWind_86 (by decide) ?_
      refine lv_imul hx hb dX8_turnWind_88 ?_
      refine lv_iload hx hb dX8_turnWind_89 (lv_at hl 5 rfl) ?_
      refine lv_iadd hx hb dX8_turnWind_91 ?_
      refine lv_aload_n hx hb dX8_turnWind_92 rfl (lv_at hl 0 rfl) ?_
      refine gf_6_1 hX hM ho q_5_17 dX8_turnWind_93 ?_
      refine lv_iload hx hb dX8_turnWind_96 (lv_at hl 5 rfl) ?_
      replace hf := bnd_some hf
      obtain ⟨r11, μ10, h98, hf⟩ := hf
      refine cl_V (As := [.int x5]) (rest := [.int ((x4 * (36 : Int32)) + x5), .ref (eA E (rf o 2))]) (st2 := [.int r11, .int ((x4 * (36 : Int32)) + x5), .ref (eA E (rf o 2))]) (n := 1) hX hM (c_X1_leastOf l (kr_6_1 ho) h98) mv_X1_leastOf q_40_9 ⟨rfl, rfl⟩ ⟨Nat.le_of_ble_eq_true rfl, Nat.le_of_ble_eq_true rfl⟩ (kr_6_1 ho) (by decide) rfl rfl rfl hl.1 rfl (Nat.le_of_ble_eq_true rfl) dX8_turnWind_98 rfl (fun H locs hM => ?_)
      replace hf := gA_some hf
      obtain ⟨hi, hf⟩ := hf
      refine ast hX hM (kr_6_2 ho) hi dX8_turnWind_101 (fun μ12 H locs eμ12 hM => ?_)
      replace hf := lt_e eμ12 hf
      obtain ⟨v13, ev13⟩ : ∃ y : Int32, y = x5 + (1 : Int32) := ⟨_, rfl⟩
      replace hf := lt_e ev13 hf
      refine lv_iinc (v := v13) (lv' := [(5, .int v13), (0, .ref (eA E o)), (1, .ref (eA E a1)), (2, .int a2), (3, .int a3), (4, .int x4)]) hx hb dX8_turnWind_102 hl (k := 5) rfl (by rw [ev13]; rfl) (by decide) rfl (fun ls hl => ?_)
      refine lv_goto (tgt := 73) hx hb dX8_turnWind_105 (by decide) ?_
      exact hK73 _ _ _  hf _ _ hM _ (lv_sub hl [1, 2, 3, 4, 5, 0] rfl)
def f_X8_turnWind_b39 (o : Nat) (a1 : Nat) (a2 : Int32) (a3 : Int32)  : Nat → Int32 → Mem → Option (Mem)
  | 0, _, _ => none
  | n + 1, x4, μ =>
    (if (8 : Int32) ≤ x4 then lt (sI μ o 3 a2) (fun μ2 => lt (sI μ2 o 4 a3) (fun μ3 => lt (sI μ3 o 5 (μ3.1 a1 10)) (fun μ4 => some μ4))) else bnd (f_X6_forceIn a1 a2 a3 μ) (fun r6 μ5 => bnv (f_X6_putWind (rf o 0) a2 a3 x4 r6 μ5) (fun μ7 => bnv (f_X1_freshen (rf o 1) μ7) (fun μ8 => f_X8_turnWind_b73 o a1 a2 a3 (f_X8_turnWind_b39 o a1 a2 a3  n) FU x4 (0 : Int32) μ8))))
set_option maxHeartbeats 4000000 in
set_option maxRecDepth 100000 in
theorem w_X8_turnWind_b39 (l : Launch) {o : Nat} {a1 : Nat} {a2 : Int32} {a3 : Int32} (ho : knd o = 6) (ha1 : knd a1 = 4) {μ2 : Mem}  (hX : XX E p m meth c cX8_turnWind 6 none s args RX8)  : ∀ (n : Nat) (x4 : Int32) (μ : Mem), f_X8_turnWind_b39 o a1 a2 a3  n x4 μ = some μ2 → ∀ (H : Heap) (locs : List Loc), MM E s μ H locs → ∀ ls : Array Slot, lv_has ls 6 [(0, .ref (eA E o)), (1, .ref (eA E a1)), (2, .int a2), (3, .int a3), (4, .int x4)] → W p l e (rmF 5 119) s m args below meth c H locs 0 0 (MQ below (QC E (none) μ2) args s 0 0 (AA E)) (F0 m 39 ls []) := by
  obtain ⟨⟨hx, hb, hml, hown, hts⟩, hXr⟩ := id hX
  intro n
  induction n with
  | zero => intro x4 μ  hf; exact no_none hf
  | succ n ih =>
    intro x4 μ  hf H locs hM ls hl
    rw [f_X8_turnWind_b39] at hf
    have hK39 := ih
    clear ih
    refine lv_iload hx hb dX8_turnWind_39 (lv_at hl 4 rfl) ?_
    refine lv_bipush (v := 8) hx hb dX8_turnWind_41 (by decide) ?_
    refine lv_icmp_ge (tgt := 114) hx hb dX8_turnWind_43 (by decide) (fun hc43 => ?_) (fun hc43 => ?_)
    · replace hf := it_t hf hc43
      refine lv_aload_n hx hb dX8_turnWind_114 rfl (lv_at hl 0 rfl) ?_
      refine lv_iload_n hx hb dX8_turnWind_115 rfl (lv_at hl 2 rfl) ?_
      refine pf_6_3 hX hM ho q_5_19 dX8_turnWind_116 (fun μ2 H locs eμ2 hM => ?_)
      replace hf := lt_e eμ2 hf
      refine lv_aload_n hx hb dX8_turnWind_119 rfl (lv_at hl 0 rfl) ?_
      refine lv_iload_n hx hb dX8_turnWind_120 rfl (lv_at hl 3 rfl) ?_
      refine pf_6_4 hX hM ho q_5_20 dX8_turnWind_121 (fun μ3 H locs eμ3 hM => ?_)
      replace hf := lt_e eμ3 hf
      refine lv_aload_n hx hb dX8_turnWind_124 rfl (lv_at hl 0 rfl) ?_
      refine lv_aload_n hx hb dX8_turnWind_125 rfl (lv_at hl 1 rfl) ?_
      refine gf_4_10 hX hM ha1 q_40_1 dX8_turnWind_126 ?_
      refine pf_6_5 hX hM ho q_5_21 dX8_turnWind_129 (fun μ4 H locs eμ4 hM => ?_)
      replace hf := lt_e eμ4 hf
      exact rt_v hX hM rfl (Option.some.inj hf) dX8_turnWind_132
    · replace hf := it_f hf hc43
      refine lv_aload_n hx hb dX8_turnWind_46 rfl (lv_at hl 0 rfl) ?_
      refine gf_6_0 hX hM ho q_5_15 dX8_turnWind_47 ?_
      refine lv_iload_n hx hb dX8_turnWind_50 rfl (lv_at hl 2 rfl) ?_
      refine lv_iload_n hx hb dX8_turnWind_51 rfl (lv_at hl 3 rfl) ?_
      refine lv_iload hx hb dX8_turnWind_52 (lv_at hl 4 rfl) ?_
      refine lv_aload_n hx hb dX8_turnWind_54 rfl (lv_at hl 1 rfl) ?_
      refine lv_iload_n hx hb dX8_turnWind_55 rfl (lv_at hl 2 rfl) ?_
      refine lv_iload_n hx hb dX8_turnWind_56 rfl (lv_at hl 3 rfl) ?_
      replace hf := bnd_some hf
      obtain ⟨r6, μ5, h57, hf⟩ := hf
      refine cl_V (As := [.int a2, .int a3]) (rest := [.int x4, .int a3, .int a2, .ref (eA E (rf o 0))]) (st2 := [.int r6, .int x4, .int a3, .int a2, .ref (eA E (rf o 0))]) (n := 2) hX hM (c_X6_forceIn l ha1 h57) mv_X6_forceIn q_40_6 ⟨rfl, rfl⟩ ⟨Nat.le_of_ble_eq_true rfl, Nat.le_of_ble_eq_true rfl⟩ ha1 (by decide) rfl rfl rfl hl.1 rfl (Nat.le_of_ble_eq_true rfl) dX8_turnWind_57 rfl (fun H locs hM => ?_)
      replace hf := bnv_some hf
      obtain ⟨μ7, h60, hf⟩ := hf
      refine cl_V (As := [.int a2, .int a3, .int x4, .int r6]) (rest := []) (st2 := []) (n := 4) hX hM (c_X6_putWind l (kr_6_0 ho) h60) mv_X6_putWind q_40_7 ⟨rfl, rfl⟩ ⟨Nat.le_of_ble_eq_true rfl, Nat.le_of_ble_eq_true rfl⟩ (kr_6_0 ho) (by decide) rfl rfl rfl hl.1 rfl (Nat.le_of_ble_eq_true rfl) dX8_turnWind_60 rfl (fun H locs hM => ?_)
      refine lv_aload_n hx hb dX8_turnWind_63 rfl (lv_at hl 0 rfl) ?_
      refine gf_6_1 hX hM ho q_5_17 dX8_turnWind_64 ?_
      replace hf := bnv_some hf
      obtain ⟨μ8, h67, hf⟩ := hf
      refine cl_V (As := []) (rest := []) (st2 := []) (n := 0) hX hM (c_X1_freshen l (kr_6_1 ho) h67) mv_X1_freshen q_40_8 ⟨rfl, rfl⟩ ⟨Nat.le_of_ble_eq_true rfl, Nat.le_of_ble_eq_true rfl⟩ (kr_6_1 ho) (by decide) rfl rfl rfl hl.1 rfl (Nat.le_of_ble_eq_true rfl) dX8_turnWind_67 rfl (fun H locs hM => ?_)
      refine lv_iconst (v := 0) hx hb dX8_turnWind_70 (by decide) ?_
      refine lv_istore (lv' := [(5, .int (0 : Int32)), (0, .ref (eA E o)), (1, .ref (eA E a1)), (2, .int a2), (3, .int a3), (4, .int x4)]) hx hb dX8_turnWind_71 hl (by decide) rfl (fun ls hl => ?_)
      exact w_X8_turnWind_b73 l ho ha1 hX hK39 FU _ _ _  hf _ _ hM _ (lv_sub hl [1, 2, 3, 4, 5, 0] rfl)
def f_X8_turnWind_b28 (o : Nat) (a1 : Nat) (a2 : Int32) (a3 : Int32)   (μ : Mem) : Option (Mem) :=
  bnv (f_X6_becomeLike (rf o 0) a1 μ) (fun μ1 => f_X8_turnWind_b39 o a1 a2 a3  FU (0 : Int32) μ1)
set_option maxHeartbeats 4000000 in
set_option maxRecDepth 100000 in
theorem w_X8_turnWind_b28 (l : Launch) {o : Nat} {a1 : Nat} {a2 : Int32} {a3 : Int32} (ho : knd o = 6) (ha1 : knd a1 = 4) {μ2 : Mem}    {μ : Mem} {H : Heap} {locs : List Loc} {ls : Array Slot}  (hf : f_X8_turnWind_b28 o a1 a2 a3   μ = some μ2) (hX : XX E p m meth c cX8_turnWind 6 none s args RX8) (hM : MM E s μ H locs) (hl : lv_has ls 6 [(0, .ref (eA E o)), (1, .ref (eA E a1)), (2, .int a2), (3, .int a3)]) : W p l e (rmF 5 119) s m args below meth c H locs 0 0 (MQ below (QC E (none) μ2) args s 0 0 (AA E)) (F0 m 28 ls []) := by
  obtain ⟨⟨hx, hb, hml, hown, hts⟩, hXr⟩ := id hX
  unfold f_X8_turnWind_b28 at hf
  refine lv_aload_n hx hb dX8_turnWind_28 rfl (lv_at hl 0 rfl) ?_
  refine gf_6_0 hX hM ho q_5_15 dX8_turnWind_29 ?_
  refine lv_aload_n hx hb dX8_turnWind_32 rfl (lv_at hl 1 rfl) ?_
  replace hf := bnv_some hf
  obtain ⟨μ1, h33, hf⟩ := hf
  refine cl_V (As := [.ref (eA E a1)]) (rest := []) (st2 := []) (n := 1) hX hM (c_X6_becomeLike l (kr_6_0 ho) ha1 h33) mv_X6_becomeLike q_40_2 ⟨rfl, rfl⟩ ⟨Nat.le_of_ble_eq_true rfl, Nat.le_of_ble_eq_true rfl⟩ (kr_6_0 ho) (by decide) rfl rfl rfl hl.1 rfl (Nat.le_of_ble_eq_true rfl) dX8_turnWind_33 rfl (fun H locs hM => ?_)
  refine lv_iconst (v := 0) hx hb dX8_turnWind_36 (by decide) ?_
  refine lv_istore (lv' := [(4, .int (0 : Int32)), (0, .ref (eA E o)), (1, .ref (eA E a1)), (2, .int a2), (3, .int a3)]) hx hb dX8_turnWind_37 hl (by decide) rfl (fun ls hl => ?_)
  exact w_X8_turnWind_b39 l ho ha1 hX  FU _ _  hf _ _ hM _ (lv_sub hl [1, 2, 3, 4, 0] rfl)
def f_X8_turnWind (o : Nat) (a1 : Nat) (a2 : Int32) (a3 : Int32) (μ : Mem) : Option (Mem) :=
  (if a2 = (μ.1 o 3) then (if a3 = (μ.1 o 4) then (if (μ.1 o 5) = (μ.1 a1 10) then some μ else f_X8_turnWind_b28 o a1 a2 a3   μ) else f_X8_turnWind_b28 o a1 a2 a3   μ) else f_X8_turnWind_b28 o a1 a2 a3   μ)
set_option maxHeartbeats 4000000 in
set_option maxRecDepth 100000 in
theorem w_X8_turnWind (l : Launch) {o : Nat} {a1 : Nat} {a2 : Int32} {a3 : Int32} (ho : knd o = 6) (ha1 : knd a1 = 4) {μ μ2 : Mem} {H : Heap} {locs : List Loc} {ls : Array Slot} (hf : f_X8_turnWind o a1 a2 a3 μ = some μ2) (hX : XX E p m meth c cX8_turnWind 6 none s args RX8) (hM : MM E s μ H locs) (hl : lv_has ls 6 [(0, .ref (eA E o)), (1, .ref (eA E a1)), (2, .int a2), (3, .int a3)]) : W p l e (rmF 5 119) s m args below meth c H locs 0 0 (MQ below (QC E (none) μ2) args s 0 0 (AA E)) (F0 m 0 ls []) := by
  obtain ⟨⟨hx, hb, hml, hown, hts⟩, hXr⟩ := id hX
  unfold f_X8_turnWind at hf
  refine lv_iload_n hx hb dX8_turnWind_0 rfl (lv_at hl 2 rfl) ?_
  refine lv_aload_n hx hb dX8_turnWind_1 rfl (lv_at hl 0 rfl) ?_
  refine gf_6_3 hX hM ho q_5_19 dX8_turnWind_2 ?_
  refine lv_icmp_ne (tgt := 28) hx hb dX8_turnWind_5 (by decide) (fun hc5 => ?_) (fun hc5 => ?_)
  · replace hf := it_f hf hc5
    exact w_X8_turnWind_b28 l ho ha1   hf hX hM (lv_sub hl [0, 1, 2, 3] rfl)
  · replace hf := it_t hf hc5
    refine lv_iload_n hx hb dX8_turnWind_8 rfl (lv_at hl 3 rfl) ?_
    refine lv_aload_n hx hb dX8_turnWind_9 rfl (lv_at hl 0 rfl) ?_
    refine gf_6_4 hX hM ho q_5_20 dX8_turnWind_10 ?_
    refine lv_icmp_ne (tgt := 28) hx hb dX8_turnWind_13 (by decide) (fun hc13 => ?_) (fun hc13 => ?_)
    · replace hf := it_f hf hc13
      exact w_X8_turnWind_b28 l ho ha1   hf hX hM (lv_sub hl [0, 1, 2, 3] rfl)
    · replace hf := it_t hf hc13
      refine lv_aload_n hx hb dX8_turnWind_16 rfl (lv_at hl 0 rfl) ?_
      refine gf_6_5 hX hM ho q_5_21 dX8_turnWind_17 ?_
      refine lv_aload_n hx hb dX8_turnWind_20 rfl (lv_at hl 1 rfl) ?_
      refine gf_4_10 hX hM ha1 q_40_1 dX8_turnWind_21 ?_
      refine lv_icmp_ne (tgt := 28) hx hb dX8_turnWind_24 (by decide) (fun hc24 => ?_) (fun hc24 => ?_)
      · replace hf := it_f hf hc24
        exact w_X8_turnWind_b28 l ho ha1   hf hX hM (lv_sub hl [0, 1, 2, 3] rfl)
      · replace hf := it_t hf hc24
        exact rt_v hX hM rfl (Option.some.inj hf) dX8_turnWind_27
theorem c_X8_turnWind (l : Launch) {o : Nat} {a1 : Nat} {a2 : Int32} {a3 : Int32} (ho : knd o = 6) (ha1 : knd a1 = 4) {μ μ2 : Mem} (hf : f_X8_turnWind o a1 a2 a3 μ = some μ2) : CT E l yX8_turnWind cX8_turnWind 6 none (rmF 5 119) [.ref (eA E o), .ref (eA E a1), .int a2, .int a3] μ (none) μ2 := CT.of (show plainFor yX8_turnWind = true by decide +kernel) (Nat.le_of_ble_eq_true rfl) rfl (fun _ _ _ _ _ _ _ _ hX hM hl => w_X8_turnWind l ho ha1 hf hX hM hl)
theorem mv_X8_turnWind : MV yX8_turnWind cX8_turnWind 6 none RX8 3 := ⟨q_40_0, q_39_22, q_39_23, q_2_3, by decide +kernel⟩
def f_X8_leastWhenFrom (o : Nat) (a1 : Int32) (a2 : Int32) (μ : Mem) : Option (Int32 × Mem) :=
  gA ((a1 * (36 : Int32)) + a2) (aln (rf o 2)) (some ((μ.1 (rf o 2) ((a1 * (36 : Int32)) + a2).toNatClampNeg), μ))
set_option maxHeartbeats 4000000 in
set_option maxRecDepth 100000 in
theorem w_X8_leastWhenFrom (l : Launch) {o : Nat} {a1 : Int32} {a2 : Int32} (ho : knd o = 6) {μ μ2 : Mem} {r : Int32} {H : Heap} {locs : List Loc} {ls : Array Slot} (hf : f_X8_leastWhenFrom o a1 a2 μ = some (r, μ2)) (hX : XX E p m meth c cX8_leastWhenFrom 3 (some .int) s args RX8) (hM : MM E s μ H locs) (hl : lv_has ls 3 [(0, .ref (eA E o)), (1, .int a1), (2, .int a2)]) : W p l e (rmF 0 0) s m args below meth c H locs 0 0 (MQ below (QC E (some (.int r)) μ2) args s 0 0 (AA E)) (F0 m 0 ls []) := by
  obtain ⟨⟨hx, hb, hml, hown, hts⟩, hXr⟩ := id hX
  unfold f_X8_leastWhenFrom at hf
  refine lv_aload_n hx hb dX8_leastWhenFrom_0 rfl (lv_at hl 0 rfl) ?_
  refine gf_6_2 hX hM ho q_5_18 dX8_leastWhenFrom_1 ?_
  refine lv_iload_n hx hb dX8_leastWhenFrom_4 rfl (lv_at hl 1 rfl) ?_
  refine lv_bipush (v := 36) hx hb dX8_leastWhenFrom_5 (by decide) ?_
  refine lv_imul hx hb dX8_leastWhenFrom_7 ?_
  refine lv_iload_n hx hb dX8_leastWhenFrom_8 rfl (lv_at hl 2 rfl) ?_
  refine lv_iadd hx hb dX8_leastWhenFrom_9 ?_
  replace hf := gA_some hf
  obtain ⟨hi, hf⟩ := hf
  refine ald hX hM (kr_6_2 ho) hi dX8_leastWhenFrom_10 ?_
  exact rt_i hX hM (congrArg (fun z => some (Value.int z)) (so_1 hf)) (so_2 hf) dX8_leastWhenFrom_11
theorem c_X8_leastWhenFrom (l : Launch) {o : Nat} {a1 : Int32} {a2 : Int32} (ho : knd o = 6) {μ μ2 : Mem} {r : Int32} (hf : f_X8_leastWhenFrom o a1 a2 μ = some (r, μ2)) : CT E l yX8_leastWhenFrom cX8_leastWhenFrom 3 (some .int) (rmF 0 0) [.ref (eA E o), .int a1, .int a2] μ (some (.int r)) μ2 := CT.of (show plainFor yX8_leastWhenFrom = true by decide +kernel) (Nat.le_of_ble_eq_true rfl) rfl (fun _ _ _ _ _ _ _ _ hX hM hl => w_X8_leastWhenFrom l ho hf hX hM hl)
theorem mv_X8_leastWhenFrom : MV yX8_leastWhenFrom cX8_leastWhenFrom 3 (some .int) RX8 2 := ⟨q_40_19, q_40_17, q_40_18, q_2_3, by decide +kernel⟩
def f_X8_allSeenInTime_b2 (o : Nat) (a1 : Int32) (a2 : Nat)  : Nat → Int32 → Mem → Option (Int32 × Mem)
  | 0, _, _ => none
  | n + 1, x3, μ =>
    bnd (f_X5_size a2 μ) (fun r2 μ1 => (if r2 ≤ x3 then some ((1 : Int32), μ1) else bnd (f_X5_first a2 x3 μ1) (fun r4 μ3 => bnd (f_X8_leastWhenFrom o a1 r4 μ3) (fun r6 μ5 => bnd (f_X5_second a2 x3 μ5) (fun r8 μ7 => (if r6 ≤ r8 then lt (x3 + (1 : Int32)) (fun v9 => (f_X8_allSeenInTime_b2 o a1 a2  n) v9 μ7) else some ((0 : Int32), μ7)))))))
set_option maxHeartbeats 4000000 in
set_option maxRecDepth 100000 in
theorem w_X8_allSeenInTime_b2 (l : Launch) {o : Nat} {a1 : Int32} {a2 : Nat} (ho : knd o = 6) (ha2 : knd a2 = 3) {μ2 : Mem} {r : Int32}  (hX : XX E p m meth c cX8_allSeenInTime 4 (some .boolean) s args RX8)  : ∀ (n : Nat) (x3 : Int32) (μ : Mem), f_X8_allSeenInTime_b2 o a1 a2  n x3 μ = some (r, μ2) → ∀ (H : Heap) (locs : List Loc), MM E s μ H locs → ∀ ls : Array Slot, lv_has ls 4 [(0, .ref (eA E o)), (1, .int a1), (2, .ref (eA E a2)), (3, .int x3)] → W p l e (rmF 2 42) s m args below meth c H locs 0 0 (MQ below (QC E (some (.int r)) μ2) args s 0 0 (AA E)) (F0 m 2 ls []) := by
  obtain ⟨⟨hx, hb, hml, hown, hts⟩, hXr⟩ := id hX
  intro n
  induction n with
  | zero => intro x3 μ  hf; exact no_none hf
  | succ n ih =>
    intro x3 μ  hf H locs hM ls hl
    rw [f_X8_allSeenInTime_b2] at hf
    have hK2 := ih
    clear ih
    refine lv_iload_n hx hb dX8_allSeenInTime_2 rfl (lv_at hl 3 rfl) ?_
    refine lv_aload_n hx hb dX8_allSeenInTime_3 rfl (lv_at hl 2 rfl) ?_
    replace hf := bnd_some hf
    obtain ⟨r2, μ1, h4, hf⟩ := hf
    refine cl_V (As := []) (rest := [.int x3]) (st2 := [.int r2, .int x3]) (n := 0) hX hM (c_X5_size l ha2 h4) mv_X5_size q_40_14 ⟨rfl, rfl⟩ ⟨Nat.le_of_ble_eq_true rfl, Nat.le_of_ble_eq_true rfl⟩ ha2 (by decide) rfl rfl rfl hl.1 rfl (Nat.le_of_ble_eq_true rfl) dX8_allSeenInTime_4 rfl (fun H locs hM => ?_)
    refine lv_icmp_ge (tgt := 36) hx hb dX8_allSeenInTime_7 (by decide) (fun hc7 => ?_) (fun hc7 => ?_)
    · replace hf := it_t hf hc7
      refine lv_iconst (v := 1) hx hb dX8_allSeenInTime_36 (by decide) ?_
      exact rt_z hX hM rfl (congrArg (fun z => some (Value.int z)) (so_1 hf)) (so_2 hf) dX8_allSeenInTime_37
    · replace hf := it_f hf hc7
      refine lv_aload_n hx hb dX8_allSeenInTime_10 rfl (lv_at hl 0 rfl) ?_
      refine lv_iload_n hx hb dX8_allSeenInTime_11 rfl (lv_at hl 1 rfl) ?_
      refine lv_aload_n hx hb dX8_allSeenInTime_12 rfl (lv_at hl 2 rfl) ?_
      refine lv_iload_n hx hb dX8_allSeenInTime_13 rfl (lv_at hl 3 rfl) ?_
      replace hf := bnd_some hf
      obtain ⟨r4, μ3, h14, hf⟩ := hf
      refine cl_V (As := [.int x3]) (rest := [.int a1, .ref (eA E o)]) (st2 := [.int r4, .int a1, .ref (eA E o)]) (n := 1) hX hM (c_X5_first l ha2 h14) mv_X5_first q_40_15 ⟨rfl, rfl⟩ ⟨Nat.le_of_ble_eq_true rfl, Nat.le_of_ble_eq_true rfl⟩ ha2 (by decide) rfl rfl rfl hl.1 rfl (Nat.le_of_ble_eq_true rfl) dX8_allSeenInTime_14 rfl (fun H locs hM => ?_)
      replace hf := bnd_some hf
      obtain ⟨r6, μ5, h17, hf⟩ := hf
      refine cl_V (As := [.int a1, .int r4]) (rest := []) (st2 := [.int r6]) (n := 2) hX hM (c_X8_leastWhenFrom l ho h17) mv_X8_leastWhenFrom q_40_16 ⟨rfl, rfl⟩ ⟨Nat.le_of_ble_eq_true rfl, Nat.le_of_ble_eq_true rfl⟩ ho (by decide) rfl rfl rfl hl.1 rfl (Nat.le_of_ble_eq_true rfl) dX8_allSeenInTime_17 rfl (fun H locs hM => ?_)
      refine lv_aload_n hx hb dX8_allSeenInTime_20 rfl (lv_at hl 2 rfl) ?_
      refine lv_iload_n hx hb dX8_allSeenInTime_21 rfl (lv_at hl 3 rfl) ?_
      replace hf := bnd_some hf
      obtain ⟨r8, μ7, h22, hf⟩ := hf
      refine cl_V (As := [.int x3]) (rest := [.int r6]) (st2 := [.int r8, .int r6]) (n := 1) hX hM (c_X5_second l ha2 h22) mv_X5_second q_40_20 ⟨rfl, rfl⟩ ⟨Nat.le_of_ble_eq_true rfl, Nat.le_of_ble_eq_true rfl⟩ ha2 (by decide) rfl rfl rfl hl.1 rfl (Nat.le_of_ble_eq_true rfl) dX8_allSeenInTime_22 rfl (fun H locs hM => ?_)
      refine lv_icmp_le (tgt := 30) hx hb dX8_allSeenInTime_25 (by decide) (fun hc25 => ?_) (fun hc25 => ?_)
      · replace hf := it_t hf hc25
        obtain ⟨v9, ev9⟩ : ∃ y : Int32, y = x3 + (1 : Int32) := ⟨_, rfl⟩
        replace hf := lt_e ev9 hf
        refine lv_iinc (v := v9) (lv' := [(3, .int v9), (0, .ref (eA E o)), (1, .int a1), (2, .ref (eA E a2))]) hx hb dX8_allSeenInTime_30 hl (k := 3) rfl (by rw [ev9]; rfl) (by decide) rfl (fun ls hl => ?_)
        refine lv_goto (tgt := 2) hx hb dX8_allSeenInTime_33 (by decide) ?_
        exact hK2 _ _  hf _ _ hM _ (lv_sub hl [1, 2, 3, 0] rfl)
      · replace hf := it_f hf hc25
        refine lv_iconst (v := 0) hx hb dX8_allSeenInTime_28 (by decide) ?_
        exact rt_z hX hM rfl (congrArg (fun z => some (Value.int z)) (so_1 hf)) (so_2 hf) dX8_allSeenInTime_29
def f_X8_allSeenInTime (o : Nat) (a1 : Int32) (a2 : Nat) (μ : Mem) : Option (Int32 × Mem) :=
  f_X8_allSeenInTime_b2 o a1 a2  FU (0 : Int32) μ
set_option maxHeartbeats 4000000 in
set_option maxRecDepth 100000 in
theorem w_X8_allSeenInTime (l : Launch) {o : Nat} {a1 : Int32} {a2 : Nat} (ho : knd o = 6) (ha2 : knd a2 = 3) {μ μ2 : Mem} {r : Int32} {H : Heap} {locs : List Loc} {ls : Array Slot} (hf : f_X8_allSeenInTime o a1 a2 μ = some (r, μ2)) (hX : XX E p m meth c cX8_allSeenInTime 4 (some .boolean) s args RX8) (hM : MM E s μ H locs) (hl : lv_has ls 4 [(0, .ref (eA E o)), (1, .int a1), (2, .ref (eA E a2))]) : W p l e (rmF 2 42) s m args below meth c H locs 0 0 (MQ below (QC E (some (.int r)) μ2) args s 0 0 (AA E)) (F0 m 0 ls []) := by
  obtain ⟨⟨hx, hb, hml, hown, hts⟩, hXr⟩ := id hX
  unfold f_X8_allSeenInTime at hf
  refine lv_iconst (v := 0) hx hb dX8_allSeenInTime_0 (by decide) ?_
  refine lv_istore_n (lv' := [(3, .int (0 : Int32)), (0, .ref (eA E o)), (1, .int a1), (2, .ref (eA E a2))]) hx hb dX8_allSeenInTime_1 rfl hl (by decide) rfl (fun ls hl => ?_)
  exact w_X8_allSeenInTime_b2 l ho ha2 hX  FU _ _  hf _ _ hM _ (lv_sub hl [1, 2, 3, 0] rfl)
theorem c_X8_allSeenInTime (l : Launch) {o : Nat} {a1 : Int32} {a2 : Nat} (ho : knd o = 6) (ha2 : knd a2 = 3) {μ μ2 : Mem} {r : Int32} (hf : f_X8_allSeenInTime o a1 a2 μ = some (r, μ2)) : CT E l yX8_allSeenInTime cX8_allSeenInTime 4 (some .boolean) (rmF 2 42) [.ref (eA E o), .int a1, .ref (eA E a2)] μ (some (.int r)) μ2 := CT.of (show plainFor yX8_allSeenInTime = true by decide +kernel) (Nat.le_of_ble_eq_true rfl) rfl (fun _ _ _ _ _ _ _ _ hX hM hl => w_X8_allSeenInTime l ho ha2 hf hX hM hl)
theorem mv_X8_allSeenInTime : MV yX8_allSeenInTime cX8_allSeenInTime 4 (some .boolean) RX8 2 := ⟨q_40_13, q_40_11, q_40_12, q_2_3, by decide +kernel⟩
def f_X8_undergo_b10 (o : Nat) (a1 : Nat) (a2 : Nat)  : Nat → Int32 → Mem → Option (Nat × Mem)
  | 0, _, _ => none
  | n + 1, x3, μ =>
    bnd (f_X5_size a2 μ) (fun r3 μ2 => (if r3 ≤ x3 then bnv (f_X1_freshen (rf o 1) μ2) (fun μ4 => some ((rf o 1), μ4)) else bnd (f_X5_first a2 x3 μ2) (fun r6 μ5 => bnd (f_X5_second a2 x3 μ5) (fun r8 μ7 => bnv (f_X6_undergo (rf o 0) r6 r8 μ7) (fun μ9 => lt (x3 + (1 : Int32)) (fun v10 => (f_X8_undergo_b10 o a1 a2  n) v10 μ9))))))
set_option maxHeartbeats 4000000 in
set_option maxRecDepth 100000 in
theorem w_X8_undergo_b10 (l : Launch) {o : Nat} {a1 : Nat} {a2 : Nat} (ho : knd o = 6) (ha1 : knd a1 = 4) (ha2 : knd a2 = 3) {μ2 : Mem} {r : Nat}  (hX : XX E p m meth c cX8_undergo 4 (some (.object "SailCourses$Chart")) s args RX8)  : ∀ (n : Nat) (x3 : Int32) (μ : Mem), f_X8_undergo_b10 o a1 a2  n x3 μ = some (r, μ2) → ∀ (H : Heap) (locs : List Loc), MM E s μ H locs → ∀ ls : Array Slot, lv_has ls 4 [(0, .ref (eA E o)), (1, .ref (eA E a1)), (2, .ref (eA E a2)), (3, .int x3)] → W p l e (rmF 5 119) s m args below meth c H locs 0 0 (MQ below (QC E (some (.ref (eA E r))) μ2) args s 0 0 (AA E)) (F0 m 10 ls []) := by
  obtain ⟨⟨hx, hb, hml, hown, hts⟩, hXr⟩ := id hX
  intro n
  induction n with
  | zero => intro x3 μ  hf; exact no_none hf
  | succ n ih =>
    intro x3 μ  hf H locs hM ls hl
    rw [f_X8_undergo_b10] at hf
    have hK10 := ih
    clear ih
    refine lv_iload_n hx hb dX8_undergo_10 rfl (lv_at hl 3 rfl) ?_
    refine lv_aload_n hx hb dX8_undergo_11 rfl (lv_at hl 2 rfl) ?_
    replace hf := bnd_some hf
    obtain ⟨r3, μ2, h12, hf⟩ := hf
    refine cl_V (As := []) (rest := [.int x3]) (st2 := [.int r3, .int x3]) (n := 0) hX hM (c_X5_size l ha2 h12) mv_X5_size q_40_14 ⟨rfl, rfl⟩ ⟨Nat.le_of_ble_eq_true rfl, Nat.le_of_ble_eq_true rfl⟩ ha2 (by decide) rfl rfl rfl hl.1 rfl (Nat.le_of_ble_eq_true rfl) dX8_undergo_12 rfl (fun H locs hM => ?_)
    refine lv_icmp_ge (tgt := 41) hx hb dX8_undergo_15 (by decide) (fun hc15 => ?_) (fun hc15 => ?_)
    · replace hf := it_t hf hc15
      refine lv_aload_n hx hb dX8_undergo_41 rfl (lv_at hl 0 rfl) ?_
      refine gf_6_1 hX hM ho q_5_17 dX8_undergo_42 ?_
      replace hf := bnv_some hf
      obtain ⟨μ4, h45, hf⟩ := hf
      refine cl_V (As := []) (rest := []) (st2 := []) (n := 0) hX hM (c_X1_freshen l (kr_6_1 ho) h45) mv_X1_freshen q_40_8 ⟨rfl, rfl⟩ ⟨Nat.le_of_ble_eq_true rfl, Nat.le_of_ble_eq_true rfl⟩ (kr_6_1 ho) (by decide) rfl rfl rfl hl.1 rfl (Nat.le_of_ble_eq_true rfl) dX8_undergo_45 rfl (fun H locs hM => ?_)
      refine lv_aload_n hx hb dX8_undergo_48 rfl (lv_at hl 0 rfl) ?_
      refine gf_6_1 hX hM ho q_5_17 dX8_undergo_49 ?_
      exact rt_a hX hM (Or.inl ⟨_, rfl⟩) (congrArg (fun z => some (Value.ref (eA E z))) (so_1 hf)) (so_2 hf) dX8_undergo_52
    · replace hf := it_f hf hc15
      refine lv_aload_n hx hb dX8_undergo_18 rfl (lv_at hl 0 rfl) ?_
      refine gf_6_0 hX hM ho q_5_15 dX8_undergo_19 ?_
      refine lv_aload_n hx hb dX8_undergo_22 rfl (lv_at hl 2 rfl) ?_
      refine lv_iload_n hx hb dX8_undergo_23 rfl (lv_at hl 3 rfl) ?_
      replace hf := bnd_some hf
      obtain ⟨r6, μ5, h24, hf⟩ := hf
      refine cl_V (As := [.int x3]) (rest := [.ref (eA E (rf o 0))]) (st2 := [.int r6, .ref (eA E (rf o 0))]) (n := 1) hX hM (c_X5_first l ha2 h24) mv_X5_first q_40_15 ⟨rfl, rfl⟩ ⟨Nat.le_of_ble_eq_true rfl, Nat.le_of_ble_eq_true rfl⟩ ha2 (by decide) rfl rfl rfl hl.1 rfl (Nat.le_of_ble_eq_true rfl) dX8_undergo_24 rfl (fun H locs hM => ?_)
      refine lv_aload_n hx hb dX8_undergo_27 rfl (lv_at hl 2 rfl) ?_
      refine lv_iload_n hx hb dX8_undergo_28 rfl (lv_at hl 3 rfl) ?_
      replace hf := bnd_some hf
      obtain ⟨r8, μ7, h29, hf⟩ := hf
      refine cl_V (As := [.int x3]) (rest := [.int r6, .ref (eA E (rf o 0))]) (st2 := [.int r8, .int r6, .ref (eA E (rf o 0))]) (n := 1) hX hM (c_X5_second l ha2 h29) mv_X5_second q_40_20 ⟨rfl, rfl⟩ ⟨Nat.le_of_ble_eq_true rfl, Nat.le_of_ble_eq_true rfl⟩ ha2 (by decide) rfl rfl rfl hl.1 rfl (Nat.le_of_ble_eq_true rfl) dX8_undergo_29 rfl (fun H locs hM => ?_)
      replace hf := bnv_some hf
      obtain ⟨μ9, h32, hf⟩ := hf
      refine cl_V (As := [.int r6, .int r8]) (rest := []) (st2 := []) (n := 2) hX hM (c_X6_undergo l (kr_6_0 ho) h32) mv_X6_undergo q_43_21 ⟨rfl, rfl⟩ ⟨Nat.le_of_ble_eq_true rfl, Nat.le_of_ble_eq_true rfl⟩ (kr_6_0 ho) (by decide) rfl rfl rfl hl.1 rfl (Nat.le_of_ble_eq_true rfl) dX8_undergo_32 rfl (fun H locs hM => ?_)
      obtain ⟨v10, ev10⟩ : ∃ y : Int32, y = x3 + (1 : Int32) := ⟨_, rfl⟩
      replace hf := lt_e ev10 hf
      refine lv_iinc (v := v10) (lv' := [(3, .int v10), (0, .ref (eA E o)), (1, .ref (eA E a1)), (2, .ref (eA E a2))]) hx hb dX8_undergo_35 hl (k := 3) rfl (by rw [ev10]; rfl) (by decide) rfl (fun ls hl => ?_)
      refine lv_goto (tgt := 10) hx hb dX8_undergo_38 (by decide) ?_
      exact hK10 _ _  hf _ _ hM _ (lv_sub hl [1, 2, 3, 0] rfl)
def f_X8_undergo (o : Nat) (a1 : Nat) (a2 : Nat) (μ : Mem) : Option (Nat × Mem) :=
  bnv (f_X6_becomeLike (rf o 0) a1 μ) (fun μ1 => f_X8_undergo_b10 o a1 a2  FU (0 : Int32) μ1)
set_option maxHeartbeats 4000000 in
set_option maxRecDepth 100000 in
theorem w_X8_undergo (l : Launch) {o : Nat} {a1 : Nat} {a2 : Nat} (ho : knd o = 6) (ha1 : knd a1 = 4) (ha2 : knd a2 = 3) {μ μ2 : Mem} {r : Nat} {H : Heap} {locs : List Loc} {ls : Array Slot} (hf : f_X8_undergo o a1 a2 μ = some (r, μ2)) (hX : XX E p m meth c cX8_undergo 4 (some (.object "SailCourses$Chart")) s args RX8) (hM : MM E s μ H locs) (hl : lv_has ls 4 [(0, .ref (eA E o)), (1, .ref (eA E a1)), (2, .ref (eA E a2))]) : W p l e (rmF 5 119) s m args below meth c H locs 0 0 (MQ below (QC E (some (.ref (eA E r))) μ2) args s 0 0 (AA E)) (F0 m 0 ls []) := by
  obtain ⟨⟨hx, hb, hml, hown, hts⟩, hXr⟩ := id hX
  unfold f_X8_undergo at hf
  refine lv_aload_n hx hb dX8_undergo_0 rfl (lv_at hl 0 rfl) ?_
  refine gf_6_0 hX hM ho q_5_15 dX8_undergo_1 ?_
  refine lv_aload_n hx hb dX8_undergo_4 rfl (lv_at hl 1 rfl) ?_
  replace hf := bnv_some hf
  obtain ⟨μ1, h5, hf⟩ := hf
  refine cl_V (As := [.ref (eA E a1)]) (rest := []) (st2 := []) (n := 1) hX hM (c_X6_becomeLike l (kr_6_0 ho) ha1 h5) mv_X6_becomeLike q_40_2 ⟨rfl, rfl⟩ ⟨Nat.le_of_ble_eq_true rfl, Nat.le_of_ble_eq_true rfl⟩ (kr_6_0 ho) (by decide) rfl rfl rfl hl.1 rfl (Nat.le_of_ble_eq_true rfl) dX8_undergo_5 rfl (fun H locs hM => ?_)
  refine lv_iconst (v := 0) hx hb dX8_undergo_8 (by decide) ?_
  refine lv_istore_n (lv' := [(3, .int (0 : Int32)), (0, .ref (eA E o)), (1, .ref (eA E a1)), (2, .ref (eA E a2))]) hx hb dX8_undergo_9 rfl hl (by decide) rfl (fun ls hl => ?_)
  exact w_X8_undergo_b10 l ho ha1 ha2 hX  FU _ _  hf _ _ hM _ (lv_sub hl [1, 2, 3, 0] rfl)
theorem c_X8_undergo (l : Launch) {o : Nat} {a1 : Nat} {a2 : Nat} (ho : knd o = 6) (ha1 : knd a1 = 4) (ha2 : knd a2 = 3) {μ μ2 : Mem} {r : Nat} (hf : f_X8_undergo o a1 a2 μ = some (r, μ2)) : CT E l yX8_undergo cX8_undergo 4 (some (.object "SailCourses$Chart")) (rmF 5 119) [.ref (eA E o), .ref (eA E a1), .ref (eA E a2)] μ (some (.ref (eA E r))) μ2 := CT.of (show plainFor yX8_undergo = true by decide +kernel) (Nat.le_of_ble_eq_true rfl) rfl (fun _ _ _ _ _ _ _ _ hX hM hl => w_X8_undergo l ho ha1 ha2 hf hX hM hl)
theorem mv_X8_undergo : MV yX8_undergo cX8_undergo 4 (some (.object "SailCourses$Chart")) RX8 2 := ⟨q_43_20, q_43_18, q_43_19, q_2_3, by decide +kernel⟩
def f_X3_becomeLike (o : Nat) (a1 : Nat) (μ : Mem) : Option (Mem) :=
  bnv (f_X5_becomeLike (rf o 0) (rf a1 0) μ) (fun μ1 => bnv (f_X5_becomeLike (rf o 1) (rf a1 1) μ1) (fun μ2 => bnv (f_X5_becomeLike (rf o 2) (rf a1 2) μ2) (fun μ3 => bnv (f_X5_becomeLike (rf o 3) (rf a1 3) μ3) (fun μ4 => some μ4))))
set_option maxHeartbeats 4000000 in
set_option maxRecDepth 100000 in
theorem w_X3_becomeLike (l : Launch) {o : Nat} {a1 : Nat} (ho : knd o = 1) (ha1 : knd a1 = 1) {μ μ2 : Mem} {H : Heap} {locs : List Loc} {ls : Array Slot} (hf : f_X3_becomeLike o a1 μ = some μ2) (hX : XX E p m meth c cX3_becomeLike 2 none s args RX3) (hM : MM E s μ H locs) (hl : lv_has ls 2 [(0, .ref (eA E o)), (1, .ref (eA E a1))]) : W p l e (rmF 2 44) s m args below meth c H locs 0 0 (MQ below (QC E (none) μ2) args s 0 0 (AA E)) (F0 m 0 ls []) := by
  obtain ⟨⟨hx, hb, hml, hown, hts⟩, hXr⟩ := id hX
  unfold f_X3_becomeLike at hf
  refine lv_aload_n hx hb dX3_becomeLike_0 rfl (lv_at hl 0 rfl) ?_
  refine gf_1_0 hX hM ho q_3_23 dX3_becomeLike_1 ?_
  refine lv_aload_n hx hb dX3_becomeLike_4 rfl (lv_at hl 1 rfl) ?_
  refine gf_1_0 hX hM ha1 q_3_23 dX3_becomeLike_5 ?_
  replace hf := bnv_some hf
  obtain ⟨μ1, h8, hf⟩ := hf
  refine cl_V (As := [.ref (eA E (rf a1 0))]) (rest := []) (st2 := []) (n := 1) hX hM (c_X5_becomeLike l (kr_1_0 ho) (kr_1_0 ha1) h8) mv_X5_becomeLike q_47_12 ⟨rfl, rfl⟩ ⟨Nat.le_of_ble_eq_true rfl, Nat.le_of_ble_eq_true rfl⟩ (kr_1_0 ho) (by decide) rfl rfl rfl hl.1 rfl (Nat.le_of_ble_eq_true rfl) dX3_becomeLike_8 rfl (fun H locs hM => ?_)
  refine lv_aload_n hx hb dX3_becomeLike_11 rfl (lv_at hl 0 rfl) ?_
  refine gf_1_1 hX hM ho q_4_0 dX3_becomeLike_12 ?_
  refine lv_aload_n hx hb dX3_becomeLike_15 rfl (lv_at hl 1 rfl) ?_
  refine gf_1_1 hX hM ha1 q_4_0 dX3_becomeLike_16 ?_
  replace hf := bnv_some hf
  obtain ⟨μ2, h19, hf⟩ := hf
  refine cl_V (As := [.ref (eA E (rf a1 1))]) (rest := []) (st2 := []) (n := 1) hX hM (c_X5_becomeLike l (kr_1_1 ho) (kr_1_1 ha1) h19) mv_X5_becomeLike q_47_12 ⟨rfl, rfl⟩ ⟨Nat.le_of_ble_eq_true rfl, Nat.le_of_ble_eq_true rfl⟩ (kr_1_1 ho) (by decide) rfl rfl rfl hl.1 rfl (Nat.le_of_ble_eq_true rfl) dX3_becomeLike_19 rfl (fun H locs hM => ?_)
  refine lv_aload_n hx hb dX3_becomeLike_22 rfl (lv_at hl 0 rfl) ?_
  refine gf_1_2 hX hM ho q_4_1 dX3_becomeLike_23 ?_
  refine lv_aload_n hx hb dX3_becomeLike_26 rfl (lv_at hl 1 rfl) ?_
  refine gf_1_2 hX hM ha1 q_4_1 dX3_becomeLike_27 ?_
  replace hf := bnv_some hf
  obtain ⟨μ3, h30, hf⟩ := hf
  refine cl_V (As := [.ref (eA E (rf a1 2))]) (rest := []) (st2 := []) (n := 1) hX hM (c_X5_becomeLike l (kr_1_2 ho) (kr_1_2 ha1) h30) mv_X5_becomeLike q_47_12 ⟨rfl, rfl⟩ ⟨Nat.le_of_ble_eq_true rfl, Nat.le_of_ble_eq_true rfl⟩ (kr_1_2 ho) (by decide) rfl rfl rfl hl.1 rfl (Nat.le_of_ble_eq_true rfl) dX3_becomeLike_30 rfl (fun H locs hM => ?_)
  refine lv_aload_n hx hb dX3_becomeLike_33 rfl (lv_at hl 0 rfl) ?_
  refine gf_1_3 hX hM ho q_4_2 dX3_becomeLike_34 ?_
  refine lv_aload_n hx hb dX3_becomeLike_37 rfl (lv_at hl 1 rfl) ?_
  refine gf_1_3 hX hM ha1 q_4_2 dX3_becomeLike_38 ?_
  replace hf := bnv_some hf
  obtain ⟨μ4, h41, hf⟩ := hf
  refine cl_V (As := [.ref (eA E (rf a1 3))]) (rest := []) (st2 := []) (n := 1) hX hM (c_X5_becomeLike l (kr_1_3 ho) (kr_1_3 ha1) h41) mv_X5_becomeLike q_47_12 ⟨rfl, rfl⟩ ⟨Nat.le_of_ble_eq_true rfl, Nat.le_of_ble_eq_true rfl⟩ (kr_1_3 ho) (by decide) rfl rfl rfl hl.1 rfl (Nat.le_of_ble_eq_true rfl) dX3_becomeLike_41 rfl (fun H locs hM => ?_)
  exact rt_v hX hM rfl (Option.some.inj hf) dX3_becomeLike_44
theorem c_X3_becomeLike (l : Launch) {o : Nat} {a1 : Nat} (ho : knd o = 1) (ha1 : knd a1 = 1) {μ μ2 : Mem} (hf : f_X3_becomeLike o a1 μ = some μ2) : CT E l yX3_becomeLike cX3_becomeLike 2 none (rmF 2 44) [.ref (eA E o), .ref (eA E a1)] μ (none) μ2 := CT.of (show plainFor yX3_becomeLike = true by decide +kernel) (Nat.le_of_ble_eq_true rfl) rfl (fun _ _ _ _ _ _ _ _ hX hM hl => w_X3_becomeLike l ho ha1 hf hX hM hl)
theorem mv_X3_becomeLike : MV yX3_becomeLike cX3_becomeLike 2 none RX3 1 := ⟨q_47_11, q_47_9, q_47_10, q_1_19, by decide +kernel⟩
def f_X7_length (o : Nat) (μ : Mem) : Option (Int32 × Mem) :=
  some ((μ.1 o 1), μ)
set_option maxHeartbeats 4000000 in
set_option maxRecDepth 100000 in
theorem w_X7_length (l : Launch) {o : Nat} (ho : knd o = 5) {μ μ2 : Mem} {r : Int32} {H : Heap} {locs : List Loc} {ls : Array Slot} (hf : f_X7_length o μ = some (r, μ2)) (hX : XX E p m meth c cX7_length 1 (some .int) s args RX7) (hM : MM E s μ H locs) (hl : lv_has ls 1 [(0, .ref (eA E o))]) : W p l e (rmF 0 0) s m args below meth c H locs 0 0 (MQ below (QC E (some (.int r)) μ2) args s 0 0 (AA E)) (F0 m 0 ls []) := by
  obtain ⟨⟨hx, hb, hml, hown, hts⟩, hXr⟩ := id hX
  unfold f_X7_length at hf
  refine lv_aload_n hx hb dX7_length_0 rfl (lv_at hl 0 rfl) ?_
  refine gf_5_1 hX hM ho q_6_4 dX7_length_1 ?_
  exact rt_i hX hM (congrArg (fun z => some (Value.int z)) (so_1 hf)) (so_2 hf) dX7_length_4
theorem c_X7_length (l : Launch) {o : Nat} (ho : knd o = 5) {μ μ2 : Mem} {r : Int32} (hf : f_X7_length o μ = some (r, μ2)) : CT E l yX7_length cX7_length 1 (some .int) (rmF 0 0) [.ref (eA E o)] μ (some (.int r)) μ2 := CT.of (show plainFor yX7_length = true by decide +kernel) (Nat.le_of_ble_eq_true rfl) rfl (fun _ _ _ _ _ _ _ _ hX hM hl => w_X7_length l ho hf hX hM hl)
theorem mv_X7_length : MV yX7_length cX7_length 1 (some .int) RX7 0 := ⟨q_48_14, q_48_12, q_48_13, q_2_7, by decide +kernel⟩
end PG
