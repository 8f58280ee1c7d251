section PG
variable {p : Program} {e : Env} {s : State} {m : MethodId} {args : Array Value} {below : List Frame} {meth : Method} {c : Code} {E : EE}
def f_X10_below (a0 : Int32) (a1 : Int32) (μ : Mem) : Option (Int32 × Mem) :=
  (if a0 < 0 then some ((0 : Int32), μ) else (if a1 ≤ a0 then some ((0 : Int32), μ) else some ((1 : Int32), μ)))
set_option maxHeartbeats 4000000 in
set_option maxRecDepth 100000 in
theorem w_X10_below (l : Launch) {a0 : Int32} {a1 : Int32}  {μ μ2 : Mem} {r : Int32} {H : Heap} {locs : List Loc} {ls : Array Slot} (hf : f_X10_below a0 a1 μ = some (r, μ2)) (hX : XX E p m meth c cX10_below 2 (some .boolean) s args RX10) (hM : MM E s μ H locs) (hl : lv_has ls 2 [(0, .int a0), (1, .int a1)]) : W p l e (rmF 0 0) s m args below meth c H locs 0 0 (MQ below (QC E (some (.int r)) μ2) args s 0 0 (AA E)) (F0 m 0 ls []) := by
  obtain ⟨⟨hx, hb, hml, hown, hts⟩, hXr⟩ := id hX
  unfold f_X10_below at hf
  refine lv_iload_n hx hb dX10_below_0 rfl (lv_at hl 0 rfl) ?_
  refine lv_if_lt (tgt := 13) hx hb dX10_below_1 (by decide) (fun hc1 => ?_) (fun hc1 => ?_)
  · replace hf := it_t hf hc1
    refine lv_iconst (v := 0) hx hb dX10_below_13 (by decide) ?_
    exact rt_z hX hM rfl (congrArg (fun z => some (Value.int z)) (so_1 hf)) (so_2 hf) dX10_below_14
  · replace hf := it_f hf hc1
    refine lv_iload_n hx hb dX10_below_4 rfl (lv_at hl 0 rfl) ?_
    refine lv_iload_n hx hb dX10_below_5 rfl (lv_at hl 1 rfl) ?_
    refine lv_icmp_ge (tgt := 13) hx hb dX10_below_6 (by decide) (fun hc6 => ?_) (fun hc6 => ?_)
    · replace hf := it_t hf hc6
      refine lv_iconst (v := 0) hx hb dX10_below_13 (by decide) ?_
      exact rt_z hX hM rfl (congrArg (fun z => some (Value.int z)) (so_1 hf)) (so_2 hf) dX10_below_14
    · replace hf := it_f hf hc6
      refine lv_iconst (v := 1) hx hb dX10_below_9 (by decide) ?_
      refine lv_goto (tgt := 14) hx hb dX10_below_10 (by decide) ?_
      exact rt_z hX hM rfl (congrArg (fun z => some (Value.int z)) (so_1 hf)) (so_2 hf) dX10_below_14
theorem c_X10_below (l : Launch) {a0 : Int32} {a1 : Int32}  {μ μ2 : Mem} {r : Int32} (hf : f_X10_below a0 a1 μ = some (r, μ2)) : CT E l yX10_below cX10_below 2 (some .boolean) (rmF 0 0) [.int a0, .int a1] μ (some (.int r)) μ2 := CT.of (show plainFor yX10_below = true by decide +kernel) (Nat.le_of_ble_eq_true rfl) rfl (fun _ _ _ _ _ _ _ _ hX hM hl => w_X10_below l  hf hX hM hl)
theorem mt_X10_below : MT yX10_below cX10_below 2 (some .boolean) 2 := ⟨q_8_3, q_8_2, q_1_2, by decide +kernel⟩
def f_X6_fromIn (o : Nat) (a1 : Int32) (a2 : Int32) (μ : Mem) : Option (Int32 × Mem) :=
  gA ((a1 * (4 : Int32)) + a2) (aln (rf o 0)) (some ((μ.1 (rf o 0) ((a1 * (4 : Int32)) + a2).toNatClampNeg), μ))
set_option maxHeartbeats 4000000 in
set_option maxRecDepth 100000 in
theorem w_X6_fromIn (l : Launch) {o : Nat} {a1 : Int32} {a2 : Int32} (ho : knd o = 4) {μ μ2 : Mem} {r : Int32} {H : Heap} {locs : List Loc} {ls : Array Slot} (hf : f_X6_fromIn o a1 a2 μ = some (r, μ2)) (hX : XX E p m meth c cX6_fromIn 3 (some .int) s args RX6) (hM : MM E s μ H locs) (hl : lv_has ls 3 [(0, .ref (eA E o)), (1, .int a1), (2, .int a2)]) : W p l e (rmF 0 0) s m args below meth c H locs 0 0 (MQ below (QC E (some (.int r)) μ2) args s 0 0 (AA E)) (F0 m 0 ls []) := by
  obtain ⟨⟨hx, hb, hml, hown, hts⟩, hXr⟩ := id hX
  unfold f_X6_fromIn at hf
  refine lv_aload_n hx hb dX6_fromIn_0 rfl (lv_at hl 0 rfl) ?_
  refine gf_4_0 hX hM ho q_2_21 dX6_fromIn_1 ?_
  refine lv_iload_n hx hb dX6_fromIn_4 rfl (lv_at hl 1 rfl) ?_
  refine lv_iconst (v := 4) hx hb dX6_fromIn_5 (by decide) ?_
  refine lv_imul hx hb dX6_fromIn_6 ?_
  refine lv_iload_n hx hb dX6_fromIn_7 rfl (lv_at hl 2 rfl) ?_
  refine lv_iadd hx hb dX6_fromIn_8 ?_
  replace hf := gA_some hf
  obtain ⟨hi, hf⟩ := hf
  refine ald hX hM (kr_4_0 ho) hi dX6_fromIn_9 ?_
  exact rt_i hX hM (congrArg (fun z => some (Value.int z)) (so_1 hf)) (so_2 hf) dX6_fromIn_10
theorem c_X6_fromIn (l : Launch) {o : Nat} {a1 : Int32} {a2 : Int32} (ho : knd o = 4) {μ μ2 : Mem} {r : Int32} (hf : f_X6_fromIn o a1 a2 μ = some (r, μ2)) : CT E l yX6_fromIn cX6_fromIn 3 (some .int) (rmF 0 0) [.ref (eA E o), .int a1, .int a2] μ (some (.int r)) μ2 := CT.of (show plainFor yX6_fromIn = true by decide +kernel) (Nat.le_of_ble_eq_true rfl) rfl (fun _ _ _ _ _ _ _ _ hX hM hl => w_X6_fromIn l ho hf hX hM hl)
theorem mv_X6_fromIn : MV yX6_fromIn cX6_fromIn 3 (some .int) RX6 2 := ⟨q_8_7, q_8_5, q_8_6, q_1_15, by decide +kernel⟩
def f_X6_forceIn (o : Nat) (a1 : Int32) (a2 : Int32) (μ : Mem) : Option (Int32 × Mem) :=
  gA ((a1 * (4 : Int32)) + a2) (aln (rf o 1)) (some ((μ.1 (rf o 1) ((a1 * (4 : Int32)) + a2).toNatClampNeg), μ))
set_option maxHeartbeats 4000000 in
set_option maxRecDepth 100000 in
theorem w_X6_forceIn (l : Launch) {o : Nat} {a1 : Int32} {a2 : Int32} (ho : knd o = 4) {μ μ2 : Mem} {r : Int32} {H : Heap} {locs : List Loc} {ls : Array Slot} (hf : f_X6_forceIn o a1 a2 μ = some (r, μ2)) (hX : XX E p m meth c cX6_forceIn 3 (some .int) s args RX6) (hM : MM E s μ H locs) (hl : lv_has ls 3 [(0, .ref (eA E o)), (1, .int a1), (2, .int a2)]) : W p l e (rmF 0 0) s m args below meth c H locs 0 0 (MQ below (QC E (some (.int r)) μ2) args s 0 0 (AA E)) (F0 m 0 ls []) := by
  obtain ⟨⟨hx, hb, hml, hown, hts⟩, hXr⟩ := id hX
  unfold f_X6_forceIn at hf
  refine lv_aload_n hx hb dX6_forceIn_0 rfl (lv_at hl 0 rfl) ?_
  refine gf_4_1 hX hM ho q_2_22 dX6_forceIn_1 ?_
  refine lv_iload_n hx hb dX6_forceIn_4 rfl (lv_at hl 1 rfl) ?_
  refine lv_iconst (v := 4) hx hb dX6_forceIn_5 (by decide) ?_
  refine lv_imul hx hb dX6_forceIn_6 ?_
  refine lv_iload_n hx hb dX6_forceIn_7 rfl (lv_at hl 2 rfl) ?_
  refine lv_iadd hx hb dX6_forceIn_8 ?_
  replace hf := gA_some hf
  obtain ⟨hi, hf⟩ := hf
  refine ald hX hM (kr_4_1 ho) hi dX6_forceIn_9 ?_
  exact rt_i hX hM (congrArg (fun z => some (Value.int z)) (so_1 hf)) (so_2 hf) dX6_forceIn_10
theorem c_X6_forceIn (l : Launch) {o : Nat} {a1 : Int32} {a2 : Int32} (ho : knd o = 4) {μ μ2 : Mem} {r : Int32} (hf : f_X6_forceIn o a1 a2 μ = some (r, μ2)) : CT E l yX6_forceIn cX6_forceIn 3 (some .int) (rmF 0 0) [.ref (eA E o), .int a1, .int a2] μ (some (.int r)) μ2 := CT.of (show plainFor yX6_forceIn = true by decide +kernel) (Nat.le_of_ble_eq_true rfl) rfl (fun _ _ _ _ _ _ _ _ hX hM hl => w_X6_forceIn l ho hf hX hM hl)
theorem mv_X6_forceIn : MV yX6_forceIn cX6_forceIn 3 (some .int) RX6 2 := ⟨q_8_11, q_8_9, q_8_10, q_1_15, by decide +kernel⟩
def f_X6_putWind (o : Nat) (a1 : Int32) (a2 : Int32) (a3 : Int32) (a4 : Int32) (μ : Mem) : Option (Mem) :=
  gA ((a1 * (4 : Int32)) + a2) (aln (rf o 0)) (lt (sI μ (rf o 0) ((a1 * (4 : Int32)) + a2).toNatClampNeg a3) (fun μ1 => gA ((a1 * (4 : Int32)) + a2) (aln (rf o 1)) (lt (sI μ1 (rf o 1) ((a1 * (4 : Int32)) + a2).toNatClampNeg a4) (fun μ2 => lt (sI μ2 o 10 ((μ2.1 o 10) + (1 : Int32))) (fun μ3 => some μ3)))))
set_option maxHeartbeats 4000000 in
set_option maxRecDepth 100000 in
theorem w_X6_putWind (l : Launch) {o : Nat} {a1 : Int32} {a2 : Int32} {a3 : Int32} {a4 : Int32} (ho : knd o = 4) {μ μ2 : Mem} {H : Heap} {locs : List Loc} {ls : Array Slot} (hf : f_X6_putWind o a1 a2 a3 a4 μ = some μ2) (hX : XX E p m meth c cX6_putWind 5 none s args RX6) (hM : MM E s μ H locs) (hl : lv_has ls 5 [(0, .ref (eA E o)), (1, .int a1), (2, .int a2), (3, .int a3), (4, .int a4)]) : W p l e (rmF 0 0) s m args below meth c H locs 0 0 (MQ below (QC E (none) μ2) args s 0 0 (AA E)) (F0 m 0 ls []) := by
  obtain ⟨⟨hx, hb, hml, hown, hts⟩, hXr⟩ := id hX
  unfold f_X6_putWind at hf
  refine lv_aload_n hx hb dX6_putWind_0 rfl (lv_at hl 0 rfl) ?_
  refine gf_4_0 hX hM ho q_2_21 dX6_putWind_1 ?_
  refine lv_iload_n hx hb dX6_putWind_4 rfl (lv_at hl 1 rfl) ?_
  refine lv_iconst (v := 4) hx hb dX6_putWind_5 (by decide) ?_
  refine lv_imul hx hb dX6_putWind_6 ?_
  refine lv_iload_n hx hb dX6_putWind_7 rfl (lv_at hl 2 rfl) ?_
  refine lv_iadd hx hb dX6_putWind_8 ?_
  refine lv_iload_n hx hb dX6_putWind_9 rfl (lv_at hl 3 rfl) ?_
  replace hf := gA_some hf
  obtain ⟨hi, hf⟩ := hf
  refine ast hX hM (kr_4_0 ho) hi dX6_putWind_10 (fun μ1 H locs eμ1 hM => ?_)
  replace hf := lt_e eμ1 hf
  refine lv_aload_n hx hb dX6_putWind_11 rfl (lv_at hl 0 rfl) ?_
  refine gf_4_1 hX hM ho q_2_22 dX6_putWind_12 ?_
  refine lv_iload_n hx hb dX6_putWind_15 rfl (lv_at hl 1 rfl) ?_
  refine lv_iconst (v := 4) hx hb dX6_putWind_16 (by decide) ?_
  refine lv_imul hx hb dX6_putWind_17 ?_
  refine lv_iload_n hx hb dX6_putWind_18 rfl (lv_at hl 2 rfl) ?_
  refine lv_iadd hx hb dX6_putWind_19 ?_
  refine lv_iload hx hb dX6_putWind_20 (lv_at hl 4 rfl) ?_
  replace hf := gA_some hf
  obtain ⟨hi, hf⟩ := hf
  refine ast hX hM (kr_4_1 ho) hi dX6_putWind_22 (fun μ2 H locs eμ2 hM => ?_)
  replace hf := lt_e eμ2 hf
  refine lv_aload_n hx hb dX6_putWind_23 rfl (lv_at hl 0 rfl) ?_
  refine lv_dup hx hb dX6_putWind_24 rfl ?_
  refine gf_4_10 hX hM ho q_3_8 dX6_putWind_25 ?_
  refine lv_iconst (v := 1) hx hb dX6_putWind_28 (by decide) ?_
  refine lv_iadd hx hb dX6_putWind_29 ?_
  refine pf_4_10 hX hM ho q_3_8 dX6_putWind_30 (fun μ3 H locs eμ3 hM => ?_)
  replace hf := lt_e eμ3 hf
  exact rt_v hX hM rfl (Option.some.inj hf) dX6_putWind_33
theorem c_X6_putWind (l : Launch) {o : Nat} {a1 : Int32} {a2 : Int32} {a3 : Int32} {a4 : Int32} (ho : knd o = 4) {μ μ2 : Mem} (hf : f_X6_putWind o a1 a2 a3 a4 μ = some μ2) : CT E l yX6_putWind cX6_putWind 5 none (rmF 0 0) [.ref (eA E o), .int a1, .int a2, .int a3, .int a4] μ (none) μ2 := CT.of (show plainFor yX6_putWind = true by decide +kernel) (Nat.le_of_ble_eq_true rfl) rfl (fun _ _ _ _ _ _ _ _ hX hM hl => w_X6_putWind l ho hf hX hM hl)
theorem mv_X6_putWind : MV yX6_putWind cX6_putWind 5 none RX6 4 := ⟨q_8_15, q_8_13, q_8_14, q_1_15, by decide +kernel⟩
def f_X6_toIn (o : Nat) (a1 : Int32) (μ : Mem) : Option (Int32 × Mem) :=
  gA a1 (aln (rf o 2)) (some ((μ.1 (rf o 2) a1.toNatClampNeg), μ))
set_option maxHeartbeats 4000000 in
set_option maxRecDepth 100000 in
theorem w_X6_toIn (l : Launch) {o : Nat} {a1 : Int32} (ho : knd o = 4) {μ μ2 : Mem} {r : Int32} {H : Heap} {locs : List Loc} {ls : Array Slot} (hf : f_X6_toIn o a1 μ = some (r, μ2)) (hX : XX E p m meth c cX6_toIn 2 (some .int) s args RX6) (hM : MM E s μ H locs) (hl : lv_has ls 2 [(0, .ref (eA E o)), (1, .int a1)]) : W p l e (rmF 0 0) s m args below meth c H locs 0 0 (MQ below (QC E (some (.int r)) μ2) args s 0 0 (AA E)) (F0 m 0 ls []) := by
  obtain ⟨⟨hx, hb, hml, hown, hts⟩, hXr⟩ := id hX
  unfold f_X6_toIn at hf
  refine lv_aload_n hx hb dX6_toIn_0 rfl (lv_at hl 0 rfl) ?_
  refine gf_4_2 hX hM ho q_2_23 dX6_toIn_1 ?_
  refine lv_iload_n hx hb dX6_toIn_4 rfl (lv_at hl 1 rfl) ?_
  replace hf := gA_some hf
  obtain ⟨hi, hf⟩ := hf
  refine ald hX hM (kr_4_2 ho) hi dX6_toIn_5 ?_
  exact rt_i hX hM (congrArg (fun z => some (Value.int z)) (so_1 hf)) (so_2 hf) dX6_toIn_6
theorem c_X6_toIn (l : Launch) {o : Nat} {a1 : Int32} (ho : knd o = 4) {μ μ2 : Mem} {r : Int32} (hf : f_X6_toIn o a1 μ = some (r, μ2)) : CT E l yX6_toIn cX6_toIn 2 (some .int) (rmF 0 0) [.ref (eA E o), .int a1] μ (some (.int r)) μ2 := CT.of (show plainFor yX6_toIn = true by decide +kernel) (Nat.le_of_ble_eq_true rfl) rfl (fun _ _ _ _ _ _ _ _ hX hM hl => w_X6_toIn l ho hf hX hM hl)
theorem mv_X6_toIn : MV yX6_toIn cX6_toIn 2 (some .int) RX6 1 := ⟨q_9_18, q_9_16, q_9_17, q_1_15, by decide +kernel⟩
def f_X6_rateIn (o : Nat) (a1 : Int32) (μ : Mem) : Option (Int32 × Mem) :=
  gA a1 (aln (rf o 3)) (some ((μ.1 (rf o 3) a1.toNatClampNeg), μ))
set_option maxHeartbeats 4000000 in
set_option maxRecDepth 100000 in
theorem w_X6_rateIn (l : Launch) {o : Nat} {a1 : Int32} (ho : knd o = 4) {μ μ2 : Mem} {r : Int32} {H : Heap} {locs : List Loc} {ls : Array Slot} (hf : f_X6_rateIn o a1 μ = some (r, μ2)) (hX : XX E p m meth c cX6_rateIn 2 (some .int) s args RX6) (hM : MM E s μ H locs) (hl : lv_has ls 2 [(0, .ref (eA E o)), (1, .int a1)]) : W p l e (rmF 0 0) s m args below meth c H locs 0 0 (MQ below (QC E (some (.int r)) μ2) args s 0 0 (AA E)) (F0 m 0 ls []) := by
  obtain ⟨⟨hx, hb, hml, hown, hts⟩, hXr⟩ := id hX
  unfold f_X6_rateIn at hf
  refine lv_aload_n hx hb dX6_rateIn_0 rfl (lv_at hl 0 rfl) ?_
  refine gf_4_3 hX hM ho q_3_0 dX6_rateIn_1 ?_
  refine lv_iload_n hx hb dX6_rateIn_4 rfl (lv_at hl 1 rfl) ?_
  replace hf := gA_some hf
  obtain ⟨hi, hf⟩ := hf
  refine ald hX hM (kr_4_3 ho) hi dX6_rateIn_5 ?_
  exact rt_i hX hM (congrArg (fun z => some (Value.int z)) (so_1 hf)) (so_2 hf) dX6_rateIn_6
theorem c_X6_rateIn (l : Launch) {o : Nat} {a1 : Int32} (ho : knd o = 4) {μ μ2 : Mem} {r : Int32} (hf : f_X6_rateIn o a1 μ = some (r, μ2)) : CT E l yX6_rateIn cX6_rateIn 2 (some .int) (rmF 0 0) [.ref (eA E o), .int a1] μ (some (.int r)) μ2 := CT.of (show plainFor yX6_rateIn = true by decide +kernel) (Nat.le_of_ble_eq_true rfl) rfl (fun _ _ _ _ _ _ _ _ hX hM hl => w_X6_rateIn l ho hf hX hM hl)
theorem mv_X6_rateIn : MV yX6_rateIn cX6_rateIn 2 (some .int) RX6 1 := ⟨q_9_22, q_9_20, q_9_21, q_1_15, by decide +kernel⟩
def f_X6_putCurrent (o : Nat) (a1 : Int32) (a2 : Int32) (a3 : Int32) (μ : Mem) : Option (Mem) :=
  gA a1 (aln (rf o 2)) (lt (sI μ (rf o 2) a1.toNatClampNeg a2) (fun μ1 => gA a1 (aln (rf o 3)) (lt (sI μ1 (rf o 3) a1.toNatClampNeg a3) (fun μ2 => lt (sI μ2 o 10 ((μ2.1 o 10) + (1 : Int32))) (fun μ3 => some μ3)))))
set_option maxHeartbeats 4000000 in
set_option maxRecDepth 100000 in
theorem w_X6_putCurrent (l : Launch) {o : Nat} {a1 : Int32} {a2 : Int32} {a3 : Int32} (ho : knd o = 4) {μ μ2 : Mem} {H : Heap} {locs : List Loc} {ls : Array Slot} (hf : f_X6_putCurrent o a1 a2 a3 μ = some μ2) (hX : XX E p m meth c cX6_putCurrent 4 none s args RX6) (hM : MM E s μ H locs) (hl : lv_has ls 4 [(0, .ref (eA E o)), (1, .int a1), (2, .int a2), (3, .int a3)]) : W p l e (rmF 0 0) s m args below meth c H locs 0 0 (MQ below (QC E (none) μ2) args s 0 0 (AA E)) (F0 m 0 ls []) := by
  obtain ⟨⟨hx, hb, hml, hown, hts⟩, hXr⟩ := id hX
  unfold f_X6_putCurrent at hf
  refine lv_aload_n hx hb dX6_putCurrent_0 rfl (lv_at hl 0 rfl) ?_
  refine gf_4_2 hX hM ho q_2_23 dX6_putCurrent_1 ?_
  refine lv_iload_n hx hb dX6_putCurrent_4 rfl (lv_at hl 1 rfl) ?_
  refine lv_iload_n hx hb dX6_putCurrent_5 rfl (lv_at hl 2 rfl) ?_
  replace hf := gA_some hf
  obtain ⟨hi, hf⟩ := hf
  refine ast hX hM (kr_4_2 ho) hi dX6_putCurrent_6 (fun μ1 H locs eμ1 hM => ?_)
  replace hf := lt_e eμ1 hf
  refine lv_aload_n hx hb dX6_putCurrent_7 rfl (lv_at hl 0 rfl) ?_
  refine gf_4_3 hX hM ho q_3_0 dX6_putCurrent_8 ?_
  refine lv_iload_n hx hb dX6_putCurrent_11 rfl (lv_at hl 1 rfl) ?_
  refine lv_iload_n hx hb dX6_putCurrent_12 rfl (lv_at hl 3 rfl) ?_
  replace hf := gA_some hf
  obtain ⟨hi, hf⟩ := hf
  refine ast hX hM (kr_4_3 ho) hi dX6_putCurrent_13 (fun μ2 H locs eμ2 hM => ?_)
  replace hf := lt_e eμ2 hf
  refine lv_aload_n hx hb dX6_putCurrent_14 rfl (lv_at hl 0 rfl) ?_
  refine lv_dup hx hb dX6_putCurrent_15 rfl ?_
  refine gf_4_10 hX hM ho q_3_8 dX6_putCurrent_16 ?_
  refine lv_iconst (v := 1) hx hb dX6_putCurrent_19 (by decide) ?_
  refine lv_iadd hx hb dX6_putCurrent_20 ?_
  refine pf_4_10 hX hM ho q_3_8 dX6_putCurrent_21 (fun μ3 H locs eμ3 hM => ?_)
  replace hf := lt_e eμ3 hf
  exact rt_v hX hM rfl (Option.some.inj hf) dX6_putCurrent_24
theorem c_X6_putCurrent (l : Launch) {o : Nat} {a1 : Int32} {a2 : Int32} {a3 : Int32} (ho : knd o = 4) {μ μ2 : Mem} (hf : f_X6_putCurrent o a1 a2 a3 μ = some μ2) : CT E l yX6_putCurrent cX6_putCurrent 4 none (rmF 0 0) [.ref (eA E o), .int a1, .int a2, .int a3] μ (none) μ2 := CT.of (show plainFor yX6_putCurrent = true by decide +kernel) (Nat.le_of_ble_eq_true rfl) rfl (fun _ _ _ _ _ _ _ _ hX hM hl => w_X6_putCurrent l ho hf hX hM hl)
theorem mv_X6_putCurrent : MV yX6_putCurrent cX6_putCurrent 4 none RX6 3 := ⟨q_10_2, q_10_0, q_10_1, q_1_15, by decide +kernel⟩
def f_X6_speedBy (o : Nat) (a1 : Int32) (a2 : Int32) (μ : Mem) : Option (Int32 × Mem) :=
  (if a1 = 0 then some ((0 : Int32), μ) else gA (((a1 - (1 : Int32)) * (5 : Int32)) + a2) (aln (rf o 4)) (some ((μ.1 (rf o 4) (((a1 - (1 : Int32)) * (5 : Int32)) + a2).toNatClampNeg), μ)))
set_option maxHeartbeats 4000000 in
set_option maxRecDepth 100000 in
theorem w_X6_speedBy (l : Launch) {o : Nat} {a1 : Int32} {a2 : Int32} (ho : knd o = 4) {μ μ2 : Mem} {r : Int32} {H : Heap} {locs : List Loc} {ls : Array Slot} (hf : f_X6_speedBy o a1 a2 μ = some (r, μ2)) (hX : XX E p m meth c cX6_speedBy 3 (some .int) s args RX6) (hM : MM E s μ H locs) (hl : lv_has ls 3 [(0, .ref (eA E o)), (1, .int a1), (2, .int a2)]) : W p l e (rmF 0 0) s m args below meth c H locs 0 0 (MQ below (QC E (some (.int r)) μ2) args s 0 0 (AA E)) (F0 m 0 ls []) := by
  obtain ⟨⟨hx, hb, hml, hown, hts⟩, hXr⟩ := id hX
  unfold f_X6_speedBy at hf
  refine lv_iload_n hx hb dX6_speedBy_0 rfl (lv_at hl 1 rfl) ?_
  refine lv_if_ne (tgt := 8) hx hb dX6_speedBy_1 (by decide) (fun hc1 => ?_) (fun hc1 => ?_)
  · replace hf := it_f hf hc1
    refine lv_aload_n hx hb dX6_speedBy_8 rfl (lv_at hl 0 rfl) ?_
    refine gf_4_4 hX hM ho q_3_2 dX6_speedBy_9 ?_
    refine lv_iload_n hx hb dX6_speedBy_12 rfl (lv_at hl 1 rfl) ?_
    refine lv_iconst (v := 1) hx hb dX6_speedBy_13 (by decide) ?_
    refine lv_isub hx hb dX6_speedBy_14 ?_
    refine lv_iconst (v := 5) hx hb dX6_speedBy_15 (by decide) ?_
    refine lv_imul hx hb dX6_speedBy_16 ?_
    refine lv_iload_n hx hb dX6_speedBy_17 rfl (lv_at hl 2 rfl) ?_
    refine lv_iadd hx hb dX6_speedBy_18 ?_
    replace hf := gA_some hf
    obtain ⟨hi, hf⟩ := hf
    refine ald hX hM (kr_4_4 ho) hi dX6_speedBy_19 ?_
    exact rt_i hX hM (congrArg (fun z => some (Value.int z)) (so_1 hf)) (so_2 hf) dX6_speedBy_20
  · replace hf := it_t hf hc1
    refine lv_iconst (v := 0) hx hb dX6_speedBy_4 (by decide) ?_
    refine lv_goto (tgt := 20) hx hb dX6_speedBy_5 (by decide) ?_
    exact rt_i hX hM (congrArg (fun z => some (Value.int z)) (so_1 hf)) (so_2 hf) dX6_speedBy_20
theorem c_X6_speedBy (l : Launch) {o : Nat} {a1 : Int32} {a2 : Int32} (ho : knd o = 4) {μ μ2 : Mem} {r : Int32} (hf : f_X6_speedBy o a1 a2 μ = some (r, μ2)) : CT E l yX6_speedBy cX6_speedBy 3 (some .int) (rmF 0 0) [.ref (eA E o), .int a1, .int a2] μ (some (.int r)) μ2 := CT.of (show plainFor yX6_speedBy = true by decide +kernel) (Nat.le_of_ble_eq_true rfl) rfl (fun _ _ _ _ _ _ _ _ hX hM hl => w_X6_speedBy l ho hf hX hM hl)
theorem mv_X6_speedBy : MV yX6_speedBy cX6_speedBy 3 (some .int) RX6 2 := ⟨q_10_14, q_10_12, q_10_13, q_1_15, by decide +kernel⟩
def f_X6_putSpeed (o : Nat) (a1 : Int32) (a2 : Int32) (a3 : Int32) (μ : Mem) : Option (Mem) :=
  gA (((a1 - (1 : Int32)) * (5 : Int32)) + a2) (aln (rf o 4)) (lt (sI μ (rf o 4) (((a1 - (1 : Int32)) * (5 : Int32)) + a2).toNatClampNeg a3) (fun μ1 => lt (sI μ1 o 10 ((μ1.1 o 10) + (1 : Int32))) (fun μ2 => some μ2)))
set_option maxHeartbeats 4000000 in
set_option maxRecDepth 100000 in
theorem w_X6_putSpeed (l : Launch) {o : Nat} {a1 : Int32} {a2 : Int32} {a3 : Int32} (ho : knd o = 4) {μ μ2 : Mem} {H : Heap} {locs : List Loc} {ls : Array Slot} (hf : f_X6_putSpeed o a1 a2 a3 μ = some μ2) (hX : XX E p m meth c cX6_putSpeed 4 none s args RX6) (hM : MM E s μ H locs) (hl : lv_has ls 4 [(0, .ref (eA E o)), (1, .int a1), (2, .int a2), (3, .int a3)]) : W p l e (rmF 0 0) s m args below meth c H locs 0 0 (MQ below (QC E (none) μ2) args s 0 0 (AA E)) (F0 m 0 ls []) := by
  obtain ⟨⟨hx, hb, hml, hown, hts⟩, hXr⟩ := id hX
  unfold f_X6_putSpeed at hf
  refine lv_aload_n hx hb dX6_putSpeed_0 rfl (lv_at hl 0 rfl) ?_
  refine gf_4_4 hX hM ho q_3_2 dX6_putSpeed_1 ?_
  refine lv_iload_n hx hb dX6_putSpeed_4 rfl (lv_at hl 1 rfl) ?_
  refine lv_iconst (v := 1) hx hb dX6_putSpeed_5 (by decide) ?_
  refine lv_isub hx hb dX6_putSpeed_6 ?_
  refine lv_iconst (v := 5) hx hb dX6_putSpeed_7 (by decide) ?_
  refine lv_imul hx hb dX6_putSpeed_8 ?_
  refine lv_iload_n hx hb dX6_putSpeed_9 rfl (lv_at hl 2 rfl) ?_
  refine lv_iadd hx hb dX6_putSpeed_10 ?_
  refine lv_iload_n hx hb dX6_putSpeed_11 rfl (lv_at hl 3 rfl) ?_
  replace hf := gA_some hf
  obtain ⟨hi, hf⟩ := hf
  refine ast hX hM (kr_4_4 ho) hi dX6_putSpeed_12 (fun μ1 H locs eμ1 hM => ?_)
  replace hf := lt_e eμ1 hf
  refine lv_aload_n hx hb dX6_putSpeed_13 rfl (lv_at hl 0 rfl) ?_
  refine lv_dup hx hb dX6_putSpeed_14 rfl ?_
  refine gf_4_10 hX hM ho q_3_8 dX6_putSpeed_15 ?_
  refine lv_iconst (v := 1) hx hb dX6_putSpeed_18 (by decide) ?_
  refine lv_iadd hx hb dX6_putSpeed_19 ?_
  refine pf_4_10 hX hM ho q_3_8 dX6_putSpeed_20 (fun μ2 H locs eμ2 hM => ?_)
  replace hf := lt_e eμ2 hf
  exact rt_v hX hM rfl (Option.some.inj hf) dX6_putSpeed_23
theorem c_X6_putSpeed (l : Launch) {o : Nat} {a1 : Int32} {a2 : Int32} {a3 : Int32} (ho : knd o = 4) {μ μ2 : Mem} (hf : f_X6_putSpeed o a1 a2 a3 μ = some μ2) : CT E l yX6_putSpeed cX6_putSpeed 4 none (rmF 0 0) [.ref (eA E o), .int a1, .int a2, .int a3] μ (none) μ2 := CT.of (show plainFor yX6_putSpeed = true by decide +kernel) (Nat.le_of_ble_eq_true rfl) rfl (fun _ _ _ _ _ _ _ _ hX hM hl => w_X6_putSpeed l ho hf hX hM hl)
theorem mv_X6_putSpeed : MV yX6_putSpeed cX6_putSpeed 4 none RX6 3 := ⟨q_10_18, q_10_16, q_10_17, q_1_15, by decide +kernel⟩
def f_X6_isLand (o : Nat) (a1 : Int32) (μ : Mem) : Option (Int32 × Mem) :=
  (if (lg_cmp (((μ.2 o 6).toUInt64 >>> (a1.toInt64.toUInt64 &&& Int64.toUInt64 63)).toInt64 &&& (1 : Int64)) (0 : Int64)) = 0 then some ((0 : Int32), μ) else some ((1 : Int32), μ))
set_option maxHeartbeats 4000000 in
set_option maxRecDepth 100000 in
theorem w_X6_isLand (l : Launch) {o : Nat} {a1 : Int32} (ho : knd o = 4) {μ μ2 : Mem} {r : Int32} {H : Heap} {locs : List Loc} {ls : Array Slot} (hf : f_X6_isLand o a1 μ = some (r, μ2)) (hX : XX E p m meth c cX6_isLand 2 (some .boolean) s args RX6) (hM : MM E s μ H locs) (hl : lv_has ls 2 [(0, .ref (eA E o)), (1, .int a1)]) : W p l e (rmF 0 0) s m args below meth c H locs 0 0 (MQ below (QC E (some (.int r)) μ2) args s 0 0 (AA E)) (F0 m 0 ls []) := by
  obtain ⟨⟨hx, hb, hml, hown, hts⟩, hXr⟩ := id hX
  unfold f_X6_isLand at hf
  refine lv_aload_n hx hb dX6_isLand_0 rfl (lv_at hl 0 rfl) ?_
  refine gf_4_6 hX hM ho q_3_4 dX6_isLand_1 ?_
  refine lv_iload_n hx hb dX6_isLand_4 rfl (lv_at hl 1 rfl) ?_
  refine lv_lushr hx hb dX6_isLand_5 rfl ?_
  refine lv_lconst (v := 1) hx hb dX6_isLand_6 (by decide) ?_
  refine lv_land hx hb dX6_isLand_7 ?_
  refine lv_lconst (v := 0) hx hb dX6_isLand_8 (by decide) ?_
  refine W.lcmp hx hb dX6_isLand_9 ?_
  refine lv_if_eq (tgt := 17) hx hb dX6_isLand_10 (by decide) (fun hc10 => ?_) (fun hc10 => ?_)
  · replace hf := it_t hf hc10
    refine lv_iconst (v := 0) hx hb dX6_isLand_17 (by decide) ?_
    exact rt_z hX hM rfl (congrArg (fun z => some (Value.int z)) (so_1 hf)) (so_2 hf) dX6_isLand_18
  · replace hf := it_f hf hc10
    refine lv_iconst (v := 1) hx hb dX6_isLand_13 (by decide) ?_
    refine lv_goto (tgt := 18) hx hb dX6_isLand_14 (by decide) ?_
    exact rt_z hX hM rfl (congrArg (fun z => some (Value.int z)) (so_1 hf)) (so_2 hf) dX6_isLand_18
theorem c_X6_isLand (l : Launch) {o : Nat} {a1 : Int32} (ho : knd o = 4) {μ μ2 : Mem} {r : Int32} (hf : f_X6_isLand o a1 μ = some (r, μ2)) : CT E l yX6_isLand cX6_isLand 2 (some .boolean) (rmF 0 0) [.ref (eA E o), .int a1] μ (some (.int r)) μ2 := CT.of (show plainFor yX6_isLand = true by decide +kernel) (Nat.le_of_ble_eq_true rfl) rfl (fun _ _ _ _ _ _ _ _ hX hM hl => w_X6_isLand l ho hf hX hM hl)
theorem mv_X6_isLand : MV yX6_isLand cX6_isLand 2 (some .boolean) RX6 1 := ⟨q_11_10, q_11_8, q_11_9, q_1_15, by decide +kernel⟩
def f_X6_putLand_b28 (o : Nat) (a1 : Int32) (a2 : Int32)  (t0 : Nat) (t1 : Int64) (μ : Mem) : Option (Mem) :=
  lt (sL μ t0 6 t1) (fun μ2 => lt (sI μ2 o 10 ((μ2.1 o 10) + (1 : Int32))) (fun μ3 => some μ3))
set_option maxHeartbeats 4000000 in
set_option maxRecDepth 100000 in
theorem w_X6_putLand_b28 (l : Launch) {o : Nat} {a1 : Int32} {a2 : Int32} (ho : knd o = 4) {μ2 : Mem}   {t0 : Nat} {t1 : Int64} {μ : Mem} {H : Heap} {locs : List Loc} {ls : Array Slot} (ht0 : knd t0 = 4) (hf : f_X6_putLand_b28 o a1 a2  t0 t1 μ = some μ2) (hX : XX E p m meth c cX6_putLand 5 none s args RX6) (hM : MM E s μ H locs) (hl : lv_has ls 5 [(0, .ref (eA E o)), (1, .int a1), (2, .int a2)]) : W p l e (rmF 0 0) s m args below meth c H locs 0 0 (MQ below (QC E (none) μ2) args s 0 0 (AA E)) (F0 m 28 ls [.long t1, .ref (eA E t0)]) := by
  obtain ⟨⟨hx, hb, hml, hown, hts⟩, hXr⟩ := id hX
  unfold f_X6_putLand_b28 at hf
  refine pf_4_6 hX hM ht0 q_3_4 dX6_putLand_28 (fun μ2 H locs eμ2 hM => ?_)
  replace hf := lt_e eμ2 hf
  refine lv_aload_n hx hb dX6_putLand_31 rfl (lv_at hl 0 rfl) ?_
  refine lv_dup hx hb dX6_putLand_32 rfl ?_
  refine gf_4_10 hX hM ho q_3_8 dX6_putLand_33 ?_
  refine lv_iconst (v := 1) hx hb dX6_putLand_36 (by decide) ?_
  refine lv_iadd hx hb dX6_putLand_37 ?_
  refine pf_4_10 hX hM ho q_3_8 dX6_putLand_38 (fun μ3 H locs eμ3 hM => ?_)
  replace hf := lt_e eμ3 hf
  exact rt_v hX hM rfl (Option.some.inj hf) dX6_putLand_41
def f_X6_putLand (o : Nat) (a1 : Int32) (a2 : Int32) (μ : Mem) : Option (Mem) :=
  lt ((1 : Int64) <<< (a1.toInt64 &&& 63)) (fun v1 => (if a2 = 0 then f_X6_putLand_b28 o a1 a2  o ((μ.2 o 6) &&& (v1 ^^^ (-1 : Int64))) μ else f_X6_putLand_b28 o a1 a2  o ((μ.2 o 6) ||| v1) μ))
set_option maxHeartbeats 4000000 in
set_option maxRecDepth 100000 in
theorem w_X6_putLand (l : Launch) {o : Nat} {a1 : Int32} {a2 : Int32} (ho : knd o = 4) {μ μ2 : Mem} {H : Heap} {locs : List Loc} {ls : Array Slot} (hf : f_X6_putLand o a1 a2 μ = some μ2) (hX : XX E p m meth c cX6_putLand 5 none s args RX6) (hM : MM E s μ H locs) (hl : lv_has ls 5 [(0, .ref (eA E o)), (1, .int a1), (2, .int a2)]) : W p l e (rmF 0 0) s m args below meth c H locs 0 0 (MQ below (QC E (none) μ2) args s 0 0 (AA E)) (F0 m 0 ls []) := by
  obtain ⟨⟨hx, hb, hml, hown, hts⟩, hXr⟩ := id hX
  unfold f_X6_putLand at hf
  refine lv_lconst (v := 1) hx hb dX6_putLand_0 (by decide) ?_
  refine lv_iload_n hx hb dX6_putLand_1 rfl (lv_at hl 1 rfl) ?_
  refine lv_lshl hx hb dX6_putLand_2 rfl ?_
  refine lv_topl (fun v1 ev1 => ?_)
  replace hf := lt_e ev1 hf
  refine lv_lstore_n (lv' := [(3, .long v1), (0, .ref (eA E o)), (1, .int a1), (2, .int a2)]) hx hb dX6_putLand_3 rfl hl (by decide) rfl (fun ls hl => ?_)
  refine lv_aload_n hx hb dX6_putLand_4 rfl (lv_at hl 1 rfl) ?_
  refine lv_iload_n hx hb dX6_putLand_5 rfl (lv_at hl 3 rfl) ?_
  refine lv_if_eq (tgt := 18) hx hb dX6_putLand_6 (by decide) (fun hc6 => ?_) (fun hc6 => ?_)
  · replace hf := it_t hf hc6
    refine lv_aload_n hx hb dX6_putLand_18 rfl (lv_at hl 1 rfl) ?_
    refine gf_4_6 hX hM ho q_3_4 dX6_putLand_19 ?_
    refine lv_lload_n hx hb dX6_putLand_22 rfl (lv_at hl 0 rfl) ?_
    refine lv_ldc2 (v := -1) hx hb hown (hts _ q_11_15) dX6_putLand_23 ?_
    refine lv_lxor hx hb dX6_putLand_26 ?_
    refine lv_land hx hb dX6_putLand_27 ?_
    exact w_X6_putLand_b28 l ho  ho hf hX hM (lv_sub hl [1, 2, 3] rfl)
  · replace hf := it_f hf hc6
    refine lv_aload_n hx hb dX6_putLand_9 rfl (lv_at hl 1 rfl) ?_
    refine gf_4_6 hX hM ho q_3_4 dX6_putLand_10 ?_
    refine lv_lload_n hx hb dX6_putLand_13 rfl (lv_at hl 0 rfl) ?_
    refine lv_lor hx hb dX6_putLand_14 ?_
    refine lv_goto (tgt := 28) hx hb dX6_putLand_15 (by decide) ?_
    exact w_X6_putLand_b28 l ho  ho hf hX hM (lv_sub hl [1, 2, 3] rfl)
theorem c_X6_putLand (l : Launch) {o : Nat} {a1 : Int32} {a2 : Int32} (ho : knd o = 4) {μ μ2 : Mem} (hf : f_X6_putLand o a1 a2 μ = some μ2) : CT E l yX6_putLand cX6_putLand 5 none (rmF 0 0) [.ref (eA E o), .int a1, .int a2] μ (none) μ2 := CT.of (show plainFor yX6_putLand = true by decide +kernel) (Nat.le_of_ble_eq_true rfl) rfl (fun _ _ _ _ _ _ _ _ hX hM hl => w_X6_putLand l ho hf hX hM hl)
theorem mv_X6_putLand : MV yX6_putLand cX6_putLand 5 none RX6 2 := ⟨q_11_14, q_11_12, q_11_13, q_1_15, by decide +kernel⟩
def f_X6_putStart (o : Nat) (a1 : Int32) (a2 : Int32) (a3 : Int32) (μ : Mem) : Option (Mem) :=
  lt (sI μ o 7 a1) (fun μ1 => lt (sI μ1 o 8 a2) (fun μ2 => lt (sI μ2 o 9 a3) (fun μ3 => lt (sI μ3 o 10 ((μ3.1 o 10) + (1 : Int32))) (fun μ4 => some μ4))))
set_option maxHeartbeats 4000000 in
set_option maxRecDepth 100000 in
theorem w_X6_putStart (l : Launch) {o : Nat} {a1 : Int32} {a2 : Int32} {a3 : Int32} (ho : knd o = 4) {μ μ2 : Mem} {H : Heap} {locs : List Loc} {ls : Array Slot} (hf : f_X6_putStart o a1 a2 a3 μ = some μ2) (hX : XX E p m meth c cX6_putStart 4 none s args RX6) (hM : MM E s μ H locs) (hl : lv_has ls 4 [(0, .ref (eA E o)), (1, .int a1), (2, .int a2), (3, .int a3)]) : W p l e (rmF 0 0) s m args below meth c H locs 0 0 (MQ below (QC E (none) μ2) args s 0 0 (AA E)) (F0 m 0 ls []) := by
  obtain ⟨⟨hx, hb, hml, hown, hts⟩, hXr⟩ := id hX
  unfold f_X6_putStart at hf
  refine lv_aload_n hx hb dX6_putStart_0 rfl (lv_at hl 0 rfl) ?_
  refine lv_iload_n hx hb dX6_putStart_1 rfl (lv_at hl 1 rfl) ?_
  refine pf_4_7 hX hM ho q_3_5 dX6_putStart_2 (fun μ1 H locs eμ1 hM => ?_)
  replace hf := lt_e eμ1 hf
  refine lv_aload_n hx hb dX6_putStart_5 rfl (lv_at hl 0 rfl) ?_
  refine lv_iload_n hx hb dX6_putStart_6 rfl (lv_at hl 2 rfl) ?_
  refine pf_4_8 hX hM ho q_3_6 dX6_putStart_7 (fun μ2 H locs eμ2 hM => ?_)
  replace hf := lt_e eμ2 hf
  refine lv_aload_n hx hb dX6_putStart_10 rfl (lv_at hl 0 rfl) ?_
  refine lv_iload_n hx hb dX6_putStart_11 rfl (lv_at hl 3 rfl) ?_
  refine pf_4_9 hX hM ho q_3_7 dX6_putStart_12 (fun μ3 H locs eμ3 hM => ?_)
  replace hf := lt_e eμ3 hf
  refine lv_aload_n hx hb dX6_putStart_15 rfl (lv_at hl 0 rfl) ?_
  refine lv_dup hx hb dX6_putStart_16 rfl ?_
  refine gf_4_10 hX hM ho q_3_8 dX6_putStart_17 ?_
  refine lv_iconst (v := 1) hx hb dX6_putStart_20 (by decide) ?_
  refine lv_iadd hx hb dX6_putStart_21 ?_
  refine pf_4_10 hX hM ho q_3_8 dX6_putStart_22 (fun μ4 H locs eμ4 hM => ?_)
  replace hf := lt_e eμ4 hf
  exact rt_v hX hM rfl (Option.some.inj hf) dX6_putStart_25
theorem c_X6_putStart (l : Launch) {o : Nat} {a1 : Int32} {a2 : Int32} {a3 : Int32} (ho : knd o = 4) {μ μ2 : Mem} (hf : f_X6_putStart o a1 a2 a3 μ = some μ2) : CT E l yX6_putStart cX6_putStart 4 none (rmF 0 0) [.ref (eA E o), .int a1, .int a2, .int a3] μ (none) μ2 := CT.of (show plainFor yX6_putStart = true by decide +kernel) (Nat.le_of_ble_eq_true rfl) rfl (fun _ _ _ _ _ _ _ _ hX hM hl => w_X6_putStart l ho hf hX hM hl)
theorem mv_X6_putStart : MV yX6_putStart cX6_putStart 4 none RX6 3 := ⟨q_12_11, q_12_9, q_12_10, q_1_15, by decide +kernel⟩
def f_X2_turnBetween_b14 (a0 : Int32) (a1 : Int32)  (t0 : Int32) (μ : Mem) : Option (Int32 × Mem) :=
  (if t0 ≤ (4 : Int32) then some (t0, μ) else some (((8 : Int32) - t0), μ))
set_option maxHeartbeats 4000000 in
set_option maxRecDepth 100000 in
theorem w_X2_turnBetween_b14 (l : Launch) {a0 : Int32} {a1 : Int32}  {μ2 : Mem} {r : Int32}   {t0 : Int32} {μ : Mem} {H : Heap} {locs : List Loc} {ls : Array Slot}  (hf : f_X2_turnBetween_b14 a0 a1  t0 μ = some (r, μ2)) (hX : XX E p m meth c cX2_turnBetween 3 (some .int) s args RX2) (hM : MM E s μ H locs) (hl : lv_has ls 3 [(0, .int a0), (1, .int a1)]) : W p l e (rmF 0 0) s m args below meth c H locs 0 0 (MQ below (QC E (some (.int r)) μ2) args s 0 0 (AA E)) (F0 m 14 ls [.int t0]) := by
  obtain ⟨⟨hx, hb, hml, hown, hts⟩, hXr⟩ := id hX
  unfold f_X2_turnBetween_b14 at hf
  refine lv_istore_n (lv' := [(2, .int t0), (0, .int a0), (1, .int a1)]) hx hb dX2_turnBetween_14 rfl hl (by decide) rfl (fun ls hl => ?_)
  refine lv_iload_n hx hb dX2_turnBetween_15 rfl (lv_at hl 0 rfl) ?_
  refine lv_iconst (v := 4) hx hb dX2_turnBetween_16 (by decide) ?_
  refine lv_icmp_le (tgt := 27) hx hb dX2_turnBetween_17 (by decide) (fun hc17 => ?_) (fun hc17 => ?_)
  · replace hf := it_t hf hc17
    refine lv_iload_n hx hb dX2_turnBetween_27 rfl (lv_at hl 0 rfl) ?_
    exact rt_i hX hM (congrArg (fun z => some (Value.int z)) (so_1 hf)) (so_2 hf) dX2_turnBetween_28
  · replace hf := it_f hf hc17
    refine lv_bipush (v := 8) hx hb dX2_turnBetween_20 (by decide) ?_
    refine lv_iload_n hx hb dX2_turnBetween_22 rfl (lv_at hl 0 rfl) ?_
    refine lv_isub hx hb dX2_turnBetween_23 ?_
    refine lv_goto (tgt := 28) hx hb dX2_turnBetween_24 (by decide) ?_
    exact rt_i hX hM (congrArg (fun z => some (Value.int z)) (so_1 hf)) (so_2 hf) dX2_turnBetween_28
def f_X2_turnBetween (a0 : Int32) (a1 : Int32) (μ : Mem) : Option (Int32 × Mem) :=
  (if a1 ≤ a0 then f_X2_turnBetween_b14 a0 a1  (a0 - a1) μ else f_X2_turnBetween_b14 a0 a1  (a1 - a0) μ)
set_option maxHeartbeats 4000000 in
set_option maxRecDepth 100000 in
theorem w_X2_turnBetween (l : Launch) {a0 : Int32} {a1 : Int32}  {μ μ2 : Mem} {r : Int32} {H : Heap} {locs : List Loc} {ls : Array Slot} (hf : f_X2_turnBetween a0 a1 μ = some (r, μ2)) (hX : XX E p m meth c cX2_turnBetween 3 (some .int) s args RX2) (hM : MM E s μ H locs) (hl : lv_has ls 3 [(0, .int a0), (1, .int a1)]) : W p l e (rmF 0 0) s m args below meth c H locs 0 0 (MQ below (QC E (some (.int r)) μ2) args s 0 0 (AA E)) (F0 m 0 ls []) := by
  obtain ⟨⟨hx, hb, hml, hown, hts⟩, hXr⟩ := id hX
  unfold f_X2_turnBetween at hf
  refine lv_iload_n hx hb dX2_turnBetween_0 rfl (lv_at hl 0 rfl) ?_
  refine lv_iload_n hx hb dX2_turnBetween_1 rfl (lv_at hl 1 rfl) ?_
  refine lv_icmp_ge (tgt := 11) hx hb dX2_turnBetween_2 (by decide) (fun hc2 => ?_) (fun hc2 => ?_)
  · replace hf := it_t hf hc2
    refine lv_iload_n hx hb dX2_turnBetween_11 rfl (lv_at hl 0 rfl) ?_
    refine lv_iload_n hx hb dX2_turnBetween_12 rfl (lv_at hl 1 rfl) ?_
    refine lv_isub hx hb dX2_turnBetween_13 ?_
    exact w_X2_turnBetween_b14 l    hf hX hM (lv_sub hl [0, 1] rfl)
  · replace hf := it_f hf hc2
    refine lv_iload_n hx hb dX2_turnBetween_5 rfl (lv_at hl 1 rfl) ?_
    refine lv_iload_n hx hb dX2_turnBetween_6 rfl (lv_at hl 0 rfl) ?_
    refine lv_isub hx hb dX2_turnBetween_7 ?_
    refine lv_goto (tgt := 14) hx hb dX2_turnBetween_8 (by decide) ?_
    exact w_X2_turnBetween_b14 l    hf hX hM (lv_sub hl [0, 1] rfl)
theorem c_X2_turnBetween (l : Launch) {a0 : Int32} {a1 : Int32}  {μ μ2 : Mem} {r : Int32} (hf : f_X2_turnBetween a0 a1 μ = some (r, μ2)) : CT E l yX2_turnBetween cX2_turnBetween 3 (some .int) (rmF 0 0) [.int a0, .int a1] μ (some (.int r)) μ2 := CT.of (show plainFor yX2_turnBetween = true by decide +kernel) (Nat.le_of_ble_eq_true rfl) rfl (fun _ _ _ _ _ _ _ _ hX hM hl => w_X2_turnBetween l  hf hX hM hl)
theorem mt_X2_turnBetween : MT yX2_turnBetween cX2_turnBetween 3 (some .int) 2 := ⟨q_13_21, q_13_19, q_13_20, by decide +kernel⟩
def f_X6_driftBy (a0 : Int32) (a1 : Int32) (μ : Mem) : Option (Int32 × Mem) :=
  (if a1 = (0 : Int32) then some (a0, μ) else (if a1 = (1 : Int32) then some ((a0 / (2 : Int32)), μ) else (if a1 = (2 : Int32) then some ((0 : Int32), μ) else (if a1 = (3 : Int32) then some ((-(a0 / (2 : Int32))), μ) else (if a1 = (4 : Int32) then some ((-a0), μ) else some ((0 : Int32), μ))))))
set_option maxHeartbeats 4000000 in
set_option maxRecDepth 100000 in
theorem w_X6_driftBy (l : Launch) {a0 : Int32} {a1 : Int32}  {μ μ2 : Mem} {r : Int32} {H : Heap} {locs : List Loc} {ls : Array Slot} (hf : f_X6_driftBy a0 a1 μ = some (r, μ2)) (hX : XX E p m meth c cX6_driftBy 2 (some .int) s args RX6) (hM : MM E s μ H locs) (hl : lv_has ls 2 [(0, .int a0), (1, .int a1)]) : W p l e (rmF 0 0) s m args below meth c H locs 0 0 (MQ below (QC E (some (.int r)) μ2) args s 0 0 (AA E)) (F0 m 0 ls []) := by
  obtain ⟨⟨hx, hb, hml, hown, hts⟩, hXr⟩ := id hX
  unfold f_X6_driftBy at hf
  refine lv_iload_n hx hb dX6_driftBy_0 rfl (lv_at hl 1 rfl) ?_
  by_cases hs1_0 : a1 = (0 : Int32)
  · replace hf := it_t hf hs1_0
    refine lv_tableIn (off := 35) (tgt := 36) hx hb dX6_driftBy_1 (by rw [hs1_0]; decide) (by rw [hs1_0]; decide) (by rw [hs1_0]; rfl) (by decide) ?_
    refine lv_iload_n hx hb dX6_driftBy_36 rfl (lv_at hl 0 rfl) ?_
    exact rt_i hX hM (congrArg (fun z => some (Value.int z)) (so_1 hf)) (so_2 hf) dX6_driftBy_37
  · replace hf := it_f hf hs1_0
    by_cases hs1_1 : a1 = (1 : Int32)
    · replace hf := it_t hf hs1_1
      refine lv_tableIn (off := 37) (tgt := 38) hx hb dX6_driftBy_1 (by rw [hs1_1]; decide) (by rw [hs1_1]; decide) (by rw [hs1_1]; rfl) (by decide) ?_
      refine lv_iload_n hx hb dX6_driftBy_38 rfl (lv_at hl 0 rfl) ?_
      refine lv_iconst (v := 2) hx hb dX6_driftBy_39 (by decide) ?_
      refine lv_idiv hx hb dX6_driftBy_40 (by decide) ?_
      exact rt_i hX hM (congrArg (fun z => some (Value.int z)) (so_1 hf)) (so_2 hf) dX6_driftBy_41
    · replace hf := it_f hf hs1_1
      by_cases hs1_2 : a1 = (2 : Int32)
      · replace hf := it_t hf hs1_2
        refine lv_tableIn (off := 49) (tgt := 50) hx hb dX6_driftBy_1 (by rw [hs1_2]; decide) (by rw [hs1_2]; decide) (by rw [hs1_2]; rfl) (by decide) ?_
        refine lv_iconst (v := 0) hx hb dX6_driftBy_50 (by decide) ?_
        exact rt_i hX hM (congrArg (fun z => some (Value.int z)) (so_1 hf)) (so_2 hf) dX6_driftBy_51
      · replace hf := it_f hf hs1_2
        by_cases hs1_3 : a1 = (3 : Int32)
        · replace hf := it_t hf hs1_3
          refine lv_tableIn (off := 41) (tgt := 42) hx hb dX6_driftBy_1 (by rw [hs1_3]; decide) (by rw [hs1_3]; decide) (by rw [hs1_3]; rfl) (by decide) ?_
          refine lv_iload_n hx hb dX6_driftBy_42 rfl (lv_at hl 0 rfl) ?_
          refine lv_iconst (v := 2) hx hb dX6_driftBy_43 (by decide) ?_
          refine lv_idiv hx hb dX6_driftBy_44 (by decide) ?_
          refine lv_ineg hx hb dX6_driftBy_45 ?_
          exact rt_i hX hM (congrArg (fun z => some (Value.int z)) (so_1 hf)) (so_2 hf) dX6_driftBy_46
        · replace hf := it_f hf hs1_3
          by_cases hs1_4 : a1 = (4 : Int32)
          · replace hf := it_t hf hs1_4
            refine lv_tableIn (off := 46) (tgt := 47) hx hb dX6_driftBy_1 (by rw [hs1_4]; decide) (by rw [hs1_4]; decide) (by rw [hs1_4]; rfl) (by decide) ?_
            refine lv_iload_n hx hb dX6_driftBy_47 rfl (lv_at hl 0 rfl) ?_
            refine lv_ineg hx hb dX6_driftBy_48 ?_
            exact rt_i hX hM (congrArg (fun z => some (Value.int z)) (so_1 hf)) (so_2 hf) dX6_driftBy_49
          · replace hf := it_f hf hs1_4
            have hq : (a1).toInt < 0 ∨ 4 < (a1).toInt := by
              have n0 := lv_neT hs1_0 (a := 0) rfl
              have n1 := lv_neT hs1_1 (a := 1) rfl
              have n2 := lv_neT hs1_2 (a := 2) rfl
              have n3 := lv_neT hs1_3 (a := 3) rfl
              have n4 := lv_neT hs1_4 (a := 4) rfl
              omega
            refine lv_tableOut (tgt := 50) hx hb dX6_driftBy_1 hq (by decide) ?_
            refine lv_iconst (v := 0) hx hb dX6_driftBy_50 (by decide) ?_
            exact rt_i hX hM (congrArg (fun z => some (Value.int z)) (so_1 hf)) (so_2 hf) dX6_driftBy_51
theorem c_X6_driftBy (l : Launch) {a0 : Int32} {a1 : Int32}  {μ μ2 : Mem} {r : Int32} (hf : f_X6_driftBy a0 a1 μ = some (r, μ2)) : CT E l yX6_driftBy cX6_driftBy 2 (some .int) (rmF 0 0) [.int a0, .int a1] μ (some (.int r)) μ2 := CT.of (show plainFor yX6_driftBy = true by decide +kernel) (Nat.le_of_ble_eq_true rfl) rfl (fun _ _ _ _ _ _ _ _ hX hM hl => w_X6_driftBy l  hf hX hM hl)
theorem mt_X6_driftBy : MT yX6_driftBy cX6_driftBy 2 (some .int) 2 := ⟨q_14_2, q_14_1, q_1_15, by decide +kernel⟩
def f_X6_paceBy (o : Nat) (a1 : Int32) (a2 : Int32) (a3 : Int32) (μ : Mem) : Option (Int32 × Mem) :=
  bnd (f_X6_fromIn o a1 a2 μ) (fun r2 μ1 => bnd (f_X2_turnBetween a3 r2 μ1) (fun r4 μ3 => bnd (f_X6_rateIn o a1 μ3) (fun r6 μ5 => bnd (f_X6_toIn o a1 μ5) (fun r8 μ7 => bnd (f_X2_turnBetween a3 r8 μ7) (fun r10 μ9 => bnd (f_X6_driftBy r6 r10 μ9) (fun r12 μ11 => bnd (f_X6_forceIn o a1 a2 μ11) (fun r14 μ13 => bnd (f_X6_speedBy o r14 r4 μ13) (fun r16 μ15 => some ((mimax (r16 + r12) (0 : Int32)), μ15)))))))))
set_option maxHeartbeats 4000000 in
set_option maxRecDepth 100000 in
theorem w_X6_paceBy (l : Launch) {o : Nat} {a1 : Int32} {a2 : Int32} {a3 : Int32} (ho : knd o = 4) {μ μ2 : Mem} {r : Int32} {H : Heap} {locs : List Loc} {ls : Array Slot} (hf : f_X6_paceBy o a1 a2 a3 μ = some (r, μ2)) (hX : XX E p m meth c cX6_paceBy 6 (some .int) s args RX6) (hM : MM E s μ H locs) (hl : lv_has ls 6 [(0, .ref (eA E o)), (1, .int a1), (2, .int a2), (3, .int a3)]) : W p l e (rmF 1 22) s m args below meth c H locs 0 0 (MQ below (QC E (some (.int r)) μ2) args s 0 0 (AA E)) (F0 m 0 ls []) := by
  obtain ⟨⟨hx, hb, hml, hown, hts⟩, hXr⟩ := id hX
  unfold f_X6_paceBy at hf
  refine lv_iload_n hx hb dX6_paceBy_0 rfl (lv_at hl 3 rfl) ?_
  refine lv_aload_n hx hb dX6_paceBy_1 rfl (lv_at hl 0 rfl) ?_
  refine lv_iload_n hx hb dX6_paceBy_2 rfl (lv_at hl 1 rfl) ?_
  refine lv_iload_n hx hb dX6_paceBy_3 rfl (lv_at hl 2 rfl) ?_
  replace hf := bnd_some hf
  obtain ⟨r2, μ1, h4, hf⟩ := hf
  refine cl_V (As := [.int a1, .int a2]) (rest := [.int a3]) (st2 := [.int r2, .int a3]) (n := 2) hX hM (c_X6_fromIn l ho h4) mv_X6_fromIn q_13_17 ⟨rfl, rfl⟩ ⟨Nat.le_of_ble_eq_true rfl, Nat.le_of_ble_eq_true rfl⟩ ho (by decide) rfl rfl rfl hl.1 rfl (Nat.le_of_ble_eq_true rfl) dX6_paceBy_4 rfl (fun H locs hM => ?_)
  replace hf := bnd_some hf
  obtain ⟨r4, μ3, h7, hf⟩ := hf
  refine cl_S (As := [.int a3, .int r2]) (rest := []) (st2 := [.int r4]) (n := 2) hX hM (c_X2_turnBetween l  h7) mt_X2_turnBetween q_13_18 ⟨rfl, rfl⟩ ⟨Nat.le_of_ble_eq_true rfl, Nat.le_of_ble_eq_true rfl⟩ rfl hl.1 rfl (Nat.le_of_ble_eq_true rfl) dX6_paceBy_7 rfl (fun H locs hM => ?_)
  refine lv_istore (lv' := [(4, .int r4), (0, .ref (eA E o)), (1, .int a1), (2, .int a2), (3, .int a3)]) hx hb dX6_paceBy_10 hl (by decide) rfl (fun ls hl => ?_)
  refine lv_aload_n hx hb dX6_paceBy_12 rfl (lv_at hl 1 rfl) ?_
  refine lv_iload_n hx hb dX6_paceBy_13 rfl (lv_at hl 2 rfl) ?_
  replace hf := bnd_some hf
  obtain ⟨r6, μ5, h14, hf⟩ := hf
  refine cl_V (As := [.int a1]) (rest := []) (st2 := [.int r6]) (n := 1) hX hM (c_X6_rateIn l ho h14) mv_X6_rateIn q_13_22 ⟨rfl, rfl⟩ ⟨Nat.le_of_ble_eq_true rfl, Nat.le_of_ble_eq_true rfl⟩ ho (by decide) rfl rfl rfl hl.1 rfl (Nat.le_of_ble_eq_true rfl) dX6_paceBy_14 rfl (fun H locs hM => ?_)
  refine lv_iload_n hx hb dX6_paceBy_17 rfl (lv_at hl 4 rfl) ?_
  refine lv_aload_n hx hb dX6_paceBy_18 rfl (lv_at hl 1 rfl) ?_
  refine lv_iload_n hx hb dX6_paceBy_19 rfl (lv_at hl 2 rfl) ?_
  replace hf := bnd_some hf
  obtain ⟨r8, μ7, h20, hf⟩ := hf
  refine cl_V (As := [.int a1]) (rest := [.int a3, .int r6]) (st2 := [.int r8, .int a3, .int r6]) (n := 1) hX hM (c_X6_toIn l ho h20) mv_X6_toIn q_13_23 ⟨rfl, rfl⟩ ⟨Nat.le_of_ble_eq_true rfl, Nat.le_of_ble_eq_true rfl⟩ ho (by decide) rfl rfl rfl hl.1 rfl (Nat.le_of_ble_eq_true rfl) dX6_paceBy_20 rfl (fun H locs hM => ?_)
  replace hf := bnd_some hf
  obtain ⟨r10, μ9, h23, hf⟩ := hf
  refine cl_S (As := [.int a3, .int r8]) (rest := [.int r6]) (st2 := [.int r10, .int r6]) (n := 2) hX hM (c_X2_turnBetween l  h23) mt_X2_turnBetween q_13_18 ⟨rfl, rfl⟩ ⟨Nat.le_of_ble_eq_true rfl, Nat.le_of_ble_eq_true rfl⟩ rfl hl.1 rfl (Nat.le_of_ble_eq_true rfl) dX6_paceBy_23 rfl (fun H locs hM => ?_)
  replace hf := bnd_some hf
  obtain ⟨r12, μ11, h26, hf⟩ := hf
  refine cl_S (As := [.int r6, .int r10]) (rest := []) (st2 := [.int r12]) (n := 2) hX hM (c_X6_driftBy l  h26) mt_X6_driftBy q_14_0 ⟨rfl, rfl⟩ ⟨Nat.le_of_ble_eq_true rfl, Nat.le_of_ble_eq_true rfl⟩ rfl hl.1 rfl (Nat.le_of_ble_eq_true rfl) dX6_paceBy_26 rfl (fun H locs hM => ?_)
  refine lv_istore (lv' := [(5, .int r12), (4, .int r4), (0, .ref (eA E o)), (1, .int a1), (2, .int a2), (3, .int a3)]) hx hb dX6_paceBy_29 hl (by decide) rfl (fun ls hl => ?_)
  refine lv_aload_n hx hb dX6_paceBy_31 rfl (lv_at hl 2 rfl) ?_
  refine lv_aload_n hx hb dX6_paceBy_32 rfl (lv_at hl 2 rfl) ?_
  refine lv_iload_n hx hb dX6_paceBy_33 rfl (lv_at hl 3 rfl) ?_
  refine lv_iload_n hx hb dX6_paceBy_34 rfl (lv_at hl 4 rfl) ?_
  replace hf := bnd_some hf
  obtain ⟨r14, μ13, h35, hf⟩ := hf
  refine cl_V (As := [.int a1, .int a2]) (rest := [.ref (eA E o)]) (st2 := [.int r14, .ref (eA E o)]) (n := 2) hX hM (c_X6_forceIn l ho h35) mv_X6_forceIn q_14_3 ⟨rfl, rfl⟩ ⟨Nat.le_of_ble_eq_true rfl, Nat.le_of_ble_eq_true rfl⟩ ho (by decide) rfl rfl rfl hl.1 rfl (Nat.le_of_ble_eq_true rfl) dX6_paceBy_35 rfl (fun H locs hM => ?_)
  refine lv_iload hx hb dX6_paceBy_38 (lv_at hl 1 rfl) ?_
  replace hf := bnd_some hf
  obtain ⟨r16, μ15, h40, hf⟩ := hf
  refine cl_V (As := [.int r14, .int r4]) (rest := []) (st2 := [.int r16]) (n := 2) hX hM (c_X6_speedBy l ho h40) mv_X6_speedBy q_14_4 ⟨rfl, rfl⟩ ⟨Nat.le_of_ble_eq_true rfl, Nat.le_of_ble_eq_true rfl⟩ ho (by decide) rfl rfl rfl hl.1 rfl (Nat.le_of_ble_eq_true rfl) dX6_paceBy_40 rfl (fun H locs hM => ?_)
  refine lv_iload hx hb dX6_paceBy_43 (lv_at hl 0 rfl) ?_
  refine lv_iadd hx hb dX6_paceBy_45 ?_
  refine lv_iconst (v := 0) hx hb dX6_paceBy_46 (by decide) ?_
  refine va_mmax (rest := []) hx hb (hml.trans hl.1.symm) hown (hts _ q_13_13) (hts _ q_13_14) (hts _ q_13_15) (hts _ q_13_16) (Nat.le_of_ble_eq_true rfl) (Nat.le_of_ble_eq_true rfl) (Nat.zero_le _) (Nat.zero_le _) dX6_paceBy_47 ?_
  exact rt_i hX hM (congrArg (fun z => some (Value.int z)) (so_1 hf)) (so_2 hf) dX6_paceBy_50
theorem c_X6_paceBy (l : Launch) {o : Nat} {a1 : Int32} {a2 : Int32} {a3 : Int32} (ho : knd o = 4) {μ μ2 : Mem} {r : Int32} (hf : f_X6_paceBy o a1 a2 a3 μ = some (r, μ2)) : CT E l yX6_paceBy cX6_paceBy 6 (some .int) (rmF 1 22) [.ref (eA E o), .int a1, .int a2, .int a3] μ (some (.int r)) μ2 := CT.of (show plainFor yX6_paceBy = true by decide +kernel) (Nat.le_of_ble_eq_true rfl) rfl (fun _ _ _ _ _ _ _ _ hX hM hl => w_X6_paceBy l ho hf hX hM hl)
theorem mv_X6_paceBy : MV yX6_paceBy cX6_paceBy 6 (some .int) RX6 3 := ⟨q_13_12, q_13_10, q_13_11, q_1_15, by decide +kernel⟩
def f_X2_lengthOf (a0 : Int32) (μ : Mem) : Option (Int32 × Mem) :=
  (if (a0 - a0 / (2 : Int32) * (2 : Int32)) = (1 : Int32) then some ((850 : Int32), μ) else some ((600 : Int32), μ))
set_option maxHeartbeats 4000000 in
set_option maxRecDepth 100000 in
theorem w_X2_lengthOf (l : Launch) {a0 : Int32}  {μ μ2 : Mem} {r : Int32} {H : Heap} {locs : List Loc} {ls : Array Slot} (hf : f_X2_lengthOf a0 μ = some (r, μ2)) (hX : XX E p m meth c cX2_lengthOf 1 (some .int) s args RX2) (hM : MM E s μ H locs) (hl : lv_has ls 1 [(0, .int a0)]) : W p l e (rmF 0 0) s m args below meth c H locs 0 0 (MQ below (QC E (some (.int r)) μ2) args s 0 0 (AA E)) (F0 m 0 ls []) := by
  obtain ⟨⟨hx, hb, hml, hown, hts⟩, hXr⟩ := id hX
  unfold f_X2_lengthOf at hf
  refine lv_iload_n hx hb dX2_lengthOf_0 rfl (lv_at hl 0 rfl) ?_
  refine lv_iconst (v := 2) hx hb dX2_lengthOf_1 (by decide) ?_
  refine lv_irem hx hb dX2_lengthOf_2 (by decide) ?_
  refine lv_iconst (v := 1) hx hb dX2_lengthOf_3 (by decide) ?_
  refine lv_icmp_ne (tgt := 13) hx hb dX2_lengthOf_4 (by decide) (fun hc4 => ?_) (fun hc4 => ?_)
  · replace hf := it_f hf hc4
    refine lv_sipush (v := 600) hx hb dX2_lengthOf_13 (by decide) ?_
    exact rt_i hX hM (congrArg (fun z => some (Value.int z)) (so_1 hf)) (so_2 hf) dX2_lengthOf_16
  · replace hf := it_t hf hc4
    refine lv_sipush (v := 850) hx hb dX2_lengthOf_7 (by decide) ?_
    refine lv_goto (tgt := 16) hx hb dX2_lengthOf_10 (by decide) ?_
    exact rt_i hX hM (congrArg (fun z => some (Value.int z)) (so_1 hf)) (so_2 hf) dX2_lengthOf_16
theorem c_X2_lengthOf (l : Launch) {a0 : Int32}  {μ μ2 : Mem} {r : Int32} (hf : f_X2_lengthOf a0 μ = some (r, μ2)) : CT E l yX2_lengthOf cX2_lengthOf 1 (some .int) (rmF 0 0) [.int a0] μ (some (.int r)) μ2 := CT.of (show plainFor yX2_lengthOf = true by decide +kernel) (Nat.le_of_ble_eq_true rfl) rfl (fun _ _ _ _ _ _ _ _ hX hM hl => w_X2_lengthOf l  hf hX hM hl)
theorem mt_X2_lengthOf : MT yX2_lengthOf cX2_lengthOf 1 (some .int) 1 := ⟨q_14_7, q_14_6, q_13_20, by decide +kernel⟩
def f_X6_lossBy (o : Nat) (a1 : Int32) (μ : Mem) : Option (Int32 × Mem) :=
  gA a1 (aln (rf o 5)) (some ((μ.1 (rf o 5) a1.toNatClampNeg), μ))
set_option maxHeartbeats 4000000 in
set_option maxRecDepth 100000 in
theorem w_X6_lossBy (l : Launch) {o : Nat} {a1 : Int32} (ho : knd o = 4) {μ μ2 : Mem} {r : Int32} {H : Heap} {locs : List Loc} {ls : Array Slot} (hf : f_X6_lossBy o a1 μ = some (r, μ2)) (hX : XX E p m meth c cX6_lossBy 2 (some .int) s args RX6) (hM : MM E s μ H locs) (hl : lv_has ls 2 [(0, .ref (eA E o)), (1, .int a1)]) : W p l e (rmF 0 0) s m args below meth c H locs 0 0 (MQ below (QC E (some (.int r)) μ2) args s 0 0 (AA E)) (F0 m 0 ls []) := by
  obtain ⟨⟨hx, hb, hml, hown, hts⟩, hXr⟩ := id hX
  unfold f_X6_lossBy at hf
  refine lv_aload_n hx hb dX6_lossBy_0 rfl (lv_at hl 0 rfl) ?_
  refine gf_4_5 hX hM ho q_3_3 dX6_lossBy_1 ?_
  refine lv_iload_n hx hb dX6_lossBy_4 rfl (lv_at hl 1 rfl) ?_
  replace hf := gA_some hf
  obtain ⟨hi, hf⟩ := hf
  refine ald hX hM (kr_4_5 ho) hi dX6_lossBy_5 ?_
  exact rt_i hX hM (congrArg (fun z => some (Value.int z)) (so_1 hf)) (so_2 hf) dX6_lossBy_6
theorem c_X6_lossBy (l : Launch) {o : Nat} {a1 : Int32} (ho : knd o = 4) {μ μ2 : Mem} {r : Int32} (hf : f_X6_lossBy o a1 μ = some (r, μ2)) : CT E l yX6_lossBy cX6_lossBy 2 (some .int) (rmF 0 0) [.ref (eA E o), .int a1] μ (some (.int r)) μ2 := CT.of (show plainFor yX6_lossBy = true by decide +kernel) (Nat.le_of_ble_eq_true rfl) rfl (fun _ _ _ _ _ _ _ _ hX hM hl => w_X6_lossBy l ho hf hX hM hl)
theorem mv_X6_lossBy : MV yX6_lossBy cX6_lossBy 2 (some .int) RX6 1 := ⟨q_14_12, q_14_10, q_14_11, q_1_15, by decide +kernel⟩
def f_X2_squareBeside (a0 : Int32) (a1 : Int32) (μ : Mem) : Option (Int32 × Mem) :=
  (if a1 < 0 then some ((-1 : Int32), μ) else (if (8 : Int32) ≤ a1 then some ((-1 : Int32), μ) else (if a1 < (8 : Int32) then gA a1 8 (lt ((a0 / (6 : Int32)) + (k_south a1.toNatClampNeg)) (fun v1 => gA a1 8 (lt ((a0 - a0 / (6 : Int32) * (6 : Int32)) + (k_east a1.toNatClampNeg)) (fun v2 => (if v1 < 0 then some ((-1 : Int32), μ) else (if (5 : Int32) < v1 then some ((-1 : Int32), μ) else (if v2 < 0 then some ((-1 : Int32), μ) else (if v2 ≤ (5 : Int32) then some ((((6 : Int32) * v1) + v2), μ) else some ((-1 : Int32), μ))))))))) else some ((-1 : Int32), μ))))
set_option maxHeartbeats 4000000 in
set_option maxRecDepth 100000 in
theorem w_X2_squareBeside (l : Launch) {a0 : Int32} {a1 : Int32}  {μ μ2 : Mem} {r : Int32} {H : Heap} {locs : List Loc} {ls : Array Slot} (hf : f_X2_squareBeside a0 a1 μ = some (r, μ2)) (hX : XX E p m meth c cX2_squareBeside 4 (some .int) s args RX2) (hM : MM E s μ H locs) (hl : lv_has ls 4 [(0, .int a0), (1, .int a1)]) : W p l e (rmF 0 0) s m args below meth c H locs 0 0 (MQ below (QC E (some (.int r)) μ2) args s 0 0 (AA E)) (F0 m 0 ls []) := by
  obtain ⟨⟨hx, hb, hml, hown, hts⟩, hXr⟩ := id hX
  unfold f_X2_squareBeside at hf
  refine lv_iload_n hx hb dX2_squareBeside_0 rfl (lv_at hl 1 rfl) ?_
  refine lv_if_lt (tgt := 20) hx hb dX2_squareBeside_1 (by decide) (fun hc1 => ?_) (fun hc1 => ?_)
  · replace hf := it_t hf hc1
    refine lv_iconst (v := (-1)) hx hb dX2_squareBeside_20 (by decide) ?_
    exact rt_i hX hM (congrArg (fun z => some (Value.int z)) (so_1 hf)) (so_2 hf) dX2_squareBeside_21
  · replace hf := it_f hf hc1
    refine lv_iload_n hx hb dX2_squareBeside_4 rfl (lv_at hl 1 rfl) ?_
    refine va_gets hx hb ((hXr.2.2.1.1.1).1) hM.2 hown (hts _ q_15_19) (fun _ h9 => h9) dX2_squareBeside_5 ?_
    refine va_tlen (v := 8) hx hb ((hXr.2.2.1.1.1).2) hM.2 (by decide) dX2_squareBeside_8 ?_
    refine lv_icmp_ge (tgt := 20) hx hb dX2_squareBeside_9 (by decide) (fun hc9 => ?_) (fun hc9 => ?_)
    · replace hf := it_t hf hc9
      refine lv_iconst (v := (-1)) hx hb dX2_squareBeside_20 (by decide) ?_
      exact rt_i hX hM (congrArg (fun z => some (Value.int z)) (so_1 hf)) (so_2 hf) dX2_squareBeside_21
    · replace hf := it_f hf hc9
      refine lv_iload_n hx hb dX2_squareBeside_12 rfl (lv_at hl 1 rfl) ?_
      refine va_gets hx hb ((hXr.2.2.1.1.2.1).1) hM.2 hown (hts _ q_15_20) (fun _ h9 => h9) dX2_squareBeside_13 ?_
      refine va_tlen (v := 8) hx hb ((hXr.2.2.1.1.2.1).2) hM.2 (by decide) dX2_squareBeside_16 ?_
      refine lv_icmp_lt (tgt := 22) hx hb dX2_squareBeside_17 (by decide) (fun hc17 => ?_) (fun hc17 => ?_)
      · replace hf := it_t hf hc17
        refine lv_iload_n hx hb dX2_squareBeside_22 rfl (lv_at hl 0 rfl) ?_
        refine lv_bipush (v := 6) hx hb dX2_squareBeside_23 (by decide) ?_
        refine lv_idiv hx hb dX2_squareBeside_25 (by decide) ?_
        refine va_gets hx hb ((hXr.2.2.1.1.1).1) hM.2 hown (hts _ q_15_19) (fun _ h9 => h9) dX2_squareBeside_26 ?_
        refine lv_iload_n hx hb dX2_squareBeside_29 rfl (lv_at hl 1 rfl) ?_
        replace hf := gA_some hf
        obtain ⟨hi, hf⟩ := hf
        refine va_ti hx hb ((hXr.2.2.1.1.1).2) hM.2 hi rfl dX2_squareBeside_30 ?_
        refine lv_iadd hx hb dX2_squareBeside_31 ?_
        refine lv_topi (fun v1 ev1 => ?_)
        replace hf := lt_e ev1 hf
        refine lv_istore_n (lv' := [(2, .int v1), (0, .int a0), (1, .int a1)]) hx hb dX2_squareBeside_32 rfl hl (by decide) rfl (fun ls hl => ?_)
        refine lv_iload_n hx hb dX2_squareBeside_33 rfl (lv_at hl 1 rfl) ?_
        refine lv_bipush (v := 6) hx hb dX2_squareBeside_34 (by decide) ?_
        refine lv_irem hx hb dX2_squareBeside_36 (by decide) ?_
        refine va_gets hx hb ((hXr.2.2.1.1.2.1).1) hM.2 hown (hts _ q_15_20) (fun _ h9 => h9) dX2_squareBeside_37 ?_
        refine lv_iload_n hx hb dX2_squareBeside_40 rfl (lv_at hl 2 rfl) ?_
        replace hf := gA_some hf
        obtain ⟨hi, hf⟩ := hf
        refine va_ti hx hb ((hXr.2.2.1.1.2.1).2) hM.2 hi rfl dX2_squareBeside_41 ?_
        refine lv_iadd hx hb dX2_squareBeside_42 ?_
        refine lv_topi (fun v2 ev2 => ?_)
        replace hf := lt_e ev2 hf
        refine lv_istore_n (lv' := [(3, .int v2), (2, .int v1), (0, .int a0), (1, .int a1)]) hx hb dX2_squareBeside_43 rfl hl (by decide) rfl (fun ls hl => ?_)
        refine lv_iload_n hx hb dX2_squareBeside_44 rfl (lv_at hl 1 rfl) ?_
        refine lv_if_lt (tgt := 62) hx hb dX2_squareBeside_45 (by decide) (fun hc45 => ?_) (fun hc45 => ?_)
        · replace hf := it_t hf hc45
          refine lv_iconst (v := (-1)) hx hb dX2_squareBeside_62 (by decide) ?_
          exact rt_i hX hM (congrArg (fun z => some (Value.int z)) (so_1 hf)) (so_2 hf) dX2_squareBeside_63
        · replace hf := it_f hf hc45
          refine lv_iload_n hx hb dX2_squareBeside_48 rfl (lv_at hl 1 rfl) ?_
          refine lv_iconst (v := 5) hx hb dX2_squareBeside_49 (by decide) ?_
          refine lv_icmp_gt (tgt := 62) hx hb dX2_squareBeside_50 (by decide) (fun hc50 => ?_) (fun hc50 => ?_)
          · replace hf := it_t hf hc50
            refine lv_iconst (v := (-1)) hx hb dX2_squareBeside_62 (by decide) ?_
            exact rt_i hX hM (congrArg (fun z => some (Value.int z)) (so_1 hf)) (so_2 hf) dX2_squareBeside_63
          · replace hf := it_f hf hc50
            refine lv_iload_n hx hb dX2_squareBeside_53 rfl (lv_at hl 0 rfl) ?_
            refine lv_if_lt (tgt := 62) hx hb dX2_squareBeside_54 (by decide) (fun hc54 => ?_) (fun hc54 => ?_)
            · replace hf := it_t hf hc54
              refine lv_iconst (v := (-1)) hx hb dX2_squareBeside_62 (by decide) ?_
              exact rt_i hX hM (congrArg (fun z => some (Value.int z)) (so_1 hf)) (so_2 hf) dX2_squareBeside_63
            · replace hf := it_f hf hc54
              refine lv_iload_n hx hb dX2_squareBeside_57 rfl (lv_at hl 0 rfl) ?_
              refine lv_iconst (v := 5) hx hb dX2_squareBeside_58 (by decide) ?_
              refine lv_icmp_le (tgt := 64) hx hb dX2_squareBeside_59 (by decide) (fun hc59 => ?_) (fun hc59 => ?_)
              · replace hf := it_t hf hc59
                refine lv_bipush (v := 6) hx hb dX2_squareBeside_64 (by decide) ?_
                refine lv_iload_n hx hb dX2_squareBeside_66 rfl (lv_at hl 1 rfl) ?_
                refine lv_imul hx hb dX2_squareBeside_67 ?_
                refine lv_iload_n hx hb dX2_squareBeside_68 rfl (lv_at hl 0 rfl) ?_
                refine lv_iadd hx hb dX2_squareBeside_69 ?_
                exact rt_i hX hM (congrArg (fun z => some (Value.int z)) (so_1 hf)) (so_2 hf) dX2_squareBeside_70
              · replace hf := it_f hf hc59
                refine lv_iconst (v := (-1)) hx hb dX2_squareBeside_62 (by decide) ?_
                exact rt_i hX hM (congrArg (fun z => some (Value.int z)) (so_1 hf)) (so_2 hf) dX2_squareBeside_63
      · replace hf := it_f hf hc17
        refine lv_iconst (v := (-1)) hx hb dX2_squareBeside_20 (by decide) ?_
        exact rt_i hX hM (congrArg (fun z => some (Value.int z)) (so_1 hf)) (so_2 hf) dX2_squareBeside_21
theorem c_X2_squareBeside (l : Launch) {a0 : Int32} {a1 : Int32}  {μ μ2 : Mem} {r : Int32} (hf : f_X2_squareBeside a0 a1 μ = some (r, μ2)) : CT E l yX2_squareBeside cX2_squareBeside 4 (some .int) (rmF 0 0) [.int a0, .int a1] μ (some (.int r)) μ2 := CT.of (show plainFor yX2_squareBeside = true by decide +kernel) (Nat.le_of_ble_eq_true rfl) rfl (fun _ _ _ _ _ _ _ _ hX hM hl => w_X2_squareBeside l  hf hX hM hl)
theorem mt_X2_squareBeside : MT yX2_squareBeside cX2_squareBeside 4 (some .int) 2 := ⟨q_15_18, q_15_17, q_13_20, by decide +kernel⟩
def f_X2_zoneOf (a0 : Int32) (μ : Mem) : Option (Int32 × Mem) :=
  some ((((2 : Int32) * ((a0 / (6 : Int32)) / (3 : Int32))) + ((a0 - a0 / (6 : Int32) * (6 : Int32)) / (3 : Int32))), μ)
set_option maxHeartbeats 4000000 in
set_option maxRecDepth 100000 in
theorem w_X2_zoneOf (l : Launch) {a0 : Int32}  {μ μ2 : Mem} {r : Int32} {H : Heap} {locs : List Loc} {ls : Array Slot} (hf : f_X2_zoneOf a0 μ = some (r, μ2)) (hX : XX E p m meth c cX2_zoneOf 1 (some .int) s args RX2) (hM : MM E s μ H locs) (hl : lv_has ls 1 [(0, .int a0)]) : W p l e (rmF 0 0) s m args below meth c H locs 0 0 (MQ below (QC E (some (.int r)) μ2) args s 0 0 (AA E)) (F0 m 0 ls []) := by
  obtain ⟨⟨hx, hb, hml, hown, hts⟩, hXr⟩ := id hX
  unfold f_X2_zoneOf at hf
  refine lv_iconst (v := 2) hx hb dX2_zoneOf_0 (by decide) ?_
  refine lv_iload_n hx hb dX2_zoneOf_1 rfl (lv_at hl 0 rfl) ?_
  refine lv_bipush (v := 6) hx hb dX2_zoneOf_2 (by decide) ?_
  refine lv_idiv hx hb dX2_zoneOf_4 (by decide) ?_
  refine lv_iconst (v := 3) hx hb dX2_zoneOf_5 (by decide) ?_
  refine lv_idiv hx hb dX2_zoneOf_6 (by decide) ?_
  refine lv_imul hx hb dX2_zoneOf_7 ?_
  refine lv_iload_n hx hb dX2_zoneOf_8 rfl (lv_at hl 0 rfl) ?_
  refine lv_bipush (v := 6) hx hb dX2_zoneOf_9 (by decide) ?_
  refine lv_irem hx hb dX2_zoneOf_11 (by decide) ?_
  refine lv_iconst (v := 3) hx hb dX2_zoneOf_12 (by decide) ?_
  refine lv_idiv hx hb dX2_zoneOf_13 (by decide) ?_
  refine lv_iadd hx hb dX2_zoneOf_14 ?_
  exact rt_i hX hM (congrArg (fun z => some (Value.int z)) (so_1 hf)) (so_2 hf) dX2_zoneOf_15
theorem c_X2_zoneOf (l : Launch) {a0 : Int32}  {μ μ2 : Mem} {r : Int32} (hf : f_X2_zoneOf a0 μ = some (r, μ2)) : CT E l yX2_zoneOf cX2_zoneOf 1 (some .int) (rmF 0 0) [.int a0] μ (some (.int r)) μ2 := CT.of (show plainFor yX2_zoneOf = true by decide +kernel) (Nat.le_of_ble_eq_true rfl) rfl (fun _ _ _ _ _ _ _ _ hX hM hl => w_X2_zoneOf l  hf hX hM hl)
theorem mt_X2_zoneOf : MT yX2_zoneOf cX2_zoneOf 1 (some .int) 1 := ⟨q_16_6, q_16_5, q_13_20, by decide +kernel⟩
def f_X2_spanOf (a0 : Int32) (μ : Mem) : Option (Int32 × Mem) :=
  some (((a0 / (360 : Int32)) - (a0 / (360 : Int32)) / (4 : Int32) * (4 : Int32)), μ)
set_option maxHeartbeats 4000000 in
set_option maxRecDepth 100000 in
theorem w_X2_spanOf (l : Launch) {a0 : Int32}  {μ μ2 : Mem} {r : Int32} {H : Heap} {locs : List Loc} {ls : Array Slot} (hf : f_X2_spanOf a0 μ = some (r, μ2)) (hX : XX E p m meth c cX2_spanOf 1 (some .int) s args RX2) (hM : MM E s μ H locs) (hl : lv_has ls 1 [(0, .int a0)]) : W p l e (rmF 0 0) s m args below meth c H locs 0 0 (MQ below (QC E (some (.int r)) μ2) args s 0 0 (AA E)) (F0 m 0 ls []) := by
  obtain ⟨⟨hx, hb, hml, hown, hts⟩, hXr⟩ := id hX
  unfold f_X2_spanOf at hf
  refine lv_iload_n hx hb dX2_spanOf_0 rfl (lv_at hl 0 rfl) ?_
  refine lv_sipush (v := 360) hx hb dX2_spanOf_1 (by decide) ?_
  refine lv_idiv hx hb dX2_spanOf_4 (by decide) ?_
  refine lv_iconst (v := 4) hx hb dX2_spanOf_5 (by decide) ?_
  refine lv_irem hx hb dX2_spanOf_6 (by decide) ?_
  exact rt_i hX hM (congrArg (fun z => some (Value.int z)) (so_1 hf)) (so_2 hf) dX2_spanOf_7
theorem c_X2_spanOf (l : Launch) {a0 : Int32}  {μ μ2 : Mem} {r : Int32} (hf : f_X2_spanOf a0 μ = some (r, μ2)) : CT E l yX2_spanOf cX2_spanOf 1 (some .int) (rmF 0 0) [.int a0] μ (some (.int r)) μ2 := CT.of (show plainFor yX2_spanOf = true by decide +kernel) (Nat.le_of_ble_eq_true rfl) rfl (fun _ _ _ _ _ _ _ _ hX hM hl => w_X2_spanOf l  hf hX hM hl)
theorem mt_X2_spanOf : MT yX2_spanOf cX2_spanOf 1 (some .int) 1 := ⟨q_16_9, q_16_8, q_13_20, by decide +kernel⟩
def f_X6_putLoss (o : Nat) (a1 : Int32) (a2 : Int32) (μ : Mem) : Option (Mem) :=
  gA a1 (aln (rf o 5)) (lt (sI μ (rf o 5) a1.toNatClampNeg a2) (fun μ1 => lt (sI μ1 o 10 ((μ1.1 o 10) + (1 : Int32))) (fun μ2 => some μ2)))
set_option maxHeartbeats 4000000 in
set_option maxRecDepth 100000 in
theorem w_X6_putLoss (l : Launch) {o : Nat} {a1 : Int32} {a2 : Int32} (ho : knd o = 4) {μ μ2 : Mem} {H : Heap} {locs : List Loc} {ls : Array Slot} (hf : f_X6_putLoss o a1 a2 μ = some μ2) (hX : XX E p m meth c cX6_putLoss 3 none s args RX6) (hM : MM E s μ H locs) (hl : lv_has ls 3 [(0, .ref (eA E o)), (1, .int a1), (2, .int a2)]) : W p l e (rmF 0 0) s m args below meth c H locs 0 0 (MQ below (QC E (none) μ2) args s 0 0 (AA E)) (F0 m 0 ls []) := by
  obtain ⟨⟨hx, hb, hml, hown, hts⟩, hXr⟩ := id hX
  unfold f_X6_putLoss at hf
  refine lv_aload_n hx hb dX6_putLoss_0 rfl (lv_at hl 0 rfl) ?_
  refine gf_4_5 hX hM ho q_3_3 dX6_putLoss_1 ?_
  refine lv_iload_n hx hb dX6_putLoss_4 rfl (lv_at hl 1 rfl) ?_
  refine lv_iload_n hx hb dX6_putLoss_5 rfl (lv_at hl 2 rfl) ?_
  replace hf := gA_some hf
  obtain ⟨hi, hf⟩ := hf
  refine ast hX hM (kr_4_5 ho) hi dX6_putLoss_6 (fun μ1 H locs eμ1 hM => ?_)
  replace hf := lt_e eμ1 hf
  refine lv_aload_n hx hb dX6_putLoss_7 rfl (lv_at hl 0 rfl) ?_
  refine lv_dup hx hb dX6_putLoss_8 rfl ?_
  refine gf_4_10 hX hM ho q_3_8 dX6_putLoss_9 ?_
  refine lv_iconst (v := 1) hx hb dX6_putLoss_12 (by decide) ?_
  refine lv_iadd hx hb dX6_putLoss_13 ?_
  refine pf_4_10 hX hM ho q_3_8 dX6_putLoss_14 (fun μ2 H locs eμ2 hM => ?_)
  replace hf := lt_e eμ2 hf
  exact rt_v hX hM rfl (Option.some.inj hf) dX6_putLoss_17
theorem c_X6_putLoss (l : Launch) {o : Nat} {a1 : Int32} {a2 : Int32} (ho : knd o = 4) {μ μ2 : Mem} (hf : f_X6_putLoss o a1 a2 μ = some μ2) : CT E l yX6_putLoss cX6_putLoss 3 none (rmF 0 0) [.ref (eA E o), .int a1, .int a2] μ (none) μ2 := CT.of (show plainFor yX6_putLoss = true by decide +kernel) (Nat.le_of_ble_eq_true rfl) rfl (fun _ _ _ _ _ _ _ _ hX hM hl => w_X6_putLoss l ho hf hX hM hl)
theorem mv_X6_putLoss : MV yX6_putLoss cX6_putLoss 3 none RX6 2 := ⟨q_20_4, q_20_2, q_20_3, q_1_15, by decide +kernel⟩
def f_X5_clear (o : Nat) (μ : Mem) : Option (Int32 × Mem) :=
  lt (sI μ o 2 (0 : Int32)) (fun μ1 => some ((0 : Int32), μ1))
set_option maxHeartbeats 4000000 in
set_option maxRecDepth 100000 in
theorem w_X5_clear (l : Launch) {o : Nat} (ho : knd o = 3) {μ μ2 : Mem} {r : Int32} {H : Heap} {locs : List Loc} {ls : Array Slot} (hf : f_X5_clear o μ = some (r, μ2)) (hX : XX E p m meth c cX5_clear 1 (some .int) s args RX5) (hM : MM E s μ H locs) (hl : lv_has ls 1 [(0, .ref (eA E o))]) : W p l e (rmF 0 0) s m args below meth c H locs 0 0 (MQ below (QC E (some (.int r)) μ2) args s 0 0 (AA E)) (F0 m 0 ls []) := by
  obtain ⟨⟨hx, hb, hml, hown, hts⟩, hXr⟩ := id hX
  unfold f_X5_clear at hf
  refine lv_aload_n hx hb dX5_clear_0 rfl (lv_at hl 0 rfl) ?_
  refine lv_iconst (v := 0) hx hb dX5_clear_1 (by decide) ?_
  refine pf_3_2 hX hM ho q_4_7 dX5_clear_2 (fun μ1 H locs eμ1 hM => ?_)
  replace hf := lt_e eμ1 hf
  refine lv_iconst (v := 0) hx hb dX5_clear_5 (by decide) ?_
  exact rt_i hX hM (congrArg (fun z => some (Value.int z)) (so_1 hf)) (so_2 hf) dX5_clear_6
theorem c_X5_clear (l : Launch) {o : Nat} (ho : knd o = 3) {μ μ2 : Mem} {r : Int32} (hf : f_X5_clear o μ = some (r, μ2)) : CT E l yX5_clear cX5_clear 1 (some .int) (rmF 0 0) [.ref (eA E o)] μ (some (.int r)) μ2 := CT.of (show plainFor yX5_clear = true by decide +kernel) (Nat.le_of_ble_eq_true rfl) rfl (fun _ _ _ _ _ _ _ _ hX hM hl => w_X5_clear l ho hf hX hM hl)
theorem mv_X5_clear : MV yX5_clear cX5_clear 1 (some .int) RX5 0 := ⟨q_20_17, q_20_15, q_20_16, q_3_22, by decide +kernel⟩
def f_X5_add (o : Nat) (a1 : Int32) (a2 : Int32) (μ : Mem) : Option (Int32 × Mem) :=
  (if (μ.1 o 2) < (nI (aln (rf o 0))) then gA (μ.1 o 2) (aln (rf o 0)) (lt (sI μ (rf o 0) (μ.1 o 2).toNatClampNeg a1) (fun μ1 => gA (μ1.1 o 2) (aln (rf o 1)) (lt (sI μ1 (rf o 1) (μ1.1 o 2).toNatClampNeg a2) (fun μ2 => lt (sI μ2 o 2 ((μ2.1 o 2) + (1 : Int32))) (fun μ3 => some ((μ3.1 o 2), μ3)))))) else some ((-4 : Int32), μ))
set_option maxHeartbeats 4000000 in
set_option maxRecDepth 100000 in
theorem w_X5_add (l : Launch) {o : Nat} {a1 : Int32} {a2 : Int32} (ho : knd o = 3) {μ μ2 : Mem} {r : Int32} {H : Heap} {locs : List Loc} {ls : Array Slot} (hf : f_X5_add o a1 a2 μ = some (r, μ2)) (hX : XX E p m meth c cX5_add 3 (some .int) s args RX5) (hM : MM E s μ H locs) (hl : lv_has ls 3 [(0, .ref (eA E o)), (1, .int a1), (2, .int a2)]) : W p l e (rmF 0 0) s m args below meth c H locs 0 0 (MQ below (QC E (some (.int r)) μ2) args s 0 0 (AA E)) (F0 m 0 ls []) := by
  obtain ⟨⟨hx, hb, hml, hown, hts⟩, hXr⟩ := id hX
  unfold f_X5_add at hf
  refine lv_aload_n hx hb dX5_add_0 rfl (lv_at hl 0 rfl) ?_
  refine gf_3_2 hX hM ho q_4_7 dX5_add_1 ?_
  refine lv_aload_n hx hb dX5_add_4 rfl (lv_at hl 0 rfl) ?_
  refine gf_3_0 hX hM ho q_4_8 dX5_add_5 ?_
  refine aleI hX hM (kr_3_0 ho) dX5_add_8 ?_
  refine lv_icmp_lt (tgt := 15) hx hb dX5_add_9 (by decide) (fun hc9 => ?_) (fun hc9 => ?_)
  · replace hf := it_t hf hc9
    refine lv_aload_n hx hb dX5_add_15 rfl (lv_at hl 0 rfl) ?_
    refine gf_3_0 hX hM ho q_4_8 dX5_add_16 ?_
    refine lv_aload_n hx hb dX5_add_19 rfl (lv_at hl 0 rfl) ?_
    refine gf_3_2 hX hM ho q_4_7 dX5_add_20 ?_
    refine lv_iload_n hx hb dX5_add_23 rfl (lv_at hl 1 rfl) ?_
    replace hf := gA_some hf
    obtain ⟨hi, hf⟩ := hf
    refine ast hX hM (kr_3_0 ho) hi dX5_add_24 (fun μ1 H locs eμ1 hM => ?_)
    replace hf := lt_e eμ1 hf
    refine lv_aload_n hx hb dX5_add_25 rfl (lv_at hl 0 rfl) ?_
    refine gf_3_1 hX hM ho q_4_9 dX5_add_26 ?_
    refine lv_aload_n hx hb dX5_add_29 rfl (lv_at hl 0 rfl) ?_
    refine gf_3_2 hX hM ho q_4_7 dX5_add_30 ?_
    refine lv_iload_n hx hb dX5_add_33 rfl (lv_at hl 2 rfl) ?_
    replace hf := gA_some hf
    obtain ⟨hi, hf⟩ := hf
    refine ast hX hM (kr_3_1 ho) hi dX5_add_34 (fun μ2 H locs eμ2 hM => ?_)
    replace hf := lt_e eμ2 hf
    refine lv_aload_n hx hb dX5_add_35 rfl (lv_at hl 0 rfl) ?_
    refine lv_dup hx hb dX5_add_36 rfl ?_
    refine gf_3_2 hX hM ho q_4_7 dX5_add_37 ?_
    refine lv_iconst (v := 1) hx hb dX5_add_40 (by decide) ?_
    refine lv_iadd hx hb dX5_add_41 ?_
    refine pf_3_2 hX hM ho q_4_7 dX5_add_42 (fun μ3 H locs eμ3 hM => ?_)
    replace hf := lt_e eμ3 hf
    refine lv_aload_n hx hb dX5_add_45 rfl (lv_at hl 0 rfl) ?_
    refine gf_3_2 hX hM ho q_4_7 dX5_add_46 ?_
    exact rt_i hX hM (congrArg (fun z => some (Value.int z)) (so_1 hf)) (so_2 hf) dX5_add_49
  · replace hf := it_f hf hc9
    refine lv_bipush (v := (-4)) hx hb dX5_add_12 (by decide) ?_
    exact rt_i hX hM (congrArg (fun z => some (Value.int z)) (so_1 hf)) (so_2 hf) dX5_add_14
theorem c_X5_add (l : Launch) {o : Nat} {a1 : Int32} {a2 : Int32} (ho : knd o = 3) {μ μ2 : Mem} {r : Int32} (hf : f_X5_add o a1 a2 μ = some (r, μ2)) : CT E l yX5_add cX5_add 3 (some .int) (rmF 0 0) [.ref (eA E o), .int a1, .int a2] μ (some (.int r)) μ2 := CT.of (show plainFor yX5_add = true by decide +kernel) (Nat.le_of_ble_eq_true rfl) rfl (fun _ _ _ _ _ _ _ _ hX hM hl => w_X5_add l ho hf hX hM hl)
theorem mv_X5_add : MV yX5_add cX5_add 3 (some .int) RX5 2 := ⟨q_20_21, q_20_19, q_20_20, q_3_22, by decide +kernel⟩
def f_X6_landCount (o : Nat) (μ : Mem) : Option (Int32 × Mem) :=
  bnd (f_J13_bitCount_95d88 (μ.2 o 6) μ) (fun r2 μ1 => some (r2, μ1))
set_option maxHeartbeats 4000000 in
set_option maxRecDepth 100000 in
theorem w_X6_landCount (l : Launch) {o : Nat} (ho : knd o = 4) {μ μ2 : Mem} {r : Int32} {H : Heap} {locs : List Loc} {ls : Array Slot} (hf : f_X6_landCount o μ = some (r, μ2)) (hX : XX E p m meth c cX6_landCount 1 (some .int) s args RX6) (hM : MM E s μ H locs) (hl : lv_has ls 1 [(0, .ref (eA E o))]) : W p l e (rmF 1 21) s m args below meth c H locs 0 0 (MQ below (QC E (some (.int r)) μ2) args s 0 0 (AA E)) (F0 m 0 ls []) := by
  obtain ⟨⟨hx, hb, hml, hown, hts⟩, hXr⟩ := id hX
  unfold f_X6_landCount at hf
  refine lv_aload_n hx hb dX6_landCount_0 rfl (lv_at hl 0 rfl) ?_
  refine gf_4_6 hX hM ho q_3_4 dX6_landCount_1 ?_
  replace hf := bnd_some hf
  obtain ⟨r2, μ1, h4, hf⟩ := hf
  refine cl_S (As := [.long (μ.2 o 6)]) (rest := []) (st2 := [.int r2]) (n := 1) hX hM (c_J13_bitCount_95d88 l  h4) mt_J13_bitCount_95d88 q_29_22 ⟨rfl, rfl⟩ ⟨Nat.le_of_ble_eq_true rfl, Nat.le_of_ble_eq_true rfl⟩ rfl hl.1 rfl (Nat.le_of_ble_eq_true rfl) dX6_landCount_4 rfl (fun H locs hM => ?_)
  exact rt_i hX hM (congrArg (fun z => some (Value.int z)) (so_1 hf)) (so_2 hf) dX6_landCount_7
theorem c_X6_landCount (l : Launch) {o : Nat} (ho : knd o = 4) {μ μ2 : Mem} {r : Int32} (hf : f_X6_landCount o μ = some (r, μ2)) : CT E l yX6_landCount cX6_landCount 1 (some .int) (rmF 1 21) [.ref (eA E o)] μ (some (.int r)) μ2 := CT.of (show plainFor yX6_landCount = true by decide +kernel) (Nat.le_of_ble_eq_true rfl) rfl (fun _ _ _ _ _ _ _ _ hX hM hl => w_X6_landCount l ho hf hX hM hl)
theorem mv_X6_landCount : MV yX6_landCount cX6_landCount 1 (some .int) RX6 0 := ⟨q_29_21, q_29_19, q_29_20, q_1_15, by decide +kernel⟩
def f_X5_size (o : Nat) (μ : Mem) : Option (Int32 × Mem) :=
  some ((μ.1 o 2), μ)
set_option maxHeartbeats 4000000 in
set_option maxRecDepth 100000 in
theorem w_X5_size (l : Launch) {o : Nat} (ho : knd o = 3) {μ μ2 : Mem} {r : Int32} {H : Heap} {locs : List Loc} {ls : Array Slot} (hf : f_X5_size o μ = some (r, μ2)) (hX : XX E p m meth c cX5_size 1 (some .int) s args RX5) (hM : MM E s μ H locs) (hl : lv_has ls 1 [(0, .ref (eA E o))]) : W p l e (rmF 0 0) s m args below meth c H locs 0 0 (MQ below (QC E (some (.int r)) μ2) args s 0 0 (AA E)) (F0 m 0 ls []) := by
  obtain ⟨⟨hx, hb, hml, hown, hts⟩, hXr⟩ := id hX
  unfold f_X5_size at hf
  refine lv_aload_n hx hb dX5_size_0 rfl (lv_at hl 0 rfl) ?_
  refine gf_3_2 hX hM ho q_4_7 dX5_size_1 ?_
  exact rt_i hX hM (congrArg (fun z => some (Value.int z)) (so_1 hf)) (so_2 hf) dX5_size_4
theorem c_X5_size (l : Launch) {o : Nat} (ho : knd o = 3) {μ μ2 : Mem} {r : Int32} (hf : f_X5_size o μ = some (r, μ2)) : CT E l yX5_size cX5_size 1 (some .int) (rmF 0 0) [.ref (eA E o)] μ (some (.int r)) μ2 := CT.of (show plainFor yX5_size = true by decide +kernel) (Nat.le_of_ble_eq_true rfl) rfl (fun _ _ _ _ _ _ _ _ hX hM hl => w_X5_size l ho hf hX hM hl)
theorem mv_X5_size : MV yX5_size cX5_size 1 (some .int) RX5 0 := ⟨q_35_15, q_35_13, q_35_14, q_3_22, by decide +kernel⟩
def f_X5_first (o : Nat) (a1 : Int32) (μ : Mem) : Option (Int32 × Mem) :=
  bnd (f_X10_below a1 (μ.1 o 2) μ) (fun r2 μ1 => (if r2 = 0 then some ((-1 : Int32), μ1) else gA a1 (aln (rf o 0)) (some ((μ1.1 (rf o 0) a1.toNatClampNeg), μ1))))
set_option maxHeartbeats 4000000 in
set_option maxRecDepth 100000 in
theorem w_X5_first (l : Launch) {o : Nat} {a1 : Int32} (ho : knd o = 3) {μ μ2 : Mem} {r : Int32} {H : Heap} {locs : List Loc} {ls : Array Slot} (hf : f_X5_first o a1 μ = some (r, μ2)) (hX : XX E p m meth c cX5_first 2 (some .int) s args RX5) (hM : MM E s μ H locs) (hl : lv_has ls 2 [(0, .ref (eA E o)), (1, .int a1)]) : W p l e (rmF 1 21) s m args below meth c H locs 0 0 (MQ below (QC E (some (.int r)) μ2) args s 0 0 (AA E)) (F0 m 0 ls []) := by
  obtain ⟨⟨hx, hb, hml, hown, hts⟩, hXr⟩ := id hX
  unfold f_X5_first at hf
  refine lv_iload_n hx hb dX5_first_0 rfl (lv_at hl 1 rfl) ?_
  refine lv_aload_n hx hb dX5_first_1 rfl (lv_at hl 0 rfl) ?_
  refine gf_3_2 hX hM ho q_4_7 dX5_first_2 ?_
  replace hf := bnd_some hf
  obtain ⟨r2, μ1, h5, hf⟩ := hf
  refine cl_N (As := [.int a1, .int (μ.1 o 2)]) (rest := []) (st2 := [.int r2]) (n := 2) hX hM (c_X10_below l  h5) mt_X10_below (hXr.2.2.1.2.1.2.2.1) ⟨rfl, rfl⟩ ⟨Nat.le_of_ble_eq_true rfl, Nat.le_of_ble_eq_true rfl⟩ rfl hl.1 rfl (Nat.le_of_ble_eq_true rfl) dX5_first_5 rfl (fun H locs hM => ?_)
  refine lv_if_eq (tgt := 20) hx hb dX5_first_8 (by decide) (fun hc8 => ?_) (fun hc8 => ?_)
  · replace hf := it_t hf hc8
    refine lv_iconst (v := (-1)) hx hb dX5_first_20 (by decide) ?_
    exact rt_i hX hM (congrArg (fun z => some (Value.int z)) (so_1 hf)) (so_2 hf) dX5_first_21
  · replace hf := it_f hf hc8
    refine lv_aload_n hx hb dX5_first_11 rfl (lv_at hl 0 rfl) ?_
    refine gf_3_0 hX hM ho q_4_8 dX5_first_12 ?_
    refine lv_iload_n hx hb dX5_first_15 rfl (lv_at hl 1 rfl) ?_
    replace hf := gA_some hf
    obtain ⟨hi, hf⟩ := hf
    refine ald hX hM (kr_3_0 ho) hi dX5_first_16 ?_
    refine lv_goto (tgt := 21) hx hb dX5_first_17 (by decide) ?_
    exact rt_i hX hM (congrArg (fun z => some (Value.int z)) (so_1 hf)) (so_2 hf) dX5_first_21
theorem c_X5_first (l : Launch) {o : Nat} {a1 : Int32} (ho : knd o = 3) {μ μ2 : Mem} {r : Int32} (hf : f_X5_first o a1 μ = some (r, μ2)) : CT E l yX5_first cX5_first 2 (some .int) (rmF 1 21) [.ref (eA E o), .int a1] μ (some (.int r)) μ2 := CT.of (show plainFor yX5_first = true by decide +kernel) (Nat.le_of_ble_eq_true rfl) rfl (fun _ _ _ _ _ _ _ _ hX hM hl => w_X5_first l ho hf hX hM hl)
theorem mv_X5_first : MV yX5_first cX5_first 2 (some .int) RX5 1 := ⟨q_35_19, q_35_17, q_35_18, q_3_22, by decide +kernel⟩
def f_X2_sine (a0 : Int32) (μ : Mem) : Option (UInt64 × Mem) :=
  (if a0 = (1 : Int32) then some ((4604544271217802189 : UInt64), μ) else (if a0 = (2 : Int32) then some (FP.dconst1, μ) else (if a0 = (3 : Int32) then some ((4604544271217802189 : UInt64), μ) else (if a0 = (4 : Int32) then some (FP.dconst0, μ) else (if a0 = (5 : Int32) then some ((13827916308072577997 : UInt64), μ) else (if a0 = (6 : Int32) then some ((13830554455654793216 : UInt64), μ) else (if a0 = (7 : Int32) then some ((13827916308072577997 : UInt64), μ) else some (FP.dconst0, μ))))))))
set_option maxHeartbeats 4000000 in
set_option maxRecDepth 100000 in
theorem w_X2_sine (l : Launch) {a0 : Int32}  {μ μ2 : Mem} {r : UInt64} {H : Heap} {locs : List Loc} {ls : Array Slot} (hf : f_X2_sine a0 μ = some (r, μ2)) (hX : XX E p m meth c cX2_sine 1 (some .double) s args RX2) (hM : MM E s μ H locs) (hl : lv_has ls 1 [(0, .int a0)]) : W p l e (rmF 0 0) s m args below meth c H locs 0 0 (MQ below (QC E (some (.double r)) μ2) args s 0 0 (AA E)) (F0 m 0 ls []) := by
  obtain ⟨⟨hx, hb, hml, hown, hts⟩, hXr⟩ := id hX
  unfold f_X2_sine at hf
  refine lv_iload_n hx hb dX2_sine_0 rfl (lv_at hl 0 rfl) ?_
  by_cases hs1_1 : a0 = (1 : Int32)
  · replace hf := it_t hf hs1_1
    refine lv_tableIn (off := 43) (tgt := 44) hx hb dX2_sine_1 (by rw [hs1_1]; decide) (by rw [hs1_1]; decide) (by rw [hs1_1]; rfl) (by decide) ?_
    refine lv_ldc2d (v := 4604544271217802189) hx hb hown (hts _ q_35_23) dX2_sine_44 ?_
    exact rt_d hX hM (congrArg (fun z => some (Value.double z)) (so_1 hf)) (so_2 hf) dX2_sine_47
  · replace hf := it_f hf hs1_1
    by_cases hs1_2 : a0 = (2 : Int32)
    · replace hf := it_t hf hs1_2
      refine lv_tableIn (off := 47) (tgt := 48) hx hb dX2_sine_1 (by rw [hs1_2]; decide) (by rw [hs1_2]; decide) (by rw [hs1_2]; rfl) (by decide) ?_
      refine lv_dconst1 hx hb dX2_sine_48 ?_
      exact rt_d hX hM (congrArg (fun z => some (Value.double z)) (so_1 hf)) (so_2 hf) dX2_sine_49
    · replace hf := it_f hf hs1_2
      by_cases hs1_3 : a0 = (3 : Int32)
      · replace hf := it_t hf hs1_3
        refine lv_tableIn (off := 43) (tgt := 44) hx hb dX2_sine_1 (by rw [hs1_3]; decide) (by rw [hs1_3]; decide) (by rw [hs1_3]; rfl) (by decide) ?_
        refine lv_ldc2d (v := 4604544271217802189) hx hb hown (hts _ q_35_23) dX2_sine_44 ?_
        exact rt_d hX hM (congrArg (fun z => some (Value.double z)) (so_1 hf)) (so_2 hf) dX2_sine_47
      · replace hf := it_f hf hs1_3
        by_cases hs1_4 : a0 = (4 : Int32)
        · replace hf := it_t hf hs1_4
          refine lv_tableIn (off := 57) (tgt := 58) hx hb dX2_sine_1 (by rw [hs1_4]; decide) (by rw [hs1_4]; decide) (by rw [hs1_4]; rfl) (by decide) ?_
          refine lv_dconst0 hx hb dX2_sine_58 ?_
          exact rt_d hX hM (congrArg (fun z => some (Value.double z)) (so_1 hf)) (so_2 hf) dX2_sine_59
        · replace hf := it_f hf hs1_4
          by_cases hs1_5 : a0 = (5 : Int32)
          · replace hf := it_t hf hs1_5
            refine lv_tableIn (off := 49) (tgt := 50) hx hb dX2_sine_1 (by rw [hs1_5]; decide) (by rw [hs1_5]; decide) (by rw [hs1_5]; rfl) (by decide) ?_
            refine lv_ldc2d (v := 13827916308072577997) hx hb hown (hts _ q_36_0) dX2_sine_50 ?_
            exact rt_d hX hM (congrArg (fun z => some (Value.double z)) (so_1 hf)) (so_2 hf) dX2_sine_53
          · replace hf := it_f hf hs1_5
            by_cases hs1_6 : a0 = (6 : Int32)
            · replace hf := it_t hf hs1_6
              refine lv_tableIn (off := 53) (tgt := 54) hx hb dX2_sine_1 (by rw [hs1_6]; decide) (by rw [hs1_6]; decide) (by rw [hs1_6]; rfl) (by decide) ?_
              refine lv_ldc2d (v := 13830554455654793216) hx hb hown (hts _ q_36_1) dX2_sine_54 ?_
              exact rt_d hX hM (congrArg (fun z => some (Value.double z)) (so_1 hf)) (so_2 hf) dX2_sine_57
            · replace hf := it_f hf hs1_6
              by_cases hs1_7 : a0 = (7 : Int32)
              · replace hf := it_t hf hs1_7
                refine lv_tableIn (off := 49) (tgt := 50) hx hb dX2_sine_1 (by rw [hs1_7]; decide) (by rw [hs1_7]; decide) (by rw [hs1_7]; rfl) (by decide) ?_
                refine lv_ldc2d (v := 13827916308072577997) hx hb hown (hts _ q_36_0) dX2_sine_50 ?_
                exact rt_d hX hM (congrArg (fun z => some (Value.double z)) (so_1 hf)) (so_2 hf) dX2_sine_53
              · replace hf := it_f hf hs1_7
                have hq : (a0).toInt < 1 ∨ 7 < (a0).toInt := by
                  have n0 := lv_neT hs1_1 (a := 1) rfl
                  have n1 := lv_neT hs1_2 (a := 2) rfl
                  have n2 := lv_neT hs1_3 (a := 3) rfl
                  have n3 := lv_neT hs1_4 (a := 4) rfl
                  have n4 := lv_neT hs1_5 (a := 5) rfl
                  have n5 := lv_neT hs1_6 (a := 6) rfl
                  have n6 := lv_neT hs1_7 (a := 7) rfl
                  omega
                refine lv_tableOut (tgt := 58) hx hb dX2_sine_1 hq (by decide) ?_
                refine lv_dconst0 hx hb dX2_sine_58 ?_
                exact rt_d hX hM (congrArg (fun z => some (Value.double z)) (so_1 hf)) (so_2 hf) dX2_sine_59
theorem c_X2_sine (l : Launch) {a0 : Int32}  {μ μ2 : Mem} {r : UInt64} (hf : f_X2_sine a0 μ = some (r, μ2)) : CT E l yX2_sine cX2_sine 1 (some .double) (rmF 0 0) [.int a0] μ (some (.double r)) μ2 := CT.of (show plainFor yX2_sine = true by decide +kernel) (Nat.le_of_ble_eq_true rfl) rfl (fun _ _ _ _ _ _ _ _ hX hM hl => w_X2_sine l  hf hX hM hl)
theorem mt_X2_sine : MT yX2_sine cX2_sine 1 (some .double) 1 := ⟨q_35_22, q_35_21, q_13_20, by decide +kernel⟩
def f_X2_cosine (a0 : Int32) (μ : Mem) : Option (UInt64 × Mem) :=
  bnd (f_X2_sine ((a0 + (2 : Int32)) - (a0 + (2 : Int32)) / (8 : Int32) * (8 : Int32)) μ) (fun r2 μ1 => some (r2, μ1))
set_option maxHeartbeats 4000000 in
set_option maxRecDepth 100000 in
theorem w_X2_cosine (l : Launch) {a0 : Int32}  {μ μ2 : Mem} {r : UInt64} {H : Heap} {locs : List Loc} {ls : Array Slot} (hf : f_X2_cosine a0 μ = some (r, μ2)) (hX : XX E p m meth c cX2_cosine 1 (some .double) s args RX2) (hM : MM E s μ H locs) (hl : lv_has ls 1 [(0, .int a0)]) : W p l e (rmF 1 20) s m args below meth c H locs 0 0 (MQ below (QC E (some (.double r)) μ2) args s 0 0 (AA E)) (F0 m 0 ls []) := by
  obtain ⟨⟨hx, hb, hml, hown, hts⟩, hXr⟩ := id hX
  unfold f_X2_cosine at hf
  refine lv_iload_n hx hb dX2_cosine_0 rfl (lv_at hl 0 rfl) ?_
  refine lv_iconst (v := 2) hx hb dX2_cosine_1 (by decide) ?_
  refine lv_iadd hx hb dX2_cosine_2 ?_
  refine lv_bipush (v := 8) hx hb dX2_cosine_3 (by decide) ?_
  refine lv_irem hx hb dX2_cosine_5 (by decide) ?_
  replace hf := bnd_some hf
  obtain ⟨r2, μ1, h6, hf⟩ := hf
  refine cl_S (As := [.int ((a0 + (2 : Int32)) - (a0 + (2 : Int32)) / (8 : Int32) * (8 : Int32))]) (rest := []) (st2 := [.double r2]) (n := 1) hX hM (c_X2_sine l  h6) mt_X2_sine q_36_5 ⟨rfl, rfl⟩ ⟨Nat.le_of_ble_eq_true rfl, Nat.le_of_ble_eq_true rfl⟩ rfl hl.1 rfl (Nat.le_of_ble_eq_true rfl) dX2_cosine_6 rfl (fun H locs hM => ?_)
  exact rt_d hX hM (congrArg (fun z => some (Value.double z)) (so_1 hf)) (so_2 hf) dX2_cosine_9
theorem c_X2_cosine (l : Launch) {a0 : Int32}  {μ μ2 : Mem} {r : UInt64} (hf : f_X2_cosine a0 μ = some (r, μ2)) : CT E l yX2_cosine cX2_cosine 1 (some .double) (rmF 1 20) [.int a0] μ (some (.double r)) μ2 := CT.of (show plainFor yX2_cosine = true by decide +kernel) (Nat.le_of_ble_eq_true rfl) rfl (fun _ _ _ _ _ _ _ _ hX hM hl => w_X2_cosine l  hf hX hM hl)
theorem mt_X2_cosine : MT yX2_cosine cX2_cosine 1 (some .double) 1 := ⟨q_36_4, q_36_3, q_13_20, by decide +kernel⟩
def f_X0_ofMagnitude_b86 (a0 : UInt64) (a2 : Int32) (a3 : Int32)  (x4 : UInt64) (x6 : Int32) (μ : Mem) : Option (Int64 × Mem) :=
  gP (nn64 (FP.dmul x4 (FP.l2d ((1 : Int64) <<< (a2.toInt64 &&& 63))))) (lt (FP.d2l (FP.dmul x4 (FP.l2d ((1 : Int64) <<< (a2.toInt64 &&& 63))))) (fun v1 => some ((((((x6 + a3) - (1 : Int32)).toInt64) <<< (a2.toInt64 &&& 63)) + v1), μ)))
set_option maxHeartbeats 4000000 in
set_option maxRecDepth 100000 in
theorem w_X0_ofMagnitude_b86 (l : Launch) {a0 : UInt64} {a2 : Int32} {a3 : Int32}  {μ2 : Mem} {r : Int64}   {x4 : UInt64} {x6 : Int32} {μ : Mem} {H : Heap} {locs : List Loc} {ls : Array Slot}  (hf : f_X0_ofMagnitude_b86 a0 a2 a3  x4 x6 μ = some (r, μ2)) (hX : XX E p m meth c cX0_ofMagnitude 9 (some .long) s args RX0) (hM : MM E s μ H locs) (hl : lv_has ls 9 [(0, .double a0), (2, .int a2), (3, .int a3), (4, .double x4), (6, .int x6)]) : W p l e (rmF 0 0) s m args below meth c H locs 0 0 (MQ below (QC E (some (.long r)) μ2) args s 0 0 (AA E)) (F0 m 86 ls []) := by
  obtain ⟨⟨hx, hb, hml, hown, hts⟩, hXr⟩ := id hX
  unfold f_X0_ofMagnitude_b86 at hf
  refine lv_dload hx hb dX0_ofMagnitude_86 (lv_at hl 3 rfl) ?_
  refine lv_lconst (v := 1) hx hb dX0_ofMagnitude_88 (by decide) ?_
  refine lv_iload_n hx hb dX0_ofMagnitude_89 rfl (lv_at hl 1 rfl) ?_
  refine lv_lshl hx hb dX0_ofMagnitude_90 rfl ?_
  refine lv_l2d hx hb dX0_ofMagnitude_91 ?_
  replace hf := gP_some hf
  obtain ⟨hz, hf⟩ := hf
  refine lv_dmul hx hb dX0_ofMagnitude_92 (nn64_e hz) ?_
  refine lv_d2l hx hb dX0_ofMagnitude_93 ?_
  refine lv_topl (fun v1 ev1 => ?_)
  replace hf := lt_e ev1 hf
  refine lv_lstore (lv' := [(7, .long v1), (0, .double a0), (2, .int a2), (3, .int a3), (4, .double x4), (6, .int x6)]) hx hb dX0_ofMagnitude_94 hl (by decide) rfl (fun ls hl => ?_)
  refine lv_iload hx hb dX0_ofMagnitude_96 (lv_at hl 5 rfl) ?_
  refine lv_iload_n hx hb dX0_ofMagnitude_98 rfl (lv_at hl 3 rfl) ?_
  refine lv_iadd hx hb dX0_ofMagnitude_99 ?_
  refine lv_iconst (v := 1) hx hb dX0_ofMagnitude_100 (by decide) ?_
  refine lv_isub hx hb dX0_ofMagnitude_101 ?_
  refine lv_i2l hx hb dX0_ofMagnitude_102 rfl ?_
  refine lv_iload_n hx hb dX0_ofMagnitude_103 rfl (lv_at hl 2 rfl) ?_
  refine lv_lshl hx hb dX0_ofMagnitude_104 rfl ?_
  refine lv_lload hx hb dX0_ofMagnitude_105 (lv_at hl 0 rfl) ?_
  refine lv_ladd hx hb dX0_ofMagnitude_107 ?_
  exact rt_l hX hM (congrArg (fun z => some (Value.long z)) (so_1 hf)) (so_2 hf) dX0_ofMagnitude_108
def f_X0_ofMagnitude_b46 (a0 : UInt64) (a2 : Int32) (a3 : Int32)  : Nat → UInt64 → Int32 → Int32 → Mem → Option (Int64 × Mem)
  | 0, _, _, _, _ => none
  | n + 1, x4, x6, x7, μ =>
    (if (1100 : Int32) ≤ x7 then f_X0_ofMagnitude_b86 a0 a2 a3  x4 x6 μ else (if (0 : Int32) ≤ (Op.cmpValue (FP.dcmp x4 FP.dconst1) CmpOp.g) then f_X0_ofMagnitude_b86 a0 a2 a3  x4 x6 μ else (if x6 ≤ ((1 : Int32) - a3) then f_X0_ofMagnitude_b86 a0 a2 a3  x4 x6 μ else gP (nn64 (FP.dmul x4 (4611686018427387904 : UInt64))) (lt (FP.dmul x4 (4611686018427387904 : UInt64)) (fun v2 => lt (x6 + (-1 : Int32)) (fun v3 => lt (x7 + (1 : Int32)) (fun v4 => (f_X0_ofMagnitude_b46 a0 a2 a3  n) v2 v3 v4 μ)))))))
set_option maxHeartbeats 4000000 in
set_option maxRecDepth 100000 in
theorem w_X0_ofMagnitude_b46 (l : Launch) {a0 : UInt64} {a2 : Int32} {a3 : Int32}  {μ2 : Mem} {r : Int64}  (hX : XX E p m meth c cX0_ofMagnitude 9 (some .long) s args RX0)  : ∀ (n : Nat) (x4 : UInt64) (x6 : Int32) (x7 : Int32) (μ : Mem), f_X0_ofMagnitude_b46 a0 a2 a3  n x4 x6 x7 μ = some (r, μ2) → ∀ (H : Heap) (locs : List Loc), MM E s μ H locs → ∀ ls : Array Slot, lv_has ls 9 [(0, .double a0), (2, .int a2), (3, .int a3), (4, .double x4), (6, .int x6), (7, .int x7)] → W p l e (rmF 0 0) s m args below meth c H locs 0 0 (MQ below (QC E (some (.long r)) μ2) args s 0 0 (AA E)) (F0 m 46 ls []) := by
  obtain ⟨⟨hx, hb, hml, hown, hts⟩, hXr⟩ := id hX
  intro n
  induction n with
  | zero => intro x4 x6 x7 μ  hf; exact no_none hf
  | succ n ih =>
    intro x4 x6 x7 μ  hf H locs hM ls hl
    rw [f_X0_ofMagnitude_b46] at hf
    have hK46 := ih
    clear ih
    refine lv_iload hx hb dX0_ofMagnitude_46 (lv_at hl 5 rfl) ?_
    refine lv_sipush (v := 1100) hx hb dX0_ofMagnitude_48 (by decide) ?_
    refine lv_icmp_ge (tgt := 86) hx hb dX0_ofMagnitude_51 (by decide) (fun hc51 => ?_) (fun hc51 => ?_)
    · replace hf := it_t hf hc51
      exact w_X0_ofMagnitude_b86 l    hf hX hM (lv_sub hl [0, 1, 2, 3, 4] rfl)
    · replace hf := it_f hf hc51
      refine lv_dload hx hb dX0_ofMagnitude_54 (lv_at hl 3 rfl) ?_
      refine lv_dconst1 hx hb dX0_ofMagnitude_56 ?_
      refine lv_dcmp hx hb dX0_ofMagnitude_57 ?_
      refine lv_if_ge (tgt := 86) hx hb dX0_ofMagnitude_58 (by decide) (fun hc58 => ?_) (fun hc58 => ?_)
      · replace hf := it_t hf hc58
        exact w_X0_ofMagnitude_b86 l    hf hX hM (lv_sub hl [0, 1, 2, 3, 4] rfl)
      · replace hf := it_f hf hc58
        refine lv_iload hx hb dX0_ofMagnitude_61 (lv_at hl 4 rfl) ?_
        refine lv_iconst (v := 1) hx hb dX0_ofMagnitude_63 (by decide) ?_
        refine lv_iload_n hx hb dX0_ofMagnitude_64 rfl (lv_at hl 2 rfl) ?_
        refine lv_isub hx hb dX0_ofMagnitude_65 ?_
        refine lv_icmp_le (tgt := 86) hx hb dX0_ofMagnitude_66 (by decide) (fun hc66 => ?_) (fun hc66 => ?_)
        · replace hf := it_t hf hc66
          exact w_X0_ofMagnitude_b86 l    hf hX hM (lv_sub hl [0, 1, 2, 3, 4] rfl)
        · replace hf := it_f hf hc66
          refine lv_dload hx hb dX0_ofMagnitude_69 (lv_at hl 3 rfl) ?_
          refine lv_ldc2d (v := 4611686018427387904) hx hb hown (hts _ q_36_14) dX0_ofMagnitude_71 ?_
          replace hf := gP_some hf
          obtain ⟨hz, hf⟩ := hf
          refine lv_dmul hx hb dX0_ofMagnitude_74 (nn64_e hz) ?_
          refine lv_topd (fun v2 ev2 => ?_)
          replace hf := lt_e ev2 hf
          refine lv_dstore (lv' := [(4, .double v2), (0, .double a0), (2, .int a2), (3, .int a3), (6, .int x6), (7, .int x7)]) hx hb dX0_ofMagnitude_75 hl (by decide) rfl (fun ls hl => ?_)
          obtain ⟨v3, ev3⟩ : ∃ y : Int32, y = x6 + (-1 : Int32) := ⟨_, rfl⟩
          replace hf := lt_e ev3 hf
          refine lv_iinc (v := v3) (lv' := [(6, .int v3), (4, .double v2), (0, .double a0), (2, .int a2), (3, .int a3), (7, .int x7)]) hx hb dX0_ofMagnitude_77 hl (k := 4) rfl (by rw [ev3]; rfl) (by decide) rfl (fun ls hl => ?_)
          obtain ⟨v4, ev4⟩ : ∃ y : Int32, y = x7 + (1 : Int32) := ⟨_, rfl⟩
          replace hf := lt_e ev4 hf
          refine lv_iinc (v := v4) (lv' := [(7, .int v4), (6, .int v3), (4, .double v2), (0, .double a0), (2, .int a2), (3, .int a3)]) hx hb dX0_ofMagnitude_80 hl (k := 5) rfl (by rw [ev4]; rfl) (by decide) rfl (fun ls hl => ?_)
          refine lv_goto (tgt := 46) hx hb dX0_ofMagnitude_83 (by decide) ?_
          exact hK46 _ _ _ _  hf _ _ hM _ (lv_sub hl [3, 4, 5, 2, 1, 0] rfl)
def f_X0_ofMagnitude_b9 (a0 : UInt64) (a2 : Int32) (a3 : Int32)  : Nat → UInt64 → Int32 → Int32 → Mem → Option (Int64 × Mem)
  | 0, _, _, _, _ => none
  | n + 1, x4, x6, x7, μ =>
    (if (1100 : Int32) ≤ x7 then f_X0_ofMagnitude_b46 a0 a2 a3  FU x4 x6 (0 : Int32) μ else (if (Op.cmpValue (FP.dcmp x4 (4611686018427387904 : UInt64)) CmpOp.l) < 0 then f_X0_ofMagnitude_b46 a0 a2 a3  FU x4 x6 (0 : Int32) μ else gP (nn64 (FP.ddiv x4 (4611686018427387904 : UInt64))) (lt (FP.ddiv x4 (4611686018427387904 : UInt64)) (fun v5 => lt (x6 + (1 : Int32)) (fun v6 => lt (x7 + (1 : Int32)) (fun v7 => (f_X0_ofMagnitude_b9 a0 a2 a3  n) v5 v6 v7 μ))))))
set_option maxHeartbeats 4000000 in
set_option maxRecDepth 100000 in
theorem w_X0_ofMagnitude_b9 (l : Launch) {a0 : UInt64} {a2 : Int32} {a3 : Int32}  {μ2 : Mem} {r : Int64}  (hX : XX E p m meth c cX0_ofMagnitude 9 (some .long) s args RX0)  : ∀ (n : Nat) (x4 : UInt64) (x6 : Int32) (x7 : Int32) (μ : Mem), f_X0_ofMagnitude_b9 a0 a2 a3  n x4 x6 x7 μ = some (r, μ2) → ∀ (H : Heap) (locs : List Loc), MM E s μ H locs → ∀ ls : Array Slot, lv_has ls 9 [(0, .double a0), (2, .int a2), (3, .int a3), (4, .double x4), (6, .int x6), (7, .int x7)] → W p l e (rmF 0 0) s m args below meth c H locs 0 0 (MQ below (QC E (some (.long r)) μ2) args s 0 0 (AA E)) (F0 m 9 ls []) := by
  obtain ⟨⟨hx, hb, hml, hown, hts⟩, hXr⟩ := id hX
  intro n
  induction n with
  | zero => intro x4 x6 x7 μ  hf; exact no_none hf
  | succ n ih =>
    intro x4 x6 x7 μ  hf H locs hM ls hl
    rw [f_X0_ofMagnitude_b9] at hf
    have hK9 := ih
    clear ih
    refine lv_iload hx hb dX0_ofMagnitude_9 (lv_at hl 5 rfl) ?_
    refine lv_sipush (v := 1100) hx hb dX0_ofMagnitude_11 (by decide) ?_
    refine lv_icmp_ge (tgt := 43) hx hb dX0_ofMagnitude_14 (by decide) (fun hc14 => ?_) (fun hc14 => ?_)
    · replace hf := it_t hf hc14
      refine lv_iconst (v := 0) hx hb dX0_ofMagnitude_43 (by decide) ?_
      refine lv_istore (lv' := [(7, .int (0 : Int32)), (0, .double a0), (2, .int a2), (3, .int a3), (4, .double x4), (6, .int x6)]) hx hb dX0_ofMagnitude_44 hl (by decide) rfl (fun ls hl => ?_)
      exact w_X0_ofMagnitude_b46 l  hX  FU _ _ _ _  hf _ _ hM _ (lv_sub hl [1, 2, 3, 4, 5, 0] rfl)
    · replace hf := it_f hf hc14
      refine lv_dload hx hb dX0_ofMagnitude_17 (lv_at hl 3 rfl) ?_
      refine lv_ldc2d (v := 4611686018427387904) hx hb hown (hts _ q_36_14) dX0_ofMagnitude_19 ?_
      refine lv_dcmp hx hb dX0_ofMagnitude_22 ?_
      refine lv_if_lt (tgt := 43) hx hb dX0_ofMagnitude_23 (by decide) (fun hc23 => ?_) (fun hc23 => ?_)
      · replace hf := it_t hf hc23
        refine lv_iconst (v := 0) hx hb dX0_ofMagnitude_43 (by decide) ?_
        refine lv_istore (lv' := [(7, .int (0 : Int32)), (0, .double a0), (2, .int a2), (3, .int a3), (4, .double x4), (6, .int x6)]) hx hb dX0_ofMagnitude_44 hl (by decide) rfl (fun ls hl => ?_)
        exact w_X0_ofMagnitude_b46 l  hX  FU _ _ _ _  hf _ _ hM _ (lv_sub hl [1, 2, 3, 4, 5, 0] rfl)
      · replace hf := it_f hf hc23
        refine lv_dload hx hb dX0_ofMagnitude_26 (lv_at hl 3 rfl) ?_
        refine lv_ldc2d (v := 4611686018427387904) hx hb hown (hts _ q_36_14) dX0_ofMagnitude_28 ?_
        replace hf := gP_some hf
        obtain ⟨hz, hf⟩ := hf
        refine lv_ddiv hx hb dX0_ofMagnitude_31 (nn64_e hz) ?_
        refine lv_topd (fun v5 ev5 => ?_)
        replace hf := lt_e ev5 hf
        refine lv_dstore (lv' := [(4, .double v5), (0, .double a0), (2, .int a2), (3, .int a3), (6, .int x6), (7, .int x7)]) hx hb dX0_ofMagnitude_32 hl (by decide) rfl (fun ls hl => ?_)
        obtain ⟨v6, ev6⟩ : ∃ y : Int32, y = x6 + (1 : Int32) := ⟨_, rfl⟩
        replace hf := lt_e ev6 hf
        refine lv_iinc (v := v6) (lv' := [(6, .int v6), (4, .double v5), (0, .double a0), (2, .int a2), (3, .int a3), (7, .int x7)]) hx hb dX0_ofMagnitude_34 hl (k := 4) rfl (by rw [ev6]; rfl) (by decide) rfl (fun ls hl => ?_)
        obtain ⟨v7, ev7⟩ : ∃ y : Int32, y = x7 + (1 : Int32) := ⟨_, rfl⟩
        replace hf := lt_e ev7 hf
        refine lv_iinc (v := v7) (lv' := [(7, .int v7), (6, .int v6), (4, .double v5), (0, .double a0), (2, .int a2), (3, .int a3)]) hx hb dX0_ofMagnitude_37 hl (k := 5) rfl (by rw [ev7]; rfl) (by decide) rfl (fun ls hl => ?_)
        refine lv_goto (tgt := 9) hx hb dX0_ofMagnitude_40 (by decide) ?_
        exact hK9 _ _ _ _  hf _ _ hM _ (lv_sub hl [3, 4, 5, 2, 1, 0] rfl)
def f_X0_ofMagnitude (a0 : UInt64) (a2 : Int32) (a3 : Int32) (μ : Mem) : Option (Int64 × Mem) :=
  f_X0_ofMagnitude_b9 a0 a2 a3  FU a0 (0 : Int32) (0 : Int32) μ
set_option maxHeartbeats 4000000 in
set_option maxRecDepth 100000 in
theorem w_X0_ofMagnitude (l : Launch) {a0 : UInt64} {a2 : Int32} {a3 : Int32}  {μ μ2 : Mem} {r : Int64} {H : Heap} {locs : List Loc} {ls : Array Slot} (hf : f_X0_ofMagnitude a0 a2 a3 μ = some (r, μ2)) (hX : XX E p m meth c cX0_ofMagnitude 9 (some .long) s args RX0) (hM : MM E s μ H locs) (hl : lv_has ls 9 [(0, .double a0), (2, .int a2), (3, .int a3)]) : W p l e (rmF 0 0) s m args below meth c H locs 0 0 (MQ below (QC E (some (.long r)) μ2) args s 0 0 (AA E)) (F0 m 0 ls []) := by
  obtain ⟨⟨hx, hb, hml, hown, hts⟩, hXr⟩ := id hX
  unfold f_X0_ofMagnitude at hf
  refine lv_dload_n hx hb dX0_ofMagnitude_0 rfl (lv_at hl 0 rfl) ?_
  refine lv_dstore (lv' := [(4, .double a0), (0, .double a0), (2, .int a2), (3, .int a3)]) hx hb dX0_ofMagnitude_1 hl (by decide) rfl (fun ls hl => ?_)
  refine lv_iconst (v := 0) hx hb dX0_ofMagnitude_3 (by decide) ?_
  refine lv_istore (lv' := [(6, .int (0 : Int32)), (4, .double a0), (0, .double a0), (2, .int a2), (3, .int a3)]) hx hb dX0_ofMagnitude_4 hl (by decide) rfl (fun ls hl => ?_)
  refine lv_iconst (v := 0) hx hb dX0_ofMagnitude_6 (by decide) ?_
  refine lv_istore (lv' := [(7, .int (0 : Int32)), (6, .int (0 : Int32)), (4, .double a0), (0, .double a0), (2, .int a2), (3, .int a3)]) hx hb dX0_ofMagnitude_7 hl (by decide) rfl (fun ls hl => ?_)
  exact w_X0_ofMagnitude_b9 l  hX  FU _ _ _ _  hf _ _ hM _ (lv_sub hl [3, 4, 5, 2, 1, 0] rfl)
theorem c_X0_ofMagnitude (l : Launch) {a0 : UInt64} {a2 : Int32} {a3 : Int32}  {μ μ2 : Mem} {r : Int64} (hf : f_X0_ofMagnitude a0 a2 a3 μ = some (r, μ2)) : CT E l yX0_ofMagnitude cX0_ofMagnitude 9 (some .long) (rmF 0 0) [.double a0, .int a2, .int a3] μ (some (.long r)) μ2 := CT.of (show plainFor yX0_ofMagnitude = true by decide +kernel) (Nat.le_of_ble_eq_true rfl) rfl (fun _ _ _ _ _ _ _ _ hX hM hl => w_X0_ofMagnitude l  hf hX hM hl)
theorem mt_X0_ofMagnitude : MT yX0_ofMagnitude cX0_ofMagnitude 9 (some .long) 3 := ⟨q_36_13, q_36_12, q_36_8, by decide +kernel⟩
def f_X0_ofDouble (a0 : UInt64) (μ : Mem) : Option (Int64 × Mem) :=
  (if (0 : Int32) ≤ (Op.cmpValue (FP.dcmp a0 FP.dconst0) CmpOp.g) then bnd (f_X0_ofMagnitude a0 (52 : Int32) (1023 : Int32) μ) (fun r2 μ1 => some (r2, μ1)) else bnd (f_X0_ofMagnitude (FP.dneg a0) (52 : Int32) (1023 : Int32) μ) (fun r4 μ3 => some ((r4 ||| (-9223372036854775808 : Int64)), μ3)))
set_option maxHeartbeats 4000000 in
set_option maxRecDepth 100000 in
theorem w_X0_ofDouble (l : Launch) {a0 : UInt64}  {μ μ2 : Mem} {r : Int64} {H : Heap} {locs : List Loc} {ls : Array Slot} (hf : f_X0_ofDouble a0 μ = some (r, μ2)) (hX : XX E p m meth c cX0_ofDouble 2 (some .long) s args RX0) (hM : MM E s μ H locs) (hl : lv_has ls 2 [(0, .double a0)]) : W p l e (rmF 1 28) s m args below meth c H locs 0 0 (MQ below (QC E (some (.long r)) μ2) args s 0 0 (AA E)) (F0 m 0 ls []) := by
  obtain ⟨⟨hx, hb, hml, hown, hts⟩, hXr⟩ := id hX
  unfold f_X0_ofDouble at hf
  refine lv_dload_n hx hb dX0_ofDouble_0 rfl (lv_at hl 0 rfl) ?_
  refine lv_dconst0 hx hb dX0_ofDouble_1 ?_
  refine lv_dcmp hx hb dX0_ofDouble_2 ?_
  refine lv_if_ge (tgt := 21) hx hb dX0_ofDouble_3 (by decide) (fun hc3 => ?_) (fun hc3 => ?_)
  · replace hf := it_t hf hc3
    refine lv_dload_n hx hb dX0_ofDouble_21 rfl (lv_at hl 0 rfl) ?_
    refine lv_bipush (v := 52) hx hb dX0_ofDouble_22 (by decide) ?_
    refine lv_sipush (v := 1023) hx hb dX0_ofDouble_24 (by decide) ?_
    replace hf := bnd_some hf
    obtain ⟨r2, μ1, h27, hf⟩ := hf
    refine cl_S (As := [.double a0, .int (52 : Int32), .int (1023 : Int32)]) (rest := []) (st2 := [.long r2]) (n := 3) hX hM (c_X0_ofMagnitude l  h27) mt_X0_ofMagnitude q_36_11 ⟨rfl, rfl⟩ ⟨Nat.le_of_ble_eq_true rfl, Nat.le_of_ble_eq_true rfl⟩ rfl hl.1 rfl (Nat.le_of_ble_eq_true rfl) dX0_ofDouble_27 rfl (fun H locs hM => ?_)
    exact rt_l hX hM (congrArg (fun z => some (Value.long z)) (so_1 hf)) (so_2 hf) dX0_ofDouble_30
  · replace hf := it_f hf hc3
    refine lv_dload_n hx hb dX0_ofDouble_6 rfl (lv_at hl 0 rfl) ?_
    refine lv_dneg hx hb dX0_ofDouble_7 ?_
    refine lv_bipush (v := 52) hx hb dX0_ofDouble_8 (by decide) ?_
    refine lv_sipush (v := 1023) hx hb dX0_ofDouble_10 (by decide) ?_
    replace hf := bnd_some hf
    obtain ⟨r4, μ3, h13, hf⟩ := hf
    refine cl_S (As := [.double (FP.dneg a0), .int (52 : Int32), .int (1023 : Int32)]) (rest := []) (st2 := [.long r4]) (n := 3) hX hM (c_X0_ofMagnitude l  h13) mt_X0_ofMagnitude q_36_11 ⟨rfl, rfl⟩ ⟨Nat.le_of_ble_eq_true rfl, Nat.le_of_ble_eq_true rfl⟩ rfl hl.1 rfl (Nat.le_of_ble_eq_true rfl) dX0_ofDouble_13 rfl (fun H locs hM => ?_)
    refine lv_ldc2 (v := -9223372036854775808) hx hb hown (hts _ q_36_10) dX0_ofDouble_16 ?_
    refine lv_lor hx hb dX0_ofDouble_19 ?_
    exact rt_l hX hM (congrArg (fun z => some (Value.long z)) (so_1 hf)) (so_2 hf) dX0_ofDouble_20
theorem c_X0_ofDouble (l : Launch) {a0 : UInt64}  {μ μ2 : Mem} {r : Int64} (hf : f_X0_ofDouble a0 μ = some (r, μ2)) : CT E l yX0_ofDouble cX0_ofDouble 2 (some .long) (rmF 1 28) [.double a0] μ (some (.long r)) μ2 := CT.of (show plainFor yX0_ofDouble = true by decide +kernel) (Nat.le_of_ble_eq_true rfl) rfl (fun _ _ _ _ _ _ _ _ hX hM hl => w_X0_ofDouble l  hf hX hM hl)
theorem mt_X0_ofDouble : MT yX0_ofDouble cX0_ofDouble 2 (some .long) 1 := ⟨q_36_9, q_36_7, q_36_8, by decide +kernel⟩
def f_X0_ofFloat (a0 : UInt32) (μ : Mem) : Option (Int64 × Mem) :=
  gP (nn64 (FP.f2d a0)) (bnd (f_X0_ofMagnitude (FP.f2d a0) (23 : Int32) (127 : Int32) μ) (fun r2 μ1 => some (r2, μ1)))
set_option maxHeartbeats 4000000 in
set_option maxRecDepth 100000 in
theorem w_X0_ofFloat (l : Launch) {a0 : UInt32}  {μ μ2 : Mem} {r : Int64} {H : Heap} {locs : List Loc} {ls : Array Slot} (hf : f_X0_ofFloat a0 μ = some (r, μ2)) (hX : XX E p m meth c cX0_ofFloat 1 (some .long) s args RX0) (hM : MM E s μ H locs) (hl : lv_has ls 1 [(0, .float a0)]) : W p l e (rmF 1 28) s m args below meth c H locs 0 0 (MQ below (QC E (some (.long r)) μ2) args s 0 0 (AA E)) (F0 m 0 ls []) := by
  obtain ⟨⟨hx, hb, hml, hown, hts⟩, hXr⟩ := id hX
  unfold f_X0_ofFloat at hf
  refine lv_fload_n hx hb dX0_ofFloat_0 rfl (lv_at hl 0 rfl) ?_
  replace hf := gP_some hf
  obtain ⟨hz, hf⟩ := hf
  refine lv_f2d hx hb dX0_ofFloat_1 (nn64_e hz) ?_
  refine lv_bipush (v := 23) hx hb dX0_ofFloat_2 (by decide) ?_
  refine lv_bipush (v := 127) hx hb dX0_ofFloat_4 (by decide) ?_
  replace hf := bnd_some hf
  obtain ⟨r2, μ1, h6, hf⟩ := hf
  refine cl_S (As := [.double (FP.f2d a0), .int (23 : Int32), .int (127 : Int32)]) (rest := []) (st2 := [.long r2]) (n := 3) hX hM (c_X0_ofMagnitude l  h6) mt_X0_ofMagnitude q_36_11 ⟨rfl, rfl⟩ ⟨Nat.le_of_ble_eq_true rfl, Nat.le_of_ble_eq_true rfl⟩ rfl hl.1 rfl (Nat.le_of_ble_eq_true rfl) dX0_ofFloat_6 rfl (fun H locs hM => ?_)
  exact rt_l hX hM (congrArg (fun z => some (Value.long z)) (so_1 hf)) (so_2 hf) dX0_ofFloat_9
theorem c_X0_ofFloat (l : Launch) {a0 : UInt32}  {μ μ2 : Mem} {r : Int64} (hf : f_X0_ofFloat a0 μ = some (r, μ2)) : CT E l yX0_ofFloat cX0_ofFloat 1 (some .long) (rmF 1 28) [.float a0] μ (some (.long r)) μ2 := CT.of (show plainFor yX0_ofFloat = true by decide +kernel) (Nat.le_of_ble_eq_true rfl) rfl (fun _ _ _ _ _ _ _ _ hX hM hl => w_X0_ofFloat l  hf hX hM hl)
theorem mt_X0_ofFloat : MT yX0_ofFloat cX0_ofFloat 1 (some .long) 1 := ⟨q_38_9, q_38_8, q_36_8, by decide +kernel⟩
def f_X6_becomeLike (o : Nat) (a1 : Nat) (μ : Mem) : Option (Mem) :=
  gP (cp_ok (0 : Int32) (0 : Int32) (nI (aln (rf o 0))) (aln (rf a1 0)) (aln (rf o 0))) (lt (cpI μ (rf a1 0) (rf o 0) (0 : Int32) (0 : Int32) (nI (aln (rf o 0)))) (fun μ1 => gP (cp_ok (0 : Int32) (0 : Int32) (nI (aln (rf o 1))) (aln (rf a1 1)) (aln (rf o 1))) (lt (cpI μ1 (rf a1 1) (rf o 1) (0 : Int32) (0 : Int32) (nI (aln (rf o 1)))) (fun μ2 => gP (cp_ok (0 : Int32) (0 : Int32) (nI (aln (rf o 2))) (aln (rf a1 2)) (aln (rf o 2))) (lt (cpI μ2 (rf a1 2) (rf o 2) (0 : Int32) (0 : Int32) (nI (aln (rf o 2)))) (fun μ3 => gP (cp_ok (0 : Int32) (0 : Int32) (nI (aln (rf o 3))) (aln (rf a1 3)) (aln (rf o 3))) (lt (cpI μ3 (rf a1 3) (rf o 3) (0 : Int32) (0 : Int32) (nI (aln (rf o 3)))) (fun μ4 => gP (cp_ok (0 : Int32) (0 : Int32) (nI (aln (rf o 4))) (aln (rf a1 4)) (aln (rf o 4))) (lt (cpI μ4 (rf a1 4) (rf o 4) (0 : Int32) (0 : Int32) (nI (aln (rf o 4)))) (fun μ5 => gP (cp_ok (0 : Int32) (0 : Int32) (nI (aln (rf o 5))) (aln (rf a1 5)) (aln (rf o 5))) (lt (cpI μ5 (rf a1 5) (rf o 5) (0 : Int32) (0 : Int32) (nI (aln (rf o 5)))) (fun μ6 => lt (sL μ6 o 6 (μ6.2 a1 6)) (fun μ7 => lt (sI μ7 o 7 (μ7.1 a1 7)) (fun μ8 => lt (sI μ8 o 8 (μ8.1 a1 8)) (fun μ9 => lt (sI μ9 o 9 (μ9.1 a1 9)) (fun μ10 => lt (sI μ10 o 10 ((μ10.1 o 10) + (1 : Int32))) (fun μ11 => some μ11)))))))))))))))))
set_option maxHeartbeats 4000000 in
set_option maxRecDepth 100000 in
theorem w_X6_becomeLike (l : Launch) {o : Nat} {a1 : Nat} (ho : knd o = 4) (ha1 : knd a1 = 4) {μ μ2 : Mem} {H : Heap} {locs : List Loc} {ls : Array Slot} (hf : f_X6_becomeLike o a1 μ = some μ2) (hX : XX E p m meth c cX6_becomeLike 2 none s args RX6) (hM : MM E s μ H locs) (hl : lv_has ls 2 [(0, .ref (eA E o)), (1, .ref (eA E a1))]) : W p l e (rmF 1 40) s m args below meth c H locs 0 0 (MQ below (QC E (none) μ2) args s 0 0 (AA E)) (F0 m 0 ls []) := by
  obtain ⟨⟨hx, hb, hml, hown, hts⟩, hXr⟩ := id hX
  unfold f_X6_becomeLike at hf
  refine lv_aload_n hx hb dX6_becomeLike_0 rfl (lv_at hl 1 rfl) ?_
  refine gf_4_0 hX hM ha1 q_2_21 dX6_becomeLike_1 ?_
  refine lv_iconst (v := 0) hx hb dX6_becomeLike_4 (by decide) ?_
  refine lv_aload_n hx hb dX6_becomeLike_5 rfl (lv_at hl 0 rfl) ?_
  refine gf_4_0 hX hM ho q_2_21 dX6_becomeLike_6 ?_
  refine lv_iconst (v := 0) hx hb dX6_becomeLike_9 (by decide) ?_
  refine lv_aload_n hx hb dX6_becomeLike_10 rfl (lv_at hl 0 rfl) ?_
  refine gf_4_0 hX hM ho q_2_21 dX6_becomeLike_11 ?_
  refine aleI hX hM (kr_4_0 ho) dX6_becomeLike_14 ?_
  replace hf := gP_some hf
  obtain ⟨hz, hf⟩ := hf
  refine cpI_row (rest := []) hX hM (kr_4_0 ha1) (kr_4_0 ho) (cp_e hz) (hml.trans hl.1.symm) q_3_9 (Nat.le_of_ble_eq_true rfl) (Nat.le_of_ble_eq_true rfl) dX6_becomeLike_15 (fun μ1 H locs eμ1 hM => ?_)
  replace hf := lt_e eμ1 hf
  refine lv_aload_n hx hb dX6_becomeLike_18 rfl (lv_at hl 1 rfl) ?_
  refine gf_4_1 hX hM ha1 q_2_22 dX6_becomeLike_19 ?_
  refine lv_iconst (v := 0) hx hb dX6_becomeLike_22 (by decide) ?_
  refine lv_aload_n hx hb dX6_becomeLike_23 rfl (lv_at hl 0 rfl) ?_
  refine gf_4_1 hX hM ho q_2_22 dX6_becomeLike_24 ?_
  refine lv_iconst (v := 0) hx hb dX6_becomeLike_27 (by decide) ?_
  refine lv_aload_n hx hb dX6_becomeLike_28 rfl (lv_at hl 0 rfl) ?_
  refine gf_4_1 hX hM ho q_2_22 dX6_becomeLike_29 ?_
  refine aleI hX hM (kr_4_1 ho) dX6_becomeLike_32 ?_
  replace hf := gP_some hf
  obtain ⟨hz, hf⟩ := hf
  refine cpI_row (rest := []) hX hM (kr_4_1 ha1) (kr_4_1 ho) (cp_e hz) (hml.trans hl.1.symm) q_3_9 (Nat.le_of_ble_eq_true rfl) (Nat.le_of_ble_eq_true rfl) dX6_becomeLike_33 (fun μ2 H locs eμ2 hM => ?_)
  replace hf := lt_e eμ2 hf
  refine lv_aload_n hx hb dX6_becomeLike_36 rfl (lv_at hl 1 rfl) ?_
  refine gf_4_2 hX hM ha1 q_2_23 dX6_becomeLike_37 ?_
  refine lv_iconst (v := 0) hx hb dX6_becomeLike_40 (by decide) ?_
  refine lv_aload_n hx hb dX6_becomeLike_41 rfl (lv_at hl 0 rfl) ?_
  refine gf_4_2 hX hM ho q_2_23 dX6_becomeLike_42 ?_
  refine lv_iconst (v := 0) hx hb dX6_becomeLike_45 (by decide) ?_
  refine lv_aload_n hx hb dX6_becomeLike_46 rfl (lv_at hl 0 rfl) ?_
  refine gf_4_2 hX hM ho q_2_23 dX6_becomeLike_47 ?_
  refine aleI hX hM (kr_4_2 ho) dX6_becomeLike_50 ?_
  replace hf := gP_some hf
  obtain ⟨hz, hf⟩ := hf
  refine cpI_row (rest := []) hX hM (kr_4_2 ha1) (kr_4_2 ho) (cp_e hz) (hml.trans hl.1.symm) q_3_9 (Nat.le_of_ble_eq_true rfl) (Nat.le_of_ble_eq_true rfl) dX6_becomeLike_51 (fun μ3 H locs eμ3 hM => ?_)
  replace hf := lt_e eμ3 hf
  refine lv_aload_n hx hb dX6_becomeLike_54 rfl (lv_at hl 1 rfl) ?_
  refine gf_4_3 hX hM ha1 q_3_0 dX6_becomeLike_55 ?_
  refine lv_iconst (v := 0) hx hb dX6_becomeLike_58 (by decide) ?_
  refine lv_aload_n hx hb dX6_becomeLike_59 rfl (lv_at hl 0 rfl) ?_
  refine gf_4_3 hX hM ho q_3_0 dX6_becomeLike_60 ?_
  refine lv_iconst (v := 0) hx hb dX6_becomeLike_63 (by decide) ?_
  refine lv_aload_n hx hb dX6_becomeLike_64 rfl (lv_at hl 0 rfl) ?_
  refine gf_4_3 hX hM ho q_3_0 dX6_becomeLike_65 ?_
  refine aleI hX hM (kr_4_3 ho) dX6_becomeLike_68 ?_
  replace hf := gP_some hf
  obtain ⟨hz, hf⟩ := hf
  refine cpI_row (rest := []) hX hM (kr_4_3 ha1) (kr_4_3 ho) (cp_e hz) (hml.trans hl.1.symm) q_3_9 (Nat.le_of_ble_eq_true rfl) (Nat.le_of_ble_eq_true rfl) dX6_becomeLike_69 (fun μ4 H locs eμ4 hM => ?_)
  replace hf := lt_e eμ4 hf
  refine lv_aload_n hx hb dX6_becomeLike_72 rfl (lv_at hl 1 rfl) ?_
  refine gf_4_4 hX hM ha1 q_3_2 dX6_becomeLike_73 ?_
  refine lv_iconst (v := 0) hx hb dX6_becomeLike_76 (by decide) ?_
  refine lv_aload_n hx hb dX6_becomeLike_77 rfl (lv_at hl 0 rfl) ?_
  refine gf_4_4 hX hM ho q_3_2 dX6_becomeLike_78 ?_
  refine lv_iconst (v := 0) hx hb dX6_becomeLike_81 (by decide) ?_
  refine lv_aload_n hx hb dX6_becomeLike_82 rfl (lv_at hl 0 rfl) ?_
  refine gf_4_4 hX hM ho q_3_2 dX6_becomeLike_83 ?_
  refine aleI hX hM (kr_4_4 ho) dX6_becomeLike_86 ?_
  replace hf := gP_some hf
  obtain ⟨hz, hf⟩ := hf
  refine cpI_row (rest := []) hX hM (kr_4_4 ha1) (kr_4_4 ho) (cp_e hz) (hml.trans hl.1.symm) q_3_9 (Nat.le_of_ble_eq_true rfl) (Nat.le_of_ble_eq_true rfl) dX6_becomeLike_87 (fun μ5 H locs eμ5 hM => ?_)
  replace hf := lt_e eμ5 hf
  refine lv_aload_n hx hb dX6_becomeLike_90 rfl (lv_at hl 1 rfl) ?_
  refine gf_4_5 hX hM ha1 q_3_3 dX6_becomeLike_91 ?_
  refine lv_iconst (v := 0) hx hb dX6_becomeLike_94 (by decide) ?_
  refine lv_aload_n hx hb dX6_becomeLike_95 rfl (lv_at hl 0 rfl) ?_
  refine gf_4_5 hX hM ho q_3_3 dX6_becomeLike_96 ?_
  refine lv_iconst (v := 0) hx hb dX6_becomeLike_99 (by decide) ?_
  refine lv_aload_n hx hb dX6_becomeLike_100 rfl (lv_at hl 0 rfl) ?_
  refine gf_4_5 hX hM ho q_3_3 dX6_becomeLike_101 ?_
  refine aleI hX hM (kr_4_5 ho) dX6_becomeLike_104 ?_
  replace hf := gP_some hf
  obtain ⟨hz, hf⟩ := hf
  refine cpI_row (rest := []) hX hM (kr_4_5 ha1) (kr_4_5 ho) (cp_e hz) (hml.trans hl.1.symm) q_3_9 (Nat.le_of_ble_eq_true rfl) (Nat.le_of_ble_eq_true rfl) dX6_becomeLike_105 (fun μ6 H locs eμ6 hM => ?_)
  replace hf := lt_e eμ6 hf
  refine lv_aload_n hx hb dX6_becomeLike_108 rfl (lv_at hl 0 rfl) ?_
  refine lv_aload_n hx hb dX6_becomeLike_109 rfl (lv_at hl 1 rfl) ?_
  refine gf_4_6 hX hM ha1 q_3_4 dX6_becomeLike_110 ?_
  refine pf_4_6 hX hM ho q_3_4 dX6_becomeLike_113 (fun μ7 H locs eμ7 hM => ?_)
  replace hf := lt_e eμ7 hf
  refine lv_aload_n hx hb dX6_becomeLike_116 rfl (lv_at hl 0 rfl) ?_
  refine lv_aload_n hx hb dX6_becomeLike_117 rfl (lv_at hl 1 rfl) ?_
  refine gf_4_7 hX hM ha1 q_3_5 dX6_becomeLike_118 ?_
  refine pf_4_7 hX hM ho q_3_5 dX6_becomeLike_121 (fun μ8 H locs eμ8 hM => ?_)
  replace hf := lt_e eμ8 hf
  refine lv_aload_n hx hb dX6_becomeLike_124 rfl (lv_at hl 0 rfl) ?_
  refine lv_aload_n hx hb dX6_becomeLike_125 rfl (lv_at hl 1 rfl) ?_
  refine gf_4_8 hX hM ha1 q_3_6 dX6_becomeLike_126 ?_
  refine pf_4_8 hX hM ho q_3_6 dX6_becomeLike_129 (fun μ9 H locs eμ9 hM => ?_)
  replace hf := lt_e eμ9 hf
  refine lv_aload_n hx hb dX6_becomeLike_132 rfl (lv_at hl 0 rfl) ?_
  refine lv_aload_n hx hb dX6_becomeLike_133 rfl (lv_at hl 1 rfl) ?_
  refine gf_4_9 hX hM ha1 q_3_7 dX6_becomeLike_134 ?_
  refine pf_4_9 hX hM ho q_3_7 dX6_becomeLike_137 (fun μ10 H locs eμ10 hM => ?_)
  replace hf := lt_e eμ10 hf
  refine lv_aload_n hx hb dX6_becomeLike_140 rfl (lv_at hl 0 rfl) ?_
  refine lv_dup hx hb dX6_becomeLike_141 rfl ?_
  refine gf_4_10 hX hM ho q_3_8 dX6_becomeLike_142 ?_
  refine lv_iconst (v := 1) hx hb dX6_becomeLike_145 (by decide) ?_
  refine lv_iadd hx hb dX6_becomeLike_146 ?_
  refine pf_4_10 hX hM ho q_3_8 dX6_becomeLike_147 (fun μ11 H locs eμ11 hM => ?_)
  replace hf := lt_e eμ11 hf
  exact rt_v hX hM rfl (Option.some.inj hf) dX6_becomeLike_150
theorem c_X6_becomeLike (l : Launch) {o : Nat} {a1 : Nat} (ho : knd o = 4) (ha1 : knd a1 = 4) {μ μ2 : Mem} (hf : f_X6_becomeLike o a1 μ = some μ2) : CT E l yX6_becomeLike cX6_becomeLike 2 none (rmF 1 40) [.ref (eA E o), .ref (eA E a1)] μ (none) μ2 := CT.of (show plainFor yX6_becomeLike = true by decide +kernel) (Nat.le_of_ble_eq_true rfl) rfl (fun _ _ _ _ _ _ _ _ hX hM hl => w_X6_becomeLike l ho ha1 hf hX hM hl)
theorem mv_X6_becomeLike : MV yX6_becomeLike cX6_becomeLike 2 none RX6 1 := ⟨q_40_5, q_40_3, q_40_4, q_1_15, by decide +kernel⟩
def f_X5_second (o : Nat) (a1 : Int32) (μ : Mem) : Option (Int32 × Mem) :=
  bnd (f_X10_below a1 (μ.1 o 2) μ) (fun r2 μ1 => (if r2 = 0 then some ((-1 : Int32), μ1) else gA a1 (aln (rf o 1)) (some ((μ1.1 (rf o 1) a1.toNatClampNeg), μ1))))
set_option maxHeartbeats 4000000 in
set_option maxRecDepth 100000 in
theorem w_X5_second (l : Launch) {o : Nat} {a1 : Int32} (ho : knd o = 3) {μ μ2 : Mem} {r : Int32} {H : Heap} {locs : List Loc} {ls : Array Slot} (hf : f_X5_second o a1 μ = some (r, μ2)) (hX : XX E p m meth c cX5_second 2 (some .int) s args RX5) (hM : MM E s μ H locs) (hl : lv_has ls 2 [(0, .ref (eA E o)), (1, .int a1)]) : W p l e (rmF 1 21) s m args below meth c H locs 0 0 (MQ below (QC E (some (.int r)) μ2) args s 0 0 (AA E)) (F0 m 0 ls []) := by
  obtain ⟨⟨hx, hb, hml, hown, hts⟩, hXr⟩ := id hX
  unfold f_X5_second at hf
  refine lv_iload_n hx hb dX5_second_0 rfl (lv_at hl 1 rfl) ?_
  refine lv_aload_n hx hb dX5_second_1 rfl (lv_at hl 0 rfl) ?_
  refine gf_3_2 hX hM ho q_4_7 dX5_second_2 ?_
  replace hf := bnd_some hf
  obtain ⟨r2, μ1, h5, hf⟩ := hf
  refine cl_N (As := [.int a1, .int (μ.1 o 2)]) (rest := []) (st2 := [.int r2]) (n := 2) hX hM (c_X10_below l  h5) mt_X10_below (hXr.2.2.1.2.1.2.2.1) ⟨rfl, rfl⟩ ⟨Nat.le_of_ble_eq_true rfl, Nat.le_of_ble_eq_true rfl⟩ rfl hl.1 rfl (Nat.le_of_ble_eq_true rfl) dX5_second_5 rfl (fun H locs hM => ?_)
  refine lv_if_eq (tgt := 20) hx hb dX5_second_8 (by decide) (fun hc8 => ?_) (fun hc8 => ?_)
  · replace hf := it_t hf hc8
    refine lv_iconst (v := (-1)) hx hb dX5_second_20 (by decide) ?_
    exact rt_i hX hM (congrArg (fun z => some (Value.int z)) (so_1 hf)) (so_2 hf) dX5_second_21
  · replace hf := it_f hf hc8
    refine lv_aload_n hx hb dX5_second_11 rfl (lv_at hl 0 rfl) ?_
    refine gf_3_1 hX hM ho q_4_9 dX5_second_12 ?_
    refine lv_iload_n hx hb dX5_second_15 rfl (lv_at hl 1 rfl) ?_
    replace hf := gA_some hf
    obtain ⟨hi, hf⟩ := hf
    refine ald hX hM (kr_3_1 ho) hi dX5_second_16 ?_
    refine lv_goto (tgt := 21) hx hb dX5_second_17 (by decide) ?_
    exact rt_i hX hM (congrArg (fun z => some (Value.int z)) (so_1 hf)) (so_2 hf) dX5_second_21
theorem c_X5_second (l : Launch) {o : Nat} {a1 : Int32} (ho : knd o = 3) {μ μ2 : Mem} {r : Int32} (hf : f_X5_second o a1 μ = some (r, μ2)) : CT E l yX5_second cX5_second 2 (some .int) (rmF 1 21) [.ref (eA E o), .int a1] μ (some (.int r)) μ2 := CT.of (show plainFor yX5_second = true by decide +kernel) (Nat.le_of_ble_eq_true rfl) rfl (fun _ _ _ _ _ _ _ _ hX hM hl => w_X5_second l ho hf hX hM hl)
theorem mv_X5_second : MV yX5_second cX5_second 2 (some .int) RX5 1 := ⟨q_40_23, q_40_21, q_40_22, q_3_22, by decide +kernel⟩
def f_X0_greatestDivisor_b9 (a0 : Int64) (a2 : Int64)  : Nat → Int64 → Int64 → Int32 → Mem → Option (Int64 × Mem)
  | 0, _, _, _, _ => none
  | n + 1, x4, x6, x8, μ =>
    (if (200 : Int32) ≤ x8 then some (x4, μ) else (if (lg_cmp x6 (0 : Int64)) = 0 then some (x4, μ) else gW x6 (lt (x4 - x4 / x6 * x6) (fun v1 => lt (x8 + (1 : Int32)) (fun v2 => (f_X0_greatestDivisor_b9 a0 a2  n) x6 v1 v2 μ)))))
set_option maxHeartbeats 4000000 in
set_option maxRecDepth 100000 in
theorem w_X0_greatestDivisor_b9 (l : Launch) {a0 : Int64} {a2 : Int64}  {μ2 : Mem} {r : Int64}  (hX : XX E p m meth c cX0_greatestDivisor 11 (some .long) s args RX0)  : ∀ (n : Nat) (x4 : Int64) (x6 : Int64) (x8 : Int32) (μ : Mem), f_X0_greatestDivisor_b9 a0 a2  n x4 x6 x8 μ = some (r, μ2) → ∀ (H : Heap) (locs : List Loc), MM E s μ H locs → ∀ ls : Array Slot, lv_has ls 11 [(0, .long a0), (2, .long a2), (4, .long x4), (6, .long x6), (8, .int x8)] → W p l e (rmF 0 0) s m args below meth c H locs 0 0 (MQ below (QC E (some (.long r)) μ2) args s 0 0 (AA E)) (F0 m 9 ls []) := by
  obtain ⟨⟨hx, hb, hml, hown, hts⟩, hXr⟩ := id hX
  intro n
  induction n with
  | zero => intro x4 x6 x8 μ  hf; exact no_none hf
  | succ n ih =>
    intro x4 x6 x8 μ  hf H locs hM ls hl
    rw [f_X0_greatestDivisor_b9] at hf
    have hK9 := ih
    clear ih
    refine lv_iload hx hb dX0_greatestDivisor_9 (lv_at hl 4 rfl) ?_
    refine lv_sipush (v := 200) hx hb dX0_greatestDivisor_11 (by decide) ?_
    refine lv_icmp_ge (tgt := 45) hx hb dX0_greatestDivisor_14 (by decide) (fun hc14 => ?_) (fun hc14 => ?_)
    · replace hf := it_t hf hc14
      refine lv_lload hx hb dX0_greatestDivisor_45 (lv_at hl 2 rfl) ?_
      exact rt_l hX hM (congrArg (fun z => some (Value.long z)) (so_1 hf)) (so_2 hf) dX0_greatestDivisor_47
    · replace hf := it_f hf hc14
      refine lv_lload hx hb dX0_greatestDivisor_17 (lv_at hl 3 rfl) ?_
      refine lv_lconst (v := 0) hx hb dX0_greatestDivisor_19 (by decide) ?_
      refine W.lcmp hx hb dX0_greatestDivisor_20 ?_
      refine lv_if_eq (tgt := 45) hx hb dX0_greatestDivisor_21 (by decide) (fun hc21 => ?_) (fun hc21 => ?_)
      · replace hf := it_t hf hc21
        refine lv_lload hx hb dX0_greatestDivisor_45 (lv_at hl 2 rfl) ?_
        exact rt_l hX hM (congrArg (fun z => some (Value.long z)) (so_1 hf)) (so_2 hf) dX0_greatestDivisor_47
      · replace hf := it_f hf hc21
        refine lv_lload hx hb dX0_greatestDivisor_24 (lv_at hl 2 rfl) ?_
        refine lv_lload hx hb dX0_greatestDivisor_26 (lv_at hl 3 rfl) ?_
        replace hf := gW_some hf
        obtain ⟨hz, hf⟩ := hf
        refine lv_lrem hx hb dX0_greatestDivisor_28 hz ?_
        refine lv_topl (fun v1 ev1 => ?_)
        replace hf := lt_e ev1 hf
        refine lv_lstore (lv' := [(9, .long v1), (0, .long a0), (2, .long a2), (4, .long x4), (6, .long x6), (8, .int x8)]) hx hb dX0_greatestDivisor_29 hl (by decide) rfl (fun ls hl => ?_)
        refine lv_lload hx hb dX0_greatestDivisor_31 (lv_at hl 4 rfl) ?_
        refine lv_lstore (lv' := [(4, .long x6), (9, .long v1), (0, .long a0), (2, .long a2), (6, .long x6), (8, .int x8)]) hx hb dX0_greatestDivisor_33 hl (by decide) rfl (fun ls hl => ?_)
        refine lv_lload hx hb dX0_greatestDivisor_35 (lv_at hl 1 rfl) ?_
        refine lv_lstore (lv' := [(6, .long v1), (4, .long x6), (9, .long v1), (0, .long a0), (2, .long a2), (8, .int x8)]) hx hb dX0_greatestDivisor_37 hl (by decide) rfl (fun ls hl => ?_)
        obtain ⟨v2, ev2⟩ : ∃ y : Int32, y = x8 + (1 : Int32) := ⟨_, rfl⟩
        replace hf := lt_e ev2 hf
        refine lv_iinc (v := v2) (lv' := [(8, .int v2), (6, .long v1), (4, .long x6), (9, .long v1), (0, .long a0), (2, .long a2)]) hx hb dX0_greatestDivisor_39 hl (k := 5) rfl (by rw [ev2]; rfl) (by decide) rfl (fun ls hl => ?_)
        refine lv_goto (tgt := 9) hx hb dX0_greatestDivisor_42 (by decide) ?_
        exact hK9 _ _ _ _  hf _ _ hM _ (lv_sub hl [4, 5, 2, 1, 0] rfl)
def f_X0_greatestDivisor (a0 : Int64) (a2 : Int64) (μ : Mem) : Option (Int64 × Mem) :=
  f_X0_greatestDivisor_b9 a0 a2  FU a0 a2 (0 : Int32) μ
set_option maxHeartbeats 4000000 in
set_option maxRecDepth 100000 in
theorem w_X0_greatestDivisor (l : Launch) {a0 : Int64} {a2 : Int64}  {μ μ2 : Mem} {r : Int64} {H : Heap} {locs : List Loc} {ls : Array Slot} (hf : f_X0_greatestDivisor a0 a2 μ = some (r, μ2)) (hX : XX E p m meth c cX0_greatestDivisor 11 (some .long) s args RX0) (hM : MM E s μ H locs) (hl : lv_has ls 11 [(0, .long a0), (2, .long a2)]) : W p l e (rmF 0 0) s m args below meth c H locs 0 0 (MQ below (QC E (some (.long r)) μ2) args s 0 0 (AA E)) (F0 m 0 ls []) := by
  obtain ⟨⟨hx, hb, hml, hown, hts⟩, hXr⟩ := id hX
  unfold f_X0_greatestDivisor at hf
  refine lv_lload_n hx hb dX0_greatestDivisor_0 rfl (lv_at hl 0 rfl) ?_
  refine lv_lstore (lv' := [(4, .long a0), (0, .long a0), (2, .long a2)]) hx hb dX0_greatestDivisor_1 hl (by decide) rfl (fun ls hl => ?_)
  refine lv_lload_n hx hb dX0_greatestDivisor_3 rfl (lv_at hl 2 rfl) ?_
  refine lv_lstore (lv' := [(6, .long a2), (4, .long a0), (0, .long a0), (2, .long a2)]) hx hb dX0_greatestDivisor_4 hl (by decide) rfl (fun ls hl => ?_)
  refine lv_iconst (v := 0) hx hb dX0_greatestDivisor_6 (by decide) ?_
  refine lv_istore (lv' := [(8, .int (0 : Int32)), (6, .long a2), (4, .long a0), (0, .long a0), (2, .long a2)]) hx hb dX0_greatestDivisor_7 hl (by decide) rfl (fun ls hl => ?_)
  exact w_X0_greatestDivisor_b9 l  hX  FU _ _ _ _  hf _ _ hM _ (lv_sub hl [3, 4, 2, 1, 0] rfl)
theorem c_X0_greatestDivisor (l : Launch) {a0 : Int64} {a2 : Int64}  {μ μ2 : Mem} {r : Int64} (hf : f_X0_greatestDivisor a0 a2 μ = some (r, μ2)) : CT E l yX0_greatestDivisor cX0_greatestDivisor 11 (some .long) (rmF 0 0) [.long a0, .long a2] μ (some (.long r)) μ2 := CT.of (show plainFor yX0_greatestDivisor = true by decide +kernel) (Nat.le_of_ble_eq_true rfl) rfl (fun _ _ _ _ _ _ _ _ hX hM hl => w_X0_greatestDivisor l  hf hX hM hl)
theorem mt_X0_greatestDivisor : MT yX0_greatestDivisor cX0_greatestDivisor 11 (some .long) 2 := ⟨q_41_23, q_41_22, q_36_8, by decide +kernel⟩
def f_X6_undergo_b61 (o : Nat) (a1 : Int32) (a2 : Int32)  : Nat → Int32 → Mem → Option (Mem)
  | 0, _, _ => none
  | n + 1, x3, μ =>
    (if (4 : Int32) ≤ x3 then some μ else bnd (f_X6_forceIn o a2 x3 μ) (fun r4 μ3 => gA ((a2 * (4 : Int32)) + x3) (aln (rf o 1)) (lt (sI μ3 (rf o 1) ((a2 * (4 : Int32)) + x3).toNatClampNeg (mimin (r4 + (1 : Int32)) (3 : Int32))) (fun μ5 => lt (x3 + (1 : Int32)) (fun v6 => (f_X6_undergo_b61 o a1 a2  n) v6 μ5)))))
set_option maxHeartbeats 4000000 in
set_option maxRecDepth 100000 in
theorem w_X6_undergo_b61 (l : Launch) {o : Nat} {a1 : Int32} {a2 : Int32} (ho : knd o = 4) {μ2 : Mem}  (hX : XX E p m meth c cX6_undergo 4 none s args RX6)  : ∀ (n : Nat) (x3 : Int32) (μ : Mem), f_X6_undergo_b61 o a1 a2  n x3 μ = some μ2 → ∀ (H : Heap) (locs : List Loc), MM E s μ H locs → ∀ ls : Array Slot, lv_has ls 4 [(0, .ref (eA E o)), (1, .int a1), (2, .int a2), (3, .int x3)] → W p l e (rmF 2 46) s m args below meth c H locs 0 0 (MQ below (QC E (none) μ2) args s 0 0 (AA E)) (F0 m 61 ls []) := by
  obtain ⟨⟨hx, hb, hml, hown, hts⟩, hXr⟩ := id hX
  intro n
  induction n with
  | zero => intro x3 μ  hf; exact no_none hf
  | succ n ih =>
    intro x3 μ  hf H locs hM ls hl
    rw [f_X6_undergo_b61] at hf
    have hK61 := ih
    clear ih
    refine lv_iload_n hx hb dX6_undergo_61 rfl (lv_at hl 3 rfl) ?_
    refine lv_iconst (v := 4) hx hb dX6_undergo_62 (by decide) ?_
    refine lv_icmp_ge (tgt := 94) hx hb dX6_undergo_63 (by decide) (fun hc63 => ?_) (fun hc63 => ?_)
    · replace hf := it_t hf hc63
      refine lv_goto (tgt := 144) hx hb dX6_undergo_94 (by decide) ?_
      exact rt_v hX hM rfl (Option.some.inj hf) dX6_undergo_144
    · replace hf := it_f hf hc63
      refine lv_aload_n hx hb dX6_undergo_66 rfl (lv_at hl 0 rfl) ?_
      refine gf_4_1 hX hM ho q_2_22 dX6_undergo_67 ?_
      refine lv_iload_n hx hb dX6_undergo_70 rfl (lv_at hl 2 rfl) ?_
      refine lv_iconst (v := 4) hx hb dX6_undergo_71 (by decide) ?_
      refine lv_imul hx hb dX6_undergo_72 ?_
      refine lv_iload_n hx hb dX6_undergo_73 rfl (lv_at hl 3 rfl) ?_
      refine lv_iadd hx hb dX6_undergo_74 ?_
      refine lv_aload_n hx hb dX6_undergo_75 rfl (lv_at hl 0 rfl) ?_
      refine lv_iload_n hx hb dX6_undergo_76 rfl (lv_at hl 2 rfl) ?_
      refine lv_iload_n hx hb dX6_undergo_77 rfl (lv_at hl 3 rfl) ?_
      replace hf := bnd_some hf
      obtain ⟨r4, μ3, h78, hf⟩ := hf
      refine cl_V (As := [.int a2, .int x3]) (rest := [.int ((a2 * (4 : Int32)) + x3), .ref (eA E (rf o 1))]) (st2 := [.int r4, .int ((a2 * (4 : Int32)) + x3), .ref (eA E (rf o 1))]) (n := 2) hX hM (c_X6_forceIn l ho h78) mv_X6_forceIn q_14_3 ⟨rfl, rfl⟩ ⟨Nat.le_of_ble_eq_true rfl, Nat.le_of_ble_eq_true rfl⟩ ho (by decide) rfl rfl rfl hl.1 rfl (Nat.le_of_ble_eq_true rfl) dX6_undergo_78 rfl (fun H locs hM => ?_)
      refine lv_iconst (v := 1) hx hb dX6_undergo_81 (by decide) ?_
      refine lv_iadd hx hb dX6_undergo_82 ?_
      refine lv_iconst (v := 3) hx hb dX6_undergo_83 (by decide) ?_
      refine va_mmin (rest := [.int ((a2 * (4 : Int32)) + x3), .ref (eA E (rf o 1))]) hx hb (hml.trans hl.1.symm) hown (hts _ q_44_1) (hts _ q_17_4) (hts _ q_13_15) (hts _ q_17_5) (Nat.le_of_ble_eq_true rfl) (Nat.le_of_ble_eq_true rfl) (Nat.zero_le _) (Nat.zero_le _) dX6_undergo_84 ?_
      replace hf := gA_some hf
      obtain ⟨hi, hf⟩ := hf
      refine ast hX hM (kr_4_1 ho) hi dX6_undergo_87 (fun μ5 H locs eμ5 hM => ?_)
      replace hf := lt_e eμ5 hf
      obtain ⟨v6, ev6⟩ : ∃ y : Int32, y = x3 + (1 : Int32) := ⟨_, rfl⟩
      replace hf := lt_e ev6 hf
      refine lv_iinc (v := v6) (lv' := [(3, .int v6), (0, .ref (eA E o)), (1, .int a1), (2, .int a2)]) hx hb dX6_undergo_88 hl (k := 3) rfl (by rw [ev6]; rfl) (by decide) rfl (fun ls hl => ?_)
      refine lv_goto (tgt := 61) hx hb dX6_undergo_91 (by decide) ?_
      exact hK61 _ _  hf _ _ hM _ (lv_sub hl [1, 2, 3, 0] rfl)
def f_X6_undergo_b99 (o : Nat) (a1 : Int32) (a2 : Int32)  : Nat → Int32 → Mem → Option (Mem)
  | 0, _, _ => none
  | n + 1, x3, μ =>
    (if (nI (aln (rf o 0))) ≤ x3 then some μ else gA x3 (aln (rf o 0)) (gA x3 (aln (rf o 0)) (lt (sI μ (rf o 0) x3.toNatClampNeg (((μ.1 (rf o 0) x3.toNatClampNeg) + a2) - ((μ.1 (rf o 0) x3.toNatClampNeg) + a2) / (8 : Int32) * (8 : Int32))) (fun μ7 => lt (x3 + (1 : Int32)) (fun v8 => (f_X6_undergo_b99 o a1 a2  n) v8 μ7)))))
set_option maxHeartbeats 4000000 in
set_option maxRecDepth 100000 in
theorem w_X6_undergo_b99 (l : Launch) {o : Nat} {a1 : Int32} {a2 : Int32} (ho : knd o = 4) {μ2 : Mem}  (hX : XX E p m meth c cX6_undergo 4 none s args RX6)  : ∀ (n : Nat) (x3 : Int32) (μ : Mem), f_X6_undergo_b99 o a1 a2  n x3 μ = some μ2 → ∀ (H : Heap) (locs : List Loc), MM E s μ H locs → ∀ ls : Array Slot, lv_has ls 4 [(0, .ref (eA E o)), (1, .int a1), (2, .int a2), (3, .int x3)] → W p l e (rmF 2 46) s m args below meth c H locs 0 0 (MQ below (QC E (none) μ2) args s 0 0 (AA E)) (F0 m 99 ls []) := by
  obtain ⟨⟨hx, hb, hml, hown, hts⟩, hXr⟩ := id hX
  intro n
  induction n with
  | zero => intro x3 μ  hf; exact no_none hf
  | succ n ih =>
    intro x3 μ  hf H locs hM ls hl
    rw [f_X6_undergo_b99] at hf
    have hK99 := ih
    clear ih
    refine lv_iload_n hx hb dX6_undergo_99 rfl (lv_at hl 3 rfl) ?_
    refine lv_aload_n hx hb dX6_undergo_100 rfl (lv_at hl 0 rfl) ?_
    refine gf_4_0 hX hM ho q_2_21 dX6_undergo_101 ?_
    refine aleI hX hM (kr_4_0 ho) dX6_undergo_104 ?_
    refine lv_icmp_ge (tgt := 131) hx hb dX6_undergo_105 (by decide) (fun hc105 => ?_) (fun hc105 => ?_)
    · replace hf := it_t hf hc105
      refine lv_goto (tgt := 144) hx hb dX6_undergo_131 (by decide) ?_
      exact rt_v hX hM rfl (Option.some.inj hf) dX6_undergo_144
    · replace hf := it_f hf hc105
      refine lv_aload_n hx hb dX6_undergo_108 rfl (lv_at hl 0 rfl) ?_
      refine gf_4_0 hX hM ho q_2_21 dX6_undergo_109 ?_
      refine lv_iload_n hx hb dX6_undergo_112 rfl (lv_at hl 3 rfl) ?_
      refine lv_aload_n hx hb dX6_undergo_113 rfl (lv_at hl 0 rfl) ?_
      refine gf_4_0 hX hM ho q_2_21 dX6_undergo_114 ?_
      refine lv_iload_n hx hb dX6_undergo_117 rfl (lv_at hl 3 rfl) ?_
      replace hf := gA_some hf
      obtain ⟨hi, hf⟩ := hf
      refine ald hX hM (kr_4_0 ho) hi dX6_undergo_118 ?_
      refine lv_iload_n hx hb dX6_undergo_119 rfl (lv_at hl 2 rfl) ?_
      refine lv_iadd hx hb dX6_undergo_120 ?_
      refine lv_bipush (v := 8) hx hb dX6_undergo_121 (by decide) ?_
      refine lv_irem hx hb dX6_undergo_123 (by decide) ?_
      replace hf := gA_some hf
      obtain ⟨hi, hf⟩ := hf
      refine ast hX hM (kr_4_0 ho) hi dX6_undergo_124 (fun μ7 H locs eμ7 hM => ?_)
      replace hf := lt_e eμ7 hf
      obtain ⟨v8, ev8⟩ : ∃ y : Int32, y = x3 + (1 : Int32) := ⟨_, rfl⟩
      replace hf := lt_e ev8 hf
      refine lv_iinc (v := v8) (lv' := [(3, .int v8), (0, .ref (eA E o)), (1, .int a1), (2, .int a2)]) hx hb dX6_undergo_125 hl (k := 3) rfl (by rw [ev8]; rfl) (by decide) rfl (fun ls hl => ?_)
      refine lv_goto (tgt := 99) hx hb dX6_undergo_128 (by decide) ?_
      exact hK99 _ _  hf _ _ hM _ (lv_sub hl [1, 2, 3, 0] rfl)
def f_X6_undergo (o : Nat) (a1 : Int32) (a2 : Int32) (μ : Mem) : Option (Mem) :=
  lt (sI μ o 10 ((μ.1 o 10) + (1 : Int32))) (fun μ1 => (if a1 = (0 : Int32) then bnv (f_J7_fill_fda19 (rf o 1) (a2 * (4 : Int32)) ((a2 + (1 : Int32)) * (4 : Int32)) (0 : Int32) μ1) (fun μ2 => some μ2) else (if a1 = (1 : Int32) then f_X6_undergo_b61 o a1 a2  FU (0 : Int32) μ1 else (if a1 = (2 : Int32) then f_X6_undergo_b99 o a1 a2  FU (0 : Int32) μ1 else (if a1 = (3 : Int32) then gA a2 (aln (rf o 3)) (lt (sI μ1 (rf o 3) a2.toNatClampNeg (0 : Int32)) (fun μ9 => some μ9)) else some μ1)))))
set_option maxHeartbeats 4000000 in
set_option maxRecDepth 100000 in
theorem w_X6_undergo (l : Launch) {o : Nat} {a1 : Int32} {a2 : Int32} (ho : knd o = 4) {μ μ2 : Mem} {H : Heap} {locs : List Loc} {ls : Array Slot} (hf : f_X6_undergo o a1 a2 μ = some μ2) (hX : XX E p m meth c cX6_undergo 4 none s args RX6) (hM : MM E s μ H locs) (hl : lv_has ls 4 [(0, .ref (eA E o)), (1, .int a1), (2, .int a2)]) : W p l e (rmF 2 46) s m args below meth c H locs 0 0 (MQ below (QC E (none) μ2) args s 0 0 (AA E)) (F0 m 0 ls []) := by
  obtain ⟨⟨hx, hb, hml, hown, hts⟩, hXr⟩ := id hX
  unfold f_X6_undergo at hf
  refine lv_aload_n hx hb dX6_undergo_0 rfl (lv_at hl 0 rfl) ?_
  refine lv_dup hx hb dX6_undergo_1 rfl ?_
  refine gf_4_10 hX hM ho q_3_8 dX6_undergo_2 ?_
  refine lv_iconst (v := 1) hx hb dX6_undergo_5 (by decide) ?_
  refine lv_iadd hx hb dX6_undergo_6 ?_
  refine pf_4_10 hX hM ho q_3_8 dX6_undergo_7 (fun μ1 H locs eμ1 hM => ?_)
  replace hf := lt_e eμ1 hf
  refine lv_iload_n hx hb dX6_undergo_10 rfl (lv_at hl 1 rfl) ?_
  by_cases hs11_0 : a1 = (0 : Int32)
  · replace hf := it_t hf hs11_0
    refine lv_tableIn (off := 29) (tgt := 40) hx hb dX6_undergo_11 (by rw [hs11_0]; decide) (by rw [hs11_0]; decide) (by rw [hs11_0]; rfl) (by decide) ?_
    refine lv_aload_n hx hb dX6_undergo_40 rfl (lv_at hl 0 rfl) ?_
    refine gf_4_1 hX hM ho q_2_22 dX6_undergo_41 ?_
    refine lv_iload_n hx hb dX6_undergo_44 rfl (lv_at hl 2 rfl) ?_
    refine lv_iconst (v := 4) hx hb dX6_undergo_45 (by decide) ?_
    refine lv_imul hx hb dX6_undergo_46 ?_
    refine lv_iload_n hx hb dX6_undergo_47 rfl (lv_at hl 2 rfl) ?_
    refine lv_iconst (v := 1) hx hb dX6_undergo_48 (by decide) ?_
    refine lv_iadd hx hb dX6_undergo_49 ?_
    refine lv_iconst (v := 4) hx hb dX6_undergo_50 (by decide) ?_
    refine lv_imul hx hb dX6_undergo_51 ?_
    refine lv_iconst (v := 0) hx hb dX6_undergo_52 (by decide) ?_
    replace hf := bnv_some hf
    obtain ⟨μ2, h53, hf⟩ := hf
    refine cl_S (As := [.ref (eA E (rf o 1)), .int (a2 * (4 : Int32)), .int ((a2 + (1 : Int32)) * (4 : Int32)), .int (0 : Int32)]) (rest := []) (st2 := []) (n := 4) hX hM (c_J7_fill_fda19 l (kr_4_1 ho) h53) mt_J7_fill_fda19 q_44_2 ⟨rfl, rfl⟩ ⟨Nat.le_of_ble_eq_true rfl, Nat.le_of_ble_eq_true rfl⟩ rfl hl.1 rfl (Nat.le_of_ble_eq_true rfl) dX6_undergo_53 rfl (fun H locs hM => ?_)
    refine lv_goto (tgt := 144) hx hb dX6_undergo_56 (by decide) ?_
    exact rt_v hX hM rfl (Option.some.inj hf) dX6_undergo_144
  · replace hf := it_f hf hs11_0
    by_cases hs11_1 : a1 = (1 : Int32)
    · replace hf := it_t hf hs11_1
      refine lv_tableIn (off := 48) (tgt := 59) hx hb dX6_undergo_11 (by rw [hs11_1]; decide) (by rw [hs11_1]; decide) (by rw [hs11_1]; rfl) (by decide) ?_
      refine lv_iconst (v := 0) hx hb dX6_undergo_59 (by decide) ?_
      refine lv_istore_n (lv' := [(3, .int (0 : Int32)), (0, .ref (eA E o)), (1, .int a1), (2, .int a2)]) hx hb dX6_undergo_60 rfl hl (by decide) rfl (fun ls hl => ?_)
      exact w_X6_undergo_b61 l ho hX  FU _ _  hf _ _ hM _ (lv_sub hl [1, 2, 3, 0] rfl)
    · replace hf := it_f hf hs11_1
      by_cases hs11_2 : a1 = (2 : Int32)
      · replace hf := it_t hf hs11_2
        refine lv_tableIn (off := 86) (tgt := 97) hx hb dX6_undergo_11 (by rw [hs11_2]; decide) (by rw [hs11_2]; decide) (by rw [hs11_2]; rfl) (by decide) ?_
        refine lv_iconst (v := 0) hx hb dX6_undergo_97 (by decide) ?_
        refine lv_istore_n (lv' := [(3, .int (0 : Int32)), (0, .ref (eA E o)), (1, .int a1), (2, .int a2)]) hx hb dX6_undergo_98 rfl hl (by decide) rfl (fun ls hl => ?_)
        exact w_X6_undergo_b99 l ho hX  FU _ _  hf _ _ hM _ (lv_sub hl [1, 2, 3, 0] rfl)
      · replace hf := it_f hf hs11_2
        by_cases hs11_3 : a1 = (3 : Int32)
        · replace hf := it_t hf hs11_3
          refine lv_tableIn (off := 123) (tgt := 134) hx hb dX6_undergo_11 (by rw [hs11_3]; decide) (by rw [hs11_3]; decide) (by rw [hs11_3]; rfl) (by decide) ?_
          refine lv_aload_n hx hb dX6_undergo_134 rfl (lv_at hl 0 rfl) ?_
          refine gf_4_3 hX hM ho q_3_0 dX6_undergo_135 ?_
          refine lv_iload_n hx hb dX6_undergo_138 rfl (lv_at hl 2 rfl) ?_
          refine lv_iconst (v := 0) hx hb dX6_undergo_139 (by decide) ?_
          replace hf := gA_some hf
          obtain ⟨hi, hf⟩ := hf
          refine ast hX hM (kr_4_3 ho) hi dX6_undergo_140 (fun μ9 H locs eμ9 hM => ?_)
          replace hf := lt_e eμ9 hf
          refine lv_goto (tgt := 144) hx hb dX6_undergo_141 (by decide) ?_
          exact rt_v hX hM rfl (Option.some.inj hf) dX6_undergo_144
        · replace hf := it_f hf hs11_3
          have hq : (a1).toInt < 0 ∨ 3 < (a1).toInt := by
            have n0 := lv_neT hs11_0 (a := 0) rfl
            have n1 := lv_neT hs11_1 (a := 1) rfl
            have n2 := lv_neT hs11_2 (a := 2) rfl
            have n3 := lv_neT hs11_3 (a := 3) rfl
            omega
          refine lv_tableOut (tgt := 144) hx hb dX6_undergo_11 hq (by decide) ?_
          exact rt_v hX hM rfl (Option.some.inj hf) dX6_undergo_144
theorem c_X6_undergo (l : Launch) {o : Nat} {a1 : Int32} {a2 : Int32} (ho : knd o = 4) {μ μ2 : Mem} (hf : f_X6_undergo o a1 a2 μ = some μ2) : CT E l yX6_undergo cX6_undergo 4 none (rmF 2 46) [.ref (eA E o), .int a1, .int a2] μ (none) μ2 := CT.of (show plainFor yX6_undergo = true by decide +kernel) (Nat.le_of_ble_eq_true rfl) rfl (fun _ _ _ _ _ _ _ _ hX hM hl => w_X6_undergo l ho hf hX hM hl)
theorem mv_X6_undergo : MV yX6_undergo cX6_undergo 4 none RX6 2 := ⟨q_44_0, q_43_22, q_43_23, q_1_15, by decide +kernel⟩
def f_X9_holdsNothing (o : Nat) (μ : Mem) : Option (Int32 × Mem) :=
  (if (μ.1 o 1) = (-1 : Int32) then some ((1 : Int32), μ) else some ((0 : Int32), μ))
set_option maxHeartbeats 4000000 in
set_option maxRecDepth 100000 in
theorem w_X9_holdsNothing (l : Launch) {o : Nat} (ho : knd o = 7) {μ μ2 : Mem} {r : Int32} {H : Heap} {locs : List Loc} {ls : Array Slot} (hf : f_X9_holdsNothing o μ = some (r, μ2)) (hX : XX E p m meth c cX9_holdsNothing 1 (some .boolean) s args RX9) (hM : MM E s μ H locs) (hl : lv_has ls 1 [(0, .ref (eA E o))]) : W p l e (rmF 0 0) s m args below meth c H locs 0 0 (MQ below (QC E (some (.int r)) μ2) args s 0 0 (AA E)) (F0 m 0 ls []) := by
  obtain ⟨⟨hx, hb, hml, hown, hts⟩, hXr⟩ := id hX
  unfold f_X9_holdsNothing at hf
  refine lv_aload_n hx hb dX9_holdsNothing_0 rfl (lv_at hl 0 rfl) ?_
  refine gf_7_1 hX hM ho q_6_15 dX9_holdsNothing_1 ?_
  refine lv_iconst (v := (-1)) hx hb dX9_holdsNothing_4 (by decide) ?_
  refine lv_icmp_ne (tgt := 12) hx hb dX9_holdsNothing_5 (by decide) (fun hc5 => ?_) (fun hc5 => ?_)
  · replace hf := it_f hf hc5
    refine lv_iconst (v := 0) hx hb dX9_holdsNothing_12 (by decide) ?_
    exact rt_z hX hM rfl (congrArg (fun z => some (Value.int z)) (so_1 hf)) (so_2 hf) dX9_holdsNothing_13
  · replace hf := it_t hf hc5
    refine lv_iconst (v := 1) hx hb dX9_holdsNothing_8 (by decide) ?_
    refine lv_goto (tgt := 13) hx hb dX9_holdsNothing_9 (by decide) ?_
    exact rt_z hX hM rfl (congrArg (fun z => some (Value.int z)) (so_1 hf)) (so_2 hf) dX9_holdsNothing_13
theorem c_X9_holdsNothing (l : Launch) {o : Nat} (ho : knd o = 7) {μ μ2 : Mem} {r : Int32} (hf : f_X9_holdsNothing o μ = some (r, μ2)) : CT E l yX9_holdsNothing cX9_holdsNothing 1 (some .boolean) (rmF 0 0) [.ref (eA E o)] μ (some (.int r)) μ2 := CT.of (show plainFor yX9_holdsNothing = true by decide +kernel) (Nat.le_of_ble_eq_true rfl) rfl (fun _ _ _ _ _ _ _ _ hX hM hl => w_X9_holdsNothing l ho hf hX hM hl)
theorem mv_X9_holdsNothing : MV yX9_holdsNothing cX9_holdsNothing 1 (some .boolean) RX9 0 := ⟨q_46_6, q_46_4, q_46_5, q_2_15, by decide +kernel⟩
def f_X9_sort (o : Nat) (μ : Mem) : Option (Int32 × Mem) :=
  some ((μ.1 o 1), μ)
set_option maxHeartbeats 4000000 in
set_option maxRecDepth 100000 in
theorem w_X9_sort (l : Launch) {o : Nat} (ho : knd o = 7) {μ μ2 : Mem} {r : Int32} {H : Heap} {locs : List Loc} {ls : Array Slot} (hf : f_X9_sort o μ = some (r, μ2)) (hX : XX E p m meth c cX9_sort 1 (some .int) s args RX9) (hM : MM E s μ H locs) (hl : lv_has ls 1 [(0, .ref (eA E o))]) : W p l e (rmF 0 0) s m args below meth c H locs 0 0 (MQ below (QC E (some (.int r)) μ2) args s 0 0 (AA E)) (F0 m 0 ls []) := by
  obtain ⟨⟨hx, hb, hml, hown, hts⟩, hXr⟩ := id hX
  unfold f_X9_sort at hf
  refine lv_aload_n hx hb dX9_sort_0 rfl (lv_at hl 0 rfl) ?_
  refine gf_7_1 hX hM ho q_6_15 dX9_sort_1 ?_
  exact rt_i hX hM (congrArg (fun z => some (Value.int z)) (so_1 hf)) (so_2 hf) dX9_sort_4
theorem c_X9_sort (l : Launch) {o : Nat} (ho : knd o = 7) {μ μ2 : Mem} {r : Int32} (hf : f_X9_sort o μ = some (r, μ2)) : CT E l yX9_sort cX9_sort 1 (some .int) (rmF 0 0) [.ref (eA E o)] μ (some (.int r)) μ2 := CT.of (show plainFor yX9_sort = true by decide +kernel) (Nat.le_of_ble_eq_true rfl) rfl (fun _ _ _ _ _ _ _ _ hX hM hl => w_X9_sort l ho hf hX hM hl)
theorem mv_X9_sort : MV yX9_sort cX9_sort 1 (some .int) RX9 0 := ⟨q_46_10, q_46_8, q_46_9, q_2_15, by decide +kernel⟩
def f_X9_length (o : Nat) (μ : Mem) : Option (Int32 × Mem) :=
  some ((μ.1 o 2), μ)
set_option maxHeartbeats 4000000 in
set_option maxRecDepth 100000 in
theorem w_X9_length (l : Launch) {o : Nat} (ho : knd o = 7) {μ μ2 : Mem} {r : Int32} {H : Heap} {locs : List Loc} {ls : Array Slot} (hf : f_X9_length o μ = some (r, μ2)) (hX : XX E p m meth c cX9_length 1 (some .int) s args RX9) (hM : MM E s μ H locs) (hl : lv_has ls 1 [(0, .ref (eA E o))]) : W p l e (rmF 0 0) s m args below meth c H locs 0 0 (MQ below (QC E (some (.int r)) μ2) args s 0 0 (AA E)) (F0 m 0 ls []) := by
  obtain ⟨⟨hx, hb, hml, hown, hts⟩, hXr⟩ := id hX
  unfold f_X9_length at hf
  refine lv_aload_n hx hb dX9_length_0 rfl (lv_at hl 0 rfl) ?_
  refine gf_7_2 hX hM ho q_6_16 dX9_length_1 ?_
  exact rt_i hX hM (congrArg (fun z => some (Value.int z)) (so_1 hf)) (so_2 hf) dX9_length_4
theorem c_X9_length (l : Launch) {o : Nat} (ho : knd o = 7) {μ μ2 : Mem} {r : Int32} (hf : f_X9_length o μ = some (r, μ2)) : CT E l yX9_length cX9_length 1 (some .int) (rmF 0 0) [.ref (eA E o)] μ (some (.int r)) μ2 := CT.of (show plainFor yX9_length = true by decide +kernel) (Nat.le_of_ble_eq_true rfl) rfl (fun _ _ _ _ _ _ _ _ hX hM hl => w_X9_length l ho hf hX hM hl)
theorem mv_X9_length : MV yX9_length cX9_length 1 (some .int) RX9 0 := ⟨q_46_14, q_46_12, q_46_13, q_2_15, by decide +kernel⟩
def f_X9_get (o : Nat) (a1 : Int32) (μ : Mem) : Option (Int64 × Mem) :=
  bnd (f_X10_below a1 (μ.1 o 2) μ) (fun r2 μ1 => (if r2 = 0 then some ((-9223372036854775808 : Int64), μ1) else gA a1 (aln (rf o 0)) (some ((μ1.2 (rf o 0) a1.toNatClampNeg), μ1))))
set_option maxHeartbeats 4000000 in
set_option maxRecDepth 100000 in
theorem w_X9_get (l : Launch) {o : Nat} {a1 : Int32} (ho : knd o = 7) {μ μ2 : Mem} {r : Int64} {H : Heap} {locs : List Loc} {ls : Array Slot} (hf : f_X9_get o a1 μ = some (r, μ2)) (hX : XX E p m meth c cX9_get 2 (some .long) s args RX9) (hM : MM E s μ H locs) (hl : lv_has ls 2 [(0, .ref (eA E o)), (1, .int a1)]) : W p l e (rmF 1 21) s m args below meth c H locs 0 0 (MQ below (QC E (some (.long r)) μ2) args s 0 0 (AA E)) (F0 m 0 ls []) := by
  obtain ⟨⟨hx, hb, hml, hown, hts⟩, hXr⟩ := id hX
  unfold f_X9_get at hf
  refine lv_iload_n hx hb dX9_get_0 rfl (lv_at hl 1 rfl) ?_
  refine lv_aload_n hx hb dX9_get_1 rfl (lv_at hl 0 rfl) ?_
  refine gf_7_2 hX hM ho q_6_16 dX9_get_2 ?_
  replace hf := bnd_some hf
  obtain ⟨r2, μ1, h5, hf⟩ := hf
  refine cl_N (As := [.int a1, .int (μ.1 o 2)]) (rest := []) (st2 := [.int r2]) (n := 2) hX hM (c_X10_below l  h5) mt_X10_below (hXr.2.2.1.2.1.2.2.2) ⟨rfl, rfl⟩ ⟨Nat.le_of_ble_eq_true rfl, Nat.le_of_ble_eq_true rfl⟩ rfl hl.1 rfl (Nat.le_of_ble_eq_true rfl) dX9_get_5 rfl (fun H locs hM => ?_)
  refine lv_if_eq (tgt := 20) hx hb dX9_get_8 (by decide) (fun hc8 => ?_) (fun hc8 => ?_)
  · replace hf := it_t hf hc8
    refine lv_ldc2 (v := -9223372036854775808) hx hb hown (hts _ q_46_19) dX9_get_20 ?_
    exact rt_l hX hM (congrArg (fun z => some (Value.long z)) (so_1 hf)) (so_2 hf) dX9_get_23
  · replace hf := it_f hf hc8
    refine lv_aload_n hx hb dX9_get_11 rfl (lv_at hl 0 rfl) ?_
    refine gf_7_0 hX hM ho q_6_14 dX9_get_12 ?_
    refine lv_iload_n hx hb dX9_get_15 rfl (lv_at hl 1 rfl) ?_
    replace hf := gA_some hf
    obtain ⟨hi, hf⟩ := hf
    refine ldl hX hM (kr_7_0 ho) hi dX9_get_16 ?_
    refine lv_goto (tgt := 23) hx hb dX9_get_17 (by decide) ?_
    exact rt_l hX hM (congrArg (fun z => some (Value.long z)) (so_1 hf)) (so_2 hf) dX9_get_23
theorem c_X9_get (l : Launch) {o : Nat} {a1 : Int32} (ho : knd o = 7) {μ μ2 : Mem} {r : Int64} (hf : f_X9_get o a1 μ = some (r, μ2)) : CT E l yX9_get cX9_get 2 (some .long) (rmF 1 21) [.ref (eA E o), .int a1] μ (some (.long r)) μ2 := CT.of (show plainFor yX9_get = true by decide +kernel) (Nat.le_of_ble_eq_true rfl) rfl (fun _ _ _ _ _ _ _ _ hX hM hl => w_X9_get l ho hf hX hM hl)
theorem mv_X9_get : MV yX9_get cX9_get 2 (some .long) RX9 1 := ⟨q_46_18, q_46_16, q_46_17, q_2_15, by decide +kernel⟩
def f_X5_becomeLike_b7 (o : Nat) (a1 : Nat)  : Nat → Int32 → Mem → Option (Mem)
  | 0, _, _ => none
  | n + 1, x2, μ =>
    (if (μ.1 a1 2) ≤ x2 then some μ else gA x2 (aln (rf a1 0)) (gA x2 (aln (rf a1 1)) (bnd (f_X5_add o (μ.1 (rf a1 0) x2.toNatClampNeg) (μ.1 (rf a1 1) x2.toNatClampNeg) μ) (fun r4 μ3 => lt (x2 + (1 : Int32)) (fun v5 => (f_X5_becomeLike_b7 o a1  n) v5 μ3)))))
set_option maxHeartbeats 4000000 in
set_option maxRecDepth 100000 in
theorem w_X5_becomeLike_b7 (l : Launch) {o : Nat} {a1 : Nat} (ho : knd o = 3) (ha1 : knd a1 = 3) {μ2 : Mem}  (hX : XX E p m meth c cX5_becomeLike 3 none s args RX5)  : ∀ (n : Nat) (x2 : Int32) (μ : Mem), f_X5_becomeLike_b7 o a1  n x2 μ = some μ2 → ∀ (H : Heap) (locs : List Loc), MM E s μ H locs → ∀ ls : Array Slot, lv_has ls 3 [(0, .ref (eA E o)), (1, .ref (eA E a1)), (2, .int x2)] → W p l e (rmF 1 22) s m args below meth c H locs 0 0 (MQ below (QC E (none) μ2) args s 0 0 (AA E)) (F0 m 7 ls []) := by
  obtain ⟨⟨hx, hb, hml, hown, hts⟩, hXr⟩ := id hX
  intro n
  induction n with
  | zero => intro x2 μ  hf; exact no_none hf
  | succ n ih =>
    intro x2 μ  hf H locs hM ls hl
    rw [f_X5_becomeLike_b7] at hf
    have hK7 := ih
    clear ih
    refine lv_iload_n hx hb dX5_becomeLike_7 rfl (lv_at hl 2 rfl) ?_
    refine lv_aload_n hx hb dX5_becomeLike_8 rfl (lv_at hl 1 rfl) ?_
    refine gf_3_2 hX hM ha1 q_4_7 dX5_becomeLike_9 ?_
    refine lv_icmp_ge (tgt := 38) hx hb dX5_becomeLike_12 (by decide) (fun hc12 => ?_) (fun hc12 => ?_)
    · replace hf := it_t hf hc12
      exact rt_v hX hM rfl (Option.some.inj hf) dX5_becomeLike_38
    · replace hf := it_f hf hc12
      refine lv_aload_n hx hb dX5_becomeLike_15 rfl (lv_at hl 0 rfl) ?_
      refine lv_aload_n hx hb dX5_becomeLike_16 rfl (lv_at hl 1 rfl) ?_
      refine gf_3_0 hX hM ha1 q_4_8 dX5_becomeLike_17 ?_
      refine lv_iload_n hx hb dX5_becomeLike_20 rfl (lv_at hl 2 rfl) ?_
      replace hf := gA_some hf
      obtain ⟨hi, hf⟩ := hf
      refine ald hX hM (kr_3_0 ha1) hi dX5_becomeLike_21 ?_
      refine lv_aload_n hx hb dX5_becomeLike_22 rfl (lv_at hl 1 rfl) ?_
      refine gf_3_1 hX hM ha1 q_4_9 dX5_becomeLike_23 ?_
      refine lv_iload_n hx hb dX5_becomeLike_26 rfl (lv_at hl 2 rfl) ?_
      replace hf := gA_some hf
      obtain ⟨hi, hf⟩ := hf
      refine ald hX hM (kr_3_1 ha1) hi dX5_becomeLike_27 ?_
      replace hf := bnd_some hf
      obtain ⟨r4, μ3, h28, hf⟩ := hf
      refine cl_V (As := [.int (μ.1 (rf a1 0) x2.toNatClampNeg), .int (μ.1 (rf a1 1) x2.toNatClampNeg)]) (rest := []) (st2 := [.int r4]) (n := 2) hX hM (c_X5_add l ho h28) mv_X5_add q_47_17 ⟨rfl, rfl⟩ ⟨Nat.le_of_ble_eq_true rfl, Nat.le_of_ble_eq_true rfl⟩ ho (by decide) rfl rfl rfl hl.1 rfl (Nat.le_of_ble_eq_true rfl) dX5_becomeLike_28 rfl (fun H locs hM => ?_)
      refine lv_pop hx hb dX5_becomeLike_31 rfl ?_
      obtain ⟨v5, ev5⟩ : ∃ y : Int32, y = x2 + (1 : Int32) := ⟨_, rfl⟩
      replace hf := lt_e ev5 hf
      refine lv_iinc (v := v5) (lv' := [(2, .int v5), (0, .ref (eA E o)), (1, .ref (eA E a1))]) hx hb dX5_becomeLike_32 hl (k := 2) rfl (by rw [ev5]; rfl) (by decide) rfl (fun ls hl => ?_)
      refine lv_goto (tgt := 7) hx hb dX5_becomeLike_35 (by decide) ?_
      exact hK7 _ _  hf _ _ hM _ (lv_sub hl [1, 2, 0] rfl)
def f_X5_becomeLike (o : Nat) (a1 : Nat) (μ : Mem) : Option (Mem) :=
  bnd (f_X5_clear o μ) (fun r2 μ1 => f_X5_becomeLike_b7 o a1  FU (0 : Int32) μ1)
set_option maxHeartbeats 4000000 in
set_option maxRecDepth 100000 in
theorem w_X5_becomeLike (l : Launch) {o : Nat} {a1 : Nat} (ho : knd o = 3) (ha1 : knd a1 = 3) {μ μ2 : Mem} {H : Heap} {locs : List Loc} {ls : Array Slot} (hf : f_X5_becomeLike o a1 μ = some μ2) (hX : XX E p m meth c cX5_becomeLike 3 none s args RX5) (hM : MM E s μ H locs) (hl : lv_has ls 3 [(0, .ref (eA E o)), (1, .ref (eA E a1))]) : W p l e (rmF 1 22) s m args below meth c H locs 0 0 (MQ below (QC E (none) μ2) args s 0 0 (AA E)) (F0 m 0 ls []) := by
  obtain ⟨⟨hx, hb, hml, hown, hts⟩, hXr⟩ := id hX
  unfold f_X5_becomeLike at hf
  refine lv_aload_n hx hb dX5_becomeLike_0 rfl (lv_at hl 0 rfl) ?_
  replace hf := bnd_some hf
  obtain ⟨r2, μ1, h1, hf⟩ := hf
  refine cl_V (As := []) (rest := []) (st2 := [.int r2]) (n := 0) hX hM (c_X5_clear l ho h1) mv_X5_clear q_47_16 ⟨rfl, rfl⟩ ⟨Nat.le_of_ble_eq_true rfl, Nat.le_of_ble_eq_true rfl⟩ ho (by decide) rfl rfl rfl hl.1 rfl (Nat.le_of_ble_eq_true rfl) dX5_becomeLike_1 rfl (fun H locs hM => ?_)
  refine lv_pop hx hb dX5_becomeLike_4 rfl ?_
  refine lv_iconst (v := 0) hx hb dX5_becomeLike_5 (by decide) ?_
  refine lv_istore_n (lv' := [(2, .int (0 : Int32)), (0, .ref (eA E o)), (1, .ref (eA E a1))]) hx hb dX5_becomeLike_6 rfl hl (by decide) rfl (fun ls hl => ?_)
  exact w_X5_becomeLike_b7 l ho ha1 hX  FU _ _  hf _ _ hM _ (lv_sub hl [1, 2, 0] rfl)
theorem c_X5_becomeLike (l : Launch) {o : Nat} {a1 : Nat} (ho : knd o = 3) (ha1 : knd a1 = 3) {μ μ2 : Mem} (hf : f_X5_becomeLike o a1 μ = some μ2) : CT E l yX5_becomeLike cX5_becomeLike 3 none (rmF 1 22) [.ref (eA E o), .ref (eA E a1)] μ (none) μ2 := CT.of (show plainFor yX5_becomeLike = true by decide +kernel) (Nat.le_of_ble_eq_true rfl) rfl (fun _ _ _ _ _ _ _ _ hX hM hl => w_X5_becomeLike l ho ha1 hf hX hM hl)
theorem mv_X5_becomeLike : MV yX5_becomeLike cX5_becomeLike 3 none RX5 1 := ⟨q_47_15, q_47_13, q_47_14, q_3_22, by decide +kernel⟩
def f_X9_become (o : Nat) (a1 : Int32) (a2 : Int32) (μ : Mem) : Option (Mem) :=
  lt (sI μ o 1 a1) (fun μ1 => lt (sI μ1 o 2 a2) (fun μ2 => bnv (f_J7_fill_d0a16 (rf o 0) (0 : Int64) μ2) (fun μ3 => some μ3)))
set_option maxHeartbeats 4000000 in
set_option maxRecDepth 100000 in
theorem w_X9_become (l : Launch) {o : Nat} {a1 : Int32} {a2 : Int32} (ho : knd o = 7) {μ μ2 : Mem} {H : Heap} {locs : List Loc} {ls : Array Slot} (hf : f_X9_become o a1 a2 μ = some μ2) (hX : XX E p m meth c cX9_become 3 none s args RX9) (hM : MM E s μ H locs) (hl : lv_has ls 3 [(0, .ref (eA E o)), (1, .int a1), (2, .int a2)]) : W p l e (rmF 1 24) s m args below meth c H locs 0 0 (MQ below (QC E (none) μ2) args s 0 0 (AA E)) (F0 m 0 ls []) := by
  obtain ⟨⟨hx, hb, hml, hown, hts⟩, hXr⟩ := id hX
  unfold f_X9_become at hf
  refine lv_aload_n hx hb dX9_become_0 rfl (lv_at hl 0 rfl) ?_
  refine lv_iload_n hx hb dX9_become_1 rfl (lv_at hl 1 rfl) ?_
  refine pf_7_1 hX hM ho q_6_15 dX9_become_2 (fun μ1 H locs eμ1 hM => ?_)
  replace hf := lt_e eμ1 hf
  refine lv_aload_n hx hb dX9_become_5 rfl (lv_at hl 0 rfl) ?_
  refine lv_iload_n hx hb dX9_become_6 rfl (lv_at hl 2 rfl) ?_
  refine pf_7_2 hX hM ho q_6_16 dX9_become_7 (fun μ2 H locs eμ2 hM => ?_)
  replace hf := lt_e eμ2 hf
  refine lv_aload_n hx hb dX9_become_10 rfl (lv_at hl 0 rfl) ?_
  refine gf_7_0 hX hM ho q_6_14 dX9_become_11 ?_
  refine lv_lconst (v := 0) hx hb dX9_become_14 (by decide) ?_
  replace hf := bnv_some hf
  obtain ⟨μ3, h15, hf⟩ := hf
  refine cl_S (As := [.ref (eA E (rf o 0)), .long (0 : Int64)]) (rest := []) (st2 := []) (n := 2) hX hM (c_J7_fill_d0a16 l (kr_7_0 ho) h15) mt_J7_fill_d0a16 q_49_3 ⟨rfl, rfl⟩ ⟨Nat.le_of_ble_eq_true rfl, Nat.le_of_ble_eq_true rfl⟩ rfl hl.1 rfl (Nat.le_of_ble_eq_true rfl) dX9_become_15 rfl (fun H locs hM => ?_)
  exact rt_v hX hM rfl (Option.some.inj hf) dX9_become_18
theorem c_X9_become (l : Launch) {o : Nat} {a1 : Int32} {a2 : Int32} (ho : knd o = 7) {μ μ2 : Mem} (hf : f_X9_become o a1 a2 μ = some μ2) : CT E l yX9_become cX9_become 3 none (rmF 1 24) [.ref (eA E o), .int a1, .int a2] μ (none) μ2 := CT.of (show plainFor yX9_become = true by decide +kernel) (Nat.le_of_ble_eq_true rfl) rfl (fun _ _ _ _ _ _ _ _ hX hM hl => w_X9_become l ho hf hX hM hl)
theorem mv_X9_become : MV yX9_become cX9_become 3 none RX9 2 := ⟨q_49_2, q_49_0, q_49_1, q_2_15, by decide +kernel⟩
def f_X9_fitted (o : Nat) (a1 : Int64) (μ : Mem) : Option (Int64 × Mem) :=
  (if (μ.1 o 1) = (0 : Int32) then some (a1.toInt32.toInt8.toInt32.toInt64, μ) else (if (μ.1 o 1) = (1 : Int32) then some (a1.toInt32.toInt16.toInt32.toInt64, μ) else (if (μ.1 o 1) = (2 : Int32) then some (a1.toInt32.toInt64, μ) else (if (μ.1 o 1) = (3 : Int32) then some (a1, μ) else (if (μ.1 o 1) = (4 : Int32) then (if (lg_cmp a1 (0 : Int64)) = 0 then some ((0 : Int64), μ) else some ((1 : Int64), μ)) else some (a1, μ))))))
set_option maxHeartbeats 4000000 in
set_option maxRecDepth 100000 in
theorem w_X9_fitted (l : Launch) {o : Nat} {a1 : Int64} (ho : knd o = 7) {μ μ2 : Mem} {r : Int64} {H : Heap} {locs : List Loc} {ls : Array Slot} (hf : f_X9_fitted o a1 μ = some (r, μ2)) (hX : XX E p m meth c cX9_fitted 3 (some .long) s args RX9) (hM : MM E s μ H locs) (hl : lv_has ls 3 [(0, .ref (eA E o)), (1, .long a1)]) : W p l e (rmF 0 0) s m args below meth c H locs 0 0 (MQ below (QC E (some (.long r)) μ2) args s 0 0 (AA E)) (F0 m 0 ls []) := by
  obtain ⟨⟨hx, hb, hml, hown, hts⟩, hXr⟩ := id hX
  unfold f_X9_fitted at hf
  refine lv_aload_n hx hb dX9_fitted_0 rfl (lv_at hl 0 rfl) ?_
  refine gf_7_1 hX hM ho q_6_15 dX9_fitted_1 ?_
  by_cases hs4_0 : (μ.1 o 1) = (0 : Int32)
  · replace hf := it_t hf hs4_0
    refine lv_tableIn (off := 36) (tgt := 40) hx hb dX9_fitted_4 (by rw [hs4_0]; decide) (by rw [hs4_0]; decide) (by rw [hs4_0]; rfl) (by decide) ?_
    refine lv_lload_n hx hb dX9_fitted_40 rfl (lv_at hl 1 rfl) ?_
    refine lv_l2i hx hb dX9_fitted_41 rfl ?_
    refine lv_i2b hx hb dX9_fitted_42 rfl ?_
    refine lv_i2l hx hb dX9_fitted_43 rfl ?_
    exact rt_l hX hM (congrArg (fun z => some (Value.long z)) (so_1 hf)) (so_2 hf) dX9_fitted_44
  · replace hf := it_f hf hs4_0
    by_cases hs4_1 : (μ.1 o 1) = (1 : Int32)
    · replace hf := it_t hf hs4_1
      refine lv_tableIn (off := 41) (tgt := 45) hx hb dX9_fitted_4 (by rw [hs4_1]; decide) (by rw [hs4_1]; decide) (by rw [hs4_1]; rfl) (by decide) ?_
      refine lv_lload_n hx hb dX9_fitted_45 rfl (lv_at hl 1 rfl) ?_
      refine lv_l2i hx hb dX9_fitted_46 rfl ?_
      refine lv_i2s hx hb dX9_fitted_47 rfl ?_
      refine lv_i2l hx hb dX9_fitted_48 rfl ?_
      exact rt_l hX hM (congrArg (fun z => some (Value.long z)) (so_1 hf)) (so_2 hf) dX9_fitted_49
    · replace hf := it_f hf hs4_1
      by_cases hs4_2 : (μ.1 o 1) = (2 : Int32)
      · replace hf := it_t hf hs4_2
        refine lv_tableIn (off := 46) (tgt := 50) hx hb dX9_fitted_4 (by rw [hs4_2]; decide) (by rw [hs4_2]; decide) (by rw [hs4_2]; rfl) (by decide) ?_
        refine lv_lload_n hx hb dX9_fitted_50 rfl (lv_at hl 1 rfl) ?_
        refine lv_l2i hx hb dX9_fitted_51 rfl ?_
        refine lv_i2l hx hb dX9_fitted_52 rfl ?_
        exact rt_l hX hM (congrArg (fun z => some (Value.long z)) (so_1 hf)) (so_2 hf) dX9_fitted_53
      · replace hf := it_f hf hs4_2
        by_cases hs4_3 : (μ.1 o 1) = (3 : Int32)
        · replace hf := it_t hf hs4_3
          refine lv_tableIn (off := 62) (tgt := 66) hx hb dX9_fitted_4 (by rw [hs4_3]; decide) (by rw [hs4_3]; decide) (by rw [hs4_3]; rfl) (by decide) ?_
          refine lv_lload_n hx hb dX9_fitted_66 rfl (lv_at hl 1 rfl) ?_
          exact rt_l hX hM (congrArg (fun z => some (Value.long z)) (so_1 hf)) (so_2 hf) dX9_fitted_67
        · replace hf := it_f hf hs4_3
          by_cases hs4_4 : (μ.1 o 1) = (4 : Int32)
          · replace hf := it_t hf hs4_4
            refine lv_tableIn (off := 50) (tgt := 54) hx hb dX9_fitted_4 (by rw [hs4_4]; decide) (by rw [hs4_4]; decide) (by rw [hs4_4]; rfl) (by decide) ?_
            refine lv_lload_n hx hb dX9_fitted_54 rfl (lv_at hl 1 rfl) ?_
            refine lv_lconst (v := 0) hx hb dX9_fitted_55 (by decide) ?_
            refine W.lcmp hx hb dX9_fitted_56 ?_
            refine lv_if_eq (tgt := 64) hx hb dX9_fitted_57 (by decide) (fun hc57 => ?_) (fun hc57 => ?_)
            · replace hf := it_t hf hc57
              refine lv_lconst (v := 0) hx hb dX9_fitted_64 (by decide) ?_
              exact rt_l hX hM (congrArg (fun z => some (Value.long z)) (so_1 hf)) (so_2 hf) dX9_fitted_65
            · replace hf := it_f hf hc57
              refine lv_lconst (v := 1) hx hb dX9_fitted_60 (by decide) ?_
              refine lv_goto (tgt := 65) hx hb dX9_fitted_61 (by decide) ?_
              exact rt_l hX hM (congrArg (fun z => some (Value.long z)) (so_1 hf)) (so_2 hf) dX9_fitted_65
          · replace hf := it_f hf hs4_4
            have hq : ((μ.1 o 1)).toInt < 0 ∨ 4 < ((μ.1 o 1)).toInt := by
              have n0 := lv_neT hs4_0 (a := 0) rfl
              have n1 := lv_neT hs4_1 (a := 1) rfl
              have n2 := lv_neT hs4_2 (a := 2) rfl
              have n3 := lv_neT hs4_3 (a := 3) rfl
              have n4 := lv_neT hs4_4 (a := 4) rfl
              omega
            refine lv_tableOut (tgt := 66) hx hb dX9_fitted_4 hq (by decide) ?_
            refine lv_lload_n hx hb dX9_fitted_66 rfl (lv_at hl 1 rfl) ?_
            exact rt_l hX hM (congrArg (fun z => some (Value.long z)) (so_1 hf)) (so_2 hf) dX9_fitted_67
theorem c_X9_fitted (l : Launch) {o : Nat} {a1 : Int64} (ho : knd o = 7) {μ μ2 : Mem} {r : Int64} (hf : f_X9_fitted o a1 μ = some (r, μ2)) : CT E l yX9_fitted cX9_fitted 3 (some .long) (rmF 0 0) [.ref (eA E o), .long a1] μ (some (.long r)) μ2 := CT.of (show plainFor yX9_fitted = true by decide +kernel) (Nat.le_of_ble_eq_true rfl) rfl (fun _ _ _ _ _ _ _ _ hX hM hl => w_X9_fitted l ho hf hX hM hl)
theorem mv_X9_fitted : MV yX9_fitted cX9_fitted 3 (some .long) RX9 1 := ⟨q_49_21, q_49_19, q_49_20, q_2_15, by decide +kernel⟩
def f_X9_put (o : Nat) (a1 : Int32) (a2 : Int64) (μ : Mem) : Option (Mem) :=
  bnd (f_X10_below a1 (μ.1 o 2) μ) (fun r2 μ1 => (if r2 = 0 then some μ1 else bnd (f_X9_fitted o a2 μ1) (fun r4 μ3 => gA a1 (aln (rf o 0)) (lt (sL μ3 (rf o 0) a1.toNatClampNeg r4) (fun μ5 => some μ5)))))
set_option maxHeartbeats 4000000 in
set_option maxRecDepth 100000 in
theorem w_X9_put (l : Launch) {o : Nat} {a1 : Int32} {a2 : Int64} (ho : knd o = 7) {μ μ2 : Mem} {H : Heap} {locs : List Loc} {ls : Array Slot} (hf : f_X9_put o a1 a2 μ = some μ2) (hX : XX E p m meth c cX9_put 4 none s args RX9) (hM : MM E s μ H locs) (hl : lv_has ls 4 [(0, .ref (eA E o)), (1, .int a1), (2, .long a2)]) : W p l e (rmF 1 22) s m args below meth c H locs 0 0 (MQ below (QC E (none) μ2) args s 0 0 (AA E)) (F0 m 0 ls []) := by
  obtain ⟨⟨hx, hb, hml, hown, hts⟩, hXr⟩ := id hX
  unfold f_X9_put at hf
  refine lv_iload_n hx hb dX9_put_0 rfl (lv_at hl 1 rfl) ?_
  refine lv_aload_n hx hb dX9_put_1 rfl (lv_at hl 0 rfl) ?_
  refine gf_7_2 hX hM ho q_6_16 dX9_put_2 ?_
  replace hf := bnd_some hf
  obtain ⟨r2, μ1, h5, hf⟩ := hf
  refine cl_N (As := [.int a1, .int (μ.1 o 2)]) (rest := []) (st2 := [.int r2]) (n := 2) hX hM (c_X10_below l  h5) mt_X10_below (hXr.2.2.1.2.1.2.2.2) ⟨rfl, rfl⟩ ⟨Nat.le_of_ble_eq_true rfl, Nat.le_of_ble_eq_true rfl⟩ rfl hl.1 rfl (Nat.le_of_ble_eq_true rfl) dX9_put_5 rfl (fun H locs hM => ?_)
  refine lv_if_eq (tgt := 22) hx hb dX9_put_8 (by decide) (fun hc8 => ?_) (fun hc8 => ?_)
  · replace hf := it_t hf hc8
    exact rt_v hX hM rfl (Option.some.inj hf) dX9_put_22
  · replace hf := it_f hf hc8
    refine lv_aload_n hx hb dX9_put_11 rfl (lv_at hl 0 rfl) ?_
    refine gf_7_0 hX hM ho q_6_14 dX9_put_12 ?_
    refine lv_iload_n hx hb dX9_put_15 rfl (lv_at hl 1 rfl) ?_
    refine lv_aload_n hx hb dX9_put_16 rfl (lv_at hl 0 rfl) ?_
    refine lv_lload_n hx hb dX9_put_17 rfl (lv_at hl 2 rfl) ?_
    replace hf := bnd_some hf
    obtain ⟨r4, μ3, h18, hf⟩ := hf
    refine cl_V (As := [.long a2]) (rest := [.int a1, .ref (eA E (rf o 0))]) (st2 := [.long r4, .int a1, .ref (eA E (rf o 0))]) (n := 1) hX hM (c_X9_fitted l ho h18) mv_X9_fitted q_49_18 ⟨rfl, rfl⟩ ⟨Nat.le_of_ble_eq_true rfl, Nat.le_of_ble_eq_true rfl⟩ ho (by decide) rfl rfl rfl hl.1 rfl (Nat.le_of_ble_eq_true rfl) dX9_put_18 rfl (fun H locs hM => ?_)
    replace hf := gA_some hf
    obtain ⟨hi, hf⟩ := hf
    refine lst hX hM (kr_7_0 ho) hi dX9_put_21 (fun μ5 H locs eμ5 hM => ?_)
    replace hf := lt_e eμ5 hf
    exact rt_v hX hM rfl (Option.some.inj hf) dX9_put_22
theorem c_X9_put (l : Launch) {o : Nat} {a1 : Int32} {a2 : Int64} (ho : knd o = 7) {μ μ2 : Mem} (hf : f_X9_put o a1 a2 μ = some μ2) : CT E l yX9_put cX9_put 4 none (rmF 1 22) [.ref (eA E o), .int a1, .long a2] μ (none) μ2 := CT.of (show plainFor yX9_put = true by decide +kernel) (Nat.le_of_ble_eq_true rfl) rfl (fun _ _ _ _ _ _ _ _ hX hM hl => w_X9_put l ho hf hX hM hl)
theorem mv_X9_put : MV yX9_put cX9_put 4 none RX9 2 := ⟨q_49_17, q_49_15, q_49_16, q_2_15, by decide +kernel⟩
def f_X9_has (o : Nat) (a1 : Int32) (a2 : Int32) (μ : Mem) : Option (Int32 × Mem) :=
  (if a1 < 0 then some ((0 : Int32), μ) else (if a2 < 0 then some ((0 : Int32), μ) else (if (μ.1 o 2) < a1 then some ((0 : Int32), μ) else (if ((μ.1 o 2) - a1) < a2 then some ((0 : Int32), μ) else some ((1 : Int32), μ)))))
set_option maxHeartbeats 4000000 in
set_option maxRecDepth 100000 in
theorem w_X9_has (l : Launch) {o : Nat} {a1 : Int32} {a2 : Int32} (ho : knd o = 7) {μ μ2 : Mem} {r : Int32} {H : Heap} {locs : List Loc} {ls : Array Slot} (hf : f_X9_has o a1 a2 μ = some (r, μ2)) (hX : XX E p m meth c cX9_has 3 (some .boolean) s args RX9) (hM : MM E s μ H locs) (hl : lv_has ls 3 [(0, .ref (eA E o)), (1, .int a1), (2, .int a2)]) : W p l e (rmF 0 0) s m args below meth c H locs 0 0 (MQ below (QC E (some (.int r)) μ2) args s 0 0 (AA E)) (F0 m 0 ls []) := by
  obtain ⟨⟨hx, hb, hml, hown, hts⟩, hXr⟩ := id hX
  unfold f_X9_has at hf
  refine lv_iload_n hx hb dX9_has_0 rfl (lv_at hl 1 rfl) ?_
  refine lv_if_lt (tgt := 30) hx hb dX9_has_1 (by decide) (fun hc1 => ?_) (fun hc1 => ?_)
  · replace hf := it_t hf hc1
    refine lv_iconst (v := 0) hx hb dX9_has_30 (by decide) ?_
    exact rt_z hX hM rfl (congrArg (fun z => some (Value.int z)) (so_1 hf)) (so_2 hf) dX9_has_31
  · replace hf := it_f hf hc1
    refine lv_iload_n hx hb dX9_has_4 rfl (lv_at hl 2 rfl) ?_
    refine lv_if_lt (tgt := 30) hx hb dX9_has_5 (by decide) (fun hc5 => ?_) (fun hc5 => ?_)
    · replace hf := it_t hf hc5
      refine lv_iconst (v := 0) hx hb dX9_has_30 (by decide) ?_
      exact rt_z hX hM rfl (congrArg (fun z => some (Value.int z)) (so_1 hf)) (so_2 hf) dX9_has_31
    · replace hf := it_f hf hc5
      refine lv_iload_n hx hb dX9_has_8 rfl (lv_at hl 1 rfl) ?_
      refine lv_aload_n hx hb dX9_has_9 rfl (lv_at hl 0 rfl) ?_
      refine gf_7_2 hX hM ho q_6_16 dX9_has_10 ?_
      refine lv_icmp_gt (tgt := 30) hx hb dX9_has_13 (by decide) (fun hc13 => ?_) (fun hc13 => ?_)
      · replace hf := it_t hf hc13
        refine lv_iconst (v := 0) hx hb dX9_has_30 (by decide) ?_
        exact rt_z hX hM rfl (congrArg (fun z => some (Value.int z)) (so_1 hf)) (so_2 hf) dX9_has_31
      · replace hf := it_f hf hc13
        refine lv_iload_n hx hb dX9_has_16 rfl (lv_at hl 2 rfl) ?_
        refine lv_aload_n hx hb dX9_has_17 rfl (lv_at hl 0 rfl) ?_
        refine gf_7_2 hX hM ho q_6_16 dX9_has_18 ?_
        refine lv_iload_n hx hb dX9_has_21 rfl (lv_at hl 1 rfl) ?_
        refine lv_isub hx hb dX9_has_22 ?_
        refine lv_icmp_gt (tgt := 30) hx hb dX9_has_23 (by decide) (fun hc23 => ?_) (fun hc23 => ?_)
        · replace hf := it_t hf hc23
          refine lv_iconst (v := 0) hx hb dX9_has_30 (by decide) ?_
          exact rt_z hX hM rfl (congrArg (fun z => some (Value.int z)) (so_1 hf)) (so_2 hf) dX9_has_31
        · replace hf := it_f hf hc23
          refine lv_iconst (v := 1) hx hb dX9_has_26 (by decide) ?_
          refine lv_goto (tgt := 31) hx hb dX9_has_27 (by decide) ?_
          exact rt_z hX hM rfl (congrArg (fun z => some (Value.int z)) (so_1 hf)) (so_2 hf) dX9_has_31
theorem c_X9_has (l : Launch) {o : Nat} {a1 : Int32} {a2 : Int32} (ho : knd o = 7) {μ μ2 : Mem} {r : Int32} (hf : f_X9_has o a1 a2 μ = some (r, μ2)) : CT E l yX9_has cX9_has 3 (some .boolean) (rmF 0 0) [.ref (eA E o), .int a1, .int a2] μ (some (.int r)) μ2 := CT.of (show plainFor yX9_has = true by decide +kernel) (Nat.le_of_ble_eq_true rfl) rfl (fun _ _ _ _ _ _ _ _ hX hM hl => w_X9_has l ho hf hX hM hl)
theorem mv_X9_has : MV yX9_has cX9_has 3 (some .boolean) RX9 2 := ⟨q_50_20, q_50_18, q_50_19, q_2_15, by decide +kernel⟩
def f_X9_take (o : Nat) (a1 : Nat) (a2 : Int32) (a3 : Int32) (a4 : Int32) (μ : Mem) : Option (Mem) :=
  bnd (f_X9_has a1 a2 a4 μ) (fun r2 μ1 => (if r2 = 0 then some μ1 else bnd (f_X9_has o a3 a4 μ1) (fun r4 μ3 => (if r4 = 0 then some μ3 else gP (cp_ok a2 a3 a4 (aln (rf a1 0)) (aln (rf o 0))) (lt (cpL μ3 (rf a1 0) (rf o 0) a2 a3 a4) (fun μ5 => some μ5))))))
set_option maxHeartbeats 4000000 in
set_option maxRecDepth 100000 in
theorem w_X9_take (l : Launch) {o : Nat} {a1 : Nat} {a2 : Int32} {a3 : Int32} {a4 : Int32} (ho : knd o = 7) (ha1 : knd a1 = 7) {μ μ2 : Mem} {H : Heap} {locs : List Loc} {ls : Array Slot} (hf : f_X9_take o a1 a2 a3 a4 μ = some μ2) (hX : XX E p m meth c cX9_take 5 none s args RX9) (hM : MM E s μ H locs) (hl : lv_has ls 5 [(0, .ref (eA E o)), (1, .ref (eA E a1)), (2, .int a2), (3, .int a3), (4, .int a4)]) : W p l e (rmF 1 40) s m args below meth c H locs 0 0 (MQ below (QC E (none) μ2) args s 0 0 (AA E)) (F0 m 0 ls []) := by
  obtain ⟨⟨hx, hb, hml, hown, hts⟩, hXr⟩ := id hX
  unfold f_X9_take at hf
  refine lv_aload_n hx hb dX9_take_0 rfl (lv_at hl 1 rfl) ?_
  refine lv_iload_n hx hb dX9_take_1 rfl (lv_at hl 2 rfl) ?_
  refine lv_iload hx hb dX9_take_2 (lv_at hl 4 rfl) ?_
  replace hf := bnd_some hf
  obtain ⟨r2, μ1, h4, hf⟩ := hf
  refine cl_V (As := [.int a2, .int a4]) (rest := []) (st2 := [.int r2]) (n := 2) hX hM (c_X9_has l ha1 h4) mv_X9_has q_51_2 ⟨rfl, rfl⟩ ⟨Nat.le_of_ble_eq_true rfl, Nat.le_of_ble_eq_true rfl⟩ ha1 (by decide) rfl rfl rfl hl.1 rfl (Nat.le_of_ble_eq_true rfl) dX9_take_4 rfl (fun H locs hM => ?_)
  refine lv_if_eq (tgt := 35) hx hb dX9_take_7 (by decide) (fun hc7 => ?_) (fun hc7 => ?_)
  · replace hf := it_t hf hc7
    exact rt_v hX hM rfl (Option.some.inj hf) dX9_take_35
  · replace hf := it_f hf hc7
    refine lv_aload_n hx hb dX9_take_10 rfl (lv_at hl 0 rfl) ?_
    refine lv_iload_n hx hb dX9_take_11 rfl (lv_at hl 3 rfl) ?_
    refine lv_iload hx hb dX9_take_12 (lv_at hl 4 rfl) ?_
    replace hf := bnd_some hf
    obtain ⟨r4, μ3, h14, hf⟩ := hf
    refine cl_V (As := [.int a3, .int a4]) (rest := []) (st2 := [.int r4]) (n := 2) hX hM (c_X9_has l ho h14) mv_X9_has q_51_2 ⟨rfl, rfl⟩ ⟨Nat.le_of_ble_eq_true rfl, Nat.le_of_ble_eq_true rfl⟩ ho (by decide) rfl rfl rfl hl.1 rfl (Nat.le_of_ble_eq_true rfl) dX9_take_14 rfl (fun H locs hM => ?_)
    refine lv_if_eq (tgt := 35) hx hb dX9_take_17 (by decide) (fun hc17 => ?_) (fun hc17 => ?_)
    · replace hf := it_t hf hc17
      exact rt_v hX hM rfl (Option.some.inj hf) dX9_take_35
    · replace hf := it_f hf hc17
      refine lv_aload_n hx hb dX9_take_20 rfl (lv_at hl 1 rfl) ?_
      refine gf_7_0 hX hM ha1 q_6_14 dX9_take_21 ?_
      refine lv_iload_n hx hb dX9_take_24 rfl (lv_at hl 2 rfl) ?_
      refine lv_aload_n hx hb dX9_take_25 rfl (lv_at hl 0 rfl) ?_
      refine gf_7_0 hX hM ho q_6_14 dX9_take_26 ?_
      refine lv_iload_n hx hb dX9_take_29 rfl (lv_at hl 3 rfl) ?_
      refine lv_iload hx hb dX9_take_30 (lv_at hl 4 rfl) ?_
      replace hf := gP_some hf
      obtain ⟨hz, hf⟩ := hf
      refine cpL_row (rest := []) hX hM (kr_7_0 ha1) (kr_7_0 ho) (cp_e hz) (hml.trans hl.1.symm) q_51_1 (Nat.le_of_ble_eq_true rfl) (Nat.le_of_ble_eq_true rfl) dX9_take_32 (fun μ5 H locs eμ5 hM => ?_)
      replace hf := lt_e eμ5 hf
      exact rt_v hX hM rfl (Option.some.inj hf) dX9_take_35
theorem c_X9_take (l : Launch) {o : Nat} {a1 : Nat} {a2 : Int32} {a3 : Int32} {a4 : Int32} (ho : knd o = 7) (ha1 : knd a1 = 7) {μ μ2 : Mem} (hf : f_X9_take o a1 a2 a3 a4 μ = some μ2) : CT E l yX9_take cX9_take 5 none (rmF 1 40) [.ref (eA E o), .ref (eA E a1), .int a2, .int a3, .int a4] μ (none) μ2 := CT.of (show plainFor yX9_take = true by decide +kernel) (Nat.le_of_ble_eq_true rfl) rfl (fun _ _ _ _ _ _ _ _ hX hM hl => w_X9_take l ho ha1 hf hX hM hl)
theorem mv_X9_take : MV yX9_take cX9_take 5 none RX9 4 := ⟨q_51_0, q_50_22, q_50_23, q_2_15, by decide +kernel⟩
end PG
