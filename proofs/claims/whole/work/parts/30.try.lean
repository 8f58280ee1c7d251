section PG
variable {p : Program} {e : Env} {s : State} {m : MethodId} {args : Array Value} {below : List Frame} {meth : Method} {c : Code} {E : EE}
def f_X10_below (a0 : Int32) (a1 : Int32) (μ : Mem) : Option (Int32 × Mem) :=
  (if a0 < 0 then some ((0 : Int32), μ) else (if a1 ≤ a0 then some ((0 : Int32), μ) else some ((1 : Int32), μ)))
set_option maxHeartbeats 4000000 in
set_option maxRecDepth 100000 in
theorem w_X10_below (l : Launch) {a0 : Int32} {a1 : Int32}  {μ μ2 : Mem} {r : Int32} {H : Heap} {locs : List Loc} {ls : Array Slot} (hf : f_X10_below a0 a1 μ = some (r, μ2)) (hX : XX E p m meth c cX10_below 2 (some .boolean) s args RX10) (hM : MM E s μ H locs) (hl : lv_has ls 2 [(0, .int a0), (1, .int a1)]) : W p l e (rmF 0 0) s m args below meth c H locs 0 0 (MQ below (QC E (some (.int r)) μ2) args s 0 0 (AA E)) (F0 m 0 ls []) := by
  obtain ⟨⟨hx, hb, hml, hown, hts⟩, hXr⟩ := id hX
  unfold f_X10_below at hf
  refine lv_iload_n hx hb dX10_below_0 rfl (lv_at hl 0 rfl) ?_
  refine lv_if_lt (tgt := 13) hx hb dX10_below_1 (by decide) (fun hc1 => ?_) (fun hc1 => ?_)
  · replace hf := it_t hf hc1
    refine lv_iconst (v := 0) hx hb dX10_below_13 (by decide) ?_
    exact rt_z hX hM rfl (congrArg (fun z => some (Value.int z)) (so_1 hf)) (so_2 hf) dX10_below_14
  · replace hf := it_f hf hc1
    refine lv_iload_n hx hb dX10_below_4 rfl (lv_at hl 0 rfl) ?_
    refine lv_iload_n hx hb dX10_below_5 rfl (lv_at hl 1 rfl) ?_
    refine lv_icmp_ge (tgt := 13) hx hb dX10_below_6 (by decide) (fun hc6 => ?_) (fun hc6 => ?_)
    · replace hf := it_t hf hc6
      refine lv_iconst (v := 0) hx hb dX10_below_13 (by decide) ?_
      exact rt_z hX hM rfl (congrArg (fun z => some (Value.int z)) (so_1 hf)) (so_2 hf) dX10_below_14
    · replace hf := it_f hf hc6
      refine lv_iconst (v := 1) hx hb dX10_below_9 (by decide) ?_
      refine lv_goto (tgt := 14) hx hb dX10_below_10 (by decide) ?_
      exact rt_z hX hM rfl (congrArg (fun z => some (Value.int z)) (so_1 hf)) (so_2 hf) dX10_below_14
theorem c_X10_below (l : Launch) {a0 : Int32} {a1 : Int32}  {μ μ2 : Mem} {r : Int32} (hf : f_X10_below a0 a1 μ = some (r, μ2)) : CT E l yX10_below cX10_below 2 (some .boolean) (rmF 0 0) [.int a0, .int a1] μ (some (.int r)) μ2 := CT.of pl_RX10 (Nat.le_of_ble_eq_true rfl) rfl (fun _ _ _ _ _ _ _ _ hX hM hl => w_X10_below l  hf hX hM hl)
theorem mt_X10_below : MT yX10_below cX10_below 2 (some .boolean) 2 := ⟨q_8_3, q_8_2, q_1_2, by decide +kernel⟩
def f_X2_turnBetween_b14 (a0 : Int32) (a1 : Int32)  (t0 : Int32) (μ : Mem) : Option (Int32 × Mem) :=
  (if t0 ≤ (4 : Int32) then some (t0, μ) else some (((8 : Int32) - t0), μ))
set_option maxHeartbeats 4000000 in
set_option maxRecDepth 100000 in
theorem w_X2_turnBetween_b14 (l : Launch) {a0 : Int32} {a1 : Int32}  {μ2 : Mem} {r : Int32}   {t0 : Int32} {μ : Mem} {H : Heap} {locs : List Loc} {ls : Array Slot}  (hf : f_X2_turnBetween_b14 a0 a1  t0 μ = some (r, μ2)) (hX : XX E p m meth c cX2_turnBetween 3 (some .int) s args RX2) (hM : MM E s μ H locs) (hl : lv_has ls 3 [(0, .int a0), (1, .int a1)]) : W p l e (rmF 0 0) s m args below meth c H locs 0 0 (MQ below (QC E (some (.int r)) μ2) args s 0 0 (AA E)) (F0 m 14 ls [.int t0]) := by
  obtain ⟨⟨hx, hb, hml, hown, hts⟩, hXr⟩ := id hX
  unfold f_X2_turnBetween_b14 at hf
  refine lv_istore_n (lv' := [(2, .int t0), (0, .int a0), (1, .int a1)]) hx hb dX2_turnBetween_14 rfl hl (by decide) rfl (fun ls hl => ?_)
  refine lv_iload_n hx hb dX2_turnBetween_15 rfl (lv_at hl 0 rfl) ?_
  refine lv_iconst (v := 4) hx hb dX2_turnBetween_16 (by decide) ?_
  refine lv_icmp_le (tgt := 27) hx hb dX2_turnBetween_17 (by decide) (fun hc17 => ?_) (fun hc17 => ?_)
  · replace hf := it_t hf hc17
    refine lv_iload_n hx hb dX2_turnBetween_27 rfl (lv_at hl 0 rfl) ?_
    exact rt_i hX hM (congrArg (fun z => some (Value.int z)) (so_1 hf)) (so_2 hf) dX2_turnBetween_28
  · replace hf := it_f hf hc17
    refine lv_bipush (v := 8) hx hb dX2_turnBetween_20 (by decide) ?_
    refine lv_iload_n hx hb dX2_turnBetween_22 rfl (lv_at hl 0 rfl) ?_
    refine lv_isub hx hb dX2_turnBetween_23 ?_
    refine lv_goto (tgt := 28) hx hb dX2_turnBetween_24 (by decide) ?_
    exact rt_i hX hM (congrArg (fun z => some (Value.int z)) (so_1 hf)) (so_2 hf) dX2_turnBetween_28
def f_X2_turnBetween (a0 : Int32) (a1 : Int32) (μ : Mem) : Option (Int32 × Mem) :=
  (if a1 ≤ a0 then f_X2_turnBetween_b14 a0 a1  (a0 - a1) μ else f_X2_turnBetween_b14 a0 a1  (a1 - a0) μ)
set_option maxHeartbeats 4000000 in
set_option maxRecDepth 100000 in
theorem w_X2_turnBetween (l : Launch) {a0 : Int32} {a1 : Int32}  {μ μ2 : Mem} {r : Int32} {H : Heap} {locs : List Loc} {ls : Array Slot} (hf : f_X2_turnBetween a0 a1 μ = some (r, μ2)) (hX : XX E p m meth c cX2_turnBetween 3 (some .int) s args RX2) (hM : MM E s μ H locs) (hl : lv_has ls 3 [(0, .int a0), (1, .int a1)]) : W p l e (rmF 0 0) s m args below meth c H locs 0 0 (MQ below (QC E (some (.int r)) μ2) args s 0 0 (AA E)) (F0 m 0 ls []) := by
  obtain ⟨⟨hx, hb, hml, hown, hts⟩, hXr⟩ := id hX
  unfold f_X2_turnBetween at hf
  refine lv_iload_n hx hb dX2_turnBetween_0 rfl (lv_at hl 0 rfl) ?_
  refine lv_iload_n hx hb dX2_turnBetween_1 rfl (lv_at hl 1 rfl) ?_
  refine lv_icmp_ge (tgt := 11) hx hb dX2_turnBetween_2 (by decide) (fun hc2 => ?_) (fun hc2 => ?_)
  · replace hf := it_t hf hc2
    refine lv_iload_n hx hb dX2_turnBetween_11 rfl (lv_at hl 0 rfl) ?_
    refine lv_iload_n hx hb dX2_turnBetween_12 rfl (lv_at hl 1 rfl) ?_
    refine lv_isub hx hb dX2_turnBetween_13 ?_
    exact w_X2_turnBetween_b14 l    hf hX hM (lv_sub hl [0, 1] rfl)
  · replace hf := it_f hf hc2
    refine lv_iload_n hx hb dX2_turnBetween_5 rfl (lv_at hl 1 rfl) ?_
    refine lv_iload_n hx hb dX2_turnBetween_6 rfl (lv_at hl 0 rfl) ?_
    refine lv_isub hx hb dX2_turnBetween_7 ?_
    refine lv_goto (tgt := 14) hx hb dX2_turnBetween_8 (by decide) ?_
    exact w_X2_turnBetween_b14 l    hf hX hM (lv_sub hl [0, 1] rfl)
theorem c_X2_turnBetween (l : Launch) {a0 : Int32} {a1 : Int32}  {μ μ2 : Mem} {r : Int32} (hf : f_X2_turnBetween a0 a1 μ = some (r, μ2)) : CT E l yX2_turnBetween cX2_turnBetween 3 (some .int) (rmF 0 0) [.int a0, .int a1] μ (some (.int r)) μ2 := CT.of pl_RX2 (Nat.le_of_ble_eq_true rfl) rfl (fun _ _ _ _ _ _ _ _ hX hM hl => w_X2_turnBetween l  hf hX hM hl)
theorem mt_X2_turnBetween : MT yX2_turnBetween cX2_turnBetween 3 (some .int) 2 := ⟨q_13_21, q_13_19, q_13_20, by decide +kernel⟩
def f_X2_zoneOf (a0 : Int32) (μ : Mem) : Option (Int32 × Mem) :=
  some ((((2 : Int32) * ((a0 / (6 : Int32)) / (3 : Int32))) + ((a0 - a0 / (6 : Int32) * (6 : Int32)) / (3 : Int32))), μ)
set_option maxHeartbeats 4000000 in
set_option maxRecDepth 100000 in
theorem w_X2_zoneOf (l : Launch) {a0 : Int32}  {μ μ2 : Mem} {r : Int32} {H : Heap} {locs : List Loc} {ls : Array Slot} (hf : f_X2_zoneOf a0 μ = some (r, μ2)) (hX : XX E p m meth c cX2_zoneOf 1 (some .int) s args RX2) (hM : MM E s μ H locs) (hl : lv_has ls 1 [(0, .int a0)]) : W p l e (rmF 0 0) s m args below meth c H locs 0 0 (MQ below (QC E (some (.int r)) μ2) args s 0 0 (AA E)) (F0 m 0 ls []) := by
  obtain ⟨⟨hx, hb, hml, hown, hts⟩, hXr⟩ := id hX
  unfold f_X2_zoneOf at hf
  refine lv_iconst (v := 2) hx hb dX2_zoneOf_0 (by decide) ?_
  refine lv_iload_n hx hb dX2_zoneOf_1 rfl (lv_at hl 0 rfl) ?_
  refine lv_bipush (v := 6) hx hb dX2_zoneOf_2 (by decide) ?_
  refine lv_idiv hx hb dX2_zoneOf_4 (by decide) ?_
  refine lv_iconst (v := 3) hx hb dX2_zoneOf_5 (by decide) ?_
  refine lv_idiv hx hb dX2_zoneOf_6 (by decide) ?_
  refine lv_imul hx hb dX2_zoneOf_7 ?_
  refine lv_iload_n hx hb dX2_zoneOf_8 rfl (lv_at hl 0 rfl) ?_
  refine lv_bipush (v := 6) hx hb dX2_zoneOf_9 (by decide) ?_
  refine lv_irem hx hb dX2_zoneOf_11 (by decide) ?_
  refine lv_iconst (v := 3) hx hb dX2_zoneOf_12 (by decide) ?_
  refine lv_idiv hx hb dX2_zoneOf_13 (by decide) ?_
  refine lv_iadd hx hb dX2_zoneOf_14 ?_
  exact rt_i hX hM (congrArg (fun z => some (Value.int z)) (so_1 hf)) (so_2 hf) dX2_zoneOf_15
theorem c_X2_zoneOf (l : Launch) {a0 : Int32}  {μ μ2 : Mem} {r : Int32} (hf : f_X2_zoneOf a0 μ = some (r, μ2)) : CT E l yX2_zoneOf cX2_zoneOf 1 (some .int) (rmF 0 0) [.int a0] μ (some (.int r)) μ2 := CT.of pl_RX2 (Nat.le_of_ble_eq_true rfl) rfl (fun _ _ _ _ _ _ _ _ hX hM hl => w_X2_zoneOf l  hf hX hM hl)
theorem mt_X2_zoneOf : MT yX2_zoneOf cX2_zoneOf 1 (some .int) 1 := ⟨q_16_6, q_16_5, q_13_20, by decide +kernel⟩
def f_X2_spanOf (a0 : Int32) (μ : Mem) : Option (Int32 × Mem) :=
  some (((a0 / (360 : Int32)) - (a0 / (360 : Int32)) / (4 : Int32) * (4 : Int32)), μ)
set_option maxHeartbeats 4000000 in
set_option maxRecDepth 100000 in
theorem w_X2_spanOf (l : Launch) {a0 : Int32}  {μ μ2 : Mem} {r : Int32} {H : Heap} {locs : List Loc} {ls : Array Slot} (hf : f_X2_spanOf a0 μ = some (r, μ2)) (hX : XX E p m meth c cX2_spanOf 1 (some .int) s args RX2) (hM : MM E s μ H locs) (hl : lv_has ls 1 [(0, .int a0)]) : W p l e (rmF 0 0) s m args below meth c H locs 0 0 (MQ below (QC E (some (.int r)) μ2) args s 0 0 (AA E)) (F0 m 0 ls []) := by
  obtain ⟨⟨hx, hb, hml, hown, hts⟩, hXr⟩ := id hX
  unfold f_X2_spanOf at hf
  refine lv_iload_n hx hb dX2_spanOf_0 rfl (lv_at hl 0 rfl) ?_
  refine lv_sipush (v := 360) hx hb dX2_spanOf_1 (by decide) ?_
  refine lv_idiv hx hb dX2_spanOf_4 (by decide) ?_
  refine lv_iconst (v := 4) hx hb dX2_spanOf_5 (by decide) ?_
  refine lv_irem hx hb dX2_spanOf_6 (by decide) ?_
  exact rt_i hX hM (congrArg (fun z => some (Value.int z)) (so_1 hf)) (so_2 hf) dX2_spanOf_7
theorem c_X2_spanOf (l : Launch) {a0 : Int32}  {μ μ2 : Mem} {r : Int32} (hf : f_X2_spanOf a0 μ = some (r, μ2)) : CT E l yX2_spanOf cX2_spanOf 1 (some .int) (rmF 0 0) [.int a0] μ (some (.int r)) μ2 := CT.of pl_RX2 (Nat.le_of_ble_eq_true rfl) rfl (fun _ _ _ _ _ _ _ _ hX hM hl => w_X2_spanOf l  hf hX hM hl)
theorem mt_X2_spanOf : MT yX2_spanOf cX2_spanOf 1 (some .int) 1 := ⟨q_16_9, q_16_8, q_13_20, by decide +kernel⟩
def f_X2_lengthOf (a0 : Int32) (μ : Mem) : Option (Int32 × Mem) :=
  (if (a0 - a0 / (2 : Int32) * (2 : Int32)) = (1 : Int32) then some ((850 : Int32), μ) else some ((600 : Int32), μ))
set_option maxHeartbeats 4000000 in
set_option maxRecDepth 100000 in
theorem w_X2_lengthOf (l : Launch) {a0 : Int32}  {μ μ2 : Mem} {r : Int32} {H : Heap} {locs : List Loc} {ls : Array Slot} (hf : f_X2_lengthOf a0 μ = some (r, μ2)) (hX : XX E p m meth c cX2_lengthOf 1 (some .int) s args RX2) (hM : MM E s μ H locs) (hl : lv_has ls 1 [(0, .int a0)]) : W p l e (rmF 0 0) s m args below meth c H locs 0 0 (MQ below (QC E (some (.int r)) μ2) args s 0 0 (AA E)) (F0 m 0 ls []) := by
  obtain ⟨⟨hx, hb, hml, hown, hts⟩, hXr⟩ := id hX
  unfold f_X2_lengthOf at hf
  refine lv_iload_n hx hb dX2_lengthOf_0 rfl (lv_at hl 0 rfl) ?_
  refine lv_iconst (v := 2) hx hb dX2_lengthOf_1 (by decide) ?_
  refine lv_irem hx hb dX2_lengthOf_2 (by decide) ?_
  refine lv_iconst (v := 1) hx hb dX2_lengthOf_3 (by decide) ?_
  refine lv_icmp_ne (tgt := 13) hx hb dX2_lengthOf_4 (by decide) (fun hc4 => ?_) (fun hc4 => ?_)
  · replace hf := it_f hf hc4
    refine lv_sipush (v := 600) hx hb dX2_lengthOf_13 (by decide) ?_
    exact rt_i hX hM (congrArg (fun z => some (Value.int z)) (so_1 hf)) (so_2 hf) dX2_lengthOf_16
  · replace hf := it_t hf hc4
    refine lv_sipush (v := 850) hx hb dX2_lengthOf_7 (by decide) ?_
    refine lv_goto (tgt := 16) hx hb dX2_lengthOf_10 (by decide) ?_
    exact rt_i hX hM (congrArg (fun z => some (Value.int z)) (so_1 hf)) (so_2 hf) dX2_lengthOf_16
theorem c_X2_lengthOf (l : Launch) {a0 : Int32}  {μ μ2 : Mem} {r : Int32} (hf : f_X2_lengthOf a0 μ = some (r, μ2)) : CT E l yX2_lengthOf cX2_lengthOf 1 (some .int) (rmF 0 0) [.int a0] μ (some (.int r)) μ2 := CT.of pl_RX2 (Nat.le_of_ble_eq_true rfl) rfl (fun _ _ _ _ _ _ _ _ hX hM hl => w_X2_lengthOf l  hf hX hM hl)
theorem mt_X2_lengthOf : MT yX2_lengthOf cX2_lengthOf 1 (some .int) 1 := ⟨q_14_7, q_14_6, q_13_20, by decide +kernel⟩
def f_X6_fromIn (o : Nat) (a1 : Int32) (a2 : Int32) (μ : Mem) : Option (Int32 × Mem) :=
  gA ((a1 * (4 : Int32)) + a2) (aln (rf o 0)) (some ((μ.1 (rf o 0) ((a1 * (4 : Int32)) + a2).toNatClampNeg), μ))
set_option maxHeartbeats 4000000 in
set_option maxRecDepth 100000 in
theorem w_X6_fromIn (l : Launch) {o : Nat} {a1 : Int32} {a2 : Int32} (ho : knd o = 4) {μ μ2 : Mem} {r : Int32} {H : Heap} {locs : List Loc} {ls : Array Slot} (hf : f_X6_fromIn o a1 a2 μ = some (r, μ2)) (hX : XX E p m meth c cX6_fromIn 3 (some .int) s args RX6) (hM : MM E s μ H locs) (hl : lv_has ls 3 [(0, .ref (eA E o)), (1, .int a1), (2, .int a2)]) : W p l e (rmF 0 0) s m args below meth c H locs 0 0 (MQ below (QC E (some (.int r)) μ2) args s 0 0 (AA E)) (F0 m 0 ls []) := by
  obtain ⟨⟨hx, hb, hml, hown, hts⟩, hXr⟩ := id hX
  unfold f_X6_fromIn at hf
  refine lv_aload_n hx hb dX6_fromIn_0 rfl (lv_at hl 0 rfl) ?_
  refine gf_4_0 hX hM ho q_2_21 dX6_fromIn_1 ?_
  refine lv_iload_n hx hb dX6_fromIn_4 rfl (lv_at hl 1 rfl) ?_
  refine lv_iconst (v := 4) hx hb dX6_fromIn_5 (by decide) ?_
  refine lv_imul hx hb dX6_fromIn_6 ?_
  refine lv_iload_n hx hb dX6_fromIn_7 rfl (lv_at hl 2 rfl) ?_
  refine lv_iadd hx hb dX6_fromIn_8 ?_
  replace hf := gA_some hf
  obtain ⟨hi, hf⟩ := hf
  refine ald hX hM (kr_4_0 ho) hi dX6_fromIn_9 ?_
  exact rt_i hX hM (congrArg (fun z => some (Value.int z)) (so_1 hf)) (so_2 hf) dX6_fromIn_10
theorem c_X6_fromIn (l : Launch) {o : Nat} {a1 : Int32} {a2 : Int32} (ho : knd o = 4) {μ μ2 : Mem} {r : Int32} (hf : f_X6_fromIn o a1 a2 μ = some (r, μ2)) : CT E l yX6_fromIn cX6_fromIn 3 (some .int) (rmF 0 0) [.ref (eA E o), .int a1, .int a2] μ (some (.int r)) μ2 := CT.of pl_RX6 (Nat.le_of_ble_eq_true rfl) rfl (fun _ _ _ _ _ _ _ _ hX hM hl => w_X6_fromIn l ho hf hX hM hl)
theorem mv_X6_fromIn : MV yX6_fromIn cX6_fromIn 3 (some .int) RX6 2 := ⟨q_8_7, q_8_5, q_8_6, q_1_15, by decide +kernel⟩
def f_X6_forceIn (o : Nat) (a1 : Int32) (a2 : Int32) (μ : Mem) : Option (Int32 × Mem) :=
  gA ((a1 * (4 : Int32)) + a2) (aln (rf o 1)) (some ((μ.1 (rf o 1) ((a1 * (4 : Int32)) + a2).toNatClampNeg), μ))
set_option maxHeartbeats 4000000 in
set_option maxRecDepth 100000 in
theorem w_X6_forceIn (l : Launch) {o : Nat} {a1 : Int32} {a2 : Int32} (ho : knd o = 4) {μ μ2 : Mem} {r : Int32} {H : Heap} {locs : List Loc} {ls : Array Slot} (hf : f_X6_forceIn o a1 a2 μ = some (r, μ2)) (hX : XX E p m meth c cX6_forceIn 3 (some .int) s args RX6) (hM : MM E s μ H locs) (hl : lv_has ls 3 [(0, .ref (eA E o)), (1, .int a1), (2, .int a2)]) : W p l e (rmF 0 0) s m args below meth c H locs 0 0 (MQ below (QC E (some (.int r)) μ2) args s 0 0 (AA E)) (F0 m 0 ls []) := by
  obtain ⟨⟨hx, hb, hml, hown, hts⟩, hXr⟩ := id hX
  unfold f_X6_forceIn at hf
  refine lv_aload_n hx hb dX6_forceIn_0 rfl (lv_at hl 0 rfl) ?_
  refine gf_4_1 hX hM ho q_2_22 dX6_forceIn_1 ?_
  refine lv_iload_n hx hb dX6_forceIn_4 rfl (lv_at hl 1 rfl) ?_
  refine lv_iconst (v := 4) hx hb dX6_forceIn_5 (by decide) ?_
  refine lv_imul hx hb dX6_forceIn_6 ?_
  refine lv_iload_n hx hb dX6_forceIn_7 rfl (lv_at hl 2 rfl) ?_
  refine lv_iadd hx hb dX6_forceIn_8 ?_
  replace hf := gA_some hf
  obtain ⟨hi, hf⟩ := hf
  refine ald hX hM (kr_4_1 ho) hi dX6_forceIn_9 ?_
  exact rt_i hX hM (congrArg (fun z => some (Value.int z)) (so_1 hf)) (so_2 hf) dX6_forceIn_10
theorem c_X6_forceIn (l : Launch) {o : Nat} {a1 : Int32} {a2 : Int32} (ho : knd o = 4) {μ μ2 : Mem} {r : Int32} (hf : f_X6_forceIn o a1 a2 μ = some (r, μ2)) : CT E l yX6_forceIn cX6_forceIn 3 (some .int) (rmF 0 0) [.ref (eA E o), .int a1, .int a2] μ (some (.int r)) μ2 := CT.of pl_RX6 (Nat.le_of_ble_eq_true rfl) rfl (fun _ _ _ _ _ _ _ _ hX hM hl => w_X6_forceIn l ho hf hX hM hl)
theorem mv_X6_forceIn : MV yX6_forceIn cX6_forceIn 3 (some .int) RX6 2 := ⟨q_8_11, q_8_9, q_8_10, q_1_15, by decide +kernel⟩
def f_X6_putWind (o : Nat) (a1 : Int32) (a2 : Int32) (a3 : Int32) (a4 : Int32) (μ : Mem) : Option (Mem) :=
  gA ((a1 * (4 : Int32)) + a2) (aln (rf o 0)) (lt (sI μ (rf o 0) ((a1 * (4 : Int32)) + a2).toNatClampNeg a3) (fun μ1 => gA ((a1 * (4 : Int32)) + a2) (aln (rf o 1)) (lt (sI μ1 (rf o 1) ((a1 * (4 : Int32)) + a2).toNatClampNeg a4) (fun μ2 => lt (sI μ2 o 10 ((μ2.1 o 10) + (1 : Int32))) (fun μ3 => some μ3)))))
set_option maxHeartbeats 4000000 in
set_option maxRecDepth 100000 in
theorem w_X6_putWind (l : Launch) {o : Nat} {a1 : Int32} {a2 : Int32} {a3 : Int32} {a4 : Int32} (ho : knd o = 4) {μ μ2 : Mem} {H : Heap} {locs : List Loc} {ls : Array Slot} (hf : f_X6_putWind o a1 a2 a3 a4 μ = some μ2) (hX : XX E p m meth c cX6_putWind 5 none s args RX6) (hM : MM E s μ H locs) (hl : lv_has ls 5 [(0, .ref (eA E o)), (1, .int a1), (2, .int a2), (3, .int a3), (4, .int a4)]) : W p l e (rmF 0 0) s m args below meth c H locs 0 0 (MQ below (QC E (none) μ2) args s 0 0 (AA E)) (F0 m 0 ls []) := by
  obtain ⟨⟨hx, hb, hml, hown, hts⟩, hXr⟩ := id hX
  unfold f_X6_putWind at hf
  refine lv_aload_n hx hb dX6_putWind_0 rfl (lv_at hl 0 rfl) ?_
  refine gf_4_0 hX hM ho q_2_21 dX6_putWind_1 ?_
  refine lv_iload_n hx hb dX6_putWind_4 rfl (lv_at hl 1 rfl) ?_
  refine lv_iconst (v := 4) hx hb dX6_putWind_5 (by decide) ?_
  refine lv_imul hx hb dX6_putWind_6 ?_
  refine lv_iload_n hx hb dX6_putWind_7 rfl (lv_at hl 2 rfl) ?_
  refine lv_iadd hx hb dX6_putWind_8 ?_
  refine lv_iload_n hx hb dX6_putWind_9 rfl (lv_at hl 3 rfl) ?_
  replace hf := gA_some hf
  obtain ⟨hi, hf⟩ := hf
  refine ast hX hM (kr_4_0 ho) hi dX6_putWind_10 (fun μ1 H locs eμ1 hM => ?_)
  replace hf := lt_e eμ1 hf
  refine lv_aload_n hx hb dX6_putWind_11 rfl (lv_at hl 0 rfl) ?_
  refine gf_4_1 hX hM ho q_2_22 dX6_putWind_12 ?_
  refine lv_iload_n hx hb dX6_putWind_15 rfl (lv_at hl 1 rfl) ?_
  refine lv_iconst (v := 4) hx hb dX6_putWind_16 (by decide) ?_
  refine lv_imul hx hb dX6_putWind_17 ?_
  refine lv_iload_n hx hb dX6_putWind_18 rfl (lv_at hl 2 rfl) ?_
  refine lv_iadd hx hb dX6_putWind_19 ?_
  refine lv_iload hx hb dX6_putWind_20 (lv_at hl 4 rfl) ?_
  replace hf := gA_some hf
  obtain ⟨hi, hf⟩ := hf
  refine ast hX hM (kr_4_1 ho) hi dX6_putWind_22 (fun μ2 H locs eμ2 hM => ?_)
  replace hf := lt_e eμ2 hf
  refine lv_aload_n hx hb dX6_putWind_23 rfl (lv_at hl 0 rfl) ?_
  refine lv_dup hx hb dX6_putWind_24 rfl ?_
  refine gf_4_10 hX hM ho q_3_8 dX6_putWind_25 ?_
  refine lv_iconst (v := 1) hx hb dX6_putWind_28 (by decide) ?_
  refine lv_iadd hx hb dX6_putWind_29 ?_
  refine pf_4_10 hX hM ho q_3_8 dX6_putWind_30 (fun μ3 H locs eμ3 hM => ?_)
  replace hf := lt_e eμ3 hf
  exact rt_v hX hM rfl (Option.some.inj hf) dX6_putWind_33
theorem c_X6_putWind (l : Launch) {o : Nat} {a1 : Int32} {a2 : Int32} {a3 : Int32} {a4 : Int32} (ho : knd o = 4) {μ μ2 : Mem} (hf : f_X6_putWind o a1 a2 a3 a4 μ = some μ2) : CT E l yX6_putWind cX6_putWind 5 none (rmF 0 0) [.ref (eA E o), .int a1, .int a2, .int a3, .int a4] μ (none) μ2 := CT.of pl_RX6 (Nat.le_of_ble_eq_true rfl) rfl (fun _ _ _ _ _ _ _ _ hX hM hl => w_X6_putWind l ho hf hX hM hl)
theorem mv_X6_putWind : MV yX6_putWind cX6_putWind 5 none RX6 4 := ⟨q_8_15, q_8_13, q_8_14, q_1_15, by decide +kernel⟩
def f_X6_speedBy (o : Nat) (a1 : Int32) (a2 : Int32) (μ : Mem) : Option (Int32 × Mem) :=
  (if a1 = 0 then some ((0 : Int32), μ) else gA (((a1 - (1 : Int32)) * (5 : Int32)) + a2) (aln (rf o 4)) (some ((μ.1 (rf o 4) (((a1 - (1 : Int32)) * (5 : Int32)) + a2).toNatClampNeg), μ)))
set_option maxHeartbeats 4000000 in
set_option maxRecDepth 100000 in
theorem w_X6_speedBy (l : Launch) {o : Nat} {a1 : Int32} {a2 : Int32} (ho : knd o = 4) {μ μ2 : Mem} {r : Int32} {H : Heap} {locs : List Loc} {ls : Array Slot} (hf : f_X6_speedBy o a1 a2 μ = some (r, μ2)) (hX : XX E p m meth c cX6_speedBy 3 (some .int) s args RX6) (hM : MM E s μ H locs) (hl : lv_has ls 3 [(0, .ref (eA E o)), (1, .int a1), (2, .int a2)]) : W p l e (rmF 0 0) s m args below meth c H locs 0 0 (MQ below (QC E (some (.int r)) μ2) args s 0 0 (AA E)) (F0 m 0 ls []) := by
  obtain ⟨⟨hx, hb, hml, hown, hts⟩, hXr⟩ := id hX
  unfold f_X6_speedBy at hf
  refine lv_iload_n hx hb dX6_speedBy_0 rfl (lv_at hl 1 rfl) ?_
  refine lv_if_ne (tgt := 8) hx hb dX6_speedBy_1 (by decide) (fun hc1 => ?_) (fun hc1 => ?_)
  · replace hf := it_f hf hc1
    refine lv_aload_n hx hb dX6_speedBy_8 rfl (lv_at hl 0 rfl) ?_
    refine gf_4_4 hX hM ho q_3_2 dX6_speedBy_9 ?_
    refine lv_iload_n hx hb dX6_speedBy_12 rfl (lv_at hl 1 rfl) ?_
    refine lv_iconst (v := 1) hx hb dX6_speedBy_13 (by decide) ?_
    refine lv_isub hx hb dX6_speedBy_14 ?_
    refine lv_iconst (v := 5) hx hb dX6_speedBy_15 (by decide) ?_
    refine lv_imul hx hb dX6_speedBy_16 ?_
    refine lv_iload_n hx hb dX6_speedBy_17 rfl (lv_at hl 2 rfl) ?_
    refine lv_iadd hx hb dX6_speedBy_18 ?_
    replace hf := gA_some hf
    obtain ⟨hi, hf⟩ := hf
    refine ald hX hM (kr_4_4 ho) hi dX6_speedBy_19 ?_
    exact rt_i hX hM (congrArg (fun z => some (Value.int z)) (so_1 hf)) (so_2 hf) dX6_speedBy_20
  · replace hf := it_t hf hc1
    refine lv_iconst (v := 0) hx hb dX6_speedBy_4 (by decide) ?_
    refine lv_goto (tgt := 20) hx hb dX6_speedBy_5 (by decide) ?_
    exact rt_i hX hM (congrArg (fun z => some (Value.int z)) (so_1 hf)) (so_2 hf) dX6_speedBy_20
theorem c_X6_speedBy (l : Launch) {o : Nat} {a1 : Int32} {a2 : Int32} (ho : knd o = 4) {μ μ2 : Mem} {r : Int32} (hf : f_X6_speedBy o a1 a2 μ = some (r, μ2)) : CT E l yX6_speedBy cX6_speedBy 3 (some .int) (rmF 0 0) [.ref (eA E o), .int a1, .int a2] μ (some (.int r)) μ2 := CT.of pl_RX6 (Nat.le_of_ble_eq_true rfl) rfl (fun _ _ _ _ _ _ _ _ hX hM hl => w_X6_speedBy l ho hf hX hM hl)
theorem mv_X6_speedBy : MV yX6_speedBy cX6_speedBy 3 (some .int) RX6 2 := ⟨q_10_14, q_10_12, q_10_13, q_1_15, by decide +kernel⟩
def f_X6_toIn (o : Nat) (a1 : Int32) (μ : Mem) : Option (Int32 × Mem) :=
  gA a1 (aln (rf o 2)) (some ((μ.1 (rf o 2) a1.toNatClampNeg), μ))
set_option maxHeartbeats 4000000 in
set_option maxRecDepth 100000 in
theorem w_X6_toIn (l : Launch) {o : Nat} {a1 : Int32} (ho : knd o = 4) {μ μ2 : Mem} {r : Int32} {H : Heap} {locs : List Loc} {ls : Array Slot} (hf : f_X6_toIn o a1 μ = some (r, μ2)) (hX : XX E p m meth c cX6_toIn 2 (some .int) s args RX6) (hM : MM E s μ H locs) (hl : lv_has ls 2 [(0, .ref (eA E o)), (1, .int a1)]) : W p l e (rmF 0 0) s m args below meth c H locs 0 0 (MQ below (QC E (some (.int r)) μ2) args s 0 0 (AA E)) (F0 m 0 ls []) := by
  obtain ⟨⟨hx, hb, hml, hown, hts⟩, hXr⟩ := id hX
  unfold f_X6_toIn at hf
  refine lv_aload_n hx hb dX6_toIn_0 rfl (lv_at hl 0 rfl) ?_
  refine gf_4_2 hX hM ho q_2_23 dX6_toIn_1 ?_
  refine lv_iload_n hx hb dX6_toIn_4 rfl (lv_at hl 1 rfl) ?_
  replace hf := gA_some hf
  obtain ⟨hi, hf⟩ := hf
  refine ald hX hM (kr_4_2 ho) hi dX6_toIn_5 ?_
  exact rt_i hX hM (congrArg (fun z => some (Value.int z)) (so_1 hf)) (so_2 hf) dX6_toIn_6
theorem c_X6_toIn (l : Launch) {o : Nat} {a1 : Int32} (ho : knd o = 4) {μ μ2 : Mem} {r : Int32} (hf : f_X6_toIn o a1 μ = some (r, μ2)) : CT E l yX6_toIn cX6_toIn 2 (some .int) (rmF 0 0) [.ref (eA E o), .int a1] μ (some (.int r)) μ2 := CT.of pl_RX6 (Nat.le_of_ble_eq_true rfl) rfl (fun _ _ _ _ _ _ _ _ hX hM hl => w_X6_toIn l ho hf hX hM hl)
theorem mv_X6_toIn : MV yX6_toIn cX6_toIn 2 (some .int) RX6 1 := ⟨q_9_18, q_9_16, q_9_17, q_1_15, by decide +kernel⟩
def f_X6_rateIn (o : Nat) (a1 : Int32) (μ : Mem) : Option (Int32 × Mem) :=
  gA a1 (aln (rf o 3)) (some ((μ.1 (rf o 3) a1.toNatClampNeg), μ))
set_option maxHeartbeats 4000000 in
set_option maxRecDepth 100000 in
theorem w_X6_rateIn (l : Launch) {o : Nat} {a1 : Int32} (ho : knd o = 4) {μ μ2 : Mem} {r : Int32} {H : Heap} {locs : List Loc} {ls : Array Slot} (hf : f_X6_rateIn o a1 μ = some (r, μ2)) (hX : XX E p m meth c cX6_rateIn 2 (some .int) s args RX6) (hM : MM E s μ H locs) (hl : lv_has ls 2 [(0, .ref (eA E o)), (1, .int a1)]) : W p l e (rmF 0 0) s m args below meth c H locs 0 0 (MQ below (QC E (some (.int r)) μ2) args s 0 0 (AA E)) (F0 m 0 ls []) := by
  obtain ⟨⟨hx, hb, hml, hown, hts⟩, hXr⟩ := id hX
  unfold f_X6_rateIn at hf
  refine lv_aload_n hx hb dX6_rateIn_0 rfl (lv_at hl 0 rfl) ?_
  refine gf_4_3 hX hM ho q_3_0 dX6_rateIn_1 ?_
  refine lv_iload_n hx hb dX6_rateIn_4 rfl (lv_at hl 1 rfl) ?_
  replace hf := gA_some hf
  obtain ⟨hi, hf⟩ := hf
  refine ald hX hM (kr_4_3 ho) hi dX6_rateIn_5 ?_
  exact rt_i hX hM (congrArg (fun z => some (Value.int z)) (so_1 hf)) (so_2 hf) dX6_rateIn_6
theorem c_X6_rateIn (l : Launch) {o : Nat} {a1 : Int32} (ho : knd o = 4) {μ μ2 : Mem} {r : Int32} (hf : f_X6_rateIn o a1 μ = some (r, μ2)) : CT E l yX6_rateIn cX6_rateIn 2 (some .int) (rmF 0 0) [.ref (eA E o), .int a1] μ (some (.int r)) μ2 := CT.of pl_RX6 (Nat.le_of_ble_eq_true rfl) rfl (fun _ _ _ _ _ _ _ _ hX hM hl => w_X6_rateIn l ho hf hX hM hl)
theorem mv_X6_rateIn : MV yX6_rateIn cX6_rateIn 2 (some .int) RX6 1 := ⟨q_9_22, q_9_20, q_9_21, q_1_15, by decide +kernel⟩
def f_X6_driftBy (a0 : Int32) (a1 : Int32) (μ : Mem) : Option (Int32 × Mem) :=
  (if a1 = (0 : Int32) then some (a0, μ) else (if a1 = (1 : Int32) then some ((a0 / (2 : Int32)), μ) else (if a1 = (2 : Int32) then some ((0 : Int32), μ) else (if a1 = (3 : Int32) then some ((-(a0 / (2 : Int32))), μ) else (if a1 = (4 : Int32) then some ((-a0), μ) else some ((0 : Int32), μ))))))
set_option maxHeartbeats 4000000 in
set_option maxRecDepth 100000 in
theorem w_X6_driftBy (l : Launch) {a0 : Int32} {a1 : Int32}  {μ μ2 : Mem} {r : Int32} {H : Heap} {locs : List Loc} {ls : Array Slot} (hf : f_X6_driftBy a0 a1 μ = some (r, μ2)) (hX : XX E p m meth c cX6_driftBy 2 (some .int) s args RX6) (hM : MM E s μ H locs) (hl : lv_has ls 2 [(0, .int a0), (1, .int a1)]) : W p l e (rmF 0 0) s m args below meth c H locs 0 0 (MQ below (QC E (some (.int r)) μ2) args s 0 0 (AA E)) (F0 m 0 ls []) := by
  obtain ⟨⟨hx, hb, hml, hown, hts⟩, hXr⟩ := id hX
  unfold f_X6_driftBy at hf
  refine lv_iload_n hx hb dX6_driftBy_0 rfl (lv_at hl 1 rfl) ?_
  by_cases hs1_0 : a1 = (0 : Int32)
  · replace hf := it_t hf hs1_0
    refine lv_tableIn (off := 35) (tgt := 36) hx hb dX6_driftBy_1 (by rw [hs1_0]; decide) (by rw [hs1_0]; decide) (by rw [hs1_0]; rfl) (by decide) ?_
    refine lv_iload_n hx hb dX6_driftBy_36 rfl (lv_at hl 0 rfl) ?_
    exact rt_i hX hM (congrArg (fun z => some (Value.int z)) (so_1 hf)) (so_2 hf) dX6_driftBy_37
  · replace hf := it_f hf hs1_0
    by_cases hs1_1 : a1 = (1 : Int32)
    · replace hf := it_t hf hs1_1
      refine lv_tableIn (off := 37) (tgt := 38) hx hb dX6_driftBy_1 (by rw [hs1_1]; decide) (by rw [hs1_1]; decide) (by rw [hs1_1]; rfl) (by decide) ?_
      refine lv_iload_n hx hb dX6_driftBy_38 rfl (lv_at hl 0 rfl) ?_
      refine lv_iconst (v := 2) hx hb dX6_driftBy_39 (by decide) ?_
      refine lv_idiv hx hb dX6_driftBy_40 (by decide) ?_
      exact rt_i hX hM (congrArg (fun z => some (Value.int z)) (so_1 hf)) (so_2 hf) dX6_driftBy_41
    · replace hf := it_f hf hs1_1
      by_cases hs1_2 : a1 = (2 : Int32)
      · replace hf := it_t hf hs1_2
        refine lv_tableIn (off := 49) (tgt := 50) hx hb dX6_driftBy_1 (by rw [hs1_2]; decide) (by rw [hs1_2]; decide) (by rw [hs1_2]; rfl) (by decide) ?_
        refine lv_iconst (v := 0) hx hb dX6_driftBy_50 (by decide) ?_
        exact rt_i hX hM (congrArg (fun z => some (Value.int z)) (so_1 hf)) (so_2 hf) dX6_driftBy_51
      · replace hf := it_f hf hs1_2
        by_cases hs1_3 : a1 = (3 : Int32)
        · replace hf := it_t hf hs1_3
          refine lv_tableIn (off := 41) (tgt := 42) hx hb dX6_driftBy_1 (by rw [hs1_3]; decide) (by rw [hs1_3]; decide) (by rw [hs1_3]; rfl) (by decide) ?_
          refine lv_iload_n hx hb dX6_driftBy_42 rfl (lv_at hl 0 rfl) ?_
          refine lv_iconst (v := 2) hx hb dX6_driftBy_43 (by decide) ?_
          refine lv_idiv hx hb dX6_driftBy_44 (by decide) ?_
          refine lv_ineg hx hb dX6_driftBy_45 ?_
          exact rt_i hX hM (congrArg (fun z => some (Value.int z)) (so_1 hf)) (so_2 hf) dX6_driftBy_46
        · replace hf := it_f hf hs1_3
          by_cases hs1_4 : a1 = (4 : Int32)
          · replace hf := it_t hf hs1_4
            refine lv_tableIn (off := 46) (tgt := 47) hx hb dX6_driftBy_1 (by rw [hs1_4]; decide) (by rw [hs1_4]; decide) (by rw [hs1_4]; rfl) (by decide) ?_
            refine lv_iload_n hx hb dX6_driftBy_47 rfl (lv_at hl 0 rfl) ?_
            refine lv_ineg hx hb dX6_driftBy_48 ?_
            exact rt_i hX hM (congrArg (fun z => some (Value.int z)) (so_1 hf)) (so_2 hf) dX6_driftBy_49
          · replace hf := it_f hf hs1_4
            have hq : (a1).toInt < 0 ∨ 4 < (a1).toInt := by
              have n0 := lv_neT hs1_0 (a := 0) rfl
              have n1 := lv_neT hs1_1 (a := 1) rfl
              have n2 := lv_neT hs1_2 (a := 2) rfl
              have n3 := lv_neT hs1_3 (a := 3) rfl
              have n4 := lv_neT hs1_4 (a := 4) rfl
              omega
            refine lv_tableOut (tgt := 50) hx hb dX6_driftBy_1 hq (by decide) ?_
            refine lv_iconst (v := 0) hx hb dX6_driftBy_50 (by decide) ?_
            exact rt_i hX hM (congrArg (fun z => some (Value.int z)) (so_1 hf)) (so_2 hf) dX6_driftBy_51
theorem c_X6_driftBy (l : Launch) {a0 : Int32} {a1 : Int32}  {μ μ2 : Mem} {r : Int32} (hf : f_X6_driftBy a0 a1 μ = some (r, μ2)) : CT E l yX6_driftBy cX6_driftBy 2 (some .int) (rmF 0 0) [.int a0, .int a1] μ (some (.int r)) μ2 := CT.of pl_RX6 (Nat.le_of_ble_eq_true rfl) rfl (fun _ _ _ _ _ _ _ _ hX hM hl => w_X6_driftBy l  hf hX hM hl)
theorem mt_X6_driftBy : MT yX6_driftBy cX6_driftBy 2 (some .int) 2 := ⟨q_14_2, q_14_1, q_1_15, by decide +kernel⟩
def f_X6_lossBy (o : Nat) (a1 : Int32) (μ : Mem) : Option (Int32 × Mem) :=
  gA a1 (aln (rf o 5)) (some ((μ.1 (rf o 5) a1.toNatClampNeg), μ))
set_option maxHeartbeats 4000000 in
set_option maxRecDepth 100000 in
theorem w_X6_lossBy (l : Launch) {o : Nat} {a1 : Int32} (ho : knd o = 4) {μ μ2 : Mem} {r : Int32} {H : Heap} {locs : List Loc} {ls : Array Slot} (hf : f_X6_lossBy o a1 μ = some (r, μ2)) (hX : XX E p m meth c cX6_lossBy 2 (some .int) s args RX6) (hM : MM E s μ H locs) (hl : lv_has ls 2 [(0, .ref (eA E o)), (1, .int a1)]) : W p l e (rmF 0 0) s m args below meth c H locs 0 0 (MQ below (QC E (some (.int r)) μ2) args s 0 0 (AA E)) (F0 m 0 ls []) := by
  obtain ⟨⟨hx, hb, hml, hown, hts⟩, hXr⟩ := id hX
  unfold f_X6_lossBy at hf
  refine lv_aload_n hx hb dX6_lossBy_0 rfl (lv_at hl 0 rfl) ?_
  refine gf_4_5 hX hM ho q_3_3 dX6_lossBy_1 ?_
  refine lv_iload_n hx hb dX6_lossBy_4 rfl (lv_at hl 1 rfl) ?_
  replace hf := gA_some hf
  obtain ⟨hi, hf⟩ := hf
  refine ald hX hM (kr_4_5 ho) hi dX6_lossBy_5 ?_
  exact rt_i hX hM (congrArg (fun z => some (Value.int z)) (so_1 hf)) (so_2 hf) dX6_lossBy_6
theorem c_X6_lossBy (l : Launch) {o : Nat} {a1 : Int32} (ho : knd o = 4) {μ μ2 : Mem} {r : Int32} (hf : f_X6_lossBy o a1 μ = some (r, μ2)) : CT E l yX6_lossBy cX6_lossBy 2 (some .int) (rmF 0 0) [.ref (eA E o), .int a1] μ (some (.int r)) μ2 := CT.of pl_RX6 (Nat.le_of_ble_eq_true rfl) rfl (fun _ _ _ _ _ _ _ _ hX hM hl => w_X6_lossBy l ho hf hX hM hl)
theorem mv_X6_lossBy : MV yX6_lossBy cX6_lossBy 2 (some .int) RX6 1 := ⟨q_14_12, q_14_10, q_14_11, q_1_15, by decide +kernel⟩
end PG
