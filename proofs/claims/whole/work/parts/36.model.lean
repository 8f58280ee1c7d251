section PG
variable {p : Program} {e : Env} {s : State} {m : MethodId} {args : Array Value} {below : List Frame} {meth : Method} {c : Code} {E : EE}
def f_X11_in (a0 : Int32) (a1 : Int32) (a2 : Int32) (μ : Mem) : Option (Int32 × Mem) :=
  (if a0 < a1 then some ((0 : Int32), μ) else (if a2 < a0 then some ((0 : Int32), μ) else some ((1 : Int32), μ)))
set_option maxHeartbeats 4000000 in
set_option maxRecDepth 100000 in
theorem w_X11_in (l : Launch) {a0 : Int32} {a1 : Int32} {a2 : Int32}  {μ μ2 : Mem} {r : Int32} {H : Heap} {locs : List Loc} {ls : Array Slot} (hf : f_X11_in a0 a1 a2 μ = some (r, μ2)) (hX : XX E p m meth c cX11_in 3 (some .boolean) s args RX11) (hM : MM E s μ H locs) (hl : lv_has ls 3 [(0, .int a0), (1, .int a1), (2, .int a2)]) : W p l e (rmF 0 0) s m args below meth c H locs 0 0 (MQ below (QC E (some (.int r)) μ2) args s 0 0 (AA E)) (F0 m 0 ls []) := by
  obtain ⟨⟨hx, hb, hml, hown, hts⟩, hXr⟩ := id hX
  unfold f_X11_in at hf
  refine lv_iload_n hx hb dX11_in_0 rfl (lv_at hl 0 rfl) ?_
  refine lv_iload_n hx hb dX11_in_1 rfl (lv_at hl 1 rfl) ?_
  refine lv_icmp_lt (tgt := 14) hx hb dX11_in_2 (by decide) (fun hc2 => ?_) (fun hc2 => ?_)
  · replace hf := it_t hf hc2
    refine lv_iconst (v := 0) hx hb dX11_in_14 (by decide) ?_
    exact rt_z hX hM rfl (congrArg (fun z => some (Value.int z)) (so_1 hf)) (so_2 hf) dX11_in_15
  · replace hf := it_f hf hc2
    refine lv_iload_n hx hb dX11_in_5 rfl (lv_at hl 0 rfl) ?_
    refine lv_iload_n hx hb dX11_in_6 rfl (lv_at hl 2 rfl) ?_
    refine lv_icmp_gt (tgt := 14) hx hb dX11_in_7 (by decide) (fun hc7 => ?_) (fun hc7 => ?_)
    · replace hf := it_t hf hc7
      refine lv_iconst (v := 0) hx hb dX11_in_14 (by decide) ?_
      exact rt_z hX hM rfl (congrArg (fun z => some (Value.int z)) (so_1 hf)) (so_2 hf) dX11_in_15
    · replace hf := it_f hf hc7
      refine lv_iconst (v := 1) hx hb dX11_in_10 (by decide) ?_
      refine lv_goto (tgt := 15) hx hb dX11_in_11 (by decide) ?_
      exact rt_z hX hM rfl (congrArg (fun z => some (Value.int z)) (so_1 hf)) (so_2 hf) dX11_in_15
theorem c_X11_in (l : Launch) {a0 : Int32} {a1 : Int32} {a2 : Int32}  {μ μ2 : Mem} {r : Int32} (hf : f_X11_in a0 a1 a2 μ = some (r, μ2)) : CT E l yX11_in cX11_in 3 (some .boolean) (rmF 0 0) [.int a0, .int a1, .int a2] μ (some (.int r)) μ2 := CT.of (show plainFor yX11_in = true by decide +kernel) (Nat.le_of_ble_eq_true rfl) rfl (fun _ _ _ _ _ _ _ _ hX hM hl => w_X11_in l  hf hX hM hl)
theorem mt_X11_in : MT yX11_in cX11_in 3 (some .boolean) 3 := ⟨q_9_1, q_9_0, q_1_5, by decide +kernel⟩
def f_X11_isSquare (a0 : Int32) (μ : Mem) : Option (Int32 × Mem) :=
  bnd (f_X11_in a0 (0 : Int32) (35 : Int32) μ) (fun r2 μ1 => gB r2 (some (r2, μ1)))
set_option maxHeartbeats 4000000 in
set_option maxRecDepth 100000 in
theorem w_X11_isSquare (l : Launch) {a0 : Int32}  {μ μ2 : Mem} {r : Int32} {H : Heap} {locs : List Loc} {ls : Array Slot} (hf : f_X11_isSquare a0 μ = some (r, μ2)) (hX : XX E p m meth c cX11_isSquare 1 (some .boolean) s args RX11) (hM : MM E s μ H locs) (hl : lv_has ls 1 [(0, .int a0)]) : W p l e (rmF 1 22) s m args below meth c H locs 0 0 (MQ below (QC E (some (.int r)) μ2) args s 0 0 (AA E)) (F0 m 0 ls []) := by
  obtain ⟨⟨hx, hb, hml, hown, hts⟩, hXr⟩ := id hX
  unfold f_X11_isSquare at hf
  refine lv_iload_n hx hb dX11_isSquare_0 rfl (lv_at hl 0 rfl) ?_
  refine lv_iconst (v := 0) hx hb dX11_isSquare_1 (by decide) ?_
  refine lv_bipush (v := 35) hx hb dX11_isSquare_2 (by decide) ?_
  replace hf := bnd_some hf
  obtain ⟨r2, μ1, h4, hf⟩ := hf
  refine cl_S (As := [.int a0, .int (0 : Int32), .int (35 : Int32)]) (rest := []) (st2 := [.int r2]) (n := 3) hX hM (c_X11_in l  h4) mt_X11_in q_8_23 ⟨rfl, rfl⟩ ⟨Nat.le_of_ble_eq_true rfl, Nat.le_of_ble_eq_true rfl⟩ rfl hl.1 rfl (Nat.le_of_ble_eq_true rfl) dX11_isSquare_4 rfl (fun H locs hM => ?_)
  replace hf := gB_some hf
  obtain ⟨hz, hf⟩ := hf
  exact rt_z hX hM hz (congrArg (fun z => some (Value.int z)) (so_1 hf)) (so_2 hf) dX11_isSquare_7
theorem c_X11_isSquare (l : Launch) {a0 : Int32}  {μ μ2 : Mem} {r : Int32} (hf : f_X11_isSquare a0 μ = some (r, μ2)) : CT E l yX11_isSquare cX11_isSquare 1 (some .boolean) (rmF 1 22) [.int a0] μ (some (.int r)) μ2 := CT.of (show plainFor yX11_isSquare = true by decide +kernel) (Nat.le_of_ble_eq_true rfl) rfl (fun _ _ _ _ _ _ _ _ hX hM hl => w_X11_isSquare l  hf hX hM hl)
theorem mt_X11_isSquare : MT yX11_isSquare cX11_isSquare 1 (some .boolean) 1 := ⟨q_11_23, q_11_22, q_1_5, by decide +kernel⟩
def f_X11_isZone (a0 : Int32) (μ : Mem) : Option (Int32 × Mem) :=
  bnd (f_X11_in a0 (0 : Int32) (3 : Int32) μ) (fun r2 μ1 => gB r2 (some (r2, μ1)))
set_option maxHeartbeats 4000000 in
set_option maxRecDepth 100000 in
theorem w_X11_isZone (l : Launch) {a0 : Int32}  {μ μ2 : Mem} {r : Int32} {H : Heap} {locs : List Loc} {ls : Array Slot} (hf : f_X11_isZone a0 μ = some (r, μ2)) (hX : XX E p m meth c cX11_isZone 1 (some .boolean) s args RX11) (hM : MM E s μ H locs) (hl : lv_has ls 1 [(0, .int a0)]) : W p l e (rmF 1 22) s m args below meth c H locs 0 0 (MQ below (QC E (some (.int r)) μ2) args s 0 0 (AA E)) (F0 m 0 ls []) := by
  obtain ⟨⟨hx, hb, hml, hown, hts⟩, hXr⟩ := id hX
  unfold f_X11_isZone at hf
  refine lv_iload_n hx hb dX11_isZone_0 rfl (lv_at hl 0 rfl) ?_
  refine lv_iconst (v := 0) hx hb dX11_isZone_1 (by decide) ?_
  refine lv_iconst (v := 3) hx hb dX11_isZone_2 (by decide) ?_
  replace hf := bnd_some hf
  obtain ⟨r2, μ1, h3, hf⟩ := hf
  refine cl_S (As := [.int a0, .int (0 : Int32), .int (3 : Int32)]) (rest := []) (st2 := [.int r2]) (n := 3) hX hM (c_X11_in l  h3) mt_X11_in q_8_23 ⟨rfl, rfl⟩ ⟨Nat.le_of_ble_eq_true rfl, Nat.le_of_ble_eq_true rfl⟩ rfl hl.1 rfl (Nat.le_of_ble_eq_true rfl) dX11_isZone_3 rfl (fun H locs hM => ?_)
  replace hf := gB_some hf
  obtain ⟨hz, hf⟩ := hf
  exact rt_z hX hM hz (congrArg (fun z => some (Value.int z)) (so_1 hf)) (so_2 hf) dX11_isZone_6
theorem c_X11_isZone (l : Launch) {a0 : Int32}  {μ μ2 : Mem} {r : Int32} (hf : f_X11_isZone a0 μ = some (r, μ2)) : CT E l yX11_isZone cX11_isZone 1 (some .boolean) (rmF 1 22) [.int a0] μ (some (.int r)) μ2 := CT.of (show plainFor yX11_isZone = true by decide +kernel) (Nat.le_of_ble_eq_true rfl) rfl (fun _ _ _ _ _ _ _ _ hX hM hl => w_X11_isZone l  hf hX hM hl)
theorem mt_X11_isZone : MT yX11_isZone cX11_isZone 1 (some .boolean) 1 := ⟨q_8_22, q_8_21, q_1_5, by decide +kernel⟩
def f_X11_isSpan (a0 : Int32) (μ : Mem) : Option (Int32 × Mem) :=
  bnd (f_X11_in a0 (0 : Int32) (3 : Int32) μ) (fun r2 μ1 => gB r2 (some (r2, μ1)))
set_option maxHeartbeats 4000000 in
set_option maxRecDepth 100000 in
theorem w_X11_isSpan (l : Launch) {a0 : Int32}  {μ μ2 : Mem} {r : Int32} {H : Heap} {locs : List Loc} {ls : Array Slot} (hf : f_X11_isSpan a0 μ = some (r, μ2)) (hX : XX E p m meth c cX11_isSpan 1 (some .boolean) s args RX11) (hM : MM E s μ H locs) (hl : lv_has ls 1 [(0, .int a0)]) : W p l e (rmF 1 22) s m args below meth c H locs 0 0 (MQ below (QC E (some (.int r)) μ2) args s 0 0 (AA E)) (F0 m 0 ls []) := by
  obtain ⟨⟨hx, hb, hml, hown, hts⟩, hXr⟩ := id hX
  unfold f_X11_isSpan at hf
  refine lv_iload_n hx hb dX11_isSpan_0 rfl (lv_at hl 0 rfl) ?_
  refine lv_iconst (v := 0) hx hb dX11_isSpan_1 (by decide) ?_
  refine lv_iconst (v := 3) hx hb dX11_isSpan_2 (by decide) ?_
  replace hf := bnd_some hf
  obtain ⟨r2, μ1, h3, hf⟩ := hf
  refine cl_S (As := [.int a0, .int (0 : Int32), .int (3 : Int32)]) (rest := []) (st2 := [.int r2]) (n := 3) hX hM (c_X11_in l  h3) mt_X11_in q_8_23 ⟨rfl, rfl⟩ ⟨Nat.le_of_ble_eq_true rfl, Nat.le_of_ble_eq_true rfl⟩ rfl hl.1 rfl (Nat.le_of_ble_eq_true rfl) dX11_isSpan_3 rfl (fun H locs hM => ?_)
  replace hf := gB_some hf
  obtain ⟨hz, hf⟩ := hf
  exact rt_z hX hM hz (congrArg (fun z => some (Value.int z)) (so_1 hf)) (so_2 hf) dX11_isSpan_6
theorem c_X11_isSpan (l : Launch) {a0 : Int32}  {μ μ2 : Mem} {r : Int32} (hf : f_X11_isSpan a0 μ = some (r, μ2)) : CT E l yX11_isSpan cX11_isSpan 1 (some .boolean) (rmF 1 22) [.int a0] μ (some (.int r)) μ2 := CT.of (show plainFor yX11_isSpan = true by decide +kernel) (Nat.le_of_ble_eq_true rfl) rfl (fun _ _ _ _ _ _ _ _ hX hM hl => w_X11_isSpan l  hf hX hM hl)
theorem mt_X11_isSpan : MT yX11_isSpan cX11_isSpan 1 (some .boolean) 1 := ⟨q_9_4, q_9_3, q_1_5, by decide +kernel⟩
def f_X11_isSide (a0 : Int32) (μ : Mem) : Option (Int32 × Mem) :=
  bnd (f_X11_in a0 (0 : Int32) (1 : Int32) μ) (fun r2 μ1 => gB r2 (some (r2, μ1)))
set_option maxHeartbeats 4000000 in
set_option maxRecDepth 100000 in
theorem w_X11_isSide (l : Launch) {a0 : Int32}  {μ μ2 : Mem} {r : Int32} {H : Heap} {locs : List Loc} {ls : Array Slot} (hf : f_X11_isSide a0 μ = some (r, μ2)) (hX : XX E p m meth c cX11_isSide 1 (some .boolean) s args RX11) (hM : MM E s μ H locs) (hl : lv_has ls 1 [(0, .int a0)]) : W p l e (rmF 1 22) s m args below meth c H locs 0 0 (MQ below (QC E (some (.int r)) μ2) args s 0 0 (AA E)) (F0 m 0 ls []) := by
  obtain ⟨⟨hx, hb, hml, hown, hts⟩, hXr⟩ := id hX
  unfold f_X11_isSide at hf
  refine lv_iload_n hx hb dX11_isSide_0 rfl (lv_at hl 0 rfl) ?_
  refine lv_iconst (v := 0) hx hb dX11_isSide_1 (by decide) ?_
  refine lv_iconst (v := 1) hx hb dX11_isSide_2 (by decide) ?_
  replace hf := bnd_some hf
  obtain ⟨r2, μ1, h3, hf⟩ := hf
  refine cl_S (As := [.int a0, .int (0 : Int32), .int (1 : Int32)]) (rest := []) (st2 := [.int r2]) (n := 3) hX hM (c_X11_in l  h3) mt_X11_in q_8_23 ⟨rfl, rfl⟩ ⟨Nat.le_of_ble_eq_true rfl, Nat.le_of_ble_eq_true rfl⟩ rfl hl.1 rfl (Nat.le_of_ble_eq_true rfl) dX11_isSide_3 rfl (fun H locs hM => ?_)
  replace hf := gB_some hf
  obtain ⟨hz, hf⟩ := hf
  exact rt_z hX hM hz (congrArg (fun z => some (Value.int z)) (so_1 hf)) (so_2 hf) dX11_isSide_6
theorem c_X11_isSide (l : Launch) {a0 : Int32}  {μ μ2 : Mem} {r : Int32} (hf : f_X11_isSide a0 μ = some (r, μ2)) : CT E l yX11_isSide cX11_isSide 1 (some .boolean) (rmF 1 22) [.int a0] μ (some (.int r)) μ2 := CT.of (show plainFor yX11_isSide = true by decide +kernel) (Nat.le_of_ble_eq_true rfl) rfl (fun _ _ _ _ _ _ _ _ hX hM hl => w_X11_isSide l  hf hX hM hl)
theorem mt_X11_isSide : MT yX11_isSide cX11_isSide 1 (some .boolean) 1 := ⟨q_17_16, q_17_15, q_1_5, by decide +kernel⟩
def f_X11_isHeading (a0 : Int32) (μ : Mem) : Option (Int32 × Mem) :=
  bnd (f_X11_in a0 (0 : Int32) (7 : Int32) μ) (fun r2 μ1 => gB r2 (some (r2, μ1)))
set_option maxHeartbeats 4000000 in
set_option maxRecDepth 100000 in
theorem w_X11_isHeading (l : Launch) {a0 : Int32}  {μ μ2 : Mem} {r : Int32} {H : Heap} {locs : List Loc} {ls : Array Slot} (hf : f_X11_isHeading a0 μ = some (r, μ2)) (hX : XX E p m meth c cX11_isHeading 1 (some .boolean) s args RX11) (hM : MM E s μ H locs) (hl : lv_has ls 1 [(0, .int a0)]) : W p l e (rmF 1 22) s m args below meth c H locs 0 0 (MQ below (QC E (some (.int r)) μ2) args s 0 0 (AA E)) (F0 m 0 ls []) := by
  obtain ⟨⟨hx, hb, hml, hown, hts⟩, hXr⟩ := id hX
  unfold f_X11_isHeading at hf
  refine lv_iload_n hx hb dX11_isHeading_0 rfl (lv_at hl 0 rfl) ?_
  refine lv_iconst (v := 0) hx hb dX11_isHeading_1 (by decide) ?_
  refine lv_bipush (v := 7) hx hb dX11_isHeading_2 (by decide) ?_
  replace hf := bnd_some hf
  obtain ⟨r2, μ1, h4, hf⟩ := hf
  refine cl_S (As := [.int a0, .int (0 : Int32), .int (7 : Int32)]) (rest := []) (st2 := [.int r2]) (n := 3) hX hM (c_X11_in l  h4) mt_X11_in q_8_23 ⟨rfl, rfl⟩ ⟨Nat.le_of_ble_eq_true rfl, Nat.le_of_ble_eq_true rfl⟩ rfl hl.1 rfl (Nat.le_of_ble_eq_true rfl) dX11_isHeading_4 rfl (fun H locs hM => ?_)
  replace hf := gB_some hf
  obtain ⟨hz, hf⟩ := hf
  exact rt_z hX hM hz (congrArg (fun z => some (Value.int z)) (so_1 hf)) (so_2 hf) dX11_isHeading_7
theorem c_X11_isHeading (l : Launch) {a0 : Int32}  {μ μ2 : Mem} {r : Int32} (hf : f_X11_isHeading a0 μ = some (r, μ2)) : CT E l yX11_isHeading cX11_isHeading 1 (some .boolean) (rmF 1 22) [.int a0] μ (some (.int r)) μ2 := CT.of (show plainFor yX11_isHeading = true by decide +kernel) (Nat.le_of_ble_eq_true rfl) rfl (fun _ _ _ _ _ _ _ _ hX hM hl => w_X11_isHeading l  hf hX hM hl)
theorem mt_X11_isHeading : MT yX11_isHeading cX11_isHeading 1 (some .boolean) 1 := ⟨q_9_7, q_9_6, q_1_5, by decide +kernel⟩
def f_X11_isForce (a0 : Int32) (μ : Mem) : Option (Int32 × Mem) :=
  bnd (f_X11_in a0 (0 : Int32) (3 : Int32) μ) (fun r2 μ1 => gB r2 (some (r2, μ1)))
set_option maxHeartbeats 4000000 in
set_option maxRecDepth 100000 in
theorem w_X11_isForce (l : Launch) {a0 : Int32}  {μ μ2 : Mem} {r : Int32} {H : Heap} {locs : List Loc} {ls : Array Slot} (hf : f_X11_isForce a0 μ = some (r, μ2)) (hX : XX E p m meth c cX11_isForce 1 (some .boolean) s args RX11) (hM : MM E s μ H locs) (hl : lv_has ls 1 [(0, .int a0)]) : W p l e (rmF 1 22) s m args below meth c H locs 0 0 (MQ below (QC E (some (.int r)) μ2) args s 0 0 (AA E)) (F0 m 0 ls []) := by
  obtain ⟨⟨hx, hb, hml, hown, hts⟩, hXr⟩ := id hX
  unfold f_X11_isForce at hf
  refine lv_iload_n hx hb dX11_isForce_0 rfl (lv_at hl 0 rfl) ?_
  refine lv_iconst (v := 0) hx hb dX11_isForce_1 (by decide) ?_
  refine lv_iconst (v := 3) hx hb dX11_isForce_2 (by decide) ?_
  replace hf := bnd_some hf
  obtain ⟨r2, μ1, h3, hf⟩ := hf
  refine cl_S (As := [.int a0, .int (0 : Int32), .int (3 : Int32)]) (rest := []) (st2 := [.int r2]) (n := 3) hX hM (c_X11_in l  h3) mt_X11_in q_8_23 ⟨rfl, rfl⟩ ⟨Nat.le_of_ble_eq_true rfl, Nat.le_of_ble_eq_true rfl⟩ rfl hl.1 rfl (Nat.le_of_ble_eq_true rfl) dX11_isForce_3 rfl (fun H locs hM => ?_)
  replace hf := gB_some hf
  obtain ⟨hz, hf⟩ := hf
  exact rt_z hX hM hz (congrArg (fun z => some (Value.int z)) (so_1 hf)) (so_2 hf) dX11_isForce_6
theorem c_X11_isForce (l : Launch) {a0 : Int32}  {μ μ2 : Mem} {r : Int32} (hf : f_X11_isForce a0 μ = some (r, μ2)) : CT E l yX11_isForce cX11_isForce 1 (some .boolean) (rmF 1 22) [.int a0] μ (some (.int r)) μ2 := CT.of (show plainFor yX11_isForce = true by decide +kernel) (Nat.le_of_ble_eq_true rfl) rfl (fun _ _ _ _ _ _ _ _ hX hM hl => w_X11_isForce l  hf hX hM hl)
theorem mt_X11_isForce : MT yX11_isForce cX11_isForce 1 (some .boolean) 1 := ⟨q_9_10, q_9_9, q_1_5, by decide +kernel⟩
def f_X11_isPart (a0 : Int32) (μ : Mem) : Option (Int32 × Mem) :=
  bnd (f_X11_in a0 (0 : Int32) (1 : Int32) μ) (fun r2 μ1 => gB r2 (some (r2, μ1)))
set_option maxHeartbeats 4000000 in
set_option maxRecDepth 100000 in
theorem w_X11_isPart (l : Launch) {a0 : Int32}  {μ μ2 : Mem} {r : Int32} {H : Heap} {locs : List Loc} {ls : Array Slot} (hf : f_X11_isPart a0 μ = some (r, μ2)) (hX : XX E p m meth c cX11_isPart 1 (some .boolean) s args RX11) (hM : MM E s μ H locs) (hl : lv_has ls 1 [(0, .int a0)]) : W p l e (rmF 1 22) s m args below meth c H locs 0 0 (MQ below (QC E (some (.int r)) μ2) args s 0 0 (AA E)) (F0 m 0 ls []) := by
  obtain ⟨⟨hx, hb, hml, hown, hts⟩, hXr⟩ := id hX
  unfold f_X11_isPart at hf
  refine lv_iload_n hx hb dX11_isPart_0 rfl (lv_at hl 0 rfl) ?_
  refine lv_iconst (v := 0) hx hb dX11_isPart_1 (by decide) ?_
  refine lv_iconst (v := 1) hx hb dX11_isPart_2 (by decide) ?_
  replace hf := bnd_some hf
  obtain ⟨r2, μ1, h3, hf⟩ := hf
  refine cl_S (As := [.int a0, .int (0 : Int32), .int (1 : Int32)]) (rest := []) (st2 := [.int r2]) (n := 3) hX hM (c_X11_in l  h3) mt_X11_in q_8_23 ⟨rfl, rfl⟩ ⟨Nat.le_of_ble_eq_true rfl, Nat.le_of_ble_eq_true rfl⟩ rfl hl.1 rfl (Nat.le_of_ble_eq_true rfl) dX11_isPart_3 rfl (fun H locs hM => ?_)
  replace hf := gB_some hf
  obtain ⟨hz, hf⟩ := hf
  exact rt_z hX hM hz (congrArg (fun z => some (Value.int z)) (so_1 hf)) (so_2 hf) dX11_isPart_6
theorem c_X11_isPart (l : Launch) {a0 : Int32}  {μ μ2 : Mem} {r : Int32} (hf : f_X11_isPart a0 μ = some (r, μ2)) : CT E l yX11_isPart cX11_isPart 1 (some .boolean) (rmF 1 22) [.int a0] μ (some (.int r)) μ2 := CT.of (show plainFor yX11_isPart = true by decide +kernel) (Nat.le_of_ble_eq_true rfl) rfl (fun _ _ _ _ _ _ _ _ hX hM hl => w_X11_isPart l  hf hX hM hl)
theorem mt_X11_isPart : MT yX11_isPart cX11_isPart 1 (some .boolean) 1 := ⟨q_37_0, q_36_23, q_1_5, by decide +kernel⟩
def f_X11_zoneOf (a0 : Int32) (μ : Mem) : Option (Int32 × Mem) :=
  some ((((2 : Int32) * (a0 / (18 : Int32))) + ((a0 - a0 / (6 : Int32) * (6 : Int32)) / (3 : Int32))), μ)
set_option maxHeartbeats 4000000 in
set_option maxRecDepth 100000 in
theorem w_X11_zoneOf (l : Launch) {a0 : Int32}  {μ μ2 : Mem} {r : Int32} {H : Heap} {locs : List Loc} {ls : Array Slot} (hf : f_X11_zoneOf a0 μ = some (r, μ2)) (hX : XX E p m meth c cX11_zoneOf 1 (some .int) s args RX11) (hM : MM E s μ H locs) (hl : lv_has ls 1 [(0, .int a0)]) : W p l e (rmF 0 0) s m args below meth c H locs 0 0 (MQ below (QC E (some (.int r)) μ2) args s 0 0 (AA E)) (F0 m 0 ls []) := by
  obtain ⟨⟨hx, hb, hml, hown, hts⟩, hXr⟩ := id hX
  unfold f_X11_zoneOf at hf
  refine lv_iconst (v := 2) hx hb dX11_zoneOf_0 (by decide) ?_
  refine lv_iload_n hx hb dX11_zoneOf_1 rfl (lv_at hl 0 rfl) ?_
  refine lv_bipush (v := 18) hx hb dX11_zoneOf_2 (by decide) ?_
  refine lv_idiv hx hb dX11_zoneOf_4 (by decide) ?_
  refine lv_imul hx hb dX11_zoneOf_5 ?_
  refine lv_iload_n hx hb dX11_zoneOf_6 rfl (lv_at hl 0 rfl) ?_
  refine lv_bipush (v := 6) hx hb dX11_zoneOf_7 (by decide) ?_
  refine lv_irem hx hb dX11_zoneOf_9 (by decide) ?_
  refine lv_iconst (v := 3) hx hb dX11_zoneOf_10 (by decide) ?_
  refine lv_idiv hx hb dX11_zoneOf_11 (by decide) ?_
  refine lv_iadd hx hb dX11_zoneOf_12 ?_
  exact rt_i hX hM (congrArg (fun z => some (Value.int z)) (so_1 hf)) (so_2 hf) dX11_zoneOf_13
theorem c_X11_zoneOf (l : Launch) {a0 : Int32}  {μ μ2 : Mem} {r : Int32} (hf : f_X11_zoneOf a0 μ = some (r, μ2)) : CT E l yX11_zoneOf cX11_zoneOf 1 (some .int) (rmF 0 0) [.int a0] μ (some (.int r)) μ2 := CT.of (show plainFor yX11_zoneOf = true by decide +kernel) (Nat.le_of_ble_eq_true rfl) rfl (fun _ _ _ _ _ _ _ _ hX hM hl => w_X11_zoneOf l  hf hX hM hl)
theorem mt_X11_zoneOf : MT yX11_zoneOf cX11_zoneOf 1 (some .int) 1 := ⟨q_19_1, q_19_0, q_1_5, by decide +kernel⟩
def f_X11_spanOf (a0 : Int32) (μ : Mem) : Option (Int32 × Mem) :=
  some (((a0 / (360 : Int32)) - (a0 / (360 : Int32)) / (4 : Int32) * (4 : Int32)), μ)
set_option maxHeartbeats 4000000 in
set_option maxRecDepth 100000 in
theorem w_X11_spanOf (l : Launch) {a0 : Int32}  {μ μ2 : Mem} {r : Int32} {H : Heap} {locs : List Loc} {ls : Array Slot} (hf : f_X11_spanOf a0 μ = some (r, μ2)) (hX : XX E p m meth c cX11_spanOf 1 (some .int) s args RX11) (hM : MM E s μ H locs) (hl : lv_has ls 1 [(0, .int a0)]) : W p l e (rmF 0 0) s m args below meth c H locs 0 0 (MQ below (QC E (some (.int r)) μ2) args s 0 0 (AA E)) (F0 m 0 ls []) := by
  obtain ⟨⟨hx, hb, hml, hown, hts⟩, hXr⟩ := id hX
  unfold f_X11_spanOf at hf
  refine lv_iload_n hx hb dX11_spanOf_0 rfl (lv_at hl 0 rfl) ?_
  refine lv_sipush (v := 360) hx hb dX11_spanOf_1 (by decide) ?_
  refine lv_idiv hx hb dX11_spanOf_4 (by decide) ?_
  refine lv_iconst (v := 4) hx hb dX11_spanOf_5 (by decide) ?_
  refine lv_irem hx hb dX11_spanOf_6 (by decide) ?_
  exact rt_i hX hM (congrArg (fun z => some (Value.int z)) (so_1 hf)) (so_2 hf) dX11_spanOf_7
theorem c_X11_spanOf (l : Launch) {a0 : Int32}  {μ μ2 : Mem} {r : Int32} (hf : f_X11_spanOf a0 μ = some (r, μ2)) : CT E l yX11_spanOf cX11_spanOf 1 (some .int) (rmF 0 0) [.int a0] μ (some (.int r)) μ2 := CT.of (show plainFor yX11_spanOf = true by decide +kernel) (Nat.le_of_ble_eq_true rfl) rfl (fun _ _ _ _ _ _ _ _ hX hM hl => w_X11_spanOf l  hf hX hM hl)
theorem mt_X11_spanOf : MT yX11_spanOf cX11_spanOf 1 (some .int) 1 := ⟨q_19_4, q_19_3, q_1_5, by decide +kernel⟩
def f_X11_turn (a0 : Int32) (a1 : Int32) (μ : Mem) : Option (Int32 × Mem) :=
  lt (((a0 - a1) + (8 : Int32)) - ((a0 - a1) + (8 : Int32)) / (8 : Int32) * (8 : Int32)) (fun v1 => some ((mimin v1 ((8 : Int32) - v1)), μ))
set_option maxHeartbeats 4000000 in
set_option maxRecDepth 100000 in
theorem w_X11_turn (l : Launch) {a0 : Int32} {a1 : Int32}  {μ μ2 : Mem} {r : Int32} {H : Heap} {locs : List Loc} {ls : Array Slot} (hf : f_X11_turn a0 a1 μ = some (r, μ2)) (hX : XX E p m meth c cX11_turn 3 (some .int) s args RX11) (hM : MM E s μ H locs) (hl : lv_has ls 3 [(0, .int a0), (1, .int a1)]) : W p l e (rmF 1 21) s m args below meth c H locs 0 0 (MQ below (QC E (some (.int r)) μ2) args s 0 0 (AA E)) (F0 m 0 ls []) := by
  obtain ⟨⟨hx, hb, hml, hown, hts⟩, hXr⟩ := id hX
  unfold f_X11_turn at hf
  refine lv_iload_n hx hb dX11_turn_0 rfl (lv_at hl 0 rfl) ?_
  refine lv_iload_n hx hb dX11_turn_1 rfl (lv_at hl 1 rfl) ?_
  refine lv_isub hx hb dX11_turn_2 ?_
  refine lv_bipush (v := 8) hx hb dX11_turn_3 (by decide) ?_
  refine lv_iadd hx hb dX11_turn_5 ?_
  refine lv_bipush (v := 8) hx hb dX11_turn_6 (by decide) ?_
  refine lv_irem hx hb dX11_turn_8 (by decide) ?_
  refine lv_topi (fun v1 ev1 => ?_)
  replace hf := lt_e ev1 hf
  refine lv_istore_n (lv' := [(2, .int v1), (0, .int a0), (1, .int a1)]) hx hb dX11_turn_9 rfl hl (by decide) rfl (fun ls hl => ?_)
  refine lv_iload_n hx hb dX11_turn_10 rfl (lv_at hl 0 rfl) ?_
  refine lv_bipush (v := 8) hx hb dX11_turn_11 (by decide) ?_
  refine lv_iload_n hx hb dX11_turn_13 rfl (lv_at hl 0 rfl) ?_
  refine lv_isub hx hb dX11_turn_14 ?_
  refine va_mmin (rest := []) hx hb (hml.trans hl.1.symm) hown (hts _ q_19_8) (hts _ q_17_4) (hts _ q_13_15) (hts _ q_17_5) (Nat.le_of_ble_eq_true rfl) (Nat.le_of_ble_eq_true rfl) (Nat.zero_le _) (Nat.zero_le _) dX11_turn_15 ?_
  exact rt_i hX hM (congrArg (fun z => some (Value.int z)) (so_1 hf)) (so_2 hf) dX11_turn_18
theorem c_X11_turn (l : Launch) {a0 : Int32} {a1 : Int32}  {μ μ2 : Mem} {r : Int32} (hf : f_X11_turn a0 a1 μ = some (r, μ2)) : CT E l yX11_turn cX11_turn 3 (some .int) (rmF 1 21) [.int a0, .int a1] μ (some (.int r)) μ2 := CT.of (show plainFor yX11_turn = true by decide +kernel) (Nat.le_of_ble_eq_true rfl) rfl (fun _ _ _ _ _ _ _ _ hX hM hl => w_X11_turn l  hf hX hM hl)
theorem mt_X11_turn : MT yX11_turn cX11_turn 3 (some .int) 2 := ⟨q_19_7, q_19_6, q_1_5, by decide +kernel⟩
def f_X11_wind (o : Nat) (a1 : Int32) (a2 : Int32) (a3 : Int32) (a4 : Int32) (μ : Mem) : Option (Int32 × Mem) :=
  bnd (f_X11_isZone a1 μ) (fun r2 μ1 => (if r2 = 0 then some ((-1 : Int32), μ1) else bnd (f_X11_isSpan a2 μ1) (fun r4 μ3 => (if r4 = 0 then some ((-1 : Int32), μ3) else bnd (f_X11_isHeading a3 μ3) (fun r6 μ5 => (if r6 = 0 then some ((-2 : Int32), μ5) else bnd (f_X11_isForce a4 μ5) (fun r8 μ7 => (if r8 = 0 then some ((-2 : Int32), μ7) else lt (((4 : Int32) * a1) + a2) (fun v9 => gA v9 (aln (rf o 1)) (gA v9 (aln (rf o 2)) (lt (((10 : Int32) * (μ7.1 (rf o 1) v9.toNatClampNeg)) + (μ7.1 (rf o 2) v9.toNatClampNeg)) (fun v10 => gA v9 (aln (rf o 1)) (lt (sI μ7 (rf o 1) v9.toNatClampNeg a3) (fun μ11 => gA v9 (aln (rf o 2)) (lt (sI μ11 (rf o 2) v9.toNatClampNeg a4) (fun μ12 => some (v10, μ12)))))))))))))))))
set_option maxHeartbeats 4000000 in
set_option maxRecDepth 100000 in
theorem w_X11_wind (l : Launch) {o : Nat} {a1 : Int32} {a2 : Int32} {a3 : Int32} {a4 : Int32} (ho : knd o = 9) {μ μ2 : Mem} {r : Int32} {H : Heap} {locs : List Loc} {ls : Array Slot} (hf : f_X11_wind o a1 a2 a3 a4 μ = some (r, μ2)) (hX : XX E p m meth c cX11_wind 7 (some .int) s args RX11) (hM : MM E s μ H locs) (hl : lv_has ls 7 [(0, .ref (eA E o)), (1, .int a1), (2, .int a2), (3, .int a3), (4, .int a4)]) : W p l e (rmF 2 42) s m args below meth c H locs 0 0 (MQ below (QC E (some (.int r)) μ2) args s 0 0 (AA E)) (F0 m 0 ls []) := by
  obtain ⟨⟨hx, hb, hml, hown, hts⟩, hXr⟩ := id hX
  unfold f_X11_wind at hf
  refine lv_iload_n hx hb dX11_wind_0 rfl (lv_at hl 1 rfl) ?_
  replace hf := bnd_some hf
  obtain ⟨r2, μ1, h1, hf⟩ := hf
  refine cl_S (As := [.int a1]) (rest := []) (st2 := [.int r2]) (n := 1) hX hM (c_X11_isZone l  h1) mt_X11_isZone q_8_20 ⟨rfl, rfl⟩ ⟨Nat.le_of_ble_eq_true rfl, Nat.le_of_ble_eq_true rfl⟩ rfl hl.1 rfl (Nat.le_of_ble_eq_true rfl) dX11_wind_1 rfl (fun H locs hM => ?_)
  refine lv_if_eq (tgt := 14) hx hb dX11_wind_4 (by decide) (fun hc4 => ?_) (fun hc4 => ?_)
  · replace hf := it_t hf hc4
    refine lv_iconst (v := (-1)) hx hb dX11_wind_14 (by decide) ?_
    exact rt_i hX hM (congrArg (fun z => some (Value.int z)) (so_1 hf)) (so_2 hf) dX11_wind_15
  · replace hf := it_f hf hc4
    refine lv_iload_n hx hb dX11_wind_7 rfl (lv_at hl 2 rfl) ?_
    replace hf := bnd_some hf
    obtain ⟨r4, μ3, h8, hf⟩ := hf
    refine cl_S (As := [.int a2]) (rest := []) (st2 := [.int r4]) (n := 1) hX hM (c_X11_isSpan l  h8) mt_X11_isSpan q_9_2 ⟨rfl, rfl⟩ ⟨Nat.le_of_ble_eq_true rfl, Nat.le_of_ble_eq_true rfl⟩ rfl hl.1 rfl (Nat.le_of_ble_eq_true rfl) dX11_wind_8 rfl (fun H locs hM => ?_)
    refine lv_if_ne (tgt := 16) hx hb dX11_wind_11 (by decide) (fun hc11 => ?_) (fun hc11 => ?_)
    · replace hf := it_f hf hc11
      refine lv_iload_n hx hb dX11_wind_16 rfl (lv_at hl 3 rfl) ?_
      replace hf := bnd_some hf
      obtain ⟨r6, μ5, h17, hf⟩ := hf
      refine cl_S (As := [.int a3]) (rest := []) (st2 := [.int r6]) (n := 1) hX hM (c_X11_isHeading l  h17) mt_X11_isHeading q_9_5 ⟨rfl, rfl⟩ ⟨Nat.le_of_ble_eq_true rfl, Nat.le_of_ble_eq_true rfl⟩ rfl hl.1 rfl (Nat.le_of_ble_eq_true rfl) dX11_wind_17 rfl (fun H locs hM => ?_)
      refine lv_if_eq (tgt := 31) hx hb dX11_wind_20 (by decide) (fun hc20 => ?_) (fun hc20 => ?_)
      · replace hf := it_t hf hc20
        refine lv_bipush (v := (-2)) hx hb dX11_wind_31 (by decide) ?_
        exact rt_i hX hM (congrArg (fun z => some (Value.int z)) (so_1 hf)) (so_2 hf) dX11_wind_33
      · replace hf := it_f hf hc20
        refine lv_iload hx hb dX11_wind_23 (lv_at hl 4 rfl) ?_
        replace hf := bnd_some hf
        obtain ⟨r8, μ7, h25, hf⟩ := hf
        refine cl_S (As := [.int a4]) (rest := []) (st2 := [.int r8]) (n := 1) hX hM (c_X11_isForce l  h25) mt_X11_isForce q_9_8 ⟨rfl, rfl⟩ ⟨Nat.le_of_ble_eq_true rfl, Nat.le_of_ble_eq_true rfl⟩ rfl hl.1 rfl (Nat.le_of_ble_eq_true rfl) dX11_wind_25 rfl (fun H locs hM => ?_)
        refine lv_if_ne (tgt := 34) hx hb dX11_wind_28 (by decide) (fun hc28 => ?_) (fun hc28 => ?_)
        · replace hf := it_f hf hc28
          refine lv_iconst (v := 4) hx hb dX11_wind_34 (by decide) ?_
          refine lv_iload_n hx hb dX11_wind_35 rfl (lv_at hl 1 rfl) ?_
          refine lv_imul hx hb dX11_wind_36 ?_
          refine lv_iload_n hx hb dX11_wind_37 rfl (lv_at hl 2 rfl) ?_
          refine lv_iadd hx hb dX11_wind_38 ?_
          refine lv_topi (fun v9 ev9 => ?_)
          replace hf := lt_e ev9 hf
          refine lv_istore (lv' := [(5, .int v9), (0, .ref (eA E o)), (1, .int a1), (2, .int a2), (3, .int a3), (4, .int a4)]) hx hb dX11_wind_39 hl (by decide) rfl (fun ls hl => ?_)
          refine lv_bipush (v := 10) hx hb dX11_wind_41 (by decide) ?_
          refine lv_aload_n hx hb dX11_wind_43 rfl (lv_at hl 1 rfl) ?_
          refine gf_9_1 hX hM ho q_6_22 dX11_wind_44 ?_
          refine lv_iload hx hb dX11_wind_47 (lv_at hl 0 rfl) ?_
          replace hf := gA_some hf
          obtain ⟨hi, hf⟩ := hf
          refine ald hX hM (kr_9_1 ho) hi dX11_wind_49 ?_
          refine lv_imul hx hb dX11_wind_50 ?_
          refine lv_aload_n hx hb dX11_wind_51 rfl (lv_at hl 1 rfl) ?_
          refine gf_9_2 hX hM ho q_6_23 dX11_wind_52 ?_
          refine lv_iload hx hb dX11_wind_55 (lv_at hl 0 rfl) ?_
          replace hf := gA_some hf
          obtain ⟨hi, hf⟩ := hf
          refine ald hX hM (kr_9_2 ho) hi dX11_wind_57 ?_
          refine lv_iadd hx hb dX11_wind_58 ?_
          refine lv_topi (fun v10 ev10 => ?_)
          replace hf := lt_e ev10 hf
          refine lv_istore (lv' := [(6, .int v10), (5, .int v9), (0, .ref (eA E o)), (1, .int a1), (2, .int a2), (3, .int a3), (4, .int a4)]) hx hb dX11_wind_59 hl (by decide) rfl (fun ls hl => ?_)
          refine lv_aload_n hx hb dX11_wind_61 rfl (lv_at hl 2 rfl) ?_
          refine gf_9_1 hX hM ho q_6_22 dX11_wind_62 ?_
          refine lv_iload hx hb dX11_wind_65 (lv_at hl 1 rfl) ?_
          refine lv_iload_n hx hb dX11_wind_67 rfl (lv_at hl 5 rfl) ?_
          replace hf := gA_some hf
          obtain ⟨hi, hf⟩ := hf
          refine ast hX hM (kr_9_1 ho) hi dX11_wind_68 (fun μ11 H locs eμ11 hM => ?_)
          replace hf := lt_e eμ11 hf
          refine lv_aload_n hx hb dX11_wind_69 rfl (lv_at hl 2 rfl) ?_
          refine gf_9_2 hX hM ho q_6_23 dX11_wind_70 ?_
          refine lv_iload hx hb dX11_wind_73 (lv_at hl 1 rfl) ?_
          refine lv_iload hx hb dX11_wind_75 (lv_at hl 6 rfl) ?_
          replace hf := gA_some hf
          obtain ⟨hi, hf⟩ := hf
          refine ast hX hM (kr_9_2 ho) hi dX11_wind_77 (fun μ12 H locs eμ12 hM => ?_)
          replace hf := lt_e eμ12 hf
          refine lv_iload hx hb dX11_wind_78 (lv_at hl 0 rfl) ?_
          exact rt_i hX hM (congrArg (fun z => some (Value.int z)) (so_1 hf)) (so_2 hf) dX11_wind_80
        · replace hf := it_t hf hc28
          refine lv_bipush (v := (-2)) hx hb dX11_wind_31 (by decide) ?_
          exact rt_i hX hM (congrArg (fun z => some (Value.int z)) (so_1 hf)) (so_2 hf) dX11_wind_33
    · replace hf := it_t hf hc11
      refine lv_iconst (v := (-1)) hx hb dX11_wind_14 (by decide) ?_
      exact rt_i hX hM (congrArg (fun z => some (Value.int z)) (so_1 hf)) (so_2 hf) dX11_wind_15
theorem c_X11_wind (l : Launch) {o : Nat} {a1 : Int32} {a2 : Int32} {a3 : Int32} {a4 : Int32} (ho : knd o = 9) {μ μ2 : Mem} {r : Int32} (hf : f_X11_wind o a1 a2 a3 a4 μ = some (r, μ2)) : CT E l yX11_wind cX11_wind 7 (some .int) (rmF 2 42) [.ref (eA E o), .int a1, .int a2, .int a3, .int a4] μ (some (.int r)) μ2 := CT.of (show plainFor yX11_wind = true by decide +kernel) (Nat.le_of_ble_eq_true rfl) rfl (fun _ _ _ _ _ _ _ _ hX hM hl => w_X11_wind l ho hf hX hM hl)
theorem mv_X11_wind : MV yX11_wind cX11_wind 7 (some .int) RX11 4 := ⟨q_8_19, q_8_17, q_8_18, q_1_5, by decide +kernel⟩
def f_X11_current (o : Nat) (a1 : Int32) (a2 : Int32) (a3 : Int32) (μ : Mem) : Option (Int32 × Mem) :=
  bnd (f_X11_isZone a1 μ) (fun r2 μ1 => (if r2 = 0 then some ((-1 : Int32), μ1) else bnd (f_X11_isHeading a2 μ1) (fun r4 μ3 => (if r4 = 0 then some ((-2 : Int32), μ3) else bnd (f_X11_isForce a3 μ3) (fun r6 μ5 => (if r6 = 0 then some ((-2 : Int32), μ5) else gA a1 (aln (rf o 4)) (gA a1 (aln (rf o 5)) (lt (((10 : Int32) * (μ5.1 (rf o 4) a1.toNatClampNeg)) + (μ5.1 (rf o 5) a1.toNatClampNeg)) (fun v7 => gA a1 (aln (rf o 4)) (lt (sI μ5 (rf o 4) a1.toNatClampNeg a2) (fun μ8 => gA a1 (aln (rf o 5)) (lt (sI μ8 (rf o 5) a1.toNatClampNeg a3) (fun μ9 => some (v7, μ9))))))))))))))
set_option maxHeartbeats 4000000 in
set_option maxRecDepth 100000 in
theorem w_X11_current (l : Launch) {o : Nat} {a1 : Int32} {a2 : Int32} {a3 : Int32} (ho : knd o = 9) {μ μ2 : Mem} {r : Int32} {H : Heap} {locs : List Loc} {ls : Array Slot} (hf : f_X11_current o a1 a2 a3 μ = some (r, μ2)) (hX : XX E p m meth c cX11_current 5 (some .int) s args RX11) (hM : MM E s μ H locs) (hl : lv_has ls 5 [(0, .ref (eA E o)), (1, .int a1), (2, .int a2), (3, .int a3)]) : W p l e (rmF 2 42) s m args below meth c H locs 0 0 (MQ below (QC E (some (.int r)) μ2) args s 0 0 (AA E)) (F0 m 0 ls []) := by
  obtain ⟨⟨hx, hb, hml, hown, hts⟩, hXr⟩ := id hX
  unfold f_X11_current at hf
  refine lv_iload_n hx hb dX11_current_0 rfl (lv_at hl 1 rfl) ?_
  replace hf := bnd_some hf
  obtain ⟨r2, μ1, h1, hf⟩ := hf
  refine cl_S (As := [.int a1]) (rest := []) (st2 := [.int r2]) (n := 1) hX hM (c_X11_isZone l  h1) mt_X11_isZone q_8_20 ⟨rfl, rfl⟩ ⟨Nat.le_of_ble_eq_true rfl, Nat.le_of_ble_eq_true rfl⟩ rfl hl.1 rfl (Nat.le_of_ble_eq_true rfl) dX11_current_1 rfl (fun H locs hM => ?_)
  refine lv_if_ne (tgt := 9) hx hb dX11_current_4 (by decide) (fun hc4 => ?_) (fun hc4 => ?_)
  · replace hf := it_f hf hc4
    refine lv_iload_n hx hb dX11_current_9 rfl (lv_at hl 2 rfl) ?_
    replace hf := bnd_some hf
    obtain ⟨r4, μ3, h10, hf⟩ := hf
    refine cl_S (As := [.int a2]) (rest := []) (st2 := [.int r4]) (n := 1) hX hM (c_X11_isHeading l  h10) mt_X11_isHeading q_9_5 ⟨rfl, rfl⟩ ⟨Nat.le_of_ble_eq_true rfl, Nat.le_of_ble_eq_true rfl⟩ rfl hl.1 rfl (Nat.le_of_ble_eq_true rfl) dX11_current_10 rfl (fun H locs hM => ?_)
    refine lv_if_eq (tgt := 23) hx hb dX11_current_13 (by decide) (fun hc13 => ?_) (fun hc13 => ?_)
    · replace hf := it_t hf hc13
      refine lv_bipush (v := (-2)) hx hb dX11_current_23 (by decide) ?_
      exact rt_i hX hM (congrArg (fun z => some (Value.int z)) (so_1 hf)) (so_2 hf) dX11_current_25
    · replace hf := it_f hf hc13
      refine lv_iload_n hx hb dX11_current_16 rfl (lv_at hl 3 rfl) ?_
      replace hf := bnd_some hf
      obtain ⟨r6, μ5, h17, hf⟩ := hf
      refine cl_S (As := [.int a3]) (rest := []) (st2 := [.int r6]) (n := 1) hX hM (c_X11_isForce l  h17) mt_X11_isForce q_9_8 ⟨rfl, rfl⟩ ⟨Nat.le_of_ble_eq_true rfl, Nat.le_of_ble_eq_true rfl⟩ rfl hl.1 rfl (Nat.le_of_ble_eq_true rfl) dX11_current_17 rfl (fun H locs hM => ?_)
      refine lv_if_ne (tgt := 26) hx hb dX11_current_20 (by decide) (fun hc20 => ?_) (fun hc20 => ?_)
      · replace hf := it_f hf hc20
        refine lv_bipush (v := 10) hx hb dX11_current_26 (by decide) ?_
        refine lv_aload_n hx hb dX11_current_28 rfl (lv_at hl 0 rfl) ?_
        refine gf_9_4 hX hM ho q_7_1 dX11_current_29 ?_
        refine lv_iload_n hx hb dX11_current_32 rfl (lv_at hl 1 rfl) ?_
        replace hf := gA_some hf
        obtain ⟨hi, hf⟩ := hf
        refine ald hX hM (kr_9_4 ho) hi dX11_current_33 ?_
        refine lv_imul hx hb dX11_current_34 ?_
        refine lv_aload_n hx hb dX11_current_35 rfl (lv_at hl 0 rfl) ?_
        refine gf_9_5 hX hM ho q_7_2 dX11_current_36 ?_
        refine lv_iload_n hx hb dX11_current_39 rfl (lv_at hl 1 rfl) ?_
        replace hf := gA_some hf
        obtain ⟨hi, hf⟩ := hf
        refine ald hX hM (kr_9_5 ho) hi dX11_current_40 ?_
        refine lv_iadd hx hb dX11_current_41 ?_
        refine lv_topi (fun v7 ev7 => ?_)
        replace hf := lt_e ev7 hf
        refine lv_istore (lv' := [(4, .int v7), (0, .ref (eA E o)), (1, .int a1), (2, .int a2), (3, .int a3)]) hx hb dX11_current_42 hl (by decide) rfl (fun ls hl => ?_)
        refine lv_aload_n hx hb dX11_current_44 rfl (lv_at hl 1 rfl) ?_
        refine gf_9_4 hX hM ho q_7_1 dX11_current_45 ?_
        refine lv_iload_n hx hb dX11_current_48 rfl (lv_at hl 2 rfl) ?_
        refine lv_iload_n hx hb dX11_current_49 rfl (lv_at hl 3 rfl) ?_
        replace hf := gA_some hf
        obtain ⟨hi, hf⟩ := hf
        refine ast hX hM (kr_9_4 ho) hi dX11_current_50 (fun μ8 H locs eμ8 hM => ?_)
        replace hf := lt_e eμ8 hf
        refine lv_aload_n hx hb dX11_current_51 rfl (lv_at hl 1 rfl) ?_
        refine gf_9_5 hX hM ho q_7_2 dX11_current_52 ?_
        refine lv_iload_n hx hb dX11_current_55 rfl (lv_at hl 2 rfl) ?_
        refine lv_iload_n hx hb dX11_current_56 rfl (lv_at hl 4 rfl) ?_
        replace hf := gA_some hf
        obtain ⟨hi, hf⟩ := hf
        refine ast hX hM (kr_9_5 ho) hi dX11_current_57 (fun μ9 H locs eμ9 hM => ?_)
        replace hf := lt_e eμ9 hf
        refine lv_iload hx hb dX11_current_58 (lv_at hl 0 rfl) ?_
        exact rt_i hX hM (congrArg (fun z => some (Value.int z)) (so_1 hf)) (so_2 hf) dX11_current_60
      · replace hf := it_t hf hc20
        refine lv_bipush (v := (-2)) hx hb dX11_current_23 (by decide) ?_
        exact rt_i hX hM (congrArg (fun z => some (Value.int z)) (so_1 hf)) (so_2 hf) dX11_current_25
  · replace hf := it_t hf hc4
    refine lv_iconst (v := (-1)) hx hb dX11_current_7 (by decide) ?_
    exact rt_i hX hM (congrArg (fun z => some (Value.int z)) (so_1 hf)) (so_2 hf) dX11_current_8
theorem c_X11_current (l : Launch) {o : Nat} {a1 : Int32} {a2 : Int32} {a3 : Int32} (ho : knd o = 9) {μ μ2 : Mem} {r : Int32} (hf : f_X11_current o a1 a2 a3 μ = some (r, μ2)) : CT E l yX11_current cX11_current 5 (some .int) (rmF 2 42) [.ref (eA E o), .int a1, .int a2, .int a3] μ (some (.int r)) μ2 := CT.of (show plainFor yX11_current = true by decide +kernel) (Nat.le_of_ble_eq_true rfl) rfl (fun _ _ _ _ _ _ _ _ hX hM hl => w_X11_current l ho hf hX hM hl)
theorem mv_X11_current : MV yX11_current cX11_current 5 (some .int) RX11 3 := ⟨q_10_6, q_10_4, q_10_5, q_1_5, by decide +kernel⟩
def f_X11_isEntry (a0 : Int32) (a1 : Int32) (μ : Mem) : Option (Int32 × Mem) :=
  bnd (f_X11_in a0 (1 : Int32) (3 : Int32) μ) (fun r2 μ1 => (if r2 = 0 then some ((0 : Int32), μ1) else bnd (f_X11_in a1 (0 : Int32) (4 : Int32) μ1) (fun r4 μ3 => (if r4 = 0 then some ((0 : Int32), μ3) else some ((1 : Int32), μ3)))))
set_option maxHeartbeats 4000000 in
set_option maxRecDepth 100000 in
theorem w_X11_isEntry (l : Launch) {a0 : Int32} {a1 : Int32}  {μ μ2 : Mem} {r : Int32} {H : Heap} {locs : List Loc} {ls : Array Slot} (hf : f_X11_isEntry a0 a1 μ = some (r, μ2)) (hX : XX E p m meth c cX11_isEntry 2 (some .boolean) s args RX11) (hM : MM E s μ H locs) (hl : lv_has ls 2 [(0, .int a0), (1, .int a1)]) : W p l e (rmF 1 22) s m args below meth c H locs 0 0 (MQ below (QC E (some (.int r)) μ2) args s 0 0 (AA E)) (F0 m 0 ls []) := by
  obtain ⟨⟨hx, hb, hml, hown, hts⟩, hXr⟩ := id hX
  unfold f_X11_isEntry at hf
  refine lv_iload_n hx hb dX11_isEntry_0 rfl (lv_at hl 0 rfl) ?_
  refine lv_iconst (v := 1) hx hb dX11_isEntry_1 (by decide) ?_
  refine lv_iconst (v := 3) hx hb dX11_isEntry_2 (by decide) ?_
  replace hf := bnd_some hf
  obtain ⟨r2, μ1, h3, hf⟩ := hf
  refine cl_S (As := [.int a0, .int (1 : Int32), .int (3 : Int32)]) (rest := []) (st2 := [.int r2]) (n := 3) hX hM (c_X11_in l  h3) mt_X11_in q_8_23 ⟨rfl, rfl⟩ ⟨Nat.le_of_ble_eq_true rfl, Nat.le_of_ble_eq_true rfl⟩ rfl hl.1 rfl (Nat.le_of_ble_eq_true rfl) dX11_isEntry_3 rfl (fun H locs hM => ?_)
  refine lv_if_eq (tgt := 22) hx hb dX11_isEntry_6 (by decide) (fun hc6 => ?_) (fun hc6 => ?_)
  · replace hf := it_t hf hc6
    refine lv_iconst (v := 0) hx hb dX11_isEntry_22 (by decide) ?_
    exact rt_z hX hM rfl (congrArg (fun z => some (Value.int z)) (so_1 hf)) (so_2 hf) dX11_isEntry_23
  · replace hf := it_f hf hc6
    refine lv_iload_n hx hb dX11_isEntry_9 rfl (lv_at hl 1 rfl) ?_
    refine lv_iconst (v := 0) hx hb dX11_isEntry_10 (by decide) ?_
    refine lv_iconst (v := 4) hx hb dX11_isEntry_11 (by decide) ?_
    replace hf := bnd_some hf
    obtain ⟨r4, μ3, h12, hf⟩ := hf
    refine cl_S (As := [.int a1, .int (0 : Int32), .int (4 : Int32)]) (rest := []) (st2 := [.int r4]) (n := 3) hX hM (c_X11_in l  h12) mt_X11_in q_8_23 ⟨rfl, rfl⟩ ⟨Nat.le_of_ble_eq_true rfl, Nat.le_of_ble_eq_true rfl⟩ rfl hl.1 rfl (Nat.le_of_ble_eq_true rfl) dX11_isEntry_12 rfl (fun H locs hM => ?_)
    refine lv_if_eq (tgt := 22) hx hb dX11_isEntry_15 (by decide) (fun hc15 => ?_) (fun hc15 => ?_)
    · replace hf := it_t hf hc15
      refine lv_iconst (v := 0) hx hb dX11_isEntry_22 (by decide) ?_
      exact rt_z hX hM rfl (congrArg (fun z => some (Value.int z)) (so_1 hf)) (so_2 hf) dX11_isEntry_23
    · replace hf := it_f hf hc15
      refine lv_iconst (v := 1) hx hb dX11_isEntry_18 (by decide) ?_
      refine lv_goto (tgt := 23) hx hb dX11_isEntry_19 (by decide) ?_
      exact rt_z hX hM rfl (congrArg (fun z => some (Value.int z)) (so_1 hf)) (so_2 hf) dX11_isEntry_23
theorem c_X11_isEntry (l : Launch) {a0 : Int32} {a1 : Int32}  {μ μ2 : Mem} {r : Int32} (hf : f_X11_isEntry a0 a1 μ = some (r, μ2)) : CT E l yX11_isEntry cX11_isEntry 2 (some .boolean) (rmF 1 22) [.int a0, .int a1] μ (some (.int r)) μ2 := CT.of (show plainFor yX11_isEntry = true by decide +kernel) (Nat.le_of_ble_eq_true rfl) rfl (fun _ _ _ _ _ _ _ _ hX hM hl => w_X11_isEntry l  hf hX hM hl)
theorem mt_X11_isEntry : MT yX11_isEntry cX11_isEntry 2 (some .boolean) 2 := ⟨q_11_1, q_11_0, q_1_5, by decide +kernel⟩
def f_X11_table (o : Nat) (a1 : Int32) (a2 : Int32) (a3 : Int32) (μ : Mem) : Option (Int32 × Mem) :=
  bnd (f_X11_isEntry a1 a2 μ) (fun r2 μ1 => (if r2 = 0 then some ((-1 : Int32), μ1) else bnd (f_X11_in a3 (0 : Int32) (9 : Int32) μ1) (fun r4 μ3 => (if r4 = 0 then some ((-2 : Int32), μ3) else gA (((5 : Int32) * a1) + a2) (aln (rf o 3)) (lt (μ3.1 (rf o 3) (((5 : Int32) * a1) + a2).toNatClampNeg) (fun v5 => gA (((5 : Int32) * a1) + a2) (aln (rf o 3)) (lt (sI μ3 (rf o 3) (((5 : Int32) * a1) + a2).toNatClampNeg a3) (fun μ6 => some (v5, μ6)))))))))
set_option maxHeartbeats 4000000 in
set_option maxRecDepth 100000 in
theorem w_X11_table (l : Launch) {o : Nat} {a1 : Int32} {a2 : Int32} {a3 : Int32} (ho : knd o = 9) {μ μ2 : Mem} {r : Int32} {H : Heap} {locs : List Loc} {ls : Array Slot} (hf : f_X11_table o a1 a2 a3 μ = some (r, μ2)) (hX : XX E p m meth c cX11_table 5 (some .int) s args RX11) (hM : MM E s μ H locs) (hl : lv_has ls 5 [(0, .ref (eA E o)), (1, .int a1), (2, .int a2), (3, .int a3)]) : W p l e (rmF 2 43) s m args below meth c H locs 0 0 (MQ below (QC E (some (.int r)) μ2) args s 0 0 (AA E)) (F0 m 0 ls []) := by
  obtain ⟨⟨hx, hb, hml, hown, hts⟩, hXr⟩ := id hX
  unfold f_X11_table at hf
  refine lv_iload_n hx hb dX11_table_0 rfl (lv_at hl 1 rfl) ?_
  refine lv_iload_n hx hb dX11_table_1 rfl (lv_at hl 2 rfl) ?_
  replace hf := bnd_some hf
  obtain ⟨r2, μ1, h2, hf⟩ := hf
  refine cl_S (As := [.int a1, .int a2]) (rest := []) (st2 := [.int r2]) (n := 2) hX hM (c_X11_isEntry l  h2) mt_X11_isEntry q_10_23 ⟨rfl, rfl⟩ ⟨Nat.le_of_ble_eq_true rfl, Nat.le_of_ble_eq_true rfl⟩ rfl hl.1 rfl (Nat.le_of_ble_eq_true rfl) dX11_table_2 rfl (fun H locs hM => ?_)
  refine lv_if_ne (tgt := 10) hx hb dX11_table_5 (by decide) (fun hc5 => ?_) (fun hc5 => ?_)
  · replace hf := it_f hf hc5
    refine lv_iload_n hx hb dX11_table_10 rfl (lv_at hl 3 rfl) ?_
    refine lv_iconst (v := 0) hx hb dX11_table_11 (by decide) ?_
    refine lv_bipush (v := 9) hx hb dX11_table_12 (by decide) ?_
    replace hf := bnd_some hf
    obtain ⟨r4, μ3, h14, hf⟩ := hf
    refine cl_S (As := [.int a3, .int (0 : Int32), .int (9 : Int32)]) (rest := []) (st2 := [.int r4]) (n := 3) hX hM (c_X11_in l  h14) mt_X11_in q_8_23 ⟨rfl, rfl⟩ ⟨Nat.le_of_ble_eq_true rfl, Nat.le_of_ble_eq_true rfl⟩ rfl hl.1 rfl (Nat.le_of_ble_eq_true rfl) dX11_table_14 rfl (fun H locs hM => ?_)
    refine lv_if_ne (tgt := 23) hx hb dX11_table_17 (by decide) (fun hc17 => ?_) (fun hc17 => ?_)
    · replace hf := it_f hf hc17
      refine lv_aload_n hx hb dX11_table_23 rfl (lv_at hl 0 rfl) ?_
      refine gf_9_3 hX hM ho q_7_0 dX11_table_24 ?_
      refine lv_iconst (v := 5) hx hb dX11_table_27 (by decide) ?_
      refine lv_iload_n hx hb dX11_table_28 rfl (lv_at hl 1 rfl) ?_
      refine lv_imul hx hb dX11_table_29 ?_
      refine lv_iload_n hx hb dX11_table_30 rfl (lv_at hl 2 rfl) ?_
      refine lv_iadd hx hb dX11_table_31 ?_
      replace hf := gA_some hf
      obtain ⟨hi, hf⟩ := hf
      refine ald hX hM (kr_9_3 ho) hi dX11_table_32 ?_
      refine lv_topi (fun v5 ev5 => ?_)
      replace hf := lt_e ev5 hf
      refine lv_istore (lv' := [(4, .int v5), (0, .ref (eA E o)), (1, .int a1), (2, .int a2), (3, .int a3)]) hx hb dX11_table_33 hl (by decide) rfl (fun ls hl => ?_)
      refine lv_aload_n hx hb dX11_table_35 rfl (lv_at hl 1 rfl) ?_
      refine gf_9_3 hX hM ho q_7_0 dX11_table_36 ?_
      refine lv_iconst (v := 5) hx hb dX11_table_39 (by decide) ?_
      refine lv_iload_n hx hb dX11_table_40 rfl (lv_at hl 2 rfl) ?_
      refine lv_imul hx hb dX11_table_41 ?_
      refine lv_iload_n hx hb dX11_table_42 rfl (lv_at hl 3 rfl) ?_
      refine lv_iadd hx hb dX11_table_43 ?_
      refine lv_iload_n hx hb dX11_table_44 rfl (lv_at hl 4 rfl) ?_
      replace hf := gA_some hf
      obtain ⟨hi, hf⟩ := hf
      refine ast hX hM (kr_9_3 ho) hi dX11_table_45 (fun μ6 H locs eμ6 hM => ?_)
      replace hf := lt_e eμ6 hf
      refine lv_iload hx hb dX11_table_46 (lv_at hl 0 rfl) ?_
      exact rt_i hX hM (congrArg (fun z => some (Value.int z)) (so_1 hf)) (so_2 hf) dX11_table_48
    · replace hf := it_t hf hc17
      refine lv_bipush (v := (-2)) hx hb dX11_table_20 (by decide) ?_
      exact rt_i hX hM (congrArg (fun z => some (Value.int z)) (so_1 hf)) (so_2 hf) dX11_table_22
  · replace hf := it_t hf hc5
    refine lv_iconst (v := (-1)) hx hb dX11_table_8 (by decide) ?_
    exact rt_i hX hM (congrArg (fun z => some (Value.int z)) (so_1 hf)) (so_2 hf) dX11_table_9
theorem c_X11_table (l : Launch) {o : Nat} {a1 : Int32} {a2 : Int32} {a3 : Int32} (ho : knd o = 9) {μ μ2 : Mem} {r : Int32} (hf : f_X11_table o a1 a2 a3 μ = some (r, μ2)) : CT E l yX11_table cX11_table 5 (some .int) (rmF 2 43) [.ref (eA E o), .int a1, .int a2, .int a3] μ (some (.int r)) μ2 := CT.of (show plainFor yX11_table = true by decide +kernel) (Nat.le_of_ble_eq_true rfl) rfl (fun _ _ _ _ _ _ _ _ hX hM hl => w_X11_table l ho hf hX hM hl)
theorem mv_X11_table : MV yX11_table cX11_table 5 (some .int) RX11 3 := ⟨q_10_22, q_10_20, q_10_21, q_1_5, by decide +kernel⟩
def f_X11_land_b24 (o : Nat) (a1 : Int32) (a2 : Int32)   (μ : Mem) : Option (Int32 × Mem) :=
  gA a1 (aln (rf o 0)) (lt (μ.1 (rf o 0) a1.toNatClampNeg) (fun v3 => (if a2 = 0 then gA a1 (aln (rf o 0)) (lt (sI μ (rf o 0) a1.toNatClampNeg (0 : Int32)) (fun μ4 => some (v3, μ4))) else gA a1 (aln (rf o 0)) (lt (sI μ (rf o 0) a1.toNatClampNeg (1 : Int32)) (fun μ5 => some (v3, μ5))))))
set_option maxHeartbeats 4000000 in
set_option maxRecDepth 100000 in
theorem w_X11_land_b24 (l : Launch) {o : Nat} {a1 : Int32} {a2 : Int32} (ho : knd o = 9) {μ2 : Mem} {r : Int32}    {μ : Mem} {H : Heap} {locs : List Loc} {ls : Array Slot}  (hf : f_X11_land_b24 o a1 a2   μ = some (r, μ2)) (hX : XX E p m meth c cX11_land 4 (some .int) s args RX11) (hM : MM E s μ H locs) (hl : lv_has ls 4 [(0, .ref (eA E o)), (1, .int a1), (2, .int a2)]) : W p l e (rmF 2 42) s m args below meth c H locs 0 0 (MQ below (QC E (some (.int r)) μ2) args s 0 0 (AA E)) (F0 m 24 ls []) := by
  obtain ⟨⟨hx, hb, hml, hown, hts⟩, hXr⟩ := id hX
  unfold f_X11_land_b24 at hf
  refine lv_aload_n hx hb dX11_land_24 rfl (lv_at hl 0 rfl) ?_
  refine gf_9_0 hX hM ho q_6_21 dX11_land_25 ?_
  refine lv_iload_n hx hb dX11_land_28 rfl (lv_at hl 1 rfl) ?_
  replace hf := gA_some hf
  obtain ⟨hi, hf⟩ := hf
  refine ald hX hM (kr_9_0 ho) hi dX11_land_29 ?_
  refine lv_topi (fun v3 ev3 => ?_)
  replace hf := lt_e ev3 hf
  refine lv_istore_n (lv' := [(3, .int v3), (0, .ref (eA E o)), (1, .int a1), (2, .int a2)]) hx hb dX11_land_30 rfl hl (by decide) rfl (fun ls hl => ?_)
  refine lv_aload_n hx hb dX11_land_31 rfl (lv_at hl 1 rfl) ?_
  refine gf_9_0 hX hM ho q_6_21 dX11_land_32 ?_
  refine lv_iload_n hx hb dX11_land_35 rfl (lv_at hl 2 rfl) ?_
  refine lv_iload_n hx hb dX11_land_36 rfl (lv_at hl 3 rfl) ?_
  refine lv_if_eq (tgt := 44) hx hb dX11_land_37 (by decide) (fun hc37 => ?_) (fun hc37 => ?_)
  · replace hf := it_t hf hc37
    refine lv_iconst (v := 0) hx hb dX11_land_44 (by decide) ?_
    replace hf := gA_some hf
    obtain ⟨hi, hf⟩ := hf
    refine ast hX hM (kr_9_0 ho) hi dX11_land_45 (fun μ4 H locs eμ4 hM => ?_)
    replace hf := lt_e eμ4 hf
    refine lv_iload_n hx hb dX11_land_46 rfl (lv_at hl 0 rfl) ?_
    exact rt_i hX hM (congrArg (fun z => some (Value.int z)) (so_1 hf)) (so_2 hf) dX11_land_47
  · replace hf := it_f hf hc37
    refine lv_iconst (v := 1) hx hb dX11_land_40 (by decide) ?_
    refine lv_goto (tgt := 45) hx hb dX11_land_41 (by decide) ?_
    replace hf := gA_some hf
    obtain ⟨hi, hf⟩ := hf
    refine ast hX hM (kr_9_0 ho) hi dX11_land_45 (fun μ5 H locs eμ5 hM => ?_)
    replace hf := lt_e eμ5 hf
    refine lv_iload_n hx hb dX11_land_46 rfl (lv_at hl 0 rfl) ?_
    exact rt_i hX hM (congrArg (fun z => some (Value.int z)) (so_1 hf)) (so_2 hf) dX11_land_47
def f_X11_land (o : Nat) (a1 : Int32) (a2 : Int32) (μ : Mem) : Option (Int32 × Mem) :=
  bnd (f_X11_isSquare a1 μ) (fun r2 μ1 => (if r2 = 0 then some ((-1 : Int32), μ1) else (if a2 = 0 then f_X11_land_b24 o a1 a2   μ1 else (if a1 = (μ1.1 o 7) then some ((-3 : Int32), μ1) else f_X11_land_b24 o a1 a2   μ1))))
set_option maxHeartbeats 4000000 in
set_option maxRecDepth 100000 in
theorem w_X11_land (l : Launch) {o : Nat} {a1 : Int32} {a2 : Int32} (ho : knd o = 9) {μ μ2 : Mem} {r : Int32} {H : Heap} {locs : List Loc} {ls : Array Slot} (hf : f_X11_land o a1 a2 μ = some (r, μ2)) (hX : XX E p m meth c cX11_land 4 (some .int) s args RX11) (hM : MM E s μ H locs) (hl : lv_has ls 4 [(0, .ref (eA E o)), (1, .int a1), (2, .int a2)]) : W p l e (rmF 2 42) s m args below meth c H locs 0 0 (MQ below (QC E (some (.int r)) μ2) args s 0 0 (AA E)) (F0 m 0 ls []) := by
  obtain ⟨⟨hx, hb, hml, hown, hts⟩, hXr⟩ := id hX
  unfold f_X11_land at hf
  refine lv_iload_n hx hb dX11_land_0 rfl (lv_at hl 1 rfl) ?_
  replace hf := bnd_some hf
  obtain ⟨r2, μ1, h1, hf⟩ := hf
  refine cl_S (As := [.int a1]) (rest := []) (st2 := [.int r2]) (n := 1) hX hM (c_X11_isSquare l  h1) mt_X11_isSquare q_11_21 ⟨rfl, rfl⟩ ⟨Nat.le_of_ble_eq_true rfl, Nat.le_of_ble_eq_true rfl⟩ rfl hl.1 rfl (Nat.le_of_ble_eq_true rfl) dX11_land_1 rfl (fun H locs hM => ?_)
  refine lv_if_ne (tgt := 9) hx hb dX11_land_4 (by decide) (fun hc4 => ?_) (fun hc4 => ?_)
  · replace hf := it_f hf hc4
    refine lv_iload_n hx hb dX11_land_9 rfl (lv_at hl 2 rfl) ?_
    refine lv_if_eq (tgt := 24) hx hb dX11_land_10 (by decide) (fun hc10 => ?_) (fun hc10 => ?_)
    · replace hf := it_t hf hc10
      exact w_X11_land_b24 l ho   hf hX hM (lv_sub hl [0, 1, 2] rfl)
    · replace hf := it_f hf hc10
      refine lv_iload_n hx hb dX11_land_13 rfl (lv_at hl 1 rfl) ?_
      refine lv_aload_n hx hb dX11_land_14 rfl (lv_at hl 0 rfl) ?_
      refine gf_9_7 hX hM ho q_11_20 dX11_land_15 ?_
      refine lv_icmp_ne (tgt := 24) hx hb dX11_land_18 (by decide) (fun hc18 => ?_) (fun hc18 => ?_)
      · replace hf := it_f hf hc18
        exact w_X11_land_b24 l ho   hf hX hM (lv_sub hl [0, 1, 2] rfl)
      · replace hf := it_t hf hc18
        refine lv_bipush (v := (-3)) hx hb dX11_land_21 (by decide) ?_
        exact rt_i hX hM (congrArg (fun z => some (Value.int z)) (so_1 hf)) (so_2 hf) dX11_land_23
  · replace hf := it_t hf hc4
    refine lv_iconst (v := (-1)) hx hb dX11_land_7 (by decide) ?_
    exact rt_i hX hM (congrArg (fun z => some (Value.int z)) (so_1 hf)) (so_2 hf) dX11_land_8
theorem c_X11_land (l : Launch) {o : Nat} {a1 : Int32} {a2 : Int32} (ho : knd o = 9) {μ μ2 : Mem} {r : Int32} (hf : f_X11_land o a1 a2 μ = some (r, μ2)) : CT E l yX11_land cX11_land 4 (some .int) (rmF 2 42) [.ref (eA E o), .int a1, .int a2] μ (some (.int r)) μ2 := CT.of (show plainFor yX11_land = true by decide +kernel) (Nat.le_of_ble_eq_true rfl) rfl (fun _ _ _ _ _ _ _ _ hX hM hl => w_X11_land l ho hf hX hM hl)
theorem mv_X11_land : MV yX11_land cX11_land 4 (some .int) RX11 2 := ⟨q_11_19, q_11_17, q_11_18, q_1_5, by decide +kernel⟩
def f_X11_notStart (o : Nat) (a1 : Int32) (a2 : Int32) (a3 : Int32) (μ : Mem) : Option (Int32 × Mem) :=
  bnd (f_X11_isSquare a1 μ) (fun r2 μ1 => (if r2 = 0 then some ((-1 : Int32), μ1) else bnd (f_X11_isSide a2 μ1) (fun r4 μ3 => (if r4 = 0 then some ((-1 : Int32), μ3) else bnd (f_X11_in a3 (0 : Int32) (9999 : Int32) μ3) (fun r6 μ5 => (if r6 = 0 then some ((-2 : Int32), μ5) else gA a1 (aln (rf o 0)) ((if (μ5.1 (rf o 0) a1.toNatClampNeg) = (1 : Int32) then some ((-3 : Int32), μ5) else some ((0 : Int32), μ5)))))))))
set_option maxHeartbeats 4000000 in
set_option maxRecDepth 100000 in
theorem w_X11_notStart (l : Launch) {o : Nat} {a1 : Int32} {a2 : Int32} {a3 : Int32} (ho : knd o = 9) {μ μ2 : Mem} {r : Int32} {H : Heap} {locs : List Loc} {ls : Array Slot} (hf : f_X11_notStart o a1 a2 a3 μ = some (r, μ2)) (hX : XX E p m meth c cX11_notStart 4 (some .int) s args RX11) (hM : MM E s μ H locs) (hl : lv_has ls 4 [(0, .ref (eA E o)), (1, .int a1), (2, .int a2), (3, .int a3)]) : W p l e (rmF 2 42) s m args below meth c H locs 0 0 (MQ below (QC E (some (.int r)) μ2) args s 0 0 (AA E)) (F0 m 0 ls []) := by
  obtain ⟨⟨hx, hb, hml, hown, hts⟩, hXr⟩ := id hX
  unfold f_X11_notStart at hf
  refine lv_iload_n hx hb dX11_notStart_0 rfl (lv_at hl 1 rfl) ?_
  replace hf := bnd_some hf
  obtain ⟨r2, μ1, h1, hf⟩ := hf
  refine cl_S (As := [.int a1]) (rest := []) (st2 := [.int r2]) (n := 1) hX hM (c_X11_isSquare l  h1) mt_X11_isSquare q_11_21 ⟨rfl, rfl⟩ ⟨Nat.le_of_ble_eq_true rfl, Nat.le_of_ble_eq_true rfl⟩ rfl hl.1 rfl (Nat.le_of_ble_eq_true rfl) dX11_notStart_1 rfl (fun H locs hM => ?_)
  refine lv_if_eq (tgt := 14) hx hb dX11_notStart_4 (by decide) (fun hc4 => ?_) (fun hc4 => ?_)
  · replace hf := it_t hf hc4
    refine lv_iconst (v := (-1)) hx hb dX11_notStart_14 (by decide) ?_
    exact rt_i hX hM (congrArg (fun z => some (Value.int z)) (so_1 hf)) (so_2 hf) dX11_notStart_15
  · replace hf := it_f hf hc4
    refine lv_iload_n hx hb dX11_notStart_7 rfl (lv_at hl 2 rfl) ?_
    replace hf := bnd_some hf
    obtain ⟨r4, μ3, h8, hf⟩ := hf
    refine cl_S (As := [.int a2]) (rest := []) (st2 := [.int r4]) (n := 1) hX hM (c_X11_isSide l  h8) mt_X11_isSide q_17_14 ⟨rfl, rfl⟩ ⟨Nat.le_of_ble_eq_true rfl, Nat.le_of_ble_eq_true rfl⟩ rfl hl.1 rfl (Nat.le_of_ble_eq_true rfl) dX11_notStart_8 rfl (fun H locs hM => ?_)
    refine lv_if_ne (tgt := 16) hx hb dX11_notStart_11 (by decide) (fun hc11 => ?_) (fun hc11 => ?_)
    · replace hf := it_f hf hc11
      refine lv_iload_n hx hb dX11_notStart_16 rfl (lv_at hl 3 rfl) ?_
      refine lv_iconst (v := 0) hx hb dX11_notStart_17 (by decide) ?_
      refine lv_sipush (v := 9999) hx hb dX11_notStart_18 (by decide) ?_
      replace hf := bnd_some hf
      obtain ⟨r6, μ5, h21, hf⟩ := hf
      refine cl_S (As := [.int a3, .int (0 : Int32), .int (9999 : Int32)]) (rest := []) (st2 := [.int r6]) (n := 3) hX hM (c_X11_in l  h21) mt_X11_in q_8_23 ⟨rfl, rfl⟩ ⟨Nat.le_of_ble_eq_true rfl, Nat.le_of_ble_eq_true rfl⟩ rfl hl.1 rfl (Nat.le_of_ble_eq_true rfl) dX11_notStart_21 rfl (fun H locs hM => ?_)
      refine lv_if_ne (tgt := 30) hx hb dX11_notStart_24 (by decide) (fun hc24 => ?_) (fun hc24 => ?_)
      · replace hf := it_f hf hc24
        refine lv_aload_n hx hb dX11_notStart_30 rfl (lv_at hl 0 rfl) ?_
        refine gf_9_0 hX hM ho q_6_21 dX11_notStart_31 ?_
        refine lv_iload_n hx hb dX11_notStart_34 rfl (lv_at hl 1 rfl) ?_
        replace hf := gA_some hf
        obtain ⟨hi, hf⟩ := hf
        refine ald hX hM (kr_9_0 ho) hi dX11_notStart_35 ?_
        refine lv_iconst (v := 1) hx hb dX11_notStart_36 (by decide) ?_
        refine lv_icmp_ne (tgt := 45) hx hb dX11_notStart_37 (by decide) (fun hc37 => ?_) (fun hc37 => ?_)
        · replace hf := it_f hf hc37
          refine lv_iconst (v := 0) hx hb dX11_notStart_45 (by decide) ?_
          exact rt_i hX hM (congrArg (fun z => some (Value.int z)) (so_1 hf)) (so_2 hf) dX11_notStart_46
        · replace hf := it_t hf hc37
          refine lv_bipush (v := (-3)) hx hb dX11_notStart_40 (by decide) ?_
          refine lv_goto (tgt := 46) hx hb dX11_notStart_42 (by decide) ?_
          exact rt_i hX hM (congrArg (fun z => some (Value.int z)) (so_1 hf)) (so_2 hf) dX11_notStart_46
      · replace hf := it_t hf hc24
        refine lv_bipush (v := (-2)) hx hb dX11_notStart_27 (by decide) ?_
        exact rt_i hX hM (congrArg (fun z => some (Value.int z)) (so_1 hf)) (so_2 hf) dX11_notStart_29
    · replace hf := it_t hf hc11
      refine lv_iconst (v := (-1)) hx hb dX11_notStart_14 (by decide) ?_
      exact rt_i hX hM (congrArg (fun z => some (Value.int z)) (so_1 hf)) (so_2 hf) dX11_notStart_15
theorem c_X11_notStart (l : Launch) {o : Nat} {a1 : Int32} {a2 : Int32} {a3 : Int32} (ho : knd o = 9) {μ μ2 : Mem} {r : Int32} (hf : f_X11_notStart o a1 a2 a3 μ = some (r, μ2)) : CT E l yX11_notStart cX11_notStart 4 (some .int) (rmF 2 42) [.ref (eA E o), .int a1, .int a2, .int a3] μ (some (.int r)) μ2 := CT.of (show plainFor yX11_notStart = true by decide +kernel) (Nat.le_of_ble_eq_true rfl) rfl (fun _ _ _ _ _ _ _ _ hX hM hl => w_X11_notStart l ho hf hX hM hl)
theorem mv_X11_notStart : MV yX11_notStart cX11_notStart 4 (some .int) RX11 3 := ⟨q_17_13, q_17_11, q_17_12, q_1_5, by decide +kernel⟩
def f_X11_begins (o : Nat) (a1 : Int32) (a2 : Int32) (a3 : Int32) (μ : Mem) : Option (Mem) :=
  lt (sI μ o 7 a1) (fun μ1 => lt (sI μ1 o 8 a2) (fun μ2 => lt (sI μ2 o 9 a3) (fun μ3 => some μ3)))
set_option maxHeartbeats 4000000 in
set_option maxRecDepth 100000 in
theorem w_X11_begins (l : Launch) {o : Nat} {a1 : Int32} {a2 : Int32} {a3 : Int32} (ho : knd o = 9) {μ μ2 : Mem} {H : Heap} {locs : List Loc} {ls : Array Slot} (hf : f_X11_begins o a1 a2 a3 μ = some μ2) (hX : XX E p m meth c cX11_begins 4 none s args RX11) (hM : MM E s μ H locs) (hl : lv_has ls 4 [(0, .ref (eA E o)), (1, .int a1), (2, .int a2), (3, .int a3)]) : W p l e (rmF 0 0) s m args below meth c H locs 0 0 (MQ below (QC E (none) μ2) args s 0 0 (AA E)) (F0 m 0 ls []) := by
  obtain ⟨⟨hx, hb, hml, hown, hts⟩, hXr⟩ := id hX
  unfold f_X11_begins at hf
  refine lv_aload_n hx hb dX11_begins_0 rfl (lv_at hl 0 rfl) ?_
  refine lv_iload_n hx hb dX11_begins_1 rfl (lv_at hl 1 rfl) ?_
  refine pf_9_7 hX hM ho q_11_20 dX11_begins_2 (fun μ1 H locs eμ1 hM => ?_)
  replace hf := lt_e eμ1 hf
  refine lv_aload_n hx hb dX11_begins_5 rfl (lv_at hl 0 rfl) ?_
  refine lv_iload_n hx hb dX11_begins_6 rfl (lv_at hl 2 rfl) ?_
  refine pf_9_8 hX hM ho q_17_21 dX11_begins_7 (fun μ2 H locs eμ2 hM => ?_)
  replace hf := lt_e eμ2 hf
  refine lv_aload_n hx hb dX11_begins_10 rfl (lv_at hl 0 rfl) ?_
  refine lv_iload_n hx hb dX11_begins_11 rfl (lv_at hl 3 rfl) ?_
  refine pf_9_9 hX hM ho q_17_22 dX11_begins_12 (fun μ3 H locs eμ3 hM => ?_)
  replace hf := lt_e eμ3 hf
  exact rt_v hX hM rfl (Option.some.inj hf) dX11_begins_15
theorem c_X11_begins (l : Launch) {o : Nat} {a1 : Int32} {a2 : Int32} {a3 : Int32} (ho : knd o = 9) {μ μ2 : Mem} (hf : f_X11_begins o a1 a2 a3 μ = some μ2) : CT E l yX11_begins cX11_begins 4 none (rmF 0 0) [.ref (eA E o), .int a1, .int a2, .int a3] μ (none) μ2 := CT.of (show plainFor yX11_begins = true by decide +kernel) (Nat.le_of_ble_eq_true rfl) rfl (fun _ _ _ _ _ _ _ _ hX hM hl => w_X11_begins l ho hf hX hM hl)
theorem mv_X11_begins : MV yX11_begins cX11_begins 4 none RX11 3 := ⟨q_17_20, q_17_18, q_17_19, q_1_5, by decide +kernel⟩
def f_X11_minuteOf (a0 : Int32) (a1 : Int32) (μ : Mem) : Option (Int32 × Mem) :=
  (if a1 = 0 then some (a0, μ) else some (((360 : Int32) * ((a0 / (360 : Int32)) + a1)), μ))
set_option maxHeartbeats 4000000 in
set_option maxRecDepth 100000 in
theorem w_X11_minuteOf (l : Launch) {a0 : Int32} {a1 : Int32}  {μ μ2 : Mem} {r : Int32} {H : Heap} {locs : List Loc} {ls : Array Slot} (hf : f_X11_minuteOf a0 a1 μ = some (r, μ2)) (hX : XX E p m meth c cX11_minuteOf 2 (some .int) s args RX11) (hM : MM E s μ H locs) (hl : lv_has ls 2 [(0, .int a0), (1, .int a1)]) : W p l e (rmF 0 0) s m args below meth c H locs 0 0 (MQ below (QC E (some (.int r)) μ2) args s 0 0 (AA E)) (F0 m 0 ls []) := by
  obtain ⟨⟨hx, hb, hml, hown, hts⟩, hXr⟩ := id hX
  unfold f_X11_minuteOf at hf
  refine lv_iload_n hx hb dX11_minuteOf_0 rfl (lv_at hl 1 rfl) ?_
  refine lv_if_ne (tgt := 8) hx hb dX11_minuteOf_1 (by decide) (fun hc1 => ?_) (fun hc1 => ?_)
  · replace hf := it_f hf hc1
    refine lv_sipush (v := 360) hx hb dX11_minuteOf_8 (by decide) ?_
    refine lv_iload_n hx hb dX11_minuteOf_11 rfl (lv_at hl 0 rfl) ?_
    refine lv_sipush (v := 360) hx hb dX11_minuteOf_12 (by decide) ?_
    refine lv_idiv hx hb dX11_minuteOf_15 (by decide) ?_
    refine lv_iload_n hx hb dX11_minuteOf_16 rfl (lv_at hl 1 rfl) ?_
    refine lv_iadd hx hb dX11_minuteOf_17 ?_
    refine lv_imul hx hb dX11_minuteOf_18 ?_
    exact rt_i hX hM (congrArg (fun z => some (Value.int z)) (so_1 hf)) (so_2 hf) dX11_minuteOf_19
  · replace hf := it_t hf hc1
    refine lv_iload_n hx hb dX11_minuteOf_4 rfl (lv_at hl 0 rfl) ?_
    refine lv_goto (tgt := 19) hx hb dX11_minuteOf_5 (by decide) ?_
    exact rt_i hX hM (congrArg (fun z => some (Value.int z)) (so_1 hf)) (so_2 hf) dX11_minuteOf_19
theorem c_X11_minuteOf (l : Launch) {a0 : Int32} {a1 : Int32}  {μ μ2 : Mem} {r : Int32} (hf : f_X11_minuteOf a0 a1 μ = some (r, μ2)) : CT E l yX11_minuteOf cX11_minuteOf 2 (some .int) (rmF 0 0) [.int a0, .int a1] μ (some (.int r)) μ2 := CT.of (show plainFor yX11_minuteOf = true by decide +kernel) (Nat.le_of_ble_eq_true rfl) rfl (fun _ _ _ _ _ _ _ _ hX hM hl => w_X11_minuteOf l  hf hX hM hl)
theorem mt_X11_minuteOf : MT yX11_minuteOf cX11_minuteOf 2 (some .int) 2 := ⟨q_18_8, q_18_7, q_1_5, by decide +kernel⟩
def f_X11_beside_b68 (o : Nat) (a1 : Int32) (a2 : Int32)  (x3 : Int32) (t0 : Int32) (μ : Mem) : Option (Int32 × Mem) :=
  lt ((a1 / (6 : Int32)) + x3) (fun v5 => lt ((a1 - a1 / (6 : Int32) * (6 : Int32)) + t0) (fun v6 => bnd (f_X11_in v5 (0 : Int32) (5 : Int32) μ) (fun r8 μ7 => (if r8 = 0 then some ((-1 : Int32), μ7) else bnd (f_X11_in v6 (0 : Int32) (5 : Int32) μ7) (fun r10 μ9 => (if r10 = 0 then some ((-1 : Int32), μ9) else gA (((6 : Int32) * v5) + v6) (aln (rf o 0)) ((if (μ9.1 (rf o 0) (((6 : Int32) * v5) + v6).toNatClampNeg) = (1 : Int32) then some ((-1 : Int32), μ9) else some ((((6 : Int32) * v5) + v6), μ9)))))))))
set_option maxHeartbeats 4000000 in
set_option maxRecDepth 100000 in
theorem w_X11_beside_b68 (l : Launch) {o : Nat} {a1 : Int32} {a2 : Int32} (ho : knd o = 9) {μ2 : Mem} {r : Int32}   {x3 : Int32} {t0 : Int32} {μ : Mem} {H : Heap} {locs : List Loc} {ls : Array Slot}  (hf : f_X11_beside_b68 o a1 a2  x3 t0 μ = some (r, μ2)) (hX : XX E p m meth c cX11_beside 7 (some .int) s args RX11) (hM : MM E s μ H locs) (hl : lv_has ls 7 [(0, .ref (eA E o)), (1, .int a1), (2, .int a2), (3, .int x3)]) : W p l e (rmF 1 22) s m args below meth c H locs 0 0 (MQ below (QC E (some (.int r)) μ2) args s 0 0 (AA E)) (F0 m 68 ls [.int t0]) := by
  obtain ⟨⟨hx, hb, hml, hown, hts⟩, hXr⟩ := id hX
  unfold f_X11_beside_b68 at hf
  refine lv_istore (lv' := [(4, .int t0), (0, .ref (eA E o)), (1, .int a1), (2, .int a2), (3, .int x3)]) hx hb dX11_beside_68 hl (by decide) rfl (fun ls hl => ?_)
  refine lv_iload_n hx hb dX11_beside_70 rfl (lv_at hl 2 rfl) ?_
  refine lv_bipush (v := 6) hx hb dX11_beside_71 (by decide) ?_
  refine lv_idiv hx hb dX11_beside_73 (by decide) ?_
  refine lv_iload_n hx hb dX11_beside_74 rfl (lv_at hl 4 rfl) ?_
  refine lv_iadd hx hb dX11_beside_75 ?_
  refine lv_topi (fun v5 ev5 => ?_)
  replace hf := lt_e ev5 hf
  refine lv_istore (lv' := [(5, .int v5), (4, .int t0), (0, .ref (eA E o)), (1, .int a1), (2, .int a2), (3, .int x3)]) hx hb dX11_beside_76 hl (by decide) rfl (fun ls hl => ?_)
  refine lv_iload_n hx hb dX11_beside_78 rfl (lv_at hl 3 rfl) ?_
  refine lv_bipush (v := 6) hx hb dX11_beside_79 (by decide) ?_
  refine lv_irem hx hb dX11_beside_81 (by decide) ?_
  refine lv_iload hx hb dX11_beside_82 (lv_at hl 1 rfl) ?_
  refine lv_iadd hx hb dX11_beside_84 ?_
  refine lv_topi (fun v6 ev6 => ?_)
  replace hf := lt_e ev6 hf
  refine lv_istore (lv' := [(6, .int v6), (5, .int v5), (4, .int t0), (0, .ref (eA E o)), (1, .int a1), (2, .int a2), (3, .int x3)]) hx hb dX11_beside_85 hl (by decide) rfl (fun ls hl => ?_)
  refine lv_iload hx hb dX11_beside_87 (lv_at hl 1 rfl) ?_
  refine lv_iconst (v := 0) hx hb dX11_beside_89 (by decide) ?_
  refine lv_iconst (v := 5) hx hb dX11_beside_90 (by decide) ?_
  replace hf := bnd_some hf
  obtain ⟨r8, μ7, h91, hf⟩ := hf
  refine cl_S (As := [.int v5, .int (0 : Int32), .int (5 : Int32)]) (rest := []) (st2 := [.int r8]) (n := 3) hX hM (c_X11_in l  h91) mt_X11_in q_8_23 ⟨rfl, rfl⟩ ⟨Nat.le_of_ble_eq_true rfl, Nat.le_of_ble_eq_true rfl⟩ rfl hl.1 rfl (Nat.le_of_ble_eq_true rfl) dX11_beside_91 rfl (fun H locs hM => ?_)
  refine lv_if_eq (tgt := 107) hx hb dX11_beside_94 (by decide) (fun hc94 => ?_) (fun hc94 => ?_)
  · replace hf := it_t hf hc94
    refine lv_iconst (v := (-1)) hx hb dX11_beside_107 (by decide) ?_
    exact rt_i hX hM (congrArg (fun z => some (Value.int z)) (so_1 hf)) (so_2 hf) dX11_beside_108
  · replace hf := it_f hf hc94
    refine lv_iload hx hb dX11_beside_97 (lv_at hl 0 rfl) ?_
    refine lv_iconst (v := 0) hx hb dX11_beside_99 (by decide) ?_
    refine lv_iconst (v := 5) hx hb dX11_beside_100 (by decide) ?_
    replace hf := bnd_some hf
    obtain ⟨r10, μ9, h101, hf⟩ := hf
    refine cl_S (As := [.int v6, .int (0 : Int32), .int (5 : Int32)]) (rest := []) (st2 := [.int r10]) (n := 3) hX hM (c_X11_in l  h101) mt_X11_in q_8_23 ⟨rfl, rfl⟩ ⟨Nat.le_of_ble_eq_true rfl, Nat.le_of_ble_eq_true rfl⟩ rfl hl.1 rfl (Nat.le_of_ble_eq_true rfl) dX11_beside_101 rfl (fun H locs hM => ?_)
    refine lv_if_ne (tgt := 109) hx hb dX11_beside_104 (by decide) (fun hc104 => ?_) (fun hc104 => ?_)
    · replace hf := it_f hf hc104
      refine lv_aload_n hx hb dX11_beside_109 rfl (lv_at hl 3 rfl) ?_
      refine gf_9_0 hX hM ho q_6_21 dX11_beside_110 ?_
      refine lv_bipush (v := 6) hx hb dX11_beside_113 (by decide) ?_
      refine lv_iload hx hb dX11_beside_115 (lv_at hl 1 rfl) ?_
      refine lv_imul hx hb dX11_beside_117 ?_
      refine lv_iload hx hb dX11_beside_118 (lv_at hl 0 rfl) ?_
      refine lv_iadd hx hb dX11_beside_120 ?_
      replace hf := gA_some hf
      obtain ⟨hi, hf⟩ := hf
      refine ald hX hM (kr_9_0 ho) hi dX11_beside_121 ?_
      refine lv_iconst (v := 1) hx hb dX11_beside_122 (by decide) ?_
      refine lv_icmp_ne (tgt := 130) hx hb dX11_beside_123 (by decide) (fun hc123 => ?_) (fun hc123 => ?_)
      · replace hf := it_f hf hc123
        refine lv_bipush (v := 6) hx hb dX11_beside_130 (by decide) ?_
        refine lv_iload hx hb dX11_beside_132 (lv_at hl 1 rfl) ?_
        refine lv_imul hx hb dX11_beside_134 ?_
        refine lv_iload hx hb dX11_beside_135 (lv_at hl 0 rfl) ?_
        refine lv_iadd hx hb dX11_beside_137 ?_
        exact rt_i hX hM (congrArg (fun z => some (Value.int z)) (so_1 hf)) (so_2 hf) dX11_beside_138
      · replace hf := it_t hf hc123
        refine lv_iconst (v := (-1)) hx hb dX11_beside_126 (by decide) ?_
        refine lv_goto (tgt := 138) hx hb dX11_beside_127 (by decide) ?_
        exact rt_i hX hM (congrArg (fun z => some (Value.int z)) (so_1 hf)) (so_2 hf) dX11_beside_138
    · replace hf := it_t hf hc104
      refine lv_iconst (v := (-1)) hx hb dX11_beside_107 (by decide) ?_
      exact rt_i hX hM (congrArg (fun z => some (Value.int z)) (so_1 hf)) (so_2 hf) dX11_beside_108
def f_X11_beside_b39 (o : Nat) (a1 : Int32) (a2 : Int32)  (t0 : Int32) (μ : Mem) : Option (Int32 × Mem) :=
  bnd (f_X11_in a2 (1 : Int32) (3 : Int32) μ) (fun r2 μ1 => (if r2 = 0 then bnd (f_X11_in a2 (5 : Int32) (7 : Int32) μ1) (fun r4 μ3 => (if r4 = 0 then f_X11_beside_b68 o a1 a2  t0 (0 : Int32) μ3 else f_X11_beside_b68 o a1 a2  t0 (-1 : Int32) μ3)) else f_X11_beside_b68 o a1 a2  t0 (1 : Int32) μ1))
set_option maxHeartbeats 4000000 in
set_option maxRecDepth 100000 in
theorem w_X11_beside_b39 (l : Launch) {o : Nat} {a1 : Int32} {a2 : Int32} (ho : knd o = 9) {μ2 : Mem} {r : Int32}   {t0 : Int32} {μ : Mem} {H : Heap} {locs : List Loc} {ls : Array Slot}  (hf : f_X11_beside_b39 o a1 a2  t0 μ = some (r, μ2)) (hX : XX E p m meth c cX11_beside 7 (some .int) s args RX11) (hM : MM E s μ H locs) (hl : lv_has ls 7 [(0, .ref (eA E o)), (1, .int a1), (2, .int a2)]) : W p l e (rmF 1 22) s m args below meth c H locs 0 0 (MQ below (QC E (some (.int r)) μ2) args s 0 0 (AA E)) (F0 m 39 ls [.int t0]) := by
  obtain ⟨⟨hx, hb, hml, hown, hts⟩, hXr⟩ := id hX
  unfold f_X11_beside_b39 at hf
  refine lv_istore_n (lv' := [(3, .int t0), (0, .ref (eA E o)), (1, .int a1), (2, .int a2)]) hx hb dX11_beside_39 rfl hl (by decide) rfl (fun ls hl => ?_)
  refine lv_iload_n hx hb dX11_beside_40 rfl (lv_at hl 3 rfl) ?_
  refine lv_iconst (v := 1) hx hb dX11_beside_41 (by decide) ?_
  refine lv_iconst (v := 3) hx hb dX11_beside_42 (by decide) ?_
  replace hf := bnd_some hf
  obtain ⟨r2, μ1, h43, hf⟩ := hf
  refine cl_S (As := [.int a2, .int (1 : Int32), .int (3 : Int32)]) (rest := []) (st2 := [.int r2]) (n := 3) hX hM (c_X11_in l  h43) mt_X11_in q_8_23 ⟨rfl, rfl⟩ ⟨Nat.le_of_ble_eq_true rfl, Nat.le_of_ble_eq_true rfl⟩ rfl hl.1 rfl (Nat.le_of_ble_eq_true rfl) dX11_beside_43 rfl (fun H locs hM => ?_)
  refine lv_if_eq (tgt := 53) hx hb dX11_beside_46 (by decide) (fun hc46 => ?_) (fun hc46 => ?_)
  · replace hf := it_t hf hc46
    refine lv_iload_n hx hb dX11_beside_53 rfl (lv_at hl 3 rfl) ?_
    refine lv_iconst (v := 5) hx hb dX11_beside_54 (by decide) ?_
    refine lv_bipush (v := 7) hx hb dX11_beside_55 (by decide) ?_
    replace hf := bnd_some hf
    obtain ⟨r4, μ3, h57, hf⟩ := hf
    refine cl_S (As := [.int a2, .int (5 : Int32), .int (7 : Int32)]) (rest := []) (st2 := [.int r4]) (n := 3) hX hM (c_X11_in l  h57) mt_X11_in q_8_23 ⟨rfl, rfl⟩ ⟨Nat.le_of_ble_eq_true rfl, Nat.le_of_ble_eq_true rfl⟩ rfl hl.1 rfl (Nat.le_of_ble_eq_true rfl) dX11_beside_57 rfl (fun H locs hM => ?_)
    refine lv_if_eq (tgt := 67) hx hb dX11_beside_60 (by decide) (fun hc60 => ?_) (fun hc60 => ?_)
    · replace hf := it_t hf hc60
      refine lv_iconst (v := 0) hx hb dX11_beside_67 (by decide) ?_
      exact w_X11_beside_b68 l ho   hf hX hM (lv_sub hl [1, 2, 3, 0] rfl)
    · replace hf := it_f hf hc60
      refine lv_iconst (v := (-1)) hx hb dX11_beside_63 (by decide) ?_
      refine lv_goto (tgt := 68) hx hb dX11_beside_64 (by decide) ?_
      exact w_X11_beside_b68 l ho   hf hX hM (lv_sub hl [1, 2, 3, 0] rfl)
  · replace hf := it_f hf hc46
    refine lv_iconst (v := 1) hx hb dX11_beside_49 (by decide) ?_
    refine lv_goto (tgt := 68) hx hb dX11_beside_50 (by decide) ?_
    exact w_X11_beside_b68 l ho   hf hX hM (lv_sub hl [1, 2, 3, 0] rfl)
def f_X11_beside_b15 (o : Nat) (a1 : Int32) (a2 : Int32)   (μ : Mem) : Option (Int32 × Mem) :=
  f_X11_beside_b39 o a1 a2  (-1 : Int32) μ
set_option maxHeartbeats 4000000 in
set_option maxRecDepth 100000 in
theorem w_X11_beside_b15 (l : Launch) {o : Nat} {a1 : Int32} {a2 : Int32} (ho : knd o = 9) {μ2 : Mem} {r : Int32}    {μ : Mem} {H : Heap} {locs : List Loc} {ls : Array Slot}  (hf : f_X11_beside_b15 o a1 a2   μ = some (r, μ2)) (hX : XX E p m meth c cX11_beside 7 (some .int) s args RX11) (hM : MM E s μ H locs) (hl : lv_has ls 7 [(0, .ref (eA E o)), (1, .int a1), (2, .int a2)]) : W p l e (rmF 1 22) s m args below meth c H locs 0 0 (MQ below (QC E (some (.int r)) μ2) args s 0 0 (AA E)) (F0 m 15 ls []) := by
  obtain ⟨⟨hx, hb, hml, hown, hts⟩, hXr⟩ := id hX
  unfold f_X11_beside_b15 at hf
  refine lv_iconst (v := (-1)) hx hb dX11_beside_15 (by decide) ?_
  refine lv_goto (tgt := 39) hx hb dX11_beside_16 (by decide) ?_
  exact w_X11_beside_b39 l ho   hf hX hM (lv_sub hl [0, 1, 2] rfl)
def f_X11_beside_b34 (o : Nat) (a1 : Int32) (a2 : Int32)   (μ : Mem) : Option (Int32 × Mem) :=
  f_X11_beside_b39 o a1 a2  (1 : Int32) μ
set_option maxHeartbeats 4000000 in
set_option maxRecDepth 100000 in
theorem w_X11_beside_b34 (l : Launch) {o : Nat} {a1 : Int32} {a2 : Int32} (ho : knd o = 9) {μ2 : Mem} {r : Int32}    {μ : Mem} {H : Heap} {locs : List Loc} {ls : Array Slot}  (hf : f_X11_beside_b34 o a1 a2   μ = some (r, μ2)) (hX : XX E p m meth c cX11_beside 7 (some .int) s args RX11) (hM : MM E s μ H locs) (hl : lv_has ls 7 [(0, .ref (eA E o)), (1, .int a1), (2, .int a2)]) : W p l e (rmF 1 22) s m args below meth c H locs 0 0 (MQ below (QC E (some (.int r)) μ2) args s 0 0 (AA E)) (F0 m 34 ls []) := by
  obtain ⟨⟨hx, hb, hml, hown, hts⟩, hXr⟩ := id hX
  unfold f_X11_beside_b34 at hf
  refine lv_iconst (v := 1) hx hb dX11_beside_34 (by decide) ?_
  refine lv_goto (tgt := 39) hx hb dX11_beside_35 (by decide) ?_
  exact w_X11_beside_b39 l ho   hf hX hM (lv_sub hl [0, 1, 2] rfl)
def f_X11_beside (o : Nat) (a1 : Int32) (a2 : Int32) (μ : Mem) : Option (Int32 × Mem) :=
  (if a2 = 0 then f_X11_beside_b15 o a1 a2   μ else (if a2 = (1 : Int32) then f_X11_beside_b15 o a1 a2   μ else (if a2 = (7 : Int32) then f_X11_beside_b15 o a1 a2   μ else (if a2 = (3 : Int32) then f_X11_beside_b34 o a1 a2   μ else (if a2 = (4 : Int32) then f_X11_beside_b34 o a1 a2   μ else (if a2 = (5 : Int32) then f_X11_beside_b34 o a1 a2   μ else f_X11_beside_b39 o a1 a2  (0 : Int32) μ))))))
set_option maxHeartbeats 4000000 in
set_option maxRecDepth 100000 in
theorem w_X11_beside (l : Launch) {o : Nat} {a1 : Int32} {a2 : Int32} (ho : knd o = 9) {μ μ2 : Mem} {r : Int32} {H : Heap} {locs : List Loc} {ls : Array Slot} (hf : f_X11_beside o a1 a2 μ = some (r, μ2)) (hX : XX E p m meth c cX11_beside 7 (some .int) s args RX11) (hM : MM E s μ H locs) (hl : lv_has ls 7 [(0, .ref (eA E o)), (1, .int a1), (2, .int a2)]) : W p l e (rmF 1 22) s m args below meth c H locs 0 0 (MQ below (QC E (some (.int r)) μ2) args s 0 0 (AA E)) (F0 m 0 ls []) := by
  obtain ⟨⟨hx, hb, hml, hown, hts⟩, hXr⟩ := id hX
  unfold f_X11_beside at hf
  refine lv_iload_n hx hb dX11_beside_0 rfl (lv_at hl 2 rfl) ?_
  refine lv_if_eq (tgt := 15) hx hb dX11_beside_1 (by decide) (fun hc1 => ?_) (fun hc1 => ?_)
  · replace hf := it_t hf hc1
    exact w_X11_beside_b15 l ho   hf hX hM (lv_sub hl [0, 1, 2] rfl)
  · replace hf := it_f hf hc1
    refine lv_iload_n hx hb dX11_beside_4 rfl (lv_at hl 2 rfl) ?_
    refine lv_iconst (v := 1) hx hb dX11_beside_5 (by decide) ?_
    refine lv_icmp_eq (tgt := 15) hx hb dX11_beside_6 (by decide) (fun hc6 => ?_) (fun hc6 => ?_)
    · replace hf := it_t hf hc6
      exact w_X11_beside_b15 l ho   hf hX hM (lv_sub hl [0, 1, 2] rfl)
    · replace hf := it_f hf hc6
      refine lv_iload_n hx hb dX11_beside_9 rfl (lv_at hl 2 rfl) ?_
      refine lv_bipush (v := 7) hx hb dX11_beside_10 (by decide) ?_
      refine lv_icmp_ne (tgt := 19) hx hb dX11_beside_12 (by decide) (fun hc12 => ?_) (fun hc12 => ?_)
      · replace hf := it_f hf hc12
        refine lv_iload_n hx hb dX11_beside_19 rfl (lv_at hl 2 rfl) ?_
        refine lv_iconst (v := 3) hx hb dX11_beside_20 (by decide) ?_
        refine lv_icmp_eq (tgt := 34) hx hb dX11_beside_21 (by decide) (fun hc21 => ?_) (fun hc21 => ?_)
        · replace hf := it_t hf hc21
          exact w_X11_beside_b34 l ho   hf hX hM (lv_sub hl [0, 1, 2] rfl)
        · replace hf := it_f hf hc21
          refine lv_iload_n hx hb dX11_beside_24 rfl (lv_at hl 2 rfl) ?_
          refine lv_iconst (v := 4) hx hb dX11_beside_25 (by decide) ?_
          refine lv_icmp_eq (tgt := 34) hx hb dX11_beside_26 (by decide) (fun hc26 => ?_) (fun hc26 => ?_)
          · replace hf := it_t hf hc26
            exact w_X11_beside_b34 l ho   hf hX hM (lv_sub hl [0, 1, 2] rfl)
          · replace hf := it_f hf hc26
            refine lv_iload_n hx hb dX11_beside_29 rfl (lv_at hl 2 rfl) ?_
            refine lv_iconst (v := 5) hx hb dX11_beside_30 (by decide) ?_
            refine lv_icmp_ne (tgt := 38) hx hb dX11_beside_31 (by decide) (fun hc31 => ?_) (fun hc31 => ?_)
            · replace hf := it_f hf hc31
              refine lv_iconst (v := 0) hx hb dX11_beside_38 (by decide) ?_
              exact w_X11_beside_b39 l ho   hf hX hM (lv_sub hl [0, 1, 2] rfl)
            · replace hf := it_t hf hc31
              exact w_X11_beside_b34 l ho   hf hX hM (lv_sub hl [0, 1, 2] rfl)
      · replace hf := it_t hf hc12
        exact w_X11_beside_b15 l ho   hf hX hM (lv_sub hl [0, 1, 2] rfl)
theorem c_X11_beside (l : Launch) {o : Nat} {a1 : Int32} {a2 : Int32} (ho : knd o = 9) {μ μ2 : Mem} {r : Int32} (hf : f_X11_beside o a1 a2 μ = some (r, μ2)) : CT E l yX11_beside cX11_beside 7 (some .int) (rmF 1 22) [.ref (eA E o), .int a1, .int a2] μ (some (.int r)) μ2 := CT.of (show plainFor yX11_beside = true by decide +kernel) (Nat.le_of_ble_eq_true rfl) rfl (fun _ _ _ _ _ _ _ _ hX hM hl => w_X11_beside l ho hf hX hM hl)
theorem mv_X11_beside : MV yX11_beside cX11_beside 7 (some .int) RX11 2 := ⟨q_18_17, q_18_15, q_18_16, q_1_5, by decide +kernel⟩
def f_X11_paceOf_b168 (o : Nat) (a1 : Int32) (a2 : Int32) (a3 : Int32)  (x6 : Int32) (μ : Mem) : Option (Int32 × Mem) :=
  some ((mimax (0 : Int32) x6), μ)
set_option maxHeartbeats 4000000 in
set_option maxRecDepth 100000 in
theorem w_X11_paceOf_b168 (l : Launch) {o : Nat} {a1 : Int32} {a2 : Int32} {a3 : Int32} (ho : knd o = 9) {μ2 : Mem} {r : Int32}   {x6 : Int32} {μ : Mem} {H : Heap} {locs : List Loc} {ls : Array Slot}  (hf : f_X11_paceOf_b168 o a1 a2 a3  x6 μ = some (r, μ2)) (hX : XX E p m meth c cX11_paceOf 7 (some .int) s args RX11) (hM : MM E s μ H locs) (hl : lv_has ls 7 [(0, .ref (eA E o)), (1, .int a1), (2, .int a2), (3, .int a3), (6, .int x6)]) : W p l e (rmF 2 43) s m args below meth c H locs 0 0 (MQ below (QC E (some (.int r)) μ2) args s 0 0 (AA E)) (F0 m 168 ls []) := by
  obtain ⟨⟨hx, hb, hml, hown, hts⟩, hXr⟩ := id hX
  unfold f_X11_paceOf_b168 at hf
  refine lv_iconst (v := 0) hx hb dX11_paceOf_168 (by decide) ?_
  refine lv_iload hx hb dX11_paceOf_169 (lv_at hl 4 rfl) ?_
  refine va_mmax (rest := []) hx hb (hml.trans hl.1.symm) hown (hts _ q_18_22) (hts _ q_13_14) (hts _ q_13_15) (hts _ q_13_16) (Nat.le_of_ble_eq_true rfl) (Nat.le_of_ble_eq_true rfl) (Nat.zero_le _) (Nat.zero_le _) dX11_paceOf_171 ?_
  exact rt_i hX hM (congrArg (fun z => some (Value.int z)) (so_1 hf)) (so_2 hf) dX11_paceOf_174
def f_X11_paceOf_b57 (o : Nat) (a1 : Int32) (a2 : Int32) (a3 : Int32)  (x4 : Int32) (t0 : Int32) (μ : Mem) : Option (Int32 × Mem) :=
  gA x4 (aln (rf o 4)) (bnd (f_X11_turn a2 (μ.1 (rf o 4) x4.toNatClampNeg) μ) (fun r9 μ8 => (if r9 = (0 : Int32) then gA x4 (aln (rf o 5)) (lt (t0 + (μ8.1 (rf o 5) x4.toNatClampNeg)) (fun v10 => f_X11_paceOf_b168 o a1 a2 a3  v10 μ8)) else (if r9 = (1 : Int32) then gA x4 (aln (rf o 5)) (lt (t0 + ((μ8.1 (rf o 5) x4.toNatClampNeg) / (2 : Int32))) (fun v11 => f_X11_paceOf_b168 o a1 a2 a3  v11 μ8)) else (if r9 = (2 : Int32) then f_X11_paceOf_b168 o a1 a2 a3  t0 μ8 else (if r9 = (3 : Int32) then gA x4 (aln (rf o 5)) (lt (t0 - ((μ8.1 (rf o 5) x4.toNatClampNeg) / (2 : Int32))) (fun v12 => f_X11_paceOf_b168 o a1 a2 a3  v12 μ8)) else (if r9 = (4 : Int32) then gA x4 (aln (rf o 5)) (lt (t0 - (μ8.1 (rf o 5) x4.toNatClampNeg)) (fun v13 => f_X11_paceOf_b168 o a1 a2 a3  v13 μ8)) else f_X11_paceOf_b168 o a1 a2 a3  t0 μ8)))))))
set_option maxHeartbeats 4000000 in
set_option maxRecDepth 100000 in
theorem w_X11_paceOf_b57 (l : Launch) {o : Nat} {a1 : Int32} {a2 : Int32} {a3 : Int32} (ho : knd o = 9) {μ2 : Mem} {r : Int32}   {x4 : Int32} {t0 : Int32} {μ : Mem} {H : Heap} {locs : List Loc} {ls : Array Slot}  (hf : f_X11_paceOf_b57 o a1 a2 a3  x4 t0 μ = some (r, μ2)) (hX : XX E p m meth c cX11_paceOf 7 (some .int) s args RX11) (hM : MM E s μ H locs) (hl : lv_has ls 7 [(0, .ref (eA E o)), (1, .int a1), (2, .int a2), (3, .int a3), (4, .int x4)]) : W p l e (rmF 2 43) s m args below meth c H locs 0 0 (MQ below (QC E (some (.int r)) μ2) args s 0 0 (AA E)) (F0 m 57 ls [.int t0]) := by
  obtain ⟨⟨hx, hb, hml, hown, hts⟩, hXr⟩ := id hX
  unfold f_X11_paceOf_b57 at hf
  refine lv_istore (lv' := [(6, .int t0), (0, .ref (eA E o)), (1, .int a1), (2, .int a2), (3, .int a3), (4, .int x4)]) hx hb dX11_paceOf_57 hl (by decide) rfl (fun ls hl => ?_)
  refine lv_iload_n hx hb dX11_paceOf_59 rfl (lv_at hl 3 rfl) ?_
  refine lv_aload_n hx hb dX11_paceOf_60 rfl (lv_at hl 1 rfl) ?_
  refine gf_9_4 hX hM ho q_7_1 dX11_paceOf_61 ?_
  refine lv_iload hx hb dX11_paceOf_64 (lv_at hl 5 rfl) ?_
  replace hf := gA_some hf
  obtain ⟨hi, hf⟩ := hf
  refine ald hX hM (kr_9_4 ho) hi dX11_paceOf_66 ?_
  replace hf := bnd_some hf
  obtain ⟨r9, μ8, h67, hf⟩ := hf
  refine cl_S (As := [.int a2, .int (μ.1 (rf o 4) x4.toNatClampNeg)]) (rest := []) (st2 := [.int r9]) (n := 2) hX hM (c_X11_turn l  h67) mt_X11_turn q_19_5 ⟨rfl, rfl⟩ ⟨Nat.le_of_ble_eq_true rfl, Nat.le_of_ble_eq_true rfl⟩ rfl hl.1 rfl (Nat.le_of_ble_eq_true rfl) dX11_paceOf_67 rfl (fun H locs hM => ?_)
  by_cases hs70_0 : r9 = (0 : Int32)
  · replace hf := it_t hf hs70_0
    refine lv_tableIn (off := 34) (tgt := 104) hx hb dX11_paceOf_70 (by rw [hs70_0]; decide) (by rw [hs70_0]; decide) (by rw [hs70_0]; rfl) (by decide) ?_
    refine lv_iload hx hb dX11_paceOf_104 (lv_at hl 0 rfl) ?_
    refine lv_aload_n hx hb dX11_paceOf_106 rfl (lv_at hl 1 rfl) ?_
    refine gf_9_5 hX hM ho q_7_2 dX11_paceOf_107 ?_
    refine lv_iload hx hb dX11_paceOf_110 (lv_at hl 5 rfl) ?_
    replace hf := gA_some hf
    obtain ⟨hi, hf⟩ := hf
    refine ald hX hM (kr_9_5 ho) hi dX11_paceOf_112 ?_
    refine lv_iadd hx hb dX11_paceOf_113 ?_
    refine lv_topi (fun v10 ev10 => ?_)
    replace hf := lt_e ev10 hf
    refine lv_istore (lv' := [(6, .int v10), (0, .ref (eA E o)), (1, .int a1), (2, .int a2), (3, .int a3), (4, .int x4)]) hx hb dX11_paceOf_114 hl (by decide) rfl (fun ls hl => ?_)
    refine lv_goto (tgt := 168) hx hb dX11_paceOf_116 (by decide) ?_
    exact w_X11_paceOf_b168 l ho   hf hX hM (lv_sub hl [1, 2, 3, 4, 0] rfl)
  · replace hf := it_f hf hs70_0
    by_cases hs70_1 : r9 = (1 : Int32)
    · replace hf := it_t hf hs70_1
      refine lv_tableIn (off := 49) (tgt := 119) hx hb dX11_paceOf_70 (by rw [hs70_1]; decide) (by rw [hs70_1]; decide) (by rw [hs70_1]; rfl) (by decide) ?_
      refine lv_iload hx hb dX11_paceOf_119 (lv_at hl 0 rfl) ?_
      refine lv_aload_n hx hb dX11_paceOf_121 rfl (lv_at hl 1 rfl) ?_
      refine gf_9_5 hX hM ho q_7_2 dX11_paceOf_122 ?_
      refine lv_iload hx hb dX11_paceOf_125 (lv_at hl 5 rfl) ?_
      replace hf := gA_some hf
      obtain ⟨hi, hf⟩ := hf
      refine ald hX hM (kr_9_5 ho) hi dX11_paceOf_127 ?_
      refine lv_iconst (v := 2) hx hb dX11_paceOf_128 (by decide) ?_
      refine lv_idiv hx hb dX11_paceOf_129 (by decide) ?_
      refine lv_iadd hx hb dX11_paceOf_130 ?_
      refine lv_topi (fun v11 ev11 => ?_)
      replace hf := lt_e ev11 hf
      refine lv_istore (lv' := [(6, .int v11), (0, .ref (eA E o)), (1, .int a1), (2, .int a2), (3, .int a3), (4, .int x4)]) hx hb dX11_paceOf_131 hl (by decide) rfl (fun ls hl => ?_)
      refine lv_goto (tgt := 168) hx hb dX11_paceOf_133 (by decide) ?_
      exact w_X11_paceOf_b168 l ho   hf hX hM (lv_sub hl [1, 2, 3, 4, 0] rfl)
    · replace hf := it_f hf hs70_1
      by_cases hs70_2 : r9 = (2 : Int32)
      · replace hf := it_t hf hs70_2
        refine lv_tableIn (off := 98) (tgt := 168) hx hb dX11_paceOf_70 (by rw [hs70_2]; decide) (by rw [hs70_2]; decide) (by rw [hs70_2]; rfl) (by decide) ?_
        exact w_X11_paceOf_b168 l ho   hf hX hM (lv_sub hl [1, 2, 3, 4, 0] rfl)
      · replace hf := it_f hf hs70_2
        by_cases hs70_3 : r9 = (3 : Int32)
        · replace hf := it_t hf hs70_3
          refine lv_tableIn (off := 66) (tgt := 136) hx hb dX11_paceOf_70 (by rw [hs70_3]; decide) (by rw [hs70_3]; decide) (by rw [hs70_3]; rfl) (by decide) ?_
          refine lv_iload hx hb dX11_paceOf_136 (lv_at hl 0 rfl) ?_
          refine lv_aload_n hx hb dX11_paceOf_138 rfl (lv_at hl 1 rfl) ?_
          refine gf_9_5 hX hM ho q_7_2 dX11_paceOf_139 ?_
          refine lv_iload hx hb dX11_paceOf_142 (lv_at hl 5 rfl) ?_
          replace hf := gA_some hf
          obtain ⟨hi, hf⟩ := hf
          refine ald hX hM (kr_9_5 ho) hi dX11_paceOf_144 ?_
          refine lv_iconst (v := 2) hx hb dX11_paceOf_145 (by decide) ?_
          refine lv_idiv hx hb dX11_paceOf_146 (by decide) ?_
          refine lv_isub hx hb dX11_paceOf_147 ?_
          refine lv_topi (fun v12 ev12 => ?_)
          replace hf := lt_e ev12 hf
          refine lv_istore (lv' := [(6, .int v12), (0, .ref (eA E o)), (1, .int a1), (2, .int a2), (3, .int a3), (4, .int x4)]) hx hb dX11_paceOf_148 hl (by decide) rfl (fun ls hl => ?_)
          refine lv_goto (tgt := 168) hx hb dX11_paceOf_150 (by decide) ?_
          exact w_X11_paceOf_b168 l ho   hf hX hM (lv_sub hl [1, 2, 3, 4, 0] rfl)
        · replace hf := it_f hf hs70_3
          by_cases hs70_4 : r9 = (4 : Int32)
          · replace hf := it_t hf hs70_4
            refine lv_tableIn (off := 83) (tgt := 153) hx hb dX11_paceOf_70 (by rw [hs70_4]; decide) (by rw [hs70_4]; decide) (by rw [hs70_4]; rfl) (by decide) ?_
            refine lv_iload hx hb dX11_paceOf_153 (lv_at hl 0 rfl) ?_
            refine lv_aload_n hx hb dX11_paceOf_155 rfl (lv_at hl 1 rfl) ?_
            refine gf_9_5 hX hM ho q_7_2 dX11_paceOf_156 ?_
            refine lv_iload hx hb dX11_paceOf_159 (lv_at hl 5 rfl) ?_
            replace hf := gA_some hf
            obtain ⟨hi, hf⟩ := hf
            refine ald hX hM (kr_9_5 ho) hi dX11_paceOf_161 ?_
            refine lv_isub hx hb dX11_paceOf_162 ?_
            refine lv_topi (fun v13 ev13 => ?_)
            replace hf := lt_e ev13 hf
            refine lv_istore (lv' := [(6, .int v13), (0, .ref (eA E o)), (1, .int a1), (2, .int a2), (3, .int a3), (4, .int x4)]) hx hb dX11_paceOf_163 hl (by decide) rfl (fun ls hl => ?_)
            refine lv_goto (tgt := 168) hx hb dX11_paceOf_165 (by decide) ?_
            exact w_X11_paceOf_b168 l ho   hf hX hM (lv_sub hl [1, 2, 3, 4, 0] rfl)
          · replace hf := it_f hf hs70_4
            have hq : (r9).toInt < 0 ∨ 4 < (r9).toInt := by
              have n0 := lv_neT hs70_0 (a := 0) rfl
              have n1 := lv_neT hs70_1 (a := 1) rfl
              have n2 := lv_neT hs70_2 (a := 2) rfl
              have n3 := lv_neT hs70_3 (a := 3) rfl
              have n4 := lv_neT hs70_4 (a := 4) rfl
              omega
            refine lv_tableOut (tgt := 168) hx hb dX11_paceOf_70 hq (by decide) ?_
            exact w_X11_paceOf_b168 l ho   hf hX hM (lv_sub hl [1, 2, 3, 4, 0] rfl)
def f_X11_paceOf (o : Nat) (a1 : Int32) (a2 : Int32) (a3 : Int32) (μ : Mem) : Option (Int32 × Mem) :=
  bnd (f_X11_zoneOf a1 μ) (fun r2 μ1 => bnd (f_X11_spanOf a3 μ1) (fun r4 μ3 => lt (((4 : Int32) * r2) + r4) (fun v5 => gA v5 (aln (rf o 2)) ((if (μ3.1 (rf o 2) v5.toNatClampNeg) = 0 then f_X11_paceOf_b57 o a1 a2 a3  r2 (0 : Int32) μ3 else gA v5 (aln (rf o 2)) (gA v5 (aln (rf o 1)) (bnd (f_X11_turn a2 (μ3.1 (rf o 1) v5.toNatClampNeg) μ3) (fun r7 μ6 => gA (((5 : Int32) * (μ3.1 (rf o 2) v5.toNatClampNeg)) + r7) (aln (rf o 3)) (f_X11_paceOf_b57 o a1 a2 a3  r2 (μ6.1 (rf o 3) (((5 : Int32) * (μ3.1 (rf o 2) v5.toNatClampNeg)) + r7).toNatClampNeg) μ6)))))))))
set_option maxHeartbeats 4000000 in
set_option maxRecDepth 100000 in
theorem w_X11_paceOf (l : Launch) {o : Nat} {a1 : Int32} {a2 : Int32} {a3 : Int32} (ho : knd o = 9) {μ μ2 : Mem} {r : Int32} {H : Heap} {locs : List Loc} {ls : Array Slot} (hf : f_X11_paceOf o a1 a2 a3 μ = some (r, μ2)) (hX : XX E p m meth c cX11_paceOf 7 (some .int) s args RX11) (hM : MM E s μ H locs) (hl : lv_has ls 7 [(0, .ref (eA E o)), (1, .int a1), (2, .int a2), (3, .int a3)]) : W p l e (rmF 2 43) s m args below meth c H locs 0 0 (MQ below (QC E (some (.int r)) μ2) args s 0 0 (AA E)) (F0 m 0 ls []) := by
  obtain ⟨⟨hx, hb, hml, hown, hts⟩, hXr⟩ := id hX
  unfold f_X11_paceOf at hf
  refine lv_iload_n hx hb dX11_paceOf_0 rfl (lv_at hl 1 rfl) ?_
  replace hf := bnd_some hf
  obtain ⟨r2, μ1, h1, hf⟩ := hf
  refine cl_S (As := [.int a1]) (rest := []) (st2 := [.int r2]) (n := 1) hX hM (c_X11_zoneOf l  h1) mt_X11_zoneOf q_18_23 ⟨rfl, rfl⟩ ⟨Nat.le_of_ble_eq_true rfl, Nat.le_of_ble_eq_true rfl⟩ rfl hl.1 rfl (Nat.le_of_ble_eq_true rfl) dX11_paceOf_1 rfl (fun H locs hM => ?_)
  refine lv_istore (lv' := [(4, .int r2), (0, .ref (eA E o)), (1, .int a1), (2, .int a2), (3, .int a3)]) hx hb dX11_paceOf_4 hl (by decide) rfl (fun ls hl => ?_)
  refine lv_iconst (v := 4) hx hb dX11_paceOf_6 (by decide) ?_
  refine lv_iload hx hb dX11_paceOf_7 (lv_at hl 0 rfl) ?_
  refine lv_imul hx hb dX11_paceOf_9 ?_
  refine lv_iload_n hx hb dX11_paceOf_10 rfl (lv_at hl 4 rfl) ?_
  replace hf := bnd_some hf
  obtain ⟨r4, μ3, h11, hf⟩ := hf
  refine cl_S (As := [.int a3]) (rest := [.int ((4 : Int32) * r2)]) (st2 := [.int r4, .int ((4 : Int32) * r2)]) (n := 1) hX hM (c_X11_spanOf l  h11) mt_X11_spanOf q_19_2 ⟨rfl, rfl⟩ ⟨Nat.le_of_ble_eq_true rfl, Nat.le_of_ble_eq_true rfl⟩ rfl hl.1 rfl (Nat.le_of_ble_eq_true rfl) dX11_paceOf_11 rfl (fun H locs hM => ?_)
  refine lv_iadd hx hb dX11_paceOf_14 ?_
  refine lv_topi (fun v5 ev5 => ?_)
  replace hf := lt_e ev5 hf
  refine lv_istore (lv' := [(5, .int v5), (4, .int r2), (0, .ref (eA E o)), (1, .int a1), (2, .int a2), (3, .int a3)]) hx hb dX11_paceOf_15 hl (by decide) rfl (fun ls hl => ?_)
  refine lv_aload_n hx hb dX11_paceOf_17 rfl (lv_at hl 2 rfl) ?_
  refine gf_9_2 hX hM ho q_6_23 dX11_paceOf_18 ?_
  refine lv_iload hx hb dX11_paceOf_21 (lv_at hl 0 rfl) ?_
  replace hf := gA_some hf
  obtain ⟨hi, hf⟩ := hf
  refine ald hX hM (kr_9_2 ho) hi dX11_paceOf_23 ?_
  refine lv_if_ne (tgt := 31) hx hb dX11_paceOf_24 (by decide) (fun hc24 => ?_) (fun hc24 => ?_)
  · replace hf := it_f hf hc24
    refine lv_aload_n hx hb dX11_paceOf_31 rfl (lv_at hl 2 rfl) ?_
    refine gf_9_3 hX hM ho q_7_0 dX11_paceOf_32 ?_
    refine lv_iconst (v := 5) hx hb dX11_paceOf_35 (by decide) ?_
    refine lv_aload_n hx hb dX11_paceOf_36 rfl (lv_at hl 2 rfl) ?_
    refine gf_9_2 hX hM ho q_6_23 dX11_paceOf_37 ?_
    refine lv_iload hx hb dX11_paceOf_40 (lv_at hl 0 rfl) ?_
    replace hf := gA_some hf
    obtain ⟨hi, hf⟩ := hf
    refine ald hX hM (kr_9_2 ho) hi dX11_paceOf_42 ?_
    refine lv_imul hx hb dX11_paceOf_43 ?_
    refine lv_iload_n hx hb dX11_paceOf_44 rfl (lv_at hl 4 rfl) ?_
    refine lv_aload_n hx hb dX11_paceOf_45 rfl (lv_at hl 2 rfl) ?_
    refine gf_9_1 hX hM ho q_6_22 dX11_paceOf_46 ?_
    refine lv_iload hx hb dX11_paceOf_49 (lv_at hl 0 rfl) ?_
    replace hf := gA_some hf
    obtain ⟨hi, hf⟩ := hf
    refine ald hX hM (kr_9_1 ho) hi dX11_paceOf_51 ?_
    replace hf := bnd_some hf
    obtain ⟨r7, μ6, h52, hf⟩ := hf
    refine cl_S (As := [.int a2, .int (μ3.1 (rf o 1) v5.toNatClampNeg)]) (rest := [.int ((5 : Int32) * (μ3.1 (rf o 2) v5.toNatClampNeg)), .ref (eA E (rf o 3))]) (st2 := [.int r7, .int ((5 : Int32) * (μ3.1 (rf o 2) v5.toNatClampNeg)), .ref (eA E (rf o 3))]) (n := 2) hX hM (c_X11_turn l  h52) mt_X11_turn q_19_5 ⟨rfl, rfl⟩ ⟨Nat.le_of_ble_eq_true rfl, Nat.le_of_ble_eq_true rfl⟩ rfl hl.1 rfl (Nat.le_of_ble_eq_true rfl) dX11_paceOf_52 rfl (fun H locs hM => ?_)
    refine lv_iadd hx hb dX11_paceOf_55 ?_
    replace hf := gA_some hf
    obtain ⟨hi, hf⟩ := hf
    refine ald hX hM (kr_9_3 ho) hi dX11_paceOf_56 ?_
    exact w_X11_paceOf_b57 l ho   hf hX hM (lv_sub hl [2, 3, 4, 5, 1] rfl)
  · replace hf := it_t hf hc24
    refine lv_iconst (v := 0) hx hb dX11_paceOf_27 (by decide) ?_
    refine lv_goto (tgt := 57) hx hb dX11_paceOf_28 (by decide) ?_
    exact w_X11_paceOf_b57 l ho   hf hX hM (lv_sub hl [2, 3, 4, 5, 1] rfl)
theorem c_X11_paceOf (l : Launch) {o : Nat} {a1 : Int32} {a2 : Int32} {a3 : Int32} (ho : knd o = 9) {μ μ2 : Mem} {r : Int32} (hf : f_X11_paceOf o a1 a2 a3 μ = some (r, μ2)) : CT E l yX11_paceOf cX11_paceOf 7 (some .int) (rmF 2 43) [.ref (eA E o), .int a1, .int a2, .int a3] μ (some (.int r)) μ2 := CT.of (show plainFor yX11_paceOf = true by decide +kernel) (Nat.le_of_ble_eq_true rfl) rfl (fun _ _ _ _ _ _ _ _ hX hM hl => w_X11_paceOf l ho hf hX hM hl)
theorem mv_X11_paceOf : MV yX11_paceOf cX11_paceOf 7 (some .int) RX11 3 := ⟨q_18_21, q_18_19, q_18_20, q_1_5, by decide +kernel⟩
def f_X11_length (a0 : Int32) (μ : Mem) : Option (Int32 × Mem) :=
  (if (a0 - a0 / (2 : Int32) * (2 : Int32)) = 0 then some ((600 : Int32), μ) else some ((850 : Int32), μ))
set_option maxHeartbeats 4000000 in
set_option maxRecDepth 100000 in
theorem w_X11_length (l : Launch) {a0 : Int32}  {μ μ2 : Mem} {r : Int32} {H : Heap} {locs : List Loc} {ls : Array Slot} (hf : f_X11_length a0 μ = some (r, μ2)) (hX : XX E p m meth c cX11_length 1 (some .int) s args RX11) (hM : MM E s μ H locs) (hl : lv_has ls 1 [(0, .int a0)]) : W p l e (rmF 0 0) s m args below meth c H locs 0 0 (MQ below (QC E (some (.int r)) μ2) args s 0 0 (AA E)) (F0 m 0 ls []) := by
  obtain ⟨⟨hx, hb, hml, hown, hts⟩, hXr⟩ := id hX
  unfold f_X11_length at hf
  refine lv_iload_n hx hb dX11_length_0 rfl (lv_at hl 0 rfl) ?_
  refine lv_iconst (v := 2) hx hb dX11_length_1 (by decide) ?_
  refine lv_irem hx hb dX11_length_2 (by decide) ?_
  refine lv_if_ne (tgt := 12) hx hb dX11_length_3 (by decide) (fun hc3 => ?_) (fun hc3 => ?_)
  · replace hf := it_f hf hc3
    refine lv_sipush (v := 850) hx hb dX11_length_12 (by decide) ?_
    exact rt_i hX hM (congrArg (fun z => some (Value.int z)) (so_1 hf)) (so_2 hf) dX11_length_15
  · replace hf := it_t hf hc3
    refine lv_sipush (v := 600) hx hb dX11_length_6 (by decide) ?_
    refine lv_goto (tgt := 15) hx hb dX11_length_9 (by decide) ?_
    exact rt_i hX hM (congrArg (fun z => some (Value.int z)) (so_1 hf)) (so_2 hf) dX11_length_15
theorem c_X11_length (l : Launch) {a0 : Int32}  {μ μ2 : Mem} {r : Int32} (hf : f_X11_length a0 μ = some (r, μ2)) : CT E l yX11_length cX11_length 1 (some .int) (rmF 0 0) [.int a0] μ (some (.int r)) μ2 := CT.of (show plainFor yX11_length = true by decide +kernel) (Nat.le_of_ble_eq_true rfl) rfl (fun _ _ _ _ _ _ _ _ hX hM hl => w_X11_length l  hf hX hM hl)
theorem mt_X11_length : MT yX11_length cX11_length 1 (some .int) 1 := ⟨q_19_11, q_19_10, q_1_5, by decide +kernel⟩
def f_X11_goes_b136 (o : Nat) (a1 : Int32) (a2 : Int32) (a3 : Int32) (a4 : Int32)  (x5 : Int32) (x8 : Int32) (t0 : Int32) (μ : Mem) : Option (Mem) :=
  bnd (f_X11_length a3 μ) (fun r20 μ19 => gZ x5 (lt (sI μ19 o 29 ((a4 + (((r20 + x5) - (1 : Int32)) / x5)) + t0)) (fun μ21 => lt (sI μ21 o 30 a4) (fun μ22 => lt (sI μ22 o 31 x8) (fun μ23 => some μ23)))))
set_option maxHeartbeats 4000000 in
set_option maxRecDepth 100000 in
theorem w_X11_goes_b136 (l : Launch) {o : Nat} {a1 : Int32} {a2 : Int32} {a3 : Int32} {a4 : Int32} (ho : knd o = 9) {μ2 : Mem}   {x5 : Int32} {x8 : Int32} {t0 : Int32} {μ : Mem} {H : Heap} {locs : List Loc} {ls : Array Slot}  (hf : f_X11_goes_b136 o a1 a2 a3 a4  x5 x8 t0 μ = some μ2) (hX : XX E p m meth c cX11_goes 10 none s args RX11) (hM : MM E s μ H locs) (hl : lv_has ls 10 [(0, .ref (eA E o)), (1, .int a1), (2, .int a2), (3, .int a3), (4, .int a4), (5, .int x5), (8, .int x8)]) : W p l e (rmF 3 69) s m args below meth c H locs 0 0 (MQ below (QC E (none) μ2) args s 0 0 (AA E)) (F0 m 136 ls [.int t0]) := by
  obtain ⟨⟨hx, hb, hml, hown, hts⟩, hXr⟩ := id hX
  unfold f_X11_goes_b136 at hf
  refine lv_istore (lv' := [(9, .int t0), (0, .ref (eA E o)), (1, .int a1), (2, .int a2), (3, .int a3), (4, .int a4), (5, .int x5), (8, .int x8)]) hx hb dX11_goes_136 hl (by decide) rfl (fun ls hl => ?_)
  refine lv_aload_n hx hb dX11_goes_138 rfl (lv_at hl 1 rfl) ?_
  refine lv_iload hx hb dX11_goes_139 (lv_at hl 5 rfl) ?_
  refine lv_iload_n hx hb dX11_goes_141 rfl (lv_at hl 4 rfl) ?_
  replace hf := bnd_some hf
  obtain ⟨r20, μ19, h142, hf⟩ := hf
  refine cl_S (As := [.int a3]) (rest := [.int a4, .ref (eA E o)]) (st2 := [.int r20, .int a4, .ref (eA E o)]) (n := 1) hX hM (c_X11_length l  h142) mt_X11_length q_19_9 ⟨rfl, rfl⟩ ⟨Nat.le_of_ble_eq_true rfl, Nat.le_of_ble_eq_true rfl⟩ rfl hl.1 rfl (Nat.le_of_ble_eq_true rfl) dX11_goes_142 rfl (fun H locs hM => ?_)
  refine lv_iload hx hb dX11_goes_145 (lv_at hl 6 rfl) ?_
  refine lv_iadd hx hb dX11_goes_147 ?_
  refine lv_iconst (v := 1) hx hb dX11_goes_148 (by decide) ?_
  refine lv_isub hx hb dX11_goes_149 ?_
  refine lv_iload hx hb dX11_goes_150 (lv_at hl 6 rfl) ?_
  replace hf := gZ_some hf
  obtain ⟨hz, hf⟩ := hf
  refine lv_idiv hx hb dX11_goes_152 hz ?_
  refine lv_iadd hx hb dX11_goes_153 ?_
  refine lv_iload hx hb dX11_goes_154 (lv_at hl 0 rfl) ?_
  refine lv_iadd hx hb dX11_goes_156 ?_
  refine pf_9_29 hX hM ho q_18_5 dX11_goes_157 (fun μ21 H locs eμ21 hM => ?_)
  replace hf := lt_e eμ21 hf
  refine lv_aload_n hx hb dX11_goes_160 rfl (lv_at hl 1 rfl) ?_
  refine lv_iload hx hb dX11_goes_161 (lv_at hl 5 rfl) ?_
  refine pf_9_30 hX hM ho q_18_13 dX11_goes_163 (fun μ22 H locs eμ22 hM => ?_)
  replace hf := lt_e eμ22 hf
  refine lv_aload_n hx hb dX11_goes_166 rfl (lv_at hl 1 rfl) ?_
  refine lv_iload hx hb dX11_goes_167 (lv_at hl 7 rfl) ?_
  refine pf_9_31 hX hM ho q_18_4 dX11_goes_169 (fun μ23 H locs eμ23 hM => ?_)
  replace hf := lt_e eμ23 hf
  exact rt_v hX hM rfl (Option.some.inj hf) dX11_goes_172
def f_X11_goes_b99 (o : Nat) (a1 : Int32) (a2 : Int32) (a3 : Int32) (a4 : Int32)  (x5 : Int32) (x6 : Int32) (t0 : Int32) (μ : Mem) : Option (Mem) :=
  (if t0 = a2 then f_X11_goes_b136 o a1 a2 a3 a4  x5 t0 (0 : Int32) μ else bnd (f_X11_turn a3 x6 μ) (fun r18 μ17 => (if (2 : Int32) < r18 then gA (1 : Int32) (aln (rf o 6)) (f_X11_goes_b136 o a1 a2 a3 a4  x5 t0 (μ17.1 (rf o 6) (1 : Int32).toNatClampNeg) μ17) else gA (0 : Int32) (aln (rf o 6)) (f_X11_goes_b136 o a1 a2 a3 a4  x5 t0 (μ17.1 (rf o 6) (0 : Int32).toNatClampNeg) μ17))))
set_option maxHeartbeats 4000000 in
set_option maxRecDepth 100000 in
theorem w_X11_goes_b99 (l : Launch) {o : Nat} {a1 : Int32} {a2 : Int32} {a3 : Int32} {a4 : Int32} (ho : knd o = 9) {μ2 : Mem}   {x5 : Int32} {x6 : Int32} {t0 : Int32} {μ : Mem} {H : Heap} {locs : List Loc} {ls : Array Slot}  (hf : f_X11_goes_b99 o a1 a2 a3 a4  x5 x6 t0 μ = some μ2) (hX : XX E p m meth c cX11_goes 10 none s args RX11) (hM : MM E s μ H locs) (hl : lv_has ls 10 [(0, .ref (eA E o)), (1, .int a1), (2, .int a2), (3, .int a3), (4, .int a4), (5, .int x5), (6, .int x6)]) : W p l e (rmF 3 69) s m args below meth c H locs 0 0 (MQ below (QC E (none) μ2) args s 0 0 (AA E)) (F0 m 99 ls [.int t0]) := by
  obtain ⟨⟨hx, hb, hml, hown, hts⟩, hXr⟩ := id hX
  unfold f_X11_goes_b99 at hf
  refine lv_istore (lv' := [(8, .int t0), (0, .ref (eA E o)), (1, .int a1), (2, .int a2), (3, .int a3), (4, .int a4), (5, .int x5), (6, .int x6)]) hx hb dX11_goes_99 hl (by decide) rfl (fun ls hl => ?_)
  refine lv_iload hx hb dX11_goes_101 (lv_at hl 0 rfl) ?_
  refine lv_iload_n hx hb dX11_goes_103 rfl (lv_at hl 3 rfl) ?_
  refine lv_icmp_ne (tgt := 111) hx hb dX11_goes_104 (by decide) (fun hc104 => ?_) (fun hc104 => ?_)
  · replace hf := it_f hf hc104
    refine lv_iload_n hx hb dX11_goes_111 rfl (lv_at hl 4 rfl) ?_
    refine lv_iload hx hb dX11_goes_112 (lv_at hl 7 rfl) ?_
    replace hf := bnd_some hf
    obtain ⟨r18, μ17, h114, hf⟩ := hf
    refine cl_S (As := [.int a3, .int x6]) (rest := []) (st2 := [.int r18]) (n := 2) hX hM (c_X11_turn l  h114) mt_X11_turn q_19_5 ⟨rfl, rfl⟩ ⟨Nat.le_of_ble_eq_true rfl, Nat.le_of_ble_eq_true rfl⟩ rfl hl.1 rfl (Nat.le_of_ble_eq_true rfl) dX11_goes_114 rfl (fun H locs hM => ?_)
    refine lv_iconst (v := 2) hx hb dX11_goes_117 (by decide) ?_
    refine lv_icmp_gt (tgt := 130) hx hb dX11_goes_118 (by decide) (fun hc118 => ?_) (fun hc118 => ?_)
    · replace hf := it_t hf hc118
      refine lv_aload_n hx hb dX11_goes_130 rfl (lv_at hl 1 rfl) ?_
      refine gf_9_6 hX hM ho q_7_3 dX11_goes_131 ?_
      refine lv_iconst (v := 1) hx hb dX11_goes_134 (by decide) ?_
      replace hf := gA_some hf
      obtain ⟨hi, hf⟩ := hf
      refine ald hX hM (kr_9_6 ho) hi dX11_goes_135 ?_
      exact w_X11_goes_b136 l ho   hf hX hM (lv_sub hl [1, 2, 3, 4, 5, 6, 0] rfl)
    · replace hf := it_f hf hc118
      refine lv_aload_n hx hb dX11_goes_121 rfl (lv_at hl 1 rfl) ?_
      refine gf_9_6 hX hM ho q_7_3 dX11_goes_122 ?_
      refine lv_iconst (v := 0) hx hb dX11_goes_125 (by decide) ?_
      replace hf := gA_some hf
      obtain ⟨hi, hf⟩ := hf
      refine ald hX hM (kr_9_6 ho) hi dX11_goes_126 ?_
      refine lv_goto (tgt := 136) hx hb dX11_goes_127 (by decide) ?_
      exact w_X11_goes_b136 l ho   hf hX hM (lv_sub hl [1, 2, 3, 4, 5, 6, 0] rfl)
  · replace hf := it_t hf hc104
    refine lv_iconst (v := 0) hx hb dX11_goes_107 (by decide) ?_
    refine lv_goto (tgt := 136) hx hb dX11_goes_108 (by decide) ?_
    exact w_X11_goes_b136 l ho   hf hX hM (lv_sub hl [1, 2, 3, 4, 5, 6, 0] rfl)
def f_X11_goes (o : Nat) (a1 : Int32) (a2 : Int32) (a3 : Int32) (a4 : Int32) (μ : Mem) : Option (Mem) :=
  lt (sI μ o 29 (-1 : Int32)) (fun μ1 => bnd (f_X11_beside o a1 a3 μ1) (fun r3 μ2 => lt (sI μ2 o 32 r3) (fun μ4 => bnd (f_X11_paceOf o a1 a3 a4 μ4) (fun r6 μ5 => (if (μ5.1 o 32) < 0 then some μ5 else (if r6 = 0 then some μ5 else bnd (f_X11_zoneOf a1 μ5) (fun r8 μ7 => bnd (f_X11_spanOf a4 μ7) (fun r10 μ9 => gA (((4 : Int32) * r8) + r10) (aln (rf o 1)) (lt (μ9.1 (rf o 1) (((4 : Int32) * r8) + r10).toNatClampNeg) (fun v11 => lt (((a3 - v11) + (8 : Int32)) - ((a3 - v11) + (8 : Int32)) / (8 : Int32) * (8 : Int32)) (fun v12 => bnd (f_X11_in v12 (1 : Int32) (3 : Int32) μ9) (fun r14 μ13 => (if r14 = 0 then bnd (f_X11_in v12 (5 : Int32) (7 : Int32) μ13) (fun r16 μ15 => (if r16 = 0 then f_X11_goes_b99 o a1 a2 a3 a4  r6 v11 a2 μ15 else f_X11_goes_b99 o a1 a2 a3 a4  r6 v11 (1 : Int32) μ15)) else f_X11_goes_b99 o a1 a2 a3 a4  r6 v11 (0 : Int32) μ13)))))))))))))
set_option maxHeartbeats 4000000 in
set_option maxRecDepth 100000 in
theorem w_X11_goes (l : Launch) {o : Nat} {a1 : Int32} {a2 : Int32} {a3 : Int32} {a4 : Int32} (ho : knd o = 9) {μ μ2 : Mem} {H : Heap} {locs : List Loc} {ls : Array Slot} (hf : f_X11_goes o a1 a2 a3 a4 μ = some μ2) (hX : XX E p m meth c cX11_goes 10 none s args RX11) (hM : MM E s μ H locs) (hl : lv_has ls 10 [(0, .ref (eA E o)), (1, .int a1), (2, .int a2), (3, .int a3), (4, .int a4)]) : W p l e (rmF 3 69) s m args below meth c H locs 0 0 (MQ below (QC E (none) μ2) args s 0 0 (AA E)) (F0 m 0 ls []) := by
  obtain ⟨⟨hx, hb, hml, hown, hts⟩, hXr⟩ := id hX
  unfold f_X11_goes at hf
  refine lv_aload_n hx hb dX11_goes_0 rfl (lv_at hl 0 rfl) ?_
  refine lv_iconst (v := (-1)) hx hb dX11_goes_1 (by decide) ?_
  refine pf_9_29 hX hM ho q_18_5 dX11_goes_2 (fun μ1 H locs eμ1 hM => ?_)
  replace hf := lt_e eμ1 hf
  refine lv_aload_n hx hb dX11_goes_5 rfl (lv_at hl 0 rfl) ?_
  refine lv_aload_n hx hb dX11_goes_6 rfl (lv_at hl 0 rfl) ?_
  refine lv_iload_n hx hb dX11_goes_7 rfl (lv_at hl 1 rfl) ?_
  refine lv_iload_n hx hb dX11_goes_8 rfl (lv_at hl 3 rfl) ?_
  replace hf := bnd_some hf
  obtain ⟨r3, μ2, h9, hf⟩ := hf
  refine cl_V (As := [.int a1, .int a3]) (rest := [.ref (eA E o)]) (st2 := [.int r3, .ref (eA E o)]) (n := 2) hX hM (c_X11_beside l ho h9) mv_X11_beside q_18_14 ⟨rfl, rfl⟩ ⟨Nat.le_of_ble_eq_true rfl, Nat.le_of_ble_eq_true rfl⟩ ho (by decide) rfl rfl rfl hl.1 rfl (Nat.le_of_ble_eq_true rfl) dX11_goes_9 rfl (fun H locs hM => ?_)
  refine pf_9_32 hX hM ho q_18_3 dX11_goes_12 (fun μ4 H locs eμ4 hM => ?_)
  replace hf := lt_e eμ4 hf
  refine lv_aload_n hx hb dX11_goes_15 rfl (lv_at hl 0 rfl) ?_
  refine lv_iload_n hx hb dX11_goes_16 rfl (lv_at hl 1 rfl) ?_
  refine lv_iload_n hx hb dX11_goes_17 rfl (lv_at hl 3 rfl) ?_
  refine lv_iload hx hb dX11_goes_18 (lv_at hl 4 rfl) ?_
  replace hf := bnd_some hf
  obtain ⟨r6, μ5, h20, hf⟩ := hf
  refine cl_V (As := [.int a1, .int a3, .int a4]) (rest := []) (st2 := [.int r6]) (n := 3) hX hM (c_X11_paceOf l ho h20) mv_X11_paceOf q_18_18 ⟨rfl, rfl⟩ ⟨Nat.le_of_ble_eq_true rfl, Nat.le_of_ble_eq_true rfl⟩ ho (by decide) rfl rfl rfl hl.1 rfl (Nat.le_of_ble_eq_true rfl) dX11_goes_20 rfl (fun H locs hM => ?_)
  refine lv_istore (lv' := [(5, .int r6), (0, .ref (eA E o)), (1, .int a1), (2, .int a2), (3, .int a3), (4, .int a4)]) hx hb dX11_goes_23 hl (by decide) rfl (fun ls hl => ?_)
  refine lv_aload_n hx hb dX11_goes_25 rfl (lv_at hl 1 rfl) ?_
  refine gf_9_32 hX hM ho q_18_3 dX11_goes_26 ?_
  refine lv_if_lt (tgt := 37) hx hb dX11_goes_29 (by decide) (fun hc29 => ?_) (fun hc29 => ?_)
  · replace hf := it_t hf hc29
    exact rt_v hX hM rfl (Option.some.inj hf) dX11_goes_37
  · replace hf := it_f hf hc29
    refine lv_iload hx hb dX11_goes_32 (lv_at hl 0 rfl) ?_
    refine lv_if_ne (tgt := 38) hx hb dX11_goes_34 (by decide) (fun hc34 => ?_) (fun hc34 => ?_)
    · replace hf := it_f hf hc34
      refine lv_aload_n hx hb dX11_goes_38 rfl (lv_at hl 1 rfl) ?_
      refine gf_9_1 hX hM ho q_6_22 dX11_goes_39 ?_
      refine lv_iconst (v := 4) hx hb dX11_goes_42 (by decide) ?_
      refine lv_iload_n hx hb dX11_goes_43 rfl (lv_at hl 2 rfl) ?_
      replace hf := bnd_some hf
      obtain ⟨r8, μ7, h44, hf⟩ := hf
      refine cl_S (As := [.int a1]) (rest := [.int (4 : Int32), .ref (eA E (rf o 1))]) (st2 := [.int r8, .int (4 : Int32), .ref (eA E (rf o 1))]) (n := 1) hX hM (c_X11_zoneOf l  h44) mt_X11_zoneOf q_18_23 ⟨rfl, rfl⟩ ⟨Nat.le_of_ble_eq_true rfl, Nat.le_of_ble_eq_true rfl⟩ rfl hl.1 rfl (Nat.le_of_ble_eq_true rfl) dX11_goes_44 rfl (fun H locs hM => ?_)
      refine lv_imul hx hb dX11_goes_47 ?_
      refine lv_iload hx hb dX11_goes_48 (lv_at hl 5 rfl) ?_
      replace hf := bnd_some hf
      obtain ⟨r10, μ9, h50, hf⟩ := hf
      refine cl_S (As := [.int a4]) (rest := [.int ((4 : Int32) * r8), .ref (eA E (rf o 1))]) (st2 := [.int r10, .int ((4 : Int32) * r8), .ref (eA E (rf o 1))]) (n := 1) hX hM (c_X11_spanOf l  h50) mt_X11_spanOf q_19_2 ⟨rfl, rfl⟩ ⟨Nat.le_of_ble_eq_true rfl, Nat.le_of_ble_eq_true rfl⟩ rfl hl.1 rfl (Nat.le_of_ble_eq_true rfl) dX11_goes_50 rfl (fun H locs hM => ?_)
      refine lv_iadd hx hb dX11_goes_53 ?_
      replace hf := gA_some hf
      obtain ⟨hi, hf⟩ := hf
      refine ald hX hM (kr_9_1 ho) hi dX11_goes_54 ?_
      refine lv_topi (fun v11 ev11 => ?_)
      replace hf := lt_e ev11 hf
      refine lv_istore (lv' := [(6, .int v11), (5, .int r6), (0, .ref (eA E o)), (1, .int a1), (2, .int a2), (3, .int a3), (4, .int a4)]) hx hb dX11_goes_55 hl (by decide) rfl (fun ls hl => ?_)
      refine lv_iload_n hx hb dX11_goes_57 rfl (lv_at hl 5 rfl) ?_
      refine lv_iload hx hb dX11_goes_58 (lv_at hl 0 rfl) ?_
      refine lv_isub hx hb dX11_goes_60 ?_
      refine lv_bipush (v := 8) hx hb dX11_goes_61 (by decide) ?_
      refine lv_iadd hx hb dX11_goes_63 ?_
      refine lv_bipush (v := 8) hx hb dX11_goes_64 (by decide) ?_
      refine lv_irem hx hb dX11_goes_66 (by decide) ?_
      refine lv_topi (fun v12 ev12 => ?_)
      replace hf := lt_e ev12 hf
      refine lv_istore (lv' := [(7, .int v12), (6, .int v11), (5, .int r6), (0, .ref (eA E o)), (1, .int a1), (2, .int a2), (3, .int a3), (4, .int a4)]) hx hb dX11_goes_67 hl (by decide) rfl (fun ls hl => ?_)
      refine lv_iload hx hb dX11_goes_69 (lv_at hl 0 rfl) ?_
      refine lv_iconst (v := 1) hx hb dX11_goes_71 (by decide) ?_
      refine lv_iconst (v := 3) hx hb dX11_goes_72 (by decide) ?_
      replace hf := bnd_some hf
      obtain ⟨r14, μ13, h73, hf⟩ := hf
      refine cl_S (As := [.int v12, .int (1 : Int32), .int (3 : Int32)]) (rest := []) (st2 := [.int r14]) (n := 3) hX hM (c_X11_in l  h73) mt_X11_in q_8_23 ⟨rfl, rfl⟩ ⟨Nat.le_of_ble_eq_true rfl, Nat.le_of_ble_eq_true rfl⟩ rfl hl.1 rfl (Nat.le_of_ble_eq_true rfl) dX11_goes_73 rfl (fun H locs hM => ?_)
      refine lv_if_eq (tgt := 83) hx hb dX11_goes_76 (by decide) (fun hc76 => ?_) (fun hc76 => ?_)
      · replace hf := it_t hf hc76
        refine lv_iload hx hb dX11_goes_83 (lv_at hl 0 rfl) ?_
        refine lv_iconst (v := 5) hx hb dX11_goes_85 (by decide) ?_
        refine lv_bipush (v := 7) hx hb dX11_goes_86 (by decide) ?_
        replace hf := bnd_some hf
        obtain ⟨r16, μ15, h88, hf⟩ := hf
        refine cl_S (As := [.int v12, .int (5 : Int32), .int (7 : Int32)]) (rest := []) (st2 := [.int r16]) (n := 3) hX hM (c_X11_in l  h88) mt_X11_in q_8_23 ⟨rfl, rfl⟩ ⟨Nat.le_of_ble_eq_true rfl, Nat.le_of_ble_eq_true rfl⟩ rfl hl.1 rfl (Nat.le_of_ble_eq_true rfl) dX11_goes_88 rfl (fun H locs hM => ?_)
        refine lv_if_eq (tgt := 98) hx hb dX11_goes_91 (by decide) (fun hc91 => ?_) (fun hc91 => ?_)
        · replace hf := it_t hf hc91
          refine lv_iload_n hx hb dX11_goes_98 rfl (lv_at hl 5 rfl) ?_
          exact w_X11_goes_b99 l ho   hf hX hM (lv_sub hl [3, 4, 5, 6, 7, 2, 1] rfl)
        · replace hf := it_f hf hc91
          refine lv_iconst (v := 1) hx hb dX11_goes_94 (by decide) ?_
          refine lv_goto (tgt := 99) hx hb dX11_goes_95 (by decide) ?_
          exact w_X11_goes_b99 l ho   hf hX hM (lv_sub hl [3, 4, 5, 6, 7, 2, 1] rfl)
      · replace hf := it_f hf hc76
        refine lv_iconst (v := 0) hx hb dX11_goes_79 (by decide) ?_
        refine lv_goto (tgt := 99) hx hb dX11_goes_80 (by decide) ?_
        exact w_X11_goes_b99 l ho   hf hX hM (lv_sub hl [3, 4, 5, 6, 7, 2, 1] rfl)
    · replace hf := it_t hf hc34
      exact rt_v hX hM rfl (Option.some.inj hf) dX11_goes_37
theorem c_X11_goes (l : Launch) {o : Nat} {a1 : Int32} {a2 : Int32} {a3 : Int32} {a4 : Int32} (ho : knd o = 9) {μ μ2 : Mem} (hf : f_X11_goes o a1 a2 a3 a4 μ = some μ2) : CT E l yX11_goes cX11_goes 10 none (rmF 3 69) [.ref (eA E o), .int a1, .int a2, .int a3, .int a4] μ (none) μ2 := CT.of (show plainFor yX11_goes = true by decide +kernel) (Nat.le_of_ble_eq_true rfl) rfl (fun _ _ _ _ _ _ _ _ hX hM hl => w_X11_goes l ho hf hX hM hl)
theorem mv_X11_goes : MV yX11_goes cX11_goes 10 none RX11 4 := ⟨q_18_12, q_18_10, q_18_11, q_1_5, by decide +kernel⟩
def f_X11_seeks_b143 (o : Nat) (K59 : Int32 → Int32 → Int32 → Mem → Option (Mem)) (K51 : Int32 → Int32 → Mem → Option (Mem)) (K43 : Int32 → Mem → Option (Mem)) (x2 : Int32) (x3 : Int32) (x4 : Int32) (μ : Mem) : Option (Mem) :=
  gA x4 (aln (rf o 33)) (lt (sI μ (rf o 33) x4.toNatClampNeg (μ.1 o 29)) (fun μ9 => lt (x3 + (1 : Int32)) (fun v10 => K59 (1 : Int32) x2 v10 μ9)))
set_option maxHeartbeats 4000000 in
set_option maxRecDepth 100000 in
theorem w_X11_seeks_b143 (l : Launch) {o : Nat} (ho : knd o = 9) {μ2 : Mem} {K59 : Int32 → Int32 → Int32 → Mem → Option (Mem)} {K51 : Int32 → Int32 → Mem → Option (Mem)} {K43 : Int32 → Mem → Option (Mem)} (hK59 : ∀ (x1 : Int32) (x2 : Int32) (x3 : Int32) (μ : Mem), K59 x1 x2 x3 μ = some μ2 → ∀ (H : Heap) (locs : List Loc), MM E s μ H locs → ∀ ls : Array Slot, lv_has ls 5 [(0, .ref (eA E o)), (1, .int x1), (2, .int x2), (3, .int x3)] → W p l e (rmF 4 98) s m args below meth c H locs 0 0 (MQ below (QC E (none) μ2) args s 0 0 (AA E)) (F0 m 59 ls [])) (hK51 : ∀ (x1 : Int32) (x2 : Int32) (μ : Mem), K51 x1 x2 μ = some μ2 → ∀ (H : Heap) (locs : List Loc), MM E s μ H locs → ∀ ls : Array Slot, lv_has ls 5 [(0, .ref (eA E o)), (1, .int x1), (2, .int x2)] → W p l e (rmF 4 98) s m args below meth c H locs 0 0 (MQ below (QC E (none) μ2) args s 0 0 (AA E)) (F0 m 51 ls [])) (hK43 : ∀ (x1 : Int32) (μ : Mem), K43 x1 μ = some μ2 → ∀ (H : Heap) (locs : List Loc), MM E s μ H locs → ∀ ls : Array Slot, lv_has ls 5 [(0, .ref (eA E o)), (1, .int x1)] → W p l e (rmF 4 98) s m args below meth c H locs 0 0 (MQ below (QC E (none) μ2) args s 0 0 (AA E)) (F0 m 43 ls [])) {x2 : Int32} {x3 : Int32} {x4 : Int32} {μ : Mem} {H : Heap} {locs : List Loc} {ls : Array Slot}  (hf : f_X11_seeks_b143 o K59 K51 K43 x2 x3 x4 μ = some μ2) (hX : XX E p m meth c cX11_seeks 5 none s args RX11) (hM : MM E s μ H locs) (hl : lv_has ls 5 [(0, .ref (eA E o)), (2, .int x2), (3, .int x3), (4, .int x4)]) : W p l e (rmF 4 98) s m args below meth c H locs 0 0 (MQ below (QC E (none) μ2) args s 0 0 (AA E)) (F0 m 143 ls []) := by
  obtain ⟨⟨hx, hb, hml, hown, hts⟩, hXr⟩ := id hX
  unfold f_X11_seeks_b143 at hf
  refine lv_aload_n hx hb dX11_seeks_143 rfl (lv_at hl 0 rfl) ?_
  refine gf_9_33 hX hM ho q_7_15 dX11_seeks_144 ?_
  refine lv_iload hx hb dX11_seeks_147 (lv_at hl 3 rfl) ?_
  refine lv_aload_n hx hb dX11_seeks_149 rfl (lv_at hl 0 rfl) ?_
  refine gf_9_29 hX hM ho q_18_5 dX11_seeks_150 ?_
  replace hf := gA_some hf
  obtain ⟨hi, hf⟩ := hf
  refine ast hX hM (kr_9_33 ho) hi dX11_seeks_153 (fun μ9 H locs eμ9 hM => ?_)
  replace hf := lt_e eμ9 hf
  refine lv_iconst (v := 1) hx hb dX11_seeks_154 (by decide) ?_
  refine lv_istore_n (lv' := [(1, .int (1 : Int32)), (0, .ref (eA E o)), (2, .int x2), (3, .int x3), (4, .int x4)]) hx hb dX11_seeks_155 rfl hl (by decide) rfl (fun ls hl => ?_)
  obtain ⟨v10, ev10⟩ : ∃ y : Int32, y = x3 + (1 : Int32) := ⟨_, rfl⟩
  replace hf := lt_e ev10 hf
  refine lv_iinc (v := v10) (lv' := [(3, .int v10), (1, .int (1 : Int32)), (0, .ref (eA E o)), (2, .int x2), (4, .int x4)]) hx hb dX11_seeks_156 hl (k := 3) rfl (by rw [ev10]; rfl) (by decide) rfl (fun ls hl => ?_)
  refine lv_goto (tgt := 59) hx hb dX11_seeks_159 (by decide) ?_
  exact hK59 _ _ _ _  hf _ _ hM _ (lv_sub hl [2, 1, 3, 0] rfl)
def f_X11_seeks_b59 (o : Nat) (K51 : Int32 → Int32 → Mem → Option (Mem)) (K43 : Int32 → Mem → Option (Mem)) : Nat → Int32 → Int32 → Int32 → Mem → Option (Mem)
  | 0, _, _, _, _ => none
  | n + 1, x1, x2, x3, μ =>
    (if (32 : Int32) ≤ x3 then lt (x2 + (1 : Int32)) (fun v2 => K51 x1 v2 μ) else gA x2 (aln (rf o 33)) ((if (μ.1 (rf o 33) x2.toNatClampNeg) < 0 then lt (x2 + (1 : Int32)) (fun v3 => K51 x1 v3 μ) else gA x2 (aln (rf o 33)) (bnd (f_X11_minuteOf (μ.1 (rf o 33) x2.toNatClampNeg) (x3 - x3 / (4 : Int32) * (4 : Int32)) μ) (fun r5 μ4 => bnv (f_X11_goes o (x2 / (2 : Int32)) (x2 - x2 / (2 : Int32) * (2 : Int32)) (x3 / (4 : Int32)) r5 μ4) (fun μ6 => lt (((2 : Int32) * (μ6.1 o 32)) + (μ6.1 o 31)) (fun v7 => (if (μ6.1 o 29) < 0 then lt (x3 + (1 : Int32)) (fun v8 => (f_X11_seeks_b59 o K51 K43 n) x1 x2 v8 μ6) else gA v7 (aln (rf o 33)) ((if (μ6.1 (rf o 33) v7.toNatClampNeg) < 0 then f_X11_seeks_b143 o (f_X11_seeks_b59 o K51 K43 n) K51 K43 x2 x3 v7 μ6 else gA v7 (aln (rf o 33)) ((if (μ6.1 (rf o 33) v7.toNatClampNeg) ≤ (μ6.1 o 29) then lt (x3 + (1 : Int32)) (fun v11 => (f_X11_seeks_b59 o K51 K43 n) x1 x2 v11 μ6) else f_X11_seeks_b143 o (f_X11_seeks_b59 o K51 K43 n) K51 K43 x2 x3 v7 μ6))))))))))))
set_option maxHeartbeats 4000000 in
set_option maxRecDepth 100000 in
theorem w_X11_seeks_b59 (l : Launch) {o : Nat} (ho : knd o = 9) {μ2 : Mem} {K51 : Int32 → Int32 → Mem → Option (Mem)} {K43 : Int32 → Mem → Option (Mem)} (hX : XX E p m meth c cX11_seeks 5 none s args RX11) (hK51 : ∀ (x1 : Int32) (x2 : Int32) (μ : Mem), K51 x1 x2 μ = some μ2 → ∀ (H : Heap) (locs : List Loc), MM E s μ H locs → ∀ ls : Array Slot, lv_has ls 5 [(0, .ref (eA E o)), (1, .int x1), (2, .int x2)] → W p l e (rmF 4 98) s m args below meth c H locs 0 0 (MQ below (QC E (none) μ2) args s 0 0 (AA E)) (F0 m 51 ls [])) (hK43 : ∀ (x1 : Int32) (μ : Mem), K43 x1 μ = some μ2 → ∀ (H : Heap) (locs : List Loc), MM E s μ H locs → ∀ ls : Array Slot, lv_has ls 5 [(0, .ref (eA E o)), (1, .int x1)] → W p l e (rmF 4 98) s m args below meth c H locs 0 0 (MQ below (QC E (none) μ2) args s 0 0 (AA E)) (F0 m 43 ls [])) : ∀ (n : Nat) (x1 : Int32) (x2 : Int32) (x3 : Int32) (μ : Mem), f_X11_seeks_b59 o K51 K43 n x1 x2 x3 μ = some μ2 → ∀ (H : Heap) (locs : List Loc), MM E s μ H locs → ∀ ls : Array Slot, lv_has ls 5 [(0, .ref (eA E o)), (1, .int x1), (2, .int x2), (3, .int x3)] → W p l e (rmF 4 98) s m args below meth c H locs 0 0 (MQ below (QC E (none) μ2) args s 0 0 (AA E)) (F0 m 59 ls []) := by
  obtain ⟨⟨hx, hb, hml, hown, hts⟩, hXr⟩ := id hX
  intro n
  induction n with
  | zero => intro x1 x2 x3 μ  hf; exact no_none hf
  | succ n ih =>
    intro x1 x2 x3 μ  hf H locs hM ls hl
    rw [f_X11_seeks_b59] at hf
    have hK59 := ih
    clear ih
    refine lv_iload_n hx hb dX11_seeks_59 rfl (lv_at hl 3 rfl) ?_
    refine lv_bipush (v := 32) hx hb dX11_seeks_60 (by decide) ?_
    refine lv_icmp_ge (tgt := 162) hx hb dX11_seeks_62 (by decide) (fun hc62 => ?_) (fun hc62 => ?_)
    · replace hf := it_t hf hc62
      obtain ⟨v2, ev2⟩ : ∃ y : Int32, y = x2 + (1 : Int32) := ⟨_, rfl⟩
      replace hf := lt_e ev2 hf
      refine lv_iinc (v := v2) (lv' := [(2, .int v2), (0, .ref (eA E o)), (1, .int x1), (3, .int x3)]) hx hb dX11_seeks_162 hl (k := 2) rfl (by rw [ev2]; rfl) (by decide) rfl (fun ls hl => ?_)
      refine lv_goto (tgt := 51) hx hb dX11_seeks_165 (by decide) ?_
      exact hK51 _ _ _  hf _ _ hM _ (lv_sub hl [1, 2, 0] rfl)
    · replace hf := it_f hf hc62
      refine lv_aload_n hx hb dX11_seeks_65 rfl (lv_at hl 0 rfl) ?_
      refine gf_9_33 hX hM ho q_7_15 dX11_seeks_66 ?_
      refine lv_iload_n hx hb dX11_seeks_69 rfl (lv_at hl 2 rfl) ?_
      replace hf := gA_some hf
      obtain ⟨hi, hf⟩ := hf
      refine ald hX hM (kr_9_33 ho) hi dX11_seeks_70 ?_
      refine lv_if_lt (tgt := 162) hx hb dX11_seeks_71 (by decide) (fun hc71 => ?_) (fun hc71 => ?_)
      · replace hf := it_t hf hc71
        obtain ⟨v3, ev3⟩ : ∃ y : Int32, y = x2 + (1 : Int32) := ⟨_, rfl⟩
        replace hf := lt_e ev3 hf
        refine lv_iinc (v := v3) (lv' := [(2, .int v3), (0, .ref (eA E o)), (1, .int x1), (3, .int x3)]) hx hb dX11_seeks_162 hl (k := 2) rfl (by rw [ev3]; rfl) (by decide) rfl (fun ls hl => ?_)
        refine lv_goto (tgt := 51) hx hb dX11_seeks_165 (by decide) ?_
        exact hK51 _ _ _  hf _ _ hM _ (lv_sub hl [1, 2, 0] rfl)
      · replace hf := it_f hf hc71
        refine lv_aload_n hx hb dX11_seeks_74 rfl (lv_at hl 0 rfl) ?_
        refine lv_iload_n hx hb dX11_seeks_75 rfl (lv_at hl 2 rfl) ?_
        refine lv_iconst (v := 2) hx hb dX11_seeks_76 (by decide) ?_
        refine lv_idiv hx hb dX11_seeks_77 (by decide) ?_
        refine lv_iload_n hx hb dX11_seeks_78 rfl (lv_at hl 2 rfl) ?_
        refine lv_iconst (v := 2) hx hb dX11_seeks_79 (by decide) ?_
        refine lv_irem hx hb dX11_seeks_80 (by decide) ?_
        refine lv_iload_n hx hb dX11_seeks_81 rfl (lv_at hl 3 rfl) ?_
        refine lv_iconst (v := 4) hx hb dX11_seeks_82 (by decide) ?_
        refine lv_idiv hx hb dX11_seeks_83 (by decide) ?_
        refine lv_aload_n hx hb dX11_seeks_84 rfl (lv_at hl 0 rfl) ?_
        refine gf_9_33 hX hM ho q_7_15 dX11_seeks_85 ?_
        refine lv_iload_n hx hb dX11_seeks_88 rfl (lv_at hl 2 rfl) ?_
        replace hf := gA_some hf
        obtain ⟨hi, hf⟩ := hf
        refine ald hX hM (kr_9_33 ho) hi dX11_seeks_89 ?_
        refine lv_iload_n hx hb dX11_seeks_90 rfl (lv_at hl 3 rfl) ?_
        refine lv_iconst (v := 4) hx hb dX11_seeks_91 (by decide) ?_
        refine lv_irem hx hb dX11_seeks_92 (by decide) ?_
        replace hf := bnd_some hf
        obtain ⟨r5, μ4, h93, hf⟩ := hf
        refine cl_S (As := [.int (μ.1 (rf o 33) x2.toNatClampNeg), .int (x3 - x3 / (4 : Int32) * (4 : Int32))]) (rest := [.int (x3 / (4 : Int32)), .int (x2 - x2 / (2 : Int32) * (2 : Int32)), .int (x2 / (2 : Int32)), .ref (eA E o)]) (st2 := [.int r5, .int (x3 / (4 : Int32)), .int (x2 - x2 / (2 : Int32) * (2 : Int32)), .int (x2 / (2 : Int32)), .ref (eA E o)]) (n := 2) hX hM (c_X11_minuteOf l  h93) mt_X11_minuteOf q_18_6 ⟨rfl, rfl⟩ ⟨Nat.le_of_ble_eq_true rfl, Nat.le_of_ble_eq_true rfl⟩ rfl hl.1 rfl (Nat.le_of_ble_eq_true rfl) dX11_seeks_93 rfl (fun H locs hM => ?_)
        replace hf := bnv_some hf
        obtain ⟨μ6, h96, hf⟩ := hf
        refine cl_V (As := [.int (x2 / (2 : Int32)), .int (x2 - x2 / (2 : Int32) * (2 : Int32)), .int (x3 / (4 : Int32)), .int r5]) (rest := []) (st2 := []) (n := 4) hX hM (c_X11_goes l ho h96) mv_X11_goes q_18_9 ⟨rfl, rfl⟩ ⟨Nat.le_of_ble_eq_true rfl, Nat.le_of_ble_eq_true rfl⟩ ho (by decide) rfl rfl rfl hl.1 rfl (Nat.le_of_ble_eq_true rfl) dX11_seeks_96 rfl (fun H locs hM => ?_)
        refine lv_iconst (v := 2) hx hb dX11_seeks_99 (by decide) ?_
        refine lv_aload_n hx hb dX11_seeks_100 rfl (lv_at hl 0 rfl) ?_
        refine gf_9_32 hX hM ho q_18_3 dX11_seeks_101 ?_
        refine lv_imul hx hb dX11_seeks_104 ?_
        refine lv_aload_n hx hb dX11_seeks_105 rfl (lv_at hl 0 rfl) ?_
        refine gf_9_31 hX hM ho q_18_4 dX11_seeks_106 ?_
        refine lv_iadd hx hb dX11_seeks_109 ?_
        refine lv_topi (fun v7 ev7 => ?_)
        replace hf := lt_e ev7 hf
        refine lv_istore (lv' := [(4, .int v7), (0, .ref (eA E o)), (1, .int x1), (2, .int x2), (3, .int x3)]) hx hb dX11_seeks_110 hl (by decide) rfl (fun ls hl => ?_)
        refine lv_aload_n hx hb dX11_seeks_112 rfl (lv_at hl 1 rfl) ?_
        refine gf_9_29 hX hM ho q_18_5 dX11_seeks_113 ?_
        refine lv_if_lt (tgt := 156) hx hb dX11_seeks_116 (by decide) (fun hc116 => ?_) (fun hc116 => ?_)
        · replace hf := it_t hf hc116
          obtain ⟨v8, ev8⟩ : ∃ y : Int32, y = x3 + (1 : Int32) := ⟨_, rfl⟩
          replace hf := lt_e ev8 hf
          refine lv_iinc (v := v8) (lv' := [(3, .int v8), (4, .int v7), (0, .ref (eA E o)), (1, .int x1), (2, .int x2)]) hx hb dX11_seeks_156 hl (k := 4) rfl (by rw [ev8]; rfl) (by decide) rfl (fun ls hl => ?_)
          refine lv_goto (tgt := 59) hx hb dX11_seeks_159 (by decide) ?_
          exact hK59 _ _ _ _  hf _ _ hM _ (lv_sub hl [2, 3, 4, 0] rfl)
        · replace hf := it_f hf hc116
          refine lv_aload_n hx hb dX11_seeks_119 rfl (lv_at hl 1 rfl) ?_
          refine gf_9_33 hX hM ho q_7_15 dX11_seeks_120 ?_
          refine lv_iload hx hb dX11_seeks_123 (lv_at hl 0 rfl) ?_
          replace hf := gA_some hf
          obtain ⟨hi, hf⟩ := hf
          refine ald hX hM (kr_9_33 ho) hi dX11_seeks_125 ?_
          refine lv_if_lt (tgt := 143) hx hb dX11_seeks_126 (by decide) (fun hc126 => ?_) (fun hc126 => ?_)
          · replace hf := it_t hf hc126
            exact w_X11_seeks_b143 l ho hK59 hK51 hK43  hf hX hM (lv_sub hl [1, 3, 4, 0] rfl)
          · replace hf := it_f hf hc126
            refine lv_aload_n hx hb dX11_seeks_129 rfl (lv_at hl 1 rfl) ?_
            refine gf_9_29 hX hM ho q_18_5 dX11_seeks_130 ?_
            refine lv_aload_n hx hb dX11_seeks_133 rfl (lv_at hl 1 rfl) ?_
            refine gf_9_33 hX hM ho q_7_15 dX11_seeks_134 ?_
            refine lv_iload hx hb dX11_seeks_137 (lv_at hl 0 rfl) ?_
            replace hf := gA_some hf
            obtain ⟨hi, hf⟩ := hf
            refine ald hX hM (kr_9_33 ho) hi dX11_seeks_139 ?_
            refine lv_icmp_ge (tgt := 156) hx hb dX11_seeks_140 (by decide) (fun hc140 => ?_) (fun hc140 => ?_)
            · replace hf := it_t hf hc140
              obtain ⟨v11, ev11⟩ : ∃ y : Int32, y = x3 + (1 : Int32) := ⟨_, rfl⟩
              replace hf := lt_e ev11 hf
              refine lv_iinc (v := v11) (lv' := [(3, .int v11), (4, .int v7), (0, .ref (eA E o)), (1, .int x1), (2, .int x2)]) hx hb dX11_seeks_156 hl (k := 4) rfl (by rw [ev11]; rfl) (by decide) rfl (fun ls hl => ?_)
              refine lv_goto (tgt := 59) hx hb dX11_seeks_159 (by decide) ?_
              exact hK59 _ _ _ _  hf _ _ hM _ (lv_sub hl [2, 3, 4, 0] rfl)
            · replace hf := it_f hf hc140
              exact w_X11_seeks_b143 l ho hK59 hK51 hK43  hf hX hM (lv_sub hl [1, 3, 4, 0] rfl)
def f_X11_seeks_b51 (o : Nat) (K43 : Int32 → Mem → Option (Mem)) : Nat → Int32 → Int32 → Mem → Option (Mem)
  | 0, _, _, _ => none
  | n + 1, x1, x2, μ =>
    (if (72 : Int32) ≤ x2 then K43 x1 μ else f_X11_seeks_b59 o (f_X11_seeks_b51 o K43 n) K43 FU x1 x2 (0 : Int32) μ)
set_option maxHeartbeats 4000000 in
set_option maxRecDepth 100000 in
theorem w_X11_seeks_b51 (l : Launch) {o : Nat} (ho : knd o = 9) {μ2 : Mem} {K43 : Int32 → Mem → Option (Mem)} (hX : XX E p m meth c cX11_seeks 5 none s args RX11) (hK43 : ∀ (x1 : Int32) (μ : Mem), K43 x1 μ = some μ2 → ∀ (H : Heap) (locs : List Loc), MM E s μ H locs → ∀ ls : Array Slot, lv_has ls 5 [(0, .ref (eA E o)), (1, .int x1)] → W p l e (rmF 4 98) s m args below meth c H locs 0 0 (MQ below (QC E (none) μ2) args s 0 0 (AA E)) (F0 m 43 ls [])) : ∀ (n : Nat) (x1 : Int32) (x2 : Int32) (μ : Mem), f_X11_seeks_b51 o K43 n x1 x2 μ = some μ2 → ∀ (H : Heap) (locs : List Loc), MM E s μ H locs → ∀ ls : Array Slot, lv_has ls 5 [(0, .ref (eA E o)), (1, .int x1), (2, .int x2)] → W p l e (rmF 4 98) s m args below meth c H locs 0 0 (MQ below (QC E (none) μ2) args s 0 0 (AA E)) (F0 m 51 ls []) := by
  obtain ⟨⟨hx, hb, hml, hown, hts⟩, hXr⟩ := id hX
  intro n
  induction n with
  | zero => intro x1 x2 μ  hf; exact no_none hf
  | succ n ih =>
    intro x1 x2 μ  hf H locs hM ls hl
    rw [f_X11_seeks_b51] at hf
    have hK51 := ih
    clear ih
    refine lv_iload_n hx hb dX11_seeks_51 rfl (lv_at hl 2 rfl) ?_
    refine lv_bipush (v := 72) hx hb dX11_seeks_52 (by decide) ?_
    refine lv_icmp_ge (tgt := 168) hx hb dX11_seeks_54 (by decide) (fun hc54 => ?_) (fun hc54 => ?_)
    · replace hf := it_t hf hc54
      refine lv_goto (tgt := 43) hx hb dX11_seeks_168 (by decide) ?_
      exact hK43 _ _  hf _ _ hM _ (lv_sub hl [0, 1] rfl)
    · replace hf := it_f hf hc54
      refine lv_iconst (v := 0) hx hb dX11_seeks_57 (by decide) ?_
      refine lv_istore_n (lv' := [(3, .int (0 : Int32)), (0, .ref (eA E o)), (1, .int x1), (2, .int x2)]) hx hb dX11_seeks_58 rfl hl (by decide) rfl (fun ls hl => ?_)
      exact w_X11_seeks_b59 l ho hX hK51 hK43 FU _ _ _ _  hf _ _ hM _ (lv_sub hl [1, 2, 3, 0] rfl)
def f_X11_seeks_b43 (o : Nat)  : Nat → Int32 → Mem → Option (Mem)
  | 0, _, _ => none
  | n + 1, x1, μ =>
    (if x1 = 0 then some μ else f_X11_seeks_b51 o (f_X11_seeks_b43 o  n) FU (0 : Int32) (0 : Int32) μ)
set_option maxHeartbeats 4000000 in
set_option maxRecDepth 100000 in
theorem w_X11_seeks_b43 (l : Launch) {o : Nat} (ho : knd o = 9) {μ2 : Mem}  (hX : XX E p m meth c cX11_seeks 5 none s args RX11)  : ∀ (n : Nat) (x1 : Int32) (μ : Mem), f_X11_seeks_b43 o  n x1 μ = some μ2 → ∀ (H : Heap) (locs : List Loc), MM E s μ H locs → ∀ ls : Array Slot, lv_has ls 5 [(0, .ref (eA E o)), (1, .int x1)] → W p l e (rmF 4 98) s m args below meth c H locs 0 0 (MQ below (QC E (none) μ2) args s 0 0 (AA E)) (F0 m 43 ls []) := by
  obtain ⟨⟨hx, hb, hml, hown, hts⟩, hXr⟩ := id hX
  intro n
  induction n with
  | zero => intro x1 μ  hf; exact no_none hf
  | succ n ih =>
    intro x1 μ  hf H locs hM ls hl
    rw [f_X11_seeks_b43] at hf
    have hK43 := ih
    clear ih
    refine lv_iload_n hx hb dX11_seeks_43 rfl (lv_at hl 1 rfl) ?_
    refine lv_if_eq (tgt := 171) hx hb dX11_seeks_44 (by decide) (fun hc44 => ?_) (fun hc44 => ?_)
    · replace hf := it_t hf hc44
      exact rt_v hX hM rfl (Option.some.inj hf) dX11_seeks_171
    · replace hf := it_f hf hc44
      refine lv_iconst (v := 0) hx hb dX11_seeks_47 (by decide) ?_
      refine lv_istore_n (lv' := [(1, .int (0 : Int32)), (0, .ref (eA E o))]) hx hb dX11_seeks_48 rfl hl (by decide) rfl (fun ls hl => ?_)
      refine lv_iconst (v := 0) hx hb dX11_seeks_49 (by decide) ?_
      refine lv_istore_n (lv' := [(2, .int (0 : Int32)), (1, .int (0 : Int32)), (0, .ref (eA E o))]) hx hb dX11_seeks_50 rfl hl (by decide) rfl (fun ls hl => ?_)
      exact w_X11_seeks_b51 l ho hX hK43 FU _ _ _  hf _ _ hM _ (lv_sub hl [2, 1, 0] rfl)
def f_X11_seeks_b2 (o : Nat)  : Nat → Int32 → Mem → Option (Mem)
  | 0, _, _ => none
  | n + 1, x1, μ =>
    (if (72 : Int32) ≤ x1 then gA (((2 : Int32) * (μ.1 o 7)) + (μ.1 o 8)) (aln (rf o 33)) (lt (sI μ (rf o 33) (((2 : Int32) * (μ.1 o 7)) + (μ.1 o 8)).toNatClampNeg (μ.1 o 9)) (fun μ1 => f_X11_seeks_b43 o  FU (1 : Int32) μ1)) else gA x1 (aln (rf o 33)) (lt (sI μ (rf o 33) x1.toNatClampNeg (-1 : Int32)) (fun μ12 => lt (x1 + (1 : Int32)) (fun v13 => (f_X11_seeks_b2 o  n) v13 μ12))))
set_option maxHeartbeats 4000000 in
set_option maxRecDepth 100000 in
theorem w_X11_seeks_b2 (l : Launch) {o : Nat} (ho : knd o = 9) {μ2 : Mem}  (hX : XX E p m meth c cX11_seeks 5 none s args RX11)  : ∀ (n : Nat) (x1 : Int32) (μ : Mem), f_X11_seeks_b2 o  n x1 μ = some μ2 → ∀ (H : Heap) (locs : List Loc), MM E s μ H locs → ∀ ls : Array Slot, lv_has ls 5 [(0, .ref (eA E o)), (1, .int x1)] → W p l e (rmF 4 98) s m args below meth c H locs 0 0 (MQ below (QC E (none) μ2) args s 0 0 (AA E)) (F0 m 2 ls []) := by
  obtain ⟨⟨hx, hb, hml, hown, hts⟩, hXr⟩ := id hX
  intro n
  induction n with
  | zero => intro x1 μ  hf; exact no_none hf
  | succ n ih =>
    intro x1 μ  hf H locs hM ls hl
    rw [f_X11_seeks_b2] at hf
    have hK2 := ih
    clear ih
    refine lv_iload_n hx hb dX11_seeks_2 rfl (lv_at hl 1 rfl) ?_
    refine lv_bipush (v := 72) hx hb dX11_seeks_3 (by decide) ?_
    refine lv_icmp_ge (tgt := 21) hx hb dX11_seeks_5 (by decide) (fun hc5 => ?_) (fun hc5 => ?_)
    · replace hf := it_t hf hc5
      refine lv_aload_n hx hb dX11_seeks_21 rfl (lv_at hl 0 rfl) ?_
      refine gf_9_33 hX hM ho q_7_15 dX11_seeks_22 ?_
      refine lv_iconst (v := 2) hx hb dX11_seeks_25 (by decide) ?_
      refine lv_aload_n hx hb dX11_seeks_26 rfl (lv_at hl 0 rfl) ?_
      refine gf_9_7 hX hM ho q_11_20 dX11_seeks_27 ?_
      refine lv_imul hx hb dX11_seeks_30 ?_
      refine lv_aload_n hx hb dX11_seeks_31 rfl (lv_at hl 0 rfl) ?_
      refine gf_9_8 hX hM ho q_17_21 dX11_seeks_32 ?_
      refine lv_iadd hx hb dX11_seeks_35 ?_
      refine lv_aload_n hx hb dX11_seeks_36 rfl (lv_at hl 0 rfl) ?_
      refine gf_9_9 hX hM ho q_17_22 dX11_seeks_37 ?_
      replace hf := gA_some hf
      obtain ⟨hi, hf⟩ := hf
      refine ast hX hM (kr_9_33 ho) hi dX11_seeks_40 (fun μ1 H locs eμ1 hM => ?_)
      replace hf := lt_e eμ1 hf
      refine lv_iconst (v := 1) hx hb dX11_seeks_41 (by decide) ?_
      refine lv_istore_n (lv' := [(1, .int (1 : Int32)), (0, .ref (eA E o))]) hx hb dX11_seeks_42 rfl hl (by decide) rfl (fun ls hl => ?_)
      exact w_X11_seeks_b43 l ho hX  FU _ _  hf _ _ hM _ (lv_sub hl [1, 0] rfl)
    · replace hf := it_f hf hc5
      refine lv_aload_n hx hb dX11_seeks_8 rfl (lv_at hl 0 rfl) ?_
      refine gf_9_33 hX hM ho q_7_15 dX11_seeks_9 ?_
      refine lv_iload_n hx hb dX11_seeks_12 rfl (lv_at hl 1 rfl) ?_
      refine lv_iconst (v := (-1)) hx hb dX11_seeks_13 (by decide) ?_
      replace hf := gA_some hf
      obtain ⟨hi, hf⟩ := hf
      refine ast hX hM (kr_9_33 ho) hi dX11_seeks_14 (fun μ12 H locs eμ12 hM => ?_)
      replace hf := lt_e eμ12 hf
      obtain ⟨v13, ev13⟩ : ∃ y : Int32, y = x1 + (1 : Int32) := ⟨_, rfl⟩
      replace hf := lt_e ev13 hf
      refine lv_iinc (v := v13) (lv' := [(1, .int v13), (0, .ref (eA E o))]) hx hb dX11_seeks_15 hl (k := 1) rfl (by rw [ev13]; rfl) (by decide) rfl (fun ls hl => ?_)
      refine lv_goto (tgt := 2) hx hb dX11_seeks_18 (by decide) ?_
      exact hK2 _ _  hf _ _ hM _ (lv_sub hl [1, 0] rfl)
def f_X11_seeks (o : Nat) (μ : Mem) : Option (Mem) :=
  f_X11_seeks_b2 o  FU (0 : Int32) μ
set_option maxHeartbeats 4000000 in
set_option maxRecDepth 100000 in
theorem w_X11_seeks (l : Launch) {o : Nat} (ho : knd o = 9) {μ μ2 : Mem} {H : Heap} {locs : List Loc} {ls : Array Slot} (hf : f_X11_seeks o μ = some μ2) (hX : XX E p m meth c cX11_seeks 5 none s args RX11) (hM : MM E s μ H locs) (hl : lv_has ls 5 [(0, .ref (eA E o))]) : W p l e (rmF 4 98) s m args below meth c H locs 0 0 (MQ below (QC E (none) μ2) args s 0 0 (AA E)) (F0 m 0 ls []) := by
  obtain ⟨⟨hx, hb, hml, hown, hts⟩, hXr⟩ := id hX
  unfold f_X11_seeks at hf
  refine lv_iconst (v := 0) hx hb dX11_seeks_0 (by decide) ?_
  refine lv_istore_n (lv' := [(1, .int (0 : Int32)), (0, .ref (eA E o))]) hx hb dX11_seeks_1 rfl hl (by decide) rfl (fun ls hl => ?_)
  exact w_X11_seeks_b2 l ho hX  FU _ _  hf _ _ hM _ (lv_sub hl [1, 0] rfl)
theorem c_X11_seeks (l : Launch) {o : Nat} (ho : knd o = 9) {μ μ2 : Mem} (hf : f_X11_seeks o μ = some μ2) : CT E l yX11_seeks cX11_seeks 5 none (rmF 4 98) [.ref (eA E o)] μ (none) μ2 := CT.of (show plainFor yX11_seeks = true by decide +kernel) (Nat.le_of_ble_eq_true rfl) rfl (fun _ _ _ _ _ _ _ _ hX hM hl => w_X11_seeks l ho hf hX hM hl)
theorem mv_X11_seeks : MV yX11_seeks cX11_seeks 5 none RX11 0 := ⟨q_18_2, q_18_0, q_18_1, q_1_5, by decide +kernel⟩
def f_X11_leastOf (o : Nat) (a1 : Int32) (μ : Mem) : Option (Int32 × Mem) :=
  gA ((2 : Int32) * a1) (aln (rf o 33)) (lt (μ.1 (rf o 33) ((2 : Int32) * a1).toNatClampNeg) (fun v1 => gA (((2 : Int32) * a1) + (1 : Int32)) (aln (rf o 33)) (lt (μ.1 (rf o 33) (((2 : Int32) * a1) + (1 : Int32)).toNatClampNeg) (fun v2 => (if (0 : Int32) ≤ v1 then (if (0 : Int32) ≤ v2 then some ((mimin v1 v2), μ) else some (v1, μ)) else some (v2, μ))))))
set_option maxHeartbeats 4000000 in
set_option maxRecDepth 100000 in
theorem w_X11_leastOf (l : Launch) {o : Nat} {a1 : Int32} (ho : knd o = 9) {μ μ2 : Mem} {r : Int32} {H : Heap} {locs : List Loc} {ls : Array Slot} (hf : f_X11_leastOf o a1 μ = some (r, μ2)) (hX : XX E p m meth c cX11_leastOf 4 (some .int) s args RX11) (hM : MM E s μ H locs) (hl : lv_has ls 4 [(0, .ref (eA E o)), (1, .int a1)]) : W p l e (rmF 1 21) s m args below meth c H locs 0 0 (MQ below (QC E (some (.int r)) μ2) args s 0 0 (AA E)) (F0 m 0 ls []) := by
  obtain ⟨⟨hx, hb, hml, hown, hts⟩, hXr⟩ := id hX
  unfold f_X11_leastOf at hf
  refine lv_aload_n hx hb dX11_leastOf_0 rfl (lv_at hl 0 rfl) ?_
  refine gf_9_33 hX hM ho q_7_15 dX11_leastOf_1 ?_
  refine lv_iconst (v := 2) hx hb dX11_leastOf_4 (by decide) ?_
  refine lv_iload_n hx hb dX11_leastOf_5 rfl (lv_at hl 1 rfl) ?_
  refine lv_imul hx hb dX11_leastOf_6 ?_
  replace hf := gA_some hf
  obtain ⟨hi, hf⟩ := hf
  refine ald hX hM (kr_9_33 ho) hi dX11_leastOf_7 ?_
  refine lv_topi (fun v1 ev1 => ?_)
  replace hf := lt_e ev1 hf
  refine lv_istore_n (lv' := [(2, .int v1), (0, .ref (eA E o)), (1, .int a1)]) hx hb dX11_leastOf_8 rfl hl (by decide) rfl (fun ls hl => ?_)
  refine lv_aload_n hx hb dX11_leastOf_9 rfl (lv_at hl 1 rfl) ?_
  refine gf_9_33 hX hM ho q_7_15 dX11_leastOf_10 ?_
  refine lv_iconst (v := 2) hx hb dX11_leastOf_13 (by decide) ?_
  refine lv_iload_n hx hb dX11_leastOf_14 rfl (lv_at hl 2 rfl) ?_
  refine lv_imul hx hb dX11_leastOf_15 ?_
  refine lv_iconst (v := 1) hx hb dX11_leastOf_16 (by decide) ?_
  refine lv_iadd hx hb dX11_leastOf_17 ?_
  replace hf := gA_some hf
  obtain ⟨hi, hf⟩ := hf
  refine ald hX hM (kr_9_33 ho) hi dX11_leastOf_18 ?_
  refine lv_topi (fun v2 ev2 => ?_)
  replace hf := lt_e ev2 hf
  refine lv_istore_n (lv' := [(3, .int v2), (2, .int v1), (0, .ref (eA E o)), (1, .int a1)]) hx hb dX11_leastOf_19 rfl hl (by decide) rfl (fun ls hl => ?_)
  refine lv_iload_n hx hb dX11_leastOf_20 rfl (lv_at hl 1 rfl) ?_
  refine lv_if_ge (tgt := 28) hx hb dX11_leastOf_21 (by decide) (fun hc21 => ?_) (fun hc21 => ?_)
  · replace hf := it_t hf hc21
    refine lv_iload_n hx hb dX11_leastOf_28 rfl (lv_at hl 0 rfl) ?_
    refine lv_if_ge (tgt := 36) hx hb dX11_leastOf_29 (by decide) (fun hc29 => ?_) (fun hc29 => ?_)
    · replace hf := it_t hf hc29
      refine lv_iload_n hx hb dX11_leastOf_36 rfl (lv_at hl 1 rfl) ?_
      refine lv_iload_n hx hb dX11_leastOf_37 rfl (lv_at hl 0 rfl) ?_
      refine va_mmin (rest := []) hx hb (hml.trans hl.1.symm) hown (hts _ q_19_8) (hts _ q_17_4) (hts _ q_13_15) (hts _ q_17_5) (Nat.le_of_ble_eq_true rfl) (Nat.le_of_ble_eq_true rfl) (Nat.zero_le _) (Nat.zero_le _) dX11_leastOf_38 ?_
      exact rt_i hX hM (congrArg (fun z => some (Value.int z)) (so_1 hf)) (so_2 hf) dX11_leastOf_41
    · replace hf := it_f hf hc29
      refine lv_iload_n hx hb dX11_leastOf_32 rfl (lv_at hl 1 rfl) ?_
      refine lv_goto (tgt := 41) hx hb dX11_leastOf_33 (by decide) ?_
      exact rt_i hX hM (congrArg (fun z => some (Value.int z)) (so_1 hf)) (so_2 hf) dX11_leastOf_41
  · replace hf := it_f hf hc21
    refine lv_iload_n hx hb dX11_leastOf_24 rfl (lv_at hl 0 rfl) ?_
    refine lv_goto (tgt := 41) hx hb dX11_leastOf_25 (by decide) ?_
    exact rt_i hX hM (congrArg (fun z => some (Value.int z)) (so_1 hf)) (so_2 hf) dX11_leastOf_41
theorem c_X11_leastOf (l : Launch) {o : Nat} {a1 : Int32} (ho : knd o = 9) {μ μ2 : Mem} {r : Int32} (hf : f_X11_leastOf o a1 μ = some (r, μ2)) : CT E l yX11_leastOf cX11_leastOf 4 (some .int) (rmF 1 21) [.ref (eA E o), .int a1] μ (some (.int r)) μ2 := CT.of (show plainFor yX11_leastOf = true by decide +kernel) (Nat.le_of_ble_eq_true rfl) rfl (fun _ _ _ _ _ _ _ _ hX hM hl => w_X11_leastOf l ho hf hX hM hl)
theorem mv_X11_leastOf : MV yX11_leastOf cX11_leastOf 4 (some .int) RX11 1 := ⟨q_19_19, q_19_17, q_19_18, q_1_5, by decide +kernel⟩
def f_X11_reached_b4 (o : Nat)  : Nat → Int32 → Int32 → Mem → Option (Int32 × Mem)
  | 0, _, _, _ => none
  | n + 1, x1, x2, μ =>
    (if (36 : Int32) ≤ x2 then some (x1, μ) else bnd (f_X11_leastOf o x2 μ) (fun r2 μ1 => (if r2 < 0 then lt (x1 + (0 : Int32)) (fun v3 => lt (x2 + (1 : Int32)) (fun v4 => (f_X11_reached_b4 o  n) v3 v4 μ1)) else lt (x1 + (1 : Int32)) (fun v5 => lt (x2 + (1 : Int32)) (fun v6 => (f_X11_reached_b4 o  n) v5 v6 μ1)))))
set_option maxHeartbeats 4000000 in
set_option maxRecDepth 100000 in
theorem w_X11_reached_b4 (l : Launch) {o : Nat} (ho : knd o = 9) {μ2 : Mem} {r : Int32}  (hX : XX E p m meth c cX11_reached 3 (some .int) s args RX11)  : ∀ (n : Nat) (x1 : Int32) (x2 : Int32) (μ : Mem), f_X11_reached_b4 o  n x1 x2 μ = some (r, μ2) → ∀ (H : Heap) (locs : List Loc), MM E s μ H locs → ∀ ls : Array Slot, lv_has ls 3 [(0, .ref (eA E o)), (1, .int x1), (2, .int x2)] → W p l e (rmF 2 44) s m args below meth c H locs 0 0 (MQ below (QC E (some (.int r)) μ2) args s 0 0 (AA E)) (F0 m 4 ls []) := by
  obtain ⟨⟨hx, hb, hml, hown, hts⟩, hXr⟩ := id hX
  intro n
  induction n with
  | zero => intro x1 x2 μ  hf; exact no_none hf
  | succ n ih =>
    intro x1 x2 μ  hf H locs hM ls hl
    rw [f_X11_reached_b4] at hf
    have hK4 := ih
    clear ih
    refine lv_iload_n hx hb dX11_reached_4 rfl (lv_at hl 2 rfl) ?_
    refine lv_bipush (v := 36) hx hb dX11_reached_5 (by decide) ?_
    refine lv_icmp_ge (tgt := 32) hx hb dX11_reached_7 (by decide) (fun hc7 => ?_) (fun hc7 => ?_)
    · replace hf := it_t hf hc7
      refine lv_iload_n hx hb dX11_reached_32 rfl (lv_at hl 1 rfl) ?_
      exact rt_i hX hM (congrArg (fun z => some (Value.int z)) (so_1 hf)) (so_2 hf) dX11_reached_33
    · replace hf := it_f hf hc7
      refine lv_iload_n hx hb dX11_reached_10 rfl (lv_at hl 1 rfl) ?_
      refine lv_aload_n hx hb dX11_reached_11 rfl (lv_at hl 0 rfl) ?_
      refine lv_iload_n hx hb dX11_reached_12 rfl (lv_at hl 2 rfl) ?_
      replace hf := bnd_some hf
      obtain ⟨r2, μ1, h13, hf⟩ := hf
      refine cl_V (As := [.int x2]) (rest := [.int x1]) (st2 := [.int r2, .int x1]) (n := 1) hX hM (c_X11_leastOf l ho h13) mv_X11_leastOf q_19_16 ⟨rfl, rfl⟩ ⟨Nat.le_of_ble_eq_true rfl, Nat.le_of_ble_eq_true rfl⟩ ho (by decide) rfl rfl rfl hl.1 rfl (Nat.le_of_ble_eq_true rfl) dX11_reached_13 rfl (fun H locs hM => ?_)
      refine lv_if_lt (tgt := 23) hx hb dX11_reached_16 (by decide) (fun hc16 => ?_) (fun hc16 => ?_)
      · replace hf := it_t hf hc16
        refine lv_iconst (v := 0) hx hb dX11_reached_23 (by decide) ?_
        refine lv_iadd hx hb dX11_reached_24 ?_
        refine lv_topi (fun v3 ev3 => ?_)
        replace hf := lt_e ev3 hf
        refine lv_istore_n (lv' := [(1, .int v3), (0, .ref (eA E o)), (2, .int x2)]) hx hb dX11_reached_25 rfl hl (by decide) rfl (fun ls hl => ?_)
        obtain ⟨v4, ev4⟩ : ∃ y : Int32, y = x2 + (1 : Int32) := ⟨_, rfl⟩
        replace hf := lt_e ev4 hf
        refine lv_iinc (v := v4) (lv' := [(2, .int v4), (1, .int v3), (0, .ref (eA E o))]) hx hb dX11_reached_26 hl (k := 2) rfl (by rw [ev4]; rfl) (by decide) rfl (fun ls hl => ?_)
        refine lv_goto (tgt := 4) hx hb dX11_reached_29 (by decide) ?_
        exact hK4 _ _ _  hf _ _ hM _ (lv_sub hl [2, 1, 0] rfl)
      · replace hf := it_f hf hc16
        refine lv_iconst (v := 1) hx hb dX11_reached_19 (by decide) ?_
        refine lv_goto (tgt := 24) hx hb dX11_reached_20 (by decide) ?_
        refine lv_iadd hx hb dX11_reached_24 ?_
        refine lv_topi (fun v5 ev5 => ?_)
        replace hf := lt_e ev5 hf
        refine lv_istore_n (lv' := [(1, .int v5), (0, .ref (eA E o)), (2, .int x2)]) hx hb dX11_reached_25 rfl hl (by decide) rfl (fun ls hl => ?_)
        obtain ⟨v6, ev6⟩ : ∃ y : Int32, y = x2 + (1 : Int32) := ⟨_, rfl⟩
        replace hf := lt_e ev6 hf
        refine lv_iinc (v := v6) (lv' := [(2, .int v6), (1, .int v5), (0, .ref (eA E o))]) hx hb dX11_reached_26 hl (k := 2) rfl (by rw [ev6]; rfl) (by decide) rfl (fun ls hl => ?_)
        refine lv_goto (tgt := 4) hx hb dX11_reached_29 (by decide) ?_
        exact hK4 _ _ _  hf _ _ hM _ (lv_sub hl [2, 1, 0] rfl)
def f_X11_reached (o : Nat) (μ : Mem) : Option (Int32 × Mem) :=
  f_X11_reached_b4 o  FU (0 : Int32) (0 : Int32) μ
set_option maxHeartbeats 4000000 in
set_option maxRecDepth 100000 in
theorem w_X11_reached (l : Launch) {o : Nat} (ho : knd o = 9) {μ μ2 : Mem} {r : Int32} {H : Heap} {locs : List Loc} {ls : Array Slot} (hf : f_X11_reached o μ = some (r, μ2)) (hX : XX E p m meth c cX11_reached 3 (some .int) s args RX11) (hM : MM E s μ H locs) (hl : lv_has ls 3 [(0, .ref (eA E o))]) : W p l e (rmF 2 44) s m args below meth c H locs 0 0 (MQ below (QC E (some (.int r)) μ2) args s 0 0 (AA E)) (F0 m 0 ls []) := by
  obtain ⟨⟨hx, hb, hml, hown, hts⟩, hXr⟩ := id hX
  unfold f_X11_reached at hf
  refine lv_iconst (v := 0) hx hb dX11_reached_0 (by decide) ?_
  refine lv_istore_n (lv' := [(1, .int (0 : Int32)), (0, .ref (eA E o))]) hx hb dX11_reached_1 rfl hl (by decide) rfl (fun ls hl => ?_)
  refine lv_iconst (v := 0) hx hb dX11_reached_2 (by decide) ?_
  refine lv_istore_n (lv' := [(2, .int (0 : Int32)), (1, .int (0 : Int32)), (0, .ref (eA E o))]) hx hb dX11_reached_3 rfl hl (by decide) rfl (fun ls hl => ?_)
  exact w_X11_reached_b4 l ho hX  FU _ _ _  hf _ _ hM _ (lv_sub hl [2, 1, 0] rfl)
theorem c_X11_reached (l : Launch) {o : Nat} (ho : knd o = 9) {μ μ2 : Mem} {r : Int32} (hf : f_X11_reached o μ = some (r, μ2)) : CT E l yX11_reached cX11_reached 3 (some .int) (rmF 2 44) [.ref (eA E o)] μ (some (.int r)) μ2 := CT.of (show plainFor yX11_reached = true by decide +kernel) (Nat.le_of_ble_eq_true rfl) rfl (fun _ _ _ _ _ _ _ _ hX hM hl => w_X11_reached l ho hf hX hM hl)
theorem mv_X11_reached : MV yX11_reached cX11_reached 3 (some .int) RX11 0 := ⟨q_19_15, q_19_13, q_19_14, q_1_5, by decide +kernel⟩
def f_X11_start (o : Nat) (a1 : Int32) (a2 : Int32) (a3 : Int32) (μ : Mem) : Option (Int32 × Mem) :=
  bnd (f_X11_notStart o a1 a2 a3 μ) (fun r2 μ1 => (if (0 : Int32) ≤ r2 then bnv (f_X11_begins o a1 a2 a3 μ1) (fun μ3 => bnv (f_X11_seeks o μ3) (fun μ4 => bnd (f_X11_reached o μ4) (fun r6 μ5 => some (r6, μ5)))) else some (r2, μ1)))
set_option maxHeartbeats 4000000 in
set_option maxRecDepth 100000 in
theorem w_X11_start (l : Launch) {o : Nat} {a1 : Int32} {a2 : Int32} {a3 : Int32} (ho : knd o = 9) {μ μ2 : Mem} {r : Int32} {H : Heap} {locs : List Loc} {ls : Array Slot} (hf : f_X11_start o a1 a2 a3 μ = some (r, μ2)) (hX : XX E p m meth c cX11_start 5 (some .int) s args RX11) (hM : MM E s μ H locs) (hl : lv_has ls 5 [(0, .ref (eA E o)), (1, .int a1), (2, .int a2), (3, .int a3)]) : W p l e (rmF 5 122) s m args below meth c H locs 0 0 (MQ below (QC E (some (.int r)) μ2) args s 0 0 (AA E)) (F0 m 0 ls []) := by
  obtain ⟨⟨hx, hb, hml, hown, hts⟩, hXr⟩ := id hX
  unfold f_X11_start at hf
  refine lv_aload_n hx hb dX11_start_0 rfl (lv_at hl 0 rfl) ?_
  refine lv_iload_n hx hb dX11_start_1 rfl (lv_at hl 1 rfl) ?_
  refine lv_iload_n hx hb dX11_start_2 rfl (lv_at hl 2 rfl) ?_
  refine lv_iload_n hx hb dX11_start_3 rfl (lv_at hl 3 rfl) ?_
  replace hf := bnd_some hf
  obtain ⟨r2, μ1, h4, hf⟩ := hf
  refine cl_V (As := [.int a1, .int a2, .int a3]) (rest := []) (st2 := [.int r2]) (n := 3) hX hM (c_X11_notStart l ho h4) mv_X11_notStart q_17_10 ⟨rfl, rfl⟩ ⟨Nat.le_of_ble_eq_true rfl, Nat.le_of_ble_eq_true rfl⟩ ho (by decide) rfl rfl rfl hl.1 rfl (Nat.le_of_ble_eq_true rfl) dX11_start_4 rfl (fun H locs hM => ?_)
  refine lv_istore (lv' := [(4, .int r2), (0, .ref (eA E o)), (1, .int a1), (2, .int a2), (3, .int a3)]) hx hb dX11_start_7 hl (by decide) rfl (fun ls hl => ?_)
  refine lv_iload hx hb dX11_start_9 (lv_at hl 0 rfl) ?_
  refine lv_if_ge (tgt := 17) hx hb dX11_start_11 (by decide) (fun hc11 => ?_) (fun hc11 => ?_)
  · replace hf := it_t hf hc11
    refine lv_aload_n hx hb dX11_start_17 rfl (lv_at hl 1 rfl) ?_
    refine lv_iload_n hx hb dX11_start_18 rfl (lv_at hl 2 rfl) ?_
    refine lv_iload_n hx hb dX11_start_19 rfl (lv_at hl 3 rfl) ?_
    refine lv_iload_n hx hb dX11_start_20 rfl (lv_at hl 4 rfl) ?_
    replace hf := bnv_some hf
    obtain ⟨μ3, h21, hf⟩ := hf
    refine cl_V (As := [.int a1, .int a2, .int a3]) (rest := []) (st2 := []) (n := 3) hX hM (c_X11_begins l ho h21) mv_X11_begins q_17_17 ⟨rfl, rfl⟩ ⟨Nat.le_of_ble_eq_true rfl, Nat.le_of_ble_eq_true rfl⟩ ho (by decide) rfl rfl rfl hl.1 rfl (Nat.le_of_ble_eq_true rfl) dX11_start_21 rfl (fun H locs hM => ?_)
    refine lv_aload_n hx hb dX11_start_24 rfl (lv_at hl 1 rfl) ?_
    replace hf := bnv_some hf
    obtain ⟨μ4, h25, hf⟩ := hf
    refine cl_V (As := []) (rest := []) (st2 := []) (n := 0) hX hM (c_X11_seeks l ho h25) mv_X11_seeks q_17_23 ⟨rfl, rfl⟩ ⟨Nat.le_of_ble_eq_true rfl, Nat.le_of_ble_eq_true rfl⟩ ho (by decide) rfl rfl rfl hl.1 rfl (Nat.le_of_ble_eq_true rfl) dX11_start_25 rfl (fun H locs hM => ?_)
    refine lv_aload_n hx hb dX11_start_28 rfl (lv_at hl 1 rfl) ?_
    replace hf := bnd_some hf
    obtain ⟨r6, μ5, h29, hf⟩ := hf
    refine cl_V (As := []) (rest := []) (st2 := [.int r6]) (n := 0) hX hM (c_X11_reached l ho h29) mv_X11_reached q_19_12 ⟨rfl, rfl⟩ ⟨Nat.le_of_ble_eq_true rfl, Nat.le_of_ble_eq_true rfl⟩ ho (by decide) rfl rfl rfl hl.1 rfl (Nat.le_of_ble_eq_true rfl) dX11_start_29 rfl (fun H locs hM => ?_)
    exact rt_i hX hM (congrArg (fun z => some (Value.int z)) (so_1 hf)) (so_2 hf) dX11_start_32
  · replace hf := it_f hf hc11
    refine lv_iload hx hb dX11_start_14 (lv_at hl 0 rfl) ?_
    exact rt_i hX hM (congrArg (fun z => some (Value.int z)) (so_1 hf)) (so_2 hf) dX11_start_16
theorem c_X11_start (l : Launch) {o : Nat} {a1 : Int32} {a2 : Int32} {a3 : Int32} (ho : knd o = 9) {μ μ2 : Mem} {r : Int32} (hf : f_X11_start o a1 a2 a3 μ = some (r, μ2)) : CT E l yX11_start cX11_start 5 (some .int) (rmF 5 122) [.ref (eA E o), .int a1, .int a2, .int a3] μ (some (.int r)) μ2 := CT.of (show plainFor yX11_start = true by decide +kernel) (Nat.le_of_ble_eq_true rfl) rfl (fun _ _ _ _ _ _ _ _ hX hM hl => w_X11_start l ho hf hX hM hl)
theorem mv_X11_start : MV yX11_start cX11_start 5 (some .int) RX11 3 := ⟨q_17_9, q_17_7, q_17_8, q_1_5, by decide +kernel⟩
def f_X11_loss (o : Nat) (a1 : Int32) (a2 : Int32) (μ : Mem) : Option (Int32 × Mem) :=
  bnd (f_X11_in a1 (0 : Int32) (1 : Int32) μ) (fun r2 μ1 => (if r2 = 0 then some ((-1 : Int32), μ1) else bnd (f_X11_in a2 (0 : Int32) (60 : Int32) μ1) (fun r4 μ3 => (if r4 = 0 then some ((-2 : Int32), μ3) else gA a1 (aln (rf o 6)) (lt (μ3.1 (rf o 6) a1.toNatClampNeg) (fun v5 => gA a1 (aln (rf o 6)) (lt (sI μ3 (rf o 6) a1.toNatClampNeg a2) (fun μ6 => some (v5, μ6)))))))))
set_option maxHeartbeats 4000000 in
set_option maxRecDepth 100000 in
theorem w_X11_loss (l : Launch) {o : Nat} {a1 : Int32} {a2 : Int32} (ho : knd o = 9) {μ μ2 : Mem} {r : Int32} {H : Heap} {locs : List Loc} {ls : Array Slot} (hf : f_X11_loss o a1 a2 μ = some (r, μ2)) (hX : XX E p m meth c cX11_loss 4 (some .int) s args RX11) (hM : MM E s μ H locs) (hl : lv_has ls 4 [(0, .ref (eA E o)), (1, .int a1), (2, .int a2)]) : W p l e (rmF 1 22) s m args below meth c H locs 0 0 (MQ below (QC E (some (.int r)) μ2) args s 0 0 (AA E)) (F0 m 0 ls []) := by
  obtain ⟨⟨hx, hb, hml, hown, hts⟩, hXr⟩ := id hX
  unfold f_X11_loss at hf
  refine lv_iload_n hx hb dX11_loss_0 rfl (lv_at hl 1 rfl) ?_
  refine lv_iconst (v := 0) hx hb dX11_loss_1 (by decide) ?_
  refine lv_iconst (v := 1) hx hb dX11_loss_2 (by decide) ?_
  replace hf := bnd_some hf
  obtain ⟨r2, μ1, h3, hf⟩ := hf
  refine cl_S (As := [.int a1, .int (0 : Int32), .int (1 : Int32)]) (rest := []) (st2 := [.int r2]) (n := 3) hX hM (c_X11_in l  h3) mt_X11_in q_8_23 ⟨rfl, rfl⟩ ⟨Nat.le_of_ble_eq_true rfl, Nat.le_of_ble_eq_true rfl⟩ rfl hl.1 rfl (Nat.le_of_ble_eq_true rfl) dX11_loss_3 rfl (fun H locs hM => ?_)
  refine lv_if_ne (tgt := 11) hx hb dX11_loss_6 (by decide) (fun hc6 => ?_) (fun hc6 => ?_)
  · replace hf := it_f hf hc6
    refine lv_iload_n hx hb dX11_loss_11 rfl (lv_at hl 2 rfl) ?_
    refine lv_iconst (v := 0) hx hb dX11_loss_12 (by decide) ?_
    refine lv_bipush (v := 60) hx hb dX11_loss_13 (by decide) ?_
    replace hf := bnd_some hf
    obtain ⟨r4, μ3, h15, hf⟩ := hf
    refine cl_S (As := [.int a2, .int (0 : Int32), .int (60 : Int32)]) (rest := []) (st2 := [.int r4]) (n := 3) hX hM (c_X11_in l  h15) mt_X11_in q_8_23 ⟨rfl, rfl⟩ ⟨Nat.le_of_ble_eq_true rfl, Nat.le_of_ble_eq_true rfl⟩ rfl hl.1 rfl (Nat.le_of_ble_eq_true rfl) dX11_loss_15 rfl (fun H locs hM => ?_)
    refine lv_if_ne (tgt := 24) hx hb dX11_loss_18 (by decide) (fun hc18 => ?_) (fun hc18 => ?_)
    · replace hf := it_f hf hc18
      refine lv_aload_n hx hb dX11_loss_24 rfl (lv_at hl 0 rfl) ?_
      refine gf_9_6 hX hM ho q_7_3 dX11_loss_25 ?_
      refine lv_iload_n hx hb dX11_loss_28 rfl (lv_at hl 1 rfl) ?_
      replace hf := gA_some hf
      obtain ⟨hi, hf⟩ := hf
      refine ald hX hM (kr_9_6 ho) hi dX11_loss_29 ?_
      refine lv_topi (fun v5 ev5 => ?_)
      replace hf := lt_e ev5 hf
      refine lv_istore_n (lv' := [(3, .int v5), (0, .ref (eA E o)), (1, .int a1), (2, .int a2)]) hx hb dX11_loss_30 rfl hl (by decide) rfl (fun ls hl => ?_)
      refine lv_aload_n hx hb dX11_loss_31 rfl (lv_at hl 1 rfl) ?_
      refine gf_9_6 hX hM ho q_7_3 dX11_loss_32 ?_
      refine lv_iload_n hx hb dX11_loss_35 rfl (lv_at hl 2 rfl) ?_
      refine lv_iload_n hx hb dX11_loss_36 rfl (lv_at hl 3 rfl) ?_
      replace hf := gA_some hf
      obtain ⟨hi, hf⟩ := hf
      refine ast hX hM (kr_9_6 ho) hi dX11_loss_37 (fun μ6 H locs eμ6 hM => ?_)
      replace hf := lt_e eμ6 hf
      refine lv_iload_n hx hb dX11_loss_38 rfl (lv_at hl 0 rfl) ?_
      exact rt_i hX hM (congrArg (fun z => some (Value.int z)) (so_1 hf)) (so_2 hf) dX11_loss_39
    · replace hf := it_t hf hc18
      refine lv_bipush (v := (-2)) hx hb dX11_loss_21 (by decide) ?_
      exact rt_i hX hM (congrArg (fun z => some (Value.int z)) (so_1 hf)) (so_2 hf) dX11_loss_23
  · replace hf := it_t hf hc6
    refine lv_iconst (v := (-1)) hx hb dX11_loss_9 (by decide) ?_
    exact rt_i hX hM (congrArg (fun z => some (Value.int z)) (so_1 hf)) (so_2 hf) dX11_loss_10
theorem c_X11_loss (l : Launch) {o : Nat} {a1 : Int32} {a2 : Int32} (ho : knd o = 9) {μ μ2 : Mem} {r : Int32} (hf : f_X11_loss o a1 a2 μ = some (r, μ2)) : CT E l yX11_loss cX11_loss 4 (some .int) (rmF 1 22) [.ref (eA E o), .int a1, .int a2] μ (some (.int r)) μ2 := CT.of (show plainFor yX11_loss = true by decide +kernel) (Nat.le_of_ble_eq_true rfl) rfl (fun _ _ _ _ _ _ _ _ hX hM hl => w_X11_loss l ho hf hX hM hl)
theorem mv_X11_loss : MV yX11_loss cX11_loss 4 (some .int) RX11 2 := ⟨q_20_8, q_20_6, q_20_7, q_1_5, by decide +kernel⟩
def f_X11_steer (o : Nat) (a1 : Int32) (μ : Mem) : Option (Int32 × Mem) :=
  (if a1 = (-1 : Int32) then lt (sI μ o 10 (0 : Int32)) (fun μ5 => some ((0 : Int32), μ5)) else bnd (f_X11_isHeading a1 μ) (fun r2 μ1 => (if r2 = 0 then some ((-1 : Int32), μ1) else (if (μ1.1 o 10) = (8 : Int32) then some ((-4 : Int32), μ1) else gA (μ1.1 o 10) (aln (rf o 11)) (lt (sI μ1 (rf o 11) (μ1.1 o 10).toNatClampNeg a1) (fun μ3 => lt (sI μ3 o 10 ((μ3.1 o 10) + (1 : Int32))) (fun μ4 => some ((μ4.1 o 10), μ4))))))))
set_option maxHeartbeats 4000000 in
set_option maxRecDepth 100000 in
theorem w_X11_steer (l : Launch) {o : Nat} {a1 : Int32} (ho : knd o = 9) {μ μ2 : Mem} {r : Int32} {H : Heap} {locs : List Loc} {ls : Array Slot} (hf : f_X11_steer o a1 μ = some (r, μ2)) (hX : XX E p m meth c cX11_steer 2 (some .int) s args RX11) (hM : MM E s μ H locs) (hl : lv_has ls 2 [(0, .ref (eA E o)), (1, .int a1)]) : W p l e (rmF 2 42) s m args below meth c H locs 0 0 (MQ below (QC E (some (.int r)) μ2) args s 0 0 (AA E)) (F0 m 0 ls []) := by
  obtain ⟨⟨hx, hb, hml, hown, hts⟩, hXr⟩ := id hX
  unfold f_X11_steer at hf
  refine lv_iload_n hx hb dX11_steer_0 rfl (lv_at hl 1 rfl) ?_
  refine lv_iconst (v := (-1)) hx hb dX11_steer_1 (by decide) ?_
  refine lv_icmp_ne (tgt := 12) hx hb dX11_steer_2 (by decide) (fun hc2 => ?_) (fun hc2 => ?_)
  · replace hf := it_f hf hc2
    refine lv_iload_n hx hb dX11_steer_12 rfl (lv_at hl 1 rfl) ?_
    replace hf := bnd_some hf
    obtain ⟨r2, μ1, h13, hf⟩ := hf
    refine cl_S (As := [.int a1]) (rest := []) (st2 := [.int r2]) (n := 1) hX hM (c_X11_isHeading l  h13) mt_X11_isHeading q_9_5 ⟨rfl, rfl⟩ ⟨Nat.le_of_ble_eq_true rfl, Nat.le_of_ble_eq_true rfl⟩ rfl hl.1 rfl (Nat.le_of_ble_eq_true rfl) dX11_steer_13 rfl (fun H locs hM => ?_)
    refine lv_if_ne (tgt := 21) hx hb dX11_steer_16 (by decide) (fun hc16 => ?_) (fun hc16 => ?_)
    · replace hf := it_f hf hc16
      refine lv_aload_n hx hb dX11_steer_21 rfl (lv_at hl 0 rfl) ?_
      refine gf_9_10 hX hM ho q_21_2 dX11_steer_22 ?_
      refine lv_bipush (v := 8) hx hb dX11_steer_25 (by decide) ?_
      refine lv_icmp_ne (tgt := 33) hx hb dX11_steer_27 (by decide) (fun hc27 => ?_) (fun hc27 => ?_)
      · replace hf := it_f hf hc27
        refine lv_aload_n hx hb dX11_steer_33 rfl (lv_at hl 0 rfl) ?_
        refine gf_9_11 hX hM ho q_7_4 dX11_steer_34 ?_
        refine lv_aload_n hx hb dX11_steer_37 rfl (lv_at hl 0 rfl) ?_
        refine gf_9_10 hX hM ho q_21_2 dX11_steer_38 ?_
        refine lv_iload_n hx hb dX11_steer_41 rfl (lv_at hl 1 rfl) ?_
        replace hf := gA_some hf
        obtain ⟨hi, hf⟩ := hf
        refine ast hX hM (kr_9_11 ho) hi dX11_steer_42 (fun μ3 H locs eμ3 hM => ?_)
        replace hf := lt_e eμ3 hf
        refine lv_aload_n hx hb dX11_steer_43 rfl (lv_at hl 0 rfl) ?_
        refine lv_dup hx hb dX11_steer_44 rfl ?_
        refine gf_9_10 hX hM ho q_21_2 dX11_steer_45 ?_
        refine lv_iconst (v := 1) hx hb dX11_steer_48 (by decide) ?_
        refine lv_iadd hx hb dX11_steer_49 ?_
        refine pf_9_10 hX hM ho q_21_2 dX11_steer_50 (fun μ4 H locs eμ4 hM => ?_)
        replace hf := lt_e eμ4 hf
        refine lv_aload_n hx hb dX11_steer_53 rfl (lv_at hl 0 rfl) ?_
        refine gf_9_10 hX hM ho q_21_2 dX11_steer_54 ?_
        exact rt_i hX hM (congrArg (fun z => some (Value.int z)) (so_1 hf)) (so_2 hf) dX11_steer_57
      · replace hf := it_t hf hc27
        refine lv_bipush (v := (-4)) hx hb dX11_steer_30 (by decide) ?_
        exact rt_i hX hM (congrArg (fun z => some (Value.int z)) (so_1 hf)) (so_2 hf) dX11_steer_32
    · replace hf := it_t hf hc16
      refine lv_iconst (v := (-1)) hx hb dX11_steer_19 (by decide) ?_
      exact rt_i hX hM (congrArg (fun z => some (Value.int z)) (so_1 hf)) (so_2 hf) dX11_steer_20
  · replace hf := it_t hf hc2
    refine lv_aload_n hx hb dX11_steer_5 rfl (lv_at hl 0 rfl) ?_
    refine lv_iconst (v := 0) hx hb dX11_steer_6 (by decide) ?_
    refine pf_9_10 hX hM ho q_21_2 dX11_steer_7 (fun μ5 H locs eμ5 hM => ?_)
    replace hf := lt_e eμ5 hf
    refine lv_iconst (v := 0) hx hb dX11_steer_10 (by decide) ?_
    exact rt_i hX hM (congrArg (fun z => some (Value.int z)) (so_1 hf)) (so_2 hf) dX11_steer_11
theorem c_X11_steer (l : Launch) {o : Nat} {a1 : Int32} (ho : knd o = 9) {μ μ2 : Mem} {r : Int32} (hf : f_X11_steer o a1 μ = some (r, μ2)) : CT E l yX11_steer cX11_steer 2 (some .int) (rmF 2 42) [.ref (eA E o), .int a1] μ (some (.int r)) μ2 := CT.of (show plainFor yX11_steer = true by decide +kernel) (Nat.le_of_ble_eq_true rfl) rfl (fun _ _ _ _ _ _ _ _ hX hM hl => w_X11_steer l ho hf hX hM hl)
theorem mv_X11_steer : MV yX11_steer cX11_steer 2 (some .int) RX11 1 := ⟨q_21_1, q_20_23, q_21_0, q_1_5, by decide +kernel⟩
def f_X11_feed (o : Nat) (a1 : Int32) (μ : Mem) : Option (Int32 × Mem) :=
  bnd (f_X11_in a1 (0 : Int32) (127 : Int32) μ) (fun r2 μ1 => (if r2 = 0 then some ((-2 : Int32), μ1) else (if (μ1.1 o 25) = (100 : Int32) then some ((-4 : Int32), μ1) else gA (μ1.1 o 25) (aln (rf o 24)) (lt (sI μ1 (rf o 24) (μ1.1 o 25).toNatClampNeg a1) (fun μ3 => lt (sI μ3 o 25 ((μ3.1 o 25) + (1 : Int32))) (fun μ4 => some ((μ4.1 o 25), μ4)))))))
set_option maxHeartbeats 4000000 in
set_option maxRecDepth 100000 in
theorem w_X11_feed (l : Launch) {o : Nat} {a1 : Int32} (ho : knd o = 9) {μ μ2 : Mem} {r : Int32} {H : Heap} {locs : List Loc} {ls : Array Slot} (hf : f_X11_feed o a1 μ = some (r, μ2)) (hX : XX E p m meth c cX11_feed 2 (some .int) s args RX11) (hM : MM E s μ H locs) (hl : lv_has ls 2 [(0, .ref (eA E o)), (1, .int a1)]) : W p l e (rmF 1 22) s m args below meth c H locs 0 0 (MQ below (QC E (some (.int r)) μ2) args s 0 0 (AA E)) (F0 m 0 ls []) := by
  obtain ⟨⟨hx, hb, hml, hown, hts⟩, hXr⟩ := id hX
  unfold f_X11_feed at hf
  refine lv_iload_n hx hb dX11_feed_0 rfl (lv_at hl 1 rfl) ?_
  refine lv_iconst (v := 0) hx hb dX11_feed_1 (by decide) ?_
  refine lv_bipush (v := 127) hx hb dX11_feed_2 (by decide) ?_
  replace hf := bnd_some hf
  obtain ⟨r2, μ1, h4, hf⟩ := hf
  refine cl_S (As := [.int a1, .int (0 : Int32), .int (127 : Int32)]) (rest := []) (st2 := [.int r2]) (n := 3) hX hM (c_X11_in l  h4) mt_X11_in q_8_23 ⟨rfl, rfl⟩ ⟨Nat.le_of_ble_eq_true rfl, Nat.le_of_ble_eq_true rfl⟩ rfl hl.1 rfl (Nat.le_of_ble_eq_true rfl) dX11_feed_4 rfl (fun H locs hM => ?_)
  refine lv_if_ne (tgt := 13) hx hb dX11_feed_7 (by decide) (fun hc7 => ?_) (fun hc7 => ?_)
  · replace hf := it_f hf hc7
    refine lv_aload_n hx hb dX11_feed_13 rfl (lv_at hl 0 rfl) ?_
    refine gf_9_25 hX hM ho q_21_15 dX11_feed_14 ?_
    refine lv_bipush (v := 100) hx hb dX11_feed_17 (by decide) ?_
    refine lv_icmp_ne (tgt := 25) hx hb dX11_feed_19 (by decide) (fun hc19 => ?_) (fun hc19 => ?_)
    · replace hf := it_f hf hc19
      refine lv_aload_n hx hb dX11_feed_25 rfl (lv_at hl 0 rfl) ?_
      refine gf_9_24 hX hM ho q_7_13 dX11_feed_26 ?_
      refine lv_aload_n hx hb dX11_feed_29 rfl (lv_at hl 0 rfl) ?_
      refine gf_9_25 hX hM ho q_21_15 dX11_feed_30 ?_
      refine lv_iload_n hx hb dX11_feed_33 rfl (lv_at hl 1 rfl) ?_
      replace hf := gA_some hf
      obtain ⟨hi, hf⟩ := hf
      refine ast hX hM (kr_9_24 ho) hi dX11_feed_34 (fun μ3 H locs eμ3 hM => ?_)
      replace hf := lt_e eμ3 hf
      refine lv_aload_n hx hb dX11_feed_35 rfl (lv_at hl 0 rfl) ?_
      refine lv_dup hx hb dX11_feed_36 rfl ?_
      refine gf_9_25 hX hM ho q_21_15 dX11_feed_37 ?_
      refine lv_iconst (v := 1) hx hb dX11_feed_40 (by decide) ?_
      refine lv_iadd hx hb dX11_feed_41 ?_
      refine pf_9_25 hX hM ho q_21_15 dX11_feed_42 (fun μ4 H locs eμ4 hM => ?_)
      replace hf := lt_e eμ4 hf
      refine lv_aload_n hx hb dX11_feed_45 rfl (lv_at hl 0 rfl) ?_
      refine gf_9_25 hX hM ho q_21_15 dX11_feed_46 ?_
      exact rt_i hX hM (congrArg (fun z => some (Value.int z)) (so_1 hf)) (so_2 hf) dX11_feed_49
    · replace hf := it_t hf hc19
      refine lv_bipush (v := (-4)) hx hb dX11_feed_22 (by decide) ?_
      exact rt_i hX hM (congrArg (fun z => some (Value.int z)) (so_1 hf)) (so_2 hf) dX11_feed_24
  · replace hf := it_t hf hc7
    refine lv_bipush (v := (-2)) hx hb dX11_feed_10 (by decide) ?_
    exact rt_i hX hM (congrArg (fun z => some (Value.int z)) (so_1 hf)) (so_2 hf) dX11_feed_12
theorem c_X11_feed (l : Launch) {o : Nat} {a1 : Int32} (ho : knd o = 9) {μ μ2 : Mem} {r : Int32} (hf : f_X11_feed o a1 μ = some (r, μ2)) : CT E l yX11_feed cX11_feed 2 (some .int) (rmF 1 22) [.ref (eA E o), .int a1] μ (some (.int r)) μ2 := CT.of (show plainFor yX11_feed = true by decide +kernel) (Nat.le_of_ble_eq_true rfl) rfl (fun _ _ _ _ _ _ _ _ hX hM hl => w_X11_feed l ho hf hX hM hl)
theorem mv_X11_feed : MV yX11_feed cX11_feed 2 (some .int) RX11 1 := ⟨q_21_14, q_21_12, q_21_13, q_1_5, by decide +kernel⟩
def f_X11_here (o : Nat) (μ : Mem) : Option (Int32 × Mem) :=
  (if (μ.1 o 25) ≤ (μ.1 o 26) then some ((-1 : Int32), μ) else gA (μ.1 o 26) (aln (rf o 24)) (some ((μ.1 (rf o 24) (μ.1 o 26).toNatClampNeg), μ)))
set_option maxHeartbeats 4000000 in
set_option maxRecDepth 100000 in
theorem w_X11_here (l : Launch) {o : Nat} (ho : knd o = 9) {μ μ2 : Mem} {r : Int32} {H : Heap} {locs : List Loc} {ls : Array Slot} (hf : f_X11_here o μ = some (r, μ2)) (hX : XX E p m meth c cX11_here 1 (some .int) s args RX11) (hM : MM E s μ H locs) (hl : lv_has ls 1 [(0, .ref (eA E o))]) : W p l e (rmF 0 0) s m args below meth c H locs 0 0 (MQ below (QC E (some (.int r)) μ2) args s 0 0 (AA E)) (F0 m 0 ls []) := by
  obtain ⟨⟨hx, hb, hml, hown, hts⟩, hXr⟩ := id hX
  unfold f_X11_here at hf
  refine lv_aload_n hx hb dX11_here_0 rfl (lv_at hl 0 rfl) ?_
  refine gf_9_26 hX hM ho q_26_19 dX11_here_1 ?_
  refine lv_aload_n hx hb dX11_here_4 rfl (lv_at hl 0 rfl) ?_
  refine gf_9_25 hX hM ho q_21_15 dX11_here_5 ?_
  refine lv_icmp_ge (tgt := 23) hx hb dX11_here_8 (by decide) (fun hc8 => ?_) (fun hc8 => ?_)
  · replace hf := it_t hf hc8
    refine lv_iconst (v := (-1)) hx hb dX11_here_23 (by decide) ?_
    exact rt_i hX hM (congrArg (fun z => some (Value.int z)) (so_1 hf)) (so_2 hf) dX11_here_24
  · replace hf := it_f hf hc8
    refine lv_aload_n hx hb dX11_here_11 rfl (lv_at hl 0 rfl) ?_
    refine gf_9_24 hX hM ho q_7_13 dX11_here_12 ?_
    refine lv_aload_n hx hb dX11_here_15 rfl (lv_at hl 0 rfl) ?_
    refine gf_9_26 hX hM ho q_26_19 dX11_here_16 ?_
    replace hf := gA_some hf
    obtain ⟨hi, hf⟩ := hf
    refine ald hX hM (kr_9_24 ho) hi dX11_here_19 ?_
    refine lv_goto (tgt := 24) hx hb dX11_here_20 (by decide) ?_
    exact rt_i hX hM (congrArg (fun z => some (Value.int z)) (so_1 hf)) (so_2 hf) dX11_here_24
theorem c_X11_here (l : Launch) {o : Nat} (ho : knd o = 9) {μ μ2 : Mem} {r : Int32} (hf : f_X11_here o μ = some (r, μ2)) : CT E l yX11_here cX11_here 1 (some .int) (rmF 0 0) [.ref (eA E o)] μ (some (.int r)) μ2 := CT.of (show plainFor yX11_here = true by decide +kernel) (Nat.le_of_ble_eq_true rfl) rfl (fun _ _ _ _ _ _ _ _ hX hM hl => w_X11_here l ho hf hX hM hl)
theorem mv_X11_here : MV yX11_here cX11_here 1 (some .int) RX11 0 := ⟨q_27_7, q_27_5, q_27_6, q_1_5, by decide +kernel⟩
def f_X11_digits_b74 (o : Nat) (a1 : Int32) (a2 : Int32) (a3 : Int32)  (x4 : Int32) (μ : Mem) : Option (Int32 × Mem) :=
  (if (μ.1 o 26) < (x4 + a2) then some ((0 : Int32), μ) else some ((1 : Int32), μ))
set_option maxHeartbeats 4000000 in
set_option maxRecDepth 100000 in
theorem w_X11_digits_b74 (l : Launch) {o : Nat} {a1 : Int32} {a2 : Int32} {a3 : Int32} (ho : knd o = 9) {μ2 : Mem} {r : Int32}   {x4 : Int32} {μ : Mem} {H : Heap} {locs : List Loc} {ls : Array Slot}  (hf : f_X11_digits_b74 o a1 a2 a3  x4 μ = some (r, μ2)) (hX : XX E p m meth c cX11_digits 5 (some .boolean) s args RX11) (hM : MM E s μ H locs) (hl : lv_has ls 5 [(0, .ref (eA E o)), (1, .int a1), (2, .int a2), (3, .int a3), (4, .int x4)]) : W p l e (rmF 1 22) s m args below meth c H locs 0 0 (MQ below (QC E (some (.int r)) μ2) args s 0 0 (AA E)) (F0 m 74 ls []) := by
  obtain ⟨⟨hx, hb, hml, hown, hts⟩, hXr⟩ := id hX
  unfold f_X11_digits_b74 at hf
  refine lv_aload_n hx hb dX11_digits_74 rfl (lv_at hl 0 rfl) ?_
  refine gf_9_26 hX hM ho q_26_19 dX11_digits_75 ?_
  refine lv_iload hx hb dX11_digits_78 (lv_at hl 4 rfl) ?_
  refine lv_iload_n hx hb dX11_digits_80 rfl (lv_at hl 2 rfl) ?_
  refine lv_iadd hx hb dX11_digits_81 ?_
  refine lv_icmp_lt (tgt := 89) hx hb dX11_digits_82 (by decide) (fun hc82 => ?_) (fun hc82 => ?_)
  · replace hf := it_t hf hc82
    refine lv_iconst (v := 0) hx hb dX11_digits_89 (by decide) ?_
    exact rt_z hX hM rfl (congrArg (fun z => some (Value.int z)) (so_1 hf)) (so_2 hf) dX11_digits_90
  · replace hf := it_f hf hc82
    refine lv_iconst (v := 1) hx hb dX11_digits_85 (by decide) ?_
    refine lv_goto (tgt := 90) hx hb dX11_digits_86 (by decide) ?_
    exact rt_z hX hM rfl (congrArg (fun z => some (Value.int z)) (so_1 hf)) (so_2 hf) dX11_digits_90
def f_X11_digits_b13 (o : Nat) (a1 : Int32) (a2 : Int32) (a3 : Int32)  : Nat → Int32 → Mem → Option (Int32 × Mem)
  | 0, _, _ => none
  | n + 1, x4, μ =>
    (if (x4 + a3) ≤ (μ.1 o 26) then f_X11_digits_b74 o a1 a2 a3  x4 μ else bnd (f_X11_here o μ) (fun r4 μ3 => bnd (f_X11_in r4 (48 : Int32) (57 : Int32) μ3) (fun r6 μ5 => (if r6 = 0 then f_X11_digits_b74 o a1 a2 a3  x4 μ5 else gA a1 (aln (rf o 27)) (bnd (f_X11_here o μ5) (fun r8 μ7 => gA a1 (aln (rf o 27)) (lt (sI μ7 (rf o 27) a1.toNatClampNeg ((((10 : Int32) * (μ5.1 (rf o 27) a1.toNatClampNeg)) + r8) - (48 : Int32))) (fun μ9 => lt (sI μ9 o 26 ((μ9.1 o 26) + (1 : Int32))) (fun μ10 => (f_X11_digits_b13 o a1 a2 a3  n) x4 μ10)))))))))
set_option maxHeartbeats 4000000 in
set_option maxRecDepth 100000 in
theorem w_X11_digits_b13 (l : Launch) {o : Nat} {a1 : Int32} {a2 : Int32} {a3 : Int32} (ho : knd o = 9) {μ2 : Mem} {r : Int32}  (hX : XX E p m meth c cX11_digits 5 (some .boolean) s args RX11)  : ∀ (n : Nat) (x4 : Int32) (μ : Mem), f_X11_digits_b13 o a1 a2 a3  n x4 μ = some (r, μ2) → ∀ (H : Heap) (locs : List Loc), MM E s μ H locs → ∀ ls : Array Slot, lv_has ls 5 [(0, .ref (eA E o)), (1, .int a1), (2, .int a2), (3, .int a3), (4, .int x4)] → W p l e (rmF 1 22) s m args below meth c H locs 0 0 (MQ below (QC E (some (.int r)) μ2) args s 0 0 (AA E)) (F0 m 13 ls []) := by
  obtain ⟨⟨hx, hb, hml, hown, hts⟩, hXr⟩ := id hX
  intro n
  induction n with
  | zero => intro x4 μ  hf; exact no_none hf
  | succ n ih =>
    intro x4 μ  hf H locs hM ls hl
    rw [f_X11_digits_b13] at hf
    have hK13 := ih
    clear ih
    refine lv_aload_n hx hb dX11_digits_13 rfl (lv_at hl 0 rfl) ?_
    refine gf_9_26 hX hM ho q_26_19 dX11_digits_14 ?_
    refine lv_iload hx hb dX11_digits_17 (lv_at hl 4 rfl) ?_
    refine lv_iload_n hx hb dX11_digits_19 rfl (lv_at hl 3 rfl) ?_
    refine lv_iadd hx hb dX11_digits_20 ?_
    refine lv_icmp_ge (tgt := 74) hx hb dX11_digits_21 (by decide) (fun hc21 => ?_) (fun hc21 => ?_)
    · replace hf := it_t hf hc21
      exact w_X11_digits_b74 l ho   hf hX hM (lv_sub hl [0, 1, 2, 3, 4] rfl)
    · replace hf := it_f hf hc21
      refine lv_aload_n hx hb dX11_digits_24 rfl (lv_at hl 0 rfl) ?_
      replace hf := bnd_some hf
      obtain ⟨r4, μ3, h25, hf⟩ := hf
      refine cl_V (As := []) (rest := []) (st2 := [.int r4]) (n := 0) hX hM (c_X11_here l ho h25) mv_X11_here q_27_4 ⟨rfl, rfl⟩ ⟨Nat.le_of_ble_eq_true rfl, Nat.le_of_ble_eq_true rfl⟩ ho (by decide) rfl rfl rfl hl.1 rfl (Nat.le_of_ble_eq_true rfl) dX11_digits_25 rfl (fun H locs hM => ?_)
      refine lv_bipush (v := 48) hx hb dX11_digits_28 (by decide) ?_
      refine lv_bipush (v := 57) hx hb dX11_digits_30 (by decide) ?_
      replace hf := bnd_some hf
      obtain ⟨r6, μ5, h32, hf⟩ := hf
      refine cl_S (As := [.int r4, .int (48 : Int32), .int (57 : Int32)]) (rest := []) (st2 := [.int r6]) (n := 3) hX hM (c_X11_in l  h32) mt_X11_in q_8_23 ⟨rfl, rfl⟩ ⟨Nat.le_of_ble_eq_true rfl, Nat.le_of_ble_eq_true rfl⟩ rfl hl.1 rfl (Nat.le_of_ble_eq_true rfl) dX11_digits_32 rfl (fun H locs hM => ?_)
      refine lv_if_eq (tgt := 74) hx hb dX11_digits_35 (by decide) (fun hc35 => ?_) (fun hc35 => ?_)
      · replace hf := it_t hf hc35
        exact w_X11_digits_b74 l ho   hf hX hM (lv_sub hl [0, 1, 2, 3, 4] rfl)
      · replace hf := it_f hf hc35
        refine lv_aload_n hx hb dX11_digits_38 rfl (lv_at hl 0 rfl) ?_
        refine gf_9_27 hX hM ho q_7_14 dX11_digits_39 ?_
        refine lv_iload_n hx hb dX11_digits_42 rfl (lv_at hl 1 rfl) ?_
        refine lv_bipush (v := 10) hx hb dX11_digits_43 (by decide) ?_
        refine lv_aload_n hx hb dX11_digits_45 rfl (lv_at hl 0 rfl) ?_
        refine gf_9_27 hX hM ho q_7_14 dX11_digits_46 ?_
        refine lv_iload_n hx hb dX11_digits_49 rfl (lv_at hl 1 rfl) ?_
        replace hf := gA_some hf
        obtain ⟨hi, hf⟩ := hf
        refine ald hX hM (kr_9_27 ho) hi dX11_digits_50 ?_
        refine lv_imul hx hb dX11_digits_51 ?_
        refine lv_aload_n hx hb dX11_digits_52 rfl (lv_at hl 0 rfl) ?_
        replace hf := bnd_some hf
        obtain ⟨r8, μ7, h53, hf⟩ := hf
        refine cl_V (As := []) (rest := [.int ((10 : Int32) * (μ5.1 (rf o 27) a1.toNatClampNeg)), .int a1, .ref (eA E (rf o 27))]) (st2 := [.int r8, .int ((10 : Int32) * (μ5.1 (rf o 27) a1.toNatClampNeg)), .int a1, .ref (eA E (rf o 27))]) (n := 0) hX hM (c_X11_here l ho h53) mv_X11_here q_27_4 ⟨rfl, rfl⟩ ⟨Nat.le_of_ble_eq_true rfl, Nat.le_of_ble_eq_true rfl⟩ ho (by decide) rfl rfl rfl hl.1 rfl (Nat.le_of_ble_eq_true rfl) dX11_digits_53 rfl (fun H locs hM => ?_)
        refine lv_iadd hx hb dX11_digits_56 ?_
        refine lv_bipush (v := 48) hx hb dX11_digits_57 (by decide) ?_
        refine lv_isub hx hb dX11_digits_59 ?_
        replace hf := gA_some hf
        obtain ⟨hi, hf⟩ := hf
        refine ast hX hM (kr_9_27 ho) hi dX11_digits_60 (fun μ9 H locs eμ9 hM => ?_)
        replace hf := lt_e eμ9 hf
        refine lv_aload_n hx hb dX11_digits_61 rfl (lv_at hl 0 rfl) ?_
        refine lv_dup hx hb dX11_digits_62 rfl ?_
        refine gf_9_26 hX hM ho q_26_19 dX11_digits_63 ?_
        refine lv_iconst (v := 1) hx hb dX11_digits_66 (by decide) ?_
        refine lv_iadd hx hb dX11_digits_67 ?_
        refine pf_9_26 hX hM ho q_26_19 dX11_digits_68 (fun μ10 H locs eμ10 hM => ?_)
        replace hf := lt_e eμ10 hf
        refine lv_goto (tgt := 13) hx hb dX11_digits_71 (by decide) ?_
        exact hK13 _ _  hf _ _ hM _ (lv_sub hl [0, 1, 2, 3, 4] rfl)
def f_X11_digits (o : Nat) (a1 : Int32) (a2 : Int32) (a3 : Int32) (μ : Mem) : Option (Int32 × Mem) :=
  lt (μ.1 o 26) (fun v1 => gA a1 (aln (rf o 27)) (lt (sI μ (rf o 27) a1.toNatClampNeg (0 : Int32)) (fun μ2 => f_X11_digits_b13 o a1 a2 a3  FU v1 μ2)))
set_option maxHeartbeats 4000000 in
set_option maxRecDepth 100000 in
theorem w_X11_digits (l : Launch) {o : Nat} {a1 : Int32} {a2 : Int32} {a3 : Int32} (ho : knd o = 9) {μ μ2 : Mem} {r : Int32} {H : Heap} {locs : List Loc} {ls : Array Slot} (hf : f_X11_digits o a1 a2 a3 μ = some (r, μ2)) (hX : XX E p m meth c cX11_digits 5 (some .boolean) s args RX11) (hM : MM E s μ H locs) (hl : lv_has ls 5 [(0, .ref (eA E o)), (1, .int a1), (2, .int a2), (3, .int a3)]) : W p l e (rmF 1 22) s m args below meth c H locs 0 0 (MQ below (QC E (some (.int r)) μ2) args s 0 0 (AA E)) (F0 m 0 ls []) := by
  obtain ⟨⟨hx, hb, hml, hown, hts⟩, hXr⟩ := id hX
  unfold f_X11_digits at hf
  refine lv_aload_n hx hb dX11_digits_0 rfl (lv_at hl 0 rfl) ?_
  refine gf_9_26 hX hM ho q_26_19 dX11_digits_1 ?_
  refine lv_topi (fun v1 ev1 => ?_)
  replace hf := lt_e ev1 hf
  refine lv_istore (lv' := [(4, .int v1), (0, .ref (eA E o)), (1, .int a1), (2, .int a2), (3, .int a3)]) hx hb dX11_digits_4 hl (by decide) rfl (fun ls hl => ?_)
  refine lv_aload_n hx hb dX11_digits_6 rfl (lv_at hl 1 rfl) ?_
  refine gf_9_27 hX hM ho q_7_14 dX11_digits_7 ?_
  refine lv_iload_n hx hb dX11_digits_10 rfl (lv_at hl 2 rfl) ?_
  refine lv_iconst (v := 0) hx hb dX11_digits_11 (by decide) ?_
  replace hf := gA_some hf
  obtain ⟨hi, hf⟩ := hf
  refine ast hX hM (kr_9_27 ho) hi dX11_digits_12 (fun μ2 H locs eμ2 hM => ?_)
  replace hf := lt_e eμ2 hf
  exact w_X11_digits_b13 l ho hX  FU _ _  hf _ _ hM _ (lv_sub hl [1, 2, 3, 4, 0] rfl)
theorem c_X11_digits (l : Launch) {o : Nat} {a1 : Int32} {a2 : Int32} {a3 : Int32} (ho : knd o = 9) {μ μ2 : Mem} {r : Int32} (hf : f_X11_digits o a1 a2 a3 μ = some (r, μ2)) : CT E l yX11_digits cX11_digits 5 (some .boolean) (rmF 1 22) [.ref (eA E o), .int a1, .int a2, .int a3] μ (some (.int r)) μ2 := CT.of (show plainFor yX11_digits = true by decide +kernel) (Nat.le_of_ble_eq_true rfl) rfl (fun _ _ _ _ _ _ _ _ hX hM hl => w_X11_digits l ho hf hX hM hl)
theorem mv_X11_digits : MV yX11_digits cX11_digits 5 (some .boolean) RX11 3 := ⟨q_27_15, q_27_13, q_27_14, q_1_5, by decide +kernel⟩
def f_X11_ones_b2 (o : Nat) (a1 : Int32)  : Nat → Int32 → Mem → Option (Int32 × Mem)
  | 0, _, _ => none
  | n + 1, x2, μ =>
    (if a1 ≤ x2 then some ((1 : Int32), μ) else bnd (f_X11_digits o x2 (1 : Int32) (1 : Int32) μ) (fun r2 μ1 => (if r2 = 0 then some ((0 : Int32), μ1) else lt (x2 + (1 : Int32)) (fun v3 => (f_X11_ones_b2 o a1  n) v3 μ1))))
set_option maxHeartbeats 4000000 in
set_option maxRecDepth 100000 in
theorem w_X11_ones_b2 (l : Launch) {o : Nat} {a1 : Int32} (ho : knd o = 9) {μ2 : Mem} {r : Int32}  (hX : XX E p m meth c cX11_ones 3 (some .boolean) s args RX11)  : ∀ (n : Nat) (x2 : Int32) (μ : Mem), f_X11_ones_b2 o a1  n x2 μ = some (r, μ2) → ∀ (H : Heap) (locs : List Loc), MM E s μ H locs → ∀ ls : Array Slot, lv_has ls 3 [(0, .ref (eA E o)), (1, .int a1), (2, .int x2)] → W p l e (rmF 2 46) s m args below meth c H locs 0 0 (MQ below (QC E (some (.int r)) μ2) args s 0 0 (AA E)) (F0 m 2 ls []) := by
  obtain ⟨⟨hx, hb, hml, hown, hts⟩, hXr⟩ := id hX
  intro n
  induction n with
  | zero => intro x2 μ  hf; exact no_none hf
  | succ n ih =>
    intro x2 μ  hf H locs hM ls hl
    rw [f_X11_ones_b2] at hf
    have hK2 := ih
    clear ih
    refine lv_iload_n hx hb dX11_ones_2 rfl (lv_at hl 2 rfl) ?_
    refine lv_iload_n hx hb dX11_ones_3 rfl (lv_at hl 1 rfl) ?_
    refine lv_icmp_ge (tgt := 25) hx hb dX11_ones_4 (by decide) (fun hc4 => ?_) (fun hc4 => ?_)
    · replace hf := it_t hf hc4
      refine lv_iconst (v := 1) hx hb dX11_ones_25 (by decide) ?_
      exact rt_z hX hM rfl (congrArg (fun z => some (Value.int z)) (so_1 hf)) (so_2 hf) dX11_ones_26
    · replace hf := it_f hf hc4
      refine lv_aload_n hx hb dX11_ones_7 rfl (lv_at hl 0 rfl) ?_
      refine lv_iload_n hx hb dX11_ones_8 rfl (lv_at hl 2 rfl) ?_
      refine lv_iconst (v := 1) hx hb dX11_ones_9 (by decide) ?_
      refine lv_iconst (v := 1) hx hb dX11_ones_10 (by decide) ?_
      replace hf := bnd_some hf
      obtain ⟨r2, μ1, h11, hf⟩ := hf
      refine cl_V (As := [.int x2, .int (1 : Int32), .int (1 : Int32)]) (rest := []) (st2 := [.int r2]) (n := 3) hX hM (c_X11_digits l ho h11) mv_X11_digits q_27_12 ⟨rfl, rfl⟩ ⟨Nat.le_of_ble_eq_true rfl, Nat.le_of_ble_eq_true rfl⟩ ho (by decide) rfl rfl rfl hl.1 rfl (Nat.le_of_ble_eq_true rfl) dX11_ones_11 rfl (fun H locs hM => ?_)
      refine lv_if_ne (tgt := 19) hx hb dX11_ones_14 (by decide) (fun hc14 => ?_) (fun hc14 => ?_)
      · replace hf := it_f hf hc14
        obtain ⟨v3, ev3⟩ : ∃ y : Int32, y = x2 + (1 : Int32) := ⟨_, rfl⟩
        replace hf := lt_e ev3 hf
        refine lv_iinc (v := v3) (lv' := [(2, .int v3), (0, .ref (eA E o)), (1, .int a1)]) hx hb dX11_ones_19 hl (k := 2) rfl (by rw [ev3]; rfl) (by decide) rfl (fun ls hl => ?_)
        refine lv_goto (tgt := 2) hx hb dX11_ones_22 (by decide) ?_
        exact hK2 _ _  hf _ _ hM _ (lv_sub hl [1, 2, 0] rfl)
      · replace hf := it_t hf hc14
        refine lv_iconst (v := 0) hx hb dX11_ones_17 (by decide) ?_
        exact rt_z hX hM rfl (congrArg (fun z => some (Value.int z)) (so_1 hf)) (so_2 hf) dX11_ones_18
def f_X11_ones (o : Nat) (a1 : Int32) (μ : Mem) : Option (Int32 × Mem) :=
  f_X11_ones_b2 o a1  FU (0 : Int32) μ
set_option maxHeartbeats 4000000 in
set_option maxRecDepth 100000 in
theorem w_X11_ones (l : Launch) {o : Nat} {a1 : Int32} (ho : knd o = 9) {μ μ2 : Mem} {r : Int32} {H : Heap} {locs : List Loc} {ls : Array Slot} (hf : f_X11_ones o a1 μ = some (r, μ2)) (hX : XX E p m meth c cX11_ones 3 (some .boolean) s args RX11) (hM : MM E s μ H locs) (hl : lv_has ls 3 [(0, .ref (eA E o)), (1, .int a1)]) : W p l e (rmF 2 46) s m args below meth c H locs 0 0 (MQ below (QC E (some (.int r)) μ2) args s 0 0 (AA E)) (F0 m 0 ls []) := by
  obtain ⟨⟨hx, hb, hml, hown, hts⟩, hXr⟩ := id hX
  unfold f_X11_ones at hf
  refine lv_iconst (v := 0) hx hb dX11_ones_0 (by decide) ?_
  refine lv_istore_n (lv' := [(2, .int (0 : Int32)), (0, .ref (eA E o)), (1, .int a1)]) hx hb dX11_ones_1 rfl hl (by decide) rfl (fun ls hl => ?_)
  exact w_X11_ones_b2 l ho hX  FU _ _  hf _ _ hM _ (lv_sub hl [1, 2, 0] rfl)
theorem c_X11_ones (l : Launch) {o : Nat} {a1 : Int32} (ho : knd o = 9) {μ μ2 : Mem} {r : Int32} (hf : f_X11_ones o a1 μ = some (r, μ2)) : CT E l yX11_ones cX11_ones 3 (some .boolean) (rmF 2 46) [.ref (eA E o), .int a1] μ (some (.int r)) μ2 := CT.of (show plainFor yX11_ones = true by decide +kernel) (Nat.le_of_ble_eq_true rfl) rfl (fun _ _ _ _ _ _ _ _ hX hM hl => w_X11_ones l ho hf hX hM hl)
theorem mv_X11_ones : MV yX11_ones cX11_ones 3 (some .boolean) RX11 1 := ⟨q_27_11, q_27_9, q_27_10, q_1_5, by decide +kernel⟩
def f_X11_tables (o : Nat) (μ : Mem) : Option (Int32 × Mem) :=
  bnd (f_X11_digits o (0 : Int32) (1 : Int32) (1 : Int32) μ) (fun r2 μ1 => (if r2 = 0 then some ((0 : Int32), μ1) else gA (0 : Int32) (aln (rf o 27)) (lt (sI μ1 o 28 (μ1.1 (rf o 27) (0 : Int32).toNatClampNeg)) (fun μ3 => bnd (f_X11_ones o (5 : Int32) μ3) (fun r5 μ4 => gB r5 (some (r5, μ4)))))))
set_option maxHeartbeats 4000000 in
set_option maxRecDepth 100000 in
theorem w_X11_tables (l : Launch) {o : Nat} (ho : knd o = 9) {μ μ2 : Mem} {r : Int32} {H : Heap} {locs : List Loc} {ls : Array Slot} (hf : f_X11_tables o μ = some (r, μ2)) (hX : XX E p m meth c cX11_tables 1 (some .boolean) s args RX11) (hM : MM E s μ H locs) (hl : lv_has ls 1 [(0, .ref (eA E o))]) : W p l e (rmF 3 68) s m args below meth c H locs 0 0 (MQ below (QC E (some (.int r)) μ2) args s 0 0 (AA E)) (F0 m 0 ls []) := by
  obtain ⟨⟨hx, hb, hml, hown, hts⟩, hXr⟩ := id hX
  unfold f_X11_tables at hf
  refine lv_aload_n hx hb dX11_tables_0 rfl (lv_at hl 0 rfl) ?_
  refine lv_iconst (v := 0) hx hb dX11_tables_1 (by decide) ?_
  refine lv_iconst (v := 1) hx hb dX11_tables_2 (by decide) ?_
  refine lv_iconst (v := 1) hx hb dX11_tables_3 (by decide) ?_
  replace hf := bnd_some hf
  obtain ⟨r2, μ1, h4, hf⟩ := hf
  refine cl_V (As := [.int (0 : Int32), .int (1 : Int32), .int (1 : Int32)]) (rest := []) (st2 := [.int r2]) (n := 3) hX hM (c_X11_digits l ho h4) mv_X11_digits q_27_12 ⟨rfl, rfl⟩ ⟨Nat.le_of_ble_eq_true rfl, Nat.le_of_ble_eq_true rfl⟩ ho (by decide) rfl rfl rfl hl.1 rfl (Nat.le_of_ble_eq_true rfl) dX11_tables_4 rfl (fun H locs hM => ?_)
  refine lv_if_ne (tgt := 12) hx hb dX11_tables_7 (by decide) (fun hc7 => ?_) (fun hc7 => ?_)
  · replace hf := it_f hf hc7
    refine lv_aload_n hx hb dX11_tables_12 rfl (lv_at hl 0 rfl) ?_
    refine lv_aload_n hx hb dX11_tables_13 rfl (lv_at hl 0 rfl) ?_
    refine gf_9_27 hX hM ho q_7_14 dX11_tables_14 ?_
    refine lv_iconst (v := 0) hx hb dX11_tables_17 (by decide) ?_
    replace hf := gA_some hf
    obtain ⟨hi, hf⟩ := hf
    refine ald hX hM (kr_9_27 ho) hi dX11_tables_18 ?_
    refine pf_9_28 hX hM ho q_27_20 dX11_tables_19 (fun μ3 H locs eμ3 hM => ?_)
    replace hf := lt_e eμ3 hf
    refine lv_aload_n hx hb dX11_tables_22 rfl (lv_at hl 0 rfl) ?_
    refine lv_iconst (v := 5) hx hb dX11_tables_23 (by decide) ?_
    replace hf := bnd_some hf
    obtain ⟨r5, μ4, h24, hf⟩ := hf
    refine cl_V (As := [.int (5 : Int32)]) (rest := []) (st2 := [.int r5]) (n := 1) hX hM (c_X11_ones l ho h24) mv_X11_ones q_27_8 ⟨rfl, rfl⟩ ⟨Nat.le_of_ble_eq_true rfl, Nat.le_of_ble_eq_true rfl⟩ ho (by decide) rfl rfl rfl hl.1 rfl (Nat.le_of_ble_eq_true rfl) dX11_tables_24 rfl (fun H locs hM => ?_)
    replace hf := gB_some hf
    obtain ⟨hz, hf⟩ := hf
    exact rt_z hX hM hz (congrArg (fun z => some (Value.int z)) (so_1 hf)) (so_2 hf) dX11_tables_27
  · replace hf := it_t hf hc7
    refine lv_iconst (v := 0) hx hb dX11_tables_10 (by decide) ?_
    exact rt_z hX hM rfl (congrArg (fun z => some (Value.int z)) (so_1 hf)) (so_2 hf) dX11_tables_11
theorem c_X11_tables (l : Launch) {o : Nat} (ho : knd o = 9) {μ μ2 : Mem} {r : Int32} (hf : f_X11_tables o μ = some (r, μ2)) : CT E l yX11_tables cX11_tables 1 (some .boolean) (rmF 3 68) [.ref (eA E o)] μ (some (.int r)) μ2 := CT.of (show plainFor yX11_tables = true by decide +kernel) (Nat.le_of_ble_eq_true rfl) rfl (fun _ _ _ _ _ _ _ _ hX hM hl => w_X11_tables l ho hf hX hM hl)
theorem mv_X11_tables : MV yX11_tables cX11_tables 1 (some .boolean) RX11 0 := ⟨q_27_19, q_27_17, q_27_18, q_1_5, by decide +kernel⟩
def f_X11_losses (o : Nat) (μ : Mem) : Option (Int32 × Mem) :=
  bnd (f_X11_digits o (0 : Int32) (1 : Int32) (2 : Int32) μ) (fun r2 μ1 => (if r2 = 0 then some ((0 : Int32), μ1) else bnd (f_X11_here o μ1) (fun r4 μ3 => (if r4 = (44 : Int32) then lt (sI μ3 o 26 ((μ3.1 o 26) + (1 : Int32))) (fun μ5 => bnd (f_X11_digits o (1 : Int32) (1 : Int32) (2 : Int32) μ5) (fun r7 μ6 => gB r7 (some (r7, μ6)))) else some ((0 : Int32), μ3)))))
set_option maxHeartbeats 4000000 in
set_option maxRecDepth 100000 in
theorem w_X11_losses (l : Launch) {o : Nat} (ho : knd o = 9) {μ μ2 : Mem} {r : Int32} {H : Heap} {locs : List Loc} {ls : Array Slot} (hf : f_X11_losses o μ = some (r, μ2)) (hX : XX E p m meth c cX11_losses 1 (some .boolean) s args RX11) (hM : MM E s μ H locs) (hl : lv_has ls 1 [(0, .ref (eA E o))]) : W p l e (rmF 2 46) s m args below meth c H locs 0 0 (MQ below (QC E (some (.int r)) μ2) args s 0 0 (AA E)) (F0 m 0 ls []) := by
  obtain ⟨⟨hx, hb, hml, hown, hts⟩, hXr⟩ := id hX
  unfold f_X11_losses at hf
  refine lv_aload_n hx hb dX11_losses_0 rfl (lv_at hl 0 rfl) ?_
  refine lv_iconst (v := 0) hx hb dX11_losses_1 (by decide) ?_
  refine lv_iconst (v := 1) hx hb dX11_losses_2 (by decide) ?_
  refine lv_iconst (v := 2) hx hb dX11_losses_3 (by decide) ?_
  replace hf := bnd_some hf
  obtain ⟨r2, μ1, h4, hf⟩ := hf
  refine cl_V (As := [.int (0 : Int32), .int (1 : Int32), .int (2 : Int32)]) (rest := []) (st2 := [.int r2]) (n := 3) hX hM (c_X11_digits l ho h4) mv_X11_digits q_27_12 ⟨rfl, rfl⟩ ⟨Nat.le_of_ble_eq_true rfl, Nat.le_of_ble_eq_true rfl⟩ ho (by decide) rfl rfl rfl hl.1 rfl (Nat.le_of_ble_eq_true rfl) dX11_losses_4 rfl (fun H locs hM => ?_)
  refine lv_if_eq (tgt := 19) hx hb dX11_losses_7 (by decide) (fun hc7 => ?_) (fun hc7 => ?_)
  · replace hf := it_t hf hc7
    refine lv_iconst (v := 0) hx hb dX11_losses_19 (by decide) ?_
    exact rt_z hX hM rfl (congrArg (fun z => some (Value.int z)) (so_1 hf)) (so_2 hf) dX11_losses_20
  · replace hf := it_f hf hc7
    refine lv_aload_n hx hb dX11_losses_10 rfl (lv_at hl 0 rfl) ?_
    replace hf := bnd_some hf
    obtain ⟨r4, μ3, h11, hf⟩ := hf
    refine cl_V (As := []) (rest := []) (st2 := [.int r4]) (n := 0) hX hM (c_X11_here l ho h11) mv_X11_here q_27_4 ⟨rfl, rfl⟩ ⟨Nat.le_of_ble_eq_true rfl, Nat.le_of_ble_eq_true rfl⟩ ho (by decide) rfl rfl rfl hl.1 rfl (Nat.le_of_ble_eq_true rfl) dX11_losses_11 rfl (fun H locs hM => ?_)
    refine lv_bipush (v := 44) hx hb dX11_losses_14 (by decide) ?_
    refine lv_icmp_eq (tgt := 21) hx hb dX11_losses_16 (by decide) (fun hc16 => ?_) (fun hc16 => ?_)
    · replace hf := it_t hf hc16
      refine lv_aload_n hx hb dX11_losses_21 rfl (lv_at hl 0 rfl) ?_
      refine lv_dup hx hb dX11_losses_22 rfl ?_
      refine gf_9_26 hX hM ho q_26_19 dX11_losses_23 ?_
      refine lv_iconst (v := 1) hx hb dX11_losses_26 (by decide) ?_
      refine lv_iadd hx hb dX11_losses_27 ?_
      refine pf_9_26 hX hM ho q_26_19 dX11_losses_28 (fun μ5 H locs eμ5 hM => ?_)
      replace hf := lt_e eμ5 hf
      refine lv_aload_n hx hb dX11_losses_31 rfl (lv_at hl 0 rfl) ?_
      refine lv_iconst (v := 1) hx hb dX11_losses_32 (by decide) ?_
      refine lv_iconst (v := 1) hx hb dX11_losses_33 (by decide) ?_
      refine lv_iconst (v := 2) hx hb dX11_losses_34 (by decide) ?_
      replace hf := bnd_some hf
      obtain ⟨r7, μ6, h35, hf⟩ := hf
      refine cl_V (As := [.int (1 : Int32), .int (1 : Int32), .int (2 : Int32)]) (rest := []) (st2 := [.int r7]) (n := 3) hX hM (c_X11_digits l ho h35) mv_X11_digits q_27_12 ⟨rfl, rfl⟩ ⟨Nat.le_of_ble_eq_true rfl, Nat.le_of_ble_eq_true rfl⟩ ho (by decide) rfl rfl rfl hl.1 rfl (Nat.le_of_ble_eq_true rfl) dX11_losses_35 rfl (fun H locs hM => ?_)
      replace hf := gB_some hf
      obtain ⟨hz, hf⟩ := hf
      exact rt_z hX hM hz (congrArg (fun z => some (Value.int z)) (so_1 hf)) (so_2 hf) dX11_losses_38
    · replace hf := it_f hf hc16
      refine lv_iconst (v := 0) hx hb dX11_losses_19 (by decide) ?_
      exact rt_z hX hM rfl (congrArg (fun z => some (Value.int z)) (so_1 hf)) (so_2 hf) dX11_losses_20
theorem c_X11_losses (l : Launch) {o : Nat} (ho : knd o = 9) {μ μ2 : Mem} {r : Int32} (hf : f_X11_losses o μ = some (r, μ2)) : CT E l yX11_losses cX11_losses 1 (some .boolean) (rmF 2 46) [.ref (eA E o)] μ (some (.int r)) μ2 := CT.of (show plainFor yX11_losses = true by decide +kernel) (Nat.le_of_ble_eq_true rfl) rfl (fun _ _ _ _ _ _ _ _ hX hM hl => w_X11_losses l ho hf hX hM hl)
theorem mv_X11_losses : MV yX11_losses cX11_losses 1 (some .boolean) RX11 0 := ⟨q_28_0, q_27_22, q_27_23, q_1_5, by decide +kernel⟩
def f_X11_clause_b172 (o : Nat)  (x1 : Int32) (x2 : Int32) (μ : Mem) : Option (Int32 × Mem) :=
  (if x2 = 0 then some ((-1 : Int32), μ) else some (x1, μ))
set_option maxHeartbeats 4000000 in
set_option maxRecDepth 100000 in
theorem w_X11_clause_b172 (l : Launch) {o : Nat} (ho : knd o = 9) {μ2 : Mem} {r : Int32}   {x1 : Int32} {x2 : Int32} {μ : Mem} {H : Heap} {locs : List Loc} {ls : Array Slot}  (hf : f_X11_clause_b172 o  x1 x2 μ = some (r, μ2)) (hX : XX E p m meth c cX11_clause 3 (some .int) s args RX11) (hM : MM E s μ H locs) (hl : lv_has ls 3 [(0, .ref (eA E o)), (1, .int x1), (2, .int x2)]) : W p l e (rmF 4 88) s m args below meth c H locs 0 0 (MQ below (QC E (some (.int r)) μ2) args s 0 0 (AA E)) (F0 m 172 ls []) := by
  obtain ⟨⟨hx, hb, hml, hown, hts⟩, hXr⟩ := id hX
  unfold f_X11_clause_b172 at hf
  refine lv_iload_n hx hb dX11_clause_172 rfl (lv_at hl 2 rfl) ?_
  refine lv_if_eq (tgt := 180) hx hb dX11_clause_173 (by decide) (fun hc173 => ?_) (fun hc173 => ?_)
  · replace hf := it_t hf hc173
    refine lv_iconst (v := (-1)) hx hb dX11_clause_180 (by decide) ?_
    exact rt_i hX hM (congrArg (fun z => some (Value.int z)) (so_1 hf)) (so_2 hf) dX11_clause_181
  · replace hf := it_f hf hc173
    refine lv_iload_n hx hb dX11_clause_176 rfl (lv_at hl 1 rfl) ?_
    refine lv_goto (tgt := 181) hx hb dX11_clause_177 (by decide) ?_
    exact rt_i hX hM (congrArg (fun z => some (Value.int z)) (so_1 hf)) (so_2 hf) dX11_clause_181
def f_X11_clause_b148 (o : Nat)  (x1 : Int32) (t0 : Int32) (μ : Mem) : Option (Int32 × Mem) :=
  f_X11_clause_b172 o  x1 t0 μ
set_option maxHeartbeats 4000000 in
set_option maxRecDepth 100000 in
theorem w_X11_clause_b148 (l : Launch) {o : Nat} (ho : knd o = 9) {μ2 : Mem} {r : Int32}   {x1 : Int32} {t0 : Int32} {μ : Mem} {H : Heap} {locs : List Loc} {ls : Array Slot}  (hf : f_X11_clause_b148 o  x1 t0 μ = some (r, μ2)) (hX : XX E p m meth c cX11_clause 3 (some .int) s args RX11) (hM : MM E s μ H locs) (hl : lv_has ls 3 [(0, .ref (eA E o)), (1, .int x1)]) : W p l e (rmF 4 88) s m args below meth c H locs 0 0 (MQ below (QC E (some (.int r)) μ2) args s 0 0 (AA E)) (F0 m 148 ls [.int t0]) := by
  obtain ⟨⟨hx, hb, hml, hown, hts⟩, hXr⟩ := id hX
  unfold f_X11_clause_b148 at hf
  refine lv_istore_n (lv' := [(2, .int t0), (0, .ref (eA E o)), (1, .int x1)]) hx hb dX11_clause_148 rfl hl (by decide) rfl (fun ls hl => ?_)
  refine lv_goto (tgt := 172) hx hb dX11_clause_149 (by decide) ?_
  exact w_X11_clause_b172 l ho   hf hX hM (lv_sub hl [1, 2, 0] rfl)
def f_X11_clause_b147 (o : Nat)  (x1 : Int32) (μ : Mem) : Option (Int32 × Mem) :=
  f_X11_clause_b148 o  x1 (0 : Int32) μ
set_option maxHeartbeats 4000000 in
set_option maxRecDepth 100000 in
theorem w_X11_clause_b147 (l : Launch) {o : Nat} (ho : knd o = 9) {μ2 : Mem} {r : Int32}   {x1 : Int32} {μ : Mem} {H : Heap} {locs : List Loc} {ls : Array Slot}  (hf : f_X11_clause_b147 o  x1 μ = some (r, μ2)) (hX : XX E p m meth c cX11_clause 3 (some .int) s args RX11) (hM : MM E s μ H locs) (hl : lv_has ls 3 [(0, .ref (eA E o)), (1, .int x1)]) : W p l e (rmF 4 88) s m args below meth c H locs 0 0 (MQ below (QC E (some (.int r)) μ2) args s 0 0 (AA E)) (F0 m 147 ls []) := by
  obtain ⟨⟨hx, hb, hml, hown, hts⟩, hXr⟩ := id hX
  unfold f_X11_clause_b147 at hf
  refine lv_iconst (v := 0) hx hb dX11_clause_147 (by decide) ?_
  exact w_X11_clause_b148 l ho   hf hX hM (lv_sub hl [0, 1] rfl)
def f_X11_clause (o : Nat) (μ : Mem) : Option (Int32 × Mem) :=
  bnd (f_X11_here o μ) (fun r2 μ1 => lt (sI μ1 o 26 ((μ1.1 o 26) + (1 : Int32))) (fun μ3 => (if r2 = (98 : Int32) then bnd (f_X11_tables o μ3) (fun r5 μ4 => f_X11_clause_b172 o  r2 r5 μ4) else (if r2 = (99 : Int32) then bnd (f_X11_ones o (3 : Int32) μ3) (fun r7 μ6 => f_X11_clause_b172 o  r2 r7 μ6) else (if r2 = (108 : Int32) then bnd (f_X11_digits o (0 : Int32) (2 : Int32) (2 : Int32) μ3) (fun r9 μ8 => f_X11_clause_b172 o  r2 r9 μ8) else (if r2 = (115 : Int32) then bnd (f_X11_digits o (0 : Int32) (2 : Int32) (2 : Int32) μ3) (fun r11 μ10 => (if r11 = 0 then f_X11_clause_b147 o  r2 μ10 else bnd (f_X11_digits o (1 : Int32) (1 : Int32) (1 : Int32) μ10) (fun r13 μ12 => (if r13 = 0 then f_X11_clause_b147 o  r2 μ12 else bnd (f_X11_digits o (2 : Int32) (1 : Int32) (4 : Int32) μ12) (fun r15 μ14 => (if r15 = 0 then f_X11_clause_b147 o  r2 μ14 else f_X11_clause_b148 o  r2 (1 : Int32) μ14)))))) else (if r2 = (116 : Int32) then bnd (f_X11_losses o μ3) (fun r17 μ16 => f_X11_clause_b172 o  r2 r17 μ16) else (if r2 = (119 : Int32) then bnd (f_X11_ones o (4 : Int32) μ3) (fun r19 μ18 => f_X11_clause_b172 o  r2 r19 μ18) else lt (sI μ3 o 26 ((μ3.1 o 26) - (1 : Int32))) (fun μ20 => f_X11_clause_b172 o  r2 (0 : Int32) μ20)))))))))
set_option maxHeartbeats 4000000 in
set_option maxRecDepth 100000 in
theorem w_X11_clause (l : Launch) {o : Nat} (ho : knd o = 9) {μ μ2 : Mem} {r : Int32} {H : Heap} {locs : List Loc} {ls : Array Slot} (hf : f_X11_clause o μ = some (r, μ2)) (hX : XX E p m meth c cX11_clause 3 (some .int) s args RX11) (hM : MM E s μ H locs) (hl : lv_has ls 3 [(0, .ref (eA E o))]) : W p l e (rmF 4 88) s m args below meth c H locs 0 0 (MQ below (QC E (some (.int r)) μ2) args s 0 0 (AA E)) (F0 m 0 ls []) := by
  obtain ⟨⟨hx, hb, hml, hown, hts⟩, hXr⟩ := id hX
  unfold f_X11_clause at hf
  refine lv_aload_n hx hb dX11_clause_0 rfl (lv_at hl 0 rfl) ?_
  replace hf := bnd_some hf
  obtain ⟨r2, μ1, h1, hf⟩ := hf
  refine cl_V (As := []) (rest := []) (st2 := [.int r2]) (n := 0) hX hM (c_X11_here l ho h1) mv_X11_here q_27_4 ⟨rfl, rfl⟩ ⟨Nat.le_of_ble_eq_true rfl, Nat.le_of_ble_eq_true rfl⟩ ho (by decide) rfl rfl rfl hl.1 rfl (Nat.le_of_ble_eq_true rfl) dX11_clause_1 rfl (fun H locs hM => ?_)
  refine lv_istore_n (lv' := [(1, .int r2), (0, .ref (eA E o))]) hx hb dX11_clause_4 rfl hl (by decide) rfl (fun ls hl => ?_)
  refine lv_aload_n hx hb dX11_clause_5 rfl (lv_at hl 1 rfl) ?_
  refine lv_dup hx hb dX11_clause_6 rfl ?_
  refine gf_9_26 hX hM ho q_26_19 dX11_clause_7 ?_
  refine lv_iconst (v := 1) hx hb dX11_clause_10 (by decide) ?_
  refine lv_iadd hx hb dX11_clause_11 ?_
  refine pf_9_26 hX hM ho q_26_19 dX11_clause_12 (fun μ3 H locs eμ3 hM => ?_)
  replace hf := lt_e eμ3 hf
  refine lv_iload_n hx hb dX11_clause_15 rfl (lv_at hl 0 rfl) ?_
  by_cases hs16_98 : r2 = (98 : Int32)
  · replace hf := it_t hf hs16_98
    refine lv_lookup (off := 78) (tgt := 94) hx hb dX11_clause_16 (by decide) (by rw [hs16_98]; rfl) (by decide) ?_
    refine lv_aload_n hx hb dX11_clause_94 rfl (lv_at hl 1 rfl) ?_
    replace hf := bnd_some hf
    obtain ⟨r5, μ4, h95, hf⟩ := hf
    refine cl_V (As := []) (rest := []) (st2 := [.int r5]) (n := 0) hX hM (c_X11_tables l ho h95) mv_X11_tables q_27_16 ⟨rfl, rfl⟩ ⟨Nat.le_of_ble_eq_true rfl, Nat.le_of_ble_eq_true rfl⟩ ho (by decide) rfl rfl rfl hl.1 rfl (Nat.le_of_ble_eq_true rfl) dX11_clause_95 rfl (fun H locs hM => ?_)
    refine lv_istore_n (lv' := [(2, .int r5), (1, .int r2), (0, .ref (eA E o))]) hx hb dX11_clause_98 rfl hl (by decide) rfl (fun ls hl => ?_)
    refine lv_goto (tgt := 172) hx hb dX11_clause_99 (by decide) ?_
    exact w_X11_clause_b172 l ho   hf hX hM (lv_sub hl [2, 1, 0] rfl)
  · replace hf := it_f hf hs16_98
    by_cases hs16_99 : r2 = (99 : Int32)
    · replace hf := it_t hf hs16_99
      refine lv_lookup (off := 69) (tgt := 85) hx hb dX11_clause_16 (by decide) (by rw [hs16_99]; rfl) (by decide) ?_
      refine lv_aload_n hx hb dX11_clause_85 rfl (lv_at hl 1 rfl) ?_
      refine lv_iconst (v := 3) hx hb dX11_clause_86 (by decide) ?_
      replace hf := bnd_some hf
      obtain ⟨r7, μ6, h87, hf⟩ := hf
      refine cl_V (As := [.int (3 : Int32)]) (rest := []) (st2 := [.int r7]) (n := 1) hX hM (c_X11_ones l ho h87) mv_X11_ones q_27_8 ⟨rfl, rfl⟩ ⟨Nat.le_of_ble_eq_true rfl, Nat.le_of_ble_eq_true rfl⟩ ho (by decide) rfl rfl rfl hl.1 rfl (Nat.le_of_ble_eq_true rfl) dX11_clause_87 rfl (fun H locs hM => ?_)
      refine lv_istore_n (lv' := [(2, .int r7), (1, .int r2), (0, .ref (eA E o))]) hx hb dX11_clause_90 rfl hl (by decide) rfl (fun ls hl => ?_)
      refine lv_goto (tgt := 172) hx hb dX11_clause_91 (by decide) ?_
      exact w_X11_clause_b172 l ho   hf hX hM (lv_sub hl [2, 1, 0] rfl)
    · replace hf := it_f hf hs16_99
      by_cases hs16_108 : r2 = (108 : Int32)
      · replace hf := it_t hf hs16_108
        refine lv_lookup (off := 86) (tgt := 102) hx hb dX11_clause_16 (by decide) (by rw [hs16_108]; rfl) (by decide) ?_
        refine lv_aload_n hx hb dX11_clause_102 rfl (lv_at hl 1 rfl) ?_
        refine lv_iconst (v := 0) hx hb dX11_clause_103 (by decide) ?_
        refine lv_iconst (v := 2) hx hb dX11_clause_104 (by decide) ?_
        refine lv_iconst (v := 2) hx hb dX11_clause_105 (by decide) ?_
        replace hf := bnd_some hf
        obtain ⟨r9, μ8, h106, hf⟩ := hf
        refine cl_V (As := [.int (0 : Int32), .int (2 : Int32), .int (2 : Int32)]) (rest := []) (st2 := [.int r9]) (n := 3) hX hM (c_X11_digits l ho h106) mv_X11_digits q_27_12 ⟨rfl, rfl⟩ ⟨Nat.le_of_ble_eq_true rfl, Nat.le_of_ble_eq_true rfl⟩ ho (by decide) rfl rfl rfl hl.1 rfl (Nat.le_of_ble_eq_true rfl) dX11_clause_106 rfl (fun H locs hM => ?_)
        refine lv_istore_n (lv' := [(2, .int r9), (1, .int r2), (0, .ref (eA E o))]) hx hb dX11_clause_109 rfl hl (by decide) rfl (fun ls hl => ?_)
        refine lv_goto (tgt := 172) hx hb dX11_clause_110 (by decide) ?_
        exact w_X11_clause_b172 l ho   hf hX hM (lv_sub hl [2, 1, 0] rfl)
      · replace hf := it_f hf hs16_108
        by_cases hs16_115 : r2 = (115 : Int32)
        · replace hf := it_t hf hs16_115
          refine lv_lookup (off := 97) (tgt := 113) hx hb dX11_clause_16 (by decide) (by rw [hs16_115]; rfl) (by decide) ?_
          refine lv_aload_n hx hb dX11_clause_113 rfl (lv_at hl 1 rfl) ?_
          refine lv_iconst (v := 0) hx hb dX11_clause_114 (by decide) ?_
          refine lv_iconst (v := 2) hx hb dX11_clause_115 (by decide) ?_
          refine lv_iconst (v := 2) hx hb dX11_clause_116 (by decide) ?_
          replace hf := bnd_some hf
          obtain ⟨r11, μ10, h117, hf⟩ := hf
          refine cl_V (As := [.int (0 : Int32), .int (2 : Int32), .int (2 : Int32)]) (rest := []) (st2 := [.int r11]) (n := 3) hX hM (c_X11_digits l ho h117) mv_X11_digits q_27_12 ⟨rfl, rfl⟩ ⟨Nat.le_of_ble_eq_true rfl, Nat.le_of_ble_eq_true rfl⟩ ho (by decide) rfl rfl rfl hl.1 rfl (Nat.le_of_ble_eq_true rfl) dX11_clause_117 rfl (fun H locs hM => ?_)
          refine lv_if_eq (tgt := 147) hx hb dX11_clause_120 (by decide) (fun hc120 => ?_) (fun hc120 => ?_)
          · replace hf := it_t hf hc120
            exact w_X11_clause_b147 l ho   hf hX hM (lv_sub hl [1, 0] rfl)
          · replace hf := it_f hf hc120
            refine lv_aload_n hx hb dX11_clause_123 rfl (lv_at hl 1 rfl) ?_
            refine lv_iconst (v := 1) hx hb dX11_clause_124 (by decide) ?_
            refine lv_iconst (v := 1) hx hb dX11_clause_125 (by decide) ?_
            refine lv_iconst (v := 1) hx hb dX11_clause_126 (by decide) ?_
            replace hf := bnd_some hf
            obtain ⟨r13, μ12, h127, hf⟩ := hf
            refine cl_V (As := [.int (1 : Int32), .int (1 : Int32), .int (1 : Int32)]) (rest := []) (st2 := [.int r13]) (n := 3) hX hM (c_X11_digits l ho h127) mv_X11_digits q_27_12 ⟨rfl, rfl⟩ ⟨Nat.le_of_ble_eq_true rfl, Nat.le_of_ble_eq_true rfl⟩ ho (by decide) rfl rfl rfl hl.1 rfl (Nat.le_of_ble_eq_true rfl) dX11_clause_127 rfl (fun H locs hM => ?_)
            refine lv_if_eq (tgt := 147) hx hb dX11_clause_130 (by decide) (fun hc130 => ?_) (fun hc130 => ?_)
            · replace hf := it_t hf hc130
              exact w_X11_clause_b147 l ho   hf hX hM (lv_sub hl [1, 0] rfl)
            · replace hf := it_f hf hc130
              refine lv_aload_n hx hb dX11_clause_133 rfl (lv_at hl 1 rfl) ?_
              refine lv_iconst (v := 2) hx hb dX11_clause_134 (by decide) ?_
              refine lv_iconst (v := 1) hx hb dX11_clause_135 (by decide) ?_
              refine lv_iconst (v := 4) hx hb dX11_clause_136 (by decide) ?_
              replace hf := bnd_some hf
              obtain ⟨r15, μ14, h137, hf⟩ := hf
              refine cl_V (As := [.int (2 : Int32), .int (1 : Int32), .int (4 : Int32)]) (rest := []) (st2 := [.int r15]) (n := 3) hX hM (c_X11_digits l ho h137) mv_X11_digits q_27_12 ⟨rfl, rfl⟩ ⟨Nat.le_of_ble_eq_true rfl, Nat.le_of_ble_eq_true rfl⟩ ho (by decide) rfl rfl rfl hl.1 rfl (Nat.le_of_ble_eq_true rfl) dX11_clause_137 rfl (fun H locs hM => ?_)
              refine lv_if_eq (tgt := 147) hx hb dX11_clause_140 (by decide) (fun hc140 => ?_) (fun hc140 => ?_)
              · replace hf := it_t hf hc140
                exact w_X11_clause_b147 l ho   hf hX hM (lv_sub hl [1, 0] rfl)
              · replace hf := it_f hf hc140
                refine lv_iconst (v := 1) hx hb dX11_clause_143 (by decide) ?_
                refine lv_goto (tgt := 148) hx hb dX11_clause_144 (by decide) ?_
                exact w_X11_clause_b148 l ho   hf hX hM (lv_sub hl [1, 0] rfl)
        · replace hf := it_f hf hs16_115
          by_cases hs16_116 : r2 = (116 : Int32)
          · replace hf := it_t hf hs16_116
            refine lv_lookup (off := 136) (tgt := 152) hx hb dX11_clause_16 (by decide) (by rw [hs16_116]; rfl) (by decide) ?_
            refine lv_aload_n hx hb dX11_clause_152 rfl (lv_at hl 1 rfl) ?_
            replace hf := bnd_some hf
            obtain ⟨r17, μ16, h153, hf⟩ := hf
            refine cl_V (As := []) (rest := []) (st2 := [.int r17]) (n := 0) hX hM (c_X11_losses l ho h153) mv_X11_losses q_27_21 ⟨rfl, rfl⟩ ⟨Nat.le_of_ble_eq_true rfl, Nat.le_of_ble_eq_true rfl⟩ ho (by decide) rfl rfl rfl hl.1 rfl (Nat.le_of_ble_eq_true rfl) dX11_clause_153 rfl (fun H locs hM => ?_)
            refine lv_istore_n (lv' := [(2, .int r17), (1, .int r2), (0, .ref (eA E o))]) hx hb dX11_clause_156 rfl hl (by decide) rfl (fun ls hl => ?_)
            refine lv_goto (tgt := 172) hx hb dX11_clause_157 (by decide) ?_
            exact w_X11_clause_b172 l ho   hf hX hM (lv_sub hl [2, 1, 0] rfl)
          · replace hf := it_f hf hs16_116
            by_cases hs16_119 : r2 = (119 : Int32)
            · replace hf := it_t hf hs16_119
              refine lv_lookup (off := 60) (tgt := 76) hx hb dX11_clause_16 (by decide) (by rw [hs16_119]; rfl) (by decide) ?_
              refine lv_aload_n hx hb dX11_clause_76 rfl (lv_at hl 1 rfl) ?_
              refine lv_iconst (v := 4) hx hb dX11_clause_77 (by decide) ?_
              replace hf := bnd_some hf
              obtain ⟨r19, μ18, h78, hf⟩ := hf
              refine cl_V (As := [.int (4 : Int32)]) (rest := []) (st2 := [.int r19]) (n := 1) hX hM (c_X11_ones l ho h78) mv_X11_ones q_27_8 ⟨rfl, rfl⟩ ⟨Nat.le_of_ble_eq_true rfl, Nat.le_of_ble_eq_true rfl⟩ ho (by decide) rfl rfl rfl hl.1 rfl (Nat.le_of_ble_eq_true rfl) dX11_clause_78 rfl (fun H locs hM => ?_)
              refine lv_istore_n (lv' := [(2, .int r19), (1, .int r2), (0, .ref (eA E o))]) hx hb dX11_clause_81 rfl hl (by decide) rfl (fun ls hl => ?_)
              refine lv_goto (tgt := 172) hx hb dX11_clause_82 (by decide) ?_
              exact w_X11_clause_b172 l ho   hf hX hM (lv_sub hl [2, 1, 0] rfl)
            · replace hf := it_f hf hs16_119
              refine lv_lookup (off := 144) (tgt := 160) hx hb dX11_clause_16 (by decide) ((lv_osw hs16_98 rfl).trans ((lv_osw hs16_99 rfl).trans ((lv_osw hs16_108 rfl).trans ((lv_osw hs16_115 rfl).trans ((lv_osw hs16_116 rfl).trans ((lv_osw hs16_119 rfl).trans rfl)))))) (by decide) ?_
              refine lv_aload_n hx hb dX11_clause_160 rfl (lv_at hl 1 rfl) ?_
              refine lv_dup hx hb dX11_clause_161 rfl ?_
              refine gf_9_26 hX hM ho q_26_19 dX11_clause_162 ?_
              refine lv_iconst (v := 1) hx hb dX11_clause_165 (by decide) ?_
              refine lv_isub hx hb dX11_clause_166 ?_
              refine pf_9_26 hX hM ho q_26_19 dX11_clause_167 (fun μ20 H locs eμ20 hM => ?_)
              replace hf := lt_e eμ20 hf
              refine lv_iconst (v := 0) hx hb dX11_clause_170 (by decide) ?_
              refine lv_istore_n (lv' := [(2, .int (0 : Int32)), (1, .int r2), (0, .ref (eA E o))]) hx hb dX11_clause_171 rfl hl (by decide) rfl (fun ls hl => ?_)
              exact w_X11_clause_b172 l ho   hf hX hM (lv_sub hl [2, 1, 0] rfl)
theorem c_X11_clause (l : Launch) {o : Nat} (ho : knd o = 9) {μ μ2 : Mem} {r : Int32} (hf : f_X11_clause o μ = some (r, μ2)) : CT E l yX11_clause cX11_clause 3 (some .int) (rmF 4 88) [.ref (eA E o)] μ (some (.int r)) μ2 := CT.of (show plainFor yX11_clause = true by decide +kernel) (Nat.le_of_ble_eq_true rfl) rfl (fun _ _ _ _ _ _ _ _ hX hM hl => w_X11_clause l ho hf hX hM hl)
theorem mv_X11_clause : MV yX11_clause cX11_clause 3 (some .int) RX11 0 := ⟨q_27_3, q_27_1, q_27_2, q_1_5, by decide +kernel⟩
def f_X11_isTabled_b16 (o : Nat)  : Nat → Int32 → Mem → Option (Int32 × Mem)
  | 0, _, _ => none
  | n + 1, x1, μ =>
    (if (5 : Int32) ≤ x1 then some ((1 : Int32), μ) else gA x1 (aln (rf o 27)) (gA (((5 : Int32) * (μ.1 o 28)) + x1) (aln (rf o 3)) (lt (sI μ (rf o 3) (((5 : Int32) * (μ.1 o 28)) + x1).toNatClampNeg (μ.1 (rf o 27) x1.toNatClampNeg)) (fun μ3 => lt (x1 + (1 : Int32)) (fun v4 => (f_X11_isTabled_b16 o  n) v4 μ3)))))
set_option maxHeartbeats 4000000 in
set_option maxRecDepth 100000 in
theorem w_X11_isTabled_b16 (l : Launch) {o : Nat} (ho : knd o = 9) {μ2 : Mem} {r : Int32}  (hX : XX E p m meth c cX11_isTabled 2 (some .boolean) s args RX11)  : ∀ (n : Nat) (x1 : Int32) (μ : Mem), f_X11_isTabled_b16 o  n x1 μ = some (r, μ2) → ∀ (H : Heap) (locs : List Loc), MM E s μ H locs → ∀ ls : Array Slot, lv_has ls 2 [(0, .ref (eA E o)), (1, .int x1)] → W p l e (rmF 1 22) s m args below meth c H locs 0 0 (MQ below (QC E (some (.int r)) μ2) args s 0 0 (AA E)) (F0 m 16 ls []) := by
  obtain ⟨⟨hx, hb, hml, hown, hts⟩, hXr⟩ := id hX
  intro n
  induction n with
  | zero => intro x1 μ  hf; exact no_none hf
  | succ n ih =>
    intro x1 μ  hf H locs hM ls hl
    rw [f_X11_isTabled_b16] at hf
    have hK16 := ih
    clear ih
    refine lv_iload_n hx hb dX11_isTabled_16 rfl (lv_at hl 1 rfl) ?_
    refine lv_iconst (v := 5) hx hb dX11_isTabled_17 (by decide) ?_
    refine lv_icmp_ge (tgt := 46) hx hb dX11_isTabled_18 (by decide) (fun hc18 => ?_) (fun hc18 => ?_)
    · replace hf := it_t hf hc18
      refine lv_iconst (v := 1) hx hb dX11_isTabled_46 (by decide) ?_
      exact rt_z hX hM rfl (congrArg (fun z => some (Value.int z)) (so_1 hf)) (so_2 hf) dX11_isTabled_47
    · replace hf := it_f hf hc18
      refine lv_aload_n hx hb dX11_isTabled_21 rfl (lv_at hl 0 rfl) ?_
      refine gf_9_3 hX hM ho q_7_0 dX11_isTabled_22 ?_
      refine lv_iconst (v := 5) hx hb dX11_isTabled_25 (by decide) ?_
      refine lv_aload_n hx hb dX11_isTabled_26 rfl (lv_at hl 0 rfl) ?_
      refine gf_9_28 hX hM ho q_27_20 dX11_isTabled_27 ?_
      refine lv_imul hx hb dX11_isTabled_30 ?_
      refine lv_iload_n hx hb dX11_isTabled_31 rfl (lv_at hl 1 rfl) ?_
      refine lv_iadd hx hb dX11_isTabled_32 ?_
      refine lv_aload_n hx hb dX11_isTabled_33 rfl (lv_at hl 0 rfl) ?_
      refine gf_9_27 hX hM ho q_7_14 dX11_isTabled_34 ?_
      refine lv_iload_n hx hb dX11_isTabled_37 rfl (lv_at hl 1 rfl) ?_
      replace hf := gA_some hf
      obtain ⟨hi, hf⟩ := hf
      refine ald hX hM (kr_9_27 ho) hi dX11_isTabled_38 ?_
      replace hf := gA_some hf
      obtain ⟨hi, hf⟩ := hf
      refine ast hX hM (kr_9_3 ho) hi dX11_isTabled_39 (fun μ3 H locs eμ3 hM => ?_)
      replace hf := lt_e eμ3 hf
      obtain ⟨v4, ev4⟩ : ∃ y : Int32, y = x1 + (1 : Int32) := ⟨_, rfl⟩
      replace hf := lt_e ev4 hf
      refine lv_iinc (v := v4) (lv' := [(1, .int v4), (0, .ref (eA E o))]) hx hb dX11_isTabled_40 hl (k := 1) rfl (by rw [ev4]; rfl) (by decide) rfl (fun ls hl => ?_)
      refine lv_goto (tgt := 16) hx hb dX11_isTabled_43 (by decide) ?_
      exact hK16 _ _  hf _ _ hM _ (lv_sub hl [1, 0] rfl)
def f_X11_isTabled (o : Nat) (μ : Mem) : Option (Int32 × Mem) :=
  bnd (f_X11_in (μ.1 o 28) (1 : Int32) (3 : Int32) μ) (fun r2 μ1 => (if r2 = 0 then some ((0 : Int32), μ1) else f_X11_isTabled_b16 o  FU (0 : Int32) μ1))
set_option maxHeartbeats 4000000 in
set_option maxRecDepth 100000 in
theorem w_X11_isTabled (l : Launch) {o : Nat} (ho : knd o = 9) {μ μ2 : Mem} {r : Int32} {H : Heap} {locs : List Loc} {ls : Array Slot} (hf : f_X11_isTabled o μ = some (r, μ2)) (hX : XX E p m meth c cX11_isTabled 2 (some .boolean) s args RX11) (hM : MM E s μ H locs) (hl : lv_has ls 2 [(0, .ref (eA E o))]) : W p l e (rmF 1 22) s m args below meth c H locs 0 0 (MQ below (QC E (some (.int r)) μ2) args s 0 0 (AA E)) (F0 m 0 ls []) := by
  obtain ⟨⟨hx, hb, hml, hown, hts⟩, hXr⟩ := id hX
  unfold f_X11_isTabled at hf
  refine lv_aload_n hx hb dX11_isTabled_0 rfl (lv_at hl 0 rfl) ?_
  refine gf_9_28 hX hM ho q_27_20 dX11_isTabled_1 ?_
  refine lv_iconst (v := 1) hx hb dX11_isTabled_4 (by decide) ?_
  refine lv_iconst (v := 3) hx hb dX11_isTabled_5 (by decide) ?_
  replace hf := bnd_some hf
  obtain ⟨r2, μ1, h6, hf⟩ := hf
  refine cl_S (As := [.int (μ.1 o 28), .int (1 : Int32), .int (3 : Int32)]) (rest := []) (st2 := [.int r2]) (n := 3) hX hM (c_X11_in l  h6) mt_X11_in q_8_23 ⟨rfl, rfl⟩ ⟨Nat.le_of_ble_eq_true rfl, Nat.le_of_ble_eq_true rfl⟩ rfl hl.1 rfl (Nat.le_of_ble_eq_true rfl) dX11_isTabled_6 rfl (fun H locs hM => ?_)
  refine lv_if_ne (tgt := 14) hx hb dX11_isTabled_9 (by decide) (fun hc9 => ?_) (fun hc9 => ?_)
  · replace hf := it_f hf hc9
    refine lv_iconst (v := 0) hx hb dX11_isTabled_14 (by decide) ?_
    refine lv_istore_n (lv' := [(1, .int (0 : Int32)), (0, .ref (eA E o))]) hx hb dX11_isTabled_15 rfl hl (by decide) rfl (fun ls hl => ?_)
    exact w_X11_isTabled_b16 l ho hX  FU _ _  hf _ _ hM _ (lv_sub hl [1, 0] rfl)
  · replace hf := it_t hf hc9
    refine lv_iconst (v := 0) hx hb dX11_isTabled_12 (by decide) ?_
    exact rt_z hX hM rfl (congrArg (fun z => some (Value.int z)) (so_1 hf)) (so_2 hf) dX11_isTabled_13
theorem c_X11_isTabled (l : Launch) {o : Nat} (ho : knd o = 9) {μ μ2 : Mem} {r : Int32} (hf : f_X11_isTabled o μ = some (r, μ2)) : CT E l yX11_isTabled cX11_isTabled 2 (some .boolean) (rmF 1 22) [.ref (eA E o)] μ (some (.int r)) μ2 := CT.of (show plainFor yX11_isTabled = true by decide +kernel) (Nat.le_of_ble_eq_true rfl) rfl (fun _ _ _ _ _ _ _ _ hX hM hl => w_X11_isTabled l ho hf hX hM hl)
theorem mv_X11_isTabled : MV yX11_isTabled cX11_isTabled 2 (some .boolean) RX11 0 := ⟨q_28_10, q_28_8, q_28_9, q_1_5, by decide +kernel⟩
def f_X11_isBegun (o : Nat) (μ : Mem) : Option (Int32 × Mem) :=
  gA (0 : Int32) (aln (rf o 27)) (gA (1 : Int32) (aln (rf o 27)) (gA (2 : Int32) (aln (rf o 27)) (bnd (f_X11_notStart o (μ.1 (rf o 27) (0 : Int32).toNatClampNeg) (μ.1 (rf o 27) (1 : Int32).toNatClampNeg) (μ.1 (rf o 27) (2 : Int32).toNatClampNeg) μ) (fun r2 μ1 => (if (0 : Int32) ≤ r2 then gA (0 : Int32) (aln (rf o 27)) (gA (1 : Int32) (aln (rf o 27)) (gA (2 : Int32) (aln (rf o 27)) (bnv (f_X11_begins o (μ1.1 (rf o 27) (0 : Int32).toNatClampNeg) (μ1.1 (rf o 27) (1 : Int32).toNatClampNeg) (μ1.1 (rf o 27) (2 : Int32).toNatClampNeg) μ1) (fun μ3 => some ((1 : Int32), μ3))))) else some ((0 : Int32), μ1))))))
set_option maxHeartbeats 4000000 in
set_option maxRecDepth 100000 in
theorem w_X11_isBegun (l : Launch) {o : Nat} (ho : knd o = 9) {μ μ2 : Mem} {r : Int32} {H : Heap} {locs : List Loc} {ls : Array Slot} (hf : f_X11_isBegun o μ = some (r, μ2)) (hX : XX E p m meth c cX11_isBegun 1 (some .boolean) s args RX11) (hM : MM E s μ H locs) (hl : lv_has ls 1 [(0, .ref (eA E o))]) : W p l e (rmF 3 65) s m args below meth c H locs 0 0 (MQ below (QC E (some (.int r)) μ2) args s 0 0 (AA E)) (F0 m 0 ls []) := by
  obtain ⟨⟨hx, hb, hml, hown, hts⟩, hXr⟩ := id hX
  unfold f_X11_isBegun at hf
  refine lv_aload_n hx hb dX11_isBegun_0 rfl (lv_at hl 0 rfl) ?_
  refine lv_aload_n hx hb dX11_isBegun_1 rfl (lv_at hl 0 rfl) ?_
  refine gf_9_27 hX hM ho q_7_14 dX11_isBegun_2 ?_
  refine lv_iconst (v := 0) hx hb dX11_isBegun_5 (by decide) ?_
  replace hf := gA_some hf
  obtain ⟨hi, hf⟩ := hf
  refine ald hX hM (kr_9_27 ho) hi dX11_isBegun_6 ?_
  refine lv_aload_n hx hb dX11_isBegun_7 rfl (lv_at hl 0 rfl) ?_
  refine gf_9_27 hX hM ho q_7_14 dX11_isBegun_8 ?_
  refine lv_iconst (v := 1) hx hb dX11_isBegun_11 (by decide) ?_
  replace hf := gA_some hf
  obtain ⟨hi, hf⟩ := hf
  refine ald hX hM (kr_9_27 ho) hi dX11_isBegun_12 ?_
  refine lv_aload_n hx hb dX11_isBegun_13 rfl (lv_at hl 0 rfl) ?_
  refine gf_9_27 hX hM ho q_7_14 dX11_isBegun_14 ?_
  refine lv_iconst (v := 2) hx hb dX11_isBegun_17 (by decide) ?_
  replace hf := gA_some hf
  obtain ⟨hi, hf⟩ := hf
  refine ald hX hM (kr_9_27 ho) hi dX11_isBegun_18 ?_
  replace hf := bnd_some hf
  obtain ⟨r2, μ1, h19, hf⟩ := hf
  refine cl_V (As := [.int (μ.1 (rf o 27) (0 : Int32).toNatClampNeg), .int (μ.1 (rf o 27) (1 : Int32).toNatClampNeg), .int (μ.1 (rf o 27) (2 : Int32).toNatClampNeg)]) (rest := []) (st2 := [.int r2]) (n := 3) hX hM (c_X11_notStart l ho h19) mv_X11_notStart q_17_10 ⟨rfl, rfl⟩ ⟨Nat.le_of_ble_eq_true rfl, Nat.le_of_ble_eq_true rfl⟩ ho (by decide) rfl rfl rfl hl.1 rfl (Nat.le_of_ble_eq_true rfl) dX11_isBegun_19 rfl (fun H locs hM => ?_)
  refine lv_if_ge (tgt := 27) hx hb dX11_isBegun_22 (by decide) (fun hc22 => ?_) (fun hc22 => ?_)
  · replace hf := it_t hf hc22
    refine lv_aload_n hx hb dX11_isBegun_27 rfl (lv_at hl 0 rfl) ?_
    refine lv_aload_n hx hb dX11_isBegun_28 rfl (lv_at hl 0 rfl) ?_
    refine gf_9_27 hX hM ho q_7_14 dX11_isBegun_29 ?_
    refine lv_iconst (v := 0) hx hb dX11_isBegun_32 (by decide) ?_
    replace hf := gA_some hf
    obtain ⟨hi, hf⟩ := hf
    refine ald hX hM (kr_9_27 ho) hi dX11_isBegun_33 ?_
    refine lv_aload_n hx hb dX11_isBegun_34 rfl (lv_at hl 0 rfl) ?_
    refine gf_9_27 hX hM ho q_7_14 dX11_isBegun_35 ?_
    refine lv_iconst (v := 1) hx hb dX11_isBegun_38 (by decide) ?_
    replace hf := gA_some hf
    obtain ⟨hi, hf⟩ := hf
    refine ald hX hM (kr_9_27 ho) hi dX11_isBegun_39 ?_
    refine lv_aload_n hx hb dX11_isBegun_40 rfl (lv_at hl 0 rfl) ?_
    refine gf_9_27 hX hM ho q_7_14 dX11_isBegun_41 ?_
    refine lv_iconst (v := 2) hx hb dX11_isBegun_44 (by decide) ?_
    replace hf := gA_some hf
    obtain ⟨hi, hf⟩ := hf
    refine ald hX hM (kr_9_27 ho) hi dX11_isBegun_45 ?_
    replace hf := bnv_some hf
    obtain ⟨μ3, h46, hf⟩ := hf
    refine cl_V (As := [.int (μ1.1 (rf o 27) (0 : Int32).toNatClampNeg), .int (μ1.1 (rf o 27) (1 : Int32).toNatClampNeg), .int (μ1.1 (rf o 27) (2 : Int32).toNatClampNeg)]) (rest := []) (st2 := []) (n := 3) hX hM (c_X11_begins l ho h46) mv_X11_begins q_17_17 ⟨rfl, rfl⟩ ⟨Nat.le_of_ble_eq_true rfl, Nat.le_of_ble_eq_true rfl⟩ ho (by decide) rfl rfl rfl hl.1 rfl (Nat.le_of_ble_eq_true rfl) dX11_isBegun_46 rfl (fun H locs hM => ?_)
    refine lv_iconst (v := 1) hx hb dX11_isBegun_49 (by decide) ?_
    exact rt_z hX hM rfl (congrArg (fun z => some (Value.int z)) (so_1 hf)) (so_2 hf) dX11_isBegun_50
  · replace hf := it_f hf hc22
    refine lv_iconst (v := 0) hx hb dX11_isBegun_25 (by decide) ?_
    exact rt_z hX hM rfl (congrArg (fun z => some (Value.int z)) (so_1 hf)) (so_2 hf) dX11_isBegun_26
theorem c_X11_isBegun (l : Launch) {o : Nat} (ho : knd o = 9) {μ μ2 : Mem} {r : Int32} (hf : f_X11_isBegun o μ = some (r, μ2)) : CT E l yX11_isBegun cX11_isBegun 1 (some .boolean) (rmF 3 65) [.ref (eA E o)] μ (some (.int r)) μ2 := CT.of (show plainFor yX11_isBegun = true by decide +kernel) (Nat.le_of_ble_eq_true rfl) rfl (fun _ _ _ _ _ _ _ _ hX hM hl => w_X11_isBegun l ho hf hX hM hl)
theorem mv_X11_isBegun : MV yX11_isBegun cX11_isBegun 1 (some .boolean) RX11 0 := ⟨q_28_15, q_28_13, q_28_14, q_1_5, by decide +kernel⟩
def f_X11_isLost (o : Nat) (μ : Mem) : Option (Int32 × Mem) :=
  gA (0 : Int32) (aln (rf o 27)) ((if (60 : Int32) < (μ.1 (rf o 27) (0 : Int32).toNatClampNeg) then some ((0 : Int32), μ) else gA (1 : Int32) (aln (rf o 27)) ((if (μ.1 (rf o 27) (1 : Int32).toNatClampNeg) ≤ (60 : Int32) then gA (0 : Int32) (aln (rf o 27)) (gA (0 : Int32) (aln (rf o 6)) (lt (sI μ (rf o 6) (0 : Int32).toNatClampNeg (μ.1 (rf o 27) (0 : Int32).toNatClampNeg)) (fun μ1 => gA (1 : Int32) (aln (rf o 27)) (gA (1 : Int32) (aln (rf o 6)) (lt (sI μ1 (rf o 6) (1 : Int32).toNatClampNeg (μ1.1 (rf o 27) (1 : Int32).toNatClampNeg)) (fun μ2 => some ((1 : Int32), μ2))))))) else some ((0 : Int32), μ)))))
set_option maxHeartbeats 4000000 in
set_option maxRecDepth 100000 in
theorem w_X11_isLost (l : Launch) {o : Nat} (ho : knd o = 9) {μ μ2 : Mem} {r : Int32} {H : Heap} {locs : List Loc} {ls : Array Slot} (hf : f_X11_isLost o μ = some (r, μ2)) (hX : XX E p m meth c cX11_isLost 1 (some .boolean) s args RX11) (hM : MM E s μ H locs) (hl : lv_has ls 1 [(0, .ref (eA E o))]) : W p l e (rmF 0 0) s m args below meth c H locs 0 0 (MQ below (QC E (some (.int r)) μ2) args s 0 0 (AA E)) (F0 m 0 ls []) := by
  obtain ⟨⟨hx, hb, hml, hown, hts⟩, hXr⟩ := id hX
  unfold f_X11_isLost at hf
  refine lv_aload_n hx hb dX11_isLost_0 rfl (lv_at hl 0 rfl) ?_
  refine gf_9_27 hX hM ho q_7_14 dX11_isLost_1 ?_
  refine lv_iconst (v := 0) hx hb dX11_isLost_4 (by decide) ?_
  replace hf := gA_some hf
  obtain ⟨hi, hf⟩ := hf
  refine ald hX hM (kr_9_27 ho) hi dX11_isLost_5 ?_
  refine lv_bipush (v := 60) hx hb dX11_isLost_6 (by decide) ?_
  refine lv_icmp_gt (tgt := 22) hx hb dX11_isLost_8 (by decide) (fun hc8 => ?_) (fun hc8 => ?_)
  · replace hf := it_t hf hc8
    refine lv_iconst (v := 0) hx hb dX11_isLost_22 (by decide) ?_
    exact rt_z hX hM rfl (congrArg (fun z => some (Value.int z)) (so_1 hf)) (so_2 hf) dX11_isLost_23
  · replace hf := it_f hf hc8
    refine lv_aload_n hx hb dX11_isLost_11 rfl (lv_at hl 0 rfl) ?_
    refine gf_9_27 hX hM ho q_7_14 dX11_isLost_12 ?_
    refine lv_iconst (v := 1) hx hb dX11_isLost_15 (by decide) ?_
    replace hf := gA_some hf
    obtain ⟨hi, hf⟩ := hf
    refine ald hX hM (kr_9_27 ho) hi dX11_isLost_16 ?_
    refine lv_bipush (v := 60) hx hb dX11_isLost_17 (by decide) ?_
    refine lv_icmp_le (tgt := 24) hx hb dX11_isLost_19 (by decide) (fun hc19 => ?_) (fun hc19 => ?_)
    · replace hf := it_t hf hc19
      refine lv_aload_n hx hb dX11_isLost_24 rfl (lv_at hl 0 rfl) ?_
      refine gf_9_6 hX hM ho q_7_3 dX11_isLost_25 ?_
      refine lv_iconst (v := 0) hx hb dX11_isLost_28 (by decide) ?_
      refine lv_aload_n hx hb dX11_isLost_29 rfl (lv_at hl 0 rfl) ?_
      refine gf_9_27 hX hM ho q_7_14 dX11_isLost_30 ?_
      refine lv_iconst (v := 0) hx hb dX11_isLost_33 (by decide) ?_
      replace hf := gA_some hf
      obtain ⟨hi, hf⟩ := hf
      refine ald hX hM (kr_9_27 ho) hi dX11_isLost_34 ?_
      replace hf := gA_some hf
      obtain ⟨hi, hf⟩ := hf
      refine ast hX hM (kr_9_6 ho) hi dX11_isLost_35 (fun μ1 H locs eμ1 hM => ?_)
      replace hf := lt_e eμ1 hf
      refine lv_aload_n hx hb dX11_isLost_36 rfl (lv_at hl 0 rfl) ?_
      refine gf_9_6 hX hM ho q_7_3 dX11_isLost_37 ?_
      refine lv_iconst (v := 1) hx hb dX11_isLost_40 (by decide) ?_
      refine lv_aload_n hx hb dX11_isLost_41 rfl (lv_at hl 0 rfl) ?_
      refine gf_9_27 hX hM ho q_7_14 dX11_isLost_42 ?_
      refine lv_iconst (v := 1) hx hb dX11_isLost_45 (by decide) ?_
      replace hf := gA_some hf
      obtain ⟨hi, hf⟩ := hf
      refine ald hX hM (kr_9_27 ho) hi dX11_isLost_46 ?_
      replace hf := gA_some hf
      obtain ⟨hi, hf⟩ := hf
      refine ast hX hM (kr_9_6 ho) hi dX11_isLost_47 (fun μ2 H locs eμ2 hM => ?_)
      replace hf := lt_e eμ2 hf
      refine lv_iconst (v := 1) hx hb dX11_isLost_48 (by decide) ?_
      exact rt_z hX hM rfl (congrArg (fun z => some (Value.int z)) (so_1 hf)) (so_2 hf) dX11_isLost_49
    · replace hf := it_f hf hc19
      refine lv_iconst (v := 0) hx hb dX11_isLost_22 (by decide) ?_
      exact rt_z hX hM rfl (congrArg (fun z => some (Value.int z)) (so_1 hf)) (so_2 hf) dX11_isLost_23
theorem c_X11_isLost (l : Launch) {o : Nat} (ho : knd o = 9) {μ μ2 : Mem} {r : Int32} (hf : f_X11_isLost o μ = some (r, μ2)) : CT E l yX11_isLost cX11_isLost 1 (some .boolean) (rmF 0 0) [.ref (eA E o)] μ (some (.int r)) μ2 := CT.of (show plainFor yX11_isLost = true by decide +kernel) (Nat.le_of_ble_eq_true rfl) rfl (fun _ _ _ _ _ _ _ _ hX hM hl => w_X11_isLost l ho hf hX hM hl)
theorem mv_X11_isLost : MV yX11_isLost cX11_isLost 1 (some .boolean) RX11 0 := ⟨q_28_19, q_28_17, q_28_18, q_1_5, by decide +kernel⟩
def f_X11_isDone_b163 (o : Nat) (a1 : Int32)  (t0 : Nat) (t1 : Int32) (t2 : Int32) (μ : Mem) : Option (Int32 × Mem) :=
  bnd (f_X11_land t0 t1 t2 μ) (fun r8 μ7 => (if r8 < 0 then some ((0 : Int32), μ7) else some ((1 : Int32), μ7)))
set_option maxHeartbeats 4000000 in
set_option maxRecDepth 100000 in
theorem w_X11_isDone_b163 (l : Launch) {o : Nat} {a1 : Int32} (ho : knd o = 9) {μ2 : Mem} {r : Int32}   {t0 : Nat} {t1 : Int32} {t2 : Int32} {μ : Mem} {H : Heap} {locs : List Loc} {ls : Array Slot} (ht0 : knd t0 = 9) (hf : f_X11_isDone_b163 o a1  t0 t1 t2 μ = some (r, μ2)) (hX : XX E p m meth c cX11_isDone 2 (some .boolean) s args RX11) (hM : MM E s μ H locs) (hl : lv_has ls 2 [(0, .ref (eA E o)), (1, .int a1)]) : W p l e (rmF 4 85) s m args below meth c H locs 0 0 (MQ below (QC E (some (.int r)) μ2) args s 0 0 (AA E)) (F0 m 163 ls [.int t2, .int t1, .ref (eA E t0)]) := by
  obtain ⟨⟨hx, hb, hml, hown, hts⟩, hXr⟩ := id hX
  unfold f_X11_isDone_b163 at hf
  replace hf := bnd_some hf
  obtain ⟨r8, μ7, h163, hf⟩ := hf
  refine cl_V (As := [.int t1, .int t2]) (rest := []) (st2 := [.int r8]) (n := 2) hX hM (c_X11_land l ht0 h163) mv_X11_land q_28_11 ⟨rfl, rfl⟩ ⟨Nat.le_of_ble_eq_true rfl, Nat.le_of_ble_eq_true rfl⟩ ht0 (by decide) rfl rfl rfl hl.1 rfl (Nat.le_of_ble_eq_true rfl) dX11_isDone_163 rfl (fun H locs hM => ?_)
  refine lv_if_lt (tgt := 173) hx hb dX11_isDone_166 (by decide) (fun hc166 => ?_) (fun hc166 => ?_)
  · replace hf := it_t hf hc166
    refine lv_iconst (v := 0) hx hb dX11_isDone_173 (by decide) ?_
    exact rt_z hX hM rfl (congrArg (fun z => some (Value.int z)) (so_1 hf)) (so_2 hf) dX11_isDone_174
  · replace hf := it_f hf hc166
    refine lv_iconst (v := 1) hx hb dX11_isDone_169 (by decide) ?_
    refine lv_goto (tgt := 174) hx hb dX11_isDone_170 (by decide) ?_
    exact rt_z hX hM rfl (congrArg (fun z => some (Value.int z)) (so_1 hf)) (so_2 hf) dX11_isDone_174
def f_X11_isDone (o : Nat) (a1 : Int32) (μ : Mem) : Option (Int32 × Mem) :=
  (if a1 = (98 : Int32) then bnd (f_X11_isTabled o μ) (fun r2 μ1 => gB r2 (some (r2, μ1))) else (if a1 = (99 : Int32) then gA (0 : Int32) (aln (rf o 27)) (gA (1 : Int32) (aln (rf o 27)) (gA (2 : Int32) (aln (rf o 27)) (bnd (f_X11_current o (μ.1 (rf o 27) (0 : Int32).toNatClampNeg) (μ.1 (rf o 27) (1 : Int32).toNatClampNeg) (μ.1 (rf o 27) (2 : Int32).toNatClampNeg) μ) (fun r4 μ3 => (if r4 < 0 then some ((0 : Int32), μ3) else some ((1 : Int32), μ3)))))) else (if a1 = (108 : Int32) then gA (0 : Int32) (aln (rf o 27)) (bnd (f_X11_isSquare (μ.1 (rf o 27) (0 : Int32).toNatClampNeg) μ) (fun r6 μ5 => (if r6 = 0 then some ((0 : Int32), μ5) else gA (0 : Int32) (aln (rf o 27)) (gA (0 : Int32) (aln (rf o 27)) (gA (μ5.1 (rf o 27) (0 : Int32).toNatClampNeg) (aln (rf o 0)) ((if (μ5.1 (rf o 0) (μ5.1 (rf o 27) (0 : Int32).toNatClampNeg).toNatClampNeg) = 0 then f_X11_isDone_b163 o a1  o (μ5.1 (rf o 27) (0 : Int32).toNatClampNeg) (1 : Int32) μ5 else f_X11_isDone_b163 o a1  o (μ5.1 (rf o 27) (0 : Int32).toNatClampNeg) (0 : Int32) μ5))))))) else (if a1 = (115 : Int32) then bnd (f_X11_isBegun o μ) (fun r10 μ9 => gB r10 (some (r10, μ9))) else (if a1 = (119 : Int32) then gA (0 : Int32) (aln (rf o 27)) (gA (1 : Int32) (aln (rf o 27)) (gA (2 : Int32) (aln (rf o 27)) (gA (3 : Int32) (aln (rf o 27)) (bnd (f_X11_wind o (μ.1 (rf o 27) (0 : Int32).toNatClampNeg) (μ.1 (rf o 27) (1 : Int32).toNatClampNeg) (μ.1 (rf o 27) (2 : Int32).toNatClampNeg) (μ.1 (rf o 27) (3 : Int32).toNatClampNeg) μ) (fun r12 μ11 => (if r12 < 0 then some ((0 : Int32), μ11) else some ((1 : Int32), μ11))))))) else bnd (f_X11_isLost o μ) (fun r14 μ13 => gB r14 (some (r14, μ13))))))))
set_option maxHeartbeats 4000000 in
set_option maxRecDepth 100000 in
theorem w_X11_isDone (l : Launch) {o : Nat} {a1 : Int32} (ho : knd o = 9) {μ μ2 : Mem} {r : Int32} {H : Heap} {locs : List Loc} {ls : Array Slot} (hf : f_X11_isDone o a1 μ = some (r, μ2)) (hX : XX E p m meth c cX11_isDone 2 (some .boolean) s args RX11) (hM : MM E s μ H locs) (hl : lv_has ls 2 [(0, .ref (eA E o)), (1, .int a1)]) : W p l e (rmF 4 85) s m args below meth c H locs 0 0 (MQ below (QC E (some (.int r)) μ2) args s 0 0 (AA E)) (F0 m 0 ls []) := by
  obtain ⟨⟨hx, hb, hml, hown, hts⟩, hXr⟩ := id hX
  unfold f_X11_isDone at hf
  refine lv_iload_n hx hb dX11_isDone_0 rfl (lv_at hl 1 rfl) ?_
  by_cases hs1_98 : a1 = (98 : Int32)
  · replace hf := it_t hf hs1_98
    refine lv_lookup (off := 119) (tgt := 120) hx hb dX11_isDone_1 (by decide) (by rw [hs1_98]; rfl) (by decide) ?_
    refine lv_aload_n hx hb dX11_isDone_120 rfl (lv_at hl 0 rfl) ?_
    replace hf := bnd_some hf
    obtain ⟨r2, μ1, h121, hf⟩ := hf
    refine cl_V (As := []) (rest := []) (st2 := [.int r2]) (n := 0) hX hM (c_X11_isTabled l ho h121) mv_X11_isTabled q_28_7 ⟨rfl, rfl⟩ ⟨Nat.le_of_ble_eq_true rfl, Nat.le_of_ble_eq_true rfl⟩ ho (by decide) rfl rfl rfl hl.1 rfl (Nat.le_of_ble_eq_true rfl) dX11_isDone_121 rfl (fun H locs hM => ?_)
    replace hf := gB_some hf
    obtain ⟨hz, hf⟩ := hf
    exact rt_z hX hM hz (congrArg (fun z => some (Value.int z)) (so_1 hf)) (so_2 hf) dX11_isDone_124
  · replace hf := it_f hf hs1_98
    by_cases hs1_99 : a1 = (99 : Int32)
    · replace hf := it_t hf hs1_99
      refine lv_lookup (off := 88) (tgt := 89) hx hb dX11_isDone_1 (by decide) (by rw [hs1_99]; rfl) (by decide) ?_
      refine lv_aload_n hx hb dX11_isDone_89 rfl (lv_at hl 0 rfl) ?_
      refine lv_aload_n hx hb dX11_isDone_90 rfl (lv_at hl 0 rfl) ?_
      refine gf_9_27 hX hM ho q_7_14 dX11_isDone_91 ?_
      refine lv_iconst (v := 0) hx hb dX11_isDone_94 (by decide) ?_
      replace hf := gA_some hf
      obtain ⟨hi, hf⟩ := hf
      refine ald hX hM (kr_9_27 ho) hi dX11_isDone_95 ?_
      refine lv_aload_n hx hb dX11_isDone_96 rfl (lv_at hl 0 rfl) ?_
      refine gf_9_27 hX hM ho q_7_14 dX11_isDone_97 ?_
      refine lv_iconst (v := 1) hx hb dX11_isDone_100 (by decide) ?_
      replace hf := gA_some hf
      obtain ⟨hi, hf⟩ := hf
      refine ald hX hM (kr_9_27 ho) hi dX11_isDone_101 ?_
      refine lv_aload_n hx hb dX11_isDone_102 rfl (lv_at hl 0 rfl) ?_
      refine gf_9_27 hX hM ho q_7_14 dX11_isDone_103 ?_
      refine lv_iconst (v := 2) hx hb dX11_isDone_106 (by decide) ?_
      replace hf := gA_some hf
      obtain ⟨hi, hf⟩ := hf
      refine ald hX hM (kr_9_27 ho) hi dX11_isDone_107 ?_
      replace hf := bnd_some hf
      obtain ⟨r4, μ3, h108, hf⟩ := hf
      refine cl_V (As := [.int (μ.1 (rf o 27) (0 : Int32).toNatClampNeg), .int (μ.1 (rf o 27) (1 : Int32).toNatClampNeg), .int (μ.1 (rf o 27) (2 : Int32).toNatClampNeg)]) (rest := []) (st2 := [.int r4]) (n := 3) hX hM (c_X11_current l ho h108) mv_X11_current q_28_6 ⟨rfl, rfl⟩ ⟨Nat.le_of_ble_eq_true rfl, Nat.le_of_ble_eq_true rfl⟩ ho (by decide) rfl rfl rfl hl.1 rfl (Nat.le_of_ble_eq_true rfl) dX11_isDone_108 rfl (fun H locs hM => ?_)
      refine lv_if_lt (tgt := 118) hx hb dX11_isDone_111 (by decide) (fun hc111 => ?_) (fun hc111 => ?_)
      · replace hf := it_t hf hc111
        refine lv_iconst (v := 0) hx hb dX11_isDone_118 (by decide) ?_
        exact rt_z hX hM rfl (congrArg (fun z => some (Value.int z)) (so_1 hf)) (so_2 hf) dX11_isDone_119
      · replace hf := it_f hf hc111
        refine lv_iconst (v := 1) hx hb dX11_isDone_114 (by decide) ?_
        refine lv_goto (tgt := 119) hx hb dX11_isDone_115 (by decide) ?_
        exact rt_z hX hM rfl (congrArg (fun z => some (Value.int z)) (so_1 hf)) (so_2 hf) dX11_isDone_119
    · replace hf := it_f hf hs1_99
      by_cases hs1_108 : a1 = (108 : Int32)
      · replace hf := it_t hf hs1_108
        refine lv_lookup (off := 124) (tgt := 125) hx hb dX11_isDone_1 (by decide) (by rw [hs1_108]; rfl) (by decide) ?_
        refine lv_aload_n hx hb dX11_isDone_125 rfl (lv_at hl 0 rfl) ?_
        refine gf_9_27 hX hM ho q_7_14 dX11_isDone_126 ?_
        refine lv_iconst (v := 0) hx hb dX11_isDone_129 (by decide) ?_
        replace hf := gA_some hf
        obtain ⟨hi, hf⟩ := hf
        refine ald hX hM (kr_9_27 ho) hi dX11_isDone_130 ?_
        replace hf := bnd_some hf
        obtain ⟨r6, μ5, h131, hf⟩ := hf
        refine cl_S (As := [.int (μ.1 (rf o 27) (0 : Int32).toNatClampNeg)]) (rest := []) (st2 := [.int r6]) (n := 1) hX hM (c_X11_isSquare l  h131) mt_X11_isSquare q_11_21 ⟨rfl, rfl⟩ ⟨Nat.le_of_ble_eq_true rfl, Nat.le_of_ble_eq_true rfl⟩ rfl hl.1 rfl (Nat.le_of_ble_eq_true rfl) dX11_isDone_131 rfl (fun H locs hM => ?_)
        refine lv_if_eq (tgt := 173) hx hb dX11_isDone_134 (by decide) (fun hc134 => ?_) (fun hc134 => ?_)
        · replace hf := it_t hf hc134
          refine lv_iconst (v := 0) hx hb dX11_isDone_173 (by decide) ?_
          exact rt_z hX hM rfl (congrArg (fun z => some (Value.int z)) (so_1 hf)) (so_2 hf) dX11_isDone_174
        · replace hf := it_f hf hc134
          refine lv_aload_n hx hb dX11_isDone_137 rfl (lv_at hl 0 rfl) ?_
          refine lv_aload_n hx hb dX11_isDone_138 rfl (lv_at hl 0 rfl) ?_
          refine gf_9_27 hX hM ho q_7_14 dX11_isDone_139 ?_
          refine lv_iconst (v := 0) hx hb dX11_isDone_142 (by decide) ?_
          replace hf := gA_some hf
          obtain ⟨hi, hf⟩ := hf
          refine ald hX hM (kr_9_27 ho) hi dX11_isDone_143 ?_
          refine lv_aload_n hx hb dX11_isDone_144 rfl (lv_at hl 0 rfl) ?_
          refine gf_9_0 hX hM ho q_6_21 dX11_isDone_145 ?_
          refine lv_aload_n hx hb dX11_isDone_148 rfl (lv_at hl 0 rfl) ?_
          refine gf_9_27 hX hM ho q_7_14 dX11_isDone_149 ?_
          refine lv_iconst (v := 0) hx hb dX11_isDone_152 (by decide) ?_
          replace hf := gA_some hf
          obtain ⟨hi, hf⟩ := hf
          refine ald hX hM (kr_9_27 ho) hi dX11_isDone_153 ?_
          replace hf := gA_some hf
          obtain ⟨hi, hf⟩ := hf
          refine ald hX hM (kr_9_0 ho) hi dX11_isDone_154 ?_
          refine lv_if_ne (tgt := 162) hx hb dX11_isDone_155 (by decide) (fun hc155 => ?_) (fun hc155 => ?_)
          · replace hf := it_f hf hc155
            refine lv_iconst (v := 0) hx hb dX11_isDone_162 (by decide) ?_
            exact w_X11_isDone_b163 l ho  ho hf hX hM (lv_sub hl [0, 1] rfl)
          · replace hf := it_t hf hc155
            refine lv_iconst (v := 1) hx hb dX11_isDone_158 (by decide) ?_
            refine lv_goto (tgt := 163) hx hb dX11_isDone_159 (by decide) ?_
            exact w_X11_isDone_b163 l ho  ho hf hX hM (lv_sub hl [0, 1] rfl)
      · replace hf := it_f hf hs1_108
        by_cases hs1_115 : a1 = (115 : Int32)
        · replace hf := it_t hf hs1_115
          refine lv_lookup (off := 174) (tgt := 175) hx hb dX11_isDone_1 (by decide) (by rw [hs1_115]; rfl) (by decide) ?_
          refine lv_aload_n hx hb dX11_isDone_175 rfl (lv_at hl 0 rfl) ?_
          replace hf := bnd_some hf
          obtain ⟨r10, μ9, h176, hf⟩ := hf
          refine cl_V (As := []) (rest := []) (st2 := [.int r10]) (n := 0) hX hM (c_X11_isBegun l ho h176) mv_X11_isBegun q_28_12 ⟨rfl, rfl⟩ ⟨Nat.le_of_ble_eq_true rfl, Nat.le_of_ble_eq_true rfl⟩ ho (by decide) rfl rfl rfl hl.1 rfl (Nat.le_of_ble_eq_true rfl) dX11_isDone_176 rfl (fun H locs hM => ?_)
          replace hf := gB_some hf
          obtain ⟨hz, hf⟩ := hf
          exact rt_z hX hM hz (congrArg (fun z => some (Value.int z)) (so_1 hf)) (so_2 hf) dX11_isDone_179
        · replace hf := it_f hf hs1_115
          by_cases hs1_119 : a1 = (119 : Int32)
          · replace hf := it_t hf hs1_119
            refine lv_lookup (off := 51) (tgt := 52) hx hb dX11_isDone_1 (by decide) (by rw [hs1_119]; rfl) (by decide) ?_
            refine lv_aload_n hx hb dX11_isDone_52 rfl (lv_at hl 0 rfl) ?_
            refine lv_aload_n hx hb dX11_isDone_53 rfl (lv_at hl 0 rfl) ?_
            refine gf_9_27 hX hM ho q_7_14 dX11_isDone_54 ?_
            refine lv_iconst (v := 0) hx hb dX11_isDone_57 (by decide) ?_
            replace hf := gA_some hf
            obtain ⟨hi, hf⟩ := hf
            refine ald hX hM (kr_9_27 ho) hi dX11_isDone_58 ?_
            refine lv_aload_n hx hb dX11_isDone_59 rfl (lv_at hl 0 rfl) ?_
            refine gf_9_27 hX hM ho q_7_14 dX11_isDone_60 ?_
            refine lv_iconst (v := 1) hx hb dX11_isDone_63 (by decide) ?_
            replace hf := gA_some hf
            obtain ⟨hi, hf⟩ := hf
            refine ald hX hM (kr_9_27 ho) hi dX11_isDone_64 ?_
            refine lv_aload_n hx hb dX11_isDone_65 rfl (lv_at hl 0 rfl) ?_
            refine gf_9_27 hX hM ho q_7_14 dX11_isDone_66 ?_
            refine lv_iconst (v := 2) hx hb dX11_isDone_69 (by decide) ?_
            replace hf := gA_some hf
            obtain ⟨hi, hf⟩ := hf
            refine ald hX hM (kr_9_27 ho) hi dX11_isDone_70 ?_
            refine lv_aload_n hx hb dX11_isDone_71 rfl (lv_at hl 0 rfl) ?_
            refine gf_9_27 hX hM ho q_7_14 dX11_isDone_72 ?_
            refine lv_iconst (v := 3) hx hb dX11_isDone_75 (by decide) ?_
            replace hf := gA_some hf
            obtain ⟨hi, hf⟩ := hf
            refine ald hX hM (kr_9_27 ho) hi dX11_isDone_76 ?_
            replace hf := bnd_some hf
            obtain ⟨r12, μ11, h77, hf⟩ := hf
            refine cl_V (As := [.int (μ.1 (rf o 27) (0 : Int32).toNatClampNeg), .int (μ.1 (rf o 27) (1 : Int32).toNatClampNeg), .int (μ.1 (rf o 27) (2 : Int32).toNatClampNeg), .int (μ.1 (rf o 27) (3 : Int32).toNatClampNeg)]) (rest := []) (st2 := [.int r12]) (n := 4) hX hM (c_X11_wind l ho h77) mv_X11_wind q_28_5 ⟨rfl, rfl⟩ ⟨Nat.le_of_ble_eq_true rfl, Nat.le_of_ble_eq_true rfl⟩ ho (by decide) rfl rfl rfl hl.1 rfl (Nat.le_of_ble_eq_true rfl) dX11_isDone_77 rfl (fun H locs hM => ?_)
            refine lv_if_lt (tgt := 87) hx hb dX11_isDone_80 (by decide) (fun hc80 => ?_) (fun hc80 => ?_)
            · replace hf := it_t hf hc80
              refine lv_iconst (v := 0) hx hb dX11_isDone_87 (by decide) ?_
              exact rt_z hX hM rfl (congrArg (fun z => some (Value.int z)) (so_1 hf)) (so_2 hf) dX11_isDone_88
            · replace hf := it_f hf hc80
              refine lv_iconst (v := 1) hx hb dX11_isDone_83 (by decide) ?_
              refine lv_goto (tgt := 88) hx hb dX11_isDone_84 (by decide) ?_
              exact rt_z hX hM rfl (congrArg (fun z => some (Value.int z)) (so_1 hf)) (so_2 hf) dX11_isDone_88
          · replace hf := it_f hf hs1_119
            refine lv_lookup (off := 179) (tgt := 180) hx hb dX11_isDone_1 (by decide) ((lv_osw hs1_98 rfl).trans ((lv_osw hs1_99 rfl).trans ((lv_osw hs1_108 rfl).trans ((lv_osw hs1_115 rfl).trans ((lv_osw hs1_119 rfl).trans rfl))))) (by decide) ?_
            refine lv_aload_n hx hb dX11_isDone_180 rfl (lv_at hl 0 rfl) ?_
            replace hf := bnd_some hf
            obtain ⟨r14, μ13, h181, hf⟩ := hf
            refine cl_V (As := []) (rest := []) (st2 := [.int r14]) (n := 0) hX hM (c_X11_isLost l ho h181) mv_X11_isLost q_28_16 ⟨rfl, rfl⟩ ⟨Nat.le_of_ble_eq_true rfl, Nat.le_of_ble_eq_true rfl⟩ ho (by decide) rfl rfl rfl hl.1 rfl (Nat.le_of_ble_eq_true rfl) dX11_isDone_181 rfl (fun H locs hM => ?_)
            replace hf := gB_some hf
            obtain ⟨hz, hf⟩ := hf
            exact rt_z hX hM hz (congrArg (fun z => some (Value.int z)) (so_1 hf)) (so_2 hf) dX11_isDone_184
theorem c_X11_isDone (l : Launch) {o : Nat} {a1 : Int32} (ho : knd o = 9) {μ μ2 : Mem} {r : Int32} (hf : f_X11_isDone o a1 μ = some (r, μ2)) : CT E l yX11_isDone cX11_isDone 2 (some .boolean) (rmF 4 85) [.ref (eA E o), .int a1] μ (some (.int r)) μ2 := CT.of (show plainFor yX11_isDone = true by decide +kernel) (Nat.le_of_ble_eq_true rfl) rfl (fun _ _ _ _ _ _ _ _ hX hM hl => w_X11_isDone l ho hf hX hM hl)
theorem mv_X11_isDone : MV yX11_isDone cX11_isDone 2 (some .boolean) RX11 1 := ⟨q_28_4, q_28_2, q_28_3, q_1_5, by decide +kernel⟩
def f_X11_clauses_b47 (o : Nat) (a1 : Int32) (K9 : Int32 → Int32 → Mem → Option (Int32 × Mem)) (x3 : Int32) (t0 : Int32) (t1 : Int32) (μ : Mem) : Option (Int32 × Mem) :=
  lt (t0 + t1) (fun v4 => (if (μ.1 o 26) = (μ.1 o 25) then some (v4, μ) else (if x3 = (11 : Int32) then some ((-1 : Int32), μ) else bnd (f_X11_here o μ) (fun r6 μ5 => (if r6 = (59 : Int32) then lt (sI μ5 o 26 ((μ5.1 o 26) + (1 : Int32))) (fun μ7 => lt (x3 + (1 : Int32)) (fun v8 => K9 v4 v8 μ7)) else some ((-1 : Int32), μ5))))))
set_option maxHeartbeats 4000000 in
set_option maxRecDepth 100000 in
theorem w_X11_clauses_b47 (l : Launch) {o : Nat} {a1 : Int32} (ho : knd o = 9) {μ2 : Mem} {r : Int32} {K9 : Int32 → Int32 → Mem → Option (Int32 × Mem)} (hK9 : ∀ (x2 : Int32) (x3 : Int32) (μ : Mem), K9 x2 x3 μ = some (r, μ2) → ∀ (H : Heap) (locs : List Loc), MM E s μ H locs → ∀ ls : Array Slot, lv_has ls 5 [(0, .ref (eA E o)), (1, .int a1), (2, .int x2), (3, .int x3)] → W p l e (rmF 5 110) s m args below meth c H locs 0 0 (MQ below (QC E (some (.int r)) μ2) args s 0 0 (AA E)) (F0 m 9 ls [])) {x3 : Int32} {t0 : Int32} {t1 : Int32} {μ : Mem} {H : Heap} {locs : List Loc} {ls : Array Slot}  (hf : f_X11_clauses_b47 o a1 K9 x3 t0 t1 μ = some (r, μ2)) (hX : XX E p m meth c cX11_clauses 5 (some .int) s args RX11) (hM : MM E s μ H locs) (hl : lv_has ls 5 [(0, .ref (eA E o)), (1, .int a1), (3, .int x3)]) : W p l e (rmF 5 110) s m args below meth c H locs 0 0 (MQ below (QC E (some (.int r)) μ2) args s 0 0 (AA E)) (F0 m 47 ls [.int t1, .int t0]) := by
  obtain ⟨⟨hx, hb, hml, hown, hts⟩, hXr⟩ := id hX
  unfold f_X11_clauses_b47 at hf
  refine lv_iadd hx hb dX11_clauses_47 ?_
  refine lv_topi (fun v4 ev4 => ?_)
  replace hf := lt_e ev4 hf
  refine lv_istore_n (lv' := [(2, .int v4), (0, .ref (eA E o)), (1, .int a1), (3, .int x3)]) hx hb dX11_clauses_48 rfl hl (by decide) rfl (fun ls hl => ?_)
  refine lv_aload_n hx hb dX11_clauses_49 rfl (lv_at hl 1 rfl) ?_
  refine gf_9_26 hX hM ho q_26_19 dX11_clauses_50 ?_
  refine lv_aload_n hx hb dX11_clauses_53 rfl (lv_at hl 1 rfl) ?_
  refine gf_9_25 hX hM ho q_21_15 dX11_clauses_54 ?_
  refine lv_icmp_ne (tgt := 62) hx hb dX11_clauses_57 (by decide) (fun hc57 => ?_) (fun hc57 => ?_)
  · replace hf := it_f hf hc57
    refine lv_iload_n hx hb dX11_clauses_62 rfl (lv_at hl 3 rfl) ?_
    refine lv_bipush (v := 11) hx hb dX11_clauses_63 (by decide) ?_
    refine lv_icmp_eq (tgt := 77) hx hb dX11_clauses_65 (by decide) (fun hc65 => ?_) (fun hc65 => ?_)
    · replace hf := it_t hf hc65
      refine lv_iconst (v := (-1)) hx hb dX11_clauses_77 (by decide) ?_
      exact rt_i hX hM (congrArg (fun z => some (Value.int z)) (so_1 hf)) (so_2 hf) dX11_clauses_78
    · replace hf := it_f hf hc65
      refine lv_aload_n hx hb dX11_clauses_68 rfl (lv_at hl 1 rfl) ?_
      replace hf := bnd_some hf
      obtain ⟨r6, μ5, h69, hf⟩ := hf
      refine cl_V (As := []) (rest := []) (st2 := [.int r6]) (n := 0) hX hM (c_X11_here l ho h69) mv_X11_here q_27_4 ⟨rfl, rfl⟩ ⟨Nat.le_of_ble_eq_true rfl, Nat.le_of_ble_eq_true rfl⟩ ho (by decide) rfl rfl rfl hl.1 rfl (Nat.le_of_ble_eq_true rfl) dX11_clauses_69 rfl (fun H locs hM => ?_)
      refine lv_bipush (v := 59) hx hb dX11_clauses_72 (by decide) ?_
      refine lv_icmp_eq (tgt := 79) hx hb dX11_clauses_74 (by decide) (fun hc74 => ?_) (fun hc74 => ?_)
      · replace hf := it_t hf hc74
        refine lv_aload_n hx hb dX11_clauses_79 rfl (lv_at hl 1 rfl) ?_
        refine lv_dup hx hb dX11_clauses_80 rfl ?_
        refine gf_9_26 hX hM ho q_26_19 dX11_clauses_81 ?_
        refine lv_iconst (v := 1) hx hb dX11_clauses_84 (by decide) ?_
        refine lv_iadd hx hb dX11_clauses_85 ?_
        refine pf_9_26 hX hM ho q_26_19 dX11_clauses_86 (fun μ7 H locs eμ7 hM => ?_)
        replace hf := lt_e eμ7 hf
        obtain ⟨v8, ev8⟩ : ∃ y : Int32, y = x3 + (1 : Int32) := ⟨_, rfl⟩
        replace hf := lt_e ev8 hf
        refine lv_iinc (v := v8) (lv' := [(3, .int v8), (2, .int v4), (0, .ref (eA E o)), (1, .int a1)]) hx hb dX11_clauses_89 hl (k := 3) rfl (by rw [ev8]; rfl) (by decide) rfl (fun ls hl => ?_)
        refine lv_goto (tgt := 9) hx hb dX11_clauses_92 (by decide) ?_
        exact hK9 _ _ _  hf _ _ hM _ (lv_sub hl [2, 3, 1, 0] rfl)
      · replace hf := it_f hf hc74
        refine lv_iconst (v := (-1)) hx hb dX11_clauses_77 (by decide) ?_
        exact rt_i hX hM (congrArg (fun z => some (Value.int z)) (so_1 hf)) (so_2 hf) dX11_clauses_78
  · replace hf := it_t hf hc57
    refine lv_iload_n hx hb dX11_clauses_60 rfl (lv_at hl 0 rfl) ?_
    exact rt_i hX hM (congrArg (fun z => some (Value.int z)) (so_1 hf)) (so_2 hf) dX11_clauses_61
def f_X11_clauses_b46 (o : Nat) (a1 : Int32) (K9 : Int32 → Int32 → Mem → Option (Int32 × Mem)) (x3 : Int32) (t0 : Int32) (μ : Mem) : Option (Int32 × Mem) :=
  f_X11_clauses_b47 o a1 K9 x3 t0 (0 : Int32) μ
set_option maxHeartbeats 4000000 in
set_option maxRecDepth 100000 in
theorem w_X11_clauses_b46 (l : Launch) {o : Nat} {a1 : Int32} (ho : knd o = 9) {μ2 : Mem} {r : Int32} {K9 : Int32 → Int32 → Mem → Option (Int32 × Mem)} (hK9 : ∀ (x2 : Int32) (x3 : Int32) (μ : Mem), K9 x2 x3 μ = some (r, μ2) → ∀ (H : Heap) (locs : List Loc), MM E s μ H locs → ∀ ls : Array Slot, lv_has ls 5 [(0, .ref (eA E o)), (1, .int a1), (2, .int x2), (3, .int x3)] → W p l e (rmF 5 110) s m args below meth c H locs 0 0 (MQ below (QC E (some (.int r)) μ2) args s 0 0 (AA E)) (F0 m 9 ls [])) {x3 : Int32} {t0 : Int32} {μ : Mem} {H : Heap} {locs : List Loc} {ls : Array Slot}  (hf : f_X11_clauses_b46 o a1 K9 x3 t0 μ = some (r, μ2)) (hX : XX E p m meth c cX11_clauses 5 (some .int) s args RX11) (hM : MM E s μ H locs) (hl : lv_has ls 5 [(0, .ref (eA E o)), (1, .int a1), (3, .int x3)]) : W p l e (rmF 5 110) s m args below meth c H locs 0 0 (MQ below (QC E (some (.int r)) μ2) args s 0 0 (AA E)) (F0 m 46 ls [.int t0]) := by
  obtain ⟨⟨hx, hb, hml, hown, hts⟩, hXr⟩ := id hX
  unfold f_X11_clauses_b46 at hf
  refine lv_iconst (v := 0) hx hb dX11_clauses_46 (by decide) ?_
  exact w_X11_clauses_b47 l ho hK9  hf hX hM (lv_sub hl [0, 1, 2] rfl)
def f_X11_clauses_b9 (o : Nat) (a1 : Int32)  : Nat → Int32 → Int32 → Mem → Option (Int32 × Mem)
  | 0, _, _, _ => none
  | n + 1, x2, x3, μ =>
    (if (12 : Int32) ≤ x3 then some ((-1 : Int32), μ) else bnd (f_X11_clause o μ) (fun r3 μ2 => (if (0 : Int32) ≤ r3 then (if a1 = 0 then f_X11_clauses_b46 o a1 (f_X11_clauses_b9 o a1  n) x3 x2 μ2 else bnd (f_X11_isDone o r3 μ2) (fun r10 μ9 => (if r10 = 0 then f_X11_clauses_b46 o a1 (f_X11_clauses_b9 o a1  n) x3 x2 μ9 else f_X11_clauses_b47 o a1 (f_X11_clauses_b9 o a1  n) x3 x2 (1 : Int32) μ9))) else some ((-1 : Int32), μ2))))
set_option maxHeartbeats 4000000 in
set_option maxRecDepth 100000 in
theorem w_X11_clauses_b9 (l : Launch) {o : Nat} {a1 : Int32} (ho : knd o = 9) {μ2 : Mem} {r : Int32}  (hX : XX E p m meth c cX11_clauses 5 (some .int) s args RX11)  : ∀ (n : Nat) (x2 : Int32) (x3 : Int32) (μ : Mem), f_X11_clauses_b9 o a1  n x2 x3 μ = some (r, μ2) → ∀ (H : Heap) (locs : List Loc), MM E s μ H locs → ∀ ls : Array Slot, lv_has ls 5 [(0, .ref (eA E o)), (1, .int a1), (2, .int x2), (3, .int x3)] → W p l e (rmF 5 110) s m args below meth c H locs 0 0 (MQ below (QC E (some (.int r)) μ2) args s 0 0 (AA E)) (F0 m 9 ls []) := by
  obtain ⟨⟨hx, hb, hml, hown, hts⟩, hXr⟩ := id hX
  intro n
  induction n with
  | zero => intro x2 x3 μ  hf; exact no_none hf
  | succ n ih =>
    intro x2 x3 μ  hf H locs hM ls hl
    rw [f_X11_clauses_b9] at hf
    have hK9 := ih
    clear ih
    refine lv_iload_n hx hb dX11_clauses_9 rfl (lv_at hl 3 rfl) ?_
    refine lv_bipush (v := 12) hx hb dX11_clauses_10 (by decide) ?_
    refine lv_icmp_ge (tgt := 95) hx hb dX11_clauses_12 (by decide) (fun hc12 => ?_) (fun hc12 => ?_)
    · replace hf := it_t hf hc12
      refine lv_iconst (v := (-1)) hx hb dX11_clauses_95 (by decide) ?_
      exact rt_i hX hM (congrArg (fun z => some (Value.int z)) (so_1 hf)) (so_2 hf) dX11_clauses_96
    · replace hf := it_f hf hc12
      refine lv_aload_n hx hb dX11_clauses_15 rfl (lv_at hl 0 rfl) ?_
      replace hf := bnd_some hf
      obtain ⟨r3, μ2, h16, hf⟩ := hf
      refine cl_V (As := []) (rest := []) (st2 := [.int r3]) (n := 0) hX hM (c_X11_clause l ho h16) mv_X11_clause q_27_0 ⟨rfl, rfl⟩ ⟨Nat.le_of_ble_eq_true rfl, Nat.le_of_ble_eq_true rfl⟩ ho (by decide) rfl rfl rfl hl.1 rfl (Nat.le_of_ble_eq_true rfl) dX11_clauses_16 rfl (fun H locs hM => ?_)
      refine lv_istore (lv' := [(4, .int r3), (0, .ref (eA E o)), (1, .int a1), (2, .int x2), (3, .int x3)]) hx hb dX11_clauses_19 hl (by decide) rfl (fun ls hl => ?_)
      refine lv_iload hx hb dX11_clauses_21 (lv_at hl 0 rfl) ?_
      refine lv_if_ge (tgt := 28) hx hb dX11_clauses_23 (by decide) (fun hc23 => ?_) (fun hc23 => ?_)
      · replace hf := it_t hf hc23
        refine lv_iload_n hx hb dX11_clauses_28 rfl (lv_at hl 3 rfl) ?_
        refine lv_iload_n hx hb dX11_clauses_29 rfl (lv_at hl 2 rfl) ?_
        refine lv_if_eq (tgt := 46) hx hb dX11_clauses_30 (by decide) (fun hc30 => ?_) (fun hc30 => ?_)
        · replace hf := it_t hf hc30
          exact w_X11_clauses_b46 l ho hK9  hf hX hM (lv_sub hl [1, 2, 4] rfl)
        · replace hf := it_f hf hc30
          refine lv_aload_n hx hb dX11_clauses_33 rfl (lv_at hl 1 rfl) ?_
          refine lv_iload hx hb dX11_clauses_34 (lv_at hl 0 rfl) ?_
          replace hf := bnd_some hf
          obtain ⟨r10, μ9, h36, hf⟩ := hf
          refine cl_V (As := [.int r3]) (rest := [.int x2]) (st2 := [.int r10, .int x2]) (n := 1) hX hM (c_X11_isDone l ho h36) mv_X11_isDone q_28_1 ⟨rfl, rfl⟩ ⟨Nat.le_of_ble_eq_true rfl, Nat.le_of_ble_eq_true rfl⟩ ho (by decide) rfl rfl rfl hl.1 rfl (Nat.le_of_ble_eq_true rfl) dX11_clauses_36 rfl (fun H locs hM => ?_)
          refine lv_if_eq (tgt := 46) hx hb dX11_clauses_39 (by decide) (fun hc39 => ?_) (fun hc39 => ?_)
          · replace hf := it_t hf hc39
            exact w_X11_clauses_b46 l ho hK9  hf hX hM (lv_sub hl [1, 2, 4] rfl)
          · replace hf := it_f hf hc39
            refine lv_iconst (v := 1) hx hb dX11_clauses_42 (by decide) ?_
            refine lv_goto (tgt := 47) hx hb dX11_clauses_43 (by decide) ?_
            exact w_X11_clauses_b47 l ho hK9  hf hX hM (lv_sub hl [1, 2, 4] rfl)
      · replace hf := it_f hf hc23
        refine lv_iconst (v := (-1)) hx hb dX11_clauses_26 (by decide) ?_
        exact rt_i hX hM (congrArg (fun z => some (Value.int z)) (so_1 hf)) (so_2 hf) dX11_clauses_27
def f_X11_clauses (o : Nat) (a1 : Int32) (μ : Mem) : Option (Int32 × Mem) :=
  lt (sI μ o 26 (0 : Int32)) (fun μ1 => f_X11_clauses_b9 o a1  FU (0 : Int32) (0 : Int32) μ1)
set_option maxHeartbeats 4000000 in
set_option maxRecDepth 100000 in
theorem w_X11_clauses (l : Launch) {o : Nat} {a1 : Int32} (ho : knd o = 9) {μ μ2 : Mem} {r : Int32} {H : Heap} {locs : List Loc} {ls : Array Slot} (hf : f_X11_clauses o a1 μ = some (r, μ2)) (hX : XX E p m meth c cX11_clauses 5 (some .int) s args RX11) (hM : MM E s μ H locs) (hl : lv_has ls 5 [(0, .ref (eA E o)), (1, .int a1)]) : W p l e (rmF 5 110) s m args below meth c H locs 0 0 (MQ below (QC E (some (.int r)) μ2) args s 0 0 (AA E)) (F0 m 0 ls []) := by
  obtain ⟨⟨hx, hb, hml, hown, hts⟩, hXr⟩ := id hX
  unfold f_X11_clauses at hf
  refine lv_aload_n hx hb dX11_clauses_0 rfl (lv_at hl 0 rfl) ?_
  refine lv_iconst (v := 0) hx hb dX11_clauses_1 (by decide) ?_
  refine pf_9_26 hX hM ho q_26_19 dX11_clauses_2 (fun μ1 H locs eμ1 hM => ?_)
  replace hf := lt_e eμ1 hf
  refine lv_iconst (v := 0) hx hb dX11_clauses_5 (by decide) ?_
  refine lv_istore_n (lv' := [(2, .int (0 : Int32)), (0, .ref (eA E o)), (1, .int a1)]) hx hb dX11_clauses_6 rfl hl (by decide) rfl (fun ls hl => ?_)
  refine lv_iconst (v := 0) hx hb dX11_clauses_7 (by decide) ?_
  refine lv_istore_n (lv' := [(3, .int (0 : Int32)), (2, .int (0 : Int32)), (0, .ref (eA E o)), (1, .int a1)]) hx hb dX11_clauses_8 rfl hl (by decide) rfl (fun ls hl => ?_)
  exact w_X11_clauses_b9 l ho hX  FU _ _ _  hf _ _ hM _ (lv_sub hl [2, 3, 1, 0] rfl)
theorem c_X11_clauses (l : Launch) {o : Nat} {a1 : Int32} (ho : knd o = 9) {μ μ2 : Mem} {r : Int32} (hf : f_X11_clauses o a1 μ = some (r, μ2)) : CT E l yX11_clauses cX11_clauses 5 (some .int) (rmF 5 110) [.ref (eA E o), .int a1] μ (some (.int r)) μ2 := CT.of (show plainFor yX11_clauses = true by decide +kernel) (Nat.le_of_ble_eq_true rfl) rfl (fun _ _ _ _ _ _ _ _ hX hM hl => w_X11_clauses l ho hf hX hM hl)
theorem mv_X11_clauses : MV yX11_clauses cX11_clauses 5 (some .int) RX11 1 := ⟨q_26_23, q_26_21, q_26_22, q_1_5, by decide +kernel⟩
def f_X11_read_b23 (o : Nat)  (t0 : Int32) (μ : Mem) : Option (Int32 × Mem) :=
  lt (sI μ o 25 (0 : Int32)) (fun μ5 => some (t0, μ5))
set_option maxHeartbeats 4000000 in
set_option maxRecDepth 100000 in
theorem w_X11_read_b23 (l : Launch) {o : Nat} (ho : knd o = 9) {μ2 : Mem} {r : Int32}   {t0 : Int32} {μ : Mem} {H : Heap} {locs : List Loc} {ls : Array Slot}  (hf : f_X11_read_b23 o  t0 μ = some (r, μ2)) (hX : XX E p m meth c cX11_read 2 (some .int) s args RX11) (hM : MM E s μ H locs) (hl : lv_has ls 2 [(0, .ref (eA E o))]) : W p l e (rmF 6 134) s m args below meth c H locs 0 0 (MQ below (QC E (some (.int r)) μ2) args s 0 0 (AA E)) (F0 m 23 ls [.int t0]) := by
  obtain ⟨⟨hx, hb, hml, hown, hts⟩, hXr⟩ := id hX
  unfold f_X11_read_b23 at hf
  refine lv_istore_n (lv' := [(1, .int t0), (0, .ref (eA E o))]) hx hb dX11_read_23 rfl hl (by decide) rfl (fun ls hl => ?_)
  refine lv_aload_n hx hb dX11_read_24 rfl (lv_at hl 1 rfl) ?_
  refine lv_iconst (v := 0) hx hb dX11_read_25 (by decide) ?_
  refine pf_9_25 hX hM ho q_21_15 dX11_read_26 (fun μ5 H locs eμ5 hM => ?_)
  replace hf := lt_e eμ5 hf
  refine lv_iload_n hx hb dX11_read_29 rfl (lv_at hl 0 rfl) ?_
  exact rt_i hX hM (congrArg (fun z => some (Value.int z)) (so_1 hf)) (so_2 hf) dX11_read_30
def f_X11_read (o : Nat) (μ : Mem) : Option (Int32 × Mem) :=
  bnd (f_X11_clauses o (0 : Int32) μ) (fun r2 μ1 => (if (0 : Int32) ≤ r2 then bnd (f_X11_clauses o (1 : Int32) μ1) (fun r4 μ3 => f_X11_read_b23 o  r4 μ3) else f_X11_read_b23 o  ((-10 : Int32) - (μ1.1 o 26)) μ1))
set_option maxHeartbeats 4000000 in
set_option maxRecDepth 100000 in
theorem w_X11_read (l : Launch) {o : Nat} (ho : knd o = 9) {μ μ2 : Mem} {r : Int32} {H : Heap} {locs : List Loc} {ls : Array Slot} (hf : f_X11_read o μ = some (r, μ2)) (hX : XX E p m meth c cX11_read 2 (some .int) s args RX11) (hM : MM E s μ H locs) (hl : lv_has ls 2 [(0, .ref (eA E o))]) : W p l e (rmF 6 134) s m args below meth c H locs 0 0 (MQ below (QC E (some (.int r)) μ2) args s 0 0 (AA E)) (F0 m 0 ls []) := by
  obtain ⟨⟨hx, hb, hml, hown, hts⟩, hXr⟩ := id hX
  unfold f_X11_read at hf
  refine lv_aload_n hx hb dX11_read_0 rfl (lv_at hl 0 rfl) ?_
  refine lv_iconst (v := 0) hx hb dX11_read_1 (by decide) ?_
  replace hf := bnd_some hf
  obtain ⟨r2, μ1, h2, hf⟩ := hf
  refine cl_V (As := [.int (0 : Int32)]) (rest := []) (st2 := [.int r2]) (n := 1) hX hM (c_X11_clauses l ho h2) mv_X11_clauses q_26_20 ⟨rfl, rfl⟩ ⟨Nat.le_of_ble_eq_true rfl, Nat.le_of_ble_eq_true rfl⟩ ho (by decide) rfl rfl rfl hl.1 rfl (Nat.le_of_ble_eq_true rfl) dX11_read_2 rfl (fun H locs hM => ?_)
  refine lv_if_ge (tgt := 18) hx hb dX11_read_5 (by decide) (fun hc5 => ?_) (fun hc5 => ?_)
  · replace hf := it_t hf hc5
    refine lv_aload_n hx hb dX11_read_18 rfl (lv_at hl 0 rfl) ?_
    refine lv_iconst (v := 1) hx hb dX11_read_19 (by decide) ?_
    replace hf := bnd_some hf
    obtain ⟨r4, μ3, h20, hf⟩ := hf
    refine cl_V (As := [.int (1 : Int32)]) (rest := []) (st2 := [.int r4]) (n := 1) hX hM (c_X11_clauses l ho h20) mv_X11_clauses q_26_20 ⟨rfl, rfl⟩ ⟨Nat.le_of_ble_eq_true rfl, Nat.le_of_ble_eq_true rfl⟩ ho (by decide) rfl rfl rfl hl.1 rfl (Nat.le_of_ble_eq_true rfl) dX11_read_20 rfl (fun H locs hM => ?_)
    exact w_X11_read_b23 l ho   hf hX hM (lv_sub hl [0] rfl)
  · replace hf := it_f hf hc5
    refine lv_bipush (v := (-10)) hx hb dX11_read_8 (by decide) ?_
    refine lv_aload_n hx hb dX11_read_10 rfl (lv_at hl 0 rfl) ?_
    refine gf_9_26 hX hM ho q_26_19 dX11_read_11 ?_
    refine lv_isub hx hb dX11_read_14 ?_
    refine lv_goto (tgt := 23) hx hb dX11_read_15 (by decide) ?_
    exact w_X11_read_b23 l ho   hf hX hM (lv_sub hl [0] rfl)
theorem c_X11_read (l : Launch) {o : Nat} (ho : knd o = 9) {μ μ2 : Mem} {r : Int32} (hf : f_X11_read o μ = some (r, μ2)) : CT E l yX11_read cX11_read 2 (some .int) (rmF 6 134) [.ref (eA E o)] μ (some (.int r)) μ2 := CT.of (show plainFor yX11_read = true by decide +kernel) (Nat.le_of_ble_eq_true rfl) rfl (fun _ _ _ _ _ _ _ _ hX hM hl => w_X11_read l ho hf hX hM hl)
theorem mv_X11_read : MV yX11_read cX11_read 2 (some .int) RX11 0 := ⟨q_26_18, q_26_16, q_26_17, q_1_5, by decide +kernel⟩
def f_X11_of (o : Nat) (a1 : Int32) (a2 : Int32) (a3 : Int32) (μ : Mem) : Option (Int32 × Mem) :=
  bnd (f_X11_isZone a1 μ) (fun r2 μ1 => (if r2 = 0 then some ((-1 : Int32), μ1) else bnd (f_X11_isSpan a2 μ1) (fun r4 μ3 => (if r4 = 0 then some ((-1 : Int32), μ3) else (if a3 = (0 : Int32) then gA (((4 : Int32) * a1) + a2) (aln (rf o 1)) (some ((μ3.1 (rf o 1) (((4 : Int32) * a1) + a2).toNatClampNeg), μ3)) else (if a3 = (1 : Int32) then gA (((4 : Int32) * a1) + a2) (aln (rf o 2)) (some ((μ3.1 (rf o 2) (((4 : Int32) * a1) + a2).toNatClampNeg), μ3)) else (if a3 = (2 : Int32) then gA a1 (aln (rf o 4)) (some ((μ3.1 (rf o 4) a1.toNatClampNeg), μ3)) else (if a3 = (3 : Int32) then gA a1 (aln (rf o 5)) (some ((μ3.1 (rf o 5) a1.toNatClampNeg), μ3)) else some ((-1 : Int32), μ3)))))))))
set_option maxHeartbeats 4000000 in
set_option maxRecDepth 100000 in
theorem w_X11_of (l : Launch) {o : Nat} {a1 : Int32} {a2 : Int32} {a3 : Int32} (ho : knd o = 9) {μ μ2 : Mem} {r : Int32} {H : Heap} {locs : List Loc} {ls : Array Slot} (hf : f_X11_of o a1 a2 a3 μ = some (r, μ2)) (hX : XX E p m meth c cX11_of 4 (some .int) s args RX11) (hM : MM E s μ H locs) (hl : lv_has ls 4 [(0, .ref (eA E o)), (1, .int a1), (2, .int a2), (3, .int a3)]) : W p l e (rmF 2 42) s m args below meth c H locs 0 0 (MQ below (QC E (some (.int r)) μ2) args s 0 0 (AA E)) (F0 m 0 ls []) := by
  obtain ⟨⟨hx, hb, hml, hown, hts⟩, hXr⟩ := id hX
  unfold f_X11_of at hf
  refine lv_iload_n hx hb dX11_of_0 rfl (lv_at hl 1 rfl) ?_
  replace hf := bnd_some hf
  obtain ⟨r2, μ1, h1, hf⟩ := hf
  refine cl_S (As := [.int a1]) (rest := []) (st2 := [.int r2]) (n := 1) hX hM (c_X11_isZone l  h1) mt_X11_isZone q_8_20 ⟨rfl, rfl⟩ ⟨Nat.le_of_ble_eq_true rfl, Nat.le_of_ble_eq_true rfl⟩ rfl hl.1 rfl (Nat.le_of_ble_eq_true rfl) dX11_of_1 rfl (fun H locs hM => ?_)
  refine lv_if_eq (tgt := 14) hx hb dX11_of_4 (by decide) (fun hc4 => ?_) (fun hc4 => ?_)
  · replace hf := it_t hf hc4
    refine lv_iconst (v := (-1)) hx hb dX11_of_14 (by decide) ?_
    exact rt_i hX hM (congrArg (fun z => some (Value.int z)) (so_1 hf)) (so_2 hf) dX11_of_15
  · replace hf := it_f hf hc4
    refine lv_iload_n hx hb dX11_of_7 rfl (lv_at hl 2 rfl) ?_
    replace hf := bnd_some hf
    obtain ⟨r4, μ3, h8, hf⟩ := hf
    refine cl_S (As := [.int a2]) (rest := []) (st2 := [.int r4]) (n := 1) hX hM (c_X11_isSpan l  h8) mt_X11_isSpan q_9_2 ⟨rfl, rfl⟩ ⟨Nat.le_of_ble_eq_true rfl, Nat.le_of_ble_eq_true rfl⟩ rfl hl.1 rfl (Nat.le_of_ble_eq_true rfl) dX11_of_8 rfl (fun H locs hM => ?_)
    refine lv_if_ne (tgt := 16) hx hb dX11_of_11 (by decide) (fun hc11 => ?_) (fun hc11 => ?_)
    · replace hf := it_f hf hc11
      refine lv_iload_n hx hb dX11_of_16 rfl (lv_at hl 3 rfl) ?_
      by_cases hs17_0 : a3 = (0 : Int32)
      · replace hf := it_t hf hs17_0
        refine lv_tableIn (off := 31) (tgt := 48) hx hb dX11_of_17 (by rw [hs17_0]; decide) (by rw [hs17_0]; decide) (by rw [hs17_0]; rfl) (by decide) ?_
        refine lv_aload_n hx hb dX11_of_48 rfl (lv_at hl 0 rfl) ?_
        refine gf_9_1 hX hM ho q_6_22 dX11_of_49 ?_
        refine lv_iconst (v := 4) hx hb dX11_of_52 (by decide) ?_
        refine lv_iload_n hx hb dX11_of_53 rfl (lv_at hl 1 rfl) ?_
        refine lv_imul hx hb dX11_of_54 ?_
        refine lv_iload_n hx hb dX11_of_55 rfl (lv_at hl 2 rfl) ?_
        refine lv_iadd hx hb dX11_of_56 ?_
        replace hf := gA_some hf
        obtain ⟨hi, hf⟩ := hf
        refine ald hX hM (kr_9_1 ho) hi dX11_of_57 ?_
        exact rt_i hX hM (congrArg (fun z => some (Value.int z)) (so_1 hf)) (so_2 hf) dX11_of_58
      · replace hf := it_f hf hs17_0
        by_cases hs17_1 : a3 = (1 : Int32)
        · replace hf := it_t hf hs17_1
          refine lv_tableIn (off := 42) (tgt := 59) hx hb dX11_of_17 (by rw [hs17_1]; decide) (by rw [hs17_1]; decide) (by rw [hs17_1]; rfl) (by decide) ?_
          refine lv_aload_n hx hb dX11_of_59 rfl (lv_at hl 0 rfl) ?_
          refine gf_9_2 hX hM ho q_6_23 dX11_of_60 ?_
          refine lv_iconst (v := 4) hx hb dX11_of_63 (by decide) ?_
          refine lv_iload_n hx hb dX11_of_64 rfl (lv_at hl 1 rfl) ?_
          refine lv_imul hx hb dX11_of_65 ?_
          refine lv_iload_n hx hb dX11_of_66 rfl (lv_at hl 2 rfl) ?_
          refine lv_iadd hx hb dX11_of_67 ?_
          replace hf := gA_some hf
          obtain ⟨hi, hf⟩ := hf
          refine ald hX hM (kr_9_2 ho) hi dX11_of_68 ?_
          exact rt_i hX hM (congrArg (fun z => some (Value.int z)) (so_1 hf)) (so_2 hf) dX11_of_69
        · replace hf := it_f hf hs17_1
          by_cases hs17_2 : a3 = (2 : Int32)
          · replace hf := it_t hf hs17_2
            refine lv_tableIn (off := 53) (tgt := 70) hx hb dX11_of_17 (by rw [hs17_2]; decide) (by rw [hs17_2]; decide) (by rw [hs17_2]; rfl) (by decide) ?_
            refine lv_aload_n hx hb dX11_of_70 rfl (lv_at hl 0 rfl) ?_
            refine gf_9_4 hX hM ho q_7_1 dX11_of_71 ?_
            refine lv_iload_n hx hb dX11_of_74 rfl (lv_at hl 1 rfl) ?_
            replace hf := gA_some hf
            obtain ⟨hi, hf⟩ := hf
            refine ald hX hM (kr_9_4 ho) hi dX11_of_75 ?_
            exact rt_i hX hM (congrArg (fun z => some (Value.int z)) (so_1 hf)) (so_2 hf) dX11_of_76
          · replace hf := it_f hf hs17_2
            by_cases hs17_3 : a3 = (3 : Int32)
            · replace hf := it_t hf hs17_3
              refine lv_tableIn (off := 60) (tgt := 77) hx hb dX11_of_17 (by rw [hs17_3]; decide) (by rw [hs17_3]; decide) (by rw [hs17_3]; rfl) (by decide) ?_
              refine lv_aload_n hx hb dX11_of_77 rfl (lv_at hl 0 rfl) ?_
              refine gf_9_5 hX hM ho q_7_2 dX11_of_78 ?_
              refine lv_iload_n hx hb dX11_of_81 rfl (lv_at hl 1 rfl) ?_
              replace hf := gA_some hf
              obtain ⟨hi, hf⟩ := hf
              refine ald hX hM (kr_9_5 ho) hi dX11_of_82 ?_
              exact rt_i hX hM (congrArg (fun z => some (Value.int z)) (so_1 hf)) (so_2 hf) dX11_of_83
            · replace hf := it_f hf hs17_3
              have hq : (a3).toInt < 0 ∨ 3 < (a3).toInt := by
                have n0 := lv_neT hs17_0 (a := 0) rfl
                have n1 := lv_neT hs17_1 (a := 1) rfl
                have n2 := lv_neT hs17_2 (a := 2) rfl
                have n3 := lv_neT hs17_3 (a := 3) rfl
                omega
              refine lv_tableOut (tgt := 84) hx hb dX11_of_17 hq (by decide) ?_
              refine lv_iconst (v := (-1)) hx hb dX11_of_84 (by decide) ?_
              exact rt_i hX hM (congrArg (fun z => some (Value.int z)) (so_1 hf)) (so_2 hf) dX11_of_85
    · replace hf := it_t hf hc11
      refine lv_iconst (v := (-1)) hx hb dX11_of_14 (by decide) ?_
      exact rt_i hX hM (congrArg (fun z => some (Value.int z)) (so_1 hf)) (so_2 hf) dX11_of_15
theorem c_X11_of (l : Launch) {o : Nat} {a1 : Int32} {a2 : Int32} {a3 : Int32} (ho : knd o = 9) {μ μ2 : Mem} {r : Int32} (hf : f_X11_of o a1 a2 a3 μ = some (r, μ2)) : CT E l yX11_of cX11_of 4 (some .int) (rmF 2 42) [.ref (eA E o), .int a1, .int a2, .int a3] μ (some (.int r)) μ2 := CT.of (show plainFor yX11_of = true by decide +kernel) (Nat.le_of_ble_eq_true rfl) rfl (fun _ _ _ _ _ _ _ _ hX hM hl => w_X11_of l ho hf hX hM hl)
theorem mv_X11_of : MV yX11_of cX11_of 4 (some .int) RX11 3 := ⟨q_29_3, q_29_1, q_29_2, q_1_5, by decide +kernel⟩
def f_X11_speed (o : Nat) (a1 : Int32) (a2 : Int32) (μ : Mem) : Option (Int32 × Mem) :=
  bnd (f_X11_isEntry a1 a2 μ) (fun r2 μ1 => (if r2 = 0 then some ((-1 : Int32), μ1) else gA (((5 : Int32) * a1) + a2) (aln (rf o 3)) (some ((μ1.1 (rf o 3) (((5 : Int32) * a1) + a2).toNatClampNeg), μ1))))
set_option maxHeartbeats 4000000 in
set_option maxRecDepth 100000 in
theorem w_X11_speed (l : Launch) {o : Nat} {a1 : Int32} {a2 : Int32} (ho : knd o = 9) {μ μ2 : Mem} {r : Int32} {H : Heap} {locs : List Loc} {ls : Array Slot} (hf : f_X11_speed o a1 a2 μ = some (r, μ2)) (hX : XX E p m meth c cX11_speed 3 (some .int) s args RX11) (hM : MM E s μ H locs) (hl : lv_has ls 3 [(0, .ref (eA E o)), (1, .int a1), (2, .int a2)]) : W p l e (rmF 2 43) s m args below meth c H locs 0 0 (MQ below (QC E (some (.int r)) μ2) args s 0 0 (AA E)) (F0 m 0 ls []) := by
  obtain ⟨⟨hx, hb, hml, hown, hts⟩, hXr⟩ := id hX
  unfold f_X11_speed at hf
  refine lv_iload_n hx hb dX11_speed_0 rfl (lv_at hl 1 rfl) ?_
  refine lv_iload_n hx hb dX11_speed_1 rfl (lv_at hl 2 rfl) ?_
  replace hf := bnd_some hf
  obtain ⟨r2, μ1, h2, hf⟩ := hf
  refine cl_S (As := [.int a1, .int a2]) (rest := []) (st2 := [.int r2]) (n := 2) hX hM (c_X11_isEntry l  h2) mt_X11_isEntry q_10_23 ⟨rfl, rfl⟩ ⟨Nat.le_of_ble_eq_true rfl, Nat.le_of_ble_eq_true rfl⟩ rfl hl.1 rfl (Nat.le_of_ble_eq_true rfl) dX11_speed_2 rfl (fun H locs hM => ?_)
  refine lv_if_eq (tgt := 21) hx hb dX11_speed_5 (by decide) (fun hc5 => ?_) (fun hc5 => ?_)
  · replace hf := it_t hf hc5
    refine lv_iconst (v := (-1)) hx hb dX11_speed_21 (by decide) ?_
    exact rt_i hX hM (congrArg (fun z => some (Value.int z)) (so_1 hf)) (so_2 hf) dX11_speed_22
  · replace hf := it_f hf hc5
    refine lv_aload_n hx hb dX11_speed_8 rfl (lv_at hl 0 rfl) ?_
    refine gf_9_3 hX hM ho q_7_0 dX11_speed_9 ?_
    refine lv_iconst (v := 5) hx hb dX11_speed_12 (by decide) ?_
    refine lv_iload_n hx hb dX11_speed_13 rfl (lv_at hl 1 rfl) ?_
    refine lv_imul hx hb dX11_speed_14 ?_
    refine lv_iload_n hx hb dX11_speed_15 rfl (lv_at hl 2 rfl) ?_
    refine lv_iadd hx hb dX11_speed_16 ?_
    replace hf := gA_some hf
    obtain ⟨hi, hf⟩ := hf
    refine ald hX hM (kr_9_3 ho) hi dX11_speed_17 ?_
    refine lv_goto (tgt := 22) hx hb dX11_speed_18 (by decide) ?_
    exact rt_i hX hM (congrArg (fun z => some (Value.int z)) (so_1 hf)) (so_2 hf) dX11_speed_22
theorem c_X11_speed (l : Launch) {o : Nat} {a1 : Int32} {a2 : Int32} (ho : knd o = 9) {μ μ2 : Mem} {r : Int32} (hf : f_X11_speed o a1 a2 μ = some (r, μ2)) : CT E l yX11_speed cX11_speed 3 (some .int) (rmF 2 43) [.ref (eA E o), .int a1, .int a2] μ (some (.int r)) μ2 := CT.of (show plainFor yX11_speed = true by decide +kernel) (Nat.le_of_ble_eq_true rfl) rfl (fun _ _ _ _ _ _ _ _ hX hM hl => w_X11_speed l ho hf hX hM hl)
theorem mv_X11_speed : MV yX11_speed cX11_speed 3 (some .int) RX11 2 := ⟨q_29_11, q_29_9, q_29_10, q_1_5, by decide +kernel⟩
def f_X11_lands_b4 (o : Nat)  : Nat → Int32 → Int32 → Mem → Option (Int32 × Mem)
  | 0, _, _, _ => none
  | n + 1, x1, x2, μ =>
    (if (36 : Int32) ≤ x2 then some (x1, μ) else gA x2 (aln (rf o 0)) (lt (x1 + (μ.1 (rf o 0) x2.toNatClampNeg)) (fun v1 => lt (x2 + (1 : Int32)) (fun v2 => (f_X11_lands_b4 o  n) v1 v2 μ))))
set_option maxHeartbeats 4000000 in
set_option maxRecDepth 100000 in
theorem w_X11_lands_b4 (l : Launch) {o : Nat} (ho : knd o = 9) {μ2 : Mem} {r : Int32}  (hX : XX E p m meth c cX11_lands 3 (some .int) s args RX11)  : ∀ (n : Nat) (x1 : Int32) (x2 : Int32) (μ : Mem), f_X11_lands_b4 o  n x1 x2 μ = some (r, μ2) → ∀ (H : Heap) (locs : List Loc), MM E s μ H locs → ∀ ls : Array Slot, lv_has ls 3 [(0, .ref (eA E o)), (1, .int x1), (2, .int x2)] → W p l e (rmF 0 0) s m args below meth c H locs 0 0 (MQ below (QC E (some (.int r)) μ2) args s 0 0 (AA E)) (F0 m 4 ls []) := by
  obtain ⟨⟨hx, hb, hml, hown, hts⟩, hXr⟩ := id hX
  intro n
  induction n with
  | zero => intro x1 x2 μ  hf; exact no_none hf
  | succ n ih =>
    intro x1 x2 μ  hf H locs hM ls hl
    rw [f_X11_lands_b4] at hf
    have hK4 := ih
    clear ih
    refine lv_iload_n hx hb dX11_lands_4 rfl (lv_at hl 2 rfl) ?_
    refine lv_bipush (v := 36) hx hb dX11_lands_5 (by decide) ?_
    refine lv_icmp_ge (tgt := 25) hx hb dX11_lands_7 (by decide) (fun hc7 => ?_) (fun hc7 => ?_)
    · replace hf := it_t hf hc7
      refine lv_iload_n hx hb dX11_lands_25 rfl (lv_at hl 1 rfl) ?_
      exact rt_i hX hM (congrArg (fun z => some (Value.int z)) (so_1 hf)) (so_2 hf) dX11_lands_26
    · replace hf := it_f hf hc7
      refine lv_iload_n hx hb dX11_lands_10 rfl (lv_at hl 1 rfl) ?_
      refine lv_aload_n hx hb dX11_lands_11 rfl (lv_at hl 0 rfl) ?_
      refine gf_9_0 hX hM ho q_6_21 dX11_lands_12 ?_
      refine lv_iload_n hx hb dX11_lands_15 rfl (lv_at hl 2 rfl) ?_
      replace hf := gA_some hf
      obtain ⟨hi, hf⟩ := hf
      refine ald hX hM (kr_9_0 ho) hi dX11_lands_16 ?_
      refine lv_iadd hx hb dX11_lands_17 ?_
      refine lv_topi (fun v1 ev1 => ?_)
      replace hf := lt_e ev1 hf
      refine lv_istore_n (lv' := [(1, .int v1), (0, .ref (eA E o)), (2, .int x2)]) hx hb dX11_lands_18 rfl hl (by decide) rfl (fun ls hl => ?_)
      obtain ⟨v2, ev2⟩ : ∃ y : Int32, y = x2 + (1 : Int32) := ⟨_, rfl⟩
      replace hf := lt_e ev2 hf
      refine lv_iinc (v := v2) (lv' := [(2, .int v2), (1, .int v1), (0, .ref (eA E o))]) hx hb dX11_lands_19 hl (k := 2) rfl (by rw [ev2]; rfl) (by decide) rfl (fun ls hl => ?_)
      refine lv_goto (tgt := 4) hx hb dX11_lands_22 (by decide) ?_
      exact hK4 _ _ _  hf _ _ hM _ (lv_sub hl [2, 1, 0] rfl)
def f_X11_lands (o : Nat) (μ : Mem) : Option (Int32 × Mem) :=
  f_X11_lands_b4 o  FU (0 : Int32) (0 : Int32) μ
set_option maxHeartbeats 4000000 in
set_option maxRecDepth 100000 in
theorem w_X11_lands (l : Launch) {o : Nat} (ho : knd o = 9) {μ μ2 : Mem} {r : Int32} {H : Heap} {locs : List Loc} {ls : Array Slot} (hf : f_X11_lands o μ = some (r, μ2)) (hX : XX E p m meth c cX11_lands 3 (some .int) s args RX11) (hM : MM E s μ H locs) (hl : lv_has ls 3 [(0, .ref (eA E o))]) : W p l e (rmF 0 0) s m args below meth c H locs 0 0 (MQ below (QC E (some (.int r)) μ2) args s 0 0 (AA E)) (F0 m 0 ls []) := by
  obtain ⟨⟨hx, hb, hml, hown, hts⟩, hXr⟩ := id hX
  unfold f_X11_lands at hf
  refine lv_iconst (v := 0) hx hb dX11_lands_0 (by decide) ?_
  refine lv_istore_n (lv' := [(1, .int (0 : Int32)), (0, .ref (eA E o))]) hx hb dX11_lands_1 rfl hl (by decide) rfl (fun ls hl => ?_)
  refine lv_iconst (v := 0) hx hb dX11_lands_2 (by decide) ?_
  refine lv_istore_n (lv' := [(2, .int (0 : Int32)), (1, .int (0 : Int32)), (0, .ref (eA E o))]) hx hb dX11_lands_3 rfl hl (by decide) rfl (fun ls hl => ?_)
  exact w_X11_lands_b4 l ho hX  FU _ _ _  hf _ _ hM _ (lv_sub hl [2, 1, 0] rfl)
theorem c_X11_lands (l : Launch) {o : Nat} (ho : knd o = 9) {μ μ2 : Mem} {r : Int32} (hf : f_X11_lands o μ = some (r, μ2)) : CT E l yX11_lands cX11_lands 3 (some .int) (rmF 0 0) [.ref (eA E o)] μ (some (.int r)) μ2 := CT.of (show plainFor yX11_lands = true by decide +kernel) (Nat.le_of_ble_eq_true rfl) rfl (fun _ _ _ _ _ _ _ _ hX hM hl => w_X11_lands l ho hf hX hM hl)
theorem mv_X11_lands : MV yX11_lands cX11_lands 3 (some .int) RX11 0 := ⟨q_30_17, q_30_15, q_30_16, q_1_5, by decide +kernel⟩
def f_X11_pace (o : Nat) (a1 : Int32) (a2 : Int32) (a3 : Int32) (μ : Mem) : Option (Int32 × Mem) :=
  bnd (f_X11_isSquare a1 μ) (fun r2 μ1 => (if r2 = 0 then some ((-1 : Int32), μ1) else bnd (f_X11_isHeading a2 μ1) (fun r4 μ3 => (if r4 = 0 then some ((-1 : Int32), μ3) else bnd (f_X11_in a3 (0 : Int32) (9999 : Int32) μ3) (fun r6 μ5 => (if r6 = 0 then some ((-2 : Int32), μ5) else bnd (f_X11_paceOf o a1 a2 a3 μ5) (fun r8 μ7 => some (r8, μ7))))))))
set_option maxHeartbeats 4000000 in
set_option maxRecDepth 100000 in
theorem w_X11_pace (l : Launch) {o : Nat} {a1 : Int32} {a2 : Int32} {a3 : Int32} (ho : knd o = 9) {μ μ2 : Mem} {r : Int32} {H : Heap} {locs : List Loc} {ls : Array Slot} (hf : f_X11_pace o a1 a2 a3 μ = some (r, μ2)) (hX : XX E p m meth c cX11_pace 4 (some .int) s args RX11) (hM : MM E s μ H locs) (hl : lv_has ls 4 [(0, .ref (eA E o)), (1, .int a1), (2, .int a2), (3, .int a3)]) : W p l e (rmF 3 69) s m args below meth c H locs 0 0 (MQ below (QC E (some (.int r)) μ2) args s 0 0 (AA E)) (F0 m 0 ls []) := by
  obtain ⟨⟨hx, hb, hml, hown, hts⟩, hXr⟩ := id hX
  unfold f_X11_pace at hf
  refine lv_iload_n hx hb dX11_pace_0 rfl (lv_at hl 1 rfl) ?_
  replace hf := bnd_some hf
  obtain ⟨r2, μ1, h1, hf⟩ := hf
  refine cl_S (As := [.int a1]) (rest := []) (st2 := [.int r2]) (n := 1) hX hM (c_X11_isSquare l  h1) mt_X11_isSquare q_11_21 ⟨rfl, rfl⟩ ⟨Nat.le_of_ble_eq_true rfl, Nat.le_of_ble_eq_true rfl⟩ rfl hl.1 rfl (Nat.le_of_ble_eq_true rfl) dX11_pace_1 rfl (fun H locs hM => ?_)
  refine lv_if_eq (tgt := 14) hx hb dX11_pace_4 (by decide) (fun hc4 => ?_) (fun hc4 => ?_)
  · replace hf := it_t hf hc4
    refine lv_iconst (v := (-1)) hx hb dX11_pace_14 (by decide) ?_
    exact rt_i hX hM (congrArg (fun z => some (Value.int z)) (so_1 hf)) (so_2 hf) dX11_pace_15
  · replace hf := it_f hf hc4
    refine lv_iload_n hx hb dX11_pace_7 rfl (lv_at hl 2 rfl) ?_
    replace hf := bnd_some hf
    obtain ⟨r4, μ3, h8, hf⟩ := hf
    refine cl_S (As := [.int a2]) (rest := []) (st2 := [.int r4]) (n := 1) hX hM (c_X11_isHeading l  h8) mt_X11_isHeading q_9_5 ⟨rfl, rfl⟩ ⟨Nat.le_of_ble_eq_true rfl, Nat.le_of_ble_eq_true rfl⟩ rfl hl.1 rfl (Nat.le_of_ble_eq_true rfl) dX11_pace_8 rfl (fun H locs hM => ?_)
    refine lv_if_ne (tgt := 16) hx hb dX11_pace_11 (by decide) (fun hc11 => ?_) (fun hc11 => ?_)
    · replace hf := it_f hf hc11
      refine lv_iload_n hx hb dX11_pace_16 rfl (lv_at hl 3 rfl) ?_
      refine lv_iconst (v := 0) hx hb dX11_pace_17 (by decide) ?_
      refine lv_sipush (v := 9999) hx hb dX11_pace_18 (by decide) ?_
      replace hf := bnd_some hf
      obtain ⟨r6, μ5, h21, hf⟩ := hf
      refine cl_S (As := [.int a3, .int (0 : Int32), .int (9999 : Int32)]) (rest := []) (st2 := [.int r6]) (n := 3) hX hM (c_X11_in l  h21) mt_X11_in q_8_23 ⟨rfl, rfl⟩ ⟨Nat.le_of_ble_eq_true rfl, Nat.le_of_ble_eq_true rfl⟩ rfl hl.1 rfl (Nat.le_of_ble_eq_true rfl) dX11_pace_21 rfl (fun H locs hM => ?_)
      refine lv_if_eq (tgt := 37) hx hb dX11_pace_24 (by decide) (fun hc24 => ?_) (fun hc24 => ?_)
      · replace hf := it_t hf hc24
        refine lv_bipush (v := (-2)) hx hb dX11_pace_37 (by decide) ?_
        exact rt_i hX hM (congrArg (fun z => some (Value.int z)) (so_1 hf)) (so_2 hf) dX11_pace_39
      · replace hf := it_f hf hc24
        refine lv_aload_n hx hb dX11_pace_27 rfl (lv_at hl 0 rfl) ?_
        refine lv_iload_n hx hb dX11_pace_28 rfl (lv_at hl 1 rfl) ?_
        refine lv_iload_n hx hb dX11_pace_29 rfl (lv_at hl 2 rfl) ?_
        refine lv_iload_n hx hb dX11_pace_30 rfl (lv_at hl 3 rfl) ?_
        replace hf := bnd_some hf
        obtain ⟨r8, μ7, h31, hf⟩ := hf
        refine cl_V (As := [.int a1, .int a2, .int a3]) (rest := []) (st2 := [.int r8]) (n := 3) hX hM (c_X11_paceOf l ho h31) mv_X11_paceOf q_18_18 ⟨rfl, rfl⟩ ⟨Nat.le_of_ble_eq_true rfl, Nat.le_of_ble_eq_true rfl⟩ ho (by decide) rfl rfl rfl hl.1 rfl (Nat.le_of_ble_eq_true rfl) dX11_pace_31 rfl (fun H locs hM => ?_)
        refine lv_goto (tgt := 39) hx hb dX11_pace_34 (by decide) ?_
        exact rt_i hX hM (congrArg (fun z => some (Value.int z)) (so_1 hf)) (so_2 hf) dX11_pace_39
    · replace hf := it_t hf hc11
      refine lv_iconst (v := (-1)) hx hb dX11_pace_14 (by decide) ?_
      exact rt_i hX hM (congrArg (fun z => some (Value.int z)) (so_1 hf)) (so_2 hf) dX11_pace_15
theorem c_X11_pace (l : Launch) {o : Nat} {a1 : Int32} {a2 : Int32} {a3 : Int32} (ho : knd o = 9) {μ μ2 : Mem} {r : Int32} (hf : f_X11_pace o a1 a2 a3 μ = some (r, μ2)) : CT E l yX11_pace cX11_pace 4 (some .int) (rmF 3 69) [.ref (eA E o), .int a1, .int a2, .int a3] μ (some (.int r)) μ2 := CT.of (show plainFor yX11_pace = true by decide +kernel) (Nat.le_of_ble_eq_true rfl) rfl (fun _ _ _ _ _ _ _ _ hX hM hl => w_X11_pace l ho hf hX hM hl)
theorem mv_X11_pace : MV yX11_pace cX11_pace 4 (some .int) RX11 3 := ⟨q_31_8, q_31_6, q_31_7, q_1_5, by decide +kernel⟩
def f_X11_soonest_b50 (o : Nat) (a1 : Int32) (a2 : Int32) (a3 : Int32) (a4 : Int32) (K9 : Int32 → Int32 → Int32 → Mem → Option (Mem)) (x7 : Int32) (μ : Mem) : Option (Mem) :=
  lt (μ.1 o 29) (fun v8 => lt (x7 + (1 : Int32)) (fun v9 => K9 x7 v8 v9 μ))
set_option maxHeartbeats 4000000 in
set_option maxRecDepth 100000 in
theorem w_X11_soonest_b50 (l : Launch) {o : Nat} {a1 : Int32} {a2 : Int32} {a3 : Int32} {a4 : Int32} (ho : knd o = 9) {μ2 : Mem} {K9 : Int32 → Int32 → Int32 → Mem → Option (Mem)} (hK9 : ∀ (x5 : Int32) (x6 : Int32) (x7 : Int32) (μ : Mem), K9 x5 x6 x7 μ = some μ2 → ∀ (H : Heap) (locs : List Loc), MM E s μ H locs → ∀ ls : Array Slot, lv_has ls 8 [(0, .ref (eA E o)), (1, .int a1), (2, .int a2), (3, .int a3), (4, .int a4), (5, .int x5), (6, .int x6), (7, .int x7)] → W p l e (rmF 4 98) s m args below meth c H locs 0 0 (MQ below (QC E (none) μ2) args s 0 0 (AA E)) (F0 m 9 ls [])) {x7 : Int32} {μ : Mem} {H : Heap} {locs : List Loc} {ls : Array Slot}  (hf : f_X11_soonest_b50 o a1 a2 a3 a4 K9 x7 μ = some μ2) (hX : XX E p m meth c cX11_soonest 8 none s args RX11) (hM : MM E s μ H locs) (hl : lv_has ls 8 [(0, .ref (eA E o)), (1, .int a1), (2, .int a2), (3, .int a3), (4, .int a4), (7, .int x7)]) : W p l e (rmF 4 98) s m args below meth c H locs 0 0 (MQ below (QC E (none) μ2) args s 0 0 (AA E)) (F0 m 50 ls []) := by
  obtain ⟨⟨hx, hb, hml, hown, hts⟩, hXr⟩ := id hX
  unfold f_X11_soonest_b50 at hf
  refine lv_iload hx hb dX11_soonest_50 (lv_at hl 5 rfl) ?_
  refine lv_istore (lv' := [(5, .int x7), (0, .ref (eA E o)), (1, .int a1), (2, .int a2), (3, .int a3), (4, .int a4), (7, .int x7)]) hx hb dX11_soonest_52 hl (by decide) rfl (fun ls hl => ?_)
  refine lv_aload_n hx hb dX11_soonest_54 rfl (lv_at hl 1 rfl) ?_
  refine gf_9_29 hX hM ho q_18_5 dX11_soonest_55 ?_
  refine lv_topi (fun v8 ev8 => ?_)
  replace hf := lt_e ev8 hf
  refine lv_istore (lv' := [(6, .int v8), (5, .int x7), (0, .ref (eA E o)), (1, .int a1), (2, .int a2), (3, .int a3), (4, .int a4), (7, .int x7)]) hx hb dX11_soonest_58 hl (by decide) rfl (fun ls hl => ?_)
  obtain ⟨v9, ev9⟩ : ∃ y : Int32, y = x7 + (1 : Int32) := ⟨_, rfl⟩
  replace hf := lt_e ev9 hf
  refine lv_iinc (v := v9) (lv' := [(7, .int v9), (6, .int v8), (5, .int x7), (0, .ref (eA E o)), (1, .int a1), (2, .int a2), (3, .int a3), (4, .int a4)]) hx hb dX11_soonest_60 hl (k := 7) rfl (by rw [ev9]; rfl) (by decide) rfl (fun ls hl => ?_)
  refine lv_goto (tgt := 9) hx hb dX11_soonest_63 (by decide) ?_
  exact hK9 _ _ _ _  hf _ _ hM _ (lv_sub hl [3, 4, 5, 6, 7, 2, 1, 0] rfl)
def f_X11_soonest_b9 (o : Nat) (a1 : Int32) (a2 : Int32) (a3 : Int32) (a4 : Int32)  : Nat → Int32 → Int32 → Int32 → Mem → Option (Mem)
  | 0, _, _, _, _ => none
  | n + 1, x5, x6, x7, μ =>
    (if (4 : Int32) ≤ x7 then (if x5 < 0 then some μ else bnd (f_X11_minuteOf a4 x5 μ) (fun r2 μ1 => bnv (f_X11_goes o a1 a2 a3 r2 μ1) (fun μ3 => some μ3))) else bnd (f_X11_minuteOf a4 x7 μ) (fun r5 μ4 => bnv (f_X11_goes o a1 a2 a3 r5 μ4) (fun μ6 => (if (μ6.1 o 29) < 0 then lt (x7 + (1 : Int32)) (fun v7 => (f_X11_soonest_b9 o a1 a2 a3 a4  n) x5 x6 v7 μ6) else (if x6 < 0 then f_X11_soonest_b50 o a1 a2 a3 a4 (f_X11_soonest_b9 o a1 a2 a3 a4  n) x7 μ6 else (if x6 ≤ (μ6.1 o 29) then lt (x7 + (1 : Int32)) (fun v10 => (f_X11_soonest_b9 o a1 a2 a3 a4  n) x5 x6 v10 μ6) else f_X11_soonest_b50 o a1 a2 a3 a4 (f_X11_soonest_b9 o a1 a2 a3 a4  n) x7 μ6))))))
set_option maxHeartbeats 4000000 in
set_option maxRecDepth 100000 in
theorem w_X11_soonest_b9 (l : Launch) {o : Nat} {a1 : Int32} {a2 : Int32} {a3 : Int32} {a4 : Int32} (ho : knd o = 9) {μ2 : Mem}  (hX : XX E p m meth c cX11_soonest 8 none s args RX11)  : ∀ (n : Nat) (x5 : Int32) (x6 : Int32) (x7 : Int32) (μ : Mem), f_X11_soonest_b9 o a1 a2 a3 a4  n x5 x6 x7 μ = some μ2 → ∀ (H : Heap) (locs : List Loc), MM E s μ H locs → ∀ ls : Array Slot, lv_has ls 8 [(0, .ref (eA E o)), (1, .int a1), (2, .int a2), (3, .int a3), (4, .int a4), (5, .int x5), (6, .int x6), (7, .int x7)] → W p l e (rmF 4 98) s m args below meth c H locs 0 0 (MQ below (QC E (none) μ2) args s 0 0 (AA E)) (F0 m 9 ls []) := by
  obtain ⟨⟨hx, hb, hml, hown, hts⟩, hXr⟩ := id hX
  intro n
  induction n with
  | zero => intro x5 x6 x7 μ  hf; exact no_none hf
  | succ n ih =>
    intro x5 x6 x7 μ  hf H locs hM ls hl
    rw [f_X11_soonest_b9] at hf
    have hK9 := ih
    clear ih
    refine lv_iload hx hb dX11_soonest_9 (lv_at hl 7 rfl) ?_
    refine lv_iconst (v := 4) hx hb dX11_soonest_11 (by decide) ?_
    refine lv_icmp_ge (tgt := 66) hx hb dX11_soonest_12 (by decide) (fun hc12 => ?_) (fun hc12 => ?_)
    · replace hf := it_t hf hc12
      refine lv_iload hx hb dX11_soonest_66 (lv_at hl 5 rfl) ?_
      refine lv_if_lt (tgt := 85) hx hb dX11_soonest_68 (by decide) (fun hc68 => ?_) (fun hc68 => ?_)
      · replace hf := it_t hf hc68
        exact rt_v hX hM rfl (Option.some.inj hf) dX11_soonest_85
      · replace hf := it_f hf hc68
        refine lv_aload_n hx hb dX11_soonest_71 rfl (lv_at hl 0 rfl) ?_
        refine lv_iload_n hx hb dX11_soonest_72 rfl (lv_at hl 1 rfl) ?_
        refine lv_iload_n hx hb dX11_soonest_73 rfl (lv_at hl 2 rfl) ?_
        refine lv_iload_n hx hb dX11_soonest_74 rfl (lv_at hl 3 rfl) ?_
        refine lv_iload hx hb dX11_soonest_75 (lv_at hl 4 rfl) ?_
        refine lv_iload hx hb dX11_soonest_77 (lv_at hl 5 rfl) ?_
        replace hf := bnd_some hf
        obtain ⟨r2, μ1, h79, hf⟩ := hf
        refine cl_S (As := [.int a4, .int x5]) (rest := [.int a3, .int a2, .int a1, .ref (eA E o)]) (st2 := [.int r2, .int a3, .int a2, .int a1, .ref (eA E o)]) (n := 2) hX hM (c_X11_minuteOf l  h79) mt_X11_minuteOf q_18_6 ⟨rfl, rfl⟩ ⟨Nat.le_of_ble_eq_true rfl, Nat.le_of_ble_eq_true rfl⟩ rfl hl.1 rfl (Nat.le_of_ble_eq_true rfl) dX11_soonest_79 rfl (fun H locs hM => ?_)
        replace hf := bnv_some hf
        obtain ⟨μ3, h82, hf⟩ := hf
        refine cl_V (As := [.int a1, .int a2, .int a3, .int r2]) (rest := []) (st2 := []) (n := 4) hX hM (c_X11_goes l ho h82) mv_X11_goes q_18_9 ⟨rfl, rfl⟩ ⟨Nat.le_of_ble_eq_true rfl, Nat.le_of_ble_eq_true rfl⟩ ho (by decide) rfl rfl rfl hl.1 rfl (Nat.le_of_ble_eq_true rfl) dX11_soonest_82 rfl (fun H locs hM => ?_)
        exact rt_v hX hM rfl (Option.some.inj hf) dX11_soonest_85
    · replace hf := it_f hf hc12
      refine lv_aload_n hx hb dX11_soonest_15 rfl (lv_at hl 0 rfl) ?_
      refine lv_iload_n hx hb dX11_soonest_16 rfl (lv_at hl 1 rfl) ?_
      refine lv_iload_n hx hb dX11_soonest_17 rfl (lv_at hl 2 rfl) ?_
      refine lv_iload_n hx hb dX11_soonest_18 rfl (lv_at hl 3 rfl) ?_
      refine lv_iload hx hb dX11_soonest_19 (lv_at hl 4 rfl) ?_
      refine lv_iload hx hb dX11_soonest_21 (lv_at hl 7 rfl) ?_
      replace hf := bnd_some hf
      obtain ⟨r5, μ4, h23, hf⟩ := hf
      refine cl_S (As := [.int a4, .int x7]) (rest := [.int a3, .int a2, .int a1, .ref (eA E o)]) (st2 := [.int r5, .int a3, .int a2, .int a1, .ref (eA E o)]) (n := 2) hX hM (c_X11_minuteOf l  h23) mt_X11_minuteOf q_18_6 ⟨rfl, rfl⟩ ⟨Nat.le_of_ble_eq_true rfl, Nat.le_of_ble_eq_true rfl⟩ rfl hl.1 rfl (Nat.le_of_ble_eq_true rfl) dX11_soonest_23 rfl (fun H locs hM => ?_)
      replace hf := bnv_some hf
      obtain ⟨μ6, h26, hf⟩ := hf
      refine cl_V (As := [.int a1, .int a2, .int a3, .int r5]) (rest := []) (st2 := []) (n := 4) hX hM (c_X11_goes l ho h26) mv_X11_goes q_18_9 ⟨rfl, rfl⟩ ⟨Nat.le_of_ble_eq_true rfl, Nat.le_of_ble_eq_true rfl⟩ ho (by decide) rfl rfl rfl hl.1 rfl (Nat.le_of_ble_eq_true rfl) dX11_soonest_26 rfl (fun H locs hM => ?_)
      refine lv_aload_n hx hb dX11_soonest_29 rfl (lv_at hl 0 rfl) ?_
      refine gf_9_29 hX hM ho q_18_5 dX11_soonest_30 ?_
      refine lv_if_lt (tgt := 60) hx hb dX11_soonest_33 (by decide) (fun hc33 => ?_) (fun hc33 => ?_)
      · replace hf := it_t hf hc33
        obtain ⟨v7, ev7⟩ : ∃ y : Int32, y = x7 + (1 : Int32) := ⟨_, rfl⟩
        replace hf := lt_e ev7 hf
        refine lv_iinc (v := v7) (lv' := [(7, .int v7), (0, .ref (eA E o)), (1, .int a1), (2, .int a2), (3, .int a3), (4, .int a4), (5, .int x5), (6, .int x6)]) hx hb dX11_soonest_60 hl (k := 7) rfl (by rw [ev7]; rfl) (by decide) rfl (fun ls hl => ?_)
        refine lv_goto (tgt := 9) hx hb dX11_soonest_63 (by decide) ?_
        exact hK9 _ _ _ _  hf _ _ hM _ (lv_sub hl [1, 2, 3, 4, 5, 6, 7, 0] rfl)
      · replace hf := it_f hf hc33
        refine lv_iload hx hb dX11_soonest_36 (lv_at hl 6 rfl) ?_
        refine lv_if_lt (tgt := 50) hx hb dX11_soonest_38 (by decide) (fun hc38 => ?_) (fun hc38 => ?_)
        · replace hf := it_t hf hc38
          exact w_X11_soonest_b50 l ho hK9  hf hX hM (lv_sub hl [0, 1, 2, 3, 4, 7] rfl)
        · replace hf := it_f hf hc38
          refine lv_aload_n hx hb dX11_soonest_41 rfl (lv_at hl 0 rfl) ?_
          refine gf_9_29 hX hM ho q_18_5 dX11_soonest_42 ?_
          refine lv_iload hx hb dX11_soonest_45 (lv_at hl 6 rfl) ?_
          refine lv_icmp_ge (tgt := 60) hx hb dX11_soonest_47 (by decide) (fun hc47 => ?_) (fun hc47 => ?_)
          · replace hf := it_t hf hc47
            obtain ⟨v10, ev10⟩ : ∃ y : Int32, y = x7 + (1 : Int32) := ⟨_, rfl⟩
            replace hf := lt_e ev10 hf
            refine lv_iinc (v := v10) (lv' := [(7, .int v10), (0, .ref (eA E o)), (1, .int a1), (2, .int a2), (3, .int a3), (4, .int a4), (5, .int x5), (6, .int x6)]) hx hb dX11_soonest_60 hl (k := 7) rfl (by rw [ev10]; rfl) (by decide) rfl (fun ls hl => ?_)
            refine lv_goto (tgt := 9) hx hb dX11_soonest_63 (by decide) ?_
            exact hK9 _ _ _ _  hf _ _ hM _ (lv_sub hl [1, 2, 3, 4, 5, 6, 7, 0] rfl)
          · replace hf := it_f hf hc47
            exact w_X11_soonest_b50 l ho hK9  hf hX hM (lv_sub hl [0, 1, 2, 3, 4, 7] rfl)
def f_X11_soonest (o : Nat) (a1 : Int32) (a2 : Int32) (a3 : Int32) (a4 : Int32) (μ : Mem) : Option (Mem) :=
  f_X11_soonest_b9 o a1 a2 a3 a4  FU (-1 : Int32) (-1 : Int32) (0 : Int32) μ
set_option maxHeartbeats 4000000 in
set_option maxRecDepth 100000 in
theorem w_X11_soonest (l : Launch) {o : Nat} {a1 : Int32} {a2 : Int32} {a3 : Int32} {a4 : Int32} (ho : knd o = 9) {μ μ2 : Mem} {H : Heap} {locs : List Loc} {ls : Array Slot} (hf : f_X11_soonest o a1 a2 a3 a4 μ = some μ2) (hX : XX E p m meth c cX11_soonest 8 none s args RX11) (hM : MM E s μ H locs) (hl : lv_has ls 8 [(0, .ref (eA E o)), (1, .int a1), (2, .int a2), (3, .int a3), (4, .int a4)]) : W p l e (rmF 4 98) s m args below meth c H locs 0 0 (MQ below (QC E (none) μ2) args s 0 0 (AA E)) (F0 m 0 ls []) := by
  obtain ⟨⟨hx, hb, hml, hown, hts⟩, hXr⟩ := id hX
  unfold f_X11_soonest at hf
  refine lv_iconst (v := (-1)) hx hb dX11_soonest_0 (by decide) ?_
  refine lv_istore (lv' := [(5, .int (-1 : Int32)), (0, .ref (eA E o)), (1, .int a1), (2, .int a2), (3, .int a3), (4, .int a4)]) hx hb dX11_soonest_1 hl (by decide) rfl (fun ls hl => ?_)
  refine lv_iconst (v := (-1)) hx hb dX11_soonest_3 (by decide) ?_
  refine lv_istore (lv' := [(6, .int (-1 : Int32)), (5, .int (-1 : Int32)), (0, .ref (eA E o)), (1, .int a1), (2, .int a2), (3, .int a3), (4, .int a4)]) hx hb dX11_soonest_4 hl (by decide) rfl (fun ls hl => ?_)
  refine lv_iconst (v := 0) hx hb dX11_soonest_6 (by decide) ?_
  refine lv_istore (lv' := [(7, .int (0 : Int32)), (6, .int (-1 : Int32)), (5, .int (-1 : Int32)), (0, .ref (eA E o)), (1, .int a1), (2, .int a2), (3, .int a3), (4, .int a4)]) hx hb dX11_soonest_7 hl (by decide) rfl (fun ls hl => ?_)
  exact w_X11_soonest_b9 l ho hX  FU _ _ _ _  hf _ _ hM _ (lv_sub hl [3, 4, 5, 6, 7, 2, 1, 0] rfl)
theorem c_X11_soonest (l : Launch) {o : Nat} {a1 : Int32} {a2 : Int32} {a3 : Int32} {a4 : Int32} (ho : knd o = 9) {μ μ2 : Mem} (hf : f_X11_soonest o a1 a2 a3 a4 μ = some μ2) : CT E l yX11_soonest cX11_soonest 8 none (rmF 4 98) [.ref (eA E o), .int a1, .int a2, .int a3, .int a4] μ (none) μ2 := CT.of (show plainFor yX11_soonest = true by decide +kernel) (Nat.le_of_ble_eq_true rfl) rfl (fun _ _ _ _ _ _ _ _ hX hM hl => w_X11_soonest l ho hf hX hM hl)
theorem mv_X11_soonest : MV yX11_soonest cX11_soonest 8 none RX11 4 := ⟨q_32_12, q_32_10, q_32_11, q_1_5, by decide +kernel⟩
def f_X11_leg (o : Nat) (a1 : Int32) (a2 : Int32) (a3 : Int32) (a4 : Int32) (a5 : Int32) (μ : Mem) : Option (Int32 × Mem) :=
  bnd (f_X11_isSquare a1 μ) (fun r2 μ1 => (if r2 = 0 then some ((-1 : Int32), μ1) else gA a1 (aln (rf o 0)) ((if (μ1.1 (rf o 0) a1.toNatClampNeg) = (1 : Int32) then some ((-1 : Int32), μ1) else bnd (f_X11_isSide a2 μ1) (fun r4 μ3 => (if r4 = 0 then some ((-1 : Int32), μ3) else bnd (f_X11_isHeading a3 μ3) (fun r6 μ5 => (if r6 = 0 then some ((-1 : Int32), μ5) else bnd (f_X11_in a5 (0 : Int32) (2 : Int32) μ5) (fun r8 μ7 => (if r8 = 0 then some ((-1 : Int32), μ7) else bnd (f_X11_in a4 (0 : Int32) (9999 : Int32) μ7) (fun r10 μ9 => (if r10 = 0 then some ((-2 : Int32), μ9) else bnv (f_X11_soonest o a1 a2 a3 a4 μ9) (fun μ11 => (if (0 : Int32) ≤ (μ11.1 o 29) then (if a5 = 0 then some ((μ11.1 o 29), μ11) else (if a5 = (1 : Int32) then some ((μ11.1 o 30), μ11) else some ((μ11.1 o 31), μ11))) else some ((-5 : Int32), μ11)))))))))))))))
set_option maxHeartbeats 4000000 in
set_option maxRecDepth 100000 in
theorem w_X11_leg (l : Launch) {o : Nat} {a1 : Int32} {a2 : Int32} {a3 : Int32} {a4 : Int32} {a5 : Int32} (ho : knd o = 9) {μ μ2 : Mem} {r : Int32} {H : Heap} {locs : List Loc} {ls : Array Slot} (hf : f_X11_leg o a1 a2 a3 a4 a5 μ = some (r, μ2)) (hX : XX E p m meth c cX11_leg 6 (some .int) s args RX11) (hM : MM E s μ H locs) (hl : lv_has ls 6 [(0, .ref (eA E o)), (1, .int a1), (2, .int a2), (3, .int a3), (4, .int a4), (5, .int a5)]) : W p l e (rmF 5 125) s m args below meth c H locs 0 0 (MQ below (QC E (some (.int r)) μ2) args s 0 0 (AA E)) (F0 m 0 ls []) := by
  obtain ⟨⟨hx, hb, hml, hown, hts⟩, hXr⟩ := id hX
  unfold f_X11_leg at hf
  refine lv_iload_n hx hb dX11_leg_0 rfl (lv_at hl 1 rfl) ?_
  replace hf := bnd_some hf
  obtain ⟨r2, μ1, h1, hf⟩ := hf
  refine cl_S (As := [.int a1]) (rest := []) (st2 := [.int r2]) (n := 1) hX hM (c_X11_isSquare l  h1) mt_X11_isSquare q_11_21 ⟨rfl, rfl⟩ ⟨Nat.le_of_ble_eq_true rfl, Nat.le_of_ble_eq_true rfl⟩ rfl hl.1 rfl (Nat.le_of_ble_eq_true rfl) dX11_leg_1 rfl (fun H locs hM => ?_)
  refine lv_if_eq (tgt := 41) hx hb dX11_leg_4 (by decide) (fun hc4 => ?_) (fun hc4 => ?_)
  · replace hf := it_t hf hc4
    refine lv_iconst (v := (-1)) hx hb dX11_leg_41 (by decide) ?_
    exact rt_i hX hM (congrArg (fun z => some (Value.int z)) (so_1 hf)) (so_2 hf) dX11_leg_42
  · replace hf := it_f hf hc4
    refine lv_aload_n hx hb dX11_leg_7 rfl (lv_at hl 0 rfl) ?_
    refine gf_9_0 hX hM ho q_6_21 dX11_leg_8 ?_
    refine lv_iload_n hx hb dX11_leg_11 rfl (lv_at hl 1 rfl) ?_
    replace hf := gA_some hf
    obtain ⟨hi, hf⟩ := hf
    refine ald hX hM (kr_9_0 ho) hi dX11_leg_12 ?_
    refine lv_iconst (v := 1) hx hb dX11_leg_13 (by decide) ?_
    refine lv_icmp_eq (tgt := 41) hx hb dX11_leg_14 (by decide) (fun hc14 => ?_) (fun hc14 => ?_)
    · replace hf := it_t hf hc14
      refine lv_iconst (v := (-1)) hx hb dX11_leg_41 (by decide) ?_
      exact rt_i hX hM (congrArg (fun z => some (Value.int z)) (so_1 hf)) (so_2 hf) dX11_leg_42
    · replace hf := it_f hf hc14
      refine lv_iload_n hx hb dX11_leg_17 rfl (lv_at hl 2 rfl) ?_
      replace hf := bnd_some hf
      obtain ⟨r4, μ3, h18, hf⟩ := hf
      refine cl_S (As := [.int a2]) (rest := []) (st2 := [.int r4]) (n := 1) hX hM (c_X11_isSide l  h18) mt_X11_isSide q_17_14 ⟨rfl, rfl⟩ ⟨Nat.le_of_ble_eq_true rfl, Nat.le_of_ble_eq_true rfl⟩ rfl hl.1 rfl (Nat.le_of_ble_eq_true rfl) dX11_leg_18 rfl (fun H locs hM => ?_)
      refine lv_if_eq (tgt := 41) hx hb dX11_leg_21 (by decide) (fun hc21 => ?_) (fun hc21 => ?_)
      · replace hf := it_t hf hc21
        refine lv_iconst (v := (-1)) hx hb dX11_leg_41 (by decide) ?_
        exact rt_i hX hM (congrArg (fun z => some (Value.int z)) (so_1 hf)) (so_2 hf) dX11_leg_42
      · replace hf := it_f hf hc21
        refine lv_iload_n hx hb dX11_leg_24 rfl (lv_at hl 3 rfl) ?_
        replace hf := bnd_some hf
        obtain ⟨r6, μ5, h25, hf⟩ := hf
        refine cl_S (As := [.int a3]) (rest := []) (st2 := [.int r6]) (n := 1) hX hM (c_X11_isHeading l  h25) mt_X11_isHeading q_9_5 ⟨rfl, rfl⟩ ⟨Nat.le_of_ble_eq_true rfl, Nat.le_of_ble_eq_true rfl⟩ rfl hl.1 rfl (Nat.le_of_ble_eq_true rfl) dX11_leg_25 rfl (fun H locs hM => ?_)
        refine lv_if_eq (tgt := 41) hx hb dX11_leg_28 (by decide) (fun hc28 => ?_) (fun hc28 => ?_)
        · replace hf := it_t hf hc28
          refine lv_iconst (v := (-1)) hx hb dX11_leg_41 (by decide) ?_
          exact rt_i hX hM (congrArg (fun z => some (Value.int z)) (so_1 hf)) (so_2 hf) dX11_leg_42
        · replace hf := it_f hf hc28
          refine lv_iload hx hb dX11_leg_31 (lv_at hl 5 rfl) ?_
          refine lv_iconst (v := 0) hx hb dX11_leg_33 (by decide) ?_
          refine lv_iconst (v := 2) hx hb dX11_leg_34 (by decide) ?_
          replace hf := bnd_some hf
          obtain ⟨r8, μ7, h35, hf⟩ := hf
          refine cl_S (As := [.int a5, .int (0 : Int32), .int (2 : Int32)]) (rest := []) (st2 := [.int r8]) (n := 3) hX hM (c_X11_in l  h35) mt_X11_in q_8_23 ⟨rfl, rfl⟩ ⟨Nat.le_of_ble_eq_true rfl, Nat.le_of_ble_eq_true rfl⟩ rfl hl.1 rfl (Nat.le_of_ble_eq_true rfl) dX11_leg_35 rfl (fun H locs hM => ?_)
          refine lv_if_ne (tgt := 43) hx hb dX11_leg_38 (by decide) (fun hc38 => ?_) (fun hc38 => ?_)
          · replace hf := it_f hf hc38
            refine lv_iload hx hb dX11_leg_43 (lv_at hl 4 rfl) ?_
            refine lv_iconst (v := 0) hx hb dX11_leg_45 (by decide) ?_
            refine lv_sipush (v := 9999) hx hb dX11_leg_46 (by decide) ?_
            replace hf := bnd_some hf
            obtain ⟨r10, μ9, h49, hf⟩ := hf
            refine cl_S (As := [.int a4, .int (0 : Int32), .int (9999 : Int32)]) (rest := []) (st2 := [.int r10]) (n := 3) hX hM (c_X11_in l  h49) mt_X11_in q_8_23 ⟨rfl, rfl⟩ ⟨Nat.le_of_ble_eq_true rfl, Nat.le_of_ble_eq_true rfl⟩ rfl hl.1 rfl (Nat.le_of_ble_eq_true rfl) dX11_leg_49 rfl (fun H locs hM => ?_)
            refine lv_if_ne (tgt := 58) hx hb dX11_leg_52 (by decide) (fun hc52 => ?_) (fun hc52 => ?_)
            · replace hf := it_f hf hc52
              refine lv_aload_n hx hb dX11_leg_58 rfl (lv_at hl 0 rfl) ?_
              refine lv_iload_n hx hb dX11_leg_59 rfl (lv_at hl 1 rfl) ?_
              refine lv_iload_n hx hb dX11_leg_60 rfl (lv_at hl 2 rfl) ?_
              refine lv_iload_n hx hb dX11_leg_61 rfl (lv_at hl 3 rfl) ?_
              refine lv_iload hx hb dX11_leg_62 (lv_at hl 4 rfl) ?_
              replace hf := bnv_some hf
              obtain ⟨μ11, h64, hf⟩ := hf
              refine cl_V (As := [.int a1, .int a2, .int a3, .int a4]) (rest := []) (st2 := []) (n := 4) hX hM (c_X11_soonest l ho h64) mv_X11_soonest q_32_9 ⟨rfl, rfl⟩ ⟨Nat.le_of_ble_eq_true rfl, Nat.le_of_ble_eq_true rfl⟩ ho (by decide) rfl rfl rfl hl.1 rfl (Nat.le_of_ble_eq_true rfl) dX11_leg_64 rfl (fun H locs hM => ?_)
              refine lv_aload_n hx hb dX11_leg_67 rfl (lv_at hl 0 rfl) ?_
              refine gf_9_29 hX hM ho q_18_5 dX11_leg_68 ?_
              refine lv_if_ge (tgt := 77) hx hb dX11_leg_71 (by decide) (fun hc71 => ?_) (fun hc71 => ?_)
              · replace hf := it_t hf hc71
                refine lv_iload hx hb dX11_leg_77 (lv_at hl 5 rfl) ?_
                refine lv_if_ne (tgt := 89) hx hb dX11_leg_79 (by decide) (fun hc79 => ?_) (fun hc79 => ?_)
                · replace hf := it_f hf hc79
                  refine lv_iload hx hb dX11_leg_89 (lv_at hl 5 rfl) ?_
                  refine lv_iconst (v := 1) hx hb dX11_leg_91 (by decide) ?_
                  refine lv_icmp_ne (tgt := 102) hx hb dX11_leg_92 (by decide) (fun hc92 => ?_) (fun hc92 => ?_)
                  · replace hf := it_f hf hc92
                    refine lv_aload_n hx hb dX11_leg_102 rfl (lv_at hl 0 rfl) ?_
                    refine gf_9_31 hX hM ho q_18_4 dX11_leg_103 ?_
                    exact rt_i hX hM (congrArg (fun z => some (Value.int z)) (so_1 hf)) (so_2 hf) dX11_leg_106
                  · replace hf := it_t hf hc92
                    refine lv_aload_n hx hb dX11_leg_95 rfl (lv_at hl 0 rfl) ?_
                    refine gf_9_30 hX hM ho q_18_13 dX11_leg_96 ?_
                    refine lv_goto (tgt := 106) hx hb dX11_leg_99 (by decide) ?_
                    exact rt_i hX hM (congrArg (fun z => some (Value.int z)) (so_1 hf)) (so_2 hf) dX11_leg_106
                · replace hf := it_t hf hc79
                  refine lv_aload_n hx hb dX11_leg_82 rfl (lv_at hl 0 rfl) ?_
                  refine gf_9_29 hX hM ho q_18_5 dX11_leg_83 ?_
                  refine lv_goto (tgt := 106) hx hb dX11_leg_86 (by decide) ?_
                  exact rt_i hX hM (congrArg (fun z => some (Value.int z)) (so_1 hf)) (so_2 hf) dX11_leg_106
              · replace hf := it_f hf hc71
                refine lv_bipush (v := (-5)) hx hb dX11_leg_74 (by decide) ?_
                exact rt_i hX hM (congrArg (fun z => some (Value.int z)) (so_1 hf)) (so_2 hf) dX11_leg_76
            · replace hf := it_t hf hc52
              refine lv_bipush (v := (-2)) hx hb dX11_leg_55 (by decide) ?_
              exact rt_i hX hM (congrArg (fun z => some (Value.int z)) (so_1 hf)) (so_2 hf) dX11_leg_57
          · replace hf := it_t hf hc38
            refine lv_iconst (v := (-1)) hx hb dX11_leg_41 (by decide) ?_
            exact rt_i hX hM (congrArg (fun z => some (Value.int z)) (so_1 hf)) (so_2 hf) dX11_leg_42
theorem c_X11_leg (l : Launch) {o : Nat} {a1 : Int32} {a2 : Int32} {a3 : Int32} {a4 : Int32} {a5 : Int32} (ho : knd o = 9) {μ μ2 : Mem} {r : Int32} (hf : f_X11_leg o a1 a2 a3 a4 a5 μ = some (r, μ2)) : CT E l yX11_leg cX11_leg 6 (some .int) (rmF 5 125) [.ref (eA E o), .int a1, .int a2, .int a3, .int a4, .int a5] μ (some (.int r)) μ2 := CT.of (show plainFor yX11_leg = true by decide +kernel) (Nat.le_of_ble_eq_true rfl) rfl (fun _ _ _ _ _ _ _ _ hX hM hl => w_X11_leg l ho hf hX hM hl)
theorem mv_X11_leg : MV yX11_leg cX11_leg 6 (some .int) RX11 5 := ⟨q_32_8, q_32_6, q_32_7, q_1_5, by decide +kernel⟩
def f_X11_farthest_b8 (o : Nat)  : Nat → Int32 → Int32 → Mem → Option (Int32 × Mem)
  | 0, _, _, _ => none
  | n + 1, x1, x2, μ =>
    (if x2 < 0 then some (x1, μ) else bnd (f_X11_leastOf o x2 μ) (fun r3 μ2 => bnd (f_X11_leastOf o x1 μ2) (fun r5 μ4 => (if r3 < r5 then lt (x2 + (-1 : Int32)) (fun v6 => (f_X11_farthest_b8 o  n) x1 v6 μ4) else lt (x2 + (-1 : Int32)) (fun v7 => (f_X11_farthest_b8 o  n) x2 v7 μ4)))))
set_option maxHeartbeats 4000000 in
set_option maxRecDepth 100000 in
theorem w_X11_farthest_b8 (l : Launch) {o : Nat} (ho : knd o = 9) {μ2 : Mem} {r : Int32}  (hX : XX E p m meth c cX11_farthest 3 (some .int) s args RX11)  : ∀ (n : Nat) (x1 : Int32) (x2 : Int32) (μ : Mem), f_X11_farthest_b8 o  n x1 x2 μ = some (r, μ2) → ∀ (H : Heap) (locs : List Loc), MM E s μ H locs → ∀ ls : Array Slot, lv_has ls 3 [(0, .ref (eA E o)), (1, .int x1), (2, .int x2)] → W p l e (rmF 2 44) s m args below meth c H locs 0 0 (MQ below (QC E (some (.int r)) μ2) args s 0 0 (AA E)) (F0 m 8 ls []) := by
  obtain ⟨⟨hx, hb, hml, hown, hts⟩, hXr⟩ := id hX
  intro n
  induction n with
  | zero => intro x1 x2 μ  hf; exact no_none hf
  | succ n ih =>
    intro x1 x2 μ  hf H locs hM ls hl
    rw [f_X11_farthest_b8] at hf
    have hK8 := ih
    clear ih
    refine lv_iload_n hx hb dX11_farthest_8 rfl (lv_at hl 2 rfl) ?_
    refine lv_if_lt (tgt := 37) hx hb dX11_farthest_9 (by decide) (fun hc9 => ?_) (fun hc9 => ?_)
    · replace hf := it_t hf hc9
      refine lv_iload_n hx hb dX11_farthest_37 rfl (lv_at hl 1 rfl) ?_
      exact rt_i hX hM (congrArg (fun z => some (Value.int z)) (so_1 hf)) (so_2 hf) dX11_farthest_38
    · replace hf := it_f hf hc9
      refine lv_aload_n hx hb dX11_farthest_12 rfl (lv_at hl 0 rfl) ?_
      refine lv_iload_n hx hb dX11_farthest_13 rfl (lv_at hl 2 rfl) ?_
      replace hf := bnd_some hf
      obtain ⟨r3, μ2, h14, hf⟩ := hf
      refine cl_V (As := [.int x2]) (rest := []) (st2 := [.int r3]) (n := 1) hX hM (c_X11_leastOf l ho h14) mv_X11_leastOf q_19_16 ⟨rfl, rfl⟩ ⟨Nat.le_of_ble_eq_true rfl, Nat.le_of_ble_eq_true rfl⟩ ho (by decide) rfl rfl rfl hl.1 rfl (Nat.le_of_ble_eq_true rfl) dX11_farthest_14 rfl (fun H locs hM => ?_)
      refine lv_aload_n hx hb dX11_farthest_17 rfl (lv_at hl 0 rfl) ?_
      refine lv_iload_n hx hb dX11_farthest_18 rfl (lv_at hl 1 rfl) ?_
      replace hf := bnd_some hf
      obtain ⟨r5, μ4, h19, hf⟩ := hf
      refine cl_V (As := [.int x1]) (rest := [.int r3]) (st2 := [.int r5, .int r3]) (n := 1) hX hM (c_X11_leastOf l ho h19) mv_X11_leastOf q_19_16 ⟨rfl, rfl⟩ ⟨Nat.le_of_ble_eq_true rfl, Nat.le_of_ble_eq_true rfl⟩ ho (by decide) rfl rfl rfl hl.1 rfl (Nat.le_of_ble_eq_true rfl) dX11_farthest_19 rfl (fun H locs hM => ?_)
      refine lv_icmp_lt (tgt := 29) hx hb dX11_farthest_22 (by decide) (fun hc22 => ?_) (fun hc22 => ?_)
      · replace hf := it_t hf hc22
        refine lv_iload_n hx hb dX11_farthest_29 rfl (lv_at hl 1 rfl) ?_
        refine lv_istore_n (lv' := [(1, .int x1), (0, .ref (eA E o)), (2, .int x2)]) hx hb dX11_farthest_30 rfl hl (by decide) rfl (fun ls hl => ?_)
        obtain ⟨v6, ev6⟩ : ∃ y : Int32, y = x2 + (-1 : Int32) := ⟨_, rfl⟩
        replace hf := lt_e ev6 hf
        refine lv_iinc (v := v6) (lv' := [(2, .int v6), (1, .int x1), (0, .ref (eA E o))]) hx hb dX11_farthest_31 hl (k := 2) rfl (by rw [ev6]; rfl) (by decide) rfl (fun ls hl => ?_)
        refine lv_goto (tgt := 8) hx hb dX11_farthest_34 (by decide) ?_
        exact hK8 _ _ _  hf _ _ hM _ (lv_sub hl [2, 1, 0] rfl)
      · replace hf := it_f hf hc22
        refine lv_iload_n hx hb dX11_farthest_25 rfl (lv_at hl 2 rfl) ?_
        refine lv_goto (tgt := 30) hx hb dX11_farthest_26 (by decide) ?_
        refine lv_istore_n (lv' := [(1, .int x2), (0, .ref (eA E o)), (2, .int x2)]) hx hb dX11_farthest_30 rfl hl (by decide) rfl (fun ls hl => ?_)
        obtain ⟨v7, ev7⟩ : ∃ y : Int32, y = x2 + (-1 : Int32) := ⟨_, rfl⟩
        replace hf := lt_e ev7 hf
        refine lv_iinc (v := v7) (lv' := [(2, .int v7), (1, .int x2), (0, .ref (eA E o))]) hx hb dX11_farthest_31 hl (k := 2) rfl (by rw [ev7]; rfl) (by decide) rfl (fun ls hl => ?_)
        refine lv_goto (tgt := 8) hx hb dX11_farthest_34 (by decide) ?_
        exact hK8 _ _ _  hf _ _ hM _ (lv_sub hl [2, 1, 0] rfl)
def f_X11_farthest (o : Nat) (μ : Mem) : Option (Int32 × Mem) :=
  lt (μ.1 o 7) (fun v1 => f_X11_farthest_b8 o  FU v1 (35 : Int32) μ)
set_option maxHeartbeats 4000000 in
set_option maxRecDepth 100000 in
theorem w_X11_farthest (l : Launch) {o : Nat} (ho : knd o = 9) {μ μ2 : Mem} {r : Int32} {H : Heap} {locs : List Loc} {ls : Array Slot} (hf : f_X11_farthest o μ = some (r, μ2)) (hX : XX E p m meth c cX11_farthest 3 (some .int) s args RX11) (hM : MM E s μ H locs) (hl : lv_has ls 3 [(0, .ref (eA E o))]) : W p l e (rmF 2 44) s m args below meth c H locs 0 0 (MQ below (QC E (some (.int r)) μ2) args s 0 0 (AA E)) (F0 m 0 ls []) := by
  obtain ⟨⟨hx, hb, hml, hown, hts⟩, hXr⟩ := id hX
  unfold f_X11_farthest at hf
  refine lv_aload_n hx hb dX11_farthest_0 rfl (lv_at hl 0 rfl) ?_
  refine gf_9_7 hX hM ho q_11_20 dX11_farthest_1 ?_
  refine lv_topi (fun v1 ev1 => ?_)
  replace hf := lt_e ev1 hf
  refine lv_istore_n (lv' := [(1, .int v1), (0, .ref (eA E o))]) hx hb dX11_farthest_4 rfl hl (by decide) rfl (fun ls hl => ?_)
  refine lv_bipush (v := 35) hx hb dX11_farthest_5 (by decide) ?_
  refine lv_istore_n (lv' := [(2, .int (35 : Int32)), (1, .int v1), (0, .ref (eA E o))]) hx hb dX11_farthest_7 rfl hl (by decide) rfl (fun ls hl => ?_)
  exact w_X11_farthest_b8 l ho hX  FU _ _ _  hf _ _ hM _ (lv_sub hl [2, 1, 0] rfl)
theorem c_X11_farthest (l : Launch) {o : Nat} (ho : knd o = 9) {μ μ2 : Mem} {r : Int32} (hf : f_X11_farthest o μ = some (r, μ2)) : CT E l yX11_farthest cX11_farthest 3 (some .int) (rmF 2 44) [.ref (eA E o)] μ (some (.int r)) μ2 := CT.of (show plainFor yX11_farthest = true by decide +kernel) (Nat.le_of_ble_eq_true rfl) rfl (fun _ _ _ _ _ _ _ _ hX hM hl => w_X11_farthest l ho hf hX hM hl)
theorem mv_X11_farthest : MV yX11_farthest cX11_farthest 3 (some .int) RX11 0 := ⟨q_30_21, q_30_19, q_30_20, q_1_5, by decide +kernel⟩
def f_X11_least_b45 (o : Nat) (a1 : Int32) (a2 : Int32)  (t0 : Int32) (μ : Mem) : Option (Int32 × Mem) :=
  (if (0 : Int32) ≤ t0 then some (t0, μ) else some ((-5 : Int32), μ))
set_option maxHeartbeats 4000000 in
set_option maxRecDepth 100000 in
theorem w_X11_least_b45 (l : Launch) {o : Nat} {a1 : Int32} {a2 : Int32} (ho : knd o = 9) {μ2 : Mem} {r : Int32}   {t0 : Int32} {μ : Mem} {H : Heap} {locs : List Loc} {ls : Array Slot}  (hf : f_X11_least_b45 o a1 a2  t0 μ = some (r, μ2)) (hX : XX E p m meth c cX11_least 4 (some .int) s args RX11) (hM : MM E s μ H locs) (hl : lv_has ls 4 [(0, .ref (eA E o)), (1, .int a1), (2, .int a2)]) : W p l e (rmF 5 122) s m args below meth c H locs 0 0 (MQ below (QC E (some (.int r)) μ2) args s 0 0 (AA E)) (F0 m 45 ls [.int t0]) := by
  obtain ⟨⟨hx, hb, hml, hown, hts⟩, hXr⟩ := id hX
  unfold f_X11_least_b45 at hf
  refine lv_istore_n (lv' := [(3, .int t0), (0, .ref (eA E o)), (1, .int a1), (2, .int a2)]) hx hb dX11_least_45 rfl hl (by decide) rfl (fun ls hl => ?_)
  refine lv_iload_n hx hb dX11_least_46 rfl (lv_at hl 0 rfl) ?_
  refine lv_if_ge (tgt := 55) hx hb dX11_least_47 (by decide) (fun hc47 => ?_) (fun hc47 => ?_)
  · replace hf := it_t hf hc47
    refine lv_iload_n hx hb dX11_least_55 rfl (lv_at hl 0 rfl) ?_
    exact rt_i hX hM (congrArg (fun z => some (Value.int z)) (so_1 hf)) (so_2 hf) dX11_least_56
  · replace hf := it_f hf hc47
    refine lv_bipush (v := (-5)) hx hb dX11_least_50 (by decide) ?_
    refine lv_goto (tgt := 56) hx hb dX11_least_52 (by decide) ?_
    exact rt_i hX hM (congrArg (fun z => some (Value.int z)) (so_1 hf)) (so_2 hf) dX11_least_56
def f_X11_least (o : Nat) (a1 : Int32) (a2 : Int32) (μ : Mem) : Option (Int32 × Mem) :=
  bnd (f_X11_isSquare a1 μ) (fun r2 μ1 => (if r2 = 0 then some ((-1 : Int32), μ1) else bnd (f_X11_in a2 (0 : Int32) (2 : Int32) μ1) (fun r4 μ3 => (if r4 = 0 then some ((-1 : Int32), μ3) else bnv (f_X11_seeks o μ3) (fun μ5 => (if a2 = (2 : Int32) then bnd (f_X11_leastOf o a1 μ5) (fun r7 μ6 => f_X11_least_b45 o a1 a2  r7 μ6) else gA (((2 : Int32) * a1) + a2) (aln (rf o 33)) (f_X11_least_b45 o a1 a2  (μ5.1 (rf o 33) (((2 : Int32) * a1) + a2).toNatClampNeg) μ5)))))))
set_option maxHeartbeats 4000000 in
set_option maxRecDepth 100000 in
theorem w_X11_least (l : Launch) {o : Nat} {a1 : Int32} {a2 : Int32} (ho : knd o = 9) {μ μ2 : Mem} {r : Int32} {H : Heap} {locs : List Loc} {ls : Array Slot} (hf : f_X11_least o a1 a2 μ = some (r, μ2)) (hX : XX E p m meth c cX11_least 4 (some .int) s args RX11) (hM : MM E s μ H locs) (hl : lv_has ls 4 [(0, .ref (eA E o)), (1, .int a1), (2, .int a2)]) : W p l e (rmF 5 122) s m args below meth c H locs 0 0 (MQ below (QC E (some (.int r)) μ2) args s 0 0 (AA E)) (F0 m 0 ls []) := by
  obtain ⟨⟨hx, hb, hml, hown, hts⟩, hXr⟩ := id hX
  unfold f_X11_least at hf
  refine lv_iload_n hx hb dX11_least_0 rfl (lv_at hl 1 rfl) ?_
  replace hf := bnd_some hf
  obtain ⟨r2, μ1, h1, hf⟩ := hf
  refine cl_S (As := [.int a1]) (rest := []) (st2 := [.int r2]) (n := 1) hX hM (c_X11_isSquare l  h1) mt_X11_isSquare q_11_21 ⟨rfl, rfl⟩ ⟨Nat.le_of_ble_eq_true rfl, Nat.le_of_ble_eq_true rfl⟩ rfl hl.1 rfl (Nat.le_of_ble_eq_true rfl) dX11_least_1 rfl (fun H locs hM => ?_)
  refine lv_if_eq (tgt := 16) hx hb dX11_least_4 (by decide) (fun hc4 => ?_) (fun hc4 => ?_)
  · replace hf := it_t hf hc4
    refine lv_iconst (v := (-1)) hx hb dX11_least_16 (by decide) ?_
    exact rt_i hX hM (congrArg (fun z => some (Value.int z)) (so_1 hf)) (so_2 hf) dX11_least_17
  · replace hf := it_f hf hc4
    refine lv_iload_n hx hb dX11_least_7 rfl (lv_at hl 2 rfl) ?_
    refine lv_iconst (v := 0) hx hb dX11_least_8 (by decide) ?_
    refine lv_iconst (v := 2) hx hb dX11_least_9 (by decide) ?_
    replace hf := bnd_some hf
    obtain ⟨r4, μ3, h10, hf⟩ := hf
    refine cl_S (As := [.int a2, .int (0 : Int32), .int (2 : Int32)]) (rest := []) (st2 := [.int r4]) (n := 3) hX hM (c_X11_in l  h10) mt_X11_in q_8_23 ⟨rfl, rfl⟩ ⟨Nat.le_of_ble_eq_true rfl, Nat.le_of_ble_eq_true rfl⟩ rfl hl.1 rfl (Nat.le_of_ble_eq_true rfl) dX11_least_10 rfl (fun H locs hM => ?_)
    refine lv_if_ne (tgt := 18) hx hb dX11_least_13 (by decide) (fun hc13 => ?_) (fun hc13 => ?_)
    · replace hf := it_f hf hc13
      refine lv_aload_n hx hb dX11_least_18 rfl (lv_at hl 0 rfl) ?_
      replace hf := bnv_some hf
      obtain ⟨μ5, h19, hf⟩ := hf
      refine cl_V (As := []) (rest := []) (st2 := []) (n := 0) hX hM (c_X11_seeks l ho h19) mv_X11_seeks q_17_23 ⟨rfl, rfl⟩ ⟨Nat.le_of_ble_eq_true rfl, Nat.le_of_ble_eq_true rfl⟩ ho (by decide) rfl rfl rfl hl.1 rfl (Nat.le_of_ble_eq_true rfl) dX11_least_19 rfl (fun H locs hM => ?_)
      refine lv_iload_n hx hb dX11_least_22 rfl (lv_at hl 2 rfl) ?_
      refine lv_iconst (v := 2) hx hb dX11_least_23 (by decide) ?_
      refine lv_icmp_ne (tgt := 35) hx hb dX11_least_24 (by decide) (fun hc24 => ?_) (fun hc24 => ?_)
      · replace hf := it_f hf hc24
        refine lv_aload_n hx hb dX11_least_35 rfl (lv_at hl 0 rfl) ?_
        refine gf_9_33 hX hM ho q_7_15 dX11_least_36 ?_
        refine lv_iconst (v := 2) hx hb dX11_least_39 (by decide) ?_
        refine lv_iload_n hx hb dX11_least_40 rfl (lv_at hl 1 rfl) ?_
        refine lv_imul hx hb dX11_least_41 ?_
        refine lv_iload_n hx hb dX11_least_42 rfl (lv_at hl 2 rfl) ?_
        refine lv_iadd hx hb dX11_least_43 ?_
        replace hf := gA_some hf
        obtain ⟨hi, hf⟩ := hf
        refine ald hX hM (kr_9_33 ho) hi dX11_least_44 ?_
        exact w_X11_least_b45 l ho   hf hX hM (lv_sub hl [0, 1, 2] rfl)
      · replace hf := it_t hf hc24
        refine lv_aload_n hx hb dX11_least_27 rfl (lv_at hl 0 rfl) ?_
        refine lv_iload_n hx hb dX11_least_28 rfl (lv_at hl 1 rfl) ?_
        replace hf := bnd_some hf
        obtain ⟨r7, μ6, h29, hf⟩ := hf
        refine cl_V (As := [.int a1]) (rest := []) (st2 := [.int r7]) (n := 1) hX hM (c_X11_leastOf l ho h29) mv_X11_leastOf q_19_16 ⟨rfl, rfl⟩ ⟨Nat.le_of_ble_eq_true rfl, Nat.le_of_ble_eq_true rfl⟩ ho (by decide) rfl rfl rfl hl.1 rfl (Nat.le_of_ble_eq_true rfl) dX11_least_29 rfl (fun H locs hM => ?_)
        refine lv_goto (tgt := 45) hx hb dX11_least_32 (by decide) ?_
        exact w_X11_least_b45 l ho   hf hX hM (lv_sub hl [0, 1, 2] rfl)
    · replace hf := it_t hf hc13
      refine lv_iconst (v := (-1)) hx hb dX11_least_16 (by decide) ?_
      exact rt_i hX hM (congrArg (fun z => some (Value.int z)) (so_1 hf)) (so_2 hf) dX11_least_17
theorem c_X11_least (l : Launch) {o : Nat} {a1 : Int32} {a2 : Int32} (ho : knd o = 9) {μ μ2 : Mem} {r : Int32} (hf : f_X11_least o a1 a2 μ = some (r, μ2)) : CT E l yX11_least cX11_least 4 (some .int) (rmF 5 122) [.ref (eA E o), .int a1, .int a2] μ (some (.int r)) μ2 := CT.of (show plainFor yX11_least = true by decide +kernel) (Nat.le_of_ble_eq_true rfl) rfl (fun _ _ _ _ _ _ _ _ hX hM hl => w_X11_least l ho hf hX hM hl)
theorem mv_X11_least : MV yX11_least cX11_least 4 (some .int) RX11 2 := ⟨q_33_0, q_32_22, q_32_23, q_1_5, by decide +kernel⟩
def f_X11_lastOf_b37 (o : Nat) (a1 : Int32) (K29 : Int32 → Mem → Option (Int32 × Mem)) : Nat → Int32 → Int32 → Mem → Option (Int32 × Mem)
  | 0, _, _, _ => none
  | n + 1, x2, x3, μ =>
    (if (32 : Int32) ≤ x3 then lt (x2 + (1 : Int32)) (fun v1 => K29 v1 μ) else gA x2 (aln (rf o 33)) ((if (μ.1 (rf o 33) x2.toNatClampNeg) < 0 then lt (x2 + (1 : Int32)) (fun v2 => K29 v2 μ) else gA x2 (aln (rf o 33)) (bnd (f_X11_minuteOf (μ.1 (rf o 33) x2.toNatClampNeg) (x3 - x3 / (4 : Int32) * (4 : Int32)) μ) (fun r4 μ3 => bnv (f_X11_goes o (x2 / (2 : Int32)) (x2 - x2 / (2 : Int32) * (2 : Int32)) (x3 / (4 : Int32)) r4 μ3) (fun μ5 => gA a1 (aln (rf o 33)) ((if (μ5.1 o 29) = (μ5.1 (rf o 33) a1.toNatClampNeg) then (if (((2 : Int32) * (μ5.1 o 32)) + (μ5.1 o 31)) = a1 then some (((((100 : Int32) * (x2 / (2 : Int32))) + ((10 : Int32) * (x2 - x2 / (2 : Int32) * (2 : Int32)))) + (x3 / (4 : Int32))), μ5) else lt (x3 + (1 : Int32)) (fun v7 => (f_X11_lastOf_b37 o a1 K29 n) x2 v7 μ5)) else lt (x3 + (1 : Int32)) (fun v6 => (f_X11_lastOf_b37 o a1 K29 n) x2 v6 μ5)))))))))
set_option maxHeartbeats 4000000 in
set_option maxRecDepth 100000 in
theorem w_X11_lastOf_b37 (l : Launch) {o : Nat} {a1 : Int32} (ho : knd o = 9) {μ2 : Mem} {r : Int32} {K29 : Int32 → Mem → Option (Int32 × Mem)} (hX : XX E p m meth c cX11_lastOf 4 (some .int) s args RX11) (hK29 : ∀ (x2 : Int32) (μ : Mem), K29 x2 μ = some (r, μ2) → ∀ (H : Heap) (locs : List Loc), MM E s μ H locs → ∀ ls : Array Slot, lv_has ls 4 [(0, .ref (eA E o)), (1, .int a1), (2, .int x2)] → W p l e (rmF 4 98) s m args below meth c H locs 0 0 (MQ below (QC E (some (.int r)) μ2) args s 0 0 (AA E)) (F0 m 29 ls [])) : ∀ (n : Nat) (x2 : Int32) (x3 : Int32) (μ : Mem), f_X11_lastOf_b37 o a1 K29 n x2 x3 μ = some (r, μ2) → ∀ (H : Heap) (locs : List Loc), MM E s μ H locs → ∀ ls : Array Slot, lv_has ls 4 [(0, .ref (eA E o)), (1, .int a1), (2, .int x2), (3, .int x3)] → W p l e (rmF 4 98) s m args below meth c H locs 0 0 (MQ below (QC E (some (.int r)) μ2) args s 0 0 (AA E)) (F0 m 37 ls []) := by
  obtain ⟨⟨hx, hb, hml, hown, hts⟩, hXr⟩ := id hX
  intro n
  induction n with
  | zero => intro x2 x3 μ  hf; exact no_none hf
  | succ n ih =>
    intro x2 x3 μ  hf H locs hM ls hl
    rw [f_X11_lastOf_b37] at hf
    have hK37 := ih
    clear ih
    refine lv_iload_n hx hb dX11_lastOf_37 rfl (lv_at hl 3 rfl) ?_
    refine lv_bipush (v := 32) hx hb dX11_lastOf_38 (by decide) ?_
    refine lv_icmp_ge (tgt := 129) hx hb dX11_lastOf_40 (by decide) (fun hc40 => ?_) (fun hc40 => ?_)
    · replace hf := it_t hf hc40
      obtain ⟨v1, ev1⟩ : ∃ y : Int32, y = x2 + (1 : Int32) := ⟨_, rfl⟩
      replace hf := lt_e ev1 hf
      refine lv_iinc (v := v1) (lv' := [(2, .int v1), (0, .ref (eA E o)), (1, .int a1), (3, .int x3)]) hx hb dX11_lastOf_129 hl (k := 2) rfl (by rw [ev1]; rfl) (by decide) rfl (fun ls hl => ?_)
      refine lv_goto (tgt := 29) hx hb dX11_lastOf_132 (by decide) ?_
      exact hK29 _ _  hf _ _ hM _ (lv_sub hl [1, 2, 0] rfl)
    · replace hf := it_f hf hc40
      refine lv_aload_n hx hb dX11_lastOf_43 rfl (lv_at hl 0 rfl) ?_
      refine gf_9_33 hX hM ho q_7_15 dX11_lastOf_44 ?_
      refine lv_iload_n hx hb dX11_lastOf_47 rfl (lv_at hl 2 rfl) ?_
      replace hf := gA_some hf
      obtain ⟨hi, hf⟩ := hf
      refine ald hX hM (kr_9_33 ho) hi dX11_lastOf_48 ?_
      refine lv_if_lt (tgt := 129) hx hb dX11_lastOf_49 (by decide) (fun hc49 => ?_) (fun hc49 => ?_)
      · replace hf := it_t hf hc49
        obtain ⟨v2, ev2⟩ : ∃ y : Int32, y = x2 + (1 : Int32) := ⟨_, rfl⟩
        replace hf := lt_e ev2 hf
        refine lv_iinc (v := v2) (lv' := [(2, .int v2), (0, .ref (eA E o)), (1, .int a1), (3, .int x3)]) hx hb dX11_lastOf_129 hl (k := 2) rfl (by rw [ev2]; rfl) (by decide) rfl (fun ls hl => ?_)
        refine lv_goto (tgt := 29) hx hb dX11_lastOf_132 (by decide) ?_
        exact hK29 _ _  hf _ _ hM _ (lv_sub hl [1, 2, 0] rfl)
      · replace hf := it_f hf hc49
        refine lv_aload_n hx hb dX11_lastOf_52 rfl (lv_at hl 0 rfl) ?_
        refine lv_iload_n hx hb dX11_lastOf_53 rfl (lv_at hl 2 rfl) ?_
        refine lv_iconst (v := 2) hx hb dX11_lastOf_54 (by decide) ?_
        refine lv_idiv hx hb dX11_lastOf_55 (by decide) ?_
        refine lv_iload_n hx hb dX11_lastOf_56 rfl (lv_at hl 2 rfl) ?_
        refine lv_iconst (v := 2) hx hb dX11_lastOf_57 (by decide) ?_
        refine lv_irem hx hb dX11_lastOf_58 (by decide) ?_
        refine lv_iload_n hx hb dX11_lastOf_59 rfl (lv_at hl 3 rfl) ?_
        refine lv_iconst (v := 4) hx hb dX11_lastOf_60 (by decide) ?_
        refine lv_idiv hx hb dX11_lastOf_61 (by decide) ?_
        refine lv_aload_n hx hb dX11_lastOf_62 rfl (lv_at hl 0 rfl) ?_
        refine gf_9_33 hX hM ho q_7_15 dX11_lastOf_63 ?_
        refine lv_iload_n hx hb dX11_lastOf_66 rfl (lv_at hl 2 rfl) ?_
        replace hf := gA_some hf
        obtain ⟨hi, hf⟩ := hf
        refine ald hX hM (kr_9_33 ho) hi dX11_lastOf_67 ?_
        refine lv_iload_n hx hb dX11_lastOf_68 rfl (lv_at hl 3 rfl) ?_
        refine lv_iconst (v := 4) hx hb dX11_lastOf_69 (by decide) ?_
        refine lv_irem hx hb dX11_lastOf_70 (by decide) ?_
        replace hf := bnd_some hf
        obtain ⟨r4, μ3, h71, hf⟩ := hf
        refine cl_S (As := [.int (μ.1 (rf o 33) x2.toNatClampNeg), .int (x3 - x3 / (4 : Int32) * (4 : Int32))]) (rest := [.int (x3 / (4 : Int32)), .int (x2 - x2 / (2 : Int32) * (2 : Int32)), .int (x2 / (2 : Int32)), .ref (eA E o)]) (st2 := [.int r4, .int (x3 / (4 : Int32)), .int (x2 - x2 / (2 : Int32) * (2 : Int32)), .int (x2 / (2 : Int32)), .ref (eA E o)]) (n := 2) hX hM (c_X11_minuteOf l  h71) mt_X11_minuteOf q_18_6 ⟨rfl, rfl⟩ ⟨Nat.le_of_ble_eq_true rfl, Nat.le_of_ble_eq_true rfl⟩ rfl hl.1 rfl (Nat.le_of_ble_eq_true rfl) dX11_lastOf_71 rfl (fun H locs hM => ?_)
        replace hf := bnv_some hf
        obtain ⟨μ5, h74, hf⟩ := hf
        refine cl_V (As := [.int (x2 / (2 : Int32)), .int (x2 - x2 / (2 : Int32) * (2 : Int32)), .int (x3 / (4 : Int32)), .int r4]) (rest := []) (st2 := []) (n := 4) hX hM (c_X11_goes l ho h74) mv_X11_goes q_18_9 ⟨rfl, rfl⟩ ⟨Nat.le_of_ble_eq_true rfl, Nat.le_of_ble_eq_true rfl⟩ ho (by decide) rfl rfl rfl hl.1 rfl (Nat.le_of_ble_eq_true rfl) dX11_lastOf_74 rfl (fun H locs hM => ?_)
        refine lv_aload_n hx hb dX11_lastOf_77 rfl (lv_at hl 0 rfl) ?_
        refine gf_9_29 hX hM ho q_18_5 dX11_lastOf_78 ?_
        refine lv_aload_n hx hb dX11_lastOf_81 rfl (lv_at hl 0 rfl) ?_
        refine gf_9_33 hX hM ho q_7_15 dX11_lastOf_82 ?_
        refine lv_iload_n hx hb dX11_lastOf_85 rfl (lv_at hl 1 rfl) ?_
        replace hf := gA_some hf
        obtain ⟨hi, hf⟩ := hf
        refine ald hX hM (kr_9_33 ho) hi dX11_lastOf_86 ?_
        refine lv_icmp_ne (tgt := 123) hx hb dX11_lastOf_87 (by decide) (fun hc87 => ?_) (fun hc87 => ?_)
        · replace hf := it_f hf hc87
          obtain ⟨v6, ev6⟩ : ∃ y : Int32, y = x3 + (1 : Int32) := ⟨_, rfl⟩
          replace hf := lt_e ev6 hf
          refine lv_iinc (v := v6) (lv' := [(3, .int v6), (0, .ref (eA E o)), (1, .int a1), (2, .int x2)]) hx hb dX11_lastOf_123 hl (k := 3) rfl (by rw [ev6]; rfl) (by decide) rfl (fun ls hl => ?_)
          refine lv_goto (tgt := 37) hx hb dX11_lastOf_126 (by decide) ?_
          exact hK37 _ _ _  hf _ _ hM _ (lv_sub hl [1, 2, 3, 0] rfl)
        · replace hf := it_t hf hc87
          refine lv_iconst (v := 2) hx hb dX11_lastOf_90 (by decide) ?_
          refine lv_aload_n hx hb dX11_lastOf_91 rfl (lv_at hl 0 rfl) ?_
          refine gf_9_32 hX hM ho q_18_3 dX11_lastOf_92 ?_
          refine lv_imul hx hb dX11_lastOf_95 ?_
          refine lv_aload_n hx hb dX11_lastOf_96 rfl (lv_at hl 0 rfl) ?_
          refine gf_9_31 hX hM ho q_18_4 dX11_lastOf_97 ?_
          refine lv_iadd hx hb dX11_lastOf_100 ?_
          refine lv_iload_n hx hb dX11_lastOf_101 rfl (lv_at hl 1 rfl) ?_
          refine lv_icmp_ne (tgt := 123) hx hb dX11_lastOf_102 (by decide) (fun hc102 => ?_) (fun hc102 => ?_)
          · replace hf := it_f hf hc102
            obtain ⟨v7, ev7⟩ : ∃ y : Int32, y = x3 + (1 : Int32) := ⟨_, rfl⟩
            replace hf := lt_e ev7 hf
            refine lv_iinc (v := v7) (lv' := [(3, .int v7), (0, .ref (eA E o)), (1, .int a1), (2, .int x2)]) hx hb dX11_lastOf_123 hl (k := 3) rfl (by rw [ev7]; rfl) (by decide) rfl (fun ls hl => ?_)
            refine lv_goto (tgt := 37) hx hb dX11_lastOf_126 (by decide) ?_
            exact hK37 _ _ _  hf _ _ hM _ (lv_sub hl [1, 2, 3, 0] rfl)
          · replace hf := it_t hf hc102
            refine lv_bipush (v := 100) hx hb dX11_lastOf_105 (by decide) ?_
            refine lv_iload_n hx hb dX11_lastOf_107 rfl (lv_at hl 2 rfl) ?_
            refine lv_iconst (v := 2) hx hb dX11_lastOf_108 (by decide) ?_
            refine lv_idiv hx hb dX11_lastOf_109 (by decide) ?_
            refine lv_imul hx hb dX11_lastOf_110 ?_
            refine lv_bipush (v := 10) hx hb dX11_lastOf_111 (by decide) ?_
            refine lv_iload_n hx hb dX11_lastOf_113 rfl (lv_at hl 2 rfl) ?_
            refine lv_iconst (v := 2) hx hb dX11_lastOf_114 (by decide) ?_
            refine lv_irem hx hb dX11_lastOf_115 (by decide) ?_
            refine lv_imul hx hb dX11_lastOf_116 ?_
            refine lv_iadd hx hb dX11_lastOf_117 ?_
            refine lv_iload_n hx hb dX11_lastOf_118 rfl (lv_at hl 3 rfl) ?_
            refine lv_iconst (v := 4) hx hb dX11_lastOf_119 (by decide) ?_
            refine lv_idiv hx hb dX11_lastOf_120 (by decide) ?_
            refine lv_iadd hx hb dX11_lastOf_121 ?_
            exact rt_i hX hM (congrArg (fun z => some (Value.int z)) (so_1 hf)) (so_2 hf) dX11_lastOf_122
def f_X11_lastOf_b29 (o : Nat) (a1 : Int32)  : Nat → Int32 → Mem → Option (Int32 × Mem)
  | 0, _, _ => none
  | n + 1, x2, μ =>
    (if (72 : Int32) ≤ x2 then some ((-5 : Int32), μ) else f_X11_lastOf_b37 o a1 (f_X11_lastOf_b29 o a1  n) FU x2 (0 : Int32) μ)
set_option maxHeartbeats 4000000 in
set_option maxRecDepth 100000 in
theorem w_X11_lastOf_b29 (l : Launch) {o : Nat} {a1 : Int32} (ho : knd o = 9) {μ2 : Mem} {r : Int32}  (hX : XX E p m meth c cX11_lastOf 4 (some .int) s args RX11)  : ∀ (n : Nat) (x2 : Int32) (μ : Mem), f_X11_lastOf_b29 o a1  n x2 μ = some (r, μ2) → ∀ (H : Heap) (locs : List Loc), MM E s μ H locs → ∀ ls : Array Slot, lv_has ls 4 [(0, .ref (eA E o)), (1, .int a1), (2, .int x2)] → W p l e (rmF 4 98) s m args below meth c H locs 0 0 (MQ below (QC E (some (.int r)) μ2) args s 0 0 (AA E)) (F0 m 29 ls []) := by
  obtain ⟨⟨hx, hb, hml, hown, hts⟩, hXr⟩ := id hX
  intro n
  induction n with
  | zero => intro x2 μ  hf; exact no_none hf
  | succ n ih =>
    intro x2 μ  hf H locs hM ls hl
    rw [f_X11_lastOf_b29] at hf
    have hK29 := ih
    clear ih
    refine lv_iload_n hx hb dX11_lastOf_29 rfl (lv_at hl 2 rfl) ?_
    refine lv_bipush (v := 72) hx hb dX11_lastOf_30 (by decide) ?_
    refine lv_icmp_ge (tgt := 135) hx hb dX11_lastOf_32 (by decide) (fun hc32 => ?_) (fun hc32 => ?_)
    · replace hf := it_t hf hc32
      refine lv_bipush (v := (-5)) hx hb dX11_lastOf_135 (by decide) ?_
      exact rt_i hX hM (congrArg (fun z => some (Value.int z)) (so_1 hf)) (so_2 hf) dX11_lastOf_137
    · replace hf := it_f hf hc32
      refine lv_iconst (v := 0) hx hb dX11_lastOf_35 (by decide) ?_
      refine lv_istore_n (lv' := [(3, .int (0 : Int32)), (0, .ref (eA E o)), (1, .int a1), (2, .int x2)]) hx hb dX11_lastOf_36 rfl hl (by decide) rfl (fun ls hl => ?_)
      exact w_X11_lastOf_b37 l ho hX hK29 FU _ _ _  hf _ _ hM _ (lv_sub hl [1, 2, 3, 0] rfl)
def f_X11_lastOf (o : Nat) (a1 : Int32) (μ : Mem) : Option (Int32 × Mem) :=
  gA a1 (aln (rf o 33)) ((if (μ.1 (rf o 33) a1.toNatClampNeg) < 0 then some ((-5 : Int32), μ) else (if a1 = (((2 : Int32) * (μ.1 o 7)) + (μ.1 o 8)) then some ((-5 : Int32), μ) else f_X11_lastOf_b29 o a1  FU (0 : Int32) μ)))
set_option maxHeartbeats 4000000 in
set_option maxRecDepth 100000 in
theorem w_X11_lastOf (l : Launch) {o : Nat} {a1 : Int32} (ho : knd o = 9) {μ μ2 : Mem} {r : Int32} {H : Heap} {locs : List Loc} {ls : Array Slot} (hf : f_X11_lastOf o a1 μ = some (r, μ2)) (hX : XX E p m meth c cX11_lastOf 4 (some .int) s args RX11) (hM : MM E s μ H locs) (hl : lv_has ls 4 [(0, .ref (eA E o)), (1, .int a1)]) : W p l e (rmF 4 98) s m args below meth c H locs 0 0 (MQ below (QC E (some (.int r)) μ2) args s 0 0 (AA E)) (F0 m 0 ls []) := by
  obtain ⟨⟨hx, hb, hml, hown, hts⟩, hXr⟩ := id hX
  unfold f_X11_lastOf at hf
  refine lv_aload_n hx hb dX11_lastOf_0 rfl (lv_at hl 0 rfl) ?_
  refine gf_9_33 hX hM ho q_7_15 dX11_lastOf_1 ?_
  refine lv_iload_n hx hb dX11_lastOf_4 rfl (lv_at hl 1 rfl) ?_
  replace hf := gA_some hf
  obtain ⟨hi, hf⟩ := hf
  refine ald hX hM (kr_9_33 ho) hi dX11_lastOf_5 ?_
  refine lv_if_lt (tgt := 24) hx hb dX11_lastOf_6 (by decide) (fun hc6 => ?_) (fun hc6 => ?_)
  · replace hf := it_t hf hc6
    refine lv_bipush (v := (-5)) hx hb dX11_lastOf_24 (by decide) ?_
    exact rt_i hX hM (congrArg (fun z => some (Value.int z)) (so_1 hf)) (so_2 hf) dX11_lastOf_26
  · replace hf := it_f hf hc6
    refine lv_iload_n hx hb dX11_lastOf_9 rfl (lv_at hl 1 rfl) ?_
    refine lv_iconst (v := 2) hx hb dX11_lastOf_10 (by decide) ?_
    refine lv_aload_n hx hb dX11_lastOf_11 rfl (lv_at hl 0 rfl) ?_
    refine gf_9_7 hX hM ho q_11_20 dX11_lastOf_12 ?_
    refine lv_imul hx hb dX11_lastOf_15 ?_
    refine lv_aload_n hx hb dX11_lastOf_16 rfl (lv_at hl 0 rfl) ?_
    refine gf_9_8 hX hM ho q_17_21 dX11_lastOf_17 ?_
    refine lv_iadd hx hb dX11_lastOf_20 ?_
    refine lv_icmp_ne (tgt := 27) hx hb dX11_lastOf_21 (by decide) (fun hc21 => ?_) (fun hc21 => ?_)
    · replace hf := it_f hf hc21
      refine lv_iconst (v := 0) hx hb dX11_lastOf_27 (by decide) ?_
      refine lv_istore_n (lv' := [(2, .int (0 : Int32)), (0, .ref (eA E o)), (1, .int a1)]) hx hb dX11_lastOf_28 rfl hl (by decide) rfl (fun ls hl => ?_)
      exact w_X11_lastOf_b29 l ho hX  FU _ _  hf _ _ hM _ (lv_sub hl [1, 2, 0] rfl)
    · replace hf := it_t hf hc21
      refine lv_bipush (v := (-5)) hx hb dX11_lastOf_24 (by decide) ?_
      exact rt_i hX hM (congrArg (fun z => some (Value.int z)) (so_1 hf)) (so_2 hf) dX11_lastOf_26
theorem c_X11_lastOf (l : Launch) {o : Nat} {a1 : Int32} (ho : knd o = 9) {μ μ2 : Mem} {r : Int32} (hf : f_X11_lastOf o a1 μ = some (r, μ2)) : CT E l yX11_lastOf cX11_lastOf 4 (some .int) (rmF 4 98) [.ref (eA E o), .int a1] μ (some (.int r)) μ2 := CT.of (show plainFor yX11_lastOf = true by decide +kernel) (Nat.le_of_ble_eq_true rfl) rfl (fun _ _ _ _ _ _ _ _ hX hM hl => w_X11_lastOf l ho hf hX hM hl)
theorem mv_X11_lastOf : MV yX11_lastOf cX11_lastOf 4 (some .int) RX11 1 := ⟨q_34_2, q_34_0, q_34_1, q_1_5, by decide +kernel⟩
def f_X11_last (o : Nat) (a1 : Int32) (a2 : Int32) (μ : Mem) : Option (Int32 × Mem) :=
  bnd (f_X11_isSquare a1 μ) (fun r2 μ1 => (if r2 = 0 then some ((-1 : Int32), μ1) else bnd (f_X11_isSide a2 μ1) (fun r4 μ3 => (if r4 = 0 then some ((-1 : Int32), μ3) else bnv (f_X11_seeks o μ3) (fun μ5 => bnd (f_X11_lastOf o (((2 : Int32) * a1) + a2) μ5) (fun r7 μ6 => some (r7, μ6)))))))
set_option maxHeartbeats 4000000 in
set_option maxRecDepth 100000 in
theorem w_X11_last (l : Launch) {o : Nat} {a1 : Int32} {a2 : Int32} (ho : knd o = 9) {μ μ2 : Mem} {r : Int32} {H : Heap} {locs : List Loc} {ls : Array Slot} (hf : f_X11_last o a1 a2 μ = some (r, μ2)) (hX : XX E p m meth c cX11_last 3 (some .int) s args RX11) (hM : MM E s μ H locs) (hl : lv_has ls 3 [(0, .ref (eA E o)), (1, .int a1), (2, .int a2)]) : W p l e (rmF 5 122) s m args below meth c H locs 0 0 (MQ below (QC E (some (.int r)) μ2) args s 0 0 (AA E)) (F0 m 0 ls []) := by
  obtain ⟨⟨hx, hb, hml, hown, hts⟩, hXr⟩ := id hX
  unfold f_X11_last at hf
  refine lv_iload_n hx hb dX11_last_0 rfl (lv_at hl 1 rfl) ?_
  replace hf := bnd_some hf
  obtain ⟨r2, μ1, h1, hf⟩ := hf
  refine cl_S (As := [.int a1]) (rest := []) (st2 := [.int r2]) (n := 1) hX hM (c_X11_isSquare l  h1) mt_X11_isSquare q_11_21 ⟨rfl, rfl⟩ ⟨Nat.le_of_ble_eq_true rfl, Nat.le_of_ble_eq_true rfl⟩ rfl hl.1 rfl (Nat.le_of_ble_eq_true rfl) dX11_last_1 rfl (fun H locs hM => ?_)
  refine lv_if_eq (tgt := 14) hx hb dX11_last_4 (by decide) (fun hc4 => ?_) (fun hc4 => ?_)
  · replace hf := it_t hf hc4
    refine lv_iconst (v := (-1)) hx hb dX11_last_14 (by decide) ?_
    exact rt_i hX hM (congrArg (fun z => some (Value.int z)) (so_1 hf)) (so_2 hf) dX11_last_15
  · replace hf := it_f hf hc4
    refine lv_iload_n hx hb dX11_last_7 rfl (lv_at hl 2 rfl) ?_
    replace hf := bnd_some hf
    obtain ⟨r4, μ3, h8, hf⟩ := hf
    refine cl_S (As := [.int a2]) (rest := []) (st2 := [.int r4]) (n := 1) hX hM (c_X11_isSide l  h8) mt_X11_isSide q_17_14 ⟨rfl, rfl⟩ ⟨Nat.le_of_ble_eq_true rfl, Nat.le_of_ble_eq_true rfl⟩ rfl hl.1 rfl (Nat.le_of_ble_eq_true rfl) dX11_last_8 rfl (fun H locs hM => ?_)
    refine lv_if_ne (tgt := 16) hx hb dX11_last_11 (by decide) (fun hc11 => ?_) (fun hc11 => ?_)
    · replace hf := it_f hf hc11
      refine lv_aload_n hx hb dX11_last_16 rfl (lv_at hl 0 rfl) ?_
      replace hf := bnv_some hf
      obtain ⟨μ5, h17, hf⟩ := hf
      refine cl_V (As := []) (rest := []) (st2 := []) (n := 0) hX hM (c_X11_seeks l ho h17) mv_X11_seeks q_17_23 ⟨rfl, rfl⟩ ⟨Nat.le_of_ble_eq_true rfl, Nat.le_of_ble_eq_true rfl⟩ ho (by decide) rfl rfl rfl hl.1 rfl (Nat.le_of_ble_eq_true rfl) dX11_last_17 rfl (fun H locs hM => ?_)
      refine lv_aload_n hx hb dX11_last_20 rfl (lv_at hl 0 rfl) ?_
      refine lv_iconst (v := 2) hx hb dX11_last_21 (by decide) ?_
      refine lv_iload_n hx hb dX11_last_22 rfl (lv_at hl 1 rfl) ?_
      refine lv_imul hx hb dX11_last_23 ?_
      refine lv_iload_n hx hb dX11_last_24 rfl (lv_at hl 2 rfl) ?_
      refine lv_iadd hx hb dX11_last_25 ?_
      replace hf := bnd_some hf
      obtain ⟨r7, μ6, h26, hf⟩ := hf
      refine cl_V (As := [.int (((2 : Int32) * a1) + a2)]) (rest := []) (st2 := [.int r7]) (n := 1) hX hM (c_X11_lastOf l ho h26) mv_X11_lastOf q_33_23 ⟨rfl, rfl⟩ ⟨Nat.le_of_ble_eq_true rfl, Nat.le_of_ble_eq_true rfl⟩ ho (by decide) rfl rfl rfl hl.1 rfl (Nat.le_of_ble_eq_true rfl) dX11_last_26 rfl (fun H locs hM => ?_)
      exact rt_i hX hM (congrArg (fun z => some (Value.int z)) (so_1 hf)) (so_2 hf) dX11_last_29
    · replace hf := it_t hf hc11
      refine lv_iconst (v := (-1)) hx hb dX11_last_14 (by decide) ?_
      exact rt_i hX hM (congrArg (fun z => some (Value.int z)) (so_1 hf)) (so_2 hf) dX11_last_15
theorem c_X11_last (l : Launch) {o : Nat} {a1 : Int32} {a2 : Int32} (ho : knd o = 9) {μ μ2 : Mem} {r : Int32} (hf : f_X11_last o a1 a2 μ = some (r, μ2)) : CT E l yX11_last cX11_last 3 (some .int) (rmF 5 122) [.ref (eA E o), .int a1, .int a2] μ (some (.int r)) μ2 := CT.of (show plainFor yX11_last = true by decide +kernel) (Nat.le_of_ble_eq_true rfl) rfl (fun _ _ _ _ _ _ _ _ hX hM hl => w_X11_last l ho hf hX hM hl)
theorem mv_X11_last : MV yX11_last cX11_last 3 (some .int) RX11 2 := ⟨q_33_22, q_33_20, q_33_21, q_1_5, by decide +kernel⟩
def f_X11_courseTo_b66 (o : Nat) (a1 : Int32)  : Nat → Int32 → Mem → Option (Mem)
  | 0, _, _ => none
  | n + 1, x3, μ =>
    (if x3 = (-5 : Int32) then some μ else gA (μ.1 o 35) (aln (rf o 34)) (lt (sI μ (rf o 34) (μ.1 o 35).toNatClampNeg (x3 - x3 / (10 : Int32) * (10 : Int32))) (fun μ5 => lt (sI μ5 o 35 ((μ5.1 o 35) + (1 : Int32))) (fun μ6 => bnd (f_X11_lastOf o (((2 : Int32) * (x3 / (100 : Int32))) + ((x3 / (10 : Int32)) - (x3 / (10 : Int32)) / (10 : Int32) * (10 : Int32))) μ6) (fun r8 μ7 => (f_X11_courseTo_b66 o a1  n) r8 μ7)))))
set_option maxHeartbeats 4000000 in
set_option maxRecDepth 100000 in
theorem w_X11_courseTo_b66 (l : Launch) {o : Nat} {a1 : Int32} (ho : knd o = 9) {μ2 : Mem}  (hX : XX E p m meth c cX11_courseTo 4 none s args RX11)  : ∀ (n : Nat) (x3 : Int32) (μ : Mem), f_X11_courseTo_b66 o a1  n x3 μ = some μ2 → ∀ (H : Heap) (locs : List Loc), MM E s μ H locs → ∀ ls : Array Slot, lv_has ls 4 [(0, .ref (eA E o)), (1, .int a1), (3, .int x3)] → W p l e (rmF 5 121) s m args below meth c H locs 0 0 (MQ below (QC E (none) μ2) args s 0 0 (AA E)) (F0 m 66 ls []) := by
  obtain ⟨⟨hx, hb, hml, hown, hts⟩, hXr⟩ := id hX
  intro n
  induction n with
  | zero => intro x3 μ  hf; exact no_none hf
  | succ n ih =>
    intro x3 μ  hf H locs hM ls hl
    rw [f_X11_courseTo_b66] at hf
    have hK66 := ih
    clear ih
    refine lv_iload_n hx hb dX11_courseTo_66 rfl (lv_at hl 2 rfl) ?_
    refine lv_bipush (v := (-5)) hx hb dX11_courseTo_67 (by decide) ?_
    refine lv_icmp_eq (tgt := 117) hx hb dX11_courseTo_69 (by decide) (fun hc69 => ?_) (fun hc69 => ?_)
    · replace hf := it_t hf hc69
      exact rt_v hX hM rfl (Option.some.inj hf) dX11_courseTo_117
    · replace hf := it_f hf hc69
      refine lv_aload_n hx hb dX11_courseTo_72 rfl (lv_at hl 0 rfl) ?_
      refine gf_9_34 hX hM ho q_7_16 dX11_courseTo_73 ?_
      refine lv_aload_n hx hb dX11_courseTo_76 rfl (lv_at hl 0 rfl) ?_
      refine gf_9_35 hX hM ho q_34_20 dX11_courseTo_77 ?_
      refine lv_iload_n hx hb dX11_courseTo_80 rfl (lv_at hl 2 rfl) ?_
      refine lv_bipush (v := 10) hx hb dX11_courseTo_81 (by decide) ?_
      refine lv_irem hx hb dX11_courseTo_83 (by decide) ?_
      replace hf := gA_some hf
      obtain ⟨hi, hf⟩ := hf
      refine ast hX hM (kr_9_34 ho) hi dX11_courseTo_84 (fun μ5 H locs eμ5 hM => ?_)
      replace hf := lt_e eμ5 hf
      refine lv_aload_n hx hb dX11_courseTo_85 rfl (lv_at hl 0 rfl) ?_
      refine lv_dup hx hb dX11_courseTo_86 rfl ?_
      refine gf_9_35 hX hM ho q_34_20 dX11_courseTo_87 ?_
      refine lv_iconst (v := 1) hx hb dX11_courseTo_90 (by decide) ?_
      refine lv_iadd hx hb dX11_courseTo_91 ?_
      refine pf_9_35 hX hM ho q_34_20 dX11_courseTo_92 (fun μ6 H locs eμ6 hM => ?_)
      replace hf := lt_e eμ6 hf
      refine lv_aload_n hx hb dX11_courseTo_95 rfl (lv_at hl 0 rfl) ?_
      refine lv_iconst (v := 2) hx hb dX11_courseTo_96 (by decide) ?_
      refine lv_iload_n hx hb dX11_courseTo_97 rfl (lv_at hl 2 rfl) ?_
      refine lv_bipush (v := 100) hx hb dX11_courseTo_98 (by decide) ?_
      refine lv_idiv hx hb dX11_courseTo_100 (by decide) ?_
      refine lv_imul hx hb dX11_courseTo_101 ?_
      refine lv_iload_n hx hb dX11_courseTo_102 rfl (lv_at hl 2 rfl) ?_
      refine lv_bipush (v := 10) hx hb dX11_courseTo_103 (by decide) ?_
      refine lv_idiv hx hb dX11_courseTo_105 (by decide) ?_
      refine lv_bipush (v := 10) hx hb dX11_courseTo_106 (by decide) ?_
      refine lv_irem hx hb dX11_courseTo_108 (by decide) ?_
      refine lv_iadd hx hb dX11_courseTo_109 ?_
      replace hf := bnd_some hf
      obtain ⟨r8, μ7, h110, hf⟩ := hf
      refine cl_V (As := [.int (((2 : Int32) * (x3 / (100 : Int32))) + ((x3 / (10 : Int32)) - (x3 / (10 : Int32)) / (10 : Int32) * (10 : Int32)))]) (rest := []) (st2 := [.int r8]) (n := 1) hX hM (c_X11_lastOf l ho h110) mv_X11_lastOf q_33_23 ⟨rfl, rfl⟩ ⟨Nat.le_of_ble_eq_true rfl, Nat.le_of_ble_eq_true rfl⟩ ho (by decide) rfl rfl rfl hl.1 rfl (Nat.le_of_ble_eq_true rfl) dX11_courseTo_110 rfl (fun H locs hM => ?_)
      refine lv_istore_n (lv' := [(3, .int r8), (0, .ref (eA E o)), (1, .int a1)]) hx hb dX11_courseTo_113 rfl hl (by decide) rfl (fun ls hl => ?_)
      refine lv_goto (tgt := 66) hx hb dX11_courseTo_114 (by decide) ?_
      exact hK66 _ _  hf _ _ hM _ (lv_sub hl [1, 2, 0] rfl)
def f_X11_courseTo_b53 (o : Nat) (a1 : Int32)  (t0 : Int32) (t1 : Int32) (μ : Mem) : Option (Mem) :=
  lt (t0 + t1) (fun v1 => lt (sI μ o 35 (0 : Int32)) (fun μ2 => bnd (f_X11_lastOf o v1 μ2) (fun r4 μ3 => f_X11_courseTo_b66 o a1  FU r4 μ3)))
set_option maxHeartbeats 4000000 in
set_option maxRecDepth 100000 in
theorem w_X11_courseTo_b53 (l : Launch) {o : Nat} {a1 : Int32} (ho : knd o = 9) {μ2 : Mem}   {t0 : Int32} {t1 : Int32} {μ : Mem} {H : Heap} {locs : List Loc} {ls : Array Slot}  (hf : f_X11_courseTo_b53 o a1  t0 t1 μ = some μ2) (hX : XX E p m meth c cX11_courseTo 4 none s args RX11) (hM : MM E s μ H locs) (hl : lv_has ls 4 [(0, .ref (eA E o)), (1, .int a1)]) : W p l e (rmF 5 121) s m args below meth c H locs 0 0 (MQ below (QC E (none) μ2) args s 0 0 (AA E)) (F0 m 53 ls [.int t1, .int t0]) := by
  obtain ⟨⟨hx, hb, hml, hown, hts⟩, hXr⟩ := id hX
  unfold f_X11_courseTo_b53 at hf
  refine lv_iadd hx hb dX11_courseTo_53 ?_
  refine lv_topi (fun v1 ev1 => ?_)
  replace hf := lt_e ev1 hf
  refine lv_istore_n (lv' := [(2, .int v1), (0, .ref (eA E o)), (1, .int a1)]) hx hb dX11_courseTo_54 rfl hl (by decide) rfl (fun ls hl => ?_)
  refine lv_aload_n hx hb dX11_courseTo_55 rfl (lv_at hl 1 rfl) ?_
  refine lv_iconst (v := 0) hx hb dX11_courseTo_56 (by decide) ?_
  refine pf_9_35 hX hM ho q_34_20 dX11_courseTo_57 (fun μ2 H locs eμ2 hM => ?_)
  replace hf := lt_e eμ2 hf
  refine lv_aload_n hx hb dX11_courseTo_60 rfl (lv_at hl 1 rfl) ?_
  refine lv_iload_n hx hb dX11_courseTo_61 rfl (lv_at hl 0 rfl) ?_
  replace hf := bnd_some hf
  obtain ⟨r4, μ3, h62, hf⟩ := hf
  refine cl_V (As := [.int v1]) (rest := []) (st2 := [.int r4]) (n := 1) hX hM (c_X11_lastOf l ho h62) mv_X11_lastOf q_33_23 ⟨rfl, rfl⟩ ⟨Nat.le_of_ble_eq_true rfl, Nat.le_of_ble_eq_true rfl⟩ ho (by decide) rfl rfl rfl hl.1 rfl (Nat.le_of_ble_eq_true rfl) dX11_courseTo_62 rfl (fun H locs hM => ?_)
  refine lv_istore_n (lv' := [(3, .int r4), (2, .int v1), (0, .ref (eA E o)), (1, .int a1)]) hx hb dX11_courseTo_65 rfl hl (by decide) rfl (fun ls hl => ?_)
  exact w_X11_courseTo_b66 l ho hX  FU _ _  hf _ _ hM _ (lv_sub hl [2, 3, 0] rfl)
def f_X11_courseTo_b48 (o : Nat) (a1 : Int32)  (t0 : Int32) (μ : Mem) : Option (Mem) :=
  f_X11_courseTo_b53 o a1  t0 (1 : Int32) μ
set_option maxHeartbeats 4000000 in
set_option maxRecDepth 100000 in
theorem w_X11_courseTo_b48 (l : Launch) {o : Nat} {a1 : Int32} (ho : knd o = 9) {μ2 : Mem}   {t0 : Int32} {μ : Mem} {H : Heap} {locs : List Loc} {ls : Array Slot}  (hf : f_X11_courseTo_b48 o a1  t0 μ = some μ2) (hX : XX E p m meth c cX11_courseTo 4 none s args RX11) (hM : MM E s μ H locs) (hl : lv_has ls 4 [(0, .ref (eA E o)), (1, .int a1)]) : W p l e (rmF 5 121) s m args below meth c H locs 0 0 (MQ below (QC E (none) μ2) args s 0 0 (AA E)) (F0 m 48 ls [.int t0]) := by
  obtain ⟨⟨hx, hb, hml, hown, hts⟩, hXr⟩ := id hX
  unfold f_X11_courseTo_b48 at hf
  refine lv_iconst (v := 1) hx hb dX11_courseTo_48 (by decide) ?_
  refine lv_goto (tgt := 53) hx hb dX11_courseTo_49 (by decide) ?_
  exact w_X11_courseTo_b53 l ho   hf hX hM (lv_sub hl [0, 1] rfl)
def f_X11_courseTo_b52 (o : Nat) (a1 : Int32)  (t0 : Int32) (μ : Mem) : Option (Mem) :=
  f_X11_courseTo_b53 o a1  t0 (0 : Int32) μ
set_option maxHeartbeats 4000000 in
set_option maxRecDepth 100000 in
theorem w_X11_courseTo_b52 (l : Launch) {o : Nat} {a1 : Int32} (ho : knd o = 9) {μ2 : Mem}   {t0 : Int32} {μ : Mem} {H : Heap} {locs : List Loc} {ls : Array Slot}  (hf : f_X11_courseTo_b52 o a1  t0 μ = some μ2) (hX : XX E p m meth c cX11_courseTo 4 none s args RX11) (hM : MM E s μ H locs) (hl : lv_has ls 4 [(0, .ref (eA E o)), (1, .int a1)]) : W p l e (rmF 5 121) s m args below meth c H locs 0 0 (MQ below (QC E (none) μ2) args s 0 0 (AA E)) (F0 m 52 ls [.int t0]) := by
  obtain ⟨⟨hx, hb, hml, hown, hts⟩, hXr⟩ := id hX
  unfold f_X11_courseTo_b52 at hf
  refine lv_iconst (v := 0) hx hb dX11_courseTo_52 (by decide) ?_
  exact w_X11_courseTo_b53 l ho   hf hX hM (lv_sub hl [0, 1] rfl)
def f_X11_courseTo (o : Nat) (a1 : Int32) (μ : Mem) : Option (Mem) :=
  gA ((2 : Int32) * a1) (aln (rf o 33)) ((if (μ.1 (rf o 33) ((2 : Int32) * a1).toNatClampNeg) < 0 then f_X11_courseTo_b48 o a1  ((2 : Int32) * a1) μ else gA (((2 : Int32) * a1) + (1 : Int32)) (aln (rf o 33)) ((if (μ.1 (rf o 33) (((2 : Int32) * a1) + (1 : Int32)).toNatClampNeg) < 0 then f_X11_courseTo_b52 o a1  ((2 : Int32) * a1) μ else gA (((2 : Int32) * a1) + (1 : Int32)) (aln (rf o 33)) (gA ((2 : Int32) * a1) (aln (rf o 33)) ((if (μ.1 (rf o 33) ((2 : Int32) * a1).toNatClampNeg) ≤ (μ.1 (rf o 33) (((2 : Int32) * a1) + (1 : Int32)).toNatClampNeg) then f_X11_courseTo_b52 o a1  ((2 : Int32) * a1) μ else f_X11_courseTo_b48 o a1  ((2 : Int32) * a1) μ)))))))
set_option maxHeartbeats 4000000 in
set_option maxRecDepth 100000 in
theorem w_X11_courseTo (l : Launch) {o : Nat} {a1 : Int32} (ho : knd o = 9) {μ μ2 : Mem} {H : Heap} {locs : List Loc} {ls : Array Slot} (hf : f_X11_courseTo o a1 μ = some μ2) (hX : XX E p m meth c cX11_courseTo 4 none s args RX11) (hM : MM E s μ H locs) (hl : lv_has ls 4 [(0, .ref (eA E o)), (1, .int a1)]) : W p l e (rmF 5 121) s m args below meth c H locs 0 0 (MQ below (QC E (none) μ2) args s 0 0 (AA E)) (F0 m 0 ls []) := by
  obtain ⟨⟨hx, hb, hml, hown, hts⟩, hXr⟩ := id hX
  unfold f_X11_courseTo at hf
  refine lv_iconst (v := 2) hx hb dX11_courseTo_0 (by decide) ?_
  refine lv_iload_n hx hb dX11_courseTo_1 rfl (lv_at hl 1 rfl) ?_
  refine lv_imul hx hb dX11_courseTo_2 ?_
  refine lv_aload_n hx hb dX11_courseTo_3 rfl (lv_at hl 0 rfl) ?_
  refine gf_9_33 hX hM ho q_7_15 dX11_courseTo_4 ?_
  refine lv_iconst (v := 2) hx hb dX11_courseTo_7 (by decide) ?_
  refine lv_iload_n hx hb dX11_courseTo_8 rfl (lv_at hl 1 rfl) ?_
  refine lv_imul hx hb dX11_courseTo_9 ?_
  replace hf := gA_some hf
  obtain ⟨hi, hf⟩ := hf
  refine ald hX hM (kr_9_33 ho) hi dX11_courseTo_10 ?_
  refine lv_if_lt (tgt := 48) hx hb dX11_courseTo_11 (by decide) (fun hc11 => ?_) (fun hc11 => ?_)
  · replace hf := it_t hf hc11
    exact w_X11_courseTo_b48 l ho   hf hX hM (lv_sub hl [0, 1] rfl)
  · replace hf := it_f hf hc11
    refine lv_aload_n hx hb dX11_courseTo_14 rfl (lv_at hl 0 rfl) ?_
    refine gf_9_33 hX hM ho q_7_15 dX11_courseTo_15 ?_
    refine lv_iconst (v := 2) hx hb dX11_courseTo_18 (by decide) ?_
    refine lv_iload_n hx hb dX11_courseTo_19 rfl (lv_at hl 1 rfl) ?_
    refine lv_imul hx hb dX11_courseTo_20 ?_
    refine lv_iconst (v := 1) hx hb dX11_courseTo_21 (by decide) ?_
    refine lv_iadd hx hb dX11_courseTo_22 ?_
    replace hf := gA_some hf
    obtain ⟨hi, hf⟩ := hf
    refine ald hX hM (kr_9_33 ho) hi dX11_courseTo_23 ?_
    refine lv_if_lt (tgt := 52) hx hb dX11_courseTo_24 (by decide) (fun hc24 => ?_) (fun hc24 => ?_)
    · replace hf := it_t hf hc24
      exact w_X11_courseTo_b52 l ho   hf hX hM (lv_sub hl [0, 1] rfl)
    · replace hf := it_f hf hc24
      refine lv_aload_n hx hb dX11_courseTo_27 rfl (lv_at hl 0 rfl) ?_
      refine gf_9_33 hX hM ho q_7_15 dX11_courseTo_28 ?_
      refine lv_iconst (v := 2) hx hb dX11_courseTo_31 (by decide) ?_
      refine lv_iload_n hx hb dX11_courseTo_32 rfl (lv_at hl 1 rfl) ?_
      refine lv_imul hx hb dX11_courseTo_33 ?_
      refine lv_iconst (v := 1) hx hb dX11_courseTo_34 (by decide) ?_
      refine lv_iadd hx hb dX11_courseTo_35 ?_
      replace hf := gA_some hf
      obtain ⟨hi, hf⟩ := hf
      refine ald hX hM (kr_9_33 ho) hi dX11_courseTo_36 ?_
      refine lv_aload_n hx hb dX11_courseTo_37 rfl (lv_at hl 0 rfl) ?_
      refine gf_9_33 hX hM ho q_7_15 dX11_courseTo_38 ?_
      refine lv_iconst (v := 2) hx hb dX11_courseTo_41 (by decide) ?_
      refine lv_iload_n hx hb dX11_courseTo_42 rfl (lv_at hl 1 rfl) ?_
      refine lv_imul hx hb dX11_courseTo_43 ?_
      replace hf := gA_some hf
      obtain ⟨hi, hf⟩ := hf
      refine ald hX hM (kr_9_33 ho) hi dX11_courseTo_44 ?_
      refine lv_icmp_ge (tgt := 52) hx hb dX11_courseTo_45 (by decide) (fun hc45 => ?_) (fun hc45 => ?_)
      · replace hf := it_t hf hc45
        exact w_X11_courseTo_b52 l ho   hf hX hM (lv_sub hl [0, 1] rfl)
      · replace hf := it_f hf hc45
        exact w_X11_courseTo_b48 l ho   hf hX hM (lv_sub hl [0, 1] rfl)
theorem c_X11_courseTo (l : Launch) {o : Nat} {a1 : Int32} (ho : knd o = 9) {μ μ2 : Mem} (hf : f_X11_courseTo o a1 μ = some μ2) : CT E l yX11_courseTo cX11_courseTo 4 none (rmF 5 121) [.ref (eA E o), .int a1] μ (none) μ2 := CT.of (show plainFor yX11_courseTo = true by decide +kernel) (Nat.le_of_ble_eq_true rfl) rfl (fun _ _ _ _ _ _ _ _ hX hM hl => w_X11_courseTo l ho hf hX hM hl)
theorem mv_X11_courseTo : MV yX11_courseTo cX11_courseTo 4 none RX11 1 := ⟨q_35_0, q_34_22, q_34_23, q_1_5, by decide +kernel⟩
def f_X11_course (o : Nat) (a1 : Int32) (a2 : Int32) (μ : Mem) : Option (Int32 × Mem) :=
  bnd (f_X11_isSquare a1 μ) (fun r2 μ1 => (if r2 = 0 then some ((-1 : Int32), μ1) else (if (-1 : Int32) ≤ a2 then bnv (f_X11_seeks o μ1) (fun μ3 => bnd (f_X11_leastOf o a1 μ3) (fun r5 μ4 => (if (0 : Int32) ≤ r5 then bnv (f_X11_courseTo o a1 μ4) (fun μ6 => (if (0 : Int32) ≤ a2 then (if (μ6.1 o 35) ≤ a2 then some ((-5 : Int32), μ6) else gA (((μ6.1 o 35) - (1 : Int32)) - a2) (aln (rf o 34)) (some ((μ6.1 (rf o 34) (((μ6.1 o 35) - (1 : Int32)) - a2).toNatClampNeg), μ6))) else some ((μ6.1 o 35), μ6))) else some ((-5 : Int32), μ4)))) else some ((-1 : Int32), μ1))))
set_option maxHeartbeats 4000000 in
set_option maxRecDepth 100000 in
theorem w_X11_course (l : Launch) {o : Nat} {a1 : Int32} {a2 : Int32} (ho : knd o = 9) {μ μ2 : Mem} {r : Int32} {H : Heap} {locs : List Loc} {ls : Array Slot} (hf : f_X11_course o a1 a2 μ = some (r, μ2)) (hX : XX E p m meth c cX11_course 3 (some .int) s args RX11) (hM : MM E s μ H locs) (hl : lv_has ls 3 [(0, .ref (eA E o)), (1, .int a1), (2, .int a2)]) : W p l e (rmF 6 144) s m args below meth c H locs 0 0 (MQ below (QC E (some (.int r)) μ2) args s 0 0 (AA E)) (F0 m 0 ls []) := by
  obtain ⟨⟨hx, hb, hml, hown, hts⟩, hXr⟩ := id hX
  unfold f_X11_course at hf
  refine lv_iload_n hx hb dX11_course_0 rfl (lv_at hl 1 rfl) ?_
  replace hf := bnd_some hf
  obtain ⟨r2, μ1, h1, hf⟩ := hf
  refine cl_S (As := [.int a1]) (rest := []) (st2 := [.int r2]) (n := 1) hX hM (c_X11_isSquare l  h1) mt_X11_isSquare q_11_21 ⟨rfl, rfl⟩ ⟨Nat.le_of_ble_eq_true rfl, Nat.le_of_ble_eq_true rfl⟩ rfl hl.1 rfl (Nat.le_of_ble_eq_true rfl) dX11_course_1 rfl (fun H locs hM => ?_)
  refine lv_if_eq (tgt := 12) hx hb dX11_course_4 (by decide) (fun hc4 => ?_) (fun hc4 => ?_)
  · replace hf := it_t hf hc4
    refine lv_iconst (v := (-1)) hx hb dX11_course_12 (by decide) ?_
    exact rt_i hX hM (congrArg (fun z => some (Value.int z)) (so_1 hf)) (so_2 hf) dX11_course_13
  · replace hf := it_f hf hc4
    refine lv_iload_n hx hb dX11_course_7 rfl (lv_at hl 2 rfl) ?_
    refine lv_iconst (v := (-1)) hx hb dX11_course_8 (by decide) ?_
    refine lv_icmp_ge (tgt := 14) hx hb dX11_course_9 (by decide) (fun hc9 => ?_) (fun hc9 => ?_)
    · replace hf := it_t hf hc9
      refine lv_aload_n hx hb dX11_course_14 rfl (lv_at hl 0 rfl) ?_
      replace hf := bnv_some hf
      obtain ⟨μ3, h15, hf⟩ := hf
      refine cl_V (As := []) (rest := []) (st2 := []) (n := 0) hX hM (c_X11_seeks l ho h15) mv_X11_seeks q_17_23 ⟨rfl, rfl⟩ ⟨Nat.le_of_ble_eq_true rfl, Nat.le_of_ble_eq_true rfl⟩ ho (by decide) rfl rfl rfl hl.1 rfl (Nat.le_of_ble_eq_true rfl) dX11_course_15 rfl (fun H locs hM => ?_)
      refine lv_aload_n hx hb dX11_course_18 rfl (lv_at hl 0 rfl) ?_
      refine lv_iload_n hx hb dX11_course_19 rfl (lv_at hl 1 rfl) ?_
      replace hf := bnd_some hf
      obtain ⟨r5, μ4, h20, hf⟩ := hf
      refine cl_V (As := [.int a1]) (rest := []) (st2 := [.int r5]) (n := 1) hX hM (c_X11_leastOf l ho h20) mv_X11_leastOf q_19_16 ⟨rfl, rfl⟩ ⟨Nat.le_of_ble_eq_true rfl, Nat.le_of_ble_eq_true rfl⟩ ho (by decide) rfl rfl rfl hl.1 rfl (Nat.le_of_ble_eq_true rfl) dX11_course_20 rfl (fun H locs hM => ?_)
      refine lv_if_ge (tgt := 29) hx hb dX11_course_23 (by decide) (fun hc23 => ?_) (fun hc23 => ?_)
      · replace hf := it_t hf hc23
        refine lv_aload_n hx hb dX11_course_29 rfl (lv_at hl 0 rfl) ?_
        refine lv_iload_n hx hb dX11_course_30 rfl (lv_at hl 1 rfl) ?_
        replace hf := bnv_some hf
        obtain ⟨μ6, h31, hf⟩ := hf
        refine cl_V (As := [.int a1]) (rest := []) (st2 := []) (n := 1) hX hM (c_X11_courseTo l ho h31) mv_X11_courseTo q_34_21 ⟨rfl, rfl⟩ ⟨Nat.le_of_ble_eq_true rfl, Nat.le_of_ble_eq_true rfl⟩ ho (by decide) rfl rfl rfl hl.1 rfl (Nat.le_of_ble_eq_true rfl) dX11_course_31 rfl (fun H locs hM => ?_)
        refine lv_iload_n hx hb dX11_course_34 rfl (lv_at hl 2 rfl) ?_
        refine lv_if_ge (tgt := 43) hx hb dX11_course_35 (by decide) (fun hc35 => ?_) (fun hc35 => ?_)
        · replace hf := it_t hf hc35
          refine lv_iload_n hx hb dX11_course_43 rfl (lv_at hl 2 rfl) ?_
          refine lv_aload_n hx hb dX11_course_44 rfl (lv_at hl 0 rfl) ?_
          refine gf_9_35 hX hM ho q_34_20 dX11_course_45 ?_
          refine lv_icmp_ge (tgt := 67) hx hb dX11_course_48 (by decide) (fun hc48 => ?_) (fun hc48 => ?_)
          · replace hf := it_t hf hc48
            refine lv_bipush (v := (-5)) hx hb dX11_course_67 (by decide) ?_
            exact rt_i hX hM (congrArg (fun z => some (Value.int z)) (so_1 hf)) (so_2 hf) dX11_course_69
          · replace hf := it_f hf hc48
            refine lv_aload_n hx hb dX11_course_51 rfl (lv_at hl 0 rfl) ?_
            refine gf_9_34 hX hM ho q_7_16 dX11_course_52 ?_
            refine lv_aload_n hx hb dX11_course_55 rfl (lv_at hl 0 rfl) ?_
            refine gf_9_35 hX hM ho q_34_20 dX11_course_56 ?_
            refine lv_iconst (v := 1) hx hb dX11_course_59 (by decide) ?_
            refine lv_isub hx hb dX11_course_60 ?_
            refine lv_iload_n hx hb dX11_course_61 rfl (lv_at hl 2 rfl) ?_
            refine lv_isub hx hb dX11_course_62 ?_
            replace hf := gA_some hf
            obtain ⟨hi, hf⟩ := hf
            refine ald hX hM (kr_9_34 ho) hi dX11_course_63 ?_
            refine lv_goto (tgt := 69) hx hb dX11_course_64 (by decide) ?_
            exact rt_i hX hM (congrArg (fun z => some (Value.int z)) (so_1 hf)) (so_2 hf) dX11_course_69
        · replace hf := it_f hf hc35
          refine lv_aload_n hx hb dX11_course_38 rfl (lv_at hl 0 rfl) ?_
          refine gf_9_35 hX hM ho q_34_20 dX11_course_39 ?_
          exact rt_i hX hM (congrArg (fun z => some (Value.int z)) (so_1 hf)) (so_2 hf) dX11_course_42
      · replace hf := it_f hf hc23
        refine lv_bipush (v := (-5)) hx hb dX11_course_26 (by decide) ?_
        exact rt_i hX hM (congrArg (fun z => some (Value.int z)) (so_1 hf)) (so_2 hf) dX11_course_28
    · replace hf := it_f hf hc9
      refine lv_iconst (v := (-1)) hx hb dX11_course_12 (by decide) ?_
      exact rt_i hX hM (congrArg (fun z => some (Value.int z)) (so_1 hf)) (so_2 hf) dX11_course_13
theorem c_X11_course (l : Launch) {o : Nat} {a1 : Int32} {a2 : Int32} (ho : knd o = 9) {μ μ2 : Mem} {r : Int32} (hf : f_X11_course o a1 a2 μ = some (r, μ2)) : CT E l yX11_course cX11_course 3 (some .int) (rmF 6 144) [.ref (eA E o), .int a1, .int a2] μ (some (.int r)) μ2 := CT.of (show plainFor yX11_course = true by decide +kernel) (Nat.le_of_ble_eq_true rfl) rfl (fun _ _ _ _ _ _ _ _ hX hM hl => w_X11_course l ho hf hX hM hl)
theorem mv_X11_course : MV yX11_course cX11_course 3 (some .int) RX11 2 := ⟨q_34_19, q_34_17, q_34_18, q_1_5, by decide +kernel⟩
def f_X11_told (o : Nat) (a1 : Int32) (μ : Mem) : Option (Int32 × Mem) :=
  bnv (f_X11_seeks o μ) (fun μ1 => (if a1 = (0 : Int32) then gA a1 (aln (rf o 6)) (some ((μ1.1 (rf o 6) a1.toNatClampNeg), μ1)) else (if a1 = (1 : Int32) then gA a1 (aln (rf o 6)) (some ((μ1.1 (rf o 6) a1.toNatClampNeg), μ1)) else (if a1 = (2 : Int32) then some ((μ1.1 o 7), μ1) else (if a1 = (3 : Int32) then some ((μ1.1 o 8), μ1) else (if a1 = (4 : Int32) then some ((μ1.1 o 9), μ1) else (if a1 = (5 : Int32) then bnd (f_X11_lands o μ1) (fun r3 μ2 => some (r3, μ2)) else (if a1 = (6 : Int32) then bnd (f_X11_reached o μ1) (fun r5 μ4 => some (r5, μ4)) else (if a1 = (7 : Int32) then bnd (f_X11_farthest o μ1) (fun r7 μ6 => bnd (f_X11_leastOf o r7 μ6) (fun r9 μ8 => some (r9, μ8))) else (if a1 = (8 : Int32) then bnd (f_X11_farthest o μ1) (fun r11 μ10 => some (r11, μ10)) else some ((-1 : Int32), μ1)))))))))))
set_option maxHeartbeats 4000000 in
set_option maxRecDepth 100000 in
theorem w_X11_told (l : Launch) {o : Nat} {a1 : Int32} (ho : knd o = 9) {μ μ2 : Mem} {r : Int32} {H : Heap} {locs : List Loc} {ls : Array Slot} (hf : f_X11_told o a1 μ = some (r, μ2)) (hX : XX E p m meth c cX11_told 2 (some .int) s args RX11) (hM : MM E s μ H locs) (hl : lv_has ls 2 [(0, .ref (eA E o)), (1, .int a1)]) : W p l e (rmF 5 122) s m args below meth c H locs 0 0 (MQ below (QC E (some (.int r)) μ2) args s 0 0 (AA E)) (F0 m 0 ls []) := by
  obtain ⟨⟨hx, hb, hml, hown, hts⟩, hXr⟩ := id hX
  unfold f_X11_told at hf
  refine lv_aload_n hx hb dX11_told_0 rfl (lv_at hl 0 rfl) ?_
  replace hf := bnv_some hf
  obtain ⟨μ1, h1, hf⟩ := hf
  refine cl_V (As := []) (rest := []) (st2 := []) (n := 0) hX hM (c_X11_seeks l ho h1) mv_X11_seeks q_17_23 ⟨rfl, rfl⟩ ⟨Nat.le_of_ble_eq_true rfl, Nat.le_of_ble_eq_true rfl⟩ ho (by decide) rfl rfl rfl hl.1 rfl (Nat.le_of_ble_eq_true rfl) dX11_told_1 rfl (fun H locs hM => ?_)
  refine lv_iload_n hx hb dX11_told_4 rfl (lv_at hl 1 rfl) ?_
  by_cases hs5_0 : a1 = (0 : Int32)
  · replace hf := it_t hf hs5_0
    refine lv_tableIn (off := 51) (tgt := 56) hx hb dX11_told_5 (by rw [hs5_0]; decide) (by rw [hs5_0]; decide) (by rw [hs5_0]; rfl) (by decide) ?_
    refine lv_aload_n hx hb dX11_told_56 rfl (lv_at hl 0 rfl) ?_
    refine gf_9_6 hX hM ho q_7_3 dX11_told_57 ?_
    refine lv_iload_n hx hb dX11_told_60 rfl (lv_at hl 1 rfl) ?_
    replace hf := gA_some hf
    obtain ⟨hi, hf⟩ := hf
    refine ald hX hM (kr_9_6 ho) hi dX11_told_61 ?_
    exact rt_i hX hM (congrArg (fun z => some (Value.int z)) (so_1 hf)) (so_2 hf) dX11_told_62
  · replace hf := it_f hf hs5_0
    by_cases hs5_1 : a1 = (1 : Int32)
    · replace hf := it_t hf hs5_1
      refine lv_tableIn (off := 51) (tgt := 56) hx hb dX11_told_5 (by rw [hs5_1]; decide) (by rw [hs5_1]; decide) (by rw [hs5_1]; rfl) (by decide) ?_
      refine lv_aload_n hx hb dX11_told_56 rfl (lv_at hl 0 rfl) ?_
      refine gf_9_6 hX hM ho q_7_3 dX11_told_57 ?_
      refine lv_iload_n hx hb dX11_told_60 rfl (lv_at hl 1 rfl) ?_
      replace hf := gA_some hf
      obtain ⟨hi, hf⟩ := hf
      refine ald hX hM (kr_9_6 ho) hi dX11_told_61 ?_
      exact rt_i hX hM (congrArg (fun z => some (Value.int z)) (so_1 hf)) (so_2 hf) dX11_told_62
    · replace hf := it_f hf hs5_1
      by_cases hs5_2 : a1 = (2 : Int32)
      · replace hf := it_t hf hs5_2
        refine lv_tableIn (off := 58) (tgt := 63) hx hb dX11_told_5 (by rw [hs5_2]; decide) (by rw [hs5_2]; decide) (by rw [hs5_2]; rfl) (by decide) ?_
        refine lv_aload_n hx hb dX11_told_63 rfl (lv_at hl 0 rfl) ?_
        refine gf_9_7 hX hM ho q_11_20 dX11_told_64 ?_
        exact rt_i hX hM (congrArg (fun z => some (Value.int z)) (so_1 hf)) (so_2 hf) dX11_told_67
      · replace hf := it_f hf hs5_2
        by_cases hs5_3 : a1 = (3 : Int32)
        · replace hf := it_t hf hs5_3
          refine lv_tableIn (off := 63) (tgt := 68) hx hb dX11_told_5 (by rw [hs5_3]; decide) (by rw [hs5_3]; decide) (by rw [hs5_3]; rfl) (by decide) ?_
          refine lv_aload_n hx hb dX11_told_68 rfl (lv_at hl 0 rfl) ?_
          refine gf_9_8 hX hM ho q_17_21 dX11_told_69 ?_
          exact rt_i hX hM (congrArg (fun z => some (Value.int z)) (so_1 hf)) (so_2 hf) dX11_told_72
        · replace hf := it_f hf hs5_3
          by_cases hs5_4 : a1 = (4 : Int32)
          · replace hf := it_t hf hs5_4
            refine lv_tableIn (off := 68) (tgt := 73) hx hb dX11_told_5 (by rw [hs5_4]; decide) (by rw [hs5_4]; decide) (by rw [hs5_4]; rfl) (by decide) ?_
            refine lv_aload_n hx hb dX11_told_73 rfl (lv_at hl 0 rfl) ?_
            refine gf_9_9 hX hM ho q_17_22 dX11_told_74 ?_
            exact rt_i hX hM (congrArg (fun z => some (Value.int z)) (so_1 hf)) (so_2 hf) dX11_told_77
          · replace hf := it_f hf hs5_4
            by_cases hs5_5 : a1 = (5 : Int32)
            · replace hf := it_t hf hs5_5
              refine lv_tableIn (off := 73) (tgt := 78) hx hb dX11_told_5 (by rw [hs5_5]; decide) (by rw [hs5_5]; decide) (by rw [hs5_5]; rfl) (by decide) ?_
              refine lv_aload_n hx hb dX11_told_78 rfl (lv_at hl 0 rfl) ?_
              replace hf := bnd_some hf
              obtain ⟨r3, μ2, h79, hf⟩ := hf
              refine cl_V (As := []) (rest := []) (st2 := [.int r3]) (n := 0) hX hM (c_X11_lands l ho h79) mv_X11_lands q_30_14 ⟨rfl, rfl⟩ ⟨Nat.le_of_ble_eq_true rfl, Nat.le_of_ble_eq_true rfl⟩ ho (by decide) rfl rfl rfl hl.1 rfl (Nat.le_of_ble_eq_true rfl) dX11_told_79 rfl (fun H locs hM => ?_)
              exact rt_i hX hM (congrArg (fun z => some (Value.int z)) (so_1 hf)) (so_2 hf) dX11_told_82
            · replace hf := it_f hf hs5_5
              by_cases hs5_6 : a1 = (6 : Int32)
              · replace hf := it_t hf hs5_6
                refine lv_tableIn (off := 78) (tgt := 83) hx hb dX11_told_5 (by rw [hs5_6]; decide) (by rw [hs5_6]; decide) (by rw [hs5_6]; rfl) (by decide) ?_
                refine lv_aload_n hx hb dX11_told_83 rfl (lv_at hl 0 rfl) ?_
                replace hf := bnd_some hf
                obtain ⟨r5, μ4, h84, hf⟩ := hf
                refine cl_V (As := []) (rest := []) (st2 := [.int r5]) (n := 0) hX hM (c_X11_reached l ho h84) mv_X11_reached q_19_12 ⟨rfl, rfl⟩ ⟨Nat.le_of_ble_eq_true rfl, Nat.le_of_ble_eq_true rfl⟩ ho (by decide) rfl rfl rfl hl.1 rfl (Nat.le_of_ble_eq_true rfl) dX11_told_84 rfl (fun H locs hM => ?_)
                exact rt_i hX hM (congrArg (fun z => some (Value.int z)) (so_1 hf)) (so_2 hf) dX11_told_87
              · replace hf := it_f hf hs5_6
                by_cases hs5_7 : a1 = (7 : Int32)
                · replace hf := it_t hf hs5_7
                  refine lv_tableIn (off := 83) (tgt := 88) hx hb dX11_told_5 (by rw [hs5_7]; decide) (by rw [hs5_7]; decide) (by rw [hs5_7]; rfl) (by decide) ?_
                  refine lv_aload_n hx hb dX11_told_88 rfl (lv_at hl 0 rfl) ?_
                  refine lv_aload_n hx hb dX11_told_89 rfl (lv_at hl 0 rfl) ?_
                  replace hf := bnd_some hf
                  obtain ⟨r7, μ6, h90, hf⟩ := hf
                  refine cl_V (As := []) (rest := [.ref (eA E o)]) (st2 := [.int r7, .ref (eA E o)]) (n := 0) hX hM (c_X11_farthest l ho h90) mv_X11_farthest q_30_18 ⟨rfl, rfl⟩ ⟨Nat.le_of_ble_eq_true rfl, Nat.le_of_ble_eq_true rfl⟩ ho (by decide) rfl rfl rfl hl.1 rfl (Nat.le_of_ble_eq_true rfl) dX11_told_90 rfl (fun H locs hM => ?_)
                  replace hf := bnd_some hf
                  obtain ⟨r9, μ8, h93, hf⟩ := hf
                  refine cl_V (As := [.int r7]) (rest := []) (st2 := [.int r9]) (n := 1) hX hM (c_X11_leastOf l ho h93) mv_X11_leastOf q_19_16 ⟨rfl, rfl⟩ ⟨Nat.le_of_ble_eq_true rfl, Nat.le_of_ble_eq_true rfl⟩ ho (by decide) rfl rfl rfl hl.1 rfl (Nat.le_of_ble_eq_true rfl) dX11_told_93 rfl (fun H locs hM => ?_)
                  exact rt_i hX hM (congrArg (fun z => some (Value.int z)) (so_1 hf)) (so_2 hf) dX11_told_96
                · replace hf := it_f hf hs5_7
                  by_cases hs5_8 : a1 = (8 : Int32)
                  · replace hf := it_t hf hs5_8
                    refine lv_tableIn (off := 92) (tgt := 97) hx hb dX11_told_5 (by rw [hs5_8]; decide) (by rw [hs5_8]; decide) (by rw [hs5_8]; rfl) (by decide) ?_
                    refine lv_aload_n hx hb dX11_told_97 rfl (lv_at hl 0 rfl) ?_
                    replace hf := bnd_some hf
                    obtain ⟨r11, μ10, h98, hf⟩ := hf
                    refine cl_V (As := []) (rest := []) (st2 := [.int r11]) (n := 0) hX hM (c_X11_farthest l ho h98) mv_X11_farthest q_30_18 ⟨rfl, rfl⟩ ⟨Nat.le_of_ble_eq_true rfl, Nat.le_of_ble_eq_true rfl⟩ ho (by decide) rfl rfl rfl hl.1 rfl (Nat.le_of_ble_eq_true rfl) dX11_told_98 rfl (fun H locs hM => ?_)
                    exact rt_i hX hM (congrArg (fun z => some (Value.int z)) (so_1 hf)) (so_2 hf) dX11_told_101
                  · replace hf := it_f hf hs5_8
                    have hq : (a1).toInt < 0 ∨ 8 < (a1).toInt := by
                      have n0 := lv_neT hs5_0 (a := 0) rfl
                      have n1 := lv_neT hs5_1 (a := 1) rfl
                      have n2 := lv_neT hs5_2 (a := 2) rfl
                      have n3 := lv_neT hs5_3 (a := 3) rfl
                      have n4 := lv_neT hs5_4 (a := 4) rfl
                      have n5 := lv_neT hs5_5 (a := 5) rfl
                      have n6 := lv_neT hs5_6 (a := 6) rfl
                      have n7 := lv_neT hs5_7 (a := 7) rfl
                      have n8 := lv_neT hs5_8 (a := 8) rfl
                      omega
                    refine lv_tableOut (tgt := 102) hx hb dX11_told_5 hq (by decide) ?_
                    refine lv_iconst (v := (-1)) hx hb dX11_told_102 (by decide) ?_
                    exact rt_i hX hM (congrArg (fun z => some (Value.int z)) (so_1 hf)) (so_2 hf) dX11_told_103
theorem c_X11_told (l : Launch) {o : Nat} {a1 : Int32} (ho : knd o = 9) {μ μ2 : Mem} {r : Int32} (hf : f_X11_told o a1 μ = some (r, μ2)) : CT E l yX11_told cX11_told 2 (some .int) (rmF 5 122) [.ref (eA E o), .int a1] μ (some (.int r)) μ2 := CT.of (show plainFor yX11_told = true by decide +kernel) (Nat.le_of_ble_eq_true rfl) rfl (fun _ _ _ _ _ _ _ _ hX hM hl => w_X11_told l ho hf hX hM hl)
theorem mv_X11_told : MV yX11_told cX11_told 2 (some .int) RX11 1 := ⟨q_30_13, q_30_11, q_30_12, q_1_5, by decide +kernel⟩
def f_X11_sine (a0 : Int32) (μ : Mem) : Option (UInt64 × Mem) :=
  (if a0 = (0 : Int32) then some (FP.dconst0, μ) else (if a0 = (1 : Int32) then (if (4 : Int32) ≤ a0 then some ((13827916308072577997 : UInt64), μ) else some ((4604544271217802189 : UInt64), μ)) else (if a0 = (2 : Int32) then some (FP.dconst1, μ) else (if a0 = (3 : Int32) then (if (4 : Int32) ≤ a0 then some ((13827916308072577997 : UInt64), μ) else some ((4604544271217802189 : UInt64), μ)) else (if a0 = (4 : Int32) then some (FP.dconst0, μ) else (if a0 = (5 : Int32) then (if (4 : Int32) ≤ a0 then some ((13827916308072577997 : UInt64), μ) else some ((4604544271217802189 : UInt64), μ)) else (if a0 = (6 : Int32) then some ((13830554455654793216 : UInt64), μ) else (if (4 : Int32) ≤ a0 then some ((13827916308072577997 : UInt64), μ) else some ((4604544271217802189 : UInt64), μ)))))))))
set_option maxHeartbeats 4000000 in
set_option maxRecDepth 100000 in
theorem w_X11_sine (l : Launch) {a0 : Int32}  {μ μ2 : Mem} {r : UInt64} {H : Heap} {locs : List Loc} {ls : Array Slot} (hf : f_X11_sine a0 μ = some (r, μ2)) (hX : XX E p m meth c cX11_sine 1 (some .double) s args RX11) (hM : MM E s μ H locs) (hl : lv_has ls 1 [(0, .int a0)]) : W p l e (rmF 0 0) s m args below meth c H locs 0 0 (MQ below (QC E (some (.double r)) μ2) args s 0 0 (AA E)) (F0 m 0 ls []) := by
  obtain ⟨⟨hx, hb, hml, hown, hts⟩, hXr⟩ := id hX
  unfold f_X11_sine at hf
  refine lv_iload_n hx hb dX11_sine_0 rfl (lv_at hl 0 rfl) ?_
  by_cases hs1_0 : a0 = (0 : Int32)
  · replace hf := it_t hf hs1_0
    refine lv_tableIn (off := 43) (tgt := 44) hx hb dX11_sine_1 (by rw [hs1_0]; decide) (by rw [hs1_0]; decide) (by rw [hs1_0]; rfl) (by decide) ?_
    refine lv_dconst0 hx hb dX11_sine_44 ?_
    exact rt_d hX hM (congrArg (fun z => some (Value.double z)) (so_1 hf)) (so_2 hf) dX11_sine_45
  · replace hf := it_f hf hs1_0
    by_cases hs1_1 : a0 = (1 : Int32)
    · replace hf := it_t hf hs1_1
      refine lv_tableIn (off := 51) (tgt := 52) hx hb dX11_sine_1 (by rw [hs1_1]; decide) (by rw [hs1_1]; decide) (by rw [hs1_1]; rfl) (by decide) ?_
      refine lv_iload_n hx hb dX11_sine_52 rfl (lv_at hl 0 rfl) ?_
      refine lv_iconst (v := 4) hx hb dX11_sine_53 (by decide) ?_
      refine lv_icmp_ge (tgt := 63) hx hb dX11_sine_54 (by decide) (fun hc54 => ?_) (fun hc54 => ?_)
      · replace hf := it_t hf hc54
        refine lv_ldc2d (v := 13827916308072577997) hx hb hown (hts _ q_37_6) dX11_sine_63 ?_
        exact rt_d hX hM (congrArg (fun z => some (Value.double z)) (so_1 hf)) (so_2 hf) dX11_sine_66
      · replace hf := it_f hf hc54
        refine lv_ldc2d (v := 4604544271217802189) hx hb hown (hts _ q_37_5) dX11_sine_57 ?_
        refine lv_goto (tgt := 66) hx hb dX11_sine_60 (by decide) ?_
        exact rt_d hX hM (congrArg (fun z => some (Value.double z)) (so_1 hf)) (so_2 hf) dX11_sine_66
    · replace hf := it_f hf hs1_1
      by_cases hs1_2 : a0 = (2 : Int32)
      · replace hf := it_t hf hs1_2
        refine lv_tableIn (off := 45) (tgt := 46) hx hb dX11_sine_1 (by rw [hs1_2]; decide) (by rw [hs1_2]; decide) (by rw [hs1_2]; rfl) (by decide) ?_
        refine lv_dconst1 hx hb dX11_sine_46 ?_
        exact rt_d hX hM (congrArg (fun z => some (Value.double z)) (so_1 hf)) (so_2 hf) dX11_sine_47
      · replace hf := it_f hf hs1_2
        by_cases hs1_3 : a0 = (3 : Int32)
        · replace hf := it_t hf hs1_3
          refine lv_tableIn (off := 51) (tgt := 52) hx hb dX11_sine_1 (by rw [hs1_3]; decide) (by rw [hs1_3]; decide) (by rw [hs1_3]; rfl) (by decide) ?_
          refine lv_iload_n hx hb dX11_sine_52 rfl (lv_at hl 0 rfl) ?_
          refine lv_iconst (v := 4) hx hb dX11_sine_53 (by decide) ?_
          refine lv_icmp_ge (tgt := 63) hx hb dX11_sine_54 (by decide) (fun hc54 => ?_) (fun hc54 => ?_)
          · replace hf := it_t hf hc54
            refine lv_ldc2d (v := 13827916308072577997) hx hb hown (hts _ q_37_6) dX11_sine_63 ?_
            exact rt_d hX hM (congrArg (fun z => some (Value.double z)) (so_1 hf)) (so_2 hf) dX11_sine_66
          · replace hf := it_f hf hc54
            refine lv_ldc2d (v := 4604544271217802189) hx hb hown (hts _ q_37_5) dX11_sine_57 ?_
            refine lv_goto (tgt := 66) hx hb dX11_sine_60 (by decide) ?_
            exact rt_d hX hM (congrArg (fun z => some (Value.double z)) (so_1 hf)) (so_2 hf) dX11_sine_66
        · replace hf := it_f hf hs1_3
          by_cases hs1_4 : a0 = (4 : Int32)
          · replace hf := it_t hf hs1_4
            refine lv_tableIn (off := 43) (tgt := 44) hx hb dX11_sine_1 (by rw [hs1_4]; decide) (by rw [hs1_4]; decide) (by rw [hs1_4]; rfl) (by decide) ?_
            refine lv_dconst0 hx hb dX11_sine_44 ?_
            exact rt_d hX hM (congrArg (fun z => some (Value.double z)) (so_1 hf)) (so_2 hf) dX11_sine_45
          · replace hf := it_f hf hs1_4
            by_cases hs1_5 : a0 = (5 : Int32)
            · replace hf := it_t hf hs1_5
              refine lv_tableIn (off := 51) (tgt := 52) hx hb dX11_sine_1 (by rw [hs1_5]; decide) (by rw [hs1_5]; decide) (by rw [hs1_5]; rfl) (by decide) ?_
              refine lv_iload_n hx hb dX11_sine_52 rfl (lv_at hl 0 rfl) ?_
              refine lv_iconst (v := 4) hx hb dX11_sine_53 (by decide) ?_
              refine lv_icmp_ge (tgt := 63) hx hb dX11_sine_54 (by decide) (fun hc54 => ?_) (fun hc54 => ?_)
              · replace hf := it_t hf hc54
                refine lv_ldc2d (v := 13827916308072577997) hx hb hown (hts _ q_37_6) dX11_sine_63 ?_
                exact rt_d hX hM (congrArg (fun z => some (Value.double z)) (so_1 hf)) (so_2 hf) dX11_sine_66
              · replace hf := it_f hf hc54
                refine lv_ldc2d (v := 4604544271217802189) hx hb hown (hts _ q_37_5) dX11_sine_57 ?_
                refine lv_goto (tgt := 66) hx hb dX11_sine_60 (by decide) ?_
                exact rt_d hX hM (congrArg (fun z => some (Value.double z)) (so_1 hf)) (so_2 hf) dX11_sine_66
            · replace hf := it_f hf hs1_5
              by_cases hs1_6 : a0 = (6 : Int32)
              · replace hf := it_t hf hs1_6
                refine lv_tableIn (off := 47) (tgt := 48) hx hb dX11_sine_1 (by rw [hs1_6]; decide) (by rw [hs1_6]; decide) (by rw [hs1_6]; rfl) (by decide) ?_
                refine lv_ldc2d (v := 13830554455654793216) hx hb hown (hts _ q_37_4) dX11_sine_48 ?_
                exact rt_d hX hM (congrArg (fun z => some (Value.double z)) (so_1 hf)) (so_2 hf) dX11_sine_51
              · replace hf := it_f hf hs1_6
                have hq : (a0).toInt < 0 ∨ 6 < (a0).toInt := by
                  have n0 := lv_neT hs1_0 (a := 0) rfl
                  have n1 := lv_neT hs1_1 (a := 1) rfl
                  have n2 := lv_neT hs1_2 (a := 2) rfl
                  have n3 := lv_neT hs1_3 (a := 3) rfl
                  have n4 := lv_neT hs1_4 (a := 4) rfl
                  have n5 := lv_neT hs1_5 (a := 5) rfl
                  have n6 := lv_neT hs1_6 (a := 6) rfl
                  omega
                refine lv_tableOut (tgt := 52) hx hb dX11_sine_1 hq (by decide) ?_
                refine lv_iload_n hx hb dX11_sine_52 rfl (lv_at hl 0 rfl) ?_
                refine lv_iconst (v := 4) hx hb dX11_sine_53 (by decide) ?_
                refine lv_icmp_ge (tgt := 63) hx hb dX11_sine_54 (by decide) (fun hc54 => ?_) (fun hc54 => ?_)
                · replace hf := it_t hf hc54
                  refine lv_ldc2d (v := 13827916308072577997) hx hb hown (hts _ q_37_6) dX11_sine_63 ?_
                  exact rt_d hX hM (congrArg (fun z => some (Value.double z)) (so_1 hf)) (so_2 hf) dX11_sine_66
                · replace hf := it_f hf hc54
                  refine lv_ldc2d (v := 4604544271217802189) hx hb hown (hts _ q_37_5) dX11_sine_57 ?_
                  refine lv_goto (tgt := 66) hx hb dX11_sine_60 (by decide) ?_
                  exact rt_d hX hM (congrArg (fun z => some (Value.double z)) (so_1 hf)) (so_2 hf) dX11_sine_66
theorem c_X11_sine (l : Launch) {a0 : Int32}  {μ μ2 : Mem} {r : UInt64} (hf : f_X11_sine a0 μ = some (r, μ2)) : CT E l yX11_sine cX11_sine 1 (some .double) (rmF 0 0) [.int a0] μ (some (.double r)) μ2 := CT.of (show plainFor yX11_sine = true by decide +kernel) (Nat.le_of_ble_eq_true rfl) rfl (fun _ _ _ _ _ _ _ _ hX hM hl => w_X11_sine l  hf hX hM hl)
theorem mt_X11_sine : MT yX11_sine cX11_sine 1 (some .double) 1 := ⟨q_37_3, q_37_2, q_1_5, by decide +kernel⟩
def f_X11_cosine (a0 : Int32) (μ : Mem) : Option (UInt64 × Mem) :=
  bnd (f_X11_sine ((a0 + (2 : Int32)) - (a0 + (2 : Int32)) / (8 : Int32) * (8 : Int32)) μ) (fun r2 μ1 => some (r2, μ1))
set_option maxHeartbeats 4000000 in
set_option maxRecDepth 100000 in
theorem w_X11_cosine (l : Launch) {a0 : Int32}  {μ μ2 : Mem} {r : UInt64} {H : Heap} {locs : List Loc} {ls : Array Slot} (hf : f_X11_cosine a0 μ = some (r, μ2)) (hX : XX E p m meth c cX11_cosine 1 (some .double) s args RX11) (hM : MM E s μ H locs) (hl : lv_has ls 1 [(0, .int a0)]) : W p l e (rmF 1 20) s m args below meth c H locs 0 0 (MQ below (QC E (some (.double r)) μ2) args s 0 0 (AA E)) (F0 m 0 ls []) := by
  obtain ⟨⟨hx, hb, hml, hown, hts⟩, hXr⟩ := id hX
  unfold f_X11_cosine at hf
  refine lv_iload_n hx hb dX11_cosine_0 rfl (lv_at hl 0 rfl) ?_
  refine lv_iconst (v := 2) hx hb dX11_cosine_1 (by decide) ?_
  refine lv_iadd hx hb dX11_cosine_2 ?_
  refine lv_bipush (v := 8) hx hb dX11_cosine_3 (by decide) ?_
  refine lv_irem hx hb dX11_cosine_5 (by decide) ?_
  replace hf := bnd_some hf
  obtain ⟨r2, μ1, h6, hf⟩ := hf
  refine cl_S (As := [.int ((a0 + (2 : Int32)) - (a0 + (2 : Int32)) / (8 : Int32) * (8 : Int32))]) (rest := []) (st2 := [.double r2]) (n := 1) hX hM (c_X11_sine l  h6) mt_X11_sine q_37_1 ⟨rfl, rfl⟩ ⟨Nat.le_of_ble_eq_true rfl, Nat.le_of_ble_eq_true rfl⟩ rfl hl.1 rfl (Nat.le_of_ble_eq_true rfl) dX11_cosine_6 rfl (fun H locs hM => ?_)
  exact rt_d hX hM (congrArg (fun z => some (Value.double z)) (so_1 hf)) (so_2 hf) dX11_cosine_9
theorem c_X11_cosine (l : Launch) {a0 : Int32}  {μ μ2 : Mem} {r : UInt64} (hf : f_X11_cosine a0 μ = some (r, μ2)) : CT E l yX11_cosine cX11_cosine 1 (some .double) (rmF 1 20) [.int a0] μ (some (.double r)) μ2 := CT.of (show plainFor yX11_cosine = true by decide +kernel) (Nat.le_of_ble_eq_true rfl) rfl (fun _ _ _ _ _ _ _ _ hX hM hl => w_X11_cosine l  hf hX hM hl)
theorem mt_X11_cosine : MT yX11_cosine cX11_cosine 1 (some .double) 1 := ⟨q_37_9, q_37_8, q_1_5, by decide +kernel⟩
def f_X11_reckon_b122 (o : Nat) (a1 : Int32) (a2 : Int32)  (t0 : UInt64) (μ : Mem) : Option (Int64 × Mem) :=
  bnd (f_Jxe99ae_doubleToLongBits_ccdee t0 μ) (fun r7 μ6 => (if a2 = 0 then some ((r7.toUInt64 >>> ((32 : Int32).toInt64.toUInt64 &&& Int64.toUInt64 63)).toInt64, μ6) else some ((r7 &&& (4294967295 : Int64)), μ6)))
set_option maxHeartbeats 4000000 in
set_option maxRecDepth 100000 in
theorem w_X11_reckon_b122 (l : Launch) {o : Nat} {a1 : Int32} {a2 : Int32} (ho : knd o = 9) {μ2 : Mem} {r : Int64}   {t0 : UInt64} {μ : Mem} {H : Heap} {locs : List Loc} {ls : Array Slot}  (hf : f_X11_reckon_b122 o a1 a2  t0 μ = some (r, μ2)) (hX : XX E p m meth c cX11_reckon 10 (some .long) s args RX11) (hM : MM E s μ H locs) (hl : lv_has ls 10 [(0, .ref (eA E o)), (1, .int a1), (2, .int a2)]) : W p l e (rmF 3 69) s m args below meth c H locs 0 0 (MQ below (QC E (some (.long r)) μ2) args s 0 0 (AA E)) (F0 m 122 ls [.double t0]) := by
  obtain ⟨⟨hx, hb, hml, hown, hts⟩, hXr⟩ := id hX
  unfold f_X11_reckon_b122 at hf
  replace hf := bnd_some hf
  obtain ⟨r7, μ6, h122, hf⟩ := hf
  refine cl_S (As := [.double t0]) (rest := []) (st2 := [.long r7]) (n := 1) hX hM (c_Jxe99ae_doubleToLongBits_ccdee l  h122) mt_Jxe99ae_doubleToLongBits_ccdee q_37_10 ⟨rfl, rfl⟩ ⟨Nat.le_of_ble_eq_true rfl, Nat.le_of_ble_eq_true rfl⟩ rfl hl.1 rfl (Nat.le_of_ble_eq_true rfl) dX11_reckon_122 rfl (fun H locs hM => ?_)
  refine lv_lstore (lv' := [(8, .long r7), (0, .ref (eA E o)), (1, .int a1), (2, .int a2)]) hx hb dX11_reckon_125 hl (by decide) rfl (fun ls hl => ?_)
  refine lv_iload_n hx hb dX11_reckon_127 rfl (lv_at hl 3 rfl) ?_
  refine lv_if_ne (tgt := 139) hx hb dX11_reckon_128 (by decide) (fun hc128 => ?_) (fun hc128 => ?_)
  · replace hf := it_f hf hc128
    refine lv_lload hx hb dX11_reckon_139 (lv_at hl 0 rfl) ?_
    refine lv_ldc2 (v := 4294967295) hx hb hown (hts _ q_36_21) dX11_reckon_141 ?_
    refine lv_land hx hb dX11_reckon_144 ?_
    exact rt_l hX hM (congrArg (fun z => some (Value.long z)) (so_1 hf)) (so_2 hf) dX11_reckon_145
  · replace hf := it_t hf hc128
    refine lv_lload hx hb dX11_reckon_131 (lv_at hl 0 rfl) ?_
    refine lv_bipush (v := 32) hx hb dX11_reckon_133 (by decide) ?_
    refine lv_lushr hx hb dX11_reckon_135 rfl ?_
    refine lv_goto (tgt := 145) hx hb dX11_reckon_136 (by decide) ?_
    exact rt_l hX hM (congrArg (fun z => some (Value.long z)) (so_1 hf)) (so_2 hf) dX11_reckon_145
def f_X11_reckon_b34 (o : Nat) (a1 : Int32) (a2 : Int32)  : Nat → UInt64 → UInt64 → Int32 → Int32 → Mem → Option (Int64 × Mem)
  | 0, _, _, _, _, _ => none
  | n + 1, x3, x5, x7, x8, μ =>
    (if (μ.1 o 10) ≤ x8 then (if a1 = 0 then f_X11_reckon_b122 o a1 a2  x3 μ else f_X11_reckon_b122 o a1 a2  x5 μ) else gA x8 (aln (rf o 11)) (bnd (f_X11_paceOf o (μ.1 o 7) (μ.1 (rf o 11) x8.toNatClampNeg) x7 μ) (fun r9 μ8 => gP (nn32 (FP.fdiv (FP.i2f r9) (1086324736 : UInt32))) (lt (FP.fdiv (FP.i2f r9) (1086324736 : UInt32)) (fun v10 => gP (nn64 (FP.f2d v10)) (gA x8 (aln (rf o 11)) (bnd (f_X11_sine (μ8.1 (rf o 11) x8.toNatClampNeg) μ8) (fun r12 μ11 => gP (nn64 (FP.dmul (FP.f2d v10) r12)) (gP (nn64 (FP.dadd x3 (FP.dmul (FP.f2d v10) r12))) (lt (FP.dadd x3 (FP.dmul (FP.f2d v10) r12)) (fun v13 => gP (nn64 (FP.f2d v10)) (gA x8 (aln (rf o 11)) (bnd (f_X11_cosine (μ11.1 (rf o 11) x8.toNatClampNeg) μ11) (fun r15 μ14 => gP (nn64 (FP.dmul (FP.f2d v10) r15)) (gP (nn64 (FP.dadd x5 (FP.dmul (FP.f2d v10) r15))) (lt (FP.dadd x5 (FP.dmul (FP.f2d v10) r15)) (fun v16 => lt (x7 + (10 : Int32)) (fun v17 => lt (x8 + (1 : Int32)) (fun v18 => (f_X11_reckon_b34 o a1 a2  n) v13 v16 v17 v18 μ14)))))))))))))))))))
set_option maxHeartbeats 4000000 in
set_option maxRecDepth 100000 in
theorem w_X11_reckon_b34 (l : Launch) {o : Nat} {a1 : Int32} {a2 : Int32} (ho : knd o = 9) {μ2 : Mem} {r : Int64}  (hX : XX E p m meth c cX11_reckon 10 (some .long) s args RX11)  : ∀ (n : Nat) (x3 : UInt64) (x5 : UInt64) (x7 : Int32) (x8 : Int32) (μ : Mem), f_X11_reckon_b34 o a1 a2  n x3 x5 x7 x8 μ = some (r, μ2) → ∀ (H : Heap) (locs : List Loc), MM E s μ H locs → ∀ ls : Array Slot, lv_has ls 10 [(0, .ref (eA E o)), (1, .int a1), (2, .int a2), (3, .double x3), (5, .double x5), (7, .int x7), (8, .int x8)] → W p l e (rmF 3 69) s m args below meth c H locs 0 0 (MQ below (QC E (some (.long r)) μ2) args s 0 0 (AA E)) (F0 m 34 ls []) := by
  obtain ⟨⟨hx, hb, hml, hown, hts⟩, hXr⟩ := id hX
  intro n
  induction n with
  | zero => intro x3 x5 x7 x8 μ  hf; exact no_none hf
  | succ n ih =>
    intro x3 x5 x7 x8 μ  hf H locs hM ls hl
    rw [f_X11_reckon_b34] at hf
    have hK34 := ih
    clear ih
    refine lv_iload hx hb dX11_reckon_34 (lv_at hl 6 rfl) ?_
    refine lv_aload_n hx hb dX11_reckon_36 rfl (lv_at hl 0 rfl) ?_
    refine gf_9_10 hX hM ho q_21_2 dX11_reckon_37 ?_
    refine lv_icmp_ge (tgt := 112) hx hb dX11_reckon_40 (by decide) (fun hc40 => ?_) (fun hc40 => ?_)
    · replace hf := it_t hf hc40
      refine lv_iload_n hx hb dX11_reckon_112 rfl (lv_at hl 1 rfl) ?_
      refine lv_if_ne (tgt := 120) hx hb dX11_reckon_113 (by decide) (fun hc113 => ?_) (fun hc113 => ?_)
      · replace hf := it_f hf hc113
        refine lv_dload hx hb dX11_reckon_120 (lv_at hl 4 rfl) ?_
        exact w_X11_reckon_b122 l ho   hf hX hM (lv_sub hl [0, 1, 2] rfl)
      · replace hf := it_t hf hc113
        refine lv_dload_n hx hb dX11_reckon_116 rfl (lv_at hl 3 rfl) ?_
        refine lv_goto (tgt := 122) hx hb dX11_reckon_117 (by decide) ?_
        exact w_X11_reckon_b122 l ho   hf hX hM (lv_sub hl [0, 1, 2] rfl)
    · replace hf := it_f hf hc40
      refine lv_aload_n hx hb dX11_reckon_43 rfl (lv_at hl 0 rfl) ?_
      refine lv_aload_n hx hb dX11_reckon_44 rfl (lv_at hl 0 rfl) ?_
      refine gf_9_7 hX hM ho q_11_20 dX11_reckon_45 ?_
      refine lv_aload_n hx hb dX11_reckon_48 rfl (lv_at hl 0 rfl) ?_
      refine gf_9_11 hX hM ho q_7_4 dX11_reckon_49 ?_
      refine lv_iload hx hb dX11_reckon_52 (lv_at hl 6 rfl) ?_
      replace hf := gA_some hf
      obtain ⟨hi, hf⟩ := hf
      refine ald hX hM (kr_9_11 ho) hi dX11_reckon_54 ?_
      refine lv_iload hx hb dX11_reckon_55 (lv_at hl 5 rfl) ?_
      replace hf := bnd_some hf
      obtain ⟨r9, μ8, h57, hf⟩ := hf
      refine cl_V (As := [.int (μ.1 o 7), .int (μ.1 (rf o 11) x8.toNatClampNeg), .int x7]) (rest := []) (st2 := [.int r9]) (n := 3) hX hM (c_X11_paceOf l ho h57) mv_X11_paceOf q_18_18 ⟨rfl, rfl⟩ ⟨Nat.le_of_ble_eq_true rfl, Nat.le_of_ble_eq_true rfl⟩ ho (by decide) rfl rfl rfl hl.1 rfl (Nat.le_of_ble_eq_true rfl) dX11_reckon_57 rfl (fun H locs hM => ?_)
      refine lv_i2f hx hb dX11_reckon_60 ?_
      refine lv_ldcwf (v := 1086324736) hx hb hown (hts _ q_36_20) dX11_reckon_61 ?_
      replace hf := gP_some hf
      obtain ⟨hz, hf⟩ := hf
      refine lv_fdiv hx hb dX11_reckon_64 (nn32_e hz) ?_
      refine lv_topf (fun v10 ev10 => ?_)
      replace hf := lt_e ev10 hf
      refine lv_fstore (lv' := [(9, .float v10), (0, .ref (eA E o)), (1, .int a1), (2, .int a2), (3, .double x3), (5, .double x5), (7, .int x7), (8, .int x8)]) hx hb dX11_reckon_65 hl (by decide) rfl (fun ls hl => ?_)
      refine lv_dload_n hx hb dX11_reckon_67 rfl (lv_at hl 4 rfl) ?_
      refine lv_fload hx hb dX11_reckon_68 (lv_at hl 0 rfl) ?_
      replace hf := gP_some hf
      obtain ⟨hz, hf⟩ := hf
      refine lv_f2d hx hb dX11_reckon_70 (nn64_e hz) ?_
      refine lv_aload_n hx hb dX11_reckon_71 rfl (lv_at hl 1 rfl) ?_
      refine gf_9_11 hX hM ho q_7_4 dX11_reckon_72 ?_
      refine lv_iload hx hb dX11_reckon_75 (lv_at hl 7 rfl) ?_
      replace hf := gA_some hf
      obtain ⟨hi, hf⟩ := hf
      refine ald hX hM (kr_9_11 ho) hi dX11_reckon_77 ?_
      replace hf := bnd_some hf
      obtain ⟨r12, μ11, h78, hf⟩ := hf
      refine cl_S (As := [.int (μ8.1 (rf o 11) x8.toNatClampNeg)]) (rest := [.double (FP.f2d v10), .double x3]) (st2 := [.double r12, .double (FP.f2d v10), .double x3]) (n := 1) hX hM (c_X11_sine l  h78) mt_X11_sine q_37_1 ⟨rfl, rfl⟩ ⟨Nat.le_of_ble_eq_true rfl, Nat.le_of_ble_eq_true rfl⟩ rfl hl.1 rfl (Nat.le_of_ble_eq_true rfl) dX11_reckon_78 rfl (fun H locs hM => ?_)
      replace hf := gP_some hf
      obtain ⟨hz, hf⟩ := hf
      refine lv_dmul hx hb dX11_reckon_81 (nn64_e hz) ?_
      replace hf := gP_some hf
      obtain ⟨hz, hf⟩ := hf
      refine lv_dadd hx hb dX11_reckon_82 (nn64_e hz) ?_
      refine lv_topd (fun v13 ev13 => ?_)
      replace hf := lt_e ev13 hf
      refine lv_dstore_n (lv' := [(3, .double v13), (9, .float v10), (0, .ref (eA E o)), (1, .int a1), (2, .int a2), (5, .double x5), (7, .int x7), (8, .int x8)]) hx hb dX11_reckon_83 rfl hl (by decide) rfl (fun ls hl => ?_)
      refine lv_dload hx hb dX11_reckon_84 (lv_at hl 5 rfl) ?_
      refine lv_fload hx hb dX11_reckon_86 (lv_at hl 1 rfl) ?_
      replace hf := gP_some hf
      obtain ⟨hz, hf⟩ := hf
      refine lv_f2d hx hb dX11_reckon_88 (nn64_e hz) ?_
      refine lv_aload_n hx hb dX11_reckon_89 rfl (lv_at hl 2 rfl) ?_
      refine gf_9_11 hX hM ho q_7_4 dX11_reckon_90 ?_
      refine lv_iload hx hb dX11_reckon_93 (lv_at hl 7 rfl) ?_
      replace hf := gA_some hf
      obtain ⟨hi, hf⟩ := hf
      refine ald hX hM (kr_9_11 ho) hi dX11_reckon_95 ?_
      replace hf := bnd_some hf
      obtain ⟨r15, μ14, h96, hf⟩ := hf
      refine cl_S (As := [.int (μ11.1 (rf o 11) x8.toNatClampNeg)]) (rest := [.double (FP.f2d v10), .double x5]) (st2 := [.double r15, .double (FP.f2d v10), .double x5]) (n := 1) hX hM (c_X11_cosine l  h96) mt_X11_cosine q_37_7 ⟨rfl, rfl⟩ ⟨Nat.le_of_ble_eq_true rfl, Nat.le_of_ble_eq_true rfl⟩ rfl hl.1 rfl (Nat.le_of_ble_eq_true rfl) dX11_reckon_96 rfl (fun H locs hM => ?_)
      replace hf := gP_some hf
      obtain ⟨hz, hf⟩ := hf
      refine lv_dmul hx hb dX11_reckon_99 (nn64_e hz) ?_
      replace hf := gP_some hf
      obtain ⟨hz, hf⟩ := hf
      refine lv_dadd hx hb dX11_reckon_100 (nn64_e hz) ?_
      refine lv_topd (fun v16 ev16 => ?_)
      replace hf := lt_e ev16 hf
      refine lv_dstore (lv' := [(5, .double v16), (3, .double v13), (9, .float v10), (0, .ref (eA E o)), (1, .int a1), (2, .int a2), (7, .int x7), (8, .int x8)]) hx hb dX11_reckon_101 hl (by decide) rfl (fun ls hl => ?_)
      obtain ⟨v17, ev17⟩ : ∃ y : Int32, y = x7 + (10 : Int32) := ⟨_, rfl⟩
      replace hf := lt_e ev17 hf
      refine lv_iinc (v := v17) (lv' := [(7, .int v17), (5, .double v16), (3, .double v13), (9, .float v10), (0, .ref (eA E o)), (1, .int a1), (2, .int a2), (8, .int x8)]) hx hb dX11_reckon_103 hl (k := 6) rfl (by rw [ev17]; rfl) (by decide) rfl (fun ls hl => ?_)
      obtain ⟨v18, ev18⟩ : ∃ y : Int32, y = x8 + (1 : Int32) := ⟨_, rfl⟩
      replace hf := lt_e ev18 hf
      refine lv_iinc (v := v18) (lv' := [(8, .int v18), (7, .int v17), (5, .double v16), (3, .double v13), (9, .float v10), (0, .ref (eA E o)), (1, .int a1), (2, .int a2)]) hx hb dX11_reckon_106 hl (k := 7) rfl (by rw [ev18]; rfl) (by decide) rfl (fun ls hl => ?_)
      refine lv_goto (tgt := 34) hx hb dX11_reckon_109 (by decide) ?_
      exact hK34 _ _ _ _ _  hf _ _ hM _ (lv_sub hl [5, 6, 7, 3, 2, 1, 0] rfl)
def f_X11_reckon (o : Nat) (a1 : Int32) (a2 : Int32) (μ : Mem) : Option (Int64 × Mem) :=
  bnd (f_X11_in a1 (0 : Int32) (1 : Int32) μ) (fun r2 μ1 => (if r2 = 0 then some ((-9223372036854775808 : Int64), μ1) else bnd (f_X11_isPart a2 μ1) (fun r4 μ3 => (if r4 = 0 then some ((-9223372036854775808 : Int64), μ3) else lt (μ3.1 o 9) (fun v5 => f_X11_reckon_b34 o a1 a2  FU FP.dconst0 FP.dconst0 v5 (0 : Int32) μ3)))))
set_option maxHeartbeats 4000000 in
set_option maxRecDepth 100000 in
theorem w_X11_reckon (l : Launch) {o : Nat} {a1 : Int32} {a2 : Int32} (ho : knd o = 9) {μ μ2 : Mem} {r : Int64} {H : Heap} {locs : List Loc} {ls : Array Slot} (hf : f_X11_reckon o a1 a2 μ = some (r, μ2)) (hX : XX E p m meth c cX11_reckon 10 (some .long) s args RX11) (hM : MM E s μ H locs) (hl : lv_has ls 10 [(0, .ref (eA E o)), (1, .int a1), (2, .int a2)]) : W p l e (rmF 3 69) s m args below meth c H locs 0 0 (MQ below (QC E (some (.long r)) μ2) args s 0 0 (AA E)) (F0 m 0 ls []) := by
  obtain ⟨⟨hx, hb, hml, hown, hts⟩, hXr⟩ := id hX
  unfold f_X11_reckon at hf
  refine lv_iload_n hx hb dX11_reckon_0 rfl (lv_at hl 1 rfl) ?_
  refine lv_iconst (v := 0) hx hb dX11_reckon_1 (by decide) ?_
  refine lv_iconst (v := 1) hx hb dX11_reckon_2 (by decide) ?_
  replace hf := bnd_some hf
  obtain ⟨r2, μ1, h3, hf⟩ := hf
  refine cl_S (As := [.int a1, .int (0 : Int32), .int (1 : Int32)]) (rest := []) (st2 := [.int r2]) (n := 3) hX hM (c_X11_in l  h3) mt_X11_in q_8_23 ⟨rfl, rfl⟩ ⟨Nat.le_of_ble_eq_true rfl, Nat.le_of_ble_eq_true rfl⟩ rfl hl.1 rfl (Nat.le_of_ble_eq_true rfl) dX11_reckon_3 rfl (fun H locs hM => ?_)
  refine lv_if_eq (tgt := 16) hx hb dX11_reckon_6 (by decide) (fun hc6 => ?_) (fun hc6 => ?_)
  · replace hf := it_t hf hc6
    refine lv_ldc2 (v := -9223372036854775808) hx hb hown (hts _ q_36_19) dX11_reckon_16 ?_
    exact rt_l hX hM (congrArg (fun z => some (Value.long z)) (so_1 hf)) (so_2 hf) dX11_reckon_19
  · replace hf := it_f hf hc6
    refine lv_iload_n hx hb dX11_reckon_9 rfl (lv_at hl 2 rfl) ?_
    replace hf := bnd_some hf
    obtain ⟨r4, μ3, h10, hf⟩ := hf
    refine cl_S (As := [.int a2]) (rest := []) (st2 := [.int r4]) (n := 1) hX hM (c_X11_isPart l  h10) mt_X11_isPart q_36_22 ⟨rfl, rfl⟩ ⟨Nat.le_of_ble_eq_true rfl, Nat.le_of_ble_eq_true rfl⟩ rfl hl.1 rfl (Nat.le_of_ble_eq_true rfl) dX11_reckon_10 rfl (fun H locs hM => ?_)
    refine lv_if_ne (tgt := 20) hx hb dX11_reckon_13 (by decide) (fun hc13 => ?_) (fun hc13 => ?_)
    · replace hf := it_f hf hc13
      refine lv_dconst0 hx hb dX11_reckon_20 ?_
      refine lv_dstore_n (lv' := [(3, .double FP.dconst0), (0, .ref (eA E o)), (1, .int a1), (2, .int a2)]) hx hb dX11_reckon_21 rfl hl (by decide) rfl (fun ls hl => ?_)
      refine lv_dconst0 hx hb dX11_reckon_22 ?_
      refine lv_dstore (lv' := [(5, .double FP.dconst0), (3, .double FP.dconst0), (0, .ref (eA E o)), (1, .int a1), (2, .int a2)]) hx hb dX11_reckon_23 hl (by decide) rfl (fun ls hl => ?_)
      refine lv_aload_n hx hb dX11_reckon_25 rfl (lv_at hl 2 rfl) ?_
      refine gf_9_9 hX hM ho q_17_22 dX11_reckon_26 ?_
      refine lv_topi (fun v5 ev5 => ?_)
      replace hf := lt_e ev5 hf
      refine lv_istore (lv' := [(7, .int v5), (5, .double FP.dconst0), (3, .double FP.dconst0), (0, .ref (eA E o)), (1, .int a1), (2, .int a2)]) hx hb dX11_reckon_29 hl (by decide) rfl (fun ls hl => ?_)
      refine lv_iconst (v := 0) hx hb dX11_reckon_31 (by decide) ?_
      refine lv_istore (lv' := [(8, .int (0 : Int32)), (7, .int v5), (5, .double FP.dconst0), (3, .double FP.dconst0), (0, .ref (eA E o)), (1, .int a1), (2, .int a2)]) hx hb dX11_reckon_32 hl (by decide) rfl (fun ls hl => ?_)
      exact w_X11_reckon_b34 l ho hX  FU _ _ _ _ _  hf _ _ hM _ (lv_sub hl [4, 5, 6, 3, 2, 1, 0] rfl)
    · replace hf := it_t hf hc13
      refine lv_ldc2 (v := -9223372036854775808) hx hb hown (hts _ q_36_19) dX11_reckon_16 ?_
      exact rt_l hX hM (congrArg (fun z => some (Value.long z)) (so_1 hf)) (so_2 hf) dX11_reckon_19
theorem c_X11_reckon (l : Launch) {o : Nat} {a1 : Int32} {a2 : Int32} (ho : knd o = 9) {μ μ2 : Mem} {r : Int64} (hf : f_X11_reckon o a1 a2 μ = some (r, μ2)) : CT E l yX11_reckon cX11_reckon 10 (some .long) (rmF 3 69) [.ref (eA E o), .int a1, .int a2] μ (some (.long r)) μ2 := CT.of (show plainFor yX11_reckon = true by decide +kernel) (Nat.le_of_ble_eq_true rfl) rfl (fun _ _ _ _ _ _ _ _ hX hM hl => w_X11_reckon l ho hf hX hM hl)
theorem mv_X11_reckon : MV yX11_reckon cX11_reckon 10 (some .long) RX11 2 := ⟨q_36_18, q_36_16, q_36_17, q_1_5, by decide +kernel⟩
def f_X11_meanPace_b86 (o : Nat) (a1 : Int32)  (t0 : UInt32) (μ : Mem) : Option (Int64 × Mem) :=
  bnd (f_Jxf58ca_floatToIntBits_5c35a t0 μ) (fun r11 μ10 => some (r11.toInt64, μ10))
set_option maxHeartbeats 4000000 in
set_option maxRecDepth 100000 in
theorem w_X11_meanPace_b86 (l : Launch) {o : Nat} {a1 : Int32} (ho : knd o = 9) {μ2 : Mem} {r : Int64}   {t0 : UInt32} {μ : Mem} {H : Heap} {locs : List Loc} {ls : Array Slot}  (hf : f_X11_meanPace_b86 o a1  t0 μ = some (r, μ2)) (hX : XX E p m meth c cX11_meanPace 5 (some .long) s args RX11) (hM : MM E s μ H locs) (hl : lv_has ls 5 [(0, .ref (eA E o)), (1, .int a1)]) : W p l e (rmF 6 144) s m args below meth c H locs 0 0 (MQ below (QC E (some (.long r)) μ2) args s 0 0 (AA E)) (F0 m 86 ls [.float t0]) := by
  obtain ⟨⟨hx, hb, hml, hown, hts⟩, hXr⟩ := id hX
  unfold f_X11_meanPace_b86 at hf
  refine lv_fstore (lv' := [(4, .float t0), (0, .ref (eA E o)), (1, .int a1)]) hx hb dX11_meanPace_86 hl (by decide) rfl (fun ls hl => ?_)
  refine lv_fload hx hb dX11_meanPace_88 (lv_at hl 0 rfl) ?_
  replace hf := bnd_some hf
  obtain ⟨r11, μ10, h90, hf⟩ := hf
  refine cl_S (As := [.float t0]) (rest := []) (st2 := [.int r11]) (n := 1) hX hM (c_Jxf58ca_floatToIntBits_5c35a l  h90) mt_Jxf58ca_floatToIntBits_5c35a q_38_14 ⟨rfl, rfl⟩ ⟨Nat.le_of_ble_eq_true rfl, Nat.le_of_ble_eq_true rfl⟩ rfl hl.1 rfl (Nat.le_of_ble_eq_true rfl) dX11_meanPace_90 rfl (fun H locs hM => ?_)
  refine lv_i2l hx hb dX11_meanPace_93 rfl ?_
  exact rt_l hX hM (congrArg (fun z => some (Value.long z)) (so_1 hf)) (so_2 hf) dX11_meanPace_94
def f_X11_meanPace_b36 (o : Nat) (a1 : Int32)  : Nat → Int32 → Int32 → Mem → Option (Int64 × Mem)
  | 0, _, _, _ => none
  | n + 1, x2, x3, μ =>
    (if (μ.1 o 35) ≤ x3 then bnd (f_X11_leastOf o a1 μ) (fun r8 μ7 => lt (r8 - (μ7.1 o 9)) (fun v9 => (if v9 = 0 then f_X11_meanPace_b86 o a1  FP.fconst0 μ7 else gP (nn32 (FP.fdiv (FP.i2f x2) (FP.i2f v9))) (f_X11_meanPace_b86 o a1  (FP.fdiv (FP.i2f x2) (FP.i2f v9)) μ7)))) else gA x3 (aln (rf o 34)) (bnd (f_X11_length (μ.1 (rf o 34) x3.toNatClampNeg) μ) (fun r13 μ12 => lt (x2 + r13) (fun v14 => lt (x3 + (1 : Int32)) (fun v15 => (f_X11_meanPace_b36 o a1  n) v14 v15 μ12)))))
set_option maxHeartbeats 4000000 in
set_option maxRecDepth 100000 in
theorem w_X11_meanPace_b36 (l : Launch) {o : Nat} {a1 : Int32} (ho : knd o = 9) {μ2 : Mem} {r : Int64}  (hX : XX E p m meth c cX11_meanPace 5 (some .long) s args RX11)  : ∀ (n : Nat) (x2 : Int32) (x3 : Int32) (μ : Mem), f_X11_meanPace_b36 o a1  n x2 x3 μ = some (r, μ2) → ∀ (H : Heap) (locs : List Loc), MM E s μ H locs → ∀ ls : Array Slot, lv_has ls 5 [(0, .ref (eA E o)), (1, .int a1), (2, .int x2), (3, .int x3)] → W p l e (rmF 6 144) s m args below meth c H locs 0 0 (MQ below (QC E (some (.long r)) μ2) args s 0 0 (AA E)) (F0 m 36 ls []) := by
  obtain ⟨⟨hx, hb, hml, hown, hts⟩, hXr⟩ := id hX
  intro n
  induction n with
  | zero => intro x2 x3 μ  hf; exact no_none hf
  | succ n ih =>
    intro x2 x3 μ  hf H locs hM ls hl
    rw [f_X11_meanPace_b36] at hf
    have hK36 := ih
    clear ih
    refine lv_iload_n hx hb dX11_meanPace_36 rfl (lv_at hl 3 rfl) ?_
    refine lv_aload_n hx hb dX11_meanPace_37 rfl (lv_at hl 0 rfl) ?_
    refine gf_9_35 hX hM ho q_34_20 dX11_meanPace_38 ?_
    refine lv_icmp_ge (tgt := 62) hx hb dX11_meanPace_41 (by decide) (fun hc41 => ?_) (fun hc41 => ?_)
    · replace hf := it_t hf hc41
      refine lv_aload_n hx hb dX11_meanPace_62 rfl (lv_at hl 0 rfl) ?_
      refine lv_iload_n hx hb dX11_meanPace_63 rfl (lv_at hl 1 rfl) ?_
      replace hf := bnd_some hf
      obtain ⟨r8, μ7, h64, hf⟩ := hf
      refine cl_V (As := [.int a1]) (rest := []) (st2 := [.int r8]) (n := 1) hX hM (c_X11_leastOf l ho h64) mv_X11_leastOf q_19_16 ⟨rfl, rfl⟩ ⟨Nat.le_of_ble_eq_true rfl, Nat.le_of_ble_eq_true rfl⟩ ho (by decide) rfl rfl rfl hl.1 rfl (Nat.le_of_ble_eq_true rfl) dX11_meanPace_64 rfl (fun H locs hM => ?_)
      refine lv_aload_n hx hb dX11_meanPace_67 rfl (lv_at hl 0 rfl) ?_
      refine gf_9_9 hX hM ho q_17_22 dX11_meanPace_68 ?_
      refine lv_isub hx hb dX11_meanPace_71 ?_
      refine lv_topi (fun v9 ev9 => ?_)
      replace hf := lt_e ev9 hf
      refine lv_istore_n (lv' := [(3, .int v9), (0, .ref (eA E o)), (1, .int a1), (2, .int x2)]) hx hb dX11_meanPace_72 rfl hl (by decide) rfl (fun ls hl => ?_)
      refine lv_iload_n hx hb dX11_meanPace_73 rfl (lv_at hl 0 rfl) ?_
      refine lv_if_ne (tgt := 81) hx hb dX11_meanPace_74 (by decide) (fun hc74 => ?_) (fun hc74 => ?_)
      · replace hf := it_f hf hc74
        refine lv_iload_n hx hb dX11_meanPace_81 rfl (lv_at hl 3 rfl) ?_
        refine lv_i2f hx hb dX11_meanPace_82 ?_
        refine lv_iload_n hx hb dX11_meanPace_83 rfl (lv_at hl 0 rfl) ?_
        refine lv_i2f hx hb dX11_meanPace_84 ?_
        replace hf := gP_some hf
        obtain ⟨hz, hf⟩ := hf
        refine lv_fdiv hx hb dX11_meanPace_85 (nn32_e hz) ?_
        exact w_X11_meanPace_b86 l ho   hf hX hM (lv_sub hl [1, 2] rfl)
      · replace hf := it_t hf hc74
        refine lv_fconst0 hx hb dX11_meanPace_77 ?_
        refine lv_goto (tgt := 86) hx hb dX11_meanPace_78 (by decide) ?_
        exact w_X11_meanPace_b86 l ho   hf hX hM (lv_sub hl [1, 2] rfl)
    · replace hf := it_f hf hc41
      refine lv_iload_n hx hb dX11_meanPace_44 rfl (lv_at hl 2 rfl) ?_
      refine lv_aload_n hx hb dX11_meanPace_45 rfl (lv_at hl 0 rfl) ?_
      refine gf_9_34 hX hM ho q_7_16 dX11_meanPace_46 ?_
      refine lv_iload_n hx hb dX11_meanPace_49 rfl (lv_at hl 3 rfl) ?_
      replace hf := gA_some hf
      obtain ⟨hi, hf⟩ := hf
      refine ald hX hM (kr_9_34 ho) hi dX11_meanPace_50 ?_
      replace hf := bnd_some hf
      obtain ⟨r13, μ12, h51, hf⟩ := hf
      refine cl_S (As := [.int (μ.1 (rf o 34) x3.toNatClampNeg)]) (rest := [.int x2]) (st2 := [.int r13, .int x2]) (n := 1) hX hM (c_X11_length l  h51) mt_X11_length q_19_9 ⟨rfl, rfl⟩ ⟨Nat.le_of_ble_eq_true rfl, Nat.le_of_ble_eq_true rfl⟩ rfl hl.1 rfl (Nat.le_of_ble_eq_true rfl) dX11_meanPace_51 rfl (fun H locs hM => ?_)
      refine lv_iadd hx hb dX11_meanPace_54 ?_
      refine lv_topi (fun v14 ev14 => ?_)
      replace hf := lt_e ev14 hf
      refine lv_istore_n (lv' := [(2, .int v14), (0, .ref (eA E o)), (1, .int a1), (3, .int x3)]) hx hb dX11_meanPace_55 rfl hl (by decide) rfl (fun ls hl => ?_)
      obtain ⟨v15, ev15⟩ : ∃ y : Int32, y = x3 + (1 : Int32) := ⟨_, rfl⟩
      replace hf := lt_e ev15 hf
      refine lv_iinc (v := v15) (lv' := [(3, .int v15), (2, .int v14), (0, .ref (eA E o)), (1, .int a1)]) hx hb dX11_meanPace_56 hl (k := 3) rfl (by rw [ev15]; rfl) (by decide) rfl (fun ls hl => ?_)
      refine lv_goto (tgt := 36) hx hb dX11_meanPace_59 (by decide) ?_
      exact hK36 _ _ _  hf _ _ hM _ (lv_sub hl [2, 3, 1, 0] rfl)
def f_X11_meanPace (o : Nat) (a1 : Int32) (μ : Mem) : Option (Int64 × Mem) :=
  bnd (f_X11_isSquare a1 μ) (fun r2 μ1 => (if r2 = 0 then some ((-9223372036854775808 : Int64), μ1) else bnv (f_X11_seeks o μ1) (fun μ3 => bnd (f_X11_leastOf o a1 μ3) (fun r5 μ4 => (if (0 : Int32) ≤ r5 then bnv (f_X11_courseTo o a1 μ4) (fun μ6 => f_X11_meanPace_b36 o a1  FU (0 : Int32) (0 : Int32) μ6) else some ((-9223372036854775808 : Int64), μ4))))))
set_option maxHeartbeats 4000000 in
set_option maxRecDepth 100000 in
theorem w_X11_meanPace (l : Launch) {o : Nat} {a1 : Int32} (ho : knd o = 9) {μ μ2 : Mem} {r : Int64} {H : Heap} {locs : List Loc} {ls : Array Slot} (hf : f_X11_meanPace o a1 μ = some (r, μ2)) (hX : XX E p m meth c cX11_meanPace 5 (some .long) s args RX11) (hM : MM E s μ H locs) (hl : lv_has ls 5 [(0, .ref (eA E o)), (1, .int a1)]) : W p l e (rmF 6 144) s m args below meth c H locs 0 0 (MQ below (QC E (some (.long r)) μ2) args s 0 0 (AA E)) (F0 m 0 ls []) := by
  obtain ⟨⟨hx, hb, hml, hown, hts⟩, hXr⟩ := id hX
  unfold f_X11_meanPace at hf
  refine lv_iload_n hx hb dX11_meanPace_0 rfl (lv_at hl 1 rfl) ?_
  replace hf := bnd_some hf
  obtain ⟨r2, μ1, h1, hf⟩ := hf
  refine cl_S (As := [.int a1]) (rest := []) (st2 := [.int r2]) (n := 1) hX hM (c_X11_isSquare l  h1) mt_X11_isSquare q_11_21 ⟨rfl, rfl⟩ ⟨Nat.le_of_ble_eq_true rfl, Nat.le_of_ble_eq_true rfl⟩ rfl hl.1 rfl (Nat.le_of_ble_eq_true rfl) dX11_meanPace_1 rfl (fun H locs hM => ?_)
  refine lv_if_ne (tgt := 11) hx hb dX11_meanPace_4 (by decide) (fun hc4 => ?_) (fun hc4 => ?_)
  · replace hf := it_f hf hc4
    refine lv_aload_n hx hb dX11_meanPace_11 rfl (lv_at hl 0 rfl) ?_
    replace hf := bnv_some hf
    obtain ⟨μ3, h12, hf⟩ := hf
    refine cl_V (As := []) (rest := []) (st2 := []) (n := 0) hX hM (c_X11_seeks l ho h12) mv_X11_seeks q_17_23 ⟨rfl, rfl⟩ ⟨Nat.le_of_ble_eq_true rfl, Nat.le_of_ble_eq_true rfl⟩ ho (by decide) rfl rfl rfl hl.1 rfl (Nat.le_of_ble_eq_true rfl) dX11_meanPace_12 rfl (fun H locs hM => ?_)
    refine lv_aload_n hx hb dX11_meanPace_15 rfl (lv_at hl 0 rfl) ?_
    refine lv_iload_n hx hb dX11_meanPace_16 rfl (lv_at hl 1 rfl) ?_
    replace hf := bnd_some hf
    obtain ⟨r5, μ4, h17, hf⟩ := hf
    refine cl_V (As := [.int a1]) (rest := []) (st2 := [.int r5]) (n := 1) hX hM (c_X11_leastOf l ho h17) mv_X11_leastOf q_19_16 ⟨rfl, rfl⟩ ⟨Nat.le_of_ble_eq_true rfl, Nat.le_of_ble_eq_true rfl⟩ ho (by decide) rfl rfl rfl hl.1 rfl (Nat.le_of_ble_eq_true rfl) dX11_meanPace_17 rfl (fun H locs hM => ?_)
    refine lv_if_ge (tgt := 27) hx hb dX11_meanPace_20 (by decide) (fun hc20 => ?_) (fun hc20 => ?_)
    · replace hf := it_t hf hc20
      refine lv_aload_n hx hb dX11_meanPace_27 rfl (lv_at hl 0 rfl) ?_
      refine lv_iload_n hx hb dX11_meanPace_28 rfl (lv_at hl 1 rfl) ?_
      replace hf := bnv_some hf
      obtain ⟨μ6, h29, hf⟩ := hf
      refine cl_V (As := [.int a1]) (rest := []) (st2 := []) (n := 1) hX hM (c_X11_courseTo l ho h29) mv_X11_courseTo q_34_21 ⟨rfl, rfl⟩ ⟨Nat.le_of_ble_eq_true rfl, Nat.le_of_ble_eq_true rfl⟩ ho (by decide) rfl rfl rfl hl.1 rfl (Nat.le_of_ble_eq_true rfl) dX11_meanPace_29 rfl (fun H locs hM => ?_)
      refine lv_iconst (v := 0) hx hb dX11_meanPace_32 (by decide) ?_
      refine lv_istore_n (lv' := [(2, .int (0 : Int32)), (0, .ref (eA E o)), (1, .int a1)]) hx hb dX11_meanPace_33 rfl hl (by decide) rfl (fun ls hl => ?_)
      refine lv_iconst (v := 0) hx hb dX11_meanPace_34 (by decide) ?_
      refine lv_istore_n (lv' := [(3, .int (0 : Int32)), (2, .int (0 : Int32)), (0, .ref (eA E o)), (1, .int a1)]) hx hb dX11_meanPace_35 rfl hl (by decide) rfl (fun ls hl => ?_)
      exact w_X11_meanPace_b36 l ho hX  FU _ _ _  hf _ _ hM _ (lv_sub hl [2, 3, 1, 0] rfl)
    · replace hf := it_f hf hc20
      refine lv_ldc2 (v := -9223372036854775808) hx hb hown (hts _ q_36_19) dX11_meanPace_23 ?_
      exact rt_l hX hM (congrArg (fun z => some (Value.long z)) (so_1 hf)) (so_2 hf) dX11_meanPace_26
  · replace hf := it_t hf hc4
    refine lv_ldc2 (v := -9223372036854775808) hx hb hown (hts _ q_36_19) dX11_meanPace_7 ?_
    exact rt_l hX hM (congrArg (fun z => some (Value.long z)) (so_1 hf)) (so_2 hf) dX11_meanPace_10
theorem c_X11_meanPace (l : Launch) {o : Nat} {a1 : Int32} (ho : knd o = 9) {μ μ2 : Mem} {r : Int64} (hf : f_X11_meanPace o a1 μ = some (r, μ2)) : CT E l yX11_meanPace cX11_meanPace 5 (some .long) (rmF 6 144) [.ref (eA E o), .int a1] μ (some (.long r)) μ2 := CT.of (show plainFor yX11_meanPace = true by decide +kernel) (Nat.le_of_ble_eq_true rfl) rfl (fun _ _ _ _ _ _ _ _ hX hM hl => w_X11_meanPace l ho hf hX hM hl)
theorem mv_X11_meanPace : MV yX11_meanPace cX11_meanPace 5 (some .long) RX11 1 := ⟨q_38_13, q_38_11, q_38_12, q_1_5, by decide +kernel⟩
def f_X11_see (o : Nat) (a1 : Int32) (a2 : Int32) (μ : Mem) : Option (Int32 × Mem) :=
  (if a1 = (-1 : Int32) then lt (sI μ o 12 (0 : Int32)) (fun μ8 => some ((0 : Int32), μ8)) else bnd (f_X11_isSquare a1 μ) (fun r2 μ1 => (if r2 = 0 then some ((-1 : Int32), μ1) else bnd (f_X11_in a2 (0 : Int32) (99999 : Int32) μ1) (fun r4 μ3 => (if r4 = 0 then some ((-2 : Int32), μ3) else (if (μ3.1 o 12) = (5 : Int32) then some ((-4 : Int32), μ3) else gA (μ3.1 o 12) (aln (rf o 13)) (lt (sI μ3 (rf o 13) (μ3.1 o 12).toNatClampNeg a1) (fun μ5 => gA (μ5.1 o 12) (aln (rf o 14)) (lt (sI μ5 (rf o 14) (μ5.1 o 12).toNatClampNeg a2) (fun μ6 => lt (sI μ6 o 12 ((μ6.1 o 12) + (1 : Int32))) (fun μ7 => some ((μ7.1 o 12), μ7))))))))))))
set_option maxHeartbeats 4000000 in
set_option maxRecDepth 100000 in
theorem w_X11_see (l : Launch) {o : Nat} {a1 : Int32} {a2 : Int32} (ho : knd o = 9) {μ μ2 : Mem} {r : Int32} {H : Heap} {locs : List Loc} {ls : Array Slot} (hf : f_X11_see o a1 a2 μ = some (r, μ2)) (hX : XX E p m meth c cX11_see 3 (some .int) s args RX11) (hM : MM E s μ H locs) (hl : lv_has ls 3 [(0, .ref (eA E o)), (1, .int a1), (2, .int a2)]) : W p l e (rmF 2 42) s m args below meth c H locs 0 0 (MQ below (QC E (some (.int r)) μ2) args s 0 0 (AA E)) (F0 m 0 ls []) := by
  obtain ⟨⟨hx, hb, hml, hown, hts⟩, hXr⟩ := id hX
  unfold f_X11_see at hf
  refine lv_iload_n hx hb dX11_see_0 rfl (lv_at hl 1 rfl) ?_
  refine lv_iconst (v := (-1)) hx hb dX11_see_1 (by decide) ?_
  refine lv_icmp_ne (tgt := 12) hx hb dX11_see_2 (by decide) (fun hc2 => ?_) (fun hc2 => ?_)
  · replace hf := it_f hf hc2
    refine lv_iload_n hx hb dX11_see_12 rfl (lv_at hl 1 rfl) ?_
    replace hf := bnd_some hf
    obtain ⟨r2, μ1, h13, hf⟩ := hf
    refine cl_S (As := [.int a1]) (rest := []) (st2 := [.int r2]) (n := 1) hX hM (c_X11_isSquare l  h13) mt_X11_isSquare q_11_21 ⟨rfl, rfl⟩ ⟨Nat.le_of_ble_eq_true rfl, Nat.le_of_ble_eq_true rfl⟩ rfl hl.1 rfl (Nat.le_of_ble_eq_true rfl) dX11_see_13 rfl (fun H locs hM => ?_)
    refine lv_if_ne (tgt := 21) hx hb dX11_see_16 (by decide) (fun hc16 => ?_) (fun hc16 => ?_)
    · replace hf := it_f hf hc16
      refine lv_iload_n hx hb dX11_see_21 rfl (lv_at hl 2 rfl) ?_
      refine lv_iconst (v := 0) hx hb dX11_see_22 (by decide) ?_
      refine lv_ldcw (v := 99999) hx hb hown (hts _ q_39_16) dX11_see_23 ?_
      replace hf := bnd_some hf
      obtain ⟨r4, μ3, h26, hf⟩ := hf
      refine cl_S (As := [.int a2, .int (0 : Int32), .int (99999 : Int32)]) (rest := []) (st2 := [.int r4]) (n := 3) hX hM (c_X11_in l  h26) mt_X11_in q_8_23 ⟨rfl, rfl⟩ ⟨Nat.le_of_ble_eq_true rfl, Nat.le_of_ble_eq_true rfl⟩ rfl hl.1 rfl (Nat.le_of_ble_eq_true rfl) dX11_see_26 rfl (fun H locs hM => ?_)
      refine lv_if_ne (tgt := 35) hx hb dX11_see_29 (by decide) (fun hc29 => ?_) (fun hc29 => ?_)
      · replace hf := it_f hf hc29
        refine lv_aload_n hx hb dX11_see_35 rfl (lv_at hl 0 rfl) ?_
        refine gf_9_12 hX hM ho q_39_15 dX11_see_36 ?_
        refine lv_iconst (v := 5) hx hb dX11_see_39 (by decide) ?_
        refine lv_icmp_ne (tgt := 46) hx hb dX11_see_40 (by decide) (fun hc40 => ?_) (fun hc40 => ?_)
        · replace hf := it_f hf hc40
          refine lv_aload_n hx hb dX11_see_46 rfl (lv_at hl 0 rfl) ?_
          refine gf_9_13 hX hM ho q_7_5 dX11_see_47 ?_
          refine lv_aload_n hx hb dX11_see_50 rfl (lv_at hl 0 rfl) ?_
          refine gf_9_12 hX hM ho q_39_15 dX11_see_51 ?_
          refine lv_iload_n hx hb dX11_see_54 rfl (lv_at hl 1 rfl) ?_
          replace hf := gA_some hf
          obtain ⟨hi, hf⟩ := hf
          refine ast hX hM (kr_9_13 ho) hi dX11_see_55 (fun μ5 H locs eμ5 hM => ?_)
          replace hf := lt_e eμ5 hf
          refine lv_aload_n hx hb dX11_see_56 rfl (lv_at hl 0 rfl) ?_
          refine gf_9_14 hX hM ho q_7_6 dX11_see_57 ?_
          refine lv_aload_n hx hb dX11_see_60 rfl (lv_at hl 0 rfl) ?_
          refine gf_9_12 hX hM ho q_39_15 dX11_see_61 ?_
          refine lv_iload_n hx hb dX11_see_64 rfl (lv_at hl 2 rfl) ?_
          replace hf := gA_some hf
          obtain ⟨hi, hf⟩ := hf
          refine ast hX hM (kr_9_14 ho) hi dX11_see_65 (fun μ6 H locs eμ6 hM => ?_)
          replace hf := lt_e eμ6 hf
          refine lv_aload_n hx hb dX11_see_66 rfl (lv_at hl 0 rfl) ?_
          refine lv_dup hx hb dX11_see_67 rfl ?_
          refine gf_9_12 hX hM ho q_39_15 dX11_see_68 ?_
          refine lv_iconst (v := 1) hx hb dX11_see_71 (by decide) ?_
          refine lv_iadd hx hb dX11_see_72 ?_
          refine pf_9_12 hX hM ho q_39_15 dX11_see_73 (fun μ7 H locs eμ7 hM => ?_)
          replace hf := lt_e eμ7 hf
          refine lv_aload_n hx hb dX11_see_76 rfl (lv_at hl 0 rfl) ?_
          refine gf_9_12 hX hM ho q_39_15 dX11_see_77 ?_
          exact rt_i hX hM (congrArg (fun z => some (Value.int z)) (so_1 hf)) (so_2 hf) dX11_see_80
        · replace hf := it_t hf hc40
          refine lv_bipush (v := (-4)) hx hb dX11_see_43 (by decide) ?_
          exact rt_i hX hM (congrArg (fun z => some (Value.int z)) (so_1 hf)) (so_2 hf) dX11_see_45
      · replace hf := it_t hf hc29
        refine lv_bipush (v := (-2)) hx hb dX11_see_32 (by decide) ?_
        exact rt_i hX hM (congrArg (fun z => some (Value.int z)) (so_1 hf)) (so_2 hf) dX11_see_34
    · replace hf := it_t hf hc16
      refine lv_iconst (v := (-1)) hx hb dX11_see_19 (by decide) ?_
      exact rt_i hX hM (congrArg (fun z => some (Value.int z)) (so_1 hf)) (so_2 hf) dX11_see_20
  · replace hf := it_t hf hc2
    refine lv_aload_n hx hb dX11_see_5 rfl (lv_at hl 0 rfl) ?_
    refine lv_iconst (v := 0) hx hb dX11_see_6 (by decide) ?_
    refine pf_9_12 hX hM ho q_39_15 dX11_see_7 (fun μ8 H locs eμ8 hM => ?_)
    replace hf := lt_e eμ8 hf
    refine lv_iconst (v := 0) hx hb dX11_see_10 (by decide) ?_
    exact rt_i hX hM (congrArg (fun z => some (Value.int z)) (so_1 hf)) (so_2 hf) dX11_see_11
theorem c_X11_see (l : Launch) {o : Nat} {a1 : Int32} {a2 : Int32} (ho : knd o = 9) {μ μ2 : Mem} {r : Int32} (hf : f_X11_see o a1 a2 μ = some (r, μ2)) : CT E l yX11_see cX11_see 3 (some .int) (rmF 2 42) [.ref (eA E o), .int a1, .int a2] μ (some (.int r)) μ2 := CT.of (show plainFor yX11_see = true by decide +kernel) (Nat.le_of_ble_eq_true rfl) rfl (fun _ _ _ _ _ _ _ _ hX hM hl => w_X11_see l ho hf hX hM hl)
theorem mv_X11_see : MV yX11_see cX11_see 3 (some .int) RX11 2 := ⟨q_39_14, q_39_12, q_39_13, q_1_5, by decide +kernel⟩
def f_X11_isBy (o : Nat) (a1 : Int32) (a2 : Int32) (μ : Mem) : Option (Int32 × Mem) :=
  bnd (f_X11_leastOf o a1 μ) (fun r2 μ1 => (if r2 < 0 then some ((0 : Int32), μ1) else bnd (f_X11_leastOf o a1 μ1) (fun r4 μ3 => (if a2 < r4 then some ((0 : Int32), μ3) else some ((1 : Int32), μ3)))))
set_option maxHeartbeats 4000000 in
set_option maxRecDepth 100000 in
theorem w_X11_isBy (l : Launch) {o : Nat} {a1 : Int32} {a2 : Int32} (ho : knd o = 9) {μ μ2 : Mem} {r : Int32} {H : Heap} {locs : List Loc} {ls : Array Slot} (hf : f_X11_isBy o a1 a2 μ = some (r, μ2)) (hX : XX E p m meth c cX11_isBy 3 (some .boolean) s args RX11) (hM : MM E s μ H locs) (hl : lv_has ls 3 [(0, .ref (eA E o)), (1, .int a1), (2, .int a2)]) : W p l e (rmF 2 44) s m args below meth c H locs 0 0 (MQ below (QC E (some (.int r)) μ2) args s 0 0 (AA E)) (F0 m 0 ls []) := by
  obtain ⟨⟨hx, hb, hml, hown, hts⟩, hXr⟩ := id hX
  unfold f_X11_isBy at hf
  refine lv_aload_n hx hb dX11_isBy_0 rfl (lv_at hl 0 rfl) ?_
  refine lv_iload_n hx hb dX11_isBy_1 rfl (lv_at hl 1 rfl) ?_
  replace hf := bnd_some hf
  obtain ⟨r2, μ1, h2, hf⟩ := hf
  refine cl_V (As := [.int a1]) (rest := []) (st2 := [.int r2]) (n := 1) hX hM (c_X11_leastOf l ho h2) mv_X11_leastOf q_19_16 ⟨rfl, rfl⟩ ⟨Nat.le_of_ble_eq_true rfl, Nat.le_of_ble_eq_true rfl⟩ ho (by decide) rfl rfl rfl hl.1 rfl (Nat.le_of_ble_eq_true rfl) dX11_isBy_2 rfl (fun H locs hM => ?_)
  refine lv_if_lt (tgt := 21) hx hb dX11_isBy_5 (by decide) (fun hc5 => ?_) (fun hc5 => ?_)
  · replace hf := it_t hf hc5
    refine lv_iconst (v := 0) hx hb dX11_isBy_21 (by decide) ?_
    exact rt_z hX hM rfl (congrArg (fun z => some (Value.int z)) (so_1 hf)) (so_2 hf) dX11_isBy_22
  · replace hf := it_f hf hc5
    refine lv_aload_n hx hb dX11_isBy_8 rfl (lv_at hl 0 rfl) ?_
    refine lv_iload_n hx hb dX11_isBy_9 rfl (lv_at hl 1 rfl) ?_
    replace hf := bnd_some hf
    obtain ⟨r4, μ3, h10, hf⟩ := hf
    refine cl_V (As := [.int a1]) (rest := []) (st2 := [.int r4]) (n := 1) hX hM (c_X11_leastOf l ho h10) mv_X11_leastOf q_19_16 ⟨rfl, rfl⟩ ⟨Nat.le_of_ble_eq_true rfl, Nat.le_of_ble_eq_true rfl⟩ ho (by decide) rfl rfl rfl hl.1 rfl (Nat.le_of_ble_eq_true rfl) dX11_isBy_10 rfl (fun H locs hM => ?_)
    refine lv_iload_n hx hb dX11_isBy_13 rfl (lv_at hl 2 rfl) ?_
    refine lv_icmp_gt (tgt := 21) hx hb dX11_isBy_14 (by decide) (fun hc14 => ?_) (fun hc14 => ?_)
    · replace hf := it_t hf hc14
      refine lv_iconst (v := 0) hx hb dX11_isBy_21 (by decide) ?_
      exact rt_z hX hM rfl (congrArg (fun z => some (Value.int z)) (so_1 hf)) (so_2 hf) dX11_isBy_22
    · replace hf := it_f hf hc14
      refine lv_iconst (v := 1) hx hb dX11_isBy_17 (by decide) ?_
      refine lv_goto (tgt := 22) hx hb dX11_isBy_18 (by decide) ?_
      exact rt_z hX hM rfl (congrArg (fun z => some (Value.int z)) (so_1 hf)) (so_2 hf) dX11_isBy_22
theorem c_X11_isBy (l : Launch) {o : Nat} {a1 : Int32} {a2 : Int32} (ho : knd o = 9) {μ μ2 : Mem} {r : Int32} (hf : f_X11_isBy o a1 a2 μ = some (r, μ2)) : CT E l yX11_isBy cX11_isBy 3 (some .boolean) (rmF 2 44) [.ref (eA E o), .int a1, .int a2] μ (some (.int r)) μ2 := CT.of (show plainFor yX11_isBy = true by decide +kernel) (Nat.le_of_ble_eq_true rfl) rfl (fun _ _ _ _ _ _ _ _ hX hM hl => w_X11_isBy l ho hf hX hM hl)
theorem mv_X11_isBy : MV yX11_isBy cX11_isBy 3 (some .boolean) RX11 2 := ⟨q_41_11, q_41_9, q_41_10, q_1_5, by decide +kernel⟩
def f_X11_allSeen_b2 (o : Nat)  : Nat → Int32 → Mem → Option (Int32 × Mem)
  | 0, _, _ => none
  | n + 1, x1, μ =>
    (if (μ.1 o 12) ≤ x1 then some ((1 : Int32), μ) else gA x1 (aln (rf o 13)) (gA x1 (aln (rf o 14)) (bnd (f_X11_isBy o (μ.1 (rf o 13) x1.toNatClampNeg) (μ.1 (rf o 14) x1.toNatClampNeg) μ) (fun r2 μ1 => (if r2 = 0 then some ((0 : Int32), μ1) else lt (x1 + (1 : Int32)) (fun v3 => (f_X11_allSeen_b2 o  n) v3 μ1))))))
set_option maxHeartbeats 4000000 in
set_option maxRecDepth 100000 in
theorem w_X11_allSeen_b2 (l : Launch) {o : Nat} (ho : knd o = 9) {μ2 : Mem} {r : Int32}  (hX : XX E p m meth c cX11_allSeen 2 (some .boolean) s args RX11)  : ∀ (n : Nat) (x1 : Int32) (μ : Mem), f_X11_allSeen_b2 o  n x1 μ = some (r, μ2) → ∀ (H : Heap) (locs : List Loc), MM E s μ H locs → ∀ ls : Array Slot, lv_has ls 2 [(0, .ref (eA E o)), (1, .int x1)] → W p l e (rmF 3 66) s m args below meth c H locs 0 0 (MQ below (QC E (some (.int r)) μ2) args s 0 0 (AA E)) (F0 m 2 ls []) := by
  obtain ⟨⟨hx, hb, hml, hown, hts⟩, hXr⟩ := id hX
  intro n
  induction n with
  | zero => intro x1 μ  hf; exact no_none hf
  | succ n ih =>
    intro x1 μ  hf H locs hM ls hl
    rw [f_X11_allSeen_b2] at hf
    have hK2 := ih
    clear ih
    refine lv_iload_n hx hb dX11_allSeen_2 rfl (lv_at hl 1 rfl) ?_
    refine lv_aload_n hx hb dX11_allSeen_3 rfl (lv_at hl 0 rfl) ?_
    refine gf_9_12 hX hM ho q_39_15 dX11_allSeen_4 ?_
    refine lv_icmp_ge (tgt := 37) hx hb dX11_allSeen_7 (by decide) (fun hc7 => ?_) (fun hc7 => ?_)
    · replace hf := it_t hf hc7
      refine lv_iconst (v := 1) hx hb dX11_allSeen_37 (by decide) ?_
      exact rt_z hX hM rfl (congrArg (fun z => some (Value.int z)) (so_1 hf)) (so_2 hf) dX11_allSeen_38
    · replace hf := it_f hf hc7
      refine lv_aload_n hx hb dX11_allSeen_10 rfl (lv_at hl 0 rfl) ?_
      refine lv_aload_n hx hb dX11_allSeen_11 rfl (lv_at hl 0 rfl) ?_
      refine gf_9_13 hX hM ho q_7_5 dX11_allSeen_12 ?_
      refine lv_iload_n hx hb dX11_allSeen_15 rfl (lv_at hl 1 rfl) ?_
      replace hf := gA_some hf
      obtain ⟨hi, hf⟩ := hf
      refine ald hX hM (kr_9_13 ho) hi dX11_allSeen_16 ?_
      refine lv_aload_n hx hb dX11_allSeen_17 rfl (lv_at hl 0 rfl) ?_
      refine gf_9_14 hX hM ho q_7_6 dX11_allSeen_18 ?_
      refine lv_iload_n hx hb dX11_allSeen_21 rfl (lv_at hl 1 rfl) ?_
      replace hf := gA_some hf
      obtain ⟨hi, hf⟩ := hf
      refine ald hX hM (kr_9_14 ho) hi dX11_allSeen_22 ?_
      replace hf := bnd_some hf
      obtain ⟨r2, μ1, h23, hf⟩ := hf
      refine cl_V (As := [.int (μ.1 (rf o 13) x1.toNatClampNeg), .int (μ.1 (rf o 14) x1.toNatClampNeg)]) (rest := []) (st2 := [.int r2]) (n := 2) hX hM (c_X11_isBy l ho h23) mv_X11_isBy q_41_8 ⟨rfl, rfl⟩ ⟨Nat.le_of_ble_eq_true rfl, Nat.le_of_ble_eq_true rfl⟩ ho (by decide) rfl rfl rfl hl.1 rfl (Nat.le_of_ble_eq_true rfl) dX11_allSeen_23 rfl (fun H locs hM => ?_)
      refine lv_if_ne (tgt := 31) hx hb dX11_allSeen_26 (by decide) (fun hc26 => ?_) (fun hc26 => ?_)
      · replace hf := it_f hf hc26
        obtain ⟨v3, ev3⟩ : ∃ y : Int32, y = x1 + (1 : Int32) := ⟨_, rfl⟩
        replace hf := lt_e ev3 hf
        refine lv_iinc (v := v3) (lv' := [(1, .int v3), (0, .ref (eA E o))]) hx hb dX11_allSeen_31 hl (k := 1) rfl (by rw [ev3]; rfl) (by decide) rfl (fun ls hl => ?_)
        refine lv_goto (tgt := 2) hx hb dX11_allSeen_34 (by decide) ?_
        exact hK2 _ _  hf _ _ hM _ (lv_sub hl [1, 0] rfl)
      · replace hf := it_t hf hc26
        refine lv_iconst (v := 0) hx hb dX11_allSeen_29 (by decide) ?_
        exact rt_z hX hM rfl (congrArg (fun z => some (Value.int z)) (so_1 hf)) (so_2 hf) dX11_allSeen_30
def f_X11_allSeen (o : Nat) (μ : Mem) : Option (Int32 × Mem) :=
  f_X11_allSeen_b2 o  FU (0 : Int32) μ
set_option maxHeartbeats 4000000 in
set_option maxRecDepth 100000 in
theorem w_X11_allSeen (l : Launch) {o : Nat} (ho : knd o = 9) {μ μ2 : Mem} {r : Int32} {H : Heap} {locs : List Loc} {ls : Array Slot} (hf : f_X11_allSeen o μ = some (r, μ2)) (hX : XX E p m meth c cX11_allSeen 2 (some .boolean) s args RX11) (hM : MM E s μ H locs) (hl : lv_has ls 2 [(0, .ref (eA E o))]) : W p l e (rmF 3 66) s m args below meth c H locs 0 0 (MQ below (QC E (some (.int r)) μ2) args s 0 0 (AA E)) (F0 m 0 ls []) := by
  obtain ⟨⟨hx, hb, hml, hown, hts⟩, hXr⟩ := id hX
  unfold f_X11_allSeen at hf
  refine lv_iconst (v := 0) hx hb dX11_allSeen_0 (by decide) ?_
  refine lv_istore_n (lv' := [(1, .int (0 : Int32)), (0, .ref (eA E o))]) hx hb dX11_allSeen_1 rfl hl (by decide) rfl (fun ls hl => ?_)
  exact w_X11_allSeen_b2 l ho hX  FU _ _  hf _ _ hM _ (lv_sub hl [1, 0] rfl)
theorem c_X11_allSeen (l : Launch) {o : Nat} (ho : knd o = 9) {μ μ2 : Mem} {r : Int32} (hf : f_X11_allSeen o μ = some (r, μ2)) : CT E l yX11_allSeen cX11_allSeen 2 (some .boolean) (rmF 3 66) [.ref (eA E o)] μ (some (.int r)) μ2 := CT.of (show plainFor yX11_allSeen = true by decide +kernel) (Nat.le_of_ble_eq_true rfl) rfl (fun _ _ _ _ _ _ _ _ hX hM hl => w_X11_allSeen l ho hf hX hM hl)
theorem mv_X11_allSeen : MV yX11_allSeen cX11_allSeen 2 (some .boolean) RX11 0 := ⟨q_41_7, q_41_5, q_41_6, q_1_5, by decide +kernel⟩
def f_X11_fits_b48 (o : Nat) (a1 : Int32) (a2 : Int32) (a3 : Int32)  : Nat → Int32 → Int32 → Int32 → Int32 → Mem → Option (Int32 × Mem)
  | 0, _, _, _, _, _ => none
  | n + 1, x4, x5, x6, x7, μ =>
    (if x7 < 0 then gA (((4 : Int32) * a1) + a2) (aln (rf o 1)) (lt (sI μ (rf o 1) (((4 : Int32) * a1) + a2).toNatClampNeg x4) (fun μ8 => (if a3 = 0 then some (x5, μ8) else some (x6, μ8)))) else gA (((4 : Int32) * a1) + a2) (aln (rf o 1)) (lt (sI μ (rf o 1) (((4 : Int32) * a1) + a2).toNatClampNeg x7) (fun μ9 => bnv (f_X11_seeks o μ9) (fun μ10 => bnd (f_X11_allSeen o μ10) (fun r12 μ11 => (if r12 = 0 then lt (x7 + (-1 : Int32)) (fun v13 => (f_X11_fits_b48 o a1 a2 a3  n) x4 x5 x6 v13 μ11) else lt (x5 + (1 : Int32)) (fun v14 => lt (x7 + (-1 : Int32)) (fun v15 => (f_X11_fits_b48 o a1 a2 a3  n) x4 v14 x7 v15 μ11))))))))
set_option maxHeartbeats 4000000 in
set_option maxRecDepth 100000 in
theorem w_X11_fits_b48 (l : Launch) {o : Nat} {a1 : Int32} {a2 : Int32} {a3 : Int32} (ho : knd o = 9) {μ2 : Mem} {r : Int32}  (hX : XX E p m meth c cX11_fits 8 (some .int) s args RX11)  : ∀ (n : Nat) (x4 : Int32) (x5 : Int32) (x6 : Int32) (x7 : Int32) (μ : Mem), f_X11_fits_b48 o a1 a2 a3  n x4 x5 x6 x7 μ = some (r, μ2) → ∀ (H : Heap) (locs : List Loc), MM E s μ H locs → ∀ ls : Array Slot, lv_has ls 8 [(0, .ref (eA E o)), (1, .int a1), (2, .int a2), (3, .int a3), (4, .int x4), (5, .int x5), (6, .int x6), (7, .int x7)] → W p l e (rmF 5 122) s m args below meth c H locs 0 0 (MQ below (QC E (some (.int r)) μ2) args s 0 0 (AA E)) (F0 m 48 ls []) := by
  obtain ⟨⟨hx, hb, hml, hown, hts⟩, hXr⟩ := id hX
  intro n
  induction n with
  | zero => intro x4 x5 x6 x7 μ  hf; exact no_none hf
  | succ n ih =>
    intro x4 x5 x6 x7 μ  hf H locs hM ls hl
    rw [f_X11_fits_b48] at hf
    have hK48 := ih
    clear ih
    refine lv_iload hx hb dX11_fits_48 (lv_at hl 7 rfl) ?_
    refine lv_if_lt (tgt := 89) hx hb dX11_fits_50 (by decide) (fun hc50 => ?_) (fun hc50 => ?_)
    · replace hf := it_t hf hc50
      refine lv_aload_n hx hb dX11_fits_89 rfl (lv_at hl 0 rfl) ?_
      refine gf_9_1 hX hM ho q_6_22 dX11_fits_90 ?_
      refine lv_iconst (v := 4) hx hb dX11_fits_93 (by decide) ?_
      refine lv_iload_n hx hb dX11_fits_94 rfl (lv_at hl 1 rfl) ?_
      refine lv_imul hx hb dX11_fits_95 ?_
      refine lv_iload_n hx hb dX11_fits_96 rfl (lv_at hl 2 rfl) ?_
      refine lv_iadd hx hb dX11_fits_97 ?_
      refine lv_iload hx hb dX11_fits_98 (lv_at hl 4 rfl) ?_
      replace hf := gA_some hf
      obtain ⟨hi, hf⟩ := hf
      refine ast hX hM (kr_9_1 ho) hi dX11_fits_100 (fun μ8 H locs eμ8 hM => ?_)
      replace hf := lt_e eμ8 hf
      refine lv_iload_n hx hb dX11_fits_101 rfl (lv_at hl 3 rfl) ?_
      refine lv_if_ne (tgt := 110) hx hb dX11_fits_102 (by decide) (fun hc102 => ?_) (fun hc102 => ?_)
      · replace hf := it_f hf hc102
        refine lv_iload hx hb dX11_fits_110 (lv_at hl 6 rfl) ?_
        exact rt_i hX hM (congrArg (fun z => some (Value.int z)) (so_1 hf)) (so_2 hf) dX11_fits_112
      · replace hf := it_t hf hc102
        refine lv_iload hx hb dX11_fits_105 (lv_at hl 5 rfl) ?_
        refine lv_goto (tgt := 112) hx hb dX11_fits_107 (by decide) ?_
        exact rt_i hX hM (congrArg (fun z => some (Value.int z)) (so_1 hf)) (so_2 hf) dX11_fits_112
    · replace hf := it_f hf hc50
      refine lv_aload_n hx hb dX11_fits_53 rfl (lv_at hl 0 rfl) ?_
      refine gf_9_1 hX hM ho q_6_22 dX11_fits_54 ?_
      refine lv_iconst (v := 4) hx hb dX11_fits_57 (by decide) ?_
      refine lv_iload_n hx hb dX11_fits_58 rfl (lv_at hl 1 rfl) ?_
      refine lv_imul hx hb dX11_fits_59 ?_
      refine lv_iload_n hx hb dX11_fits_60 rfl (lv_at hl 2 rfl) ?_
      refine lv_iadd hx hb dX11_fits_61 ?_
      refine lv_iload hx hb dX11_fits_62 (lv_at hl 7 rfl) ?_
      replace hf := gA_some hf
      obtain ⟨hi, hf⟩ := hf
      refine ast hX hM (kr_9_1 ho) hi dX11_fits_64 (fun μ9 H locs eμ9 hM => ?_)
      replace hf := lt_e eμ9 hf
      refine lv_aload_n hx hb dX11_fits_65 rfl (lv_at hl 0 rfl) ?_
      replace hf := bnv_some hf
      obtain ⟨μ10, h66, hf⟩ := hf
      refine cl_V (As := []) (rest := []) (st2 := []) (n := 0) hX hM (c_X11_seeks l ho h66) mv_X11_seeks q_17_23 ⟨rfl, rfl⟩ ⟨Nat.le_of_ble_eq_true rfl, Nat.le_of_ble_eq_true rfl⟩ ho (by decide) rfl rfl rfl hl.1 rfl (Nat.le_of_ble_eq_true rfl) dX11_fits_66 rfl (fun H locs hM => ?_)
      refine lv_aload_n hx hb dX11_fits_69 rfl (lv_at hl 0 rfl) ?_
      replace hf := bnd_some hf
      obtain ⟨r12, μ11, h70, hf⟩ := hf
      refine cl_V (As := []) (rest := []) (st2 := [.int r12]) (n := 0) hX hM (c_X11_allSeen l ho h70) mv_X11_allSeen q_41_4 ⟨rfl, rfl⟩ ⟨Nat.le_of_ble_eq_true rfl, Nat.le_of_ble_eq_true rfl⟩ ho (by decide) rfl rfl rfl hl.1 rfl (Nat.le_of_ble_eq_true rfl) dX11_fits_70 rfl (fun H locs hM => ?_)
      refine lv_if_eq (tgt := 83) hx hb dX11_fits_73 (by decide) (fun hc73 => ?_) (fun hc73 => ?_)
      · replace hf := it_t hf hc73
        obtain ⟨v13, ev13⟩ : ∃ y : Int32, y = x7 + (-1 : Int32) := ⟨_, rfl⟩
        replace hf := lt_e ev13 hf
        refine lv_iinc (v := v13) (lv' := [(7, .int v13), (0, .ref (eA E o)), (1, .int a1), (2, .int a2), (3, .int a3), (4, .int x4), (5, .int x5), (6, .int x6)]) hx hb dX11_fits_83 hl (k := 7) rfl (by rw [ev13]; rfl) (by decide) rfl (fun ls hl => ?_)
        refine lv_goto (tgt := 48) hx hb dX11_fits_86 (by decide) ?_
        exact hK48 _ _ _ _ _  hf _ _ hM _ (lv_sub hl [1, 2, 3, 4, 5, 6, 7, 0] rfl)
      · replace hf := it_f hf hc73
        obtain ⟨v14, ev14⟩ : ∃ y : Int32, y = x5 + (1 : Int32) := ⟨_, rfl⟩
        replace hf := lt_e ev14 hf
        refine lv_iinc (v := v14) (lv' := [(5, .int v14), (0, .ref (eA E o)), (1, .int a1), (2, .int a2), (3, .int a3), (4, .int x4), (6, .int x6), (7, .int x7)]) hx hb dX11_fits_76 hl (k := 5) rfl (by rw [ev14]; rfl) (by decide) rfl (fun ls hl => ?_)
        refine lv_iload hx hb dX11_fits_79 (lv_at hl 7 rfl) ?_
        refine lv_istore (lv' := [(6, .int x7), (5, .int v14), (0, .ref (eA E o)), (1, .int a1), (2, .int a2), (3, .int a3), (4, .int x4), (7, .int x7)]) hx hb dX11_fits_81 hl (by decide) rfl (fun ls hl => ?_)
        obtain ⟨v15, ev15⟩ : ∃ y : Int32, y = x7 + (-1 : Int32) := ⟨_, rfl⟩
        replace hf := lt_e ev15 hf
        refine lv_iinc (v := v15) (lv' := [(7, .int v15), (6, .int x7), (5, .int v14), (0, .ref (eA E o)), (1, .int a1), (2, .int a2), (3, .int a3), (4, .int x4)]) hx hb dX11_fits_83 hl (k := 7) rfl (by rw [ev15]; rfl) (by decide) rfl (fun ls hl => ?_)
        refine lv_goto (tgt := 48) hx hb dX11_fits_86 (by decide) ?_
        exact hK48 _ _ _ _ _  hf _ _ hM _ (lv_sub hl [3, 4, 5, 6, 7, 2, 1, 0] rfl)
def f_X11_fits (o : Nat) (a1 : Int32) (a2 : Int32) (a3 : Int32) (μ : Mem) : Option (Int32 × Mem) :=
  bnd (f_X11_isZone a1 μ) (fun r2 μ1 => (if r2 = 0 then some ((-1 : Int32), μ1) else bnd (f_X11_isSpan a2 μ1) (fun r4 μ3 => (if r4 = 0 then some ((-1 : Int32), μ3) else bnd (f_X11_in a3 (0 : Int32) (1 : Int32) μ3) (fun r6 μ5 => (if r6 = 0 then some ((-1 : Int32), μ5) else gA (((4 : Int32) * a1) + a2) (aln (rf o 1)) (lt (μ5.1 (rf o 1) (((4 : Int32) * a1) + a2).toNatClampNeg) (fun v7 => f_X11_fits_b48 o a1 a2 a3  FU v7 (0 : Int32) (-5 : Int32) (7 : Int32) μ5))))))))
set_option maxHeartbeats 4000000 in
set_option maxRecDepth 100000 in
theorem w_X11_fits (l : Launch) {o : Nat} {a1 : Int32} {a2 : Int32} {a3 : Int32} (ho : knd o = 9) {μ μ2 : Mem} {r : Int32} {H : Heap} {locs : List Loc} {ls : Array Slot} (hf : f_X11_fits o a1 a2 a3 μ = some (r, μ2)) (hX : XX E p m meth c cX11_fits 8 (some .int) s args RX11) (hM : MM E s μ H locs) (hl : lv_has ls 8 [(0, .ref (eA E o)), (1, .int a1), (2, .int a2), (3, .int a3)]) : W p l e (rmF 5 122) s m args below meth c H locs 0 0 (MQ below (QC E (some (.int r)) μ2) args s 0 0 (AA E)) (F0 m 0 ls []) := by
  obtain ⟨⟨hx, hb, hml, hown, hts⟩, hXr⟩ := id hX
  unfold f_X11_fits at hf
  refine lv_iload_n hx hb dX11_fits_0 rfl (lv_at hl 1 rfl) ?_
  replace hf := bnd_some hf
  obtain ⟨r2, μ1, h1, hf⟩ := hf
  refine cl_S (As := [.int a1]) (rest := []) (st2 := [.int r2]) (n := 1) hX hM (c_X11_isZone l  h1) mt_X11_isZone q_8_20 ⟨rfl, rfl⟩ ⟨Nat.le_of_ble_eq_true rfl, Nat.le_of_ble_eq_true rfl⟩ rfl hl.1 rfl (Nat.le_of_ble_eq_true rfl) dX11_fits_1 rfl (fun H locs hM => ?_)
  refine lv_if_eq (tgt := 23) hx hb dX11_fits_4 (by decide) (fun hc4 => ?_) (fun hc4 => ?_)
  · replace hf := it_t hf hc4
    refine lv_iconst (v := (-1)) hx hb dX11_fits_23 (by decide) ?_
    exact rt_i hX hM (congrArg (fun z => some (Value.int z)) (so_1 hf)) (so_2 hf) dX11_fits_24
  · replace hf := it_f hf hc4
    refine lv_iload_n hx hb dX11_fits_7 rfl (lv_at hl 2 rfl) ?_
    replace hf := bnd_some hf
    obtain ⟨r4, μ3, h8, hf⟩ := hf
    refine cl_S (As := [.int a2]) (rest := []) (st2 := [.int r4]) (n := 1) hX hM (c_X11_isSpan l  h8) mt_X11_isSpan q_9_2 ⟨rfl, rfl⟩ ⟨Nat.le_of_ble_eq_true rfl, Nat.le_of_ble_eq_true rfl⟩ rfl hl.1 rfl (Nat.le_of_ble_eq_true rfl) dX11_fits_8 rfl (fun H locs hM => ?_)
    refine lv_if_eq (tgt := 23) hx hb dX11_fits_11 (by decide) (fun hc11 => ?_) (fun hc11 => ?_)
    · replace hf := it_t hf hc11
      refine lv_iconst (v := (-1)) hx hb dX11_fits_23 (by decide) ?_
      exact rt_i hX hM (congrArg (fun z => some (Value.int z)) (so_1 hf)) (so_2 hf) dX11_fits_24
    · replace hf := it_f hf hc11
      refine lv_iload_n hx hb dX11_fits_14 rfl (lv_at hl 3 rfl) ?_
      refine lv_iconst (v := 0) hx hb dX11_fits_15 (by decide) ?_
      refine lv_iconst (v := 1) hx hb dX11_fits_16 (by decide) ?_
      replace hf := bnd_some hf
      obtain ⟨r6, μ5, h17, hf⟩ := hf
      refine cl_S (As := [.int a3, .int (0 : Int32), .int (1 : Int32)]) (rest := []) (st2 := [.int r6]) (n := 3) hX hM (c_X11_in l  h17) mt_X11_in q_8_23 ⟨rfl, rfl⟩ ⟨Nat.le_of_ble_eq_true rfl, Nat.le_of_ble_eq_true rfl⟩ rfl hl.1 rfl (Nat.le_of_ble_eq_true rfl) dX11_fits_17 rfl (fun H locs hM => ?_)
      refine lv_if_ne (tgt := 25) hx hb dX11_fits_20 (by decide) (fun hc20 => ?_) (fun hc20 => ?_)
      · replace hf := it_f hf hc20
        refine lv_aload_n hx hb dX11_fits_25 rfl (lv_at hl 0 rfl) ?_
        refine gf_9_1 hX hM ho q_6_22 dX11_fits_26 ?_
        refine lv_iconst (v := 4) hx hb dX11_fits_29 (by decide) ?_
        refine lv_iload_n hx hb dX11_fits_30 rfl (lv_at hl 1 rfl) ?_
        refine lv_imul hx hb dX11_fits_31 ?_
        refine lv_iload_n hx hb dX11_fits_32 rfl (lv_at hl 2 rfl) ?_
        refine lv_iadd hx hb dX11_fits_33 ?_
        replace hf := gA_some hf
        obtain ⟨hi, hf⟩ := hf
        refine ald hX hM (kr_9_1 ho) hi dX11_fits_34 ?_
        refine lv_topi (fun v7 ev7 => ?_)
        replace hf := lt_e ev7 hf
        refine lv_istore (lv' := [(4, .int v7), (0, .ref (eA E o)), (1, .int a1), (2, .int a2), (3, .int a3)]) hx hb dX11_fits_35 hl (by decide) rfl (fun ls hl => ?_)
        refine lv_iconst (v := 0) hx hb dX11_fits_37 (by decide) ?_
        refine lv_istore (lv' := [(5, .int (0 : Int32)), (4, .int v7), (0, .ref (eA E o)), (1, .int a1), (2, .int a2), (3, .int a3)]) hx hb dX11_fits_38 hl (by decide) rfl (fun ls hl => ?_)
        refine lv_bipush (v := (-5)) hx hb dX11_fits_40 (by decide) ?_
        refine lv_istore (lv' := [(6, .int (-5 : Int32)), (5, .int (0 : Int32)), (4, .int v7), (0, .ref (eA E o)), (1, .int a1), (2, .int a2), (3, .int a3)]) hx hb dX11_fits_42 hl (by decide) rfl (fun ls hl => ?_)
        refine lv_bipush (v := 7) hx hb dX11_fits_44 (by decide) ?_
        refine lv_istore (lv' := [(7, .int (7 : Int32)), (6, .int (-5 : Int32)), (5, .int (0 : Int32)), (4, .int v7), (0, .ref (eA E o)), (1, .int a1), (2, .int a2), (3, .int a3)]) hx hb dX11_fits_46 hl (by decide) rfl (fun ls hl => ?_)
        exact w_X11_fits_b48 l ho hX  FU _ _ _ _ _  hf _ _ hM _ (lv_sub hl [4, 5, 6, 7, 3, 2, 1, 0] rfl)
      · replace hf := it_t hf hc20
        refine lv_iconst (v := (-1)) hx hb dX11_fits_23 (by decide) ?_
        exact rt_i hX hM (congrArg (fun z => some (Value.int z)) (so_1 hf)) (so_2 hf) dX11_fits_24
theorem c_X11_fits (l : Launch) {o : Nat} {a1 : Int32} {a2 : Int32} {a3 : Int32} (ho : knd o = 9) {μ μ2 : Mem} {r : Int32} (hf : f_X11_fits o a1 a2 a3 μ = some (r, μ2)) : CT E l yX11_fits cX11_fits 8 (some .int) (rmF 5 122) [.ref (eA E o), .int a1, .int a2, .int a3] μ (some (.int r)) μ2 := CT.of (show plainFor yX11_fits = true by decide +kernel) (Nat.le_of_ble_eq_true rfl) rfl (fun _ _ _ _ _ _ _ _ hX hM hl => w_X11_fits l ho hf hX hM hl)
theorem mv_X11_fits : MV yX11_fits cX11_fits 8 (some .int) RX11 3 := ⟨q_41_3, q_41_1, q_41_2, q_1_5, by decide +kernel⟩
def f_X11_divisor_b6 (a0 : Int64) (a2 : Int64)  : Nat → Int64 → Int64 → Mem → Option (Int64 × Mem)
  | 0, _, _, _ => none
  | n + 1, x4, x6, μ =>
    (if (lg_cmp x6 (0 : Int64)) = 0 then some (x4, μ) else gW x6 (lt (x4 - x4 / x6 * x6) (fun v1 => (f_X11_divisor_b6 a0 a2  n) x6 v1 μ)))
set_option maxHeartbeats 4000000 in
set_option maxRecDepth 100000 in
theorem w_X11_divisor_b6 (l : Launch) {a0 : Int64} {a2 : Int64}  {μ2 : Mem} {r : Int64}  (hX : XX E p m meth c cX11_divisor 10 (some .long) s args RX11)  : ∀ (n : Nat) (x4 : Int64) (x6 : Int64) (μ : Mem), f_X11_divisor_b6 a0 a2  n x4 x6 μ = some (r, μ2) → ∀ (H : Heap) (locs : List Loc), MM E s μ H locs → ∀ ls : Array Slot, lv_has ls 10 [(0, .long a0), (2, .long a2), (4, .long x4), (6, .long x6)] → W p l e (rmF 0 0) s m args below meth c H locs 0 0 (MQ below (QC E (some (.long r)) μ2) args s 0 0 (AA E)) (F0 m 6 ls []) := by
  obtain ⟨⟨hx, hb, hml, hown, hts⟩, hXr⟩ := id hX
  intro n
  induction n with
  | zero => intro x4 x6 μ  hf; exact no_none hf
  | succ n ih =>
    intro x4 x6 μ  hf H locs hM ls hl
    rw [f_X11_divisor_b6] at hf
    have hK6 := ih
    clear ih
    refine lv_lload hx hb dX11_divisor_6 (lv_at hl 3 rfl) ?_
    refine lv_lconst (v := 0) hx hb dX11_divisor_8 (by decide) ?_
    refine W.lcmp hx hb dX11_divisor_9 ?_
    refine lv_if_eq (tgt := 31) hx hb dX11_divisor_10 (by decide) (fun hc10 => ?_) (fun hc10 => ?_)
    · replace hf := it_t hf hc10
      refine lv_lload hx hb dX11_divisor_31 (lv_at hl 2 rfl) ?_
      exact rt_l hX hM (congrArg (fun z => some (Value.long z)) (so_1 hf)) (so_2 hf) dX11_divisor_33
    · replace hf := it_f hf hc10
      refine lv_lload hx hb dX11_divisor_13 (lv_at hl 2 rfl) ?_
      refine lv_lload hx hb dX11_divisor_15 (lv_at hl 3 rfl) ?_
      replace hf := gW_some hf
      obtain ⟨hz, hf⟩ := hf
      refine lv_lrem hx hb dX11_divisor_17 hz ?_
      refine lv_topl (fun v1 ev1 => ?_)
      replace hf := lt_e ev1 hf
      refine lv_lstore (lv' := [(8, .long v1), (0, .long a0), (2, .long a2), (4, .long x4), (6, .long x6)]) hx hb dX11_divisor_18 hl (by decide) rfl (fun ls hl => ?_)
      refine lv_lload hx hb dX11_divisor_20 (lv_at hl 4 rfl) ?_
      refine lv_lstore (lv' := [(4, .long x6), (8, .long v1), (0, .long a0), (2, .long a2), (6, .long x6)]) hx hb dX11_divisor_22 hl (by decide) rfl (fun ls hl => ?_)
      refine lv_lload hx hb dX11_divisor_24 (lv_at hl 1 rfl) ?_
      refine lv_lstore (lv' := [(6, .long v1), (4, .long x6), (8, .long v1), (0, .long a0), (2, .long a2)]) hx hb dX11_divisor_26 hl (by decide) rfl (fun ls hl => ?_)
      refine lv_goto (tgt := 6) hx hb dX11_divisor_28 (by decide) ?_
      exact hK6 _ _ _  hf _ _ hM _ (lv_sub hl [3, 4, 1, 0] rfl)
def f_X11_divisor (a0 : Int64) (a2 : Int64) (μ : Mem) : Option (Int64 × Mem) :=
  f_X11_divisor_b6 a0 a2  FU a0 a2 μ
set_option maxHeartbeats 4000000 in
set_option maxRecDepth 100000 in
theorem w_X11_divisor (l : Launch) {a0 : Int64} {a2 : Int64}  {μ μ2 : Mem} {r : Int64} {H : Heap} {locs : List Loc} {ls : Array Slot} (hf : f_X11_divisor a0 a2 μ = some (r, μ2)) (hX : XX E p m meth c cX11_divisor 10 (some .long) s args RX11) (hM : MM E s μ H locs) (hl : lv_has ls 10 [(0, .long a0), (2, .long a2)]) : W p l e (rmF 0 0) s m args below meth c H locs 0 0 (MQ below (QC E (some (.long r)) μ2) args s 0 0 (AA E)) (F0 m 0 ls []) := by
  obtain ⟨⟨hx, hb, hml, hown, hts⟩, hXr⟩ := id hX
  unfold f_X11_divisor at hf
  refine lv_lload_n hx hb dX11_divisor_0 rfl (lv_at hl 0 rfl) ?_
  refine lv_lstore (lv' := [(4, .long a0), (0, .long a0), (2, .long a2)]) hx hb dX11_divisor_1 hl (by decide) rfl (fun ls hl => ?_)
  refine lv_lload_n hx hb dX11_divisor_3 rfl (lv_at hl 2 rfl) ?_
  refine lv_lstore (lv' := [(6, .long a2), (4, .long a0), (0, .long a0), (2, .long a2)]) hx hb dX11_divisor_4 hl (by decide) rfl (fun ls hl => ?_)
  exact w_X11_divisor_b6 l  hX  FU _ _ _  hf _ _ hM _ (lv_sub hl [2, 3, 1, 0] rfl)
theorem c_X11_divisor (l : Launch) {a0 : Int64} {a2 : Int64}  {μ μ2 : Mem} {r : Int64} (hf : f_X11_divisor a0 a2 μ = some (r, μ2)) : CT E l yX11_divisor cX11_divisor 10 (some .long) (rmF 0 0) [.long a0, .long a2] μ (some (.long r)) μ2 := CT.of (show plainFor yX11_divisor = true by decide +kernel) (Nat.le_of_ble_eq_true rfl) rfl (fun _ _ _ _ _ _ _ _ hX hM hl => w_X11_divisor l  hf hX hM hl)
theorem mt_X11_divisor : MT yX11_divisor cX11_divisor 10 (some .long) 2 := ⟨q_42_10, q_42_9, q_1_5, by decide +kernel⟩
def f_X11_part_b10 (a0 : Int64) (a2 : Int64) (a4 : Int32)  (t0 : Int64) (μ : Mem) : Option (Int64 × Mem) :=
  bnd (f_X11_divisor a0 a2 μ) (fun r2 μ1 => gW r2 (some ((t0 / r2), μ1)))
set_option maxHeartbeats 4000000 in
set_option maxRecDepth 100000 in
theorem w_X11_part_b10 (l : Launch) {a0 : Int64} {a2 : Int64} {a4 : Int32}  {μ2 : Mem} {r : Int64}   {t0 : Int64} {μ : Mem} {H : Heap} {locs : List Loc} {ls : Array Slot}  (hf : f_X11_part_b10 a0 a2 a4  t0 μ = some (r, μ2)) (hX : XX E p m meth c cX11_part 5 (some .long) s args RX11) (hM : MM E s μ H locs) (hl : lv_has ls 5 [(0, .long a0), (2, .long a2), (4, .int a4)]) : W p l e (rmF 1 29) s m args below meth c H locs 0 0 (MQ below (QC E (some (.long r)) μ2) args s 0 0 (AA E)) (F0 m 10 ls [.long t0]) := by
  obtain ⟨⟨hx, hb, hml, hown, hts⟩, hXr⟩ := id hX
  unfold f_X11_part_b10 at hf
  refine lv_lload_n hx hb dX11_part_10 rfl (lv_at hl 0 rfl) ?_
  refine lv_lload_n hx hb dX11_part_11 rfl (lv_at hl 1 rfl) ?_
  replace hf := bnd_some hf
  obtain ⟨r2, μ1, h12, hf⟩ := hf
  refine cl_S (As := [.long a0, .long a2]) (rest := [.long t0]) (st2 := [.long r2, .long t0]) (n := 2) hX hM (c_X11_divisor l  h12) mt_X11_divisor q_42_8 ⟨rfl, rfl⟩ ⟨Nat.le_of_ble_eq_true rfl, Nat.le_of_ble_eq_true rfl⟩ rfl hl.1 rfl (Nat.le_of_ble_eq_true rfl) dX11_part_12 rfl (fun H locs hM => ?_)
  replace hf := gW_some hf
  obtain ⟨hz, hf⟩ := hf
  refine lv_ldiv hx hb dX11_part_15 hz ?_
  exact rt_l hX hM (congrArg (fun z => some (Value.long z)) (so_1 hf)) (so_2 hf) dX11_part_16
def f_X11_part (a0 : Int64) (a2 : Int64) (a4 : Int32) (μ : Mem) : Option (Int64 × Mem) :=
  (if a4 = 0 then f_X11_part_b10 a0 a2 a4  a0 μ else f_X11_part_b10 a0 a2 a4  a2 μ)
set_option maxHeartbeats 4000000 in
set_option maxRecDepth 100000 in
theorem w_X11_part (l : Launch) {a0 : Int64} {a2 : Int64} {a4 : Int32}  {μ μ2 : Mem} {r : Int64} {H : Heap} {locs : List Loc} {ls : Array Slot} (hf : f_X11_part a0 a2 a4 μ = some (r, μ2)) (hX : XX E p m meth c cX11_part 5 (some .long) s args RX11) (hM : MM E s μ H locs) (hl : lv_has ls 5 [(0, .long a0), (2, .long a2), (4, .int a4)]) : W p l e (rmF 1 29) s m args below meth c H locs 0 0 (MQ below (QC E (some (.long r)) μ2) args s 0 0 (AA E)) (F0 m 0 ls []) := by
  obtain ⟨⟨hx, hb, hml, hown, hts⟩, hXr⟩ := id hX
  unfold f_X11_part at hf
  refine lv_iload hx hb dX11_part_0 (lv_at hl 2 rfl) ?_
  refine lv_if_ne (tgt := 9) hx hb dX11_part_2 (by decide) (fun hc2 => ?_) (fun hc2 => ?_)
  · replace hf := it_f hf hc2
    refine lv_lload_n hx hb dX11_part_9 rfl (lv_at hl 1 rfl) ?_
    exact w_X11_part_b10 l    hf hX hM (lv_sub hl [0, 1, 2] rfl)
  · replace hf := it_t hf hc2
    refine lv_lload_n hx hb dX11_part_5 rfl (lv_at hl 0 rfl) ?_
    refine lv_goto (tgt := 10) hx hb dX11_part_6 (by decide) ?_
    exact w_X11_part_b10 l    hf hX hM (lv_sub hl [0, 1, 2] rfl)
theorem c_X11_part (l : Launch) {a0 : Int64} {a2 : Int64} {a4 : Int32}  {μ μ2 : Mem} {r : Int64} (hf : f_X11_part a0 a2 a4 μ = some (r, μ2)) : CT E l yX11_part cX11_part 5 (some .long) (rmF 1 29) [.long a0, .long a2, .int a4] μ (some (.long r)) μ2 := CT.of (show plainFor yX11_part = true by decide +kernel) (Nat.le_of_ble_eq_true rfl) rfl (fun _ _ _ _ _ _ _ _ hX hM hl => w_X11_part l  hf hX hM hl)
theorem mt_X11_part : MT yX11_part cX11_part 5 (some .long) 3 := ⟨q_42_7, q_42_6, q_1_5, by decide +kernel⟩
def f_X11_odds_b63 (o : Nat) (a1 : Int32) (a2 : Int32) (a3 : Int32) (a4 : Int32) (a5 : Int32)  : Nat → Int32 → Int32 → Int32 → Mem → Option (Int64 × Mem)
  | 0, _, _, _, _ => none
  | n + 1, x6, x7, x8, μ =>
    (if (8 : Int32) ≤ x8 then gA (((4 : Int32) * a1) + a2) (aln (rf o 1)) (lt (sI μ (rf o 1) (((4 : Int32) * a1) + a2).toNatClampNeg x6) (fun μ12 => bnd (f_X11_part x7.toInt64 (8 : Int64) a5 μ12) (fun r14 μ13 => some (r14, μ13)))) else gA (((4 : Int32) * a1) + a2) (aln (rf o 1)) (lt (sI μ (rf o 1) (((4 : Int32) * a1) + a2).toNatClampNeg x8) (fun μ15 => bnv (f_X11_seeks o μ15) (fun μ16 => bnd (f_X11_isBy o a3 a4 μ16) (fun r18 μ17 => (if r18 = 0 then lt (x7 + (0 : Int32)) (fun v19 => lt (x8 + (1 : Int32)) (fun v20 => (f_X11_odds_b63 o a1 a2 a3 a4 a5  n) x6 v19 v20 μ17)) else lt (x7 + (1 : Int32)) (fun v21 => lt (x8 + (1 : Int32)) (fun v22 => (f_X11_odds_b63 o a1 a2 a3 a4 a5  n) x6 v21 v22 μ17))))))))
set_option maxHeartbeats 4000000 in
set_option maxRecDepth 100000 in
theorem w_X11_odds_b63 (l : Launch) {o : Nat} {a1 : Int32} {a2 : Int32} {a3 : Int32} {a4 : Int32} {a5 : Int32} (ho : knd o = 9) {μ2 : Mem} {r : Int64}  (hX : XX E p m meth c cX11_odds 9 (some .long) s args RX11)  : ∀ (n : Nat) (x6 : Int32) (x7 : Int32) (x8 : Int32) (μ : Mem), f_X11_odds_b63 o a1 a2 a3 a4 a5  n x6 x7 x8 μ = some (r, μ2) → ∀ (H : Heap) (locs : List Loc), MM E s μ H locs → ∀ ls : Array Slot, lv_has ls 9 [(0, .ref (eA E o)), (1, .int a1), (2, .int a2), (3, .int a3), (4, .int a4), (5, .int a5), (6, .int x6), (7, .int x7), (8, .int x8)] → W p l e (rmF 5 122) s m args below meth c H locs 0 0 (MQ below (QC E (some (.long r)) μ2) args s 0 0 (AA E)) (F0 m 63 ls []) := by
  obtain ⟨⟨hx, hb, hml, hown, hts⟩, hXr⟩ := id hX
  intro n
  induction n with
  | zero => intro x6 x7 x8 μ  hf; exact no_none hf
  | succ n ih =>
    intro x6 x7 x8 μ  hf H locs hM ls hl
    rw [f_X11_odds_b63] at hf
    have hK63 := ih
    clear ih
    refine lv_iload hx hb dX11_odds_63 (lv_at hl 8 rfl) ?_
    refine lv_bipush (v := 8) hx hb dX11_odds_65 (by decide) ?_
    refine lv_icmp_ge (tgt := 112) hx hb dX11_odds_67 (by decide) (fun hc67 => ?_) (fun hc67 => ?_)
    · replace hf := it_t hf hc67
      refine lv_aload_n hx hb dX11_odds_112 rfl (lv_at hl 0 rfl) ?_
      refine gf_9_1 hX hM ho q_6_22 dX11_odds_113 ?_
      refine lv_iconst (v := 4) hx hb dX11_odds_116 (by decide) ?_
      refine lv_iload_n hx hb dX11_odds_117 rfl (lv_at hl 1 rfl) ?_
      refine lv_imul hx hb dX11_odds_118 ?_
      refine lv_iload_n hx hb dX11_odds_119 rfl (lv_at hl 2 rfl) ?_
      refine lv_iadd hx hb dX11_odds_120 ?_
      refine lv_iload hx hb dX11_odds_121 (lv_at hl 6 rfl) ?_
      replace hf := gA_some hf
      obtain ⟨hi, hf⟩ := hf
      refine ast hX hM (kr_9_1 ho) hi dX11_odds_123 (fun μ12 H locs eμ12 hM => ?_)
      replace hf := lt_e eμ12 hf
      refine lv_iload hx hb dX11_odds_124 (lv_at hl 7 rfl) ?_
      refine lv_i2l hx hb dX11_odds_126 rfl ?_
      refine lv_ldc2 (v := 8) hx hb hown (hts _ q_42_4) dX11_odds_127 ?_
      refine lv_iload hx hb dX11_odds_130 (lv_at hl 5 rfl) ?_
      replace hf := bnd_some hf
      obtain ⟨r14, μ13, h132, hf⟩ := hf
      refine cl_S (As := [.long x7.toInt64, .long (8 : Int64), .int a5]) (rest := []) (st2 := [.long r14]) (n := 3) hX hM (c_X11_part l  h132) mt_X11_part q_42_5 ⟨rfl, rfl⟩ ⟨Nat.le_of_ble_eq_true rfl, Nat.le_of_ble_eq_true rfl⟩ rfl hl.1 rfl (Nat.le_of_ble_eq_true rfl) dX11_odds_132 rfl (fun H locs hM => ?_)
      exact rt_l hX hM (congrArg (fun z => some (Value.long z)) (so_1 hf)) (so_2 hf) dX11_odds_135
    · replace hf := it_f hf hc67
      refine lv_aload_n hx hb dX11_odds_70 rfl (lv_at hl 0 rfl) ?_
      refine gf_9_1 hX hM ho q_6_22 dX11_odds_71 ?_
      refine lv_iconst (v := 4) hx hb dX11_odds_74 (by decide) ?_
      refine lv_iload_n hx hb dX11_odds_75 rfl (lv_at hl 1 rfl) ?_
      refine lv_imul hx hb dX11_odds_76 ?_
      refine lv_iload_n hx hb dX11_odds_77 rfl (lv_at hl 2 rfl) ?_
      refine lv_iadd hx hb dX11_odds_78 ?_
      refine lv_iload hx hb dX11_odds_79 (lv_at hl 8 rfl) ?_
      replace hf := gA_some hf
      obtain ⟨hi, hf⟩ := hf
      refine ast hX hM (kr_9_1 ho) hi dX11_odds_81 (fun μ15 H locs eμ15 hM => ?_)
      replace hf := lt_e eμ15 hf
      refine lv_aload_n hx hb dX11_odds_82 rfl (lv_at hl 0 rfl) ?_
      replace hf := bnv_some hf
      obtain ⟨μ16, h83, hf⟩ := hf
      refine cl_V (As := []) (rest := []) (st2 := []) (n := 0) hX hM (c_X11_seeks l ho h83) mv_X11_seeks q_17_23 ⟨rfl, rfl⟩ ⟨Nat.le_of_ble_eq_true rfl, Nat.le_of_ble_eq_true rfl⟩ ho (by decide) rfl rfl rfl hl.1 rfl (Nat.le_of_ble_eq_true rfl) dX11_odds_83 rfl (fun H locs hM => ?_)
      refine lv_iload hx hb dX11_odds_86 (lv_at hl 7 rfl) ?_
      refine lv_aload_n hx hb dX11_odds_88 rfl (lv_at hl 0 rfl) ?_
      refine lv_iload_n hx hb dX11_odds_89 rfl (lv_at hl 3 rfl) ?_
      refine lv_iload hx hb dX11_odds_90 (lv_at hl 4 rfl) ?_
      replace hf := bnd_some hf
      obtain ⟨r18, μ17, h92, hf⟩ := hf
      refine cl_V (As := [.int a3, .int a4]) (rest := [.int x7]) (st2 := [.int r18, .int x7]) (n := 2) hX hM (c_X11_isBy l ho h92) mv_X11_isBy q_41_8 ⟨rfl, rfl⟩ ⟨Nat.le_of_ble_eq_true rfl, Nat.le_of_ble_eq_true rfl⟩ ho (by decide) rfl rfl rfl hl.1 rfl (Nat.le_of_ble_eq_true rfl) dX11_odds_92 rfl (fun H locs hM => ?_)
      refine lv_if_eq (tgt := 102) hx hb dX11_odds_95 (by decide) (fun hc95 => ?_) (fun hc95 => ?_)
      · replace hf := it_t hf hc95
        refine lv_iconst (v := 0) hx hb dX11_odds_102 (by decide) ?_
        refine lv_iadd hx hb dX11_odds_103 ?_
        refine lv_topi (fun v19 ev19 => ?_)
        replace hf := lt_e ev19 hf
        refine lv_istore (lv' := [(7, .int v19), (0, .ref (eA E o)), (1, .int a1), (2, .int a2), (3, .int a3), (4, .int a4), (5, .int a5), (6, .int x6), (8, .int x8)]) hx hb dX11_odds_104 hl (by decide) rfl (fun ls hl => ?_)
        obtain ⟨v20, ev20⟩ : ∃ y : Int32, y = x8 + (1 : Int32) := ⟨_, rfl⟩
        replace hf := lt_e ev20 hf
        refine lv_iinc (v := v20) (lv' := [(8, .int v20), (7, .int v19), (0, .ref (eA E o)), (1, .int a1), (2, .int a2), (3, .int a3), (4, .int a4), (5, .int a5), (6, .int x6)]) hx hb dX11_odds_106 hl (k := 8) rfl (by rw [ev20]; rfl) (by decide) rfl (fun ls hl => ?_)
        refine lv_goto (tgt := 63) hx hb dX11_odds_109 (by decide) ?_
        exact hK63 _ _ _ _  hf _ _ hM _ (lv_sub hl [2, 3, 4, 5, 6, 7, 8, 1, 0] rfl)
      · replace hf := it_f hf hc95
        refine lv_iconst (v := 1) hx hb dX11_odds_98 (by decide) ?_
        refine lv_goto (tgt := 103) hx hb dX11_odds_99 (by decide) ?_
        refine lv_iadd hx hb dX11_odds_103 ?_
        refine lv_topi (fun v21 ev21 => ?_)
        replace hf := lt_e ev21 hf
        refine lv_istore (lv' := [(7, .int v21), (0, .ref (eA E o)), (1, .int a1), (2, .int a2), (3, .int a3), (4, .int a4), (5, .int a5), (6, .int x6), (8, .int x8)]) hx hb dX11_odds_104 hl (by decide) rfl (fun ls hl => ?_)
        obtain ⟨v22, ev22⟩ : ∃ y : Int32, y = x8 + (1 : Int32) := ⟨_, rfl⟩
        replace hf := lt_e ev22 hf
        refine lv_iinc (v := v22) (lv' := [(8, .int v22), (7, .int v21), (0, .ref (eA E o)), (1, .int a1), (2, .int a2), (3, .int a3), (4, .int a4), (5, .int a5), (6, .int x6)]) hx hb dX11_odds_106 hl (k := 8) rfl (by rw [ev22]; rfl) (by decide) rfl (fun ls hl => ?_)
        refine lv_goto (tgt := 63) hx hb dX11_odds_109 (by decide) ?_
        exact hK63 _ _ _ _  hf _ _ hM _ (lv_sub hl [2, 3, 4, 5, 6, 7, 8, 1, 0] rfl)
def f_X11_odds (o : Nat) (a1 : Int32) (a2 : Int32) (a3 : Int32) (a4 : Int32) (a5 : Int32) (μ : Mem) : Option (Int64 × Mem) :=
  bnd (f_X11_isZone a1 μ) (fun r2 μ1 => (if r2 = 0 then some ((-9223372036854775808 : Int64), μ1) else bnd (f_X11_isSpan a2 μ1) (fun r4 μ3 => (if r4 = 0 then some ((-9223372036854775808 : Int64), μ3) else bnd (f_X11_isSquare a3 μ3) (fun r6 μ5 => (if r6 = 0 then some ((-9223372036854775808 : Int64), μ5) else bnd (f_X11_in a4 (0 : Int32) (99999 : Int32) μ5) (fun r8 μ7 => (if r8 = 0 then some ((-9223372036854775808 : Int64), μ7) else bnd (f_X11_isPart a5 μ7) (fun r10 μ9 => (if r10 = 0 then some ((-9223372036854775808 : Int64), μ9) else gA (((4 : Int32) * a1) + a2) (aln (rf o 1)) (lt (μ9.1 (rf o 1) (((4 : Int32) * a1) + a2).toNatClampNeg) (fun v11 => f_X11_odds_b63 o a1 a2 a3 a4 a5  FU v11 (0 : Int32) (0 : Int32) μ9))))))))))))
set_option maxHeartbeats 4000000 in
set_option maxRecDepth 100000 in
theorem w_X11_odds (l : Launch) {o : Nat} {a1 : Int32} {a2 : Int32} {a3 : Int32} {a4 : Int32} {a5 : Int32} (ho : knd o = 9) {μ μ2 : Mem} {r : Int64} {H : Heap} {locs : List Loc} {ls : Array Slot} (hf : f_X11_odds o a1 a2 a3 a4 a5 μ = some (r, μ2)) (hX : XX E p m meth c cX11_odds 9 (some .long) s args RX11) (hM : MM E s μ H locs) (hl : lv_has ls 9 [(0, .ref (eA E o)), (1, .int a1), (2, .int a2), (3, .int a3), (4, .int a4), (5, .int a5)]) : W p l e (rmF 5 122) s m args below meth c H locs 0 0 (MQ below (QC E (some (.long r)) μ2) args s 0 0 (AA E)) (F0 m 0 ls []) := by
  obtain ⟨⟨hx, hb, hml, hown, hts⟩, hXr⟩ := id hX
  unfold f_X11_odds at hf
  refine lv_iload_n hx hb dX11_odds_0 rfl (lv_at hl 1 rfl) ?_
  replace hf := bnd_some hf
  obtain ⟨r2, μ1, h1, hf⟩ := hf
  refine cl_S (As := [.int a1]) (rest := []) (st2 := [.int r2]) (n := 1) hX hM (c_X11_isZone l  h1) mt_X11_isZone q_8_20 ⟨rfl, rfl⟩ ⟨Nat.le_of_ble_eq_true rfl, Nat.le_of_ble_eq_true rfl⟩ rfl hl.1 rfl (Nat.le_of_ble_eq_true rfl) dX11_odds_1 rfl (fun H locs hM => ?_)
  refine lv_if_eq (tgt := 41) hx hb dX11_odds_4 (by decide) (fun hc4 => ?_) (fun hc4 => ?_)
  · replace hf := it_t hf hc4
    refine lv_ldc2 (v := -9223372036854775808) hx hb hown (hts _ q_36_19) dX11_odds_41 ?_
    exact rt_l hX hM (congrArg (fun z => some (Value.long z)) (so_1 hf)) (so_2 hf) dX11_odds_44
  · replace hf := it_f hf hc4
    refine lv_iload_n hx hb dX11_odds_7 rfl (lv_at hl 2 rfl) ?_
    replace hf := bnd_some hf
    obtain ⟨r4, μ3, h8, hf⟩ := hf
    refine cl_S (As := [.int a2]) (rest := []) (st2 := [.int r4]) (n := 1) hX hM (c_X11_isSpan l  h8) mt_X11_isSpan q_9_2 ⟨rfl, rfl⟩ ⟨Nat.le_of_ble_eq_true rfl, Nat.le_of_ble_eq_true rfl⟩ rfl hl.1 rfl (Nat.le_of_ble_eq_true rfl) dX11_odds_8 rfl (fun H locs hM => ?_)
    refine lv_if_eq (tgt := 41) hx hb dX11_odds_11 (by decide) (fun hc11 => ?_) (fun hc11 => ?_)
    · replace hf := it_t hf hc11
      refine lv_ldc2 (v := -9223372036854775808) hx hb hown (hts _ q_36_19) dX11_odds_41 ?_
      exact rt_l hX hM (congrArg (fun z => some (Value.long z)) (so_1 hf)) (so_2 hf) dX11_odds_44
    · replace hf := it_f hf hc11
      refine lv_iload_n hx hb dX11_odds_14 rfl (lv_at hl 3 rfl) ?_
      replace hf := bnd_some hf
      obtain ⟨r6, μ5, h15, hf⟩ := hf
      refine cl_S (As := [.int a3]) (rest := []) (st2 := [.int r6]) (n := 1) hX hM (c_X11_isSquare l  h15) mt_X11_isSquare q_11_21 ⟨rfl, rfl⟩ ⟨Nat.le_of_ble_eq_true rfl, Nat.le_of_ble_eq_true rfl⟩ rfl hl.1 rfl (Nat.le_of_ble_eq_true rfl) dX11_odds_15 rfl (fun H locs hM => ?_)
      refine lv_if_eq (tgt := 41) hx hb dX11_odds_18 (by decide) (fun hc18 => ?_) (fun hc18 => ?_)
      · replace hf := it_t hf hc18
        refine lv_ldc2 (v := -9223372036854775808) hx hb hown (hts _ q_36_19) dX11_odds_41 ?_
        exact rt_l hX hM (congrArg (fun z => some (Value.long z)) (so_1 hf)) (so_2 hf) dX11_odds_44
      · replace hf := it_f hf hc18
        refine lv_iload hx hb dX11_odds_21 (lv_at hl 4 rfl) ?_
        refine lv_iconst (v := 0) hx hb dX11_odds_23 (by decide) ?_
        refine lv_ldcw (v := 99999) hx hb hown (hts _ q_39_16) dX11_odds_24 ?_
        replace hf := bnd_some hf
        obtain ⟨r8, μ7, h27, hf⟩ := hf
        refine cl_S (As := [.int a4, .int (0 : Int32), .int (99999 : Int32)]) (rest := []) (st2 := [.int r8]) (n := 3) hX hM (c_X11_in l  h27) mt_X11_in q_8_23 ⟨rfl, rfl⟩ ⟨Nat.le_of_ble_eq_true rfl, Nat.le_of_ble_eq_true rfl⟩ rfl hl.1 rfl (Nat.le_of_ble_eq_true rfl) dX11_odds_27 rfl (fun H locs hM => ?_)
        refine lv_if_eq (tgt := 41) hx hb dX11_odds_30 (by decide) (fun hc30 => ?_) (fun hc30 => ?_)
        · replace hf := it_t hf hc30
          refine lv_ldc2 (v := -9223372036854775808) hx hb hown (hts _ q_36_19) dX11_odds_41 ?_
          exact rt_l hX hM (congrArg (fun z => some (Value.long z)) (so_1 hf)) (so_2 hf) dX11_odds_44
        · replace hf := it_f hf hc30
          refine lv_iload hx hb dX11_odds_33 (lv_at hl 5 rfl) ?_
          replace hf := bnd_some hf
          obtain ⟨r10, μ9, h35, hf⟩ := hf
          refine cl_S (As := [.int a5]) (rest := []) (st2 := [.int r10]) (n := 1) hX hM (c_X11_isPart l  h35) mt_X11_isPart q_36_22 ⟨rfl, rfl⟩ ⟨Nat.le_of_ble_eq_true rfl, Nat.le_of_ble_eq_true rfl⟩ rfl hl.1 rfl (Nat.le_of_ble_eq_true rfl) dX11_odds_35 rfl (fun H locs hM => ?_)
          refine lv_if_ne (tgt := 45) hx hb dX11_odds_38 (by decide) (fun hc38 => ?_) (fun hc38 => ?_)
          · replace hf := it_f hf hc38
            refine lv_aload_n hx hb dX11_odds_45 rfl (lv_at hl 0 rfl) ?_
            refine gf_9_1 hX hM ho q_6_22 dX11_odds_46 ?_
            refine lv_iconst (v := 4) hx hb dX11_odds_49 (by decide) ?_
            refine lv_iload_n hx hb dX11_odds_50 rfl (lv_at hl 1 rfl) ?_
            refine lv_imul hx hb dX11_odds_51 ?_
            refine lv_iload_n hx hb dX11_odds_52 rfl (lv_at hl 2 rfl) ?_
            refine lv_iadd hx hb dX11_odds_53 ?_
            replace hf := gA_some hf
            obtain ⟨hi, hf⟩ := hf
            refine ald hX hM (kr_9_1 ho) hi dX11_odds_54 ?_
            refine lv_topi (fun v11 ev11 => ?_)
            replace hf := lt_e ev11 hf
            refine lv_istore (lv' := [(6, .int v11), (0, .ref (eA E o)), (1, .int a1), (2, .int a2), (3, .int a3), (4, .int a4), (5, .int a5)]) hx hb dX11_odds_55 hl (by decide) rfl (fun ls hl => ?_)
            refine lv_iconst (v := 0) hx hb dX11_odds_57 (by decide) ?_
            refine lv_istore (lv' := [(7, .int (0 : Int32)), (6, .int v11), (0, .ref (eA E o)), (1, .int a1), (2, .int a2), (3, .int a3), (4, .int a4), (5, .int a5)]) hx hb dX11_odds_58 hl (by decide) rfl (fun ls hl => ?_)
            refine lv_iconst (v := 0) hx hb dX11_odds_60 (by decide) ?_
            refine lv_istore (lv' := [(8, .int (0 : Int32)), (7, .int (0 : Int32)), (6, .int v11), (0, .ref (eA E o)), (1, .int a1), (2, .int a2), (3, .int a3), (4, .int a4), (5, .int a5)]) hx hb dX11_odds_61 hl (by decide) rfl (fun ls hl => ?_)
            exact w_X11_odds_b63 l ho hX  FU _ _ _ _  hf _ _ hM _ (lv_sub hl [3, 4, 5, 6, 7, 8, 2, 1, 0] rfl)
          · replace hf := it_t hf hc38
            refine lv_ldc2 (v := -9223372036854775808) hx hb hown (hts _ q_36_19) dX11_odds_41 ?_
            exact rt_l hX hM (congrArg (fun z => some (Value.long z)) (so_1 hf)) (so_2 hf) dX11_odds_44
theorem c_X11_odds (l : Launch) {o : Nat} {a1 : Int32} {a2 : Int32} {a3 : Int32} {a4 : Int32} {a5 : Int32} (ho : knd o = 9) {μ μ2 : Mem} {r : Int64} (hf : f_X11_odds o a1 a2 a3 a4 a5 μ = some (r, μ2)) : CT E l yX11_odds cX11_odds 9 (some .long) (rmF 5 122) [.ref (eA E o), .int a1, .int a2, .int a3, .int a4, .int a5] μ (some (.long r)) μ2 := CT.of (show plainFor yX11_odds = true by decide +kernel) (Nat.le_of_ble_eq_true rfl) rfl (fun _ _ _ _ _ _ _ _ hX hM hl => w_X11_odds l ho hf hX hM hl)
theorem mv_X11_odds : MV yX11_odds cX11_odds 9 (some .long) RX11 5 := ⟨q_42_3, q_42_1, q_42_2, q_1_5, by decide +kernel⟩
def f_X11_allLeast_b4 (o : Nat)  : Nat → Int32 → Int32 → Mem → Option (Int32 × Mem)
  | 0, _, _, _ => none
  | n + 1, x1, x2, μ =>
    (if (36 : Int32) ≤ x2 then some (x1, μ) else bnd (f_X11_leastOf o x2 μ) (fun r2 μ1 => lt (x1 + (mimax (0 : Int32) r2)) (fun v3 => lt (x2 + (1 : Int32)) (fun v4 => (f_X11_allLeast_b4 o  n) v3 v4 μ1))))
set_option maxHeartbeats 4000000 in
set_option maxRecDepth 100000 in
theorem w_X11_allLeast_b4 (l : Launch) {o : Nat} (ho : knd o = 9) {μ2 : Mem} {r : Int32}  (hX : XX E p m meth c cX11_allLeast 3 (some .int) s args RX11)  : ∀ (n : Nat) (x1 : Int32) (x2 : Int32) (μ : Mem), f_X11_allLeast_b4 o  n x1 x2 μ = some (r, μ2) → ∀ (H : Heap) (locs : List Loc), MM E s μ H locs → ∀ ls : Array Slot, lv_has ls 3 [(0, .ref (eA E o)), (1, .int x1), (2, .int x2)] → W p l e (rmF 2 44) s m args below meth c H locs 0 0 (MQ below (QC E (some (.int r)) μ2) args s 0 0 (AA E)) (F0 m 4 ls []) := by
  obtain ⟨⟨hx, hb, hml, hown, hts⟩, hXr⟩ := id hX
  intro n
  induction n with
  | zero => intro x1 x2 μ  hf; exact no_none hf
  | succ n ih =>
    intro x1 x2 μ  hf H locs hM ls hl
    rw [f_X11_allLeast_b4] at hf
    have hK4 := ih
    clear ih
    refine lv_iload_n hx hb dX11_allLeast_4 rfl (lv_at hl 2 rfl) ?_
    refine lv_bipush (v := 36) hx hb dX11_allLeast_5 (by decide) ?_
    refine lv_icmp_ge (tgt := 28) hx hb dX11_allLeast_7 (by decide) (fun hc7 => ?_) (fun hc7 => ?_)
    · replace hf := it_t hf hc7
      refine lv_iload_n hx hb dX11_allLeast_28 rfl (lv_at hl 1 rfl) ?_
      exact rt_i hX hM (congrArg (fun z => some (Value.int z)) (so_1 hf)) (so_2 hf) dX11_allLeast_29
    · replace hf := it_f hf hc7
      refine lv_iload_n hx hb dX11_allLeast_10 rfl (lv_at hl 1 rfl) ?_
      refine lv_iconst (v := 0) hx hb dX11_allLeast_11 (by decide) ?_
      refine lv_aload_n hx hb dX11_allLeast_12 rfl (lv_at hl 0 rfl) ?_
      refine lv_iload_n hx hb dX11_allLeast_13 rfl (lv_at hl 2 rfl) ?_
      replace hf := bnd_some hf
      obtain ⟨r2, μ1, h14, hf⟩ := hf
      refine cl_V (As := [.int x2]) (rest := [.int (0 : Int32), .int x1]) (st2 := [.int r2, .int (0 : Int32), .int x1]) (n := 1) hX hM (c_X11_leastOf l ho h14) mv_X11_leastOf q_19_16 ⟨rfl, rfl⟩ ⟨Nat.le_of_ble_eq_true rfl, Nat.le_of_ble_eq_true rfl⟩ ho (by decide) rfl rfl rfl hl.1 rfl (Nat.le_of_ble_eq_true rfl) dX11_allLeast_14 rfl (fun H locs hM => ?_)
      refine va_mmax (rest := [.int x1]) hx hb (hml.trans hl.1.symm) hown (hts _ q_18_22) (hts _ q_13_14) (hts _ q_13_15) (hts _ q_13_16) (Nat.le_of_ble_eq_true rfl) (Nat.le_of_ble_eq_true rfl) (Nat.zero_le _) (Nat.zero_le _) dX11_allLeast_17 ?_
      refine lv_iadd hx hb dX11_allLeast_20 ?_
      refine lv_topi (fun v3 ev3 => ?_)
      replace hf := lt_e ev3 hf
      refine lv_istore_n (lv' := [(1, .int v3), (0, .ref (eA E o)), (2, .int x2)]) hx hb dX11_allLeast_21 rfl hl (by decide) rfl (fun ls hl => ?_)
      obtain ⟨v4, ev4⟩ : ∃ y : Int32, y = x2 + (1 : Int32) := ⟨_, rfl⟩
      replace hf := lt_e ev4 hf
      refine lv_iinc (v := v4) (lv' := [(2, .int v4), (1, .int v3), (0, .ref (eA E o))]) hx hb dX11_allLeast_22 hl (k := 2) rfl (by rw [ev4]; rfl) (by decide) rfl (fun ls hl => ?_)
      refine lv_goto (tgt := 4) hx hb dX11_allLeast_25 (by decide) ?_
      exact hK4 _ _ _  hf _ _ hM _ (lv_sub hl [2, 1, 0] rfl)
def f_X11_allLeast (o : Nat) (μ : Mem) : Option (Int32 × Mem) :=
  f_X11_allLeast_b4 o  FU (0 : Int32) (0 : Int32) μ
set_option maxHeartbeats 4000000 in
set_option maxRecDepth 100000 in
theorem w_X11_allLeast (l : Launch) {o : Nat} (ho : knd o = 9) {μ μ2 : Mem} {r : Int32} {H : Heap} {locs : List Loc} {ls : Array Slot} (hf : f_X11_allLeast o μ = some (r, μ2)) (hX : XX E p m meth c cX11_allLeast 3 (some .int) s args RX11) (hM : MM E s μ H locs) (hl : lv_has ls 3 [(0, .ref (eA E o))]) : W p l e (rmF 2 44) s m args below meth c H locs 0 0 (MQ below (QC E (some (.int r)) μ2) args s 0 0 (AA E)) (F0 m 0 ls []) := by
  obtain ⟨⟨hx, hb, hml, hown, hts⟩, hXr⟩ := id hX
  unfold f_X11_allLeast at hf
  refine lv_iconst (v := 0) hx hb dX11_allLeast_0 (by decide) ?_
  refine lv_istore_n (lv' := [(1, .int (0 : Int32)), (0, .ref (eA E o))]) hx hb dX11_allLeast_1 rfl hl (by decide) rfl (fun ls hl => ?_)
  refine lv_iconst (v := 0) hx hb dX11_allLeast_2 (by decide) ?_
  refine lv_istore_n (lv' := [(2, .int (0 : Int32)), (1, .int (0 : Int32)), (0, .ref (eA E o))]) hx hb dX11_allLeast_3 rfl hl (by decide) rfl (fun ls hl => ?_)
  exact w_X11_allLeast_b4 l ho hX  FU _ _ _  hf _ _ hM _ (lv_sub hl [2, 1, 0] rfl)
theorem c_X11_allLeast (l : Launch) {o : Nat} (ho : knd o = 9) {μ μ2 : Mem} {r : Int32} (hf : f_X11_allLeast o μ = some (r, μ2)) : CT E l yX11_allLeast cX11_allLeast 3 (some .int) (rmF 2 44) [.ref (eA E o)] μ (some (.int r)) μ2 := CT.of (show plainFor yX11_allLeast = true by decide +kernel) (Nat.le_of_ble_eq_true rfl) rfl (fun _ _ _ _ _ _ _ _ hX hM hl => w_X11_allLeast l ho hf hX hM hl)
theorem mv_X11_allLeast : MV yX11_allLeast cX11_allLeast 3 (some .int) RX11 0 := ⟨q_43_2, q_43_0, q_43_1, q_1_5, by decide +kernel⟩
def f_X11_mean (o : Nat) (a1 : Int32) (μ : Mem) : Option (Int64 × Mem) :=
  bnd (f_X11_isPart a1 μ) (fun r2 μ1 => (if r2 = 0 then some ((-9223372036854775808 : Int64), μ1) else bnv (f_X11_seeks o μ1) (fun μ3 => bnd (f_X11_allLeast o μ3) (fun r5 μ4 => bnd (f_X11_reached o μ4) (fun r7 μ6 => bnd (f_X11_reached o μ6) (fun r9 μ8 => bnd (f_X11_part (r5.toInt64 - (r7.toInt64 * (μ6.1 o 9).toInt64)) r9.toInt64 a1 μ8) (fun r11 μ10 => some (r11, μ10))))))))
set_option maxHeartbeats 4000000 in
set_option maxRecDepth 100000 in
theorem w_X11_mean (l : Launch) {o : Nat} {a1 : Int32} (ho : knd o = 9) {μ μ2 : Mem} {r : Int64} {H : Heap} {locs : List Loc} {ls : Array Slot} (hf : f_X11_mean o a1 μ = some (r, μ2)) (hX : XX E p m meth c cX11_mean 2 (some .long) s args RX11) (hM : MM E s μ H locs) (hl : lv_has ls 2 [(0, .ref (eA E o)), (1, .int a1)]) : W p l e (rmF 5 122) s m args below meth c H locs 0 0 (MQ below (QC E (some (.long r)) μ2) args s 0 0 (AA E)) (F0 m 0 ls []) := by
  obtain ⟨⟨hx, hb, hml, hown, hts⟩, hXr⟩ := id hX
  unfold f_X11_mean at hf
  refine lv_iload_n hx hb dX11_mean_0 rfl (lv_at hl 1 rfl) ?_
  replace hf := bnd_some hf
  obtain ⟨r2, μ1, h1, hf⟩ := hf
  refine cl_S (As := [.int a1]) (rest := []) (st2 := [.int r2]) (n := 1) hX hM (c_X11_isPart l  h1) mt_X11_isPart q_36_22 ⟨rfl, rfl⟩ ⟨Nat.le_of_ble_eq_true rfl, Nat.le_of_ble_eq_true rfl⟩ rfl hl.1 rfl (Nat.le_of_ble_eq_true rfl) dX11_mean_1 rfl (fun H locs hM => ?_)
  refine lv_if_ne (tgt := 11) hx hb dX11_mean_4 (by decide) (fun hc4 => ?_) (fun hc4 => ?_)
  · replace hf := it_f hf hc4
    refine lv_aload_n hx hb dX11_mean_11 rfl (lv_at hl 0 rfl) ?_
    replace hf := bnv_some hf
    obtain ⟨μ3, h12, hf⟩ := hf
    refine cl_V (As := []) (rest := []) (st2 := []) (n := 0) hX hM (c_X11_seeks l ho h12) mv_X11_seeks q_17_23 ⟨rfl, rfl⟩ ⟨Nat.le_of_ble_eq_true rfl, Nat.le_of_ble_eq_true rfl⟩ ho (by decide) rfl rfl rfl hl.1 rfl (Nat.le_of_ble_eq_true rfl) dX11_mean_12 rfl (fun H locs hM => ?_)
    refine lv_aload_n hx hb dX11_mean_15 rfl (lv_at hl 0 rfl) ?_
    replace hf := bnd_some hf
    obtain ⟨r5, μ4, h16, hf⟩ := hf
    refine cl_V (As := []) (rest := []) (st2 := [.int r5]) (n := 0) hX hM (c_X11_allLeast l ho h16) mv_X11_allLeast q_42_23 ⟨rfl, rfl⟩ ⟨Nat.le_of_ble_eq_true rfl, Nat.le_of_ble_eq_true rfl⟩ ho (by decide) rfl rfl rfl hl.1 rfl (Nat.le_of_ble_eq_true rfl) dX11_mean_16 rfl (fun H locs hM => ?_)
    refine lv_i2l hx hb dX11_mean_19 rfl ?_
    refine lv_aload_n hx hb dX11_mean_20 rfl (lv_at hl 0 rfl) ?_
    replace hf := bnd_some hf
    obtain ⟨r7, μ6, h21, hf⟩ := hf
    refine cl_V (As := []) (rest := [.long r5.toInt64]) (st2 := [.int r7, .long r5.toInt64]) (n := 0) hX hM (c_X11_reached l ho h21) mv_X11_reached q_19_12 ⟨rfl, rfl⟩ ⟨Nat.le_of_ble_eq_true rfl, Nat.le_of_ble_eq_true rfl⟩ ho (by decide) rfl rfl rfl hl.1 rfl (Nat.le_of_ble_eq_true rfl) dX11_mean_21 rfl (fun H locs hM => ?_)
    refine lv_i2l hx hb dX11_mean_24 rfl ?_
    refine lv_aload_n hx hb dX11_mean_25 rfl (lv_at hl 0 rfl) ?_
    refine gf_9_9 hX hM ho q_17_22 dX11_mean_26 ?_
    refine lv_i2l hx hb dX11_mean_29 rfl ?_
    refine lv_lmul hx hb dX11_mean_30 ?_
    refine lv_lsub hx hb dX11_mean_31 ?_
    refine lv_aload_n hx hb dX11_mean_32 rfl (lv_at hl 0 rfl) ?_
    replace hf := bnd_some hf
    obtain ⟨r9, μ8, h33, hf⟩ := hf
    refine cl_V (As := []) (rest := [.long (r5.toInt64 - (r7.toInt64 * (μ6.1 o 9).toInt64))]) (st2 := [.int r9, .long (r5.toInt64 - (r7.toInt64 * (μ6.1 o 9).toInt64))]) (n := 0) hX hM (c_X11_reached l ho h33) mv_X11_reached q_19_12 ⟨rfl, rfl⟩ ⟨Nat.le_of_ble_eq_true rfl, Nat.le_of_ble_eq_true rfl⟩ ho (by decide) rfl rfl rfl hl.1 rfl (Nat.le_of_ble_eq_true rfl) dX11_mean_33 rfl (fun H locs hM => ?_)
    refine lv_i2l hx hb dX11_mean_36 rfl ?_
    refine lv_iload_n hx hb dX11_mean_37 rfl (lv_at hl 1 rfl) ?_
    replace hf := bnd_some hf
    obtain ⟨r11, μ10, h38, hf⟩ := hf
    refine cl_S (As := [.long (r5.toInt64 - (r7.toInt64 * (μ6.1 o 9).toInt64)), .long r9.toInt64, .int a1]) (rest := []) (st2 := [.long r11]) (n := 3) hX hM (c_X11_part l  h38) mt_X11_part q_42_5 ⟨rfl, rfl⟩ ⟨Nat.le_of_ble_eq_true rfl, Nat.le_of_ble_eq_true rfl⟩ rfl hl.1 rfl (Nat.le_of_ble_eq_true rfl) dX11_mean_38 rfl (fun H locs hM => ?_)
    exact rt_l hX hM (congrArg (fun z => some (Value.long z)) (so_1 hf)) (so_2 hf) dX11_mean_41
  · replace hf := it_t hf hc4
    refine lv_ldc2 (v := -9223372036854775808) hx hb hown (hts _ q_36_19) dX11_mean_7 ?_
    exact rt_l hX hM (congrArg (fun z => some (Value.long z)) (so_1 hf)) (so_2 hf) dX11_mean_10
theorem c_X11_mean (l : Launch) {o : Nat} {a1 : Int32} (ho : knd o = 9) {μ μ2 : Mem} {r : Int64} (hf : f_X11_mean o a1 μ = some (r, μ2)) : CT E l yX11_mean cX11_mean 2 (some .long) (rmF 5 122) [.ref (eA E o), .int a1] μ (some (.long r)) μ2 := CT.of (show plainFor yX11_mean = true by decide +kernel) (Nat.le_of_ble_eq_true rfl) rfl (fun _ _ _ _ _ _ _ _ hX hM hl => w_X11_mean l ho hf hX hM hl)
theorem mv_X11_mean : MV yX11_mean cX11_mean 2 (some .long) RX11 1 := ⟨q_42_22, q_42_20, q_42_21, q_1_5, by decide +kernel⟩
def f_X11_event_b50 (o : Nat) (a1 : Int32) (a2 : Int32)   (μ : Mem) : Option (Int32 × Mem) :=
  (if (μ.1 o 15) = (8 : Int32) then some ((-4 : Int32), μ) else gA (μ.1 o 15) (aln (rf o 16)) (lt (sI μ (rf o 16) (μ.1 o 15).toNatClampNeg a1) (fun μ3 => gA (μ3.1 o 15) (aln (rf o 17)) (lt (sI μ3 (rf o 17) (μ3.1 o 15).toNatClampNeg a2) (fun μ4 => lt (sI μ4 o 15 ((μ4.1 o 15) + (1 : Int32))) (fun μ5 => some ((μ5.1 o 15), μ5)))))))
set_option maxHeartbeats 4000000 in
set_option maxRecDepth 100000 in
theorem w_X11_event_b50 (l : Launch) {o : Nat} {a1 : Int32} {a2 : Int32} (ho : knd o = 9) {μ2 : Mem} {r : Int32}    {μ : Mem} {H : Heap} {locs : List Loc} {ls : Array Slot}  (hf : f_X11_event_b50 o a1 a2   μ = some (r, μ2)) (hX : XX E p m meth c cX11_event 3 (some .int) s args RX11) (hM : MM E s μ H locs) (hl : lv_has ls 3 [(0, .ref (eA E o)), (1, .int a1), (2, .int a2)]) : W p l e (rmF 2 42) s m args below meth c H locs 0 0 (MQ below (QC E (some (.int r)) μ2) args s 0 0 (AA E)) (F0 m 50 ls []) := by
  obtain ⟨⟨hx, hb, hml, hown, hts⟩, hXr⟩ := id hX
  unfold f_X11_event_b50 at hf
  refine lv_aload_n hx hb dX11_event_50 rfl (lv_at hl 0 rfl) ?_
  refine gf_9_15 hX hM ho q_43_12 dX11_event_51 ?_
  refine lv_bipush (v := 8) hx hb dX11_event_54 (by decide) ?_
  refine lv_icmp_ne (tgt := 62) hx hb dX11_event_56 (by decide) (fun hc56 => ?_) (fun hc56 => ?_)
  · replace hf := it_f hf hc56
    refine lv_aload_n hx hb dX11_event_62 rfl (lv_at hl 0 rfl) ?_
    refine gf_9_16 hX hM ho q_7_7 dX11_event_63 ?_
    refine lv_aload_n hx hb dX11_event_66 rfl (lv_at hl 0 rfl) ?_
    refine gf_9_15 hX hM ho q_43_12 dX11_event_67 ?_
    refine lv_iload_n hx hb dX11_event_70 rfl (lv_at hl 1 rfl) ?_
    replace hf := gA_some hf
    obtain ⟨hi, hf⟩ := hf
    refine ast hX hM (kr_9_16 ho) hi dX11_event_71 (fun μ3 H locs eμ3 hM => ?_)
    replace hf := lt_e eμ3 hf
    refine lv_aload_n hx hb dX11_event_72 rfl (lv_at hl 0 rfl) ?_
    refine gf_9_17 hX hM ho q_7_8 dX11_event_73 ?_
    refine lv_aload_n hx hb dX11_event_76 rfl (lv_at hl 0 rfl) ?_
    refine gf_9_15 hX hM ho q_43_12 dX11_event_77 ?_
    refine lv_iload_n hx hb dX11_event_80 rfl (lv_at hl 2 rfl) ?_
    replace hf := gA_some hf
    obtain ⟨hi, hf⟩ := hf
    refine ast hX hM (kr_9_17 ho) hi dX11_event_81 (fun μ4 H locs eμ4 hM => ?_)
    replace hf := lt_e eμ4 hf
    refine lv_aload_n hx hb dX11_event_82 rfl (lv_at hl 0 rfl) ?_
    refine lv_dup hx hb dX11_event_83 rfl ?_
    refine gf_9_15 hX hM ho q_43_12 dX11_event_84 ?_
    refine lv_iconst (v := 1) hx hb dX11_event_87 (by decide) ?_
    refine lv_iadd hx hb dX11_event_88 ?_
    refine pf_9_15 hX hM ho q_43_12 dX11_event_89 (fun μ5 H locs eμ5 hM => ?_)
    replace hf := lt_e eμ5 hf
    refine lv_aload_n hx hb dX11_event_92 rfl (lv_at hl 0 rfl) ?_
    refine gf_9_15 hX hM ho q_43_12 dX11_event_93 ?_
    exact rt_i hX hM (congrArg (fun z => some (Value.int z)) (so_1 hf)) (so_2 hf) dX11_event_96
  · replace hf := it_t hf hc56
    refine lv_bipush (v := (-4)) hx hb dX11_event_59 (by decide) ?_
    exact rt_i hX hM (congrArg (fun z => some (Value.int z)) (so_1 hf)) (so_2 hf) dX11_event_61
def f_X11_event_b35 (o : Nat) (a1 : Int32) (a2 : Int32)   (μ : Mem) : Option (Int32 × Mem) :=
  (if a1 = (2 : Int32) then bnd (f_X11_isHeading a2 μ) (fun r7 μ6 => (if r7 = 0 then some ((-2 : Int32), μ6) else f_X11_event_b50 o a1 a2   μ6)) else f_X11_event_b50 o a1 a2   μ)
set_option maxHeartbeats 4000000 in
set_option maxRecDepth 100000 in
theorem w_X11_event_b35 (l : Launch) {o : Nat} {a1 : Int32} {a2 : Int32} (ho : knd o = 9) {μ2 : Mem} {r : Int32}    {μ : Mem} {H : Heap} {locs : List Loc} {ls : Array Slot}  (hf : f_X11_event_b35 o a1 a2   μ = some (r, μ2)) (hX : XX E p m meth c cX11_event 3 (some .int) s args RX11) (hM : MM E s μ H locs) (hl : lv_has ls 3 [(0, .ref (eA E o)), (1, .int a1), (2, .int a2)]) : W p l e (rmF 2 42) s m args below meth c H locs 0 0 (MQ below (QC E (some (.int r)) μ2) args s 0 0 (AA E)) (F0 m 35 ls []) := by
  obtain ⟨⟨hx, hb, hml, hown, hts⟩, hXr⟩ := id hX
  unfold f_X11_event_b35 at hf
  refine lv_iload_n hx hb dX11_event_35 rfl (lv_at hl 1 rfl) ?_
  refine lv_iconst (v := 2) hx hb dX11_event_36 (by decide) ?_
  refine lv_icmp_ne (tgt := 50) hx hb dX11_event_37 (by decide) (fun hc37 => ?_) (fun hc37 => ?_)
  · replace hf := it_f hf hc37
    exact w_X11_event_b50 l ho   hf hX hM (lv_sub hl [0, 1, 2] rfl)
  · replace hf := it_t hf hc37
    refine lv_iload_n hx hb dX11_event_40 rfl (lv_at hl 2 rfl) ?_
    replace hf := bnd_some hf
    obtain ⟨r7, μ6, h41, hf⟩ := hf
    refine cl_S (As := [.int a2]) (rest := []) (st2 := [.int r7]) (n := 1) hX hM (c_X11_isHeading l  h41) mt_X11_isHeading q_9_5 ⟨rfl, rfl⟩ ⟨Nat.le_of_ble_eq_true rfl, Nat.le_of_ble_eq_true rfl⟩ rfl hl.1 rfl (Nat.le_of_ble_eq_true rfl) dX11_event_41 rfl (fun H locs hM => ?_)
    refine lv_if_ne (tgt := 50) hx hb dX11_event_44 (by decide) (fun hc44 => ?_) (fun hc44 => ?_)
    · replace hf := it_f hf hc44
      exact w_X11_event_b50 l ho   hf hX hM (lv_sub hl [0, 1, 2] rfl)
    · replace hf := it_t hf hc44
      refine lv_bipush (v := (-2)) hx hb dX11_event_47 (by decide) ?_
      exact rt_i hX hM (congrArg (fun z => some (Value.int z)) (so_1 hf)) (so_2 hf) dX11_event_49
def f_X11_event (o : Nat) (a1 : Int32) (a2 : Int32) (μ : Mem) : Option (Int32 × Mem) :=
  (if a1 = (-1 : Int32) then lt (sI μ o 15 (0 : Int32)) (fun μ10 => some ((0 : Int32), μ10)) else bnd (f_X11_in a1 (0 : Int32) (3 : Int32) μ) (fun r2 μ1 => (if r2 = 0 then some ((-1 : Int32), μ1) else (if a1 = (2 : Int32) then f_X11_event_b35 o a1 a2   μ1 else bnd (f_X11_isZone a2 μ1) (fun r9 μ8 => (if r9 = 0 then some ((-1 : Int32), μ8) else f_X11_event_b35 o a1 a2   μ8))))))
set_option maxHeartbeats 4000000 in
set_option maxRecDepth 100000 in
theorem w_X11_event (l : Launch) {o : Nat} {a1 : Int32} {a2 : Int32} (ho : knd o = 9) {μ μ2 : Mem} {r : Int32} {H : Heap} {locs : List Loc} {ls : Array Slot} (hf : f_X11_event o a1 a2 μ = some (r, μ2)) (hX : XX E p m meth c cX11_event 3 (some .int) s args RX11) (hM : MM E s μ H locs) (hl : lv_has ls 3 [(0, .ref (eA E o)), (1, .int a1), (2, .int a2)]) : W p l e (rmF 2 42) s m args below meth c H locs 0 0 (MQ below (QC E (some (.int r)) μ2) args s 0 0 (AA E)) (F0 m 0 ls []) := by
  obtain ⟨⟨hx, hb, hml, hown, hts⟩, hXr⟩ := id hX
  unfold f_X11_event at hf
  refine lv_iload_n hx hb dX11_event_0 rfl (lv_at hl 1 rfl) ?_
  refine lv_iconst (v := (-1)) hx hb dX11_event_1 (by decide) ?_
  refine lv_icmp_ne (tgt := 12) hx hb dX11_event_2 (by decide) (fun hc2 => ?_) (fun hc2 => ?_)
  · replace hf := it_f hf hc2
    refine lv_iload_n hx hb dX11_event_12 rfl (lv_at hl 1 rfl) ?_
    refine lv_iconst (v := 0) hx hb dX11_event_13 (by decide) ?_
    refine lv_iconst (v := 3) hx hb dX11_event_14 (by decide) ?_
    replace hf := bnd_some hf
    obtain ⟨r2, μ1, h15, hf⟩ := hf
    refine cl_S (As := [.int a1, .int (0 : Int32), .int (3 : Int32)]) (rest := []) (st2 := [.int r2]) (n := 3) hX hM (c_X11_in l  h15) mt_X11_in q_8_23 ⟨rfl, rfl⟩ ⟨Nat.le_of_ble_eq_true rfl, Nat.le_of_ble_eq_true rfl⟩ rfl hl.1 rfl (Nat.le_of_ble_eq_true rfl) dX11_event_15 rfl (fun H locs hM => ?_)
    refine lv_if_eq (tgt := 33) hx hb dX11_event_18 (by decide) (fun hc18 => ?_) (fun hc18 => ?_)
    · replace hf := it_t hf hc18
      refine lv_iconst (v := (-1)) hx hb dX11_event_33 (by decide) ?_
      exact rt_i hX hM (congrArg (fun z => some (Value.int z)) (so_1 hf)) (so_2 hf) dX11_event_34
    · replace hf := it_f hf hc18
      refine lv_iload_n hx hb dX11_event_21 rfl (lv_at hl 1 rfl) ?_
      refine lv_iconst (v := 2) hx hb dX11_event_22 (by decide) ?_
      refine lv_icmp_eq (tgt := 35) hx hb dX11_event_23 (by decide) (fun hc23 => ?_) (fun hc23 => ?_)
      · replace hf := it_t hf hc23
        exact w_X11_event_b35 l ho   hf hX hM (lv_sub hl [0, 1, 2] rfl)
      · replace hf := it_f hf hc23
        refine lv_iload_n hx hb dX11_event_26 rfl (lv_at hl 2 rfl) ?_
        replace hf := bnd_some hf
        obtain ⟨r9, μ8, h27, hf⟩ := hf
        refine cl_S (As := [.int a2]) (rest := []) (st2 := [.int r9]) (n := 1) hX hM (c_X11_isZone l  h27) mt_X11_isZone q_8_20 ⟨rfl, rfl⟩ ⟨Nat.le_of_ble_eq_true rfl, Nat.le_of_ble_eq_true rfl⟩ rfl hl.1 rfl (Nat.le_of_ble_eq_true rfl) dX11_event_27 rfl (fun H locs hM => ?_)
        refine lv_if_ne (tgt := 35) hx hb dX11_event_30 (by decide) (fun hc30 => ?_) (fun hc30 => ?_)
        · replace hf := it_f hf hc30
          exact w_X11_event_b35 l ho   hf hX hM (lv_sub hl [0, 1, 2] rfl)
        · replace hf := it_t hf hc30
          refine lv_iconst (v := (-1)) hx hb dX11_event_33 (by decide) ?_
          exact rt_i hX hM (congrArg (fun z => some (Value.int z)) (so_1 hf)) (so_2 hf) dX11_event_34
  · replace hf := it_t hf hc2
    refine lv_aload_n hx hb dX11_event_5 rfl (lv_at hl 0 rfl) ?_
    refine lv_iconst (v := 0) hx hb dX11_event_6 (by decide) ?_
    refine pf_9_15 hX hM ho q_43_12 dX11_event_7 (fun μ10 H locs eμ10 hM => ?_)
    replace hf := lt_e eμ10 hf
    refine lv_iconst (v := 0) hx hb dX11_event_10 (by decide) ?_
    exact rt_i hX hM (congrArg (fun z => some (Value.int z)) (so_1 hf)) (so_2 hf) dX11_event_11
theorem c_X11_event (l : Launch) {o : Nat} {a1 : Int32} {a2 : Int32} (ho : knd o = 9) {μ μ2 : Mem} {r : Int32} (hf : f_X11_event o a1 a2 μ = some (r, μ2)) : CT E l yX11_event cX11_event 3 (some .int) (rmF 2 42) [.ref (eA E o), .int a1, .int a2] μ (some (.int r)) μ2 := CT.of (show plainFor yX11_event = true by decide +kernel) (Nat.le_of_ble_eq_true rfl) rfl (fun _ _ _ _ _ _ _ _ hX hM hl => w_X11_event l ho hf hX hM hl)
theorem mv_X11_event : MV yX11_event cX11_event 3 (some .int) RX11 2 := ⟨q_43_11, q_43_9, q_43_10, q_1_5, by decide +kernel⟩
def f_X11_happens_b20 (o : Nat) (a1 : Int32) (a2 : Int32) (K2 : Int32 → Mem → Option (Mem)) (x3 : Int32) (t0 : Int32) (μ : Mem) : Option (Mem) :=
  (if a1 = (2 : Int32) then gA x3 (aln (rf o 1)) (gA x3 (aln (rf o 1)) (lt (sI μ (rf o 1) x3.toNatClampNeg (((μ.1 (rf o 1) x3.toNatClampNeg) + a2) - ((μ.1 (rf o 1) x3.toNatClampNeg) + a2) / (8 : Int32) * (8 : Int32))) (fun μ8 => lt (x3 + (1 : Int32)) (fun v9 => K2 v9 μ8)))) else (if t0 = 0 then lt (x3 + (1 : Int32)) (fun v2 => K2 v2 μ) else (if (2 : Int32) ≤ a1 then lt (x3 + (1 : Int32)) (fun v3 => K2 v3 μ) else (if a1 = 0 then gA x3 (aln (rf o 2)) (lt (sI μ (rf o 2) x3.toNatClampNeg (0 : Int32)) (fun μ6 => lt (x3 + (1 : Int32)) (fun v7 => K2 v7 μ6))) else gA x3 (aln (rf o 2)) (gA x3 (aln (rf o 2)) (lt (sI μ (rf o 2) x3.toNatClampNeg (mimin (3 : Int32) ((μ.1 (rf o 2) x3.toNatClampNeg) + (1 : Int32)))) (fun μ4 => lt (x3 + (1 : Int32)) (fun v5 => K2 v5 μ4))))))))
set_option maxHeartbeats 4000000 in
set_option maxRecDepth 100000 in
theorem w_X11_happens_b20 (l : Launch) {o : Nat} {a1 : Int32} {a2 : Int32} (ho : knd o = 9) {μ2 : Mem} {K2 : Int32 → Mem → Option (Mem)} (hK2 : ∀ (x3 : Int32) (μ : Mem), K2 x3 μ = some μ2 → ∀ (H : Heap) (locs : List Loc), MM E s μ H locs → ∀ ls : Array Slot, lv_has ls 5 [(0, .ref (eA E o)), (1, .int a1), (2, .int a2), (3, .int x3)] → W p l e (rmF 1 21) s m args below meth c H locs 0 0 (MQ below (QC E (none) μ2) args s 0 0 (AA E)) (F0 m 2 ls [])) {x3 : Int32} {t0 : Int32} {μ : Mem} {H : Heap} {locs : List Loc} {ls : Array Slot}  (hf : f_X11_happens_b20 o a1 a2 K2 x3 t0 μ = some μ2) (hX : XX E p m meth c cX11_happens 5 none s args RX11) (hM : MM E s μ H locs) (hl : lv_has ls 5 [(0, .ref (eA E o)), (1, .int a1), (2, .int a2), (3, .int x3)]) : W p l e (rmF 1 21) s m args below meth c H locs 0 0 (MQ below (QC E (none) μ2) args s 0 0 (AA E)) (F0 m 20 ls [.int t0]) := by
  obtain ⟨⟨hx, hb, hml, hown, hts⟩, hXr⟩ := id hX
  unfold f_X11_happens_b20 at hf
  refine lv_istore (lv' := [(4, .int t0), (0, .ref (eA E o)), (1, .int a1), (2, .int a2), (3, .int x3)]) hx hb dX11_happens_20 hl (by decide) rfl (fun ls hl => ?_)
  refine lv_iload_n hx hb dX11_happens_22 rfl (lv_at hl 2 rfl) ?_
  refine lv_iconst (v := 2) hx hb dX11_happens_23 (by decide) ?_
  refine lv_icmp_ne (tgt := 47) hx hb dX11_happens_24 (by decide) (fun hc24 => ?_) (fun hc24 => ?_)
  · replace hf := it_f hf hc24
    refine lv_iload hx hb dX11_happens_47 (lv_at hl 0 rfl) ?_
    refine lv_if_eq (tgt := 83) hx hb dX11_happens_49 (by decide) (fun hc49 => ?_) (fun hc49 => ?_)
    · replace hf := it_t hf hc49
      obtain ⟨v2, ev2⟩ : ∃ y : Int32, y = x3 + (1 : Int32) := ⟨_, rfl⟩
      replace hf := lt_e ev2 hf
      refine lv_iinc (v := v2) (lv' := [(3, .int v2), (4, .int t0), (0, .ref (eA E o)), (1, .int a1), (2, .int a2)]) hx hb dX11_happens_83 hl (k := 4) rfl (by rw [ev2]; rfl) (by decide) rfl (fun ls hl => ?_)
      refine lv_goto (tgt := 2) hx hb dX11_happens_86 (by decide) ?_
      exact hK2 _ _  hf _ _ hM _ (lv_sub hl [2, 3, 4, 0] rfl)
    · replace hf := it_f hf hc49
      refine lv_iload_n hx hb dX11_happens_52 rfl (lv_at hl 2 rfl) ?_
      refine lv_iconst (v := 2) hx hb dX11_happens_53 (by decide) ?_
      refine lv_icmp_ge (tgt := 83) hx hb dX11_happens_54 (by decide) (fun hc54 => ?_) (fun hc54 => ?_)
      · replace hf := it_t hf hc54
        obtain ⟨v3, ev3⟩ : ∃ y : Int32, y = x3 + (1 : Int32) := ⟨_, rfl⟩
        replace hf := lt_e ev3 hf
        refine lv_iinc (v := v3) (lv' := [(3, .int v3), (4, .int t0), (0, .ref (eA E o)), (1, .int a1), (2, .int a2)]) hx hb dX11_happens_83 hl (k := 4) rfl (by rw [ev3]; rfl) (by decide) rfl (fun ls hl => ?_)
        refine lv_goto (tgt := 2) hx hb dX11_happens_86 (by decide) ?_
        exact hK2 _ _  hf _ _ hM _ (lv_sub hl [2, 3, 4, 0] rfl)
      · replace hf := it_f hf hc54
        refine lv_aload_n hx hb dX11_happens_57 rfl (lv_at hl 1 rfl) ?_
        refine gf_9_2 hX hM ho q_6_23 dX11_happens_58 ?_
        refine lv_iload_n hx hb dX11_happens_61 rfl (lv_at hl 4 rfl) ?_
        refine lv_iload_n hx hb dX11_happens_62 rfl (lv_at hl 2 rfl) ?_
        refine lv_if_ne (tgt := 70) hx hb dX11_happens_63 (by decide) (fun hc63 => ?_) (fun hc63 => ?_)
        · replace hf := it_f hf hc63
          refine lv_iconst (v := 3) hx hb dX11_happens_70 (by decide) ?_
          refine lv_aload_n hx hb dX11_happens_71 rfl (lv_at hl 1 rfl) ?_
          refine gf_9_2 hX hM ho q_6_23 dX11_happens_72 ?_
          refine lv_iload_n hx hb dX11_happens_75 rfl (lv_at hl 4 rfl) ?_
          replace hf := gA_some hf
          obtain ⟨hi, hf⟩ := hf
          refine ald hX hM (kr_9_2 ho) hi dX11_happens_76 ?_
          refine lv_iconst (v := 1) hx hb dX11_happens_77 (by decide) ?_
          refine lv_iadd hx hb dX11_happens_78 ?_
          refine va_mmin (rest := [.int x3, .ref (eA E (rf o 2))]) hx hb (hml.trans hl.1.symm) hown (hts _ q_19_8) (hts _ q_17_4) (hts _ q_13_15) (hts _ q_17_5) (Nat.le_of_ble_eq_true rfl) (Nat.le_of_ble_eq_true rfl) (Nat.zero_le _) (Nat.zero_le _) dX11_happens_79 ?_
          replace hf := gA_some hf
          obtain ⟨hi, hf⟩ := hf
          refine ast hX hM (kr_9_2 ho) hi dX11_happens_82 (fun μ4 H locs eμ4 hM => ?_)
          replace hf := lt_e eμ4 hf
          obtain ⟨v5, ev5⟩ : ∃ y : Int32, y = x3 + (1 : Int32) := ⟨_, rfl⟩
          replace hf := lt_e ev5 hf
          refine lv_iinc (v := v5) (lv' := [(3, .int v5), (4, .int t0), (0, .ref (eA E o)), (1, .int a1), (2, .int a2)]) hx hb dX11_happens_83 hl (k := 4) rfl (by rw [ev5]; rfl) (by decide) rfl (fun ls hl => ?_)
          refine lv_goto (tgt := 2) hx hb dX11_happens_86 (by decide) ?_
          exact hK2 _ _  hf _ _ hM _ (lv_sub hl [2, 3, 4, 0] rfl)
        · replace hf := it_t hf hc63
          refine lv_iconst (v := 0) hx hb dX11_happens_66 (by decide) ?_
          refine lv_goto (tgt := 82) hx hb dX11_happens_67 (by decide) ?_
          replace hf := gA_some hf
          obtain ⟨hi, hf⟩ := hf
          refine ast hX hM (kr_9_2 ho) hi dX11_happens_82 (fun μ6 H locs eμ6 hM => ?_)
          replace hf := lt_e eμ6 hf
          obtain ⟨v7, ev7⟩ : ∃ y : Int32, y = x3 + (1 : Int32) := ⟨_, rfl⟩
          replace hf := lt_e ev7 hf
          refine lv_iinc (v := v7) (lv' := [(3, .int v7), (4, .int t0), (0, .ref (eA E o)), (1, .int a1), (2, .int a2)]) hx hb dX11_happens_83 hl (k := 4) rfl (by rw [ev7]; rfl) (by decide) rfl (fun ls hl => ?_)
          refine lv_goto (tgt := 2) hx hb dX11_happens_86 (by decide) ?_
          exact hK2 _ _  hf _ _ hM _ (lv_sub hl [2, 3, 4, 0] rfl)
  · replace hf := it_t hf hc24
    refine lv_aload_n hx hb dX11_happens_27 rfl (lv_at hl 1 rfl) ?_
    refine gf_9_1 hX hM ho q_6_22 dX11_happens_28 ?_
    refine lv_iload_n hx hb dX11_happens_31 rfl (lv_at hl 4 rfl) ?_
    refine lv_aload_n hx hb dX11_happens_32 rfl (lv_at hl 1 rfl) ?_
    refine gf_9_1 hX hM ho q_6_22 dX11_happens_33 ?_
    refine lv_iload_n hx hb dX11_happens_36 rfl (lv_at hl 4 rfl) ?_
    replace hf := gA_some hf
    obtain ⟨hi, hf⟩ := hf
    refine ald hX hM (kr_9_1 ho) hi dX11_happens_37 ?_
    refine lv_iload_n hx hb dX11_happens_38 rfl (lv_at hl 3 rfl) ?_
    refine lv_iadd hx hb dX11_happens_39 ?_
    refine lv_bipush (v := 8) hx hb dX11_happens_40 (by decide) ?_
    refine lv_irem hx hb dX11_happens_42 (by decide) ?_
    replace hf := gA_some hf
    obtain ⟨hi, hf⟩ := hf
    refine ast hX hM (kr_9_1 ho) hi dX11_happens_43 (fun μ8 H locs eμ8 hM => ?_)
    replace hf := lt_e eμ8 hf
    refine lv_goto (tgt := 83) hx hb dX11_happens_44 (by decide) ?_
    obtain ⟨v9, ev9⟩ : ∃ y : Int32, y = x3 + (1 : Int32) := ⟨_, rfl⟩
    replace hf := lt_e ev9 hf
    refine lv_iinc (v := v9) (lv' := [(3, .int v9), (4, .int t0), (0, .ref (eA E o)), (1, .int a1), (2, .int a2)]) hx hb dX11_happens_83 hl (k := 4) rfl (by rw [ev9]; rfl) (by decide) rfl (fun ls hl => ?_)
    refine lv_goto (tgt := 2) hx hb dX11_happens_86 (by decide) ?_
    exact hK2 _ _  hf _ _ hM _ (lv_sub hl [2, 3, 4, 0] rfl)
def f_X11_happens_b2 (o : Nat) (a1 : Int32) (a2 : Int32)  : Nat → Int32 → Mem → Option (Mem)
  | 0, _, _ => none
  | n + 1, x3, μ =>
    (if (16 : Int32) ≤ x3 then (if a1 = (3 : Int32) then gA a2 (aln (rf o 5)) (lt (sI μ (rf o 5) a2.toNatClampNeg (0 : Int32)) (fun μ1 => some μ1)) else some μ) else (if (x3 / (4 : Int32)) = a2 then f_X11_happens_b20 o a1 a2 (f_X11_happens_b2 o a1 a2  n) x3 (1 : Int32) μ else f_X11_happens_b20 o a1 a2 (f_X11_happens_b2 o a1 a2  n) x3 (0 : Int32) μ))
set_option maxHeartbeats 4000000 in
set_option maxRecDepth 100000 in
theorem w_X11_happens_b2 (l : Launch) {o : Nat} {a1 : Int32} {a2 : Int32} (ho : knd o = 9) {μ2 : Mem}  (hX : XX E p m meth c cX11_happens 5 none s args RX11)  : ∀ (n : Nat) (x3 : Int32) (μ : Mem), f_X11_happens_b2 o a1 a2  n x3 μ = some μ2 → ∀ (H : Heap) (locs : List Loc), MM E s μ H locs → ∀ ls : Array Slot, lv_has ls 5 [(0, .ref (eA E o)), (1, .int a1), (2, .int a2), (3, .int x3)] → W p l e (rmF 1 21) s m args below meth c H locs 0 0 (MQ below (QC E (none) μ2) args s 0 0 (AA E)) (F0 m 2 ls []) := by
  obtain ⟨⟨hx, hb, hml, hown, hts⟩, hXr⟩ := id hX
  intro n
  induction n with
  | zero => intro x3 μ  hf; exact no_none hf
  | succ n ih =>
    intro x3 μ  hf H locs hM ls hl
    rw [f_X11_happens_b2] at hf
    have hK2 := ih
    clear ih
    refine lv_iload_n hx hb dX11_happens_2 rfl (lv_at hl 3 rfl) ?_
    refine lv_bipush (v := 16) hx hb dX11_happens_3 (by decide) ?_
    refine lv_icmp_ge (tgt := 89) hx hb dX11_happens_5 (by decide) (fun hc5 => ?_) (fun hc5 => ?_)
    · replace hf := it_t hf hc5
      refine lv_iload_n hx hb dX11_happens_89 rfl (lv_at hl 1 rfl) ?_
      refine lv_iconst (v := 3) hx hb dX11_happens_90 (by decide) ?_
      refine lv_icmp_ne (tgt := 101) hx hb dX11_happens_91 (by decide) (fun hc91 => ?_) (fun hc91 => ?_)
      · replace hf := it_f hf hc91
        exact rt_v hX hM rfl (Option.some.inj hf) dX11_happens_101
      · replace hf := it_t hf hc91
        refine lv_aload_n hx hb dX11_happens_94 rfl (lv_at hl 0 rfl) ?_
        refine gf_9_5 hX hM ho q_7_2 dX11_happens_95 ?_
        refine lv_iload_n hx hb dX11_happens_98 rfl (lv_at hl 2 rfl) ?_
        refine lv_iconst (v := 0) hx hb dX11_happens_99 (by decide) ?_
        replace hf := gA_some hf
        obtain ⟨hi, hf⟩ := hf
        refine ast hX hM (kr_9_5 ho) hi dX11_happens_100 (fun μ1 H locs eμ1 hM => ?_)
        replace hf := lt_e eμ1 hf
        exact rt_v hX hM rfl (Option.some.inj hf) dX11_happens_101
    · replace hf := it_f hf hc5
      refine lv_iload_n hx hb dX11_happens_8 rfl (lv_at hl 3 rfl) ?_
      refine lv_iconst (v := 4) hx hb dX11_happens_9 (by decide) ?_
      refine lv_idiv hx hb dX11_happens_10 (by decide) ?_
      refine lv_iload_n hx hb dX11_happens_11 rfl (lv_at hl 2 rfl) ?_
      refine lv_icmp_ne (tgt := 19) hx hb dX11_happens_12 (by decide) (fun hc12 => ?_) (fun hc12 => ?_)
      · replace hf := it_f hf hc12
        refine lv_iconst (v := 0) hx hb dX11_happens_19 (by decide) ?_
        exact w_X11_happens_b20 l ho hK2  hf hX hM (lv_sub hl [0, 1, 2, 3] rfl)
      · replace hf := it_t hf hc12
        refine lv_iconst (v := 1) hx hb dX11_happens_15 (by decide) ?_
        refine lv_goto (tgt := 20) hx hb dX11_happens_16 (by decide) ?_
        exact w_X11_happens_b20 l ho hK2  hf hX hM (lv_sub hl [0, 1, 2, 3] rfl)
def f_X11_happens (o : Nat) (a1 : Int32) (a2 : Int32) (μ : Mem) : Option (Mem) :=
  f_X11_happens_b2 o a1 a2  FU (0 : Int32) μ
set_option maxHeartbeats 4000000 in
set_option maxRecDepth 100000 in
theorem w_X11_happens (l : Launch) {o : Nat} {a1 : Int32} {a2 : Int32} (ho : knd o = 9) {μ μ2 : Mem} {H : Heap} {locs : List Loc} {ls : Array Slot} (hf : f_X11_happens o a1 a2 μ = some μ2) (hX : XX E p m meth c cX11_happens 5 none s args RX11) (hM : MM E s μ H locs) (hl : lv_has ls 5 [(0, .ref (eA E o)), (1, .int a1), (2, .int a2)]) : W p l e (rmF 1 21) s m args below meth c H locs 0 0 (MQ below (QC E (none) μ2) args s 0 0 (AA E)) (F0 m 0 ls []) := by
  obtain ⟨⟨hx, hb, hml, hown, hts⟩, hXr⟩ := id hX
  unfold f_X11_happens at hf
  refine lv_iconst (v := 0) hx hb dX11_happens_0 (by decide) ?_
  refine lv_istore_n (lv' := [(3, .int (0 : Int32)), (0, .ref (eA E o)), (1, .int a1), (2, .int a2)]) hx hb dX11_happens_1 rfl hl (by decide) rfl (fun ls hl => ?_)
  exact w_X11_happens_b2 l ho hX  FU _ _  hf _ _ hM _ (lv_sub hl [1, 2, 3, 0] rfl)
theorem c_X11_happens (l : Launch) {o : Nat} {a1 : Int32} {a2 : Int32} (ho : knd o = 9) {μ μ2 : Mem} (hf : f_X11_happens o a1 a2 μ = some μ2) : CT E l yX11_happens cX11_happens 5 none (rmF 1 21) [.ref (eA E o), .int a1, .int a2] μ (none) μ2 := CT.of (show plainFor yX11_happens = true by decide +kernel) (Nat.le_of_ble_eq_true rfl) rfl (fun _ _ _ _ _ _ _ _ hX hM hl => w_X11_happens l ho hf hX hM hl)
theorem mv_X11_happens : MV yX11_happens cX11_happens 5 none RX11 2 := ⟨q_44_20, q_44_18, q_44_19, q_1_5, by decide +kernel⟩
def f_X11_keeps_b201 (o : Nat) (a1 : Nat)  : Nat → Int32 → Mem → Option (Mem)
  | 0, _, _ => none
  | n + 1, x2, μ =>
    (if (5 : Int32) ≤ x2 then gA (0 : Int32) (aln (rf o 6)) (gA (146 : Int32) (aln a1) (lt (sI μ a1 (146 : Int32).toNatClampNeg (μ.1 (rf o 6) (0 : Int32).toNatClampNeg)) (fun μ1 => gA (1 : Int32) (aln (rf o 6)) (gA (147 : Int32) (aln a1) (lt (sI μ1 a1 (147 : Int32).toNatClampNeg (μ1.1 (rf o 6) (1 : Int32).toNatClampNeg)) (fun μ2 => gA (148 : Int32) (aln a1) (lt (sI μ2 a1 (148 : Int32).toNatClampNeg (μ2.1 o 7)) (fun μ3 => gA (149 : Int32) (aln a1) (lt (sI μ3 a1 (149 : Int32).toNatClampNeg (μ3.1 o 8)) (fun μ4 => gA (150 : Int32) (aln a1) (lt (sI μ4 a1 (150 : Int32).toNatClampNeg (μ4.1 o 9)) (fun μ5 => gA (151 : Int32) (aln a1) (lt (sI μ5 a1 (151 : Int32).toNatClampNeg (μ5.1 o 10)) (fun μ6 => gA (152 : Int32) (aln a1) (lt (sI μ6 a1 (152 : Int32).toNatClampNeg (μ6.1 o 12)) (fun μ7 => gA (153 : Int32) (aln a1) (lt (sI μ7 a1 (153 : Int32).toNatClampNeg (μ7.1 o 15)) (fun μ8 => gA (154 : Int32) (aln a1) (lt (sI μ8 a1 (154 : Int32).toNatClampNeg (μ8.1 o 18)) (fun μ9 => some μ9)))))))))))))))))))) else gA x2 (aln (rf o 13)) (gA ((136 : Int32) + x2) (aln a1) (lt (sI μ a1 ((136 : Int32) + x2).toNatClampNeg (μ.1 (rf o 13) x2.toNatClampNeg)) (fun μ10 => gA x2 (aln (rf o 14)) (gA ((141 : Int32) + x2) (aln a1) (lt (sI μ10 a1 ((141 : Int32) + x2).toNatClampNeg (μ10.1 (rf o 14) x2.toNatClampNeg)) (fun μ11 => lt (x2 + (1 : Int32)) (fun v12 => (f_X11_keeps_b201 o a1  n) v12 μ11))))))))
set_option maxHeartbeats 4000000 in
set_option maxRecDepth 100000 in
theorem w_X11_keeps_b201 (l : Launch) {o : Nat} {a1 : Nat} (ho : knd o = 9) (ha1 : knd a1 = 10) {μ2 : Mem}  (hX : XX E p m meth c cX11_keeps 3 none s args RX11)  : ∀ (n : Nat) (x2 : Int32) (μ : Mem), f_X11_keeps_b201 o a1  n x2 μ = some μ2 → ∀ (H : Heap) (locs : List Loc), MM E s μ H locs → ∀ ls : Array Slot, lv_has ls 3 [(0, .ref (eA E o)), (1, .ref (eA E a1)), (2, .int x2)] → W p l e (rmF 0 0) s m args below meth c H locs 0 0 (MQ below (QC E (none) μ2) args s 0 0 (AA E)) (F0 m 201 ls []) := by
  obtain ⟨⟨hx, hb, hml, hown, hts⟩, hXr⟩ := id hX
  intro n
  induction n with
  | zero => intro x2 μ  hf; exact no_none hf
  | succ n ih =>
    intro x2 μ  hf H locs hM ls hl
    rw [f_X11_keeps_b201] at hf
    have hK201 := ih
    clear ih
    refine lv_iload_n hx hb dX11_keeps_201 rfl (lv_at hl 2 rfl) ?_
    refine lv_iconst (v := 5) hx hb dX11_keeps_202 (by decide) ?_
    refine lv_icmp_ge (tgt := 238) hx hb dX11_keeps_203 (by decide) (fun hc203 => ?_) (fun hc203 => ?_)
    · replace hf := it_t hf hc203
      refine lv_aload_n hx hb dX11_keeps_238 rfl (lv_at hl 1 rfl) ?_
      refine lv_sipush (v := 146) hx hb dX11_keeps_239 (by decide) ?_
      refine lv_aload_n hx hb dX11_keeps_242 rfl (lv_at hl 0 rfl) ?_
      refine gf_9_6 hX hM ho q_7_3 dX11_keeps_243 ?_
      refine lv_iconst (v := 0) hx hb dX11_keeps_246 (by decide) ?_
      replace hf := gA_some hf
      obtain ⟨hi, hf⟩ := hf
      refine ald hX hM (kr_9_6 ho) hi dX11_keeps_247 ?_
      replace hf := gA_some hf
      obtain ⟨hi, hf⟩ := hf
      refine ast hX hM ha1 hi dX11_keeps_248 (fun μ1 H locs eμ1 hM => ?_)
      replace hf := lt_e eμ1 hf
      refine lv_aload_n hx hb dX11_keeps_249 rfl (lv_at hl 1 rfl) ?_
      refine lv_sipush (v := 147) hx hb dX11_keeps_250 (by decide) ?_
      refine lv_aload_n hx hb dX11_keeps_253 rfl (lv_at hl 0 rfl) ?_
      refine gf_9_6 hX hM ho q_7_3 dX11_keeps_254 ?_
      refine lv_iconst (v := 1) hx hb dX11_keeps_257 (by decide) ?_
      replace hf := gA_some hf
      obtain ⟨hi, hf⟩ := hf
      refine ald hX hM (kr_9_6 ho) hi dX11_keeps_258 ?_
      replace hf := gA_some hf
      obtain ⟨hi, hf⟩ := hf
      refine ast hX hM ha1 hi dX11_keeps_259 (fun μ2 H locs eμ2 hM => ?_)
      replace hf := lt_e eμ2 hf
      refine lv_aload_n hx hb dX11_keeps_260 rfl (lv_at hl 1 rfl) ?_
      refine lv_sipush (v := 148) hx hb dX11_keeps_261 (by decide) ?_
      refine lv_aload_n hx hb dX11_keeps_264 rfl (lv_at hl 0 rfl) ?_
      refine gf_9_7 hX hM ho q_11_20 dX11_keeps_265 ?_
      replace hf := gA_some hf
      obtain ⟨hi, hf⟩ := hf
      refine ast hX hM ha1 hi dX11_keeps_268 (fun μ3 H locs eμ3 hM => ?_)
      replace hf := lt_e eμ3 hf
      refine lv_aload_n hx hb dX11_keeps_269 rfl (lv_at hl 1 rfl) ?_
      refine lv_sipush (v := 149) hx hb dX11_keeps_270 (by decide) ?_
      refine lv_aload_n hx hb dX11_keeps_273 rfl (lv_at hl 0 rfl) ?_
      refine gf_9_8 hX hM ho q_17_21 dX11_keeps_274 ?_
      replace hf := gA_some hf
      obtain ⟨hi, hf⟩ := hf
      refine ast hX hM ha1 hi dX11_keeps_277 (fun μ4 H locs eμ4 hM => ?_)
      replace hf := lt_e eμ4 hf
      refine lv_aload_n hx hb dX11_keeps_278 rfl (lv_at hl 1 rfl) ?_
      refine lv_sipush (v := 150) hx hb dX11_keeps_279 (by decide) ?_
      refine lv_aload_n hx hb dX11_keeps_282 rfl (lv_at hl 0 rfl) ?_
      refine gf_9_9 hX hM ho q_17_22 dX11_keeps_283 ?_
      replace hf := gA_some hf
      obtain ⟨hi, hf⟩ := hf
      refine ast hX hM ha1 hi dX11_keeps_286 (fun μ5 H locs eμ5 hM => ?_)
      replace hf := lt_e eμ5 hf
      refine lv_aload_n hx hb dX11_keeps_287 rfl (lv_at hl 1 rfl) ?_
      refine lv_sipush (v := 151) hx hb dX11_keeps_288 (by decide) ?_
      refine lv_aload_n hx hb dX11_keeps_291 rfl (lv_at hl 0 rfl) ?_
      refine gf_9_10 hX hM ho q_21_2 dX11_keeps_292 ?_
      replace hf := gA_some hf
      obtain ⟨hi, hf⟩ := hf
      refine ast hX hM ha1 hi dX11_keeps_295 (fun μ6 H locs eμ6 hM => ?_)
      replace hf := lt_e eμ6 hf
      refine lv_aload_n hx hb dX11_keeps_296 rfl (lv_at hl 1 rfl) ?_
      refine lv_sipush (v := 152) hx hb dX11_keeps_297 (by decide) ?_
      refine lv_aload_n hx hb dX11_keeps_300 rfl (lv_at hl 0 rfl) ?_
      refine gf_9_12 hX hM ho q_39_15 dX11_keeps_301 ?_
      replace hf := gA_some hf
      obtain ⟨hi, hf⟩ := hf
      refine ast hX hM ha1 hi dX11_keeps_304 (fun μ7 H locs eμ7 hM => ?_)
      replace hf := lt_e eμ7 hf
      refine lv_aload_n hx hb dX11_keeps_305 rfl (lv_at hl 1 rfl) ?_
      refine lv_sipush (v := 153) hx hb dX11_keeps_306 (by decide) ?_
      refine lv_aload_n hx hb dX11_keeps_309 rfl (lv_at hl 0 rfl) ?_
      refine gf_9_15 hX hM ho q_43_12 dX11_keeps_310 ?_
      replace hf := gA_some hf
      obtain ⟨hi, hf⟩ := hf
      refine ast hX hM ha1 hi dX11_keeps_313 (fun μ8 H locs eμ8 hM => ?_)
      replace hf := lt_e eμ8 hf
      refine lv_aload_n hx hb dX11_keeps_314 rfl (lv_at hl 1 rfl) ?_
      refine lv_sipush (v := 154) hx hb dX11_keeps_315 (by decide) ?_
      refine lv_aload_n hx hb dX11_keeps_318 rfl (lv_at hl 0 rfl) ?_
      refine gf_9_18 hX hM ho q_44_16 dX11_keeps_319 ?_
      replace hf := gA_some hf
      obtain ⟨hi, hf⟩ := hf
      refine ast hX hM ha1 hi dX11_keeps_322 (fun μ9 H locs eμ9 hM => ?_)
      replace hf := lt_e eμ9 hf
      exact rt_v hX hM rfl (Option.some.inj hf) dX11_keeps_323
    · replace hf := it_f hf hc203
      refine lv_aload_n hx hb dX11_keeps_206 rfl (lv_at hl 1 rfl) ?_
      refine lv_sipush (v := 136) hx hb dX11_keeps_207 (by decide) ?_
      refine lv_iload_n hx hb dX11_keeps_210 rfl (lv_at hl 2 rfl) ?_
      refine lv_iadd hx hb dX11_keeps_211 ?_
      refine lv_aload_n hx hb dX11_keeps_212 rfl (lv_at hl 0 rfl) ?_
      refine gf_9_13 hX hM ho q_7_5 dX11_keeps_213 ?_
      refine lv_iload_n hx hb dX11_keeps_216 rfl (lv_at hl 2 rfl) ?_
      replace hf := gA_some hf
      obtain ⟨hi, hf⟩ := hf
      refine ald hX hM (kr_9_13 ho) hi dX11_keeps_217 ?_
      replace hf := gA_some hf
      obtain ⟨hi, hf⟩ := hf
      refine ast hX hM ha1 hi dX11_keeps_218 (fun μ10 H locs eμ10 hM => ?_)
      replace hf := lt_e eμ10 hf
      refine lv_aload_n hx hb dX11_keeps_219 rfl (lv_at hl 1 rfl) ?_
      refine lv_sipush (v := 141) hx hb dX11_keeps_220 (by decide) ?_
      refine lv_iload_n hx hb dX11_keeps_223 rfl (lv_at hl 2 rfl) ?_
      refine lv_iadd hx hb dX11_keeps_224 ?_
      refine lv_aload_n hx hb dX11_keeps_225 rfl (lv_at hl 0 rfl) ?_
      refine gf_9_14 hX hM ho q_7_6 dX11_keeps_226 ?_
      refine lv_iload_n hx hb dX11_keeps_229 rfl (lv_at hl 2 rfl) ?_
      replace hf := gA_some hf
      obtain ⟨hi, hf⟩ := hf
      refine ald hX hM (kr_9_14 ho) hi dX11_keeps_230 ?_
      replace hf := gA_some hf
      obtain ⟨hi, hf⟩ := hf
      refine ast hX hM ha1 hi dX11_keeps_231 (fun μ11 H locs eμ11 hM => ?_)
      replace hf := lt_e eμ11 hf
      obtain ⟨v12, ev12⟩ : ∃ y : Int32, y = x2 + (1 : Int32) := ⟨_, rfl⟩
      replace hf := lt_e ev12 hf
      refine lv_iinc (v := v12) (lv' := [(2, .int v12), (0, .ref (eA E o)), (1, .ref (eA E a1))]) hx hb dX11_keeps_232 hl (k := 2) rfl (by rw [ev12]; rfl) (by decide) rfl (fun ls hl => ?_)
      refine lv_goto (tgt := 201) hx hb dX11_keeps_235 (by decide) ?_
      exact hK201 _ _  hf _ _ hM _ (lv_sub hl [1, 2, 0] rfl)
def f_X11_keeps_b126 (o : Nat) (a1 : Nat)  : Nat → Int32 → Mem → Option (Mem)
  | 0, _, _ => none
  | n + 1, x2, μ =>
    (if (8 : Int32) ≤ x2 then f_X11_keeps_b201 o a1  FU (0 : Int32) μ else gA x2 (aln (rf o 11)) (gA ((96 : Int32) + x2) (aln a1) (lt (sI μ a1 ((96 : Int32) + x2).toNatClampNeg (μ.1 (rf o 11) x2.toNatClampNeg)) (fun μ13 => gA x2 (aln (rf o 16)) (gA ((104 : Int32) + x2) (aln a1) (lt (sI μ13 a1 ((104 : Int32) + x2).toNatClampNeg (μ13.1 (rf o 16) x2.toNatClampNeg)) (fun μ14 => gA x2 (aln (rf o 17)) (gA ((112 : Int32) + x2) (aln a1) (lt (sI μ14 a1 ((112 : Int32) + x2).toNatClampNeg (μ14.1 (rf o 17) x2.toNatClampNeg)) (fun μ15 => gA x2 (aln (rf o 19)) (gA ((120 : Int32) + x2) (aln a1) (lt (sI μ15 a1 ((120 : Int32) + x2).toNatClampNeg (μ15.1 (rf o 19) x2.toNatClampNeg)) (fun μ16 => gA x2 (aln (rf o 20)) (gA ((128 : Int32) + x2) (aln a1) (lt (sI μ16 a1 ((128 : Int32) + x2).toNatClampNeg (μ16.1 (rf o 20) x2.toNatClampNeg)) (fun μ17 => lt (x2 + (1 : Int32)) (fun v18 => (f_X11_keeps_b126 o a1  n) v18 μ17)))))))))))))))))
set_option maxHeartbeats 4000000 in
set_option maxRecDepth 100000 in
theorem w_X11_keeps_b126 (l : Launch) {o : Nat} {a1 : Nat} (ho : knd o = 9) (ha1 : knd a1 = 10) {μ2 : Mem}  (hX : XX E p m meth c cX11_keeps 3 none s args RX11)  : ∀ (n : Nat) (x2 : Int32) (μ : Mem), f_X11_keeps_b126 o a1  n x2 μ = some μ2 → ∀ (H : Heap) (locs : List Loc), MM E s μ H locs → ∀ ls : Array Slot, lv_has ls 3 [(0, .ref (eA E o)), (1, .ref (eA E a1)), (2, .int x2)] → W p l e (rmF 0 0) s m args below meth c H locs 0 0 (MQ below (QC E (none) μ2) args s 0 0 (AA E)) (F0 m 126 ls []) := by
  obtain ⟨⟨hx, hb, hml, hown, hts⟩, hXr⟩ := id hX
  intro n
  induction n with
  | zero => intro x2 μ  hf; exact no_none hf
  | succ n ih =>
    intro x2 μ  hf H locs hM ls hl
    rw [f_X11_keeps_b126] at hf
    have hK126 := ih
    clear ih
    refine lv_iload_n hx hb dX11_keeps_126 rfl (lv_at hl 2 rfl) ?_
    refine lv_bipush (v := 8) hx hb dX11_keeps_127 (by decide) ?_
    refine lv_icmp_ge (tgt := 199) hx hb dX11_keeps_129 (by decide) (fun hc129 => ?_) (fun hc129 => ?_)
    · replace hf := it_t hf hc129
      refine lv_iconst (v := 0) hx hb dX11_keeps_199 (by decide) ?_
      refine lv_istore_n (lv' := [(2, .int (0 : Int32)), (0, .ref (eA E o)), (1, .ref (eA E a1))]) hx hb dX11_keeps_200 rfl hl (by decide) rfl (fun ls hl => ?_)
      exact w_X11_keeps_b201 l ho ha1 hX  FU _ _  hf _ _ hM _ (lv_sub hl [1, 2, 0] rfl)
    · replace hf := it_f hf hc129
      refine lv_aload_n hx hb dX11_keeps_132 rfl (lv_at hl 1 rfl) ?_
      refine lv_bipush (v := 96) hx hb dX11_keeps_133 (by decide) ?_
      refine lv_iload_n hx hb dX11_keeps_135 rfl (lv_at hl 2 rfl) ?_
      refine lv_iadd hx hb dX11_keeps_136 ?_
      refine lv_aload_n hx hb dX11_keeps_137 rfl (lv_at hl 0 rfl) ?_
      refine gf_9_11 hX hM ho q_7_4 dX11_keeps_138 ?_
      refine lv_iload_n hx hb dX11_keeps_141 rfl (lv_at hl 2 rfl) ?_
      replace hf := gA_some hf
      obtain ⟨hi, hf⟩ := hf
      refine ald hX hM (kr_9_11 ho) hi dX11_keeps_142 ?_
      replace hf := gA_some hf
      obtain ⟨hi, hf⟩ := hf
      refine ast hX hM ha1 hi dX11_keeps_143 (fun μ13 H locs eμ13 hM => ?_)
      replace hf := lt_e eμ13 hf
      refine lv_aload_n hx hb dX11_keeps_144 rfl (lv_at hl 1 rfl) ?_
      refine lv_bipush (v := 104) hx hb dX11_keeps_145 (by decide) ?_
      refine lv_iload_n hx hb dX11_keeps_147 rfl (lv_at hl 2 rfl) ?_
      refine lv_iadd hx hb dX11_keeps_148 ?_
      refine lv_aload_n hx hb dX11_keeps_149 rfl (lv_at hl 0 rfl) ?_
      refine gf_9_16 hX hM ho q_7_7 dX11_keeps_150 ?_
      refine lv_iload_n hx hb dX11_keeps_153 rfl (lv_at hl 2 rfl) ?_
      replace hf := gA_some hf
      obtain ⟨hi, hf⟩ := hf
      refine ald hX hM (kr_9_16 ho) hi dX11_keeps_154 ?_
      replace hf := gA_some hf
      obtain ⟨hi, hf⟩ := hf
      refine ast hX hM ha1 hi dX11_keeps_155 (fun μ14 H locs eμ14 hM => ?_)
      replace hf := lt_e eμ14 hf
      refine lv_aload_n hx hb dX11_keeps_156 rfl (lv_at hl 1 rfl) ?_
      refine lv_bipush (v := 112) hx hb dX11_keeps_157 (by decide) ?_
      refine lv_iload_n hx hb dX11_keeps_159 rfl (lv_at hl 2 rfl) ?_
      refine lv_iadd hx hb dX11_keeps_160 ?_
      refine lv_aload_n hx hb dX11_keeps_161 rfl (lv_at hl 0 rfl) ?_
      refine gf_9_17 hX hM ho q_7_8 dX11_keeps_162 ?_
      refine lv_iload_n hx hb dX11_keeps_165 rfl (lv_at hl 2 rfl) ?_
      replace hf := gA_some hf
      obtain ⟨hi, hf⟩ := hf
      refine ald hX hM (kr_9_17 ho) hi dX11_keeps_166 ?_
      replace hf := gA_some hf
      obtain ⟨hi, hf⟩ := hf
      refine ast hX hM ha1 hi dX11_keeps_167 (fun μ15 H locs eμ15 hM => ?_)
      replace hf := lt_e eμ15 hf
      refine lv_aload_n hx hb dX11_keeps_168 rfl (lv_at hl 1 rfl) ?_
      refine lv_bipush (v := 120) hx hb dX11_keeps_169 (by decide) ?_
      refine lv_iload_n hx hb dX11_keeps_171 rfl (lv_at hl 2 rfl) ?_
      refine lv_iadd hx hb dX11_keeps_172 ?_
      refine lv_aload_n hx hb dX11_keeps_173 rfl (lv_at hl 0 rfl) ?_
      refine gf_9_19 hX hM ho q_7_9 dX11_keeps_174 ?_
      refine lv_iload_n hx hb dX11_keeps_177 rfl (lv_at hl 2 rfl) ?_
      replace hf := gA_some hf
      obtain ⟨hi, hf⟩ := hf
      refine ald hX hM (kr_9_19 ho) hi dX11_keeps_178 ?_
      replace hf := gA_some hf
      obtain ⟨hi, hf⟩ := hf
      refine ast hX hM ha1 hi dX11_keeps_179 (fun μ16 H locs eμ16 hM => ?_)
      replace hf := lt_e eμ16 hf
      refine lv_aload_n hx hb dX11_keeps_180 rfl (lv_at hl 1 rfl) ?_
      refine lv_sipush (v := 128) hx hb dX11_keeps_181 (by decide) ?_
      refine lv_iload_n hx hb dX11_keeps_184 rfl (lv_at hl 2 rfl) ?_
      refine lv_iadd hx hb dX11_keeps_185 ?_
      refine lv_aload_n hx hb dX11_keeps_186 rfl (lv_at hl 0 rfl) ?_
      refine gf_9_20 hX hM ho q_7_10 dX11_keeps_187 ?_
      refine lv_iload_n hx hb dX11_keeps_190 rfl (lv_at hl 2 rfl) ?_
      replace hf := gA_some hf
      obtain ⟨hi, hf⟩ := hf
      refine ald hX hM (kr_9_20 ho) hi dX11_keeps_191 ?_
      replace hf := gA_some hf
      obtain ⟨hi, hf⟩ := hf
      refine ast hX hM ha1 hi dX11_keeps_192 (fun μ17 H locs eμ17 hM => ?_)
      replace hf := lt_e eμ17 hf
      obtain ⟨v18, ev18⟩ : ∃ y : Int32, y = x2 + (1 : Int32) := ⟨_, rfl⟩
      replace hf := lt_e ev18 hf
      refine lv_iinc (v := v18) (lv' := [(2, .int v18), (0, .ref (eA E o)), (1, .ref (eA E a1))]) hx hb dX11_keeps_193 hl (k := 2) rfl (by rw [ev18]; rfl) (by decide) rfl (fun ls hl => ?_)
      refine lv_goto (tgt := 126) hx hb dX11_keeps_196 (by decide) ?_
      exact hK126 _ _  hf _ _ hM _ (lv_sub hl [1, 2, 0] rfl)
def f_X11_keeps_b89 (o : Nat) (a1 : Nat)  : Nat → Int32 → Mem → Option (Mem)
  | 0, _, _ => none
  | n + 1, x2, μ =>
    (if (4 : Int32) ≤ x2 then f_X11_keeps_b126 o a1  FU (0 : Int32) μ else gA x2 (aln (rf o 4)) (gA ((88 : Int32) + x2) (aln a1) (lt (sI μ a1 ((88 : Int32) + x2).toNatClampNeg (μ.1 (rf o 4) x2.toNatClampNeg)) (fun μ19 => gA x2 (aln (rf o 5)) (gA ((92 : Int32) + x2) (aln a1) (lt (sI μ19 a1 ((92 : Int32) + x2).toNatClampNeg (μ19.1 (rf o 5) x2.toNatClampNeg)) (fun μ20 => lt (x2 + (1 : Int32)) (fun v21 => (f_X11_keeps_b89 o a1  n) v21 μ20))))))))
set_option maxHeartbeats 4000000 in
set_option maxRecDepth 100000 in
theorem w_X11_keeps_b89 (l : Launch) {o : Nat} {a1 : Nat} (ho : knd o = 9) (ha1 : knd a1 = 10) {μ2 : Mem}  (hX : XX E p m meth c cX11_keeps 3 none s args RX11)  : ∀ (n : Nat) (x2 : Int32) (μ : Mem), f_X11_keeps_b89 o a1  n x2 μ = some μ2 → ∀ (H : Heap) (locs : List Loc), MM E s μ H locs → ∀ ls : Array Slot, lv_has ls 3 [(0, .ref (eA E o)), (1, .ref (eA E a1)), (2, .int x2)] → W p l e (rmF 0 0) s m args below meth c H locs 0 0 (MQ below (QC E (none) μ2) args s 0 0 (AA E)) (F0 m 89 ls []) := by
  obtain ⟨⟨hx, hb, hml, hown, hts⟩, hXr⟩ := id hX
  intro n
  induction n with
  | zero => intro x2 μ  hf; exact no_none hf
  | succ n ih =>
    intro x2 μ  hf H locs hM ls hl
    rw [f_X11_keeps_b89] at hf
    have hK89 := ih
    clear ih
    refine lv_iload_n hx hb dX11_keeps_89 rfl (lv_at hl 2 rfl) ?_
    refine lv_iconst (v := 4) hx hb dX11_keeps_90 (by decide) ?_
    refine lv_icmp_ge (tgt := 124) hx hb dX11_keeps_91 (by decide) (fun hc91 => ?_) (fun hc91 => ?_)
    · replace hf := it_t hf hc91
      refine lv_iconst (v := 0) hx hb dX11_keeps_124 (by decide) ?_
      refine lv_istore_n (lv' := [(2, .int (0 : Int32)), (0, .ref (eA E o)), (1, .ref (eA E a1))]) hx hb dX11_keeps_125 rfl hl (by decide) rfl (fun ls hl => ?_)
      exact w_X11_keeps_b126 l ho ha1 hX  FU _ _  hf _ _ hM _ (lv_sub hl [1, 2, 0] rfl)
    · replace hf := it_f hf hc91
      refine lv_aload_n hx hb dX11_keeps_94 rfl (lv_at hl 1 rfl) ?_
      refine lv_bipush (v := 88) hx hb dX11_keeps_95 (by decide) ?_
      refine lv_iload_n hx hb dX11_keeps_97 rfl (lv_at hl 2 rfl) ?_
      refine lv_iadd hx hb dX11_keeps_98 ?_
      refine lv_aload_n hx hb dX11_keeps_99 rfl (lv_at hl 0 rfl) ?_
      refine gf_9_4 hX hM ho q_7_1 dX11_keeps_100 ?_
      refine lv_iload_n hx hb dX11_keeps_103 rfl (lv_at hl 2 rfl) ?_
      replace hf := gA_some hf
      obtain ⟨hi, hf⟩ := hf
      refine ald hX hM (kr_9_4 ho) hi dX11_keeps_104 ?_
      replace hf := gA_some hf
      obtain ⟨hi, hf⟩ := hf
      refine ast hX hM ha1 hi dX11_keeps_105 (fun μ19 H locs eμ19 hM => ?_)
      replace hf := lt_e eμ19 hf
      refine lv_aload_n hx hb dX11_keeps_106 rfl (lv_at hl 1 rfl) ?_
      refine lv_bipush (v := 92) hx hb dX11_keeps_107 (by decide) ?_
      refine lv_iload_n hx hb dX11_keeps_109 rfl (lv_at hl 2 rfl) ?_
      refine lv_iadd hx hb dX11_keeps_110 ?_
      refine lv_aload_n hx hb dX11_keeps_111 rfl (lv_at hl 0 rfl) ?_
      refine gf_9_5 hX hM ho q_7_2 dX11_keeps_112 ?_
      refine lv_iload_n hx hb dX11_keeps_115 rfl (lv_at hl 2 rfl) ?_
      replace hf := gA_some hf
      obtain ⟨hi, hf⟩ := hf
      refine ald hX hM (kr_9_5 ho) hi dX11_keeps_116 ?_
      replace hf := gA_some hf
      obtain ⟨hi, hf⟩ := hf
      refine ast hX hM ha1 hi dX11_keeps_117 (fun μ20 H locs eμ20 hM => ?_)
      replace hf := lt_e eμ20 hf
      obtain ⟨v21, ev21⟩ : ∃ y : Int32, y = x2 + (1 : Int32) := ⟨_, rfl⟩
      replace hf := lt_e ev21 hf
      refine lv_iinc (v := v21) (lv' := [(2, .int v21), (0, .ref (eA E o)), (1, .ref (eA E a1))]) hx hb dX11_keeps_118 hl (k := 2) rfl (by rw [ev21]; rfl) (by decide) rfl (fun ls hl => ?_)
      refine lv_goto (tgt := 89) hx hb dX11_keeps_121 (by decide) ?_
      exact hK89 _ _  hf _ _ hM _ (lv_sub hl [1, 2, 0] rfl)
def f_X11_keeps_b63 (o : Nat) (a1 : Nat)  : Nat → Int32 → Mem → Option (Mem)
  | 0, _, _ => none
  | n + 1, x2, μ =>
    (if (20 : Int32) ≤ x2 then f_X11_keeps_b89 o a1  FU (0 : Int32) μ else gA x2 (aln (rf o 3)) (gA ((68 : Int32) + x2) (aln a1) (lt (sI μ a1 ((68 : Int32) + x2).toNatClampNeg (μ.1 (rf o 3) x2.toNatClampNeg)) (fun μ22 => lt (x2 + (1 : Int32)) (fun v23 => (f_X11_keeps_b63 o a1  n) v23 μ22)))))
set_option maxHeartbeats 4000000 in
set_option maxRecDepth 100000 in
theorem w_X11_keeps_b63 (l : Launch) {o : Nat} {a1 : Nat} (ho : knd o = 9) (ha1 : knd a1 = 10) {μ2 : Mem}  (hX : XX E p m meth c cX11_keeps 3 none s args RX11)  : ∀ (n : Nat) (x2 : Int32) (μ : Mem), f_X11_keeps_b63 o a1  n x2 μ = some μ2 → ∀ (H : Heap) (locs : List Loc), MM E s μ H locs → ∀ ls : Array Slot, lv_has ls 3 [(0, .ref (eA E o)), (1, .ref (eA E a1)), (2, .int x2)] → W p l e (rmF 0 0) s m args below meth c H locs 0 0 (MQ below (QC E (none) μ2) args s 0 0 (AA E)) (F0 m 63 ls []) := by
  obtain ⟨⟨hx, hb, hml, hown, hts⟩, hXr⟩ := id hX
  intro n
  induction n with
  | zero => intro x2 μ  hf; exact no_none hf
  | succ n ih =>
    intro x2 μ  hf H locs hM ls hl
    rw [f_X11_keeps_b63] at hf
    have hK63 := ih
    clear ih
    refine lv_iload_n hx hb dX11_keeps_63 rfl (lv_at hl 2 rfl) ?_
    refine lv_bipush (v := 20) hx hb dX11_keeps_64 (by decide) ?_
    refine lv_icmp_ge (tgt := 87) hx hb dX11_keeps_66 (by decide) (fun hc66 => ?_) (fun hc66 => ?_)
    · replace hf := it_t hf hc66
      refine lv_iconst (v := 0) hx hb dX11_keeps_87 (by decide) ?_
      refine lv_istore_n (lv' := [(2, .int (0 : Int32)), (0, .ref (eA E o)), (1, .ref (eA E a1))]) hx hb dX11_keeps_88 rfl hl (by decide) rfl (fun ls hl => ?_)
      exact w_X11_keeps_b89 l ho ha1 hX  FU _ _  hf _ _ hM _ (lv_sub hl [1, 2, 0] rfl)
    · replace hf := it_f hf hc66
      refine lv_aload_n hx hb dX11_keeps_69 rfl (lv_at hl 1 rfl) ?_
      refine lv_bipush (v := 68) hx hb dX11_keeps_70 (by decide) ?_
      refine lv_iload_n hx hb dX11_keeps_72 rfl (lv_at hl 2 rfl) ?_
      refine lv_iadd hx hb dX11_keeps_73 ?_
      refine lv_aload_n hx hb dX11_keeps_74 rfl (lv_at hl 0 rfl) ?_
      refine gf_9_3 hX hM ho q_7_0 dX11_keeps_75 ?_
      refine lv_iload_n hx hb dX11_keeps_78 rfl (lv_at hl 2 rfl) ?_
      replace hf := gA_some hf
      obtain ⟨hi, hf⟩ := hf
      refine ald hX hM (kr_9_3 ho) hi dX11_keeps_79 ?_
      replace hf := gA_some hf
      obtain ⟨hi, hf⟩ := hf
      refine ast hX hM ha1 hi dX11_keeps_80 (fun μ22 H locs eμ22 hM => ?_)
      replace hf := lt_e eμ22 hf
      obtain ⟨v23, ev23⟩ : ∃ y : Int32, y = x2 + (1 : Int32) := ⟨_, rfl⟩
      replace hf := lt_e ev23 hf
      refine lv_iinc (v := v23) (lv' := [(2, .int v23), (0, .ref (eA E o)), (1, .ref (eA E a1))]) hx hb dX11_keeps_81 hl (k := 2) rfl (by rw [ev23]; rfl) (by decide) rfl (fun ls hl => ?_)
      refine lv_goto (tgt := 63) hx hb dX11_keeps_84 (by decide) ?_
      exact hK63 _ _  hf _ _ hM _ (lv_sub hl [1, 2, 0] rfl)
def f_X11_keeps_b25 (o : Nat) (a1 : Nat)  : Nat → Int32 → Mem → Option (Mem)
  | 0, _, _ => none
  | n + 1, x2, μ =>
    (if (16 : Int32) ≤ x2 then f_X11_keeps_b63 o a1  FU (0 : Int32) μ else gA x2 (aln (rf o 1)) (gA ((36 : Int32) + x2) (aln a1) (lt (sI μ a1 ((36 : Int32) + x2).toNatClampNeg (μ.1 (rf o 1) x2.toNatClampNeg)) (fun μ24 => gA x2 (aln (rf o 2)) (gA ((52 : Int32) + x2) (aln a1) (lt (sI μ24 a1 ((52 : Int32) + x2).toNatClampNeg (μ24.1 (rf o 2) x2.toNatClampNeg)) (fun μ25 => lt (x2 + (1 : Int32)) (fun v26 => (f_X11_keeps_b25 o a1  n) v26 μ25))))))))
set_option maxHeartbeats 4000000 in
set_option maxRecDepth 100000 in
theorem w_X11_keeps_b25 (l : Launch) {o : Nat} {a1 : Nat} (ho : knd o = 9) (ha1 : knd a1 = 10) {μ2 : Mem}  (hX : XX E p m meth c cX11_keeps 3 none s args RX11)  : ∀ (n : Nat) (x2 : Int32) (μ : Mem), f_X11_keeps_b25 o a1  n x2 μ = some μ2 → ∀ (H : Heap) (locs : List Loc), MM E s μ H locs → ∀ ls : Array Slot, lv_has ls 3 [(0, .ref (eA E o)), (1, .ref (eA E a1)), (2, .int x2)] → W p l e (rmF 0 0) s m args below meth c H locs 0 0 (MQ below (QC E (none) μ2) args s 0 0 (AA E)) (F0 m 25 ls []) := by
  obtain ⟨⟨hx, hb, hml, hown, hts⟩, hXr⟩ := id hX
  intro n
  induction n with
  | zero => intro x2 μ  hf; exact no_none hf
  | succ n ih =>
    intro x2 μ  hf H locs hM ls hl
    rw [f_X11_keeps_b25] at hf
    have hK25 := ih
    clear ih
    refine lv_iload_n hx hb dX11_keeps_25 rfl (lv_at hl 2 rfl) ?_
    refine lv_bipush (v := 16) hx hb dX11_keeps_26 (by decide) ?_
    refine lv_icmp_ge (tgt := 61) hx hb dX11_keeps_28 (by decide) (fun hc28 => ?_) (fun hc28 => ?_)
    · replace hf := it_t hf hc28
      refine lv_iconst (v := 0) hx hb dX11_keeps_61 (by decide) ?_
      refine lv_istore_n (lv' := [(2, .int (0 : Int32)), (0, .ref (eA E o)), (1, .ref (eA E a1))]) hx hb dX11_keeps_62 rfl hl (by decide) rfl (fun ls hl => ?_)
      exact w_X11_keeps_b63 l ho ha1 hX  FU _ _  hf _ _ hM _ (lv_sub hl [1, 2, 0] rfl)
    · replace hf := it_f hf hc28
      refine lv_aload_n hx hb dX11_keeps_31 rfl (lv_at hl 1 rfl) ?_
      refine lv_bipush (v := 36) hx hb dX11_keeps_32 (by decide) ?_
      refine lv_iload_n hx hb dX11_keeps_34 rfl (lv_at hl 2 rfl) ?_
      refine lv_iadd hx hb dX11_keeps_35 ?_
      refine lv_aload_n hx hb dX11_keeps_36 rfl (lv_at hl 0 rfl) ?_
      refine gf_9_1 hX hM ho q_6_22 dX11_keeps_37 ?_
      refine lv_iload_n hx hb dX11_keeps_40 rfl (lv_at hl 2 rfl) ?_
      replace hf := gA_some hf
      obtain ⟨hi, hf⟩ := hf
      refine ald hX hM (kr_9_1 ho) hi dX11_keeps_41 ?_
      replace hf := gA_some hf
      obtain ⟨hi, hf⟩ := hf
      refine ast hX hM ha1 hi dX11_keeps_42 (fun μ24 H locs eμ24 hM => ?_)
      replace hf := lt_e eμ24 hf
      refine lv_aload_n hx hb dX11_keeps_43 rfl (lv_at hl 1 rfl) ?_
      refine lv_bipush (v := 52) hx hb dX11_keeps_44 (by decide) ?_
      refine lv_iload_n hx hb dX11_keeps_46 rfl (lv_at hl 2 rfl) ?_
      refine lv_iadd hx hb dX11_keeps_47 ?_
      refine lv_aload_n hx hb dX11_keeps_48 rfl (lv_at hl 0 rfl) ?_
      refine gf_9_2 hX hM ho q_6_23 dX11_keeps_49 ?_
      refine lv_iload_n hx hb dX11_keeps_52 rfl (lv_at hl 2 rfl) ?_
      replace hf := gA_some hf
      obtain ⟨hi, hf⟩ := hf
      refine ald hX hM (kr_9_2 ho) hi dX11_keeps_53 ?_
      replace hf := gA_some hf
      obtain ⟨hi, hf⟩ := hf
      refine ast hX hM ha1 hi dX11_keeps_54 (fun μ25 H locs eμ25 hM => ?_)
      replace hf := lt_e eμ25 hf
      obtain ⟨v26, ev26⟩ : ∃ y : Int32, y = x2 + (1 : Int32) := ⟨_, rfl⟩
      replace hf := lt_e ev26 hf
      refine lv_iinc (v := v26) (lv' := [(2, .int v26), (0, .ref (eA E o)), (1, .ref (eA E a1))]) hx hb dX11_keeps_55 hl (k := 2) rfl (by rw [ev26]; rfl) (by decide) rfl (fun ls hl => ?_)
      refine lv_goto (tgt := 25) hx hb dX11_keeps_58 (by decide) ?_
      exact hK25 _ _  hf _ _ hM _ (lv_sub hl [1, 2, 0] rfl)
def f_X11_keeps_b2 (o : Nat) (a1 : Nat)  : Nat → Int32 → Mem → Option (Mem)
  | 0, _, _ => none
  | n + 1, x2, μ =>
    (if (36 : Int32) ≤ x2 then f_X11_keeps_b25 o a1  FU (0 : Int32) μ else gA x2 (aln (rf o 0)) (gA x2 (aln a1) (lt (sI μ a1 x2.toNatClampNeg (μ.1 (rf o 0) x2.toNatClampNeg)) (fun μ27 => lt (x2 + (1 : Int32)) (fun v28 => (f_X11_keeps_b2 o a1  n) v28 μ27)))))
set_option maxHeartbeats 4000000 in
set_option maxRecDepth 100000 in
theorem w_X11_keeps_b2 (l : Launch) {o : Nat} {a1 : Nat} (ho : knd o = 9) (ha1 : knd a1 = 10) {μ2 : Mem}  (hX : XX E p m meth c cX11_keeps 3 none s args RX11)  : ∀ (n : Nat) (x2 : Int32) (μ : Mem), f_X11_keeps_b2 o a1  n x2 μ = some μ2 → ∀ (H : Heap) (locs : List Loc), MM E s μ H locs → ∀ ls : Array Slot, lv_has ls 3 [(0, .ref (eA E o)), (1, .ref (eA E a1)), (2, .int x2)] → W p l e (rmF 0 0) s m args below meth c H locs 0 0 (MQ below (QC E (none) μ2) args s 0 0 (AA E)) (F0 m 2 ls []) := by
  obtain ⟨⟨hx, hb, hml, hown, hts⟩, hXr⟩ := id hX
  intro n
  induction n with
  | zero => intro x2 μ  hf; exact no_none hf
  | succ n ih =>
    intro x2 μ  hf H locs hM ls hl
    rw [f_X11_keeps_b2] at hf
    have hK2 := ih
    clear ih
    refine lv_iload_n hx hb dX11_keeps_2 rfl (lv_at hl 2 rfl) ?_
    refine lv_bipush (v := 36) hx hb dX11_keeps_3 (by decide) ?_
    refine lv_icmp_ge (tgt := 23) hx hb dX11_keeps_5 (by decide) (fun hc5 => ?_) (fun hc5 => ?_)
    · replace hf := it_t hf hc5
      refine lv_iconst (v := 0) hx hb dX11_keeps_23 (by decide) ?_
      refine lv_istore_n (lv' := [(2, .int (0 : Int32)), (0, .ref (eA E o)), (1, .ref (eA E a1))]) hx hb dX11_keeps_24 rfl hl (by decide) rfl (fun ls hl => ?_)
      exact w_X11_keeps_b25 l ho ha1 hX  FU _ _  hf _ _ hM _ (lv_sub hl [1, 2, 0] rfl)
    · replace hf := it_f hf hc5
      refine lv_aload_n hx hb dX11_keeps_8 rfl (lv_at hl 1 rfl) ?_
      refine lv_iload_n hx hb dX11_keeps_9 rfl (lv_at hl 2 rfl) ?_
      refine lv_aload_n hx hb dX11_keeps_10 rfl (lv_at hl 0 rfl) ?_
      refine gf_9_0 hX hM ho q_6_21 dX11_keeps_11 ?_
      refine lv_iload_n hx hb dX11_keeps_14 rfl (lv_at hl 2 rfl) ?_
      replace hf := gA_some hf
      obtain ⟨hi, hf⟩ := hf
      refine ald hX hM (kr_9_0 ho) hi dX11_keeps_15 ?_
      replace hf := gA_some hf
      obtain ⟨hi, hf⟩ := hf
      refine ast hX hM ha1 hi dX11_keeps_16 (fun μ27 H locs eμ27 hM => ?_)
      replace hf := lt_e eμ27 hf
      obtain ⟨v28, ev28⟩ : ∃ y : Int32, y = x2 + (1 : Int32) := ⟨_, rfl⟩
      replace hf := lt_e ev28 hf
      refine lv_iinc (v := v28) (lv' := [(2, .int v28), (0, .ref (eA E o)), (1, .ref (eA E a1))]) hx hb dX11_keeps_17 hl (k := 2) rfl (by rw [ev28]; rfl) (by decide) rfl (fun ls hl => ?_)
      refine lv_goto (tgt := 2) hx hb dX11_keeps_20 (by decide) ?_
      exact hK2 _ _  hf _ _ hM _ (lv_sub hl [1, 2, 0] rfl)
def f_X11_keeps (o : Nat) (a1 : Nat) (μ : Mem) : Option (Mem) :=
  f_X11_keeps_b2 o a1  FU (0 : Int32) μ
set_option maxHeartbeats 4000000 in
set_option maxRecDepth 100000 in
theorem w_X11_keeps (l : Launch) {o : Nat} {a1 : Nat} (ho : knd o = 9) (ha1 : knd a1 = 10) {μ μ2 : Mem} {H : Heap} {locs : List Loc} {ls : Array Slot} (hf : f_X11_keeps o a1 μ = some μ2) (hX : XX E p m meth c cX11_keeps 3 none s args RX11) (hM : MM E s μ H locs) (hl : lv_has ls 3 [(0, .ref (eA E o)), (1, .ref (eA E a1))]) : W p l e (rmF 0 0) s m args below meth c H locs 0 0 (MQ below (QC E (none) μ2) args s 0 0 (AA E)) (F0 m 0 ls []) := by
  obtain ⟨⟨hx, hb, hml, hown, hts⟩, hXr⟩ := id hX
  unfold f_X11_keeps at hf
  refine lv_iconst (v := 0) hx hb dX11_keeps_0 (by decide) ?_
  refine lv_istore_n (lv' := [(2, .int (0 : Int32)), (0, .ref (eA E o)), (1, .ref (eA E a1))]) hx hb dX11_keeps_1 rfl hl (by decide) rfl (fun ls hl => ?_)
  exact w_X11_keeps_b2 l ho ha1 hX  FU _ _  hf _ _ hM _ (lv_sub hl [1, 2, 0] rfl)
theorem c_X11_keeps (l : Launch) {o : Nat} {a1 : Nat} (ho : knd o = 9) (ha1 : knd a1 = 10) {μ μ2 : Mem} (hf : f_X11_keeps o a1 μ = some μ2) : CT E l yX11_keeps cX11_keeps 3 none (rmF 0 0) [.ref (eA E o), .ref (eA E a1)] μ (none) μ2 := CT.of (show plainFor yX11_keeps = true by decide +kernel) (Nat.le_of_ble_eq_true rfl) rfl (fun _ _ _ _ _ _ _ _ hX hM hl => w_X11_keeps l ho ha1 hf hX hM hl)
theorem mv_X11_keeps : MV yX11_keeps cX11_keeps 3 none RX11 1 := ⟨q_44_15, q_44_13, q_44_14, q_1_5, by decide +kernel⟩
def f_X11_again_b201 (o : Nat) (a1 : Nat)  : Nat → Int32 → Mem → Option (Mem)
  | 0, _, _ => none
  | n + 1, x2, μ =>
    (if (5 : Int32) ≤ x2 then gA (146 : Int32) (aln a1) (gA (0 : Int32) (aln (rf o 6)) (lt (sI μ (rf o 6) (0 : Int32).toNatClampNeg (μ.1 a1 (146 : Int32).toNatClampNeg)) (fun μ1 => gA (147 : Int32) (aln a1) (gA (1 : Int32) (aln (rf o 6)) (lt (sI μ1 (rf o 6) (1 : Int32).toNatClampNeg (μ1.1 a1 (147 : Int32).toNatClampNeg)) (fun μ2 => gA (148 : Int32) (aln a1) (gA (149 : Int32) (aln a1) (gA (150 : Int32) (aln a1) (bnv (f_X11_begins o (μ2.1 a1 (148 : Int32).toNatClampNeg) (μ2.1 a1 (149 : Int32).toNatClampNeg) (μ2.1 a1 (150 : Int32).toNatClampNeg) μ2) (fun μ3 => gA (151 : Int32) (aln a1) (lt (sI μ3 o 10 (μ3.1 a1 (151 : Int32).toNatClampNeg)) (fun μ4 => gA (152 : Int32) (aln a1) (lt (sI μ4 o 12 (μ4.1 a1 (152 : Int32).toNatClampNeg)) (fun μ5 => gA (153 : Int32) (aln a1) (lt (sI μ5 o 15 (μ5.1 a1 (153 : Int32).toNatClampNeg)) (fun μ6 => gA (154 : Int32) (aln a1) (lt (sI μ6 o 18 (μ6.1 a1 (154 : Int32).toNatClampNeg)) (fun μ7 => some μ7)))))))))))))))))) else gA ((136 : Int32) + x2) (aln a1) (gA x2 (aln (rf o 13)) (lt (sI μ (rf o 13) x2.toNatClampNeg (μ.1 a1 ((136 : Int32) + x2).toNatClampNeg)) (fun μ8 => gA ((141 : Int32) + x2) (aln a1) (gA x2 (aln (rf o 14)) (lt (sI μ8 (rf o 14) x2.toNatClampNeg (μ8.1 a1 ((141 : Int32) + x2).toNatClampNeg)) (fun μ9 => lt (x2 + (1 : Int32)) (fun v10 => (f_X11_again_b201 o a1  n) v10 μ9))))))))
set_option maxHeartbeats 4000000 in
set_option maxRecDepth 100000 in
theorem w_X11_again_b201 (l : Launch) {o : Nat} {a1 : Nat} (ho : knd o = 9) (ha1 : knd a1 = 10) {μ2 : Mem}  (hX : XX E p m meth c cX11_again 3 none s args RX11)  : ∀ (n : Nat) (x2 : Int32) (μ : Mem), f_X11_again_b201 o a1  n x2 μ = some μ2 → ∀ (H : Heap) (locs : List Loc), MM E s μ H locs → ∀ ls : Array Slot, lv_has ls 3 [(0, .ref (eA E o)), (1, .ref (eA E a1)), (2, .int x2)] → W p l e (rmF 1 23) s m args below meth c H locs 0 0 (MQ below (QC E (none) μ2) args s 0 0 (AA E)) (F0 m 201 ls []) := by
  obtain ⟨⟨hx, hb, hml, hown, hts⟩, hXr⟩ := id hX
  intro n
  induction n with
  | zero => intro x2 μ  hf; exact no_none hf
  | succ n ih =>
    intro x2 μ  hf H locs hM ls hl
    rw [f_X11_again_b201] at hf
    have hK201 := ih
    clear ih
    refine lv_iload_n hx hb dX11_again_201 rfl (lv_at hl 2 rfl) ?_
    refine lv_iconst (v := 5) hx hb dX11_again_202 (by decide) ?_
    refine lv_icmp_ge (tgt := 238) hx hb dX11_again_203 (by decide) (fun hc203 => ?_) (fun hc203 => ?_)
    · replace hf := it_t hf hc203
      refine lv_aload_n hx hb dX11_again_238 rfl (lv_at hl 0 rfl) ?_
      refine gf_9_6 hX hM ho q_7_3 dX11_again_239 ?_
      refine lv_iconst (v := 0) hx hb dX11_again_242 (by decide) ?_
      refine lv_aload_n hx hb dX11_again_243 rfl (lv_at hl 1 rfl) ?_
      refine lv_sipush (v := 146) hx hb dX11_again_244 (by decide) ?_
      replace hf := gA_some hf
      obtain ⟨hi, hf⟩ := hf
      refine ald hX hM ha1 hi dX11_again_247 ?_
      replace hf := gA_some hf
      obtain ⟨hi, hf⟩ := hf
      refine ast hX hM (kr_9_6 ho) hi dX11_again_248 (fun μ1 H locs eμ1 hM => ?_)
      replace hf := lt_e eμ1 hf
      refine lv_aload_n hx hb dX11_again_249 rfl (lv_at hl 0 rfl) ?_
      refine gf_9_6 hX hM ho q_7_3 dX11_again_250 ?_
      refine lv_iconst (v := 1) hx hb dX11_again_253 (by decide) ?_
      refine lv_aload_n hx hb dX11_again_254 rfl (lv_at hl 1 rfl) ?_
      refine lv_sipush (v := 147) hx hb dX11_again_255 (by decide) ?_
      replace hf := gA_some hf
      obtain ⟨hi, hf⟩ := hf
      refine ald hX hM ha1 hi dX11_again_258 ?_
      replace hf := gA_some hf
      obtain ⟨hi, hf⟩ := hf
      refine ast hX hM (kr_9_6 ho) hi dX11_again_259 (fun μ2 H locs eμ2 hM => ?_)
      replace hf := lt_e eμ2 hf
      refine lv_aload_n hx hb dX11_again_260 rfl (lv_at hl 0 rfl) ?_
      refine lv_aload_n hx hb dX11_again_261 rfl (lv_at hl 1 rfl) ?_
      refine lv_sipush (v := 148) hx hb dX11_again_262 (by decide) ?_
      replace hf := gA_some hf
      obtain ⟨hi, hf⟩ := hf
      refine ald hX hM ha1 hi dX11_again_265 ?_
      refine lv_aload_n hx hb dX11_again_266 rfl (lv_at hl 1 rfl) ?_
      refine lv_sipush (v := 149) hx hb dX11_again_267 (by decide) ?_
      replace hf := gA_some hf
      obtain ⟨hi, hf⟩ := hf
      refine ald hX hM ha1 hi dX11_again_270 ?_
      refine lv_aload_n hx hb dX11_again_271 rfl (lv_at hl 1 rfl) ?_
      refine lv_sipush (v := 150) hx hb dX11_again_272 (by decide) ?_
      replace hf := gA_some hf
      obtain ⟨hi, hf⟩ := hf
      refine ald hX hM ha1 hi dX11_again_275 ?_
      replace hf := bnv_some hf
      obtain ⟨μ3, h276, hf⟩ := hf
      refine cl_V (As := [.int (μ2.1 a1 (148 : Int32).toNatClampNeg), .int (μ2.1 a1 (149 : Int32).toNatClampNeg), .int (μ2.1 a1 (150 : Int32).toNatClampNeg)]) (rest := []) (st2 := []) (n := 3) hX hM (c_X11_begins l ho h276) mv_X11_begins q_17_17 ⟨rfl, rfl⟩ ⟨Nat.le_of_ble_eq_true rfl, Nat.le_of_ble_eq_true rfl⟩ ho (by decide) rfl rfl rfl hl.1 rfl (Nat.le_of_ble_eq_true rfl) dX11_again_276 rfl (fun H locs hM => ?_)
      refine lv_aload_n hx hb dX11_again_279 rfl (lv_at hl 0 rfl) ?_
      refine lv_aload_n hx hb dX11_again_280 rfl (lv_at hl 1 rfl) ?_
      refine lv_sipush (v := 151) hx hb dX11_again_281 (by decide) ?_
      replace hf := gA_some hf
      obtain ⟨hi, hf⟩ := hf
      refine ald hX hM ha1 hi dX11_again_284 ?_
      refine pf_9_10 hX hM ho q_21_2 dX11_again_285 (fun μ4 H locs eμ4 hM => ?_)
      replace hf := lt_e eμ4 hf
      refine lv_aload_n hx hb dX11_again_288 rfl (lv_at hl 0 rfl) ?_
      refine lv_aload_n hx hb dX11_again_289 rfl (lv_at hl 1 rfl) ?_
      refine lv_sipush (v := 152) hx hb dX11_again_290 (by decide) ?_
      replace hf := gA_some hf
      obtain ⟨hi, hf⟩ := hf
      refine ald hX hM ha1 hi dX11_again_293 ?_
      refine pf_9_12 hX hM ho q_39_15 dX11_again_294 (fun μ5 H locs eμ5 hM => ?_)
      replace hf := lt_e eμ5 hf
      refine lv_aload_n hx hb dX11_again_297 rfl (lv_at hl 0 rfl) ?_
      refine lv_aload_n hx hb dX11_again_298 rfl (lv_at hl 1 rfl) ?_
      refine lv_sipush (v := 153) hx hb dX11_again_299 (by decide) ?_
      replace hf := gA_some hf
      obtain ⟨hi, hf⟩ := hf
      refine ald hX hM ha1 hi dX11_again_302 ?_
      refine pf_9_15 hX hM ho q_43_12 dX11_again_303 (fun μ6 H locs eμ6 hM => ?_)
      replace hf := lt_e eμ6 hf
      refine lv_aload_n hx hb dX11_again_306 rfl (lv_at hl 0 rfl) ?_
      refine lv_aload_n hx hb dX11_again_307 rfl (lv_at hl 1 rfl) ?_
      refine lv_sipush (v := 154) hx hb dX11_again_308 (by decide) ?_
      replace hf := gA_some hf
      obtain ⟨hi, hf⟩ := hf
      refine ald hX hM ha1 hi dX11_again_311 ?_
      refine pf_9_18 hX hM ho q_44_16 dX11_again_312 (fun μ7 H locs eμ7 hM => ?_)
      replace hf := lt_e eμ7 hf
      exact rt_v hX hM rfl (Option.some.inj hf) dX11_again_315
    · replace hf := it_f hf hc203
      refine lv_aload_n hx hb dX11_again_206 rfl (lv_at hl 0 rfl) ?_
      refine gf_9_13 hX hM ho q_7_5 dX11_again_207 ?_
      refine lv_iload_n hx hb dX11_again_210 rfl (lv_at hl 2 rfl) ?_
      refine lv_aload_n hx hb dX11_again_211 rfl (lv_at hl 1 rfl) ?_
      refine lv_sipush (v := 136) hx hb dX11_again_212 (by decide) ?_
      refine lv_iload_n hx hb dX11_again_215 rfl (lv_at hl 2 rfl) ?_
      refine lv_iadd hx hb dX11_again_216 ?_
      replace hf := gA_some hf
      obtain ⟨hi, hf⟩ := hf
      refine ald hX hM ha1 hi dX11_again_217 ?_
      replace hf := gA_some hf
      obtain ⟨hi, hf⟩ := hf
      refine ast hX hM (kr_9_13 ho) hi dX11_again_218 (fun μ8 H locs eμ8 hM => ?_)
      replace hf := lt_e eμ8 hf
      refine lv_aload_n hx hb dX11_again_219 rfl (lv_at hl 0 rfl) ?_
      refine gf_9_14 hX hM ho q_7_6 dX11_again_220 ?_
      refine lv_iload_n hx hb dX11_again_223 rfl (lv_at hl 2 rfl) ?_
      refine lv_aload_n hx hb dX11_again_224 rfl (lv_at hl 1 rfl) ?_
      refine lv_sipush (v := 141) hx hb dX11_again_225 (by decide) ?_
      refine lv_iload_n hx hb dX11_again_228 rfl (lv_at hl 2 rfl) ?_
      refine lv_iadd hx hb dX11_again_229 ?_
      replace hf := gA_some hf
      obtain ⟨hi, hf⟩ := hf
      refine ald hX hM ha1 hi dX11_again_230 ?_
      replace hf := gA_some hf
      obtain ⟨hi, hf⟩ := hf
      refine ast hX hM (kr_9_14 ho) hi dX11_again_231 (fun μ9 H locs eμ9 hM => ?_)
      replace hf := lt_e eμ9 hf
      obtain ⟨v10, ev10⟩ : ∃ y : Int32, y = x2 + (1 : Int32) := ⟨_, rfl⟩
      replace hf := lt_e ev10 hf
      refine lv_iinc (v := v10) (lv' := [(2, .int v10), (0, .ref (eA E o)), (1, .ref (eA E a1))]) hx hb dX11_again_232 hl (k := 2) rfl (by rw [ev10]; rfl) (by decide) rfl (fun ls hl => ?_)
      refine lv_goto (tgt := 201) hx hb dX11_again_235 (by decide) ?_
      exact hK201 _ _  hf _ _ hM _ (lv_sub hl [1, 2, 0] rfl)
def f_X11_again_b126 (o : Nat) (a1 : Nat)  : Nat → Int32 → Mem → Option (Mem)
  | 0, _, _ => none
  | n + 1, x2, μ =>
    (if (8 : Int32) ≤ x2 then f_X11_again_b201 o a1  FU (0 : Int32) μ else gA ((96 : Int32) + x2) (aln a1) (gA x2 (aln (rf o 11)) (lt (sI μ (rf o 11) x2.toNatClampNeg (μ.1 a1 ((96 : Int32) + x2).toNatClampNeg)) (fun μ11 => gA ((104 : Int32) + x2) (aln a1) (gA x2 (aln (rf o 16)) (lt (sI μ11 (rf o 16) x2.toNatClampNeg (μ11.1 a1 ((104 : Int32) + x2).toNatClampNeg)) (fun μ12 => gA ((112 : Int32) + x2) (aln a1) (gA x2 (aln (rf o 17)) (lt (sI μ12 (rf o 17) x2.toNatClampNeg (μ12.1 a1 ((112 : Int32) + x2).toNatClampNeg)) (fun μ13 => gA ((120 : Int32) + x2) (aln a1) (gA x2 (aln (rf o 19)) (lt (sI μ13 (rf o 19) x2.toNatClampNeg (μ13.1 a1 ((120 : Int32) + x2).toNatClampNeg)) (fun μ14 => gA ((128 : Int32) + x2) (aln a1) (gA x2 (aln (rf o 20)) (lt (sI μ14 (rf o 20) x2.toNatClampNeg (μ14.1 a1 ((128 : Int32) + x2).toNatClampNeg)) (fun μ15 => lt (x2 + (1 : Int32)) (fun v16 => (f_X11_again_b126 o a1  n) v16 μ15)))))))))))))))))
set_option maxHeartbeats 4000000 in
set_option maxRecDepth 100000 in
theorem w_X11_again_b126 (l : Launch) {o : Nat} {a1 : Nat} (ho : knd o = 9) (ha1 : knd a1 = 10) {μ2 : Mem}  (hX : XX E p m meth c cX11_again 3 none s args RX11)  : ∀ (n : Nat) (x2 : Int32) (μ : Mem), f_X11_again_b126 o a1  n x2 μ = some μ2 → ∀ (H : Heap) (locs : List Loc), MM E s μ H locs → ∀ ls : Array Slot, lv_has ls 3 [(0, .ref (eA E o)), (1, .ref (eA E a1)), (2, .int x2)] → W p l e (rmF 1 23) s m args below meth c H locs 0 0 (MQ below (QC E (none) μ2) args s 0 0 (AA E)) (F0 m 126 ls []) := by
  obtain ⟨⟨hx, hb, hml, hown, hts⟩, hXr⟩ := id hX
  intro n
  induction n with
  | zero => intro x2 μ  hf; exact no_none hf
  | succ n ih =>
    intro x2 μ  hf H locs hM ls hl
    rw [f_X11_again_b126] at hf
    have hK126 := ih
    clear ih
    refine lv_iload_n hx hb dX11_again_126 rfl (lv_at hl 2 rfl) ?_
    refine lv_bipush (v := 8) hx hb dX11_again_127 (by decide) ?_
    refine lv_icmp_ge (tgt := 199) hx hb dX11_again_129 (by decide) (fun hc129 => ?_) (fun hc129 => ?_)
    · replace hf := it_t hf hc129
      refine lv_iconst (v := 0) hx hb dX11_again_199 (by decide) ?_
      refine lv_istore_n (lv' := [(2, .int (0 : Int32)), (0, .ref (eA E o)), (1, .ref (eA E a1))]) hx hb dX11_again_200 rfl hl (by decide) rfl (fun ls hl => ?_)
      exact w_X11_again_b201 l ho ha1 hX  FU _ _  hf _ _ hM _ (lv_sub hl [1, 2, 0] rfl)
    · replace hf := it_f hf hc129
      refine lv_aload_n hx hb dX11_again_132 rfl (lv_at hl 0 rfl) ?_
      refine gf_9_11 hX hM ho q_7_4 dX11_again_133 ?_
      refine lv_iload_n hx hb dX11_again_136 rfl (lv_at hl 2 rfl) ?_
      refine lv_aload_n hx hb dX11_again_137 rfl (lv_at hl 1 rfl) ?_
      refine lv_bipush (v := 96) hx hb dX11_again_138 (by decide) ?_
      refine lv_iload_n hx hb dX11_again_140 rfl (lv_at hl 2 rfl) ?_
      refine lv_iadd hx hb dX11_again_141 ?_
      replace hf := gA_some hf
      obtain ⟨hi, hf⟩ := hf
      refine ald hX hM ha1 hi dX11_again_142 ?_
      replace hf := gA_some hf
      obtain ⟨hi, hf⟩ := hf
      refine ast hX hM (kr_9_11 ho) hi dX11_again_143 (fun μ11 H locs eμ11 hM => ?_)
      replace hf := lt_e eμ11 hf
      refine lv_aload_n hx hb dX11_again_144 rfl (lv_at hl 0 rfl) ?_
      refine gf_9_16 hX hM ho q_7_7 dX11_again_145 ?_
      refine lv_iload_n hx hb dX11_again_148 rfl (lv_at hl 2 rfl) ?_
      refine lv_aload_n hx hb dX11_again_149 rfl (lv_at hl 1 rfl) ?_
      refine lv_bipush (v := 104) hx hb dX11_again_150 (by decide) ?_
      refine lv_iload_n hx hb dX11_again_152 rfl (lv_at hl 2 rfl) ?_
      refine lv_iadd hx hb dX11_again_153 ?_
      replace hf := gA_some hf
      obtain ⟨hi, hf⟩ := hf
      refine ald hX hM ha1 hi dX11_again_154 ?_
      replace hf := gA_some hf
      obtain ⟨hi, hf⟩ := hf
      refine ast hX hM (kr_9_16 ho) hi dX11_again_155 (fun μ12 H locs eμ12 hM => ?_)
      replace hf := lt_e eμ12 hf
      refine lv_aload_n hx hb dX11_again_156 rfl (lv_at hl 0 rfl) ?_
      refine gf_9_17 hX hM ho q_7_8 dX11_again_157 ?_
      refine lv_iload_n hx hb dX11_again_160 rfl (lv_at hl 2 rfl) ?_
      refine lv_aload_n hx hb dX11_again_161 rfl (lv_at hl 1 rfl) ?_
      refine lv_bipush (v := 112) hx hb dX11_again_162 (by decide) ?_
      refine lv_iload_n hx hb dX11_again_164 rfl (lv_at hl 2 rfl) ?_
      refine lv_iadd hx hb dX11_again_165 ?_
      replace hf := gA_some hf
      obtain ⟨hi, hf⟩ := hf
      refine ald hX hM ha1 hi dX11_again_166 ?_
      replace hf := gA_some hf
      obtain ⟨hi, hf⟩ := hf
      refine ast hX hM (kr_9_17 ho) hi dX11_again_167 (fun μ13 H locs eμ13 hM => ?_)
      replace hf := lt_e eμ13 hf
      refine lv_aload_n hx hb dX11_again_168 rfl (lv_at hl 0 rfl) ?_
      refine gf_9_19 hX hM ho q_7_9 dX11_again_169 ?_
      refine lv_iload_n hx hb dX11_again_172 rfl (lv_at hl 2 rfl) ?_
      refine lv_aload_n hx hb dX11_again_173 rfl (lv_at hl 1 rfl) ?_
      refine lv_bipush (v := 120) hx hb dX11_again_174 (by decide) ?_
      refine lv_iload_n hx hb dX11_again_176 rfl (lv_at hl 2 rfl) ?_
      refine lv_iadd hx hb dX11_again_177 ?_
      replace hf := gA_some hf
      obtain ⟨hi, hf⟩ := hf
      refine ald hX hM ha1 hi dX11_again_178 ?_
      replace hf := gA_some hf
      obtain ⟨hi, hf⟩ := hf
      refine ast hX hM (kr_9_19 ho) hi dX11_again_179 (fun μ14 H locs eμ14 hM => ?_)
      replace hf := lt_e eμ14 hf
      refine lv_aload_n hx hb dX11_again_180 rfl (lv_at hl 0 rfl) ?_
      refine gf_9_20 hX hM ho q_7_10 dX11_again_181 ?_
      refine lv_iload_n hx hb dX11_again_184 rfl (lv_at hl 2 rfl) ?_
      refine lv_aload_n hx hb dX11_again_185 rfl (lv_at hl 1 rfl) ?_
      refine lv_sipush (v := 128) hx hb dX11_again_186 (by decide) ?_
      refine lv_iload_n hx hb dX11_again_189 rfl (lv_at hl 2 rfl) ?_
      refine lv_iadd hx hb dX11_again_190 ?_
      replace hf := gA_some hf
      obtain ⟨hi, hf⟩ := hf
      refine ald hX hM ha1 hi dX11_again_191 ?_
      replace hf := gA_some hf
      obtain ⟨hi, hf⟩ := hf
      refine ast hX hM (kr_9_20 ho) hi dX11_again_192 (fun μ15 H locs eμ15 hM => ?_)
      replace hf := lt_e eμ15 hf
      obtain ⟨v16, ev16⟩ : ∃ y : Int32, y = x2 + (1 : Int32) := ⟨_, rfl⟩
      replace hf := lt_e ev16 hf
      refine lv_iinc (v := v16) (lv' := [(2, .int v16), (0, .ref (eA E o)), (1, .ref (eA E a1))]) hx hb dX11_again_193 hl (k := 2) rfl (by rw [ev16]; rfl) (by decide) rfl (fun ls hl => ?_)
      refine lv_goto (tgt := 126) hx hb dX11_again_196 (by decide) ?_
      exact hK126 _ _  hf _ _ hM _ (lv_sub hl [1, 2, 0] rfl)
def f_X11_again_b89 (o : Nat) (a1 : Nat)  : Nat → Int32 → Mem → Option (Mem)
  | 0, _, _ => none
  | n + 1, x2, μ =>
    (if (4 : Int32) ≤ x2 then f_X11_again_b126 o a1  FU (0 : Int32) μ else gA ((88 : Int32) + x2) (aln a1) (gA x2 (aln (rf o 4)) (lt (sI μ (rf o 4) x2.toNatClampNeg (μ.1 a1 ((88 : Int32) + x2).toNatClampNeg)) (fun μ17 => gA ((92 : Int32) + x2) (aln a1) (gA x2 (aln (rf o 5)) (lt (sI μ17 (rf o 5) x2.toNatClampNeg (μ17.1 a1 ((92 : Int32) + x2).toNatClampNeg)) (fun μ18 => lt (x2 + (1 : Int32)) (fun v19 => (f_X11_again_b89 o a1  n) v19 μ18))))))))
set_option maxHeartbeats 4000000 in
set_option maxRecDepth 100000 in
theorem w_X11_again_b89 (l : Launch) {o : Nat} {a1 : Nat} (ho : knd o = 9) (ha1 : knd a1 = 10) {μ2 : Mem}  (hX : XX E p m meth c cX11_again 3 none s args RX11)  : ∀ (n : Nat) (x2 : Int32) (μ : Mem), f_X11_again_b89 o a1  n x2 μ = some μ2 → ∀ (H : Heap) (locs : List Loc), MM E s μ H locs → ∀ ls : Array Slot, lv_has ls 3 [(0, .ref (eA E o)), (1, .ref (eA E a1)), (2, .int x2)] → W p l e (rmF 1 23) s m args below meth c H locs 0 0 (MQ below (QC E (none) μ2) args s 0 0 (AA E)) (F0 m 89 ls []) := by
  obtain ⟨⟨hx, hb, hml, hown, hts⟩, hXr⟩ := id hX
  intro n
  induction n with
  | zero => intro x2 μ  hf; exact no_none hf
  | succ n ih =>
    intro x2 μ  hf H locs hM ls hl
    rw [f_X11_again_b89] at hf
    have hK89 := ih
    clear ih
    refine lv_iload_n hx hb dX11_again_89 rfl (lv_at hl 2 rfl) ?_
    refine lv_iconst (v := 4) hx hb dX11_again_90 (by decide) ?_
    refine lv_icmp_ge (tgt := 124) hx hb dX11_again_91 (by decide) (fun hc91 => ?_) (fun hc91 => ?_)
    · replace hf := it_t hf hc91
      refine lv_iconst (v := 0) hx hb dX11_again_124 (by decide) ?_
      refine lv_istore_n (lv' := [(2, .int (0 : Int32)), (0, .ref (eA E o)), (1, .ref (eA E a1))]) hx hb dX11_again_125 rfl hl (by decide) rfl (fun ls hl => ?_)
      exact w_X11_again_b126 l ho ha1 hX  FU _ _  hf _ _ hM _ (lv_sub hl [1, 2, 0] rfl)
    · replace hf := it_f hf hc91
      refine lv_aload_n hx hb dX11_again_94 rfl (lv_at hl 0 rfl) ?_
      refine gf_9_4 hX hM ho q_7_1 dX11_again_95 ?_
      refine lv_iload_n hx hb dX11_again_98 rfl (lv_at hl 2 rfl) ?_
      refine lv_aload_n hx hb dX11_again_99 rfl (lv_at hl 1 rfl) ?_
      refine lv_bipush (v := 88) hx hb dX11_again_100 (by decide) ?_
      refine lv_iload_n hx hb dX11_again_102 rfl (lv_at hl 2 rfl) ?_
      refine lv_iadd hx hb dX11_again_103 ?_
      replace hf := gA_some hf
      obtain ⟨hi, hf⟩ := hf
      refine ald hX hM ha1 hi dX11_again_104 ?_
      replace hf := gA_some hf
      obtain ⟨hi, hf⟩ := hf
      refine ast hX hM (kr_9_4 ho) hi dX11_again_105 (fun μ17 H locs eμ17 hM => ?_)
      replace hf := lt_e eμ17 hf
      refine lv_aload_n hx hb dX11_again_106 rfl (lv_at hl 0 rfl) ?_
      refine gf_9_5 hX hM ho q_7_2 dX11_again_107 ?_
      refine lv_iload_n hx hb dX11_again_110 rfl (lv_at hl 2 rfl) ?_
      refine lv_aload_n hx hb dX11_again_111 rfl (lv_at hl 1 rfl) ?_
      refine lv_bipush (v := 92) hx hb dX11_again_112 (by decide) ?_
      refine lv_iload_n hx hb dX11_again_114 rfl (lv_at hl 2 rfl) ?_
      refine lv_iadd hx hb dX11_again_115 ?_
      replace hf := gA_some hf
      obtain ⟨hi, hf⟩ := hf
      refine ald hX hM ha1 hi dX11_again_116 ?_
      replace hf := gA_some hf
      obtain ⟨hi, hf⟩ := hf
      refine ast hX hM (kr_9_5 ho) hi dX11_again_117 (fun μ18 H locs eμ18 hM => ?_)
      replace hf := lt_e eμ18 hf
      obtain ⟨v19, ev19⟩ : ∃ y : Int32, y = x2 + (1 : Int32) := ⟨_, rfl⟩
      replace hf := lt_e ev19 hf
      refine lv_iinc (v := v19) (lv' := [(2, .int v19), (0, .ref (eA E o)), (1, .ref (eA E a1))]) hx hb dX11_again_118 hl (k := 2) rfl (by rw [ev19]; rfl) (by decide) rfl (fun ls hl => ?_)
      refine lv_goto (tgt := 89) hx hb dX11_again_121 (by decide) ?_
      exact hK89 _ _  hf _ _ hM _ (lv_sub hl [1, 2, 0] rfl)
def f_X11_again_b63 (o : Nat) (a1 : Nat)  : Nat → Int32 → Mem → Option (Mem)
  | 0, _, _ => none
  | n + 1, x2, μ =>
    (if (20 : Int32) ≤ x2 then f_X11_again_b89 o a1  FU (0 : Int32) μ else gA ((68 : Int32) + x2) (aln a1) (gA x2 (aln (rf o 3)) (lt (sI μ (rf o 3) x2.toNatClampNeg (μ.1 a1 ((68 : Int32) + x2).toNatClampNeg)) (fun μ20 => lt (x2 + (1 : Int32)) (fun v21 => (f_X11_again_b63 o a1  n) v21 μ20)))))
set_option maxHeartbeats 4000000 in
set_option maxRecDepth 100000 in
theorem w_X11_again_b63 (l : Launch) {o : Nat} {a1 : Nat} (ho : knd o = 9) (ha1 : knd a1 = 10) {μ2 : Mem}  (hX : XX E p m meth c cX11_again 3 none s args RX11)  : ∀ (n : Nat) (x2 : Int32) (μ : Mem), f_X11_again_b63 o a1  n x2 μ = some μ2 → ∀ (H : Heap) (locs : List Loc), MM E s μ H locs → ∀ ls : Array Slot, lv_has ls 3 [(0, .ref (eA E o)), (1, .ref (eA E a1)), (2, .int x2)] → W p l e (rmF 1 23) s m args below meth c H locs 0 0 (MQ below (QC E (none) μ2) args s 0 0 (AA E)) (F0 m 63 ls []) := by
  obtain ⟨⟨hx, hb, hml, hown, hts⟩, hXr⟩ := id hX
  intro n
  induction n with
  | zero => intro x2 μ  hf; exact no_none hf
  | succ n ih =>
    intro x2 μ  hf H locs hM ls hl
    rw [f_X11_again_b63] at hf
    have hK63 := ih
    clear ih
    refine lv_iload_n hx hb dX11_again_63 rfl (lv_at hl 2 rfl) ?_
    refine lv_bipush (v := 20) hx hb dX11_again_64 (by decide) ?_
    refine lv_icmp_ge (tgt := 87) hx hb dX11_again_66 (by decide) (fun hc66 => ?_) (fun hc66 => ?_)
    · replace hf := it_t hf hc66
      refine lv_iconst (v := 0) hx hb dX11_again_87 (by decide) ?_
      refine lv_istore_n (lv' := [(2, .int (0 : Int32)), (0, .ref (eA E o)), (1, .ref (eA E a1))]) hx hb dX11_again_88 rfl hl (by decide) rfl (fun ls hl => ?_)
      exact w_X11_again_b89 l ho ha1 hX  FU _ _  hf _ _ hM _ (lv_sub hl [1, 2, 0] rfl)
    · replace hf := it_f hf hc66
      refine lv_aload_n hx hb dX11_again_69 rfl (lv_at hl 0 rfl) ?_
      refine gf_9_3 hX hM ho q_7_0 dX11_again_70 ?_
      refine lv_iload_n hx hb dX11_again_73 rfl (lv_at hl 2 rfl) ?_
      refine lv_aload_n hx hb dX11_again_74 rfl (lv_at hl 1 rfl) ?_
      refine lv_bipush (v := 68) hx hb dX11_again_75 (by decide) ?_
      refine lv_iload_n hx hb dX11_again_77 rfl (lv_at hl 2 rfl) ?_
      refine lv_iadd hx hb dX11_again_78 ?_
      replace hf := gA_some hf
      obtain ⟨hi, hf⟩ := hf
      refine ald hX hM ha1 hi dX11_again_79 ?_
      replace hf := gA_some hf
      obtain ⟨hi, hf⟩ := hf
      refine ast hX hM (kr_9_3 ho) hi dX11_again_80 (fun μ20 H locs eμ20 hM => ?_)
      replace hf := lt_e eμ20 hf
      obtain ⟨v21, ev21⟩ : ∃ y : Int32, y = x2 + (1 : Int32) := ⟨_, rfl⟩
      replace hf := lt_e ev21 hf
      refine lv_iinc (v := v21) (lv' := [(2, .int v21), (0, .ref (eA E o)), (1, .ref (eA E a1))]) hx hb dX11_again_81 hl (k := 2) rfl (by rw [ev21]; rfl) (by decide) rfl (fun ls hl => ?_)
      refine lv_goto (tgt := 63) hx hb dX11_again_84 (by decide) ?_
      exact hK63 _ _  hf _ _ hM _ (lv_sub hl [1, 2, 0] rfl)
def f_X11_again_b25 (o : Nat) (a1 : Nat)  : Nat → Int32 → Mem → Option (Mem)
  | 0, _, _ => none
  | n + 1, x2, μ =>
    (if (16 : Int32) ≤ x2 then f_X11_again_b63 o a1  FU (0 : Int32) μ else gA ((36 : Int32) + x2) (aln a1) (gA x2 (aln (rf o 1)) (lt (sI μ (rf o 1) x2.toNatClampNeg (μ.1 a1 ((36 : Int32) + x2).toNatClampNeg)) (fun μ22 => gA ((52 : Int32) + x2) (aln a1) (gA x2 (aln (rf o 2)) (lt (sI μ22 (rf o 2) x2.toNatClampNeg (μ22.1 a1 ((52 : Int32) + x2).toNatClampNeg)) (fun μ23 => lt (x2 + (1 : Int32)) (fun v24 => (f_X11_again_b25 o a1  n) v24 μ23))))))))
set_option maxHeartbeats 4000000 in
set_option maxRecDepth 100000 in
theorem w_X11_again_b25 (l : Launch) {o : Nat} {a1 : Nat} (ho : knd o = 9) (ha1 : knd a1 = 10) {μ2 : Mem}  (hX : XX E p m meth c cX11_again 3 none s args RX11)  : ∀ (n : Nat) (x2 : Int32) (μ : Mem), f_X11_again_b25 o a1  n x2 μ = some μ2 → ∀ (H : Heap) (locs : List Loc), MM E s μ H locs → ∀ ls : Array Slot, lv_has ls 3 [(0, .ref (eA E o)), (1, .ref (eA E a1)), (2, .int x2)] → W p l e (rmF 1 23) s m args below meth c H locs 0 0 (MQ below (QC E (none) μ2) args s 0 0 (AA E)) (F0 m 25 ls []) := by
  obtain ⟨⟨hx, hb, hml, hown, hts⟩, hXr⟩ := id hX
  intro n
  induction n with
  | zero => intro x2 μ  hf; exact no_none hf
  | succ n ih =>
    intro x2 μ  hf H locs hM ls hl
    rw [f_X11_again_b25] at hf
    have hK25 := ih
    clear ih
    refine lv_iload_n hx hb dX11_again_25 rfl (lv_at hl 2 rfl) ?_
    refine lv_bipush (v := 16) hx hb dX11_again_26 (by decide) ?_
    refine lv_icmp_ge (tgt := 61) hx hb dX11_again_28 (by decide) (fun hc28 => ?_) (fun hc28 => ?_)
    · replace hf := it_t hf hc28
      refine lv_iconst (v := 0) hx hb dX11_again_61 (by decide) ?_
      refine lv_istore_n (lv' := [(2, .int (0 : Int32)), (0, .ref (eA E o)), (1, .ref (eA E a1))]) hx hb dX11_again_62 rfl hl (by decide) rfl (fun ls hl => ?_)
      exact w_X11_again_b63 l ho ha1 hX  FU _ _  hf _ _ hM _ (lv_sub hl [1, 2, 0] rfl)
    · replace hf := it_f hf hc28
      refine lv_aload_n hx hb dX11_again_31 rfl (lv_at hl 0 rfl) ?_
      refine gf_9_1 hX hM ho q_6_22 dX11_again_32 ?_
      refine lv_iload_n hx hb dX11_again_35 rfl (lv_at hl 2 rfl) ?_
      refine lv_aload_n hx hb dX11_again_36 rfl (lv_at hl 1 rfl) ?_
      refine lv_bipush (v := 36) hx hb dX11_again_37 (by decide) ?_
      refine lv_iload_n hx hb dX11_again_39 rfl (lv_at hl 2 rfl) ?_
      refine lv_iadd hx hb dX11_again_40 ?_
      replace hf := gA_some hf
      obtain ⟨hi, hf⟩ := hf
      refine ald hX hM ha1 hi dX11_again_41 ?_
      replace hf := gA_some hf
      obtain ⟨hi, hf⟩ := hf
      refine ast hX hM (kr_9_1 ho) hi dX11_again_42 (fun μ22 H locs eμ22 hM => ?_)
      replace hf := lt_e eμ22 hf
      refine lv_aload_n hx hb dX11_again_43 rfl (lv_at hl 0 rfl) ?_
      refine gf_9_2 hX hM ho q_6_23 dX11_again_44 ?_
      refine lv_iload_n hx hb dX11_again_47 rfl (lv_at hl 2 rfl) ?_
      refine lv_aload_n hx hb dX11_again_48 rfl (lv_at hl 1 rfl) ?_
      refine lv_bipush (v := 52) hx hb dX11_again_49 (by decide) ?_
      refine lv_iload_n hx hb dX11_again_51 rfl (lv_at hl 2 rfl) ?_
      refine lv_iadd hx hb dX11_again_52 ?_
      replace hf := gA_some hf
      obtain ⟨hi, hf⟩ := hf
      refine ald hX hM ha1 hi dX11_again_53 ?_
      replace hf := gA_some hf
      obtain ⟨hi, hf⟩ := hf
      refine ast hX hM (kr_9_2 ho) hi dX11_again_54 (fun μ23 H locs eμ23 hM => ?_)
      replace hf := lt_e eμ23 hf
      obtain ⟨v24, ev24⟩ : ∃ y : Int32, y = x2 + (1 : Int32) := ⟨_, rfl⟩
      replace hf := lt_e ev24 hf
      refine lv_iinc (v := v24) (lv' := [(2, .int v24), (0, .ref (eA E o)), (1, .ref (eA E a1))]) hx hb dX11_again_55 hl (k := 2) rfl (by rw [ev24]; rfl) (by decide) rfl (fun ls hl => ?_)
      refine lv_goto (tgt := 25) hx hb dX11_again_58 (by decide) ?_
      exact hK25 _ _  hf _ _ hM _ (lv_sub hl [1, 2, 0] rfl)
def f_X11_again_b2 (o : Nat) (a1 : Nat)  : Nat → Int32 → Mem → Option (Mem)
  | 0, _, _ => none
  | n + 1, x2, μ =>
    (if (36 : Int32) ≤ x2 then f_X11_again_b25 o a1  FU (0 : Int32) μ else gA x2 (aln a1) (gA x2 (aln (rf o 0)) (lt (sI μ (rf o 0) x2.toNatClampNeg (μ.1 a1 x2.toNatClampNeg)) (fun μ25 => lt (x2 + (1 : Int32)) (fun v26 => (f_X11_again_b2 o a1  n) v26 μ25)))))
set_option maxHeartbeats 4000000 in
set_option maxRecDepth 100000 in
theorem w_X11_again_b2 (l : Launch) {o : Nat} {a1 : Nat} (ho : knd o = 9) (ha1 : knd a1 = 10) {μ2 : Mem}  (hX : XX E p m meth c cX11_again 3 none s args RX11)  : ∀ (n : Nat) (x2 : Int32) (μ : Mem), f_X11_again_b2 o a1  n x2 μ = some μ2 → ∀ (H : Heap) (locs : List Loc), MM E s μ H locs → ∀ ls : Array Slot, lv_has ls 3 [(0, .ref (eA E o)), (1, .ref (eA E a1)), (2, .int x2)] → W p l e (rmF 1 23) s m args below meth c H locs 0 0 (MQ below (QC E (none) μ2) args s 0 0 (AA E)) (F0 m 2 ls []) := by
  obtain ⟨⟨hx, hb, hml, hown, hts⟩, hXr⟩ := id hX
  intro n
  induction n with
  | zero => intro x2 μ  hf; exact no_none hf
  | succ n ih =>
    intro x2 μ  hf H locs hM ls hl
    rw [f_X11_again_b2] at hf
    have hK2 := ih
    clear ih
    refine lv_iload_n hx hb dX11_again_2 rfl (lv_at hl 2 rfl) ?_
    refine lv_bipush (v := 36) hx hb dX11_again_3 (by decide) ?_
    refine lv_icmp_ge (tgt := 23) hx hb dX11_again_5 (by decide) (fun hc5 => ?_) (fun hc5 => ?_)
    · replace hf := it_t hf hc5
      refine lv_iconst (v := 0) hx hb dX11_again_23 (by decide) ?_
      refine lv_istore_n (lv' := [(2, .int (0 : Int32)), (0, .ref (eA E o)), (1, .ref (eA E a1))]) hx hb dX11_again_24 rfl hl (by decide) rfl (fun ls hl => ?_)
      exact w_X11_again_b25 l ho ha1 hX  FU _ _  hf _ _ hM _ (lv_sub hl [1, 2, 0] rfl)
    · replace hf := it_f hf hc5
      refine lv_aload_n hx hb dX11_again_8 rfl (lv_at hl 0 rfl) ?_
      refine gf_9_0 hX hM ho q_6_21 dX11_again_9 ?_
      refine lv_iload_n hx hb dX11_again_12 rfl (lv_at hl 2 rfl) ?_
      refine lv_aload_n hx hb dX11_again_13 rfl (lv_at hl 1 rfl) ?_
      refine lv_iload_n hx hb dX11_again_14 rfl (lv_at hl 2 rfl) ?_
      replace hf := gA_some hf
      obtain ⟨hi, hf⟩ := hf
      refine ald hX hM ha1 hi dX11_again_15 ?_
      replace hf := gA_some hf
      obtain ⟨hi, hf⟩ := hf
      refine ast hX hM (kr_9_0 ho) hi dX11_again_16 (fun μ25 H locs eμ25 hM => ?_)
      replace hf := lt_e eμ25 hf
      obtain ⟨v26, ev26⟩ : ∃ y : Int32, y = x2 + (1 : Int32) := ⟨_, rfl⟩
      replace hf := lt_e ev26 hf
      refine lv_iinc (v := v26) (lv' := [(2, .int v26), (0, .ref (eA E o)), (1, .ref (eA E a1))]) hx hb dX11_again_17 hl (k := 2) rfl (by rw [ev26]; rfl) (by decide) rfl (fun ls hl => ?_)
      refine lv_goto (tgt := 2) hx hb dX11_again_20 (by decide) ?_
      exact hK2 _ _  hf _ _ hM _ (lv_sub hl [1, 2, 0] rfl)
def f_X11_again (o : Nat) (a1 : Nat) (μ : Mem) : Option (Mem) :=
  f_X11_again_b2 o a1  FU (0 : Int32) μ
set_option maxHeartbeats 4000000 in
set_option maxRecDepth 100000 in
theorem w_X11_again (l : Launch) {o : Nat} {a1 : Nat} (ho : knd o = 9) (ha1 : knd a1 = 10) {μ μ2 : Mem} {H : Heap} {locs : List Loc} {ls : Array Slot} (hf : f_X11_again o a1 μ = some μ2) (hX : XX E p m meth c cX11_again 3 none s args RX11) (hM : MM E s μ H locs) (hl : lv_has ls 3 [(0, .ref (eA E o)), (1, .ref (eA E a1))]) : W p l e (rmF 1 23) s m args below meth c H locs 0 0 (MQ below (QC E (none) μ2) args s 0 0 (AA E)) (F0 m 0 ls []) := by
  obtain ⟨⟨hx, hb, hml, hown, hts⟩, hXr⟩ := id hX
  unfold f_X11_again at hf
  refine lv_iconst (v := 0) hx hb dX11_again_0 (by decide) ?_
  refine lv_istore_n (lv' := [(2, .int (0 : Int32)), (0, .ref (eA E o)), (1, .ref (eA E a1))]) hx hb dX11_again_1 rfl hl (by decide) rfl (fun ls hl => ?_)
  exact w_X11_again_b2 l ho ha1 hX  FU _ _  hf _ _ hM _ (lv_sub hl [1, 2, 0] rfl)
theorem c_X11_again (l : Launch) {o : Nat} {a1 : Nat} (ho : knd o = 9) (ha1 : knd a1 = 10) {μ μ2 : Mem} (hf : f_X11_again o a1 μ = some μ2) : CT E l yX11_again cX11_again 3 none (rmF 1 23) [.ref (eA E o), .ref (eA E a1)] μ (none) μ2 := CT.of (show plainFor yX11_again = true by decide +kernel) (Nat.le_of_ble_eq_true rfl) rfl (fun _ _ _ _ _ _ _ _ hX hM hl => w_X11_again l ho ha1 hf hX hM hl)
theorem mv_X11_again : MV yX11_again cX11_again 3 none RX11 1 := ⟨q_45_0, q_44_22, q_44_23, q_1_5, by decide +kernel⟩
def f_X11_after_b84 (o : Nat) (a1 : Int32)  (t0 : Int32) (μ : Mem) : Option (Int32 × Mem) :=
  bnv (f_X11_again o (rf o 22) μ) (fun μ7 => (if a1 = 0 then (if (0 : Int32) ≤ t0 then some (t0, μ7) else some ((-5 : Int32), μ7)) else some (t0, μ7)))
set_option maxHeartbeats 4000000 in
set_option maxRecDepth 100000 in
theorem w_X11_after_b84 (l : Launch) {o : Nat} {a1 : Int32} (ho : knd o = 9) {μ2 : Mem} {r : Int32}   {t0 : Int32} {μ : Mem} {H : Heap} {locs : List Loc} {ls : Array Slot}  (hf : f_X11_after_b84 o a1  t0 μ = some (r, μ2)) (hX : XX E p m meth c cX11_after 3 (some .int) s args RX11) (hM : MM E s μ H locs) (hl : lv_has ls 3 [(0, .ref (eA E o)), (1, .int a1)]) : W p l e (rmF 5 122) s m args below meth c H locs 0 0 (MQ below (QC E (some (.int r)) μ2) args s 0 0 (AA E)) (F0 m 84 ls [.int t0]) := by
  obtain ⟨⟨hx, hb, hml, hown, hts⟩, hXr⟩ := id hX
  unfold f_X11_after_b84 at hf
  refine lv_istore_n (lv' := [(2, .int t0), (0, .ref (eA E o)), (1, .int a1)]) hx hb dX11_after_84 rfl hl (by decide) rfl (fun ls hl => ?_)
  refine lv_aload_n hx hb dX11_after_85 rfl (lv_at hl 1 rfl) ?_
  refine lv_aload_n hx hb dX11_after_86 rfl (lv_at hl 1 rfl) ?_
  refine gf_9_22 hX hM ho q_7_12 dX11_after_87 ?_
  replace hf := bnv_some hf
  obtain ⟨μ7, h90, hf⟩ := hf
  refine cl_V (As := [.ref (eA E (rf o 22))]) (rest := []) (st2 := []) (n := 1) hX hM (c_X11_again l ho (kr_9_22 ho) h90) mv_X11_again q_44_21 ⟨rfl, rfl⟩ ⟨Nat.le_of_ble_eq_true rfl, Nat.le_of_ble_eq_true rfl⟩ ho (by decide) rfl rfl rfl hl.1 rfl (Nat.le_of_ble_eq_true rfl) dX11_after_90 rfl (fun H locs hM => ?_)
  refine lv_iload_n hx hb dX11_after_93 rfl (lv_at hl 2 rfl) ?_
  refine lv_if_ne (tgt := 106) hx hb dX11_after_94 (by decide) (fun hc94 => ?_) (fun hc94 => ?_)
  · replace hf := it_f hf hc94
    refine lv_iload_n hx hb dX11_after_106 rfl (lv_at hl 0 rfl) ?_
    exact rt_i hX hM (congrArg (fun z => some (Value.int z)) (so_1 hf)) (so_2 hf) dX11_after_107
  · replace hf := it_t hf hc94
    refine lv_iload_n hx hb dX11_after_97 rfl (lv_at hl 0 rfl) ?_
    refine lv_if_ge (tgt := 106) hx hb dX11_after_98 (by decide) (fun hc98 => ?_) (fun hc98 => ?_)
    · replace hf := it_t hf hc98
      refine lv_iload_n hx hb dX11_after_106 rfl (lv_at hl 0 rfl) ?_
      exact rt_i hX hM (congrArg (fun z => some (Value.int z)) (so_1 hf)) (so_2 hf) dX11_after_107
    · replace hf := it_f hf hc98
      refine lv_bipush (v := (-5)) hx hb dX11_after_101 (by decide) ?_
      refine lv_goto (tgt := 107) hx hb dX11_after_103 (by decide) ?_
      exact rt_i hX hM (congrArg (fun z => some (Value.int z)) (so_1 hf)) (so_2 hf) dX11_after_107
def f_X11_after_b21 (o : Nat) (a1 : Int32)  : Nat → Int32 → Mem → Option (Int32 × Mem)
  | 0, _, _ => none
  | n + 1, x2, μ =>
    (if (μ.1 o 15) ≤ x2 then bnv (f_X11_seeks o μ) (fun μ4 => (if a1 = 0 then bnd (f_X11_leastOf o (35 : Int32) μ4) (fun r11 μ10 => f_X11_after_b84 o a1  r11 μ10) else (if a1 = (1 : Int32) then bnd (f_X11_reached o μ4) (fun r9 μ8 => f_X11_after_b84 o a1  r9 μ8) else bnd (f_X11_allLeast o μ4) (fun r6 μ5 => f_X11_after_b84 o a1  r6 μ5)))) else gA x2 (aln (rf o 16)) (gA x2 (aln (rf o 17)) (bnv (f_X11_happens o (μ.1 (rf o 16) x2.toNatClampNeg) (μ.1 (rf o 17) x2.toNatClampNeg) μ) (fun μ12 => lt (x2 + (1 : Int32)) (fun v13 => (f_X11_after_b21 o a1  n) v13 μ12)))))
set_option maxHeartbeats 4000000 in
set_option maxRecDepth 100000 in
theorem w_X11_after_b21 (l : Launch) {o : Nat} {a1 : Int32} (ho : knd o = 9) {μ2 : Mem} {r : Int32}  (hX : XX E p m meth c cX11_after 3 (some .int) s args RX11)  : ∀ (n : Nat) (x2 : Int32) (μ : Mem), f_X11_after_b21 o a1  n x2 μ = some (r, μ2) → ∀ (H : Heap) (locs : List Loc), MM E s μ H locs → ∀ ls : Array Slot, lv_has ls 3 [(0, .ref (eA E o)), (1, .int a1), (2, .int x2)] → W p l e (rmF 5 122) s m args below meth c H locs 0 0 (MQ below (QC E (some (.int r)) μ2) args s 0 0 (AA E)) (F0 m 21 ls []) := by
  obtain ⟨⟨hx, hb, hml, hown, hts⟩, hXr⟩ := id hX
  intro n
  induction n with
  | zero => intro x2 μ  hf; exact no_none hf
  | succ n ih =>
    intro x2 μ  hf H locs hM ls hl
    rw [f_X11_after_b21] at hf
    have hK21 := ih
    clear ih
    refine lv_iload_n hx hb dX11_after_21 rfl (lv_at hl 2 rfl) ?_
    refine lv_aload_n hx hb dX11_after_22 rfl (lv_at hl 0 rfl) ?_
    refine gf_9_15 hX hM ho q_43_12 dX11_after_23 ?_
    refine lv_icmp_ge (tgt := 51) hx hb dX11_after_26 (by decide) (fun hc26 => ?_) (fun hc26 => ?_)
    · replace hf := it_t hf hc26
      refine lv_aload_n hx hb dX11_after_51 rfl (lv_at hl 0 rfl) ?_
      replace hf := bnv_some hf
      obtain ⟨μ4, h52, hf⟩ := hf
      refine cl_V (As := []) (rest := []) (st2 := []) (n := 0) hX hM (c_X11_seeks l ho h52) mv_X11_seeks q_17_23 ⟨rfl, rfl⟩ ⟨Nat.le_of_ble_eq_true rfl, Nat.le_of_ble_eq_true rfl⟩ ho (by decide) rfl rfl rfl hl.1 rfl (Nat.le_of_ble_eq_true rfl) dX11_after_52 rfl (fun H locs hM => ?_)
      refine lv_iload_n hx hb dX11_after_55 rfl (lv_at hl 1 rfl) ?_
      refine lv_if_ne (tgt := 68) hx hb dX11_after_56 (by decide) (fun hc56 => ?_) (fun hc56 => ?_)
      · replace hf := it_f hf hc56
        refine lv_iload_n hx hb dX11_after_68 rfl (lv_at hl 1 rfl) ?_
        refine lv_iconst (v := 1) hx hb dX11_after_69 (by decide) ?_
        refine lv_icmp_ne (tgt := 80) hx hb dX11_after_70 (by decide) (fun hc70 => ?_) (fun hc70 => ?_)
        · replace hf := it_f hf hc70
          refine lv_aload_n hx hb dX11_after_80 rfl (lv_at hl 0 rfl) ?_
          replace hf := bnd_some hf
          obtain ⟨r6, μ5, h81, hf⟩ := hf
          refine cl_V (As := []) (rest := []) (st2 := [.int r6]) (n := 0) hX hM (c_X11_allLeast l ho h81) mv_X11_allLeast q_42_23 ⟨rfl, rfl⟩ ⟨Nat.le_of_ble_eq_true rfl, Nat.le_of_ble_eq_true rfl⟩ ho (by decide) rfl rfl rfl hl.1 rfl (Nat.le_of_ble_eq_true rfl) dX11_after_81 rfl (fun H locs hM => ?_)
          exact w_X11_after_b84 l ho   hf hX hM (lv_sub hl [0, 1] rfl)
        · replace hf := it_t hf hc70
          refine lv_aload_n hx hb dX11_after_73 rfl (lv_at hl 0 rfl) ?_
          replace hf := bnd_some hf
          obtain ⟨r9, μ8, h74, hf⟩ := hf
          refine cl_V (As := []) (rest := []) (st2 := [.int r9]) (n := 0) hX hM (c_X11_reached l ho h74) mv_X11_reached q_19_12 ⟨rfl, rfl⟩ ⟨Nat.le_of_ble_eq_true rfl, Nat.le_of_ble_eq_true rfl⟩ ho (by decide) rfl rfl rfl hl.1 rfl (Nat.le_of_ble_eq_true rfl) dX11_after_74 rfl (fun H locs hM => ?_)
          refine lv_goto (tgt := 84) hx hb dX11_after_77 (by decide) ?_
          exact w_X11_after_b84 l ho   hf hX hM (lv_sub hl [0, 1] rfl)
      · replace hf := it_t hf hc56
        refine lv_aload_n hx hb dX11_after_59 rfl (lv_at hl 0 rfl) ?_
        refine lv_bipush (v := 35) hx hb dX11_after_60 (by decide) ?_
        replace hf := bnd_some hf
        obtain ⟨r11, μ10, h62, hf⟩ := hf
        refine cl_V (As := [.int (35 : Int32)]) (rest := []) (st2 := [.int r11]) (n := 1) hX hM (c_X11_leastOf l ho h62) mv_X11_leastOf q_19_16 ⟨rfl, rfl⟩ ⟨Nat.le_of_ble_eq_true rfl, Nat.le_of_ble_eq_true rfl⟩ ho (by decide) rfl rfl rfl hl.1 rfl (Nat.le_of_ble_eq_true rfl) dX11_after_62 rfl (fun H locs hM => ?_)
        refine lv_goto (tgt := 84) hx hb dX11_after_65 (by decide) ?_
        exact w_X11_after_b84 l ho   hf hX hM (lv_sub hl [0, 1] rfl)
    · replace hf := it_f hf hc26
      refine lv_aload_n hx hb dX11_after_29 rfl (lv_at hl 0 rfl) ?_
      refine lv_aload_n hx hb dX11_after_30 rfl (lv_at hl 0 rfl) ?_
      refine gf_9_16 hX hM ho q_7_7 dX11_after_31 ?_
      refine lv_iload_n hx hb dX11_after_34 rfl (lv_at hl 2 rfl) ?_
      replace hf := gA_some hf
      obtain ⟨hi, hf⟩ := hf
      refine ald hX hM (kr_9_16 ho) hi dX11_after_35 ?_
      refine lv_aload_n hx hb dX11_after_36 rfl (lv_at hl 0 rfl) ?_
      refine gf_9_17 hX hM ho q_7_8 dX11_after_37 ?_
      refine lv_iload_n hx hb dX11_after_40 rfl (lv_at hl 2 rfl) ?_
      replace hf := gA_some hf
      obtain ⟨hi, hf⟩ := hf
      refine ald hX hM (kr_9_17 ho) hi dX11_after_41 ?_
      replace hf := bnv_some hf
      obtain ⟨μ12, h42, hf⟩ := hf
      refine cl_V (As := [.int (μ.1 (rf o 16) x2.toNatClampNeg), .int (μ.1 (rf o 17) x2.toNatClampNeg)]) (rest := []) (st2 := []) (n := 2) hX hM (c_X11_happens l ho h42) mv_X11_happens q_44_17 ⟨rfl, rfl⟩ ⟨Nat.le_of_ble_eq_true rfl, Nat.le_of_ble_eq_true rfl⟩ ho (by decide) rfl rfl rfl hl.1 rfl (Nat.le_of_ble_eq_true rfl) dX11_after_42 rfl (fun H locs hM => ?_)
      obtain ⟨v13, ev13⟩ : ∃ y : Int32, y = x2 + (1 : Int32) := ⟨_, rfl⟩
      replace hf := lt_e ev13 hf
      refine lv_iinc (v := v13) (lv' := [(2, .int v13), (0, .ref (eA E o)), (1, .int a1)]) hx hb dX11_after_45 hl (k := 2) rfl (by rw [ev13]; rfl) (by decide) rfl (fun ls hl => ?_)
      refine lv_goto (tgt := 21) hx hb dX11_after_48 (by decide) ?_
      exact hK21 _ _  hf _ _ hM _ (lv_sub hl [1, 2, 0] rfl)
def f_X11_after (o : Nat) (a1 : Int32) (μ : Mem) : Option (Int32 × Mem) :=
  bnd (f_X11_in a1 (0 : Int32) (2 : Int32) μ) (fun r2 μ1 => (if r2 = 0 then some ((-1 : Int32), μ1) else bnv (f_X11_keeps o (rf o 22) μ1) (fun μ3 => f_X11_after_b21 o a1  FU (0 : Int32) μ3)))
set_option maxHeartbeats 4000000 in
set_option maxRecDepth 100000 in
theorem w_X11_after (l : Launch) {o : Nat} {a1 : Int32} (ho : knd o = 9) {μ μ2 : Mem} {r : Int32} {H : Heap} {locs : List Loc} {ls : Array Slot} (hf : f_X11_after o a1 μ = some (r, μ2)) (hX : XX E p m meth c cX11_after 3 (some .int) s args RX11) (hM : MM E s μ H locs) (hl : lv_has ls 3 [(0, .ref (eA E o)), (1, .int a1)]) : W p l e (rmF 5 122) s m args below meth c H locs 0 0 (MQ below (QC E (some (.int r)) μ2) args s 0 0 (AA E)) (F0 m 0 ls []) := by
  obtain ⟨⟨hx, hb, hml, hown, hts⟩, hXr⟩ := id hX
  unfold f_X11_after at hf
  refine lv_iload_n hx hb dX11_after_0 rfl (lv_at hl 1 rfl) ?_
  refine lv_iconst (v := 0) hx hb dX11_after_1 (by decide) ?_
  refine lv_iconst (v := 2) hx hb dX11_after_2 (by decide) ?_
  replace hf := bnd_some hf
  obtain ⟨r2, μ1, h3, hf⟩ := hf
  refine cl_S (As := [.int a1, .int (0 : Int32), .int (2 : Int32)]) (rest := []) (st2 := [.int r2]) (n := 3) hX hM (c_X11_in l  h3) mt_X11_in q_8_23 ⟨rfl, rfl⟩ ⟨Nat.le_of_ble_eq_true rfl, Nat.le_of_ble_eq_true rfl⟩ rfl hl.1 rfl (Nat.le_of_ble_eq_true rfl) dX11_after_3 rfl (fun H locs hM => ?_)
  refine lv_if_ne (tgt := 11) hx hb dX11_after_6 (by decide) (fun hc6 => ?_) (fun hc6 => ?_)
  · replace hf := it_f hf hc6
    refine lv_aload_n hx hb dX11_after_11 rfl (lv_at hl 0 rfl) ?_
    refine lv_aload_n hx hb dX11_after_12 rfl (lv_at hl 0 rfl) ?_
    refine gf_9_22 hX hM ho q_7_12 dX11_after_13 ?_
    replace hf := bnv_some hf
    obtain ⟨μ3, h16, hf⟩ := hf
    refine cl_V (As := [.ref (eA E (rf o 22))]) (rest := []) (st2 := []) (n := 1) hX hM (c_X11_keeps l ho (kr_9_22 ho) h16) mv_X11_keeps q_44_12 ⟨rfl, rfl⟩ ⟨Nat.le_of_ble_eq_true rfl, Nat.le_of_ble_eq_true rfl⟩ ho (by decide) rfl rfl rfl hl.1 rfl (Nat.le_of_ble_eq_true rfl) dX11_after_16 rfl (fun H locs hM => ?_)
    refine lv_iconst (v := 0) hx hb dX11_after_19 (by decide) ?_
    refine lv_istore_n (lv' := [(2, .int (0 : Int32)), (0, .ref (eA E o)), (1, .int a1)]) hx hb dX11_after_20 rfl hl (by decide) rfl (fun ls hl => ?_)
    exact w_X11_after_b21 l ho hX  FU _ _  hf _ _ hM _ (lv_sub hl [1, 2, 0] rfl)
  · replace hf := it_t hf hc6
    refine lv_iconst (v := (-1)) hx hb dX11_after_9 (by decide) ?_
    exact rt_i hX hM (congrArg (fun z => some (Value.int z)) (so_1 hf)) (so_2 hf) dX11_after_10
theorem c_X11_after (l : Launch) {o : Nat} {a1 : Int32} (ho : knd o = 9) {μ μ2 : Mem} {r : Int32} (hf : f_X11_after o a1 μ = some (r, μ2)) : CT E l yX11_after cX11_after 3 (some .int) (rmF 5 122) [.ref (eA E o), .int a1] μ (some (.int r)) μ2 := CT.of (show plainFor yX11_after = true by decide +kernel) (Nat.le_of_ble_eq_true rfl) rfl (fun _ _ _ _ _ _ _ _ hX hM hl => w_X11_after l ho hf hX hM hl)
theorem mv_X11_after : MV yX11_after cX11_after 3 (some .int) RX11 1 := ⟨q_44_11, q_44_9, q_44_10, q_1_5, by decide +kernel⟩
def f_X11_book (o : Nat) (a1 : Int32) (a2 : Int32) (μ : Mem) : Option (Int32 × Mem) :=
  (if a1 = (-1 : Int32) then lt (sI μ o 18 (0 : Int32)) (fun μ8 => some ((0 : Int32), μ8)) else bnd (f_X11_isSquare a1 μ) (fun r2 μ1 => (if r2 = 0 then some ((-1 : Int32), μ1) else bnd (f_X11_in a2 (0 : Int32) (99999 : Int32) μ1) (fun r4 μ3 => (if r4 = 0 then some ((-2 : Int32), μ3) else (if (μ3.1 o 18) = (8 : Int32) then some ((-4 : Int32), μ3) else gA (μ3.1 o 18) (aln (rf o 19)) (lt (sI μ3 (rf o 19) (μ3.1 o 18).toNatClampNeg a1) (fun μ5 => gA (μ5.1 o 18) (aln (rf o 20)) (lt (sI μ5 (rf o 20) (μ5.1 o 18).toNatClampNeg a2) (fun μ6 => lt (sI μ6 o 18 ((μ6.1 o 18) + (1 : Int32))) (fun μ7 => some ((μ7.1 o 18), μ7))))))))))))
set_option maxHeartbeats 4000000 in
set_option maxRecDepth 100000 in
theorem w_X11_book (l : Launch) {o : Nat} {a1 : Int32} {a2 : Int32} (ho : knd o = 9) {μ μ2 : Mem} {r : Int32} {H : Heap} {locs : List Loc} {ls : Array Slot} (hf : f_X11_book o a1 a2 μ = some (r, μ2)) (hX : XX E p m meth c cX11_book 3 (some .int) s args RX11) (hM : MM E s μ H locs) (hl : lv_has ls 3 [(0, .ref (eA E o)), (1, .int a1), (2, .int a2)]) : W p l e (rmF 2 42) s m args below meth c H locs 0 0 (MQ below (QC E (some (.int r)) μ2) args s 0 0 (AA E)) (F0 m 0 ls []) := by
  obtain ⟨⟨hx, hb, hml, hown, hts⟩, hXr⟩ := id hX
  unfold f_X11_book at hf
  refine lv_iload_n hx hb dX11_book_0 rfl (lv_at hl 1 rfl) ?_
  refine lv_iconst (v := (-1)) hx hb dX11_book_1 (by decide) ?_
  refine lv_icmp_ne (tgt := 12) hx hb dX11_book_2 (by decide) (fun hc2 => ?_) (fun hc2 => ?_)
  · replace hf := it_f hf hc2
    refine lv_iload_n hx hb dX11_book_12 rfl (lv_at hl 1 rfl) ?_
    replace hf := bnd_some hf
    obtain ⟨r2, μ1, h13, hf⟩ := hf
    refine cl_S (As := [.int a1]) (rest := []) (st2 := [.int r2]) (n := 1) hX hM (c_X11_isSquare l  h13) mt_X11_isSquare q_11_21 ⟨rfl, rfl⟩ ⟨Nat.le_of_ble_eq_true rfl, Nat.le_of_ble_eq_true rfl⟩ rfl hl.1 rfl (Nat.le_of_ble_eq_true rfl) dX11_book_13 rfl (fun H locs hM => ?_)
    refine lv_if_ne (tgt := 21) hx hb dX11_book_16 (by decide) (fun hc16 => ?_) (fun hc16 => ?_)
    · replace hf := it_f hf hc16
      refine lv_iload_n hx hb dX11_book_21 rfl (lv_at hl 2 rfl) ?_
      refine lv_iconst (v := 0) hx hb dX11_book_22 (by decide) ?_
      refine lv_ldcw (v := 99999) hx hb hown (hts _ q_39_16) dX11_book_23 ?_
      replace hf := bnd_some hf
      obtain ⟨r4, μ3, h26, hf⟩ := hf
      refine cl_S (As := [.int a2, .int (0 : Int32), .int (99999 : Int32)]) (rest := []) (st2 := [.int r4]) (n := 3) hX hM (c_X11_in l  h26) mt_X11_in q_8_23 ⟨rfl, rfl⟩ ⟨Nat.le_of_ble_eq_true rfl, Nat.le_of_ble_eq_true rfl⟩ rfl hl.1 rfl (Nat.le_of_ble_eq_true rfl) dX11_book_26 rfl (fun H locs hM => ?_)
      refine lv_if_ne (tgt := 35) hx hb dX11_book_29 (by decide) (fun hc29 => ?_) (fun hc29 => ?_)
      · replace hf := it_f hf hc29
        refine lv_aload_n hx hb dX11_book_35 rfl (lv_at hl 0 rfl) ?_
        refine gf_9_18 hX hM ho q_44_16 dX11_book_36 ?_
        refine lv_bipush (v := 8) hx hb dX11_book_39 (by decide) ?_
        refine lv_icmp_ne (tgt := 47) hx hb dX11_book_41 (by decide) (fun hc41 => ?_) (fun hc41 => ?_)
        · replace hf := it_f hf hc41
          refine lv_aload_n hx hb dX11_book_47 rfl (lv_at hl 0 rfl) ?_
          refine gf_9_19 hX hM ho q_7_9 dX11_book_48 ?_
          refine lv_aload_n hx hb dX11_book_51 rfl (lv_at hl 0 rfl) ?_
          refine gf_9_18 hX hM ho q_44_16 dX11_book_52 ?_
          refine lv_iload_n hx hb dX11_book_55 rfl (lv_at hl 1 rfl) ?_
          replace hf := gA_some hf
          obtain ⟨hi, hf⟩ := hf
          refine ast hX hM (kr_9_19 ho) hi dX11_book_56 (fun μ5 H locs eμ5 hM => ?_)
          replace hf := lt_e eμ5 hf
          refine lv_aload_n hx hb dX11_book_57 rfl (lv_at hl 0 rfl) ?_
          refine gf_9_20 hX hM ho q_7_10 dX11_book_58 ?_
          refine lv_aload_n hx hb dX11_book_61 rfl (lv_at hl 0 rfl) ?_
          refine gf_9_18 hX hM ho q_44_16 dX11_book_62 ?_
          refine lv_iload_n hx hb dX11_book_65 rfl (lv_at hl 2 rfl) ?_
          replace hf := gA_some hf
          obtain ⟨hi, hf⟩ := hf
          refine ast hX hM (kr_9_20 ho) hi dX11_book_66 (fun μ6 H locs eμ6 hM => ?_)
          replace hf := lt_e eμ6 hf
          refine lv_aload_n hx hb dX11_book_67 rfl (lv_at hl 0 rfl) ?_
          refine lv_dup hx hb dX11_book_68 rfl ?_
          refine gf_9_18 hX hM ho q_44_16 dX11_book_69 ?_
          refine lv_iconst (v := 1) hx hb dX11_book_72 (by decide) ?_
          refine lv_iadd hx hb dX11_book_73 ?_
          refine pf_9_18 hX hM ho q_44_16 dX11_book_74 (fun μ7 H locs eμ7 hM => ?_)
          replace hf := lt_e eμ7 hf
          refine lv_aload_n hx hb dX11_book_77 rfl (lv_at hl 0 rfl) ?_
          refine gf_9_18 hX hM ho q_44_16 dX11_book_78 ?_
          exact rt_i hX hM (congrArg (fun z => some (Value.int z)) (so_1 hf)) (so_2 hf) dX11_book_81
        · replace hf := it_t hf hc41
          refine lv_bipush (v := (-4)) hx hb dX11_book_44 (by decide) ?_
          exact rt_i hX hM (congrArg (fun z => some (Value.int z)) (so_1 hf)) (so_2 hf) dX11_book_46
      · replace hf := it_t hf hc29
        refine lv_bipush (v := (-2)) hx hb dX11_book_32 (by decide) ?_
        exact rt_i hX hM (congrArg (fun z => some (Value.int z)) (so_1 hf)) (so_2 hf) dX11_book_34
    · replace hf := it_t hf hc16
      refine lv_iconst (v := (-1)) hx hb dX11_book_19 (by decide) ?_
      exact rt_i hX hM (congrArg (fun z => some (Value.int z)) (so_1 hf)) (so_2 hf) dX11_book_20
  · replace hf := it_t hf hc2
    refine lv_aload_n hx hb dX11_book_5 rfl (lv_at hl 0 rfl) ?_
    refine lv_iconst (v := 0) hx hb dX11_book_6 (by decide) ?_
    refine pf_9_18 hX hM ho q_44_16 dX11_book_7 (fun μ8 H locs eμ8 hM => ?_)
    replace hf := lt_e eμ8 hf
    refine lv_iconst (v := 0) hx hb dX11_book_10 (by decide) ?_
    exact rt_i hX hM (congrArg (fun z => some (Value.int z)) (so_1 hf)) (so_2 hf) dX11_book_11
theorem c_X11_book (l : Launch) {o : Nat} {a1 : Int32} {a2 : Int32} (ho : knd o = 9) {μ μ2 : Mem} {r : Int32} (hf : f_X11_book o a1 a2 μ = some (r, μ2)) : CT E l yX11_book cX11_book 3 (some .int) (rmF 2 42) [.ref (eA E o), .int a1, .int a2] μ (some (.int r)) μ2 := CT.of (show plainFor yX11_book = true by decide +kernel) (Nat.le_of_ble_eq_true rfl) rfl (fun _ _ _ _ _ _ _ _ hX hM hl => w_X11_book l ho hf hX hM hl)
theorem mv_X11_book : MV yX11_book cX11_book 3 (some .int) RX11 2 := ⟨q_45_9, q_45_7, q_45_8, q_1_5, by decide +kernel⟩
def f_X11_looked_b6 (o : Nat)  : Nat → Int32 → Mem → Option (Int32 × Mem)
  | 0, _, _ => none
  | n + 1, x1, μ =>
    (if (μ.1 o 18) ≤ x1 then some ((-5 : Int32), μ) else gA x1 (aln (rf o 19)) (bnd (f_X11_leastOf o (μ.1 (rf o 19) x1.toNatClampNeg) μ) (fun r3 μ2 => gA x1 (aln (rf o 20)) ((if r3 = (μ2.1 (rf o 20) x1.toNatClampNeg) then lt (x1 + (1 : Int32)) (fun v4 => (f_X11_looked_b6 o  n) v4 μ2) else some (x1, μ2))))))
set_option maxHeartbeats 4000000 in
set_option maxRecDepth 100000 in
theorem w_X11_looked_b6 (l : Launch) {o : Nat} (ho : knd o = 9) {μ2 : Mem} {r : Int32}  (hX : XX E p m meth c cX11_looked 2 (some .int) s args RX11)  : ∀ (n : Nat) (x1 : Int32) (μ : Mem), f_X11_looked_b6 o  n x1 μ = some (r, μ2) → ∀ (H : Heap) (locs : List Loc), MM E s μ H locs → ∀ ls : Array Slot, lv_has ls 2 [(0, .ref (eA E o)), (1, .int x1)] → W p l e (rmF 5 122) s m args below meth c H locs 0 0 (MQ below (QC E (some (.int r)) μ2) args s 0 0 (AA E)) (F0 m 6 ls []) := by
  obtain ⟨⟨hx, hb, hml, hown, hts⟩, hXr⟩ := id hX
  intro n
  induction n with
  | zero => intro x1 μ  hf; exact no_none hf
  | succ n ih =>
    intro x1 μ  hf H locs hM ls hl
    rw [f_X11_looked_b6] at hf
    have hK6 := ih
    clear ih
    refine lv_iload_n hx hb dX11_looked_6 rfl (lv_at hl 1 rfl) ?_
    refine lv_aload_n hx hb dX11_looked_7 rfl (lv_at hl 0 rfl) ?_
    refine gf_9_18 hX hM ho q_44_16 dX11_looked_8 ?_
    refine lv_icmp_ge (tgt := 41) hx hb dX11_looked_11 (by decide) (fun hc11 => ?_) (fun hc11 => ?_)
    · replace hf := it_t hf hc11
      refine lv_bipush (v := (-5)) hx hb dX11_looked_41 (by decide) ?_
      exact rt_i hX hM (congrArg (fun z => some (Value.int z)) (so_1 hf)) (so_2 hf) dX11_looked_43
    · replace hf := it_f hf hc11
      refine lv_aload_n hx hb dX11_looked_14 rfl (lv_at hl 0 rfl) ?_
      refine lv_aload_n hx hb dX11_looked_15 rfl (lv_at hl 0 rfl) ?_
      refine gf_9_19 hX hM ho q_7_9 dX11_looked_16 ?_
      refine lv_iload_n hx hb dX11_looked_19 rfl (lv_at hl 1 rfl) ?_
      replace hf := gA_some hf
      obtain ⟨hi, hf⟩ := hf
      refine ald hX hM (kr_9_19 ho) hi dX11_looked_20 ?_
      replace hf := bnd_some hf
      obtain ⟨r3, μ2, h21, hf⟩ := hf
      refine cl_V (As := [.int (μ.1 (rf o 19) x1.toNatClampNeg)]) (rest := []) (st2 := [.int r3]) (n := 1) hX hM (c_X11_leastOf l ho h21) mv_X11_leastOf q_19_16 ⟨rfl, rfl⟩ ⟨Nat.le_of_ble_eq_true rfl, Nat.le_of_ble_eq_true rfl⟩ ho (by decide) rfl rfl rfl hl.1 rfl (Nat.le_of_ble_eq_true rfl) dX11_looked_21 rfl (fun H locs hM => ?_)
      refine lv_aload_n hx hb dX11_looked_24 rfl (lv_at hl 0 rfl) ?_
      refine gf_9_20 hX hM ho q_7_10 dX11_looked_25 ?_
      refine lv_iload_n hx hb dX11_looked_28 rfl (lv_at hl 1 rfl) ?_
      replace hf := gA_some hf
      obtain ⟨hi, hf⟩ := hf
      refine ald hX hM (kr_9_20 ho) hi dX11_looked_29 ?_
      refine lv_icmp_eq (tgt := 35) hx hb dX11_looked_30 (by decide) (fun hc30 => ?_) (fun hc30 => ?_)
      · replace hf := it_t hf hc30
        obtain ⟨v4, ev4⟩ : ∃ y : Int32, y = x1 + (1 : Int32) := ⟨_, rfl⟩
        replace hf := lt_e ev4 hf
        refine lv_iinc (v := v4) (lv' := [(1, .int v4), (0, .ref (eA E o))]) hx hb dX11_looked_35 hl (k := 1) rfl (by rw [ev4]; rfl) (by decide) rfl (fun ls hl => ?_)
        refine lv_goto (tgt := 6) hx hb dX11_looked_38 (by decide) ?_
        exact hK6 _ _  hf _ _ hM _ (lv_sub hl [1, 0] rfl)
      · replace hf := it_f hf hc30
        refine lv_iload_n hx hb dX11_looked_33 rfl (lv_at hl 1 rfl) ?_
        exact rt_i hX hM (congrArg (fun z => some (Value.int z)) (so_1 hf)) (so_2 hf) dX11_looked_34
def f_X11_looked (o : Nat) (μ : Mem) : Option (Int32 × Mem) :=
  bnv (f_X11_seeks o μ) (fun μ1 => f_X11_looked_b6 o  FU (0 : Int32) μ1)
set_option maxHeartbeats 4000000 in
set_option maxRecDepth 100000 in
theorem w_X11_looked (l : Launch) {o : Nat} (ho : knd o = 9) {μ μ2 : Mem} {r : Int32} {H : Heap} {locs : List Loc} {ls : Array Slot} (hf : f_X11_looked o μ = some (r, μ2)) (hX : XX E p m meth c cX11_looked 2 (some .int) s args RX11) (hM : MM E s μ H locs) (hl : lv_has ls 2 [(0, .ref (eA E o))]) : W p l e (rmF 5 122) s m args below meth c H locs 0 0 (MQ below (QC E (some (.int r)) μ2) args s 0 0 (AA E)) (F0 m 0 ls []) := by
  obtain ⟨⟨hx, hb, hml, hown, hts⟩, hXr⟩ := id hX
  unfold f_X11_looked at hf
  refine lv_aload_n hx hb dX11_looked_0 rfl (lv_at hl 0 rfl) ?_
  replace hf := bnv_some hf
  obtain ⟨μ1, h1, hf⟩ := hf
  refine cl_V (As := []) (rest := []) (st2 := []) (n := 0) hX hM (c_X11_seeks l ho h1) mv_X11_seeks q_17_23 ⟨rfl, rfl⟩ ⟨Nat.le_of_ble_eq_true rfl, Nat.le_of_ble_eq_true rfl⟩ ho (by decide) rfl rfl rfl hl.1 rfl (Nat.le_of_ble_eq_true rfl) dX11_looked_1 rfl (fun H locs hM => ?_)
  refine lv_iconst (v := 0) hx hb dX11_looked_4 (by decide) ?_
  refine lv_istore_n (lv' := [(1, .int (0 : Int32)), (0, .ref (eA E o))]) hx hb dX11_looked_5 rfl hl (by decide) rfl (fun ls hl => ?_)
  exact w_X11_looked_b6 l ho hX  FU _ _  hf _ _ hM _ (lv_sub hl [1, 0] rfl)
theorem c_X11_looked (l : Launch) {o : Nat} (ho : knd o = 9) {μ μ2 : Mem} {r : Int32} (hf : f_X11_looked o μ = some (r, μ2)) : CT E l yX11_looked cX11_looked 2 (some .int) (rmF 5 122) [.ref (eA E o)] μ (some (.int r)) μ2 := CT.of (show plainFor yX11_looked = true by decide +kernel) (Nat.le_of_ble_eq_true rfl) rfl (fun _ _ _ _ _ _ _ _ hX hM hl => w_X11_looked l ho hf hX hM hl)
theorem mv_X11_looked : MV yX11_looked cX11_looked 2 (some .int) RX11 0 := ⟨q_45_18, q_45_16, q_45_17, q_1_5, by decide +kernel⟩
def f_X11_image (o : Nat) (μ : Mem) : Option (Int32 × Mem) :=
  lt (sI μ o 23 (1 : Int32)) (fun μ1 => bnv (f_X11_keeps o (rf o 21) μ1) (fun μ2 => bnd (f_X11_lands o μ2) (fun r4 μ3 => some (r4, μ3))))
set_option maxHeartbeats 4000000 in
set_option maxRecDepth 100000 in
theorem w_X11_image (l : Launch) {o : Nat} (ho : knd o = 9) {μ μ2 : Mem} {r : Int32} {H : Heap} {locs : List Loc} {ls : Array Slot} (hf : f_X11_image o μ = some (r, μ2)) (hX : XX E p m meth c cX11_image 1 (some .int) s args RX11) (hM : MM E s μ H locs) (hl : lv_has ls 1 [(0, .ref (eA E o))]) : W p l e (rmF 1 22) s m args below meth c H locs 0 0 (MQ below (QC E (some (.int r)) μ2) args s 0 0 (AA E)) (F0 m 0 ls []) := by
  obtain ⟨⟨hx, hb, hml, hown, hts⟩, hXr⟩ := id hX
  unfold f_X11_image at hf
  refine lv_aload_n hx hb dX11_image_0 rfl (lv_at hl 0 rfl) ?_
  refine lv_iconst (v := 1) hx hb dX11_image_1 (by decide) ?_
  refine pf_9_23 hX hM ho q_47_22 rfl rfl dX11_image_2 (fun μ1 H locs eμ1 hM => ?_)
  replace hf := lt_e eμ1 hf
  refine lv_aload_n hx hb dX11_image_5 rfl (lv_at hl 0 rfl) ?_
  refine lv_aload_n hx hb dX11_image_6 rfl (lv_at hl 0 rfl) ?_
  refine gf_9_21 hX hM ho q_7_11 dX11_image_7 ?_
  replace hf := bnv_some hf
  obtain ⟨μ2, h10, hf⟩ := hf
  refine cl_V (As := [.ref (eA E (rf o 21))]) (rest := []) (st2 := []) (n := 1) hX hM (c_X11_keeps l ho (kr_9_21 ho) h10) mv_X11_keeps q_44_12 ⟨rfl, rfl⟩ ⟨Nat.le_of_ble_eq_true rfl, Nat.le_of_ble_eq_true rfl⟩ ho (by decide) rfl rfl rfl hl.1 rfl (Nat.le_of_ble_eq_true rfl) dX11_image_10 rfl (fun H locs hM => ?_)
  refine lv_aload_n hx hb dX11_image_13 rfl (lv_at hl 0 rfl) ?_
  replace hf := bnd_some hf
  obtain ⟨r4, μ3, h14, hf⟩ := hf
  refine cl_V (As := []) (rest := []) (st2 := [.int r4]) (n := 0) hX hM (c_X11_lands l ho h14) mv_X11_lands q_30_14 ⟨rfl, rfl⟩ ⟨Nat.le_of_ble_eq_true rfl, Nat.le_of_ble_eq_true rfl⟩ ho (by decide) rfl rfl rfl hl.1 rfl (Nat.le_of_ble_eq_true rfl) dX11_image_14 rfl (fun H locs hM => ?_)
  exact rt_i hX hM (congrArg (fun z => some (Value.int z)) (so_1 hf)) (so_2 hf) dX11_image_17
theorem c_X11_image (l : Launch) {o : Nat} (ho : knd o = 9) {μ μ2 : Mem} {r : Int32} (hf : f_X11_image o μ = some (r, μ2)) : CT E l yX11_image cX11_image 1 (some .int) (rmF 1 22) [.ref (eA E o)] μ (some (.int r)) μ2 := CT.of (show plainFor yX11_image = true by decide +kernel) (Nat.le_of_ble_eq_true rfl) rfl (fun _ _ _ _ _ _ _ _ hX hM hl => w_X11_image l ho hf hX hM hl)
theorem mv_X11_image : MV yX11_image cX11_image 1 (some .int) RX11 0 := ⟨q_47_21, q_47_19, q_47_20, q_1_5, by decide +kernel⟩
def f_X11_undo (o : Nat) (μ : Mem) : Option (Int32 × Mem) :=
  (if (μ.1 o 23) = 0 then some ((-3 : Int32), μ) else bnv (f_X11_again o (rf o 21) μ) (fun μ1 => bnd (f_X11_lands o μ1) (fun r3 μ2 => some (r3, μ2))))
set_option maxHeartbeats 4000000 in
set_option maxRecDepth 100000 in
theorem w_X11_undo (l : Launch) {o : Nat} (ho : knd o = 9) {μ μ2 : Mem} {r : Int32} {H : Heap} {locs : List Loc} {ls : Array Slot} (hf : f_X11_undo o μ = some (r, μ2)) (hX : XX E p m meth c cX11_undo 1 (some .int) s args RX11) (hM : MM E s μ H locs) (hl : lv_has ls 1 [(0, .ref (eA E o))]) : W p l e (rmF 2 45) s m args below meth c H locs 0 0 (MQ below (QC E (some (.int r)) μ2) args s 0 0 (AA E)) (F0 m 0 ls []) := by
  obtain ⟨⟨hx, hb, hml, hown, hts⟩, hXr⟩ := id hX
  unfold f_X11_undo at hf
  refine lv_aload_n hx hb dX11_undo_0 rfl (lv_at hl 0 rfl) ?_
  refine gf_9_23 hX hM ho q_47_22 dX11_undo_1 ?_
  refine lv_if_ne (tgt := 10) hx hb dX11_undo_4 (by decide) (fun hc4 => ?_) (fun hc4 => ?_)
  · replace hf := it_f hf hc4
    refine lv_aload_n hx hb dX11_undo_10 rfl (lv_at hl 0 rfl) ?_
    refine lv_aload_n hx hb dX11_undo_11 rfl (lv_at hl 0 rfl) ?_
    refine gf_9_21 hX hM ho q_7_11 dX11_undo_12 ?_
    replace hf := bnv_some hf
    obtain ⟨μ1, h15, hf⟩ := hf
    refine cl_V (As := [.ref (eA E (rf o 21))]) (rest := []) (st2 := []) (n := 1) hX hM (c_X11_again l ho (kr_9_21 ho) h15) mv_X11_again q_44_21 ⟨rfl, rfl⟩ ⟨Nat.le_of_ble_eq_true rfl, Nat.le_of_ble_eq_true rfl⟩ ho (by decide) rfl rfl rfl hl.1 rfl (Nat.le_of_ble_eq_true rfl) dX11_undo_15 rfl (fun H locs hM => ?_)
    refine lv_aload_n hx hb dX11_undo_18 rfl (lv_at hl 0 rfl) ?_
    replace hf := bnd_some hf
    obtain ⟨r3, μ2, h19, hf⟩ := hf
    refine cl_V (As := []) (rest := []) (st2 := [.int r3]) (n := 0) hX hM (c_X11_lands l ho h19) mv_X11_lands q_30_14 ⟨rfl, rfl⟩ ⟨Nat.le_of_ble_eq_true rfl, Nat.le_of_ble_eq_true rfl⟩ ho (by decide) rfl rfl rfl hl.1 rfl (Nat.le_of_ble_eq_true rfl) dX11_undo_19 rfl (fun H locs hM => ?_)
    exact rt_i hX hM (congrArg (fun z => some (Value.int z)) (so_1 hf)) (so_2 hf) dX11_undo_22
  · replace hf := it_t hf hc4
    refine lv_bipush (v := (-3)) hx hb dX11_undo_7 (by decide) ?_
    exact rt_i hX hM (congrArg (fun z => some (Value.int z)) (so_1 hf)) (so_2 hf) dX11_undo_9
theorem c_X11_undo (l : Launch) {o : Nat} (ho : knd o = 9) {μ μ2 : Mem} {r : Int32} (hf : f_X11_undo o μ = some (r, μ2)) : CT E l yX11_undo cX11_undo 1 (some .int) (rmF 2 45) [.ref (eA E o)] μ (some (.int r)) μ2 := CT.of (show plainFor yX11_undo = true by decide +kernel) (Nat.le_of_ble_eq_true rfl) rfl (fun _ _ _ _ _ _ _ _ hX hM hl => w_X11_undo l ho hf hX hM hl)
theorem mv_X11_undo : MV yX11_undo cX11_undo 1 (some .int) RX11 0 := ⟨q_48_6, q_48_4, q_48_5, q_1_5, by decide +kernel⟩
def f_X11_count (o : Nat) (a1 : Int32) (μ : Mem) : Option (Int32 × Mem) :=
  (if a1 = (0 : Int32) then some ((μ.1 o 12), μ) else (if a1 = (1 : Int32) then some ((μ.1 o 15), μ) else (if a1 = (2 : Int32) then some ((μ.1 o 18), μ) else (if a1 = (3 : Int32) then some ((μ.1 o 25), μ) else (if a1 = (4 : Int32) then some ((μ.1 o 10), μ) else some ((-2 : Int32), μ))))))
set_option maxHeartbeats 4000000 in
set_option maxRecDepth 100000 in
theorem w_X11_count (l : Launch) {o : Nat} {a1 : Int32} (ho : knd o = 9) {μ μ2 : Mem} {r : Int32} {H : Heap} {locs : List Loc} {ls : Array Slot} (hf : f_X11_count o a1 μ = some (r, μ2)) (hX : XX E p m meth c cX11_count 2 (some .int) s args RX11) (hM : MM E s μ H locs) (hl : lv_has ls 2 [(0, .ref (eA E o)), (1, .int a1)]) : W p l e (rmF 0 0) s m args below meth c H locs 0 0 (MQ below (QC E (some (.int r)) μ2) args s 0 0 (AA E)) (F0 m 0 ls []) := by
  obtain ⟨⟨hx, hb, hml, hown, hts⟩, hXr⟩ := id hX
  unfold f_X11_count at hf
  refine lv_iload_n hx hb dX11_count_0 rfl (lv_at hl 1 rfl) ?_
  by_cases hs1_0 : a1 = (0 : Int32)
  · replace hf := it_t hf hs1_0
    refine lv_tableIn (off := 35) (tgt := 36) hx hb dX11_count_1 (by rw [hs1_0]; decide) (by rw [hs1_0]; decide) (by rw [hs1_0]; rfl) (by decide) ?_
    refine lv_aload_n hx hb dX11_count_36 rfl (lv_at hl 0 rfl) ?_
    refine gf_9_12 hX hM ho q_39_15 dX11_count_37 ?_
    exact rt_i hX hM (congrArg (fun z => some (Value.int z)) (so_1 hf)) (so_2 hf) dX11_count_40
  · replace hf := it_f hf hs1_0
    by_cases hs1_1 : a1 = (1 : Int32)
    · replace hf := it_t hf hs1_1
      refine lv_tableIn (off := 40) (tgt := 41) hx hb dX11_count_1 (by rw [hs1_1]; decide) (by rw [hs1_1]; decide) (by rw [hs1_1]; rfl) (by decide) ?_
      refine lv_aload_n hx hb dX11_count_41 rfl (lv_at hl 0 rfl) ?_
      refine gf_9_15 hX hM ho q_43_12 dX11_count_42 ?_
      exact rt_i hX hM (congrArg (fun z => some (Value.int z)) (so_1 hf)) (so_2 hf) dX11_count_45
    · replace hf := it_f hf hs1_1
      by_cases hs1_2 : a1 = (2 : Int32)
      · replace hf := it_t hf hs1_2
        refine lv_tableIn (off := 45) (tgt := 46) hx hb dX11_count_1 (by rw [hs1_2]; decide) (by rw [hs1_2]; decide) (by rw [hs1_2]; rfl) (by decide) ?_
        refine lv_aload_n hx hb dX11_count_46 rfl (lv_at hl 0 rfl) ?_
        refine gf_9_18 hX hM ho q_44_16 dX11_count_47 ?_
        exact rt_i hX hM (congrArg (fun z => some (Value.int z)) (so_1 hf)) (so_2 hf) dX11_count_50
      · replace hf := it_f hf hs1_2
        by_cases hs1_3 : a1 = (3 : Int32)
        · replace hf := it_t hf hs1_3
          refine lv_tableIn (off := 50) (tgt := 51) hx hb dX11_count_1 (by rw [hs1_3]; decide) (by rw [hs1_3]; decide) (by rw [hs1_3]; rfl) (by decide) ?_
          refine lv_aload_n hx hb dX11_count_51 rfl (lv_at hl 0 rfl) ?_
          refine gf_9_25 hX hM ho q_21_15 dX11_count_52 ?_
          exact rt_i hX hM (congrArg (fun z => some (Value.int z)) (so_1 hf)) (so_2 hf) dX11_count_55
        · replace hf := it_f hf hs1_3
          by_cases hs1_4 : a1 = (4 : Int32)
          · replace hf := it_t hf hs1_4
            refine lv_tableIn (off := 55) (tgt := 56) hx hb dX11_count_1 (by rw [hs1_4]; decide) (by rw [hs1_4]; decide) (by rw [hs1_4]; rfl) (by decide) ?_
            refine lv_aload_n hx hb dX11_count_56 rfl (lv_at hl 0 rfl) ?_
            refine gf_9_10 hX hM ho q_21_2 dX11_count_57 ?_
            exact rt_i hX hM (congrArg (fun z => some (Value.int z)) (so_1 hf)) (so_2 hf) dX11_count_60
          · replace hf := it_f hf hs1_4
            have hq : (a1).toInt < 0 ∨ 4 < (a1).toInt := by
              have n0 := lv_neT hs1_0 (a := 0) rfl
              have n1 := lv_neT hs1_1 (a := 1) rfl
              have n2 := lv_neT hs1_2 (a := 2) rfl
              have n3 := lv_neT hs1_3 (a := 3) rfl
              have n4 := lv_neT hs1_4 (a := 4) rfl
              omega
            refine lv_tableOut (tgt := 61) hx hb dX11_count_1 hq (by decide) ?_
            refine lv_bipush (v := (-2)) hx hb dX11_count_61 (by decide) ?_
            exact rt_i hX hM (congrArg (fun z => some (Value.int z)) (so_1 hf)) (so_2 hf) dX11_count_63
theorem c_X11_count (l : Launch) {o : Nat} {a1 : Int32} (ho : knd o = 9) {μ μ2 : Mem} {r : Int32} (hf : f_X11_count o a1 μ = some (r, μ2)) : CT E l yX11_count cX11_count 2 (some .int) (rmF 0 0) [.ref (eA E o), .int a1] μ (some (.int r)) μ2 := CT.of (show plainFor yX11_count = true by decide +kernel) (Nat.le_of_ble_eq_true rfl) rfl (fun _ _ _ _ _ _ _ _ hX hM hl => w_X11_count l ho hf hX hM hl)
theorem mv_X11_count : MV yX11_count cX11_count 2 (some .int) RX11 1 := ⟨q_48_18, q_48_16, q_48_17, q_1_5, by decide +kernel⟩
def f_X11_isTape (a0 : Int32) (μ : Mem) : Option (Int32 × Mem) :=
  bnd (f_X11_in a0 (0 : Int32) (5 : Int32) μ) (fun r2 μ1 => gB r2 (some (r2, μ1)))
set_option maxHeartbeats 4000000 in
set_option maxRecDepth 100000 in
theorem w_X11_isTape (l : Launch) {a0 : Int32}  {μ μ2 : Mem} {r : Int32} {H : Heap} {locs : List Loc} {ls : Array Slot} (hf : f_X11_isTape a0 μ = some (r, μ2)) (hX : XX E p m meth c cX11_isTape 1 (some .boolean) s args RX11) (hM : MM E s μ H locs) (hl : lv_has ls 1 [(0, .int a0)]) : W p l e (rmF 1 22) s m args below meth c H locs 0 0 (MQ below (QC E (some (.int r)) μ2) args s 0 0 (AA E)) (F0 m 0 ls []) := by
  obtain ⟨⟨hx, hb, hml, hown, hts⟩, hXr⟩ := id hX
  unfold f_X11_isTape at hf
  refine lv_iload_n hx hb dX11_isTape_0 rfl (lv_at hl 0 rfl) ?_
  refine lv_iconst (v := 0) hx hb dX11_isTape_1 (by decide) ?_
  refine lv_iconst (v := 5) hx hb dX11_isTape_2 (by decide) ?_
  replace hf := bnd_some hf
  obtain ⟨r2, μ1, h3, hf⟩ := hf
  refine cl_S (As := [.int a0, .int (0 : Int32), .int (5 : Int32)]) (rest := []) (st2 := [.int r2]) (n := 3) hX hM (c_X11_in l  h3) mt_X11_in q_8_23 ⟨rfl, rfl⟩ ⟨Nat.le_of_ble_eq_true rfl, Nat.le_of_ble_eq_true rfl⟩ rfl hl.1 rfl (Nat.le_of_ble_eq_true rfl) dX11_isTape_3 rfl (fun H locs hM => ?_)
  replace hf := gB_some hf
  obtain ⟨hz, hf⟩ := hf
  exact rt_z hX hM hz (congrArg (fun z => some (Value.int z)) (so_1 hf)) (so_2 hf) dX11_isTape_6
theorem c_X11_isTape (l : Launch) {a0 : Int32}  {μ μ2 : Mem} {r : Int32} (hf : f_X11_isTape a0 μ = some (r, μ2)) : CT E l yX11_isTape cX11_isTape 1 (some .boolean) (rmF 1 22) [.int a0] μ (some (.int r)) μ2 := CT.of (show plainFor yX11_isTape = true by decide +kernel) (Nat.le_of_ble_eq_true rfl) rfl (fun _ _ _ _ _ _ _ _ hX hM hl => w_X11_isTape l  hf hX hM hl)
theorem mt_X11_isTape : MT yX11_isTape cX11_isTape 1 (some .boolean) 1 := ⟨q_47_2, q_47_1, q_1_5, by decide +kernel⟩
def f_X11_judge_b37 (o : Nat) (a1 : Int32) (a2 : Int32)  : Nat → Int32 → Mem → Option (Int32 × Mem)
  | 0, _, _ => none
  | n + 1, x3, μ =>
    (if (36 : Int32) ≤ x3 then some ((-5 : Int32), μ) else gA a1 (aln (rf o 36)) ((if (μ.1 (rf o 36) a1.toNatClampNeg) < 0 then some (((100 : Int32) + x3), μ) else (if a2 < 0 then some (((100 : Int32) + x3), μ) else gA a1 (aln (rf o 37)) ((if (lg_cmp (a2.toInt64 + x3.toInt64) ((μ.1 (rf o 37) a1.toNatClampNeg).toInt64)) < 0 then gA ((((60 : Int32) * a1) + a2) + x3) (aln (rf o 38)) (bnd (f_X11_leastOf o x3 μ) (fun r5 μ4 => (if (lg_cmp (μ.2 (rf o 38) ((((60 : Int32) * a1) + a2) + x3).toNatClampNeg) r5.toInt64) = 0 then lt (x3 + (1 : Int32)) (fun v6 => (f_X11_judge_b37 o a1 a2  n) v6 μ4) else some (x3, μ4)))) else some (((100 : Int32) + x3), μ)))))))
set_option maxHeartbeats 4000000 in
set_option maxRecDepth 100000 in
theorem w_X11_judge_b37 (l : Launch) {o : Nat} {a1 : Int32} {a2 : Int32} (ho : knd o = 9) {μ2 : Mem} {r : Int32}  (hX : XX E p m meth c cX11_judge 4 (some .int) s args RX11)  : ∀ (n : Nat) (x3 : Int32) (μ : Mem), f_X11_judge_b37 o a1 a2  n x3 μ = some (r, μ2) → ∀ (H : Heap) (locs : List Loc), MM E s μ H locs → ∀ ls : Array Slot, lv_has ls 4 [(0, .ref (eA E o)), (1, .int a1), (2, .int a2), (3, .int x3)] → W p l e (rmF 5 122) s m args below meth c H locs 0 0 (MQ below (QC E (some (.int r)) μ2) args s 0 0 (AA E)) (F0 m 37 ls []) := by
  obtain ⟨⟨hx, hb, hml, hown, hts⟩, hXr⟩ := id hX
  intro n
  induction n with
  | zero => intro x3 μ  hf; exact no_none hf
  | succ n ih =>
    intro x3 μ  hf H locs hM ls hl
    rw [f_X11_judge_b37] at hf
    have hK37 := ih
    clear ih
    refine lv_iload_n hx hb dX11_judge_37 rfl (lv_at hl 3 rfl) ?_
    refine lv_bipush (v := 36) hx hb dX11_judge_38 (by decide) ?_
    refine lv_icmp_ge (tgt := 108) hx hb dX11_judge_40 (by decide) (fun hc40 => ?_) (fun hc40 => ?_)
    · replace hf := it_t hf hc40
      refine lv_bipush (v := (-5)) hx hb dX11_judge_108 (by decide) ?_
      exact rt_i hX hM (congrArg (fun z => some (Value.int z)) (so_1 hf)) (so_2 hf) dX11_judge_110
    · replace hf := it_f hf hc40
      refine lv_aload_n hx hb dX11_judge_43 rfl (lv_at hl 0 rfl) ?_
      refine gf_9_36 hX hM ho q_7_17 dX11_judge_44 ?_
      refine lv_iload_n hx hb dX11_judge_47 rfl (lv_at hl 1 rfl) ?_
      replace hf := gA_some hf
      obtain ⟨hi, hf⟩ := hf
      refine ald hX hM (kr_9_36 ho) hi dX11_judge_48 ?_
      refine lv_if_lt (tgt := 72) hx hb dX11_judge_49 (by decide) (fun hc49 => ?_) (fun hc49 => ?_)
      · replace hf := it_t hf hc49
        refine lv_bipush (v := 100) hx hb dX11_judge_72 (by decide) ?_
        refine lv_iload_n hx hb dX11_judge_74 rfl (lv_at hl 3 rfl) ?_
        refine lv_iadd hx hb dX11_judge_75 ?_
        exact rt_i hX hM (congrArg (fun z => some (Value.int z)) (so_1 hf)) (so_2 hf) dX11_judge_76
      · replace hf := it_f hf hc49
        refine lv_iload_n hx hb dX11_judge_52 rfl (lv_at hl 2 rfl) ?_
        refine lv_if_lt (tgt := 72) hx hb dX11_judge_53 (by decide) (fun hc53 => ?_) (fun hc53 => ?_)
        · replace hf := it_t hf hc53
          refine lv_bipush (v := 100) hx hb dX11_judge_72 (by decide) ?_
          refine lv_iload_n hx hb dX11_judge_74 rfl (lv_at hl 3 rfl) ?_
          refine lv_iadd hx hb dX11_judge_75 ?_
          exact rt_i hX hM (congrArg (fun z => some (Value.int z)) (so_1 hf)) (so_2 hf) dX11_judge_76
        · replace hf := it_f hf hc53
          refine lv_iload_n hx hb dX11_judge_56 rfl (lv_at hl 2 rfl) ?_
          refine lv_i2l hx hb dX11_judge_57 rfl ?_
          refine lv_iload_n hx hb dX11_judge_58 rfl (lv_at hl 3 rfl) ?_
          refine lv_i2l hx hb dX11_judge_59 rfl ?_
          refine lv_ladd hx hb dX11_judge_60 ?_
          refine lv_aload_n hx hb dX11_judge_61 rfl (lv_at hl 0 rfl) ?_
          refine gf_9_37 hX hM ho q_7_18 dX11_judge_62 ?_
          refine lv_iload_n hx hb dX11_judge_65 rfl (lv_at hl 1 rfl) ?_
          replace hf := gA_some hf
          obtain ⟨hi, hf⟩ := hf
          refine ald hX hM (kr_9_37 ho) hi dX11_judge_66 ?_
          refine lv_i2l hx hb dX11_judge_67 rfl ?_
          refine W.lcmp hx hb dX11_judge_68 ?_
          refine lv_if_lt (tgt := 77) hx hb dX11_judge_69 (by decide) (fun hc69 => ?_) (fun hc69 => ?_)
          · replace hf := it_t hf hc69
            refine lv_aload_n hx hb dX11_judge_77 rfl (lv_at hl 0 rfl) ?_
            refine gf_9_38 hX hM ho q_7_19 dX11_judge_78 ?_
            refine lv_bipush (v := 60) hx hb dX11_judge_81 (by decide) ?_
            refine lv_iload_n hx hb dX11_judge_83 rfl (lv_at hl 1 rfl) ?_
            refine lv_imul hx hb dX11_judge_84 ?_
            refine lv_iload_n hx hb dX11_judge_85 rfl (lv_at hl 2 rfl) ?_
            refine lv_iadd hx hb dX11_judge_86 ?_
            refine lv_iload_n hx hb dX11_judge_87 rfl (lv_at hl 3 rfl) ?_
            refine lv_iadd hx hb dX11_judge_88 ?_
            replace hf := gA_some hf
            obtain ⟨hi, hf⟩ := hf
            refine ldl hX hM (kr_9_38 ho) hi dX11_judge_89 ?_
            refine lv_aload_n hx hb dX11_judge_90 rfl (lv_at hl 0 rfl) ?_
            refine lv_iload_n hx hb dX11_judge_91 rfl (lv_at hl 3 rfl) ?_
            replace hf := bnd_some hf
            obtain ⟨r5, μ4, h92, hf⟩ := hf
            refine cl_V (As := [.int x3]) (rest := [.long (μ.2 (rf o 38) ((((60 : Int32) * a1) + a2) + x3).toNatClampNeg)]) (st2 := [.int r5, .long (μ.2 (rf o 38) ((((60 : Int32) * a1) + a2) + x3).toNatClampNeg)]) (n := 1) hX hM (c_X11_leastOf l ho h92) mv_X11_leastOf q_19_16 ⟨rfl, rfl⟩ ⟨Nat.le_of_ble_eq_true rfl, Nat.le_of_ble_eq_true rfl⟩ ho (by decide) rfl rfl rfl hl.1 rfl (Nat.le_of_ble_eq_true rfl) dX11_judge_92 rfl (fun H locs hM => ?_)
            refine lv_i2l hx hb dX11_judge_95 rfl ?_
            refine W.lcmp hx hb dX11_judge_96 ?_
            refine lv_if_eq (tgt := 102) hx hb dX11_judge_97 (by decide) (fun hc97 => ?_) (fun hc97 => ?_)
            · replace hf := it_t hf hc97
              obtain ⟨v6, ev6⟩ : ∃ y : Int32, y = x3 + (1 : Int32) := ⟨_, rfl⟩
              replace hf := lt_e ev6 hf
              refine lv_iinc (v := v6) (lv' := [(3, .int v6), (0, .ref (eA E o)), (1, .int a1), (2, .int a2)]) hx hb dX11_judge_102 hl (k := 3) rfl (by rw [ev6]; rfl) (by decide) rfl (fun ls hl => ?_)
              refine lv_goto (tgt := 37) hx hb dX11_judge_105 (by decide) ?_
              exact hK37 _ _  hf _ _ hM _ (lv_sub hl [1, 2, 3, 0] rfl)
            · replace hf := it_f hf hc97
              refine lv_iload_n hx hb dX11_judge_100 rfl (lv_at hl 3 rfl) ?_
              exact rt_i hX hM (congrArg (fun z => some (Value.int z)) (so_1 hf)) (so_2 hf) dX11_judge_101
          · replace hf := it_f hf hc69
            refine lv_bipush (v := 100) hx hb dX11_judge_72 (by decide) ?_
            refine lv_iload_n hx hb dX11_judge_74 rfl (lv_at hl 3 rfl) ?_
            refine lv_iadd hx hb dX11_judge_75 ?_
            exact rt_i hX hM (congrArg (fun z => some (Value.int z)) (so_1 hf)) (so_2 hf) dX11_judge_76
def f_X11_judge_b31 (o : Nat) (a1 : Int32) (a2 : Int32)   (μ : Mem) : Option (Int32 × Mem) :=
  bnv (f_X11_seeks o μ) (fun μ3 => f_X11_judge_b37 o a1 a2  FU (0 : Int32) μ3)
set_option maxHeartbeats 4000000 in
set_option maxRecDepth 100000 in
theorem w_X11_judge_b31 (l : Launch) {o : Nat} {a1 : Int32} {a2 : Int32} (ho : knd o = 9) {μ2 : Mem} {r : Int32}    {μ : Mem} {H : Heap} {locs : List Loc} {ls : Array Slot}  (hf : f_X11_judge_b31 o a1 a2   μ = some (r, μ2)) (hX : XX E p m meth c cX11_judge 4 (some .int) s args RX11) (hM : MM E s μ H locs) (hl : lv_has ls 4 [(0, .ref (eA E o)), (1, .int a1), (2, .int a2)]) : W p l e (rmF 5 122) s m args below meth c H locs 0 0 (MQ below (QC E (some (.int r)) μ2) args s 0 0 (AA E)) (F0 m 31 ls []) := by
  obtain ⟨⟨hx, hb, hml, hown, hts⟩, hXr⟩ := id hX
  unfold f_X11_judge_b31 at hf
  refine lv_aload_n hx hb dX11_judge_31 rfl (lv_at hl 0 rfl) ?_
  replace hf := bnv_some hf
  obtain ⟨μ3, h32, hf⟩ := hf
  refine cl_V (As := []) (rest := []) (st2 := []) (n := 0) hX hM (c_X11_seeks l ho h32) mv_X11_seeks q_17_23 ⟨rfl, rfl⟩ ⟨Nat.le_of_ble_eq_true rfl, Nat.le_of_ble_eq_true rfl⟩ ho (by decide) rfl rfl rfl hl.1 rfl (Nat.le_of_ble_eq_true rfl) dX11_judge_32 rfl (fun H locs hM => ?_)
  refine lv_iconst (v := 0) hx hb dX11_judge_35 (by decide) ?_
  refine lv_istore_n (lv' := [(3, .int (0 : Int32)), (0, .ref (eA E o)), (1, .int a1), (2, .int a2)]) hx hb dX11_judge_36 rfl hl (by decide) rfl (fun ls hl => ?_)
  exact w_X11_judge_b37 l ho hX  FU _ _  hf _ _ hM _ (lv_sub hl [1, 2, 3, 0] rfl)
def f_X11_judge (o : Nat) (a1 : Int32) (a2 : Int32) (μ : Mem) : Option (Int32 × Mem) :=
  bnd (f_X11_isTape a1 μ) (fun r2 μ1 => (if r2 = 0 then some ((-1 : Int32), μ1) else gA a1 (aln (rf o 36)) ((if (μ1.1 (rf o 36) a1.toNatClampNeg) < 0 then f_X11_judge_b31 o a1 a2   μ1 else gA a1 (aln (rf o 36)) ((if (μ1.1 (rf o 36) a1.toNatClampNeg) = (2 : Int32) then f_X11_judge_b31 o a1 a2   μ1 else some ((-12 : Int32), μ1)))))))
set_option maxHeartbeats 4000000 in
set_option maxRecDepth 100000 in
theorem w_X11_judge (l : Launch) {o : Nat} {a1 : Int32} {a2 : Int32} (ho : knd o = 9) {μ μ2 : Mem} {r : Int32} {H : Heap} {locs : List Loc} {ls : Array Slot} (hf : f_X11_judge o a1 a2 μ = some (r, μ2)) (hX : XX E p m meth c cX11_judge 4 (some .int) s args RX11) (hM : MM E s μ H locs) (hl : lv_has ls 4 [(0, .ref (eA E o)), (1, .int a1), (2, .int a2)]) : W p l e (rmF 5 122) s m args below meth c H locs 0 0 (MQ below (QC E (some (.int r)) μ2) args s 0 0 (AA E)) (F0 m 0 ls []) := by
  obtain ⟨⟨hx, hb, hml, hown, hts⟩, hXr⟩ := id hX
  unfold f_X11_judge at hf
  refine lv_iload_n hx hb dX11_judge_0 rfl (lv_at hl 1 rfl) ?_
  replace hf := bnd_some hf
  obtain ⟨r2, μ1, h1, hf⟩ := hf
  refine cl_S (As := [.int a1]) (rest := []) (st2 := [.int r2]) (n := 1) hX hM (c_X11_isTape l  h1) mt_X11_isTape q_47_0 ⟨rfl, rfl⟩ ⟨Nat.le_of_ble_eq_true rfl, Nat.le_of_ble_eq_true rfl⟩ rfl hl.1 rfl (Nat.le_of_ble_eq_true rfl) dX11_judge_1 rfl (fun H locs hM => ?_)
  refine lv_if_ne (tgt := 9) hx hb dX11_judge_4 (by decide) (fun hc4 => ?_) (fun hc4 => ?_)
  · replace hf := it_f hf hc4
    refine lv_aload_n hx hb dX11_judge_9 rfl (lv_at hl 0 rfl) ?_
    refine gf_9_36 hX hM ho q_7_17 dX11_judge_10 ?_
    refine lv_iload_n hx hb dX11_judge_13 rfl (lv_at hl 1 rfl) ?_
    replace hf := gA_some hf
    obtain ⟨hi, hf⟩ := hf
    refine ald hX hM (kr_9_36 ho) hi dX11_judge_14 ?_
    refine lv_if_lt (tgt := 31) hx hb dX11_judge_15 (by decide) (fun hc15 => ?_) (fun hc15 => ?_)
    · replace hf := it_t hf hc15
      exact w_X11_judge_b31 l ho   hf hX hM (lv_sub hl [0, 1, 2] rfl)
    · replace hf := it_f hf hc15
      refine lv_aload_n hx hb dX11_judge_18 rfl (lv_at hl 0 rfl) ?_
      refine gf_9_36 hX hM ho q_7_17 dX11_judge_19 ?_
      refine lv_iload_n hx hb dX11_judge_22 rfl (lv_at hl 1 rfl) ?_
      replace hf := gA_some hf
      obtain ⟨hi, hf⟩ := hf
      refine ald hX hM (kr_9_36 ho) hi dX11_judge_23 ?_
      refine lv_iconst (v := 2) hx hb dX11_judge_24 (by decide) ?_
      refine lv_icmp_eq (tgt := 31) hx hb dX11_judge_25 (by decide) (fun hc25 => ?_) (fun hc25 => ?_)
      · replace hf := it_t hf hc25
        exact w_X11_judge_b31 l ho   hf hX hM (lv_sub hl [0, 1, 2] rfl)
      · replace hf := it_f hf hc25
        refine lv_bipush (v := (-12)) hx hb dX11_judge_28 (by decide) ?_
        exact rt_i hX hM (congrArg (fun z => some (Value.int z)) (so_1 hf)) (so_2 hf) dX11_judge_30
  · replace hf := it_t hf hc4
    refine lv_iconst (v := (-1)) hx hb dX11_judge_7 (by decide) ?_
    exact rt_i hX hM (congrArg (fun z => some (Value.int z)) (so_1 hf)) (so_2 hf) dX11_judge_8
theorem c_X11_judge (l : Launch) {o : Nat} {a1 : Int32} {a2 : Int32} (ho : knd o = 9) {μ μ2 : Mem} {r : Int32} (hf : f_X11_judge o a1 a2 μ = some (r, μ2)) : CT E l yX11_judge cX11_judge 4 (some .int) (rmF 5 122) [.ref (eA E o), .int a1, .int a2] μ (some (.int r)) μ2 := CT.of (show plainFor yX11_judge = true by decide +kernel) (Nat.le_of_ble_eq_true rfl) rfl (fun _ _ _ _ _ _ _ _ hX hM hl => w_X11_judge l ho hf hX hM hl)
theorem mv_X11_judge : MV yX11_judge cX11_judge 4 (some .int) RX11 2 := ⟨q_46_23, q_46_21, q_46_22, q_1_5, by decide +kernel⟩
def f_X11_tape_b67 (o : Nat) (a1 : Int32) (a2 : Int32) (a3 : Int32)  : Nat → Int32 → Mem → Option (Int32 × Mem)
  | 0, _, _ => none
  | n + 1, x4, μ =>
    (if (60 : Int32) ≤ x4 then some ((1 : Int32), μ) else gA (((60 : Int32) * a1) + x4) (aln (rf o 38)) (lt (sL μ (rf o 38) (((60 : Int32) * a1) + x4).toNatClampNeg (0 : Int64)) (fun μ7 => lt (x4 + (1 : Int32)) (fun v8 => (f_X11_tape_b67 o a1 a2 a3  n) v8 μ7))))
set_option maxHeartbeats 4000000 in
set_option maxRecDepth 100000 in
theorem w_X11_tape_b67 (l : Launch) {o : Nat} {a1 : Int32} {a2 : Int32} {a3 : Int32} (ho : knd o = 9) {μ2 : Mem} {r : Int32}  (hX : XX E p m meth c cX11_tape 5 (some .int) s args RX11)  : ∀ (n : Nat) (x4 : Int32) (μ : Mem), f_X11_tape_b67 o a1 a2 a3  n x4 μ = some (r, μ2) → ∀ (H : Heap) (locs : List Loc), MM E s μ H locs → ∀ ls : Array Slot, lv_has ls 5 [(0, .ref (eA E o)), (1, .int a1), (2, .int a2), (3, .int a3), (4, .int x4)] → W p l e (rmF 2 42) s m args below meth c H locs 0 0 (MQ below (QC E (some (.int r)) μ2) args s 0 0 (AA E)) (F0 m 67 ls []) := by
  obtain ⟨⟨hx, hb, hml, hown, hts⟩, hXr⟩ := id hX
  intro n
  induction n with
  | zero => intro x4 μ  hf; exact no_none hf
  | succ n ih =>
    intro x4 μ  hf H locs hM ls hl
    rw [f_X11_tape_b67] at hf
    have hK67 := ih
    clear ih
    refine lv_iload hx hb dX11_tape_67 (lv_at hl 4 rfl) ?_
    refine lv_bipush (v := 60) hx hb dX11_tape_69 (by decide) ?_
    refine lv_icmp_ge (tgt := 93) hx hb dX11_tape_71 (by decide) (fun hc71 => ?_) (fun hc71 => ?_)
    · replace hf := it_t hf hc71
      refine lv_iconst (v := 1) hx hb dX11_tape_93 (by decide) ?_
      exact rt_i hX hM (congrArg (fun z => some (Value.int z)) (so_1 hf)) (so_2 hf) dX11_tape_94
    · replace hf := it_f hf hc71
      refine lv_aload_n hx hb dX11_tape_74 rfl (lv_at hl 0 rfl) ?_
      refine gf_9_38 hX hM ho q_7_19 dX11_tape_75 ?_
      refine lv_bipush (v := 60) hx hb dX11_tape_78 (by decide) ?_
      refine lv_iload_n hx hb dX11_tape_80 rfl (lv_at hl 1 rfl) ?_
      refine lv_imul hx hb dX11_tape_81 ?_
      refine lv_iload hx hb dX11_tape_82 (lv_at hl 4 rfl) ?_
      refine lv_iadd hx hb dX11_tape_84 ?_
      refine lv_lconst (v := 0) hx hb dX11_tape_85 (by decide) ?_
      replace hf := gA_some hf
      obtain ⟨hi, hf⟩ := hf
      refine lst hX hM (kr_9_38 ho) hi dX11_tape_86 (fun μ7 H locs eμ7 hM => ?_)
      replace hf := lt_e eμ7 hf
      obtain ⟨v8, ev8⟩ : ∃ y : Int32, y = x4 + (1 : Int32) := ⟨_, rfl⟩
      replace hf := lt_e ev8 hf
      refine lv_iinc (v := v8) (lv' := [(4, .int v8), (0, .ref (eA E o)), (1, .int a1), (2, .int a2), (3, .int a3)]) hx hb dX11_tape_87 hl (k := 4) rfl (by rw [ev8]; rfl) (by decide) rfl (fun ls hl => ?_)
      refine lv_goto (tgt := 67) hx hb dX11_tape_90 (by decide) ?_
      exact hK67 _ _  hf _ _ hM _ (lv_sub hl [1, 2, 3, 4, 0] rfl)
def f_X11_tape_b42 (o : Nat) (a1 : Int32) (a2 : Int32) (a3 : Int32)   (μ : Mem) : Option (Int32 × Mem) :=
  gA a1 (aln (rf o 36)) (lt (sI μ (rf o 36) a1.toNatClampNeg a2) (fun μ5 => (if (0 : Int32) ≤ a2 then gA a1 (aln (rf o 37)) (lt (sI μ5 (rf o 37) a1.toNatClampNeg a3) (fun μ6 => f_X11_tape_b67 o a1 a2 a3  FU (0 : Int32) μ6)) else gA a1 (aln (rf o 37)) (lt (sI μ5 (rf o 37) a1.toNatClampNeg (0 : Int32)) (fun μ9 => f_X11_tape_b67 o a1 a2 a3  FU (0 : Int32) μ9)))))
set_option maxHeartbeats 4000000 in
set_option maxRecDepth 100000 in
theorem w_X11_tape_b42 (l : Launch) {o : Nat} {a1 : Int32} {a2 : Int32} {a3 : Int32} (ho : knd o = 9) {μ2 : Mem} {r : Int32}    {μ : Mem} {H : Heap} {locs : List Loc} {ls : Array Slot}  (hf : f_X11_tape_b42 o a1 a2 a3   μ = some (r, μ2)) (hX : XX E p m meth c cX11_tape 5 (some .int) s args RX11) (hM : MM E s μ H locs) (hl : lv_has ls 5 [(0, .ref (eA E o)), (1, .int a1), (2, .int a2), (3, .int a3)]) : W p l e (rmF 2 42) s m args below meth c H locs 0 0 (MQ below (QC E (some (.int r)) μ2) args s 0 0 (AA E)) (F0 m 42 ls []) := by
  obtain ⟨⟨hx, hb, hml, hown, hts⟩, hXr⟩ := id hX
  unfold f_X11_tape_b42 at hf
  refine lv_aload_n hx hb dX11_tape_42 rfl (lv_at hl 0 rfl) ?_
  refine gf_9_36 hX hM ho q_7_17 dX11_tape_43 ?_
  refine lv_iload_n hx hb dX11_tape_46 rfl (lv_at hl 1 rfl) ?_
  refine lv_iload_n hx hb dX11_tape_47 rfl (lv_at hl 2 rfl) ?_
  replace hf := gA_some hf
  obtain ⟨hi, hf⟩ := hf
  refine ast hX hM (kr_9_36 ho) hi dX11_tape_48 (fun μ5 H locs eμ5 hM => ?_)
  replace hf := lt_e eμ5 hf
  refine lv_aload_n hx hb dX11_tape_49 rfl (lv_at hl 0 rfl) ?_
  refine gf_9_37 hX hM ho q_7_18 dX11_tape_50 ?_
  refine lv_iload_n hx hb dX11_tape_53 rfl (lv_at hl 1 rfl) ?_
  refine lv_iload_n hx hb dX11_tape_54 rfl (lv_at hl 2 rfl) ?_
  refine lv_if_ge (tgt := 62) hx hb dX11_tape_55 (by decide) (fun hc55 => ?_) (fun hc55 => ?_)
  · replace hf := it_t hf hc55
    refine lv_iload_n hx hb dX11_tape_62 rfl (lv_at hl 3 rfl) ?_
    replace hf := gA_some hf
    obtain ⟨hi, hf⟩ := hf
    refine ast hX hM (kr_9_37 ho) hi dX11_tape_63 (fun μ6 H locs eμ6 hM => ?_)
    replace hf := lt_e eμ6 hf
    refine lv_iconst (v := 0) hx hb dX11_tape_64 (by decide) ?_
    refine lv_istore (lv' := [(4, .int (0 : Int32)), (0, .ref (eA E o)), (1, .int a1), (2, .int a2), (3, .int a3)]) hx hb dX11_tape_65 hl (by decide) rfl (fun ls hl => ?_)
    exact w_X11_tape_b67 l ho hX  FU _ _  hf _ _ hM _ (lv_sub hl [1, 2, 3, 4, 0] rfl)
  · replace hf := it_f hf hc55
    refine lv_iconst (v := 0) hx hb dX11_tape_58 (by decide) ?_
    refine lv_goto (tgt := 63) hx hb dX11_tape_59 (by decide) ?_
    replace hf := gA_some hf
    obtain ⟨hi, hf⟩ := hf
    refine ast hX hM (kr_9_37 ho) hi dX11_tape_63 (fun μ9 H locs eμ9 hM => ?_)
    replace hf := lt_e eμ9 hf
    refine lv_iconst (v := 0) hx hb dX11_tape_64 (by decide) ?_
    refine lv_istore (lv' := [(4, .int (0 : Int32)), (0, .ref (eA E o)), (1, .int a1), (2, .int a2), (3, .int a3)]) hx hb dX11_tape_65 hl (by decide) rfl (fun ls hl => ?_)
    exact w_X11_tape_b67 l ho hX  FU _ _  hf _ _ hM _ (lv_sub hl [1, 2, 3, 4, 0] rfl)
def f_X11_tape_b31 (o : Nat) (a1 : Int32) (a2 : Int32) (a3 : Int32)   (μ : Mem) : Option (Int32 × Mem) :=
  (if a2 < 0 then f_X11_tape_b42 o a1 a2 a3   μ else (if (0 : Int32) ≤ a3 then f_X11_tape_b42 o a1 a2 a3   μ else some ((-14 : Int32), μ)))
set_option maxHeartbeats 4000000 in
set_option maxRecDepth 100000 in
theorem w_X11_tape_b31 (l : Launch) {o : Nat} {a1 : Int32} {a2 : Int32} {a3 : Int32} (ho : knd o = 9) {μ2 : Mem} {r : Int32}    {μ : Mem} {H : Heap} {locs : List Loc} {ls : Array Slot}  (hf : f_X11_tape_b31 o a1 a2 a3   μ = some (r, μ2)) (hX : XX E p m meth c cX11_tape 5 (some .int) s args RX11) (hM : MM E s μ H locs) (hl : lv_has ls 5 [(0, .ref (eA E o)), (1, .int a1), (2, .int a2), (3, .int a3)]) : W p l e (rmF 2 42) s m args below meth c H locs 0 0 (MQ below (QC E (some (.int r)) μ2) args s 0 0 (AA E)) (F0 m 31 ls []) := by
  obtain ⟨⟨hx, hb, hml, hown, hts⟩, hXr⟩ := id hX
  unfold f_X11_tape_b31 at hf
  refine lv_iload_n hx hb dX11_tape_31 rfl (lv_at hl 2 rfl) ?_
  refine lv_if_lt (tgt := 42) hx hb dX11_tape_32 (by decide) (fun hc32 => ?_) (fun hc32 => ?_)
  · replace hf := it_t hf hc32
    exact w_X11_tape_b42 l ho   hf hX hM (lv_sub hl [0, 1, 2, 3] rfl)
  · replace hf := it_f hf hc32
    refine lv_iload_n hx hb dX11_tape_35 rfl (lv_at hl 3 rfl) ?_
    refine lv_if_ge (tgt := 42) hx hb dX11_tape_36 (by decide) (fun hc36 => ?_) (fun hc36 => ?_)
    · replace hf := it_t hf hc36
      exact w_X11_tape_b42 l ho   hf hX hM (lv_sub hl [0, 1, 2, 3] rfl)
    · replace hf := it_f hf hc36
      refine lv_bipush (v := (-14)) hx hb dX11_tape_39 (by decide) ?_
      exact rt_i hX hM (congrArg (fun z => some (Value.int z)) (so_1 hf)) (so_2 hf) dX11_tape_41
def f_X11_tape (o : Nat) (a1 : Int32) (a2 : Int32) (a3 : Int32) (μ : Mem) : Option (Int32 × Mem) :=
  bnd (f_X11_isTape a1 μ) (fun r2 μ1 => (if r2 = 0 then some ((-1 : Int32), μ1) else bnd (f_X11_in a2 (-1 : Int32) (4 : Int32) μ1) (fun r4 μ3 => (if r4 = 0 then some ((-2 : Int32), μ3) else (if a2 < 0 then f_X11_tape_b31 o a1 a2 a3   μ3 else (if a3 ≤ (60 : Int32) then f_X11_tape_b31 o a1 a2 a3   μ3 else some ((-2 : Int32), μ3)))))))
set_option maxHeartbeats 4000000 in
set_option maxRecDepth 100000 in
theorem w_X11_tape (l : Launch) {o : Nat} {a1 : Int32} {a2 : Int32} {a3 : Int32} (ho : knd o = 9) {μ μ2 : Mem} {r : Int32} {H : Heap} {locs : List Loc} {ls : Array Slot} (hf : f_X11_tape o a1 a2 a3 μ = some (r, μ2)) (hX : XX E p m meth c cX11_tape 5 (some .int) s args RX11) (hM : MM E s μ H locs) (hl : lv_has ls 5 [(0, .ref (eA E o)), (1, .int a1), (2, .int a2), (3, .int a3)]) : W p l e (rmF 2 42) s m args below meth c H locs 0 0 (MQ below (QC E (some (.int r)) μ2) args s 0 0 (AA E)) (F0 m 0 ls []) := by
  obtain ⟨⟨hx, hb, hml, hown, hts⟩, hXr⟩ := id hX
  unfold f_X11_tape at hf
  refine lv_iload_n hx hb dX11_tape_0 rfl (lv_at hl 1 rfl) ?_
  replace hf := bnd_some hf
  obtain ⟨r2, μ1, h1, hf⟩ := hf
  refine cl_S (As := [.int a1]) (rest := []) (st2 := [.int r2]) (n := 1) hX hM (c_X11_isTape l  h1) mt_X11_isTape q_47_0 ⟨rfl, rfl⟩ ⟨Nat.le_of_ble_eq_true rfl, Nat.le_of_ble_eq_true rfl⟩ rfl hl.1 rfl (Nat.le_of_ble_eq_true rfl) dX11_tape_1 rfl (fun H locs hM => ?_)
  refine lv_if_ne (tgt := 9) hx hb dX11_tape_4 (by decide) (fun hc4 => ?_) (fun hc4 => ?_)
  · replace hf := it_f hf hc4
    refine lv_iload_n hx hb dX11_tape_9 rfl (lv_at hl 2 rfl) ?_
    refine lv_iconst (v := (-1)) hx hb dX11_tape_10 (by decide) ?_
    refine lv_iconst (v := 4) hx hb dX11_tape_11 (by decide) ?_
    replace hf := bnd_some hf
    obtain ⟨r4, μ3, h12, hf⟩ := hf
    refine cl_S (As := [.int a2, .int (-1 : Int32), .int (4 : Int32)]) (rest := []) (st2 := [.int r4]) (n := 3) hX hM (c_X11_in l  h12) mt_X11_in q_8_23 ⟨rfl, rfl⟩ ⟨Nat.le_of_ble_eq_true rfl, Nat.le_of_ble_eq_true rfl⟩ rfl hl.1 rfl (Nat.le_of_ble_eq_true rfl) dX11_tape_12 rfl (fun H locs hM => ?_)
    refine lv_if_eq (tgt := 28) hx hb dX11_tape_15 (by decide) (fun hc15 => ?_) (fun hc15 => ?_)
    · replace hf := it_t hf hc15
      refine lv_bipush (v := (-2)) hx hb dX11_tape_28 (by decide) ?_
      exact rt_i hX hM (congrArg (fun z => some (Value.int z)) (so_1 hf)) (so_2 hf) dX11_tape_30
    · replace hf := it_f hf hc15
      refine lv_iload_n hx hb dX11_tape_18 rfl (lv_at hl 2 rfl) ?_
      refine lv_if_lt (tgt := 31) hx hb dX11_tape_19 (by decide) (fun hc19 => ?_) (fun hc19 => ?_)
      · replace hf := it_t hf hc19
        exact w_X11_tape_b31 l ho   hf hX hM (lv_sub hl [0, 1, 2, 3] rfl)
      · replace hf := it_f hf hc19
        refine lv_iload_n hx hb dX11_tape_22 rfl (lv_at hl 3 rfl) ?_
        refine lv_bipush (v := 60) hx hb dX11_tape_23 (by decide) ?_
        refine lv_icmp_le (tgt := 31) hx hb dX11_tape_25 (by decide) (fun hc25 => ?_) (fun hc25 => ?_)
        · replace hf := it_t hf hc25
          exact w_X11_tape_b31 l ho   hf hX hM (lv_sub hl [0, 1, 2, 3] rfl)
        · replace hf := it_f hf hc25
          refine lv_bipush (v := (-2)) hx hb dX11_tape_28 (by decide) ?_
          exact rt_i hX hM (congrArg (fun z => some (Value.int z)) (so_1 hf)) (so_2 hf) dX11_tape_30
  · replace hf := it_t hf hc4
    refine lv_iconst (v := (-1)) hx hb dX11_tape_7 (by decide) ?_
    exact rt_i hX hM (congrArg (fun z => some (Value.int z)) (so_1 hf)) (so_2 hf) dX11_tape_8
theorem c_X11_tape (l : Launch) {o : Nat} {a1 : Int32} {a2 : Int32} {a3 : Int32} (ho : knd o = 9) {μ μ2 : Mem} {r : Int32} (hf : f_X11_tape o a1 a2 a3 μ = some (r, μ2)) : CT E l yX11_tape cX11_tape 5 (some .int) (rmF 2 42) [.ref (eA E o), .int a1, .int a2, .int a3] μ (some (.int r)) μ2 := CT.of (show plainFor yX11_tape = true by decide +kernel) (Nat.le_of_ble_eq_true rfl) rfl (fun _ _ _ _ _ _ _ _ hX hM hl => w_X11_tape l ho hf hX hM hl)
theorem mv_X11_tape : MV yX11_tape cX11_tape 5 (some .int) RX11 3 := ⟨q_49_9, q_49_7, q_49_8, q_1_5, by decide +kernel⟩
def f_X11_narrowed (a0 : Int32) (a1 : Int64) (μ : Mem) : Option (Int64 × Mem) :=
  (if a0 = (0 : Int32) then some (a1.toInt32.toInt8.toInt32.toInt64, μ) else (if a0 = (1 : Int32) then some (a1.toInt32.toInt16.toInt32.toInt64, μ) else (if a0 = (2 : Int32) then some (a1.toInt32.toInt64, μ) else (if a0 = (3 : Int32) then some (a1, μ) else (if (lg_cmp a1 (0 : Int64)) = 0 then some ((0 : Int64), μ) else some ((1 : Int64), μ))))))
set_option maxHeartbeats 4000000 in
set_option maxRecDepth 100000 in
theorem w_X11_narrowed (l : Launch) {a0 : Int32} {a1 : Int64}  {μ μ2 : Mem} {r : Int64} {H : Heap} {locs : List Loc} {ls : Array Slot} (hf : f_X11_narrowed a0 a1 μ = some (r, μ2)) (hX : XX E p m meth c cX11_narrowed 3 (some .long) s args RX11) (hM : MM E s μ H locs) (hl : lv_has ls 3 [(0, .int a0), (1, .long a1)]) : W p l e (rmF 0 0) s m args below meth c H locs 0 0 (MQ below (QC E (some (.long r)) μ2) args s 0 0 (AA E)) (F0 m 0 ls []) := by
  obtain ⟨⟨hx, hb, hml, hown, hts⟩, hXr⟩ := id hX
  unfold f_X11_narrowed at hf
  refine lv_iload_n hx hb dX11_narrowed_0 rfl (lv_at hl 0 rfl) ?_
  by_cases hs1_0 : a0 = (0 : Int32)
  · replace hf := it_t hf hs1_0
    refine lv_tableIn (off := 31) (tgt := 32) hx hb dX11_narrowed_1 (by rw [hs1_0]; decide) (by rw [hs1_0]; decide) (by rw [hs1_0]; rfl) (by decide) ?_
    refine lv_lload_n hx hb dX11_narrowed_32 rfl (lv_at hl 1 rfl) ?_
    refine lv_l2i hx hb dX11_narrowed_33 rfl ?_
    refine lv_i2b hx hb dX11_narrowed_34 rfl ?_
    refine lv_i2l hx hb dX11_narrowed_35 rfl ?_
    exact rt_l hX hM (congrArg (fun z => some (Value.long z)) (so_1 hf)) (so_2 hf) dX11_narrowed_36
  · replace hf := it_f hf hs1_0
    by_cases hs1_1 : a0 = (1 : Int32)
    · replace hf := it_t hf hs1_1
      refine lv_tableIn (off := 36) (tgt := 37) hx hb dX11_narrowed_1 (by rw [hs1_1]; decide) (by rw [hs1_1]; decide) (by rw [hs1_1]; rfl) (by decide) ?_
      refine lv_lload_n hx hb dX11_narrowed_37 rfl (lv_at hl 1 rfl) ?_
      refine lv_l2i hx hb dX11_narrowed_38 rfl ?_
      refine lv_i2s hx hb dX11_narrowed_39 rfl ?_
      refine lv_i2l hx hb dX11_narrowed_40 rfl ?_
      exact rt_l hX hM (congrArg (fun z => some (Value.long z)) (so_1 hf)) (so_2 hf) dX11_narrowed_41
    · replace hf := it_f hf hs1_1
      by_cases hs1_2 : a0 = (2 : Int32)
      · replace hf := it_t hf hs1_2
        refine lv_tableIn (off := 41) (tgt := 42) hx hb dX11_narrowed_1 (by rw [hs1_2]; decide) (by rw [hs1_2]; decide) (by rw [hs1_2]; rfl) (by decide) ?_
        refine lv_lload_n hx hb dX11_narrowed_42 rfl (lv_at hl 1 rfl) ?_
        refine lv_l2i hx hb dX11_narrowed_43 rfl ?_
        refine lv_i2l hx hb dX11_narrowed_44 rfl ?_
        exact rt_l hX hM (congrArg (fun z => some (Value.long z)) (so_1 hf)) (so_2 hf) dX11_narrowed_45
      · replace hf := it_f hf hs1_2
        by_cases hs1_3 : a0 = (3 : Int32)
        · replace hf := it_t hf hs1_3
          refine lv_tableIn (off := 45) (tgt := 46) hx hb dX11_narrowed_1 (by rw [hs1_3]; decide) (by rw [hs1_3]; decide) (by rw [hs1_3]; rfl) (by decide) ?_
          refine lv_lload_n hx hb dX11_narrowed_46 rfl (lv_at hl 1 rfl) ?_
          exact rt_l hX hM (congrArg (fun z => some (Value.long z)) (so_1 hf)) (so_2 hf) dX11_narrowed_47
        · replace hf := it_f hf hs1_3
          have hq : (a0).toInt < 0 ∨ 3 < (a0).toInt := by
            have n0 := lv_neT hs1_0 (a := 0) rfl
            have n1 := lv_neT hs1_1 (a := 1) rfl
            have n2 := lv_neT hs1_2 (a := 2) rfl
            have n3 := lv_neT hs1_3 (a := 3) rfl
            omega
          refine lv_tableOut (tgt := 48) hx hb dX11_narrowed_1 hq (by decide) ?_
          refine lv_lload_n hx hb dX11_narrowed_48 rfl (lv_at hl 1 rfl) ?_
          refine lv_lconst (v := 0) hx hb dX11_narrowed_49 (by decide) ?_
          refine W.lcmp hx hb dX11_narrowed_50 ?_
          refine lv_if_eq (tgt := 58) hx hb dX11_narrowed_51 (by decide) (fun hc51 => ?_) (fun hc51 => ?_)
          · replace hf := it_t hf hc51
            refine lv_lconst (v := 0) hx hb dX11_narrowed_58 (by decide) ?_
            exact rt_l hX hM (congrArg (fun z => some (Value.long z)) (so_1 hf)) (so_2 hf) dX11_narrowed_59
          · replace hf := it_f hf hc51
            refine lv_lconst (v := 1) hx hb dX11_narrowed_54 (by decide) ?_
            refine lv_goto (tgt := 59) hx hb dX11_narrowed_55 (by decide) ?_
            exact rt_l hX hM (congrArg (fun z => some (Value.long z)) (so_1 hf)) (so_2 hf) dX11_narrowed_59
theorem c_X11_narrowed (l : Launch) {a0 : Int32} {a1 : Int64}  {μ μ2 : Mem} {r : Int64} (hf : f_X11_narrowed a0 a1 μ = some (r, μ2)) : CT E l yX11_narrowed cX11_narrowed 3 (some .long) (rmF 0 0) [.int a0, .long a1] μ (some (.long r)) μ2 := CT.of (show plainFor yX11_narrowed = true by decide +kernel) (Nat.le_of_ble_eq_true rfl) rfl (fun _ _ _ _ _ _ _ _ hX hM hl => w_X11_narrowed l  hf hX hM hl)
theorem mt_X11_narrowed : MT yX11_narrowed cX11_narrowed 3 (some .long) 2 := ⟨q_50_4, q_50_3, q_1_5, by decide +kernel⟩
def f_X11_item (o : Nat) (a1 : Int32) (a2 : Int32) (a3 : Int64) (μ : Mem) : Option (Int32 × Mem) :=
  bnd (f_X11_isTape a1 μ) (fun r2 μ1 => (if r2 = 0 then some ((-1 : Int32), μ1) else gA a1 (aln (rf o 36)) ((if (0 : Int32) ≤ (μ1.1 (rf o 36) a1.toNatClampNeg) then gA a1 (aln (rf o 37)) (bnd (f_X11_in a2 (0 : Int32) ((μ1.1 (rf o 37) a1.toNatClampNeg) - (1 : Int32)) μ1) (fun r4 μ3 => (if r4 = 0 then some ((-13 : Int32), μ3) else gA a1 (aln (rf o 36)) (bnd (f_X11_narrowed (μ3.1 (rf o 36) a1.toNatClampNeg) a3 μ3) (fun r6 μ5 => gA (((60 : Int32) * a1) + a2) (aln (rf o 38)) (lt (sL μ5 (rf o 38) (((60 : Int32) * a1) + a2).toNatClampNeg r6) (fun μ7 => some ((1 : Int32), μ7)))))))) else some ((-11 : Int32), μ1)))))
set_option maxHeartbeats 4000000 in
set_option maxRecDepth 100000 in
theorem w_X11_item (l : Launch) {o : Nat} {a1 : Int32} {a2 : Int32} {a3 : Int64} (ho : knd o = 9) {μ μ2 : Mem} {r : Int32} {H : Heap} {locs : List Loc} {ls : Array Slot} (hf : f_X11_item o a1 a2 a3 μ = some (r, μ2)) (hX : XX E p m meth c cX11_item 5 (some .int) s args RX11) (hM : MM E s μ H locs) (hl : lv_has ls 5 [(0, .ref (eA E o)), (1, .int a1), (2, .int a2), (3, .long a3)]) : W p l e (rmF 2 42) s m args below meth c H locs 0 0 (MQ below (QC E (some (.int r)) μ2) args s 0 0 (AA E)) (F0 m 0 ls []) := by
  obtain ⟨⟨hx, hb, hml, hown, hts⟩, hXr⟩ := id hX
  unfold f_X11_item at hf
  refine lv_iload_n hx hb dX11_item_0 rfl (lv_at hl 1 rfl) ?_
  replace hf := bnd_some hf
  obtain ⟨r2, μ1, h1, hf⟩ := hf
  refine cl_S (As := [.int a1]) (rest := []) (st2 := [.int r2]) (n := 1) hX hM (c_X11_isTape l  h1) mt_X11_isTape q_47_0 ⟨rfl, rfl⟩ ⟨Nat.le_of_ble_eq_true rfl, Nat.le_of_ble_eq_true rfl⟩ rfl hl.1 rfl (Nat.le_of_ble_eq_true rfl) dX11_item_1 rfl (fun H locs hM => ?_)
  refine lv_if_ne (tgt := 9) hx hb dX11_item_4 (by decide) (fun hc4 => ?_) (fun hc4 => ?_)
  · replace hf := it_f hf hc4
    refine lv_aload_n hx hb dX11_item_9 rfl (lv_at hl 0 rfl) ?_
    refine gf_9_36 hX hM ho q_7_17 dX11_item_10 ?_
    refine lv_iload_n hx hb dX11_item_13 rfl (lv_at hl 1 rfl) ?_
    replace hf := gA_some hf
    obtain ⟨hi, hf⟩ := hf
    refine ald hX hM (kr_9_36 ho) hi dX11_item_14 ?_
    refine lv_if_ge (tgt := 21) hx hb dX11_item_15 (by decide) (fun hc15 => ?_) (fun hc15 => ?_)
    · replace hf := it_t hf hc15
      refine lv_iload_n hx hb dX11_item_21 rfl (lv_at hl 2 rfl) ?_
      refine lv_iconst (v := 0) hx hb dX11_item_22 (by decide) ?_
      refine lv_aload_n hx hb dX11_item_23 rfl (lv_at hl 0 rfl) ?_
      refine gf_9_37 hX hM ho q_7_18 dX11_item_24 ?_
      refine lv_iload_n hx hb dX11_item_27 rfl (lv_at hl 1 rfl) ?_
      replace hf := gA_some hf
      obtain ⟨hi, hf⟩ := hf
      refine ald hX hM (kr_9_37 ho) hi dX11_item_28 ?_
      refine lv_iconst (v := 1) hx hb dX11_item_29 (by decide) ?_
      refine lv_isub hx hb dX11_item_30 ?_
      replace hf := bnd_some hf
      obtain ⟨r4, μ3, h31, hf⟩ := hf
      refine cl_S (As := [.int a2, .int (0 : Int32), .int ((μ1.1 (rf o 37) a1.toNatClampNeg) - (1 : Int32))]) (rest := []) (st2 := [.int r4]) (n := 3) hX hM (c_X11_in l  h31) mt_X11_in q_8_23 ⟨rfl, rfl⟩ ⟨Nat.le_of_ble_eq_true rfl, Nat.le_of_ble_eq_true rfl⟩ rfl hl.1 rfl (Nat.le_of_ble_eq_true rfl) dX11_item_31 rfl (fun H locs hM => ?_)
      refine lv_if_ne (tgt := 40) hx hb dX11_item_34 (by decide) (fun hc34 => ?_) (fun hc34 => ?_)
      · replace hf := it_f hf hc34
        refine lv_aload_n hx hb dX11_item_40 rfl (lv_at hl 0 rfl) ?_
        refine gf_9_38 hX hM ho q_7_19 dX11_item_41 ?_
        refine lv_bipush (v := 60) hx hb dX11_item_44 (by decide) ?_
        refine lv_iload_n hx hb dX11_item_46 rfl (lv_at hl 1 rfl) ?_
        refine lv_imul hx hb dX11_item_47 ?_
        refine lv_iload_n hx hb dX11_item_48 rfl (lv_at hl 2 rfl) ?_
        refine lv_iadd hx hb dX11_item_49 ?_
        refine lv_aload_n hx hb dX11_item_50 rfl (lv_at hl 0 rfl) ?_
        refine gf_9_36 hX hM ho q_7_17 dX11_item_51 ?_
        refine lv_iload_n hx hb dX11_item_54 rfl (lv_at hl 1 rfl) ?_
        replace hf := gA_some hf
        obtain ⟨hi, hf⟩ := hf
        refine ald hX hM (kr_9_36 ho) hi dX11_item_55 ?_
        refine lv_lload_n hx hb dX11_item_56 rfl (lv_at hl 3 rfl) ?_
        replace hf := bnd_some hf
        obtain ⟨r6, μ5, h57, hf⟩ := hf
        refine cl_S (As := [.int (μ3.1 (rf o 36) a1.toNatClampNeg), .long a3]) (rest := [.int (((60 : Int32) * a1) + a2), .ref (eA E (rf o 38))]) (st2 := [.long r6, .int (((60 : Int32) * a1) + a2), .ref (eA E (rf o 38))]) (n := 2) hX hM (c_X11_narrowed l  h57) mt_X11_narrowed q_50_2 ⟨rfl, rfl⟩ ⟨Nat.le_of_ble_eq_true rfl, Nat.le_of_ble_eq_true rfl⟩ rfl hl.1 rfl (Nat.le_of_ble_eq_true rfl) dX11_item_57 rfl (fun H locs hM => ?_)
        replace hf := gA_some hf
        obtain ⟨hi, hf⟩ := hf
        refine lst hX hM (kr_9_38 ho) hi dX11_item_60 (fun μ7 H locs eμ7 hM => ?_)
        replace hf := lt_e eμ7 hf
        refine lv_iconst (v := 1) hx hb dX11_item_61 (by decide) ?_
        exact rt_i hX hM (congrArg (fun z => some (Value.int z)) (so_1 hf)) (so_2 hf) dX11_item_62
      · replace hf := it_t hf hc34
        refine lv_bipush (v := (-13)) hx hb dX11_item_37 (by decide) ?_
        exact rt_i hX hM (congrArg (fun z => some (Value.int z)) (so_1 hf)) (so_2 hf) dX11_item_39
    · replace hf := it_f hf hc15
      refine lv_bipush (v := (-11)) hx hb dX11_item_18 (by decide) ?_
      exact rt_i hX hM (congrArg (fun z => some (Value.int z)) (so_1 hf)) (so_2 hf) dX11_item_20
  · replace hf := it_t hf hc4
    refine lv_iconst (v := (-1)) hx hb dX11_item_7 (by decide) ?_
    exact rt_i hX hM (congrArg (fun z => some (Value.int z)) (so_1 hf)) (so_2 hf) dX11_item_8
theorem c_X11_item (l : Launch) {o : Nat} {a1 : Int32} {a2 : Int32} {a3 : Int64} (ho : knd o = 9) {μ μ2 : Mem} {r : Int32} (hf : f_X11_item o a1 a2 a3 μ = some (r, μ2)) : CT E l yX11_item cX11_item 5 (some .int) (rmF 2 42) [.ref (eA E o), .int a1, .int a2, .long a3] μ (some (.int r)) μ2 := CT.of (show plainFor yX11_item = true by decide +kernel) (Nat.le_of_ble_eq_true rfl) rfl (fun _ _ _ _ _ _ _ _ hX hM hl => w_X11_item l ho hf hX hM hl)
theorem mv_X11_item : MV yX11_item cX11_item 5 (some .int) RX11 3 := ⟨q_50_1, q_49_23, q_50_0, q_1_5, by decide +kernel⟩
def f_X11_peek (o : Nat) (a1 : Int32) (a2 : Int32) (μ : Mem) : Option (Int64 × Mem) :=
  bnd (f_X11_isTape a1 μ) (fun r2 μ1 => (if r2 = 0 then some ((-9223372036854775808 : Int64), μ1) else gA a1 (aln (rf o 37)) (bnd (f_X11_in a2 (0 : Int32) ((μ1.1 (rf o 37) a1.toNatClampNeg) - (1 : Int32)) μ1) (fun r4 μ3 => (if r4 = 0 then some ((-9223372036854775808 : Int64), μ3) else gA (((60 : Int32) * a1) + a2) (aln (rf o 38)) (some ((μ3.2 (rf o 38) (((60 : Int32) * a1) + a2).toNatClampNeg), μ3)))))))
set_option maxHeartbeats 4000000 in
set_option maxRecDepth 100000 in
theorem w_X11_peek (l : Launch) {o : Nat} {a1 : Int32} {a2 : Int32} (ho : knd o = 9) {μ μ2 : Mem} {r : Int64} {H : Heap} {locs : List Loc} {ls : Array Slot} (hf : f_X11_peek o a1 a2 μ = some (r, μ2)) (hX : XX E p m meth c cX11_peek 3 (some .long) s args RX11) (hM : MM E s μ H locs) (hl : lv_has ls 3 [(0, .ref (eA E o)), (1, .int a1), (2, .int a2)]) : W p l e (rmF 2 42) s m args below meth c H locs 0 0 (MQ below (QC E (some (.long r)) μ2) args s 0 0 (AA E)) (F0 m 0 ls []) := by
  obtain ⟨⟨hx, hb, hml, hown, hts⟩, hXr⟩ := id hX
  unfold f_X11_peek at hf
  refine lv_iload_n hx hb dX11_peek_0 rfl (lv_at hl 1 rfl) ?_
  replace hf := bnd_some hf
  obtain ⟨r2, μ1, h1, hf⟩ := hf
  refine cl_S (As := [.int a1]) (rest := []) (st2 := [.int r2]) (n := 1) hX hM (c_X11_isTape l  h1) mt_X11_isTape q_47_0 ⟨rfl, rfl⟩ ⟨Nat.le_of_ble_eq_true rfl, Nat.le_of_ble_eq_true rfl⟩ rfl hl.1 rfl (Nat.le_of_ble_eq_true rfl) dX11_peek_1 rfl (fun H locs hM => ?_)
  refine lv_if_eq (tgt := 37) hx hb dX11_peek_4 (by decide) (fun hc4 => ?_) (fun hc4 => ?_)
  · replace hf := it_t hf hc4
    refine lv_ldc2 (v := -9223372036854775808) hx hb hown (hts _ q_36_19) dX11_peek_37 ?_
    exact rt_l hX hM (congrArg (fun z => some (Value.long z)) (so_1 hf)) (so_2 hf) dX11_peek_40
  · replace hf := it_f hf hc4
    refine lv_iload_n hx hb dX11_peek_7 rfl (lv_at hl 2 rfl) ?_
    refine lv_iconst (v := 0) hx hb dX11_peek_8 (by decide) ?_
    refine lv_aload_n hx hb dX11_peek_9 rfl (lv_at hl 0 rfl) ?_
    refine gf_9_37 hX hM ho q_7_18 dX11_peek_10 ?_
    refine lv_iload_n hx hb dX11_peek_13 rfl (lv_at hl 1 rfl) ?_
    replace hf := gA_some hf
    obtain ⟨hi, hf⟩ := hf
    refine ald hX hM (kr_9_37 ho) hi dX11_peek_14 ?_
    refine lv_iconst (v := 1) hx hb dX11_peek_15 (by decide) ?_
    refine lv_isub hx hb dX11_peek_16 ?_
    replace hf := bnd_some hf
    obtain ⟨r4, μ3, h17, hf⟩ := hf
    refine cl_S (As := [.int a2, .int (0 : Int32), .int ((μ1.1 (rf o 37) a1.toNatClampNeg) - (1 : Int32))]) (rest := []) (st2 := [.int r4]) (n := 3) hX hM (c_X11_in l  h17) mt_X11_in q_8_23 ⟨rfl, rfl⟩ ⟨Nat.le_of_ble_eq_true rfl, Nat.le_of_ble_eq_true rfl⟩ rfl hl.1 rfl (Nat.le_of_ble_eq_true rfl) dX11_peek_17 rfl (fun H locs hM => ?_)
    refine lv_if_eq (tgt := 37) hx hb dX11_peek_20 (by decide) (fun hc20 => ?_) (fun hc20 => ?_)
    · replace hf := it_t hf hc20
      refine lv_ldc2 (v := -9223372036854775808) hx hb hown (hts _ q_36_19) dX11_peek_37 ?_
      exact rt_l hX hM (congrArg (fun z => some (Value.long z)) (so_1 hf)) (so_2 hf) dX11_peek_40
    · replace hf := it_f hf hc20
      refine lv_aload_n hx hb dX11_peek_23 rfl (lv_at hl 0 rfl) ?_
      refine gf_9_38 hX hM ho q_7_19 dX11_peek_24 ?_
      refine lv_bipush (v := 60) hx hb dX11_peek_27 (by decide) ?_
      refine lv_iload_n hx hb dX11_peek_29 rfl (lv_at hl 1 rfl) ?_
      refine lv_imul hx hb dX11_peek_30 ?_
      refine lv_iload_n hx hb dX11_peek_31 rfl (lv_at hl 2 rfl) ?_
      refine lv_iadd hx hb dX11_peek_32 ?_
      replace hf := gA_some hf
      obtain ⟨hi, hf⟩ := hf
      refine ldl hX hM (kr_9_38 ho) hi dX11_peek_33 ?_
      refine lv_goto (tgt := 40) hx hb dX11_peek_34 (by decide) ?_
      exact rt_l hX hM (congrArg (fun z => some (Value.long z)) (so_1 hf)) (so_2 hf) dX11_peek_40
theorem c_X11_peek (l : Launch) {o : Nat} {a1 : Int32} {a2 : Int32} (ho : knd o = 9) {μ μ2 : Mem} {r : Int64} (hf : f_X11_peek o a1 a2 μ = some (r, μ2)) : CT E l yX11_peek cX11_peek 3 (some .long) (rmF 2 42) [.ref (eA E o), .int a1, .int a2] μ (some (.long r)) μ2 := CT.of (show plainFor yX11_peek = true by decide +kernel) (Nat.le_of_ble_eq_true rfl) rfl (fun _ _ _ _ _ _ _ _ hX hM hl => w_X11_peek l ho hf hX hM hl)
theorem mv_X11_peek : MV yX11_peek cX11_peek 3 (some .long) RX11 2 := ⟨q_50_12, q_50_10, q_50_11, q_1_5, by decide +kernel⟩
def f_X11_shift_b147 (o : Nat) (a1 : Int32) (a2 : Int32) (a3 : Int32) (a4 : Int32) (a5 : Int32)  : Nat → Int32 → Mem → Option (Int32 × Mem)
  | 0, _, _ => none
  | n + 1, x6, μ =>
    (if a5 ≤ x6 then some (a5, μ) else gA x6 (aln (rf o 39)) (gA ((((60 : Int32) * a3) + a4) + x6) (aln (rf o 38)) (lt (sL μ (rf o 38) ((((60 : Int32) * a3) + a4) + x6).toNatClampNeg (μ.2 (rf o 39) x6.toNatClampNeg)) (fun μ5 => lt (x6 + (1 : Int32)) (fun v6 => (f_X11_shift_b147 o a1 a2 a3 a4 a5  n) v6 μ5)))))
set_option maxHeartbeats 4000000 in
set_option maxRecDepth 100000 in
theorem w_X11_shift_b147 (l : Launch) {o : Nat} {a1 : Int32} {a2 : Int32} {a3 : Int32} {a4 : Int32} {a5 : Int32} (ho : knd o = 9) {μ2 : Mem} {r : Int32}  (hX : XX E p m meth c cX11_shift 7 (some .int) s args RX11)  : ∀ (n : Nat) (x6 : Int32) (μ : Mem), f_X11_shift_b147 o a1 a2 a3 a4 a5  n x6 μ = some (r, μ2) → ∀ (H : Heap) (locs : List Loc), MM E s μ H locs → ∀ ls : Array Slot, lv_has ls 7 [(0, .ref (eA E o)), (1, .int a1), (2, .int a2), (3, .int a3), (4, .int a4), (5, .int a5), (6, .int x6)] → W p l e (rmF 2 42) s m args below meth c H locs 0 0 (MQ below (QC E (some (.int r)) μ2) args s 0 0 (AA E)) (F0 m 147 ls []) := by
  obtain ⟨⟨hx, hb, hml, hown, hts⟩, hXr⟩ := id hX
  intro n
  induction n with
  | zero => intro x6 μ  hf; exact no_none hf
  | succ n ih =>
    intro x6 μ  hf H locs hM ls hl
    rw [f_X11_shift_b147] at hf
    have hK147 := ih
    clear ih
    refine lv_iload hx hb dX11_shift_147 (lv_at hl 6 rfl) ?_
    refine lv_iload hx hb dX11_shift_149 (lv_at hl 5 rfl) ?_
    refine lv_icmp_ge (tgt := 182) hx hb dX11_shift_151 (by decide) (fun hc151 => ?_) (fun hc151 => ?_)
    · replace hf := it_t hf hc151
      refine lv_iload hx hb dX11_shift_182 (lv_at hl 5 rfl) ?_
      exact rt_i hX hM (congrArg (fun z => some (Value.int z)) (so_1 hf)) (so_2 hf) dX11_shift_184
    · replace hf := it_f hf hc151
      refine lv_aload_n hx hb dX11_shift_154 rfl (lv_at hl 0 rfl) ?_
      refine gf_9_38 hX hM ho q_7_19 dX11_shift_155 ?_
      refine lv_bipush (v := 60) hx hb dX11_shift_158 (by decide) ?_
      refine lv_iload_n hx hb dX11_shift_160 rfl (lv_at hl 3 rfl) ?_
      refine lv_imul hx hb dX11_shift_161 ?_
      refine lv_iload hx hb dX11_shift_162 (lv_at hl 4 rfl) ?_
      refine lv_iadd hx hb dX11_shift_164 ?_
      refine lv_iload hx hb dX11_shift_165 (lv_at hl 6 rfl) ?_
      refine lv_iadd hx hb dX11_shift_167 ?_
      refine lv_aload_n hx hb dX11_shift_168 rfl (lv_at hl 0 rfl) ?_
      refine gf_9_39 hX hM ho q_7_20 dX11_shift_169 ?_
      refine lv_iload hx hb dX11_shift_172 (lv_at hl 6 rfl) ?_
      replace hf := gA_some hf
      obtain ⟨hi, hf⟩ := hf
      refine ldl hX hM (kr_9_39 ho) hi dX11_shift_174 ?_
      replace hf := gA_some hf
      obtain ⟨hi, hf⟩ := hf
      refine lst hX hM (kr_9_38 ho) hi dX11_shift_175 (fun μ5 H locs eμ5 hM => ?_)
      replace hf := lt_e eμ5 hf
      obtain ⟨v6, ev6⟩ : ∃ y : Int32, y = x6 + (1 : Int32) := ⟨_, rfl⟩
      replace hf := lt_e ev6 hf
      refine lv_iinc (v := v6) (lv' := [(6, .int v6), (0, .ref (eA E o)), (1, .int a1), (2, .int a2), (3, .int a3), (4, .int a4), (5, .int a5)]) hx hb dX11_shift_176 hl (k := 6) rfl (by rw [ev6]; rfl) (by decide) rfl (fun ls hl => ?_)
      refine lv_goto (tgt := 147) hx hb dX11_shift_179 (by decide) ?_
      exact hK147 _ _  hf _ _ hM _ (lv_sub hl [1, 2, 3, 4, 5, 6, 0] rfl)
def f_X11_shift_b110 (o : Nat) (a1 : Int32) (a2 : Int32) (a3 : Int32) (a4 : Int32) (a5 : Int32)  : Nat → Int32 → Mem → Option (Int32 × Mem)
  | 0, _, _ => none
  | n + 1, x6, μ =>
    (if a5 ≤ x6 then f_X11_shift_b147 o a1 a2 a3 a4 a5  FU (0 : Int32) μ else gA ((((60 : Int32) * a1) + a2) + x6) (aln (rf o 38)) (gA x6 (aln (rf o 39)) (lt (sL μ (rf o 39) x6.toNatClampNeg (μ.2 (rf o 38) ((((60 : Int32) * a1) + a2) + x6).toNatClampNeg)) (fun μ7 => lt (x6 + (1 : Int32)) (fun v8 => (f_X11_shift_b110 o a1 a2 a3 a4 a5  n) v8 μ7)))))
set_option maxHeartbeats 4000000 in
set_option maxRecDepth 100000 in
theorem w_X11_shift_b110 (l : Launch) {o : Nat} {a1 : Int32} {a2 : Int32} {a3 : Int32} {a4 : Int32} {a5 : Int32} (ho : knd o = 9) {μ2 : Mem} {r : Int32}  (hX : XX E p m meth c cX11_shift 7 (some .int) s args RX11)  : ∀ (n : Nat) (x6 : Int32) (μ : Mem), f_X11_shift_b110 o a1 a2 a3 a4 a5  n x6 μ = some (r, μ2) → ∀ (H : Heap) (locs : List Loc), MM E s μ H locs → ∀ ls : Array Slot, lv_has ls 7 [(0, .ref (eA E o)), (1, .int a1), (2, .int a2), (3, .int a3), (4, .int a4), (5, .int a5), (6, .int x6)] → W p l e (rmF 2 42) s m args below meth c H locs 0 0 (MQ below (QC E (some (.int r)) μ2) args s 0 0 (AA E)) (F0 m 110 ls []) := by
  obtain ⟨⟨hx, hb, hml, hown, hts⟩, hXr⟩ := id hX
  intro n
  induction n with
  | zero => intro x6 μ  hf; exact no_none hf
  | succ n ih =>
    intro x6 μ  hf H locs hM ls hl
    rw [f_X11_shift_b110] at hf
    have hK110 := ih
    clear ih
    refine lv_iload hx hb dX11_shift_110 (lv_at hl 6 rfl) ?_
    refine lv_iload hx hb dX11_shift_112 (lv_at hl 5 rfl) ?_
    refine lv_icmp_ge (tgt := 144) hx hb dX11_shift_114 (by decide) (fun hc114 => ?_) (fun hc114 => ?_)
    · replace hf := it_t hf hc114
      refine lv_iconst (v := 0) hx hb dX11_shift_144 (by decide) ?_
      refine lv_istore (lv' := [(6, .int (0 : Int32)), (0, .ref (eA E o)), (1, .int a1), (2, .int a2), (3, .int a3), (4, .int a4), (5, .int a5)]) hx hb dX11_shift_145 hl (by decide) rfl (fun ls hl => ?_)
      exact w_X11_shift_b147 l ho hX  FU _ _  hf _ _ hM _ (lv_sub hl [1, 2, 3, 4, 5, 6, 0] rfl)
    · replace hf := it_f hf hc114
      refine lv_aload_n hx hb dX11_shift_117 rfl (lv_at hl 0 rfl) ?_
      refine gf_9_39 hX hM ho q_7_20 dX11_shift_118 ?_
      refine lv_iload hx hb dX11_shift_121 (lv_at hl 6 rfl) ?_
      refine lv_aload_n hx hb dX11_shift_123 rfl (lv_at hl 0 rfl) ?_
      refine gf_9_38 hX hM ho q_7_19 dX11_shift_124 ?_
      refine lv_bipush (v := 60) hx hb dX11_shift_127 (by decide) ?_
      refine lv_iload_n hx hb dX11_shift_129 rfl (lv_at hl 1 rfl) ?_
      refine lv_imul hx hb dX11_shift_130 ?_
      refine lv_iload_n hx hb dX11_shift_131 rfl (lv_at hl 2 rfl) ?_
      refine lv_iadd hx hb dX11_shift_132 ?_
      refine lv_iload hx hb dX11_shift_133 (lv_at hl 6 rfl) ?_
      refine lv_iadd hx hb dX11_shift_135 ?_
      replace hf := gA_some hf
      obtain ⟨hi, hf⟩ := hf
      refine ldl hX hM (kr_9_38 ho) hi dX11_shift_136 ?_
      replace hf := gA_some hf
      obtain ⟨hi, hf⟩ := hf
      refine lst hX hM (kr_9_39 ho) hi dX11_shift_137 (fun μ7 H locs eμ7 hM => ?_)
      replace hf := lt_e eμ7 hf
      obtain ⟨v8, ev8⟩ : ∃ y : Int32, y = x6 + (1 : Int32) := ⟨_, rfl⟩
      replace hf := lt_e ev8 hf
      refine lv_iinc (v := v8) (lv' := [(6, .int v8), (0, .ref (eA E o)), (1, .int a1), (2, .int a2), (3, .int a3), (4, .int a4), (5, .int a5)]) hx hb dX11_shift_138 hl (k := 6) rfl (by rw [ev8]; rfl) (by decide) rfl (fun ls hl => ?_)
      refine lv_goto (tgt := 110) hx hb dX11_shift_141 (by decide) ?_
      exact hK110 _ _  hf _ _ hM _ (lv_sub hl [1, 2, 3, 4, 5, 6, 0] rfl)
def f_X11_shift (o : Nat) (a1 : Int32) (a2 : Int32) (a3 : Int32) (a4 : Int32) (a5 : Int32) (μ : Mem) : Option (Int32 × Mem) :=
  bnd (f_X11_isTape a1 μ) (fun r2 μ1 => (if r2 = 0 then some ((-1 : Int32), μ1) else bnd (f_X11_isTape a3 μ1) (fun r4 μ3 => (if r4 = 0 then some ((-1 : Int32), μ3) else gA a1 (aln (rf o 36)) ((if (μ3.1 (rf o 36) a1.toNatClampNeg) < 0 then some ((-11 : Int32), μ3) else gA a3 (aln (rf o 36)) ((if (0 : Int32) ≤ (μ3.1 (rf o 36) a3.toNatClampNeg) then gA a1 (aln (rf o 36)) (gA a3 (aln (rf o 36)) ((if (μ3.1 (rf o 36) a1.toNatClampNeg) = (μ3.1 (rf o 36) a3.toNatClampNeg) then (if a5 < 0 then some ((-13 : Int32), μ3) else (if a2 < 0 then some ((-13 : Int32), μ3) else (if a4 < 0 then some ((-13 : Int32), μ3) else gA a1 (aln (rf o 37)) ((if (0 : Int32) < (lg_cmp (a2.toInt64 + a5.toInt64) ((μ3.1 (rf o 37) a1.toNatClampNeg).toInt64)) then some ((-13 : Int32), μ3) else gA a3 (aln (rf o 37)) ((if (lg_cmp (a4.toInt64 + a5.toInt64) ((μ3.1 (rf o 37) a3.toNatClampNeg).toInt64)) ≤ 0 then f_X11_shift_b110 o a1 a2 a3 a4 a5  FU (0 : Int32) μ3 else some ((-13 : Int32), μ3)))))))) else some ((-12 : Int32), μ3)))) else some ((-11 : Int32), μ3)))))))))
set_option maxHeartbeats 4000000 in
set_option maxRecDepth 100000 in
theorem w_X11_shift (l : Launch) {o : Nat} {a1 : Int32} {a2 : Int32} {a3 : Int32} {a4 : Int32} {a5 : Int32} (ho : knd o = 9) {μ μ2 : Mem} {r : Int32} {H : Heap} {locs : List Loc} {ls : Array Slot} (hf : f_X11_shift o a1 a2 a3 a4 a5 μ = some (r, μ2)) (hX : XX E p m meth c cX11_shift 7 (some .int) s args RX11) (hM : MM E s μ H locs) (hl : lv_has ls 7 [(0, .ref (eA E o)), (1, .int a1), (2, .int a2), (3, .int a3), (4, .int a4), (5, .int a5)]) : W p l e (rmF 2 42) s m args below meth c H locs 0 0 (MQ below (QC E (some (.int r)) μ2) args s 0 0 (AA E)) (F0 m 0 ls []) := by
  obtain ⟨⟨hx, hb, hml, hown, hts⟩, hXr⟩ := id hX
  unfold f_X11_shift at hf
  refine lv_iload_n hx hb dX11_shift_0 rfl (lv_at hl 1 rfl) ?_
  replace hf := bnd_some hf
  obtain ⟨r2, μ1, h1, hf⟩ := hf
  refine cl_S (As := [.int a1]) (rest := []) (st2 := [.int r2]) (n := 1) hX hM (c_X11_isTape l  h1) mt_X11_isTape q_47_0 ⟨rfl, rfl⟩ ⟨Nat.le_of_ble_eq_true rfl, Nat.le_of_ble_eq_true rfl⟩ rfl hl.1 rfl (Nat.le_of_ble_eq_true rfl) dX11_shift_1 rfl (fun H locs hM => ?_)
  refine lv_if_eq (tgt := 14) hx hb dX11_shift_4 (by decide) (fun hc4 => ?_) (fun hc4 => ?_)
  · replace hf := it_t hf hc4
    refine lv_iconst (v := (-1)) hx hb dX11_shift_14 (by decide) ?_
    exact rt_i hX hM (congrArg (fun z => some (Value.int z)) (so_1 hf)) (so_2 hf) dX11_shift_15
  · replace hf := it_f hf hc4
    refine lv_iload_n hx hb dX11_shift_7 rfl (lv_at hl 3 rfl) ?_
    replace hf := bnd_some hf
    obtain ⟨r4, μ3, h8, hf⟩ := hf
    refine cl_S (As := [.int a3]) (rest := []) (st2 := [.int r4]) (n := 1) hX hM (c_X11_isTape l  h8) mt_X11_isTape q_47_0 ⟨rfl, rfl⟩ ⟨Nat.le_of_ble_eq_true rfl, Nat.le_of_ble_eq_true rfl⟩ rfl hl.1 rfl (Nat.le_of_ble_eq_true rfl) dX11_shift_8 rfl (fun H locs hM => ?_)
    refine lv_if_ne (tgt := 16) hx hb dX11_shift_11 (by decide) (fun hc11 => ?_) (fun hc11 => ?_)
    · replace hf := it_f hf hc11
      refine lv_aload_n hx hb dX11_shift_16 rfl (lv_at hl 0 rfl) ?_
      refine gf_9_36 hX hM ho q_7_17 dX11_shift_17 ?_
      refine lv_iload_n hx hb dX11_shift_20 rfl (lv_at hl 1 rfl) ?_
      replace hf := gA_some hf
      obtain ⟨hi, hf⟩ := hf
      refine ald hX hM (kr_9_36 ho) hi dX11_shift_21 ?_
      refine lv_if_lt (tgt := 34) hx hb dX11_shift_22 (by decide) (fun hc22 => ?_) (fun hc22 => ?_)
      · replace hf := it_t hf hc22
        refine lv_bipush (v := (-11)) hx hb dX11_shift_34 (by decide) ?_
        exact rt_i hX hM (congrArg (fun z => some (Value.int z)) (so_1 hf)) (so_2 hf) dX11_shift_36
      · replace hf := it_f hf hc22
        refine lv_aload_n hx hb dX11_shift_25 rfl (lv_at hl 0 rfl) ?_
        refine gf_9_36 hX hM ho q_7_17 dX11_shift_26 ?_
        refine lv_iload_n hx hb dX11_shift_29 rfl (lv_at hl 3 rfl) ?_
        replace hf := gA_some hf
        obtain ⟨hi, hf⟩ := hf
        refine ald hX hM (kr_9_36 ho) hi dX11_shift_30 ?_
        refine lv_if_ge (tgt := 37) hx hb dX11_shift_31 (by decide) (fun hc31 => ?_) (fun hc31 => ?_)
        · replace hf := it_t hf hc31
          refine lv_aload_n hx hb dX11_shift_37 rfl (lv_at hl 0 rfl) ?_
          refine gf_9_36 hX hM ho q_7_17 dX11_shift_38 ?_
          refine lv_iload_n hx hb dX11_shift_41 rfl (lv_at hl 1 rfl) ?_
          replace hf := gA_some hf
          obtain ⟨hi, hf⟩ := hf
          refine ald hX hM (kr_9_36 ho) hi dX11_shift_42 ?_
          refine lv_aload_n hx hb dX11_shift_43 rfl (lv_at hl 0 rfl) ?_
          refine gf_9_36 hX hM ho q_7_17 dX11_shift_44 ?_
          refine lv_iload_n hx hb dX11_shift_47 rfl (lv_at hl 3 rfl) ?_
          replace hf := gA_some hf
          obtain ⟨hi, hf⟩ := hf
          refine ald hX hM (kr_9_36 ho) hi dX11_shift_48 ?_
          refine lv_icmp_eq (tgt := 55) hx hb dX11_shift_49 (by decide) (fun hc49 => ?_) (fun hc49 => ?_)
          · replace hf := it_t hf hc49
            refine lv_iload hx hb dX11_shift_55 (lv_at hl 5 rfl) ?_
            refine lv_if_lt (tgt := 104) hx hb dX11_shift_57 (by decide) (fun hc57 => ?_) (fun hc57 => ?_)
            · replace hf := it_t hf hc57
              refine lv_bipush (v := (-13)) hx hb dX11_shift_104 (by decide) ?_
              exact rt_i hX hM (congrArg (fun z => some (Value.int z)) (so_1 hf)) (so_2 hf) dX11_shift_106
            · replace hf := it_f hf hc57
              refine lv_iload_n hx hb dX11_shift_60 rfl (lv_at hl 2 rfl) ?_
              refine lv_if_lt (tgt := 104) hx hb dX11_shift_61 (by decide) (fun hc61 => ?_) (fun hc61 => ?_)
              · replace hf := it_t hf hc61
                refine lv_bipush (v := (-13)) hx hb dX11_shift_104 (by decide) ?_
                exact rt_i hX hM (congrArg (fun z => some (Value.int z)) (so_1 hf)) (so_2 hf) dX11_shift_106
              · replace hf := it_f hf hc61
                refine lv_iload hx hb dX11_shift_64 (lv_at hl 4 rfl) ?_
                refine lv_if_lt (tgt := 104) hx hb dX11_shift_66 (by decide) (fun hc66 => ?_) (fun hc66 => ?_)
                · replace hf := it_t hf hc66
                  refine lv_bipush (v := (-13)) hx hb dX11_shift_104 (by decide) ?_
                  exact rt_i hX hM (congrArg (fun z => some (Value.int z)) (so_1 hf)) (so_2 hf) dX11_shift_106
                · replace hf := it_f hf hc66
                  refine lv_iload_n hx hb dX11_shift_69 rfl (lv_at hl 2 rfl) ?_
                  refine lv_i2l hx hb dX11_shift_70 rfl ?_
                  refine lv_iload hx hb dX11_shift_71 (lv_at hl 5 rfl) ?_
                  refine lv_i2l hx hb dX11_shift_73 rfl ?_
                  refine lv_ladd hx hb dX11_shift_74 ?_
                  refine lv_aload_n hx hb dX11_shift_75 rfl (lv_at hl 0 rfl) ?_
                  refine gf_9_37 hX hM ho q_7_18 dX11_shift_76 ?_
                  refine lv_iload_n hx hb dX11_shift_79 rfl (lv_at hl 1 rfl) ?_
                  replace hf := gA_some hf
                  obtain ⟨hi, hf⟩ := hf
                  refine ald hX hM (kr_9_37 ho) hi dX11_shift_80 ?_
                  refine lv_i2l hx hb dX11_shift_81 rfl ?_
                  refine W.lcmp hx hb dX11_shift_82 ?_
                  refine lv_if_gt (tgt := 104) hx hb dX11_shift_83 (by decide) (fun hc83 => ?_) (fun hc83 => ?_)
                  · replace hf := it_t hf hc83
                    refine lv_bipush (v := (-13)) hx hb dX11_shift_104 (by decide) ?_
                    exact rt_i hX hM (congrArg (fun z => some (Value.int z)) (so_1 hf)) (so_2 hf) dX11_shift_106
                  · replace hf := it_f hf hc83
                    refine lv_iload hx hb dX11_shift_86 (lv_at hl 4 rfl) ?_
                    refine lv_i2l hx hb dX11_shift_88 rfl ?_
                    refine lv_iload hx hb dX11_shift_89 (lv_at hl 5 rfl) ?_
                    refine lv_i2l hx hb dX11_shift_91 rfl ?_
                    refine lv_ladd hx hb dX11_shift_92 ?_
                    refine lv_aload_n hx hb dX11_shift_93 rfl (lv_at hl 0 rfl) ?_
                    refine gf_9_37 hX hM ho q_7_18 dX11_shift_94 ?_
                    refine lv_iload_n hx hb dX11_shift_97 rfl (lv_at hl 3 rfl) ?_
                    replace hf := gA_some hf
                    obtain ⟨hi, hf⟩ := hf
                    refine ald hX hM (kr_9_37 ho) hi dX11_shift_98 ?_
                    refine lv_i2l hx hb dX11_shift_99 rfl ?_
                    refine W.lcmp hx hb dX11_shift_100 ?_
                    refine lv_if_le (tgt := 107) hx hb dX11_shift_101 (by decide) (fun hc101 => ?_) (fun hc101 => ?_)
                    · replace hf := it_t hf hc101
                      refine lv_iconst (v := 0) hx hb dX11_shift_107 (by decide) ?_
                      refine lv_istore (lv' := [(6, .int (0 : Int32)), (0, .ref (eA E o)), (1, .int a1), (2, .int a2), (3, .int a3), (4, .int a4), (5, .int a5)]) hx hb dX11_shift_108 hl (by decide) rfl (fun ls hl => ?_)
                      exact w_X11_shift_b110 l ho hX  FU _ _  hf _ _ hM _ (lv_sub hl [1, 2, 3, 4, 5, 6, 0] rfl)
                    · replace hf := it_f hf hc101
                      refine lv_bipush (v := (-13)) hx hb dX11_shift_104 (by decide) ?_
                      exact rt_i hX hM (congrArg (fun z => some (Value.int z)) (so_1 hf)) (so_2 hf) dX11_shift_106
          · replace hf := it_f hf hc49
            refine lv_bipush (v := (-12)) hx hb dX11_shift_52 (by decide) ?_
            exact rt_i hX hM (congrArg (fun z => some (Value.int z)) (so_1 hf)) (so_2 hf) dX11_shift_54
        · replace hf := it_f hf hc31
          refine lv_bipush (v := (-11)) hx hb dX11_shift_34 (by decide) ?_
          exact rt_i hX hM (congrArg (fun z => some (Value.int z)) (so_1 hf)) (so_2 hf) dX11_shift_36
    · replace hf := it_t hf hc11
      refine lv_iconst (v := (-1)) hx hb dX11_shift_14 (by decide) ?_
      exact rt_i hX hM (congrArg (fun z => some (Value.int z)) (so_1 hf)) (so_2 hf) dX11_shift_15
theorem c_X11_shift (l : Launch) {o : Nat} {a1 : Int32} {a2 : Int32} {a3 : Int32} {a4 : Int32} {a5 : Int32} (ho : knd o = 9) {μ μ2 : Mem} {r : Int32} (hf : f_X11_shift o a1 a2 a3 a4 a5 μ = some (r, μ2)) : CT E l yX11_shift cX11_shift 7 (some .int) (rmF 2 42) [.ref (eA E o), .int a1, .int a2, .int a3, .int a4, .int a5] μ (some (.int r)) μ2 := CT.of (show plainFor yX11_shift = true by decide +kernel) (Nat.le_of_ble_eq_true rfl) rfl (fun _ _ _ _ _ _ _ _ hX hM hl => w_X11_shift l ho hf hX hM hl)
theorem mv_X11_shift : MV yX11_shift cX11_shift 7 (some .int) RX11 5 := ⟨q_51_6, q_51_4, q_51_5, q_1_5, by decide +kernel⟩
end PG
