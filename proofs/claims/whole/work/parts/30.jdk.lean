section PG
variable {p : Program} {e : Env} {s : State} {m : MethodId} {args : Array Value} {below : List Frame} {meth : Method} {c : Code} {E : EE}
def f_J7_fill_53178_b5 (a0 : Nat) (a1 : Int32)  : Nat → Int32 → Int32 → Mem → Option (Mem)
  | 0, _, _, _ => none
  | n + 1, x2, x3, μ =>
    (if x3 ≤ x2 then some μ else gA x2 (aln a0) (lt (sI μ a0 x2.toNatClampNeg a1) (fun μ2 => lt (x2 + (1 : Int32)) (fun v3 => (f_J7_fill_53178_b5 a0 a1  n) v3 x3 μ2))))
set_option maxHeartbeats 4000000 in
set_option maxRecDepth 100000 in
theorem w_J7_fill_53178_b5 (l : Launch) {a0 : Nat} {a1 : Int32} (ha0 : knd a0 = 10) {μ2 : Mem}  (hX : XX E p m meth c cJ7_fill_53178 4 none s args RJ7)  : ∀ (n : Nat) (x2 : Int32) (x3 : Int32) (μ : Mem), f_J7_fill_53178_b5 a0 a1  n x2 x3 μ = some μ2 → ∀ (H : Heap) (locs : List Loc), MM E s μ H locs → ∀ ls : Array Slot, lv_has ls 4 [(0, .ref (eA E a0)), (1, .int a1), (2, .int x2), (3, .int x3)] → W p l e (rmF 0 0) s m args below meth c H locs 0 0 (MQ below (QC E (none) μ2) args s 0 0 (AA E)) (F0 m 5 ls []) := by
  obtain ⟨⟨hx, hb, hml, hown, hts⟩, hXr⟩ := id hX
  intro n
  induction n with
  | zero => intro x2 x3 μ  hf; exact no_none hf
  | succ n ih =>
    intro x2 x3 μ  hf H locs hM ls hl
    rw [f_J7_fill_53178_b5] at hf
    have hK5 := ih
    clear ih
    refine lv_iload_n hx hb dJ7_fill_53178_5 rfl (lv_at hl 2 rfl) ?_
    refine lv_iload_n hx hb dJ7_fill_53178_6 rfl (lv_at hl 3 rfl) ?_
    refine lv_icmp_ge (tgt := 20) hx hb dJ7_fill_53178_7 (by decide) (fun hc7 => ?_) (fun hc7 => ?_)
    · replace hf := it_t hf hc7
      exact rt_v hX hM rfl (Option.some.inj hf) dJ7_fill_53178_20
    · replace hf := it_f hf hc7
      refine lv_aload_n hx hb dJ7_fill_53178_10 rfl (lv_at hl 0 rfl) ?_
      refine lv_iload_n hx hb dJ7_fill_53178_11 rfl (lv_at hl 2 rfl) ?_
      refine lv_iload_n hx hb dJ7_fill_53178_12 rfl (lv_at hl 1 rfl) ?_
      replace hf := gA_some hf
      obtain ⟨hi, hf⟩ := hf
      refine ast hX hM ha0 hi dJ7_fill_53178_13 (fun μ2 H locs eμ2 hM => ?_)
      replace hf := lt_e eμ2 hf
      obtain ⟨v3, ev3⟩ : ∃ y : Int32, y = x2 + (1 : Int32) := ⟨_, rfl⟩
      replace hf := lt_e ev3 hf
      refine lv_iinc (v := v3) (lv' := [(2, .int v3), (0, .ref (eA E a0)), (1, .int a1), (3, .int x3)]) hx hb dJ7_fill_53178_14 hl (k := 2) rfl (by rw [ev3]; rfl) (by decide) rfl (fun ls hl => ?_)
      refine lv_goto (tgt := 5) hx hb dJ7_fill_53178_17 (by decide) ?_
      exact hK5 _ _ _  hf _ _ hM _ (lv_sub hl [1, 2, 0, 3] rfl)
def f_J7_fill_53178 (a0 : Nat) (a1 : Int32) (μ : Mem) : Option (Mem) :=
  lt (nI (aln a0)) (fun v1 => f_J7_fill_53178_b5 a0 a1  FU (0 : Int32) v1 μ)
set_option maxHeartbeats 4000000 in
set_option maxRecDepth 100000 in
theorem w_J7_fill_53178 (l : Launch) {a0 : Nat} {a1 : Int32} (ha0 : knd a0 = 10) {μ μ2 : Mem} {H : Heap} {locs : List Loc} {ls : Array Slot} (hf : f_J7_fill_53178 a0 a1 μ = some μ2) (hX : XX E p m meth c cJ7_fill_53178 4 none s args RJ7) (hM : MM E s μ H locs) (hl : lv_has ls 4 [(0, .ref (eA E a0)), (1, .int a1)]) : W p l e (rmF 0 0) s m args below meth c H locs 0 0 (MQ below (QC E (none) μ2) args s 0 0 (AA E)) (F0 m 0 ls []) := by
  obtain ⟨⟨hx, hb, hml, hown, hts⟩, hXr⟩ := id hX
  unfold f_J7_fill_53178 at hf
  refine lv_iconst (v := 0) hx hb dJ7_fill_53178_0 (by decide) ?_
  refine lv_istore_n (lv' := [(2, .int (0 : Int32)), (0, .ref (eA E a0)), (1, .int a1)]) hx hb dJ7_fill_53178_1 rfl hl (by decide) rfl (fun ls hl => ?_)
  refine lv_aload_n hx hb dJ7_fill_53178_2 rfl (lv_at hl 1 rfl) ?_
  refine aleI hX hM ha0 dJ7_fill_53178_3 ?_
  refine lv_topi (fun v1 ev1 => ?_)
  replace hf := lt_e ev1 hf
  refine lv_istore_n (lv' := [(3, .int v1), (2, .int (0 : Int32)), (0, .ref (eA E a0)), (1, .int a1)]) hx hb dJ7_fill_53178_4 rfl hl (by decide) rfl (fun ls hl => ?_)
  exact w_J7_fill_53178_b5 l ha0 hX  FU _ _ _  hf _ _ hM _ (lv_sub hl [2, 3, 1, 0] rfl)
theorem c_J7_fill_53178 (l : Launch) {a0 : Nat} {a1 : Int32} (ha0 : knd a0 = 10) {μ μ2 : Mem} (hf : f_J7_fill_53178 a0 a1 μ = some μ2) : CT E l yJ7_fill_53178 cJ7_fill_53178 4 none (rmF 0 0) [.ref (eA E a0), .int a1] μ (none) μ2 := CT.of (show plainFor yJ7_fill_53178 = true by decide +kernel) (Nat.le_of_ble_eq_true rfl) rfl (fun _ _ _ _ _ _ _ _ hX hM hl => w_J7_fill_53178 l ha0 hf hX hM hl)
theorem mt_J7_fill_53178 : MT yJ7_fill_53178 cJ7_fill_53178 4 none 2 := ⟨q_3_16, q_3_14, q_3_15, by decide +kernel⟩
def f_J0_isEmpty_aae02 (o : Nat) (μ : Mem) : Option (Int32 × Mem) :=
  (if (nI (lenS.getD o 0)) = 0 then some ((1 : Int32), μ) else some ((0 : Int32), μ))
set_option maxHeartbeats 4000000 in
set_option maxRecDepth 100000 in
theorem w_J0_isEmpty_aae02 (l : Launch) {o : Nat} (ho : o < 7) {μ μ2 : Mem} {r : Int32} {H : Heap} {locs : List Loc} {ls : Array Slot} (hf : f_J0_isEmpty_aae02 o μ = some (r, μ2)) (hX : XX E p m meth c cJ0_isEmpty_aae02 1 (some .boolean) s args RJ0) (hM : MM E s μ H locs) (hl : lv_has ls 1 [(0, .ref (aK E o))]) : W p l e (rmF 0 0) s m args below meth c H locs 0 0 (MQ below (QC E (some (.int r)) μ2) args s 0 0 (AA E)) (F0 m 0 ls []) := by
  obtain ⟨⟨hx, hb, hml, hown, hts⟩, hXr⟩ := id hX
  unfold f_J0_isEmpty_aae02 at hf
  refine lv_aload_n hx hb dJ0_isEmpty_aae02_0 rfl (lv_at hl 0 rfl) ?_
  refine vk_getf hx hb ((hXr.2.2.1.2.2.2.1.1 _ ho).2.2.1) hM.2 hown (hts _ q_22_12) (fun _ h9 => h9) dJ0_isEmpty_aae02_1 ?_
  refine va_tlen hx hb ((hXr.2.2.1.2.2.2.1.1 _ ho).2.2.2) hM.2 rfl dJ0_isEmpty_aae02_4 ?_
  refine lv_if_ne (tgt := 12) hx hb dJ0_isEmpty_aae02_5 (by decide) (fun hc5 => ?_) (fun hc5 => ?_)
  · replace hf := it_f hf hc5
    refine lv_iconst (v := 0) hx hb dJ0_isEmpty_aae02_12 (by decide) ?_
    exact rt_z hX hM rfl (congrArg (fun z => some (Value.int z)) (so_1 hf)) (so_2 hf) dJ0_isEmpty_aae02_13
  · replace hf := it_t hf hc5
    refine lv_iconst (v := 1) hx hb dJ0_isEmpty_aae02_8 (by decide) ?_
    refine lv_goto (tgt := 13) hx hb dJ0_isEmpty_aae02_9 (by decide) ?_
    exact rt_z hX hM rfl (congrArg (fun z => some (Value.int z)) (so_1 hf)) (so_2 hf) dJ0_isEmpty_aae02_13
theorem c_J0_isEmpty_aae02 (l : Launch) {o : Nat} (ho : o < 7) {μ μ2 : Mem} {r : Int32} (hf : f_J0_isEmpty_aae02 o μ = some (r, μ2)) : CT E l yJ0_isEmpty_aae02 cJ0_isEmpty_aae02 1 (some .boolean) (rmF 0 0) [.ref (aK E o)] μ (some (.int r)) μ2 := CT.of (show plainFor yJ0_isEmpty_aae02 = true by decide +kernel) (Nat.le_of_ble_eq_true rfl) rfl (fun _ _ _ _ _ _ _ _ hX hM hl => w_J0_isEmpty_aae02 l ho hf hX hM hl)
theorem mv_J0_isEmpty_aae02 : MV yJ0_isEmpty_aae02 cJ0_isEmpty_aae02 1 (some .boolean) RJ0 0 := ⟨q_22_11, q_22_8, q_22_9, q_22_10, by decide +kernel⟩
def f_J0_coder_7d493 (o : Nat) (μ : Mem) : Option (Int32 × Mem) :=
  (if (1 : Int32) = 0 then gP (chr_ok (1 : Int32)) (some ((1 : Int32), μ)) else gP (chr_ok (0 : Int32)) (some ((0 : Int32), μ)))
set_option maxHeartbeats 4000000 in
set_option maxRecDepth 100000 in
theorem w_J0_coder_7d493 (l : Launch) {o : Nat} (ho : o < 7) {μ μ2 : Mem} {r : Int32} {H : Heap} {locs : List Loc} {ls : Array Slot} (hf : f_J0_coder_7d493 o μ = some (r, μ2)) (hX : XX E p m meth c cJ0_coder_7d493 1 (some .byte) s args RJ0) (hM : MM E s μ H locs) (hl : lv_has ls 1 [(0, .ref (aK E o))]) : W p l e (rmF 0 0) s m args below meth c H locs 0 0 (MQ below (QC E (some (.int r)) μ2) args s 0 0 (AA E)) (F0 m 0 ls []) := by
  obtain ⟨⟨hx, hb, hml, hown, hts⟩, hXr⟩ := id hX
  unfold f_J0_coder_7d493 at hf
  refine va_gets hx hb (hXr.2.2.1.2.2.2.2.1) hM.2 hown (hts _ q_22_21) (fun _ h9 => h9) dJ0_coder_7d493_0 ?_
  refine lv_if_eq (tgt := 13) hx hb dJ0_coder_7d493_3 (by decide) (fun hc3 => ?_) (fun hc3 => ?_)
  · replace hf := it_t hf hc3
    refine lv_iconst (v := 1) hx hb dJ0_coder_7d493_13 (by decide) ?_
    replace hf := gP_some hf
    obtain ⟨hz, hf⟩ := hf
    exact rt_z hX hM (chr_e hz) (congrArg (fun z => some (Value.int z)) (so_1 hf)) (so_2 hf) dJ0_coder_7d493_14
  · replace hf := it_f hf hc3
    refine lv_aload_n hx hb dJ0_coder_7d493_6 rfl (lv_at hl 0 rfl) ?_
    refine vk_getf hx hb ((hXr.2.2.1.2.2.2.1.1 _ ho).2.1) hM.2 hown (hts _ q_22_22) (fun _ h9 => h9) dJ0_coder_7d493_7 ?_
    refine lv_goto (tgt := 14) hx hb dJ0_coder_7d493_10 (by decide) ?_
    replace hf := gP_some hf
    obtain ⟨hz, hf⟩ := hf
    exact rt_z hX hM (chr_e hz) (congrArg (fun z => some (Value.int z)) (so_1 hf)) (so_2 hf) dJ0_coder_7d493_14
theorem c_J0_coder_7d493 (l : Launch) {o : Nat} (ho : o < 7) {μ μ2 : Mem} {r : Int32} (hf : f_J0_coder_7d493 o μ = some (r, μ2)) : CT E l yJ0_coder_7d493 cJ0_coder_7d493 1 (some .byte) (rmF 0 0) [.ref (aK E o)] μ (some (.int r)) μ2 := CT.of (show plainFor yJ0_coder_7d493 = true by decide +kernel) (Nat.le_of_ble_eq_true rfl) rfl (fun _ _ _ _ _ _ _ _ hX hM hl => w_J0_coder_7d493 l ho hf hX hM hl)
theorem mv_J0_coder_7d493 : MV yJ0_coder_7d493 cJ0_coder_7d493 1 (some .byte) RJ0 0 := ⟨q_22_20, q_22_18, q_22_19, q_22_10, by decide +kernel⟩
def f_J0_length_8abf5 (o : Nat) (μ : Mem) : Option (Int32 × Mem) :=
  bnd (f_J0_coder_7d493 o μ) (fun r2 μ1 => some (((nI (lenS.getD o 0)) >>> (r2 &&& 31)), μ1))
set_option maxHeartbeats 4000000 in
set_option maxRecDepth 100000 in
theorem w_J0_length_8abf5 (l : Launch) {o : Nat} (ho : o < 7) {μ μ2 : Mem} {r : Int32} {H : Heap} {locs : List Loc} {ls : Array Slot} (hf : f_J0_length_8abf5 o μ = some (r, μ2)) (hX : XX E p m meth c cJ0_length_8abf5 1 (some .int) s args RJ0) (hM : MM E s μ H locs) (hl : lv_has ls 1 [(0, .ref (aK E o))]) : W p l e (rmF 1 20) s m args below meth c H locs 0 0 (MQ below (QC E (some (.int r)) μ2) args s 0 0 (AA E)) (F0 m 0 ls []) := by
  obtain ⟨⟨hx, hb, hml, hown, hts⟩, hXr⟩ := id hX
  unfold f_J0_length_8abf5 at hf
  refine lv_aload_n hx hb dJ0_length_8abf5_0 rfl (lv_at hl 0 rfl) ?_
  refine vk_getf hx hb ((hXr.2.2.1.2.2.2.1.1 _ ho).2.2.1) hM.2 hown (hts _ q_22_12) (fun _ h9 => h9) dJ0_length_8abf5_1 ?_
  refine va_tlen hx hb ((hXr.2.2.1.2.2.2.1.1 _ ho).2.2.2) hM.2 rfl dJ0_length_8abf5_4 ?_
  refine lv_aload_n hx hb dJ0_length_8abf5_5 rfl (lv_at hl 0 rfl) ?_
  replace hf := bnd_some hf
  obtain ⟨r2, μ1, h6, hf⟩ := hf
  refine cl_VS (As := []) (rest := [.int (nI (lenS.getD o 0))]) (st2 := [.int r2, .int (nI (lenS.getD o 0))]) (n := 0) hX hM (c_J0_coder_7d493 l ho h6) mv_J0_coder_7d493 q_22_17 ⟨rfl, rfl⟩ ⟨Nat.le_of_ble_eq_true rfl, Nat.le_of_ble_eq_true rfl⟩ ho rfl rfl hl.1 rfl (Nat.le_of_ble_eq_true rfl) dJ0_length_8abf5_6 rfl (fun H locs hM => ?_)
  refine lv_ishr hx hb dJ0_length_8abf5_9  ?_
  exact rt_i hX hM (congrArg (fun z => some (Value.int z)) (so_1 hf)) (so_2 hf) dJ0_length_8abf5_10
theorem c_J0_length_8abf5 (l : Launch) {o : Nat} (ho : o < 7) {μ μ2 : Mem} {r : Int32} (hf : f_J0_length_8abf5 o μ = some (r, μ2)) : CT E l yJ0_length_8abf5 cJ0_length_8abf5 1 (some .int) (rmF 1 20) [.ref (aK E o)] μ (some (.int r)) μ2 := CT.of (show plainFor yJ0_length_8abf5 = true by decide +kernel) (Nat.le_of_ble_eq_true rfl) rfl (fun _ _ _ _ _ _ _ _ hX hM hl => w_J0_length_8abf5 l ho hf hX hM hl)
theorem mv_J0_length_8abf5 : MV yJ0_length_8abf5 cJ0_length_8abf5 1 (some .int) RJ0 0 := ⟨q_22_16, q_22_14, q_22_15, q_22_10, by decide +kernel⟩
def f_J0_isLatin1_aae02 (o : Nat) (μ : Mem) : Option (Int32 × Mem) :=
  (if (1 : Int32) = 0 then some ((0 : Int32), μ) else (if (0 : Int32) = 0 then some ((1 : Int32), μ) else some ((0 : Int32), μ)))
set_option maxHeartbeats 4000000 in
set_option maxRecDepth 100000 in
theorem w_J0_isLatin1_aae02 (l : Launch) {o : Nat} (ho : o < 7) {μ μ2 : Mem} {r : Int32} {H : Heap} {locs : List Loc} {ls : Array Slot} (hf : f_J0_isLatin1_aae02 o μ = some (r, μ2)) (hX : XX E p m meth c cJ0_isLatin1_aae02 1 (some .boolean) s args RJ0) (hM : MM E s μ H locs) (hl : lv_has ls 1 [(0, .ref (aK E o))]) : W p l e (rmF 0 0) s m args below meth c H locs 0 0 (MQ below (QC E (some (.int r)) μ2) args s 0 0 (AA E)) (F0 m 0 ls []) := by
  obtain ⟨⟨hx, hb, hml, hown, hts⟩, hXr⟩ := id hX
  unfold f_J0_isLatin1_aae02 at hf
  refine va_gets hx hb (hXr.2.2.1.2.2.2.2.1) hM.2 hown (hts _ q_22_21) (fun _ h9 => h9) dJ0_isLatin1_aae02_0 ?_
  refine lv_if_eq (tgt := 17) hx hb dJ0_isLatin1_aae02_3 (by decide) (fun hc3 => ?_) (fun hc3 => ?_)
  · replace hf := it_t hf hc3
    refine lv_iconst (v := 0) hx hb dJ0_isLatin1_aae02_17 (by decide) ?_
    exact rt_z hX hM rfl (congrArg (fun z => some (Value.int z)) (so_1 hf)) (so_2 hf) dJ0_isLatin1_aae02_18
  · replace hf := it_f hf hc3
    refine lv_aload_n hx hb dJ0_isLatin1_aae02_6 rfl (lv_at hl 0 rfl) ?_
    refine vk_getf hx hb ((hXr.2.2.1.2.2.2.1.1 _ ho).2.1) hM.2 hown (hts _ q_22_22) (fun _ h9 => h9) dJ0_isLatin1_aae02_7 ?_
    refine lv_if_ne (tgt := 17) hx hb dJ0_isLatin1_aae02_10 (by decide) (fun hc10 => ?_) (fun hc10 => ?_)
    · replace hf := it_f hf hc10
      refine lv_iconst (v := 0) hx hb dJ0_isLatin1_aae02_17 (by decide) ?_
      exact rt_z hX hM rfl (congrArg (fun z => some (Value.int z)) (so_1 hf)) (so_2 hf) dJ0_isLatin1_aae02_18
    · replace hf := it_t hf hc10
      refine lv_iconst (v := 1) hx hb dJ0_isLatin1_aae02_13 (by decide) ?_
      refine lv_goto (tgt := 18) hx hb dJ0_isLatin1_aae02_14 (by decide) ?_
      exact rt_z hX hM rfl (congrArg (fun z => some (Value.int z)) (so_1 hf)) (so_2 hf) dJ0_isLatin1_aae02_18
theorem c_J0_isLatin1_aae02 (l : Launch) {o : Nat} (ho : o < 7) {μ μ2 : Mem} {r : Int32} (hf : f_J0_isLatin1_aae02 o μ = some (r, μ2)) : CT E l yJ0_isLatin1_aae02 cJ0_isLatin1_aae02 1 (some .boolean) (rmF 0 0) [.ref (aK E o)] μ (some (.int r)) μ2 := CT.of (show plainFor yJ0_isLatin1_aae02 = true by decide +kernel) (Nat.le_of_ble_eq_true rfl) rfl (fun _ _ _ _ _ _ _ _ hX hM hl => w_J0_isLatin1_aae02 l ho hf hX hM hl)
theorem mv_J0_isLatin1_aae02 : MV yJ0_isLatin1_aae02 cJ0_isLatin1_aae02 1 (some .boolean) RJ0 0 := ⟨q_23_6, q_23_4, q_23_5, q_22_10, by decide +kernel⟩
def f_J3_checkIndex_8e157 (a0 : Int32) (a1 : Int32) (μ : Mem) : Option (Int32 × Mem) :=
  (if a0 < 0 then none else (if a0 < a1 then some (a0, μ) else none))
set_option maxHeartbeats 4000000 in
set_option maxRecDepth 100000 in
theorem w_J3_checkIndex_8e157 (l : Launch) {a0 : Int32} {a1 : Int32}  {μ μ2 : Mem} {r : Int32} {H : Heap} {locs : List Loc} {ls : Array Slot} (hf : f_J3_checkIndex_8e157 a0 a1 μ = some (r, μ2)) (hX : XX E p m meth c cJ3_checkIndex_8e157 3 (some .int) s args RJ3) (hM : MM E s μ H locs) (hl : lv_has ls 3 [(0, .int a0), (1, .int a1)]) : W p l e (rmF 0 0) s m args below meth c H locs 0 0 (MQ below (QC E (some (.int r)) μ2) args s 0 0 (AA E)) (F0 m 0 ls []) := by
  obtain ⟨⟨hx, hb, hml, hown, hts⟩, hXr⟩ := id hX
  unfold f_J3_checkIndex_8e157 at hf
  refine lv_iload_n hx hb dJ3_checkIndex_8e157_0 rfl (lv_at hl 0 rfl) ?_
  refine lv_if_lt (tgt := 9) hx hb dJ3_checkIndex_8e157_1 (by decide) (fun hc1 => ?_) (fun hc1 => ?_)
  · replace hf := it_t hf hc1
    exact no_none hf
  · replace hf := it_f hf hc1
    refine lv_iload_n hx hb dJ3_checkIndex_8e157_4 rfl (lv_at hl 0 rfl) ?_
    refine lv_iload_n hx hb dJ3_checkIndex_8e157_5 rfl (lv_at hl 1 rfl) ?_
    refine lv_icmp_lt (tgt := 16) hx hb dJ3_checkIndex_8e157_6 (by decide) (fun hc6 => ?_) (fun hc6 => ?_)
    · replace hf := it_t hf hc6
      refine lv_iload_n hx hb dJ3_checkIndex_8e157_16 rfl (lv_at hl 0 rfl) ?_
      exact rt_i hX hM (congrArg (fun z => some (Value.int z)) (so_1 hf)) (so_2 hf) dJ3_checkIndex_8e157_17
    · replace hf := it_f hf hc6
      exact no_none hf
theorem c_J3_checkIndex_8e157 (l : Launch) {a0 : Int32} {a1 : Int32}  {qv : Value} (hqv : qv = .null ∨ ∃ q : Nat, qv = .ref q) {μ μ2 : Mem} {r : Int32} (hf : f_J3_checkIndex_8e157 a0 a1 μ = some (r, μ2)) : CT E l yJ3_checkIndex_8e157 cJ3_checkIndex_8e157 3 (some .int) (rmF 0 0) [.int a0, .int a1, qv] μ (some (.int r)) μ2 := by
  rcases hqv with rfl | ⟨q, rfl⟩
  · exact CT.of (show plainFor yJ3_checkIndex_8e157 = true by decide +kernel) (Nat.le_of_ble_eq_true rfl) (lv0 := [(0, .int a0), (1, .int a1), (2, .null)]) rfl (fun _ _ _ _ _ _ _ _ hX hM hl => w_J3_checkIndex_8e157 l  hf hX hM (lv_sub hl [0, 1] rfl))
  · exact CT.of (show plainFor yJ3_checkIndex_8e157 = true by decide +kernel) (Nat.le_of_ble_eq_true rfl) (lv0 := [(0, .int a0), (1, .int a1), (2, .ref q)]) rfl (fun _ _ _ _ _ _ _ _ hX hM hl => w_J3_checkIndex_8e157 l  hf hX hM (lv_sub hl [0, 1] rfl))
theorem mt_J3_checkIndex_8e157 : MT yJ3_checkIndex_8e157 cJ3_checkIndex_8e157 3 (some .int) 3 := ⟨q_23_18, q_23_16, q_23_17, by decide +kernel⟩
def f_J0_checkIndex_df160 (a0 : Int32) (a1 : Int32) (μ : Mem) : Option (Mem) :=
  bnd (f_J3_checkIndex_8e157 a0 a1 μ) (fun r2 μ1 => some μ1)
set_option maxHeartbeats 4000000 in
set_option maxRecDepth 100000 in
theorem w_J0_checkIndex_df160 (l : Launch) {a0 : Int32} {a1 : Int32}  {μ μ2 : Mem} {H : Heap} {locs : List Loc} {ls : Array Slot} (hf : f_J0_checkIndex_df160 a0 a1 μ = some μ2) (hX : XX E p m meth c cJ0_checkIndex_df160 2 none s args RJ0) (hM : MM E s μ H locs) (hl : lv_has ls 2 [(0, .int a0), (1, .int a1)]) : W p l e (rmF 1 22) s m args below meth c H locs 0 0 (MQ below (QC E (none) μ2) args s 0 0 (AA E)) (F0 m 0 ls []) := by
  obtain ⟨⟨hx, hb, hml, hown, hts⟩, hXr⟩ := id hX
  unfold f_J0_checkIndex_df160 at hf
  refine lv_iload_n hx hb dJ0_checkIndex_df160_0 rfl (lv_at hl 0 rfl) ?_
  refine lv_iload_n hx hb dJ0_checkIndex_df160_1 rfl (lv_at hl 1 rfl) ?_
  obtain ⟨vq, hvq, hZq⟩ := zq_or hXr.2.2.1.2.2.2.2.2
  refine va_gets hx hb hZq hM.2 hown (hts _ q_23_14) (fun _ h9 => h9) dJ0_checkIndex_df160_2 ?_
  replace hf := bnd_some hf
  obtain ⟨r2, μ1, h5, hf⟩ := hf
  refine cl_S (As := [.int a0, .int a1, vq]) (rest := []) (st2 := [.int r2]) (n := 3) hX hM (c_J3_checkIndex_8e157 l hvq h5) mt_J3_checkIndex_8e157 q_23_15 ⟨rfl, rfl⟩ ⟨Nat.le_of_ble_eq_true rfl, Nat.le_of_ble_eq_true rfl⟩ rfl hl.1 rfl (Nat.le_of_ble_eq_true rfl) dJ0_checkIndex_df160_5 rfl (fun H locs hM => ?_)
  refine lv_pop hx hb dJ0_checkIndex_df160_8 rfl ?_
  exact rt_v hX hM rfl (Option.some.inj hf) dJ0_checkIndex_df160_9
theorem c_J0_checkIndex_df160 (l : Launch) {a0 : Int32} {a1 : Int32}  {μ μ2 : Mem} (hf : f_J0_checkIndex_df160 a0 a1 μ = some μ2) : CT E l yJ0_checkIndex_df160 cJ0_checkIndex_df160 2 none (rmF 1 22) [.int a0, .int a1] μ (none) μ2 := CT.of (show plainFor yJ0_checkIndex_df160 = true by decide +kernel) (Nat.le_of_ble_eq_true rfl) rfl (fun _ _ _ _ _ _ _ _ hX hM hl => w_J0_checkIndex_df160 l  hf hX hM hl)
theorem mt_J0_checkIndex_df160 : MT yJ0_checkIndex_df160 cJ0_checkIndex_df160 2 none 2 := ⟨q_23_13, q_23_12, q_22_10, by decide +kernel⟩
def f_J1_charAt_3b067 (a0 : Nat) (a1 : Int32) (μ : Mem) : Option (Int32 × Mem) :=
  bnv (f_J0_checkIndex_df160 a1 (nI (lenS.getD a0 0)) μ) (fun μ1 => gA a1 (lenS.getD a0 0) (gP (chr_ok (((((bytS.getD a0 []).getD a1.toNatClampNeg 0) &&& (255 : Int32)).toUInt32 % 65536).toInt32)) (some (((((bytS.getD a0 []).getD a1.toNatClampNeg 0) &&& (255 : Int32)).toUInt32 % 65536).toInt32, μ1))))
set_option maxHeartbeats 4000000 in
set_option maxRecDepth 100000 in
theorem w_J1_charAt_3b067 (l : Launch) {a0 : Nat} {a1 : Int32} (ha0 : a0 < 7) {μ μ2 : Mem} {r : Int32} {H : Heap} {locs : List Loc} {ls : Array Slot} (hf : f_J1_charAt_3b067 a0 a1 μ = some (r, μ2)) (hX : XX E p m meth c cJ1_charAt_3b067 2 (some .char) s args RJ1) (hM : MM E s μ H locs) (hl : lv_has ls 2 [(0, .ref (aV E a0)), (1, .int a1)]) : W p l e (rmF 2 43) s m args below meth c H locs 0 0 (MQ below (QC E (some (.int r)) μ2) args s 0 0 (AA E)) (F0 m 0 ls []) := by
  obtain ⟨⟨hx, hb, hml, hown, hts⟩, hXr⟩ := id hX
  unfold f_J1_charAt_3b067 at hf
  refine lv_iload_n hx hb dJ1_charAt_3b067_0 rfl (lv_at hl 1 rfl) ?_
  refine lv_aload_n hx hb dJ1_charAt_3b067_1 rfl (lv_at hl 0 rfl) ?_
  refine va_tlen hx hb ((hXr.2.2.1.2.2.2.1.1 _ ha0).2.2.2) hM.2 rfl dJ1_charAt_3b067_2 ?_
  replace hf := bnv_some hf
  obtain ⟨μ1, h3, hf⟩ := hf
  refine cl_S (As := [.int a1, .int (nI (lenS.getD a0 0))]) (rest := []) (st2 := []) (n := 2) hX hM (c_J0_checkIndex_df160 l  h3) mt_J0_checkIndex_df160 q_23_11 ⟨rfl, rfl⟩ ⟨Nat.le_of_ble_eq_true rfl, Nat.le_of_ble_eq_true rfl⟩ rfl hl.1 rfl (Nat.le_of_ble_eq_true rfl) dJ1_charAt_3b067_3 rfl (fun H locs hM => ?_)
  refine lv_aload_n hx hb dJ1_charAt_3b067_6 rfl (lv_at hl 0 rfl) ?_
  refine lv_iload_n hx hb dJ1_charAt_3b067_7 rfl (lv_at hl 1 rfl) ?_
  replace hf := gA_some hf
  obtain ⟨hi, hf⟩ := hf
  refine va_tb hx hb ((hXr.2.2.1.2.2.2.1.1 _ ha0).2.2.2) hM.2 hi rfl dJ1_charAt_3b067_8 ?_
  refine lv_sipush (v := 255) hx hb dJ1_charAt_3b067_9 (by decide) ?_
  refine lv_iand hx hb dJ1_charAt_3b067_12 ?_
  refine lv_i2c hx hb dJ1_charAt_3b067_13 rfl ?_
  replace hf := gP_some hf
  obtain ⟨hz, hf⟩ := hf
  exact rt_z hX hM (chr_e hz) (congrArg (fun z => some (Value.int z)) (so_1 hf)) (so_2 hf) dJ1_charAt_3b067_14
theorem c_J1_charAt_3b067 (l : Launch) {a0 : Nat} {a1 : Int32} (ha0 : a0 < 7) {μ μ2 : Mem} {r : Int32} (hf : f_J1_charAt_3b067 a0 a1 μ = some (r, μ2)) : CT E l yJ1_charAt_3b067 cJ1_charAt_3b067 2 (some .char) (rmF 2 43) [.ref (aV E a0), .int a1] μ (some (.int r)) μ2 := CT.of (show plainFor yJ1_charAt_3b067 = true by decide +kernel) (Nat.le_of_ble_eq_true rfl) rfl (fun _ _ _ _ _ _ _ _ hX hM hl => w_J1_charAt_3b067 l ha0 hf hX hM hl)
theorem mt_J1_charAt_3b067 : MT yJ1_charAt_3b067 cJ1_charAt_3b067 2 (some .char) 2 := ⟨q_23_10, q_23_8, q_23_9, by decide +kernel⟩
def f_J0_charAt_5068e (o : Nat) (a1 : Int32) (μ : Mem) : Option (Int32 × Mem) :=
  bnd (f_J0_isLatin1_aae02 o μ) (fun r2 μ1 => (if r2 = 0 then none else bnd (f_J1_charAt_3b067 o a1 μ1) (fun r4 μ3 => gP (chr_ok r4) (some (r4, μ3)))))
set_option maxHeartbeats 4000000 in
set_option maxRecDepth 100000 in
theorem w_J0_charAt_5068e (l : Launch) {o : Nat} {a1 : Int32} (ho : o < 7) {μ μ2 : Mem} {r : Int32} {H : Heap} {locs : List Loc} {ls : Array Slot} (hf : f_J0_charAt_5068e o a1 μ = some (r, μ2)) (hX : XX E p m meth c cJ0_charAt_5068e 2 (some .char) s args RJ0) (hM : MM E s μ H locs) (hl : lv_has ls 2 [(0, .ref (aK E o)), (1, .int a1)]) : W p l e (rmF 3 64) s m args below meth c H locs 0 0 (MQ below (QC E (some (.int r)) μ2) args s 0 0 (AA E)) (F0 m 0 ls []) := by
  obtain ⟨⟨hx, hb, hml, hown, hts⟩, hXr⟩ := id hX
  unfold f_J0_charAt_5068e at hf
  refine lv_aload_n hx hb dJ0_charAt_5068e_0 rfl (lv_at hl 0 rfl) ?_
  replace hf := bnd_some hf
  obtain ⟨r2, μ1, h1, hf⟩ := hf
  refine cl_VS (As := []) (rest := []) (st2 := [.int r2]) (n := 0) hX hM (c_J0_isLatin1_aae02 l ho h1) mv_J0_isLatin1_aae02 q_23_3 ⟨rfl, rfl⟩ ⟨Nat.le_of_ble_eq_true rfl, Nat.le_of_ble_eq_true rfl⟩ ho rfl rfl hl.1 rfl (Nat.le_of_ble_eq_true rfl) dJ0_charAt_5068e_1 rfl (fun H locs hM => ?_)
  refine lv_if_eq (tgt := 16) hx hb dJ0_charAt_5068e_4 (by decide) (fun hc4 => ?_) (fun hc4 => ?_)
  · replace hf := it_t hf hc4
    refine lv_aload_n hx hb dJ0_charAt_5068e_16 rfl (lv_at hl 0 rfl) ?_
    refine vk_getf hx hb ((hXr.2.2.1.2.2.2.1.1 _ ho).2.2.1) hM.2 hown (hts _ q_22_12) (fun _ h9 => h9) dJ0_charAt_5068e_17 ?_
    refine lv_iload_n hx hb dJ0_charAt_5068e_20 rfl (lv_at hl 1 rfl) ?_
    exact no_none hf
  · replace hf := it_f hf hc4
    refine lv_aload_n hx hb dJ0_charAt_5068e_7 rfl (lv_at hl 0 rfl) ?_
    refine vk_getf hx hb ((hXr.2.2.1.2.2.2.1.1 _ ho).2.2.1) hM.2 hown (hts _ q_22_12) (fun _ h9 => h9) dJ0_charAt_5068e_8 ?_
    refine lv_iload_n hx hb dJ0_charAt_5068e_11 rfl (lv_at hl 1 rfl) ?_
    replace hf := bnd_some hf
    obtain ⟨r4, μ3, h12, hf⟩ := hf
    refine cl_S (As := [.ref (aV E o), .int a1]) (rest := []) (st2 := [.int r4]) (n := 2) hX hM (c_J1_charAt_3b067 l ho h12) mt_J1_charAt_3b067 q_23_7 ⟨rfl, rfl⟩ ⟨Nat.le_of_ble_eq_true rfl, Nat.le_of_ble_eq_true rfl⟩ rfl hl.1 rfl (Nat.le_of_ble_eq_true rfl) dJ0_charAt_5068e_12 rfl (fun H locs hM => ?_)
    replace hf := gP_some hf
    obtain ⟨hz, hf⟩ := hf
    exact rt_z hX hM (chr_e hz) (congrArg (fun z => some (Value.int z)) (so_1 hf)) (so_2 hf) dJ0_charAt_5068e_15
theorem c_J0_charAt_5068e (l : Launch) {o : Nat} {a1 : Int32} (ho : o < 7) {μ μ2 : Mem} {r : Int32} (hf : f_J0_charAt_5068e o a1 μ = some (r, μ2)) : CT E l yJ0_charAt_5068e cJ0_charAt_5068e 2 (some .char) (rmF 3 64) [.ref (aK E o), .int a1] μ (some (.int r)) μ2 := CT.of (show plainFor yJ0_charAt_5068e = true by decide +kernel) (Nat.le_of_ble_eq_true rfl) rfl (fun _ _ _ _ _ _ _ _ hX hM hl => w_J0_charAt_5068e l ho hf hX hM hl)
theorem mv_J0_charAt_5068e : MV yJ0_charAt_5068e cJ0_charAt_5068e 2 (some .char) RJ0 1 := ⟨q_23_2, q_23_0, q_23_1, q_22_10, by decide +kernel⟩
def f_J13_bitCount_95d88 (a0 : Int64) (μ : Mem) : Option (Int32 × Mem) :=
  lt (a0 - ((a0.toUInt64 >>> ((1 : Int32).toInt64.toUInt64 &&& Int64.toUInt64 63)).toInt64 &&& (6148914691236517205 : Int64))) (fun v1 => lt ((v1 &&& (3689348814741910323 : Int64)) + ((v1.toUInt64 >>> ((2 : Int32).toInt64.toUInt64 &&& Int64.toUInt64 63)).toInt64 &&& (3689348814741910323 : Int64))) (fun v2 => lt ((v2 + (v2.toUInt64 >>> ((4 : Int32).toInt64.toUInt64 &&& Int64.toUInt64 63)).toInt64) &&& (1085102592571150095 : Int64)) (fun v3 => lt (v3 + (v3.toUInt64 >>> ((8 : Int32).toInt64.toUInt64 &&& Int64.toUInt64 63)).toInt64) (fun v4 => lt (v4 + (v4.toUInt64 >>> ((16 : Int32).toInt64.toUInt64 &&& Int64.toUInt64 63)).toInt64) (fun v5 => lt (v5 + (v5.toUInt64 >>> ((32 : Int32).toInt64.toUInt64 &&& Int64.toUInt64 63)).toInt64) (fun v6 => some ((v6.toInt32 &&& (127 : Int32)), μ)))))))
set_option maxHeartbeats 4000000 in
set_option maxRecDepth 100000 in
theorem w_J13_bitCount_95d88 (l : Launch) {a0 : Int64}  {μ μ2 : Mem} {r : Int32} {H : Heap} {locs : List Loc} {ls : Array Slot} (hf : f_J13_bitCount_95d88 a0 μ = some (r, μ2)) (hX : XX E p m meth c cJ13_bitCount_95d88 2 (some .int) s args RJ13) (hM : MM E s μ H locs) (hl : lv_has ls 2 [(0, .long a0)]) : W p l e (rmF 0 0) s m args below meth c H locs 0 0 (MQ below (QC E (some (.int r)) μ2) args s 0 0 (AA E)) (F0 m 0 ls []) := by
  obtain ⟨⟨hx, hb, hml, hown, hts⟩, hXr⟩ := id hX
  unfold f_J13_bitCount_95d88 at hf
  refine lv_lload_n hx hb dJ13_bitCount_95d88_0 rfl (lv_at hl 0 rfl) ?_
  refine lv_lload_n hx hb dJ13_bitCount_95d88_1 rfl (lv_at hl 0 rfl) ?_
  refine lv_iconst (v := 1) hx hb dJ13_bitCount_95d88_2 (by decide) ?_
  refine lv_lushr hx hb dJ13_bitCount_95d88_3 rfl ?_
  refine lv_ldc2 (v := 6148914691236517205) hx hb hown (hts _ q_30_2) dJ13_bitCount_95d88_4 ?_
  refine lv_land hx hb dJ13_bitCount_95d88_7 ?_
  refine lv_lsub hx hb dJ13_bitCount_95d88_8 ?_
  refine lv_topl (fun v1 ev1 => ?_)
  replace hf := lt_e ev1 hf
  refine lv_lstore_n (lv' := [(0, .long v1)]) hx hb dJ13_bitCount_95d88_9 rfl hl (by decide) rfl (fun ls hl => ?_)
  refine lv_lload_n hx hb dJ13_bitCount_95d88_10 rfl (lv_at hl 0 rfl) ?_
  refine lv_ldc2 (v := 3689348814741910323) hx hb hown (hts _ q_30_3) dJ13_bitCount_95d88_11 ?_
  refine lv_land hx hb dJ13_bitCount_95d88_14 ?_
  refine lv_lload_n hx hb dJ13_bitCount_95d88_15 rfl (lv_at hl 0 rfl) ?_
  refine lv_iconst (v := 2) hx hb dJ13_bitCount_95d88_16 (by decide) ?_
  refine lv_lushr hx hb dJ13_bitCount_95d88_17 rfl ?_
  refine lv_ldc2 (v := 3689348814741910323) hx hb hown (hts _ q_30_3) dJ13_bitCount_95d88_18 ?_
  refine lv_land hx hb dJ13_bitCount_95d88_21 ?_
  refine lv_ladd hx hb dJ13_bitCount_95d88_22 ?_
  refine lv_topl (fun v2 ev2 => ?_)
  replace hf := lt_e ev2 hf
  refine lv_lstore_n (lv' := [(0, .long v2)]) hx hb dJ13_bitCount_95d88_23 rfl hl (by decide) rfl (fun ls hl => ?_)
  refine lv_lload_n hx hb dJ13_bitCount_95d88_24 rfl (lv_at hl 0 rfl) ?_
  refine lv_lload_n hx hb dJ13_bitCount_95d88_25 rfl (lv_at hl 0 rfl) ?_
  refine lv_iconst (v := 4) hx hb dJ13_bitCount_95d88_26 (by decide) ?_
  refine lv_lushr hx hb dJ13_bitCount_95d88_27 rfl ?_
  refine lv_ladd hx hb dJ13_bitCount_95d88_28 ?_
  refine lv_ldc2 (v := 1085102592571150095) hx hb hown (hts _ q_30_4) dJ13_bitCount_95d88_29 ?_
  refine lv_land hx hb dJ13_bitCount_95d88_32 ?_
  refine lv_topl (fun v3 ev3 => ?_)
  replace hf := lt_e ev3 hf
  refine lv_lstore_n (lv' := [(0, .long v3)]) hx hb dJ13_bitCount_95d88_33 rfl hl (by decide) rfl (fun ls hl => ?_)
  refine lv_lload_n hx hb dJ13_bitCount_95d88_34 rfl (lv_at hl 0 rfl) ?_
  refine lv_lload_n hx hb dJ13_bitCount_95d88_35 rfl (lv_at hl 0 rfl) ?_
  refine lv_bipush (v := 8) hx hb dJ13_bitCount_95d88_36 (by decide) ?_
  refine lv_lushr hx hb dJ13_bitCount_95d88_38 rfl ?_
  refine lv_ladd hx hb dJ13_bitCount_95d88_39 ?_
  refine lv_topl (fun v4 ev4 => ?_)
  replace hf := lt_e ev4 hf
  refine lv_lstore_n (lv' := [(0, .long v4)]) hx hb dJ13_bitCount_95d88_40 rfl hl (by decide) rfl (fun ls hl => ?_)
  refine lv_lload_n hx hb dJ13_bitCount_95d88_41 rfl (lv_at hl 0 rfl) ?_
  refine lv_lload_n hx hb dJ13_bitCount_95d88_42 rfl (lv_at hl 0 rfl) ?_
  refine lv_bipush (v := 16) hx hb dJ13_bitCount_95d88_43 (by decide) ?_
  refine lv_lushr hx hb dJ13_bitCount_95d88_45 rfl ?_
  refine lv_ladd hx hb dJ13_bitCount_95d88_46 ?_
  refine lv_topl (fun v5 ev5 => ?_)
  replace hf := lt_e ev5 hf
  refine lv_lstore_n (lv' := [(0, .long v5)]) hx hb dJ13_bitCount_95d88_47 rfl hl (by decide) rfl (fun ls hl => ?_)
  refine lv_lload_n hx hb dJ13_bitCount_95d88_48 rfl (lv_at hl 0 rfl) ?_
  refine lv_lload_n hx hb dJ13_bitCount_95d88_49 rfl (lv_at hl 0 rfl) ?_
  refine lv_bipush (v := 32) hx hb dJ13_bitCount_95d88_50 (by decide) ?_
  refine lv_lushr hx hb dJ13_bitCount_95d88_52 rfl ?_
  refine lv_ladd hx hb dJ13_bitCount_95d88_53 ?_
  refine lv_topl (fun v6 ev6 => ?_)
  replace hf := lt_e ev6 hf
  refine lv_lstore_n (lv' := [(0, .long v6)]) hx hb dJ13_bitCount_95d88_54 rfl hl (by decide) rfl (fun ls hl => ?_)
  refine lv_lload_n hx hb dJ13_bitCount_95d88_55 rfl (lv_at hl 0 rfl) ?_
  refine lv_l2i hx hb dJ13_bitCount_95d88_56 rfl ?_
  refine lv_bipush (v := 127) hx hb dJ13_bitCount_95d88_57 (by decide) ?_
  refine lv_iand hx hb dJ13_bitCount_95d88_59 ?_
  exact rt_i hX hM (congrArg (fun z => some (Value.int z)) (so_1 hf)) (so_2 hf) dJ13_bitCount_95d88_60
theorem c_J13_bitCount_95d88 (l : Launch) {a0 : Int64}  {μ μ2 : Mem} {r : Int32} (hf : f_J13_bitCount_95d88 a0 μ = some (r, μ2)) : CT E l yJ13_bitCount_95d88 cJ13_bitCount_95d88 2 (some .int) (rmF 0 0) [.long a0] μ (some (.int r)) μ2 := CT.of (show plainFor yJ13_bitCount_95d88 = true by decide +kernel) (Nat.le_of_ble_eq_true rfl) rfl (fun _ _ _ _ _ _ _ _ hX hM hl => w_J13_bitCount_95d88 l  hf hX hM hl)
theorem mt_J13_bitCount_95d88 : MT yJ13_bitCount_95d88 cJ13_bitCount_95d88 2 (some .int) 1 := ⟨q_30_1, q_29_23, q_30_0, by decide +kernel⟩
def f_J7_rangeCheck_23922 (a0 : Int32) (a1 : Int32) (a2 : Int32) (μ : Mem) : Option (Mem) :=
  (if a1 ≤ a2 then (if (0 : Int32) ≤ a1 then (if a2 ≤ a0 then some μ else none) else none) else none)
set_option maxHeartbeats 4000000 in
set_option maxRecDepth 100000 in
theorem w_J7_rangeCheck_23922 (l : Launch) {a0 : Int32} {a1 : Int32} {a2 : Int32}  {μ μ2 : Mem} {H : Heap} {locs : List Loc} {ls : Array Slot} (hf : f_J7_rangeCheck_23922 a0 a1 a2 μ = some μ2) (hX : XX E p m meth c cJ7_rangeCheck_23922 3 none s args RJ7) (hM : MM E s μ H locs) (hl : lv_has ls 3 [(0, .int a0), (1, .int a1), (2, .int a2)]) : W p l e (rmF 0 0) s m args below meth c H locs 0 0 (MQ below (QC E (none) μ2) args s 0 0 (AA E)) (F0 m 0 ls []) := by
  obtain ⟨⟨hx, hb, hml, hown, hts⟩, hXr⟩ := id hX
  unfold f_J7_rangeCheck_23922 at hf
  refine lv_iload_n hx hb dJ7_rangeCheck_23922_0 rfl (lv_at hl 1 rfl) ?_
  refine lv_iload_n hx hb dJ7_rangeCheck_23922_1 rfl (lv_at hl 2 rfl) ?_
  refine lv_icmp_le (tgt := 46) hx hb dJ7_rangeCheck_23922_2 (by decide) (fun hc2 => ?_) (fun hc2 => ?_)
  · replace hf := it_t hf hc2
    refine lv_iload_n hx hb dJ7_rangeCheck_23922_46 rfl (lv_at hl 1 rfl) ?_
    refine lv_if_ge (tgt := 59) hx hb dJ7_rangeCheck_23922_47 (by decide) (fun hc47 => ?_) (fun hc47 => ?_)
    · replace hf := it_t hf hc47
      refine lv_iload_n hx hb dJ7_rangeCheck_23922_59 rfl (lv_at hl 2 rfl) ?_
      refine lv_iload_n hx hb dJ7_rangeCheck_23922_60 rfl (lv_at hl 0 rfl) ?_
      refine lv_icmp_le (tgt := 73) hx hb dJ7_rangeCheck_23922_61 (by decide) (fun hc61 => ?_) (fun hc61 => ?_)
      · replace hf := it_t hf hc61
        exact rt_v hX hM rfl (Option.some.inj hf) dJ7_rangeCheck_23922_73
      · replace hf := it_f hf hc61
        exact no_none hf
    · replace hf := it_f hf hc47
      exact no_none hf
  · replace hf := it_f hf hc2
    exact no_none hf
theorem c_J7_rangeCheck_23922 (l : Launch) {a0 : Int32} {a1 : Int32} {a2 : Int32}  {μ μ2 : Mem} (hf : f_J7_rangeCheck_23922 a0 a1 a2 μ = some μ2) : CT E l yJ7_rangeCheck_23922 cJ7_rangeCheck_23922 3 none (rmF 0 0) [.int a0, .int a1, .int a2] μ (none) μ2 := CT.of (show plainFor yJ7_rangeCheck_23922 = true by decide +kernel) (Nat.le_of_ble_eq_true rfl) rfl (fun _ _ _ _ _ _ _ _ hX hM hl => w_J7_rangeCheck_23922 l  hf hX hM hl)
theorem mt_J7_rangeCheck_23922 : MT yJ7_rangeCheck_23922 cJ7_rangeCheck_23922 3 none 3 := ⟨q_44_7, q_44_6, q_3_15, by decide +kernel⟩
def f_J7_fill_fda19_b10 (a0 : Nat) (a1 : Int32) (a2 : Int32) (a3 : Int32)  : Nat → Int32 → Mem → Option (Mem)
  | 0, _, _ => none
  | n + 1, x4, μ =>
    (if a2 ≤ x4 then some μ else gA x4 (aln a0) (lt (sI μ a0 x4.toNatClampNeg a3) (fun μ2 => lt (x4 + (1 : Int32)) (fun v3 => (f_J7_fill_fda19_b10 a0 a1 a2 a3  n) v3 μ2))))
set_option maxHeartbeats 4000000 in
set_option maxRecDepth 100000 in
theorem w_J7_fill_fda19_b10 (l : Launch) {a0 : Nat} {a1 : Int32} {a2 : Int32} {a3 : Int32} (ha0 : knd a0 = 10) {μ2 : Mem}  (hX : XX E p m meth c cJ7_fill_fda19 5 none s args RJ7)  : ∀ (n : Nat) (x4 : Int32) (μ : Mem), f_J7_fill_fda19_b10 a0 a1 a2 a3  n x4 μ = some μ2 → ∀ (H : Heap) (locs : List Loc), MM E s μ H locs → ∀ ls : Array Slot, lv_has ls 5 [(0, .ref (eA E a0)), (1, .int a1), (2, .int a2), (3, .int a3), (4, .int x4)] → W p l e (rmF 1 22) s m args below meth c H locs 0 0 (MQ below (QC E (none) μ2) args s 0 0 (AA E)) (F0 m 10 ls []) := by
  obtain ⟨⟨hx, hb, hml, hown, hts⟩, hXr⟩ := id hX
  intro n
  induction n with
  | zero => intro x4 μ  hf; exact no_none hf
  | succ n ih =>
    intro x4 μ  hf H locs hM ls hl
    rw [f_J7_fill_fda19_b10] at hf
    have hK10 := ih
    clear ih
    refine lv_iload hx hb dJ7_fill_fda19_10 (lv_at hl 4 rfl) ?_
    refine lv_iload_n hx hb dJ7_fill_fda19_12 rfl (lv_at hl 2 rfl) ?_
    refine lv_icmp_ge (tgt := 27) hx hb dJ7_fill_fda19_13 (by decide) (fun hc13 => ?_) (fun hc13 => ?_)
    · replace hf := it_t hf hc13
      exact rt_v hX hM rfl (Option.some.inj hf) dJ7_fill_fda19_27
    · replace hf := it_f hf hc13
      refine lv_aload_n hx hb dJ7_fill_fda19_16 rfl (lv_at hl 0 rfl) ?_
      refine lv_iload hx hb dJ7_fill_fda19_17 (lv_at hl 4 rfl) ?_
      refine lv_iload_n hx hb dJ7_fill_fda19_19 rfl (lv_at hl 3 rfl) ?_
      replace hf := gA_some hf
      obtain ⟨hi, hf⟩ := hf
      refine ast hX hM ha0 hi dJ7_fill_fda19_20 (fun μ2 H locs eμ2 hM => ?_)
      replace hf := lt_e eμ2 hf
      obtain ⟨v3, ev3⟩ : ∃ y : Int32, y = x4 + (1 : Int32) := ⟨_, rfl⟩
      replace hf := lt_e ev3 hf
      refine lv_iinc (v := v3) (lv' := [(4, .int v3), (0, .ref (eA E a0)), (1, .int a1), (2, .int a2), (3, .int a3)]) hx hb dJ7_fill_fda19_21 hl (k := 4) rfl (by rw [ev3]; rfl) (by decide) rfl (fun ls hl => ?_)
      refine lv_goto (tgt := 10) hx hb dJ7_fill_fda19_24 (by decide) ?_
      exact hK10 _ _  hf _ _ hM _ (lv_sub hl [1, 2, 3, 4, 0] rfl)
def f_J7_fill_fda19 (a0 : Nat) (a1 : Int32) (a2 : Int32) (a3 : Int32) (μ : Mem) : Option (Mem) :=
  bnv (f_J7_rangeCheck_23922 (nI (aln a0)) a1 a2 μ) (fun μ1 => f_J7_fill_fda19_b10 a0 a1 a2 a3  FU a1 μ1)
set_option maxHeartbeats 4000000 in
set_option maxRecDepth 100000 in
theorem w_J7_fill_fda19 (l : Launch) {a0 : Nat} {a1 : Int32} {a2 : Int32} {a3 : Int32} (ha0 : knd a0 = 10) {μ μ2 : Mem} {H : Heap} {locs : List Loc} {ls : Array Slot} (hf : f_J7_fill_fda19 a0 a1 a2 a3 μ = some μ2) (hX : XX E p m meth c cJ7_fill_fda19 5 none s args RJ7) (hM : MM E s μ H locs) (hl : lv_has ls 5 [(0, .ref (eA E a0)), (1, .int a1), (2, .int a2), (3, .int a3)]) : W p l e (rmF 1 22) s m args below meth c H locs 0 0 (MQ below (QC E (none) μ2) args s 0 0 (AA E)) (F0 m 0 ls []) := by
  obtain ⟨⟨hx, hb, hml, hown, hts⟩, hXr⟩ := id hX
  unfold f_J7_fill_fda19 at hf
  refine lv_aload_n hx hb dJ7_fill_fda19_0 rfl (lv_at hl 0 rfl) ?_
  refine aleI hX hM ha0 dJ7_fill_fda19_1 ?_
  refine lv_iload_n hx hb dJ7_fill_fda19_2 rfl (lv_at hl 1 rfl) ?_
  refine lv_iload_n hx hb dJ7_fill_fda19_3 rfl (lv_at hl 2 rfl) ?_
  replace hf := bnv_some hf
  obtain ⟨μ1, h4, hf⟩ := hf
  refine cl_S (As := [.int (nI (aln a0)), .int a1, .int a2]) (rest := []) (st2 := []) (n := 3) hX hM (c_J7_rangeCheck_23922 l  h4) mt_J7_rangeCheck_23922 q_44_5 ⟨rfl, rfl⟩ ⟨Nat.le_of_ble_eq_true rfl, Nat.le_of_ble_eq_true rfl⟩ rfl hl.1 rfl (Nat.le_of_ble_eq_true rfl) dJ7_fill_fda19_4 rfl (fun H locs hM => ?_)
  refine lv_iload_n hx hb dJ7_fill_fda19_7 rfl (lv_at hl 1 rfl) ?_
  refine lv_istore (lv' := [(4, .int a1), (0, .ref (eA E a0)), (1, .int a1), (2, .int a2), (3, .int a3)]) hx hb dJ7_fill_fda19_8 hl (by decide) rfl (fun ls hl => ?_)
  exact w_J7_fill_fda19_b10 l ha0 hX  FU _ _  hf _ _ hM _ (lv_sub hl [1, 2, 3, 4, 0] rfl)
theorem c_J7_fill_fda19 (l : Launch) {a0 : Nat} {a1 : Int32} {a2 : Int32} {a3 : Int32} (ha0 : knd a0 = 10) {μ μ2 : Mem} (hf : f_J7_fill_fda19 a0 a1 a2 a3 μ = some μ2) : CT E l yJ7_fill_fda19 cJ7_fill_fda19 5 none (rmF 1 22) [.ref (eA E a0), .int a1, .int a2, .int a3] μ (none) μ2 := CT.of (show plainFor yJ7_fill_fda19 = true by decide +kernel) (Nat.le_of_ble_eq_true rfl) rfl (fun _ _ _ _ _ _ _ _ hX hM hl => w_J7_fill_fda19 l ha0 hf hX hM hl)
theorem mt_J7_fill_fda19 : MT yJ7_fill_fda19 cJ7_fill_fda19 5 none 4 := ⟨q_44_4, q_44_3, q_3_15, by decide +kernel⟩
def f_J7_fill_d0a16_b6 (a0 : Nat) (a1 : Int64)  : Nat → Int32 → Int32 → Mem → Option (Mem)
  | 0, _, _, _ => none
  | n + 1, x3, x4, μ =>
    (if x4 ≤ x3 then some μ else gA x3 (aln a0) (lt (sL μ a0 x3.toNatClampNeg a1) (fun μ2 => lt (x3 + (1 : Int32)) (fun v3 => (f_J7_fill_d0a16_b6 a0 a1  n) v3 x4 μ2))))
set_option maxHeartbeats 4000000 in
set_option maxRecDepth 100000 in
theorem w_J7_fill_d0a16_b6 (l : Launch) {a0 : Nat} {a1 : Int64} (ha0 : knd a0 = 11) {μ2 : Mem}  (hX : XX E p m meth c cJ7_fill_d0a16 5 none s args RJ7)  : ∀ (n : Nat) (x3 : Int32) (x4 : Int32) (μ : Mem), f_J7_fill_d0a16_b6 a0 a1  n x3 x4 μ = some μ2 → ∀ (H : Heap) (locs : List Loc), MM E s μ H locs → ∀ ls : Array Slot, lv_has ls 5 [(0, .ref (eA E a0)), (1, .long a1), (3, .int x3), (4, .int x4)] → W p l e (rmF 0 0) s m args below meth c H locs 0 0 (MQ below (QC E (none) μ2) args s 0 0 (AA E)) (F0 m 6 ls []) := by
  obtain ⟨⟨hx, hb, hml, hown, hts⟩, hXr⟩ := id hX
  intro n
  induction n with
  | zero => intro x3 x4 μ  hf; exact no_none hf
  | succ n ih =>
    intro x3 x4 μ  hf H locs hM ls hl
    rw [f_J7_fill_d0a16_b6] at hf
    have hK6 := ih
    clear ih
    refine lv_iload_n hx hb dJ7_fill_d0a16_6 rfl (lv_at hl 2 rfl) ?_
    refine lv_iload hx hb dJ7_fill_d0a16_7 (lv_at hl 3 rfl) ?_
    refine lv_icmp_ge (tgt := 22) hx hb dJ7_fill_d0a16_9 (by decide) (fun hc9 => ?_) (fun hc9 => ?_)
    · replace hf := it_t hf hc9
      exact rt_v hX hM rfl (Option.some.inj hf) dJ7_fill_d0a16_22
    · replace hf := it_f hf hc9
      refine lv_aload_n hx hb dJ7_fill_d0a16_12 rfl (lv_at hl 0 rfl) ?_
      refine lv_iload_n hx hb dJ7_fill_d0a16_13 rfl (lv_at hl 2 rfl) ?_
      refine lv_lload_n hx hb dJ7_fill_d0a16_14 rfl (lv_at hl 1 rfl) ?_
      replace hf := gA_some hf
      obtain ⟨hi, hf⟩ := hf
      refine lst hX hM ha0 hi dJ7_fill_d0a16_15 (fun μ2 H locs eμ2 hM => ?_)
      replace hf := lt_e eμ2 hf
      obtain ⟨v3, ev3⟩ : ∃ y : Int32, y = x3 + (1 : Int32) := ⟨_, rfl⟩
      replace hf := lt_e ev3 hf
      refine lv_iinc (v := v3) (lv' := [(3, .int v3), (0, .ref (eA E a0)), (1, .long a1), (4, .int x4)]) hx hb dJ7_fill_d0a16_16 hl (k := 2) rfl (by rw [ev3]; rfl) (by decide) rfl (fun ls hl => ?_)
      refine lv_goto (tgt := 6) hx hb dJ7_fill_d0a16_19 (by decide) ?_
      exact hK6 _ _ _  hf _ _ hM _ (lv_sub hl [1, 2, 0, 3] rfl)
def f_J7_fill_d0a16 (a0 : Nat) (a1 : Int64) (μ : Mem) : Option (Mem) :=
  lt (nI (aln a0)) (fun v1 => f_J7_fill_d0a16_b6 a0 a1  FU (0 : Int32) v1 μ)
set_option maxHeartbeats 4000000 in
set_option maxRecDepth 100000 in
theorem w_J7_fill_d0a16 (l : Launch) {a0 : Nat} {a1 : Int64} (ha0 : knd a0 = 11) {μ μ2 : Mem} {H : Heap} {locs : List Loc} {ls : Array Slot} (hf : f_J7_fill_d0a16 a0 a1 μ = some μ2) (hX : XX E p m meth c cJ7_fill_d0a16 5 none s args RJ7) (hM : MM E s μ H locs) (hl : lv_has ls 5 [(0, .ref (eA E a0)), (1, .long a1)]) : W p l e (rmF 0 0) s m args below meth c H locs 0 0 (MQ below (QC E (none) μ2) args s 0 0 (AA E)) (F0 m 0 ls []) := by
  obtain ⟨⟨hx, hb, hml, hown, hts⟩, hXr⟩ := id hX
  unfold f_J7_fill_d0a16 at hf
  refine lv_iconst (v := 0) hx hb dJ7_fill_d0a16_0 (by decide) ?_
  refine lv_istore_n (lv' := [(3, .int (0 : Int32)), (0, .ref (eA E a0)), (1, .long a1)]) hx hb dJ7_fill_d0a16_1 rfl hl (by decide) rfl (fun ls hl => ?_)
  refine lv_aload_n hx hb dJ7_fill_d0a16_2 rfl (lv_at hl 1 rfl) ?_
  refine aleL hX hM ha0 dJ7_fill_d0a16_3 ?_
  refine lv_topi (fun v1 ev1 => ?_)
  replace hf := lt_e ev1 hf
  refine lv_istore (lv' := [(4, .int v1), (3, .int (0 : Int32)), (0, .ref (eA E a0)), (1, .long a1)]) hx hb dJ7_fill_d0a16_4 hl (by decide) rfl (fun ls hl => ?_)
  exact w_J7_fill_d0a16_b6 l ha0 hX  FU _ _ _  hf _ _ hM _ (lv_sub hl [2, 3, 1, 0] rfl)
theorem c_J7_fill_d0a16 (l : Launch) {a0 : Nat} {a1 : Int64} (ha0 : knd a0 = 11) {μ μ2 : Mem} (hf : f_J7_fill_d0a16 a0 a1 μ = some μ2) : CT E l yJ7_fill_d0a16 cJ7_fill_d0a16 5 none (rmF 0 0) [.ref (eA E a0), .long a1] μ (none) μ2 := CT.of (show plainFor yJ7_fill_d0a16 = true by decide +kernel) (Nat.le_of_ble_eq_true rfl) rfl (fun _ _ _ _ _ _ _ _ hX hM hl => w_J7_fill_d0a16 l ha0 hf hX hM hl)
theorem mt_J7_fill_d0a16 : MT yJ7_fill_d0a16 cJ7_fill_d0a16 5 none 2 := ⟨q_49_5, q_49_4, q_3_15, by decide +kernel⟩
def f_Jxe99ae_isNaN_b9ae7 (a0 : UInt64) (μ : Mem) : Option (Int32 × Mem) :=
  (if (Op.cmpValue (FP.dcmp a0 a0) CmpOp.l) = 0 then some ((0 : Int32), μ) else some ((1 : Int32), μ))
set_option maxHeartbeats 4000000 in
set_option maxRecDepth 100000 in
theorem w_Jxe99ae_isNaN_b9ae7 (l : Launch) {a0 : UInt64}  {μ μ2 : Mem} {r : Int32} {H : Heap} {locs : List Loc} {ls : Array Slot} (hf : f_Jxe99ae_isNaN_b9ae7 a0 μ = some (r, μ2)) (hX : XX E p m meth c cJxe99ae_isNaN_b9ae7 2 (some .boolean) s args RJxe99ae) (hM : MM E s μ H locs) (hl : lv_has ls 2 [(0, .double a0)]) : W p l e (rmF 0 0) s m args below meth c H locs 0 0 (MQ below (QC E (some (.int r)) μ2) args s 0 0 (AA E)) (F0 m 0 ls []) := by
  obtain ⟨⟨hx, hb, hml, hown, hts⟩, hXr⟩ := id hX
  unfold f_Jxe99ae_isNaN_b9ae7 at hf
  refine lv_dload_n hx hb dJxe99ae_isNaN_b9ae7_0 rfl (lv_at hl 0 rfl) ?_
  refine lv_dload_n hx hb dJxe99ae_isNaN_b9ae7_1 rfl (lv_at hl 0 rfl) ?_
  refine lv_dcmp hx hb dJxe99ae_isNaN_b9ae7_2 ?_
  refine lv_if_eq (tgt := 10) hx hb dJxe99ae_isNaN_b9ae7_3 (by decide) (fun hc3 => ?_) (fun hc3 => ?_)
  · replace hf := it_t hf hc3
    refine lv_iconst (v := 0) hx hb dJxe99ae_isNaN_b9ae7_10 (by decide) ?_
    exact rt_z hX hM rfl (congrArg (fun z => some (Value.int z)) (so_1 hf)) (so_2 hf) dJxe99ae_isNaN_b9ae7_11
  · replace hf := it_f hf hc3
    refine lv_iconst (v := 1) hx hb dJxe99ae_isNaN_b9ae7_6 (by decide) ?_
    refine lv_goto (tgt := 11) hx hb dJxe99ae_isNaN_b9ae7_7 (by decide) ?_
    exact rt_z hX hM rfl (congrArg (fun z => some (Value.int z)) (so_1 hf)) (so_2 hf) dJxe99ae_isNaN_b9ae7_11
theorem c_Jxe99ae_isNaN_b9ae7 (l : Launch) {a0 : UInt64}  {μ μ2 : Mem} {r : Int32} (hf : f_Jxe99ae_isNaN_b9ae7 a0 μ = some (r, μ2)) : CT E l yJxe99ae_isNaN_b9ae7 cJxe99ae_isNaN_b9ae7 2 (some .boolean) (rmF 0 0) [.double a0] μ (some (.int r)) μ2 := CT.of (show plainFor yJxe99ae_isNaN_b9ae7 = true by decide +kernel) (Nat.le_of_ble_eq_true rfl) rfl (fun _ _ _ _ _ _ _ _ hX hM hl => w_Jxe99ae_isNaN_b9ae7 l  hf hX hM hl)
theorem mt_Jxe99ae_isNaN_b9ae7 : MT yJxe99ae_isNaN_b9ae7 cJxe99ae_isNaN_b9ae7 2 (some .boolean) 1 := ⟨q_37_21, q_37_20, q_37_12, by decide +kernel⟩
def f_Jxe99ae_doubleToLongBits_ccdee (a0 : UInt64) (μ : Mem) : Option (Int64 × Mem) :=
  bnd (f_Jxe99ae_isNaN_b9ae7 a0 μ) (fun r2 μ1 => (if r2 = 0 then some (a0.toInt64, μ1) else some ((9221120237041090560 : Int64), μ1)))
set_option maxHeartbeats 4000000 in
set_option maxRecDepth 100000 in
theorem w_Jxe99ae_doubleToLongBits_ccdee (l : Launch) {a0 : UInt64}  {μ μ2 : Mem} {r : Int64} {H : Heap} {locs : List Loc} {ls : Array Slot} (hf : f_Jxe99ae_doubleToLongBits_ccdee a0 μ = some (r, μ2)) (hX : XX E p m meth c cJxe99ae_doubleToLongBits_ccdee 2 (some .long) s args RJxe99ae) (hM : MM E s μ H locs) (hl : lv_has ls 2 [(0, .double a0)]) : W p l e (rmF 1 40) s m args below meth c H locs 0 0 (MQ below (QC E (some (.long r)) μ2) args s 0 0 (AA E)) (F0 m 0 ls []) := by
  obtain ⟨⟨hx, hb, hml, hown, hts⟩, hXr⟩ := id hX
  unfold f_Jxe99ae_doubleToLongBits_ccdee at hf
  refine lv_dload_n hx hb dJxe99ae_doubleToLongBits_ccdee_0 rfl (lv_at hl 0 rfl) ?_
  replace hf := bnd_some hf
  obtain ⟨r2, μ1, h1, hf⟩ := hf
  refine cl_S (As := [.double a0]) (rest := []) (st2 := [.int r2]) (n := 1) hX hM (c_Jxe99ae_isNaN_b9ae7 l  h1) mt_Jxe99ae_isNaN_b9ae7 q_37_19 ⟨rfl, rfl⟩ ⟨Nat.le_of_ble_eq_true rfl, Nat.le_of_ble_eq_true rfl⟩ rfl hl.1 rfl (Nat.le_of_ble_eq_true rfl) dJxe99ae_doubleToLongBits_ccdee_1 rfl (fun H locs hM => ?_)
  refine lv_if_ne (tgt := 12) hx hb dJxe99ae_doubleToLongBits_ccdee_4 (by decide) (fun hc4 => ?_) (fun hc4 => ?_)
  · replace hf := it_f hf hc4
    refine lv_ldc2 (v := 9221120237041090560) hx hb hown (hts _ q_37_18) dJxe99ae_doubleToLongBits_ccdee_12 ?_
    exact rt_l hX hM (congrArg (fun z => some (Value.long z)) (so_1 hf)) (so_2 hf) dJxe99ae_doubleToLongBits_ccdee_15
  · replace hf := it_t hf hc4
    refine lv_dload_n hx hb dJxe99ae_doubleToLongBits_ccdee_7 rfl (lv_at hl 0 rfl) ?_
    refine vn_d2l (rest := []) hx hb (hml.trans hl.1.symm) hown (hts _ q_37_14) (hts _ q_37_15) (hts _ q_37_16) (hts _ q_37_17) (Nat.le_of_ble_eq_true rfl) (Nat.le_of_ble_eq_true rfl) dJxe99ae_doubleToLongBits_ccdee_8 ?_
    exact rt_l hX hM (congrArg (fun z => some (Value.long z)) (so_1 hf)) (so_2 hf) dJxe99ae_doubleToLongBits_ccdee_11
theorem c_Jxe99ae_doubleToLongBits_ccdee (l : Launch) {a0 : UInt64}  {μ μ2 : Mem} {r : Int64} (hf : f_Jxe99ae_doubleToLongBits_ccdee a0 μ = some (r, μ2)) : CT E l yJxe99ae_doubleToLongBits_ccdee cJxe99ae_doubleToLongBits_ccdee 2 (some .long) (rmF 1 40) [.double a0] μ (some (.long r)) μ2 := CT.of (show plainFor yJxe99ae_doubleToLongBits_ccdee = true by decide +kernel) (Nat.le_of_ble_eq_true rfl) rfl (fun _ _ _ _ _ _ _ _ hX hM hl => w_Jxe99ae_doubleToLongBits_ccdee l  hf hX hM hl)
theorem mt_Jxe99ae_doubleToLongBits_ccdee : MT yJxe99ae_doubleToLongBits_ccdee cJxe99ae_doubleToLongBits_ccdee 2 (some .long) 1 := ⟨q_37_13, q_37_11, q_37_12, by decide +kernel⟩
def f_Jxf58ca_isNaN_12338 (a0 : UInt32) (μ : Mem) : Option (Int32 × Mem) :=
  (if (Op.cmpValue (FP.fcmp a0 a0) CmpOp.l) = 0 then some ((0 : Int32), μ) else some ((1 : Int32), μ))
set_option maxHeartbeats 4000000 in
set_option maxRecDepth 100000 in
theorem w_Jxf58ca_isNaN_12338 (l : Launch) {a0 : UInt32}  {μ μ2 : Mem} {r : Int32} {H : Heap} {locs : List Loc} {ls : Array Slot} (hf : f_Jxf58ca_isNaN_12338 a0 μ = some (r, μ2)) (hX : XX E p m meth c cJxf58ca_isNaN_12338 1 (some .boolean) s args RJxf58ca) (hM : MM E s μ H locs) (hl : lv_has ls 1 [(0, .float a0)]) : W p l e (rmF 0 0) s m args below meth c H locs 0 0 (MQ below (QC E (some (.int r)) μ2) args s 0 0 (AA E)) (F0 m 0 ls []) := by
  obtain ⟨⟨hx, hb, hml, hown, hts⟩, hXr⟩ := id hX
  unfold f_Jxf58ca_isNaN_12338 at hf
  refine lv_fload_n hx hb dJxf58ca_isNaN_12338_0 rfl (lv_at hl 0 rfl) ?_
  refine lv_fload_n hx hb dJxf58ca_isNaN_12338_1 rfl (lv_at hl 0 rfl) ?_
  refine lv_fcmp hx hb dJxf58ca_isNaN_12338_2 ?_
  refine lv_if_eq (tgt := 10) hx hb dJxf58ca_isNaN_12338_3 (by decide) (fun hc3 => ?_) (fun hc3 => ?_)
  · replace hf := it_t hf hc3
    refine lv_iconst (v := 0) hx hb dJxf58ca_isNaN_12338_10 (by decide) ?_
    exact rt_z hX hM rfl (congrArg (fun z => some (Value.int z)) (so_1 hf)) (so_2 hf) dJxf58ca_isNaN_12338_11
  · replace hf := it_f hf hc3
    refine lv_iconst (v := 1) hx hb dJxf58ca_isNaN_12338_6 (by decide) ?_
    refine lv_goto (tgt := 11) hx hb dJxf58ca_isNaN_12338_7 (by decide) ?_
    exact rt_z hX hM rfl (congrArg (fun z => some (Value.int z)) (so_1 hf)) (so_2 hf) dJxf58ca_isNaN_12338_11
theorem c_Jxf58ca_isNaN_12338 (l : Launch) {a0 : UInt32}  {μ μ2 : Mem} {r : Int32} (hf : f_Jxf58ca_isNaN_12338 a0 μ = some (r, μ2)) : CT E l yJxf58ca_isNaN_12338 cJxf58ca_isNaN_12338 1 (some .boolean) (rmF 0 0) [.float a0] μ (some (.int r)) μ2 := CT.of (show plainFor yJxf58ca_isNaN_12338 = true by decide +kernel) (Nat.le_of_ble_eq_true rfl) rfl (fun _ _ _ _ _ _ _ _ hX hM hl => w_Jxf58ca_isNaN_12338 l  hf hX hM hl)
theorem mt_Jxf58ca_isNaN_12338 : MT yJxf58ca_isNaN_12338 cJxf58ca_isNaN_12338 1 (some .boolean) 1 := ⟨q_39_1, q_39_0, q_38_16, by decide +kernel⟩
def f_Jxf58ca_floatToIntBits_5c35a (a0 : UInt32) (μ : Mem) : Option (Int32 × Mem) :=
  bnd (f_Jxf58ca_isNaN_12338 a0 μ) (fun r2 μ1 => (if r2 = 0 then some (a0.toInt32, μ1) else some ((2143289344 : Int32), μ1)))
set_option maxHeartbeats 4000000 in
set_option maxRecDepth 100000 in
theorem w_Jxf58ca_floatToIntBits_5c35a (l : Launch) {a0 : UInt32}  {μ μ2 : Mem} {r : Int32} {H : Heap} {locs : List Loc} {ls : Array Slot} (hf : f_Jxf58ca_floatToIntBits_5c35a a0 μ = some (r, μ2)) (hX : XX E p m meth c cJxf58ca_floatToIntBits_5c35a 1 (some .int) s args RJxf58ca) (hM : MM E s μ H locs) (hl : lv_has ls 1 [(0, .float a0)]) : W p l e (rmF 1 40) s m args below meth c H locs 0 0 (MQ below (QC E (some (.int r)) μ2) args s 0 0 (AA E)) (F0 m 0 ls []) := by
  obtain ⟨⟨hx, hb, hml, hown, hts⟩, hXr⟩ := id hX
  unfold f_Jxf58ca_floatToIntBits_5c35a at hf
  refine lv_fload_n hx hb dJxf58ca_floatToIntBits_5c35a_0 rfl (lv_at hl 0 rfl) ?_
  replace hf := bnd_some hf
  obtain ⟨r2, μ1, h1, hf⟩ := hf
  refine cl_S (As := [.float a0]) (rest := []) (st2 := [.int r2]) (n := 1) hX hM (c_Jxf58ca_isNaN_12338 l  h1) mt_Jxf58ca_isNaN_12338 q_38_23 ⟨rfl, rfl⟩ ⟨Nat.le_of_ble_eq_true rfl, Nat.le_of_ble_eq_true rfl⟩ rfl hl.1 rfl (Nat.le_of_ble_eq_true rfl) dJxf58ca_floatToIntBits_5c35a_1 rfl (fun H locs hM => ?_)
  refine lv_if_ne (tgt := 12) hx hb dJxf58ca_floatToIntBits_5c35a_4 (by decide) (fun hc4 => ?_) (fun hc4 => ?_)
  · replace hf := it_f hf hc4
    refine lv_ldc (v := 2143289344) hx hb hown (hts _ q_38_22) dJxf58ca_floatToIntBits_5c35a_12 ?_
    exact rt_i hX hM (congrArg (fun z => some (Value.int z)) (so_1 hf)) (so_2 hf) dJxf58ca_floatToIntBits_5c35a_14
  · replace hf := it_t hf hc4
    refine lv_fload_n hx hb dJxf58ca_floatToIntBits_5c35a_7 rfl (lv_at hl 0 rfl) ?_
    refine vn_f2i (rest := []) hx hb (hml.trans hl.1.symm) hown (hts _ q_38_18) (hts _ q_38_19) (hts _ q_38_20) (hts _ q_38_21) (Nat.le_of_ble_eq_true rfl) (Nat.le_of_ble_eq_true rfl) dJxf58ca_floatToIntBits_5c35a_8 ?_
    exact rt_i hX hM (congrArg (fun z => some (Value.int z)) (so_1 hf)) (so_2 hf) dJxf58ca_floatToIntBits_5c35a_11
theorem c_Jxf58ca_floatToIntBits_5c35a (l : Launch) {a0 : UInt32}  {μ μ2 : Mem} {r : Int32} (hf : f_Jxf58ca_floatToIntBits_5c35a a0 μ = some (r, μ2)) : CT E l yJxf58ca_floatToIntBits_5c35a cJxf58ca_floatToIntBits_5c35a 1 (some .int) (rmF 1 40) [.float a0] μ (some (.int r)) μ2 := CT.of (show plainFor yJxf58ca_floatToIntBits_5c35a = true by decide +kernel) (Nat.le_of_ble_eq_true rfl) rfl (fun _ _ _ _ _ _ _ _ hX hM hl => w_Jxf58ca_floatToIntBits_5c35a l  hf hX hM hl)
theorem mt_Jxf58ca_floatToIntBits_5c35a : MT yJxf58ca_floatToIntBits_5c35a cJxf58ca_floatToIntBits_5c35a 1 (some .int) 1 := ⟨q_38_17, q_38_15, q_38_16, by decide +kernel⟩
end PG
