section PG
variable {p : Program} {e : Env} {s : State} {m : MethodId} {args : Array Value} {below : List Frame} {meth : Method} {c : Code} {E : EE}
def f_X10_wind (o : Nat) (a1 : Int32) (a2 : Int32) (a3 : Int32) (a4 : Int32) (μ : Mem) : Option (Int32 × Mem) :=
  bnd (f_X10_below a1 (4 : Int32) μ) (fun r2 μ1 => (if r2 = 0 then some ((-1 : Int32), μ1) else bnd (f_X10_below a2 (4 : Int32) μ1) (fun r4 μ3 => (if r4 = 0 then some ((-1 : Int32), μ3) else bnd (f_X10_below a3 (8 : Int32) μ3) (fun r6 μ5 => (if r6 = 0 then some ((-2 : Int32), μ5) else bnd (f_X10_below a4 (4 : Int32) μ5) (fun r8 μ7 => (if r8 = 0 then some ((-2 : Int32), μ7) else bnd (f_X6_fromIn (rf o 0) a1 a2 μ7) (fun r10 μ9 => bnd (f_X6_forceIn (rf o 0) a1 a2 μ9) (fun r12 μ11 => lt (((10 : Int32) * r10) + r12) (fun v13 => bnv (f_X6_putWind (rf o 0) a1 a2 a3 a4 μ11) (fun μ14 => some (v13, μ14)))))))))))))
set_option maxHeartbeats 4000000 in
set_option maxRecDepth 100000 in
theorem w_X10_wind (l : Launch) {o : Nat} {a1 : Int32} {a2 : Int32} {a3 : Int32} {a4 : Int32} (ho : knd o = 8) {μ μ2 : Mem} {r : Int32} {H : Heap} {locs : List Loc} {ls : Array Slot} (hf : f_X10_wind o a1 a2 a3 a4 μ = some (r, μ2)) (hX : XX E p m meth c cX10_wind 6 (some .int) s args RX10) (hM : MM E s μ H locs) (hl : lv_has ls 6 [(0, .ref (eA E o)), (1, .int a1), (2, .int a2), (3, .int a3), (4, .int a4)]) : W p l e (rmF 1 24) s m args below meth c H locs 0 0 (MQ below (QC E (some (.int r)) μ2) args s 0 0 (AA E)) (F0 m 0 ls []) := by
  obtain ⟨⟨hx, hb, hml, hown, hts⟩, hXr⟩ := id hX
  unfold f_X10_wind at hf
  refine lv_iload_n hx hb dX10_wind_0 rfl (lv_at hl 1 rfl) ?_
  refine lv_iconst (v := 4) hx hb dX10_wind_1 (by decide) ?_
  replace hf := bnd_some hf
  obtain ⟨r2, μ1, h2, hf⟩ := hf
  refine cl_S (As := [.int a1, .int (4 : Int32)]) (rest := []) (st2 := [.int r2]) (n := 2) hX hM (c_X10_below l  h2) mt_X10_below q_8_1 ⟨rfl, rfl⟩ ⟨Nat.le_of_ble_eq_true rfl, Nat.le_of_ble_eq_true rfl⟩ rfl hl.1 rfl (Nat.le_of_ble_eq_true rfl) dX10_wind_2 rfl (fun H locs hM => ?_)
  refine lv_if_eq (tgt := 16) hx hb dX10_wind_5 (by decide) (fun hc5 => ?_) (fun hc5 => ?_)
  · replace hf := it_t hf hc5
    refine lv_iconst (v := (-1)) hx hb dX10_wind_16 (by decide) ?_
    exact rt_i hX hM (congrArg (fun z => some (Value.int z)) (so_1 hf)) (so_2 hf) dX10_wind_17
  · replace hf := it_f hf hc5
    refine lv_iload_n hx hb dX10_wind_8 rfl (lv_at hl 2 rfl) ?_
    refine lv_iconst (v := 4) hx hb dX10_wind_9 (by decide) ?_
    replace hf := bnd_some hf
    obtain ⟨r4, μ3, h10, hf⟩ := hf
    refine cl_S (As := [.int a2, .int (4 : Int32)]) (rest := []) (st2 := [.int r4]) (n := 2) hX hM (c_X10_below l  h10) mt_X10_below q_8_1 ⟨rfl, rfl⟩ ⟨Nat.le_of_ble_eq_true rfl, Nat.le_of_ble_eq_true rfl⟩ rfl hl.1 rfl (Nat.le_of_ble_eq_true rfl) dX10_wind_10 rfl (fun H locs hM => ?_)
    refine lv_if_ne (tgt := 18) hx hb dX10_wind_13 (by decide) (fun hc13 => ?_) (fun hc13 => ?_)
    · replace hf := it_f hf hc13
      refine lv_iload_n hx hb dX10_wind_18 rfl (lv_at hl 3 rfl) ?_
      refine lv_bipush (v := 8) hx hb dX10_wind_19 (by decide) ?_
      replace hf := bnd_some hf
      obtain ⟨r6, μ5, h21, hf⟩ := hf
      refine cl_S (As := [.int a3, .int (8 : Int32)]) (rest := []) (st2 := [.int r6]) (n := 2) hX hM (c_X10_below l  h21) mt_X10_below q_8_1 ⟨rfl, rfl⟩ ⟨Nat.le_of_ble_eq_true rfl, Nat.le_of_ble_eq_true rfl⟩ rfl hl.1 rfl (Nat.le_of_ble_eq_true rfl) dX10_wind_21 rfl (fun H locs hM => ?_)
      refine lv_if_eq (tgt := 36) hx hb dX10_wind_24 (by decide) (fun hc24 => ?_) (fun hc24 => ?_)
      · replace hf := it_t hf hc24
        refine lv_bipush (v := (-2)) hx hb dX10_wind_36 (by decide) ?_
        exact rt_i hX hM (congrArg (fun z => some (Value.int z)) (so_1 hf)) (so_2 hf) dX10_wind_38
      · replace hf := it_f hf hc24
        refine lv_iload hx hb dX10_wind_27 (lv_at hl 4 rfl) ?_
        refine lv_iconst (v := 4) hx hb dX10_wind_29 (by decide) ?_
        replace hf := bnd_some hf
        obtain ⟨r8, μ7, h30, hf⟩ := hf
        refine cl_S (As := [.int a4, .int (4 : Int32)]) (rest := []) (st2 := [.int r8]) (n := 2) hX hM (c_X10_below l  h30) mt_X10_below q_8_1 ⟨rfl, rfl⟩ ⟨Nat.le_of_ble_eq_true rfl, Nat.le_of_ble_eq_true rfl⟩ rfl hl.1 rfl (Nat.le_of_ble_eq_true rfl) dX10_wind_30 rfl (fun H locs hM => ?_)
        refine lv_if_ne (tgt := 39) hx hb dX10_wind_33 (by decide) (fun hc33 => ?_) (fun hc33 => ?_)
        · replace hf := it_f hf hc33
          refine lv_bipush (v := 10) hx hb dX10_wind_39 (by decide) ?_
          refine lv_aload_n hx hb dX10_wind_41 rfl (lv_at hl 0 rfl) ?_
          refine gf_8_0 hX hM ho q_1_16 dX10_wind_42 ?_
          refine lv_iload_n hx hb dX10_wind_45 rfl (lv_at hl 1 rfl) ?_
          refine lv_iload_n hx hb dX10_wind_46 rfl (lv_at hl 2 rfl) ?_
          replace hf := bnd_some hf
          obtain ⟨r10, μ9, h47, hf⟩ := hf
          refine cl_V (As := [.int a1, .int a2]) (rest := [.int (10 : Int32)]) (st2 := [.int r10, .int (10 : Int32)]) (n := 2) hX hM (c_X6_fromIn l (kr_8_0 ho) h47) mv_X6_fromIn q_8_4 ⟨rfl, rfl⟩ ⟨Nat.le_of_ble_eq_true rfl, Nat.le_of_ble_eq_true rfl⟩ (kr_8_0 ho) (by decide) rfl rfl rfl hl.1 rfl (Nat.le_of_ble_eq_true rfl) dX10_wind_47 rfl (fun H locs hM => ?_)
          refine lv_imul hx hb dX10_wind_50 ?_
          refine lv_aload_n hx hb dX10_wind_51 rfl (lv_at hl 0 rfl) ?_
          refine gf_8_0 hX hM ho q_1_16 dX10_wind_52 ?_
          refine lv_iload_n hx hb dX10_wind_55 rfl (lv_at hl 1 rfl) ?_
          refine lv_iload_n hx hb dX10_wind_56 rfl (lv_at hl 2 rfl) ?_
          replace hf := bnd_some hf
          obtain ⟨r12, μ11, h57, hf⟩ := hf
          refine cl_V (As := [.int a1, .int a2]) (rest := [.int ((10 : Int32) * r10)]) (st2 := [.int r12, .int ((10 : Int32) * r10)]) (n := 2) hX hM (c_X6_forceIn l (kr_8_0 ho) h57) mv_X6_forceIn q_8_8 ⟨rfl, rfl⟩ ⟨Nat.le_of_ble_eq_true rfl, Nat.le_of_ble_eq_true rfl⟩ (kr_8_0 ho) (by decide) rfl rfl rfl hl.1 rfl (Nat.le_of_ble_eq_true rfl) dX10_wind_57 rfl (fun H locs hM => ?_)
          refine lv_iadd hx hb dX10_wind_60 ?_
          refine lv_topi (fun v13 ev13 => ?_)
          replace hf := lt_e ev13 hf
          refine lv_istore (lv' := [(5, .int v13), (0, .ref (eA E o)), (1, .int a1), (2, .int a2), (3, .int a3), (4, .int a4)]) hx hb dX10_wind_61 hl (by decide) rfl (fun ls hl => ?_)
          refine lv_aload_n hx hb dX10_wind_63 rfl (lv_at hl 1 rfl) ?_
          refine gf_8_0 hX hM ho q_1_16 dX10_wind_64 ?_
          refine lv_iload_n hx hb dX10_wind_67 rfl (lv_at hl 2 rfl) ?_
          refine lv_iload_n hx hb dX10_wind_68 rfl (lv_at hl 3 rfl) ?_
          refine lv_iload_n hx hb dX10_wind_69 rfl (lv_at hl 4 rfl) ?_
          refine lv_iload hx hb dX10_wind_70 (lv_at hl 5 rfl) ?_
          replace hf := bnv_some hf
          obtain ⟨μ14, h72, hf⟩ := hf
          refine cl_V (As := [.int a1, .int a2, .int a3, .int a4]) (rest := []) (st2 := []) (n := 4) hX hM (c_X6_putWind l (kr_8_0 ho) h72) mv_X6_putWind q_8_12 ⟨rfl, rfl⟩ ⟨Nat.le_of_ble_eq_true rfl, Nat.le_of_ble_eq_true rfl⟩ (kr_8_0 ho) (by decide) rfl rfl rfl hl.1 rfl (Nat.le_of_ble_eq_true rfl) dX10_wind_72 rfl (fun H locs hM => ?_)
          refine lv_iload hx hb dX10_wind_75 (lv_at hl 0 rfl) ?_
          exact rt_i hX hM (congrArg (fun z => some (Value.int z)) (so_1 hf)) (so_2 hf) dX10_wind_77
        · replace hf := it_t hf hc33
          refine lv_bipush (v := (-2)) hx hb dX10_wind_36 (by decide) ?_
          exact rt_i hX hM (congrArg (fun z => some (Value.int z)) (so_1 hf)) (so_2 hf) dX10_wind_38
    · replace hf := it_t hf hc13
      refine lv_iconst (v := (-1)) hx hb dX10_wind_16 (by decide) ?_
      exact rt_i hX hM (congrArg (fun z => some (Value.int z)) (so_1 hf)) (so_2 hf) dX10_wind_17
theorem c_X10_wind (l : Launch) {o : Nat} {a1 : Int32} {a2 : Int32} {a3 : Int32} {a4 : Int32} (ho : knd o = 8) {μ μ2 : Mem} {r : Int32} (hf : f_X10_wind o a1 a2 a3 a4 μ = some (r, μ2)) : CT E l yX10_wind cX10_wind 6 (some .int) (rmF 1 24) [.ref (eA E o), .int a1, .int a2, .int a3, .int a4] μ (some (.int r)) μ2 := CT.of (show plainFor yX10_wind = true by decide +kernel) (Nat.le_of_ble_eq_true rfl) rfl (fun _ _ _ _ _ _ _ _ hX hM hl => w_X10_wind l ho hf hX hM hl)
theorem mv_X10_wind : MV yX10_wind cX10_wind 6 (some .int) RX10 4 := ⟨q_8_0, q_7_22, q_7_23, q_1_2, by decide +kernel⟩
def f_X10_current (o : Nat) (a1 : Int32) (a2 : Int32) (a3 : Int32) (μ : Mem) : Option (Int32 × Mem) :=
  bnd (f_X10_below a1 (4 : Int32) μ) (fun r2 μ1 => (if r2 = 0 then some ((-1 : Int32), μ1) else bnd (f_X10_below a2 (8 : Int32) μ1) (fun r4 μ3 => (if r4 = 0 then some ((-2 : Int32), μ3) else bnd (f_X10_below a3 (4 : Int32) μ3) (fun r6 μ5 => (if r6 = 0 then some ((-2 : Int32), μ5) else bnd (f_X6_toIn (rf o 0) a1 μ5) (fun r8 μ7 => bnd (f_X6_rateIn (rf o 0) a1 μ7) (fun r10 μ9 => lt (((10 : Int32) * r8) + r10) (fun v11 => bnv (f_X6_putCurrent (rf o 0) a1 a2 a3 μ9) (fun μ12 => some (v11, μ12)))))))))))
set_option maxHeartbeats 4000000 in
set_option maxRecDepth 100000 in
theorem w_X10_current (l : Launch) {o : Nat} {a1 : Int32} {a2 : Int32} {a3 : Int32} (ho : knd o = 8) {μ μ2 : Mem} {r : Int32} {H : Heap} {locs : List Loc} {ls : Array Slot} (hf : f_X10_current o a1 a2 a3 μ = some (r, μ2)) (hX : XX E p m meth c cX10_current 5 (some .int) s args RX10) (hM : MM E s μ H locs) (hl : lv_has ls 5 [(0, .ref (eA E o)), (1, .int a1), (2, .int a2), (3, .int a3)]) : W p l e (rmF 1 23) s m args below meth c H locs 0 0 (MQ below (QC E (some (.int r)) μ2) args s 0 0 (AA E)) (F0 m 0 ls []) := by
  obtain ⟨⟨hx, hb, hml, hown, hts⟩, hXr⟩ := id hX
  unfold f_X10_current at hf
  refine lv_iload_n hx hb dX10_current_0 rfl (lv_at hl 1 rfl) ?_
  refine lv_iconst (v := 4) hx hb dX10_current_1 (by decide) ?_
  replace hf := bnd_some hf
  obtain ⟨r2, μ1, h2, hf⟩ := hf
  refine cl_S (As := [.int a1, .int (4 : Int32)]) (rest := []) (st2 := [.int r2]) (n := 2) hX hM (c_X10_below l  h2) mt_X10_below q_8_1 ⟨rfl, rfl⟩ ⟨Nat.le_of_ble_eq_true rfl, Nat.le_of_ble_eq_true rfl⟩ rfl hl.1 rfl (Nat.le_of_ble_eq_true rfl) dX10_current_2 rfl (fun H locs hM => ?_)
  refine lv_if_ne (tgt := 10) hx hb dX10_current_5 (by decide) (fun hc5 => ?_) (fun hc5 => ?_)
  · replace hf := it_f hf hc5
    refine lv_iload_n hx hb dX10_current_10 rfl (lv_at hl 2 rfl) ?_
    refine lv_bipush (v := 8) hx hb dX10_current_11 (by decide) ?_
    replace hf := bnd_some hf
    obtain ⟨r4, μ3, h13, hf⟩ := hf
    refine cl_S (As := [.int a2, .int (8 : Int32)]) (rest := []) (st2 := [.int r4]) (n := 2) hX hM (c_X10_below l  h13) mt_X10_below q_8_1 ⟨rfl, rfl⟩ ⟨Nat.le_of_ble_eq_true rfl, Nat.le_of_ble_eq_true rfl⟩ rfl hl.1 rfl (Nat.le_of_ble_eq_true rfl) dX10_current_13 rfl (fun H locs hM => ?_)
    refine lv_if_eq (tgt := 27) hx hb dX10_current_16 (by decide) (fun hc16 => ?_) (fun hc16 => ?_)
    · replace hf := it_t hf hc16
      refine lv_bipush (v := (-2)) hx hb dX10_current_27 (by decide) ?_
      exact rt_i hX hM (congrArg (fun z => some (Value.int z)) (so_1 hf)) (so_2 hf) dX10_current_29
    · replace hf := it_f hf hc16
      refine lv_iload_n hx hb dX10_current_19 rfl (lv_at hl 3 rfl) ?_
      refine lv_iconst (v := 4) hx hb dX10_current_20 (by decide) ?_
      replace hf := bnd_some hf
      obtain ⟨r6, μ5, h21, hf⟩ := hf
      refine cl_S (As := [.int a3, .int (4 : Int32)]) (rest := []) (st2 := [.int r6]) (n := 2) hX hM (c_X10_below l  h21) mt_X10_below q_8_1 ⟨rfl, rfl⟩ ⟨Nat.le_of_ble_eq_true rfl, Nat.le_of_ble_eq_true rfl⟩ rfl hl.1 rfl (Nat.le_of_ble_eq_true rfl) dX10_current_21 rfl (fun H locs hM => ?_)
      refine lv_if_ne (tgt := 30) hx hb dX10_current_24 (by decide) (fun hc24 => ?_) (fun hc24 => ?_)
      · replace hf := it_f hf hc24
        refine lv_bipush (v := 10) hx hb dX10_current_30 (by decide) ?_
        refine lv_aload_n hx hb dX10_current_32 rfl (lv_at hl 0 rfl) ?_
        refine gf_8_0 hX hM ho q_1_16 dX10_current_33 ?_
        refine lv_iload_n hx hb dX10_current_36 rfl (lv_at hl 1 rfl) ?_
        replace hf := bnd_some hf
        obtain ⟨r8, μ7, h37, hf⟩ := hf
        refine cl_V (As := [.int a1]) (rest := [.int (10 : Int32)]) (st2 := [.int r8, .int (10 : Int32)]) (n := 1) hX hM (c_X6_toIn l (kr_8_0 ho) h37) mv_X6_toIn q_9_15 ⟨rfl, rfl⟩ ⟨Nat.le_of_ble_eq_true rfl, Nat.le_of_ble_eq_true rfl⟩ (kr_8_0 ho) (by decide) rfl rfl rfl hl.1 rfl (Nat.le_of_ble_eq_true rfl) dX10_current_37 rfl (fun H locs hM => ?_)
        refine lv_imul hx hb dX10_current_40 ?_
        refine lv_aload_n hx hb dX10_current_41 rfl (lv_at hl 0 rfl) ?_
        refine gf_8_0 hX hM ho q_1_16 dX10_current_42 ?_
        refine lv_iload_n hx hb dX10_current_45 rfl (lv_at hl 1 rfl) ?_
        replace hf := bnd_some hf
        obtain ⟨r10, μ9, h46, hf⟩ := hf
        refine cl_V (As := [.int a1]) (rest := [.int ((10 : Int32) * r8)]) (st2 := [.int r10, .int ((10 : Int32) * r8)]) (n := 1) hX hM (c_X6_rateIn l (kr_8_0 ho) h46) mv_X6_rateIn q_9_19 ⟨rfl, rfl⟩ ⟨Nat.le_of_ble_eq_true rfl, Nat.le_of_ble_eq_true rfl⟩ (kr_8_0 ho) (by decide) rfl rfl rfl hl.1 rfl (Nat.le_of_ble_eq_true rfl) dX10_current_46 rfl (fun H locs hM => ?_)
        refine lv_iadd hx hb dX10_current_49 ?_
        refine lv_topi (fun v11 ev11 => ?_)
        replace hf := lt_e ev11 hf
        refine lv_istore (lv' := [(4, .int v11), (0, .ref (eA E o)), (1, .int a1), (2, .int a2), (3, .int a3)]) hx hb dX10_current_50 hl (by decide) rfl (fun ls hl => ?_)
        refine lv_aload_n hx hb dX10_current_52 rfl (lv_at hl 1 rfl) ?_
        refine gf_8_0 hX hM ho q_1_16 dX10_current_53 ?_
        refine lv_iload_n hx hb dX10_current_56 rfl (lv_at hl 2 rfl) ?_
        refine lv_iload_n hx hb dX10_current_57 rfl (lv_at hl 3 rfl) ?_
        refine lv_iload_n hx hb dX10_current_58 rfl (lv_at hl 4 rfl) ?_
        replace hf := bnv_some hf
        obtain ⟨μ12, h59, hf⟩ := hf
        refine cl_V (As := [.int a1, .int a2, .int a3]) (rest := []) (st2 := []) (n := 3) hX hM (c_X6_putCurrent l (kr_8_0 ho) h59) mv_X6_putCurrent q_9_23 ⟨rfl, rfl⟩ ⟨Nat.le_of_ble_eq_true rfl, Nat.le_of_ble_eq_true rfl⟩ (kr_8_0 ho) (by decide) rfl rfl rfl hl.1 rfl (Nat.le_of_ble_eq_true rfl) dX10_current_59 rfl (fun H locs hM => ?_)
        refine lv_iload hx hb dX10_current_62 (lv_at hl 0 rfl) ?_
        exact rt_i hX hM (congrArg (fun z => some (Value.int z)) (so_1 hf)) (so_2 hf) dX10_current_64
      · replace hf := it_t hf hc24
        refine lv_bipush (v := (-2)) hx hb dX10_current_27 (by decide) ?_
        exact rt_i hX hM (congrArg (fun z => some (Value.int z)) (so_1 hf)) (so_2 hf) dX10_current_29
  · replace hf := it_t hf hc5
    refine lv_iconst (v := (-1)) hx hb dX10_current_8 (by decide) ?_
    exact rt_i hX hM (congrArg (fun z => some (Value.int z)) (so_1 hf)) (so_2 hf) dX10_current_9
theorem c_X10_current (l : Launch) {o : Nat} {a1 : Int32} {a2 : Int32} {a3 : Int32} (ho : knd o = 8) {μ μ2 : Mem} {r : Int32} (hf : f_X10_current o a1 a2 a3 μ = some (r, μ2)) : CT E l yX10_current cX10_current 5 (some .int) (rmF 1 23) [.ref (eA E o), .int a1, .int a2, .int a3] μ (some (.int r)) μ2 := CT.of (show plainFor yX10_current = true by decide +kernel) (Nat.le_of_ble_eq_true rfl) rfl (fun _ _ _ _ _ _ _ _ hX hM hl => w_X10_current l ho hf hX hM hl)
theorem mv_X10_current : MV yX10_current cX10_current 5 (some .int) RX10 3 := ⟨q_9_14, q_9_12, q_9_13, q_1_2, by decide +kernel⟩
def f_X10_table (o : Nat) (a1 : Int32) (a2 : Int32) (a3 : Int32) (μ : Mem) : Option (Int32 × Mem) :=
  (if a1 < (1 : Int32) then some ((-1 : Int32), μ) else (if (3 : Int32) < a1 then some ((-1 : Int32), μ) else bnd (f_X10_below a2 (5 : Int32) μ) (fun r2 μ1 => (if r2 = 0 then some ((-1 : Int32), μ1) else bnd (f_X10_below a3 (10 : Int32) μ1) (fun r4 μ3 => (if r4 = 0 then some ((-2 : Int32), μ3) else bnd (f_X6_speedBy (rf o 0) a1 a2 μ3) (fun r6 μ5 => bnv (f_X6_putSpeed (rf o 0) a1 a2 a3 μ5) (fun μ7 => some (r6, μ7)))))))))
set_option maxHeartbeats 4000000 in
set_option maxRecDepth 100000 in
theorem w_X10_table (l : Launch) {o : Nat} {a1 : Int32} {a2 : Int32} {a3 : Int32} (ho : knd o = 8) {μ μ2 : Mem} {r : Int32} {H : Heap} {locs : List Loc} {ls : Array Slot} (hf : f_X10_table o a1 a2 a3 μ = some (r, μ2)) (hX : XX E p m meth c cX10_table 5 (some .int) s args RX10) (hM : MM E s μ H locs) (hl : lv_has ls 5 [(0, .ref (eA E o)), (1, .int a1), (2, .int a2), (3, .int a3)]) : W p l e (rmF 1 23) s m args below meth c H locs 0 0 (MQ below (QC E (some (.int r)) μ2) args s 0 0 (AA E)) (F0 m 0 ls []) := by
  obtain ⟨⟨hx, hb, hml, hown, hts⟩, hXr⟩ := id hX
  unfold f_X10_table at hf
  refine lv_iload_n hx hb dX10_table_0 rfl (lv_at hl 1 rfl) ?_
  refine lv_iconst (v := 1) hx hb dX10_table_1 (by decide) ?_
  refine lv_icmp_lt (tgt := 18) hx hb dX10_table_2 (by decide) (fun hc2 => ?_) (fun hc2 => ?_)
  · replace hf := it_t hf hc2
    refine lv_iconst (v := (-1)) hx hb dX10_table_18 (by decide) ?_
    exact rt_i hX hM (congrArg (fun z => some (Value.int z)) (so_1 hf)) (so_2 hf) dX10_table_19
  · replace hf := it_f hf hc2
    refine lv_iload_n hx hb dX10_table_5 rfl (lv_at hl 1 rfl) ?_
    refine lv_iconst (v := 3) hx hb dX10_table_6 (by decide) ?_
    refine lv_icmp_gt (tgt := 18) hx hb dX10_table_7 (by decide) (fun hc7 => ?_) (fun hc7 => ?_)
    · replace hf := it_t hf hc7
      refine lv_iconst (v := (-1)) hx hb dX10_table_18 (by decide) ?_
      exact rt_i hX hM (congrArg (fun z => some (Value.int z)) (so_1 hf)) (so_2 hf) dX10_table_19
    · replace hf := it_f hf hc7
      refine lv_iload_n hx hb dX10_table_10 rfl (lv_at hl 2 rfl) ?_
      refine lv_iconst (v := 5) hx hb dX10_table_11 (by decide) ?_
      replace hf := bnd_some hf
      obtain ⟨r2, μ1, h12, hf⟩ := hf
      refine cl_S (As := [.int a2, .int (5 : Int32)]) (rest := []) (st2 := [.int r2]) (n := 2) hX hM (c_X10_below l  h12) mt_X10_below q_8_1 ⟨rfl, rfl⟩ ⟨Nat.le_of_ble_eq_true rfl, Nat.le_of_ble_eq_true rfl⟩ rfl hl.1 rfl (Nat.le_of_ble_eq_true rfl) dX10_table_12 rfl (fun H locs hM => ?_)
      refine lv_if_ne (tgt := 20) hx hb dX10_table_15 (by decide) (fun hc15 => ?_) (fun hc15 => ?_)
      · replace hf := it_f hf hc15
        refine lv_iload_n hx hb dX10_table_20 rfl (lv_at hl 3 rfl) ?_
        refine lv_bipush (v := 10) hx hb dX10_table_21 (by decide) ?_
        replace hf := bnd_some hf
        obtain ⟨r4, μ3, h23, hf⟩ := hf
        refine cl_S (As := [.int a3, .int (10 : Int32)]) (rest := []) (st2 := [.int r4]) (n := 2) hX hM (c_X10_below l  h23) mt_X10_below q_8_1 ⟨rfl, rfl⟩ ⟨Nat.le_of_ble_eq_true rfl, Nat.le_of_ble_eq_true rfl⟩ rfl hl.1 rfl (Nat.le_of_ble_eq_true rfl) dX10_table_23 rfl (fun H locs hM => ?_)
        refine lv_if_ne (tgt := 32) hx hb dX10_table_26 (by decide) (fun hc26 => ?_) (fun hc26 => ?_)
        · replace hf := it_f hf hc26
          refine lv_aload_n hx hb dX10_table_32 rfl (lv_at hl 0 rfl) ?_
          refine gf_8_0 hX hM ho q_1_16 dX10_table_33 ?_
          refine lv_iload_n hx hb dX10_table_36 rfl (lv_at hl 1 rfl) ?_
          refine lv_iload_n hx hb dX10_table_37 rfl (lv_at hl 2 rfl) ?_
          replace hf := bnd_some hf
          obtain ⟨r6, μ5, h38, hf⟩ := hf
          refine cl_V (As := [.int a1, .int a2]) (rest := []) (st2 := [.int r6]) (n := 2) hX hM (c_X6_speedBy l (kr_8_0 ho) h38) mv_X6_speedBy q_10_11 ⟨rfl, rfl⟩ ⟨Nat.le_of_ble_eq_true rfl, Nat.le_of_ble_eq_true rfl⟩ (kr_8_0 ho) (by decide) rfl rfl rfl hl.1 rfl (Nat.le_of_ble_eq_true rfl) dX10_table_38 rfl (fun H locs hM => ?_)
          refine lv_istore (lv' := [(4, .int r6), (0, .ref (eA E o)), (1, .int a1), (2, .int a2), (3, .int a3)]) hx hb dX10_table_41 hl (by decide) rfl (fun ls hl => ?_)
          refine lv_aload_n hx hb dX10_table_43 rfl (lv_at hl 1 rfl) ?_
          refine gf_8_0 hX hM ho q_1_16 dX10_table_44 ?_
          refine lv_iload_n hx hb dX10_table_47 rfl (lv_at hl 2 rfl) ?_
          refine lv_iload_n hx hb dX10_table_48 rfl (lv_at hl 3 rfl) ?_
          refine lv_iload_n hx hb dX10_table_49 rfl (lv_at hl 4 rfl) ?_
          replace hf := bnv_some hf
          obtain ⟨μ7, h50, hf⟩ := hf
          refine cl_V (As := [.int a1, .int a2, .int a3]) (rest := []) (st2 := []) (n := 3) hX hM (c_X6_putSpeed l (kr_8_0 ho) h50) mv_X6_putSpeed q_10_15 ⟨rfl, rfl⟩ ⟨Nat.le_of_ble_eq_true rfl, Nat.le_of_ble_eq_true rfl⟩ (kr_8_0 ho) (by decide) rfl rfl rfl hl.1 rfl (Nat.le_of_ble_eq_true rfl) dX10_table_50 rfl (fun H locs hM => ?_)
          refine lv_iload hx hb dX10_table_53 (lv_at hl 0 rfl) ?_
          exact rt_i hX hM (congrArg (fun z => some (Value.int z)) (so_1 hf)) (so_2 hf) dX10_table_55
        · replace hf := it_t hf hc26
          refine lv_bipush (v := (-2)) hx hb dX10_table_29 (by decide) ?_
          exact rt_i hX hM (congrArg (fun z => some (Value.int z)) (so_1 hf)) (so_2 hf) dX10_table_31
      · replace hf := it_t hf hc15
        refine lv_iconst (v := (-1)) hx hb dX10_table_18 (by decide) ?_
        exact rt_i hX hM (congrArg (fun z => some (Value.int z)) (so_1 hf)) (so_2 hf) dX10_table_19
theorem c_X10_table (l : Launch) {o : Nat} {a1 : Int32} {a2 : Int32} {a3 : Int32} (ho : knd o = 8) {μ μ2 : Mem} {r : Int32} (hf : f_X10_table o a1 a2 a3 μ = some (r, μ2)) : CT E l yX10_table cX10_table 5 (some .int) (rmF 1 23) [.ref (eA E o), .int a1, .int a2, .int a3] μ (some (.int r)) μ2 := CT.of (show plainFor yX10_table = true by decide +kernel) (Nat.le_of_ble_eq_true rfl) rfl (fun _ _ _ _ _ _ _ _ hX hM hl => w_X10_table l ho hf hX hM hl)
theorem mv_X10_table : MV yX10_table cX10_table 5 (some .int) RX10 3 := ⟨q_10_10, q_10_8, q_10_9, q_1_2, by decide +kernel⟩
def f_X10_land_b45 (o : Nat) (a1 : Int32) (a2 : Int32)  (t0 : Int32) (μ : Mem) : Option (Int32 × Mem) :=
  bnv (f_X6_putLand (rf o 0) a1 a2 μ) (fun μ5 => some (t0, μ5))
set_option maxHeartbeats 4000000 in
set_option maxRecDepth 100000 in
theorem w_X10_land_b45 (l : Launch) {o : Nat} {a1 : Int32} {a2 : Int32} (ho : knd o = 8) {μ2 : Mem} {r : Int32}   {t0 : Int32} {μ : Mem} {H : Heap} {locs : List Loc} {ls : Array Slot}  (hf : f_X10_land_b45 o a1 a2  t0 μ = some (r, μ2)) (hX : XX E p m meth c cX10_land 4 (some .int) s args RX10) (hM : MM E s μ H locs) (hl : lv_has ls 4 [(0, .ref (eA E o)), (1, .int a1), (2, .int a2)]) : W p l e (rmF 1 24) s m args below meth c H locs 0 0 (MQ below (QC E (some (.int r)) μ2) args s 0 0 (AA E)) (F0 m 45 ls [.int t0]) := by
  obtain ⟨⟨hx, hb, hml, hown, hts⟩, hXr⟩ := id hX
  unfold f_X10_land_b45 at hf
  refine lv_istore_n (lv' := [(3, .int t0), (0, .ref (eA E o)), (1, .int a1), (2, .int a2)]) hx hb dX10_land_45 rfl hl (by decide) rfl (fun ls hl => ?_)
  refine lv_aload_n hx hb dX10_land_46 rfl (lv_at hl 1 rfl) ?_
  refine gf_8_0 hX hM ho q_1_16 dX10_land_47 ?_
  refine lv_iload_n hx hb dX10_land_50 rfl (lv_at hl 2 rfl) ?_
  refine lv_iload_n hx hb dX10_land_51 rfl (lv_at hl 3 rfl) ?_
  replace hf := bnv_some hf
  obtain ⟨μ5, h52, hf⟩ := hf
  refine cl_V (As := [.int a1, .int a2]) (rest := []) (st2 := []) (n := 2) hX hM (c_X6_putLand l (kr_8_0 ho) h52) mv_X6_putLand q_11_11 ⟨rfl, rfl⟩ ⟨Nat.le_of_ble_eq_true rfl, Nat.le_of_ble_eq_true rfl⟩ (kr_8_0 ho) (by decide) rfl rfl rfl hl.1 rfl (Nat.le_of_ble_eq_true rfl) dX10_land_52 rfl (fun H locs hM => ?_)
  refine lv_iload_n hx hb dX10_land_55 rfl (lv_at hl 0 rfl) ?_
  exact rt_i hX hM (congrArg (fun z => some (Value.int z)) (so_1 hf)) (so_2 hf) dX10_land_56
def f_X10_land_b29 (o : Nat) (a1 : Int32) (a2 : Int32)   (μ : Mem) : Option (Int32 × Mem) :=
  bnd (f_X6_isLand (rf o 0) a1 μ) (fun r4 μ3 => (if r4 = 0 then f_X10_land_b45 o a1 a2  (0 : Int32) μ3 else f_X10_land_b45 o a1 a2  (1 : Int32) μ3))
set_option maxHeartbeats 4000000 in
set_option maxRecDepth 100000 in
theorem w_X10_land_b29 (l : Launch) {o : Nat} {a1 : Int32} {a2 : Int32} (ho : knd o = 8) {μ2 : Mem} {r : Int32}    {μ : Mem} {H : Heap} {locs : List Loc} {ls : Array Slot}  (hf : f_X10_land_b29 o a1 a2   μ = some (r, μ2)) (hX : XX E p m meth c cX10_land 4 (some .int) s args RX10) (hM : MM E s μ H locs) (hl : lv_has ls 4 [(0, .ref (eA E o)), (1, .int a1), (2, .int a2)]) : W p l e (rmF 1 24) s m args below meth c H locs 0 0 (MQ below (QC E (some (.int r)) μ2) args s 0 0 (AA E)) (F0 m 29 ls []) := by
  obtain ⟨⟨hx, hb, hml, hown, hts⟩, hXr⟩ := id hX
  unfold f_X10_land_b29 at hf
  refine lv_aload_n hx hb dX10_land_29 rfl (lv_at hl 0 rfl) ?_
  refine gf_8_0 hX hM ho q_1_16 dX10_land_30 ?_
  refine lv_iload_n hx hb dX10_land_33 rfl (lv_at hl 1 rfl) ?_
  replace hf := bnd_some hf
  obtain ⟨r4, μ3, h34, hf⟩ := hf
  refine cl_V (As := [.int a1]) (rest := []) (st2 := [.int r4]) (n := 1) hX hM (c_X6_isLand l (kr_8_0 ho) h34) mv_X6_isLand q_11_7 ⟨rfl, rfl⟩ ⟨Nat.le_of_ble_eq_true rfl, Nat.le_of_ble_eq_true rfl⟩ (kr_8_0 ho) (by decide) rfl rfl rfl hl.1 rfl (Nat.le_of_ble_eq_true rfl) dX10_land_34 rfl (fun H locs hM => ?_)
  refine lv_if_eq (tgt := 44) hx hb dX10_land_37 (by decide) (fun hc37 => ?_) (fun hc37 => ?_)
  · replace hf := it_t hf hc37
    refine lv_iconst (v := 0) hx hb dX10_land_44 (by decide) ?_
    exact w_X10_land_b45 l ho   hf hX hM (lv_sub hl [0, 1, 2] rfl)
  · replace hf := it_f hf hc37
    refine lv_iconst (v := 1) hx hb dX10_land_40 (by decide) ?_
    refine lv_goto (tgt := 45) hx hb dX10_land_41 (by decide) ?_
    exact w_X10_land_b45 l ho   hf hX hM (lv_sub hl [0, 1, 2] rfl)
def f_X10_land (o : Nat) (a1 : Int32) (a2 : Int32) (μ : Mem) : Option (Int32 × Mem) :=
  bnd (f_X10_below a1 (36 : Int32) μ) (fun r2 μ1 => (if r2 = 0 then some ((-1 : Int32), μ1) else (if a2 = 0 then f_X10_land_b29 o a1 a2   μ1 else (if a1 = (μ1.1 (rf o 0) 7) then some ((-3 : Int32), μ1) else f_X10_land_b29 o a1 a2   μ1))))
set_option maxHeartbeats 4000000 in
set_option maxRecDepth 100000 in
theorem w_X10_land (l : Launch) {o : Nat} {a1 : Int32} {a2 : Int32} (ho : knd o = 8) {μ μ2 : Mem} {r : Int32} {H : Heap} {locs : List Loc} {ls : Array Slot} (hf : f_X10_land o a1 a2 μ = some (r, μ2)) (hX : XX E p m meth c cX10_land 4 (some .int) s args RX10) (hM : MM E s μ H locs) (hl : lv_has ls 4 [(0, .ref (eA E o)), (1, .int a1), (2, .int a2)]) : W p l e (rmF 1 24) s m args below meth c H locs 0 0 (MQ below (QC E (some (.int r)) μ2) args s 0 0 (AA E)) (F0 m 0 ls []) := by
  obtain ⟨⟨hx, hb, hml, hown, hts⟩, hXr⟩ := id hX
  unfold f_X10_land at hf
  refine lv_iload_n hx hb dX10_land_0 rfl (lv_at hl 1 rfl) ?_
  refine lv_bipush (v := 36) hx hb dX10_land_1 (by decide) ?_
  replace hf := bnd_some hf
  obtain ⟨r2, μ1, h3, hf⟩ := hf
  refine cl_S (As := [.int a1, .int (36 : Int32)]) (rest := []) (st2 := [.int r2]) (n := 2) hX hM (c_X10_below l  h3) mt_X10_below q_8_1 ⟨rfl, rfl⟩ ⟨Nat.le_of_ble_eq_true rfl, Nat.le_of_ble_eq_true rfl⟩ rfl hl.1 rfl (Nat.le_of_ble_eq_true rfl) dX10_land_3 rfl (fun H locs hM => ?_)
  refine lv_if_ne (tgt := 11) hx hb dX10_land_6 (by decide) (fun hc6 => ?_) (fun hc6 => ?_)
  · replace hf := it_f hf hc6
    refine lv_iload_n hx hb dX10_land_11 rfl (lv_at hl 2 rfl) ?_
    refine lv_if_eq (tgt := 29) hx hb dX10_land_12 (by decide) (fun hc12 => ?_) (fun hc12 => ?_)
    · replace hf := it_t hf hc12
      exact w_X10_land_b29 l ho   hf hX hM (lv_sub hl [0, 1, 2] rfl)
    · replace hf := it_f hf hc12
      refine lv_iload_n hx hb dX10_land_15 rfl (lv_at hl 1 rfl) ?_
      refine lv_aload_n hx hb dX10_land_16 rfl (lv_at hl 0 rfl) ?_
      refine gf_8_0 hX hM ho q_1_16 dX10_land_17 ?_
      refine gf_4_7 hX hM (kr_8_0 ho) q_11_6 dX10_land_20 ?_
      refine lv_icmp_ne (tgt := 29) hx hb dX10_land_23 (by decide) (fun hc23 => ?_) (fun hc23 => ?_)
      · replace hf := it_f hf hc23
        exact w_X10_land_b29 l ho   hf hX hM (lv_sub hl [0, 1, 2] rfl)
      · replace hf := it_t hf hc23
        refine lv_bipush (v := (-3)) hx hb dX10_land_26 (by decide) ?_
        exact rt_i hX hM (congrArg (fun z => some (Value.int z)) (so_1 hf)) (so_2 hf) dX10_land_28
  · replace hf := it_t hf hc6
    refine lv_iconst (v := (-1)) hx hb dX10_land_9 (by decide) ?_
    exact rt_i hX hM (congrArg (fun z => some (Value.int z)) (so_1 hf)) (so_2 hf) dX10_land_10
theorem c_X10_land (l : Launch) {o : Nat} {a1 : Int32} {a2 : Int32} (ho : knd o = 8) {μ μ2 : Mem} {r : Int32} (hf : f_X10_land o a1 a2 μ = some (r, μ2)) : CT E l yX10_land cX10_land 4 (some .int) (rmF 1 24) [.ref (eA E o), .int a1, .int a2] μ (some (.int r)) μ2 := CT.of (show plainFor yX10_land = true by decide +kernel) (Nat.le_of_ble_eq_true rfl) rfl (fun _ _ _ _ _ _ _ _ hX hM hl => w_X10_land l ho hf hX hM hl)
theorem mv_X10_land : MV yX10_land cX10_land 4 (some .int) RX10 2 := ⟨q_11_5, q_11_3, q_11_4, q_1_2, by decide +kernel⟩
def f_X10_refusalOfStart (o : Nat) (a1 : Int32) (a2 : Int32) (a3 : Int32) (μ : Mem) : Option (Int32 × Mem) :=
  bnd (f_X10_below a1 (36 : Int32) μ) (fun r2 μ1 => (if r2 = 0 then some ((-1 : Int32), μ1) else bnd (f_X10_below a2 (2 : Int32) μ1) (fun r4 μ3 => (if r4 = 0 then some ((-1 : Int32), μ3) else (if a3 < 0 then some ((-2 : Int32), μ3) else (if a3 ≤ (9999 : Int32) then bnd (f_X6_isLand (rf o 0) a1 μ3) (fun r6 μ5 => (if r6 = 0 then some ((0 : Int32), μ5) else some ((-3 : Int32), μ5))) else some ((-2 : Int32), μ3)))))))
set_option maxHeartbeats 4000000 in
set_option maxRecDepth 100000 in
theorem w_X10_refusalOfStart (l : Launch) {o : Nat} {a1 : Int32} {a2 : Int32} {a3 : Int32} (ho : knd o = 8) {μ μ2 : Mem} {r : Int32} {H : Heap} {locs : List Loc} {ls : Array Slot} (hf : f_X10_refusalOfStart o a1 a2 a3 μ = some (r, μ2)) (hX : XX E p m meth c cX10_refusalOfStart 4 (some .int) s args RX10) (hM : MM E s μ H locs) (hl : lv_has ls 4 [(0, .ref (eA E o)), (1, .int a1), (2, .int a2), (3, .int a3)]) : W p l e (rmF 1 21) s m args below meth c H locs 0 0 (MQ below (QC E (some (.int r)) μ2) args s 0 0 (AA E)) (F0 m 0 ls []) := by
  obtain ⟨⟨hx, hb, hml, hown, hts⟩, hXr⟩ := id hX
  unfold f_X10_refusalOfStart at hf
  refine lv_iload_n hx hb dX10_refusalOfStart_0 rfl (lv_at hl 1 rfl) ?_
  refine lv_bipush (v := 36) hx hb dX10_refusalOfStart_1 (by decide) ?_
  replace hf := bnd_some hf
  obtain ⟨r2, μ1, h3, hf⟩ := hf
  refine cl_S (As := [.int a1, .int (36 : Int32)]) (rest := []) (st2 := [.int r2]) (n := 2) hX hM (c_X10_below l  h3) mt_X10_below q_8_1 ⟨rfl, rfl⟩ ⟨Nat.le_of_ble_eq_true rfl, Nat.le_of_ble_eq_true rfl⟩ rfl hl.1 rfl (Nat.le_of_ble_eq_true rfl) dX10_refusalOfStart_3 rfl (fun H locs hM => ?_)
  refine lv_if_eq (tgt := 17) hx hb dX10_refusalOfStart_6 (by decide) (fun hc6 => ?_) (fun hc6 => ?_)
  · replace hf := it_t hf hc6
    refine lv_iconst (v := (-1)) hx hb dX10_refusalOfStart_17 (by decide) ?_
    exact rt_i hX hM (congrArg (fun z => some (Value.int z)) (so_1 hf)) (so_2 hf) dX10_refusalOfStart_18
  · replace hf := it_f hf hc6
    refine lv_iload_n hx hb dX10_refusalOfStart_9 rfl (lv_at hl 2 rfl) ?_
    refine lv_iconst (v := 2) hx hb dX10_refusalOfStart_10 (by decide) ?_
    replace hf := bnd_some hf
    obtain ⟨r4, μ3, h11, hf⟩ := hf
    refine cl_S (As := [.int a2, .int (2 : Int32)]) (rest := []) (st2 := [.int r4]) (n := 2) hX hM (c_X10_below l  h11) mt_X10_below q_8_1 ⟨rfl, rfl⟩ ⟨Nat.le_of_ble_eq_true rfl, Nat.le_of_ble_eq_true rfl⟩ rfl hl.1 rfl (Nat.le_of_ble_eq_true rfl) dX10_refusalOfStart_11 rfl (fun H locs hM => ?_)
    refine lv_if_ne (tgt := 19) hx hb dX10_refusalOfStart_14 (by decide) (fun hc14 => ?_) (fun hc14 => ?_)
    · replace hf := it_f hf hc14
      refine lv_iload_n hx hb dX10_refusalOfStart_19 rfl (lv_at hl 3 rfl) ?_
      refine lv_if_lt (tgt := 30) hx hb dX10_refusalOfStart_20 (by decide) (fun hc20 => ?_) (fun hc20 => ?_)
      · replace hf := it_t hf hc20
        refine lv_bipush (v := (-2)) hx hb dX10_refusalOfStart_30 (by decide) ?_
        exact rt_i hX hM (congrArg (fun z => some (Value.int z)) (so_1 hf)) (so_2 hf) dX10_refusalOfStart_32
      · replace hf := it_f hf hc20
        refine lv_iload_n hx hb dX10_refusalOfStart_23 rfl (lv_at hl 3 rfl) ?_
        refine lv_sipush (v := 9999) hx hb dX10_refusalOfStart_24 (by decide) ?_
        refine lv_icmp_le (tgt := 33) hx hb dX10_refusalOfStart_27 (by decide) (fun hc27 => ?_) (fun hc27 => ?_)
        · replace hf := it_t hf hc27
          refine lv_aload_n hx hb dX10_refusalOfStart_33 rfl (lv_at hl 0 rfl) ?_
          refine gf_8_0 hX hM ho q_1_16 dX10_refusalOfStart_34 ?_
          refine lv_iload_n hx hb dX10_refusalOfStart_37 rfl (lv_at hl 1 rfl) ?_
          replace hf := bnd_some hf
          obtain ⟨r6, μ5, h38, hf⟩ := hf
          refine cl_V (As := [.int a1]) (rest := []) (st2 := [.int r6]) (n := 1) hX hM (c_X6_isLand l (kr_8_0 ho) h38) mv_X6_isLand q_11_7 ⟨rfl, rfl⟩ ⟨Nat.le_of_ble_eq_true rfl, Nat.le_of_ble_eq_true rfl⟩ (kr_8_0 ho) (by decide) rfl rfl rfl hl.1 rfl (Nat.le_of_ble_eq_true rfl) dX10_refusalOfStart_38 rfl (fun H locs hM => ?_)
          refine lv_if_eq (tgt := 49) hx hb dX10_refusalOfStart_41 (by decide) (fun hc41 => ?_) (fun hc41 => ?_)
          · replace hf := it_t hf hc41
            refine lv_iconst (v := 0) hx hb dX10_refusalOfStart_49 (by decide) ?_
            exact rt_i hX hM (congrArg (fun z => some (Value.int z)) (so_1 hf)) (so_2 hf) dX10_refusalOfStart_50
          · replace hf := it_f hf hc41
            refine lv_bipush (v := (-3)) hx hb dX10_refusalOfStart_44 (by decide) ?_
            refine lv_goto (tgt := 50) hx hb dX10_refusalOfStart_46 (by decide) ?_
            exact rt_i hX hM (congrArg (fun z => some (Value.int z)) (so_1 hf)) (so_2 hf) dX10_refusalOfStart_50
        · replace hf := it_f hf hc27
          refine lv_bipush (v := (-2)) hx hb dX10_refusalOfStart_30 (by decide) ?_
          exact rt_i hX hM (congrArg (fun z => some (Value.int z)) (so_1 hf)) (so_2 hf) dX10_refusalOfStart_32
    · replace hf := it_t hf hc14
      refine lv_iconst (v := (-1)) hx hb dX10_refusalOfStart_17 (by decide) ?_
      exact rt_i hX hM (congrArg (fun z => some (Value.int z)) (so_1 hf)) (so_2 hf) dX10_refusalOfStart_18
theorem c_X10_refusalOfStart (l : Launch) {o : Nat} {a1 : Int32} {a2 : Int32} {a3 : Int32} (ho : knd o = 8) {μ μ2 : Mem} {r : Int32} (hf : f_X10_refusalOfStart o a1 a2 a3 μ = some (r, μ2)) : CT E l yX10_refusalOfStart cX10_refusalOfStart 4 (some .int) (rmF 1 21) [.ref (eA E o), .int a1, .int a2, .int a3] μ (some (.int r)) μ2 := CT.of (show plainFor yX10_refusalOfStart = true by decide +kernel) (Nat.le_of_ble_eq_true rfl) rfl (fun _ _ _ _ _ _ _ _ hX hM hl => w_X10_refusalOfStart l ho hf hX hM hl)
theorem mv_X10_refusalOfStart : MV yX10_refusalOfStart cX10_refusalOfStart 4 (some .int) RX10 3 := ⟨q_12_7, q_12_5, q_12_6, q_1_2, by decide +kernel⟩
def f_X10_freshChart (o : Nat) (μ : Mem) : Option (Nat × Mem) :=
  bnv (f_X1_freshen (rf o 2) μ) (fun μ1 => some ((rf o 2), μ1))
set_option maxHeartbeats 4000000 in
set_option maxRecDepth 100000 in
theorem w_X10_freshChart (l : Launch) {o : Nat} (ho : knd o = 8) {μ μ2 : Mem} {r : Nat} {H : Heap} {locs : List Loc} {ls : Array Slot} (hf : f_X10_freshChart o μ = some (r, μ2)) (hX : XX E p m meth c cX10_freshChart 1 (some (.object "SailCourses$Chart")) s args RX10) (hM : MM E s μ H locs) (hl : lv_has ls 1 [(0, .ref (eA E o))]) : W p l e (rmF 5 119) s m args below meth c H locs 0 0 (MQ below (QC E (some (.ref (eA E r))) μ2) args s 0 0 (AA E)) (F0 m 0 ls []) := by
  obtain ⟨⟨hx, hb, hml, hown, hts⟩, hXr⟩ := id hX
  unfold f_X10_freshChart at hf
  refine lv_aload_n hx hb dX10_freshChart_0 rfl (lv_at hl 0 rfl) ?_
  refine gf_8_2 hX hM ho q_2_0 dX10_freshChart_1 ?_
  replace hf := bnv_some hf
  obtain ⟨μ1, h4, hf⟩ := hf
  refine cl_V (As := []) (rest := []) (st2 := []) (n := 0) hX hM (c_X1_freshen l (kr_8_2 ho) h4) mv_X1_freshen q_12_16 ⟨rfl, rfl⟩ ⟨Nat.le_of_ble_eq_true rfl, Nat.le_of_ble_eq_true rfl⟩ (kr_8_2 ho) (by decide) rfl rfl rfl hl.1 rfl (Nat.le_of_ble_eq_true rfl) dX10_freshChart_4 rfl (fun H locs hM => ?_)
  refine lv_aload_n hx hb dX10_freshChart_7 rfl (lv_at hl 0 rfl) ?_
  refine gf_8_2 hX hM ho q_2_0 dX10_freshChart_8 ?_
  exact rt_a hX hM (Or.inl ⟨_, rfl⟩) (congrArg (fun z => some (Value.ref (eA E z))) (so_1 hf)) (so_2 hf) dX10_freshChart_11
theorem c_X10_freshChart (l : Launch) {o : Nat} (ho : knd o = 8) {μ μ2 : Mem} {r : Nat} (hf : f_X10_freshChart o μ = some (r, μ2)) : CT E l yX10_freshChart cX10_freshChart 1 (some (.object "SailCourses$Chart")) (rmF 5 119) [.ref (eA E o)] μ (some (.ref (eA E r))) μ2 := CT.of (show plainFor yX10_freshChart = true by decide +kernel) (Nat.le_of_ble_eq_true rfl) rfl (fun _ _ _ _ _ _ _ _ hX hM hl => w_X10_freshChart l ho hf hX hM hl)
theorem mv_X10_freshChart : MV yX10_freshChart cX10_freshChart 1 (some (.object "SailCourses$Chart")) RX10 0 := ⟨q_12_15, q_12_13, q_12_14, q_1_2, by decide +kernel⟩
def f_X10_start (o : Nat) (a1 : Int32) (a2 : Int32) (a3 : Int32) (μ : Mem) : Option (Int32 × Mem) :=
  bnd (f_X10_refusalOfStart o a1 a2 a3 μ) (fun r2 μ1 => (if r2 = 0 then bnv (f_X6_putStart (rf o 0) a1 a2 a3 μ1) (fun μ3 => bnd (f_X10_freshChart o μ3) (fun r5 μ4 => gP (decide (knd r5 = 0)) (bnd (f_X1_squaresReached r5 μ4) (fun r7 μ6 => some (r7, μ6))))) else some (r2, μ1)))
set_option maxHeartbeats 4000000 in
set_option maxRecDepth 100000 in
theorem w_X10_start (l : Launch) {o : Nat} {a1 : Int32} {a2 : Int32} {a3 : Int32} (ho : knd o = 8) {μ μ2 : Mem} {r : Int32} {H : Heap} {locs : List Loc} {ls : Array Slot} (hf : f_X10_start o a1 a2 a3 μ = some (r, μ2)) (hX : XX E p m meth c cX10_start 5 (some .int) s args RX10) (hM : MM E s μ H locs) (hl : lv_has ls 5 [(0, .ref (eA E o)), (1, .int a1), (2, .int a2), (3, .int a3)]) : W p l e (rmF 6 139) s m args below meth c H locs 0 0 (MQ below (QC E (some (.int r)) μ2) args s 0 0 (AA E)) (F0 m 0 ls []) := by
  obtain ⟨⟨hx, hb, hml, hown, hts⟩, hXr⟩ := id hX
  unfold f_X10_start at hf
  refine lv_aload_n hx hb dX10_start_0 rfl (lv_at hl 0 rfl) ?_
  refine lv_iload_n hx hb dX10_start_1 rfl (lv_at hl 1 rfl) ?_
  refine lv_iload_n hx hb dX10_start_2 rfl (lv_at hl 2 rfl) ?_
  refine lv_iload_n hx hb dX10_start_3 rfl (lv_at hl 3 rfl) ?_
  replace hf := bnd_some hf
  obtain ⟨r2, μ1, h4, hf⟩ := hf
  refine cl_V (As := [.int a1, .int a2, .int a3]) (rest := []) (st2 := [.int r2]) (n := 3) hX hM (c_X10_refusalOfStart l ho h4) mv_X10_refusalOfStart q_12_4 ⟨rfl, rfl⟩ ⟨Nat.le_of_ble_eq_true rfl, Nat.le_of_ble_eq_true rfl⟩ ho (by decide) rfl rfl rfl hl.1 rfl (Nat.le_of_ble_eq_true rfl) dX10_start_4 rfl (fun H locs hM => ?_)
  refine lv_istore (lv' := [(4, .int r2), (0, .ref (eA E o)), (1, .int a1), (2, .int a2), (3, .int a3)]) hx hb dX10_start_7 hl (by decide) rfl (fun ls hl => ?_)
  refine lv_iload hx hb dX10_start_9 (lv_at hl 0 rfl) ?_
  refine lv_if_eq (tgt := 17) hx hb dX10_start_11 (by decide) (fun hc11 => ?_) (fun hc11 => ?_)
  · replace hf := it_t hf hc11
    refine lv_aload_n hx hb dX10_start_17 rfl (lv_at hl 1 rfl) ?_
    refine gf_8_0 hX hM ho q_1_16 dX10_start_18 ?_
    refine lv_iload_n hx hb dX10_start_21 rfl (lv_at hl 2 rfl) ?_
    refine lv_iload_n hx hb dX10_start_22 rfl (lv_at hl 3 rfl) ?_
    refine lv_iload_n hx hb dX10_start_23 rfl (lv_at hl 4 rfl) ?_
    replace hf := bnv_some hf
    obtain ⟨μ3, h24, hf⟩ := hf
    refine cl_V (As := [.int a1, .int a2, .int a3]) (rest := []) (st2 := []) (n := 3) hX hM (c_X6_putStart l (kr_8_0 ho) h24) mv_X6_putStart q_12_8 ⟨rfl, rfl⟩ ⟨Nat.le_of_ble_eq_true rfl, Nat.le_of_ble_eq_true rfl⟩ (kr_8_0 ho) (by decide) rfl rfl rfl hl.1 rfl (Nat.le_of_ble_eq_true rfl) dX10_start_24 rfl (fun H locs hM => ?_)
    refine lv_aload_n hx hb dX10_start_27 rfl (lv_at hl 1 rfl) ?_
    replace hf := bnd_some hf
    obtain ⟨r5, μ4, h28, hf⟩ := hf
    replace hf := gP_some hf
    obtain ⟨hzr5, hf⟩ := hf
    replace hzr5 := of_decide_eq_true hzr5
    refine cl_V (As := []) (rest := []) (st2 := [.ref (eA E r5)]) (n := 0) hX hM (c_X10_freshChart l ho h28) mv_X10_freshChart q_12_12 ⟨rfl, rfl⟩ ⟨Nat.le_of_ble_eq_true rfl, Nat.le_of_ble_eq_true rfl⟩ ho (by decide) rfl rfl rfl hl.1 rfl (Nat.le_of_ble_eq_true rfl) dX10_start_28 rfl (fun H locs hM => ?_)
    replace hf := bnd_some hf
    obtain ⟨r7, μ6, h31, hf⟩ := hf
    refine cl_V (As := []) (rest := []) (st2 := [.int r7]) (n := 0) hX hM (c_X1_squaresReached l hzr5 h31) mv_X1_squaresReached q_16_19 ⟨rfl, rfl⟩ ⟨Nat.le_of_ble_eq_true rfl, Nat.le_of_ble_eq_true rfl⟩ hzr5 (by decide) rfl rfl rfl hl.1 rfl (Nat.le_of_ble_eq_true rfl) dX10_start_31 rfl (fun H locs hM => ?_)
    exact rt_i hX hM (congrArg (fun z => some (Value.int z)) (so_1 hf)) (so_2 hf) dX10_start_34
  · replace hf := it_f hf hc11
    refine lv_iload hx hb dX10_start_14 (lv_at hl 0 rfl) ?_
    exact rt_i hX hM (congrArg (fun z => some (Value.int z)) (so_1 hf)) (so_2 hf) dX10_start_16
theorem c_X10_start (l : Launch) {o : Nat} {a1 : Int32} {a2 : Int32} {a3 : Int32} (ho : knd o = 8) {μ μ2 : Mem} {r : Int32} (hf : f_X10_start o a1 a2 a3 μ = some (r, μ2)) : CT E l yX10_start cX10_start 5 (some .int) (rmF 6 139) [.ref (eA E o), .int a1, .int a2, .int a3] μ (some (.int r)) μ2 := CT.of (show plainFor yX10_start = true by decide +kernel) (Nat.le_of_ble_eq_true rfl) rfl (fun _ _ _ _ _ _ _ _ hX hM hl => w_X10_start l ho hf hX hM hl)
theorem mv_X10_start : MV yX10_start cX10_start 5 (some .int) RX10 3 := ⟨q_12_3, q_12_1, q_12_2, q_1_2, by decide +kernel⟩
def f_X10_loss (o : Nat) (a1 : Int32) (a2 : Int32) (μ : Mem) : Option (Int32 × Mem) :=
  bnd (f_X10_below a1 (2 : Int32) μ) (fun r2 μ1 => (if r2 = 0 then some ((-1 : Int32), μ1) else (if a2 < 0 then some ((-2 : Int32), μ1) else (if a2 ≤ (60 : Int32) then bnd (f_X6_lossBy (rf o 0) a1 μ1) (fun r4 μ3 => bnv (f_X6_putLoss (rf o 0) a1 a2 μ3) (fun μ5 => some (r4, μ5))) else some ((-2 : Int32), μ1)))))
set_option maxHeartbeats 4000000 in
set_option maxRecDepth 100000 in
theorem w_X10_loss (l : Launch) {o : Nat} {a1 : Int32} {a2 : Int32} (ho : knd o = 8) {μ μ2 : Mem} {r : Int32} {H : Heap} {locs : List Loc} {ls : Array Slot} (hf : f_X10_loss o a1 a2 μ = some (r, μ2)) (hX : XX E p m meth c cX10_loss 4 (some .int) s args RX10) (hM : MM E s μ H locs) (hl : lv_has ls 4 [(0, .ref (eA E o)), (1, .int a1), (2, .int a2)]) : W p l e (rmF 1 22) s m args below meth c H locs 0 0 (MQ below (QC E (some (.int r)) μ2) args s 0 0 (AA E)) (F0 m 0 ls []) := by
  obtain ⟨⟨hx, hb, hml, hown, hts⟩, hXr⟩ := id hX
  unfold f_X10_loss at hf
  refine lv_iload_n hx hb dX10_loss_0 rfl (lv_at hl 1 rfl) ?_
  refine lv_iconst (v := 2) hx hb dX10_loss_1 (by decide) ?_
  replace hf := bnd_some hf
  obtain ⟨r2, μ1, h2, hf⟩ := hf
  refine cl_S (As := [.int a1, .int (2 : Int32)]) (rest := []) (st2 := [.int r2]) (n := 2) hX hM (c_X10_below l  h2) mt_X10_below q_8_1 ⟨rfl, rfl⟩ ⟨Nat.le_of_ble_eq_true rfl, Nat.le_of_ble_eq_true rfl⟩ rfl hl.1 rfl (Nat.le_of_ble_eq_true rfl) dX10_loss_2 rfl (fun H locs hM => ?_)
  refine lv_if_ne (tgt := 10) hx hb dX10_loss_5 (by decide) (fun hc5 => ?_) (fun hc5 => ?_)
  · replace hf := it_f hf hc5
    refine lv_iload_n hx hb dX10_loss_10 rfl (lv_at hl 2 rfl) ?_
    refine lv_if_lt (tgt := 20) hx hb dX10_loss_11 (by decide) (fun hc11 => ?_) (fun hc11 => ?_)
    · replace hf := it_t hf hc11
      refine lv_bipush (v := (-2)) hx hb dX10_loss_20 (by decide) ?_
      exact rt_i hX hM (congrArg (fun z => some (Value.int z)) (so_1 hf)) (so_2 hf) dX10_loss_22
    · replace hf := it_f hf hc11
      refine lv_iload_n hx hb dX10_loss_14 rfl (lv_at hl 2 rfl) ?_
      refine lv_bipush (v := 60) hx hb dX10_loss_15 (by decide) ?_
      refine lv_icmp_le (tgt := 23) hx hb dX10_loss_17 (by decide) (fun hc17 => ?_) (fun hc17 => ?_)
      · replace hf := it_t hf hc17
        refine lv_aload_n hx hb dX10_loss_23 rfl (lv_at hl 0 rfl) ?_
        refine gf_8_0 hX hM ho q_1_16 dX10_loss_24 ?_
        refine lv_iload_n hx hb dX10_loss_27 rfl (lv_at hl 1 rfl) ?_
        replace hf := bnd_some hf
        obtain ⟨r4, μ3, h28, hf⟩ := hf
        refine cl_V (As := [.int a1]) (rest := []) (st2 := [.int r4]) (n := 1) hX hM (c_X6_lossBy l (kr_8_0 ho) h28) mv_X6_lossBy q_20_0 ⟨rfl, rfl⟩ ⟨Nat.le_of_ble_eq_true rfl, Nat.le_of_ble_eq_true rfl⟩ (kr_8_0 ho) (by decide) rfl rfl rfl hl.1 rfl (Nat.le_of_ble_eq_true rfl) dX10_loss_28 rfl (fun H locs hM => ?_)
        refine lv_istore_n (lv' := [(3, .int r4), (0, .ref (eA E o)), (1, .int a1), (2, .int a2)]) hx hb dX10_loss_31 rfl hl (by decide) rfl (fun ls hl => ?_)
        refine lv_aload_n hx hb dX10_loss_32 rfl (lv_at hl 1 rfl) ?_
        refine gf_8_0 hX hM ho q_1_16 dX10_loss_33 ?_
        refine lv_iload_n hx hb dX10_loss_36 rfl (lv_at hl 2 rfl) ?_
        refine lv_iload_n hx hb dX10_loss_37 rfl (lv_at hl 3 rfl) ?_
        replace hf := bnv_some hf
        obtain ⟨μ5, h38, hf⟩ := hf
        refine cl_V (As := [.int a1, .int a2]) (rest := []) (st2 := []) (n := 2) hX hM (c_X6_putLoss l (kr_8_0 ho) h38) mv_X6_putLoss q_20_1 ⟨rfl, rfl⟩ ⟨Nat.le_of_ble_eq_true rfl, Nat.le_of_ble_eq_true rfl⟩ (kr_8_0 ho) (by decide) rfl rfl rfl hl.1 rfl (Nat.le_of_ble_eq_true rfl) dX10_loss_38 rfl (fun H locs hM => ?_)
        refine lv_iload_n hx hb dX10_loss_41 rfl (lv_at hl 0 rfl) ?_
        exact rt_i hX hM (congrArg (fun z => some (Value.int z)) (so_1 hf)) (so_2 hf) dX10_loss_42
      · replace hf := it_f hf hc17
        refine lv_bipush (v := (-2)) hx hb dX10_loss_20 (by decide) ?_
        exact rt_i hX hM (congrArg (fun z => some (Value.int z)) (so_1 hf)) (so_2 hf) dX10_loss_22
  · replace hf := it_t hf hc5
    refine lv_iconst (v := (-1)) hx hb dX10_loss_8 (by decide) ?_
    exact rt_i hX hM (congrArg (fun z => some (Value.int z)) (so_1 hf)) (so_2 hf) dX10_loss_9
theorem c_X10_loss (l : Launch) {o : Nat} {a1 : Int32} {a2 : Int32} (ho : knd o = 8) {μ μ2 : Mem} {r : Int32} (hf : f_X10_loss o a1 a2 μ = some (r, μ2)) : CT E l yX10_loss cX10_loss 4 (some .int) (rmF 1 22) [.ref (eA E o), .int a1, .int a2] μ (some (.int r)) μ2 := CT.of (show plainFor yX10_loss = true by decide +kernel) (Nat.le_of_ble_eq_true rfl) rfl (fun _ _ _ _ _ _ _ _ hX hM hl => w_X10_loss l ho hf hX hM hl)
theorem mv_X10_loss : MV yX10_loss cX10_loss 4 (some .int) RX10 2 := ⟨q_19_23, q_19_21, q_19_22, q_1_2, by decide +kernel⟩
def f_X10_steer (o : Nat) (a1 : Int32) (μ : Mem) : Option (Int32 × Mem) :=
  (if a1 = (-1 : Int32) then bnd (f_X5_clear (rf (rf o 1) 0) μ) (fun r6 μ5 => some (r6, μ5)) else bnd (f_X10_below a1 (8 : Int32) μ) (fun r2 μ1 => (if r2 = 0 then some ((-1 : Int32), μ1) else bnd (f_X5_add (rf (rf o 1) 0) a1 (0 : Int32) μ1) (fun r4 μ3 => some (r4, μ3)))))
set_option maxHeartbeats 4000000 in
set_option maxRecDepth 100000 in
theorem w_X10_steer (l : Launch) {o : Nat} {a1 : Int32} (ho : knd o = 8) {μ μ2 : Mem} {r : Int32} {H : Heap} {locs : List Loc} {ls : Array Slot} (hf : f_X10_steer o a1 μ = some (r, μ2)) (hX : XX E p m meth c cX10_steer 2 (some .int) s args RX10) (hM : MM E s μ H locs) (hl : lv_has ls 2 [(0, .ref (eA E o)), (1, .int a1)]) : W p l e (rmF 1 22) s m args below meth c H locs 0 0 (MQ below (QC E (some (.int r)) μ2) args s 0 0 (AA E)) (F0 m 0 ls []) := by
  obtain ⟨⟨hx, hb, hml, hown, hts⟩, hXr⟩ := id hX
  unfold f_X10_steer at hf
  refine lv_iload_n hx hb dX10_steer_0 rfl (lv_at hl 1 rfl) ?_
  refine lv_iconst (v := (-1)) hx hb dX10_steer_1 (by decide) ?_
  refine lv_icmp_ne (tgt := 16) hx hb dX10_steer_2 (by decide) (fun hc2 => ?_) (fun hc2 => ?_)
  · replace hf := it_f hf hc2
    refine lv_iload_n hx hb dX10_steer_16 rfl (lv_at hl 1 rfl) ?_
    refine lv_bipush (v := 8) hx hb dX10_steer_17 (by decide) ?_
    replace hf := bnd_some hf
    obtain ⟨r2, μ1, h19, hf⟩ := hf
    refine cl_S (As := [.int a1, .int (8 : Int32)]) (rest := []) (st2 := [.int r2]) (n := 2) hX hM (c_X10_below l  h19) mt_X10_below q_8_1 ⟨rfl, rfl⟩ ⟨Nat.le_of_ble_eq_true rfl, Nat.le_of_ble_eq_true rfl⟩ rfl hl.1 rfl (Nat.le_of_ble_eq_true rfl) dX10_steer_19 rfl (fun H locs hM => ?_)
    refine lv_if_ne (tgt := 27) hx hb dX10_steer_22 (by decide) (fun hc22 => ?_) (fun hc22 => ?_)
    · replace hf := it_f hf hc22
      refine lv_aload_n hx hb dX10_steer_27 rfl (lv_at hl 0 rfl) ?_
      refine gf_8_1 hX hM ho q_1_20 dX10_steer_28 ?_
      refine gf_1_0 hX hM (kr_8_1 ho) q_20_13 dX10_steer_31 ?_
      refine lv_iload_n hx hb dX10_steer_34 rfl (lv_at hl 1 rfl) ?_
      refine lv_iconst (v := 0) hx hb dX10_steer_35 (by decide) ?_
      replace hf := bnd_some hf
      obtain ⟨r4, μ3, h36, hf⟩ := hf
      refine cl_V (As := [.int a1, .int (0 : Int32)]) (rest := []) (st2 := [.int r4]) (n := 2) hX hM (c_X5_add l (kr_1_0 (kr_8_1 ho)) h36) mv_X5_add q_20_18 ⟨rfl, rfl⟩ ⟨Nat.le_of_ble_eq_true rfl, Nat.le_of_ble_eq_true rfl⟩ (kr_1_0 (kr_8_1 ho)) (by decide) rfl rfl rfl hl.1 rfl (Nat.le_of_ble_eq_true rfl) dX10_steer_36 rfl (fun H locs hM => ?_)
      exact rt_i hX hM (congrArg (fun z => some (Value.int z)) (so_1 hf)) (so_2 hf) dX10_steer_39
    · replace hf := it_t hf hc22
      refine lv_iconst (v := (-1)) hx hb dX10_steer_25 (by decide) ?_
      exact rt_i hX hM (congrArg (fun z => some (Value.int z)) (so_1 hf)) (so_2 hf) dX10_steer_26
  · replace hf := it_t hf hc2
    refine lv_aload_n hx hb dX10_steer_5 rfl (lv_at hl 0 rfl) ?_
    refine gf_8_1 hX hM ho q_1_20 dX10_steer_6 ?_
    refine gf_1_0 hX hM (kr_8_1 ho) q_20_13 dX10_steer_9 ?_
    replace hf := bnd_some hf
    obtain ⟨r6, μ5, h12, hf⟩ := hf
    refine cl_V (As := []) (rest := []) (st2 := [.int r6]) (n := 0) hX hM (c_X5_clear l (kr_1_0 (kr_8_1 ho)) h12) mv_X5_clear q_20_14 ⟨rfl, rfl⟩ ⟨Nat.le_of_ble_eq_true rfl, Nat.le_of_ble_eq_true rfl⟩ (kr_1_0 (kr_8_1 ho)) (by decide) rfl rfl rfl hl.1 rfl (Nat.le_of_ble_eq_true rfl) dX10_steer_12 rfl (fun H locs hM => ?_)
    exact rt_i hX hM (congrArg (fun z => some (Value.int z)) (so_1 hf)) (so_2 hf) dX10_steer_15
theorem c_X10_steer (l : Launch) {o : Nat} {a1 : Int32} (ho : knd o = 8) {μ μ2 : Mem} {r : Int32} (hf : f_X10_steer o a1 μ = some (r, μ2)) : CT E l yX10_steer cX10_steer 2 (some .int) (rmF 1 22) [.ref (eA E o), .int a1] μ (some (.int r)) μ2 := CT.of (show plainFor yX10_steer = true by decide +kernel) (Nat.le_of_ble_eq_true rfl) rfl (fun _ _ _ _ _ _ _ _ hX hM hl => w_X10_steer l ho hf hX hM hl)
theorem mv_X10_steer : MV yX10_steer cX10_steer 2 (some .int) RX10 1 := ⟨q_20_12, q_20_10, q_20_11, q_1_2, by decide +kernel⟩
def f_X10_feed (o : Nat) (a1 : Int32) (μ : Mem) : Option (Int32 × Mem) :=
  bnd (f_X10_below a1 (128 : Int32) μ) (fun r2 μ1 => (if r2 = 0 then some ((-2 : Int32), μ1) else bnd (f_X7_append (rf o 4) a1 μ1) (fun r4 μ3 => some (r4, μ3))))
set_option maxHeartbeats 4000000 in
set_option maxRecDepth 100000 in
theorem w_X10_feed (l : Launch) {o : Nat} {a1 : Int32} (ho : knd o = 8) {μ μ2 : Mem} {r : Int32} {H : Heap} {locs : List Loc} {ls : Array Slot} (hf : f_X10_feed o a1 μ = some (r, μ2)) (hX : XX E p m meth c cX10_feed 2 (some .int) s args RX10) (hM : MM E s μ H locs) (hl : lv_has ls 2 [(0, .ref (eA E o)), (1, .int a1)]) : W p l e (rmF 1 21) s m args below meth c H locs 0 0 (MQ below (QC E (some (.int r)) μ2) args s 0 0 (AA E)) (F0 m 0 ls []) := by
  obtain ⟨⟨hx, hb, hml, hown, hts⟩, hXr⟩ := id hX
  unfold f_X10_feed at hf
  refine lv_iload_n hx hb dX10_feed_0 rfl (lv_at hl 1 rfl) ?_
  refine lv_sipush (v := 128) hx hb dX10_feed_1 (by decide) ?_
  replace hf := bnd_some hf
  obtain ⟨r2, μ1, h4, hf⟩ := hf
  refine cl_S (As := [.int a1, .int (128 : Int32)]) (rest := []) (st2 := [.int r2]) (n := 2) hX hM (c_X10_below l  h4) mt_X10_below q_8_1 ⟨rfl, rfl⟩ ⟨Nat.le_of_ble_eq_true rfl, Nat.le_of_ble_eq_true rfl⟩ rfl hl.1 rfl (Nat.le_of_ble_eq_true rfl) dX10_feed_4 rfl (fun H locs hM => ?_)
  refine lv_if_ne (tgt := 13) hx hb dX10_feed_7 (by decide) (fun hc7 => ?_) (fun hc7 => ?_)
  · replace hf := it_f hf hc7
    refine lv_aload_n hx hb dX10_feed_13 rfl (lv_at hl 0 rfl) ?_
    refine gf_8_4 hX hM ho q_2_8 dX10_feed_14 ?_
    refine lv_iload_n hx hb dX10_feed_17 rfl (lv_at hl 1 rfl) ?_
    replace hf := bnd_some hf
    obtain ⟨r4, μ3, h18, hf⟩ := hf
    refine cl_V (As := [.int a1]) (rest := []) (st2 := [.int r4]) (n := 1) hX hM (c_X7_append l (kr_8_4 ho) h18) mv_X7_append q_21_7 ⟨rfl, rfl⟩ ⟨Nat.le_of_ble_eq_true rfl, Nat.le_of_ble_eq_true rfl⟩ (kr_8_4 ho) (by decide) rfl rfl rfl hl.1 rfl (Nat.le_of_ble_eq_true rfl) dX10_feed_18 rfl (fun H locs hM => ?_)
    exact rt_i hX hM (congrArg (fun z => some (Value.int z)) (so_1 hf)) (so_2 hf) dX10_feed_21
  · replace hf := it_t hf hc7
    refine lv_bipush (v := (-2)) hx hb dX10_feed_10 (by decide) ?_
    exact rt_i hX hM (congrArg (fun z => some (Value.int z)) (so_1 hf)) (so_2 hf) dX10_feed_12
theorem c_X10_feed (l : Launch) {o : Nat} {a1 : Int32} (ho : knd o = 8) {μ μ2 : Mem} {r : Int32} (hf : f_X10_feed o a1 μ = some (r, μ2)) : CT E l yX10_feed cX10_feed 2 (some .int) (rmF 1 21) [.ref (eA E o), .int a1] μ (some (.int r)) μ2 := CT.of (show plainFor yX10_feed = true by decide +kernel) (Nat.le_of_ble_eq_true rfl) rfl (fun _ _ _ _ _ _ _ _ hX hM hl => w_X10_feed l ho hf hX hM hl)
theorem mv_X10_feed : MV yX10_feed cX10_feed 2 (some .int) RX10 1 := ⟨q_21_6, q_21_4, q_21_5, q_1_2, by decide +kernel⟩
def f_X10_doTable_b14 (o : Nat) (a1 : Int32) (a2 : Int32)  : Nat → Int32 → Mem → Option (Int32 × Mem)
  | 0, _, _ => none
  | n + 1, x3, μ =>
    (if (5 : Int32) ≤ x3 then some ((1 : Int32), μ) else bnd (f_X7_number (rf o 4) a1 ((1 : Int32) + x3) μ) (fun r2 μ1 => bnv (f_X6_putSpeed (rf o 0) a2 x3 r2 μ1) (fun μ3 => lt (x3 + (1 : Int32)) (fun v4 => (f_X10_doTable_b14 o a1 a2  n) v4 μ3))))
set_option maxHeartbeats 4000000 in
set_option maxRecDepth 100000 in
theorem w_X10_doTable_b14 (l : Launch) {o : Nat} {a1 : Int32} {a2 : Int32} (ho : knd o = 8) {μ2 : Mem} {r : Int32}  (hX : XX E p m meth c cX10_doTable 4 (some .boolean) s args RX10)  : ∀ (n : Nat) (x3 : Int32) (μ : Mem), f_X10_doTable_b14 o a1 a2  n x3 μ = some (r, μ2) → ∀ (H : Heap) (locs : List Loc), MM E s μ H locs → ∀ ls : Array Slot, lv_has ls 4 [(0, .ref (eA E o)), (1, .int a1), (2, .int a2), (3, .int x3)] → W p l e (rmF 2 43) s m args below meth c H locs 0 0 (MQ below (QC E (some (.int r)) μ2) args s 0 0 (AA E)) (F0 m 14 ls []) := by
  obtain ⟨⟨hx, hb, hml, hown, hts⟩, hXr⟩ := id hX
  intro n
  induction n with
  | zero => intro x3 μ  hf; exact no_none hf
  | succ n ih =>
    intro x3 μ  hf H locs hM ls hl
    rw [f_X10_doTable_b14] at hf
    have hK14 := ih
    clear ih
    refine lv_iload_n hx hb dX10_doTable_14 rfl (lv_at hl 3 rfl) ?_
    refine lv_iconst (v := 5) hx hb dX10_doTable_15 (by decide) ?_
    refine lv_icmp_ge (tgt := 45) hx hb dX10_doTable_16 (by decide) (fun hc16 => ?_) (fun hc16 => ?_)
    · replace hf := it_t hf hc16
      refine lv_iconst (v := 1) hx hb dX10_doTable_45 (by decide) ?_
      exact rt_z hX hM rfl (congrArg (fun z => some (Value.int z)) (so_1 hf)) (so_2 hf) dX10_doTable_46
    · replace hf := it_f hf hc16
      refine lv_aload_n hx hb dX10_doTable_19 rfl (lv_at hl 0 rfl) ?_
      refine gf_8_0 hX hM ho q_1_16 dX10_doTable_20 ?_
      refine lv_iload_n hx hb dX10_doTable_23 rfl (lv_at hl 2 rfl) ?_
      refine lv_iload_n hx hb dX10_doTable_24 rfl (lv_at hl 3 rfl) ?_
      refine lv_aload_n hx hb dX10_doTable_25 rfl (lv_at hl 0 rfl) ?_
      refine gf_8_4 hX hM ho q_2_8 dX10_doTable_26 ?_
      refine lv_iload_n hx hb dX10_doTable_29 rfl (lv_at hl 1 rfl) ?_
      refine lv_iconst (v := 1) hx hb dX10_doTable_30 (by decide) ?_
      refine lv_iload_n hx hb dX10_doTable_31 rfl (lv_at hl 3 rfl) ?_
      refine lv_iadd hx hb dX10_doTable_32 ?_
      replace hf := bnd_some hf
      obtain ⟨r2, μ1, h33, hf⟩ := hf
      refine cl_V (As := [.int a1, .int ((1 : Int32) + x3)]) (rest := [.int x3, .int a2, .ref (eA E (rf o 0))]) (st2 := [.int r2, .int x3, .int a2, .ref (eA E (rf o 0))]) (n := 2) hX hM (c_X7_number l (kr_8_4 ho) h33) mv_X7_number q_25_16 ⟨rfl, rfl⟩ ⟨Nat.le_of_ble_eq_true rfl, Nat.le_of_ble_eq_true rfl⟩ (kr_8_4 ho) (by decide) rfl rfl rfl hl.1 rfl (Nat.le_of_ble_eq_true rfl) dX10_doTable_33 rfl (fun H locs hM => ?_)
      replace hf := bnv_some hf
      obtain ⟨μ3, h36, hf⟩ := hf
      refine cl_V (As := [.int a2, .int x3, .int r2]) (rest := []) (st2 := []) (n := 3) hX hM (c_X6_putSpeed l (kr_8_0 ho) h36) mv_X6_putSpeed q_10_15 ⟨rfl, rfl⟩ ⟨Nat.le_of_ble_eq_true rfl, Nat.le_of_ble_eq_true rfl⟩ (kr_8_0 ho) (by decide) rfl rfl rfl hl.1 rfl (Nat.le_of_ble_eq_true rfl) dX10_doTable_36 rfl (fun H locs hM => ?_)
      obtain ⟨v4, ev4⟩ : ∃ y : Int32, y = x3 + (1 : Int32) := ⟨_, rfl⟩
      replace hf := lt_e ev4 hf
      refine lv_iinc (v := v4) (lv' := [(3, .int v4), (0, .ref (eA E o)), (1, .int a1), (2, .int a2)]) hx hb dX10_doTable_39 hl (k := 3) rfl (by rw [ev4]; rfl) (by decide) rfl (fun ls hl => ?_)
      refine lv_goto (tgt := 14) hx hb dX10_doTable_42 (by decide) ?_
      exact hK14 _ _  hf _ _ hM _ (lv_sub hl [1, 2, 3, 0] rfl)
def f_X10_doTable (o : Nat) (a1 : Int32) (a2 : Int32) (μ : Mem) : Option (Int32 × Mem) :=
  (if a2 < (1 : Int32) then some ((0 : Int32), μ) else (if a2 ≤ (3 : Int32) then f_X10_doTable_b14 o a1 a2  FU (0 : Int32) μ else some ((0 : Int32), μ)))
set_option maxHeartbeats 4000000 in
set_option maxRecDepth 100000 in
theorem w_X10_doTable (l : Launch) {o : Nat} {a1 : Int32} {a2 : Int32} (ho : knd o = 8) {μ μ2 : Mem} {r : Int32} {H : Heap} {locs : List Loc} {ls : Array Slot} (hf : f_X10_doTable o a1 a2 μ = some (r, μ2)) (hX : XX E p m meth c cX10_doTable 4 (some .boolean) s args RX10) (hM : MM E s μ H locs) (hl : lv_has ls 4 [(0, .ref (eA E o)), (1, .int a1), (2, .int a2)]) : W p l e (rmF 2 43) s m args below meth c H locs 0 0 (MQ below (QC E (some (.int r)) μ2) args s 0 0 (AA E)) (F0 m 0 ls []) := by
  obtain ⟨⟨hx, hb, hml, hown, hts⟩, hXr⟩ := id hX
  unfold f_X10_doTable at hf
  refine lv_iload_n hx hb dX10_doTable_0 rfl (lv_at hl 2 rfl) ?_
  refine lv_iconst (v := 1) hx hb dX10_doTable_1 (by decide) ?_
  refine lv_icmp_lt (tgt := 10) hx hb dX10_doTable_2 (by decide) (fun hc2 => ?_) (fun hc2 => ?_)
  · replace hf := it_t hf hc2
    refine lv_iconst (v := 0) hx hb dX10_doTable_10 (by decide) ?_
    exact rt_z hX hM rfl (congrArg (fun z => some (Value.int z)) (so_1 hf)) (so_2 hf) dX10_doTable_11
  · replace hf := it_f hf hc2
    refine lv_iload_n hx hb dX10_doTable_5 rfl (lv_at hl 2 rfl) ?_
    refine lv_iconst (v := 3) hx hb dX10_doTable_6 (by decide) ?_
    refine lv_icmp_le (tgt := 12) hx hb dX10_doTable_7 (by decide) (fun hc7 => ?_) (fun hc7 => ?_)
    · replace hf := it_t hf hc7
      refine lv_iconst (v := 0) hx hb dX10_doTable_12 (by decide) ?_
      refine lv_istore_n (lv' := [(3, .int (0 : Int32)), (0, .ref (eA E o)), (1, .int a1), (2, .int a2)]) hx hb dX10_doTable_13 rfl hl (by decide) rfl (fun ls hl => ?_)
      exact w_X10_doTable_b14 l ho hX  FU _ _  hf _ _ hM _ (lv_sub hl [1, 2, 3, 0] rfl)
    · replace hf := it_f hf hc7
      refine lv_iconst (v := 0) hx hb dX10_doTable_10 (by decide) ?_
      exact rt_z hX hM rfl (congrArg (fun z => some (Value.int z)) (so_1 hf)) (so_2 hf) dX10_doTable_11
theorem c_X10_doTable (l : Launch) {o : Nat} {a1 : Int32} {a2 : Int32} (ho : knd o = 8) {μ μ2 : Mem} {r : Int32} (hf : f_X10_doTable o a1 a2 μ = some (r, μ2)) : CT E l yX10_doTable cX10_doTable 4 (some .boolean) (rmF 2 43) [.ref (eA E o), .int a1, .int a2] μ (some (.int r)) μ2 := CT.of (show plainFor yX10_doTable = true by decide +kernel) (Nat.le_of_ble_eq_true rfl) rfl (fun _ _ _ _ _ _ _ _ hX hM hl => w_X10_doTable l ho hf hX hM hl)
theorem mv_X10_doTable : MV yX10_doTable cX10_doTable 4 (some .boolean) RX10 2 := ⟨q_26_5, q_26_3, q_26_4, q_1_2, by decide +kernel⟩
def f_X10_doStart (o : Nat) (a1 : Int32) (a2 : Int32) (a3 : Int32) (μ : Mem) : Option (Int32 × Mem) :=
  bnd (f_X10_refusalOfStart o a1 a2 a3 μ) (fun r2 μ1 => (if r2 = 0 then bnv (f_X6_putStart (rf o 0) a1 a2 a3 μ1) (fun μ3 => some ((1 : Int32), μ3)) else some ((0 : Int32), μ1)))
set_option maxHeartbeats 4000000 in
set_option maxRecDepth 100000 in
theorem w_X10_doStart (l : Launch) {o : Nat} {a1 : Int32} {a2 : Int32} {a3 : Int32} (ho : knd o = 8) {μ μ2 : Mem} {r : Int32} {H : Heap} {locs : List Loc} {ls : Array Slot} (hf : f_X10_doStart o a1 a2 a3 μ = some (r, μ2)) (hX : XX E p m meth c cX10_doStart 4 (some .boolean) s args RX10) (hM : MM E s μ H locs) (hl : lv_has ls 4 [(0, .ref (eA E o)), (1, .int a1), (2, .int a2), (3, .int a3)]) : W p l e (rmF 2 44) s m args below meth c H locs 0 0 (MQ below (QC E (some (.int r)) μ2) args s 0 0 (AA E)) (F0 m 0 ls []) := by
  obtain ⟨⟨hx, hb, hml, hown, hts⟩, hXr⟩ := id hX
  unfold f_X10_doStart at hf
  refine lv_aload_n hx hb dX10_doStart_0 rfl (lv_at hl 0 rfl) ?_
  refine lv_iload_n hx hb dX10_doStart_1 rfl (lv_at hl 1 rfl) ?_
  refine lv_iload_n hx hb dX10_doStart_2 rfl (lv_at hl 2 rfl) ?_
  refine lv_iload_n hx hb dX10_doStart_3 rfl (lv_at hl 3 rfl) ?_
  replace hf := bnd_some hf
  obtain ⟨r2, μ1, h4, hf⟩ := hf
  refine cl_V (As := [.int a1, .int a2, .int a3]) (rest := []) (st2 := [.int r2]) (n := 3) hX hM (c_X10_refusalOfStart l ho h4) mv_X10_refusalOfStart q_12_4 ⟨rfl, rfl⟩ ⟨Nat.le_of_ble_eq_true rfl, Nat.le_of_ble_eq_true rfl⟩ ho (by decide) rfl rfl rfl hl.1 rfl (Nat.le_of_ble_eq_true rfl) dX10_doStart_4 rfl (fun H locs hM => ?_)
  refine lv_if_eq (tgt := 12) hx hb dX10_doStart_7 (by decide) (fun hc7 => ?_) (fun hc7 => ?_)
  · replace hf := it_t hf hc7
    refine lv_aload_n hx hb dX10_doStart_12 rfl (lv_at hl 0 rfl) ?_
    refine gf_8_0 hX hM ho q_1_16 dX10_doStart_13 ?_
    refine lv_iload_n hx hb dX10_doStart_16 rfl (lv_at hl 1 rfl) ?_
    refine lv_iload_n hx hb dX10_doStart_17 rfl (lv_at hl 2 rfl) ?_
    refine lv_iload_n hx hb dX10_doStart_18 rfl (lv_at hl 3 rfl) ?_
    replace hf := bnv_some hf
    obtain ⟨μ3, h19, hf⟩ := hf
    refine cl_V (As := [.int a1, .int a2, .int a3]) (rest := []) (st2 := []) (n := 3) hX hM (c_X6_putStart l (kr_8_0 ho) h19) mv_X6_putStart q_12_8 ⟨rfl, rfl⟩ ⟨Nat.le_of_ble_eq_true rfl, Nat.le_of_ble_eq_true rfl⟩ (kr_8_0 ho) (by decide) rfl rfl rfl hl.1 rfl (Nat.le_of_ble_eq_true rfl) dX10_doStart_19 rfl (fun H locs hM => ?_)
    refine lv_iconst (v := 1) hx hb dX10_doStart_22 (by decide) ?_
    exact rt_z hX hM rfl (congrArg (fun z => some (Value.int z)) (so_1 hf)) (so_2 hf) dX10_doStart_23
  · replace hf := it_f hf hc7
    refine lv_iconst (v := 0) hx hb dX10_doStart_10 (by decide) ?_
    exact rt_z hX hM rfl (congrArg (fun z => some (Value.int z)) (so_1 hf)) (so_2 hf) dX10_doStart_11
theorem c_X10_doStart (l : Launch) {o : Nat} {a1 : Int32} {a2 : Int32} {a3 : Int32} (ho : knd o = 8) {μ μ2 : Mem} {r : Int32} (hf : f_X10_doStart o a1 a2 a3 μ = some (r, μ2)) : CT E l yX10_doStart cX10_doStart 4 (some .boolean) (rmF 2 44) [.ref (eA E o), .int a1, .int a2, .int a3] μ (some (.int r)) μ2 := CT.of (show plainFor yX10_doStart = true by decide +kernel) (Nat.le_of_ble_eq_true rfl) rfl (fun _ _ _ _ _ _ _ _ hX hM hl => w_X10_doStart l ho hf hX hM hl)
theorem mv_X10_doStart : MV yX10_doStart cX10_doStart 4 (some .boolean) RX10 3 := ⟨q_26_10, q_26_8, q_26_9, q_1_2, by decide +kernel⟩
def f_X10_doLosses (o : Nat) (a1 : Int32) (a2 : Int32) (μ : Mem) : Option (Int32 × Mem) :=
  (if (60 : Int32) < a1 then some ((0 : Int32), μ) else (if a2 ≤ (60 : Int32) then bnv (f_X6_putLoss (rf o 0) (0 : Int32) a1 μ) (fun μ1 => bnv (f_X6_putLoss (rf o 0) (1 : Int32) a2 μ1) (fun μ2 => some ((1 : Int32), μ2))) else some ((0 : Int32), μ)))
set_option maxHeartbeats 4000000 in
set_option maxRecDepth 100000 in
theorem w_X10_doLosses (l : Launch) {o : Nat} {a1 : Int32} {a2 : Int32} (ho : knd o = 8) {μ μ2 : Mem} {r : Int32} {H : Heap} {locs : List Loc} {ls : Array Slot} (hf : f_X10_doLosses o a1 a2 μ = some (r, μ2)) (hX : XX E p m meth c cX10_doLosses 3 (some .boolean) s args RX10) (hM : MM E s μ H locs) (hl : lv_has ls 3 [(0, .ref (eA E o)), (1, .int a1), (2, .int a2)]) : W p l e (rmF 1 22) s m args below meth c H locs 0 0 (MQ below (QC E (some (.int r)) μ2) args s 0 0 (AA E)) (F0 m 0 ls []) := by
  obtain ⟨⟨hx, hb, hml, hown, hts⟩, hXr⟩ := id hX
  unfold f_X10_doLosses at hf
  refine lv_iload_n hx hb dX10_doLosses_0 rfl (lv_at hl 1 rfl) ?_
  refine lv_bipush (v := 60) hx hb dX10_doLosses_1 (by decide) ?_
  refine lv_icmp_gt (tgt := 12) hx hb dX10_doLosses_3 (by decide) (fun hc3 => ?_) (fun hc3 => ?_)
  · replace hf := it_t hf hc3
    refine lv_iconst (v := 0) hx hb dX10_doLosses_12 (by decide) ?_
    exact rt_z hX hM rfl (congrArg (fun z => some (Value.int z)) (so_1 hf)) (so_2 hf) dX10_doLosses_13
  · replace hf := it_f hf hc3
    refine lv_iload_n hx hb dX10_doLosses_6 rfl (lv_at hl 2 rfl) ?_
    refine lv_bipush (v := 60) hx hb dX10_doLosses_7 (by decide) ?_
    refine lv_icmp_le (tgt := 14) hx hb dX10_doLosses_9 (by decide) (fun hc9 => ?_) (fun hc9 => ?_)
    · replace hf := it_t hf hc9
      refine lv_aload_n hx hb dX10_doLosses_14 rfl (lv_at hl 0 rfl) ?_
      refine gf_8_0 hX hM ho q_1_16 dX10_doLosses_15 ?_
      refine lv_iconst (v := 0) hx hb dX10_doLosses_18 (by decide) ?_
      refine lv_iload_n hx hb dX10_doLosses_19 rfl (lv_at hl 1 rfl) ?_
      replace hf := bnv_some hf
      obtain ⟨μ1, h20, hf⟩ := hf
      refine cl_V (As := [.int (0 : Int32), .int a1]) (rest := []) (st2 := []) (n := 2) hX hM (c_X6_putLoss l (kr_8_0 ho) h20) mv_X6_putLoss q_20_1 ⟨rfl, rfl⟩ ⟨Nat.le_of_ble_eq_true rfl, Nat.le_of_ble_eq_true rfl⟩ (kr_8_0 ho) (by decide) rfl rfl rfl hl.1 rfl (Nat.le_of_ble_eq_true rfl) dX10_doLosses_20 rfl (fun H locs hM => ?_)
      refine lv_aload_n hx hb dX10_doLosses_23 rfl (lv_at hl 0 rfl) ?_
      refine gf_8_0 hX hM ho q_1_16 dX10_doLosses_24 ?_
      refine lv_iconst (v := 1) hx hb dX10_doLosses_27 (by decide) ?_
      refine lv_iload_n hx hb dX10_doLosses_28 rfl (lv_at hl 2 rfl) ?_
      replace hf := bnv_some hf
      obtain ⟨μ2, h29, hf⟩ := hf
      refine cl_V (As := [.int (1 : Int32), .int a2]) (rest := []) (st2 := []) (n := 2) hX hM (c_X6_putLoss l (kr_8_0 ho) h29) mv_X6_putLoss q_20_1 ⟨rfl, rfl⟩ ⟨Nat.le_of_ble_eq_true rfl, Nat.le_of_ble_eq_true rfl⟩ (kr_8_0 ho) (by decide) rfl rfl rfl hl.1 rfl (Nat.le_of_ble_eq_true rfl) dX10_doLosses_29 rfl (fun H locs hM => ?_)
      refine lv_iconst (v := 1) hx hb dX10_doLosses_32 (by decide) ?_
      exact rt_z hX hM rfl (congrArg (fun z => some (Value.int z)) (so_1 hf)) (so_2 hf) dX10_doLosses_33
    · replace hf := it_f hf hc9
      refine lv_iconst (v := 0) hx hb dX10_doLosses_12 (by decide) ?_
      exact rt_z hX hM rfl (congrArg (fun z => some (Value.int z)) (so_1 hf)) (so_2 hf) dX10_doLosses_13
theorem c_X10_doLosses (l : Launch) {o : Nat} {a1 : Int32} {a2 : Int32} (ho : knd o = 8) {μ μ2 : Mem} {r : Int32} (hf : f_X10_doLosses o a1 a2 μ = some (r, μ2)) : CT E l yX10_doLosses cX10_doLosses 3 (some .boolean) (rmF 1 22) [.ref (eA E o), .int a1, .int a2] μ (some (.int r)) μ2 := CT.of (show plainFor yX10_doLosses = true by decide +kernel) (Nat.le_of_ble_eq_true rfl) rfl (fun _ _ _ _ _ _ _ _ hX hM hl => w_X10_doLosses l ho hf hX hM hl)
theorem mv_X10_doLosses : MV yX10_doLosses cX10_doLosses 3 (some .boolean) RX10 2 := ⟨q_26_14, q_26_12, q_26_13, q_1_2, by decide +kernel⟩
def f_X10_doClause_b173 (o : Nat) (a1 : Int32)  (t0 : Nat) (t1 : Int32) (t2 : Int32) (μ : Mem) : Option (Int32 × Mem) :=
  bnd (f_X10_land t0 t1 t2 μ) (fun r18 μ17 => (if r18 < 0 then some ((0 : Int32), μ17) else some ((1 : Int32), μ17)))
set_option maxHeartbeats 4000000 in
set_option maxRecDepth 100000 in
theorem w_X10_doClause_b173 (l : Launch) {o : Nat} {a1 : Int32} (ho : knd o = 8) {μ2 : Mem} {r : Int32}   {t0 : Nat} {t1 : Int32} {t2 : Int32} {μ : Mem} {H : Heap} {locs : List Loc} {ls : Array Slot} (ht0 : knd t0 = 8) (hf : f_X10_doClause_b173 o a1  t0 t1 t2 μ = some (r, μ2)) (hX : XX E p m meth c cX10_doClause 5 (some .boolean) s args RX10) (hM : MM E s μ H locs) (hl : lv_has ls 5 [(0, .ref (eA E o)), (1, .int a1)]) : W p l e (rmF 3 67) s m args below meth c H locs 0 0 (MQ below (QC E (some (.int r)) μ2) args s 0 0 (AA E)) (F0 m 173 ls [.int t2, .int t1, .ref (eA E t0)]) := by
  obtain ⟨⟨hx, hb, hml, hown, hts⟩, hXr⟩ := id hX
  unfold f_X10_doClause_b173 at hf
  replace hf := bnd_some hf
  obtain ⟨r18, μ17, h173, hf⟩ := hf
  refine cl_V (As := [.int t1, .int t2]) (rest := []) (st2 := [.int r18]) (n := 2) hX hM (c_X10_land l ht0 h173) mv_X10_land q_26_6 ⟨rfl, rfl⟩ ⟨Nat.le_of_ble_eq_true rfl, Nat.le_of_ble_eq_true rfl⟩ ht0 (by decide) rfl rfl rfl hl.1 rfl (Nat.le_of_ble_eq_true rfl) dX10_doClause_173 rfl (fun H locs hM => ?_)
  refine lv_if_lt (tgt := 183) hx hb dX10_doClause_176 (by decide) (fun hc176 => ?_) (fun hc176 => ?_)
  · replace hf := it_t hf hc176
    refine lv_iconst (v := 0) hx hb dX10_doClause_183 (by decide) ?_
    exact rt_z hX hM rfl (congrArg (fun z => some (Value.int z)) (so_1 hf)) (so_2 hf) dX10_doClause_184
  · replace hf := it_f hf hc176
    refine lv_iconst (v := 1) hx hb dX10_doClause_179 (by decide) ?_
    refine lv_goto (tgt := 184) hx hb dX10_doClause_180 (by decide) ?_
    exact rt_z hX hM rfl (congrArg (fun z => some (Value.int z)) (so_1 hf)) (so_2 hf) dX10_doClause_184
def f_X10_doClause (o : Nat) (a1 : Int32) (μ : Mem) : Option (Int32 × Mem) :=
  bnd (f_X7_number (rf o 4) a1 (0 : Int32) μ) (fun r2 μ1 => bnd (f_X7_number (rf o 4) a1 (1 : Int32) μ1) (fun r4 μ3 => bnd (f_X7_number (rf o 4) a1 (2 : Int32) μ3) (fun r6 μ5 => bnd (f_X7_kind (rf o 4) a1 μ5) (fun r8 μ7 => (if r8 = (98 : Int32) then bnd (f_X10_doTable o a1 r2 μ7) (fun r10 μ9 => gB r10 (some (r10, μ9))) else (if r8 = (99 : Int32) then bnd (f_X10_current o r2 r4 r6 μ7) (fun r12 μ11 => (if r12 < 0 then some ((0 : Int32), μ11) else some ((1 : Int32), μ11))) else (if r8 = (108 : Int32) then bnd (f_X10_below r2 (36 : Int32) μ7) (fun r14 μ13 => (if r14 = 0 then some ((0 : Int32), μ13) else bnd (f_X6_isLand (rf o 0) r2 μ13) (fun r16 μ15 => (if r16 = 0 then f_X10_doClause_b173 o a1  o r2 (1 : Int32) μ15 else f_X10_doClause_b173 o a1  o r2 (0 : Int32) μ15)))) else (if r8 = (115 : Int32) then bnd (f_X10_doStart o r2 r4 r6 μ7) (fun r20 μ19 => gB r20 (some (r20, μ19))) else (if r8 = (116 : Int32) then bnd (f_X10_doLosses o r2 r4 μ7) (fun r22 μ21 => gB r22 (some (r22, μ21))) else (if r8 = (119 : Int32) then bnd (f_X7_number (rf o 4) a1 (3 : Int32) μ7) (fun r24 μ23 => bnd (f_X10_wind o r2 r4 r6 r24 μ23) (fun r26 μ25 => (if r26 < 0 then some ((0 : Int32), μ25) else some ((1 : Int32), μ25)))) else some ((0 : Int32), μ7)))))))))))
set_option maxHeartbeats 4000000 in
set_option maxRecDepth 100000 in
theorem w_X10_doClause (l : Launch) {o : Nat} {a1 : Int32} (ho : knd o = 8) {μ μ2 : Mem} {r : Int32} {H : Heap} {locs : List Loc} {ls : Array Slot} (hf : f_X10_doClause o a1 μ = some (r, μ2)) (hX : XX E p m meth c cX10_doClause 5 (some .boolean) s args RX10) (hM : MM E s μ H locs) (hl : lv_has ls 5 [(0, .ref (eA E o)), (1, .int a1)]) : W p l e (rmF 3 67) s m args below meth c H locs 0 0 (MQ below (QC E (some (.int r)) μ2) args s 0 0 (AA E)) (F0 m 0 ls []) := by
  obtain ⟨⟨hx, hb, hml, hown, hts⟩, hXr⟩ := id hX
  unfold f_X10_doClause at hf
  refine lv_aload_n hx hb dX10_doClause_0 rfl (lv_at hl 0 rfl) ?_
  refine gf_8_4 hX hM ho q_2_8 dX10_doClause_1 ?_
  refine lv_iload_n hx hb dX10_doClause_4 rfl (lv_at hl 1 rfl) ?_
  refine lv_iconst (v := 0) hx hb dX10_doClause_5 (by decide) ?_
  replace hf := bnd_some hf
  obtain ⟨r2, μ1, h6, hf⟩ := hf
  refine cl_V (As := [.int a1, .int (0 : Int32)]) (rest := []) (st2 := [.int r2]) (n := 2) hX hM (c_X7_number l (kr_8_4 ho) h6) mv_X7_number q_25_16 ⟨rfl, rfl⟩ ⟨Nat.le_of_ble_eq_true rfl, Nat.le_of_ble_eq_true rfl⟩ (kr_8_4 ho) (by decide) rfl rfl rfl hl.1 rfl (Nat.le_of_ble_eq_true rfl) dX10_doClause_6 rfl (fun H locs hM => ?_)
  refine lv_istore_n (lv' := [(2, .int r2), (0, .ref (eA E o)), (1, .int a1)]) hx hb dX10_doClause_9 rfl hl (by decide) rfl (fun ls hl => ?_)
  refine lv_aload_n hx hb dX10_doClause_10 rfl (lv_at hl 1 rfl) ?_
  refine gf_8_4 hX hM ho q_2_8 dX10_doClause_11 ?_
  refine lv_iload_n hx hb dX10_doClause_14 rfl (lv_at hl 2 rfl) ?_
  refine lv_iconst (v := 1) hx hb dX10_doClause_15 (by decide) ?_
  replace hf := bnd_some hf
  obtain ⟨r4, μ3, h16, hf⟩ := hf
  refine cl_V (As := [.int a1, .int (1 : Int32)]) (rest := []) (st2 := [.int r4]) (n := 2) hX hM (c_X7_number l (kr_8_4 ho) h16) mv_X7_number q_25_16 ⟨rfl, rfl⟩ ⟨Nat.le_of_ble_eq_true rfl, Nat.le_of_ble_eq_true rfl⟩ (kr_8_4 ho) (by decide) rfl rfl rfl hl.1 rfl (Nat.le_of_ble_eq_true rfl) dX10_doClause_16 rfl (fun H locs hM => ?_)
  refine lv_istore_n (lv' := [(3, .int r4), (2, .int r2), (0, .ref (eA E o)), (1, .int a1)]) hx hb dX10_doClause_19 rfl hl (by decide) rfl (fun ls hl => ?_)
  refine lv_aload_n hx hb dX10_doClause_20 rfl (lv_at hl 2 rfl) ?_
  refine gf_8_4 hX hM ho q_2_8 dX10_doClause_21 ?_
  refine lv_iload_n hx hb dX10_doClause_24 rfl (lv_at hl 3 rfl) ?_
  refine lv_iconst (v := 2) hx hb dX10_doClause_25 (by decide) ?_
  replace hf := bnd_some hf
  obtain ⟨r6, μ5, h26, hf⟩ := hf
  refine cl_V (As := [.int a1, .int (2 : Int32)]) (rest := []) (st2 := [.int r6]) (n := 2) hX hM (c_X7_number l (kr_8_4 ho) h26) mv_X7_number q_25_16 ⟨rfl, rfl⟩ ⟨Nat.le_of_ble_eq_true rfl, Nat.le_of_ble_eq_true rfl⟩ (kr_8_4 ho) (by decide) rfl rfl rfl hl.1 rfl (Nat.le_of_ble_eq_true rfl) dX10_doClause_26 rfl (fun H locs hM => ?_)
  refine lv_istore (lv' := [(4, .int r6), (3, .int r4), (2, .int r2), (0, .ref (eA E o)), (1, .int a1)]) hx hb dX10_doClause_29 hl (by decide) rfl (fun ls hl => ?_)
  refine lv_aload_n hx hb dX10_doClause_31 rfl (lv_at hl 3 rfl) ?_
  refine gf_8_4 hX hM ho q_2_8 dX10_doClause_32 ?_
  refine lv_iload_n hx hb dX10_doClause_35 rfl (lv_at hl 4 rfl) ?_
  replace hf := bnd_some hf
  obtain ⟨r8, μ7, h36, hf⟩ := hf
  refine cl_V (As := [.int a1]) (rest := []) (st2 := [.int r8]) (n := 1) hX hM (c_X7_kind l (kr_8_4 ho) h36) mv_X7_kind q_25_20 ⟨rfl, rfl⟩ ⟨Nat.le_of_ble_eq_true rfl, Nat.le_of_ble_eq_true rfl⟩ (kr_8_4 ho) (by decide) rfl rfl rfl hl.1 rfl (Nat.le_of_ble_eq_true rfl) dX10_doClause_36 rfl (fun H locs hM => ?_)
  by_cases hs39_98 : r8 = (98 : Int32)
  · replace hf := it_t hf hs39_98
    refine lv_lookup (off := 100) (tgt := 139) hx hb dX10_doClause_39 (by decide) (by rw [hs39_98]; rfl) (by decide) ?_
    refine lv_aload_n hx hb dX10_doClause_139 rfl (lv_at hl 3 rfl) ?_
    refine lv_iload_n hx hb dX10_doClause_140 rfl (lv_at hl 4 rfl) ?_
    refine lv_iload_n hx hb dX10_doClause_141 rfl (lv_at hl 2 rfl) ?_
    replace hf := bnd_some hf
    obtain ⟨r10, μ9, h142, hf⟩ := hf
    refine cl_V (As := [.int a1, .int r2]) (rest := []) (st2 := [.int r10]) (n := 2) hX hM (c_X10_doTable l ho h142) mv_X10_doTable q_26_2 ⟨rfl, rfl⟩ ⟨Nat.le_of_ble_eq_true rfl, Nat.le_of_ble_eq_true rfl⟩ ho (by decide) rfl rfl rfl hl.1 rfl (Nat.le_of_ble_eq_true rfl) dX10_doClause_142 rfl (fun H locs hM => ?_)
    replace hf := gB_some hf
    obtain ⟨hz, hf⟩ := hf
    exact rt_z hX hM hz (congrArg (fun z => some (Value.int z)) (so_1 hf)) (so_2 hf) dX10_doClause_145
  · replace hf := it_f hf hs39_98
    by_cases hs39_99 : r8 = (99 : Int32)
    · replace hf := it_t hf hs39_99
      refine lv_lookup (off := 83) (tgt := 122) hx hb dX10_doClause_39 (by decide) (by rw [hs39_99]; rfl) (by decide) ?_
      refine lv_aload_n hx hb dX10_doClause_122 rfl (lv_at hl 3 rfl) ?_
      refine lv_iload_n hx hb dX10_doClause_123 rfl (lv_at hl 2 rfl) ?_
      refine lv_iload_n hx hb dX10_doClause_124 rfl (lv_at hl 1 rfl) ?_
      refine lv_iload hx hb dX10_doClause_125 (lv_at hl 0 rfl) ?_
      replace hf := bnd_some hf
      obtain ⟨r12, μ11, h127, hf⟩ := hf
      refine cl_V (As := [.int r2, .int r4, .int r6]) (rest := []) (st2 := [.int r12]) (n := 3) hX hM (c_X10_current l ho h127) mv_X10_current q_26_1 ⟨rfl, rfl⟩ ⟨Nat.le_of_ble_eq_true rfl, Nat.le_of_ble_eq_true rfl⟩ ho (by decide) rfl rfl rfl hl.1 rfl (Nat.le_of_ble_eq_true rfl) dX10_doClause_127 rfl (fun H locs hM => ?_)
      refine lv_if_lt (tgt := 137) hx hb dX10_doClause_130 (by decide) (fun hc130 => ?_) (fun hc130 => ?_)
      · replace hf := it_t hf hc130
        refine lv_iconst (v := 0) hx hb dX10_doClause_137 (by decide) ?_
        exact rt_z hX hM rfl (congrArg (fun z => some (Value.int z)) (so_1 hf)) (so_2 hf) dX10_doClause_138
      · replace hf := it_f hf hc130
        refine lv_iconst (v := 1) hx hb dX10_doClause_133 (by decide) ?_
        refine lv_goto (tgt := 138) hx hb dX10_doClause_134 (by decide) ?_
        exact rt_z hX hM rfl (congrArg (fun z => some (Value.int z)) (so_1 hf)) (so_2 hf) dX10_doClause_138
    · replace hf := it_f hf hs39_99
      by_cases hs39_108 : r8 = (108 : Int32)
      · replace hf := it_t hf hs39_108
        refine lv_lookup (off := 107) (tgt := 146) hx hb dX10_doClause_39 (by decide) (by rw [hs39_108]; rfl) (by decide) ?_
        refine lv_iload_n hx hb dX10_doClause_146 rfl (lv_at hl 2 rfl) ?_
        refine lv_bipush (v := 36) hx hb dX10_doClause_147 (by decide) ?_
        replace hf := bnd_some hf
        obtain ⟨r14, μ13, h149, hf⟩ := hf
        refine cl_S (As := [.int r2, .int (36 : Int32)]) (rest := []) (st2 := [.int r14]) (n := 2) hX hM (c_X10_below l  h149) mt_X10_below q_8_1 ⟨rfl, rfl⟩ ⟨Nat.le_of_ble_eq_true rfl, Nat.le_of_ble_eq_true rfl⟩ rfl hl.1 rfl (Nat.le_of_ble_eq_true rfl) dX10_doClause_149 rfl (fun H locs hM => ?_)
        refine lv_if_eq (tgt := 183) hx hb dX10_doClause_152 (by decide) (fun hc152 => ?_) (fun hc152 => ?_)
        · replace hf := it_t hf hc152
          refine lv_iconst (v := 0) hx hb dX10_doClause_183 (by decide) ?_
          exact rt_z hX hM rfl (congrArg (fun z => some (Value.int z)) (so_1 hf)) (so_2 hf) dX10_doClause_184
        · replace hf := it_f hf hc152
          refine lv_aload_n hx hb dX10_doClause_155 rfl (lv_at hl 3 rfl) ?_
          refine lv_iload_n hx hb dX10_doClause_156 rfl (lv_at hl 2 rfl) ?_
          refine lv_aload_n hx hb dX10_doClause_157 rfl (lv_at hl 3 rfl) ?_
          refine gf_8_0 hX hM ho q_1_16 dX10_doClause_158 ?_
          refine lv_iload_n hx hb dX10_doClause_161 rfl (lv_at hl 2 rfl) ?_
          replace hf := bnd_some hf
          obtain ⟨r16, μ15, h162, hf⟩ := hf
          refine cl_V (As := [.int r2]) (rest := [.int r2, .ref (eA E o)]) (st2 := [.int r16, .int r2, .ref (eA E o)]) (n := 1) hX hM (c_X6_isLand l (kr_8_0 ho) h162) mv_X6_isLand q_11_7 ⟨rfl, rfl⟩ ⟨Nat.le_of_ble_eq_true rfl, Nat.le_of_ble_eq_true rfl⟩ (kr_8_0 ho) (by decide) rfl rfl rfl hl.1 rfl (Nat.le_of_ble_eq_true rfl) dX10_doClause_162 rfl (fun H locs hM => ?_)
          refine lv_if_ne (tgt := 172) hx hb dX10_doClause_165 (by decide) (fun hc165 => ?_) (fun hc165 => ?_)
          · replace hf := it_f hf hc165
            refine lv_iconst (v := 0) hx hb dX10_doClause_172 (by decide) ?_
            exact w_X10_doClause_b173 l ho  ho hf hX hM (lv_sub hl [3, 4] rfl)
          · replace hf := it_t hf hc165
            refine lv_iconst (v := 1) hx hb dX10_doClause_168 (by decide) ?_
            refine lv_goto (tgt := 173) hx hb dX10_doClause_169 (by decide) ?_
            exact w_X10_doClause_b173 l ho  ho hf hX hM (lv_sub hl [3, 4] rfl)
      · replace hf := it_f hf hs39_108
        by_cases hs39_115 : r8 = (115 : Int32)
        · replace hf := it_t hf hs39_115
          refine lv_lookup (off := 146) (tgt := 185) hx hb dX10_doClause_39 (by decide) (by rw [hs39_115]; rfl) (by decide) ?_
          refine lv_aload_n hx hb dX10_doClause_185 rfl (lv_at hl 3 rfl) ?_
          refine lv_iload_n hx hb dX10_doClause_186 rfl (lv_at hl 2 rfl) ?_
          refine lv_iload_n hx hb dX10_doClause_187 rfl (lv_at hl 1 rfl) ?_
          refine lv_iload hx hb dX10_doClause_188 (lv_at hl 0 rfl) ?_
          replace hf := bnd_some hf
          obtain ⟨r20, μ19, h190, hf⟩ := hf
          refine cl_V (As := [.int r2, .int r4, .int r6]) (rest := []) (st2 := [.int r20]) (n := 3) hX hM (c_X10_doStart l ho h190) mv_X10_doStart q_26_7 ⟨rfl, rfl⟩ ⟨Nat.le_of_ble_eq_true rfl, Nat.le_of_ble_eq_true rfl⟩ ho (by decide) rfl rfl rfl hl.1 rfl (Nat.le_of_ble_eq_true rfl) dX10_doClause_190 rfl (fun H locs hM => ?_)
          replace hf := gB_some hf
          obtain ⟨hz, hf⟩ := hf
          exact rt_z hX hM hz (congrArg (fun z => some (Value.int z)) (so_1 hf)) (so_2 hf) dX10_doClause_193
        · replace hf := it_f hf hs39_115
          by_cases hs39_116 : r8 = (116 : Int32)
          · replace hf := it_t hf hs39_116
            refine lv_lookup (off := 155) (tgt := 194) hx hb dX10_doClause_39 (by decide) (by rw [hs39_116]; rfl) (by decide) ?_
            refine lv_aload_n hx hb dX10_doClause_194 rfl (lv_at hl 3 rfl) ?_
            refine lv_iload_n hx hb dX10_doClause_195 rfl (lv_at hl 2 rfl) ?_
            refine lv_iload_n hx hb dX10_doClause_196 rfl (lv_at hl 1 rfl) ?_
            replace hf := bnd_some hf
            obtain ⟨r22, μ21, h197, hf⟩ := hf
            refine cl_V (As := [.int r2, .int r4]) (rest := []) (st2 := [.int r22]) (n := 2) hX hM (c_X10_doLosses l ho h197) mv_X10_doLosses q_26_11 ⟨rfl, rfl⟩ ⟨Nat.le_of_ble_eq_true rfl, Nat.le_of_ble_eq_true rfl⟩ ho (by decide) rfl rfl rfl hl.1 rfl (Nat.le_of_ble_eq_true rfl) dX10_doClause_197 rfl (fun H locs hM => ?_)
            replace hf := gB_some hf
            obtain ⟨hz, hf⟩ := hf
            exact rt_z hX hM hz (congrArg (fun z => some (Value.int z)) (so_1 hf)) (so_2 hf) dX10_doClause_200
          · replace hf := it_f hf hs39_116
            by_cases hs39_119 : r8 = (119 : Int32)
            · replace hf := it_t hf hs39_119
              refine lv_lookup (off := 57) (tgt := 96) hx hb dX10_doClause_39 (by decide) (by rw [hs39_119]; rfl) (by decide) ?_
              refine lv_aload_n hx hb dX10_doClause_96 rfl (lv_at hl 3 rfl) ?_
              refine lv_iload_n hx hb dX10_doClause_97 rfl (lv_at hl 2 rfl) ?_
              refine lv_iload_n hx hb dX10_doClause_98 rfl (lv_at hl 1 rfl) ?_
              refine lv_iload hx hb dX10_doClause_99 (lv_at hl 0 rfl) ?_
              refine lv_aload_n hx hb dX10_doClause_101 rfl (lv_at hl 3 rfl) ?_
              refine gf_8_4 hX hM ho q_2_8 dX10_doClause_102 ?_
              refine lv_iload_n hx hb dX10_doClause_105 rfl (lv_at hl 4 rfl) ?_
              refine lv_iconst (v := 3) hx hb dX10_doClause_106 (by decide) ?_
              replace hf := bnd_some hf
              obtain ⟨r24, μ23, h107, hf⟩ := hf
              refine cl_V (As := [.int a1, .int (3 : Int32)]) (rest := [.int r6, .int r4, .int r2, .ref (eA E o)]) (st2 := [.int r24, .int r6, .int r4, .int r2, .ref (eA E o)]) (n := 2) hX hM (c_X7_number l (kr_8_4 ho) h107) mv_X7_number q_25_16 ⟨rfl, rfl⟩ ⟨Nat.le_of_ble_eq_true rfl, Nat.le_of_ble_eq_true rfl⟩ (kr_8_4 ho) (by decide) rfl rfl rfl hl.1 rfl (Nat.le_of_ble_eq_true rfl) dX10_doClause_107 rfl (fun H locs hM => ?_)
              replace hf := bnd_some hf
              obtain ⟨r26, μ25, h110, hf⟩ := hf
              refine cl_V (As := [.int r2, .int r4, .int r6, .int r24]) (rest := []) (st2 := [.int r26]) (n := 4) hX hM (c_X10_wind l ho h110) mv_X10_wind q_26_0 ⟨rfl, rfl⟩ ⟨Nat.le_of_ble_eq_true rfl, Nat.le_of_ble_eq_true rfl⟩ ho (by decide) rfl rfl rfl hl.1 rfl (Nat.le_of_ble_eq_true rfl) dX10_doClause_110 rfl (fun H locs hM => ?_)
              refine lv_if_lt (tgt := 120) hx hb dX10_doClause_113 (by decide) (fun hc113 => ?_) (fun hc113 => ?_)
              · replace hf := it_t hf hc113
                refine lv_iconst (v := 0) hx hb dX10_doClause_120 (by decide) ?_
                exact rt_z hX hM rfl (congrArg (fun z => some (Value.int z)) (so_1 hf)) (so_2 hf) dX10_doClause_121
              · replace hf := it_f hf hc113
                refine lv_iconst (v := 1) hx hb dX10_doClause_116 (by decide) ?_
                refine lv_goto (tgt := 121) hx hb dX10_doClause_117 (by decide) ?_
                exact rt_z hX hM rfl (congrArg (fun z => some (Value.int z)) (so_1 hf)) (so_2 hf) dX10_doClause_121
            · replace hf := it_f hf hs39_119
              refine lv_lookup (off := 162) (tgt := 201) hx hb dX10_doClause_39 (by decide) ((lv_osw hs39_98 rfl).trans ((lv_osw hs39_99 rfl).trans ((lv_osw hs39_108 rfl).trans ((lv_osw hs39_115 rfl).trans ((lv_osw hs39_116 rfl).trans ((lv_osw hs39_119 rfl).trans rfl)))))) (by decide) ?_
              refine lv_iconst (v := 0) hx hb dX10_doClause_201 (by decide) ?_
              exact rt_z hX hM rfl (congrArg (fun z => some (Value.int z)) (so_1 hf)) (so_2 hf) dX10_doClause_202
theorem c_X10_doClause (l : Launch) {o : Nat} {a1 : Int32} (ho : knd o = 8) {μ μ2 : Mem} {r : Int32} (hf : f_X10_doClause o a1 μ = some (r, μ2)) : CT E l yX10_doClause cX10_doClause 5 (some .boolean) (rmF 3 67) [.ref (eA E o), .int a1] μ (some (.int r)) μ2 := CT.of (show plainFor yX10_doClause = true by decide +kernel) (Nat.le_of_ble_eq_true rfl) rfl (fun _ _ _ _ _ _ _ _ hX hM hl => w_X10_doClause l ho hf hX hM hl)
theorem mv_X10_doClause : MV yX10_doClause cX10_doClause 5 (some .boolean) RX10 1 := ⟨q_25_15, q_25_13, q_25_14, q_1_2, by decide +kernel⟩
def f_X10_read_b29 (o : Nat)  : Nat → Int32 → Int32 → Mem → Option (Int32 × Mem)
  | 0, _, _, _ => none
  | n + 1, x2, x3, μ =>
    bnd (f_X7_clauseCount (rf o 4) μ) (fun r5 μ4 => (if r5 ≤ x3 then some (x2, μ4) else bnd (f_X10_doClause o x3 μ4) (fun r7 μ6 => (if r7 = 0 then lt (x3 + (1 : Int32)) (fun v8 => (f_X10_read_b29 o  n) x2 v8 μ6) else lt (x2 + (1 : Int32)) (fun v9 => lt (x3 + (1 : Int32)) (fun v10 => (f_X10_read_b29 o  n) v9 v10 μ6))))))
set_option maxHeartbeats 4000000 in
set_option maxRecDepth 100000 in
theorem w_X10_read_b29 (l : Launch) {o : Nat} (ho : knd o = 8) {μ2 : Mem} {r : Int32}  (hX : XX E p m meth c cX10_read 4 (some .int) s args RX10)  : ∀ (n : Nat) (x2 : Int32) (x3 : Int32) (μ : Mem), f_X10_read_b29 o  n x2 x3 μ = some (r, μ2) → ∀ (H : Heap) (locs : List Loc), MM E s μ H locs → ∀ ls : Array Slot, lv_has ls 4 [(0, .ref (eA E o)), (2, .int x2), (3, .int x3)] → W p l e (rmF 6 128) s m args below meth c H locs 0 0 (MQ below (QC E (some (.int r)) μ2) args s 0 0 (AA E)) (F0 m 29 ls []) := by
  obtain ⟨⟨hx, hb, hml, hown, hts⟩, hXr⟩ := id hX
  intro n
  induction n with
  | zero => intro x2 x3 μ  hf; exact no_none hf
  | succ n ih =>
    intro x2 x3 μ  hf H locs hM ls hl
    rw [f_X10_read_b29] at hf
    have hK29 := ih
    clear ih
    refine lv_iload_n hx hb dX10_read_29 rfl (lv_at hl 2 rfl) ?_
    refine lv_aload_n hx hb dX10_read_30 rfl (lv_at hl 0 rfl) ?_
    refine gf_8_4 hX hM ho q_2_8 dX10_read_31 ?_
    replace hf := bnd_some hf
    obtain ⟨r5, μ4, h34, hf⟩ := hf
    refine cl_V (As := []) (rest := [.int x3]) (st2 := [.int r5, .int x3]) (n := 0) hX hM (c_X7_clauseCount l (kr_8_4 ho) h34) mv_X7_clauseCount q_25_8 ⟨rfl, rfl⟩ ⟨Nat.le_of_ble_eq_true rfl, Nat.le_of_ble_eq_true rfl⟩ (kr_8_4 ho) (by decide) rfl rfl rfl hl.1 rfl (Nat.le_of_ble_eq_true rfl) dX10_read_34 rfl (fun H locs hM => ?_)
    refine lv_icmp_ge (tgt := 57) hx hb dX10_read_37 (by decide) (fun hc37 => ?_) (fun hc37 => ?_)
    · replace hf := it_t hf hc37
      refine lv_iload_n hx hb dX10_read_57 rfl (lv_at hl 1 rfl) ?_
      exact rt_i hX hM (congrArg (fun z => some (Value.int z)) (so_1 hf)) (so_2 hf) dX10_read_58
    · replace hf := it_f hf hc37
      refine lv_aload_n hx hb dX10_read_40 rfl (lv_at hl 0 rfl) ?_
      refine lv_iload_n hx hb dX10_read_41 rfl (lv_at hl 2 rfl) ?_
      replace hf := bnd_some hf
      obtain ⟨r7, μ6, h42, hf⟩ := hf
      refine cl_V (As := [.int x3]) (rest := []) (st2 := [.int r7]) (n := 1) hX hM (c_X10_doClause l ho h42) mv_X10_doClause q_25_12 ⟨rfl, rfl⟩ ⟨Nat.le_of_ble_eq_true rfl, Nat.le_of_ble_eq_true rfl⟩ ho (by decide) rfl rfl rfl hl.1 rfl (Nat.le_of_ble_eq_true rfl) dX10_read_42 rfl (fun H locs hM => ?_)
      refine lv_if_eq (tgt := 51) hx hb dX10_read_45 (by decide) (fun hc45 => ?_) (fun hc45 => ?_)
      · replace hf := it_t hf hc45
        obtain ⟨v8, ev8⟩ : ∃ y : Int32, y = x3 + (1 : Int32) := ⟨_, rfl⟩
        replace hf := lt_e ev8 hf
        refine lv_iinc (v := v8) (lv' := [(3, .int v8), (0, .ref (eA E o)), (2, .int x2)]) hx hb dX10_read_51 hl (k := 2) rfl (by rw [ev8]; rfl) (by decide) rfl (fun ls hl => ?_)
        refine lv_goto (tgt := 29) hx hb dX10_read_54 (by decide) ?_
        exact hK29 _ _ _  hf _ _ hM _ (lv_sub hl [1, 2, 0] rfl)
      · replace hf := it_f hf hc45
        obtain ⟨v9, ev9⟩ : ∃ y : Int32, y = x2 + (1 : Int32) := ⟨_, rfl⟩
        replace hf := lt_e ev9 hf
        refine lv_iinc (v := v9) (lv' := [(2, .int v9), (0, .ref (eA E o)), (3, .int x3)]) hx hb dX10_read_48 hl (k := 1) rfl (by rw [ev9]; rfl) (by decide) rfl (fun ls hl => ?_)
        obtain ⟨v10, ev10⟩ : ∃ y : Int32, y = x3 + (1 : Int32) := ⟨_, rfl⟩
        replace hf := lt_e ev10 hf
        refine lv_iinc (v := v10) (lv' := [(3, .int v10), (2, .int v9), (0, .ref (eA E o))]) hx hb dX10_read_51 hl (k := 2) rfl (by rw [ev10]; rfl) (by decide) rfl (fun ls hl => ?_)
        refine lv_goto (tgt := 29) hx hb dX10_read_54 (by decide) ?_
        exact hK29 _ _ _  hf _ _ hM _ (lv_sub hl [2, 1, 0] rfl)
def f_X10_read (o : Nat) (μ : Mem) : Option (Int32 × Mem) :=
  bnd (f_X7_parse (rf o 4) μ) (fun r2 μ1 => bnv (f_X7_clear (rf o 4) μ1) (fun μ3 => (if r2 = (-1 : Int32) then f_X10_read_b29 o  FU (0 : Int32) (0 : Int32) μ3 else some (((-10 : Int32) - r2), μ3))))
set_option maxHeartbeats 4000000 in
set_option maxRecDepth 100000 in
theorem w_X10_read (l : Launch) {o : Nat} (ho : knd o = 8) {μ μ2 : Mem} {r : Int32} {H : Heap} {locs : List Loc} {ls : Array Slot} (hf : f_X10_read o μ = some (r, μ2)) (hX : XX E p m meth c cX10_read 4 (some .int) s args RX10) (hM : MM E s μ H locs) (hl : lv_has ls 4 [(0, .ref (eA E o))]) : W p l e (rmF 6 128) s m args below meth c H locs 0 0 (MQ below (QC E (some (.int r)) μ2) args s 0 0 (AA E)) (F0 m 0 ls []) := by
  obtain ⟨⟨hx, hb, hml, hown, hts⟩, hXr⟩ := id hX
  unfold f_X10_read at hf
  refine lv_aload_n hx hb dX10_read_0 rfl (lv_at hl 0 rfl) ?_
  refine gf_8_4 hX hM ho q_2_8 dX10_read_1 ?_
  replace hf := bnd_some hf
  obtain ⟨r2, μ1, h4, hf⟩ := hf
  refine cl_V (As := []) (rest := []) (st2 := [.int r2]) (n := 0) hX hM (c_X7_parse l (kr_8_4 ho) h4) mv_X7_parse q_21_20 ⟨rfl, rfl⟩ ⟨Nat.le_of_ble_eq_true rfl, Nat.le_of_ble_eq_true rfl⟩ (kr_8_4 ho) (by decide) rfl rfl rfl hl.1 rfl (Nat.le_of_ble_eq_true rfl) dX10_read_4 rfl (fun H locs hM => ?_)
  refine lv_istore_n (lv' := [(1, .int r2), (0, .ref (eA E o))]) hx hb dX10_read_7 rfl hl (by decide) rfl (fun ls hl => ?_)
  refine lv_aload_n hx hb dX10_read_8 rfl (lv_at hl 1 rfl) ?_
  refine gf_8_4 hX hM ho q_2_8 dX10_read_9 ?_
  replace hf := bnv_some hf
  obtain ⟨μ3, h12, hf⟩ := hf
  refine cl_V (As := []) (rest := []) (st2 := []) (n := 0) hX hM (c_X7_clear l (kr_8_4 ho) h12) mv_X7_clear q_25_4 ⟨rfl, rfl⟩ ⟨Nat.le_of_ble_eq_true rfl, Nat.le_of_ble_eq_true rfl⟩ (kr_8_4 ho) (by decide) rfl rfl rfl hl.1 rfl (Nat.le_of_ble_eq_true rfl) dX10_read_12 rfl (fun H locs hM => ?_)
  refine lv_iload_n hx hb dX10_read_15 rfl (lv_at hl 0 rfl) ?_
  refine lv_iconst (v := (-1)) hx hb dX10_read_16 (by decide) ?_
  refine lv_icmp_eq (tgt := 25) hx hb dX10_read_17 (by decide) (fun hc17 => ?_) (fun hc17 => ?_)
  · replace hf := it_t hf hc17
    refine lv_iconst (v := 0) hx hb dX10_read_25 (by decide) ?_
    refine lv_istore_n (lv' := [(2, .int (0 : Int32)), (1, .int r2), (0, .ref (eA E o))]) hx hb dX10_read_26 rfl hl (by decide) rfl (fun ls hl => ?_)
    refine lv_iconst (v := 0) hx hb dX10_read_27 (by decide) ?_
    refine lv_istore_n (lv' := [(3, .int (0 : Int32)), (2, .int (0 : Int32)), (1, .int r2), (0, .ref (eA E o))]) hx hb dX10_read_28 rfl hl (by decide) rfl (fun ls hl => ?_)
    exact w_X10_read_b29 l ho hX  FU _ _ _  hf _ _ hM _ (lv_sub hl [3, 1, 0] rfl)
  · replace hf := it_f hf hc17
    refine lv_bipush (v := (-10)) hx hb dX10_read_20 (by decide) ?_
    refine lv_iload_n hx hb dX10_read_22 rfl (lv_at hl 0 rfl) ?_
    refine lv_isub hx hb dX10_read_23 ?_
    exact rt_i hX hM (congrArg (fun z => some (Value.int z)) (so_1 hf)) (so_2 hf) dX10_read_24
theorem c_X10_read (l : Launch) {o : Nat} (ho : knd o = 8) {μ μ2 : Mem} {r : Int32} (hf : f_X10_read o μ = some (r, μ2)) : CT E l yX10_read cX10_read 4 (some .int) (rmF 6 128) [.ref (eA E o)] μ (some (.int r)) μ2 := CT.of (show plainFor yX10_read = true by decide +kernel) (Nat.le_of_ble_eq_true rfl) rfl (fun _ _ _ _ _ _ _ _ hX hM hl => w_X10_read l ho hf hX hM hl)
theorem mv_X10_read : MV yX10_read cX10_read 4 (some .int) RX10 0 := ⟨q_21_19, q_21_17, q_21_18, q_1_2, by decide +kernel⟩
def f_X10_of (o : Nat) (a1 : Int32) (a2 : Int32) (a3 : Int32) (μ : Mem) : Option (Int32 × Mem) :=
  bnd (f_X10_below a1 (4 : Int32) μ) (fun r2 μ1 => (if r2 = 0 then some ((-1 : Int32), μ1) else bnd (f_X10_below a2 (4 : Int32) μ1) (fun r4 μ3 => (if r4 = 0 then some ((-1 : Int32), μ3) else (if a3 = (0 : Int32) then bnd (f_X6_fromIn (rf o 0) a1 a2 μ3) (fun r6 μ5 => some (r6, μ5)) else (if a3 = (1 : Int32) then bnd (f_X6_forceIn (rf o 0) a1 a2 μ3) (fun r8 μ7 => some (r8, μ7)) else (if a3 = (2 : Int32) then bnd (f_X6_toIn (rf o 0) a1 μ3) (fun r10 μ9 => some (r10, μ9)) else (if a3 = (3 : Int32) then bnd (f_X6_rateIn (rf o 0) a1 μ3) (fun r12 μ11 => some (r12, μ11)) else some ((-1 : Int32), μ3)))))))))
set_option maxHeartbeats 4000000 in
set_option maxRecDepth 100000 in
theorem w_X10_of (l : Launch) {o : Nat} {a1 : Int32} {a2 : Int32} {a3 : Int32} (ho : knd o = 8) {μ μ2 : Mem} {r : Int32} {H : Heap} {locs : List Loc} {ls : Array Slot} (hf : f_X10_of o a1 a2 a3 μ = some (r, μ2)) (hX : XX E p m meth c cX10_of 4 (some .int) s args RX10) (hM : MM E s μ H locs) (hl : lv_has ls 4 [(0, .ref (eA E o)), (1, .int a1), (2, .int a2), (3, .int a3)]) : W p l e (rmF 1 22) s m args below meth c H locs 0 0 (MQ below (QC E (some (.int r)) μ2) args s 0 0 (AA E)) (F0 m 0 ls []) := by
  obtain ⟨⟨hx, hb, hml, hown, hts⟩, hXr⟩ := id hX
  unfold f_X10_of at hf
  refine lv_iload_n hx hb dX10_of_0 rfl (lv_at hl 1 rfl) ?_
  refine lv_iconst (v := 4) hx hb dX10_of_1 (by decide) ?_
  replace hf := bnd_some hf
  obtain ⟨r2, μ1, h2, hf⟩ := hf
  refine cl_S (As := [.int a1, .int (4 : Int32)]) (rest := []) (st2 := [.int r2]) (n := 2) hX hM (c_X10_below l  h2) mt_X10_below q_8_1 ⟨rfl, rfl⟩ ⟨Nat.le_of_ble_eq_true rfl, Nat.le_of_ble_eq_true rfl⟩ rfl hl.1 rfl (Nat.le_of_ble_eq_true rfl) dX10_of_2 rfl (fun H locs hM => ?_)
  refine lv_if_eq (tgt := 16) hx hb dX10_of_5 (by decide) (fun hc5 => ?_) (fun hc5 => ?_)
  · replace hf := it_t hf hc5
    refine lv_iconst (v := (-1)) hx hb dX10_of_16 (by decide) ?_
    exact rt_i hX hM (congrArg (fun z => some (Value.int z)) (so_1 hf)) (so_2 hf) dX10_of_17
  · replace hf := it_f hf hc5
    refine lv_iload_n hx hb dX10_of_8 rfl (lv_at hl 2 rfl) ?_
    refine lv_iconst (v := 4) hx hb dX10_of_9 (by decide) ?_
    replace hf := bnd_some hf
    obtain ⟨r4, μ3, h10, hf⟩ := hf
    refine cl_S (As := [.int a2, .int (4 : Int32)]) (rest := []) (st2 := [.int r4]) (n := 2) hX hM (c_X10_below l  h10) mt_X10_below q_8_1 ⟨rfl, rfl⟩ ⟨Nat.le_of_ble_eq_true rfl, Nat.le_of_ble_eq_true rfl⟩ rfl hl.1 rfl (Nat.le_of_ble_eq_true rfl) dX10_of_10 rfl (fun H locs hM => ?_)
    refine lv_if_ne (tgt := 18) hx hb dX10_of_13 (by decide) (fun hc13 => ?_) (fun hc13 => ?_)
    · replace hf := it_f hf hc13
      refine lv_iload_n hx hb dX10_of_18 rfl (lv_at hl 3 rfl) ?_
      by_cases hs19_0 : a3 = (0 : Int32)
      · replace hf := it_t hf hs19_0
        refine lv_tableIn (off := 29) (tgt := 48) hx hb dX10_of_19 (by rw [hs19_0]; decide) (by rw [hs19_0]; decide) (by rw [hs19_0]; rfl) (by decide) ?_
        refine lv_aload_n hx hb dX10_of_48 rfl (lv_at hl 0 rfl) ?_
        refine gf_8_0 hX hM ho q_1_16 dX10_of_49 ?_
        refine lv_iload_n hx hb dX10_of_52 rfl (lv_at hl 1 rfl) ?_
        refine lv_iload_n hx hb dX10_of_53 rfl (lv_at hl 2 rfl) ?_
        replace hf := bnd_some hf
        obtain ⟨r6, μ5, h54, hf⟩ := hf
        refine cl_V (As := [.int a1, .int a2]) (rest := []) (st2 := [.int r6]) (n := 2) hX hM (c_X6_fromIn l (kr_8_0 ho) h54) mv_X6_fromIn q_8_4 ⟨rfl, rfl⟩ ⟨Nat.le_of_ble_eq_true rfl, Nat.le_of_ble_eq_true rfl⟩ (kr_8_0 ho) (by decide) rfl rfl rfl hl.1 rfl (Nat.le_of_ble_eq_true rfl) dX10_of_54 rfl (fun H locs hM => ?_)
        exact rt_i hX hM (congrArg (fun z => some (Value.int z)) (so_1 hf)) (so_2 hf) dX10_of_57
      · replace hf := it_f hf hs19_0
        by_cases hs19_1 : a3 = (1 : Int32)
        · replace hf := it_t hf hs19_1
          refine lv_tableIn (off := 39) (tgt := 58) hx hb dX10_of_19 (by rw [hs19_1]; decide) (by rw [hs19_1]; decide) (by rw [hs19_1]; rfl) (by decide) ?_
          refine lv_aload_n hx hb dX10_of_58 rfl (lv_at hl 0 rfl) ?_
          refine gf_8_0 hX hM ho q_1_16 dX10_of_59 ?_
          refine lv_iload_n hx hb dX10_of_62 rfl (lv_at hl 1 rfl) ?_
          refine lv_iload_n hx hb dX10_of_63 rfl (lv_at hl 2 rfl) ?_
          replace hf := bnd_some hf
          obtain ⟨r8, μ7, h64, hf⟩ := hf
          refine cl_V (As := [.int a1, .int a2]) (rest := []) (st2 := [.int r8]) (n := 2) hX hM (c_X6_forceIn l (kr_8_0 ho) h64) mv_X6_forceIn q_8_8 ⟨rfl, rfl⟩ ⟨Nat.le_of_ble_eq_true rfl, Nat.le_of_ble_eq_true rfl⟩ (kr_8_0 ho) (by decide) rfl rfl rfl hl.1 rfl (Nat.le_of_ble_eq_true rfl) dX10_of_64 rfl (fun H locs hM => ?_)
          exact rt_i hX hM (congrArg (fun z => some (Value.int z)) (so_1 hf)) (so_2 hf) dX10_of_67
        · replace hf := it_f hf hs19_1
          by_cases hs19_2 : a3 = (2 : Int32)
          · replace hf := it_t hf hs19_2
            refine lv_tableIn (off := 49) (tgt := 68) hx hb dX10_of_19 (by rw [hs19_2]; decide) (by rw [hs19_2]; decide) (by rw [hs19_2]; rfl) (by decide) ?_
            refine lv_aload_n hx hb dX10_of_68 rfl (lv_at hl 0 rfl) ?_
            refine gf_8_0 hX hM ho q_1_16 dX10_of_69 ?_
            refine lv_iload_n hx hb dX10_of_72 rfl (lv_at hl 1 rfl) ?_
            replace hf := bnd_some hf
            obtain ⟨r10, μ9, h73, hf⟩ := hf
            refine cl_V (As := [.int a1]) (rest := []) (st2 := [.int r10]) (n := 1) hX hM (c_X6_toIn l (kr_8_0 ho) h73) mv_X6_toIn q_9_15 ⟨rfl, rfl⟩ ⟨Nat.le_of_ble_eq_true rfl, Nat.le_of_ble_eq_true rfl⟩ (kr_8_0 ho) (by decide) rfl rfl rfl hl.1 rfl (Nat.le_of_ble_eq_true rfl) dX10_of_73 rfl (fun H locs hM => ?_)
            exact rt_i hX hM (congrArg (fun z => some (Value.int z)) (so_1 hf)) (so_2 hf) dX10_of_76
          · replace hf := it_f hf hs19_2
            by_cases hs19_3 : a3 = (3 : Int32)
            · replace hf := it_t hf hs19_3
              refine lv_tableIn (off := 58) (tgt := 77) hx hb dX10_of_19 (by rw [hs19_3]; decide) (by rw [hs19_3]; decide) (by rw [hs19_3]; rfl) (by decide) ?_
              refine lv_aload_n hx hb dX10_of_77 rfl (lv_at hl 0 rfl) ?_
              refine gf_8_0 hX hM ho q_1_16 dX10_of_78 ?_
              refine lv_iload_n hx hb dX10_of_81 rfl (lv_at hl 1 rfl) ?_
              replace hf := bnd_some hf
              obtain ⟨r12, μ11, h82, hf⟩ := hf
              refine cl_V (As := [.int a1]) (rest := []) (st2 := [.int r12]) (n := 1) hX hM (c_X6_rateIn l (kr_8_0 ho) h82) mv_X6_rateIn q_9_19 ⟨rfl, rfl⟩ ⟨Nat.le_of_ble_eq_true rfl, Nat.le_of_ble_eq_true rfl⟩ (kr_8_0 ho) (by decide) rfl rfl rfl hl.1 rfl (Nat.le_of_ble_eq_true rfl) dX10_of_82 rfl (fun H locs hM => ?_)
              exact rt_i hX hM (congrArg (fun z => some (Value.int z)) (so_1 hf)) (so_2 hf) dX10_of_85
            · replace hf := it_f hf hs19_3
              have hq : (a3).toInt < 0 ∨ 3 < (a3).toInt := by
                have n0 := lv_neT hs19_0 (a := 0) rfl
                have n1 := lv_neT hs19_1 (a := 1) rfl
                have n2 := lv_neT hs19_2 (a := 2) rfl
                have n3 := lv_neT hs19_3 (a := 3) rfl
                omega
              refine lv_tableOut (tgt := 86) hx hb dX10_of_19 hq (by decide) ?_
              refine lv_iconst (v := (-1)) hx hb dX10_of_86 (by decide) ?_
              exact rt_i hX hM (congrArg (fun z => some (Value.int z)) (so_1 hf)) (so_2 hf) dX10_of_87
    · replace hf := it_t hf hc13
      refine lv_iconst (v := (-1)) hx hb dX10_of_16 (by decide) ?_
      exact rt_i hX hM (congrArg (fun z => some (Value.int z)) (so_1 hf)) (so_2 hf) dX10_of_17
theorem c_X10_of (l : Launch) {o : Nat} {a1 : Int32} {a2 : Int32} {a3 : Int32} (ho : knd o = 8) {μ μ2 : Mem} {r : Int32} (hf : f_X10_of o a1 a2 a3 μ = some (r, μ2)) : CT E l yX10_of cX10_of 4 (some .int) (rmF 1 22) [.ref (eA E o), .int a1, .int a2, .int a3] μ (some (.int r)) μ2 := CT.of (show plainFor yX10_of = true by decide +kernel) (Nat.le_of_ble_eq_true rfl) rfl (fun _ _ _ _ _ _ _ _ hX hM hl => w_X10_of l ho hf hX hM hl)
theorem mv_X10_of : MV yX10_of cX10_of 4 (some .int) RX10 3 := ⟨q_28_23, q_28_21, q_28_22, q_1_2, by decide +kernel⟩
def f_X10_speed (o : Nat) (a1 : Int32) (a2 : Int32) (μ : Mem) : Option (Int32 × Mem) :=
  (if a1 < (1 : Int32) then some ((-1 : Int32), μ) else (if (3 : Int32) < a1 then some ((-1 : Int32), μ) else bnd (f_X10_below a2 (5 : Int32) μ) (fun r2 μ1 => (if r2 = 0 then some ((-1 : Int32), μ1) else bnd (f_X6_speedBy (rf o 0) a1 a2 μ1) (fun r4 μ3 => some (r4, μ3))))))
set_option maxHeartbeats 4000000 in
set_option maxRecDepth 100000 in
theorem w_X10_speed (l : Launch) {o : Nat} {a1 : Int32} {a2 : Int32} (ho : knd o = 8) {μ μ2 : Mem} {r : Int32} {H : Heap} {locs : List Loc} {ls : Array Slot} (hf : f_X10_speed o a1 a2 μ = some (r, μ2)) (hX : XX E p m meth c cX10_speed 3 (some .int) s args RX10) (hM : MM E s μ H locs) (hl : lv_has ls 3 [(0, .ref (eA E o)), (1, .int a1), (2, .int a2)]) : W p l e (rmF 1 22) s m args below meth c H locs 0 0 (MQ below (QC E (some (.int r)) μ2) args s 0 0 (AA E)) (F0 m 0 ls []) := by
  obtain ⟨⟨hx, hb, hml, hown, hts⟩, hXr⟩ := id hX
  unfold f_X10_speed at hf
  refine lv_iload_n hx hb dX10_speed_0 rfl (lv_at hl 1 rfl) ?_
  refine lv_iconst (v := 1) hx hb dX10_speed_1 (by decide) ?_
  refine lv_icmp_lt (tgt := 18) hx hb dX10_speed_2 (by decide) (fun hc2 => ?_) (fun hc2 => ?_)
  · replace hf := it_t hf hc2
    refine lv_iconst (v := (-1)) hx hb dX10_speed_18 (by decide) ?_
    exact rt_i hX hM (congrArg (fun z => some (Value.int z)) (so_1 hf)) (so_2 hf) dX10_speed_19
  · replace hf := it_f hf hc2
    refine lv_iload_n hx hb dX10_speed_5 rfl (lv_at hl 1 rfl) ?_
    refine lv_iconst (v := 3) hx hb dX10_speed_6 (by decide) ?_
    refine lv_icmp_gt (tgt := 18) hx hb dX10_speed_7 (by decide) (fun hc7 => ?_) (fun hc7 => ?_)
    · replace hf := it_t hf hc7
      refine lv_iconst (v := (-1)) hx hb dX10_speed_18 (by decide) ?_
      exact rt_i hX hM (congrArg (fun z => some (Value.int z)) (so_1 hf)) (so_2 hf) dX10_speed_19
    · replace hf := it_f hf hc7
      refine lv_iload_n hx hb dX10_speed_10 rfl (lv_at hl 2 rfl) ?_
      refine lv_iconst (v := 5) hx hb dX10_speed_11 (by decide) ?_
      replace hf := bnd_some hf
      obtain ⟨r2, μ1, h12, hf⟩ := hf
      refine cl_S (As := [.int a2, .int (5 : Int32)]) (rest := []) (st2 := [.int r2]) (n := 2) hX hM (c_X10_below l  h12) mt_X10_below q_8_1 ⟨rfl, rfl⟩ ⟨Nat.le_of_ble_eq_true rfl, Nat.le_of_ble_eq_true rfl⟩ rfl hl.1 rfl (Nat.le_of_ble_eq_true rfl) dX10_speed_12 rfl (fun H locs hM => ?_)
      refine lv_if_ne (tgt := 20) hx hb dX10_speed_15 (by decide) (fun hc15 => ?_) (fun hc15 => ?_)
      · replace hf := it_f hf hc15
        refine lv_aload_n hx hb dX10_speed_20 rfl (lv_at hl 0 rfl) ?_
        refine gf_8_0 hX hM ho q_1_16 dX10_speed_21 ?_
        refine lv_iload_n hx hb dX10_speed_24 rfl (lv_at hl 1 rfl) ?_
        refine lv_iload_n hx hb dX10_speed_25 rfl (lv_at hl 2 rfl) ?_
        replace hf := bnd_some hf
        obtain ⟨r4, μ3, h26, hf⟩ := hf
        refine cl_V (As := [.int a1, .int a2]) (rest := []) (st2 := [.int r4]) (n := 2) hX hM (c_X6_speedBy l (kr_8_0 ho) h26) mv_X6_speedBy q_10_11 ⟨rfl, rfl⟩ ⟨Nat.le_of_ble_eq_true rfl, Nat.le_of_ble_eq_true rfl⟩ (kr_8_0 ho) (by decide) rfl rfl rfl hl.1 rfl (Nat.le_of_ble_eq_true rfl) dX10_speed_26 rfl (fun H locs hM => ?_)
        exact rt_i hX hM (congrArg (fun z => some (Value.int z)) (so_1 hf)) (so_2 hf) dX10_speed_29
      · replace hf := it_t hf hc15
        refine lv_iconst (v := (-1)) hx hb dX10_speed_18 (by decide) ?_
        exact rt_i hX hM (congrArg (fun z => some (Value.int z)) (so_1 hf)) (so_2 hf) dX10_speed_19
theorem c_X10_speed (l : Launch) {o : Nat} {a1 : Int32} {a2 : Int32} (ho : knd o = 8) {μ μ2 : Mem} {r : Int32} (hf : f_X10_speed o a1 a2 μ = some (r, μ2)) : CT E l yX10_speed cX10_speed 3 (some .int) (rmF 1 22) [.ref (eA E o), .int a1, .int a2] μ (some (.int r)) μ2 := CT.of (show plainFor yX10_speed = true by decide +kernel) (Nat.le_of_ble_eq_true rfl) rfl (fun _ _ _ _ _ _ _ _ hX hM hl => w_X10_speed l ho hf hX hM hl)
theorem mv_X10_speed : MV yX10_speed cX10_speed 3 (some .int) RX10 2 := ⟨q_29_7, q_29_5, q_29_6, q_1_2, by decide +kernel⟩
def f_X10_told (o : Nat) (a1 : Int32) (μ : Mem) : Option (Int32 × Mem) :=
  (if a1 = (0 : Int32) then bnd (f_X6_lossBy (rf o 0) a1 μ) (fun r2 μ1 => some (r2, μ1)) else (if a1 = (1 : Int32) then bnd (f_X6_lossBy (rf o 0) a1 μ) (fun r4 μ3 => some (r4, μ3)) else (if a1 = (2 : Int32) then some ((μ.1 (rf o 0) 7), μ) else (if a1 = (3 : Int32) then some ((μ.1 (rf o 0) 8), μ) else (if a1 = (4 : Int32) then some ((μ.1 (rf o 0) 9), μ) else (if a1 = (5 : Int32) then bnd (f_X6_landCount (rf o 0) μ) (fun r6 μ5 => some (r6, μ5)) else (if a1 = (6 : Int32) then bnd (f_X10_freshChart o μ) (fun r8 μ7 => gP (decide (knd r8 = 0)) (bnd (f_X1_squaresReached r8 μ7) (fun r10 μ9 => some (r10, μ9)))) else (if a1 = (7 : Int32) then bnd (f_X10_freshChart o μ) (fun r12 μ11 => gP (decide (knd r12 = 0)) (bnd (f_X10_freshChart o μ11) (fun r14 μ13 => gP (decide (knd r14 = 0)) (bnd (f_X1_farthestSquare r14 μ13) (fun r16 μ15 => bnd (f_X1_leastOf r12 r16 μ15) (fun r18 μ17 => some (r18, μ17))))))) else (if a1 = (8 : Int32) then bnd (f_X10_freshChart o μ) (fun r20 μ19 => gP (decide (knd r20 = 0)) (bnd (f_X1_farthestSquare r20 μ19) (fun r22 μ21 => some (r22, μ21)))) else some ((-1 : Int32), μ))))))))))
set_option maxHeartbeats 4000000 in
set_option maxRecDepth 100000 in
theorem w_X10_told (l : Launch) {o : Nat} {a1 : Int32} (ho : knd o = 8) {μ μ2 : Mem} {r : Int32} {H : Heap} {locs : List Loc} {ls : Array Slot} (hf : f_X10_told o a1 μ = some (r, μ2)) (hX : XX E p m meth c cX10_told 2 (some .int) s args RX10) (hM : MM E s μ H locs) (hl : lv_has ls 2 [(0, .ref (eA E o)), (1, .int a1)]) : W p l e (rmF 6 139) s m args below meth c H locs 0 0 (MQ below (QC E (some (.int r)) μ2) args s 0 0 (AA E)) (F0 m 0 ls []) := by
  obtain ⟨⟨hx, hb, hml, hown, hts⟩, hXr⟩ := id hX
  unfold f_X10_told at hf
  refine lv_iload_n hx hb dX10_told_0 rfl (lv_at hl 1 rfl) ?_
  by_cases hs1_0 : a1 = (0 : Int32)
  · replace hf := it_t hf hs1_0
    refine lv_tableIn (off := 51) (tgt := 52) hx hb dX10_told_1 (by rw [hs1_0]; decide) (by rw [hs1_0]; decide) (by rw [hs1_0]; rfl) (by decide) ?_
    refine lv_aload_n hx hb dX10_told_52 rfl (lv_at hl 0 rfl) ?_
    refine gf_8_0 hX hM ho q_1_16 dX10_told_53 ?_
    refine lv_iload_n hx hb dX10_told_56 rfl (lv_at hl 1 rfl) ?_
    replace hf := bnd_some hf
    obtain ⟨r2, μ1, h57, hf⟩ := hf
    refine cl_V (As := [.int a1]) (rest := []) (st2 := [.int r2]) (n := 1) hX hM (c_X6_lossBy l (kr_8_0 ho) h57) mv_X6_lossBy q_20_0 ⟨rfl, rfl⟩ ⟨Nat.le_of_ble_eq_true rfl, Nat.le_of_ble_eq_true rfl⟩ (kr_8_0 ho) (by decide) rfl rfl rfl hl.1 rfl (Nat.le_of_ble_eq_true rfl) dX10_told_57 rfl (fun H locs hM => ?_)
    exact rt_i hX hM (congrArg (fun z => some (Value.int z)) (so_1 hf)) (so_2 hf) dX10_told_60
  · replace hf := it_f hf hs1_0
    by_cases hs1_1 : a1 = (1 : Int32)
    · replace hf := it_t hf hs1_1
      refine lv_tableIn (off := 51) (tgt := 52) hx hb dX10_told_1 (by rw [hs1_1]; decide) (by rw [hs1_1]; decide) (by rw [hs1_1]; rfl) (by decide) ?_
      refine lv_aload_n hx hb dX10_told_52 rfl (lv_at hl 0 rfl) ?_
      refine gf_8_0 hX hM ho q_1_16 dX10_told_53 ?_
      refine lv_iload_n hx hb dX10_told_56 rfl (lv_at hl 1 rfl) ?_
      replace hf := bnd_some hf
      obtain ⟨r4, μ3, h57, hf⟩ := hf
      refine cl_V (As := [.int a1]) (rest := []) (st2 := [.int r4]) (n := 1) hX hM (c_X6_lossBy l (kr_8_0 ho) h57) mv_X6_lossBy q_20_0 ⟨rfl, rfl⟩ ⟨Nat.le_of_ble_eq_true rfl, Nat.le_of_ble_eq_true rfl⟩ (kr_8_0 ho) (by decide) rfl rfl rfl hl.1 rfl (Nat.le_of_ble_eq_true rfl) dX10_told_57 rfl (fun H locs hM => ?_)
      exact rt_i hX hM (congrArg (fun z => some (Value.int z)) (so_1 hf)) (so_2 hf) dX10_told_60
    · replace hf := it_f hf hs1_1
      by_cases hs1_2 : a1 = (2 : Int32)
      · replace hf := it_t hf hs1_2
        refine lv_tableIn (off := 60) (tgt := 61) hx hb dX10_told_1 (by rw [hs1_2]; decide) (by rw [hs1_2]; decide) (by rw [hs1_2]; rfl) (by decide) ?_
        refine lv_aload_n hx hb dX10_told_61 rfl (lv_at hl 0 rfl) ?_
        refine gf_8_0 hX hM ho q_1_16 dX10_told_62 ?_
        refine gf_4_7 hX hM (kr_8_0 ho) q_11_6 dX10_told_65 ?_
        exact rt_i hX hM (congrArg (fun z => some (Value.int z)) (so_1 hf)) (so_2 hf) dX10_told_68
      · replace hf := it_f hf hs1_2
        by_cases hs1_3 : a1 = (3 : Int32)
        · replace hf := it_t hf hs1_3
          refine lv_tableIn (off := 68) (tgt := 69) hx hb dX10_told_1 (by rw [hs1_3]; decide) (by rw [hs1_3]; decide) (by rw [hs1_3]; rfl) (by decide) ?_
          refine lv_aload_n hx hb dX10_told_69 rfl (lv_at hl 0 rfl) ?_
          refine gf_8_0 hX hM ho q_1_16 dX10_told_70 ?_
          refine gf_4_8 hX hM (kr_8_0 ho) q_29_16 dX10_told_73 ?_
          exact rt_i hX hM (congrArg (fun z => some (Value.int z)) (so_1 hf)) (so_2 hf) dX10_told_76
        · replace hf := it_f hf hs1_3
          by_cases hs1_4 : a1 = (4 : Int32)
          · replace hf := it_t hf hs1_4
            refine lv_tableIn (off := 76) (tgt := 77) hx hb dX10_told_1 (by rw [hs1_4]; decide) (by rw [hs1_4]; decide) (by rw [hs1_4]; rfl) (by decide) ?_
            refine lv_aload_n hx hb dX10_told_77 rfl (lv_at hl 0 rfl) ?_
            refine gf_8_0 hX hM ho q_1_16 dX10_told_78 ?_
            refine gf_4_9 hX hM (kr_8_0 ho) q_29_17 dX10_told_81 ?_
            exact rt_i hX hM (congrArg (fun z => some (Value.int z)) (so_1 hf)) (so_2 hf) dX10_told_84
          · replace hf := it_f hf hs1_4
            by_cases hs1_5 : a1 = (5 : Int32)
            · replace hf := it_t hf hs1_5
              refine lv_tableIn (off := 84) (tgt := 85) hx hb dX10_told_1 (by rw [hs1_5]; decide) (by rw [hs1_5]; decide) (by rw [hs1_5]; rfl) (by decide) ?_
              refine lv_aload_n hx hb dX10_told_85 rfl (lv_at hl 0 rfl) ?_
              refine gf_8_0 hX hM ho q_1_16 dX10_told_86 ?_
              replace hf := bnd_some hf
              obtain ⟨r6, μ5, h89, hf⟩ := hf
              refine cl_V (As := []) (rest := []) (st2 := [.int r6]) (n := 0) hX hM (c_X6_landCount l (kr_8_0 ho) h89) mv_X6_landCount q_29_18 ⟨rfl, rfl⟩ ⟨Nat.le_of_ble_eq_true rfl, Nat.le_of_ble_eq_true rfl⟩ (kr_8_0 ho) (by decide) rfl rfl rfl hl.1 rfl (Nat.le_of_ble_eq_true rfl) dX10_told_89 rfl (fun H locs hM => ?_)
              exact rt_i hX hM (congrArg (fun z => some (Value.int z)) (so_1 hf)) (so_2 hf) dX10_told_92
            · replace hf := it_f hf hs1_5
              by_cases hs1_6 : a1 = (6 : Int32)
              · replace hf := it_t hf hs1_6
                refine lv_tableIn (off := 92) (tgt := 93) hx hb dX10_told_1 (by rw [hs1_6]; decide) (by rw [hs1_6]; decide) (by rw [hs1_6]; rfl) (by decide) ?_
                refine lv_aload_n hx hb dX10_told_93 rfl (lv_at hl 0 rfl) ?_
                replace hf := bnd_some hf
                obtain ⟨r8, μ7, h94, hf⟩ := hf
                replace hf := gP_some hf
                obtain ⟨hzr8, hf⟩ := hf
                replace hzr8 := of_decide_eq_true hzr8
                refine cl_V (As := []) (rest := []) (st2 := [.ref (eA E r8)]) (n := 0) hX hM (c_X10_freshChart l ho h94) mv_X10_freshChart q_12_12 ⟨rfl, rfl⟩ ⟨Nat.le_of_ble_eq_true rfl, Nat.le_of_ble_eq_true rfl⟩ ho (by decide) rfl rfl rfl hl.1 rfl (Nat.le_of_ble_eq_true rfl) dX10_told_94 rfl (fun H locs hM => ?_)
                replace hf := bnd_some hf
                obtain ⟨r10, μ9, h97, hf⟩ := hf
                refine cl_V (As := []) (rest := []) (st2 := [.int r10]) (n := 0) hX hM (c_X1_squaresReached l hzr8 h97) mv_X1_squaresReached q_16_19 ⟨rfl, rfl⟩ ⟨Nat.le_of_ble_eq_true rfl, Nat.le_of_ble_eq_true rfl⟩ hzr8 (by decide) rfl rfl rfl hl.1 rfl (Nat.le_of_ble_eq_true rfl) dX10_told_97 rfl (fun H locs hM => ?_)
                exact rt_i hX hM (congrArg (fun z => some (Value.int z)) (so_1 hf)) (so_2 hf) dX10_told_100
              · replace hf := it_f hf hs1_6
                by_cases hs1_7 : a1 = (7 : Int32)
                · replace hf := it_t hf hs1_7
                  refine lv_tableIn (off := 100) (tgt := 101) hx hb dX10_told_1 (by rw [hs1_7]; decide) (by rw [hs1_7]; decide) (by rw [hs1_7]; rfl) (by decide) ?_
                  refine lv_aload_n hx hb dX10_told_101 rfl (lv_at hl 0 rfl) ?_
                  replace hf := bnd_some hf
                  obtain ⟨r12, μ11, h102, hf⟩ := hf
                  replace hf := gP_some hf
                  obtain ⟨hzr12, hf⟩ := hf
                  replace hzr12 := of_decide_eq_true hzr12
                  refine cl_V (As := []) (rest := []) (st2 := [.ref (eA E r12)]) (n := 0) hX hM (c_X10_freshChart l ho h102) mv_X10_freshChart q_12_12 ⟨rfl, rfl⟩ ⟨Nat.le_of_ble_eq_true rfl, Nat.le_of_ble_eq_true rfl⟩ ho (by decide) rfl rfl rfl hl.1 rfl (Nat.le_of_ble_eq_true rfl) dX10_told_102 rfl (fun H locs hM => ?_)
                  refine lv_aload_n hx hb dX10_told_105 rfl (lv_at hl 0 rfl) ?_
                  replace hf := bnd_some hf
                  obtain ⟨r14, μ13, h106, hf⟩ := hf
                  replace hf := gP_some hf
                  obtain ⟨hzr14, hf⟩ := hf
                  replace hzr14 := of_decide_eq_true hzr14
                  refine cl_V (As := []) (rest := [.ref (eA E r12)]) (st2 := [.ref (eA E r14), .ref (eA E r12)]) (n := 0) hX hM (c_X10_freshChart l ho h106) mv_X10_freshChart q_12_12 ⟨rfl, rfl⟩ ⟨Nat.le_of_ble_eq_true rfl, Nat.le_of_ble_eq_true rfl⟩ ho (by decide) rfl rfl rfl hl.1 rfl (Nat.le_of_ble_eq_true rfl) dX10_told_106 rfl (fun H locs hM => ?_)
                  replace hf := bnd_some hf
                  obtain ⟨r16, μ15, h109, hf⟩ := hf
                  refine cl_V (As := []) (rest := [.ref (eA E r12)]) (st2 := [.int r16, .ref (eA E r12)]) (n := 0) hX hM (c_X1_farthestSquare l hzr14 h109) mv_X1_farthestSquare q_30_5 ⟨rfl, rfl⟩ ⟨Nat.le_of_ble_eq_true rfl, Nat.le_of_ble_eq_true rfl⟩ hzr14 (by decide) rfl rfl rfl hl.1 rfl (Nat.le_of_ble_eq_true rfl) dX10_told_109 rfl (fun H locs hM => ?_)
                  replace hf := bnd_some hf
                  obtain ⟨r18, μ17, h112, hf⟩ := hf
                  refine cl_V (As := [.int r16]) (rest := []) (st2 := [.int r18]) (n := 1) hX hM (c_X1_leastOf l hzr12 h112) mv_X1_leastOf q_30_9 ⟨rfl, rfl⟩ ⟨Nat.le_of_ble_eq_true rfl, Nat.le_of_ble_eq_true rfl⟩ hzr12 (by decide) rfl rfl rfl hl.1 rfl (Nat.le_of_ble_eq_true rfl) dX10_told_112 rfl (fun H locs hM => ?_)
                  exact rt_i hX hM (congrArg (fun z => some (Value.int z)) (so_1 hf)) (so_2 hf) dX10_told_115
                · replace hf := it_f hf hs1_7
                  by_cases hs1_8 : a1 = (8 : Int32)
                  · replace hf := it_t hf hs1_8
                    refine lv_tableIn (off := 115) (tgt := 116) hx hb dX10_told_1 (by rw [hs1_8]; decide) (by rw [hs1_8]; decide) (by rw [hs1_8]; rfl) (by decide) ?_
                    refine lv_aload_n hx hb dX10_told_116 rfl (lv_at hl 0 rfl) ?_
                    replace hf := bnd_some hf
                    obtain ⟨r20, μ19, h117, hf⟩ := hf
                    replace hf := gP_some hf
                    obtain ⟨hzr20, hf⟩ := hf
                    replace hzr20 := of_decide_eq_true hzr20
                    refine cl_V (As := []) (rest := []) (st2 := [.ref (eA E r20)]) (n := 0) hX hM (c_X10_freshChart l ho h117) mv_X10_freshChart q_12_12 ⟨rfl, rfl⟩ ⟨Nat.le_of_ble_eq_true rfl, Nat.le_of_ble_eq_true rfl⟩ ho (by decide) rfl rfl rfl hl.1 rfl (Nat.le_of_ble_eq_true rfl) dX10_told_117 rfl (fun H locs hM => ?_)
                    replace hf := bnd_some hf
                    obtain ⟨r22, μ21, h120, hf⟩ := hf
                    refine cl_V (As := []) (rest := []) (st2 := [.int r22]) (n := 0) hX hM (c_X1_farthestSquare l hzr20 h120) mv_X1_farthestSquare q_30_5 ⟨rfl, rfl⟩ ⟨Nat.le_of_ble_eq_true rfl, Nat.le_of_ble_eq_true rfl⟩ hzr20 (by decide) rfl rfl rfl hl.1 rfl (Nat.le_of_ble_eq_true rfl) dX10_told_120 rfl (fun H locs hM => ?_)
                    exact rt_i hX hM (congrArg (fun z => some (Value.int z)) (so_1 hf)) (so_2 hf) dX10_told_123
                  · replace hf := it_f hf hs1_8
                    have hq : (a1).toInt < 0 ∨ 8 < (a1).toInt := by
                      have n0 := lv_neT hs1_0 (a := 0) rfl
                      have n1 := lv_neT hs1_1 (a := 1) rfl
                      have n2 := lv_neT hs1_2 (a := 2) rfl
                      have n3 := lv_neT hs1_3 (a := 3) rfl
                      have n4 := lv_neT hs1_4 (a := 4) rfl
                      have n5 := lv_neT hs1_5 (a := 5) rfl
                      have n6 := lv_neT hs1_6 (a := 6) rfl
                      have n7 := lv_neT hs1_7 (a := 7) rfl
                      have n8 := lv_neT hs1_8 (a := 8) rfl
                      omega
                    refine lv_tableOut (tgt := 124) hx hb dX10_told_1 hq (by decide) ?_
                    refine lv_iconst (v := (-1)) hx hb dX10_told_124 (by decide) ?_
                    exact rt_i hX hM (congrArg (fun z => some (Value.int z)) (so_1 hf)) (so_2 hf) dX10_told_125
theorem c_X10_told (l : Launch) {o : Nat} {a1 : Int32} (ho : knd o = 8) {μ μ2 : Mem} {r : Int32} (hf : f_X10_told o a1 μ = some (r, μ2)) : CT E l yX10_told cX10_told 2 (some .int) (rmF 6 139) [.ref (eA E o), .int a1] μ (some (.int r)) μ2 := CT.of (show plainFor yX10_told = true by decide +kernel) (Nat.le_of_ble_eq_true rfl) rfl (fun _ _ _ _ _ _ _ _ hX hM hl => w_X10_told l ho hf hX hM hl)
theorem mv_X10_told : MV yX10_told cX10_told 2 (some .int) RX10 1 := ⟨q_29_15, q_29_13, q_29_14, q_1_2, by decide +kernel⟩
def f_X10_pace (o : Nat) (a1 : Int32) (a2 : Int32) (a3 : Int32) (μ : Mem) : Option (Int32 × Mem) :=
  bnd (f_X10_below a1 (36 : Int32) μ) (fun r2 μ1 => (if r2 = 0 then some ((-1 : Int32), μ1) else bnd (f_X10_below a2 (8 : Int32) μ1) (fun r4 μ3 => (if r4 = 0 then some ((-1 : Int32), μ3) else (if a3 < 0 then some ((-2 : Int32), μ3) else (if a3 ≤ (9999 : Int32) then bnd (f_X2_zoneOf a1 μ3) (fun r6 μ5 => bnd (f_X2_spanOf a3 μ5) (fun r8 μ7 => bnd (f_X6_paceBy (rf o 0) r6 r8 a2 μ7) (fun r10 μ9 => some (r10, μ9)))) else some ((-2 : Int32), μ3)))))))
set_option maxHeartbeats 4000000 in
set_option maxRecDepth 100000 in
theorem w_X10_pace (l : Launch) {o : Nat} {a1 : Int32} {a2 : Int32} {a3 : Int32} (ho : knd o = 8) {μ μ2 : Mem} {r : Int32} {H : Heap} {locs : List Loc} {ls : Array Slot} (hf : f_X10_pace o a1 a2 a3 μ = some (r, μ2)) (hX : XX E p m meth c cX10_pace 4 (some .int) s args RX10) (hM : MM E s μ H locs) (hl : lv_has ls 4 [(0, .ref (eA E o)), (1, .int a1), (2, .int a2), (3, .int a3)]) : W p l e (rmF 2 47) s m args below meth c H locs 0 0 (MQ below (QC E (some (.int r)) μ2) args s 0 0 (AA E)) (F0 m 0 ls []) := by
  obtain ⟨⟨hx, hb, hml, hown, hts⟩, hXr⟩ := id hX
  unfold f_X10_pace at hf
  refine lv_iload_n hx hb dX10_pace_0 rfl (lv_at hl 1 rfl) ?_
  refine lv_bipush (v := 36) hx hb dX10_pace_1 (by decide) ?_
  replace hf := bnd_some hf
  obtain ⟨r2, μ1, h3, hf⟩ := hf
  refine cl_S (As := [.int a1, .int (36 : Int32)]) (rest := []) (st2 := [.int r2]) (n := 2) hX hM (c_X10_below l  h3) mt_X10_below q_8_1 ⟨rfl, rfl⟩ ⟨Nat.le_of_ble_eq_true rfl, Nat.le_of_ble_eq_true rfl⟩ rfl hl.1 rfl (Nat.le_of_ble_eq_true rfl) dX10_pace_3 rfl (fun H locs hM => ?_)
  refine lv_if_eq (tgt := 18) hx hb dX10_pace_6 (by decide) (fun hc6 => ?_) (fun hc6 => ?_)
  · replace hf := it_t hf hc6
    refine lv_iconst (v := (-1)) hx hb dX10_pace_18 (by decide) ?_
    exact rt_i hX hM (congrArg (fun z => some (Value.int z)) (so_1 hf)) (so_2 hf) dX10_pace_19
  · replace hf := it_f hf hc6
    refine lv_iload_n hx hb dX10_pace_9 rfl (lv_at hl 2 rfl) ?_
    refine lv_bipush (v := 8) hx hb dX10_pace_10 (by decide) ?_
    replace hf := bnd_some hf
    obtain ⟨r4, μ3, h12, hf⟩ := hf
    refine cl_S (As := [.int a2, .int (8 : Int32)]) (rest := []) (st2 := [.int r4]) (n := 2) hX hM (c_X10_below l  h12) mt_X10_below q_8_1 ⟨rfl, rfl⟩ ⟨Nat.le_of_ble_eq_true rfl, Nat.le_of_ble_eq_true rfl⟩ rfl hl.1 rfl (Nat.le_of_ble_eq_true rfl) dX10_pace_12 rfl (fun H locs hM => ?_)
    refine lv_if_ne (tgt := 20) hx hb dX10_pace_15 (by decide) (fun hc15 => ?_) (fun hc15 => ?_)
    · replace hf := it_f hf hc15
      refine lv_iload_n hx hb dX10_pace_20 rfl (lv_at hl 3 rfl) ?_
      refine lv_if_lt (tgt := 31) hx hb dX10_pace_21 (by decide) (fun hc21 => ?_) (fun hc21 => ?_)
      · replace hf := it_t hf hc21
        refine lv_bipush (v := (-2)) hx hb dX10_pace_31 (by decide) ?_
        exact rt_i hX hM (congrArg (fun z => some (Value.int z)) (so_1 hf)) (so_2 hf) dX10_pace_33
      · replace hf := it_f hf hc21
        refine lv_iload_n hx hb dX10_pace_24 rfl (lv_at hl 3 rfl) ?_
        refine lv_sipush (v := 9999) hx hb dX10_pace_25 (by decide) ?_
        refine lv_icmp_le (tgt := 34) hx hb dX10_pace_28 (by decide) (fun hc28 => ?_) (fun hc28 => ?_)
        · replace hf := it_t hf hc28
          refine lv_aload_n hx hb dX10_pace_34 rfl (lv_at hl 0 rfl) ?_
          refine gf_8_0 hX hM ho q_1_16 dX10_pace_35 ?_
          refine lv_iload_n hx hb dX10_pace_38 rfl (lv_at hl 1 rfl) ?_
          replace hf := bnd_some hf
          obtain ⟨r6, μ5, h39, hf⟩ := hf
          refine cl_S (As := [.int a1]) (rest := [.ref (eA E (rf o 0))]) (st2 := [.int r6, .ref (eA E (rf o 0))]) (n := 1) hX hM (c_X2_zoneOf l  h39) mt_X2_zoneOf q_31_2 ⟨rfl, rfl⟩ ⟨Nat.le_of_ble_eq_true rfl, Nat.le_of_ble_eq_true rfl⟩ rfl hl.1 rfl (Nat.le_of_ble_eq_true rfl) dX10_pace_39 rfl (fun H locs hM => ?_)
          refine lv_iload_n hx hb dX10_pace_42 rfl (lv_at hl 3 rfl) ?_
          replace hf := bnd_some hf
          obtain ⟨r8, μ7, h43, hf⟩ := hf
          refine cl_S (As := [.int a3]) (rest := [.int r6, .ref (eA E (rf o 0))]) (st2 := [.int r8, .int r6, .ref (eA E (rf o 0))]) (n := 1) hX hM (c_X2_spanOf l  h43) mt_X2_spanOf q_31_3 ⟨rfl, rfl⟩ ⟨Nat.le_of_ble_eq_true rfl, Nat.le_of_ble_eq_true rfl⟩ rfl hl.1 rfl (Nat.le_of_ble_eq_true rfl) dX10_pace_43 rfl (fun H locs hM => ?_)
          refine lv_iload_n hx hb dX10_pace_46 rfl (lv_at hl 2 rfl) ?_
          replace hf := bnd_some hf
          obtain ⟨r10, μ9, h47, hf⟩ := hf
          refine cl_V (As := [.int r6, .int r8, .int a2]) (rest := []) (st2 := [.int r10]) (n := 3) hX hM (c_X6_paceBy l (kr_8_0 ho) h47) mv_X6_paceBy q_31_4 ⟨rfl, rfl⟩ ⟨Nat.le_of_ble_eq_true rfl, Nat.le_of_ble_eq_true rfl⟩ (kr_8_0 ho) (by decide) rfl rfl rfl hl.1 rfl (Nat.le_of_ble_eq_true rfl) dX10_pace_47 rfl (fun H locs hM => ?_)
          exact rt_i hX hM (congrArg (fun z => some (Value.int z)) (so_1 hf)) (so_2 hf) dX10_pace_50
        · replace hf := it_f hf hc28
          refine lv_bipush (v := (-2)) hx hb dX10_pace_31 (by decide) ?_
          exact rt_i hX hM (congrArg (fun z => some (Value.int z)) (so_1 hf)) (so_2 hf) dX10_pace_33
    · replace hf := it_t hf hc15
      refine lv_iconst (v := (-1)) hx hb dX10_pace_18 (by decide) ?_
      exact rt_i hX hM (congrArg (fun z => some (Value.int z)) (so_1 hf)) (so_2 hf) dX10_pace_19
theorem c_X10_pace (l : Launch) {o : Nat} {a1 : Int32} {a2 : Int32} {a3 : Int32} (ho : knd o = 8) {μ μ2 : Mem} {r : Int32} (hf : f_X10_pace o a1 a2 a3 μ = some (r, μ2)) : CT E l yX10_pace cX10_pace 4 (some .int) (rmF 2 47) [.ref (eA E o), .int a1, .int a2, .int a3] μ (some (.int r)) μ2 := CT.of (show plainFor yX10_pace = true by decide +kernel) (Nat.le_of_ble_eq_true rfl) rfl (fun _ _ _ _ _ _ _ _ hX hM hl => w_X10_pace l ho hf hX hM hl)
theorem mv_X10_pace : MV yX10_pace cX10_pace 4 (some .int) RX10 3 := ⟨q_31_1, q_30_23, q_31_0, q_1_2, by decide +kernel⟩
def f_X10_leg (o : Nat) (a1 : Int32) (a2 : Int32) (a3 : Int32) (a4 : Int32) (a5 : Int32) (μ : Mem) : Option (Int32 × Mem) :=
  bnd (f_X10_below a1 (36 : Int32) μ) (fun r2 μ1 => (if r2 = 0 then some ((-1 : Int32), μ1) else bnd (f_X6_isLand (rf o 0) a1 μ1) (fun r4 μ3 => (if r4 = 0 then bnd (f_X10_below a2 (2 : Int32) μ3) (fun r6 μ5 => (if r6 = 0 then some ((-1 : Int32), μ5) else bnd (f_X10_below a3 (8 : Int32) μ5) (fun r8 μ7 => (if r8 = 0 then some ((-1 : Int32), μ7) else bnd (f_X10_below a5 (3 : Int32) μ7) (fun r10 μ9 => (if r10 = 0 then some ((-1 : Int32), μ9) else (if a4 < 0 then some ((-2 : Int32), μ9) else (if a4 ≤ (9999 : Int32) then bnd (f_X1_freshLegs (rf o 2) μ9) (fun r12 μ11 => gP (decide (knd r12 = 2)) (bnd (f_X4_soonestDeparture r12 a1 a2 a3 a4 μ11) (fun r14 μ13 => (if r14 = (1000000000 : Int32) then some ((-5 : Int32), μ13) else (if a5 = (1 : Int32) then some (r14, μ13) else bnd (f_X4_kindOf a1 a3 r14 μ13) (fun r16 μ15 => (if a5 = 0 then bnd (f_X4_arrival r12 r16 a2 r14 μ15) (fun r20 μ19 => some (r20, μ19)) else bnd (f_X4_sideThen r12 r16 a2 μ15) (fun r18 μ17 => some (r18, μ17))))))))) else some ((-2 : Int32), μ9))))))))) else some ((-1 : Int32), μ3)))))
set_option maxHeartbeats 4000000 in
set_option maxRecDepth 100000 in
theorem w_X10_leg (l : Launch) {o : Nat} {a1 : Int32} {a2 : Int32} {a3 : Int32} {a4 : Int32} {a5 : Int32} (ho : knd o = 8) {μ μ2 : Mem} {r : Int32} {H : Heap} {locs : List Loc} {ls : Array Slot} (hf : f_X10_leg o a1 a2 a3 a4 a5 μ = some (r, μ2)) (hX : XX E p m meth c cX10_leg 9 (some .int) s args RX10) (hM : MM E s μ H locs) (hl : lv_has ls 9 [(0, .ref (eA E o)), (1, .int a1), (2, .int a2), (3, .int a3), (4, .int a4), (5, .int a5)]) : W p l e (rmF 5 115) s m args below meth c H locs 0 0 (MQ below (QC E (some (.int r)) μ2) args s 0 0 (AA E)) (F0 m 0 ls []) := by
  obtain ⟨⟨hx, hb, hml, hown, hts⟩, hXr⟩ := id hX
  unfold f_X10_leg at hf
  refine lv_iload_n hx hb dX10_leg_0 rfl (lv_at hl 1 rfl) ?_
  refine lv_bipush (v := 36) hx hb dX10_leg_1 (by decide) ?_
  replace hf := bnd_some hf
  obtain ⟨r2, μ1, h3, hf⟩ := hf
  refine cl_S (As := [.int a1, .int (36 : Int32)]) (rest := []) (st2 := [.int r2]) (n := 2) hX hM (c_X10_below l  h3) mt_X10_below q_8_1 ⟨rfl, rfl⟩ ⟨Nat.le_of_ble_eq_true rfl, Nat.le_of_ble_eq_true rfl⟩ rfl hl.1 rfl (Nat.le_of_ble_eq_true rfl) dX10_leg_3 rfl (fun H locs hM => ?_)
  refine lv_if_eq (tgt := 28) hx hb dX10_leg_6 (by decide) (fun hc6 => ?_) (fun hc6 => ?_)
  · replace hf := it_t hf hc6
    refine lv_iconst (v := (-1)) hx hb dX10_leg_28 (by decide) ?_
    exact rt_i hX hM (congrArg (fun z => some (Value.int z)) (so_1 hf)) (so_2 hf) dX10_leg_29
  · replace hf := it_f hf hc6
    refine lv_aload_n hx hb dX10_leg_9 rfl (lv_at hl 0 rfl) ?_
    refine gf_8_0 hX hM ho q_1_16 dX10_leg_10 ?_
    refine lv_iload_n hx hb dX10_leg_13 rfl (lv_at hl 1 rfl) ?_
    replace hf := bnd_some hf
    obtain ⟨r4, μ3, h14, hf⟩ := hf
    refine cl_V (As := [.int a1]) (rest := []) (st2 := [.int r4]) (n := 1) hX hM (c_X6_isLand l (kr_8_0 ho) h14) mv_X6_isLand q_11_7 ⟨rfl, rfl⟩ ⟨Nat.le_of_ble_eq_true rfl, Nat.le_of_ble_eq_true rfl⟩ (kr_8_0 ho) (by decide) rfl rfl rfl hl.1 rfl (Nat.le_of_ble_eq_true rfl) dX10_leg_14 rfl (fun H locs hM => ?_)
    refine lv_if_ne (tgt := 28) hx hb dX10_leg_17 (by decide) (fun hc17 => ?_) (fun hc17 => ?_)
    · replace hf := it_f hf hc17
      refine lv_iconst (v := (-1)) hx hb dX10_leg_28 (by decide) ?_
      exact rt_i hX hM (congrArg (fun z => some (Value.int z)) (so_1 hf)) (so_2 hf) dX10_leg_29
    · replace hf := it_t hf hc17
      refine lv_iload_n hx hb dX10_leg_20 rfl (lv_at hl 2 rfl) ?_
      refine lv_iconst (v := 2) hx hb dX10_leg_21 (by decide) ?_
      replace hf := bnd_some hf
      obtain ⟨r6, μ5, h22, hf⟩ := hf
      refine cl_S (As := [.int a2, .int (2 : Int32)]) (rest := []) (st2 := [.int r6]) (n := 2) hX hM (c_X10_below l  h22) mt_X10_below q_8_1 ⟨rfl, rfl⟩ ⟨Nat.le_of_ble_eq_true rfl, Nat.le_of_ble_eq_true rfl⟩ rfl hl.1 rfl (Nat.le_of_ble_eq_true rfl) dX10_leg_22 rfl (fun H locs hM => ?_)
      refine lv_if_ne (tgt := 30) hx hb dX10_leg_25 (by decide) (fun hc25 => ?_) (fun hc25 => ?_)
      · replace hf := it_f hf hc25
        refine lv_iload_n hx hb dX10_leg_30 rfl (lv_at hl 3 rfl) ?_
        refine lv_bipush (v := 8) hx hb dX10_leg_31 (by decide) ?_
        replace hf := bnd_some hf
        obtain ⟨r8, μ7, h33, hf⟩ := hf
        refine cl_S (As := [.int a3, .int (8 : Int32)]) (rest := []) (st2 := [.int r8]) (n := 2) hX hM (c_X10_below l  h33) mt_X10_below q_8_1 ⟨rfl, rfl⟩ ⟨Nat.le_of_ble_eq_true rfl, Nat.le_of_ble_eq_true rfl⟩ rfl hl.1 rfl (Nat.le_of_ble_eq_true rfl) dX10_leg_33 rfl (fun H locs hM => ?_)
        refine lv_if_eq (tgt := 48) hx hb dX10_leg_36 (by decide) (fun hc36 => ?_) (fun hc36 => ?_)
        · replace hf := it_t hf hc36
          refine lv_iconst (v := (-1)) hx hb dX10_leg_48 (by decide) ?_
          exact rt_i hX hM (congrArg (fun z => some (Value.int z)) (so_1 hf)) (so_2 hf) dX10_leg_49
        · replace hf := it_f hf hc36
          refine lv_iload hx hb dX10_leg_39 (lv_at hl 5 rfl) ?_
          refine lv_iconst (v := 3) hx hb dX10_leg_41 (by decide) ?_
          replace hf := bnd_some hf
          obtain ⟨r10, μ9, h42, hf⟩ := hf
          refine cl_S (As := [.int a5, .int (3 : Int32)]) (rest := []) (st2 := [.int r10]) (n := 2) hX hM (c_X10_below l  h42) mt_X10_below q_8_1 ⟨rfl, rfl⟩ ⟨Nat.le_of_ble_eq_true rfl, Nat.le_of_ble_eq_true rfl⟩ rfl hl.1 rfl (Nat.le_of_ble_eq_true rfl) dX10_leg_42 rfl (fun H locs hM => ?_)
          refine lv_if_ne (tgt := 50) hx hb dX10_leg_45 (by decide) (fun hc45 => ?_) (fun hc45 => ?_)
          · replace hf := it_f hf hc45
            refine lv_iload hx hb dX10_leg_50 (lv_at hl 4 rfl) ?_
            refine lv_if_lt (tgt := 63) hx hb dX10_leg_52 (by decide) (fun hc52 => ?_) (fun hc52 => ?_)
            · replace hf := it_t hf hc52
              refine lv_bipush (v := (-2)) hx hb dX10_leg_63 (by decide) ?_
              exact rt_i hX hM (congrArg (fun z => some (Value.int z)) (so_1 hf)) (so_2 hf) dX10_leg_65
            · replace hf := it_f hf hc52
              refine lv_iload hx hb dX10_leg_55 (lv_at hl 4 rfl) ?_
              refine lv_sipush (v := 9999) hx hb dX10_leg_57 (by decide) ?_
              refine lv_icmp_le (tgt := 66) hx hb dX10_leg_60 (by decide) (fun hc60 => ?_) (fun hc60 => ?_)
              · replace hf := it_t hf hc60
                refine lv_aload_n hx hb dX10_leg_66 rfl (lv_at hl 0 rfl) ?_
                refine gf_8_2 hX hM ho q_2_0 dX10_leg_67 ?_
                replace hf := bnd_some hf
                obtain ⟨r12, μ11, h70, hf⟩ := hf
                replace hf := gP_some hf
                obtain ⟨hzr12, hf⟩ := hf
                replace hzr12 := of_decide_eq_true hzr12
                refine cl_V (As := []) (rest := []) (st2 := [.ref (eA E r12)]) (n := 0) hX hM (c_X1_freshLegs l (kr_8_2 ho) h70) mv_X1_freshLegs q_31_14 ⟨rfl, rfl⟩ ⟨Nat.le_of_ble_eq_true rfl, Nat.le_of_ble_eq_true rfl⟩ (kr_8_2 ho) (by decide) rfl rfl rfl hl.1 rfl (Nat.le_of_ble_eq_true rfl) dX10_leg_70 rfl (fun H locs hM => ?_)
                refine lv_astore (lv' := [(6, .ref (eA E r12)), (0, .ref (eA E o)), (1, .int a1), (2, .int a2), (3, .int a3), (4, .int a4), (5, .int a5)]) hx hb dX10_leg_73 hl (by decide) rfl (fun ls hl => ?_)
                refine lv_aload hx hb dX10_leg_75 (lv_at hl 0 rfl) ?_
                refine lv_iload_n hx hb dX10_leg_77 rfl (lv_at hl 2 rfl) ?_
                refine lv_iload_n hx hb dX10_leg_78 rfl (lv_at hl 3 rfl) ?_
                refine lv_iload_n hx hb dX10_leg_79 rfl (lv_at hl 4 rfl) ?_
                refine lv_iload hx hb dX10_leg_80 (lv_at hl 5 rfl) ?_
                replace hf := bnd_some hf
                obtain ⟨r14, μ13, h82, hf⟩ := hf
                refine cl_V (As := [.int a1, .int a2, .int a3, .int a4]) (rest := []) (st2 := [.int r14]) (n := 4) hX hM (c_X4_soonestDeparture l hzr12 h82) mv_X4_soonestDeparture q_31_18 ⟨rfl, rfl⟩ ⟨Nat.le_of_ble_eq_true rfl, Nat.le_of_ble_eq_true rfl⟩ hzr12 (by decide) rfl rfl rfl hl.1 rfl (Nat.le_of_ble_eq_true rfl) dX10_leg_82 rfl (fun H locs hM => ?_)
                refine lv_istore (lv' := [(7, .int r14), (6, .ref (eA E r12)), (0, .ref (eA E o)), (1, .int a1), (2, .int a2), (3, .int a3), (4, .int a4), (5, .int a5)]) hx hb dX10_leg_85 hl (by decide) rfl (fun ls hl => ?_)
                refine lv_iload hx hb dX10_leg_87 (lv_at hl 0 rfl) ?_
                refine lv_ldc (v := 1000000000) hx hb hown (hts _ q_31_13) dX10_leg_89 ?_
                refine lv_icmp_ne (tgt := 97) hx hb dX10_leg_91 (by decide) (fun hc91 => ?_) (fun hc91 => ?_)
                · replace hf := it_f hf hc91
                  refine lv_iload hx hb dX10_leg_97 (lv_at hl 7 rfl) ?_
                  refine lv_iconst (v := 1) hx hb dX10_leg_99 (by decide) ?_
                  refine lv_icmp_ne (tgt := 106) hx hb dX10_leg_100 (by decide) (fun hc100 => ?_) (fun hc100 => ?_)
                  · replace hf := it_f hf hc100
                    refine lv_iload_n hx hb dX10_leg_106 rfl (lv_at hl 3 rfl) ?_
                    refine lv_iload_n hx hb dX10_leg_107 rfl (lv_at hl 5 rfl) ?_
                    refine lv_iload hx hb dX10_leg_108 (lv_at hl 0 rfl) ?_
                    replace hf := bnd_some hf
                    obtain ⟨r16, μ15, h110, hf⟩ := hf
                    refine cl_S (As := [.int a1, .int a3, .int r14]) (rest := []) (st2 := [.int r16]) (n := 3) hX hM (c_X4_kindOf l  h110) mt_X4_kindOf q_32_2 ⟨rfl, rfl⟩ ⟨Nat.le_of_ble_eq_true rfl, Nat.le_of_ble_eq_true rfl⟩ rfl hl.1 rfl (Nat.le_of_ble_eq_true rfl) dX10_leg_110 rfl (fun H locs hM => ?_)
                    refine lv_istore (lv' := [(8, .int r16), (7, .int r14), (6, .ref (eA E r12)), (0, .ref (eA E o)), (1, .int a1), (2, .int a2), (3, .int a3), (4, .int a4), (5, .int a5)]) hx hb dX10_leg_113 hl (by decide) rfl (fun ls hl => ?_)
                    refine lv_iload hx hb dX10_leg_115 (lv_at hl 8 rfl) ?_
                    refine lv_if_ne (tgt := 133) hx hb dX10_leg_117 (by decide) (fun hc117 => ?_) (fun hc117 => ?_)
                    · replace hf := it_f hf hc117
                      refine lv_aload hx hb dX10_leg_133 (lv_at hl 2 rfl) ?_
                      refine lv_iload hx hb dX10_leg_135 (lv_at hl 0 rfl) ?_
                      refine lv_iload_n hx hb dX10_leg_137 rfl (lv_at hl 5 rfl) ?_
                      replace hf := bnd_some hf
                      obtain ⟨r18, μ17, h138, hf⟩ := hf
                      refine cl_V (As := [.int r16, .int a2]) (rest := []) (st2 := [.int r18]) (n := 2) hX hM (c_X4_sideThen l hzr12 h138) mv_X4_sideThen q_32_4 ⟨rfl, rfl⟩ ⟨Nat.le_of_ble_eq_true rfl, Nat.le_of_ble_eq_true rfl⟩ hzr12 (by decide) rfl rfl rfl hl.1 rfl (Nat.le_of_ble_eq_true rfl) dX10_leg_138 rfl (fun H locs hM => ?_)
                      exact rt_i hX hM (congrArg (fun z => some (Value.int z)) (so_1 hf)) (so_2 hf) dX10_leg_141
                    · replace hf := it_t hf hc117
                      refine lv_aload hx hb dX10_leg_120 (lv_at hl 2 rfl) ?_
                      refine lv_iload hx hb dX10_leg_122 (lv_at hl 0 rfl) ?_
                      refine lv_iload_n hx hb dX10_leg_124 rfl (lv_at hl 5 rfl) ?_
                      refine lv_iload hx hb dX10_leg_125 (lv_at hl 1 rfl) ?_
                      replace hf := bnd_some hf
                      obtain ⟨r20, μ19, h127, hf⟩ := hf
                      refine cl_V (As := [.int r16, .int a2, .int r14]) (rest := []) (st2 := [.int r20]) (n := 3) hX hM (c_X4_arrival l hzr12 h127) mv_X4_arrival q_32_3 ⟨rfl, rfl⟩ ⟨Nat.le_of_ble_eq_true rfl, Nat.le_of_ble_eq_true rfl⟩ hzr12 (by decide) rfl rfl rfl hl.1 rfl (Nat.le_of_ble_eq_true rfl) dX10_leg_127 rfl (fun H locs hM => ?_)
                      refine lv_goto (tgt := 141) hx hb dX10_leg_130 (by decide) ?_
                      exact rt_i hX hM (congrArg (fun z => some (Value.int z)) (so_1 hf)) (so_2 hf) dX10_leg_141
                  · replace hf := it_t hf hc100
                    refine lv_iload hx hb dX10_leg_103 (lv_at hl 0 rfl) ?_
                    exact rt_i hX hM (congrArg (fun z => some (Value.int z)) (so_1 hf)) (so_2 hf) dX10_leg_105
                · replace hf := it_t hf hc91
                  refine lv_bipush (v := (-5)) hx hb dX10_leg_94 (by decide) ?_
                  exact rt_i hX hM (congrArg (fun z => some (Value.int z)) (so_1 hf)) (so_2 hf) dX10_leg_96
              · replace hf := it_f hf hc60
                refine lv_bipush (v := (-2)) hx hb dX10_leg_63 (by decide) ?_
                exact rt_i hX hM (congrArg (fun z => some (Value.int z)) (so_1 hf)) (so_2 hf) dX10_leg_65
          · replace hf := it_t hf hc45
            refine lv_iconst (v := (-1)) hx hb dX10_leg_48 (by decide) ?_
            exact rt_i hX hM (congrArg (fun z => some (Value.int z)) (so_1 hf)) (so_2 hf) dX10_leg_49
      · replace hf := it_t hf hc25
        refine lv_iconst (v := (-1)) hx hb dX10_leg_28 (by decide) ?_
        exact rt_i hX hM (congrArg (fun z => some (Value.int z)) (so_1 hf)) (so_2 hf) dX10_leg_29
theorem c_X10_leg (l : Launch) {o : Nat} {a1 : Int32} {a2 : Int32} {a3 : Int32} {a4 : Int32} {a5 : Int32} (ho : knd o = 8) {μ μ2 : Mem} {r : Int32} (hf : f_X10_leg o a1 a2 a3 a4 a5 μ = some (r, μ2)) : CT E l yX10_leg cX10_leg 9 (some .int) (rmF 5 115) [.ref (eA E o), .int a1, .int a2, .int a3, .int a4, .int a5] μ (some (.int r)) μ2 := CT.of (show plainFor yX10_leg = true by decide +kernel) (Nat.le_of_ble_eq_true rfl) rfl (fun _ _ _ _ _ _ _ _ hX hM hl => w_X10_leg l ho hf hX hM hl)
theorem mv_X10_leg : MV yX10_leg cX10_leg 9 (some .int) RX10 5 := ⟨q_31_12, q_31_10, q_31_11, q_1_2, by decide +kernel⟩
def f_X10_least_b44 (o : Nat) (a1 : Int32) (a2 : Int32)  (t0 : Int32) (μ : Mem) : Option (Int32 × Mem) :=
  (if t0 = (1000000000 : Int32) then some ((-5 : Int32), μ) else some (t0, μ))
set_option maxHeartbeats 4000000 in
set_option maxRecDepth 100000 in
theorem w_X10_least_b44 (l : Launch) {o : Nat} {a1 : Int32} {a2 : Int32} (ho : knd o = 8) {μ2 : Mem} {r : Int32}   {t0 : Int32} {μ : Mem} {H : Heap} {locs : List Loc} {ls : Array Slot}  (hf : f_X10_least_b44 o a1 a2  t0 μ = some (r, μ2)) (hX : XX E p m meth c cX10_least 4 (some .int) s args RX10) (hM : MM E s μ H locs) (hl : lv_has ls 4 [(0, .ref (eA E o)), (1, .int a1), (2, .int a2)]) : W p l e (rmF 6 139) s m args below meth c H locs 0 0 (MQ below (QC E (some (.int r)) μ2) args s 0 0 (AA E)) (F0 m 44 ls [.int t0]) := by
  obtain ⟨⟨hx, hb, hml, hown, hts⟩, hXr⟩ := id hX
  unfold f_X10_least_b44 at hf
  refine lv_istore_n (lv' := [(3, .int t0), (0, .ref (eA E o)), (1, .int a1), (2, .int a2)]) hx hb dX10_least_44 rfl hl (by decide) rfl (fun ls hl => ?_)
  refine lv_iload_n hx hb dX10_least_45 rfl (lv_at hl 0 rfl) ?_
  refine lv_ldc (v := 1000000000) hx hb hown (hts _ q_31_13) dX10_least_46 ?_
  refine lv_icmp_ne (tgt := 56) hx hb dX10_least_48 (by decide) (fun hc48 => ?_) (fun hc48 => ?_)
  · replace hf := it_f hf hc48
    refine lv_iload_n hx hb dX10_least_56 rfl (lv_at hl 0 rfl) ?_
    exact rt_i hX hM (congrArg (fun z => some (Value.int z)) (so_1 hf)) (so_2 hf) dX10_least_57
  · replace hf := it_t hf hc48
    refine lv_bipush (v := (-5)) hx hb dX10_least_51 (by decide) ?_
    refine lv_goto (tgt := 57) hx hb dX10_least_53 (by decide) ?_
    exact rt_i hX hM (congrArg (fun z => some (Value.int z)) (so_1 hf)) (so_2 hf) dX10_least_57
def f_X10_least (o : Nat) (a1 : Int32) (a2 : Int32) (μ : Mem) : Option (Int32 × Mem) :=
  bnd (f_X10_below a1 (36 : Int32) μ) (fun r2 μ1 => (if r2 = 0 then some ((-1 : Int32), μ1) else bnd (f_X10_below a2 (3 : Int32) μ1) (fun r4 μ3 => (if r4 = 0 then some ((-1 : Int32), μ3) else (if a2 = (2 : Int32) then bnd (f_X10_freshChart o μ3) (fun r10 μ9 => gP (decide (knd r10 = 0)) (bnd (f_X1_leastOf r10 a1 μ9) (fun r12 μ11 => f_X10_least_b44 o a1 a2  r12 μ11))) else bnd (f_X10_freshChart o μ3) (fun r6 μ5 => gP (decide (knd r6 = 0)) (bnd (f_X1_leastWith r6 a1 a2 μ5) (fun r8 μ7 => f_X10_least_b44 o a1 a2  r8 μ7))))))))
set_option maxHeartbeats 4000000 in
set_option maxRecDepth 100000 in
theorem w_X10_least (l : Launch) {o : Nat} {a1 : Int32} {a2 : Int32} (ho : knd o = 8) {μ μ2 : Mem} {r : Int32} {H : Heap} {locs : List Loc} {ls : Array Slot} (hf : f_X10_least o a1 a2 μ = some (r, μ2)) (hX : XX E p m meth c cX10_least 4 (some .int) s args RX10) (hM : MM E s μ H locs) (hl : lv_has ls 4 [(0, .ref (eA E o)), (1, .int a1), (2, .int a2)]) : W p l e (rmF 6 139) s m args below meth c H locs 0 0 (MQ below (QC E (some (.int r)) μ2) args s 0 0 (AA E)) (F0 m 0 ls []) := by
  obtain ⟨⟨hx, hb, hml, hown, hts⟩, hXr⟩ := id hX
  unfold f_X10_least at hf
  refine lv_iload_n hx hb dX10_least_0 rfl (lv_at hl 1 rfl) ?_
  refine lv_bipush (v := 36) hx hb dX10_least_1 (by decide) ?_
  replace hf := bnd_some hf
  obtain ⟨r2, μ1, h3, hf⟩ := hf
  refine cl_S (As := [.int a1, .int (36 : Int32)]) (rest := []) (st2 := [.int r2]) (n := 2) hX hM (c_X10_below l  h3) mt_X10_below q_8_1 ⟨rfl, rfl⟩ ⟨Nat.le_of_ble_eq_true rfl, Nat.le_of_ble_eq_true rfl⟩ rfl hl.1 rfl (Nat.le_of_ble_eq_true rfl) dX10_least_3 rfl (fun H locs hM => ?_)
  refine lv_if_eq (tgt := 17) hx hb dX10_least_6 (by decide) (fun hc6 => ?_) (fun hc6 => ?_)
  · replace hf := it_t hf hc6
    refine lv_iconst (v := (-1)) hx hb dX10_least_17 (by decide) ?_
    exact rt_i hX hM (congrArg (fun z => some (Value.int z)) (so_1 hf)) (so_2 hf) dX10_least_18
  · replace hf := it_f hf hc6
    refine lv_iload_n hx hb dX10_least_9 rfl (lv_at hl 2 rfl) ?_
    refine lv_iconst (v := 3) hx hb dX10_least_10 (by decide) ?_
    replace hf := bnd_some hf
    obtain ⟨r4, μ3, h11, hf⟩ := hf
    refine cl_S (As := [.int a2, .int (3 : Int32)]) (rest := []) (st2 := [.int r4]) (n := 2) hX hM (c_X10_below l  h11) mt_X10_below q_8_1 ⟨rfl, rfl⟩ ⟨Nat.le_of_ble_eq_true rfl, Nat.le_of_ble_eq_true rfl⟩ rfl hl.1 rfl (Nat.le_of_ble_eq_true rfl) dX10_least_11 rfl (fun H locs hM => ?_)
    refine lv_if_ne (tgt := 19) hx hb dX10_least_14 (by decide) (fun hc14 => ?_) (fun hc14 => ?_)
    · replace hf := it_f hf hc14
      refine lv_iload_n hx hb dX10_least_19 rfl (lv_at hl 2 rfl) ?_
      refine lv_iconst (v := 2) hx hb dX10_least_20 (by decide) ?_
      refine lv_icmp_ne (tgt := 35) hx hb dX10_least_21 (by decide) (fun hc21 => ?_) (fun hc21 => ?_)
      · replace hf := it_f hf hc21
        refine lv_aload_n hx hb dX10_least_35 rfl (lv_at hl 0 rfl) ?_
        replace hf := bnd_some hf
        obtain ⟨r6, μ5, h36, hf⟩ := hf
        replace hf := gP_some hf
        obtain ⟨hzr6, hf⟩ := hf
        replace hzr6 := of_decide_eq_true hzr6
        refine cl_V (As := []) (rest := []) (st2 := [.ref (eA E r6)]) (n := 0) hX hM (c_X10_freshChart l ho h36) mv_X10_freshChart q_12_12 ⟨rfl, rfl⟩ ⟨Nat.le_of_ble_eq_true rfl, Nat.le_of_ble_eq_true rfl⟩ ho (by decide) rfl rfl rfl hl.1 rfl (Nat.le_of_ble_eq_true rfl) dX10_least_36 rfl (fun H locs hM => ?_)
        refine lv_iload_n hx hb dX10_least_39 rfl (lv_at hl 1 rfl) ?_
        refine lv_iload_n hx hb dX10_least_40 rfl (lv_at hl 2 rfl) ?_
        replace hf := bnd_some hf
        obtain ⟨r8, μ7, h41, hf⟩ := hf
        refine cl_V (As := [.int a1, .int a2]) (rest := []) (st2 := [.int r8]) (n := 2) hX hM (c_X1_leastWith l hzr6 h41) mv_X1_leastWith q_32_17 ⟨rfl, rfl⟩ ⟨Nat.le_of_ble_eq_true rfl, Nat.le_of_ble_eq_true rfl⟩ hzr6 (by decide) rfl rfl rfl hl.1 rfl (Nat.le_of_ble_eq_true rfl) dX10_least_41 rfl (fun H locs hM => ?_)
        exact w_X10_least_b44 l ho   hf hX hM (lv_sub hl [0, 1, 2] rfl)
      · replace hf := it_t hf hc21
        refine lv_aload_n hx hb dX10_least_24 rfl (lv_at hl 0 rfl) ?_
        replace hf := bnd_some hf
        obtain ⟨r10, μ9, h25, hf⟩ := hf
        replace hf := gP_some hf
        obtain ⟨hzr10, hf⟩ := hf
        replace hzr10 := of_decide_eq_true hzr10
        refine cl_V (As := []) (rest := []) (st2 := [.ref (eA E r10)]) (n := 0) hX hM (c_X10_freshChart l ho h25) mv_X10_freshChart q_12_12 ⟨rfl, rfl⟩ ⟨Nat.le_of_ble_eq_true rfl, Nat.le_of_ble_eq_true rfl⟩ ho (by decide) rfl rfl rfl hl.1 rfl (Nat.le_of_ble_eq_true rfl) dX10_least_25 rfl (fun H locs hM => ?_)
        refine lv_iload_n hx hb dX10_least_28 rfl (lv_at hl 1 rfl) ?_
        replace hf := bnd_some hf
        obtain ⟨r12, μ11, h29, hf⟩ := hf
        refine cl_V (As := [.int a1]) (rest := []) (st2 := [.int r12]) (n := 1) hX hM (c_X1_leastOf l hzr10 h29) mv_X1_leastOf q_30_9 ⟨rfl, rfl⟩ ⟨Nat.le_of_ble_eq_true rfl, Nat.le_of_ble_eq_true rfl⟩ hzr10 (by decide) rfl rfl rfl hl.1 rfl (Nat.le_of_ble_eq_true rfl) dX10_least_29 rfl (fun H locs hM => ?_)
        refine lv_goto (tgt := 44) hx hb dX10_least_32 (by decide) ?_
        exact w_X10_least_b44 l ho   hf hX hM (lv_sub hl [0, 1, 2] rfl)
    · replace hf := it_t hf hc14
      refine lv_iconst (v := (-1)) hx hb dX10_least_17 (by decide) ?_
      exact rt_i hX hM (congrArg (fun z => some (Value.int z)) (so_1 hf)) (so_2 hf) dX10_least_18
theorem c_X10_least (l : Launch) {o : Nat} {a1 : Int32} {a2 : Int32} (ho : knd o = 8) {μ μ2 : Mem} {r : Int32} (hf : f_X10_least o a1 a2 μ = some (r, μ2)) : CT E l yX10_least cX10_least 4 (some .int) (rmF 6 139) [.ref (eA E o), .int a1, .int a2] μ (some (.int r)) μ2 := CT.of (show plainFor yX10_least = true by decide +kernel) (Nat.le_of_ble_eq_true rfl) rfl (fun _ _ _ _ _ _ _ _ hX hM hl => w_X10_least l ho hf hX hM hl)
theorem mv_X10_least : MV yX10_least cX10_least 4 (some .int) RX10 2 := ⟨q_32_16, q_32_14, q_32_15, q_1_2, by decide +kernel⟩
def f_X10_last (o : Nat) (a1 : Int32) (a2 : Int32) (μ : Mem) : Option (Int32 × Mem) :=
  bnd (f_X10_below a1 (36 : Int32) μ) (fun r2 μ1 => (if r2 = 0 then some ((-1 : Int32), μ1) else bnd (f_X10_below a2 (2 : Int32) μ1) (fun r4 μ3 => (if r4 = 0 then some ((-1 : Int32), μ3) else bnd (f_X10_freshChart o μ3) (fun r6 μ5 => gP (decide (knd r6 = 0)) (bnd (f_X1_lastOf r6 a1 a2 μ5) (fun r8 μ7 => some (r8, μ7))))))))
set_option maxHeartbeats 4000000 in
set_option maxRecDepth 100000 in
theorem w_X10_last (l : Launch) {o : Nat} {a1 : Int32} {a2 : Int32} (ho : knd o = 8) {μ μ2 : Mem} {r : Int32} {H : Heap} {locs : List Loc} {ls : Array Slot} (hf : f_X10_last o a1 a2 μ = some (r, μ2)) (hX : XX E p m meth c cX10_last 3 (some .int) s args RX10) (hM : MM E s μ H locs) (hl : lv_has ls 3 [(0, .ref (eA E o)), (1, .int a1), (2, .int a2)]) : W p l e (rmF 6 139) s m args below meth c H locs 0 0 (MQ below (QC E (some (.int r)) μ2) args s 0 0 (AA E)) (F0 m 0 ls []) := by
  obtain ⟨⟨hx, hb, hml, hown, hts⟩, hXr⟩ := id hX
  unfold f_X10_last at hf
  refine lv_iload_n hx hb dX10_last_0 rfl (lv_at hl 1 rfl) ?_
  refine lv_bipush (v := 36) hx hb dX10_last_1 (by decide) ?_
  replace hf := bnd_some hf
  obtain ⟨r2, μ1, h3, hf⟩ := hf
  refine cl_S (As := [.int a1, .int (36 : Int32)]) (rest := []) (st2 := [.int r2]) (n := 2) hX hM (c_X10_below l  h3) mt_X10_below q_8_1 ⟨rfl, rfl⟩ ⟨Nat.le_of_ble_eq_true rfl, Nat.le_of_ble_eq_true rfl⟩ rfl hl.1 rfl (Nat.le_of_ble_eq_true rfl) dX10_last_3 rfl (fun H locs hM => ?_)
  refine lv_if_eq (tgt := 17) hx hb dX10_last_6 (by decide) (fun hc6 => ?_) (fun hc6 => ?_)
  · replace hf := it_t hf hc6
    refine lv_iconst (v := (-1)) hx hb dX10_last_17 (by decide) ?_
    exact rt_i hX hM (congrArg (fun z => some (Value.int z)) (so_1 hf)) (so_2 hf) dX10_last_18
  · replace hf := it_f hf hc6
    refine lv_iload_n hx hb dX10_last_9 rfl (lv_at hl 2 rfl) ?_
    refine lv_iconst (v := 2) hx hb dX10_last_10 (by decide) ?_
    replace hf := bnd_some hf
    obtain ⟨r4, μ3, h11, hf⟩ := hf
    refine cl_S (As := [.int a2, .int (2 : Int32)]) (rest := []) (st2 := [.int r4]) (n := 2) hX hM (c_X10_below l  h11) mt_X10_below q_8_1 ⟨rfl, rfl⟩ ⟨Nat.le_of_ble_eq_true rfl, Nat.le_of_ble_eq_true rfl⟩ rfl hl.1 rfl (Nat.le_of_ble_eq_true rfl) dX10_last_11 rfl (fun H locs hM => ?_)
    refine lv_if_ne (tgt := 19) hx hb dX10_last_14 (by decide) (fun hc14 => ?_) (fun hc14 => ?_)
    · replace hf := it_f hf hc14
      refine lv_aload_n hx hb dX10_last_19 rfl (lv_at hl 0 rfl) ?_
      replace hf := bnd_some hf
      obtain ⟨r6, μ5, h20, hf⟩ := hf
      replace hf := gP_some hf
      obtain ⟨hzr6, hf⟩ := hf
      replace hzr6 := of_decide_eq_true hzr6
      refine cl_V (As := []) (rest := []) (st2 := [.ref (eA E r6)]) (n := 0) hX hM (c_X10_freshChart l ho h20) mv_X10_freshChart q_12_12 ⟨rfl, rfl⟩ ⟨Nat.le_of_ble_eq_true rfl, Nat.le_of_ble_eq_true rfl⟩ ho (by decide) rfl rfl rfl hl.1 rfl (Nat.le_of_ble_eq_true rfl) dX10_last_20 rfl (fun H locs hM => ?_)
      refine lv_iload_n hx hb dX10_last_23 rfl (lv_at hl 1 rfl) ?_
      refine lv_iload_n hx hb dX10_last_24 rfl (lv_at hl 2 rfl) ?_
      replace hf := bnd_some hf
      obtain ⟨r8, μ7, h25, hf⟩ := hf
      refine cl_V (As := [.int a1, .int a2]) (rest := []) (st2 := [.int r8]) (n := 2) hX hM (c_X1_lastOf l hzr6 h25) mv_X1_lastOf q_33_5 ⟨rfl, rfl⟩ ⟨Nat.le_of_ble_eq_true rfl, Nat.le_of_ble_eq_true rfl⟩ hzr6 (by decide) rfl rfl rfl hl.1 rfl (Nat.le_of_ble_eq_true rfl) dX10_last_25 rfl (fun H locs hM => ?_)
      exact rt_i hX hM (congrArg (fun z => some (Value.int z)) (so_1 hf)) (so_2 hf) dX10_last_28
    · replace hf := it_t hf hc14
      refine lv_iconst (v := (-1)) hx hb dX10_last_17 (by decide) ?_
      exact rt_i hX hM (congrArg (fun z => some (Value.int z)) (so_1 hf)) (so_2 hf) dX10_last_18
theorem c_X10_last (l : Launch) {o : Nat} {a1 : Int32} {a2 : Int32} (ho : knd o = 8) {μ μ2 : Mem} {r : Int32} (hf : f_X10_last o a1 a2 μ = some (r, μ2)) : CT E l yX10_last cX10_last 3 (some .int) (rmF 6 139) [.ref (eA E o), .int a1, .int a2] μ (some (.int r)) μ2 := CT.of (show plainFor yX10_last = true by decide +kernel) (Nat.le_of_ble_eq_true rfl) rfl (fun _ _ _ _ _ _ _ _ hX hM hl => w_X10_last l ho hf hX hM hl)
theorem mv_X10_last : MV yX10_last cX10_last 3 (some .int) RX10 2 := ⟨q_33_4, q_33_2, q_33_3, q_1_2, by decide +kernel⟩
def f_X10_course (o : Nat) (a1 : Int32) (a2 : Int32) (μ : Mem) : Option (Int32 × Mem) :=
  bnd (f_X10_below a1 (36 : Int32) μ) (fun r2 μ1 => (if r2 = 0 then some ((-1 : Int32), μ1) else (if (-1 : Int32) ≤ a2 then bnd (f_X10_freshChart o μ1) (fun r4 μ3 => gP (decide (knd r4 = 0)) (bnd (f_X1_layCourse r4 a1 μ3) (fun r6 μ5 => (if r6 = (-5 : Int32) then some ((-5 : Int32), μ5) else (if a2 < r6 then (if a2 = (-1 : Int32) then some (r6, μ5) else bnd (f_X1_courseHeading (rf o 2) a2 μ5) (fun r8 μ7 => some (r8, μ7))) else some ((-5 : Int32), μ5)))))) else some ((-1 : Int32), μ1))))
set_option maxHeartbeats 4000000 in
set_option maxRecDepth 100000 in
theorem w_X10_course (l : Launch) {o : Nat} {a1 : Int32} {a2 : Int32} (ho : knd o = 8) {μ μ2 : Mem} {r : Int32} {H : Heap} {locs : List Loc} {ls : Array Slot} (hf : f_X10_course o a1 a2 μ = some (r, μ2)) (hX : XX E p m meth c cX10_course 4 (some .int) s args RX10) (hM : MM E s μ H locs) (hl : lv_has ls 4 [(0, .ref (eA E o)), (1, .int a1), (2, .int a2)]) : W p l e (rmF 6 144) s m args below meth c H locs 0 0 (MQ below (QC E (some (.int r)) μ2) args s 0 0 (AA E)) (F0 m 0 ls []) := by
  obtain ⟨⟨hx, hb, hml, hown, hts⟩, hXr⟩ := id hX
  unfold f_X10_course at hf
  refine lv_iload_n hx hb dX10_course_0 rfl (lv_at hl 1 rfl) ?_
  refine lv_bipush (v := 36) hx hb dX10_course_1 (by decide) ?_
  replace hf := bnd_some hf
  obtain ⟨r2, μ1, h3, hf⟩ := hf
  refine cl_S (As := [.int a1, .int (36 : Int32)]) (rest := []) (st2 := [.int r2]) (n := 2) hX hM (c_X10_below l  h3) mt_X10_below q_8_1 ⟨rfl, rfl⟩ ⟨Nat.le_of_ble_eq_true rfl, Nat.le_of_ble_eq_true rfl⟩ rfl hl.1 rfl (Nat.le_of_ble_eq_true rfl) dX10_course_3 rfl (fun H locs hM => ?_)
  refine lv_if_eq (tgt := 14) hx hb dX10_course_6 (by decide) (fun hc6 => ?_) (fun hc6 => ?_)
  · replace hf := it_t hf hc6
    refine lv_iconst (v := (-1)) hx hb dX10_course_14 (by decide) ?_
    exact rt_i hX hM (congrArg (fun z => some (Value.int z)) (so_1 hf)) (so_2 hf) dX10_course_15
  · replace hf := it_f hf hc6
    refine lv_iload_n hx hb dX10_course_9 rfl (lv_at hl 2 rfl) ?_
    refine lv_iconst (v := (-1)) hx hb dX10_course_10 (by decide) ?_
    refine lv_icmp_ge (tgt := 16) hx hb dX10_course_11 (by decide) (fun hc11 => ?_) (fun hc11 => ?_)
    · replace hf := it_t hf hc11
      refine lv_aload_n hx hb dX10_course_16 rfl (lv_at hl 0 rfl) ?_
      replace hf := bnd_some hf
      obtain ⟨r4, μ3, h17, hf⟩ := hf
      replace hf := gP_some hf
      obtain ⟨hzr4, hf⟩ := hf
      replace hzr4 := of_decide_eq_true hzr4
      refine cl_V (As := []) (rest := []) (st2 := [.ref (eA E r4)]) (n := 0) hX hM (c_X10_freshChart l ho h17) mv_X10_freshChart q_12_12 ⟨rfl, rfl⟩ ⟨Nat.le_of_ble_eq_true rfl, Nat.le_of_ble_eq_true rfl⟩ ho (by decide) rfl rfl rfl hl.1 rfl (Nat.le_of_ble_eq_true rfl) dX10_course_17 rfl (fun H locs hM => ?_)
      refine lv_iload_n hx hb dX10_course_20 rfl (lv_at hl 1 rfl) ?_
      replace hf := bnd_some hf
      obtain ⟨r6, μ5, h21, hf⟩ := hf
      refine cl_V (As := [.int a1]) (rest := []) (st2 := [.int r6]) (n := 1) hX hM (c_X1_layCourse l hzr4 h21) mv_X1_layCourse q_34_7 ⟨rfl, rfl⟩ ⟨Nat.le_of_ble_eq_true rfl, Nat.le_of_ble_eq_true rfl⟩ hzr4 (by decide) rfl rfl rfl hl.1 rfl (Nat.le_of_ble_eq_true rfl) dX10_course_21 rfl (fun H locs hM => ?_)
      refine lv_istore_n (lv' := [(3, .int r6), (0, .ref (eA E o)), (1, .int a1), (2, .int a2)]) hx hb dX10_course_24 rfl hl (by decide) rfl (fun ls hl => ?_)
      refine lv_iload_n hx hb dX10_course_25 rfl (lv_at hl 0 rfl) ?_
      refine lv_bipush (v := (-5)) hx hb dX10_course_26 (by decide) ?_
      refine lv_icmp_eq (tgt := 36) hx hb dX10_course_28 (by decide) (fun hc28 => ?_) (fun hc28 => ?_)
      · replace hf := it_t hf hc28
        refine lv_bipush (v := (-5)) hx hb dX10_course_36 (by decide) ?_
        exact rt_i hX hM (congrArg (fun z => some (Value.int z)) (so_1 hf)) (so_2 hf) dX10_course_38
      · replace hf := it_f hf hc28
        refine lv_iload_n hx hb dX10_course_31 rfl (lv_at hl 3 rfl) ?_
        refine lv_iload_n hx hb dX10_course_32 rfl (lv_at hl 0 rfl) ?_
        refine lv_icmp_lt (tgt := 39) hx hb dX10_course_33 (by decide) (fun hc33 => ?_) (fun hc33 => ?_)
        · replace hf := it_t hf hc33
          refine lv_iload_n hx hb dX10_course_39 rfl (lv_at hl 3 rfl) ?_
          refine lv_iconst (v := (-1)) hx hb dX10_course_40 (by decide) ?_
          refine lv_icmp_ne (tgt := 48) hx hb dX10_course_41 (by decide) (fun hc41 => ?_) (fun hc41 => ?_)
          · replace hf := it_f hf hc41
            refine lv_aload_n hx hb dX10_course_48 rfl (lv_at hl 1 rfl) ?_
            refine gf_8_2 hX hM ho q_2_0 dX10_course_49 ?_
            refine lv_iload_n hx hb dX10_course_52 rfl (lv_at hl 3 rfl) ?_
            replace hf := bnd_some hf
            obtain ⟨r8, μ7, h53, hf⟩ := hf
            refine cl_V (As := [.int a2]) (rest := []) (st2 := [.int r8]) (n := 1) hX hM (c_X1_courseHeading l (kr_8_2 ho) h53) mv_X1_courseHeading q_34_12 ⟨rfl, rfl⟩ ⟨Nat.le_of_ble_eq_true rfl, Nat.le_of_ble_eq_true rfl⟩ (kr_8_2 ho) (by decide) rfl rfl rfl hl.1 rfl (Nat.le_of_ble_eq_true rfl) dX10_course_53 rfl (fun H locs hM => ?_)
            exact rt_i hX hM (congrArg (fun z => some (Value.int z)) (so_1 hf)) (so_2 hf) dX10_course_56
          · replace hf := it_t hf hc41
            refine lv_iload_n hx hb dX10_course_44 rfl (lv_at hl 0 rfl) ?_
            refine lv_goto (tgt := 56) hx hb dX10_course_45 (by decide) ?_
            exact rt_i hX hM (congrArg (fun z => some (Value.int z)) (so_1 hf)) (so_2 hf) dX10_course_56
        · replace hf := it_f hf hc33
          refine lv_bipush (v := (-5)) hx hb dX10_course_36 (by decide) ?_
          exact rt_i hX hM (congrArg (fun z => some (Value.int z)) (so_1 hf)) (so_2 hf) dX10_course_38
    · replace hf := it_f hf hc11
      refine lv_iconst (v := (-1)) hx hb dX10_course_14 (by decide) ?_
      exact rt_i hX hM (congrArg (fun z => some (Value.int z)) (so_1 hf)) (so_2 hf) dX10_course_15
theorem c_X10_course (l : Launch) {o : Nat} {a1 : Int32} {a2 : Int32} (ho : knd o = 8) {μ μ2 : Mem} {r : Int32} (hf : f_X10_course o a1 a2 μ = some (r, μ2)) : CT E l yX10_course cX10_course 4 (some .int) (rmF 6 144) [.ref (eA E o), .int a1, .int a2] μ (some (.int r)) μ2 := CT.of (show plainFor yX10_course = true by decide +kernel) (Nat.le_of_ble_eq_true rfl) rfl (fun _ _ _ _ _ _ _ _ hX hM hl => w_X10_course l ho hf hX hM hl)
theorem mv_X10_course : MV yX10_course cX10_course 4 (some .int) RX10 2 := ⟨q_34_6, q_34_4, q_34_5, q_1_2, by decide +kernel⟩
def f_X10_reckoned_b101 (o : Nat) (a1 : Int32) (K25 : Int32 → Int32 → UInt64 → Int32 → Mem → Option (UInt64 × Mem)) (x2 : Int32) (x3 : Int32) (x6 : Int32) (t0 : UInt64) (t1 : UInt64) (t2 : UInt64) (μ : Mem) : Option (UInt64 × Mem) :=
  gP (nn64 (FP.dmul t1 t2)) (gP (nn64 (FP.dadd t0 (FP.dmul t1 t2))) (lt (FP.dadd t0 (FP.dmul t1 t2)) (fun v15 => lt (x3 + (10 : Int32)) (fun v16 => lt (x6 + (1 : Int32)) (fun v17 => K25 x2 v16 v15 v17 μ)))))
set_option maxHeartbeats 4000000 in
set_option maxRecDepth 100000 in
theorem w_X10_reckoned_b101 (l : Launch) {o : Nat} {a1 : Int32} (ho : knd o = 8) {μ2 : Mem} {r : UInt64} {K25 : Int32 → Int32 → UInt64 → Int32 → Mem → Option (UInt64 × Mem)} (hK25 : ∀ (x2 : Int32) (x3 : Int32) (x4 : UInt64) (x6 : Int32) (μ : Mem), K25 x2 x3 x4 x6 μ = some (r, μ2) → ∀ (H : Heap) (locs : List Loc), MM E s μ H locs → ∀ ls : Array Slot, lv_has ls 11 [(0, .ref (eA E o)), (1, .int a1), (2, .int x2), (3, .int x3), (4, .double x4), (6, .int x6)] → W p l e (rmF 2 47) s m args below meth c H locs 0 0 (MQ below (QC E (some (.double r)) μ2) args s 0 0 (AA E)) (F0 m 25 ls [])) {x2 : Int32} {x3 : Int32} {x6 : Int32} {t0 : UInt64} {t1 : UInt64} {t2 : UInt64} {μ : Mem} {H : Heap} {locs : List Loc} {ls : Array Slot}  (hf : f_X10_reckoned_b101 o a1 K25 x2 x3 x6 t0 t1 t2 μ = some (r, μ2)) (hX : XX E p m meth c cX10_reckoned 11 (some .double) s args RX10) (hM : MM E s μ H locs) (hl : lv_has ls 11 [(0, .ref (eA E o)), (1, .int a1), (2, .int x2), (3, .int x3), (6, .int x6)]) : W p l e (rmF 2 47) s m args below meth c H locs 0 0 (MQ below (QC E (some (.double r)) μ2) args s 0 0 (AA E)) (F0 m 101 ls [.double t2, .double t1, .double t0]) := by
  obtain ⟨⟨hx, hb, hml, hown, hts⟩, hXr⟩ := id hX
  unfold f_X10_reckoned_b101 at hf
  replace hf := gP_some hf
  obtain ⟨hz, hf⟩ := hf
  refine lv_dmul hx hb dX10_reckoned_101 (nn64_e hz) ?_
  replace hf := gP_some hf
  obtain ⟨hz, hf⟩ := hf
  refine lv_dadd hx hb dX10_reckoned_102 (nn64_e hz) ?_
  refine lv_topd (fun v15 ev15 => ?_)
  replace hf := lt_e ev15 hf
  refine lv_dstore (lv' := [(4, .double v15), (0, .ref (eA E o)), (1, .int a1), (2, .int x2), (3, .int x3), (6, .int x6)]) hx hb dX10_reckoned_103 hl (by decide) rfl (fun ls hl => ?_)
  refine lv_iload_n hx hb dX10_reckoned_105 rfl (lv_at hl 4 rfl) ?_
  refine lv_bipush (v := 10) hx hb dX10_reckoned_106 (by decide) ?_
  refine lv_iadd hx hb dX10_reckoned_108 ?_
  refine lv_topi (fun v16 ev16 => ?_)
  replace hf := lt_e ev16 hf
  refine lv_istore_n (lv' := [(3, .int v16), (4, .double v15), (0, .ref (eA E o)), (1, .int a1), (2, .int x2), (6, .int x6)]) hx hb dX10_reckoned_109 rfl hl (by decide) rfl (fun ls hl => ?_)
  obtain ⟨v17, ev17⟩ : ∃ y : Int32, y = x6 + (1 : Int32) := ⟨_, rfl⟩
  replace hf := lt_e ev17 hf
  refine lv_iinc (v := v17) (lv' := [(6, .int v17), (3, .int v16), (4, .double v15), (0, .ref (eA E o)), (1, .int a1), (2, .int x2)]) hx hb dX10_reckoned_110 hl (k := 5) rfl (by rw [ev17]; rfl) (by decide) rfl (fun ls hl => ?_)
  refine lv_goto (tgt := 25) hx hb dX10_reckoned_113 (by decide) ?_
  exact hK25 _ _ _ _ _  hf _ _ hM _ (lv_sub hl [3, 4, 5, 1, 2, 0] rfl)
def f_X10_reckoned_b25 (o : Nat) (a1 : Int32)  : Nat → Int32 → Int32 → UInt64 → Int32 → Mem → Option (UInt64 × Mem)
  | 0, _, _, _, _, _ => none
  | n + 1, x2, x3, x4, x6, μ =>
    bnd (f_X5_size (rf (rf o 1) 0) μ) (fun r5 μ4 => (if r5 ≤ x6 then some (x4, μ4) else bnd (f_X5_first (rf (rf o 1) 0) x6 μ4) (fun r7 μ6 => bnd (f_X2_spanOf x3 μ6) (fun r9 μ8 => bnd (f_X6_paceBy (rf o 0) x2 r9 r7 μ8) (fun r11 μ10 => gP (nn32 (FP.fdiv (FP.i2f r11) (1086324736 : UInt32))) (gP (nn64 (FP.f2d (FP.fdiv (FP.i2f r11) (1086324736 : UInt32)))) (lt (FP.f2d (FP.fdiv (FP.i2f r11) (1086324736 : UInt32))) (fun v12 => (if a1 = 0 then bnd (f_X2_cosine r7 μ10) (fun r14 μ13 => f_X10_reckoned_b101 o a1 (f_X10_reckoned_b25 o a1  n) x2 x3 x6 x4 v12 r14 μ13) else bnd (f_X2_sine r7 μ10) (fun r19 μ18 => f_X10_reckoned_b101 o a1 (f_X10_reckoned_b25 o a1  n) x2 x3 x6 x4 v12 r19 μ18))))))))))
set_option maxHeartbeats 4000000 in
set_option maxRecDepth 100000 in
theorem w_X10_reckoned_b25 (l : Launch) {o : Nat} {a1 : Int32} (ho : knd o = 8) {μ2 : Mem} {r : UInt64}  (hX : XX E p m meth c cX10_reckoned 11 (some .double) s args RX10)  : ∀ (n : Nat) (x2 : Int32) (x3 : Int32) (x4 : UInt64) (x6 : Int32) (μ : Mem), f_X10_reckoned_b25 o a1  n x2 x3 x4 x6 μ = some (r, μ2) → ∀ (H : Heap) (locs : List Loc), MM E s μ H locs → ∀ ls : Array Slot, lv_has ls 11 [(0, .ref (eA E o)), (1, .int a1), (2, .int x2), (3, .int x3), (4, .double x4), (6, .int x6)] → W p l e (rmF 2 47) s m args below meth c H locs 0 0 (MQ below (QC E (some (.double r)) μ2) args s 0 0 (AA E)) (F0 m 25 ls []) := by
  obtain ⟨⟨hx, hb, hml, hown, hts⟩, hXr⟩ := id hX
  intro n
  induction n with
  | zero => intro x2 x3 x4 x6 μ  hf; exact no_none hf
  | succ n ih =>
    intro x2 x3 x4 x6 μ  hf H locs hM ls hl
    rw [f_X10_reckoned_b25] at hf
    have hK25 := ih
    clear ih
    refine lv_iload hx hb dX10_reckoned_25 (lv_at hl 5 rfl) ?_
    refine lv_aload_n hx hb dX10_reckoned_27 rfl (lv_at hl 0 rfl) ?_
    refine gf_8_1 hX hM ho q_1_20 dX10_reckoned_28 ?_
    refine gf_1_0 hX hM (kr_8_1 ho) q_20_13 dX10_reckoned_31 ?_
    replace hf := bnd_some hf
    obtain ⟨r5, μ4, h34, hf⟩ := hf
    refine cl_V (As := []) (rest := [.int x6]) (st2 := [.int r5, .int x6]) (n := 0) hX hM (c_X5_size l (kr_1_0 (kr_8_1 ho)) h34) mv_X5_size q_35_12 ⟨rfl, rfl⟩ ⟨Nat.le_of_ble_eq_true rfl, Nat.le_of_ble_eq_true rfl⟩ (kr_1_0 (kr_8_1 ho)) (by decide) rfl rfl rfl hl.1 rfl (Nat.le_of_ble_eq_true rfl) dX10_reckoned_34 rfl (fun H locs hM => ?_)
    refine lv_icmp_ge (tgt := 116) hx hb dX10_reckoned_37 (by decide) (fun hc37 => ?_) (fun hc37 => ?_)
    · replace hf := it_t hf hc37
      refine lv_dload hx hb dX10_reckoned_116 (lv_at hl 4 rfl) ?_
      exact rt_d hX hM (congrArg (fun z => some (Value.double z)) (so_1 hf)) (so_2 hf) dX10_reckoned_118
    · replace hf := it_f hf hc37
      refine lv_aload_n hx hb dX10_reckoned_40 rfl (lv_at hl 0 rfl) ?_
      refine gf_8_1 hX hM ho q_1_20 dX10_reckoned_41 ?_
      refine gf_1_0 hX hM (kr_8_1 ho) q_20_13 dX10_reckoned_44 ?_
      refine lv_iload hx hb dX10_reckoned_47 (lv_at hl 5 rfl) ?_
      replace hf := bnd_some hf
      obtain ⟨r7, μ6, h49, hf⟩ := hf
      refine cl_V (As := [.int x6]) (rest := []) (st2 := [.int r7]) (n := 1) hX hM (c_X5_first l (kr_1_0 (kr_8_1 ho)) h49) mv_X5_first q_35_16 ⟨rfl, rfl⟩ ⟨Nat.le_of_ble_eq_true rfl, Nat.le_of_ble_eq_true rfl⟩ (kr_1_0 (kr_8_1 ho)) (by decide) rfl rfl rfl hl.1 rfl (Nat.le_of_ble_eq_true rfl) dX10_reckoned_49 rfl (fun H locs hM => ?_)
      refine lv_istore (lv' := [(7, .int r7), (0, .ref (eA E o)), (1, .int a1), (2, .int x2), (3, .int x3), (4, .double x4), (6, .int x6)]) hx hb dX10_reckoned_52 hl (by decide) rfl (fun ls hl => ?_)
      refine lv_aload_n hx hb dX10_reckoned_54 rfl (lv_at hl 1 rfl) ?_
      refine gf_8_0 hX hM ho q_1_16 dX10_reckoned_55 ?_
      refine lv_iload_n hx hb dX10_reckoned_58 rfl (lv_at hl 3 rfl) ?_
      refine lv_iload_n hx hb dX10_reckoned_59 rfl (lv_at hl 4 rfl) ?_
      replace hf := bnd_some hf
      obtain ⟨r9, μ8, h60, hf⟩ := hf
      refine cl_S (As := [.int x3]) (rest := [.int x2, .ref (eA E (rf o 0))]) (st2 := [.int r9, .int x2, .ref (eA E (rf o 0))]) (n := 1) hX hM (c_X2_spanOf l  h60) mt_X2_spanOf q_31_3 ⟨rfl, rfl⟩ ⟨Nat.le_of_ble_eq_true rfl, Nat.le_of_ble_eq_true rfl⟩ rfl hl.1 rfl (Nat.le_of_ble_eq_true rfl) dX10_reckoned_60 rfl (fun H locs hM => ?_)
      refine lv_iload hx hb dX10_reckoned_63 (lv_at hl 0 rfl) ?_
      replace hf := bnd_some hf
      obtain ⟨r11, μ10, h65, hf⟩ := hf
      refine cl_V (As := [.int x2, .int r9, .int r7]) (rest := []) (st2 := [.int r11]) (n := 3) hX hM (c_X6_paceBy l (kr_8_0 ho) h65) mv_X6_paceBy q_31_4 ⟨rfl, rfl⟩ ⟨Nat.le_of_ble_eq_true rfl, Nat.le_of_ble_eq_true rfl⟩ (kr_8_0 ho) (by decide) rfl rfl rfl hl.1 rfl (Nat.le_of_ble_eq_true rfl) dX10_reckoned_65 rfl (fun H locs hM => ?_)
      refine lv_istore (lv' := [(8, .int r11), (7, .int r7), (0, .ref (eA E o)), (1, .int a1), (2, .int x2), (3, .int x3), (4, .double x4), (6, .int x6)]) hx hb dX10_reckoned_68 hl (by decide) rfl (fun ls hl => ?_)
      refine lv_iload hx hb dX10_reckoned_70 (lv_at hl 0 rfl) ?_
      refine lv_i2f hx hb dX10_reckoned_72 ?_
      refine lv_ldcwf (v := 1086324736) hx hb hown (hts _ q_35_11) dX10_reckoned_73 ?_
      replace hf := gP_some hf
      obtain ⟨hz, hf⟩ := hf
      refine lv_fdiv hx hb dX10_reckoned_76 (nn32_e hz) ?_
      replace hf := gP_some hf
      obtain ⟨hz, hf⟩ := hf
      refine lv_f2d hx hb dX10_reckoned_77 (nn64_e hz) ?_
      refine lv_topd (fun v12 ev12 => ?_)
      replace hf := lt_e ev12 hf
      refine lv_dstore (lv' := [(9, .double v12), (8, .int r11), (7, .int r7), (0, .ref (eA E o)), (1, .int a1), (2, .int x2), (3, .int x3), (4, .double x4), (6, .int x6)]) hx hb dX10_reckoned_78 hl (by decide) rfl (fun ls hl => ?_)
      refine lv_dload hx hb dX10_reckoned_80 (lv_at hl 7 rfl) ?_
      refine lv_dload hx hb dX10_reckoned_82 (lv_at hl 0 rfl) ?_
      refine lv_iload_n hx hb dX10_reckoned_84 rfl (lv_at hl 4 rfl) ?_
      refine lv_if_eq (tgt := 96) hx hb dX10_reckoned_85 (by decide) (fun hc85 => ?_) (fun hc85 => ?_)
      · replace hf := it_t hf hc85
        refine lv_iload hx hb dX10_reckoned_96 (lv_at hl 2 rfl) ?_
        replace hf := bnd_some hf
        obtain ⟨r14, μ13, h98, hf⟩ := hf
        refine cl_S (As := [.int r7]) (rest := [.double v12, .double x4]) (st2 := [.double r14, .double v12, .double x4]) (n := 1) hX hM (c_X2_cosine l  h98) mt_X2_cosine q_36_2 ⟨rfl, rfl⟩ ⟨Nat.le_of_ble_eq_true rfl, Nat.le_of_ble_eq_true rfl⟩ rfl hl.1 rfl (Nat.le_of_ble_eq_true rfl) dX10_reckoned_98 rfl (fun H locs hM => ?_)
        exact w_X10_reckoned_b101 l ho hK25  hf hX hM (lv_sub hl [3, 4, 5, 6, 8] rfl)
      · replace hf := it_f hf hc85
        refine lv_iload hx hb dX10_reckoned_88 (lv_at hl 2 rfl) ?_
        replace hf := bnd_some hf
        obtain ⟨r19, μ18, h90, hf⟩ := hf
        refine cl_S (As := [.int r7]) (rest := [.double v12, .double x4]) (st2 := [.double r19, .double v12, .double x4]) (n := 1) hX hM (c_X2_sine l  h90) mt_X2_sine q_35_20 ⟨rfl, rfl⟩ ⟨Nat.le_of_ble_eq_true rfl, Nat.le_of_ble_eq_true rfl⟩ rfl hl.1 rfl (Nat.le_of_ble_eq_true rfl) dX10_reckoned_90 rfl (fun H locs hM => ?_)
        refine lv_goto (tgt := 101) hx hb dX10_reckoned_93 (by decide) ?_
        exact w_X10_reckoned_b101 l ho hK25  hf hX hM (lv_sub hl [3, 4, 5, 6, 8] rfl)
def f_X10_reckoned (o : Nat) (a1 : Int32) (μ : Mem) : Option (UInt64 × Mem) :=
  bnd (f_X2_zoneOf (μ.1 (rf o 0) 7) μ) (fun r2 μ1 => lt (μ1.1 (rf o 0) 9) (fun v3 => f_X10_reckoned_b25 o a1  FU r2 v3 FP.dconst0 (0 : Int32) μ1))
set_option maxHeartbeats 4000000 in
set_option maxRecDepth 100000 in
theorem w_X10_reckoned (l : Launch) {o : Nat} {a1 : Int32} (ho : knd o = 8) {μ μ2 : Mem} {r : UInt64} {H : Heap} {locs : List Loc} {ls : Array Slot} (hf : f_X10_reckoned o a1 μ = some (r, μ2)) (hX : XX E p m meth c cX10_reckoned 11 (some .double) s args RX10) (hM : MM E s μ H locs) (hl : lv_has ls 11 [(0, .ref (eA E o)), (1, .int a1)]) : W p l e (rmF 2 47) s m args below meth c H locs 0 0 (MQ below (QC E (some (.double r)) μ2) args s 0 0 (AA E)) (F0 m 0 ls []) := by
  obtain ⟨⟨hx, hb, hml, hown, hts⟩, hXr⟩ := id hX
  unfold f_X10_reckoned at hf
  refine lv_aload_n hx hb dX10_reckoned_0 rfl (lv_at hl 0 rfl) ?_
  refine gf_8_0 hX hM ho q_1_16 dX10_reckoned_1 ?_
  refine gf_4_7 hX hM (kr_8_0 ho) q_11_6 dX10_reckoned_4 ?_
  replace hf := bnd_some hf
  obtain ⟨r2, μ1, h7, hf⟩ := hf
  refine cl_S (As := [.int (μ.1 (rf o 0) 7)]) (rest := []) (st2 := [.int r2]) (n := 1) hX hM (c_X2_zoneOf l  h7) mt_X2_zoneOf q_31_2 ⟨rfl, rfl⟩ ⟨Nat.le_of_ble_eq_true rfl, Nat.le_of_ble_eq_true rfl⟩ rfl hl.1 rfl (Nat.le_of_ble_eq_true rfl) dX10_reckoned_7 rfl (fun H locs hM => ?_)
  refine lv_istore_n (lv' := [(2, .int r2), (0, .ref (eA E o)), (1, .int a1)]) hx hb dX10_reckoned_10 rfl hl (by decide) rfl (fun ls hl => ?_)
  refine lv_aload_n hx hb dX10_reckoned_11 rfl (lv_at hl 1 rfl) ?_
  refine gf_8_0 hX hM ho q_1_16 dX10_reckoned_12 ?_
  refine gf_4_9 hX hM (kr_8_0 ho) q_29_17 dX10_reckoned_15 ?_
  refine lv_topi (fun v3 ev3 => ?_)
  replace hf := lt_e ev3 hf
  refine lv_istore_n (lv' := [(3, .int v3), (2, .int r2), (0, .ref (eA E o)), (1, .int a1)]) hx hb dX10_reckoned_18 rfl hl (by decide) rfl (fun ls hl => ?_)
  refine lv_dconst0 hx hb dX10_reckoned_19 ?_
  refine lv_dstore (lv' := [(4, .double FP.dconst0), (3, .int v3), (2, .int r2), (0, .ref (eA E o)), (1, .int a1)]) hx hb dX10_reckoned_20 hl (by decide) rfl (fun ls hl => ?_)
  refine lv_iconst (v := 0) hx hb dX10_reckoned_22 (by decide) ?_
  refine lv_istore (lv' := [(6, .int (0 : Int32)), (4, .double FP.dconst0), (3, .int v3), (2, .int r2), (0, .ref (eA E o)), (1, .int a1)]) hx hb dX10_reckoned_23 hl (by decide) rfl (fun ls hl => ?_)
  exact w_X10_reckoned_b25 l ho hX  FU _ _ _ _ _  hf _ _ hM _ (lv_sub hl [4, 5, 3, 2, 1, 0] rfl)
theorem c_X10_reckoned (l : Launch) {o : Nat} {a1 : Int32} (ho : knd o = 8) {μ μ2 : Mem} {r : UInt64} (hf : f_X10_reckoned o a1 μ = some (r, μ2)) : CT E l yX10_reckoned cX10_reckoned 11 (some .double) (rmF 2 47) [.ref (eA E o), .int a1] μ (some (.double r)) μ2 := CT.of (show plainFor yX10_reckoned = true by decide +kernel) (Nat.le_of_ble_eq_true rfl) rfl (fun _ _ _ _ _ _ _ _ hX hM hl => w_X10_reckoned l ho hf hX hM hl)
theorem mv_X10_reckoned : MV yX10_reckoned cX10_reckoned 11 (some .double) RX10 1 := ⟨q_35_10, q_35_8, q_35_9, q_1_2, by decide +kernel⟩
def f_X10_reckon_b30 (o : Nat) (a1 : Int32) (a2 : Int32)  (t0 : Nat) (t1 : Int32) (μ : Mem) : Option (Int64 × Mem) :=
  bnd (f_X10_reckoned t0 t1 μ) (fun r6 μ5 => bnd (f_X0_ofDouble r6 μ5) (fun r8 μ7 => (if a2 = 0 then some ((r8.toUInt64 >>> ((32 : Int32).toInt64.toUInt64 &&& Int64.toUInt64 63)).toInt64, μ7) else some ((r8 &&& (4294967295 : Int64)), μ7))))
set_option maxHeartbeats 4000000 in
set_option maxRecDepth 100000 in
theorem w_X10_reckon_b30 (l : Launch) {o : Nat} {a1 : Int32} {a2 : Int32} (ho : knd o = 8) {μ2 : Mem} {r : Int64}   {t0 : Nat} {t1 : Int32} {μ : Mem} {H : Heap} {locs : List Loc} {ls : Array Slot} (ht0 : knd t0 = 8) (hf : f_X10_reckon_b30 o a1 a2  t0 t1 μ = some (r, μ2)) (hX : XX E p m meth c cX10_reckon 5 (some .long) s args RX10) (hM : MM E s μ H locs) (hl : lv_has ls 5 [(0, .ref (eA E o)), (1, .int a1), (2, .int a2)]) : W p l e (rmF 3 77) s m args below meth c H locs 0 0 (MQ below (QC E (some (.long r)) μ2) args s 0 0 (AA E)) (F0 m 30 ls [.int t1, .ref (eA E t0)]) := by
  obtain ⟨⟨hx, hb, hml, hown, hts⟩, hXr⟩ := id hX
  unfold f_X10_reckon_b30 at hf
  replace hf := bnd_some hf
  obtain ⟨r6, μ5, h30, hf⟩ := hf
  refine cl_V (As := [.int t1]) (rest := []) (st2 := [.double r6]) (n := 1) hX hM (c_X10_reckoned l ht0 h30) mv_X10_reckoned q_35_7 ⟨rfl, rfl⟩ ⟨Nat.le_of_ble_eq_true rfl, Nat.le_of_ble_eq_true rfl⟩ ht0 (by decide) rfl rfl rfl hl.1 rfl (Nat.le_of_ble_eq_true rfl) dX10_reckon_30 rfl (fun H locs hM => ?_)
  replace hf := bnd_some hf
  obtain ⟨r8, μ7, h33, hf⟩ := hf
  refine cl_S (As := [.double r6]) (rest := []) (st2 := [.long r8]) (n := 1) hX hM (c_X0_ofDouble l  h33) mt_X0_ofDouble q_36_6 ⟨rfl, rfl⟩ ⟨Nat.le_of_ble_eq_true rfl, Nat.le_of_ble_eq_true rfl⟩ rfl hl.1 rfl (Nat.le_of_ble_eq_true rfl) dX10_reckon_33 rfl (fun H locs hM => ?_)
  refine lv_lstore_n (lv' := [(3, .long r8), (0, .ref (eA E o)), (1, .int a1), (2, .int a2)]) hx hb dX10_reckon_36 rfl hl (by decide) rfl (fun ls hl => ?_)
  refine lv_iload_n hx hb dX10_reckon_37 rfl (lv_at hl 3 rfl) ?_
  refine lv_if_ne (tgt := 48) hx hb dX10_reckon_38 (by decide) (fun hc38 => ?_) (fun hc38 => ?_)
  · replace hf := it_f hf hc38
    refine lv_lload_n hx hb dX10_reckon_48 rfl (lv_at hl 0 rfl) ?_
    refine lv_ldc2 (v := 4294967295) hx hb hown (hts _ q_35_6) dX10_reckon_49 ?_
    refine lv_land hx hb dX10_reckon_52 ?_
    exact rt_l hX hM (congrArg (fun z => some (Value.long z)) (so_1 hf)) (so_2 hf) dX10_reckon_53
  · replace hf := it_t hf hc38
    refine lv_lload_n hx hb dX10_reckon_41 rfl (lv_at hl 0 rfl) ?_
    refine lv_bipush (v := 32) hx hb dX10_reckon_42 (by decide) ?_
    refine lv_lushr hx hb dX10_reckon_44 rfl ?_
    refine lv_goto (tgt := 53) hx hb dX10_reckon_45 (by decide) ?_
    exact rt_l hX hM (congrArg (fun z => some (Value.long z)) (so_1 hf)) (so_2 hf) dX10_reckon_53
def f_X10_reckon (o : Nat) (a1 : Int32) (a2 : Int32) (μ : Mem) : Option (Int64 × Mem) :=
  bnd (f_X10_below a1 (2 : Int32) μ) (fun r2 μ1 => (if r2 = 0 then some ((-9223372036854775808 : Int64), μ1) else bnd (f_X10_below a2 (2 : Int32) μ1) (fun r4 μ3 => (if r4 = 0 then some ((-9223372036854775808 : Int64), μ3) else (if a1 = 0 then f_X10_reckon_b30 o a1 a2  o (1 : Int32) μ3 else f_X10_reckon_b30 o a1 a2  o (0 : Int32) μ3)))))
set_option maxHeartbeats 4000000 in
set_option maxRecDepth 100000 in
theorem w_X10_reckon (l : Launch) {o : Nat} {a1 : Int32} {a2 : Int32} (ho : knd o = 8) {μ μ2 : Mem} {r : Int64} {H : Heap} {locs : List Loc} {ls : Array Slot} (hf : f_X10_reckon o a1 a2 μ = some (r, μ2)) (hX : XX E p m meth c cX10_reckon 5 (some .long) s args RX10) (hM : MM E s μ H locs) (hl : lv_has ls 5 [(0, .ref (eA E o)), (1, .int a1), (2, .int a2)]) : W p l e (rmF 3 77) s m args below meth c H locs 0 0 (MQ below (QC E (some (.long r)) μ2) args s 0 0 (AA E)) (F0 m 0 ls []) := by
  obtain ⟨⟨hx, hb, hml, hown, hts⟩, hXr⟩ := id hX
  unfold f_X10_reckon at hf
  refine lv_iload_n hx hb dX10_reckon_0 rfl (lv_at hl 1 rfl) ?_
  refine lv_iconst (v := 2) hx hb dX10_reckon_1 (by decide) ?_
  replace hf := bnd_some hf
  obtain ⟨r2, μ1, h2, hf⟩ := hf
  refine cl_S (As := [.int a1, .int (2 : Int32)]) (rest := []) (st2 := [.int r2]) (n := 2) hX hM (c_X10_below l  h2) mt_X10_below q_8_1 ⟨rfl, rfl⟩ ⟨Nat.le_of_ble_eq_true rfl, Nat.le_of_ble_eq_true rfl⟩ rfl hl.1 rfl (Nat.le_of_ble_eq_true rfl) dX10_reckon_2 rfl (fun H locs hM => ?_)
  refine lv_if_eq (tgt := 16) hx hb dX10_reckon_5 (by decide) (fun hc5 => ?_) (fun hc5 => ?_)
  · replace hf := it_t hf hc5
    refine lv_ldc2 (v := -9223372036854775808) hx hb hown (hts _ q_35_5) dX10_reckon_16 ?_
    exact rt_l hX hM (congrArg (fun z => some (Value.long z)) (so_1 hf)) (so_2 hf) dX10_reckon_19
  · replace hf := it_f hf hc5
    refine lv_iload_n hx hb dX10_reckon_8 rfl (lv_at hl 2 rfl) ?_
    refine lv_iconst (v := 2) hx hb dX10_reckon_9 (by decide) ?_
    replace hf := bnd_some hf
    obtain ⟨r4, μ3, h10, hf⟩ := hf
    refine cl_S (As := [.int a2, .int (2 : Int32)]) (rest := []) (st2 := [.int r4]) (n := 2) hX hM (c_X10_below l  h10) mt_X10_below q_8_1 ⟨rfl, rfl⟩ ⟨Nat.le_of_ble_eq_true rfl, Nat.le_of_ble_eq_true rfl⟩ rfl hl.1 rfl (Nat.le_of_ble_eq_true rfl) dX10_reckon_10 rfl (fun H locs hM => ?_)
    refine lv_if_ne (tgt := 20) hx hb dX10_reckon_13 (by decide) (fun hc13 => ?_) (fun hc13 => ?_)
    · replace hf := it_f hf hc13
      refine lv_aload_n hx hb dX10_reckon_20 rfl (lv_at hl 0 rfl) ?_
      refine lv_iload_n hx hb dX10_reckon_21 rfl (lv_at hl 1 rfl) ?_
      refine lv_if_ne (tgt := 29) hx hb dX10_reckon_22 (by decide) (fun hc22 => ?_) (fun hc22 => ?_)
      · replace hf := it_f hf hc22
        refine lv_iconst (v := 0) hx hb dX10_reckon_29 (by decide) ?_
        exact w_X10_reckon_b30 l ho  ho hf hX hM (lv_sub hl [0, 1, 2] rfl)
      · replace hf := it_t hf hc22
        refine lv_iconst (v := 1) hx hb dX10_reckon_25 (by decide) ?_
        refine lv_goto (tgt := 30) hx hb dX10_reckon_26 (by decide) ?_
        exact w_X10_reckon_b30 l ho  ho hf hX hM (lv_sub hl [0, 1, 2] rfl)
    · replace hf := it_t hf hc13
      refine lv_ldc2 (v := -9223372036854775808) hx hb hown (hts _ q_35_5) dX10_reckon_16 ?_
      exact rt_l hX hM (congrArg (fun z => some (Value.long z)) (so_1 hf)) (so_2 hf) dX10_reckon_19
theorem c_X10_reckon (l : Launch) {o : Nat} {a1 : Int32} {a2 : Int32} (ho : knd o = 8) {μ μ2 : Mem} {r : Int64} (hf : f_X10_reckon o a1 a2 μ = some (r, μ2)) : CT E l yX10_reckon cX10_reckon 5 (some .long) (rmF 3 77) [.ref (eA E o), .int a1, .int a2] μ (some (.long r)) μ2 := CT.of (show plainFor yX10_reckon = true by decide +kernel) (Nat.le_of_ble_eq_true rfl) rfl (fun _ _ _ _ _ _ _ _ hX hM hl => w_X10_reckon l ho hf hX hM hl)
theorem mv_X10_reckon : MV yX10_reckon cX10_reckon 5 (some .long) RX10 2 := ⟨q_35_4, q_35_2, q_35_3, q_1_2, by decide +kernel⟩
def f_X10_meanPace (o : Nat) (a1 : Int32) (μ : Mem) : Option (Int64 × Mem) :=
  bnd (f_X10_below a1 (36 : Int32) μ) (fun r2 μ1 => (if r2 = 0 then some ((-9223372036854775808 : Int64), μ1) else bnd (f_X10_freshChart o μ1) (fun r4 μ3 => gP (decide (knd r4 = 0)) (bnd (f_X1_layCourse r4 a1 μ3) (fun r6 μ5 => (if r6 = (-5 : Int32) then some ((-9223372036854775808 : Int64), μ5) else bnd (f_X1_leastOf (rf o 2) a1 μ5) (fun r8 μ7 => lt (r8 - (μ7.1 (rf o 0) 9)) (fun v9 => (if v9 = 0 then some ((0 : Int64), μ7) else bnd (f_X1_courseLength (rf o 2) μ7) (fun r11 μ10 => gP (nn32 (FP.fdiv (FP.i2f r11) (FP.i2f v9))) (bnd (f_X0_ofFloat (FP.fdiv (FP.i2f r11) (FP.i2f v9)) μ10) (fun r13 μ12 => some (r13, μ12)))))))))))))
set_option maxHeartbeats 4000000 in
set_option maxRecDepth 100000 in
theorem w_X10_meanPace (l : Launch) {o : Nat} {a1 : Int32} (ho : knd o = 8) {μ μ2 : Mem} {r : Int64} {H : Heap} {locs : List Loc} {ls : Array Slot} (hf : f_X10_meanPace o a1 μ = some (r, μ2)) (hX : XX E p m meth c cX10_meanPace 4 (some .long) s args RX10) (hM : MM E s μ H locs) (hl : lv_has ls 4 [(0, .ref (eA E o)), (1, .int a1)]) : W p l e (rmF 6 144) s m args below meth c H locs 0 0 (MQ below (QC E (some (.long r)) μ2) args s 0 0 (AA E)) (F0 m 0 ls []) := by
  obtain ⟨⟨hx, hb, hml, hown, hts⟩, hXr⟩ := id hX
  unfold f_X10_meanPace at hf
  refine lv_iload_n hx hb dX10_meanPace_0 rfl (lv_at hl 1 rfl) ?_
  refine lv_bipush (v := 36) hx hb dX10_meanPace_1 (by decide) ?_
  replace hf := bnd_some hf
  obtain ⟨r2, μ1, h3, hf⟩ := hf
  refine cl_S (As := [.int a1, .int (36 : Int32)]) (rest := []) (st2 := [.int r2]) (n := 2) hX hM (c_X10_below l  h3) mt_X10_below q_8_1 ⟨rfl, rfl⟩ ⟨Nat.le_of_ble_eq_true rfl, Nat.le_of_ble_eq_true rfl⟩ rfl hl.1 rfl (Nat.le_of_ble_eq_true rfl) dX10_meanPace_3 rfl (fun H locs hM => ?_)
  refine lv_if_ne (tgt := 13) hx hb dX10_meanPace_6 (by decide) (fun hc6 => ?_) (fun hc6 => ?_)
  · replace hf := it_f hf hc6
    refine lv_aload_n hx hb dX10_meanPace_13 rfl (lv_at hl 0 rfl) ?_
    replace hf := bnd_some hf
    obtain ⟨r4, μ3, h14, hf⟩ := hf
    replace hf := gP_some hf
    obtain ⟨hzr4, hf⟩ := hf
    replace hzr4 := of_decide_eq_true hzr4
    refine cl_V (As := []) (rest := []) (st2 := [.ref (eA E r4)]) (n := 0) hX hM (c_X10_freshChart l ho h14) mv_X10_freshChart q_12_12 ⟨rfl, rfl⟩ ⟨Nat.le_of_ble_eq_true rfl, Nat.le_of_ble_eq_true rfl⟩ ho (by decide) rfl rfl rfl hl.1 rfl (Nat.le_of_ble_eq_true rfl) dX10_meanPace_14 rfl (fun H locs hM => ?_)
    refine lv_iload_n hx hb dX10_meanPace_17 rfl (lv_at hl 1 rfl) ?_
    replace hf := bnd_some hf
    obtain ⟨r6, μ5, h18, hf⟩ := hf
    refine cl_V (As := [.int a1]) (rest := []) (st2 := [.int r6]) (n := 1) hX hM (c_X1_layCourse l hzr4 h18) mv_X1_layCourse q_34_7 ⟨rfl, rfl⟩ ⟨Nat.le_of_ble_eq_true rfl, Nat.le_of_ble_eq_true rfl⟩ hzr4 (by decide) rfl rfl rfl hl.1 rfl (Nat.le_of_ble_eq_true rfl) dX10_meanPace_18 rfl (fun H locs hM => ?_)
    refine lv_istore_n (lv' := [(2, .int r6), (0, .ref (eA E o)), (1, .int a1)]) hx hb dX10_meanPace_21 rfl hl (by decide) rfl (fun ls hl => ?_)
    refine lv_iload_n hx hb dX10_meanPace_22 rfl (lv_at hl 0 rfl) ?_
    refine lv_bipush (v := (-5)) hx hb dX10_meanPace_23 (by decide) ?_
    refine lv_icmp_ne (tgt := 32) hx hb dX10_meanPace_25 (by decide) (fun hc25 => ?_) (fun hc25 => ?_)
    · replace hf := it_f hf hc25
      refine lv_aload_n hx hb dX10_meanPace_32 rfl (lv_at hl 1 rfl) ?_
      refine gf_8_2 hX hM ho q_2_0 dX10_meanPace_33 ?_
      refine lv_iload_n hx hb dX10_meanPace_36 rfl (lv_at hl 2 rfl) ?_
      replace hf := bnd_some hf
      obtain ⟨r8, μ7, h37, hf⟩ := hf
      refine cl_V (As := [.int a1]) (rest := []) (st2 := [.int r8]) (n := 1) hX hM (c_X1_leastOf l (kr_8_2 ho) h37) mv_X1_leastOf q_30_9 ⟨rfl, rfl⟩ ⟨Nat.le_of_ble_eq_true rfl, Nat.le_of_ble_eq_true rfl⟩ (kr_8_2 ho) (by decide) rfl rfl rfl hl.1 rfl (Nat.le_of_ble_eq_true rfl) dX10_meanPace_37 rfl (fun H locs hM => ?_)
      refine lv_aload_n hx hb dX10_meanPace_40 rfl (lv_at hl 1 rfl) ?_
      refine gf_8_0 hX hM ho q_1_16 dX10_meanPace_41 ?_
      refine gf_4_9 hX hM (kr_8_0 ho) q_29_17 dX10_meanPace_44 ?_
      refine lv_isub hx hb dX10_meanPace_47 ?_
      refine lv_topi (fun v9 ev9 => ?_)
      replace hf := lt_e ev9 hf
      refine lv_istore_n (lv' := [(3, .int v9), (2, .int r6), (0, .ref (eA E o)), (1, .int a1)]) hx hb dX10_meanPace_48 rfl hl (by decide) rfl (fun ls hl => ?_)
      refine lv_iload_n hx hb dX10_meanPace_49 rfl (lv_at hl 0 rfl) ?_
      refine lv_if_ne (tgt := 55) hx hb dX10_meanPace_50 (by decide) (fun hc50 => ?_) (fun hc50 => ?_)
      · replace hf := it_f hf hc50
        refine lv_aload_n hx hb dX10_meanPace_55 rfl (lv_at hl 2 rfl) ?_
        refine gf_8_2 hX hM ho q_2_0 dX10_meanPace_56 ?_
        replace hf := bnd_some hf
        obtain ⟨r11, μ10, h59, hf⟩ := hf
        refine cl_V (As := []) (rest := []) (st2 := [.int r11]) (n := 0) hX hM (c_X1_courseLength l (kr_8_2 ho) h59) mv_X1_courseLength q_38_2 ⟨rfl, rfl⟩ ⟨Nat.le_of_ble_eq_true rfl, Nat.le_of_ble_eq_true rfl⟩ (kr_8_2 ho) (by decide) rfl rfl rfl hl.1 rfl (Nat.le_of_ble_eq_true rfl) dX10_meanPace_59 rfl (fun H locs hM => ?_)
        refine lv_i2f hx hb dX10_meanPace_62 ?_
        refine lv_iload_n hx hb dX10_meanPace_63 rfl (lv_at hl 0 rfl) ?_
        refine lv_i2f hx hb dX10_meanPace_64 ?_
        replace hf := gP_some hf
        obtain ⟨hz, hf⟩ := hf
        refine lv_fdiv hx hb dX10_meanPace_65 (nn32_e hz) ?_
        replace hf := bnd_some hf
        obtain ⟨r13, μ12, h66, hf⟩ := hf
        refine cl_S (As := [.float (FP.fdiv (FP.i2f r11) (FP.i2f v9))]) (rest := []) (st2 := [.long r13]) (n := 1) hX hM (c_X0_ofFloat l  h66) mt_X0_ofFloat q_38_7 ⟨rfl, rfl⟩ ⟨Nat.le_of_ble_eq_true rfl, Nat.le_of_ble_eq_true rfl⟩ rfl hl.1 rfl (Nat.le_of_ble_eq_true rfl) dX10_meanPace_66 rfl (fun H locs hM => ?_)
        exact rt_l hX hM (congrArg (fun z => some (Value.long z)) (so_1 hf)) (so_2 hf) dX10_meanPace_69
      · replace hf := it_t hf hc50
        refine lv_lconst (v := 0) hx hb dX10_meanPace_53 (by decide) ?_
        exact rt_l hX hM (congrArg (fun z => some (Value.long z)) (so_1 hf)) (so_2 hf) dX10_meanPace_54
    · replace hf := it_t hf hc25
      refine lv_ldc2 (v := -9223372036854775808) hx hb hown (hts _ q_35_5) dX10_meanPace_28 ?_
      exact rt_l hX hM (congrArg (fun z => some (Value.long z)) (so_1 hf)) (so_2 hf) dX10_meanPace_31
  · replace hf := it_t hf hc6
    refine lv_ldc2 (v := -9223372036854775808) hx hb hown (hts _ q_35_5) dX10_meanPace_9 ?_
    exact rt_l hX hM (congrArg (fun z => some (Value.long z)) (so_1 hf)) (so_2 hf) dX10_meanPace_12
theorem c_X10_meanPace (l : Launch) {o : Nat} {a1 : Int32} (ho : knd o = 8) {μ μ2 : Mem} {r : Int64} (hf : f_X10_meanPace o a1 μ = some (r, μ2)) : CT E l yX10_meanPace cX10_meanPace 4 (some .long) (rmF 6 144) [.ref (eA E o), .int a1] μ (some (.long r)) μ2 := CT.of (show plainFor yX10_meanPace = true by decide +kernel) (Nat.le_of_ble_eq_true rfl) rfl (fun _ _ _ _ _ _ _ _ hX hM hl => w_X10_meanPace l ho hf hX hM hl)
theorem mv_X10_meanPace : MV yX10_meanPace cX10_meanPace 4 (some .long) RX10 1 := ⟨q_38_1, q_37_23, q_38_0, q_1_2, by decide +kernel⟩
def f_X10_tellSquareAndMinute (a0 : Nat) (a1 : Int32) (a2 : Int32) (μ : Mem) : Option (Int32 × Mem) :=
  (if a1 = (-1 : Int32) then bnd (f_X5_clear a0 μ) (fun r6 μ5 => some (r6, μ5)) else bnd (f_X10_below a1 (36 : Int32) μ) (fun r2 μ1 => (if r2 = 0 then some ((-1 : Int32), μ1) else (if a2 < 0 then some ((-2 : Int32), μ1) else (if a2 ≤ (99999 : Int32) then bnd (f_X5_add a0 a1 a2 μ1) (fun r4 μ3 => some (r4, μ3)) else some ((-2 : Int32), μ1))))))
set_option maxHeartbeats 4000000 in
set_option maxRecDepth 100000 in
theorem w_X10_tellSquareAndMinute (l : Launch) {a0 : Nat} {a1 : Int32} {a2 : Int32} (ha0 : knd a0 = 3) {μ μ2 : Mem} {r : Int32} {H : Heap} {locs : List Loc} {ls : Array Slot} (hf : f_X10_tellSquareAndMinute a0 a1 a2 μ = some (r, μ2)) (hX : XX E p m meth c cX10_tellSquareAndMinute 3 (some .int) s args RX10) (hM : MM E s μ H locs) (hl : lv_has ls 3 [(0, .ref (eA E a0)), (1, .int a1), (2, .int a2)]) : W p l e (rmF 1 22) s m args below meth c H locs 0 0 (MQ below (QC E (some (.int r)) μ2) args s 0 0 (AA E)) (F0 m 0 ls []) := by
  obtain ⟨⟨hx, hb, hml, hown, hts⟩, hXr⟩ := id hX
  unfold f_X10_tellSquareAndMinute at hf
  refine lv_iload_n hx hb dX10_tellSquareAndMinute_0 rfl (lv_at hl 1 rfl) ?_
  refine lv_iconst (v := (-1)) hx hb dX10_tellSquareAndMinute_1 (by decide) ?_
  refine lv_icmp_ne (tgt := 10) hx hb dX10_tellSquareAndMinute_2 (by decide) (fun hc2 => ?_) (fun hc2 => ?_)
  · replace hf := it_f hf hc2
    refine lv_iload_n hx hb dX10_tellSquareAndMinute_10 rfl (lv_at hl 1 rfl) ?_
    refine lv_bipush (v := 36) hx hb dX10_tellSquareAndMinute_11 (by decide) ?_
    replace hf := bnd_some hf
    obtain ⟨r2, μ1, h13, hf⟩ := hf
    refine cl_S (As := [.int a1, .int (36 : Int32)]) (rest := []) (st2 := [.int r2]) (n := 2) hX hM (c_X10_below l  h13) mt_X10_below q_8_1 ⟨rfl, rfl⟩ ⟨Nat.le_of_ble_eq_true rfl, Nat.le_of_ble_eq_true rfl⟩ rfl hl.1 rfl (Nat.le_of_ble_eq_true rfl) dX10_tellSquareAndMinute_13 rfl (fun H locs hM => ?_)
    refine lv_if_ne (tgt := 21) hx hb dX10_tellSquareAndMinute_16 (by decide) (fun hc16 => ?_) (fun hc16 => ?_)
    · replace hf := it_f hf hc16
      refine lv_iload_n hx hb dX10_tellSquareAndMinute_21 rfl (lv_at hl 2 rfl) ?_
      refine lv_if_lt (tgt := 31) hx hb dX10_tellSquareAndMinute_22 (by decide) (fun hc22 => ?_) (fun hc22 => ?_)
      · replace hf := it_t hf hc22
        refine lv_bipush (v := (-2)) hx hb dX10_tellSquareAndMinute_31 (by decide) ?_
        exact rt_i hX hM (congrArg (fun z => some (Value.int z)) (so_1 hf)) (so_2 hf) dX10_tellSquareAndMinute_33
      · replace hf := it_f hf hc22
        refine lv_iload_n hx hb dX10_tellSquareAndMinute_25 rfl (lv_at hl 2 rfl) ?_
        refine lv_ldc (v := 99999) hx hb hown (hts _ q_39_10) dX10_tellSquareAndMinute_26 ?_
        refine lv_icmp_le (tgt := 34) hx hb dX10_tellSquareAndMinute_28 (by decide) (fun hc28 => ?_) (fun hc28 => ?_)
        · replace hf := it_t hf hc28
          refine lv_aload_n hx hb dX10_tellSquareAndMinute_34 rfl (lv_at hl 0 rfl) ?_
          refine lv_iload_n hx hb dX10_tellSquareAndMinute_35 rfl (lv_at hl 1 rfl) ?_
          refine lv_iload_n hx hb dX10_tellSquareAndMinute_36 rfl (lv_at hl 2 rfl) ?_
          replace hf := bnd_some hf
          obtain ⟨r4, μ3, h37, hf⟩ := hf
          refine cl_V (As := [.int a1, .int a2]) (rest := []) (st2 := [.int r4]) (n := 2) hX hM (c_X5_add l ha0 h37) mv_X5_add q_20_18 ⟨rfl, rfl⟩ ⟨Nat.le_of_ble_eq_true rfl, Nat.le_of_ble_eq_true rfl⟩ ha0 (by decide) rfl rfl rfl hl.1 rfl (Nat.le_of_ble_eq_true rfl) dX10_tellSquareAndMinute_37 rfl (fun H locs hM => ?_)
          exact rt_i hX hM (congrArg (fun z => some (Value.int z)) (so_1 hf)) (so_2 hf) dX10_tellSquareAndMinute_40
        · replace hf := it_f hf hc28
          refine lv_bipush (v := (-2)) hx hb dX10_tellSquareAndMinute_31 (by decide) ?_
          exact rt_i hX hM (congrArg (fun z => some (Value.int z)) (so_1 hf)) (so_2 hf) dX10_tellSquareAndMinute_33
    · replace hf := it_t hf hc16
      refine lv_iconst (v := (-1)) hx hb dX10_tellSquareAndMinute_19 (by decide) ?_
      exact rt_i hX hM (congrArg (fun z => some (Value.int z)) (so_1 hf)) (so_2 hf) dX10_tellSquareAndMinute_20
  · replace hf := it_t hf hc2
    refine lv_aload_n hx hb dX10_tellSquareAndMinute_5 rfl (lv_at hl 0 rfl) ?_
    replace hf := bnd_some hf
    obtain ⟨r6, μ5, h6, hf⟩ := hf
    refine cl_V (As := []) (rest := []) (st2 := [.int r6]) (n := 0) hX hM (c_X5_clear l ha0 h6) mv_X5_clear q_20_14 ⟨rfl, rfl⟩ ⟨Nat.le_of_ble_eq_true rfl, Nat.le_of_ble_eq_true rfl⟩ ha0 (by decide) rfl rfl rfl hl.1 rfl (Nat.le_of_ble_eq_true rfl) dX10_tellSquareAndMinute_6 rfl (fun H locs hM => ?_)
    exact rt_i hX hM (congrArg (fun z => some (Value.int z)) (so_1 hf)) (so_2 hf) dX10_tellSquareAndMinute_9
theorem c_X10_tellSquareAndMinute (l : Launch) {a0 : Nat} {a1 : Int32} {a2 : Int32} (ha0 : knd a0 = 3) {μ μ2 : Mem} {r : Int32} (hf : f_X10_tellSquareAndMinute a0 a1 a2 μ = some (r, μ2)) : CT E l yX10_tellSquareAndMinute cX10_tellSquareAndMinute 3 (some .int) (rmF 1 22) [.ref (eA E a0), .int a1, .int a2] μ (some (.int r)) μ2 := CT.of (show plainFor yX10_tellSquareAndMinute = true by decide +kernel) (Nat.le_of_ble_eq_true rfl) rfl (fun _ _ _ _ _ _ _ _ hX hM hl => w_X10_tellSquareAndMinute l ha0 hf hX hM hl)
theorem mt_X10_tellSquareAndMinute : MT yX10_tellSquareAndMinute cX10_tellSquareAndMinute 3 (some .int) 3 := ⟨q_39_9, q_39_8, q_1_2, by decide +kernel⟩
def f_X10_see (o : Nat) (a1 : Int32) (a2 : Int32) (μ : Mem) : Option (Int32 × Mem) :=
  bnd (f_X10_tellSquareAndMinute (rf (rf o 1) 1) a1 a2 μ) (fun r2 μ1 => some (r2, μ1))
set_option maxHeartbeats 4000000 in
set_option maxRecDepth 100000 in
theorem w_X10_see (l : Launch) {o : Nat} {a1 : Int32} {a2 : Int32} (ho : knd o = 8) {μ μ2 : Mem} {r : Int32} {H : Heap} {locs : List Loc} {ls : Array Slot} (hf : f_X10_see o a1 a2 μ = some (r, μ2)) (hX : XX E p m meth c cX10_see 3 (some .int) s args RX10) (hM : MM E s μ H locs) (hl : lv_has ls 3 [(0, .ref (eA E o)), (1, .int a1), (2, .int a2)]) : W p l e (rmF 2 44) s m args below meth c H locs 0 0 (MQ below (QC E (some (.int r)) μ2) args s 0 0 (AA E)) (F0 m 0 ls []) := by
  obtain ⟨⟨hx, hb, hml, hown, hts⟩, hXr⟩ := id hX
  unfold f_X10_see at hf
  refine lv_aload_n hx hb dX10_see_0 rfl (lv_at hl 0 rfl) ?_
  refine gf_8_1 hX hM ho q_1_20 dX10_see_1 ?_
  refine gf_1_1 hX hM (kr_8_1 ho) q_39_6 dX10_see_4 ?_
  refine lv_iload_n hx hb dX10_see_7 rfl (lv_at hl 1 rfl) ?_
  refine lv_iload_n hx hb dX10_see_8 rfl (lv_at hl 2 rfl) ?_
  replace hf := bnd_some hf
  obtain ⟨r2, μ1, h9, hf⟩ := hf
  refine cl_S (As := [.ref (eA E (rf (rf o 1) 1)), .int a1, .int a2]) (rest := []) (st2 := [.int r2]) (n := 3) hX hM (c_X10_tellSquareAndMinute l (kr_1_1 (kr_8_1 ho)) h9) mt_X10_tellSquareAndMinute q_39_7 ⟨rfl, rfl⟩ ⟨Nat.le_of_ble_eq_true rfl, Nat.le_of_ble_eq_true rfl⟩ rfl hl.1 rfl (Nat.le_of_ble_eq_true rfl) dX10_see_9 rfl (fun H locs hM => ?_)
  exact rt_i hX hM (congrArg (fun z => some (Value.int z)) (so_1 hf)) (so_2 hf) dX10_see_12
theorem c_X10_see (l : Launch) {o : Nat} {a1 : Int32} {a2 : Int32} (ho : knd o = 8) {μ μ2 : Mem} {r : Int32} (hf : f_X10_see o a1 a2 μ = some (r, μ2)) : CT E l yX10_see cX10_see 3 (some .int) (rmF 2 44) [.ref (eA E o), .int a1, .int a2] μ (some (.int r)) μ2 := CT.of (show plainFor yX10_see = true by decide +kernel) (Nat.le_of_ble_eq_true rfl) rfl (fun _ _ _ _ _ _ _ _ hX hM hl => w_X10_see l ho hf hX hM hl)
theorem mv_X10_see : MV yX10_see cX10_see 3 (some .int) RX10 2 := ⟨q_39_5, q_39_3, q_39_4, q_1_2, by decide +kernel⟩
def f_X10_fits_b50 (o : Nat) (a1 : Int32) (a2 : Int32) (a3 : Int32)  : Nat → Int32 → Int32 → Int32 → Mem → Option (Int32 × Mem)
  | 0, _, _, _, _ => none
  | n + 1, x4, x5, x6, μ =>
    (if x6 < 0 then (if a3 = 0 then some (x4, μ) else some (x5, μ)) else bnd (f_X8_allSeenInTime (rf o 3) x6 (rf (rf o 1) 1) μ) (fun r9 μ8 => (if r9 = 0 then lt (x6 + (-1 : Int32)) (fun v10 => (f_X10_fits_b50 o a1 a2 a3  n) x4 x5 v10 μ8) else lt (x4 + (1 : Int32)) (fun v11 => lt (x6 + (-1 : Int32)) (fun v12 => (f_X10_fits_b50 o a1 a2 a3  n) v11 x6 v12 μ8)))))
set_option maxHeartbeats 4000000 in
set_option maxRecDepth 100000 in
theorem w_X10_fits_b50 (l : Launch) {o : Nat} {a1 : Int32} {a2 : Int32} {a3 : Int32} (ho : knd o = 8) {μ2 : Mem} {r : Int32}  (hX : XX E p m meth c cX10_fits 7 (some .int) s args RX10)  : ∀ (n : Nat) (x4 : Int32) (x5 : Int32) (x6 : Int32) (μ : Mem), f_X10_fits_b50 o a1 a2 a3  n x4 x5 x6 μ = some (r, μ2) → ∀ (H : Heap) (locs : List Loc), MM E s μ H locs → ∀ ls : Array Slot, lv_has ls 7 [(0, .ref (eA E o)), (1, .int a1), (2, .int a2), (3, .int a3), (4, .int x4), (5, .int x5), (6, .int x6)] → W p l e (rmF 6 144) s m args below meth c H locs 0 0 (MQ below (QC E (some (.int r)) μ2) args s 0 0 (AA E)) (F0 m 50 ls []) := by
  obtain ⟨⟨hx, hb, hml, hown, hts⟩, hXr⟩ := id hX
  intro n
  induction n with
  | zero => intro x4 x5 x6 μ  hf; exact no_none hf
  | succ n ih =>
    intro x4 x5 x6 μ  hf H locs hM ls hl
    rw [f_X10_fits_b50] at hf
    have hK50 := ih
    clear ih
    refine lv_iload hx hb dX10_fits_50 (lv_at hl 6 rfl) ?_
    refine lv_if_lt (tgt := 87) hx hb dX10_fits_52 (by decide) (fun hc52 => ?_) (fun hc52 => ?_)
    · replace hf := it_t hf hc52
      refine lv_iload_n hx hb dX10_fits_87 rfl (lv_at hl 3 rfl) ?_
      refine lv_if_ne (tgt := 96) hx hb dX10_fits_88 (by decide) (fun hc88 => ?_) (fun hc88 => ?_)
      · replace hf := it_f hf hc88
        refine lv_iload hx hb dX10_fits_96 (lv_at hl 5 rfl) ?_
        exact rt_i hX hM (congrArg (fun z => some (Value.int z)) (so_1 hf)) (so_2 hf) dX10_fits_98
      · replace hf := it_t hf hc88
        refine lv_iload hx hb dX10_fits_91 (lv_at hl 4 rfl) ?_
        refine lv_goto (tgt := 98) hx hb dX10_fits_93 (by decide) ?_
        exact rt_i hX hM (congrArg (fun z => some (Value.int z)) (so_1 hf)) (so_2 hf) dX10_fits_98
    · replace hf := it_f hf hc52
      refine lv_aload_n hx hb dX10_fits_55 rfl (lv_at hl 0 rfl) ?_
      refine gf_8_3 hX hM ho q_2_4 dX10_fits_56 ?_
      refine lv_iload hx hb dX10_fits_59 (lv_at hl 6 rfl) ?_
      refine lv_aload_n hx hb dX10_fits_61 rfl (lv_at hl 0 rfl) ?_
      refine gf_8_1 hX hM ho q_1_20 dX10_fits_62 ?_
      refine gf_1_1 hX hM (kr_8_1 ho) q_39_6 dX10_fits_65 ?_
      replace hf := bnd_some hf
      obtain ⟨r9, μ8, h68, hf⟩ := hf
      refine cl_V (As := [.int x6, .ref (eA E (rf (rf o 1) 1))]) (rest := []) (st2 := [.int r9]) (n := 2) hX hM (c_X8_allSeenInTime l (kr_8_3 ho) (kr_1_1 (kr_8_1 ho)) h68) mv_X8_allSeenInTime q_40_10 ⟨rfl, rfl⟩ ⟨Nat.le_of_ble_eq_true rfl, Nat.le_of_ble_eq_true rfl⟩ (kr_8_3 ho) (by decide) rfl rfl rfl hl.1 rfl (Nat.le_of_ble_eq_true rfl) dX10_fits_68 rfl (fun H locs hM => ?_)
      refine lv_if_eq (tgt := 81) hx hb dX10_fits_71 (by decide) (fun hc71 => ?_) (fun hc71 => ?_)
      · replace hf := it_t hf hc71
        obtain ⟨v10, ev10⟩ : ∃ y : Int32, y = x6 + (-1 : Int32) := ⟨_, rfl⟩
        replace hf := lt_e ev10 hf
        refine lv_iinc (v := v10) (lv' := [(6, .int v10), (0, .ref (eA E o)), (1, .int a1), (2, .int a2), (3, .int a3), (4, .int x4), (5, .int x5)]) hx hb dX10_fits_81 hl (k := 6) rfl (by rw [ev10]; rfl) (by decide) rfl (fun ls hl => ?_)
        refine lv_goto (tgt := 50) hx hb dX10_fits_84 (by decide) ?_
        exact hK50 _ _ _ _  hf _ _ hM _ (lv_sub hl [1, 2, 3, 4, 5, 6, 0] rfl)
      · replace hf := it_f hf hc71
        obtain ⟨v11, ev11⟩ : ∃ y : Int32, y = x4 + (1 : Int32) := ⟨_, rfl⟩
        replace hf := lt_e ev11 hf
        refine lv_iinc (v := v11) (lv' := [(4, .int v11), (0, .ref (eA E o)), (1, .int a1), (2, .int a2), (3, .int a3), (5, .int x5), (6, .int x6)]) hx hb dX10_fits_74 hl (k := 4) rfl (by rw [ev11]; rfl) (by decide) rfl (fun ls hl => ?_)
        refine lv_iload hx hb dX10_fits_77 (lv_at hl 6 rfl) ?_
        refine lv_istore (lv' := [(5, .int x6), (4, .int v11), (0, .ref (eA E o)), (1, .int a1), (2, .int a2), (3, .int a3), (6, .int x6)]) hx hb dX10_fits_79 hl (by decide) rfl (fun ls hl => ?_)
        obtain ⟨v12, ev12⟩ : ∃ y : Int32, y = x6 + (-1 : Int32) := ⟨_, rfl⟩
        replace hf := lt_e ev12 hf
        refine lv_iinc (v := v12) (lv' := [(6, .int v12), (5, .int x6), (4, .int v11), (0, .ref (eA E o)), (1, .int a1), (2, .int a2), (3, .int a3)]) hx hb dX10_fits_81 hl (k := 6) rfl (by rw [ev12]; rfl) (by decide) rfl (fun ls hl => ?_)
        refine lv_goto (tgt := 50) hx hb dX10_fits_84 (by decide) ?_
        exact hK50 _ _ _ _  hf _ _ hM _ (lv_sub hl [3, 4, 5, 6, 2, 1, 0] rfl)
def f_X10_fits (o : Nat) (a1 : Int32) (a2 : Int32) (a3 : Int32) (μ : Mem) : Option (Int32 × Mem) :=
  bnd (f_X10_below a1 (4 : Int32) μ) (fun r2 μ1 => (if r2 = 0 then some ((-1 : Int32), μ1) else bnd (f_X10_below a2 (4 : Int32) μ1) (fun r4 μ3 => (if r4 = 0 then some ((-1 : Int32), μ3) else bnd (f_X10_below a3 (2 : Int32) μ3) (fun r6 μ5 => (if r6 = 0 then some ((-1 : Int32), μ5) else bnv (f_X8_turnWind (rf o 3) (rf o 0) a1 a2 μ5) (fun μ7 => f_X10_fits_b50 o a1 a2 a3  FU (0 : Int32) (-5 : Int32) (7 : Int32) μ7)))))))
set_option maxHeartbeats 4000000 in
set_option maxRecDepth 100000 in
theorem w_X10_fits (l : Launch) {o : Nat} {a1 : Int32} {a2 : Int32} {a3 : Int32} (ho : knd o = 8) {μ μ2 : Mem} {r : Int32} {H : Heap} {locs : List Loc} {ls : Array Slot} (hf : f_X10_fits o a1 a2 a3 μ = some (r, μ2)) (hX : XX E p m meth c cX10_fits 7 (some .int) s args RX10) (hM : MM E s μ H locs) (hl : lv_has ls 7 [(0, .ref (eA E o)), (1, .int a1), (2, .int a2), (3, .int a3)]) : W p l e (rmF 6 144) s m args below meth c H locs 0 0 (MQ below (QC E (some (.int r)) μ2) args s 0 0 (AA E)) (F0 m 0 ls []) := by
  obtain ⟨⟨hx, hb, hml, hown, hts⟩, hXr⟩ := id hX
  unfold f_X10_fits at hf
  refine lv_iload_n hx hb dX10_fits_0 rfl (lv_at hl 1 rfl) ?_
  refine lv_iconst (v := 4) hx hb dX10_fits_1 (by decide) ?_
  replace hf := bnd_some hf
  obtain ⟨r2, μ1, h2, hf⟩ := hf
  refine cl_S (As := [.int a1, .int (4 : Int32)]) (rest := []) (st2 := [.int r2]) (n := 2) hX hM (c_X10_below l  h2) mt_X10_below q_8_1 ⟨rfl, rfl⟩ ⟨Nat.le_of_ble_eq_true rfl, Nat.le_of_ble_eq_true rfl⟩ rfl hl.1 rfl (Nat.le_of_ble_eq_true rfl) dX10_fits_2 rfl (fun H locs hM => ?_)
  refine lv_if_eq (tgt := 24) hx hb dX10_fits_5 (by decide) (fun hc5 => ?_) (fun hc5 => ?_)
  · replace hf := it_t hf hc5
    refine lv_iconst (v := (-1)) hx hb dX10_fits_24 (by decide) ?_
    exact rt_i hX hM (congrArg (fun z => some (Value.int z)) (so_1 hf)) (so_2 hf) dX10_fits_25
  · replace hf := it_f hf hc5
    refine lv_iload_n hx hb dX10_fits_8 rfl (lv_at hl 2 rfl) ?_
    refine lv_iconst (v := 4) hx hb dX10_fits_9 (by decide) ?_
    replace hf := bnd_some hf
    obtain ⟨r4, μ3, h10, hf⟩ := hf
    refine cl_S (As := [.int a2, .int (4 : Int32)]) (rest := []) (st2 := [.int r4]) (n := 2) hX hM (c_X10_below l  h10) mt_X10_below q_8_1 ⟨rfl, rfl⟩ ⟨Nat.le_of_ble_eq_true rfl, Nat.le_of_ble_eq_true rfl⟩ rfl hl.1 rfl (Nat.le_of_ble_eq_true rfl) dX10_fits_10 rfl (fun H locs hM => ?_)
    refine lv_if_eq (tgt := 24) hx hb dX10_fits_13 (by decide) (fun hc13 => ?_) (fun hc13 => ?_)
    · replace hf := it_t hf hc13
      refine lv_iconst (v := (-1)) hx hb dX10_fits_24 (by decide) ?_
      exact rt_i hX hM (congrArg (fun z => some (Value.int z)) (so_1 hf)) (so_2 hf) dX10_fits_25
    · replace hf := it_f hf hc13
      refine lv_iload_n hx hb dX10_fits_16 rfl (lv_at hl 3 rfl) ?_
      refine lv_iconst (v := 2) hx hb dX10_fits_17 (by decide) ?_
      replace hf := bnd_some hf
      obtain ⟨r6, μ5, h18, hf⟩ := hf
      refine cl_S (As := [.int a3, .int (2 : Int32)]) (rest := []) (st2 := [.int r6]) (n := 2) hX hM (c_X10_below l  h18) mt_X10_below q_8_1 ⟨rfl, rfl⟩ ⟨Nat.le_of_ble_eq_true rfl, Nat.le_of_ble_eq_true rfl⟩ rfl hl.1 rfl (Nat.le_of_ble_eq_true rfl) dX10_fits_18 rfl (fun H locs hM => ?_)
      refine lv_if_ne (tgt := 26) hx hb dX10_fits_21 (by decide) (fun hc21 => ?_) (fun hc21 => ?_)
      · replace hf := it_f hf hc21
        refine lv_aload_n hx hb dX10_fits_26 rfl (lv_at hl 0 rfl) ?_
        refine gf_8_3 hX hM ho q_2_4 dX10_fits_27 ?_
        refine lv_aload_n hx hb dX10_fits_30 rfl (lv_at hl 0 rfl) ?_
        refine gf_8_0 hX hM ho q_1_16 dX10_fits_31 ?_
        refine lv_iload_n hx hb dX10_fits_34 rfl (lv_at hl 1 rfl) ?_
        refine lv_iload_n hx hb dX10_fits_35 rfl (lv_at hl 2 rfl) ?_
        replace hf := bnv_some hf
        obtain ⟨μ7, h36, hf⟩ := hf
        refine cl_V (As := [.ref (eA E (rf o 0)), .int a1, .int a2]) (rest := []) (st2 := []) (n := 3) hX hM (c_X8_turnWind l (kr_8_3 ho) (kr_8_0 ho) h36) mv_X8_turnWind q_39_21 ⟨rfl, rfl⟩ ⟨Nat.le_of_ble_eq_true rfl, Nat.le_of_ble_eq_true rfl⟩ (kr_8_3 ho) (by decide) rfl rfl rfl hl.1 rfl (Nat.le_of_ble_eq_true rfl) dX10_fits_36 rfl (fun H locs hM => ?_)
        refine lv_iconst (v := 0) hx hb dX10_fits_39 (by decide) ?_
        refine lv_istore (lv' := [(4, .int (0 : Int32)), (0, .ref (eA E o)), (1, .int a1), (2, .int a2), (3, .int a3)]) hx hb dX10_fits_40 hl (by decide) rfl (fun ls hl => ?_)
        refine lv_bipush (v := (-5)) hx hb dX10_fits_42 (by decide) ?_
        refine lv_istore (lv' := [(5, .int (-5 : Int32)), (4, .int (0 : Int32)), (0, .ref (eA E o)), (1, .int a1), (2, .int a2), (3, .int a3)]) hx hb dX10_fits_44 hl (by decide) rfl (fun ls hl => ?_)
        refine lv_bipush (v := 7) hx hb dX10_fits_46 (by decide) ?_
        refine lv_istore (lv' := [(6, .int (7 : Int32)), (5, .int (-5 : Int32)), (4, .int (0 : Int32)), (0, .ref (eA E o)), (1, .int a1), (2, .int a2), (3, .int a3)]) hx hb dX10_fits_48 hl (by decide) rfl (fun ls hl => ?_)
        exact w_X10_fits_b50 l ho hX  FU _ _ _ _  hf _ _ hM _ (lv_sub hl [3, 4, 5, 6, 2, 1, 0] rfl)
      · replace hf := it_t hf hc21
        refine lv_iconst (v := (-1)) hx hb dX10_fits_24 (by decide) ?_
        exact rt_i hX hM (congrArg (fun z => some (Value.int z)) (so_1 hf)) (so_2 hf) dX10_fits_25
theorem c_X10_fits (l : Launch) {o : Nat} {a1 : Int32} {a2 : Int32} {a3 : Int32} (ho : knd o = 8) {μ μ2 : Mem} {r : Int32} (hf : f_X10_fits o a1 a2 a3 μ = some (r, μ2)) : CT E l yX10_fits cX10_fits 7 (some .int) (rmF 6 144) [.ref (eA E o), .int a1, .int a2, .int a3] μ (some (.int r)) μ2 := CT.of (show plainFor yX10_fits = true by decide +kernel) (Nat.le_of_ble_eq_true rfl) rfl (fun _ _ _ _ _ _ _ _ hX hM hl => w_X10_fits l ho hf hX hM hl)
theorem mv_X10_fits : MV yX10_fits cX10_fits 7 (some .int) RX10 3 := ⟨q_39_20, q_39_18, q_39_19, q_1_2, by decide +kernel⟩
def f_X10_fractionPart (a0 : Int64) (a2 : Int64) (a4 : Int32) (μ : Mem) : Option (Int64 × Mem) :=
  bnd (f_X0_greatestDivisor a0 a2 μ) (fun r2 μ1 => (if (lg_cmp r2 (0 : Int64)) = 0 then some ((-9223372036854775808 : Int64), μ1) else (if a4 = 0 then gW r2 (some ((a0 / r2), μ1)) else gW r2 (some ((a2 / r2), μ1)))))
set_option maxHeartbeats 4000000 in
set_option maxRecDepth 100000 in
theorem w_X10_fractionPart (l : Launch) {a0 : Int64} {a2 : Int64} {a4 : Int32}  {μ μ2 : Mem} {r : Int64} {H : Heap} {locs : List Loc} {ls : Array Slot} (hf : f_X10_fractionPart a0 a2 a4 μ = some (r, μ2)) (hX : XX E p m meth c cX10_fractionPart 7 (some .long) s args RX10) (hM : MM E s μ H locs) (hl : lv_has ls 7 [(0, .long a0), (2, .long a2), (4, .int a4)]) : W p l e (rmF 1 30) s m args below meth c H locs 0 0 (MQ below (QC E (some (.long r)) μ2) args s 0 0 (AA E)) (F0 m 0 ls []) := by
  obtain ⟨⟨hx, hb, hml, hown, hts⟩, hXr⟩ := id hX
  unfold f_X10_fractionPart at hf
  refine lv_lload_n hx hb dX10_fractionPart_0 rfl (lv_at hl 0 rfl) ?_
  refine lv_lload_n hx hb dX10_fractionPart_1 rfl (lv_at hl 1 rfl) ?_
  replace hf := bnd_some hf
  obtain ⟨r2, μ1, h2, hf⟩ := hf
  refine cl_S (As := [.long a0, .long a2]) (rest := []) (st2 := [.long r2]) (n := 2) hX hM (c_X0_greatestDivisor l  h2) mt_X0_greatestDivisor q_41_21 ⟨rfl, rfl⟩ ⟨Nat.le_of_ble_eq_true rfl, Nat.le_of_ble_eq_true rfl⟩ rfl hl.1 rfl (Nat.le_of_ble_eq_true rfl) dX10_fractionPart_2 rfl (fun H locs hM => ?_)
  refine lv_lstore (lv' := [(5, .long r2), (0, .long a0), (2, .long a2), (4, .int a4)]) hx hb dX10_fractionPart_5 hl (by decide) rfl (fun ls hl => ?_)
  refine lv_lload hx hb dX10_fractionPart_7 (lv_at hl 0 rfl) ?_
  refine lv_lconst (v := 0) hx hb dX10_fractionPart_9 (by decide) ?_
  refine W.lcmp hx hb dX10_fractionPart_10 ?_
  refine lv_if_ne (tgt := 18) hx hb dX10_fractionPart_11 (by decide) (fun hc11 => ?_) (fun hc11 => ?_)
  · replace hf := it_f hf hc11
    refine lv_iload hx hb dX10_fractionPart_18 (lv_at hl 3 rfl) ?_
    refine lv_if_ne (tgt := 27) hx hb dX10_fractionPart_20 (by decide) (fun hc20 => ?_) (fun hc20 => ?_)
    · replace hf := it_f hf hc20
      refine lv_lload_n hx hb dX10_fractionPart_27 rfl (lv_at hl 2 rfl) ?_
      refine lv_lload hx hb dX10_fractionPart_28 (lv_at hl 0 rfl) ?_
      replace hf := gW_some hf
      obtain ⟨hz, hf⟩ := hf
      refine lv_ldiv hx hb dX10_fractionPart_30 hz ?_
      exact rt_l hX hM (congrArg (fun z => some (Value.long z)) (so_1 hf)) (so_2 hf) dX10_fractionPart_31
    · replace hf := it_t hf hc20
      refine lv_lload_n hx hb dX10_fractionPart_23 rfl (lv_at hl 1 rfl) ?_
      refine lv_goto (tgt := 28) hx hb dX10_fractionPart_24 (by decide) ?_
      refine lv_lload hx hb dX10_fractionPart_28 (lv_at hl 0 rfl) ?_
      replace hf := gW_some hf
      obtain ⟨hz, hf⟩ := hf
      refine lv_ldiv hx hb dX10_fractionPart_30 hz ?_
      exact rt_l hX hM (congrArg (fun z => some (Value.long z)) (so_1 hf)) (so_2 hf) dX10_fractionPart_31
  · replace hf := it_t hf hc11
    refine lv_ldc2 (v := -9223372036854775808) hx hb hown (hts _ q_35_5) dX10_fractionPart_14 ?_
    exact rt_l hX hM (congrArg (fun z => some (Value.long z)) (so_1 hf)) (so_2 hf) dX10_fractionPart_17
theorem c_X10_fractionPart (l : Launch) {a0 : Int64} {a2 : Int64} {a4 : Int32}  {μ μ2 : Mem} {r : Int64} (hf : f_X10_fractionPart a0 a2 a4 μ = some (r, μ2)) : CT E l yX10_fractionPart cX10_fractionPart 7 (some .long) (rmF 1 30) [.long a0, .long a2, .int a4] μ (some (.long r)) μ2 := CT.of (show plainFor yX10_fractionPart = true by decide +kernel) (Nat.le_of_ble_eq_true rfl) rfl (fun _ _ _ _ _ _ _ _ hX hM hl => w_X10_fractionPart l  hf hX hM hl)
theorem mt_X10_fractionPart : MT yX10_fractionPart cX10_fractionPart 7 (some .long) 3 := ⟨q_41_20, q_41_19, q_1_2, by decide +kernel⟩
def f_X10_odds_b73 (o : Nat) (a1 : Int32) (a2 : Int32) (a3 : Int32) (a4 : Int32) (a5 : Int32)  : Nat → Int32 → Int32 → Mem → Option (Int64 × Mem)
  | 0, _, _, _ => none
  | n + 1, x6, x7, μ =>
    (if (8 : Int32) ≤ x7 then bnd (f_X10_fractionPart x6.toInt64 (8 : Int64) a5 μ) (fun r11 μ10 => some (r11, μ10)) else bnd (f_X8_leastWhenFrom (rf o 3) x7 a3 μ) (fun r13 μ12 => (if a4 < r13 then lt (x7 + (1 : Int32)) (fun v14 => (f_X10_odds_b73 o a1 a2 a3 a4 a5  n) x6 v14 μ12) else lt (x6 + (1 : Int32)) (fun v15 => lt (x7 + (1 : Int32)) (fun v16 => (f_X10_odds_b73 o a1 a2 a3 a4 a5  n) v15 v16 μ12)))))
set_option maxHeartbeats 4000000 in
set_option maxRecDepth 100000 in
theorem w_X10_odds_b73 (l : Launch) {o : Nat} {a1 : Int32} {a2 : Int32} {a3 : Int32} {a4 : Int32} {a5 : Int32} (ho : knd o = 8) {μ2 : Mem} {r : Int64}  (hX : XX E p m meth c cX10_odds 8 (some .long) s args RX10)  : ∀ (n : Nat) (x6 : Int32) (x7 : Int32) (μ : Mem), f_X10_odds_b73 o a1 a2 a3 a4 a5  n x6 x7 μ = some (r, μ2) → ∀ (H : Heap) (locs : List Loc), MM E s μ H locs → ∀ ls : Array Slot, lv_has ls 8 [(0, .ref (eA E o)), (1, .int a1), (2, .int a2), (3, .int a3), (4, .int a4), (5, .int a5), (6, .int x6), (7, .int x7)] → W p l e (rmF 6 144) s m args below meth c H locs 0 0 (MQ below (QC E (some (.long r)) μ2) args s 0 0 (AA E)) (F0 m 73 ls []) := by
  obtain ⟨⟨hx, hb, hml, hown, hts⟩, hXr⟩ := id hX
  intro n
  induction n with
  | zero => intro x6 x7 μ  hf; exact no_none hf
  | succ n ih =>
    intro x6 x7 μ  hf H locs hM ls hl
    rw [f_X10_odds_b73] at hf
    have hK73 := ih
    clear ih
    refine lv_iload hx hb dX10_odds_73 (lv_at hl 7 rfl) ?_
    refine lv_bipush (v := 8) hx hb dX10_odds_75 (by decide) ?_
    refine lv_icmp_ge (tgt := 104) hx hb dX10_odds_77 (by decide) (fun hc77 => ?_) (fun hc77 => ?_)
    · replace hf := it_t hf hc77
      refine lv_iload hx hb dX10_odds_104 (lv_at hl 6 rfl) ?_
      refine lv_i2l hx hb dX10_odds_106 rfl ?_
      refine lv_ldc2 (v := 8) hx hb hown (hts _ q_41_16) dX10_odds_107 ?_
      refine lv_iload hx hb dX10_odds_110 (lv_at hl 5 rfl) ?_
      replace hf := bnd_some hf
      obtain ⟨r11, μ10, h112, hf⟩ := hf
      refine cl_S (As := [.long x6.toInt64, .long (8 : Int64), .int a5]) (rest := []) (st2 := [.long r11]) (n := 3) hX hM (c_X10_fractionPart l  h112) mt_X10_fractionPart q_41_18 ⟨rfl, rfl⟩ ⟨Nat.le_of_ble_eq_true rfl, Nat.le_of_ble_eq_true rfl⟩ rfl hl.1 rfl (Nat.le_of_ble_eq_true rfl) dX10_odds_112 rfl (fun H locs hM => ?_)
      exact rt_l hX hM (congrArg (fun z => some (Value.long z)) (so_1 hf)) (so_2 hf) dX10_odds_115
    · replace hf := it_f hf hc77
      refine lv_aload_n hx hb dX10_odds_80 rfl (lv_at hl 0 rfl) ?_
      refine gf_8_3 hX hM ho q_2_4 dX10_odds_81 ?_
      refine lv_iload hx hb dX10_odds_84 (lv_at hl 7 rfl) ?_
      refine lv_iload_n hx hb dX10_odds_86 rfl (lv_at hl 3 rfl) ?_
      replace hf := bnd_some hf
      obtain ⟨r13, μ12, h87, hf⟩ := hf
      refine cl_V (As := [.int x7, .int a3]) (rest := []) (st2 := [.int r13]) (n := 2) hX hM (c_X8_leastWhenFrom l (kr_8_3 ho) h87) mv_X8_leastWhenFrom q_41_17 ⟨rfl, rfl⟩ ⟨Nat.le_of_ble_eq_true rfl, Nat.le_of_ble_eq_true rfl⟩ (kr_8_3 ho) (by decide) rfl rfl rfl hl.1 rfl (Nat.le_of_ble_eq_true rfl) dX10_odds_87 rfl (fun H locs hM => ?_)
      refine lv_iload hx hb dX10_odds_90 (lv_at hl 4 rfl) ?_
      refine lv_icmp_gt (tgt := 98) hx hb dX10_odds_92 (by decide) (fun hc92 => ?_) (fun hc92 => ?_)
      · replace hf := it_t hf hc92
        obtain ⟨v14, ev14⟩ : ∃ y : Int32, y = x7 + (1 : Int32) := ⟨_, rfl⟩
        replace hf := lt_e ev14 hf
        refine lv_iinc (v := v14) (lv' := [(7, .int v14), (0, .ref (eA E o)), (1, .int a1), (2, .int a2), (3, .int a3), (4, .int a4), (5, .int a5), (6, .int x6)]) hx hb dX10_odds_98 hl (k := 7) rfl (by rw [ev14]; rfl) (by decide) rfl (fun ls hl => ?_)
        refine lv_goto (tgt := 73) hx hb dX10_odds_101 (by decide) ?_
        exact hK73 _ _ _  hf _ _ hM _ (lv_sub hl [1, 2, 3, 4, 5, 6, 7, 0] rfl)
      · replace hf := it_f hf hc92
        obtain ⟨v15, ev15⟩ : ∃ y : Int32, y = x6 + (1 : Int32) := ⟨_, rfl⟩
        replace hf := lt_e ev15 hf
        refine lv_iinc (v := v15) (lv' := [(6, .int v15), (0, .ref (eA E o)), (1, .int a1), (2, .int a2), (3, .int a3), (4, .int a4), (5, .int a5), (7, .int x7)]) hx hb dX10_odds_95 hl (k := 6) rfl (by rw [ev15]; rfl) (by decide) rfl (fun ls hl => ?_)
        obtain ⟨v16, ev16⟩ : ∃ y : Int32, y = x7 + (1 : Int32) := ⟨_, rfl⟩
        replace hf := lt_e ev16 hf
        refine lv_iinc (v := v16) (lv' := [(7, .int v16), (6, .int v15), (0, .ref (eA E o)), (1, .int a1), (2, .int a2), (3, .int a3), (4, .int a4), (5, .int a5)]) hx hb dX10_odds_98 hl (k := 7) rfl (by rw [ev16]; rfl) (by decide) rfl (fun ls hl => ?_)
        refine lv_goto (tgt := 73) hx hb dX10_odds_101 (by decide) ?_
        exact hK73 _ _ _  hf _ _ hM _ (lv_sub hl [2, 3, 4, 5, 6, 7, 1, 0] rfl)
def f_X10_odds (o : Nat) (a1 : Int32) (a2 : Int32) (a3 : Int32) (a4 : Int32) (a5 : Int32) (μ : Mem) : Option (Int64 × Mem) :=
  bnd (f_X10_below a1 (4 : Int32) μ) (fun r2 μ1 => (if r2 = 0 then some ((-9223372036854775808 : Int64), μ1) else bnd (f_X10_below a2 (4 : Int32) μ1) (fun r4 μ3 => (if r4 = 0 then some ((-9223372036854775808 : Int64), μ3) else bnd (f_X10_below a3 (36 : Int32) μ3) (fun r6 μ5 => (if r6 = 0 then some ((-9223372036854775808 : Int64), μ5) else (if a4 < 0 then some ((-9223372036854775808 : Int64), μ5) else (if (99999 : Int32) < a4 then some ((-9223372036854775808 : Int64), μ5) else bnd (f_X10_below a5 (2 : Int32) μ5) (fun r8 μ7 => (if r8 = 0 then some ((-9223372036854775808 : Int64), μ7) else bnv (f_X8_turnWind (rf o 3) (rf o 0) a1 a2 μ7) (fun μ9 => f_X10_odds_b73 o a1 a2 a3 a4 a5  FU (0 : Int32) (0 : Int32) μ9)))))))))))
set_option maxHeartbeats 4000000 in
set_option maxRecDepth 100000 in
theorem w_X10_odds (l : Launch) {o : Nat} {a1 : Int32} {a2 : Int32} {a3 : Int32} {a4 : Int32} {a5 : Int32} (ho : knd o = 8) {μ μ2 : Mem} {r : Int64} {H : Heap} {locs : List Loc} {ls : Array Slot} (hf : f_X10_odds o a1 a2 a3 a4 a5 μ = some (r, μ2)) (hX : XX E p m meth c cX10_odds 8 (some .long) s args RX10) (hM : MM E s μ H locs) (hl : lv_has ls 8 [(0, .ref (eA E o)), (1, .int a1), (2, .int a2), (3, .int a3), (4, .int a4), (5, .int a5)]) : W p l e (rmF 6 144) s m args below meth c H locs 0 0 (MQ below (QC E (some (.long r)) μ2) args s 0 0 (AA E)) (F0 m 0 ls []) := by
  obtain ⟨⟨hx, hb, hml, hown, hts⟩, hXr⟩ := id hX
  unfold f_X10_odds at hf
  refine lv_iload_n hx hb dX10_odds_0 rfl (lv_at hl 1 rfl) ?_
  refine lv_iconst (v := 4) hx hb dX10_odds_1 (by decide) ?_
  replace hf := bnd_some hf
  obtain ⟨r2, μ1, h2, hf⟩ := hf
  refine cl_S (As := [.int a1, .int (4 : Int32)]) (rest := []) (st2 := [.int r2]) (n := 2) hX hM (c_X10_below l  h2) mt_X10_below q_8_1 ⟨rfl, rfl⟩ ⟨Nat.le_of_ble_eq_true rfl, Nat.le_of_ble_eq_true rfl⟩ rfl hl.1 rfl (Nat.le_of_ble_eq_true rfl) dX10_odds_2 rfl (fun H locs hM => ?_)
  refine lv_if_eq (tgt := 25) hx hb dX10_odds_5 (by decide) (fun hc5 => ?_) (fun hc5 => ?_)
  · replace hf := it_t hf hc5
    refine lv_ldc2 (v := -9223372036854775808) hx hb hown (hts _ q_35_5) dX10_odds_25 ?_
    exact rt_l hX hM (congrArg (fun z => some (Value.long z)) (so_1 hf)) (so_2 hf) dX10_odds_28
  · replace hf := it_f hf hc5
    refine lv_iload_n hx hb dX10_odds_8 rfl (lv_at hl 2 rfl) ?_
    refine lv_iconst (v := 4) hx hb dX10_odds_9 (by decide) ?_
    replace hf := bnd_some hf
    obtain ⟨r4, μ3, h10, hf⟩ := hf
    refine cl_S (As := [.int a2, .int (4 : Int32)]) (rest := []) (st2 := [.int r4]) (n := 2) hX hM (c_X10_below l  h10) mt_X10_below q_8_1 ⟨rfl, rfl⟩ ⟨Nat.le_of_ble_eq_true rfl, Nat.le_of_ble_eq_true rfl⟩ rfl hl.1 rfl (Nat.le_of_ble_eq_true rfl) dX10_odds_10 rfl (fun H locs hM => ?_)
    refine lv_if_eq (tgt := 25) hx hb dX10_odds_13 (by decide) (fun hc13 => ?_) (fun hc13 => ?_)
    · replace hf := it_t hf hc13
      refine lv_ldc2 (v := -9223372036854775808) hx hb hown (hts _ q_35_5) dX10_odds_25 ?_
      exact rt_l hX hM (congrArg (fun z => some (Value.long z)) (so_1 hf)) (so_2 hf) dX10_odds_28
    · replace hf := it_f hf hc13
      refine lv_iload_n hx hb dX10_odds_16 rfl (lv_at hl 3 rfl) ?_
      refine lv_bipush (v := 36) hx hb dX10_odds_17 (by decide) ?_
      replace hf := bnd_some hf
      obtain ⟨r6, μ5, h19, hf⟩ := hf
      refine cl_S (As := [.int a3, .int (36 : Int32)]) (rest := []) (st2 := [.int r6]) (n := 2) hX hM (c_X10_below l  h19) mt_X10_below q_8_1 ⟨rfl, rfl⟩ ⟨Nat.le_of_ble_eq_true rfl, Nat.le_of_ble_eq_true rfl⟩ rfl hl.1 rfl (Nat.le_of_ble_eq_true rfl) dX10_odds_19 rfl (fun H locs hM => ?_)
      refine lv_if_ne (tgt := 29) hx hb dX10_odds_22 (by decide) (fun hc22 => ?_) (fun hc22 => ?_)
      · replace hf := it_f hf hc22
        refine lv_iload hx hb dX10_odds_29 (lv_at hl 4 rfl) ?_
        refine lv_if_lt (tgt := 50) hx hb dX10_odds_31 (by decide) (fun hc31 => ?_) (fun hc31 => ?_)
        · replace hf := it_t hf hc31
          refine lv_ldc2 (v := -9223372036854775808) hx hb hown (hts _ q_35_5) dX10_odds_50 ?_
          exact rt_l hX hM (congrArg (fun z => some (Value.long z)) (so_1 hf)) (so_2 hf) dX10_odds_53
        · replace hf := it_f hf hc31
          refine lv_iload hx hb dX10_odds_34 (lv_at hl 4 rfl) ?_
          refine lv_ldc (v := 99999) hx hb hown (hts _ q_39_10) dX10_odds_36 ?_
          refine lv_icmp_gt (tgt := 50) hx hb dX10_odds_38 (by decide) (fun hc38 => ?_) (fun hc38 => ?_)
          · replace hf := it_t hf hc38
            refine lv_ldc2 (v := -9223372036854775808) hx hb hown (hts _ q_35_5) dX10_odds_50 ?_
            exact rt_l hX hM (congrArg (fun z => some (Value.long z)) (so_1 hf)) (so_2 hf) dX10_odds_53
          · replace hf := it_f hf hc38
            refine lv_iload hx hb dX10_odds_41 (lv_at hl 5 rfl) ?_
            refine lv_iconst (v := 2) hx hb dX10_odds_43 (by decide) ?_
            replace hf := bnd_some hf
            obtain ⟨r8, μ7, h44, hf⟩ := hf
            refine cl_S (As := [.int a5, .int (2 : Int32)]) (rest := []) (st2 := [.int r8]) (n := 2) hX hM (c_X10_below l  h44) mt_X10_below q_8_1 ⟨rfl, rfl⟩ ⟨Nat.le_of_ble_eq_true rfl, Nat.le_of_ble_eq_true rfl⟩ rfl hl.1 rfl (Nat.le_of_ble_eq_true rfl) dX10_odds_44 rfl (fun H locs hM => ?_)
            refine lv_if_ne (tgt := 54) hx hb dX10_odds_47 (by decide) (fun hc47 => ?_) (fun hc47 => ?_)
            · replace hf := it_f hf hc47
              refine lv_aload_n hx hb dX10_odds_54 rfl (lv_at hl 0 rfl) ?_
              refine gf_8_3 hX hM ho q_2_4 dX10_odds_55 ?_
              refine lv_aload_n hx hb dX10_odds_58 rfl (lv_at hl 0 rfl) ?_
              refine gf_8_0 hX hM ho q_1_16 dX10_odds_59 ?_
              refine lv_iload_n hx hb dX10_odds_62 rfl (lv_at hl 1 rfl) ?_
              refine lv_iload_n hx hb dX10_odds_63 rfl (lv_at hl 2 rfl) ?_
              replace hf := bnv_some hf
              obtain ⟨μ9, h64, hf⟩ := hf
              refine cl_V (As := [.ref (eA E (rf o 0)), .int a1, .int a2]) (rest := []) (st2 := []) (n := 3) hX hM (c_X8_turnWind l (kr_8_3 ho) (kr_8_0 ho) h64) mv_X8_turnWind q_39_21 ⟨rfl, rfl⟩ ⟨Nat.le_of_ble_eq_true rfl, Nat.le_of_ble_eq_true rfl⟩ (kr_8_3 ho) (by decide) rfl rfl rfl hl.1 rfl (Nat.le_of_ble_eq_true rfl) dX10_odds_64 rfl (fun H locs hM => ?_)
              refine lv_iconst (v := 0) hx hb dX10_odds_67 (by decide) ?_
              refine lv_istore (lv' := [(6, .int (0 : Int32)), (0, .ref (eA E o)), (1, .int a1), (2, .int a2), (3, .int a3), (4, .int a4), (5, .int a5)]) hx hb dX10_odds_68 hl (by decide) rfl (fun ls hl => ?_)
              refine lv_iconst (v := 0) hx hb dX10_odds_70 (by decide) ?_
              refine lv_istore (lv' := [(7, .int (0 : Int32)), (6, .int (0 : Int32)), (0, .ref (eA E o)), (1, .int a1), (2, .int a2), (3, .int a3), (4, .int a4), (5, .int a5)]) hx hb dX10_odds_71 hl (by decide) rfl (fun ls hl => ?_)
              exact w_X10_odds_b73 l ho hX  FU _ _ _  hf _ _ hM _ (lv_sub hl [2, 3, 4, 5, 6, 7, 1, 0] rfl)
            · replace hf := it_t hf hc47
              refine lv_ldc2 (v := -9223372036854775808) hx hb hown (hts _ q_35_5) dX10_odds_50 ?_
              exact rt_l hX hM (congrArg (fun z => some (Value.long z)) (so_1 hf)) (so_2 hf) dX10_odds_53
      · replace hf := it_t hf hc22
        refine lv_ldc2 (v := -9223372036854775808) hx hb hown (hts _ q_35_5) dX10_odds_25 ?_
        exact rt_l hX hM (congrArg (fun z => some (Value.long z)) (so_1 hf)) (so_2 hf) dX10_odds_28
theorem c_X10_odds (l : Launch) {o : Nat} {a1 : Int32} {a2 : Int32} {a3 : Int32} {a4 : Int32} {a5 : Int32} (ho : knd o = 8) {μ μ2 : Mem} {r : Int64} (hf : f_X10_odds o a1 a2 a3 a4 a5 μ = some (r, μ2)) : CT E l yX10_odds cX10_odds 8 (some .long) (rmF 6 144) [.ref (eA E o), .int a1, .int a2, .int a3, .int a4, .int a5] μ (some (.long r)) μ2 := CT.of (show plainFor yX10_odds = true by decide +kernel) (Nat.le_of_ble_eq_true rfl) rfl (fun _ _ _ _ _ _ _ _ hX hM hl => w_X10_odds l ho hf hX hM hl)
theorem mv_X10_odds : MV yX10_odds cX10_odds 8 (some .long) RX10 5 := ⟨q_41_15, q_41_13, q_41_14, q_1_2, by decide +kernel⟩
def f_X10_mean (o : Nat) (a1 : Int32) (μ : Mem) : Option (Int64 × Mem) :=
  bnd (f_X10_below a1 (2 : Int32) μ) (fun r2 μ1 => (if r2 = 0 then some ((-9223372036854775808 : Int64), μ1) else bnd (f_X10_freshChart o μ1) (fun r4 μ3 => gP (decide (knd r4 = 0)) (bnd (f_X1_squaresReached r4 μ3) (fun r6 μ5 => bnd (f_X1_leastTogether (rf o 2) μ5) (fun r8 μ7 => lt (r8.toInt64 - (r6.toInt64 * (μ7.1 (rf o 0) 9).toInt64)) (fun v9 => bnd (f_X10_fractionPart v9 r6.toInt64 a1 μ7) (fun r11 μ10 => some (r11, μ10)))))))))
set_option maxHeartbeats 4000000 in
set_option maxRecDepth 100000 in
theorem w_X10_mean (l : Launch) {o : Nat} {a1 : Int32} (ho : knd o = 8) {μ μ2 : Mem} {r : Int64} {H : Heap} {locs : List Loc} {ls : Array Slot} (hf : f_X10_mean o a1 μ = some (r, μ2)) (hX : XX E p m meth c cX10_mean 5 (some .long) s args RX10) (hM : MM E s μ H locs) (hl : lv_has ls 5 [(0, .ref (eA E o)), (1, .int a1)]) : W p l e (rmF 6 139) s m args below meth c H locs 0 0 (MQ below (QC E (some (.long r)) μ2) args s 0 0 (AA E)) (F0 m 0 ls []) := by
  obtain ⟨⟨hx, hb, hml, hown, hts⟩, hXr⟩ := id hX
  unfold f_X10_mean at hf
  refine lv_iload_n hx hb dX10_mean_0 rfl (lv_at hl 1 rfl) ?_
  refine lv_iconst (v := 2) hx hb dX10_mean_1 (by decide) ?_
  replace hf := bnd_some hf
  obtain ⟨r2, μ1, h2, hf⟩ := hf
  refine cl_S (As := [.int a1, .int (2 : Int32)]) (rest := []) (st2 := [.int r2]) (n := 2) hX hM (c_X10_below l  h2) mt_X10_below q_8_1 ⟨rfl, rfl⟩ ⟨Nat.le_of_ble_eq_true rfl, Nat.le_of_ble_eq_true rfl⟩ rfl hl.1 rfl (Nat.le_of_ble_eq_true rfl) dX10_mean_2 rfl (fun H locs hM => ?_)
  refine lv_if_ne (tgt := 12) hx hb dX10_mean_5 (by decide) (fun hc5 => ?_) (fun hc5 => ?_)
  · replace hf := it_f hf hc5
    refine lv_aload_n hx hb dX10_mean_12 rfl (lv_at hl 0 rfl) ?_
    replace hf := bnd_some hf
    obtain ⟨r4, μ3, h13, hf⟩ := hf
    replace hf := gP_some hf
    obtain ⟨hzr4, hf⟩ := hf
    replace hzr4 := of_decide_eq_true hzr4
    refine cl_V (As := []) (rest := []) (st2 := [.ref (eA E r4)]) (n := 0) hX hM (c_X10_freshChart l ho h13) mv_X10_freshChart q_12_12 ⟨rfl, rfl⟩ ⟨Nat.le_of_ble_eq_true rfl, Nat.le_of_ble_eq_true rfl⟩ ho (by decide) rfl rfl rfl hl.1 rfl (Nat.le_of_ble_eq_true rfl) dX10_mean_13 rfl (fun H locs hM => ?_)
    replace hf := bnd_some hf
    obtain ⟨r6, μ5, h16, hf⟩ := hf
    refine cl_V (As := []) (rest := []) (st2 := [.int r6]) (n := 0) hX hM (c_X1_squaresReached l hzr4 h16) mv_X1_squaresReached q_16_19 ⟨rfl, rfl⟩ ⟨Nat.le_of_ble_eq_true rfl, Nat.le_of_ble_eq_true rfl⟩ hzr4 (by decide) rfl rfl rfl hl.1 rfl (Nat.le_of_ble_eq_true rfl) dX10_mean_16 rfl (fun H locs hM => ?_)
    refine lv_istore_n (lv' := [(2, .int r6), (0, .ref (eA E o)), (1, .int a1)]) hx hb dX10_mean_19 rfl hl (by decide) rfl (fun ls hl => ?_)
    refine lv_aload_n hx hb dX10_mean_20 rfl (lv_at hl 1 rfl) ?_
    refine gf_8_2 hX hM ho q_2_0 dX10_mean_21 ?_
    replace hf := bnd_some hf
    obtain ⟨r8, μ7, h24, hf⟩ := hf
    refine cl_V (As := []) (rest := []) (st2 := [.int r8]) (n := 0) hX hM (c_X1_leastTogether l (kr_8_2 ho) h24) mv_X1_leastTogether q_42_15 ⟨rfl, rfl⟩ ⟨Nat.le_of_ble_eq_true rfl, Nat.le_of_ble_eq_true rfl⟩ (kr_8_2 ho) (by decide) rfl rfl rfl hl.1 rfl (Nat.le_of_ble_eq_true rfl) dX10_mean_24 rfl (fun H locs hM => ?_)
    refine lv_i2l hx hb dX10_mean_27 rfl ?_
    refine lv_iload_n hx hb dX10_mean_28 rfl (lv_at hl 0 rfl) ?_
    refine lv_i2l hx hb dX10_mean_29 rfl ?_
    refine lv_aload_n hx hb dX10_mean_30 rfl (lv_at hl 1 rfl) ?_
    refine gf_8_0 hX hM ho q_1_16 dX10_mean_31 ?_
    refine gf_4_9 hX hM (kr_8_0 ho) q_29_17 dX10_mean_34 ?_
    refine lv_i2l hx hb dX10_mean_37 rfl ?_
    refine lv_lmul hx hb dX10_mean_38 ?_
    refine lv_lsub hx hb dX10_mean_39 ?_
    refine lv_topl (fun v9 ev9 => ?_)
    replace hf := lt_e ev9 hf
    refine lv_lstore_n (lv' := [(3, .long v9), (2, .int r6), (0, .ref (eA E o)), (1, .int a1)]) hx hb dX10_mean_40 rfl hl (by decide) rfl (fun ls hl => ?_)
    refine lv_lload_n hx hb dX10_mean_41 rfl (lv_at hl 0 rfl) ?_
    refine lv_iload_n hx hb dX10_mean_42 rfl (lv_at hl 1 rfl) ?_
    refine lv_i2l hx hb dX10_mean_43 rfl ?_
    refine lv_iload_n hx hb dX10_mean_44 rfl (lv_at hl 3 rfl) ?_
    replace hf := bnd_some hf
    obtain ⟨r11, μ10, h45, hf⟩ := hf
    refine cl_S (As := [.long v9, .long r6.toInt64, .int a1]) (rest := []) (st2 := [.long r11]) (n := 3) hX hM (c_X10_fractionPart l  h45) mt_X10_fractionPart q_41_18 ⟨rfl, rfl⟩ ⟨Nat.le_of_ble_eq_true rfl, Nat.le_of_ble_eq_true rfl⟩ rfl hl.1 rfl (Nat.le_of_ble_eq_true rfl) dX10_mean_45 rfl (fun H locs hM => ?_)
    exact rt_l hX hM (congrArg (fun z => some (Value.long z)) (so_1 hf)) (so_2 hf) dX10_mean_48
  · replace hf := it_t hf hc5
    refine lv_ldc2 (v := -9223372036854775808) hx hb hown (hts _ q_35_5) dX10_mean_8 ?_
    exact rt_l hX hM (congrArg (fun z => some (Value.long z)) (so_1 hf)) (so_2 hf) dX10_mean_11
theorem c_X10_mean (l : Launch) {o : Nat} {a1 : Int32} (ho : knd o = 8) {μ μ2 : Mem} {r : Int64} (hf : f_X10_mean o a1 μ = some (r, μ2)) : CT E l yX10_mean cX10_mean 5 (some .long) (rmF 6 139) [.ref (eA E o), .int a1] μ (some (.long r)) μ2 := CT.of (show plainFor yX10_mean = true by decide +kernel) (Nat.le_of_ble_eq_true rfl) rfl (fun _ _ _ _ _ _ _ _ hX hM hl => w_X10_mean l ho hf hX hM hl)
theorem mv_X10_mean : MV yX10_mean cX10_mean 5 (some .long) RX10 1 := ⟨q_42_14, q_42_12, q_42_13, q_1_2, by decide +kernel⟩
def f_X10_event_b39 (o : Nat) (a1 : Int32) (a2 : Int32)   (μ : Mem) : Option (Int32 × Mem) :=
  bnd (f_X10_below a2 (8 : Int32) μ) (fun r4 μ3 => (if r4 = 0 then some ((-2 : Int32), μ3) else bnd (f_X5_add (rf (rf o 1) 2) a1 a2 μ3) (fun r6 μ5 => some (r6, μ5))))
set_option maxHeartbeats 4000000 in
set_option maxRecDepth 100000 in
theorem w_X10_event_b39 (l : Launch) {o : Nat} {a1 : Int32} {a2 : Int32} (ho : knd o = 8) {μ2 : Mem} {r : Int32}    {μ : Mem} {H : Heap} {locs : List Loc} {ls : Array Slot}  (hf : f_X10_event_b39 o a1 a2   μ = some (r, μ2)) (hX : XX E p m meth c cX10_event 3 (some .int) s args RX10) (hM : MM E s μ H locs) (hl : lv_has ls 3 [(0, .ref (eA E o)), (1, .int a1), (2, .int a2)]) : W p l e (rmF 1 22) s m args below meth c H locs 0 0 (MQ below (QC E (some (.int r)) μ2) args s 0 0 (AA E)) (F0 m 39 ls []) := by
  obtain ⟨⟨hx, hb, hml, hown, hts⟩, hXr⟩ := id hX
  unfold f_X10_event_b39 at hf
  refine lv_iload_n hx hb dX10_event_39 rfl (lv_at hl 2 rfl) ?_
  refine lv_bipush (v := 8) hx hb dX10_event_40 (by decide) ?_
  replace hf := bnd_some hf
  obtain ⟨r4, μ3, h42, hf⟩ := hf
  refine cl_S (As := [.int a2, .int (8 : Int32)]) (rest := []) (st2 := [.int r4]) (n := 2) hX hM (c_X10_below l  h42) mt_X10_below q_8_1 ⟨rfl, rfl⟩ ⟨Nat.le_of_ble_eq_true rfl, Nat.le_of_ble_eq_true rfl⟩ rfl hl.1 rfl (Nat.le_of_ble_eq_true rfl) dX10_event_42 rfl (fun H locs hM => ?_)
  refine lv_if_ne (tgt := 51) hx hb dX10_event_45 (by decide) (fun hc45 => ?_) (fun hc45 => ?_)
  · replace hf := it_f hf hc45
    refine lv_aload_n hx hb dX10_event_51 rfl (lv_at hl 0 rfl) ?_
    refine gf_8_1 hX hM ho q_1_20 dX10_event_52 ?_
    refine gf_1_2 hX hM (kr_8_1 ho) q_43_7 dX10_event_55 ?_
    refine lv_iload_n hx hb dX10_event_58 rfl (lv_at hl 1 rfl) ?_
    refine lv_iload_n hx hb dX10_event_59 rfl (lv_at hl 2 rfl) ?_
    replace hf := bnd_some hf
    obtain ⟨r6, μ5, h60, hf⟩ := hf
    refine cl_V (As := [.int a1, .int a2]) (rest := []) (st2 := [.int r6]) (n := 2) hX hM (c_X5_add l (kr_1_2 (kr_8_1 ho)) h60) mv_X5_add q_20_18 ⟨rfl, rfl⟩ ⟨Nat.le_of_ble_eq_true rfl, Nat.le_of_ble_eq_true rfl⟩ (kr_1_2 (kr_8_1 ho)) (by decide) rfl rfl rfl hl.1 rfl (Nat.le_of_ble_eq_true rfl) dX10_event_60 rfl (fun H locs hM => ?_)
    exact rt_i hX hM (congrArg (fun z => some (Value.int z)) (so_1 hf)) (so_2 hf) dX10_event_63
  · replace hf := it_t hf hc45
    refine lv_bipush (v := (-2)) hx hb dX10_event_48 (by decide) ?_
    exact rt_i hX hM (congrArg (fun z => some (Value.int z)) (so_1 hf)) (so_2 hf) dX10_event_50
def f_X10_event (o : Nat) (a1 : Int32) (a2 : Int32) (μ : Mem) : Option (Int32 × Mem) :=
  (if a1 = (-1 : Int32) then bnd (f_X5_clear (rf (rf o 1) 2) μ) (fun r10 μ9 => some (r10, μ9)) else bnd (f_X10_below a1 (4 : Int32) μ) (fun r2 μ1 => (if r2 = 0 then some ((-1 : Int32), μ1) else (if a1 = (2 : Int32) then f_X10_event_b39 o a1 a2   μ1 else bnd (f_X10_below a2 (4 : Int32) μ1) (fun r8 μ7 => (if r8 = 0 then some ((-1 : Int32), μ7) else f_X10_event_b39 o a1 a2   μ7))))))
set_option maxHeartbeats 4000000 in
set_option maxRecDepth 100000 in
theorem w_X10_event (l : Launch) {o : Nat} {a1 : Int32} {a2 : Int32} (ho : knd o = 8) {μ μ2 : Mem} {r : Int32} {H : Heap} {locs : List Loc} {ls : Array Slot} (hf : f_X10_event o a1 a2 μ = some (r, μ2)) (hX : XX E p m meth c cX10_event 3 (some .int) s args RX10) (hM : MM E s μ H locs) (hl : lv_has ls 3 [(0, .ref (eA E o)), (1, .int a1), (2, .int a2)]) : W p l e (rmF 1 22) s m args below meth c H locs 0 0 (MQ below (QC E (some (.int r)) μ2) args s 0 0 (AA E)) (F0 m 0 ls []) := by
  obtain ⟨⟨hx, hb, hml, hown, hts⟩, hXr⟩ := id hX
  unfold f_X10_event at hf
  refine lv_iload_n hx hb dX10_event_0 rfl (lv_at hl 1 rfl) ?_
  refine lv_iconst (v := (-1)) hx hb dX10_event_1 (by decide) ?_
  refine lv_icmp_ne (tgt := 16) hx hb dX10_event_2 (by decide) (fun hc2 => ?_) (fun hc2 => ?_)
  · replace hf := it_f hf hc2
    refine lv_iload_n hx hb dX10_event_16 rfl (lv_at hl 1 rfl) ?_
    refine lv_iconst (v := 4) hx hb dX10_event_17 (by decide) ?_
    replace hf := bnd_some hf
    obtain ⟨r2, μ1, h18, hf⟩ := hf
    refine cl_S (As := [.int a1, .int (4 : Int32)]) (rest := []) (st2 := [.int r2]) (n := 2) hX hM (c_X10_below l  h18) mt_X10_below q_8_1 ⟨rfl, rfl⟩ ⟨Nat.le_of_ble_eq_true rfl, Nat.le_of_ble_eq_true rfl⟩ rfl hl.1 rfl (Nat.le_of_ble_eq_true rfl) dX10_event_18 rfl (fun H locs hM => ?_)
    refine lv_if_eq (tgt := 37) hx hb dX10_event_21 (by decide) (fun hc21 => ?_) (fun hc21 => ?_)
    · replace hf := it_t hf hc21
      refine lv_iconst (v := (-1)) hx hb dX10_event_37 (by decide) ?_
      exact rt_i hX hM (congrArg (fun z => some (Value.int z)) (so_1 hf)) (so_2 hf) dX10_event_38
    · replace hf := it_f hf hc21
      refine lv_iload_n hx hb dX10_event_24 rfl (lv_at hl 1 rfl) ?_
      refine lv_iconst (v := 2) hx hb dX10_event_25 (by decide) ?_
      refine lv_icmp_eq (tgt := 39) hx hb dX10_event_26 (by decide) (fun hc26 => ?_) (fun hc26 => ?_)
      · replace hf := it_t hf hc26
        exact w_X10_event_b39 l ho   hf hX hM (lv_sub hl [0, 1, 2] rfl)
      · replace hf := it_f hf hc26
        refine lv_iload_n hx hb dX10_event_29 rfl (lv_at hl 2 rfl) ?_
        refine lv_iconst (v := 4) hx hb dX10_event_30 (by decide) ?_
        replace hf := bnd_some hf
        obtain ⟨r8, μ7, h31, hf⟩ := hf
        refine cl_S (As := [.int a2, .int (4 : Int32)]) (rest := []) (st2 := [.int r8]) (n := 2) hX hM (c_X10_below l  h31) mt_X10_below q_8_1 ⟨rfl, rfl⟩ ⟨Nat.le_of_ble_eq_true rfl, Nat.le_of_ble_eq_true rfl⟩ rfl hl.1 rfl (Nat.le_of_ble_eq_true rfl) dX10_event_31 rfl (fun H locs hM => ?_)
        refine lv_if_ne (tgt := 39) hx hb dX10_event_34 (by decide) (fun hc34 => ?_) (fun hc34 => ?_)
        · replace hf := it_f hf hc34
          exact w_X10_event_b39 l ho   hf hX hM (lv_sub hl [0, 1, 2] rfl)
        · replace hf := it_t hf hc34
          refine lv_iconst (v := (-1)) hx hb dX10_event_37 (by decide) ?_
          exact rt_i hX hM (congrArg (fun z => some (Value.int z)) (so_1 hf)) (so_2 hf) dX10_event_38
  · replace hf := it_t hf hc2
    refine lv_aload_n hx hb dX10_event_5 rfl (lv_at hl 0 rfl) ?_
    refine gf_8_1 hX hM ho q_1_20 dX10_event_6 ?_
    refine gf_1_2 hX hM (kr_8_1 ho) q_43_7 dX10_event_9 ?_
    replace hf := bnd_some hf
    obtain ⟨r10, μ9, h12, hf⟩ := hf
    refine cl_V (As := []) (rest := []) (st2 := [.int r10]) (n := 0) hX hM (c_X5_clear l (kr_1_2 (kr_8_1 ho)) h12) mv_X5_clear q_20_14 ⟨rfl, rfl⟩ ⟨Nat.le_of_ble_eq_true rfl, Nat.le_of_ble_eq_true rfl⟩ (kr_1_2 (kr_8_1 ho)) (by decide) rfl rfl rfl hl.1 rfl (Nat.le_of_ble_eq_true rfl) dX10_event_12 rfl (fun H locs hM => ?_)
    exact rt_i hX hM (congrArg (fun z => some (Value.int z)) (so_1 hf)) (so_2 hf) dX10_event_15
theorem c_X10_event (l : Launch) {o : Nat} {a1 : Int32} {a2 : Int32} (ho : knd o = 8) {μ μ2 : Mem} {r : Int32} (hf : f_X10_event o a1 a2 μ = some (r, μ2)) : CT E l yX10_event cX10_event 3 (some .int) (rmF 1 22) [.ref (eA E o), .int a1, .int a2] μ (some (.int r)) μ2 := CT.of (show plainFor yX10_event = true by decide +kernel) (Nat.le_of_ble_eq_true rfl) rfl (fun _ _ _ _ _ _ _ _ hX hM hl => w_X10_event l ho hf hX hM hl)
theorem mv_X10_event : MV yX10_event cX10_event 3 (some .int) RX10 2 := ⟨q_43_6, q_43_4, q_43_5, q_1_2, by decide +kernel⟩
def f_X10_after (o : Nat) (a1 : Int32) (μ : Mem) : Option (Int32 × Mem) :=
  bnd (f_X10_below a1 (3 : Int32) μ) (fun r2 μ1 => (if r2 = 0 then some ((-1 : Int32), μ1) else bnd (f_X8_undergo (rf o 3) (rf o 0) (rf (rf o 1) 2) μ1) (fun r4 μ3 => gP (decide (knd r4 = 0)) ((if a1 = (1 : Int32) then bnd (f_X1_squaresReached r4 μ3) (fun r10 μ9 => some (r10, μ9)) else (if a1 = (2 : Int32) then bnd (f_X1_leastTogether r4 μ3) (fun r8 μ7 => some (r8, μ7)) else bnd (f_X1_leastOf r4 (35 : Int32) μ3) (fun r6 μ5 => (if r6 = (1000000000 : Int32) then some ((-5 : Int32), μ5) else some (r6, μ5)))))))))
set_option maxHeartbeats 4000000 in
set_option maxRecDepth 100000 in
theorem w_X10_after (l : Launch) {o : Nat} {a1 : Int32} (ho : knd o = 8) {μ μ2 : Mem} {r : Int32} {H : Heap} {locs : List Loc} {ls : Array Slot} (hf : f_X10_after o a1 μ = some (r, μ2)) (hX : XX E p m meth c cX10_after 4 (some .int) s args RX10) (hM : MM E s μ H locs) (hl : lv_has ls 4 [(0, .ref (eA E o)), (1, .int a1)]) : W p l e (rmF 6 142) s m args below meth c H locs 0 0 (MQ below (QC E (some (.int r)) μ2) args s 0 0 (AA E)) (F0 m 0 ls []) := by
  obtain ⟨⟨hx, hb, hml, hown, hts⟩, hXr⟩ := id hX
  unfold f_X10_after at hf
  refine lv_iload_n hx hb dX10_after_0 rfl (lv_at hl 1 rfl) ?_
  refine lv_iconst (v := 3) hx hb dX10_after_1 (by decide) ?_
  replace hf := bnd_some hf
  obtain ⟨r2, μ1, h2, hf⟩ := hf
  refine cl_S (As := [.int a1, .int (3 : Int32)]) (rest := []) (st2 := [.int r2]) (n := 2) hX hM (c_X10_below l  h2) mt_X10_below q_8_1 ⟨rfl, rfl⟩ ⟨Nat.le_of_ble_eq_true rfl, Nat.le_of_ble_eq_true rfl⟩ rfl hl.1 rfl (Nat.le_of_ble_eq_true rfl) dX10_after_2 rfl (fun H locs hM => ?_)
  refine lv_if_ne (tgt := 10) hx hb dX10_after_5 (by decide) (fun hc5 => ?_) (fun hc5 => ?_)
  · replace hf := it_f hf hc5
    refine lv_aload_n hx hb dX10_after_10 rfl (lv_at hl 0 rfl) ?_
    refine gf_8_3 hX hM ho q_2_4 dX10_after_11 ?_
    refine lv_aload_n hx hb dX10_after_14 rfl (lv_at hl 0 rfl) ?_
    refine gf_8_0 hX hM ho q_1_16 dX10_after_15 ?_
    refine lv_aload_n hx hb dX10_after_18 rfl (lv_at hl 0 rfl) ?_
    refine gf_8_1 hX hM ho q_1_20 dX10_after_19 ?_
    refine gf_1_2 hX hM (kr_8_1 ho) q_43_7 dX10_after_22 ?_
    replace hf := bnd_some hf
    obtain ⟨r4, μ3, h25, hf⟩ := hf
    replace hf := gP_some hf
    obtain ⟨hzr4, hf⟩ := hf
    replace hzr4 := of_decide_eq_true hzr4
    refine cl_V (As := [.ref (eA E (rf o 0)), .ref (eA E (rf (rf o 1) 2))]) (rest := []) (st2 := [.ref (eA E r4)]) (n := 2) hX hM (c_X8_undergo l (kr_8_3 ho) (kr_8_0 ho) (kr_1_2 (kr_8_1 ho)) h25) mv_X8_undergo q_43_17 ⟨rfl, rfl⟩ ⟨Nat.le_of_ble_eq_true rfl, Nat.le_of_ble_eq_true rfl⟩ (kr_8_3 ho) (by decide) rfl rfl rfl hl.1 rfl (Nat.le_of_ble_eq_true rfl) dX10_after_25 rfl (fun H locs hM => ?_)
    refine lv_astore_n (lv' := [(2, .ref (eA E r4)), (0, .ref (eA E o)), (1, .int a1)]) hx hb dX10_after_28 rfl hl (by decide) rfl (fun ls hl => ?_)
    refine lv_iload_n hx hb dX10_after_29 rfl (lv_at hl 2 rfl) ?_
    refine lv_iconst (v := 1) hx hb dX10_after_30 (by decide) ?_
    refine lv_icmp_ne (tgt := 39) hx hb dX10_after_31 (by decide) (fun hc31 => ?_) (fun hc31 => ?_)
    · replace hf := it_f hf hc31
      refine lv_iload_n hx hb dX10_after_39 rfl (lv_at hl 2 rfl) ?_
      refine lv_iconst (v := 2) hx hb dX10_after_40 (by decide) ?_
      refine lv_icmp_ne (tgt := 49) hx hb dX10_after_41 (by decide) (fun hc41 => ?_) (fun hc41 => ?_)
      · replace hf := it_f hf hc41
        refine lv_aload_n hx hb dX10_after_49 rfl (lv_at hl 0 rfl) ?_
        refine lv_bipush (v := 35) hx hb dX10_after_50 (by decide) ?_
        replace hf := bnd_some hf
        obtain ⟨r6, μ5, h52, hf⟩ := hf
        refine cl_V (As := [.int (35 : Int32)]) (rest := []) (st2 := [.int r6]) (n := 1) hX hM (c_X1_leastOf l hzr4 h52) mv_X1_leastOf q_30_9 ⟨rfl, rfl⟩ ⟨Nat.le_of_ble_eq_true rfl, Nat.le_of_ble_eq_true rfl⟩ hzr4 (by decide) rfl rfl rfl hl.1 rfl (Nat.le_of_ble_eq_true rfl) dX10_after_52 rfl (fun H locs hM => ?_)
        refine lv_istore_n (lv' := [(3, .int r6), (2, .ref (eA E r4)), (0, .ref (eA E o)), (1, .int a1)]) hx hb dX10_after_55 rfl hl (by decide) rfl (fun ls hl => ?_)
        refine lv_iload_n hx hb dX10_after_56 rfl (lv_at hl 0 rfl) ?_
        refine lv_ldc (v := 1000000000) hx hb hown (hts _ q_31_13) dX10_after_57 ?_
        refine lv_icmp_ne (tgt := 67) hx hb dX10_after_59 (by decide) (fun hc59 => ?_) (fun hc59 => ?_)
        · replace hf := it_f hf hc59
          refine lv_iload_n hx hb dX10_after_67 rfl (lv_at hl 0 rfl) ?_
          exact rt_i hX hM (congrArg (fun z => some (Value.int z)) (so_1 hf)) (so_2 hf) dX10_after_68
        · replace hf := it_t hf hc59
          refine lv_bipush (v := (-5)) hx hb dX10_after_62 (by decide) ?_
          refine lv_goto (tgt := 68) hx hb dX10_after_64 (by decide) ?_
          exact rt_i hX hM (congrArg (fun z => some (Value.int z)) (so_1 hf)) (so_2 hf) dX10_after_68
      · replace hf := it_t hf hc41
        refine lv_aload_n hx hb dX10_after_44 rfl (lv_at hl 0 rfl) ?_
        replace hf := bnd_some hf
        obtain ⟨r8, μ7, h45, hf⟩ := hf
        refine cl_V (As := []) (rest := []) (st2 := [.int r8]) (n := 0) hX hM (c_X1_leastTogether l hzr4 h45) mv_X1_leastTogether q_42_15 ⟨rfl, rfl⟩ ⟨Nat.le_of_ble_eq_true rfl, Nat.le_of_ble_eq_true rfl⟩ hzr4 (by decide) rfl rfl rfl hl.1 rfl (Nat.le_of_ble_eq_true rfl) dX10_after_45 rfl (fun H locs hM => ?_)
        exact rt_i hX hM (congrArg (fun z => some (Value.int z)) (so_1 hf)) (so_2 hf) dX10_after_48
    · replace hf := it_t hf hc31
      refine lv_aload_n hx hb dX10_after_34 rfl (lv_at hl 0 rfl) ?_
      replace hf := bnd_some hf
      obtain ⟨r10, μ9, h35, hf⟩ := hf
      refine cl_V (As := []) (rest := []) (st2 := [.int r10]) (n := 0) hX hM (c_X1_squaresReached l hzr4 h35) mv_X1_squaresReached q_16_19 ⟨rfl, rfl⟩ ⟨Nat.le_of_ble_eq_true rfl, Nat.le_of_ble_eq_true rfl⟩ hzr4 (by decide) rfl rfl rfl hl.1 rfl (Nat.le_of_ble_eq_true rfl) dX10_after_35 rfl (fun H locs hM => ?_)
      exact rt_i hX hM (congrArg (fun z => some (Value.int z)) (so_1 hf)) (so_2 hf) dX10_after_38
  · replace hf := it_t hf hc5
    refine lv_iconst (v := (-1)) hx hb dX10_after_8 (by decide) ?_
    exact rt_i hX hM (congrArg (fun z => some (Value.int z)) (so_1 hf)) (so_2 hf) dX10_after_9
theorem c_X10_after (l : Launch) {o : Nat} {a1 : Int32} (ho : knd o = 8) {μ μ2 : Mem} {r : Int32} (hf : f_X10_after o a1 μ = some (r, μ2)) : CT E l yX10_after cX10_after 4 (some .int) (rmF 6 142) [.ref (eA E o), .int a1] μ (some (.int r)) μ2 := CT.of (show plainFor yX10_after = true by decide +kernel) (Nat.le_of_ble_eq_true rfl) rfl (fun _ _ _ _ _ _ _ _ hX hM hl => w_X10_after l ho hf hX hM hl)
theorem mv_X10_after : MV yX10_after cX10_after 4 (some .int) RX10 1 := ⟨q_43_16, q_43_14, q_43_15, q_1_2, by decide +kernel⟩
def f_X10_book (o : Nat) (a1 : Int32) (a2 : Int32) (μ : Mem) : Option (Int32 × Mem) :=
  bnd (f_X10_tellSquareAndMinute (rf (rf o 1) 3) a1 a2 μ) (fun r2 μ1 => some (r2, μ1))
set_option maxHeartbeats 4000000 in
set_option maxRecDepth 100000 in
theorem w_X10_book (l : Launch) {o : Nat} {a1 : Int32} {a2 : Int32} (ho : knd o = 8) {μ μ2 : Mem} {r : Int32} {H : Heap} {locs : List Loc} {ls : Array Slot} (hf : f_X10_book o a1 a2 μ = some (r, μ2)) (hX : XX E p m meth c cX10_book 3 (some .int) s args RX10) (hM : MM E s μ H locs) (hl : lv_has ls 3 [(0, .ref (eA E o)), (1, .int a1), (2, .int a2)]) : W p l e (rmF 2 44) s m args below meth c H locs 0 0 (MQ below (QC E (some (.int r)) μ2) args s 0 0 (AA E)) (F0 m 0 ls []) := by
  obtain ⟨⟨hx, hb, hml, hown, hts⟩, hXr⟩ := id hX
  unfold f_X10_book at hf
  refine lv_aload_n hx hb dX10_book_0 rfl (lv_at hl 0 rfl) ?_
  refine gf_8_1 hX hM ho q_1_20 dX10_book_1 ?_
  refine gf_1_3 hX hM (kr_8_1 ho) q_45_5 dX10_book_4 ?_
  refine lv_iload_n hx hb dX10_book_7 rfl (lv_at hl 1 rfl) ?_
  refine lv_iload_n hx hb dX10_book_8 rfl (lv_at hl 2 rfl) ?_
  replace hf := bnd_some hf
  obtain ⟨r2, μ1, h9, hf⟩ := hf
  refine cl_S (As := [.ref (eA E (rf (rf o 1) 3)), .int a1, .int a2]) (rest := []) (st2 := [.int r2]) (n := 3) hX hM (c_X10_tellSquareAndMinute l (kr_1_3 (kr_8_1 ho)) h9) mt_X10_tellSquareAndMinute q_39_7 ⟨rfl, rfl⟩ ⟨Nat.le_of_ble_eq_true rfl, Nat.le_of_ble_eq_true rfl⟩ rfl hl.1 rfl (Nat.le_of_ble_eq_true rfl) dX10_book_9 rfl (fun H locs hM => ?_)
  exact rt_i hX hM (congrArg (fun z => some (Value.int z)) (so_1 hf)) (so_2 hf) dX10_book_12
theorem c_X10_book (l : Launch) {o : Nat} {a1 : Int32} {a2 : Int32} (ho : knd o = 8) {μ μ2 : Mem} {r : Int32} (hf : f_X10_book o a1 a2 μ = some (r, μ2)) : CT E l yX10_book cX10_book 3 (some .int) (rmF 2 44) [.ref (eA E o), .int a1, .int a2] μ (some (.int r)) μ2 := CT.of (show plainFor yX10_book = true by decide +kernel) (Nat.le_of_ble_eq_true rfl) rfl (fun _ _ _ _ _ _ _ _ hX hM hl => w_X10_book l ho hf hX hM hl)
theorem mv_X10_book : MV yX10_book cX10_book 3 (some .int) RX10 2 := ⟨q_45_4, q_45_2, q_45_3, q_1_2, by decide +kernel⟩
def f_X10_looked_b2 (o : Nat)  : Nat → Int32 → Mem → Option (Int32 × Mem)
  | 0, _, _ => none
  | n + 1, x1, μ =>
    bnd (f_X5_size (rf (rf o 1) 3) μ) (fun r2 μ1 => (if r2 ≤ x1 then some ((-5 : Int32), μ1) else bnd (f_X10_freshChart o μ1) (fun r4 μ3 => gP (decide (knd r4 = 0)) (bnd (f_X5_first (rf (rf o 1) 3) x1 μ3) (fun r6 μ5 => bnd (f_X1_leastOf r4 r6 μ5) (fun r8 μ7 => bnd (f_X5_second (rf (rf o 1) 3) x1 μ7) (fun r10 μ9 => (if r8 = r10 then lt (x1 + (1 : Int32)) (fun v11 => (f_X10_looked_b2 o  n) v11 μ9) else some (x1, μ9)))))))))
set_option maxHeartbeats 4000000 in
set_option maxRecDepth 100000 in
theorem w_X10_looked_b2 (l : Launch) {o : Nat} (ho : knd o = 8) {μ2 : Mem} {r : Int32}  (hX : XX E p m meth c cX10_looked 2 (some .int) s args RX10)  : ∀ (n : Nat) (x1 : Int32) (μ : Mem), f_X10_looked_b2 o  n x1 μ = some (r, μ2) → ∀ (H : Heap) (locs : List Loc), MM E s μ H locs → ∀ ls : Array Slot, lv_has ls 2 [(0, .ref (eA E o)), (1, .int x1)] → W p l e (rmF 6 139) s m args below meth c H locs 0 0 (MQ below (QC E (some (.int r)) μ2) args s 0 0 (AA E)) (F0 m 2 ls []) := by
  obtain ⟨⟨hx, hb, hml, hown, hts⟩, hXr⟩ := id hX
  intro n
  induction n with
  | zero => intro x1 μ  hf; exact no_none hf
  | succ n ih =>
    intro x1 μ  hf H locs hM ls hl
    rw [f_X10_looked_b2] at hf
    have hK2 := ih
    clear ih
    refine lv_iload_n hx hb dX10_looked_2 rfl (lv_at hl 1 rfl) ?_
    refine lv_aload_n hx hb dX10_looked_3 rfl (lv_at hl 0 rfl) ?_
    refine gf_8_1 hX hM ho q_1_20 dX10_looked_4 ?_
    refine gf_1_3 hX hM (kr_8_1 ho) q_45_5 dX10_looked_7 ?_
    replace hf := bnd_some hf
    obtain ⟨r2, μ1, h10, hf⟩ := hf
    refine cl_V (As := []) (rest := [.int x1]) (st2 := [.int r2, .int x1]) (n := 0) hX hM (c_X5_size l (kr_1_3 (kr_8_1 ho)) h10) mv_X5_size q_35_12 ⟨rfl, rfl⟩ ⟨Nat.le_of_ble_eq_true rfl, Nat.le_of_ble_eq_true rfl⟩ (kr_1_3 (kr_8_1 ho)) (by decide) rfl rfl rfl hl.1 rfl (Nat.le_of_ble_eq_true rfl) dX10_looked_10 rfl (fun H locs hM => ?_)
    refine lv_icmp_ge (tgt := 56) hx hb dX10_looked_13 (by decide) (fun hc13 => ?_) (fun hc13 => ?_)
    · replace hf := it_t hf hc13
      refine lv_bipush (v := (-5)) hx hb dX10_looked_56 (by decide) ?_
      exact rt_i hX hM (congrArg (fun z => some (Value.int z)) (so_1 hf)) (so_2 hf) dX10_looked_58
    · replace hf := it_f hf hc13
      refine lv_aload_n hx hb dX10_looked_16 rfl (lv_at hl 0 rfl) ?_
      replace hf := bnd_some hf
      obtain ⟨r4, μ3, h17, hf⟩ := hf
      replace hf := gP_some hf
      obtain ⟨hzr4, hf⟩ := hf
      replace hzr4 := of_decide_eq_true hzr4
      refine cl_V (As := []) (rest := []) (st2 := [.ref (eA E r4)]) (n := 0) hX hM (c_X10_freshChart l ho h17) mv_X10_freshChart q_12_12 ⟨rfl, rfl⟩ ⟨Nat.le_of_ble_eq_true rfl, Nat.le_of_ble_eq_true rfl⟩ ho (by decide) rfl rfl rfl hl.1 rfl (Nat.le_of_ble_eq_true rfl) dX10_looked_17 rfl (fun H locs hM => ?_)
      refine lv_aload_n hx hb dX10_looked_20 rfl (lv_at hl 0 rfl) ?_
      refine gf_8_1 hX hM ho q_1_20 dX10_looked_21 ?_
      refine gf_1_3 hX hM (kr_8_1 ho) q_45_5 dX10_looked_24 ?_
      refine lv_iload_n hx hb dX10_looked_27 rfl (lv_at hl 1 rfl) ?_
      replace hf := bnd_some hf
      obtain ⟨r6, μ5, h28, hf⟩ := hf
      refine cl_V (As := [.int x1]) (rest := [.ref (eA E r4)]) (st2 := [.int r6, .ref (eA E r4)]) (n := 1) hX hM (c_X5_first l (kr_1_3 (kr_8_1 ho)) h28) mv_X5_first q_35_16 ⟨rfl, rfl⟩ ⟨Nat.le_of_ble_eq_true rfl, Nat.le_of_ble_eq_true rfl⟩ (kr_1_3 (kr_8_1 ho)) (by decide) rfl rfl rfl hl.1 rfl (Nat.le_of_ble_eq_true rfl) dX10_looked_28 rfl (fun H locs hM => ?_)
      replace hf := bnd_some hf
      obtain ⟨r8, μ7, h31, hf⟩ := hf
      refine cl_V (As := [.int r6]) (rest := []) (st2 := [.int r8]) (n := 1) hX hM (c_X1_leastOf l hzr4 h31) mv_X1_leastOf q_30_9 ⟨rfl, rfl⟩ ⟨Nat.le_of_ble_eq_true rfl, Nat.le_of_ble_eq_true rfl⟩ hzr4 (by decide) rfl rfl rfl hl.1 rfl (Nat.le_of_ble_eq_true rfl) dX10_looked_31 rfl (fun H locs hM => ?_)
      refine lv_aload_n hx hb dX10_looked_34 rfl (lv_at hl 0 rfl) ?_
      refine gf_8_1 hX hM ho q_1_20 dX10_looked_35 ?_
      refine gf_1_3 hX hM (kr_8_1 ho) q_45_5 dX10_looked_38 ?_
      refine lv_iload_n hx hb dX10_looked_41 rfl (lv_at hl 1 rfl) ?_
      replace hf := bnd_some hf
      obtain ⟨r10, μ9, h42, hf⟩ := hf
      refine cl_V (As := [.int x1]) (rest := [.int r8]) (st2 := [.int r10, .int r8]) (n := 1) hX hM (c_X5_second l (kr_1_3 (kr_8_1 ho)) h42) mv_X5_second q_45_14 ⟨rfl, rfl⟩ ⟨Nat.le_of_ble_eq_true rfl, Nat.le_of_ble_eq_true rfl⟩ (kr_1_3 (kr_8_1 ho)) (by decide) rfl rfl rfl hl.1 rfl (Nat.le_of_ble_eq_true rfl) dX10_looked_42 rfl (fun H locs hM => ?_)
      refine lv_icmp_eq (tgt := 50) hx hb dX10_looked_45 (by decide) (fun hc45 => ?_) (fun hc45 => ?_)
      · replace hf := it_t hf hc45
        obtain ⟨v11, ev11⟩ : ∃ y : Int32, y = x1 + (1 : Int32) := ⟨_, rfl⟩
        replace hf := lt_e ev11 hf
        refine lv_iinc (v := v11) (lv' := [(1, .int v11), (0, .ref (eA E o))]) hx hb dX10_looked_50 hl (k := 1) rfl (by rw [ev11]; rfl) (by decide) rfl (fun ls hl => ?_)
        refine lv_goto (tgt := 2) hx hb dX10_looked_53 (by decide) ?_
        exact hK2 _ _  hf _ _ hM _ (lv_sub hl [1, 0] rfl)
      · replace hf := it_f hf hc45
        refine lv_iload_n hx hb dX10_looked_48 rfl (lv_at hl 1 rfl) ?_
        exact rt_i hX hM (congrArg (fun z => some (Value.int z)) (so_1 hf)) (so_2 hf) dX10_looked_49
def f_X10_looked (o : Nat) (μ : Mem) : Option (Int32 × Mem) :=
  f_X10_looked_b2 o  FU (0 : Int32) μ
set_option maxHeartbeats 4000000 in
set_option maxRecDepth 100000 in
theorem w_X10_looked (l : Launch) {o : Nat} (ho : knd o = 8) {μ μ2 : Mem} {r : Int32} {H : Heap} {locs : List Loc} {ls : Array Slot} (hf : f_X10_looked o μ = some (r, μ2)) (hX : XX E p m meth c cX10_looked 2 (some .int) s args RX10) (hM : MM E s μ H locs) (hl : lv_has ls 2 [(0, .ref (eA E o))]) : W p l e (rmF 6 139) s m args below meth c H locs 0 0 (MQ below (QC E (some (.int r)) μ2) args s 0 0 (AA E)) (F0 m 0 ls []) := by
  obtain ⟨⟨hx, hb, hml, hown, hts⟩, hXr⟩ := id hX
  unfold f_X10_looked at hf
  refine lv_iconst (v := 0) hx hb dX10_looked_0 (by decide) ?_
  refine lv_istore_n (lv' := [(1, .int (0 : Int32)), (0, .ref (eA E o))]) hx hb dX10_looked_1 rfl hl (by decide) rfl (fun ls hl => ?_)
  exact w_X10_looked_b2 l ho hX  FU _ _  hf _ _ hM _ (lv_sub hl [1, 0] rfl)
theorem c_X10_looked (l : Launch) {o : Nat} (ho : knd o = 8) {μ μ2 : Mem} {r : Int32} (hf : f_X10_looked o μ = some (r, μ2)) : CT E l yX10_looked cX10_looked 2 (some .int) (rmF 6 139) [.ref (eA E o)] μ (some (.int r)) μ2 := CT.of (show plainFor yX10_looked = true by decide +kernel) (Nat.le_of_ble_eq_true rfl) rfl (fun _ _ _ _ _ _ _ _ hX hM hl => w_X10_looked l ho hf hX hM hl)
theorem mv_X10_looked : MV yX10_looked cX10_looked 2 (some .int) RX10 0 := ⟨q_45_13, q_45_11, q_45_12, q_1_2, by decide +kernel⟩
def f_X10_tapeAt (o : Nat) (a1 : Int32) (μ : Mem) : Option (Option Nat × Mem) :=
  bnd (f_X10_below a1 (6 : Int32) μ) (fun r2 μ1 => (if r2 = 0 then some (none, μ1) else gA a1 (aln (rf o 5)) (some (some (rf (rf o 5) a1.toNatClampNeg), μ1))))
set_option maxHeartbeats 4000000 in
set_option maxRecDepth 100000 in
theorem w_X10_tapeAt (l : Launch) {o : Nat} {a1 : Int32} (ho : knd o = 8) {μ μ2 : Mem} {r : Option Nat} {H : Heap} {locs : List Loc} {ls : Array Slot} (hf : f_X10_tapeAt o a1 μ = some (r, μ2)) (hX : XX E p m meth c cX10_tapeAt 2 (some (.object "SailCourses$Tape")) s args RX10) (hM : MM E s μ H locs) (hl : lv_has ls 2 [(0, .ref (eA E o)), (1, .int a1)]) : W p l e (rmF 1 21) s m args below meth c H locs 0 0 (MQ below (QC E (some (nrf E r)) μ2) args s 0 0 (AA E)) (F0 m 0 ls []) := by
  obtain ⟨⟨hx, hb, hml, hown, hts⟩, hXr⟩ := id hX
  unfold f_X10_tapeAt at hf
  refine lv_iload_n hx hb dX10_tapeAt_0 rfl (lv_at hl 1 rfl) ?_
  refine lv_bipush (v := 6) hx hb dX10_tapeAt_1 (by decide) ?_
  replace hf := bnd_some hf
  obtain ⟨r2, μ1, h3, hf⟩ := hf
  refine cl_S (As := [.int a1, .int (6 : Int32)]) (rest := []) (st2 := [.int r2]) (n := 2) hX hM (c_X10_below l  h3) mt_X10_below q_8_1 ⟨rfl, rfl⟩ ⟨Nat.le_of_ble_eq_true rfl, Nat.le_of_ble_eq_true rfl⟩ rfl hl.1 rfl (Nat.le_of_ble_eq_true rfl) dX10_tapeAt_3 rfl (fun H locs hM => ?_)
  refine lv_if_eq (tgt := 18) hx hb dX10_tapeAt_6 (by decide) (fun hc6 => ?_) (fun hc6 => ?_)
  · replace hf := it_t hf hc6
    refine lv_null hx hb dX10_tapeAt_18 ?_
    exact rt_n hX hM (Or.inl ⟨_, rfl⟩) (congrArg (fun z => some (nrf E z)) (so_1 hf)) (so_2 hf) dX10_tapeAt_19
  · replace hf := it_f hf hc6
    refine lv_aload_n hx hb dX10_tapeAt_9 rfl (lv_at hl 0 rfl) ?_
    refine gf_8_5 hX hM ho q_2_10 dX10_tapeAt_10 ?_
    refine lv_iload_n hx hb dX10_tapeAt_13 rfl (lv_at hl 1 rfl) ?_
    replace hf := gA_some hf
    obtain ⟨hi, hf⟩ := hf
    refine ldr hX hM (kr_8_5 ho) hi dX10_tapeAt_14 ?_
    refine lv_goto (tgt := 19) hx hb dX10_tapeAt_15 (by decide) ?_
    exact rt_a hX hM (Or.inl ⟨_, rfl⟩) (congrArg (fun z => some (nrf E z)) (so_1 hf)) (so_2 hf) dX10_tapeAt_19
theorem c_X10_tapeAt (l : Launch) {o : Nat} {a1 : Int32} (ho : knd o = 8) {μ μ2 : Mem} {r : Option Nat} (hf : f_X10_tapeAt o a1 μ = some (r, μ2)) : CT E l yX10_tapeAt cX10_tapeAt 2 (some (.object "SailCourses$Tape")) (rmF 1 21) [.ref (eA E o), .int a1] μ (some (nrf E r)) μ2 := CT.of (show plainFor yX10_tapeAt = true by decide +kernel) (Nat.le_of_ble_eq_true rfl) rfl (fun _ _ _ _ _ _ _ _ hX hM hl => w_X10_tapeAt l ho hf hX hM hl)
theorem mv_X10_tapeAt : MV yX10_tapeAt cX10_tapeAt 2 (some (.object "SailCourses$Tape")) RX10 1 := ⟨q_46_2, q_46_0, q_46_1, q_1_2, by decide +kernel⟩
def f_X10_judge_b103 (o : Nat) (a1 : Int32) (a2 : Int32) (K36 : Nat → Int32 → Mem → Option (Int32 × Mem)) (x3 : Nat) (x4 : Int32) (t0 : Int64) (t1 : Int32) (μ : Mem) : Option (Int32 × Mem) :=
  (if (lg_cmp t0 t1.toInt64) = 0 then lt (x4 + (1 : Int32)) (fun v16 => K36 x3 v16 μ) else some (x4, μ))
set_option maxHeartbeats 4000000 in
set_option maxRecDepth 100000 in
theorem w_X10_judge_b103 (l : Launch) {o : Nat} {a1 : Int32} {a2 : Int32} (ho : knd o = 8) {μ2 : Mem} {r : Int32} {K36 : Nat → Int32 → Mem → Option (Int32 × Mem)} (hK36 : ∀ (x3 : Nat) (x4 : Int32) (μ : Mem), knd x3 = 7 → K36 x3 x4 μ = some (r, μ2) → ∀ (H : Heap) (locs : List Loc), MM E s μ H locs → ∀ ls : Array Slot, lv_has ls 8 [(0, .ref (eA E o)), (1, .int a1), (2, .int a2), (3, .ref (eA E x3)), (4, .int x4)] → W p l e (rmF 6 139) s m args below meth c H locs 0 0 (MQ below (QC E (some (.int r)) μ2) args s 0 0 (AA E)) (F0 m 36 ls [])) {x3 : Nat} {x4 : Int32} {t0 : Int64} {t1 : Int32} {μ : Mem} {H : Heap} {locs : List Loc} {ls : Array Slot} (hx3 : knd x3 = 7) (hf : f_X10_judge_b103 o a1 a2 K36 x3 x4 t0 t1 μ = some (r, μ2)) (hX : XX E p m meth c cX10_judge 8 (some .int) s args RX10) (hM : MM E s μ H locs) (hl : lv_has ls 8 [(0, .ref (eA E o)), (1, .int a1), (2, .int a2), (3, .ref (eA E x3)), (4, .int x4)]) : W p l e (rmF 6 139) s m args below meth c H locs 0 0 (MQ below (QC E (some (.int r)) μ2) args s 0 0 (AA E)) (F0 m 103 ls [.int t1, .long t0]) := by
  obtain ⟨⟨hx, hb, hml, hown, hts⟩, hXr⟩ := id hX
  unfold f_X10_judge_b103 at hf
  refine lv_i2l hx hb dX10_judge_103 rfl ?_
  refine W.lcmp hx hb dX10_judge_104 ?_
  refine lv_if_eq (tgt := 111) hx hb dX10_judge_105 (by decide) (fun hc105 => ?_) (fun hc105 => ?_)
  · replace hf := it_t hf hc105
    obtain ⟨v16, ev16⟩ : ∃ y : Int32, y = x4 + (1 : Int32) := ⟨_, rfl⟩
    replace hf := lt_e ev16 hf
    refine lv_iinc (v := v16) (lv' := [(4, .int v16), (0, .ref (eA E o)), (1, .int a1), (2, .int a2), (3, .ref (eA E x3))]) hx hb dX10_judge_111 hl (k := 4) rfl (by rw [ev16]; rfl) (by decide) rfl (fun ls hl => ?_)
    refine lv_goto (tgt := 36) hx hb dX10_judge_114 (by decide) ?_
    exact hK36 _ _ _ hx3 hf _ _ hM _ (lv_sub hl [1, 2, 3, 4, 0] rfl)
  · replace hf := it_f hf hc105
    refine lv_iload hx hb dX10_judge_108 (lv_at hl 4 rfl) ?_
    exact rt_i hX hM (congrArg (fun z => some (Value.int z)) (so_1 hf)) (so_2 hf) dX10_judge_110
def f_X10_judge_b36 (o : Nat) (a1 : Int32) (a2 : Int32)  : Nat → Nat → Int32 → Mem → Option (Int32 × Mem)
  | 0, _, _, _ => none
  | n + 1, x3, x4, μ =>
    (if (36 : Int32) ≤ x4 then some ((-5 : Int32), μ) else lt (a2.toInt64 + x4.toInt64) (fun v7 => (if a2 < 0 then some (((100 : Int32) + x4), μ) else bnd (f_X9_length x3 μ) (fun r9 μ8 => (if (lg_cmp v7 r9.toInt64) < 0 then bnd (f_X10_freshChart o μ8) (fun r11 μ10 => gP (decide (knd r11 = 0)) (bnd (f_X1_leastOf r11 x4 μ10) (fun r13 μ12 => bnd (f_X9_get x3 v7.toInt32 μ12) (fun r15 μ14 => (if r13 = (1000000000 : Int32) then f_X10_judge_b103 o a1 a2 (f_X10_judge_b36 o a1 a2  n) x3 x4 r15 (-1 : Int32) μ14 else f_X10_judge_b103 o a1 a2 (f_X10_judge_b36 o a1 a2  n) x3 x4 r15 r13 μ14))))) else some (((100 : Int32) + x4), μ8))))))
set_option maxHeartbeats 4000000 in
set_option maxRecDepth 100000 in
theorem w_X10_judge_b36 (l : Launch) {o : Nat} {a1 : Int32} {a2 : Int32} (ho : knd o = 8) {μ2 : Mem} {r : Int32}  (hX : XX E p m meth c cX10_judge 8 (some .int) s args RX10)  : ∀ (n : Nat) (x3 : Nat) (x4 : Int32) (μ : Mem), knd x3 = 7 → f_X10_judge_b36 o a1 a2  n x3 x4 μ = some (r, μ2) → ∀ (H : Heap) (locs : List Loc), MM E s μ H locs → ∀ ls : Array Slot, lv_has ls 8 [(0, .ref (eA E o)), (1, .int a1), (2, .int a2), (3, .ref (eA E x3)), (4, .int x4)] → W p l e (rmF 6 139) s m args below meth c H locs 0 0 (MQ below (QC E (some (.int r)) μ2) args s 0 0 (AA E)) (F0 m 36 ls []) := by
  obtain ⟨⟨hx, hb, hml, hown, hts⟩, hXr⟩ := id hX
  intro n
  induction n with
  | zero => intro x3 x4 μ hx3 hf; exact no_none hf
  | succ n ih =>
    intro x3 x4 μ hx3 hf H locs hM ls hl
    rw [f_X10_judge_b36] at hf
    have hK36 := ih
    clear ih
    refine lv_iload hx hb dX10_judge_36 (lv_at hl 4 rfl) ?_
    refine lv_bipush (v := 36) hx hb dX10_judge_38 (by decide) ?_
    refine lv_icmp_ge (tgt := 117) hx hb dX10_judge_40 (by decide) (fun hc40 => ?_) (fun hc40 => ?_)
    · replace hf := it_t hf hc40
      refine lv_bipush (v := (-5)) hx hb dX10_judge_117 (by decide) ?_
      exact rt_i hX hM (congrArg (fun z => some (Value.int z)) (so_1 hf)) (so_2 hf) dX10_judge_119
    · replace hf := it_f hf hc40
      refine lv_iload_n hx hb dX10_judge_43 rfl (lv_at hl 2 rfl) ?_
      refine lv_i2l hx hb dX10_judge_44 rfl ?_
      refine lv_iload hx hb dX10_judge_45 (lv_at hl 4 rfl) ?_
      refine lv_i2l hx hb dX10_judge_47 rfl ?_
      refine lv_ladd hx hb dX10_judge_48 ?_
      refine lv_topl (fun v7 ev7 => ?_)
      replace hf := lt_e ev7 hf
      refine lv_lstore (lv' := [(5, .long v7), (0, .ref (eA E o)), (1, .int a1), (2, .int a2), (3, .ref (eA E x3)), (4, .int x4)]) hx hb dX10_judge_49 hl (by decide) rfl (fun ls hl => ?_)
      refine lv_iload_n hx hb dX10_judge_51 rfl (lv_at hl 3 rfl) ?_
      refine lv_if_lt (tgt := 66) hx hb dX10_judge_52 (by decide) (fun hc52 => ?_) (fun hc52 => ?_)
      · replace hf := it_t hf hc52
        refine lv_bipush (v := 100) hx hb dX10_judge_66 (by decide) ?_
        refine lv_iload hx hb dX10_judge_68 (lv_at hl 5 rfl) ?_
        refine lv_iadd hx hb dX10_judge_70 ?_
        exact rt_i hX hM (congrArg (fun z => some (Value.int z)) (so_1 hf)) (so_2 hf) dX10_judge_71
      · replace hf := it_f hf hc52
        refine lv_lload hx hb dX10_judge_55 (lv_at hl 0 rfl) ?_
        refine lv_aload_n hx hb dX10_judge_57 rfl (lv_at hl 4 rfl) ?_
        replace hf := bnd_some hf
        obtain ⟨r9, μ8, h58, hf⟩ := hf
        refine cl_V (As := []) (rest := [.long v7]) (st2 := [.int r9, .long v7]) (n := 0) hX hM (c_X9_length l hx3 h58) mv_X9_length q_46_11 ⟨rfl, rfl⟩ ⟨Nat.le_of_ble_eq_true rfl, Nat.le_of_ble_eq_true rfl⟩ hx3 (by decide) rfl rfl rfl hl.1 rfl (Nat.le_of_ble_eq_true rfl) dX10_judge_58 rfl (fun H locs hM => ?_)
        refine lv_i2l hx hb dX10_judge_61 rfl ?_
        refine W.lcmp hx hb dX10_judge_62 ?_
        refine lv_if_lt (tgt := 72) hx hb dX10_judge_63 (by decide) (fun hc63 => ?_) (fun hc63 => ?_)
        · replace hf := it_t hf hc63
          refine lv_aload_n hx hb dX10_judge_72 rfl (lv_at hl 1 rfl) ?_
          replace hf := bnd_some hf
          obtain ⟨r11, μ10, h73, hf⟩ := hf
          replace hf := gP_some hf
          obtain ⟨hzr11, hf⟩ := hf
          replace hzr11 := of_decide_eq_true hzr11
          refine cl_V (As := []) (rest := []) (st2 := [.ref (eA E r11)]) (n := 0) hX hM (c_X10_freshChart l ho h73) mv_X10_freshChart q_12_12 ⟨rfl, rfl⟩ ⟨Nat.le_of_ble_eq_true rfl, Nat.le_of_ble_eq_true rfl⟩ ho (by decide) rfl rfl rfl hl.1 rfl (Nat.le_of_ble_eq_true rfl) dX10_judge_73 rfl (fun H locs hM => ?_)
          refine lv_iload hx hb dX10_judge_76 (lv_at hl 5 rfl) ?_
          replace hf := bnd_some hf
          obtain ⟨r13, μ12, h78, hf⟩ := hf
          refine cl_V (As := [.int x4]) (rest := []) (st2 := [.int r13]) (n := 1) hX hM (c_X1_leastOf l hzr11 h78) mv_X1_leastOf q_30_9 ⟨rfl, rfl⟩ ⟨Nat.le_of_ble_eq_true rfl, Nat.le_of_ble_eq_true rfl⟩ hzr11 (by decide) rfl rfl rfl hl.1 rfl (Nat.le_of_ble_eq_true rfl) dX10_judge_78 rfl (fun H locs hM => ?_)
          refine lv_istore (lv' := [(7, .int r13), (5, .long v7), (0, .ref (eA E o)), (1, .int a1), (2, .int a2), (3, .ref (eA E x3)), (4, .int x4)]) hx hb dX10_judge_81 hl (by decide) rfl (fun ls hl => ?_)
          refine lv_aload_n hx hb dX10_judge_83 rfl (lv_at hl 5 rfl) ?_
          refine lv_lload hx hb dX10_judge_84 (lv_at hl 1 rfl) ?_
          refine lv_l2i hx hb dX10_judge_86 rfl ?_
          replace hf := bnd_some hf
          obtain ⟨r15, μ14, h87, hf⟩ := hf
          refine cl_V (As := [.int v7.toInt32]) (rest := []) (st2 := [.long r15]) (n := 1) hX hM (c_X9_get l hx3 h87) mv_X9_get q_46_15 ⟨rfl, rfl⟩ ⟨Nat.le_of_ble_eq_true rfl, Nat.le_of_ble_eq_true rfl⟩ hx3 (by decide) rfl rfl rfl hl.1 rfl (Nat.le_of_ble_eq_true rfl) dX10_judge_87 rfl (fun H locs hM => ?_)
          refine lv_iload hx hb dX10_judge_90 (lv_at hl 0 rfl) ?_
          refine lv_ldc (v := 1000000000) hx hb hown (hts _ q_31_13) dX10_judge_92 ?_
          refine lv_icmp_ne (tgt := 101) hx hb dX10_judge_94 (by decide) (fun hc94 => ?_) (fun hc94 => ?_)
          · replace hf := it_f hf hc94
            refine lv_iload hx hb dX10_judge_101 (lv_at hl 0 rfl) ?_
            exact w_X10_judge_b103 l ho hK36 hx3 hf hX hM (lv_sub hl [2, 3, 4, 5, 6] rfl)
          · replace hf := it_t hf hc94
            refine lv_iconst (v := (-1)) hx hb dX10_judge_97 (by decide) ?_
            refine lv_goto (tgt := 103) hx hb dX10_judge_98 (by decide) ?_
            exact w_X10_judge_b103 l ho hK36 hx3 hf hX hM (lv_sub hl [2, 3, 4, 5, 6] rfl)
        · replace hf := it_f hf hc63
          refine lv_bipush (v := 100) hx hb dX10_judge_66 (by decide) ?_
          refine lv_iload hx hb dX10_judge_68 (lv_at hl 5 rfl) ?_
          refine lv_iadd hx hb dX10_judge_70 ?_
          exact rt_i hX hM (congrArg (fun z => some (Value.int z)) (so_1 hf)) (so_2 hf) dX10_judge_71
def f_X10_judge (o : Nat) (a1 : Int32) (a2 : Int32) (μ : Mem) : Option (Int32 × Mem) :=
  bnd (f_X10_tapeAt o a1 μ) (fun r2 μ1 => cs r2 7 (some ((-1 : Int32), μ1)) (fun jr2 => bnd (f_X9_holdsNothing jr2 μ1) (fun r4 μ3 => (if r4 = 0 then bnd (f_X9_sort jr2 μ3) (fun r6 μ5 => (if r6 = (2 : Int32) then f_X10_judge_b36 o a1 a2  FU jr2 (0 : Int32) μ5 else some ((-12 : Int32), μ5))) else some ((100 : Int32), μ3)))))
set_option maxHeartbeats 4000000 in
set_option maxRecDepth 100000 in
theorem w_X10_judge (l : Launch) {o : Nat} {a1 : Int32} {a2 : Int32} (ho : knd o = 8) {μ μ2 : Mem} {r : Int32} {H : Heap} {locs : List Loc} {ls : Array Slot} (hf : f_X10_judge o a1 a2 μ = some (r, μ2)) (hX : XX E p m meth c cX10_judge 8 (some .int) s args RX10) (hM : MM E s μ H locs) (hl : lv_has ls 8 [(0, .ref (eA E o)), (1, .int a1), (2, .int a2)]) : W p l e (rmF 6 139) s m args below meth c H locs 0 0 (MQ below (QC E (some (.int r)) μ2) args s 0 0 (AA E)) (F0 m 0 ls []) := by
  obtain ⟨⟨hx, hb, hml, hown, hts⟩, hXr⟩ := id hX
  unfold f_X10_judge at hf
  refine lv_aload_n hx hb dX10_judge_0 rfl (lv_at hl 0 rfl) ?_
  refine lv_iload_n hx hb dX10_judge_1 rfl (lv_at hl 1 rfl) ?_
  replace hf := bnd_some hf
  obtain ⟨r2, μ1, h2, hf⟩ := hf
  replace hf := cs_some hf
  rcases hf with ⟨her2, hf⟩ | ⟨jr2, hjr2, her2, hf⟩
  · subst her2
    refine cl_V (As := [.int a1]) (rest := []) (st2 := [.null]) (n := 1) hX hM (c_X10_tapeAt l ho h2) mv_X10_tapeAt q_45_23 ⟨rfl, rfl⟩ ⟨Nat.le_of_ble_eq_true rfl, Nat.le_of_ble_eq_true rfl⟩ ho (by decide) rfl rfl rfl hl.1 rfl (Nat.le_of_ble_eq_true rfl) dX10_judge_2 rfl (fun H locs hM => ?_)
    refine lv_astore_nN (lv' := [(3, .null), (0, .ref (eA E o)), (1, .int a1), (2, .int a2)]) hx hb dX10_judge_5 rfl hl (by decide) rfl (fun ls hl => ?_)
    refine lv_aload_nN hx hb dX10_judge_6 rfl (lv_at hl 0 rfl) ?_
    refine lv_ifnonnullN hx hb dX10_judge_7 ?_
    refine lv_iconst (v := (-1)) hx hb dX10_judge_10 (by decide) ?_
    exact rt_i hX hM (congrArg (fun z => some (Value.int z)) (so_1 hf)) (so_2 hf) dX10_judge_11
  · subst her2
    refine cl_V (As := [.int a1]) (rest := []) (st2 := [.ref (eA E jr2)]) (n := 1) hX hM (c_X10_tapeAt l ho h2) mv_X10_tapeAt q_45_23 ⟨rfl, rfl⟩ ⟨Nat.le_of_ble_eq_true rfl, Nat.le_of_ble_eq_true rfl⟩ ho (by decide) rfl rfl rfl hl.1 rfl (Nat.le_of_ble_eq_true rfl) dX10_judge_2 rfl (fun H locs hM => ?_)
    refine lv_astore_n (lv' := [(3, .ref (eA E jr2)), (0, .ref (eA E o)), (1, .int a1), (2, .int a2)]) hx hb dX10_judge_5 rfl hl (by decide) rfl (fun ls hl => ?_)
    refine lv_aload_n hx hb dX10_judge_6 rfl (lv_at hl 0 rfl) ?_
    refine lv_ifnonnull (tgt := 12) hx hb dX10_judge_7 (by decide) ?_
    refine lv_aload_n hx hb dX10_judge_12 rfl (lv_at hl 0 rfl) ?_
    replace hf := bnd_some hf
    obtain ⟨r4, μ3, h13, hf⟩ := hf
    refine cl_V (As := []) (rest := []) (st2 := [.int r4]) (n := 0) hX hM (c_X9_holdsNothing l hjr2 h13) mv_X9_holdsNothing q_46_3 ⟨rfl, rfl⟩ ⟨Nat.le_of_ble_eq_true rfl, Nat.le_of_ble_eq_true rfl⟩ hjr2 (by decide) rfl rfl rfl hl.1 rfl (Nat.le_of_ble_eq_true rfl) dX10_judge_13 rfl (fun H locs hM => ?_)
    refine lv_if_eq (tgt := 22) hx hb dX10_judge_16 (by decide) (fun hc16 => ?_) (fun hc16 => ?_)
    · replace hf := it_t hf hc16
      refine lv_aload_n hx hb dX10_judge_22 rfl (lv_at hl 0 rfl) ?_
      replace hf := bnd_some hf
      obtain ⟨r6, μ5, h23, hf⟩ := hf
      refine cl_V (As := []) (rest := []) (st2 := [.int r6]) (n := 0) hX hM (c_X9_sort l hjr2 h23) mv_X9_sort q_46_7 ⟨rfl, rfl⟩ ⟨Nat.le_of_ble_eq_true rfl, Nat.le_of_ble_eq_true rfl⟩ hjr2 (by decide) rfl rfl rfl hl.1 rfl (Nat.le_of_ble_eq_true rfl) dX10_judge_23 rfl (fun H locs hM => ?_)
      refine lv_iconst (v := 2) hx hb dX10_judge_26 (by decide) ?_
      refine lv_icmp_eq (tgt := 33) hx hb dX10_judge_27 (by decide) (fun hc27 => ?_) (fun hc27 => ?_)
      · replace hf := it_t hf hc27
        refine lv_iconst (v := 0) hx hb dX10_judge_33 (by decide) ?_
        refine lv_istore (lv' := [(4, .int (0 : Int32)), (3, .ref (eA E jr2)), (0, .ref (eA E o)), (1, .int a1), (2, .int a2)]) hx hb dX10_judge_34 hl (by decide) rfl (fun ls hl => ?_)
        exact w_X10_judge_b36 l ho hX  FU _ _ _ hjr2 hf _ _ hM _ (lv_sub hl [2, 3, 4, 1, 0] rfl)
      · replace hf := it_f hf hc27
        refine lv_bipush (v := (-12)) hx hb dX10_judge_30 (by decide) ?_
        exact rt_i hX hM (congrArg (fun z => some (Value.int z)) (so_1 hf)) (so_2 hf) dX10_judge_32
    · replace hf := it_f hf hc16
      refine lv_bipush (v := 100) hx hb dX10_judge_19 (by decide) ?_
      exact rt_i hX hM (congrArg (fun z => some (Value.int z)) (so_1 hf)) (so_2 hf) dX10_judge_21
theorem c_X10_judge (l : Launch) {o : Nat} {a1 : Int32} {a2 : Int32} (ho : knd o = 8) {μ μ2 : Mem} {r : Int32} (hf : f_X10_judge o a1 a2 μ = some (r, μ2)) : CT E l yX10_judge cX10_judge 8 (some .int) (rmF 6 139) [.ref (eA E o), .int a1, .int a2] μ (some (.int r)) μ2 := CT.of (show plainFor yX10_judge = true by decide +kernel) (Nat.le_of_ble_eq_true rfl) rfl (fun _ _ _ _ _ _ _ _ hX hM hl => w_X10_judge l ho hf hX hM hl)
theorem mv_X10_judge : MV yX10_judge cX10_judge 8 (some .int) RX10 2 := ⟨q_45_22, q_45_20, q_45_21, q_1_2, by decide +kernel⟩
def f_X10_image (o : Nat) (μ : Mem) : Option (Int32 × Mem) :=
  bnv (f_X6_becomeLike (rf o 6) (rf o 0) μ) (fun μ1 => bnv (f_X3_becomeLike (rf o 7) (rf o 1) μ1) (fun μ2 => lt (sI μ2 o 8 (1 : Int32)) (fun μ3 => bnd (f_X6_landCount (rf o 0) μ3) (fun r5 μ4 => some (r5, μ4)))))
set_option maxHeartbeats 4000000 in
set_option maxRecDepth 100000 in
theorem w_X10_image (l : Launch) {o : Nat} (ho : knd o = 8) {μ μ2 : Mem} {r : Int32} {H : Heap} {locs : List Loc} {ls : Array Slot} (hf : f_X10_image o μ = some (r, μ2)) (hX : XX E p m meth c cX10_image 1 (some .int) s args RX10) (hM : MM E s μ H locs) (hl : lv_has ls 1 [(0, .ref (eA E o))]) : W p l e (rmF 3 65) s m args below meth c H locs 0 0 (MQ below (QC E (some (.int r)) μ2) args s 0 0 (AA E)) (F0 m 0 ls []) := by
  obtain ⟨⟨hx, hb, hml, hown, hts⟩, hXr⟩ := id hX
  unfold f_X10_image at hf
  refine lv_aload_n hx hb dX10_image_0 rfl (lv_at hl 0 rfl) ?_
  refine gf_8_6 hX hM ho q_2_11 dX10_image_1 ?_
  refine lv_aload_n hx hb dX10_image_4 rfl (lv_at hl 0 rfl) ?_
  refine gf_8_0 hX hM ho q_1_16 dX10_image_5 ?_
  replace hf := bnv_some hf
  obtain ⟨μ1, h8, hf⟩ := hf
  refine cl_V (As := [.ref (eA E (rf o 0))]) (rest := []) (st2 := []) (n := 1) hX hM (c_X6_becomeLike l (kr_8_6 ho) (kr_8_0 ho) h8) mv_X6_becomeLike q_47_7 ⟨rfl, rfl⟩ ⟨Nat.le_of_ble_eq_true rfl, Nat.le_of_ble_eq_true rfl⟩ (kr_8_6 ho) (by decide) rfl rfl rfl hl.1 rfl (Nat.le_of_ble_eq_true rfl) dX10_image_8 rfl (fun H locs hM => ?_)
  refine lv_aload_n hx hb dX10_image_11 rfl (lv_at hl 0 rfl) ?_
  refine gf_8_7 hX hM ho q_2_12 dX10_image_12 ?_
  refine lv_aload_n hx hb dX10_image_15 rfl (lv_at hl 0 rfl) ?_
  refine gf_8_1 hX hM ho q_1_20 dX10_image_16 ?_
  replace hf := bnv_some hf
  obtain ⟨μ2, h19, hf⟩ := hf
  refine cl_V (As := [.ref (eA E (rf o 1))]) (rest := []) (st2 := []) (n := 1) hX hM (c_X3_becomeLike l (kr_8_7 ho) (kr_8_1 ho) h19) mv_X3_becomeLike q_47_8 ⟨rfl, rfl⟩ ⟨Nat.le_of_ble_eq_true rfl, Nat.le_of_ble_eq_true rfl⟩ (kr_8_7 ho) (by decide) rfl rfl rfl hl.1 rfl (Nat.le_of_ble_eq_true rfl) dX10_image_19 rfl (fun H locs hM => ?_)
  refine lv_aload_n hx hb dX10_image_22 rfl (lv_at hl 0 rfl) ?_
  refine lv_iconst (v := 1) hx hb dX10_image_23 (by decide) ?_
  refine pf_8_8 hX hM ho q_2_13 rfl rfl dX10_image_24 (fun μ3 H locs eμ3 hM => ?_)
  replace hf := lt_e eμ3 hf
  refine lv_aload_n hx hb dX10_image_27 rfl (lv_at hl 0 rfl) ?_
  refine gf_8_0 hX hM ho q_1_16 dX10_image_28 ?_
  replace hf := bnd_some hf
  obtain ⟨r5, μ4, h31, hf⟩ := hf
  refine cl_V (As := []) (rest := []) (st2 := [.int r5]) (n := 0) hX hM (c_X6_landCount l (kr_8_0 ho) h31) mv_X6_landCount q_29_18 ⟨rfl, rfl⟩ ⟨Nat.le_of_ble_eq_true rfl, Nat.le_of_ble_eq_true rfl⟩ (kr_8_0 ho) (by decide) rfl rfl rfl hl.1 rfl (Nat.le_of_ble_eq_true rfl) dX10_image_31 rfl (fun H locs hM => ?_)
  exact rt_i hX hM (congrArg (fun z => some (Value.int z)) (so_1 hf)) (so_2 hf) dX10_image_34
theorem c_X10_image (l : Launch) {o : Nat} (ho : knd o = 8) {μ μ2 : Mem} {r : Int32} (hf : f_X10_image o μ = some (r, μ2)) : CT E l yX10_image cX10_image 1 (some .int) (rmF 3 65) [.ref (eA E o)] μ (some (.int r)) μ2 := CT.of (show plainFor yX10_image = true by decide +kernel) (Nat.le_of_ble_eq_true rfl) rfl (fun _ _ _ _ _ _ _ _ hX hM hl => w_X10_image l ho hf hX hM hl)
theorem mv_X10_image : MV yX10_image cX10_image 1 (some .int) RX10 0 := ⟨q_47_6, q_47_4, q_47_5, q_1_2, by decide +kernel⟩
def f_X10_undo (o : Nat) (μ : Mem) : Option (Int32 × Mem) :=
  (if (μ.1 o 8) = 0 then some ((-3 : Int32), μ) else bnv (f_X6_becomeLike (rf o 0) (rf o 6) μ) (fun μ1 => bnv (f_X3_becomeLike (rf o 1) (rf o 7) μ1) (fun μ2 => bnd (f_X6_landCount (rf o 0) μ2) (fun r4 μ3 => some (r4, μ3)))))
set_option maxHeartbeats 4000000 in
set_option maxRecDepth 100000 in
theorem w_X10_undo (l : Launch) {o : Nat} (ho : knd o = 8) {μ μ2 : Mem} {r : Int32} {H : Heap} {locs : List Loc} {ls : Array Slot} (hf : f_X10_undo o μ = some (r, μ2)) (hX : XX E p m meth c cX10_undo 1 (some .int) s args RX10) (hM : MM E s μ H locs) (hl : lv_has ls 1 [(0, .ref (eA E o))]) : W p l e (rmF 3 65) s m args below meth c H locs 0 0 (MQ below (QC E (some (.int r)) μ2) args s 0 0 (AA E)) (F0 m 0 ls []) := by
  obtain ⟨⟨hx, hb, hml, hown, hts⟩, hXr⟩ := id hX
  unfold f_X10_undo at hf
  refine lv_aload_n hx hb dX10_undo_0 rfl (lv_at hl 0 rfl) ?_
  refine gf_8_8 hX hM ho q_2_13 dX10_undo_1 ?_
  refine lv_if_ne (tgt := 10) hx hb dX10_undo_4 (by decide) (fun hc4 => ?_) (fun hc4 => ?_)
  · replace hf := it_f hf hc4
    refine lv_aload_n hx hb dX10_undo_10 rfl (lv_at hl 0 rfl) ?_
    refine gf_8_0 hX hM ho q_1_16 dX10_undo_11 ?_
    refine lv_aload_n hx hb dX10_undo_14 rfl (lv_at hl 0 rfl) ?_
    refine gf_8_6 hX hM ho q_2_11 dX10_undo_15 ?_
    replace hf := bnv_some hf
    obtain ⟨μ1, h18, hf⟩ := hf
    refine cl_V (As := [.ref (eA E (rf o 6))]) (rest := []) (st2 := []) (n := 1) hX hM (c_X6_becomeLike l (kr_8_0 ho) (kr_8_6 ho) h18) mv_X6_becomeLike q_47_7 ⟨rfl, rfl⟩ ⟨Nat.le_of_ble_eq_true rfl, Nat.le_of_ble_eq_true rfl⟩ (kr_8_0 ho) (by decide) rfl rfl rfl hl.1 rfl (Nat.le_of_ble_eq_true rfl) dX10_undo_18 rfl (fun H locs hM => ?_)
    refine lv_aload_n hx hb dX10_undo_21 rfl (lv_at hl 0 rfl) ?_
    refine gf_8_1 hX hM ho q_1_20 dX10_undo_22 ?_
    refine lv_aload_n hx hb dX10_undo_25 rfl (lv_at hl 0 rfl) ?_
    refine gf_8_7 hX hM ho q_2_12 dX10_undo_26 ?_
    replace hf := bnv_some hf
    obtain ⟨μ2, h29, hf⟩ := hf
    refine cl_V (As := [.ref (eA E (rf o 7))]) (rest := []) (st2 := []) (n := 1) hX hM (c_X3_becomeLike l (kr_8_1 ho) (kr_8_7 ho) h29) mv_X3_becomeLike q_47_8 ⟨rfl, rfl⟩ ⟨Nat.le_of_ble_eq_true rfl, Nat.le_of_ble_eq_true rfl⟩ (kr_8_1 ho) (by decide) rfl rfl rfl hl.1 rfl (Nat.le_of_ble_eq_true rfl) dX10_undo_29 rfl (fun H locs hM => ?_)
    refine lv_aload_n hx hb dX10_undo_32 rfl (lv_at hl 0 rfl) ?_
    refine gf_8_0 hX hM ho q_1_16 dX10_undo_33 ?_
    replace hf := bnd_some hf
    obtain ⟨r4, μ3, h36, hf⟩ := hf
    refine cl_V (As := []) (rest := []) (st2 := [.int r4]) (n := 0) hX hM (c_X6_landCount l (kr_8_0 ho) h36) mv_X6_landCount q_29_18 ⟨rfl, rfl⟩ ⟨Nat.le_of_ble_eq_true rfl, Nat.le_of_ble_eq_true rfl⟩ (kr_8_0 ho) (by decide) rfl rfl rfl hl.1 rfl (Nat.le_of_ble_eq_true rfl) dX10_undo_36 rfl (fun H locs hM => ?_)
    exact rt_i hX hM (congrArg (fun z => some (Value.int z)) (so_1 hf)) (so_2 hf) dX10_undo_39
  · replace hf := it_t hf hc4
    refine lv_bipush (v := (-3)) hx hb dX10_undo_7 (by decide) ?_
    exact rt_i hX hM (congrArg (fun z => some (Value.int z)) (so_1 hf)) (so_2 hf) dX10_undo_9
theorem c_X10_undo (l : Launch) {o : Nat} (ho : knd o = 8) {μ μ2 : Mem} {r : Int32} (hf : f_X10_undo o μ = some (r, μ2)) : CT E l yX10_undo cX10_undo 1 (some .int) (rmF 3 65) [.ref (eA E o)] μ (some (.int r)) μ2 := CT.of (show plainFor yX10_undo = true by decide +kernel) (Nat.le_of_ble_eq_true rfl) rfl (fun _ _ _ _ _ _ _ _ hX hM hl => w_X10_undo l ho hf hX hM hl)
theorem mv_X10_undo : MV yX10_undo cX10_undo 1 (some .int) RX10 0 := ⟨q_48_2, q_48_0, q_48_1, q_1_2, by decide +kernel⟩
def f_X10_count (o : Nat) (a1 : Int32) (μ : Mem) : Option (Int32 × Mem) :=
  (if a1 = (0 : Int32) then bnd (f_X5_size (rf (rf o 1) 1) μ) (fun r2 μ1 => some (r2, μ1)) else (if a1 = (1 : Int32) then bnd (f_X5_size (rf (rf o 1) 2) μ) (fun r4 μ3 => some (r4, μ3)) else (if a1 = (2 : Int32) then bnd (f_X5_size (rf (rf o 1) 3) μ) (fun r6 μ5 => some (r6, μ5)) else (if a1 = (3 : Int32) then bnd (f_X7_length (rf o 4) μ) (fun r8 μ7 => some (r8, μ7)) else (if a1 = (4 : Int32) then bnd (f_X5_size (rf (rf o 1) 0) μ) (fun r10 μ9 => some (r10, μ9)) else some ((-2 : Int32), μ))))))
set_option maxHeartbeats 4000000 in
set_option maxRecDepth 100000 in
theorem w_X10_count (l : Launch) {o : Nat} {a1 : Int32} (ho : knd o = 8) {μ μ2 : Mem} {r : Int32} {H : Heap} {locs : List Loc} {ls : Array Slot} (hf : f_X10_count o a1 μ = some (r, μ2)) (hX : XX E p m meth c cX10_count 2 (some .int) s args RX10) (hM : MM E s μ H locs) (hl : lv_has ls 2 [(0, .ref (eA E o)), (1, .int a1)]) : W p l e (rmF 1 20) s m args below meth c H locs 0 0 (MQ below (QC E (some (.int r)) μ2) args s 0 0 (AA E)) (F0 m 0 ls []) := by
  obtain ⟨⟨hx, hb, hml, hown, hts⟩, hXr⟩ := id hX
  unfold f_X10_count at hf
  refine lv_iload_n hx hb dX10_count_0 rfl (lv_at hl 1 rfl) ?_
  by_cases hs1_0 : a1 = (0 : Int32)
  · replace hf := it_t hf hs1_0
    refine lv_tableIn (off := 35) (tgt := 36) hx hb dX10_count_1 (by rw [hs1_0]; decide) (by rw [hs1_0]; decide) (by rw [hs1_0]; rfl) (by decide) ?_
    refine lv_aload_n hx hb dX10_count_36 rfl (lv_at hl 0 rfl) ?_
    refine gf_8_1 hX hM ho q_1_20 dX10_count_37 ?_
    refine gf_1_1 hX hM (kr_8_1 ho) q_39_6 dX10_count_40 ?_
    replace hf := bnd_some hf
    obtain ⟨r2, μ1, h43, hf⟩ := hf
    refine cl_V (As := []) (rest := []) (st2 := [.int r2]) (n := 0) hX hM (c_X5_size l (kr_1_1 (kr_8_1 ho)) h43) mv_X5_size q_35_12 ⟨rfl, rfl⟩ ⟨Nat.le_of_ble_eq_true rfl, Nat.le_of_ble_eq_true rfl⟩ (kr_1_1 (kr_8_1 ho)) (by decide) rfl rfl rfl hl.1 rfl (Nat.le_of_ble_eq_true rfl) dX10_count_43 rfl (fun H locs hM => ?_)
    exact rt_i hX hM (congrArg (fun z => some (Value.int z)) (so_1 hf)) (so_2 hf) dX10_count_46
  · replace hf := it_f hf hs1_0
    by_cases hs1_1 : a1 = (1 : Int32)
    · replace hf := it_t hf hs1_1
      refine lv_tableIn (off := 46) (tgt := 47) hx hb dX10_count_1 (by rw [hs1_1]; decide) (by rw [hs1_1]; decide) (by rw [hs1_1]; rfl) (by decide) ?_
      refine lv_aload_n hx hb dX10_count_47 rfl (lv_at hl 0 rfl) ?_
      refine gf_8_1 hX hM ho q_1_20 dX10_count_48 ?_
      refine gf_1_2 hX hM (kr_8_1 ho) q_43_7 dX10_count_51 ?_
      replace hf := bnd_some hf
      obtain ⟨r4, μ3, h54, hf⟩ := hf
      refine cl_V (As := []) (rest := []) (st2 := [.int r4]) (n := 0) hX hM (c_X5_size l (kr_1_2 (kr_8_1 ho)) h54) mv_X5_size q_35_12 ⟨rfl, rfl⟩ ⟨Nat.le_of_ble_eq_true rfl, Nat.le_of_ble_eq_true rfl⟩ (kr_1_2 (kr_8_1 ho)) (by decide) rfl rfl rfl hl.1 rfl (Nat.le_of_ble_eq_true rfl) dX10_count_54 rfl (fun H locs hM => ?_)
      exact rt_i hX hM (congrArg (fun z => some (Value.int z)) (so_1 hf)) (so_2 hf) dX10_count_57
    · replace hf := it_f hf hs1_1
      by_cases hs1_2 : a1 = (2 : Int32)
      · replace hf := it_t hf hs1_2
        refine lv_tableIn (off := 57) (tgt := 58) hx hb dX10_count_1 (by rw [hs1_2]; decide) (by rw [hs1_2]; decide) (by rw [hs1_2]; rfl) (by decide) ?_
        refine lv_aload_n hx hb dX10_count_58 rfl (lv_at hl 0 rfl) ?_
        refine gf_8_1 hX hM ho q_1_20 dX10_count_59 ?_
        refine gf_1_3 hX hM (kr_8_1 ho) q_45_5 dX10_count_62 ?_
        replace hf := bnd_some hf
        obtain ⟨r6, μ5, h65, hf⟩ := hf
        refine cl_V (As := []) (rest := []) (st2 := [.int r6]) (n := 0) hX hM (c_X5_size l (kr_1_3 (kr_8_1 ho)) h65) mv_X5_size q_35_12 ⟨rfl, rfl⟩ ⟨Nat.le_of_ble_eq_true rfl, Nat.le_of_ble_eq_true rfl⟩ (kr_1_3 (kr_8_1 ho)) (by decide) rfl rfl rfl hl.1 rfl (Nat.le_of_ble_eq_true rfl) dX10_count_65 rfl (fun H locs hM => ?_)
        exact rt_i hX hM (congrArg (fun z => some (Value.int z)) (so_1 hf)) (so_2 hf) dX10_count_68
      · replace hf := it_f hf hs1_2
        by_cases hs1_3 : a1 = (3 : Int32)
        · replace hf := it_t hf hs1_3
          refine lv_tableIn (off := 68) (tgt := 69) hx hb dX10_count_1 (by rw [hs1_3]; decide) (by rw [hs1_3]; decide) (by rw [hs1_3]; rfl) (by decide) ?_
          refine lv_aload_n hx hb dX10_count_69 rfl (lv_at hl 0 rfl) ?_
          refine gf_8_4 hX hM ho q_2_8 dX10_count_70 ?_
          replace hf := bnd_some hf
          obtain ⟨r8, μ7, h73, hf⟩ := hf
          refine cl_V (As := []) (rest := []) (st2 := [.int r8]) (n := 0) hX hM (c_X7_length l (kr_8_4 ho) h73) mv_X7_length q_48_11 ⟨rfl, rfl⟩ ⟨Nat.le_of_ble_eq_true rfl, Nat.le_of_ble_eq_true rfl⟩ (kr_8_4 ho) (by decide) rfl rfl rfl hl.1 rfl (Nat.le_of_ble_eq_true rfl) dX10_count_73 rfl (fun H locs hM => ?_)
          exact rt_i hX hM (congrArg (fun z => some (Value.int z)) (so_1 hf)) (so_2 hf) dX10_count_76
        · replace hf := it_f hf hs1_3
          by_cases hs1_4 : a1 = (4 : Int32)
          · replace hf := it_t hf hs1_4
            refine lv_tableIn (off := 76) (tgt := 77) hx hb dX10_count_1 (by rw [hs1_4]; decide) (by rw [hs1_4]; decide) (by rw [hs1_4]; rfl) (by decide) ?_
            refine lv_aload_n hx hb dX10_count_77 rfl (lv_at hl 0 rfl) ?_
            refine gf_8_1 hX hM ho q_1_20 dX10_count_78 ?_
            refine gf_1_0 hX hM (kr_8_1 ho) q_20_13 dX10_count_81 ?_
            replace hf := bnd_some hf
            obtain ⟨r10, μ9, h84, hf⟩ := hf
            refine cl_V (As := []) (rest := []) (st2 := [.int r10]) (n := 0) hX hM (c_X5_size l (kr_1_0 (kr_8_1 ho)) h84) mv_X5_size q_35_12 ⟨rfl, rfl⟩ ⟨Nat.le_of_ble_eq_true rfl, Nat.le_of_ble_eq_true rfl⟩ (kr_1_0 (kr_8_1 ho)) (by decide) rfl rfl rfl hl.1 rfl (Nat.le_of_ble_eq_true rfl) dX10_count_84 rfl (fun H locs hM => ?_)
            exact rt_i hX hM (congrArg (fun z => some (Value.int z)) (so_1 hf)) (so_2 hf) dX10_count_87
          · replace hf := it_f hf hs1_4
            have hq : (a1).toInt < 0 ∨ 4 < (a1).toInt := by
              have n0 := lv_neT hs1_0 (a := 0) rfl
              have n1 := lv_neT hs1_1 (a := 1) rfl
              have n2 := lv_neT hs1_2 (a := 2) rfl
              have n3 := lv_neT hs1_3 (a := 3) rfl
              have n4 := lv_neT hs1_4 (a := 4) rfl
              omega
            refine lv_tableOut (tgt := 88) hx hb dX10_count_1 hq (by decide) ?_
            refine lv_bipush (v := (-2)) hx hb dX10_count_88 (by decide) ?_
            exact rt_i hX hM (congrArg (fun z => some (Value.int z)) (so_1 hf)) (so_2 hf) dX10_count_90
theorem c_X10_count (l : Launch) {o : Nat} {a1 : Int32} (ho : knd o = 8) {μ μ2 : Mem} {r : Int32} (hf : f_X10_count o a1 μ = some (r, μ2)) : CT E l yX10_count cX10_count 2 (some .int) (rmF 1 20) [.ref (eA E o), .int a1] μ (some (.int r)) μ2 := CT.of (show plainFor yX10_count = true by decide +kernel) (Nat.le_of_ble_eq_true rfl) rfl (fun _ _ _ _ _ _ _ _ hX hM hl => w_X10_count l ho hf hX hM hl)
theorem mv_X10_count : MV yX10_count cX10_count 2 (some .int) RX10 1 := ⟨q_48_10, q_48_8, q_48_9, q_1_2, by decide +kernel⟩
def f_X10_tape (o : Nat) (a1 : Int32) (a2 : Int32) (a3 : Int32) (μ : Mem) : Option (Int32 × Mem) :=
  bnd (f_X10_tapeAt o a1 μ) (fun r2 μ1 => cs r2 7 (some ((-1 : Int32), μ1)) (fun jr2 => (if a2 = (-1 : Int32) then bnv (f_X9_become jr2 (-1 : Int32) (0 : Int32) μ1) (fun μ6 => some ((1 : Int32), μ6)) else bnd (f_X10_below a2 (5 : Int32) μ1) (fun r4 μ3 => (if r4 = 0 then some ((-2 : Int32), μ3) else (if a3 ≤ (60 : Int32) then (if (0 : Int32) ≤ a3 then bnv (f_X9_become jr2 a2 a3 μ3) (fun μ5 => some ((1 : Int32), μ5)) else some ((-14 : Int32), μ3)) else some ((-2 : Int32), μ3)))))))
set_option maxHeartbeats 4000000 in
set_option maxRecDepth 100000 in
theorem w_X10_tape (l : Launch) {o : Nat} {a1 : Int32} {a2 : Int32} {a3 : Int32} (ho : knd o = 8) {μ μ2 : Mem} {r : Int32} {H : Heap} {locs : List Loc} {ls : Array Slot} (hf : f_X10_tape o a1 a2 a3 μ = some (r, μ2)) (hX : XX E p m meth c cX10_tape 5 (some .int) s args RX10) (hM : MM E s μ H locs) (hl : lv_has ls 5 [(0, .ref (eA E o)), (1, .int a1), (2, .int a2), (3, .int a3)]) : W p l e (rmF 2 46) s m args below meth c H locs 0 0 (MQ below (QC E (some (.int r)) μ2) args s 0 0 (AA E)) (F0 m 0 ls []) := by
  obtain ⟨⟨hx, hb, hml, hown, hts⟩, hXr⟩ := id hX
  unfold f_X10_tape at hf
  refine lv_aload_n hx hb dX10_tape_0 rfl (lv_at hl 0 rfl) ?_
  refine lv_iload_n hx hb dX10_tape_1 rfl (lv_at hl 1 rfl) ?_
  replace hf := bnd_some hf
  obtain ⟨r2, μ1, h2, hf⟩ := hf
  replace hf := cs_some hf
  rcases hf with ⟨her2, hf⟩ | ⟨jr2, hjr2, her2, hf⟩
  · subst her2
    refine cl_V (As := [.int a1]) (rest := []) (st2 := [.null]) (n := 1) hX hM (c_X10_tapeAt l ho h2) mv_X10_tapeAt q_45_23 ⟨rfl, rfl⟩ ⟨Nat.le_of_ble_eq_true rfl, Nat.le_of_ble_eq_true rfl⟩ ho (by decide) rfl rfl rfl hl.1 rfl (Nat.le_of_ble_eq_true rfl) dX10_tape_2 rfl (fun H locs hM => ?_)
    refine lv_astoreN (lv' := [(4, .null), (0, .ref (eA E o)), (1, .int a1), (2, .int a2), (3, .int a3)]) hx hb dX10_tape_5 hl (by decide) rfl (fun ls hl => ?_)
    refine lv_aloadN hx hb dX10_tape_7 (lv_at hl 0 rfl) ?_
    refine lv_ifnonnullN hx hb dX10_tape_9 ?_
    refine lv_iconst (v := (-1)) hx hb dX10_tape_12 (by decide) ?_
    exact rt_i hX hM (congrArg (fun z => some (Value.int z)) (so_1 hf)) (so_2 hf) dX10_tape_13
  · subst her2
    refine cl_V (As := [.int a1]) (rest := []) (st2 := [.ref (eA E jr2)]) (n := 1) hX hM (c_X10_tapeAt l ho h2) mv_X10_tapeAt q_45_23 ⟨rfl, rfl⟩ ⟨Nat.le_of_ble_eq_true rfl, Nat.le_of_ble_eq_true rfl⟩ ho (by decide) rfl rfl rfl hl.1 rfl (Nat.le_of_ble_eq_true rfl) dX10_tape_2 rfl (fun H locs hM => ?_)
    refine lv_astore (lv' := [(4, .ref (eA E jr2)), (0, .ref (eA E o)), (1, .int a1), (2, .int a2), (3, .int a3)]) hx hb dX10_tape_5 hl (by decide) rfl (fun ls hl => ?_)
    refine lv_aload hx hb dX10_tape_7 (lv_at hl 0 rfl) ?_
    refine lv_ifnonnull (tgt := 14) hx hb dX10_tape_9 (by decide) ?_
    refine lv_iload_n hx hb dX10_tape_14 rfl (lv_at hl 3 rfl) ?_
    refine lv_iconst (v := (-1)) hx hb dX10_tape_15 (by decide) ?_
    refine lv_icmp_ne (tgt := 28) hx hb dX10_tape_16 (by decide) (fun hc16 => ?_) (fun hc16 => ?_)
    · replace hf := it_f hf hc16
      refine lv_iload_n hx hb dX10_tape_28 rfl (lv_at hl 3 rfl) ?_
      refine lv_iconst (v := 5) hx hb dX10_tape_29 (by decide) ?_
      replace hf := bnd_some hf
      obtain ⟨r4, μ3, h30, hf⟩ := hf
      refine cl_S (As := [.int a2, .int (5 : Int32)]) (rest := []) (st2 := [.int r4]) (n := 2) hX hM (c_X10_below l  h30) mt_X10_below q_8_1 ⟨rfl, rfl⟩ ⟨Nat.le_of_ble_eq_true rfl, Nat.le_of_ble_eq_true rfl⟩ rfl hl.1 rfl (Nat.le_of_ble_eq_true rfl) dX10_tape_30 rfl (fun H locs hM => ?_)
      refine lv_if_eq (tgt := 42) hx hb dX10_tape_33 (by decide) (fun hc33 => ?_) (fun hc33 => ?_)
      · replace hf := it_t hf hc33
        refine lv_bipush (v := (-2)) hx hb dX10_tape_42 (by decide) ?_
        exact rt_i hX hM (congrArg (fun z => some (Value.int z)) (so_1 hf)) (so_2 hf) dX10_tape_44
      · replace hf := it_f hf hc33
        refine lv_iload_n hx hb dX10_tape_36 rfl (lv_at hl 4 rfl) ?_
        refine lv_bipush (v := 60) hx hb dX10_tape_37 (by decide) ?_
        refine lv_icmp_le (tgt := 45) hx hb dX10_tape_39 (by decide) (fun hc39 => ?_) (fun hc39 => ?_)
        · replace hf := it_t hf hc39
          refine lv_iload_n hx hb dX10_tape_45 rfl (lv_at hl 4 rfl) ?_
          refine lv_if_ge (tgt := 52) hx hb dX10_tape_46 (by decide) (fun hc46 => ?_) (fun hc46 => ?_)
          · replace hf := it_t hf hc46
            refine lv_aload hx hb dX10_tape_52 (lv_at hl 0 rfl) ?_
            refine lv_iload_n hx hb dX10_tape_54 rfl (lv_at hl 3 rfl) ?_
            refine lv_iload_n hx hb dX10_tape_55 rfl (lv_at hl 4 rfl) ?_
            replace hf := bnv_some hf
            obtain ⟨μ5, h56, hf⟩ := hf
            refine cl_V (As := [.int a2, .int a3]) (rest := []) (st2 := []) (n := 2) hX hM (c_X9_become l hjr2 h56) mv_X9_become q_48_23 ⟨rfl, rfl⟩ ⟨Nat.le_of_ble_eq_true rfl, Nat.le_of_ble_eq_true rfl⟩ hjr2 (by decide) rfl rfl rfl hl.1 rfl (Nat.le_of_ble_eq_true rfl) dX10_tape_56 rfl (fun H locs hM => ?_)
            refine lv_iconst (v := 1) hx hb dX10_tape_59 (by decide) ?_
            exact rt_i hX hM (congrArg (fun z => some (Value.int z)) (so_1 hf)) (so_2 hf) dX10_tape_60
          · replace hf := it_f hf hc46
            refine lv_bipush (v := (-14)) hx hb dX10_tape_49 (by decide) ?_
            exact rt_i hX hM (congrArg (fun z => some (Value.int z)) (so_1 hf)) (so_2 hf) dX10_tape_51
        · replace hf := it_f hf hc39
          refine lv_bipush (v := (-2)) hx hb dX10_tape_42 (by decide) ?_
          exact rt_i hX hM (congrArg (fun z => some (Value.int z)) (so_1 hf)) (so_2 hf) dX10_tape_44
    · replace hf := it_t hf hc16
      refine lv_aload hx hb dX10_tape_19 (lv_at hl 0 rfl) ?_
      refine lv_iconst (v := (-1)) hx hb dX10_tape_21 (by decide) ?_
      refine lv_iconst (v := 0) hx hb dX10_tape_22 (by decide) ?_
      replace hf := bnv_some hf
      obtain ⟨μ6, h23, hf⟩ := hf
      refine cl_V (As := [.int (-1 : Int32), .int (0 : Int32)]) (rest := []) (st2 := []) (n := 2) hX hM (c_X9_become l hjr2 h23) mv_X9_become q_48_23 ⟨rfl, rfl⟩ ⟨Nat.le_of_ble_eq_true rfl, Nat.le_of_ble_eq_true rfl⟩ hjr2 (by decide) rfl rfl rfl hl.1 rfl (Nat.le_of_ble_eq_true rfl) dX10_tape_23 rfl (fun H locs hM => ?_)
      refine lv_iconst (v := 1) hx hb dX10_tape_26 (by decide) ?_
      exact rt_i hX hM (congrArg (fun z => some (Value.int z)) (so_1 hf)) (so_2 hf) dX10_tape_27
theorem c_X10_tape (l : Launch) {o : Nat} {a1 : Int32} {a2 : Int32} {a3 : Int32} (ho : knd o = 8) {μ μ2 : Mem} {r : Int32} (hf : f_X10_tape o a1 a2 a3 μ = some (r, μ2)) : CT E l yX10_tape cX10_tape 5 (some .int) (rmF 2 46) [.ref (eA E o), .int a1, .int a2, .int a3] μ (some (.int r)) μ2 := CT.of (show plainFor yX10_tape = true by decide +kernel) (Nat.le_of_ble_eq_true rfl) rfl (fun _ _ _ _ _ _ _ _ hX hM hl => w_X10_tape l ho hf hX hM hl)
theorem mv_X10_tape : MV yX10_tape cX10_tape 5 (some .int) RX10 3 := ⟨q_48_22, q_48_20, q_48_21, q_1_2, by decide +kernel⟩
def f_X10_item (o : Nat) (a1 : Int32) (a2 : Int32) (a3 : Int64) (μ : Mem) : Option (Int32 × Mem) :=
  bnd (f_X10_tapeAt o a1 μ) (fun r2 μ1 => cs r2 7 (some ((-1 : Int32), μ1)) (fun jr2 => bnd (f_X9_holdsNothing jr2 μ1) (fun r4 μ3 => (if r4 = 0 then bnd (f_X9_length jr2 μ3) (fun r6 μ5 => bnd (f_X10_below a2 r6 μ5) (fun r8 μ7 => (if r8 = 0 then some ((-13 : Int32), μ7) else bnv (f_X9_put jr2 a2 a3 μ7) (fun μ9 => some ((1 : Int32), μ9))))) else some ((-11 : Int32), μ3)))))
set_option maxHeartbeats 4000000 in
set_option maxRecDepth 100000 in
theorem w_X10_item (l : Launch) {o : Nat} {a1 : Int32} {a2 : Int32} {a3 : Int64} (ho : knd o = 8) {μ μ2 : Mem} {r : Int32} {H : Heap} {locs : List Loc} {ls : Array Slot} (hf : f_X10_item o a1 a2 a3 μ = some (r, μ2)) (hX : XX E p m meth c cX10_item 6 (some .int) s args RX10) (hM : MM E s μ H locs) (hl : lv_has ls 6 [(0, .ref (eA E o)), (1, .int a1), (2, .int a2), (3, .long a3)]) : W p l e (rmF 2 45) s m args below meth c H locs 0 0 (MQ below (QC E (some (.int r)) μ2) args s 0 0 (AA E)) (F0 m 0 ls []) := by
  obtain ⟨⟨hx, hb, hml, hown, hts⟩, hXr⟩ := id hX
  unfold f_X10_item at hf
  refine lv_aload_n hx hb dX10_item_0 rfl (lv_at hl 0 rfl) ?_
  refine lv_iload_n hx hb dX10_item_1 rfl (lv_at hl 1 rfl) ?_
  replace hf := bnd_some hf
  obtain ⟨r2, μ1, h2, hf⟩ := hf
  replace hf := cs_some hf
  rcases hf with ⟨her2, hf⟩ | ⟨jr2, hjr2, her2, hf⟩
  · subst her2
    refine cl_V (As := [.int a1]) (rest := []) (st2 := [.null]) (n := 1) hX hM (c_X10_tapeAt l ho h2) mv_X10_tapeAt q_45_23 ⟨rfl, rfl⟩ ⟨Nat.le_of_ble_eq_true rfl, Nat.le_of_ble_eq_true rfl⟩ ho (by decide) rfl rfl rfl hl.1 rfl (Nat.le_of_ble_eq_true rfl) dX10_item_2 rfl (fun H locs hM => ?_)
    refine lv_astoreN (lv' := [(5, .null), (0, .ref (eA E o)), (1, .int a1), (2, .int a2), (3, .long a3)]) hx hb dX10_item_5 hl (by decide) rfl (fun ls hl => ?_)
    refine lv_aloadN hx hb dX10_item_7 (lv_at hl 0 rfl) ?_
    refine lv_ifnonnullN hx hb dX10_item_9 ?_
    refine lv_iconst (v := (-1)) hx hb dX10_item_12 (by decide) ?_
    exact rt_i hX hM (congrArg (fun z => some (Value.int z)) (so_1 hf)) (so_2 hf) dX10_item_13
  · subst her2
    refine cl_V (As := [.int a1]) (rest := []) (st2 := [.ref (eA E jr2)]) (n := 1) hX hM (c_X10_tapeAt l ho h2) mv_X10_tapeAt q_45_23 ⟨rfl, rfl⟩ ⟨Nat.le_of_ble_eq_true rfl, Nat.le_of_ble_eq_true rfl⟩ ho (by decide) rfl rfl rfl hl.1 rfl (Nat.le_of_ble_eq_true rfl) dX10_item_2 rfl (fun H locs hM => ?_)
    refine lv_astore (lv' := [(5, .ref (eA E jr2)), (0, .ref (eA E o)), (1, .int a1), (2, .int a2), (3, .long a3)]) hx hb dX10_item_5 hl (by decide) rfl (fun ls hl => ?_)
    refine lv_aload hx hb dX10_item_7 (lv_at hl 0 rfl) ?_
    refine lv_ifnonnull (tgt := 14) hx hb dX10_item_9 (by decide) ?_
    refine lv_aload hx hb dX10_item_14 (lv_at hl 0 rfl) ?_
    replace hf := bnd_some hf
    obtain ⟨r4, μ3, h16, hf⟩ := hf
    refine cl_V (As := []) (rest := []) (st2 := [.int r4]) (n := 0) hX hM (c_X9_holdsNothing l hjr2 h16) mv_X9_holdsNothing q_46_3 ⟨rfl, rfl⟩ ⟨Nat.le_of_ble_eq_true rfl, Nat.le_of_ble_eq_true rfl⟩ hjr2 (by decide) rfl rfl rfl hl.1 rfl (Nat.le_of_ble_eq_true rfl) dX10_item_16 rfl (fun H locs hM => ?_)
    refine lv_if_eq (tgt := 25) hx hb dX10_item_19 (by decide) (fun hc19 => ?_) (fun hc19 => ?_)
    · replace hf := it_t hf hc19
      refine lv_iload_n hx hb dX10_item_25 rfl (lv_at hl 3 rfl) ?_
      refine lv_aload hx hb dX10_item_26 (lv_at hl 0 rfl) ?_
      replace hf := bnd_some hf
      obtain ⟨r6, μ5, h28, hf⟩ := hf
      refine cl_V (As := []) (rest := [.int a2]) (st2 := [.int r6, .int a2]) (n := 0) hX hM (c_X9_length l hjr2 h28) mv_X9_length q_46_11 ⟨rfl, rfl⟩ ⟨Nat.le_of_ble_eq_true rfl, Nat.le_of_ble_eq_true rfl⟩ hjr2 (by decide) rfl rfl rfl hl.1 rfl (Nat.le_of_ble_eq_true rfl) dX10_item_28 rfl (fun H locs hM => ?_)
      replace hf := bnd_some hf
      obtain ⟨r8, μ7, h31, hf⟩ := hf
      refine cl_S (As := [.int a2, .int r6]) (rest := []) (st2 := [.int r8]) (n := 2) hX hM (c_X10_below l  h31) mt_X10_below q_8_1 ⟨rfl, rfl⟩ ⟨Nat.le_of_ble_eq_true rfl, Nat.le_of_ble_eq_true rfl⟩ rfl hl.1 rfl (Nat.le_of_ble_eq_true rfl) dX10_item_31 rfl (fun H locs hM => ?_)
      refine lv_if_ne (tgt := 40) hx hb dX10_item_34 (by decide) (fun hc34 => ?_) (fun hc34 => ?_)
      · replace hf := it_f hf hc34
        refine lv_aload hx hb dX10_item_40 (lv_at hl 0 rfl) ?_
        refine lv_iload_n hx hb dX10_item_42 rfl (lv_at hl 3 rfl) ?_
        refine lv_lload_n hx hb dX10_item_43 rfl (lv_at hl 4 rfl) ?_
        replace hf := bnv_some hf
        obtain ⟨μ9, h44, hf⟩ := hf
        refine cl_V (As := [.int a2, .long a3]) (rest := []) (st2 := []) (n := 2) hX hM (c_X9_put l hjr2 h44) mv_X9_put q_49_14 ⟨rfl, rfl⟩ ⟨Nat.le_of_ble_eq_true rfl, Nat.le_of_ble_eq_true rfl⟩ hjr2 (by decide) rfl rfl rfl hl.1 rfl (Nat.le_of_ble_eq_true rfl) dX10_item_44 rfl (fun H locs hM => ?_)
        refine lv_iconst (v := 1) hx hb dX10_item_47 (by decide) ?_
        exact rt_i hX hM (congrArg (fun z => some (Value.int z)) (so_1 hf)) (so_2 hf) dX10_item_48
      · replace hf := it_t hf hc34
        refine lv_bipush (v := (-13)) hx hb dX10_item_37 (by decide) ?_
        exact rt_i hX hM (congrArg (fun z => some (Value.int z)) (so_1 hf)) (so_2 hf) dX10_item_39
    · replace hf := it_f hf hc19
      refine lv_bipush (v := (-11)) hx hb dX10_item_22 (by decide) ?_
      exact rt_i hX hM (congrArg (fun z => some (Value.int z)) (so_1 hf)) (so_2 hf) dX10_item_24
theorem c_X10_item (l : Launch) {o : Nat} {a1 : Int32} {a2 : Int32} {a3 : Int64} (ho : knd o = 8) {μ μ2 : Mem} {r : Int32} (hf : f_X10_item o a1 a2 a3 μ = some (r, μ2)) : CT E l yX10_item cX10_item 6 (some .int) (rmF 2 45) [.ref (eA E o), .int a1, .int a2, .long a3] μ (some (.int r)) μ2 := CT.of (show plainFor yX10_item = true by decide +kernel) (Nat.le_of_ble_eq_true rfl) rfl (fun _ _ _ _ _ _ _ _ hX hM hl => w_X10_item l ho hf hX hM hl)
theorem mv_X10_item : MV yX10_item cX10_item 6 (some .int) RX10 3 := ⟨q_49_13, q_49_11, q_49_12, q_1_2, by decide +kernel⟩
def f_X10_peek (o : Nat) (a1 : Int32) (a2 : Int32) (μ : Mem) : Option (Int64 × Mem) :=
  bnd (f_X10_tapeAt o a1 μ) (fun r2 μ1 => cs r2 7 (some ((-9223372036854775808 : Int64), μ1)) (fun jr2 => bnd (f_X9_holdsNothing jr2 μ1) (fun r4 μ3 => (if r4 = 0 then bnd (f_X9_length jr2 μ3) (fun r6 μ5 => bnd (f_X10_below a2 r6 μ5) (fun r8 μ7 => (if r8 = 0 then some ((-9223372036854775808 : Int64), μ7) else bnd (f_X9_get jr2 a2 μ7) (fun r10 μ9 => some (r10, μ9))))) else some ((-9223372036854775808 : Int64), μ3)))))
set_option maxHeartbeats 4000000 in
set_option maxRecDepth 100000 in
theorem w_X10_peek (l : Launch) {o : Nat} {a1 : Int32} {a2 : Int32} (ho : knd o = 8) {μ μ2 : Mem} {r : Int64} {H : Heap} {locs : List Loc} {ls : Array Slot} (hf : f_X10_peek o a1 a2 μ = some (r, μ2)) (hX : XX E p m meth c cX10_peek 4 (some .long) s args RX10) (hM : MM E s μ H locs) (hl : lv_has ls 4 [(0, .ref (eA E o)), (1, .int a1), (2, .int a2)]) : W p l e (rmF 2 42) s m args below meth c H locs 0 0 (MQ below (QC E (some (.long r)) μ2) args s 0 0 (AA E)) (F0 m 0 ls []) := by
  obtain ⟨⟨hx, hb, hml, hown, hts⟩, hXr⟩ := id hX
  unfold f_X10_peek at hf
  refine lv_aload_n hx hb dX10_peek_0 rfl (lv_at hl 0 rfl) ?_
  refine lv_iload_n hx hb dX10_peek_1 rfl (lv_at hl 1 rfl) ?_
  replace hf := bnd_some hf
  obtain ⟨r2, μ1, h2, hf⟩ := hf
  replace hf := cs_some hf
  rcases hf with ⟨her2, hf⟩ | ⟨jr2, hjr2, her2, hf⟩
  · subst her2
    refine cl_V (As := [.int a1]) (rest := []) (st2 := [.null]) (n := 1) hX hM (c_X10_tapeAt l ho h2) mv_X10_tapeAt q_45_23 ⟨rfl, rfl⟩ ⟨Nat.le_of_ble_eq_true rfl, Nat.le_of_ble_eq_true rfl⟩ ho (by decide) rfl rfl rfl hl.1 rfl (Nat.le_of_ble_eq_true rfl) dX10_peek_2 rfl (fun H locs hM => ?_)
    refine lv_astore_nN (lv' := [(3, .null), (0, .ref (eA E o)), (1, .int a1), (2, .int a2)]) hx hb dX10_peek_5 rfl hl (by decide) rfl (fun ls hl => ?_)
    refine lv_aload_nN hx hb dX10_peek_6 rfl (lv_at hl 0 rfl) ?_
    refine lv_ifnullN (tgt := 28) hx hb dX10_peek_7 (by decide) ?_
    refine lv_ldc2 (v := -9223372036854775808) hx hb hown (hts _ q_35_5) dX10_peek_28 ?_
    exact rt_l hX hM (congrArg (fun z => some (Value.long z)) (so_1 hf)) (so_2 hf) dX10_peek_31
  · subst her2
    refine cl_V (As := [.int a1]) (rest := []) (st2 := [.ref (eA E jr2)]) (n := 1) hX hM (c_X10_tapeAt l ho h2) mv_X10_tapeAt q_45_23 ⟨rfl, rfl⟩ ⟨Nat.le_of_ble_eq_true rfl, Nat.le_of_ble_eq_true rfl⟩ ho (by decide) rfl rfl rfl hl.1 rfl (Nat.le_of_ble_eq_true rfl) dX10_peek_2 rfl (fun H locs hM => ?_)
    refine lv_astore_n (lv' := [(3, .ref (eA E jr2)), (0, .ref (eA E o)), (1, .int a1), (2, .int a2)]) hx hb dX10_peek_5 rfl hl (by decide) rfl (fun ls hl => ?_)
    refine lv_aload_n hx hb dX10_peek_6 rfl (lv_at hl 0 rfl) ?_
    refine lv_ifnull hx hb dX10_peek_7 ?_
    refine lv_aload_n hx hb dX10_peek_10 rfl (lv_at hl 0 rfl) ?_
    replace hf := bnd_some hf
    obtain ⟨r4, μ3, h11, hf⟩ := hf
    refine cl_V (As := []) (rest := []) (st2 := [.int r4]) (n := 0) hX hM (c_X9_holdsNothing l hjr2 h11) mv_X9_holdsNothing q_46_3 ⟨rfl, rfl⟩ ⟨Nat.le_of_ble_eq_true rfl, Nat.le_of_ble_eq_true rfl⟩ hjr2 (by decide) rfl rfl rfl hl.1 rfl (Nat.le_of_ble_eq_true rfl) dX10_peek_11 rfl (fun H locs hM => ?_)
    refine lv_if_ne (tgt := 28) hx hb dX10_peek_14 (by decide) (fun hc14 => ?_) (fun hc14 => ?_)
    · replace hf := it_f hf hc14
      refine lv_ldc2 (v := -9223372036854775808) hx hb hown (hts _ q_35_5) dX10_peek_28 ?_
      exact rt_l hX hM (congrArg (fun z => some (Value.long z)) (so_1 hf)) (so_2 hf) dX10_peek_31
    · replace hf := it_t hf hc14
      refine lv_iload_n hx hb dX10_peek_17 rfl (lv_at hl 3 rfl) ?_
      refine lv_aload_n hx hb dX10_peek_18 rfl (lv_at hl 0 rfl) ?_
      replace hf := bnd_some hf
      obtain ⟨r6, μ5, h19, hf⟩ := hf
      refine cl_V (As := []) (rest := [.int a2]) (st2 := [.int r6, .int a2]) (n := 0) hX hM (c_X9_length l hjr2 h19) mv_X9_length q_46_11 ⟨rfl, rfl⟩ ⟨Nat.le_of_ble_eq_true rfl, Nat.le_of_ble_eq_true rfl⟩ hjr2 (by decide) rfl rfl rfl hl.1 rfl (Nat.le_of_ble_eq_true rfl) dX10_peek_19 rfl (fun H locs hM => ?_)
      replace hf := bnd_some hf
      obtain ⟨r8, μ7, h22, hf⟩ := hf
      refine cl_S (As := [.int a2, .int r6]) (rest := []) (st2 := [.int r8]) (n := 2) hX hM (c_X10_below l  h22) mt_X10_below q_8_1 ⟨rfl, rfl⟩ ⟨Nat.le_of_ble_eq_true rfl, Nat.le_of_ble_eq_true rfl⟩ rfl hl.1 rfl (Nat.le_of_ble_eq_true rfl) dX10_peek_22 rfl (fun H locs hM => ?_)
      refine lv_if_ne (tgt := 32) hx hb dX10_peek_25 (by decide) (fun hc25 => ?_) (fun hc25 => ?_)
      · replace hf := it_f hf hc25
        refine lv_aload_n hx hb dX10_peek_32 rfl (lv_at hl 0 rfl) ?_
        refine lv_iload_n hx hb dX10_peek_33 rfl (lv_at hl 3 rfl) ?_
        replace hf := bnd_some hf
        obtain ⟨r10, μ9, h34, hf⟩ := hf
        refine cl_V (As := [.int a2]) (rest := []) (st2 := [.long r10]) (n := 1) hX hM (c_X9_get l hjr2 h34) mv_X9_get q_46_15 ⟨rfl, rfl⟩ ⟨Nat.le_of_ble_eq_true rfl, Nat.le_of_ble_eq_true rfl⟩ hjr2 (by decide) rfl rfl rfl hl.1 rfl (Nat.le_of_ble_eq_true rfl) dX10_peek_34 rfl (fun H locs hM => ?_)
        exact rt_l hX hM (congrArg (fun z => some (Value.long z)) (so_1 hf)) (so_2 hf) dX10_peek_37
      · replace hf := it_t hf hc25
        refine lv_ldc2 (v := -9223372036854775808) hx hb hown (hts _ q_35_5) dX10_peek_28 ?_
        exact rt_l hX hM (congrArg (fun z => some (Value.long z)) (so_1 hf)) (so_2 hf) dX10_peek_31
theorem c_X10_peek (l : Launch) {o : Nat} {a1 : Int32} {a2 : Int32} (ho : knd o = 8) {μ μ2 : Mem} {r : Int64} (hf : f_X10_peek o a1 a2 μ = some (r, μ2)) : CT E l yX10_peek cX10_peek 4 (some .long) (rmF 2 42) [.ref (eA E o), .int a1, .int a2] μ (some (.long r)) μ2 := CT.of (show plainFor yX10_peek = true by decide +kernel) (Nat.le_of_ble_eq_true rfl) rfl (fun _ _ _ _ _ _ _ _ hX hM hl => w_X10_peek l ho hf hX hM hl)
theorem mv_X10_peek : MV yX10_peek cX10_peek 4 (some .long) RX10 2 := ⟨q_50_8, q_50_6, q_50_7, q_1_2, by decide +kernel⟩
def f_X10_shift (o : Nat) (a1 : Int32) (a2 : Int32) (a3 : Int32) (a4 : Int32) (a5 : Int32) (μ : Mem) : Option (Int32 × Mem) :=
  bnd (f_X10_tapeAt o a1 μ) (fun r2 μ1 => cs r2 7 (bnd (f_X10_tapeAt o a3 μ1) (fun r4 μ3 => cs r4 7 (some ((-1 : Int32), μ3)) (fun jr4 => some ((-1 : Int32), μ3)))) (fun jr2 => bnd (f_X10_tapeAt o a3 μ1) (fun r6 μ5 => cs r6 7 (some ((-1 : Int32), μ5)) (fun jr6 => bnd (f_X9_holdsNothing jr2 μ5) (fun r8 μ7 => (if r8 = 0 then bnd (f_X9_holdsNothing jr6 μ7) (fun r10 μ9 => (if r10 = 0 then bnd (f_X9_sort jr2 μ9) (fun r12 μ11 => bnd (f_X9_sort jr6 μ11) (fun r14 μ13 => (if r12 = r14 then bnd (f_X9_has jr2 a2 a5 μ13) (fun r16 μ15 => (if r16 = 0 then some ((-13 : Int32), μ15) else bnd (f_X9_has jr6 a4 a5 μ15) (fun r18 μ17 => (if r18 = 0 then some ((-13 : Int32), μ17) else bnv (f_X9_take jr6 jr2 a2 a4 a5 μ17) (fun μ19 => some (a5, μ19)))))) else some ((-12 : Int32), μ13)))) else some ((-11 : Int32), μ9))) else some ((-11 : Int32), μ7)))))))
set_option maxHeartbeats 4000000 in
set_option maxRecDepth 100000 in
theorem w_X10_shift (l : Launch) {o : Nat} {a1 : Int32} {a2 : Int32} {a3 : Int32} {a4 : Int32} {a5 : Int32} (ho : knd o = 8) {μ μ2 : Mem} {r : Int32} {H : Heap} {locs : List Loc} {ls : Array Slot} (hf : f_X10_shift o a1 a2 a3 a4 a5 μ = some (r, μ2)) (hX : XX E p m meth c cX10_shift 8 (some .int) s args RX10) (hM : MM E s μ H locs) (hl : lv_has ls 8 [(0, .ref (eA E o)), (1, .int a1), (2, .int a2), (3, .int a3), (4, .int a4), (5, .int a5)]) : W p l e (rmF 2 64) s m args below meth c H locs 0 0 (MQ below (QC E (some (.int r)) μ2) args s 0 0 (AA E)) (F0 m 0 ls []) := by
  obtain ⟨⟨hx, hb, hml, hown, hts⟩, hXr⟩ := id hX
  unfold f_X10_shift at hf
  refine lv_aload_n hx hb dX10_shift_0 rfl (lv_at hl 0 rfl) ?_
  refine lv_iload_n hx hb dX10_shift_1 rfl (lv_at hl 1 rfl) ?_
  replace hf := bnd_some hf
  obtain ⟨r2, μ1, h2, hf⟩ := hf
  replace hf := cs_some hf
  rcases hf with ⟨her2, hf⟩ | ⟨jr2, hjr2, her2, hf⟩
  · subst her2
    refine cl_V (As := [.int a1]) (rest := []) (st2 := [.null]) (n := 1) hX hM (c_X10_tapeAt l ho h2) mv_X10_tapeAt q_45_23 ⟨rfl, rfl⟩ ⟨Nat.le_of_ble_eq_true rfl, Nat.le_of_ble_eq_true rfl⟩ ho (by decide) rfl rfl rfl hl.1 rfl (Nat.le_of_ble_eq_true rfl) dX10_shift_2 rfl (fun H locs hM => ?_)
    refine lv_astoreN (lv' := [(6, .null), (0, .ref (eA E o)), (1, .int a1), (2, .int a2), (3, .int a3), (4, .int a4), (5, .int a5)]) hx hb dX10_shift_5 hl (by decide) rfl (fun ls hl => ?_)
    refine lv_aload_n hx hb dX10_shift_7 rfl (lv_at hl 1 rfl) ?_
    refine lv_iload_n hx hb dX10_shift_8 rfl (lv_at hl 4 rfl) ?_
    replace hf := bnd_some hf
    obtain ⟨r4, μ3, h9, hf⟩ := hf
    replace hf := cs_some hf
    rcases hf with ⟨her4, hf⟩ | ⟨jr4, hjr4, her4, hf⟩
    · subst her4
      refine cl_V (As := [.int a3]) (rest := []) (st2 := [.null]) (n := 1) hX hM (c_X10_tapeAt l ho h9) mv_X10_tapeAt q_45_23 ⟨rfl, rfl⟩ ⟨Nat.le_of_ble_eq_true rfl, Nat.le_of_ble_eq_true rfl⟩ ho (by decide) rfl rfl rfl hl.1 rfl (Nat.le_of_ble_eq_true rfl) dX10_shift_9 rfl (fun H locs hM => ?_)
      refine lv_astoreN (lv' := [(7, .null), (6, .null), (0, .ref (eA E o)), (1, .int a1), (2, .int a2), (3, .int a3), (4, .int a4), (5, .int a5)]) hx hb dX10_shift_12 hl (by decide) rfl (fun ls hl => ?_)
      refine lv_aloadN hx hb dX10_shift_14 (lv_at hl 1 rfl) ?_
      refine lv_ifnullN (tgt := 24) hx hb dX10_shift_16 (by decide) ?_
      refine lv_iconst (v := (-1)) hx hb dX10_shift_24 (by decide) ?_
      exact rt_i hX hM (congrArg (fun z => some (Value.int z)) (so_1 hf)) (so_2 hf) dX10_shift_25
    · subst her4
      refine cl_V (As := [.int a3]) (rest := []) (st2 := [.ref (eA E jr4)]) (n := 1) hX hM (c_X10_tapeAt l ho h9) mv_X10_tapeAt q_45_23 ⟨rfl, rfl⟩ ⟨Nat.le_of_ble_eq_true rfl, Nat.le_of_ble_eq_true rfl⟩ ho (by decide) rfl rfl rfl hl.1 rfl (Nat.le_of_ble_eq_true rfl) dX10_shift_9 rfl (fun H locs hM => ?_)
      refine lv_astore (lv' := [(7, .ref (eA E jr4)), (6, .null), (0, .ref (eA E o)), (1, .int a1), (2, .int a2), (3, .int a3), (4, .int a4), (5, .int a5)]) hx hb dX10_shift_12 hl (by decide) rfl (fun ls hl => ?_)
      refine lv_aloadN hx hb dX10_shift_14 (lv_at hl 1 rfl) ?_
      refine lv_ifnullN (tgt := 24) hx hb dX10_shift_16 (by decide) ?_
      refine lv_iconst (v := (-1)) hx hb dX10_shift_24 (by decide) ?_
      exact rt_i hX hM (congrArg (fun z => some (Value.int z)) (so_1 hf)) (so_2 hf) dX10_shift_25
  · subst her2
    refine cl_V (As := [.int a1]) (rest := []) (st2 := [.ref (eA E jr2)]) (n := 1) hX hM (c_X10_tapeAt l ho h2) mv_X10_tapeAt q_45_23 ⟨rfl, rfl⟩ ⟨Nat.le_of_ble_eq_true rfl, Nat.le_of_ble_eq_true rfl⟩ ho (by decide) rfl rfl rfl hl.1 rfl (Nat.le_of_ble_eq_true rfl) dX10_shift_2 rfl (fun H locs hM => ?_)
    refine lv_astore (lv' := [(6, .ref (eA E jr2)), (0, .ref (eA E o)), (1, .int a1), (2, .int a2), (3, .int a3), (4, .int a4), (5, .int a5)]) hx hb dX10_shift_5 hl (by decide) rfl (fun ls hl => ?_)
    refine lv_aload_n hx hb dX10_shift_7 rfl (lv_at hl 1 rfl) ?_
    refine lv_iload_n hx hb dX10_shift_8 rfl (lv_at hl 4 rfl) ?_
    replace hf := bnd_some hf
    obtain ⟨r6, μ5, h9, hf⟩ := hf
    replace hf := cs_some hf
    rcases hf with ⟨her6, hf⟩ | ⟨jr6, hjr6, her6, hf⟩
    · subst her6
      refine cl_V (As := [.int a3]) (rest := []) (st2 := [.null]) (n := 1) hX hM (c_X10_tapeAt l ho h9) mv_X10_tapeAt q_45_23 ⟨rfl, rfl⟩ ⟨Nat.le_of_ble_eq_true rfl, Nat.le_of_ble_eq_true rfl⟩ ho (by decide) rfl rfl rfl hl.1 rfl (Nat.le_of_ble_eq_true rfl) dX10_shift_9 rfl (fun H locs hM => ?_)
      refine lv_astoreN (lv' := [(7, .null), (6, .ref (eA E jr2)), (0, .ref (eA E o)), (1, .int a1), (2, .int a2), (3, .int a3), (4, .int a4), (5, .int a5)]) hx hb dX10_shift_12 hl (by decide) rfl (fun ls hl => ?_)
      refine lv_aload hx hb dX10_shift_14 (lv_at hl 1 rfl) ?_
      refine lv_ifnull hx hb dX10_shift_16 ?_
      refine lv_aloadN hx hb dX10_shift_19 (lv_at hl 0 rfl) ?_
      refine lv_ifnonnullN hx hb dX10_shift_21 ?_
      refine lv_iconst (v := (-1)) hx hb dX10_shift_24 (by decide) ?_
      exact rt_i hX hM (congrArg (fun z => some (Value.int z)) (so_1 hf)) (so_2 hf) dX10_shift_25
    · subst her6
      refine cl_V (As := [.int a3]) (rest := []) (st2 := [.ref (eA E jr6)]) (n := 1) hX hM (c_X10_tapeAt l ho h9) mv_X10_tapeAt q_45_23 ⟨rfl, rfl⟩ ⟨Nat.le_of_ble_eq_true rfl, Nat.le_of_ble_eq_true rfl⟩ ho (by decide) rfl rfl rfl hl.1 rfl (Nat.le_of_ble_eq_true rfl) dX10_shift_9 rfl (fun H locs hM => ?_)
      refine lv_astore (lv' := [(7, .ref (eA E jr6)), (6, .ref (eA E jr2)), (0, .ref (eA E o)), (1, .int a1), (2, .int a2), (3, .int a3), (4, .int a4), (5, .int a5)]) hx hb dX10_shift_12 hl (by decide) rfl (fun ls hl => ?_)
      refine lv_aload hx hb dX10_shift_14 (lv_at hl 1 rfl) ?_
      refine lv_ifnull hx hb dX10_shift_16 ?_
      refine lv_aload hx hb dX10_shift_19 (lv_at hl 0 rfl) ?_
      refine lv_ifnonnull (tgt := 26) hx hb dX10_shift_21 (by decide) ?_
      refine lv_aload hx hb dX10_shift_26 (lv_at hl 1 rfl) ?_
      replace hf := bnd_some hf
      obtain ⟨r8, μ7, h28, hf⟩ := hf
      refine cl_V (As := []) (rest := []) (st2 := [.int r8]) (n := 0) hX hM (c_X9_holdsNothing l hjr2 h28) mv_X9_holdsNothing q_46_3 ⟨rfl, rfl⟩ ⟨Nat.le_of_ble_eq_true rfl, Nat.le_of_ble_eq_true rfl⟩ hjr2 (by decide) rfl rfl rfl hl.1 rfl (Nat.le_of_ble_eq_true rfl) dX10_shift_28 rfl (fun H locs hM => ?_)
      refine lv_if_ne (tgt := 42) hx hb dX10_shift_31 (by decide) (fun hc31 => ?_) (fun hc31 => ?_)
      · replace hf := it_f hf hc31
        refine lv_bipush (v := (-11)) hx hb dX10_shift_42 (by decide) ?_
        exact rt_i hX hM (congrArg (fun z => some (Value.int z)) (so_1 hf)) (so_2 hf) dX10_shift_44
      · replace hf := it_t hf hc31
        refine lv_aload hx hb dX10_shift_34 (lv_at hl 0 rfl) ?_
        replace hf := bnd_some hf
        obtain ⟨r10, μ9, h36, hf⟩ := hf
        refine cl_V (As := []) (rest := []) (st2 := [.int r10]) (n := 0) hX hM (c_X9_holdsNothing l hjr6 h36) mv_X9_holdsNothing q_46_3 ⟨rfl, rfl⟩ ⟨Nat.le_of_ble_eq_true rfl, Nat.le_of_ble_eq_true rfl⟩ hjr6 (by decide) rfl rfl rfl hl.1 rfl (Nat.le_of_ble_eq_true rfl) dX10_shift_36 rfl (fun H locs hM => ?_)
        refine lv_if_eq (tgt := 45) hx hb dX10_shift_39 (by decide) (fun hc39 => ?_) (fun hc39 => ?_)
        · replace hf := it_t hf hc39
          refine lv_aload hx hb dX10_shift_45 (lv_at hl 1 rfl) ?_
          replace hf := bnd_some hf
          obtain ⟨r12, μ11, h47, hf⟩ := hf
          refine cl_V (As := []) (rest := []) (st2 := [.int r12]) (n := 0) hX hM (c_X9_sort l hjr2 h47) mv_X9_sort q_46_7 ⟨rfl, rfl⟩ ⟨Nat.le_of_ble_eq_true rfl, Nat.le_of_ble_eq_true rfl⟩ hjr2 (by decide) rfl rfl rfl hl.1 rfl (Nat.le_of_ble_eq_true rfl) dX10_shift_47 rfl (fun H locs hM => ?_)
          refine lv_aload hx hb dX10_shift_50 (lv_at hl 0 rfl) ?_
          replace hf := bnd_some hf
          obtain ⟨r14, μ13, h52, hf⟩ := hf
          refine cl_V (As := []) (rest := [.int r12]) (st2 := [.int r14, .int r12]) (n := 0) hX hM (c_X9_sort l hjr6 h52) mv_X9_sort q_46_7 ⟨rfl, rfl⟩ ⟨Nat.le_of_ble_eq_true rfl, Nat.le_of_ble_eq_true rfl⟩ hjr6 (by decide) rfl rfl rfl hl.1 rfl (Nat.le_of_ble_eq_true rfl) dX10_shift_52 rfl (fun H locs hM => ?_)
          refine lv_icmp_eq (tgt := 61) hx hb dX10_shift_55 (by decide) (fun hc55 => ?_) (fun hc55 => ?_)
          · replace hf := it_t hf hc55
            refine lv_aload hx hb dX10_shift_61 (lv_at hl 1 rfl) ?_
            refine lv_iload_n hx hb dX10_shift_63 rfl (lv_at hl 4 rfl) ?_
            refine lv_iload hx hb dX10_shift_64 (lv_at hl 7 rfl) ?_
            replace hf := bnd_some hf
            obtain ⟨r16, μ15, h66, hf⟩ := hf
            refine cl_V (As := [.int a2, .int a5]) (rest := []) (st2 := [.int r16]) (n := 2) hX hM (c_X9_has l hjr2 h66) mv_X9_has q_50_17 ⟨rfl, rfl⟩ ⟨Nat.le_of_ble_eq_true rfl, Nat.le_of_ble_eq_true rfl⟩ hjr2 (by decide) rfl rfl rfl hl.1 rfl (Nat.le_of_ble_eq_true rfl) dX10_shift_66 rfl (fun H locs hM => ?_)
            refine lv_if_eq (tgt := 84) hx hb dX10_shift_69 (by decide) (fun hc69 => ?_) (fun hc69 => ?_)
            · replace hf := it_t hf hc69
              refine lv_bipush (v := (-13)) hx hb dX10_shift_84 (by decide) ?_
              exact rt_i hX hM (congrArg (fun z => some (Value.int z)) (so_1 hf)) (so_2 hf) dX10_shift_86
            · replace hf := it_f hf hc69
              refine lv_aload hx hb dX10_shift_72 (lv_at hl 0 rfl) ?_
              refine lv_iload hx hb dX10_shift_74 (lv_at hl 6 rfl) ?_
              refine lv_iload hx hb dX10_shift_76 (lv_at hl 7 rfl) ?_
              replace hf := bnd_some hf
              obtain ⟨r18, μ17, h78, hf⟩ := hf
              refine cl_V (As := [.int a4, .int a5]) (rest := []) (st2 := [.int r18]) (n := 2) hX hM (c_X9_has l hjr6 h78) mv_X9_has q_50_17 ⟨rfl, rfl⟩ ⟨Nat.le_of_ble_eq_true rfl, Nat.le_of_ble_eq_true rfl⟩ hjr6 (by decide) rfl rfl rfl hl.1 rfl (Nat.le_of_ble_eq_true rfl) dX10_shift_78 rfl (fun H locs hM => ?_)
              refine lv_if_ne (tgt := 87) hx hb dX10_shift_81 (by decide) (fun hc81 => ?_) (fun hc81 => ?_)
              · replace hf := it_f hf hc81
                refine lv_aload hx hb dX10_shift_87 (lv_at hl 0 rfl) ?_
                refine lv_aload hx hb dX10_shift_89 (lv_at hl 1 rfl) ?_
                refine lv_iload_n hx hb dX10_shift_91 rfl (lv_at hl 4 rfl) ?_
                refine lv_iload hx hb dX10_shift_92 (lv_at hl 6 rfl) ?_
                refine lv_iload hx hb dX10_shift_94 (lv_at hl 7 rfl) ?_
                replace hf := bnv_some hf
                obtain ⟨μ19, h96, hf⟩ := hf
                refine cl_V (As := [.ref (eA E jr2), .int a2, .int a4, .int a5]) (rest := []) (st2 := []) (n := 4) hX hM (c_X9_take l hjr6 hjr2 h96) mv_X9_take q_50_21 ⟨rfl, rfl⟩ ⟨Nat.le_of_ble_eq_true rfl, Nat.le_of_ble_eq_true rfl⟩ hjr6 (by decide) rfl rfl rfl hl.1 rfl (Nat.le_of_ble_eq_true rfl) dX10_shift_96 rfl (fun H locs hM => ?_)
                refine lv_iload hx hb dX10_shift_99 (lv_at hl 7 rfl) ?_
                exact rt_i hX hM (congrArg (fun z => some (Value.int z)) (so_1 hf)) (so_2 hf) dX10_shift_101
              · replace hf := it_t hf hc81
                refine lv_bipush (v := (-13)) hx hb dX10_shift_84 (by decide) ?_
                exact rt_i hX hM (congrArg (fun z => some (Value.int z)) (so_1 hf)) (so_2 hf) dX10_shift_86
          · replace hf := it_f hf hc55
            refine lv_bipush (v := (-12)) hx hb dX10_shift_58 (by decide) ?_
            exact rt_i hX hM (congrArg (fun z => some (Value.int z)) (so_1 hf)) (so_2 hf) dX10_shift_60
        · replace hf := it_f hf hc39
          refine lv_bipush (v := (-11)) hx hb dX10_shift_42 (by decide) ?_
          exact rt_i hX hM (congrArg (fun z => some (Value.int z)) (so_1 hf)) (so_2 hf) dX10_shift_44
theorem c_X10_shift (l : Launch) {o : Nat} {a1 : Int32} {a2 : Int32} {a3 : Int32} {a4 : Int32} {a5 : Int32} (ho : knd o = 8) {μ μ2 : Mem} {r : Int32} (hf : f_X10_shift o a1 a2 a3 a4 a5 μ = some (r, μ2)) : CT E l yX10_shift cX10_shift 8 (some .int) (rmF 2 64) [.ref (eA E o), .int a1, .int a2, .int a3, .int a4, .int a5] μ (some (.int r)) μ2 := CT.of (show plainFor yX10_shift = true by decide +kernel) (Nat.le_of_ble_eq_true rfl) rfl (fun _ _ _ _ _ _ _ _ hX hM hl => w_X10_shift l ho hf hX hM hl)
theorem mv_X10_shift : MV yX10_shift cX10_shift 8 (some .int) RX10 5 := ⟨q_50_16, q_50_14, q_50_15, q_1_2, by decide +kernel⟩
end PG
