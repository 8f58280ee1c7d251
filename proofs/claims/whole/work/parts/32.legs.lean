section PG
variable {p : Program} {e : Env} {s : State} {m : MethodId} {args : Array Value} {below : List Frame} {meth : Method} {c : Code} {E : EE}
def f_X4_workOut_b141 (o : Nat) (a1 : Int32)  (t0 : Nat) (t1 : Int32) (t2 : Nat) (t3 : Int32) (μ : Mem) : Option (Mem) :=
  bnd (f_X6_lossBy t2 t3 μ) (fun r16 μ15 => gA t1 (aln t0) (lt (sI μ15 t0 t1.toNatClampNeg r16) (fun μ17 => some μ17)))
set_option maxHeartbeats 4000000 in
set_option maxRecDepth 100000 in
theorem w_X4_workOut_b141 (l : Launch) {o : Nat} {a1 : Int32} (ho : knd o = 2) {μ2 : Mem}   {t0 : Nat} {t1 : Int32} {t2 : Nat} {t3 : Int32} {μ : Mem} {H : Heap} {locs : List Loc} {ls : Array Slot} (ht0 : knd t0 = 10) (ht2 : knd t2 = 4) (hf : f_X4_workOut_b141 o a1  t0 t1 t2 t3 μ = some μ2) (hX : XX E p m meth c cX4_workOut 8 none s args RX4) (hM : MM E s μ H locs) (hl : lv_has ls 8 [(0, .ref (eA E o)), (1, .int a1)]) : W p l e (rmF 2 47) s m args below meth c H locs 0 0 (MQ below (QC E (none) μ2) args s 0 0 (AA E)) (F0 m 141 ls [.int t3, .ref (eA E t2), .int t1, .ref (eA E t0)]) := by
  obtain ⟨⟨hx, hb, hml, hown, hts⟩, hXr⟩ := id hX
  unfold f_X4_workOut_b141 at hf
  replace hf := bnd_some hf
  obtain ⟨r16, μ15, h141, hf⟩ := hf
  refine cl_V (As := [.int t3]) (rest := [.int t1, .ref (eA E t0)]) (st2 := [.int r16, .int t1, .ref (eA E t0)]) (n := 1) hX hM (c_X6_lossBy l ht2 h141) mv_X6_lossBy q_14_9 ⟨rfl, rfl⟩ ⟨Nat.le_of_ble_eq_true rfl, Nat.le_of_ble_eq_true rfl⟩ ht2 (by decide) rfl rfl rfl hl.1 rfl (Nat.le_of_ble_eq_true rfl) dX4_workOut_141 rfl (fun H locs hM => ?_)
  replace hf := gA_some hf
  obtain ⟨hi, hf⟩ := hf
  refine ast hX hM ht0 hi dX4_workOut_144 (fun μ17 H locs eμ17 hM => ?_)
  replace hf := lt_e eμ17 hf
  exact rt_v hX hM rfl (Option.some.inj hf) dX4_workOut_145
def f_X4_workOut_b116 (o : Nat) (a1 : Int32)  (x2 : Int32) (x5 : Int32) (t0 : Nat) (t1 : Int32) (t2 : Int32) (μ : Mem) : Option (Mem) :=
  gA t1 (aln t0) (lt (sI μ t0 t1.toNatClampNeg t2) (fun μ12 => bnd (f_X2_turnBetween x2 x5 μ12) (fun r14 μ13 => (if (2 : Int32) < r14 then f_X4_workOut_b141 o a1  (rf o 3) a1 (rf o 0) (1 : Int32) μ13 else f_X4_workOut_b141 o a1  (rf o 3) a1 (rf o 0) (0 : Int32) μ13))))
set_option maxHeartbeats 4000000 in
set_option maxRecDepth 100000 in
theorem w_X4_workOut_b116 (l : Launch) {o : Nat} {a1 : Int32} (ho : knd o = 2) {μ2 : Mem}   {x2 : Int32} {x5 : Int32} {t0 : Nat} {t1 : Int32} {t2 : Int32} {μ : Mem} {H : Heap} {locs : List Loc} {ls : Array Slot} (ht0 : knd t0 = 10) (hf : f_X4_workOut_b116 o a1  x2 x5 t0 t1 t2 μ = some μ2) (hX : XX E p m meth c cX4_workOut 8 none s args RX4) (hM : MM E s μ H locs) (hl : lv_has ls 8 [(0, .ref (eA E o)), (1, .int a1), (2, .int x2), (5, .int x5)]) : W p l e (rmF 2 47) s m args below meth c H locs 0 0 (MQ below (QC E (none) μ2) args s 0 0 (AA E)) (F0 m 116 ls [.int t2, .int t1, .ref (eA E t0)]) := by
  obtain ⟨⟨hx, hb, hml, hown, hts⟩, hXr⟩ := id hX
  unfold f_X4_workOut_b116 at hf
  replace hf := gA_some hf
  obtain ⟨hi, hf⟩ := hf
  refine ast hX hM ht0 hi dX4_workOut_116 (fun μ12 H locs eμ12 hM => ?_)
  replace hf := lt_e eμ12 hf
  refine lv_aload_n hx hb dX4_workOut_117 rfl (lv_at hl 0 rfl) ?_
  refine gf_2_3 hX hM ho q_5_8 dX4_workOut_118 ?_
  refine lv_iload_n hx hb dX4_workOut_121 rfl (lv_at hl 1 rfl) ?_
  refine lv_aload_n hx hb dX4_workOut_122 rfl (lv_at hl 0 rfl) ?_
  refine gf_2_0 hX hM ho q_5_10 dX4_workOut_123 ?_
  refine lv_iload_n hx hb dX4_workOut_126 rfl (lv_at hl 2 rfl) ?_
  refine lv_iload hx hb dX4_workOut_127 (lv_at hl 3 rfl) ?_
  replace hf := bnd_some hf
  obtain ⟨r14, μ13, h129, hf⟩ := hf
  refine cl_S (As := [.int x2, .int x5]) (rest := [.ref (eA E (rf o 0)), .int a1, .ref (eA E (rf o 3))]) (st2 := [.int r14, .ref (eA E (rf o 0)), .int a1, .ref (eA E (rf o 3))]) (n := 2) hX hM (c_X2_turnBetween l  h129) mt_X2_turnBetween q_14_8 ⟨rfl, rfl⟩ ⟨Nat.le_of_ble_eq_true rfl, Nat.le_of_ble_eq_true rfl⟩ rfl hl.1 rfl (Nat.le_of_ble_eq_true rfl) dX4_workOut_129 rfl (fun H locs hM => ?_)
  refine lv_iconst (v := 2) hx hb dX4_workOut_132 (by decide) ?_
  refine lv_icmp_gt (tgt := 140) hx hb dX4_workOut_133 (by decide) (fun hc133 => ?_) (fun hc133 => ?_)
  · replace hf := it_t hf hc133
    refine lv_iconst (v := 1) hx hb dX4_workOut_140 (by decide) ?_
    exact w_X4_workOut_b141 l ho  (kr_2_3 ho) (kr_2_0 ho) hf hX hM (lv_sub hl [0, 1] rfl)
  · replace hf := it_f hf hc133
    refine lv_iconst (v := 0) hx hb dX4_workOut_136 (by decide) ?_
    refine lv_goto (tgt := 141) hx hb dX4_workOut_137 (by decide) ?_
    exact w_X4_workOut_b141 l ho  (kr_2_3 ho) (kr_2_0 ho) hf hX hM (lv_sub hl [0, 1] rfl)
def f_X4_workOut_b101 (o : Nat) (a1 : Int32)  (x2 : Int32) (x5 : Int32) (t0 : Nat) (t1 : Int32) (μ : Mem) : Option (Mem) :=
  f_X4_workOut_b116 o a1  x2 x5 t0 t1 (2 : Int32) μ
set_option maxHeartbeats 4000000 in
set_option maxRecDepth 100000 in
theorem w_X4_workOut_b101 (l : Launch) {o : Nat} {a1 : Int32} (ho : knd o = 2) {μ2 : Mem}   {x2 : Int32} {x5 : Int32} {t0 : Nat} {t1 : Int32} {μ : Mem} {H : Heap} {locs : List Loc} {ls : Array Slot} (ht0 : knd t0 = 10) (hf : f_X4_workOut_b101 o a1  x2 x5 t0 t1 μ = some μ2) (hX : XX E p m meth c cX4_workOut 8 none s args RX4) (hM : MM E s μ H locs) (hl : lv_has ls 8 [(0, .ref (eA E o)), (1, .int a1), (2, .int x2), (5, .int x5)]) : W p l e (rmF 2 47) s m args below meth c H locs 0 0 (MQ below (QC E (none) μ2) args s 0 0 (AA E)) (F0 m 101 ls [.int t1, .ref (eA E t0)]) := by
  obtain ⟨⟨hx, hb, hml, hown, hts⟩, hXr⟩ := id hX
  unfold f_X4_workOut_b101 at hf
  refine lv_iconst (v := 2) hx hb dX4_workOut_101 (by decide) ?_
  refine lv_goto (tgt := 116) hx hb dX4_workOut_102 (by decide) ?_
  exact w_X4_workOut_b116 l ho  ht0 hf hX hM (lv_sub hl [0, 1, 2, 3] rfl)
def f_X4_workOut_b72 (o : Nat) (a1 : Int32)  (x2 : Int32) (x5 : Int32) (t0 : Nat) (t1 : Int32) (t2 : Int32) (μ : Mem) : Option (Mem) :=
  gA t1 (aln t0) (lt (sI μ t0 t1.toNatClampNeg t2) (fun μ10 => lt (((x2 + (8 : Int32)) - x5) - ((x2 + (8 : Int32)) - x5) / (8 : Int32) * (8 : Int32)) (fun v11 => (if v11 = 0 then f_X4_workOut_b101 o a1  x2 x5 (rf o 2) a1 μ10 else (if v11 = (4 : Int32) then f_X4_workOut_b101 o a1  x2 x5 (rf o 2) a1 μ10 else (if (4 : Int32) ≤ v11 then f_X4_workOut_b116 o a1  x2 x5 (rf o 2) a1 (1 : Int32) μ10 else f_X4_workOut_b116 o a1  x2 x5 (rf o 2) a1 (0 : Int32) μ10))))))
set_option maxHeartbeats 4000000 in
set_option maxRecDepth 100000 in
theorem w_X4_workOut_b72 (l : Launch) {o : Nat} {a1 : Int32} (ho : knd o = 2) {μ2 : Mem}   {x2 : Int32} {x5 : Int32} {t0 : Nat} {t1 : Int32} {t2 : Int32} {μ : Mem} {H : Heap} {locs : List Loc} {ls : Array Slot} (ht0 : knd t0 = 10) (hf : f_X4_workOut_b72 o a1  x2 x5 t0 t1 t2 μ = some μ2) (hX : XX E p m meth c cX4_workOut 8 none s args RX4) (hM : MM E s μ H locs) (hl : lv_has ls 8 [(0, .ref (eA E o)), (1, .int a1), (2, .int x2), (5, .int x5)]) : W p l e (rmF 2 47) s m args below meth c H locs 0 0 (MQ below (QC E (none) μ2) args s 0 0 (AA E)) (F0 m 72 ls [.int t2, .int t1, .ref (eA E t0)]) := by
  obtain ⟨⟨hx, hb, hml, hown, hts⟩, hXr⟩ := id hX
  unfold f_X4_workOut_b72 at hf
  replace hf := gA_some hf
  obtain ⟨hi, hf⟩ := hf
  refine ast hX hM ht0 hi dX4_workOut_72 (fun μ10 H locs eμ10 hM => ?_)
  replace hf := lt_e eμ10 hf
  refine lv_iload_n hx hb dX4_workOut_73 rfl (lv_at hl 2 rfl) ?_
  refine lv_bipush (v := 8) hx hb dX4_workOut_74 (by decide) ?_
  refine lv_iadd hx hb dX4_workOut_76 ?_
  refine lv_iload hx hb dX4_workOut_77 (lv_at hl 3 rfl) ?_
  refine lv_isub hx hb dX4_workOut_79 ?_
  refine lv_bipush (v := 8) hx hb dX4_workOut_80 (by decide) ?_
  refine lv_irem hx hb dX4_workOut_82 (by decide) ?_
  refine lv_topi (fun v11 ev11 => ?_)
  replace hf := lt_e ev11 hf
  refine lv_istore (lv' := [(7, .int v11), (0, .ref (eA E o)), (1, .int a1), (2, .int x2), (5, .int x5)]) hx hb dX4_workOut_83 hl (by decide) rfl (fun ls hl => ?_)
  refine lv_aload_n hx hb dX4_workOut_85 rfl (lv_at hl 1 rfl) ?_
  refine gf_2_2 hX hM ho q_5_7 dX4_workOut_86 ?_
  refine lv_iload_n hx hb dX4_workOut_89 rfl (lv_at hl 2 rfl) ?_
  refine lv_iload hx hb dX4_workOut_90 (lv_at hl 0 rfl) ?_
  refine lv_if_eq (tgt := 101) hx hb dX4_workOut_92 (by decide) (fun hc92 => ?_) (fun hc92 => ?_)
  · replace hf := it_t hf hc92
    exact w_X4_workOut_b101 l ho  (kr_2_2 ho) hf hX hM (lv_sub hl [1, 2, 3, 4] rfl)
  · replace hf := it_f hf hc92
    refine lv_iload hx hb dX4_workOut_95 (lv_at hl 0 rfl) ?_
    refine lv_iconst (v := 4) hx hb dX4_workOut_97 (by decide) ?_
    refine lv_icmp_ne (tgt := 105) hx hb dX4_workOut_98 (by decide) (fun hc98 => ?_) (fun hc98 => ?_)
    · replace hf := it_f hf hc98
      refine lv_iload hx hb dX4_workOut_105 (lv_at hl 0 rfl) ?_
      refine lv_iconst (v := 4) hx hb dX4_workOut_107 (by decide) ?_
      refine lv_icmp_ge (tgt := 115) hx hb dX4_workOut_108 (by decide) (fun hc108 => ?_) (fun hc108 => ?_)
      · replace hf := it_t hf hc108
        refine lv_iconst (v := 1) hx hb dX4_workOut_115 (by decide) ?_
        exact w_X4_workOut_b116 l ho  (kr_2_2 ho) hf hX hM (lv_sub hl [1, 2, 3, 4] rfl)
      · replace hf := it_f hf hc108
        refine lv_iconst (v := 0) hx hb dX4_workOut_111 (by decide) ?_
        refine lv_goto (tgt := 116) hx hb dX4_workOut_112 (by decide) ?_
        exact w_X4_workOut_b116 l ho  (kr_2_2 ho) hf hX hM (lv_sub hl [1, 2, 3, 4] rfl)
    · replace hf := it_t hf hc98
      exact w_X4_workOut_b101 l ho  (kr_2_2 ho) hf hX hM (lv_sub hl [1, 2, 3, 4] rfl)
def f_X4_workOut (o : Nat) (a1 : Int32) (μ : Mem) : Option (Mem) :=
  lt (a1 - a1 / (8 : Int32) * (8 : Int32)) (fun v1 => lt ((a1 / (8 : Int32)) - (a1 / (8 : Int32)) / (4 : Int32) * (4 : Int32)) (fun v2 => lt ((a1 / (8 : Int32)) / (4 : Int32)) (fun v3 => bnd (f_X6_fromIn (rf o 0) v3 v2 μ) (fun r5 μ4 => bnd (f_X6_paceBy (rf o 0) v3 v2 v1 μ4) (fun r7 μ6 => (if (1 : Int32) ≤ r7 then bnd (f_X2_lengthOf v1 μ6) (fun r9 μ8 => gZ r7 (f_X4_workOut_b72 o a1  v1 r5 (rf o 1) a1 (((r9 + r7) - (1 : Int32)) / r7) μ8)) else f_X4_workOut_b72 o a1  v1 r5 (rf o 1) a1 (0 : Int32) μ6))))))
set_option maxHeartbeats 4000000 in
set_option maxRecDepth 100000 in
theorem w_X4_workOut (l : Launch) {o : Nat} {a1 : Int32} (ho : knd o = 2) {μ μ2 : Mem} {H : Heap} {locs : List Loc} {ls : Array Slot} (hf : f_X4_workOut o a1 μ = some μ2) (hX : XX E p m meth c cX4_workOut 8 none s args RX4) (hM : MM E s μ H locs) (hl : lv_has ls 8 [(0, .ref (eA E o)), (1, .int a1)]) : W p l e (rmF 2 47) s m args below meth c H locs 0 0 (MQ below (QC E (none) μ2) args s 0 0 (AA E)) (F0 m 0 ls []) := by
  obtain ⟨⟨hx, hb, hml, hown, hts⟩, hXr⟩ := id hX
  unfold f_X4_workOut at hf
  refine lv_iload_n hx hb dX4_workOut_0 rfl (lv_at hl 1 rfl) ?_
  refine lv_bipush (v := 8) hx hb dX4_workOut_1 (by decide) ?_
  refine lv_irem hx hb dX4_workOut_3 (by decide) ?_
  refine lv_topi (fun v1 ev1 => ?_)
  replace hf := lt_e ev1 hf
  refine lv_istore_n (lv' := [(2, .int v1), (0, .ref (eA E o)), (1, .int a1)]) hx hb dX4_workOut_4 rfl hl (by decide) rfl (fun ls hl => ?_)
  refine lv_iload_n hx hb dX4_workOut_5 rfl (lv_at hl 2 rfl) ?_
  refine lv_bipush (v := 8) hx hb dX4_workOut_6 (by decide) ?_
  refine lv_idiv hx hb dX4_workOut_8 (by decide) ?_
  refine lv_iconst (v := 4) hx hb dX4_workOut_9 (by decide) ?_
  refine lv_irem hx hb dX4_workOut_10 (by decide) ?_
  refine lv_topi (fun v2 ev2 => ?_)
  replace hf := lt_e ev2 hf
  refine lv_istore_n (lv' := [(3, .int v2), (2, .int v1), (0, .ref (eA E o)), (1, .int a1)]) hx hb dX4_workOut_11 rfl hl (by decide) rfl (fun ls hl => ?_)
  refine lv_iload_n hx hb dX4_workOut_12 rfl (lv_at hl 3 rfl) ?_
  refine lv_bipush (v := 8) hx hb dX4_workOut_13 (by decide) ?_
  refine lv_idiv hx hb dX4_workOut_15 (by decide) ?_
  refine lv_iconst (v := 4) hx hb dX4_workOut_16 (by decide) ?_
  refine lv_idiv hx hb dX4_workOut_17 (by decide) ?_
  refine lv_topi (fun v3 ev3 => ?_)
  replace hf := lt_e ev3 hf
  refine lv_istore (lv' := [(4, .int v3), (3, .int v2), (2, .int v1), (0, .ref (eA E o)), (1, .int a1)]) hx hb dX4_workOut_18 hl (by decide) rfl (fun ls hl => ?_)
  refine lv_aload_n hx hb dX4_workOut_20 rfl (lv_at hl 3 rfl) ?_
  refine gf_2_0 hX hM ho q_5_10 dX4_workOut_21 ?_
  refine lv_iload hx hb dX4_workOut_24 (lv_at hl 0 rfl) ?_
  refine lv_iload_n hx hb dX4_workOut_26 rfl (lv_at hl 1 rfl) ?_
  replace hf := bnd_some hf
  obtain ⟨r5, μ4, h27, hf⟩ := hf
  refine cl_V (As := [.int v3, .int v2]) (rest := []) (st2 := [.int r5]) (n := 2) hX hM (c_X6_fromIn l (kr_2_0 ho) h27) mv_X6_fromIn q_13_8 ⟨rfl, rfl⟩ ⟨Nat.le_of_ble_eq_true rfl, Nat.le_of_ble_eq_true rfl⟩ (kr_2_0 ho) (by decide) rfl rfl rfl hl.1 rfl (Nat.le_of_ble_eq_true rfl) dX4_workOut_27 rfl (fun H locs hM => ?_)
  refine lv_istore (lv' := [(5, .int r5), (4, .int v3), (3, .int v2), (2, .int v1), (0, .ref (eA E o)), (1, .int a1)]) hx hb dX4_workOut_30 hl (by decide) rfl (fun ls hl => ?_)
  refine lv_aload_n hx hb dX4_workOut_32 rfl (lv_at hl 4 rfl) ?_
  refine gf_2_0 hX hM ho q_5_10 dX4_workOut_33 ?_
  refine lv_iload hx hb dX4_workOut_36 (lv_at hl 1 rfl) ?_
  refine lv_iload_n hx hb dX4_workOut_38 rfl (lv_at hl 2 rfl) ?_
  refine lv_iload_n hx hb dX4_workOut_39 rfl (lv_at hl 3 rfl) ?_
  replace hf := bnd_some hf
  obtain ⟨r7, μ6, h40, hf⟩ := hf
  refine cl_V (As := [.int v3, .int v2, .int v1]) (rest := []) (st2 := [.int r7]) (n := 3) hX hM (c_X6_paceBy l (kr_2_0 ho) h40) mv_X6_paceBy q_13_9 ⟨rfl, rfl⟩ ⟨Nat.le_of_ble_eq_true rfl, Nat.le_of_ble_eq_true rfl⟩ (kr_2_0 ho) (by decide) rfl rfl rfl hl.1 rfl (Nat.le_of_ble_eq_true rfl) dX4_workOut_40 rfl (fun H locs hM => ?_)
  refine lv_istore (lv' := [(6, .int r7), (5, .int r5), (4, .int v3), (3, .int v2), (2, .int v1), (0, .ref (eA E o)), (1, .int a1)]) hx hb dX4_workOut_43 hl (by decide) rfl (fun ls hl => ?_)
  refine lv_aload_n hx hb dX4_workOut_45 rfl (lv_at hl 5 rfl) ?_
  refine gf_2_1 hX hM ho q_5_6 dX4_workOut_46 ?_
  refine lv_iload_n hx hb dX4_workOut_49 rfl (lv_at hl 6 rfl) ?_
  refine lv_iload hx hb dX4_workOut_50 (lv_at hl 0 rfl) ?_
  refine lv_iconst (v := 1) hx hb dX4_workOut_52 (by decide) ?_
  refine lv_icmp_ge (tgt := 60) hx hb dX4_workOut_53 (by decide) (fun hc53 => ?_) (fun hc53 => ?_)
  · replace hf := it_t hf hc53
    refine lv_iload_n hx hb dX4_workOut_60 rfl (lv_at hl 4 rfl) ?_
    replace hf := bnd_some hf
    obtain ⟨r9, μ8, h61, hf⟩ := hf
    refine cl_S (As := [.int v1]) (rest := [.int a1, .ref (eA E (rf o 1))]) (st2 := [.int r9, .int a1, .ref (eA E (rf o 1))]) (n := 1) hX hM (c_X2_lengthOf l  h61) mt_X2_lengthOf q_14_5 ⟨rfl, rfl⟩ ⟨Nat.le_of_ble_eq_true rfl, Nat.le_of_ble_eq_true rfl⟩ rfl hl.1 rfl (Nat.le_of_ble_eq_true rfl) dX4_workOut_61 rfl (fun H locs hM => ?_)
    refine lv_iload hx hb dX4_workOut_64 (lv_at hl 0 rfl) ?_
    refine lv_iadd hx hb dX4_workOut_66 ?_
    refine lv_iconst (v := 1) hx hb dX4_workOut_67 (by decide) ?_
    refine lv_isub hx hb dX4_workOut_68 ?_
    refine lv_iload hx hb dX4_workOut_69 (lv_at hl 0 rfl) ?_
    replace hf := gZ_some hf
    obtain ⟨hz, hf⟩ := hf
    refine lv_idiv hx hb dX4_workOut_71 hz ?_
    exact w_X4_workOut_b72 l ho  (kr_2_1 ho) hf hX hM (lv_sub hl [5, 6, 4, 1] rfl)
  · replace hf := it_f hf hc53
    refine lv_iconst (v := 0) hx hb dX4_workOut_56 (by decide) ?_
    refine lv_goto (tgt := 72) hx hb dX4_workOut_57 (by decide) ?_
    exact w_X4_workOut_b72 l ho  (kr_2_1 ho) hf hX hM (lv_sub hl [5, 6, 4, 1] rfl)
theorem c_X4_workOut (l : Launch) {o : Nat} {a1 : Int32} (ho : knd o = 2) {μ μ2 : Mem} (hf : f_X4_workOut o a1 μ = some μ2) : CT E l yX4_workOut cX4_workOut 8 none (rmF 2 47) [.ref (eA E o), .int a1] μ (none) μ2 := CT.of (show plainFor yX4_workOut = true by decide +kernel) (Nat.le_of_ble_eq_true rfl) rfl (fun _ _ _ _ _ _ _ _ hX hM hl => w_X4_workOut l ho hf hX hM hl)
theorem mv_X4_workOut : MV yX4_workOut cX4_workOut 8 none RX4 1 := ⟨q_13_7, q_13_5, q_13_6, q_5_0, by decide +kernel⟩
def f_X4_freshen_b17 (o : Nat)  : Nat → Int32 → Mem → Option (Mem)
  | 0, _, _ => none
  | n + 1, x1, μ =>
    (if (128 : Int32) ≤ x1 then lt (sI μ o 4 (μ.1 (rf o 0) 10)) (fun μ1 => some μ1) else bnv (f_X4_workOut o x1 μ) (fun μ2 => lt (x1 + (1 : Int32)) (fun v3 => (f_X4_freshen_b17 o  n) v3 μ2)))
set_option maxHeartbeats 4000000 in
set_option maxRecDepth 100000 in
theorem w_X4_freshen_b17 (l : Launch) {o : Nat} (ho : knd o = 2) {μ2 : Mem}  (hX : XX E p m meth c cX4_freshen 2 none s args RX4)  : ∀ (n : Nat) (x1 : Int32) (μ : Mem), f_X4_freshen_b17 o  n x1 μ = some μ2 → ∀ (H : Heap) (locs : List Loc), MM E s μ H locs → ∀ ls : Array Slot, lv_has ls 2 [(0, .ref (eA E o)), (1, .int x1)] → W p l e (rmF 3 74) s m args below meth c H locs 0 0 (MQ below (QC E (none) μ2) args s 0 0 (AA E)) (F0 m 17 ls []) := by
  obtain ⟨⟨hx, hb, hml, hown, hts⟩, hXr⟩ := id hX
  intro n
  induction n with
  | zero => intro x1 μ  hf; exact no_none hf
  | succ n ih =>
    intro x1 μ  hf H locs hM ls hl
    rw [f_X4_freshen_b17] at hf
    have hK17 := ih
    clear ih
    refine lv_iload_n hx hb dX4_freshen_17 rfl (lv_at hl 1 rfl) ?_
    refine lv_sipush (v := 128) hx hb dX4_freshen_18 (by decide) ?_
    refine lv_icmp_ge (tgt := 35) hx hb dX4_freshen_21 (by decide) (fun hc21 => ?_) (fun hc21 => ?_)
    · replace hf := it_t hf hc21
      refine lv_aload_n hx hb dX4_freshen_35 rfl (lv_at hl 0 rfl) ?_
      refine lv_aload_n hx hb dX4_freshen_36 rfl (lv_at hl 0 rfl) ?_
      refine gf_2_0 hX hM ho q_5_10 dX4_freshen_37 ?_
      refine gf_4_10 hX hM (kr_2_0 ho) q_13_3 dX4_freshen_40 ?_
      refine pf_2_4 hX hM ho q_5_9 dX4_freshen_43 (fun μ1 H locs eμ1 hM => ?_)
      replace hf := lt_e eμ1 hf
      exact rt_v hX hM rfl (Option.some.inj hf) dX4_freshen_46
    · replace hf := it_f hf hc21
      refine lv_aload_n hx hb dX4_freshen_24 rfl (lv_at hl 0 rfl) ?_
      refine lv_iload_n hx hb dX4_freshen_25 rfl (lv_at hl 1 rfl) ?_
      replace hf := bnv_some hf
      obtain ⟨μ2, h26, hf⟩ := hf
      refine cl_V (As := [.int x1]) (rest := []) (st2 := []) (n := 1) hX hM (c_X4_workOut l ho h26) mv_X4_workOut q_13_4 ⟨rfl, rfl⟩ ⟨Nat.le_of_ble_eq_true rfl, Nat.le_of_ble_eq_true rfl⟩ ho (by decide) rfl rfl rfl hl.1 rfl (Nat.le_of_ble_eq_true rfl) dX4_freshen_26 rfl (fun H locs hM => ?_)
      obtain ⟨v3, ev3⟩ : ∃ y : Int32, y = x1 + (1 : Int32) := ⟨_, rfl⟩
      replace hf := lt_e ev3 hf
      refine lv_iinc (v := v3) (lv' := [(1, .int v3), (0, .ref (eA E o))]) hx hb dX4_freshen_29 hl (k := 1) rfl (by rw [ev3]; rfl) (by decide) rfl (fun ls hl => ?_)
      refine lv_goto (tgt := 17) hx hb dX4_freshen_32 (by decide) ?_
      exact hK17 _ _  hf _ _ hM _ (lv_sub hl [1, 0] rfl)
def f_X4_freshen (o : Nat) (μ : Mem) : Option (Mem) :=
  (if (μ.1 o 4) = (μ.1 (rf o 0) 10) then some μ else f_X4_freshen_b17 o  FU (0 : Int32) μ)
set_option maxHeartbeats 4000000 in
set_option maxRecDepth 100000 in
theorem w_X4_freshen (l : Launch) {o : Nat} (ho : knd o = 2) {μ μ2 : Mem} {H : Heap} {locs : List Loc} {ls : Array Slot} (hf : f_X4_freshen o μ = some μ2) (hX : XX E p m meth c cX4_freshen 2 none s args RX4) (hM : MM E s μ H locs) (hl : lv_has ls 2 [(0, .ref (eA E o))]) : W p l e (rmF 3 74) s m args below meth c H locs 0 0 (MQ below (QC E (none) μ2) args s 0 0 (AA E)) (F0 m 0 ls []) := by
  obtain ⟨⟨hx, hb, hml, hown, hts⟩, hXr⟩ := id hX
  unfold f_X4_freshen at hf
  refine lv_aload_n hx hb dX4_freshen_0 rfl (lv_at hl 0 rfl) ?_
  refine gf_2_4 hX hM ho q_5_9 dX4_freshen_1 ?_
  refine lv_aload_n hx hb dX4_freshen_4 rfl (lv_at hl 0 rfl) ?_
  refine gf_2_0 hX hM ho q_5_10 dX4_freshen_5 ?_
  refine gf_4_10 hX hM (kr_2_0 ho) q_13_3 dX4_freshen_8 ?_
  refine lv_icmp_ne (tgt := 15) hx hb dX4_freshen_11 (by decide) (fun hc11 => ?_) (fun hc11 => ?_)
  · replace hf := it_f hf hc11
    refine lv_iconst (v := 0) hx hb dX4_freshen_15 (by decide) ?_
    refine lv_istore_n (lv' := [(1, .int (0 : Int32)), (0, .ref (eA E o))]) hx hb dX4_freshen_16 rfl hl (by decide) rfl (fun ls hl => ?_)
    exact w_X4_freshen_b17 l ho hX  FU _ _  hf _ _ hM _ (lv_sub hl [1, 0] rfl)
  · replace hf := it_t hf hc11
    exact rt_v hX hM rfl (Option.some.inj hf) dX4_freshen_14
theorem c_X4_freshen (l : Launch) {o : Nat} (ho : knd o = 2) {μ μ2 : Mem} (hf : f_X4_freshen o μ = some μ2) : CT E l yX4_freshen cX4_freshen 2 none (rmF 3 74) [.ref (eA E o)] μ (none) μ2 := CT.of (show plainFor yX4_freshen = true by decide +kernel) (Nat.le_of_ble_eq_true rfl) rfl (fun _ _ _ _ _ _ _ _ hX hM hl => w_X4_freshen l ho hf hX hM hl)
theorem mv_X4_freshen : MV yX4_freshen cX4_freshen 2 none RX4 0 := ⟨q_13_2, q_13_0, q_13_1, q_5_0, by decide +kernel⟩
def f_X4_targetOf (o : Nat) (a1 : Int32) (a2 : Int32) (μ : Mem) : Option (Int32 × Mem) :=
  bnd (f_X2_squareBeside a1 a2 μ) (fun r2 μ1 => (if r2 = (-1 : Int32) then some ((-1 : Int32), μ1) else bnd (f_X6_isLand (rf o 0) r2 μ1) (fun r4 μ3 => (if r4 = 0 then some (r2, μ3) else some ((-1 : Int32), μ3)))))
set_option maxHeartbeats 4000000 in
set_option maxRecDepth 100000 in
theorem w_X4_targetOf (l : Launch) {o : Nat} {a1 : Int32} {a2 : Int32} (ho : knd o = 2) {μ μ2 : Mem} {r : Int32} {H : Heap} {locs : List Loc} {ls : Array Slot} (hf : f_X4_targetOf o a1 a2 μ = some (r, μ2)) (hX : XX E p m meth c cX4_targetOf 4 (some .int) s args RX4) (hM : MM E s μ H locs) (hl : lv_has ls 4 [(0, .ref (eA E o)), (1, .int a1), (2, .int a2)]) : W p l e (rmF 1 23) s m args below meth c H locs 0 0 (MQ below (QC E (some (.int r)) μ2) args s 0 0 (AA E)) (F0 m 0 ls []) := by
  obtain ⟨⟨hx, hb, hml, hown, hts⟩, hXr⟩ := id hX
  unfold f_X4_targetOf at hf
  refine lv_iload_n hx hb dX4_targetOf_0 rfl (lv_at hl 1 rfl) ?_
  refine lv_iload_n hx hb dX4_targetOf_1 rfl (lv_at hl 2 rfl) ?_
  replace hf := bnd_some hf
  obtain ⟨r2, μ1, h2, hf⟩ := hf
  refine cl_S (As := [.int a1, .int a2]) (rest := []) (st2 := [.int r2]) (n := 2) hX hM (c_X2_squareBeside l  h2) mt_X2_squareBeside q_15_16 ⟨rfl, rfl⟩ ⟨Nat.le_of_ble_eq_true rfl, Nat.le_of_ble_eq_true rfl⟩ rfl hl.1 rfl (Nat.le_of_ble_eq_true rfl) dX4_targetOf_2 rfl (fun H locs hM => ?_)
  refine lv_istore_n (lv' := [(3, .int r2), (0, .ref (eA E o)), (1, .int a1), (2, .int a2)]) hx hb dX4_targetOf_5 rfl hl (by decide) rfl (fun ls hl => ?_)
  refine lv_iload_n hx hb dX4_targetOf_6 rfl (lv_at hl 0 rfl) ?_
  refine lv_iconst (v := (-1)) hx hb dX4_targetOf_7 (by decide) ?_
  refine lv_icmp_eq (tgt := 22) hx hb dX4_targetOf_8 (by decide) (fun hc8 => ?_) (fun hc8 => ?_)
  · replace hf := it_t hf hc8
    refine lv_iconst (v := (-1)) hx hb dX4_targetOf_22 (by decide) ?_
    refine lv_goto (tgt := 27) hx hb dX4_targetOf_23 (by decide) ?_
    exact rt_i hX hM (congrArg (fun z => some (Value.int z)) (so_1 hf)) (so_2 hf) dX4_targetOf_27
  · replace hf := it_f hf hc8
    refine lv_aload_n hx hb dX4_targetOf_11 rfl (lv_at hl 1 rfl) ?_
    refine gf_2_0 hX hM ho q_5_10 dX4_targetOf_12 ?_
    refine lv_iload_n hx hb dX4_targetOf_15 rfl (lv_at hl 0 rfl) ?_
    replace hf := bnd_some hf
    obtain ⟨r4, μ3, h16, hf⟩ := hf
    refine cl_V (As := [.int r2]) (rest := []) (st2 := [.int r4]) (n := 1) hX hM (c_X6_isLand l (kr_2_0 ho) h16) mv_X6_isLand q_15_21 ⟨rfl, rfl⟩ ⟨Nat.le_of_ble_eq_true rfl, Nat.le_of_ble_eq_true rfl⟩ (kr_2_0 ho) (by decide) rfl rfl rfl hl.1 rfl (Nat.le_of_ble_eq_true rfl) dX4_targetOf_16 rfl (fun H locs hM => ?_)
    refine lv_if_eq (tgt := 26) hx hb dX4_targetOf_19 (by decide) (fun hc19 => ?_) (fun hc19 => ?_)
    · replace hf := it_t hf hc19
      refine lv_iload_n hx hb dX4_targetOf_26 rfl (lv_at hl 0 rfl) ?_
      exact rt_i hX hM (congrArg (fun z => some (Value.int z)) (so_1 hf)) (so_2 hf) dX4_targetOf_27
    · replace hf := it_f hf hc19
      refine lv_iconst (v := (-1)) hx hb dX4_targetOf_22 (by decide) ?_
      refine lv_goto (tgt := 27) hx hb dX4_targetOf_23 (by decide) ?_
      exact rt_i hX hM (congrArg (fun z => some (Value.int z)) (so_1 hf)) (so_2 hf) dX4_targetOf_27
theorem c_X4_targetOf (l : Launch) {o : Nat} {a1 : Int32} {a2 : Int32} (ho : knd o = 2) {μ μ2 : Mem} {r : Int32} (hf : f_X4_targetOf o a1 a2 μ = some (r, μ2)) : CT E l yX4_targetOf cX4_targetOf 4 (some .int) (rmF 1 23) [.ref (eA E o), .int a1, .int a2] μ (some (.int r)) μ2 := CT.of (show plainFor yX4_targetOf = true by decide +kernel) (Nat.le_of_ble_eq_true rfl) rfl (fun _ _ _ _ _ _ _ _ hX hM hl => w_X4_targetOf l ho hf hX hM hl)
theorem mv_X4_targetOf : MV yX4_targetOf cX4_targetOf 4 (some .int) RX4 2 := ⟨q_15_15, q_15_13, q_15_14, q_5_0, by decide +kernel⟩
def f_X4_departure (a0 : Int32) (a1 : Int32) (μ : Mem) : Option (Int32 × Mem) :=
  (if a1 = 0 then some (a0, μ) else some ((((a0 / (360 : Int32)) + a1) * (360 : Int32)), μ))
set_option maxHeartbeats 4000000 in
set_option maxRecDepth 100000 in
theorem w_X4_departure (l : Launch) {a0 : Int32} {a1 : Int32}  {μ μ2 : Mem} {r : Int32} {H : Heap} {locs : List Loc} {ls : Array Slot} (hf : f_X4_departure a0 a1 μ = some (r, μ2)) (hX : XX E p m meth c cX4_departure 2 (some .int) s args RX4) (hM : MM E s μ H locs) (hl : lv_has ls 2 [(0, .int a0), (1, .int a1)]) : W p l e (rmF 0 0) s m args below meth c H locs 0 0 (MQ below (QC E (some (.int r)) μ2) args s 0 0 (AA E)) (F0 m 0 ls []) := by
  obtain ⟨⟨hx, hb, hml, hown, hts⟩, hXr⟩ := id hX
  unfold f_X4_departure at hf
  refine lv_iload_n hx hb dX4_departure_0 rfl (lv_at hl 1 rfl) ?_
  refine lv_if_ne (tgt := 8) hx hb dX4_departure_1 (by decide) (fun hc1 => ?_) (fun hc1 => ?_)
  · replace hf := it_f hf hc1
    refine lv_iload_n hx hb dX4_departure_8 rfl (lv_at hl 0 rfl) ?_
    refine lv_sipush (v := 360) hx hb dX4_departure_9 (by decide) ?_
    refine lv_idiv hx hb dX4_departure_12 (by decide) ?_
    refine lv_iload_n hx hb dX4_departure_13 rfl (lv_at hl 1 rfl) ?_
    refine lv_iadd hx hb dX4_departure_14 ?_
    refine lv_sipush (v := 360) hx hb dX4_departure_15 (by decide) ?_
    refine lv_imul hx hb dX4_departure_18 ?_
    exact rt_i hX hM (congrArg (fun z => some (Value.int z)) (so_1 hf)) (so_2 hf) dX4_departure_19
  · replace hf := it_t hf hc1
    refine lv_iload_n hx hb dX4_departure_4 rfl (lv_at hl 0 rfl) ?_
    refine lv_goto (tgt := 19) hx hb dX4_departure_5 (by decide) ?_
    exact rt_i hX hM (congrArg (fun z => some (Value.int z)) (so_1 hf)) (so_2 hf) dX4_departure_19
theorem c_X4_departure (l : Launch) {a0 : Int32} {a1 : Int32}  {μ μ2 : Mem} {r : Int32} (hf : f_X4_departure a0 a1 μ = some (r, μ2)) : CT E l yX4_departure cX4_departure 2 (some .int) (rmF 0 0) [.int a0, .int a1] μ (some (.int r)) μ2 := CT.of (show plainFor yX4_departure = true by decide +kernel) (Nat.le_of_ble_eq_true rfl) rfl (fun _ _ _ _ _ _ _ _ hX hM hl => w_X4_departure l  hf hX hM hl)
theorem mt_X4_departure : MT yX4_departure cX4_departure 2 (some .int) 2 := ⟨q_16_0, q_15_23, q_5_0, by decide +kernel⟩
def f_X4_kindOf (a0 : Int32) (a1 : Int32) (a2 : Int32) (μ : Mem) : Option (Int32 × Mem) :=
  bnd (f_X2_zoneOf a0 μ) (fun r2 μ1 => bnd (f_X2_spanOf a2 μ1) (fun r4 μ3 => lt ((r2 * (4 : Int32)) + r4) (fun v5 => some (((v5 * (8 : Int32)) + a1), μ3))))
set_option maxHeartbeats 4000000 in
set_option maxRecDepth 100000 in
theorem w_X4_kindOf (l : Launch) {a0 : Int32} {a1 : Int32} {a2 : Int32}  {μ μ2 : Mem} {r : Int32} {H : Heap} {locs : List Loc} {ls : Array Slot} (hf : f_X4_kindOf a0 a1 a2 μ = some (r, μ2)) (hX : XX E p m meth c cX4_kindOf 4 (some .int) s args RX4) (hM : MM E s μ H locs) (hl : lv_has ls 4 [(0, .int a0), (1, .int a1), (2, .int a2)]) : W p l e (rmF 1 20) s m args below meth c H locs 0 0 (MQ below (QC E (some (.int r)) μ2) args s 0 0 (AA E)) (F0 m 0 ls []) := by
  obtain ⟨⟨hx, hb, hml, hown, hts⟩, hXr⟩ := id hX
  unfold f_X4_kindOf at hf
  refine lv_iload_n hx hb dX4_kindOf_0 rfl (lv_at hl 0 rfl) ?_
  replace hf := bnd_some hf
  obtain ⟨r2, μ1, h1, hf⟩ := hf
  refine cl_S (As := [.int a0]) (rest := []) (st2 := [.int r2]) (n := 1) hX hM (c_X2_zoneOf l  h1) mt_X2_zoneOf q_16_4 ⟨rfl, rfl⟩ ⟨Nat.le_of_ble_eq_true rfl, Nat.le_of_ble_eq_true rfl⟩ rfl hl.1 rfl (Nat.le_of_ble_eq_true rfl) dX4_kindOf_1 rfl (fun H locs hM => ?_)
  refine lv_iconst (v := 4) hx hb dX4_kindOf_4 (by decide) ?_
  refine lv_imul hx hb dX4_kindOf_5 ?_
  refine lv_iload_n hx hb dX4_kindOf_6 rfl (lv_at hl 2 rfl) ?_
  replace hf := bnd_some hf
  obtain ⟨r4, μ3, h7, hf⟩ := hf
  refine cl_S (As := [.int a2]) (rest := [.int (r2 * (4 : Int32))]) (st2 := [.int r4, .int (r2 * (4 : Int32))]) (n := 1) hX hM (c_X2_spanOf l  h7) mt_X2_spanOf q_16_7 ⟨rfl, rfl⟩ ⟨Nat.le_of_ble_eq_true rfl, Nat.le_of_ble_eq_true rfl⟩ rfl hl.1 rfl (Nat.le_of_ble_eq_true rfl) dX4_kindOf_7 rfl (fun H locs hM => ?_)
  refine lv_iadd hx hb dX4_kindOf_10 ?_
  refine lv_topi (fun v5 ev5 => ?_)
  replace hf := lt_e ev5 hf
  refine lv_istore_n (lv' := [(3, .int v5), (0, .int a0), (1, .int a1), (2, .int a2)]) hx hb dX4_kindOf_11 rfl hl (by decide) rfl (fun ls hl => ?_)
  refine lv_iload_n hx hb dX4_kindOf_12 rfl (lv_at hl 0 rfl) ?_
  refine lv_bipush (v := 8) hx hb dX4_kindOf_13 (by decide) ?_
  refine lv_imul hx hb dX4_kindOf_15 ?_
  refine lv_iload_n hx hb dX4_kindOf_16 rfl (lv_at hl 2 rfl) ?_
  refine lv_iadd hx hb dX4_kindOf_17 ?_
  exact rt_i hX hM (congrArg (fun z => some (Value.int z)) (so_1 hf)) (so_2 hf) dX4_kindOf_18
theorem c_X4_kindOf (l : Launch) {a0 : Int32} {a1 : Int32} {a2 : Int32}  {μ μ2 : Mem} {r : Int32} (hf : f_X4_kindOf a0 a1 a2 μ = some (r, μ2)) : CT E l yX4_kindOf cX4_kindOf 4 (some .int) (rmF 1 20) [.int a0, .int a1, .int a2] μ (some (.int r)) μ2 := CT.of (show plainFor yX4_kindOf = true by decide +kernel) (Nat.le_of_ble_eq_true rfl) rfl (fun _ _ _ _ _ _ _ _ hX hM hl => w_X4_kindOf l  hf hX hM hl)
theorem mt_X4_kindOf : MT yX4_kindOf cX4_kindOf 4 (some .int) 3 := ⟨q_16_3, q_16_2, q_5_0, by decide +kernel⟩
def f_X4_sideThen (o : Nat) (a1 : Int32) (a2 : Int32) (μ : Mem) : Option (Int32 × Mem) :=
  gA a1 (aln (rf o 2)) ((if (μ.1 (rf o 2) a1.toNatClampNeg) = (2 : Int32) then some (a2, μ) else gA a1 (aln (rf o 2)) (some ((μ.1 (rf o 2) a1.toNatClampNeg), μ))))
set_option maxHeartbeats 4000000 in
set_option maxRecDepth 100000 in
theorem w_X4_sideThen (l : Launch) {o : Nat} {a1 : Int32} {a2 : Int32} (ho : knd o = 2) {μ μ2 : Mem} {r : Int32} {H : Heap} {locs : List Loc} {ls : Array Slot} (hf : f_X4_sideThen o a1 a2 μ = some (r, μ2)) (hX : XX E p m meth c cX4_sideThen 3 (some .int) s args RX4) (hM : MM E s μ H locs) (hl : lv_has ls 3 [(0, .ref (eA E o)), (1, .int a1), (2, .int a2)]) : W p l e (rmF 0 0) s m args below meth c H locs 0 0 (MQ below (QC E (some (.int r)) μ2) args s 0 0 (AA E)) (F0 m 0 ls []) := by
  obtain ⟨⟨hx, hb, hml, hown, hts⟩, hXr⟩ := id hX
  unfold f_X4_sideThen at hf
  refine lv_aload_n hx hb dX4_sideThen_0 rfl (lv_at hl 0 rfl) ?_
  refine gf_2_2 hX hM ho q_5_7 dX4_sideThen_1 ?_
  refine lv_iload_n hx hb dX4_sideThen_4 rfl (lv_at hl 1 rfl) ?_
  replace hf := gA_some hf
  obtain ⟨hi, hf⟩ := hf
  refine ald hX hM (kr_2_2 ho) hi dX4_sideThen_5 ?_
  refine lv_iconst (v := 2) hx hb dX4_sideThen_6 (by decide) ?_
  refine lv_icmp_ne (tgt := 14) hx hb dX4_sideThen_7 (by decide) (fun hc7 => ?_) (fun hc7 => ?_)
  · replace hf := it_f hf hc7
    refine lv_aload_n hx hb dX4_sideThen_14 rfl (lv_at hl 0 rfl) ?_
    refine gf_2_2 hX hM ho q_5_7 dX4_sideThen_15 ?_
    refine lv_iload_n hx hb dX4_sideThen_18 rfl (lv_at hl 1 rfl) ?_
    replace hf := gA_some hf
    obtain ⟨hi, hf⟩ := hf
    refine ald hX hM (kr_2_2 ho) hi dX4_sideThen_19 ?_
    exact rt_i hX hM (congrArg (fun z => some (Value.int z)) (so_1 hf)) (so_2 hf) dX4_sideThen_20
  · replace hf := it_t hf hc7
    refine lv_iload_n hx hb dX4_sideThen_10 rfl (lv_at hl 2 rfl) ?_
    refine lv_goto (tgt := 20) hx hb dX4_sideThen_11 (by decide) ?_
    exact rt_i hX hM (congrArg (fun z => some (Value.int z)) (so_1 hf)) (so_2 hf) dX4_sideThen_20
theorem c_X4_sideThen (l : Launch) {o : Nat} {a1 : Int32} {a2 : Int32} (ho : knd o = 2) {μ μ2 : Mem} {r : Int32} (hf : f_X4_sideThen o a1 a2 μ = some (r, μ2)) : CT E l yX4_sideThen cX4_sideThen 3 (some .int) (rmF 0 0) [.ref (eA E o), .int a1, .int a2] μ (some (.int r)) μ2 := CT.of (show plainFor yX4_sideThen = true by decide +kernel) (Nat.le_of_ble_eq_true rfl) rfl (fun _ _ _ _ _ _ _ _ hX hM hl => w_X4_sideThen l ho hf hX hM hl)
theorem mv_X4_sideThen : MV yX4_sideThen cX4_sideThen 3 (some .int) RX4 2 := ⟨q_16_13, q_16_11, q_16_12, q_5_0, by decide +kernel⟩
def f_X4_arrival_b34 (o : Nat) (a1 : Int32) (a2 : Int32) (a3 : Int32)  (t0 : Int32) (μ : Mem) : Option (Int32 × Mem) :=
  gA a1 (aln (rf o 1)) (some (((a3 + (μ.1 (rf o 1) a1.toNatClampNeg)) + t0), μ))
set_option maxHeartbeats 4000000 in
set_option maxRecDepth 100000 in
theorem w_X4_arrival_b34 (l : Launch) {o : Nat} {a1 : Int32} {a2 : Int32} {a3 : Int32} (ho : knd o = 2) {μ2 : Mem} {r : Int32}   {t0 : Int32} {μ : Mem} {H : Heap} {locs : List Loc} {ls : Array Slot}  (hf : f_X4_arrival_b34 o a1 a2 a3  t0 μ = some (r, μ2)) (hX : XX E p m meth c cX4_arrival 5 (some .int) s args RX4) (hM : MM E s μ H locs) (hl : lv_has ls 5 [(0, .ref (eA E o)), (1, .int a1), (2, .int a2), (3, .int a3)]) : W p l e (rmF 0 0) s m args below meth c H locs 0 0 (MQ below (QC E (some (.int r)) μ2) args s 0 0 (AA E)) (F0 m 34 ls [.int t0]) := by
  obtain ⟨⟨hx, hb, hml, hown, hts⟩, hXr⟩ := id hX
  unfold f_X4_arrival_b34 at hf
  refine lv_istore (lv' := [(4, .int t0), (0, .ref (eA E o)), (1, .int a1), (2, .int a2), (3, .int a3)]) hx hb dX4_arrival_34 hl (by decide) rfl (fun ls hl => ?_)
  refine lv_iload_n hx hb dX4_arrival_36 rfl (lv_at hl 4 rfl) ?_
  refine lv_aload_n hx hb dX4_arrival_37 rfl (lv_at hl 1 rfl) ?_
  refine gf_2_1 hX hM ho q_5_6 dX4_arrival_38 ?_
  refine lv_iload_n hx hb dX4_arrival_41 rfl (lv_at hl 2 rfl) ?_
  replace hf := gA_some hf
  obtain ⟨hi, hf⟩ := hf
  refine ald hX hM (kr_2_1 ho) hi dX4_arrival_42 ?_
  refine lv_iadd hx hb dX4_arrival_43 ?_
  refine lv_iload hx hb dX4_arrival_44 (lv_at hl 0 rfl) ?_
  refine lv_iadd hx hb dX4_arrival_46 ?_
  exact rt_i hX hM (congrArg (fun z => some (Value.int z)) (so_1 hf)) (so_2 hf) dX4_arrival_47
def f_X4_arrival (o : Nat) (a1 : Int32) (a2 : Int32) (a3 : Int32) (μ : Mem) : Option (Int32 × Mem) :=
  gA a1 (aln (rf o 1)) ((if (μ.1 (rf o 1) a1.toNatClampNeg) = 0 then some ((1000000000 : Int32), μ) else gA a1 (aln (rf o 2)) ((if (μ.1 (rf o 2) a1.toNatClampNeg) = ((1 : Int32) - a2) then gA a1 (aln (rf o 3)) (f_X4_arrival_b34 o a1 a2 a3  (μ.1 (rf o 3) a1.toNatClampNeg) μ) else f_X4_arrival_b34 o a1 a2 a3  (0 : Int32) μ))))
set_option maxHeartbeats 4000000 in
set_option maxRecDepth 100000 in
theorem w_X4_arrival (l : Launch) {o : Nat} {a1 : Int32} {a2 : Int32} {a3 : Int32} (ho : knd o = 2) {μ μ2 : Mem} {r : Int32} {H : Heap} {locs : List Loc} {ls : Array Slot} (hf : f_X4_arrival o a1 a2 a3 μ = some (r, μ2)) (hX : XX E p m meth c cX4_arrival 5 (some .int) s args RX4) (hM : MM E s μ H locs) (hl : lv_has ls 5 [(0, .ref (eA E o)), (1, .int a1), (2, .int a2), (3, .int a3)]) : W p l e (rmF 0 0) s m args below meth c H locs 0 0 (MQ below (QC E (some (.int r)) μ2) args s 0 0 (AA E)) (F0 m 0 ls []) := by
  obtain ⟨⟨hx, hb, hml, hown, hts⟩, hXr⟩ := id hX
  unfold f_X4_arrival at hf
  refine lv_aload_n hx hb dX4_arrival_0 rfl (lv_at hl 0 rfl) ?_
  refine gf_2_1 hX hM ho q_5_6 dX4_arrival_1 ?_
  refine lv_iload_n hx hb dX4_arrival_4 rfl (lv_at hl 1 rfl) ?_
  replace hf := gA_some hf
  obtain ⟨hi, hf⟩ := hf
  refine ald hX hM (kr_2_1 ho) hi dX4_arrival_5 ?_
  refine lv_if_ne (tgt := 12) hx hb dX4_arrival_6 (by decide) (fun hc6 => ?_) (fun hc6 => ?_)
  · replace hf := it_f hf hc6
    refine lv_aload_n hx hb dX4_arrival_12 rfl (lv_at hl 0 rfl) ?_
    refine gf_2_2 hX hM ho q_5_7 dX4_arrival_13 ?_
    refine lv_iload_n hx hb dX4_arrival_16 rfl (lv_at hl 1 rfl) ?_
    replace hf := gA_some hf
    obtain ⟨hi, hf⟩ := hf
    refine ald hX hM (kr_2_2 ho) hi dX4_arrival_17 ?_
    refine lv_iconst (v := 1) hx hb dX4_arrival_18 (by decide) ?_
    refine lv_iload_n hx hb dX4_arrival_19 rfl (lv_at hl 2 rfl) ?_
    refine lv_isub hx hb dX4_arrival_20 ?_
    refine lv_icmp_ne (tgt := 33) hx hb dX4_arrival_21 (by decide) (fun hc21 => ?_) (fun hc21 => ?_)
    · replace hf := it_f hf hc21
      refine lv_iconst (v := 0) hx hb dX4_arrival_33 (by decide) ?_
      exact w_X4_arrival_b34 l ho   hf hX hM (lv_sub hl [0, 1, 2, 3] rfl)
    · replace hf := it_t hf hc21
      refine lv_aload_n hx hb dX4_arrival_24 rfl (lv_at hl 0 rfl) ?_
      refine gf_2_3 hX hM ho q_5_8 dX4_arrival_25 ?_
      refine lv_iload_n hx hb dX4_arrival_28 rfl (lv_at hl 1 rfl) ?_
      replace hf := gA_some hf
      obtain ⟨hi, hf⟩ := hf
      refine ald hX hM (kr_2_3 ho) hi dX4_arrival_29 ?_
      refine lv_goto (tgt := 34) hx hb dX4_arrival_30 (by decide) ?_
      exact w_X4_arrival_b34 l ho   hf hX hM (lv_sub hl [0, 1, 2, 3] rfl)
  · replace hf := it_t hf hc6
    refine lv_ldc (v := 1000000000) hx hb hown (hts _ q_16_18) dX4_arrival_9 ?_
    exact rt_i hX hM (congrArg (fun z => some (Value.int z)) (so_1 hf)) (so_2 hf) dX4_arrival_11
theorem c_X4_arrival (l : Launch) {o : Nat} {a1 : Int32} {a2 : Int32} {a3 : Int32} (ho : knd o = 2) {μ μ2 : Mem} {r : Int32} (hf : f_X4_arrival o a1 a2 a3 μ = some (r, μ2)) : CT E l yX4_arrival cX4_arrival 5 (some .int) (rmF 0 0) [.ref (eA E o), .int a1, .int a2, .int a3] μ (some (.int r)) μ2 := CT.of (show plainFor yX4_arrival = true by decide +kernel) (Nat.le_of_ble_eq_true rfl) rfl (fun _ _ _ _ _ _ _ _ hX hM hl => w_X4_arrival l ho hf hX hM hl)
theorem mv_X4_arrival : MV yX4_arrival cX4_arrival 5 (some .int) RX4 3 := ⟨q_16_17, q_16_15, q_16_16, q_5_0, by decide +kernel⟩
def f_X4_soonestDeparture_b24 (o : Nat) (a1 : Int32) (a2 : Int32) (a3 : Int32) (a4 : Int32)  : Nat → Int32 → Int32 → Int32 → Mem → Option (Int32 × Mem)
  | 0, _, _, _, _ => none
  | n + 1, x5, x6, x7, μ =>
    (if (4 : Int32) ≤ x7 then some (x5, μ) else bnd (f_X4_departure a4 x7 μ) (fun r4 μ3 => bnd (f_X4_kindOf a1 a3 r4 μ3) (fun r6 μ5 => bnd (f_X4_arrival o r6 a2 r4 μ5) (fun r8 μ7 => (if x6 ≤ r8 then lt (x7 + (1 : Int32)) (fun v9 => (f_X4_soonestDeparture_b24 o a1 a2 a3 a4  n) x5 x6 v9 μ7) else lt (x7 + (1 : Int32)) (fun v10 => (f_X4_soonestDeparture_b24 o a1 a2 a3 a4  n) r4 r8 v10 μ7))))))
set_option maxHeartbeats 4000000 in
set_option maxRecDepth 100000 in
theorem w_X4_soonestDeparture_b24 (l : Launch) {o : Nat} {a1 : Int32} {a2 : Int32} {a3 : Int32} {a4 : Int32} (ho : knd o = 2) {μ2 : Mem} {r : Int32}  (hX : XX E p m meth c cX4_soonestDeparture 10 (some .int) s args RX4)  : ∀ (n : Nat) (x5 : Int32) (x6 : Int32) (x7 : Int32) (μ : Mem), f_X4_soonestDeparture_b24 o a1 a2 a3 a4  n x5 x6 x7 μ = some (r, μ2) → ∀ (H : Heap) (locs : List Loc), MM E s μ H locs → ∀ ls : Array Slot, lv_has ls 10 [(0, .ref (eA E o)), (1, .int a1), (2, .int a2), (3, .int a3), (4, .int a4), (5, .int x5), (6, .int x6), (7, .int x7)] → W p l e (rmF 2 46) s m args below meth c H locs 0 0 (MQ below (QC E (some (.int r)) μ2) args s 0 0 (AA E)) (F0 m 24 ls []) := by
  obtain ⟨⟨hx, hb, hml, hown, hts⟩, hXr⟩ := id hX
  intro n
  induction n with
  | zero => intro x5 x6 x7 μ  hf; exact no_none hf
  | succ n ih =>
    intro x5 x6 x7 μ  hf H locs hM ls hl
    rw [f_X4_soonestDeparture_b24] at hf
    have hK24 := ih
    clear ih
    refine lv_iload hx hb dX4_soonestDeparture_24 (lv_at hl 7 rfl) ?_
    refine lv_iconst (v := 4) hx hb dX4_soonestDeparture_26 (by decide) ?_
    refine lv_icmp_ge (tgt := 76) hx hb dX4_soonestDeparture_27 (by decide) (fun hc27 => ?_) (fun hc27 => ?_)
    · replace hf := it_t hf hc27
      refine lv_iload hx hb dX4_soonestDeparture_76 (lv_at hl 5 rfl) ?_
      exact rt_i hX hM (congrArg (fun z => some (Value.int z)) (so_1 hf)) (so_2 hf) dX4_soonestDeparture_78
    · replace hf := it_f hf hc27
      refine lv_iload hx hb dX4_soonestDeparture_30 (lv_at hl 4 rfl) ?_
      refine lv_iload hx hb dX4_soonestDeparture_32 (lv_at hl 7 rfl) ?_
      replace hf := bnd_some hf
      obtain ⟨r4, μ3, h34, hf⟩ := hf
      refine cl_S (As := [.int a4, .int x7]) (rest := []) (st2 := [.int r4]) (n := 2) hX hM (c_X4_departure l  h34) mt_X4_departure q_31_23 ⟨rfl, rfl⟩ ⟨Nat.le_of_ble_eq_true rfl, Nat.le_of_ble_eq_true rfl⟩ rfl hl.1 rfl (Nat.le_of_ble_eq_true rfl) dX4_soonestDeparture_34 rfl (fun H locs hM => ?_)
      refine lv_istore (lv' := [(8, .int r4), (0, .ref (eA E o)), (1, .int a1), (2, .int a2), (3, .int a3), (4, .int a4), (5, .int x5), (6, .int x6), (7, .int x7)]) hx hb dX4_soonestDeparture_37 hl (by decide) rfl (fun ls hl => ?_)
      refine lv_aload_n hx hb dX4_soonestDeparture_39 rfl (lv_at hl 1 rfl) ?_
      refine lv_iload_n hx hb dX4_soonestDeparture_40 rfl (lv_at hl 2 rfl) ?_
      refine lv_iload_n hx hb dX4_soonestDeparture_41 rfl (lv_at hl 4 rfl) ?_
      refine lv_iload hx hb dX4_soonestDeparture_42 (lv_at hl 0 rfl) ?_
      replace hf := bnd_some hf
      obtain ⟨r6, μ5, h44, hf⟩ := hf
      refine cl_S (As := [.int a1, .int a3, .int r4]) (rest := [.ref (eA E o)]) (st2 := [.int r6, .ref (eA E o)]) (n := 3) hX hM (c_X4_kindOf l  h44) mt_X4_kindOf q_32_0 ⟨rfl, rfl⟩ ⟨Nat.le_of_ble_eq_true rfl, Nat.le_of_ble_eq_true rfl⟩ rfl hl.1 rfl (Nat.le_of_ble_eq_true rfl) dX4_soonestDeparture_44 rfl (fun H locs hM => ?_)
      refine lv_iload_n hx hb dX4_soonestDeparture_47 rfl (lv_at hl 3 rfl) ?_
      refine lv_iload hx hb dX4_soonestDeparture_48 (lv_at hl 0 rfl) ?_
      replace hf := bnd_some hf
      obtain ⟨r8, μ7, h50, hf⟩ := hf
      refine cl_V (As := [.int r6, .int a2, .int r4]) (rest := []) (st2 := [.int r8]) (n := 3) hX hM (c_X4_arrival l ho h50) mv_X4_arrival q_32_1 ⟨rfl, rfl⟩ ⟨Nat.le_of_ble_eq_true rfl, Nat.le_of_ble_eq_true rfl⟩ ho (by decide) rfl rfl rfl hl.1 rfl (Nat.le_of_ble_eq_true rfl) dX4_soonestDeparture_50 rfl (fun H locs hM => ?_)
      refine lv_istore (lv' := [(9, .int r8), (8, .int r4), (0, .ref (eA E o)), (1, .int a1), (2, .int a2), (3, .int a3), (4, .int a4), (5, .int x5), (6, .int x6), (7, .int x7)]) hx hb dX4_soonestDeparture_53 hl (by decide) rfl (fun ls hl => ?_)
      refine lv_iload hx hb dX4_soonestDeparture_55 (lv_at hl 0 rfl) ?_
      refine lv_iload hx hb dX4_soonestDeparture_57 (lv_at hl 8 rfl) ?_
      refine lv_icmp_ge (tgt := 70) hx hb dX4_soonestDeparture_59 (by decide) (fun hc59 => ?_) (fun hc59 => ?_)
      · replace hf := it_t hf hc59
        obtain ⟨v9, ev9⟩ : ∃ y : Int32, y = x7 + (1 : Int32) := ⟨_, rfl⟩
        replace hf := lt_e ev9 hf
        refine lv_iinc (v := v9) (lv' := [(7, .int v9), (9, .int r8), (8, .int r4), (0, .ref (eA E o)), (1, .int a1), (2, .int a2), (3, .int a3), (4, .int a4), (5, .int x5), (6, .int x6)]) hx hb dX4_soonestDeparture_70 hl (k := 9) rfl (by rw [ev9]; rfl) (by decide) rfl (fun ls hl => ?_)
        refine lv_goto (tgt := 24) hx hb dX4_soonestDeparture_73 (by decide) ?_
        exact hK24 _ _ _ _  hf _ _ hM _ (lv_sub hl [3, 4, 5, 6, 7, 8, 9, 0] rfl)
      · replace hf := it_f hf hc59
        refine lv_iload hx hb dX4_soonestDeparture_62 (lv_at hl 0 rfl) ?_
        refine lv_istore (lv' := [(6, .int r8), (9, .int r8), (8, .int r4), (0, .ref (eA E o)), (1, .int a1), (2, .int a2), (3, .int a3), (4, .int a4), (5, .int x5), (7, .int x7)]) hx hb dX4_soonestDeparture_64 hl (by decide) rfl (fun ls hl => ?_)
        refine lv_iload hx hb dX4_soonestDeparture_66 (lv_at hl 2 rfl) ?_
        refine lv_istore (lv' := [(5, .int r4), (6, .int r8), (9, .int r8), (8, .int r4), (0, .ref (eA E o)), (1, .int a1), (2, .int a2), (3, .int a3), (4, .int a4), (7, .int x7)]) hx hb dX4_soonestDeparture_68 hl (by decide) rfl (fun ls hl => ?_)
        obtain ⟨v10, ev10⟩ : ∃ y : Int32, y = x7 + (1 : Int32) := ⟨_, rfl⟩
        replace hf := lt_e ev10 hf
        refine lv_iinc (v := v10) (lv' := [(7, .int v10), (5, .int r4), (6, .int r8), (9, .int r8), (8, .int r4), (0, .ref (eA E o)), (1, .int a1), (2, .int a2), (3, .int a3), (4, .int a4)]) hx hb dX4_soonestDeparture_70 hl (k := 9) rfl (by rw [ev10]; rfl) (by decide) rfl (fun ls hl => ?_)
        refine lv_goto (tgt := 24) hx hb dX4_soonestDeparture_73 (by decide) ?_
        exact hK24 _ _ _ _  hf _ _ hM _ (lv_sub hl [5, 6, 7, 8, 9, 1, 2, 0] rfl)
def f_X4_soonestDeparture (o : Nat) (a1 : Int32) (a2 : Int32) (a3 : Int32) (a4 : Int32) (μ : Mem) : Option (Int32 × Mem) :=
  bnd (f_X4_targetOf o a1 a3 μ) (fun r2 μ1 => (if r2 = (-1 : Int32) then some ((1000000000 : Int32), μ1) else f_X4_soonestDeparture_b24 o a1 a2 a3 a4  FU (1000000000 : Int32) (1000000000 : Int32) (0 : Int32) μ1))
set_option maxHeartbeats 4000000 in
set_option maxRecDepth 100000 in
theorem w_X4_soonestDeparture (l : Launch) {o : Nat} {a1 : Int32} {a2 : Int32} {a3 : Int32} {a4 : Int32} (ho : knd o = 2) {μ μ2 : Mem} {r : Int32} {H : Heap} {locs : List Loc} {ls : Array Slot} (hf : f_X4_soonestDeparture o a1 a2 a3 a4 μ = some (r, μ2)) (hX : XX E p m meth c cX4_soonestDeparture 10 (some .int) s args RX4) (hM : MM E s μ H locs) (hl : lv_has ls 10 [(0, .ref (eA E o)), (1, .int a1), (2, .int a2), (3, .int a3), (4, .int a4)]) : W p l e (rmF 2 46) s m args below meth c H locs 0 0 (MQ below (QC E (some (.int r)) μ2) args s 0 0 (AA E)) (F0 m 0 ls []) := by
  obtain ⟨⟨hx, hb, hml, hown, hts⟩, hXr⟩ := id hX
  unfold f_X4_soonestDeparture at hf
  refine lv_aload_n hx hb dX4_soonestDeparture_0 rfl (lv_at hl 0 rfl) ?_
  refine lv_iload_n hx hb dX4_soonestDeparture_1 rfl (lv_at hl 1 rfl) ?_
  refine lv_iload_n hx hb dX4_soonestDeparture_2 rfl (lv_at hl 3 rfl) ?_
  replace hf := bnd_some hf
  obtain ⟨r2, μ1, h3, hf⟩ := hf
  refine cl_V (As := [.int a1, .int a3]) (rest := []) (st2 := [.int r2]) (n := 2) hX hM (c_X4_targetOf l ho h3) mv_X4_targetOf q_31_22 ⟨rfl, rfl⟩ ⟨Nat.le_of_ble_eq_true rfl, Nat.le_of_ble_eq_true rfl⟩ ho (by decide) rfl rfl rfl hl.1 rfl (Nat.le_of_ble_eq_true rfl) dX4_soonestDeparture_3 rfl (fun H locs hM => ?_)
  refine lv_iconst (v := (-1)) hx hb dX4_soonestDeparture_6 (by decide) ?_
  refine lv_icmp_ne (tgt := 13) hx hb dX4_soonestDeparture_7 (by decide) (fun hc7 => ?_) (fun hc7 => ?_)
  · replace hf := it_f hf hc7
    refine lv_ldc (v := 1000000000) hx hb hown (hts _ q_16_18) dX4_soonestDeparture_13 ?_
    refine lv_istore (lv' := [(5, .int (1000000000 : Int32)), (0, .ref (eA E o)), (1, .int a1), (2, .int a2), (3, .int a3), (4, .int a4)]) hx hb dX4_soonestDeparture_15 hl (by decide) rfl (fun ls hl => ?_)
    refine lv_ldc (v := 1000000000) hx hb hown (hts _ q_16_18) dX4_soonestDeparture_17 ?_
    refine lv_istore (lv' := [(6, .int (1000000000 : Int32)), (5, .int (1000000000 : Int32)), (0, .ref (eA E o)), (1, .int a1), (2, .int a2), (3, .int a3), (4, .int a4)]) hx hb dX4_soonestDeparture_19 hl (by decide) rfl (fun ls hl => ?_)
    refine lv_iconst (v := 0) hx hb dX4_soonestDeparture_21 (by decide) ?_
    refine lv_istore (lv' := [(7, .int (0 : Int32)), (6, .int (1000000000 : Int32)), (5, .int (1000000000 : Int32)), (0, .ref (eA E o)), (1, .int a1), (2, .int a2), (3, .int a3), (4, .int a4)]) hx hb dX4_soonestDeparture_22 hl (by decide) rfl (fun ls hl => ?_)
    exact w_X4_soonestDeparture_b24 l ho hX  FU _ _ _ _  hf _ _ hM _ (lv_sub hl [3, 4, 5, 6, 7, 2, 1, 0] rfl)
  · replace hf := it_t hf hc7
    refine lv_ldc (v := 1000000000) hx hb hown (hts _ q_16_18) dX4_soonestDeparture_10 ?_
    exact rt_i hX hM (congrArg (fun z => some (Value.int z)) (so_1 hf)) (so_2 hf) dX4_soonestDeparture_12
theorem c_X4_soonestDeparture (l : Launch) {o : Nat} {a1 : Int32} {a2 : Int32} {a3 : Int32} {a4 : Int32} (ho : knd o = 2) {μ μ2 : Mem} {r : Int32} (hf : f_X4_soonestDeparture o a1 a2 a3 a4 μ = some (r, μ2)) : CT E l yX4_soonestDeparture cX4_soonestDeparture 10 (some .int) (rmF 2 46) [.ref (eA E o), .int a1, .int a2, .int a3, .int a4] μ (some (.int r)) μ2 := CT.of (show plainFor yX4_soonestDeparture = true by decide +kernel) (Nat.le_of_ble_eq_true rfl) rfl (fun _ _ _ _ _ _ _ _ hX hM hl => w_X4_soonestDeparture l ho hf hX hM hl)
theorem mv_X4_soonestDeparture : MV yX4_soonestDeparture cX4_soonestDeparture 10 (some .int) RX4 4 := ⟨q_31_21, q_31_19, q_31_20, q_5_0, by decide +kernel⟩
end PG
