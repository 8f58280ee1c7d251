section PG
variable {p : Program} {e : Env} {s : State} {m : MethodId} {args : Array Value} {below : List Frame} {meth : Method} {c : Code} {E : EE}
def f_X1_startSpot (o : Nat) (μ : Mem) : Option (Int32 × Mem) :=
  some ((((2 : Int32) * (μ.1 (rf o 0) 7)) + (μ.1 (rf o 0) 8)), μ)
set_option maxHeartbeats 4000000 in
set_option maxRecDepth 100000 in
theorem w_X1_startSpot (l : Launch) {o : Nat} (ho : knd o = 0) {μ μ2 : Mem} {r : Int32} {H : Heap} {locs : List Loc} {ls : Array Slot} (hf : f_X1_startSpot o μ = some (r, μ2)) (hX : XX E p m meth c cX1_startSpot 1 (some .int) s args RX1) (hM : MM E s μ H locs) (hl : lv_has ls 1 [(0, .ref (eA E o))]) : W p l e (rmF 0 0) s m args below meth c H locs 0 0 (MQ below (QC E (some (.int r)) μ2) args s 0 0 (AA E)) (F0 m 0 ls []) := by
  obtain ⟨⟨hx, hb, hml, hown, hts⟩, hXr⟩ := id hX
  unfold f_X1_startSpot at hf
  refine lv_iconst (v := 2) hx hb dX1_startSpot_0 (by decide) ?_
  refine lv_aload_n hx hb dX1_startSpot_1 rfl (lv_at hl 0 rfl) ?_
  refine gf_0_0 hX hM ho q_4_21 dX1_startSpot_2 ?_
  refine gf_4_7 hX hM (kr_0_0 ho) q_14_18 dX1_startSpot_5 ?_
  refine lv_imul hx hb dX1_startSpot_8 ?_
  refine lv_aload_n hx hb dX1_startSpot_9 rfl (lv_at hl 0 rfl) ?_
  refine gf_0_0 hX hM ho q_4_21 dX1_startSpot_10 ?_
  refine gf_4_8 hX hM (kr_0_0 ho) q_14_19 dX1_startSpot_13 ?_
  refine lv_iadd hx hb dX1_startSpot_16 ?_
  exact rt_i hX hM (congrArg (fun z => some (Value.int z)) (so_1 hf)) (so_2 hf) dX1_startSpot_17
theorem c_X1_startSpot (l : Launch) {o : Nat} (ho : knd o = 0) {μ μ2 : Mem} {r : Int32} (hf : f_X1_startSpot o μ = some (r, μ2)) : CT E l yX1_startSpot cX1_startSpot 1 (some .int) (rmF 0 0) [.ref (eA E o)] μ (some (.int r)) μ2 := CT.of (show plainFor yX1_startSpot = true by decide +kernel) (Nat.le_of_ble_eq_true rfl) rfl (fun _ _ _ _ _ _ _ _ hX hM hl => w_X1_startSpot l ho hf hX hM hl)
theorem mv_X1_startSpot : MV yX1_startSpot cX1_startSpot 1 (some .int) RX1 0 := ⟨q_14_17, q_14_15, q_14_16, q_1_23, by decide +kernel⟩
def f_X1_reach_b40 (o : Nat) (a1 : Int32) (a2 : Int32)   (μ : Mem) : Option (Mem) :=
  gA a1 (aln (rf o 2)) (lt (sI μ (rf o 2) a1.toNatClampNeg a2) (fun μ1 => some μ1))
set_option maxHeartbeats 4000000 in
set_option maxRecDepth 100000 in
theorem w_X1_reach_b40 (l : Launch) {o : Nat} {a1 : Int32} {a2 : Int32} (ho : knd o = 0) {μ2 : Mem}    {μ : Mem} {H : Heap} {locs : List Loc} {ls : Array Slot}  (hf : f_X1_reach_b40 o a1 a2   μ = some μ2) (hX : XX E p m meth c cX1_reach 3 none s args RX1) (hM : MM E s μ H locs) (hl : lv_has ls 3 [(0, .ref (eA E o)), (1, .int a1), (2, .int a2)]) : W p l e (rmF 0 0) s m args below meth c H locs 0 0 (MQ below (QC E (none) μ2) args s 0 0 (AA E)) (F0 m 40 ls []) := by
  obtain ⟨⟨hx, hb, hml, hown, hts⟩, hXr⟩ := id hX
  unfold f_X1_reach_b40 at hf
  refine lv_aload_n hx hb dX1_reach_40 rfl (lv_at hl 0 rfl) ?_
  refine gf_0_2 hX hM ho q_4_14 dX1_reach_41 ?_
  refine lv_iload_n hx hb dX1_reach_44 rfl (lv_at hl 1 rfl) ?_
  refine lv_iload_n hx hb dX1_reach_45 rfl (lv_at hl 2 rfl) ?_
  replace hf := gA_some hf
  obtain ⟨hi, hf⟩ := hf
  refine ast hX hM (kr_0_2 ho) hi dX1_reach_46 (fun μ1 H locs eμ1 hM => ?_)
  replace hf := lt_e eμ1 hf
  exact rt_v hX hM rfl (Option.some.inj hf) dX1_reach_47
def f_X1_reach (o : Nat) (a1 : Int32) (a2 : Int32) (μ : Mem) : Option (Mem) :=
  gA a1 (aln (rf o 2)) ((if (μ.1 (rf o 2) a1.toNatClampNeg) = (1000000000 : Int32) then (if (72 : Int32) ≤ (μ.1 o 4) then f_X1_reach_b40 o a1 a2   μ else gA (μ.1 o 4) (aln (rf o 3)) (lt (sI μ (rf o 3) (μ.1 o 4).toNatClampNeg a1) (fun μ2 => lt (sI μ2 o 4 ((μ2.1 o 4) + (1 : Int32))) (fun μ3 => f_X1_reach_b40 o a1 a2   μ3)))) else f_X1_reach_b40 o a1 a2   μ))
set_option maxHeartbeats 4000000 in
set_option maxRecDepth 100000 in
theorem w_X1_reach (l : Launch) {o : Nat} {a1 : Int32} {a2 : Int32} (ho : knd o = 0) {μ μ2 : Mem} {H : Heap} {locs : List Loc} {ls : Array Slot} (hf : f_X1_reach o a1 a2 μ = some μ2) (hX : XX E p m meth c cX1_reach 3 none s args RX1) (hM : MM E s μ H locs) (hl : lv_has ls 3 [(0, .ref (eA E o)), (1, .int a1), (2, .int a2)]) : W p l e (rmF 0 0) s m args below meth c H locs 0 0 (MQ below (QC E (none) μ2) args s 0 0 (AA E)) (F0 m 0 ls []) := by
  obtain ⟨⟨hx, hb, hml, hown, hts⟩, hXr⟩ := id hX
  unfold f_X1_reach at hf
  refine lv_aload_n hx hb dX1_reach_0 rfl (lv_at hl 0 rfl) ?_
  refine gf_0_2 hX hM ho q_4_14 dX1_reach_1 ?_
  refine lv_iload_n hx hb dX1_reach_4 rfl (lv_at hl 1 rfl) ?_
  replace hf := gA_some hf
  obtain ⟨hi, hf⟩ := hf
  refine ald hX hM (kr_0_2 ho) hi dX1_reach_5 ?_
  refine lv_ldc (v := 1000000000) hx hb hown (hts _ q_12_21) dX1_reach_6 ?_
  refine lv_icmp_ne (tgt := 40) hx hb dX1_reach_8 (by decide) (fun hc8 => ?_) (fun hc8 => ?_)
  · replace hf := it_f hf hc8
    exact w_X1_reach_b40 l ho   hf hX hM (lv_sub hl [0, 1, 2] rfl)
  · replace hf := it_t hf hc8
    refine lv_aload_n hx hb dX1_reach_11 rfl (lv_at hl 0 rfl) ?_
    refine gf_0_4 hX hM ho q_4_16 dX1_reach_12 ?_
    refine lv_bipush (v := 72) hx hb dX1_reach_15 (by decide) ?_
    refine lv_icmp_ge (tgt := 40) hx hb dX1_reach_17 (by decide) (fun hc17 => ?_) (fun hc17 => ?_)
    · replace hf := it_t hf hc17
      exact w_X1_reach_b40 l ho   hf hX hM (lv_sub hl [0, 1, 2] rfl)
    · replace hf := it_f hf hc17
      refine lv_aload_n hx hb dX1_reach_20 rfl (lv_at hl 0 rfl) ?_
      refine gf_0_3 hX hM ho q_4_15 dX1_reach_21 ?_
      refine lv_aload_n hx hb dX1_reach_24 rfl (lv_at hl 0 rfl) ?_
      refine gf_0_4 hX hM ho q_4_16 dX1_reach_25 ?_
      refine lv_iload_n hx hb dX1_reach_28 rfl (lv_at hl 1 rfl) ?_
      replace hf := gA_some hf
      obtain ⟨hi, hf⟩ := hf
      refine ast hX hM (kr_0_3 ho) hi dX1_reach_29 (fun μ2 H locs eμ2 hM => ?_)
      replace hf := lt_e eμ2 hf
      refine lv_aload_n hx hb dX1_reach_30 rfl (lv_at hl 0 rfl) ?_
      refine lv_dup hx hb dX1_reach_31 rfl ?_
      refine gf_0_4 hX hM ho q_4_16 dX1_reach_32 ?_
      refine lv_iconst (v := 1) hx hb dX1_reach_35 (by decide) ?_
      refine lv_iadd hx hb dX1_reach_36 ?_
      refine pf_0_4 hX hM ho q_4_16 dX1_reach_37 (fun μ3 H locs eμ3 hM => ?_)
      replace hf := lt_e eμ3 hf
      exact w_X1_reach_b40 l ho   hf hX hM (lv_sub hl [0, 1, 2] rfl)
theorem c_X1_reach (l : Launch) {o : Nat} {a1 : Int32} {a2 : Int32} (ho : knd o = 0) {μ μ2 : Mem} (hf : f_X1_reach o a1 a2 μ = some μ2) : CT E l yX1_reach cX1_reach 3 none (rmF 0 0) [.ref (eA E o), .int a1, .int a2] μ (none) μ2 := CT.of (show plainFor yX1_reach = true by decide +kernel) (Nat.le_of_ble_eq_true rfl) rfl (fun _ _ _ _ _ _ _ _ hX hM hl => w_X1_reach l ho hf hX hM hl)
theorem mv_X1_reach : MV yX1_reach cX1_reach 3 none RX1 2 := ⟨q_14_23, q_14_21, q_14_22, q_1_23, by decide +kernel⟩
def f_X1_takeNearest_b4 (o : Nat)  : Nat → Int32 → Int32 → Mem → Option (Int32 × Mem)
  | 0, _, _, _ => none
  | n + 1, x1, x2, μ =>
    (if (μ.1 o 4) ≤ x2 then gA x1 (aln (rf o 3)) (lt (μ.1 (rf o 3) x1.toNatClampNeg) (fun v1 => lt (sI μ o 4 ((μ.1 o 4) - (1 : Int32))) (fun μ2 => gA (μ2.1 o 4) (aln (rf o 3)) (gA x1 (aln (rf o 3)) (lt (sI μ2 (rf o 3) x1.toNatClampNeg (μ2.1 (rf o 3) (μ2.1 o 4).toNatClampNeg)) (fun μ3 => some (v1, μ3))))))) else gA x2 (aln (rf o 3)) (gA (μ.1 (rf o 3) x2.toNatClampNeg) (aln (rf o 2)) (gA x1 (aln (rf o 3)) (gA (μ.1 (rf o 3) x1.toNatClampNeg) (aln (rf o 2)) ((if (μ.1 (rf o 2) (μ.1 (rf o 3) x1.toNatClampNeg).toNatClampNeg) ≤ (μ.1 (rf o 2) (μ.1 (rf o 3) x2.toNatClampNeg).toNatClampNeg) then lt (x2 + (1 : Int32)) (fun v4 => (f_X1_takeNearest_b4 o  n) x1 v4 μ) else lt (x2 + (1 : Int32)) (fun v5 => (f_X1_takeNearest_b4 o  n) x2 v5 μ)))))))
set_option maxHeartbeats 4000000 in
set_option maxRecDepth 100000 in
theorem w_X1_takeNearest_b4 (l : Launch) {o : Nat} (ho : knd o = 0) {μ2 : Mem} {r : Int32}  (hX : XX E p m meth c cX1_takeNearest 3 (some .int) s args RX1)  : ∀ (n : Nat) (x1 : Int32) (x2 : Int32) (μ : Mem), f_X1_takeNearest_b4 o  n x1 x2 μ = some (r, μ2) → ∀ (H : Heap) (locs : List Loc), MM E s μ H locs → ∀ ls : Array Slot, lv_has ls 3 [(0, .ref (eA E o)), (1, .int x1), (2, .int x2)] → W p l e (rmF 0 0) s m args below meth c H locs 0 0 (MQ below (QC E (some (.int r)) μ2) args s 0 0 (AA E)) (F0 m 4 ls []) := by
  obtain ⟨⟨hx, hb, hml, hown, hts⟩, hXr⟩ := id hX
  intro n
  induction n with
  | zero => intro x1 x2 μ  hf; exact no_none hf
  | succ n ih =>
    intro x1 x2 μ  hf H locs hM ls hl
    rw [f_X1_takeNearest_b4] at hf
    have hK4 := ih
    clear ih
    refine lv_iload_n hx hb dX1_takeNearest_4 rfl (lv_at hl 2 rfl) ?_
    refine lv_aload_n hx hb dX1_takeNearest_5 rfl (lv_at hl 0 rfl) ?_
    refine gf_0_4 hX hM ho q_4_16 dX1_takeNearest_6 ?_
    refine lv_icmp_ge (tgt := 45) hx hb dX1_takeNearest_9 (by decide) (fun hc9 => ?_) (fun hc9 => ?_)
    · replace hf := it_t hf hc9
      refine lv_aload_n hx hb dX1_takeNearest_45 rfl (lv_at hl 0 rfl) ?_
      refine gf_0_3 hX hM ho q_4_15 dX1_takeNearest_46 ?_
      refine lv_iload_n hx hb dX1_takeNearest_49 rfl (lv_at hl 1 rfl) ?_
      replace hf := gA_some hf
      obtain ⟨hi, hf⟩ := hf
      refine ald hX hM (kr_0_3 ho) hi dX1_takeNearest_50 ?_
      refine lv_topi (fun v1 ev1 => ?_)
      replace hf := lt_e ev1 hf
      refine lv_istore_n (lv' := [(2, .int v1), (0, .ref (eA E o)), (1, .int x1)]) hx hb dX1_takeNearest_51 rfl hl (by decide) rfl (fun ls hl => ?_)
      refine lv_aload_n hx hb dX1_takeNearest_52 rfl (lv_at hl 1 rfl) ?_
      refine lv_dup hx hb dX1_takeNearest_53 rfl ?_
      refine gf_0_4 hX hM ho q_4_16 dX1_takeNearest_54 ?_
      refine lv_iconst (v := 1) hx hb dX1_takeNearest_57 (by decide) ?_
      refine lv_isub hx hb dX1_takeNearest_58 ?_
      refine pf_0_4 hX hM ho q_4_16 dX1_takeNearest_59 (fun μ2 H locs eμ2 hM => ?_)
      replace hf := lt_e eμ2 hf
      refine lv_aload_n hx hb dX1_takeNearest_62 rfl (lv_at hl 1 rfl) ?_
      refine gf_0_3 hX hM ho q_4_15 dX1_takeNearest_63 ?_
      refine lv_iload_n hx hb dX1_takeNearest_66 rfl (lv_at hl 2 rfl) ?_
      refine lv_aload_n hx hb dX1_takeNearest_67 rfl (lv_at hl 1 rfl) ?_
      refine gf_0_3 hX hM ho q_4_15 dX1_takeNearest_68 ?_
      refine lv_aload_n hx hb dX1_takeNearest_71 rfl (lv_at hl 1 rfl) ?_
      refine gf_0_4 hX hM ho q_4_16 dX1_takeNearest_72 ?_
      replace hf := gA_some hf
      obtain ⟨hi, hf⟩ := hf
      refine ald hX hM (kr_0_3 ho) hi dX1_takeNearest_75 ?_
      replace hf := gA_some hf
      obtain ⟨hi, hf⟩ := hf
      refine ast hX hM (kr_0_3 ho) hi dX1_takeNearest_76 (fun μ3 H locs eμ3 hM => ?_)
      replace hf := lt_e eμ3 hf
      refine lv_iload_n hx hb dX1_takeNearest_77 rfl (lv_at hl 0 rfl) ?_
      exact rt_i hX hM (congrArg (fun z => some (Value.int z)) (so_1 hf)) (so_2 hf) dX1_takeNearest_78
    · replace hf := it_f hf hc9
      refine lv_aload_n hx hb dX1_takeNearest_12 rfl (lv_at hl 0 rfl) ?_
      refine gf_0_2 hX hM ho q_4_14 dX1_takeNearest_13 ?_
      refine lv_aload_n hx hb dX1_takeNearest_16 rfl (lv_at hl 0 rfl) ?_
      refine gf_0_3 hX hM ho q_4_15 dX1_takeNearest_17 ?_
      refine lv_iload_n hx hb dX1_takeNearest_20 rfl (lv_at hl 2 rfl) ?_
      replace hf := gA_some hf
      obtain ⟨hi, hf⟩ := hf
      refine ald hX hM (kr_0_3 ho) hi dX1_takeNearest_21 ?_
      replace hf := gA_some hf
      obtain ⟨hi, hf⟩ := hf
      refine ald hX hM (kr_0_2 ho) hi dX1_takeNearest_22 ?_
      refine lv_aload_n hx hb dX1_takeNearest_23 rfl (lv_at hl 0 rfl) ?_
      refine gf_0_2 hX hM ho q_4_14 dX1_takeNearest_24 ?_
      refine lv_aload_n hx hb dX1_takeNearest_27 rfl (lv_at hl 0 rfl) ?_
      refine gf_0_3 hX hM ho q_4_15 dX1_takeNearest_28 ?_
      refine lv_iload_n hx hb dX1_takeNearest_31 rfl (lv_at hl 1 rfl) ?_
      replace hf := gA_some hf
      obtain ⟨hi, hf⟩ := hf
      refine ald hX hM (kr_0_3 ho) hi dX1_takeNearest_32 ?_
      replace hf := gA_some hf
      obtain ⟨hi, hf⟩ := hf
      refine ald hX hM (kr_0_2 ho) hi dX1_takeNearest_33 ?_
      refine lv_icmp_ge (tgt := 39) hx hb dX1_takeNearest_34 (by decide) (fun hc34 => ?_) (fun hc34 => ?_)
      · replace hf := it_t hf hc34
        obtain ⟨v4, ev4⟩ : ∃ y : Int32, y = x2 + (1 : Int32) := ⟨_, rfl⟩
        replace hf := lt_e ev4 hf
        refine lv_iinc (v := v4) (lv' := [(2, .int v4), (0, .ref (eA E o)), (1, .int x1)]) hx hb dX1_takeNearest_39 hl (k := 2) rfl (by rw [ev4]; rfl) (by decide) rfl (fun ls hl => ?_)
        refine lv_goto (tgt := 4) hx hb dX1_takeNearest_42 (by decide) ?_
        exact hK4 _ _ _  hf _ _ hM _ (lv_sub hl [1, 2, 0] rfl)
      · replace hf := it_f hf hc34
        refine lv_iload_n hx hb dX1_takeNearest_37 rfl (lv_at hl 2 rfl) ?_
        refine lv_istore_n (lv' := [(1, .int x2), (0, .ref (eA E o)), (2, .int x2)]) hx hb dX1_takeNearest_38 rfl hl (by decide) rfl (fun ls hl => ?_)
        obtain ⟨v5, ev5⟩ : ∃ y : Int32, y = x2 + (1 : Int32) := ⟨_, rfl⟩
        replace hf := lt_e ev5 hf
        refine lv_iinc (v := v5) (lv' := [(2, .int v5), (1, .int x2), (0, .ref (eA E o))]) hx hb dX1_takeNearest_39 hl (k := 2) rfl (by rw [ev5]; rfl) (by decide) rfl (fun ls hl => ?_)
        refine lv_goto (tgt := 4) hx hb dX1_takeNearest_42 (by decide) ?_
        exact hK4 _ _ _  hf _ _ hM _ (lv_sub hl [2, 1, 0] rfl)
def f_X1_takeNearest (o : Nat) (μ : Mem) : Option (Int32 × Mem) :=
  f_X1_takeNearest_b4 o  FU (0 : Int32) (1 : Int32) μ
set_option maxHeartbeats 4000000 in
set_option maxRecDepth 100000 in
theorem w_X1_takeNearest (l : Launch) {o : Nat} (ho : knd o = 0) {μ μ2 : Mem} {r : Int32} {H : Heap} {locs : List Loc} {ls : Array Slot} (hf : f_X1_takeNearest o μ = some (r, μ2)) (hX : XX E p m meth c cX1_takeNearest 3 (some .int) s args RX1) (hM : MM E s μ H locs) (hl : lv_has ls 3 [(0, .ref (eA E o))]) : W p l e (rmF 0 0) s m args below meth c H locs 0 0 (MQ below (QC E (some (.int r)) μ2) args s 0 0 (AA E)) (F0 m 0 ls []) := by
  obtain ⟨⟨hx, hb, hml, hown, hts⟩, hXr⟩ := id hX
  unfold f_X1_takeNearest at hf
  refine lv_iconst (v := 0) hx hb dX1_takeNearest_0 (by decide) ?_
  refine lv_istore_n (lv' := [(1, .int (0 : Int32)), (0, .ref (eA E o))]) hx hb dX1_takeNearest_1 rfl hl (by decide) rfl (fun ls hl => ?_)
  refine lv_iconst (v := 1) hx hb dX1_takeNearest_2 (by decide) ?_
  refine lv_istore_n (lv' := [(2, .int (1 : Int32)), (1, .int (0 : Int32)), (0, .ref (eA E o))]) hx hb dX1_takeNearest_3 rfl hl (by decide) rfl (fun ls hl => ?_)
  exact w_X1_takeNearest_b4 l ho hX  FU _ _ _  hf _ _ hM _ (lv_sub hl [2, 1, 0] rfl)
theorem c_X1_takeNearest (l : Launch) {o : Nat} (ho : knd o = 0) {μ μ2 : Mem} {r : Int32} (hf : f_X1_takeNearest o μ = some (r, μ2)) : CT E l yX1_takeNearest cX1_takeNearest 3 (some .int) (rmF 0 0) [.ref (eA E o)] μ (some (.int r)) μ2 := CT.of (show plainFor yX1_takeNearest = true by decide +kernel) (Nat.le_of_ble_eq_true rfl) rfl (fun _ _ _ _ _ _ _ _ hX hM hl => w_X1_takeNearest l ho hf hX hM hl)
theorem mv_X1_takeNearest : MV yX1_takeNearest cX1_takeNearest 3 (some .int) RX1 0 := ⟨q_15_7, q_15_5, q_15_6, q_1_23, by decide +kernel⟩
def f_X1_sailOn_b80 (o : Nat) (a1 : Int32) (a2 : Int32) (K30 : Int32 → Int32 → Int32 → Int32 → Mem → Option (Mem)) (x3 : Int32) (x4 : Int32) (x5 : Int32) (x6 : Int32) (x7 : Int32) (μ : Mem) : Option (Mem) :=
  bnd (f_X4_kindOf x3 a2 x7 μ) (fun r8 μ7 => bnd (f_X4_sideThen (rf o 1) r8 x4 μ7) (fun r10 μ9 => lt (((2 : Int32) * x5) + r10) (fun v11 => bnd (f_X4_arrival (rf o 1) r8 x4 x7 μ9) (fun r13 μ12 => gA v11 (aln (rf o 2)) ((if (μ12.1 (rf o 2) v11.toNatClampNeg) ≤ r13 then lt (x6 + (1 : Int32)) (fun v14 => K30 x3 x4 x5 v14 μ12) else bnv (f_X1_reach o v11 r13 μ12) (fun μ15 => lt (x6 + (1 : Int32)) (fun v16 => K30 x3 x4 x5 v16 μ15))))))))
set_option maxHeartbeats 4000000 in
set_option maxRecDepth 100000 in
theorem w_X1_sailOn_b80 (l : Launch) {o : Nat} {a1 : Int32} {a2 : Int32} (ho : knd o = 0) {μ2 : Mem} {K30 : Int32 → Int32 → Int32 → Int32 → Mem → Option (Mem)} (hK30 : ∀ (x3 : Int32) (x4 : Int32) (x5 : Int32) (x6 : Int32) (μ : Mem), K30 x3 x4 x5 x6 μ = some μ2 → ∀ (H : Heap) (locs : List Loc), MM E s μ H locs → ∀ ls : Array Slot, lv_has ls 11 [(0, .ref (eA E o)), (1, .int a1), (2, .int a2), (3, .int x3), (4, .int x4), (5, .int x5), (6, .int x6)] → W p l e (rmF 2 46) s m args below meth c H locs 0 0 (MQ below (QC E (none) μ2) args s 0 0 (AA E)) (F0 m 30 ls [])) {x3 : Int32} {x4 : Int32} {x5 : Int32} {x6 : Int32} {x7 : Int32} {μ : Mem} {H : Heap} {locs : List Loc} {ls : Array Slot}  (hf : f_X1_sailOn_b80 o a1 a2 K30 x3 x4 x5 x6 x7 μ = some μ2) (hX : XX E p m meth c cX1_sailOn 11 none s args RX1) (hM : MM E s μ H locs) (hl : lv_has ls 11 [(0, .ref (eA E o)), (1, .int a1), (2, .int a2), (3, .int x3), (4, .int x4), (5, .int x5), (6, .int x6), (7, .int x7)]) : W p l e (rmF 2 46) s m args below meth c H locs 0 0 (MQ below (QC E (none) μ2) args s 0 0 (AA E)) (F0 m 80 ls []) := by
  obtain ⟨⟨hx, hb, hml, hown, hts⟩, hXr⟩ := id hX
  unfold f_X1_sailOn_b80 at hf
  refine lv_iload_n hx hb dX1_sailOn_80 rfl (lv_at hl 3 rfl) ?_
  refine lv_iload_n hx hb dX1_sailOn_81 rfl (lv_at hl 2 rfl) ?_
  refine lv_iload hx hb dX1_sailOn_82 (lv_at hl 7 rfl) ?_
  replace hf := bnd_some hf
  obtain ⟨r8, μ7, h84, hf⟩ := hf
  refine cl_S (As := [.int x3, .int a2, .int x7]) (rest := []) (st2 := [.int r8]) (n := 3) hX hM (c_X4_kindOf l  h84) mt_X4_kindOf q_16_1 ⟨rfl, rfl⟩ ⟨Nat.le_of_ble_eq_true rfl, Nat.le_of_ble_eq_true rfl⟩ rfl hl.1 rfl (Nat.le_of_ble_eq_true rfl) dX1_sailOn_84 rfl (fun H locs hM => ?_)
  refine lv_istore (lv' := [(8, .int r8), (0, .ref (eA E o)), (1, .int a1), (2, .int a2), (3, .int x3), (4, .int x4), (5, .int x5), (6, .int x6), (7, .int x7)]) hx hb dX1_sailOn_87 hl (by decide) rfl (fun ls hl => ?_)
  refine lv_iconst (v := 2) hx hb dX1_sailOn_89 (by decide) ?_
  refine lv_iload hx hb dX1_sailOn_90 (lv_at hl 6 rfl) ?_
  refine lv_imul hx hb dX1_sailOn_92 ?_
  refine lv_aload_n hx hb dX1_sailOn_93 rfl (lv_at hl 1 rfl) ?_
  refine gf_0_1 hX hM ho q_5_1 dX1_sailOn_94 ?_
  refine lv_iload hx hb dX1_sailOn_97 (lv_at hl 0 rfl) ?_
  refine lv_iload hx hb dX1_sailOn_99 (lv_at hl 5 rfl) ?_
  replace hf := bnd_some hf
  obtain ⟨r10, μ9, h101, hf⟩ := hf
  refine cl_V (As := [.int r8, .int x4]) (rest := [.int ((2 : Int32) * x5)]) (st2 := [.int r10, .int ((2 : Int32) * x5)]) (n := 2) hX hM (c_X4_sideThen l (kr_0_1 ho) h101) mv_X4_sideThen q_16_10 ⟨rfl, rfl⟩ ⟨Nat.le_of_ble_eq_true rfl, Nat.le_of_ble_eq_true rfl⟩ (kr_0_1 ho) (by decide) rfl rfl rfl hl.1 rfl (Nat.le_of_ble_eq_true rfl) dX1_sailOn_101 rfl (fun H locs hM => ?_)
  refine lv_iadd hx hb dX1_sailOn_104 ?_
  refine lv_topi (fun v11 ev11 => ?_)
  replace hf := lt_e ev11 hf
  refine lv_istore (lv' := [(9, .int v11), (8, .int r8), (0, .ref (eA E o)), (1, .int a1), (2, .int a2), (3, .int x3), (4, .int x4), (5, .int x5), (6, .int x6), (7, .int x7)]) hx hb dX1_sailOn_105 hl (by decide) rfl (fun ls hl => ?_)
  refine lv_aload_n hx hb dX1_sailOn_107 rfl (lv_at hl 2 rfl) ?_
  refine gf_0_1 hX hM ho q_5_1 dX1_sailOn_108 ?_
  refine lv_iload hx hb dX1_sailOn_111 (lv_at hl 1 rfl) ?_
  refine lv_iload hx hb dX1_sailOn_113 (lv_at hl 6 rfl) ?_
  refine lv_iload hx hb dX1_sailOn_115 (lv_at hl 9 rfl) ?_
  replace hf := bnd_some hf
  obtain ⟨r13, μ12, h117, hf⟩ := hf
  refine cl_V (As := [.int r8, .int x4, .int x7]) (rest := []) (st2 := [.int r13]) (n := 3) hX hM (c_X4_arrival l (kr_0_1 ho) h117) mv_X4_arrival q_16_14 ⟨rfl, rfl⟩ ⟨Nat.le_of_ble_eq_true rfl, Nat.le_of_ble_eq_true rfl⟩ (kr_0_1 ho) (by decide) rfl rfl rfl hl.1 rfl (Nat.le_of_ble_eq_true rfl) dX1_sailOn_117 rfl (fun H locs hM => ?_)
  refine lv_istore (lv' := [(10, .int r13), (9, .int v11), (8, .int r8), (0, .ref (eA E o)), (1, .int a1), (2, .int a2), (3, .int x3), (4, .int x4), (5, .int x5), (6, .int x6), (7, .int x7)]) hx hb dX1_sailOn_120 hl (by decide) rfl (fun ls hl => ?_)
  refine lv_iload hx hb dX1_sailOn_122 (lv_at hl 0 rfl) ?_
  refine lv_aload_n hx hb dX1_sailOn_124 rfl (lv_at hl 3 rfl) ?_
  refine gf_0_2 hX hM ho q_4_14 dX1_sailOn_125 ?_
  refine lv_iload hx hb dX1_sailOn_128 (lv_at hl 1 rfl) ?_
  replace hf := gA_some hf
  obtain ⟨hi, hf⟩ := hf
  refine ald hX hM (kr_0_2 ho) hi dX1_sailOn_130 ?_
  refine lv_icmp_ge (tgt := 142) hx hb dX1_sailOn_131 (by decide) (fun hc131 => ?_) (fun hc131 => ?_)
  · replace hf := it_t hf hc131
    obtain ⟨v14, ev14⟩ : ∃ y : Int32, y = x6 + (1 : Int32) := ⟨_, rfl⟩
    replace hf := lt_e ev14 hf
    refine lv_iinc (v := v14) (lv' := [(6, .int v14), (10, .int r13), (9, .int v11), (8, .int r8), (0, .ref (eA E o)), (1, .int a1), (2, .int a2), (3, .int x3), (4, .int x4), (5, .int x5), (7, .int x7)]) hx hb dX1_sailOn_142 hl (k := 9) rfl (by rw [ev14]; rfl) (by decide) rfl (fun ls hl => ?_)
    refine lv_goto (tgt := 30) hx hb dX1_sailOn_145 (by decide) ?_
    exact hK30 _ _ _ _ _  hf _ _ hM _ (lv_sub hl [4, 5, 6, 7, 8, 9, 0] rfl)
  · replace hf := it_f hf hc131
    refine lv_aload_n hx hb dX1_sailOn_134 rfl (lv_at hl 3 rfl) ?_
    refine lv_iload hx hb dX1_sailOn_135 (lv_at hl 1 rfl) ?_
    refine lv_iload hx hb dX1_sailOn_137 (lv_at hl 0 rfl) ?_
    replace hf := bnv_some hf
    obtain ⟨μ15, h139, hf⟩ := hf
    refine cl_V (As := [.int v11, .int r13]) (rest := []) (st2 := []) (n := 2) hX hM (c_X1_reach l ho h139) mv_X1_reach q_14_20 ⟨rfl, rfl⟩ ⟨Nat.le_of_ble_eq_true rfl, Nat.le_of_ble_eq_true rfl⟩ ho (by decide) rfl rfl rfl hl.1 rfl (Nat.le_of_ble_eq_true rfl) dX1_sailOn_139 rfl (fun H locs hM => ?_)
    obtain ⟨v16, ev16⟩ : ∃ y : Int32, y = x6 + (1 : Int32) := ⟨_, rfl⟩
    replace hf := lt_e ev16 hf
    refine lv_iinc (v := v16) (lv' := [(6, .int v16), (10, .int r13), (9, .int v11), (8, .int r8), (0, .ref (eA E o)), (1, .int a1), (2, .int a2), (3, .int x3), (4, .int x4), (5, .int x5), (7, .int x7)]) hx hb dX1_sailOn_142 hl (k := 9) rfl (by rw [ev16]; rfl) (by decide) rfl (fun ls hl => ?_)
    refine lv_goto (tgt := 30) hx hb dX1_sailOn_145 (by decide) ?_
    exact hK30 _ _ _ _ _  hf _ _ hM _ (lv_sub hl [4, 5, 6, 7, 8, 9, 0] rfl)
def f_X1_sailOn_b30 (o : Nat) (a1 : Int32) (a2 : Int32)  : Nat → Int32 → Int32 → Int32 → Int32 → Mem → Option (Mem)
  | 0, _, _, _, _, _ => none
  | n + 1, x3, x4, x5, x6, μ =>
    (if (4 : Int32) ≤ x6 then some μ else gA a1 (aln (rf o 2)) (bnd (f_X4_departure (μ.1 (rf o 2) a1.toNatClampNeg) x6 μ) (fun r6 μ5 => gA ((2 : Int32) * x5) (aln (rf o 2)) ((if r6 < (μ5.1 (rf o 2) ((2 : Int32) * x5).toNatClampNeg) then f_X1_sailOn_b80 o a1 a2 (f_X1_sailOn_b30 o a1 a2  n) x3 x4 x5 x6 r6 μ5 else gA (((2 : Int32) * x5) + (1 : Int32)) (aln (rf o 2)) ((if r6 < (μ5.1 (rf o 2) (((2 : Int32) * x5) + (1 : Int32)).toNatClampNeg) then f_X1_sailOn_b80 o a1 a2 (f_X1_sailOn_b30 o a1 a2  n) x3 x4 x5 x6 r6 μ5 else some μ5)))))))
set_option maxHeartbeats 4000000 in
set_option maxRecDepth 100000 in
theorem w_X1_sailOn_b30 (l : Launch) {o : Nat} {a1 : Int32} {a2 : Int32} (ho : knd o = 0) {μ2 : Mem}  (hX : XX E p m meth c cX1_sailOn 11 none s args RX1)  : ∀ (n : Nat) (x3 : Int32) (x4 : Int32) (x5 : Int32) (x6 : Int32) (μ : Mem), f_X1_sailOn_b30 o a1 a2  n x3 x4 x5 x6 μ = some μ2 → ∀ (H : Heap) (locs : List Loc), MM E s μ H locs → ∀ ls : Array Slot, lv_has ls 11 [(0, .ref (eA E o)), (1, .int a1), (2, .int a2), (3, .int x3), (4, .int x4), (5, .int x5), (6, .int x6)] → W p l e (rmF 2 46) s m args below meth c H locs 0 0 (MQ below (QC E (none) μ2) args s 0 0 (AA E)) (F0 m 30 ls []) := by
  obtain ⟨⟨hx, hb, hml, hown, hts⟩, hXr⟩ := id hX
  intro n
  induction n with
  | zero => intro x3 x4 x5 x6 μ  hf; exact no_none hf
  | succ n ih =>
    intro x3 x4 x5 x6 μ  hf H locs hM ls hl
    rw [f_X1_sailOn_b30] at hf
    have hK30 := ih
    clear ih
    refine lv_iload hx hb dX1_sailOn_30 (lv_at hl 6 rfl) ?_
    refine lv_iconst (v := 4) hx hb dX1_sailOn_32 (by decide) ?_
    refine lv_icmp_ge (tgt := 148) hx hb dX1_sailOn_33 (by decide) (fun hc33 => ?_) (fun hc33 => ?_)
    · replace hf := it_t hf hc33
      exact rt_v hX hM rfl (Option.some.inj hf) dX1_sailOn_148
    · replace hf := it_f hf hc33
      refine lv_aload_n hx hb dX1_sailOn_36 rfl (lv_at hl 0 rfl) ?_
      refine gf_0_2 hX hM ho q_4_14 dX1_sailOn_37 ?_
      refine lv_iload_n hx hb dX1_sailOn_40 rfl (lv_at hl 1 rfl) ?_
      replace hf := gA_some hf
      obtain ⟨hi, hf⟩ := hf
      refine ald hX hM (kr_0_2 ho) hi dX1_sailOn_41 ?_
      refine lv_iload hx hb dX1_sailOn_42 (lv_at hl 6 rfl) ?_
      replace hf := bnd_some hf
      obtain ⟨r6, μ5, h44, hf⟩ := hf
      refine cl_S (As := [.int (μ.1 (rf o 2) a1.toNatClampNeg), .int x6]) (rest := []) (st2 := [.int r6]) (n := 2) hX hM (c_X4_departure l  h44) mt_X4_departure q_15_22 ⟨rfl, rfl⟩ ⟨Nat.le_of_ble_eq_true rfl, Nat.le_of_ble_eq_true rfl⟩ rfl hl.1 rfl (Nat.le_of_ble_eq_true rfl) dX1_sailOn_44 rfl (fun H locs hM => ?_)
      refine lv_istore (lv' := [(7, .int r6), (0, .ref (eA E o)), (1, .int a1), (2, .int a2), (3, .int x3), (4, .int x4), (5, .int x5), (6, .int x6)]) hx hb dX1_sailOn_47 hl (by decide) rfl (fun ls hl => ?_)
      refine lv_iload hx hb dX1_sailOn_49 (lv_at hl 0 rfl) ?_
      refine lv_aload_n hx hb dX1_sailOn_51 rfl (lv_at hl 1 rfl) ?_
      refine gf_0_2 hX hM ho q_4_14 dX1_sailOn_52 ?_
      refine lv_iconst (v := 2) hx hb dX1_sailOn_55 (by decide) ?_
      refine lv_iload hx hb dX1_sailOn_56 (lv_at hl 6 rfl) ?_
      refine lv_imul hx hb dX1_sailOn_58 ?_
      replace hf := gA_some hf
      obtain ⟨hi, hf⟩ := hf
      refine ald hX hM (kr_0_2 ho) hi dX1_sailOn_59 ?_
      refine lv_icmp_lt (tgt := 80) hx hb dX1_sailOn_60 (by decide) (fun hc60 => ?_) (fun hc60 => ?_)
      · replace hf := it_t hf hc60
        exact w_X1_sailOn_b80 l ho hK30  hf hX hM (lv_sub hl [1, 2, 3, 4, 5, 6, 7, 0] rfl)
      · replace hf := it_f hf hc60
        refine lv_iload hx hb dX1_sailOn_63 (lv_at hl 0 rfl) ?_
        refine lv_aload_n hx hb dX1_sailOn_65 rfl (lv_at hl 1 rfl) ?_
        refine gf_0_2 hX hM ho q_4_14 dX1_sailOn_66 ?_
        refine lv_iconst (v := 2) hx hb dX1_sailOn_69 (by decide) ?_
        refine lv_iload hx hb dX1_sailOn_70 (lv_at hl 6 rfl) ?_
        refine lv_imul hx hb dX1_sailOn_72 ?_
        refine lv_iconst (v := 1) hx hb dX1_sailOn_73 (by decide) ?_
        refine lv_iadd hx hb dX1_sailOn_74 ?_
        replace hf := gA_some hf
        obtain ⟨hi, hf⟩ := hf
        refine ald hX hM (kr_0_2 ho) hi dX1_sailOn_75 ?_
        refine lv_icmp_lt (tgt := 80) hx hb dX1_sailOn_76 (by decide) (fun hc76 => ?_) (fun hc76 => ?_)
        · replace hf := it_t hf hc76
          exact w_X1_sailOn_b80 l ho hK30  hf hX hM (lv_sub hl [1, 2, 3, 4, 5, 6, 7, 0] rfl)
        · replace hf := it_f hf hc76
          exact rt_v hX hM rfl (Option.some.inj hf) dX1_sailOn_79
def f_X1_sailOn (o : Nat) (a1 : Int32) (a2 : Int32) (μ : Mem) : Option (Mem) :=
  lt (a1 / (2 : Int32)) (fun v1 => lt (a1 - a1 / (2 : Int32) * (2 : Int32)) (fun v2 => bnd (f_X4_targetOf (rf o 1) v1 a2 μ) (fun r4 μ3 => (if r4 = (-1 : Int32) then some μ3 else f_X1_sailOn_b30 o a1 a2  FU v1 v2 r4 (0 : Int32) μ3))))
set_option maxHeartbeats 4000000 in
set_option maxRecDepth 100000 in
theorem w_X1_sailOn (l : Launch) {o : Nat} {a1 : Int32} {a2 : Int32} (ho : knd o = 0) {μ μ2 : Mem} {H : Heap} {locs : List Loc} {ls : Array Slot} (hf : f_X1_sailOn o a1 a2 μ = some μ2) (hX : XX E p m meth c cX1_sailOn 11 none s args RX1) (hM : MM E s μ H locs) (hl : lv_has ls 11 [(0, .ref (eA E o)), (1, .int a1), (2, .int a2)]) : W p l e (rmF 2 46) s m args below meth c H locs 0 0 (MQ below (QC E (none) μ2) args s 0 0 (AA E)) (F0 m 0 ls []) := by
  obtain ⟨⟨hx, hb, hml, hown, hts⟩, hXr⟩ := id hX
  unfold f_X1_sailOn at hf
  refine lv_iload_n hx hb dX1_sailOn_0 rfl (lv_at hl 1 rfl) ?_
  refine lv_iconst (v := 2) hx hb dX1_sailOn_1 (by decide) ?_
  refine lv_idiv hx hb dX1_sailOn_2 (by decide) ?_
  refine lv_topi (fun v1 ev1 => ?_)
  replace hf := lt_e ev1 hf
  refine lv_istore_n (lv' := [(3, .int v1), (0, .ref (eA E o)), (1, .int a1), (2, .int a2)]) hx hb dX1_sailOn_3 rfl hl (by decide) rfl (fun ls hl => ?_)
  refine lv_iload_n hx hb dX1_sailOn_4 rfl (lv_at hl 2 rfl) ?_
  refine lv_iconst (v := 2) hx hb dX1_sailOn_5 (by decide) ?_
  refine lv_irem hx hb dX1_sailOn_6 (by decide) ?_
  refine lv_topi (fun v2 ev2 => ?_)
  replace hf := lt_e ev2 hf
  refine lv_istore (lv' := [(4, .int v2), (3, .int v1), (0, .ref (eA E o)), (1, .int a1), (2, .int a2)]) hx hb dX1_sailOn_7 hl (by decide) rfl (fun ls hl => ?_)
  refine lv_aload_n hx hb dX1_sailOn_9 rfl (lv_at hl 2 rfl) ?_
  refine gf_0_1 hX hM ho q_5_1 dX1_sailOn_10 ?_
  refine lv_iload_n hx hb dX1_sailOn_13 rfl (lv_at hl 1 rfl) ?_
  refine lv_iload_n hx hb dX1_sailOn_14 rfl (lv_at hl 4 rfl) ?_
  replace hf := bnd_some hf
  obtain ⟨r4, μ3, h15, hf⟩ := hf
  refine cl_V (As := [.int v1, .int a2]) (rest := []) (st2 := [.int r4]) (n := 2) hX hM (c_X4_targetOf l (kr_0_1 ho) h15) mv_X4_targetOf q_15_12 ⟨rfl, rfl⟩ ⟨Nat.le_of_ble_eq_true rfl, Nat.le_of_ble_eq_true rfl⟩ (kr_0_1 ho) (by decide) rfl rfl rfl hl.1 rfl (Nat.le_of_ble_eq_true rfl) dX1_sailOn_15 rfl (fun H locs hM => ?_)
  refine lv_istore (lv' := [(5, .int r4), (4, .int v2), (3, .int v1), (0, .ref (eA E o)), (1, .int a1), (2, .int a2)]) hx hb dX1_sailOn_18 hl (by decide) rfl (fun ls hl => ?_)
  refine lv_iload hx hb dX1_sailOn_20 (lv_at hl 0 rfl) ?_
  refine lv_iconst (v := (-1)) hx hb dX1_sailOn_22 (by decide) ?_
  refine lv_icmp_ne (tgt := 27) hx hb dX1_sailOn_23 (by decide) (fun hc23 => ?_) (fun hc23 => ?_)
  · replace hf := it_f hf hc23
    refine lv_iconst (v := 0) hx hb dX1_sailOn_27 (by decide) ?_
    refine lv_istore (lv' := [(6, .int (0 : Int32)), (5, .int r4), (4, .int v2), (3, .int v1), (0, .ref (eA E o)), (1, .int a1), (2, .int a2)]) hx hb dX1_sailOn_28 hl (by decide) rfl (fun ls hl => ?_)
    exact w_X1_sailOn_b30 l ho hX  FU _ _ _ _ _  hf _ _ hM _ (lv_sub hl [4, 5, 6, 3, 2, 1, 0] rfl)
  · replace hf := it_t hf hc23
    exact rt_v hX hM rfl (Option.some.inj hf) dX1_sailOn_26
theorem c_X1_sailOn (l : Launch) {o : Nat} {a1 : Int32} {a2 : Int32} (ho : knd o = 0) {μ μ2 : Mem} (hf : f_X1_sailOn o a1 a2 μ = some μ2) : CT E l yX1_sailOn cX1_sailOn 11 none (rmF 2 46) [.ref (eA E o), .int a1, .int a2] μ (none) μ2 := CT.of (show plainFor yX1_sailOn = true by decide +kernel) (Nat.le_of_ble_eq_true rfl) rfl (fun _ _ _ _ _ _ _ _ hX hM hl => w_X1_sailOn l ho hf hX hM hl)
theorem mv_X1_sailOn : MV yX1_sailOn cX1_sailOn 11 none RX1 2 := ⟨q_15_11, q_15_9, q_15_10, q_1_23, by decide +kernel⟩
def f_X1_settleAll_b22 (o : Nat) (K2 : Int32 → Mem → Option (Mem)) : Nat → Int32 → Int32 → Int32 → Mem → Option (Mem)
  | 0, _, _, _, _ => none
  | n + 1, x1, x2, x3, μ =>
    (if (8 : Int32) ≤ x3 then lt (x1 + (1 : Int32)) (fun v3 => K2 v3 μ) else bnv (f_X1_sailOn o x2 x3 μ) (fun μ4 => lt (x3 + (1 : Int32)) (fun v5 => (f_X1_settleAll_b22 o K2 n) x1 x2 v5 μ4)))
set_option maxHeartbeats 4000000 in
set_option maxRecDepth 100000 in
theorem w_X1_settleAll_b22 (l : Launch) {o : Nat} (ho : knd o = 0) {μ2 : Mem} {K2 : Int32 → Mem → Option (Mem)} (hX : XX E p m meth c cX1_settleAll 4 none s args RX1) (hK2 : ∀ (x1 : Int32) (μ : Mem), K2 x1 μ = some μ2 → ∀ (H : Heap) (locs : List Loc), MM E s μ H locs → ∀ ls : Array Slot, lv_has ls 4 [(0, .ref (eA E o)), (1, .int x1)] → W p l e (rmF 3 76) s m args below meth c H locs 0 0 (MQ below (QC E (none) μ2) args s 0 0 (AA E)) (F0 m 2 ls [])) : ∀ (n : Nat) (x1 : Int32) (x2 : Int32) (x3 : Int32) (μ : Mem), f_X1_settleAll_b22 o K2 n x1 x2 x3 μ = some μ2 → ∀ (H : Heap) (locs : List Loc), MM E s μ H locs → ∀ ls : Array Slot, lv_has ls 4 [(0, .ref (eA E o)), (1, .int x1), (2, .int x2), (3, .int x3)] → W p l e (rmF 3 76) s m args below meth c H locs 0 0 (MQ below (QC E (none) μ2) args s 0 0 (AA E)) (F0 m 22 ls []) := by
  obtain ⟨⟨hx, hb, hml, hown, hts⟩, hXr⟩ := id hX
  intro n
  induction n with
  | zero => intro x1 x2 x3 μ  hf; exact no_none hf
  | succ n ih =>
    intro x1 x2 x3 μ  hf H locs hM ls hl
    rw [f_X1_settleAll_b22] at hf
    have hK22 := ih
    clear ih
    refine lv_iload_n hx hb dX1_settleAll_22 rfl (lv_at hl 3 rfl) ?_
    refine lv_bipush (v := 8) hx hb dX1_settleAll_23 (by decide) ?_
    refine lv_icmp_ge (tgt := 40) hx hb dX1_settleAll_25 (by decide) (fun hc25 => ?_) (fun hc25 => ?_)
    · replace hf := it_t hf hc25
      obtain ⟨v3, ev3⟩ : ∃ y : Int32, y = x1 + (1 : Int32) := ⟨_, rfl⟩
      replace hf := lt_e ev3 hf
      refine lv_iinc (v := v3) (lv' := [(1, .int v3), (0, .ref (eA E o)), (2, .int x2), (3, .int x3)]) hx hb dX1_settleAll_40 hl (k := 1) rfl (by rw [ev3]; rfl) (by decide) rfl (fun ls hl => ?_)
      refine lv_goto (tgt := 2) hx hb dX1_settleAll_43 (by decide) ?_
      exact hK2 _ _  hf _ _ hM _ (lv_sub hl [1, 0] rfl)
    · replace hf := it_f hf hc25
      refine lv_aload_n hx hb dX1_settleAll_28 rfl (lv_at hl 0 rfl) ?_
      refine lv_iload_n hx hb dX1_settleAll_29 rfl (lv_at hl 2 rfl) ?_
      refine lv_iload_n hx hb dX1_settleAll_30 rfl (lv_at hl 3 rfl) ?_
      replace hf := bnv_some hf
      obtain ⟨μ4, h31, hf⟩ := hf
      refine cl_V (As := [.int x2, .int x3]) (rest := []) (st2 := []) (n := 2) hX hM (c_X1_sailOn l ho h31) mv_X1_sailOn q_15_8 ⟨rfl, rfl⟩ ⟨Nat.le_of_ble_eq_true rfl, Nat.le_of_ble_eq_true rfl⟩ ho (by decide) rfl rfl rfl hl.1 rfl (Nat.le_of_ble_eq_true rfl) dX1_settleAll_31 rfl (fun H locs hM => ?_)
      obtain ⟨v5, ev5⟩ : ∃ y : Int32, y = x3 + (1 : Int32) := ⟨_, rfl⟩
      replace hf := lt_e ev5 hf
      refine lv_iinc (v := v5) (lv' := [(3, .int v5), (0, .ref (eA E o)), (1, .int x1), (2, .int x2)]) hx hb dX1_settleAll_34 hl (k := 3) rfl (by rw [ev5]; rfl) (by decide) rfl (fun ls hl => ?_)
      refine lv_goto (tgt := 22) hx hb dX1_settleAll_37 (by decide) ?_
      exact hK22 _ _ _ _  hf _ _ hM _ (lv_sub hl [1, 2, 3, 0] rfl)
def f_X1_settleAll_b2 (o : Nat)  : Nat → Int32 → Mem → Option (Mem)
  | 0, _, _ => none
  | n + 1, x1, μ =>
    (if (72 : Int32) ≤ x1 then some μ else (if (μ.1 o 4) ≤ 0 then some μ else bnd (f_X1_takeNearest o μ) (fun r2 μ1 => f_X1_settleAll_b22 o (f_X1_settleAll_b2 o  n) FU x1 r2 (0 : Int32) μ1)))
set_option maxHeartbeats 4000000 in
set_option maxRecDepth 100000 in
theorem w_X1_settleAll_b2 (l : Launch) {o : Nat} (ho : knd o = 0) {μ2 : Mem}  (hX : XX E p m meth c cX1_settleAll 4 none s args RX1)  : ∀ (n : Nat) (x1 : Int32) (μ : Mem), f_X1_settleAll_b2 o  n x1 μ = some μ2 → ∀ (H : Heap) (locs : List Loc), MM E s μ H locs → ∀ ls : Array Slot, lv_has ls 4 [(0, .ref (eA E o)), (1, .int x1)] → W p l e (rmF 3 76) s m args below meth c H locs 0 0 (MQ below (QC E (none) μ2) args s 0 0 (AA E)) (F0 m 2 ls []) := by
  obtain ⟨⟨hx, hb, hml, hown, hts⟩, hXr⟩ := id hX
  intro n
  induction n with
  | zero => intro x1 μ  hf; exact no_none hf
  | succ n ih =>
    intro x1 μ  hf H locs hM ls hl
    rw [f_X1_settleAll_b2] at hf
    have hK2 := ih
    clear ih
    refine lv_iload_n hx hb dX1_settleAll_2 rfl (lv_at hl 1 rfl) ?_
    refine lv_bipush (v := 72) hx hb dX1_settleAll_3 (by decide) ?_
    refine lv_icmp_ge (tgt := 46) hx hb dX1_settleAll_5 (by decide) (fun hc5 => ?_) (fun hc5 => ?_)
    · replace hf := it_t hf hc5
      exact rt_v hX hM rfl (Option.some.inj hf) dX1_settleAll_46
    · replace hf := it_f hf hc5
      refine lv_aload_n hx hb dX1_settleAll_8 rfl (lv_at hl 0 rfl) ?_
      refine gf_0_4 hX hM ho q_4_16 dX1_settleAll_9 ?_
      refine lv_if_le (tgt := 46) hx hb dX1_settleAll_12 (by decide) (fun hc12 => ?_) (fun hc12 => ?_)
      · replace hf := it_t hf hc12
        exact rt_v hX hM rfl (Option.some.inj hf) dX1_settleAll_46
      · replace hf := it_f hf hc12
        refine lv_aload_n hx hb dX1_settleAll_15 rfl (lv_at hl 0 rfl) ?_
        replace hf := bnd_some hf
        obtain ⟨r2, μ1, h16, hf⟩ := hf
        refine cl_V (As := []) (rest := []) (st2 := [.int r2]) (n := 0) hX hM (c_X1_takeNearest l ho h16) mv_X1_takeNearest q_15_4 ⟨rfl, rfl⟩ ⟨Nat.le_of_ble_eq_true rfl, Nat.le_of_ble_eq_true rfl⟩ ho (by decide) rfl rfl rfl hl.1 rfl (Nat.le_of_ble_eq_true rfl) dX1_settleAll_16 rfl (fun H locs hM => ?_)
        refine lv_istore_n (lv' := [(2, .int r2), (0, .ref (eA E o)), (1, .int x1)]) hx hb dX1_settleAll_19 rfl hl (by decide) rfl (fun ls hl => ?_)
        refine lv_iconst (v := 0) hx hb dX1_settleAll_20 (by decide) ?_
        refine lv_istore_n (lv' := [(3, .int (0 : Int32)), (2, .int r2), (0, .ref (eA E o)), (1, .int x1)]) hx hb dX1_settleAll_21 rfl hl (by decide) rfl (fun ls hl => ?_)
        exact w_X1_settleAll_b22 l ho hX hK2 FU _ _ _ _  hf _ _ hM _ (lv_sub hl [2, 3, 1, 0] rfl)
def f_X1_settleAll (o : Nat) (μ : Mem) : Option (Mem) :=
  f_X1_settleAll_b2 o  FU (0 : Int32) μ
set_option maxHeartbeats 4000000 in
set_option maxRecDepth 100000 in
theorem w_X1_settleAll (l : Launch) {o : Nat} (ho : knd o = 0) {μ μ2 : Mem} {H : Heap} {locs : List Loc} {ls : Array Slot} (hf : f_X1_settleAll o μ = some μ2) (hX : XX E p m meth c cX1_settleAll 4 none s args RX1) (hM : MM E s μ H locs) (hl : lv_has ls 4 [(0, .ref (eA E o))]) : W p l e (rmF 3 76) s m args below meth c H locs 0 0 (MQ below (QC E (none) μ2) args s 0 0 (AA E)) (F0 m 0 ls []) := by
  obtain ⟨⟨hx, hb, hml, hown, hts⟩, hXr⟩ := id hX
  unfold f_X1_settleAll at hf
  refine lv_iconst (v := 0) hx hb dX1_settleAll_0 (by decide) ?_
  refine lv_istore_n (lv' := [(1, .int (0 : Int32)), (0, .ref (eA E o))]) hx hb dX1_settleAll_1 rfl hl (by decide) rfl (fun ls hl => ?_)
  exact w_X1_settleAll_b2 l ho hX  FU _ _  hf _ _ hM _ (lv_sub hl [1, 0] rfl)
theorem c_X1_settleAll (l : Launch) {o : Nat} (ho : knd o = 0) {μ μ2 : Mem} (hf : f_X1_settleAll o μ = some μ2) : CT E l yX1_settleAll cX1_settleAll 4 none (rmF 3 76) [.ref (eA E o)] μ (none) μ2 := CT.of (show plainFor yX1_settleAll = true by decide +kernel) (Nat.le_of_ble_eq_true rfl) rfl (fun _ _ _ _ _ _ _ _ hX hM hl => w_X1_settleAll l ho hf hX hM hl)
theorem mv_X1_settleAll : MV yX1_settleAll cX1_settleAll 4 none RX1 0 := ⟨q_15_3, q_15_1, q_15_2, q_1_23, by decide +kernel⟩
def f_X1_freshen (o : Nat) (μ : Mem) : Option (Mem) :=
  (if (μ.1 o 8) = (μ.1 (rf o 0) 10) then some μ else bnv (f_X4_freshen (rf o 1) μ) (fun μ1 => bnv (f_J7_fill_53178 (rf o 2) (1000000000 : Int32) μ1) (fun μ2 => bnv (f_J7_fill_53178 (rf o 5) (-1 : Int32) μ2) (fun μ3 => lt (sI μ3 o 4 (0 : Int32)) (fun μ4 => bnd (f_X1_startSpot o μ4) (fun r6 μ5 => bnv (f_X1_reach o r6 (μ5.1 (rf o 0) 9) μ5) (fun μ7 => bnv (f_X1_settleAll o μ7) (fun μ8 => lt (sI μ8 o 8 (μ8.1 (rf o 0) 10)) (fun μ9 => some μ9)))))))))
set_option maxHeartbeats 4000000 in
set_option maxRecDepth 100000 in
theorem w_X1_freshen (l : Launch) {o : Nat} (ho : knd o = 0) {μ μ2 : Mem} {H : Heap} {locs : List Loc} {ls : Array Slot} (hf : f_X1_freshen o μ = some μ2) (hX : XX E p m meth c cX1_freshen 1 none s args RX1) (hM : MM E s μ H locs) (hl : lv_has ls 1 [(0, .ref (eA E o))]) : W p l e (rmF 4 99) s m args below meth c H locs 0 0 (MQ below (QC E (none) μ2) args s 0 0 (AA E)) (F0 m 0 ls []) := by
  obtain ⟨⟨hx, hb, hml, hown, hts⟩, hXr⟩ := id hX
  unfold f_X1_freshen at hf
  refine lv_aload_n hx hb dX1_freshen_0 rfl (lv_at hl 0 rfl) ?_
  refine gf_0_8 hX hM ho q_4_20 dX1_freshen_1 ?_
  refine lv_aload_n hx hb dX1_freshen_4 rfl (lv_at hl 0 rfl) ?_
  refine gf_0_0 hX hM ho q_4_21 dX1_freshen_5 ?_
  refine gf_4_10 hX hM (kr_0_0 ho) q_12_20 dX1_freshen_8 ?_
  refine lv_icmp_ne (tgt := 15) hx hb dX1_freshen_11 (by decide) (fun hc11 => ?_) (fun hc11 => ?_)
  · replace hf := it_f hf hc11
    refine lv_aload_n hx hb dX1_freshen_15 rfl (lv_at hl 0 rfl) ?_
    refine gf_0_1 hX hM ho q_5_1 dX1_freshen_16 ?_
    replace hf := bnv_some hf
    obtain ⟨μ1, h19, hf⟩ := hf
    refine cl_V (As := []) (rest := []) (st2 := []) (n := 0) hX hM (c_X4_freshen l (kr_0_1 ho) h19) mv_X4_freshen q_12_23 ⟨rfl, rfl⟩ ⟨Nat.le_of_ble_eq_true rfl, Nat.le_of_ble_eq_true rfl⟩ (kr_0_1 ho) (by decide) rfl rfl rfl hl.1 rfl (Nat.le_of_ble_eq_true rfl) dX1_freshen_19 rfl (fun H locs hM => ?_)
    refine lv_aload_n hx hb dX1_freshen_22 rfl (lv_at hl 0 rfl) ?_
    refine gf_0_2 hX hM ho q_4_14 dX1_freshen_23 ?_
    refine lv_ldc (v := 1000000000) hx hb hown (hts _ q_12_21) dX1_freshen_26 ?_
    replace hf := bnv_some hf
    obtain ⟨μ2, h28, hf⟩ := hf
    refine cl_S (As := [.ref (eA E (rf o 2)), .int (1000000000 : Int32)]) (rest := []) (st2 := []) (n := 2) hX hM (c_J7_fill_53178 l (kr_0_2 ho) h28) mt_J7_fill_53178 q_14_13 ⟨rfl, rfl⟩ ⟨Nat.le_of_ble_eq_true rfl, Nat.le_of_ble_eq_true rfl⟩ rfl hl.1 rfl (Nat.le_of_ble_eq_true rfl) dX1_freshen_28 rfl (fun H locs hM => ?_)
    refine lv_aload_n hx hb dX1_freshen_31 rfl (lv_at hl 0 rfl) ?_
    refine gf_0_5 hX hM ho q_4_17 dX1_freshen_32 ?_
    refine lv_iconst (v := (-1)) hx hb dX1_freshen_35 (by decide) ?_
    replace hf := bnv_some hf
    obtain ⟨μ3, h36, hf⟩ := hf
    refine cl_S (As := [.ref (eA E (rf o 5)), .int (-1 : Int32)]) (rest := []) (st2 := []) (n := 2) hX hM (c_J7_fill_53178 l (kr_0_5 ho) h36) mt_J7_fill_53178 q_14_13 ⟨rfl, rfl⟩ ⟨Nat.le_of_ble_eq_true rfl, Nat.le_of_ble_eq_true rfl⟩ rfl hl.1 rfl (Nat.le_of_ble_eq_true rfl) dX1_freshen_36 rfl (fun H locs hM => ?_)
    refine lv_aload_n hx hb dX1_freshen_39 rfl (lv_at hl 0 rfl) ?_
    refine lv_iconst (v := 0) hx hb dX1_freshen_40 (by decide) ?_
    refine pf_0_4 hX hM ho q_4_16 dX1_freshen_41 (fun μ4 H locs eμ4 hM => ?_)
    replace hf := lt_e eμ4 hf
    refine lv_aload_n hx hb dX1_freshen_44 rfl (lv_at hl 0 rfl) ?_
    refine lv_aload_n hx hb dX1_freshen_45 rfl (lv_at hl 0 rfl) ?_
    replace hf := bnd_some hf
    obtain ⟨r6, μ5, h46, hf⟩ := hf
    refine cl_V (As := []) (rest := [.ref (eA E o)]) (st2 := [.int r6, .ref (eA E o)]) (n := 0) hX hM (c_X1_startSpot l ho h46) mv_X1_startSpot q_14_14 ⟨rfl, rfl⟩ ⟨Nat.le_of_ble_eq_true rfl, Nat.le_of_ble_eq_true rfl⟩ ho (by decide) rfl rfl rfl hl.1 rfl (Nat.le_of_ble_eq_true rfl) dX1_freshen_46 rfl (fun H locs hM => ?_)
    refine lv_aload_n hx hb dX1_freshen_49 rfl (lv_at hl 0 rfl) ?_
    refine gf_0_0 hX hM ho q_4_21 dX1_freshen_50 ?_
    refine gf_4_9 hX hM (kr_0_0 ho) q_12_22 dX1_freshen_53 ?_
    replace hf := bnv_some hf
    obtain ⟨μ7, h56, hf⟩ := hf
    refine cl_V (As := [.int r6, .int (μ5.1 (rf o 0) 9)]) (rest := []) (st2 := []) (n := 2) hX hM (c_X1_reach l ho h56) mv_X1_reach q_14_20 ⟨rfl, rfl⟩ ⟨Nat.le_of_ble_eq_true rfl, Nat.le_of_ble_eq_true rfl⟩ ho (by decide) rfl rfl rfl hl.1 rfl (Nat.le_of_ble_eq_true rfl) dX1_freshen_56 rfl (fun H locs hM => ?_)
    refine lv_aload_n hx hb dX1_freshen_59 rfl (lv_at hl 0 rfl) ?_
    replace hf := bnv_some hf
    obtain ⟨μ8, h60, hf⟩ := hf
    refine cl_V (As := []) (rest := []) (st2 := []) (n := 0) hX hM (c_X1_settleAll l ho h60) mv_X1_settleAll q_15_0 ⟨rfl, rfl⟩ ⟨Nat.le_of_ble_eq_true rfl, Nat.le_of_ble_eq_true rfl⟩ ho (by decide) rfl rfl rfl hl.1 rfl (Nat.le_of_ble_eq_true rfl) dX1_freshen_60 rfl (fun H locs hM => ?_)
    refine lv_aload_n hx hb dX1_freshen_63 rfl (lv_at hl 0 rfl) ?_
    refine lv_aload_n hx hb dX1_freshen_64 rfl (lv_at hl 0 rfl) ?_
    refine gf_0_0 hX hM ho q_4_21 dX1_freshen_65 ?_
    refine gf_4_10 hX hM (kr_0_0 ho) q_12_20 dX1_freshen_68 ?_
    refine pf_0_8 hX hM ho q_4_20 dX1_freshen_71 (fun μ9 H locs eμ9 hM => ?_)
    replace hf := lt_e eμ9 hf
    exact rt_v hX hM rfl (Option.some.inj hf) dX1_freshen_74
  · replace hf := it_t hf hc11
    exact rt_v hX hM rfl (Option.some.inj hf) dX1_freshen_14
theorem c_X1_freshen (l : Launch) {o : Nat} (ho : knd o = 0) {μ μ2 : Mem} (hf : f_X1_freshen o μ = some μ2) : CT E l yX1_freshen cX1_freshen 1 none (rmF 4 99) [.ref (eA E o)] μ (none) μ2 := CT.of (show plainFor yX1_freshen = true by decide +kernel) (Nat.le_of_ble_eq_true rfl) rfl (fun _ _ _ _ _ _ _ _ hX hM hl => w_X1_freshen l ho hf hX hM hl)
theorem mv_X1_freshen : MV yX1_freshen cX1_freshen 1 none RX1 0 := ⟨q_12_19, q_12_17, q_12_18, q_1_23, by decide +kernel⟩
def f_X1_leastOf (o : Nat) (a1 : Int32) (μ : Mem) : Option (Int32 × Mem) :=
  gA ((2 : Int32) * a1) (aln (rf o 2)) (gA (((2 : Int32) * a1) + (1 : Int32)) (aln (rf o 2)) (some ((mimin (μ.1 (rf o 2) ((2 : Int32) * a1).toNatClampNeg) (μ.1 (rf o 2) (((2 : Int32) * a1) + (1 : Int32)).toNatClampNeg)), μ)))
set_option maxHeartbeats 4000000 in
set_option maxRecDepth 100000 in
theorem w_X1_leastOf (l : Launch) {o : Nat} {a1 : Int32} (ho : knd o = 0) {μ μ2 : Mem} {r : Int32} {H : Heap} {locs : List Loc} {ls : Array Slot} (hf : f_X1_leastOf o a1 μ = some (r, μ2)) (hX : XX E p m meth c cX1_leastOf 2 (some .int) s args RX1) (hM : MM E s μ H locs) (hl : lv_has ls 2 [(0, .ref (eA E o)), (1, .int a1)]) : W p l e (rmF 1 21) s m args below meth c H locs 0 0 (MQ below (QC E (some (.int r)) μ2) args s 0 0 (AA E)) (F0 m 0 ls []) := by
  obtain ⟨⟨hx, hb, hml, hown, hts⟩, hXr⟩ := id hX
  unfold f_X1_leastOf at hf
  refine lv_aload_n hx hb dX1_leastOf_0 rfl (lv_at hl 0 rfl) ?_
  refine gf_0_2 hX hM ho q_4_14 dX1_leastOf_1 ?_
  refine lv_iconst (v := 2) hx hb dX1_leastOf_4 (by decide) ?_
  refine lv_iload_n hx hb dX1_leastOf_5 rfl (lv_at hl 1 rfl) ?_
  refine lv_imul hx hb dX1_leastOf_6 ?_
  replace hf := gA_some hf
  obtain ⟨hi, hf⟩ := hf
  refine ald hX hM (kr_0_2 ho) hi dX1_leastOf_7 ?_
  refine lv_aload_n hx hb dX1_leastOf_8 rfl (lv_at hl 0 rfl) ?_
  refine gf_0_2 hX hM ho q_4_14 dX1_leastOf_9 ?_
  refine lv_iconst (v := 2) hx hb dX1_leastOf_12 (by decide) ?_
  refine lv_iload_n hx hb dX1_leastOf_13 rfl (lv_at hl 1 rfl) ?_
  refine lv_imul hx hb dX1_leastOf_14 ?_
  refine lv_iconst (v := 1) hx hb dX1_leastOf_15 (by decide) ?_
  refine lv_iadd hx hb dX1_leastOf_16 ?_
  replace hf := gA_some hf
  obtain ⟨hi, hf⟩ := hf
  refine ald hX hM (kr_0_2 ho) hi dX1_leastOf_17 ?_
  refine va_mmin (rest := []) hx hb (hml.trans hl.1.symm) hown (hts _ q_17_3) (hts _ q_17_4) (hts _ q_13_15) (hts _ q_17_5) (Nat.le_of_ble_eq_true rfl) (Nat.le_of_ble_eq_true rfl) (Nat.zero_le _) (Nat.zero_le _) dX1_leastOf_18 ?_
  exact rt_i hX hM (congrArg (fun z => some (Value.int z)) (so_1 hf)) (so_2 hf) dX1_leastOf_21
theorem c_X1_leastOf (l : Launch) {o : Nat} {a1 : Int32} (ho : knd o = 0) {μ μ2 : Mem} {r : Int32} (hf : f_X1_leastOf o a1 μ = some (r, μ2)) : CT E l yX1_leastOf cX1_leastOf 2 (some .int) (rmF 1 21) [.ref (eA E o), .int a1] μ (some (.int r)) μ2 := CT.of (show plainFor yX1_leastOf = true by decide +kernel) (Nat.le_of_ble_eq_true rfl) rfl (fun _ _ _ _ _ _ _ _ hX hM hl => w_X1_leastOf l ho hf hX hM hl)
theorem mv_X1_leastOf : MV yX1_leastOf cX1_leastOf 2 (some .int) RX1 1 := ⟨q_17_2, q_17_0, q_17_1, q_1_23, by decide +kernel⟩
def f_X1_squaresReached_b4 (o : Nat)  : Nat → Int32 → Int32 → Mem → Option (Int32 × Mem)
  | 0, _, _, _ => none
  | n + 1, x1, x2, μ =>
    (if (36 : Int32) ≤ x2 then some (x1, μ) else bnd (f_X1_leastOf o x2 μ) (fun r2 μ1 => (if r2 = (1000000000 : Int32) then lt (x2 + (1 : Int32)) (fun v3 => (f_X1_squaresReached_b4 o  n) x1 v3 μ1) else lt (x1 + (1 : Int32)) (fun v4 => lt (x2 + (1 : Int32)) (fun v5 => (f_X1_squaresReached_b4 o  n) v4 v5 μ1)))))
set_option maxHeartbeats 4000000 in
set_option maxRecDepth 100000 in
theorem w_X1_squaresReached_b4 (l : Launch) {o : Nat} (ho : knd o = 0) {μ2 : Mem} {r : Int32}  (hX : XX E p m meth c cX1_squaresReached 3 (some .int) s args RX1)  : ∀ (n : Nat) (x1 : Int32) (x2 : Int32) (μ : Mem), f_X1_squaresReached_b4 o  n x1 x2 μ = some (r, μ2) → ∀ (H : Heap) (locs : List Loc), MM E s μ H locs → ∀ ls : Array Slot, lv_has ls 3 [(0, .ref (eA E o)), (1, .int x1), (2, .int x2)] → W p l e (rmF 2 42) s m args below meth c H locs 0 0 (MQ below (QC E (some (.int r)) μ2) args s 0 0 (AA E)) (F0 m 4 ls []) := by
  obtain ⟨⟨hx, hb, hml, hown, hts⟩, hXr⟩ := id hX
  intro n
  induction n with
  | zero => intro x1 x2 μ  hf; exact no_none hf
  | succ n ih =>
    intro x1 x2 μ  hf H locs hM ls hl
    rw [f_X1_squaresReached_b4] at hf
    have hK4 := ih
    clear ih
    refine lv_iload_n hx hb dX1_squaresReached_4 rfl (lv_at hl 2 rfl) ?_
    refine lv_bipush (v := 36) hx hb dX1_squaresReached_5 (by decide) ?_
    refine lv_icmp_ge (tgt := 29) hx hb dX1_squaresReached_7 (by decide) (fun hc7 => ?_) (fun hc7 => ?_)
    · replace hf := it_t hf hc7
      refine lv_iload_n hx hb dX1_squaresReached_29 rfl (lv_at hl 1 rfl) ?_
      exact rt_i hX hM (congrArg (fun z => some (Value.int z)) (so_1 hf)) (so_2 hf) dX1_squaresReached_30
    · replace hf := it_f hf hc7
      refine lv_aload_n hx hb dX1_squaresReached_10 rfl (lv_at hl 0 rfl) ?_
      refine lv_iload_n hx hb dX1_squaresReached_11 rfl (lv_at hl 2 rfl) ?_
      replace hf := bnd_some hf
      obtain ⟨r2, μ1, h12, hf⟩ := hf
      refine cl_V (As := [.int x2]) (rest := []) (st2 := [.int r2]) (n := 1) hX hM (c_X1_leastOf l ho h12) mv_X1_leastOf q_16_23 ⟨rfl, rfl⟩ ⟨Nat.le_of_ble_eq_true rfl, Nat.le_of_ble_eq_true rfl⟩ ho (by decide) rfl rfl rfl hl.1 rfl (Nat.le_of_ble_eq_true rfl) dX1_squaresReached_12 rfl (fun H locs hM => ?_)
      refine lv_ldc (v := 1000000000) hx hb hown (hts _ q_12_21) dX1_squaresReached_15 ?_
      refine lv_icmp_eq (tgt := 23) hx hb dX1_squaresReached_17 (by decide) (fun hc17 => ?_) (fun hc17 => ?_)
      · replace hf := it_t hf hc17
        obtain ⟨v3, ev3⟩ : ∃ y : Int32, y = x2 + (1 : Int32) := ⟨_, rfl⟩
        replace hf := lt_e ev3 hf
        refine lv_iinc (v := v3) (lv' := [(2, .int v3), (0, .ref (eA E o)), (1, .int x1)]) hx hb dX1_squaresReached_23 hl (k := 2) rfl (by rw [ev3]; rfl) (by decide) rfl (fun ls hl => ?_)
        refine lv_goto (tgt := 4) hx hb dX1_squaresReached_26 (by decide) ?_
        exact hK4 _ _ _  hf _ _ hM _ (lv_sub hl [1, 2, 0] rfl)
      · replace hf := it_f hf hc17
        obtain ⟨v4, ev4⟩ : ∃ y : Int32, y = x1 + (1 : Int32) := ⟨_, rfl⟩
        replace hf := lt_e ev4 hf
        refine lv_iinc (v := v4) (lv' := [(1, .int v4), (0, .ref (eA E o)), (2, .int x2)]) hx hb dX1_squaresReached_20 hl (k := 1) rfl (by rw [ev4]; rfl) (by decide) rfl (fun ls hl => ?_)
        obtain ⟨v5, ev5⟩ : ∃ y : Int32, y = x2 + (1 : Int32) := ⟨_, rfl⟩
        replace hf := lt_e ev5 hf
        refine lv_iinc (v := v5) (lv' := [(2, .int v5), (1, .int v4), (0, .ref (eA E o))]) hx hb dX1_squaresReached_23 hl (k := 2) rfl (by rw [ev5]; rfl) (by decide) rfl (fun ls hl => ?_)
        refine lv_goto (tgt := 4) hx hb dX1_squaresReached_26 (by decide) ?_
        exact hK4 _ _ _  hf _ _ hM _ (lv_sub hl [2, 1, 0] rfl)
def f_X1_squaresReached (o : Nat) (μ : Mem) : Option (Int32 × Mem) :=
  f_X1_squaresReached_b4 o  FU (0 : Int32) (0 : Int32) μ
set_option maxHeartbeats 4000000 in
set_option maxRecDepth 100000 in
theorem w_X1_squaresReached (l : Launch) {o : Nat} (ho : knd o = 0) {μ μ2 : Mem} {r : Int32} {H : Heap} {locs : List Loc} {ls : Array Slot} (hf : f_X1_squaresReached o μ = some (r, μ2)) (hX : XX E p m meth c cX1_squaresReached 3 (some .int) s args RX1) (hM : MM E s μ H locs) (hl : lv_has ls 3 [(0, .ref (eA E o))]) : W p l e (rmF 2 42) s m args below meth c H locs 0 0 (MQ below (QC E (some (.int r)) μ2) args s 0 0 (AA E)) (F0 m 0 ls []) := by
  obtain ⟨⟨hx, hb, hml, hown, hts⟩, hXr⟩ := id hX
  unfold f_X1_squaresReached at hf
  refine lv_iconst (v := 0) hx hb dX1_squaresReached_0 (by decide) ?_
  refine lv_istore_n (lv' := [(1, .int (0 : Int32)), (0, .ref (eA E o))]) hx hb dX1_squaresReached_1 rfl hl (by decide) rfl (fun ls hl => ?_)
  refine lv_iconst (v := 0) hx hb dX1_squaresReached_2 (by decide) ?_
  refine lv_istore_n (lv' := [(2, .int (0 : Int32)), (1, .int (0 : Int32)), (0, .ref (eA E o))]) hx hb dX1_squaresReached_3 rfl hl (by decide) rfl (fun ls hl => ?_)
  exact w_X1_squaresReached_b4 l ho hX  FU _ _ _  hf _ _ hM _ (lv_sub hl [2, 1, 0] rfl)
theorem c_X1_squaresReached (l : Launch) {o : Nat} (ho : knd o = 0) {μ μ2 : Mem} {r : Int32} (hf : f_X1_squaresReached o μ = some (r, μ2)) : CT E l yX1_squaresReached cX1_squaresReached 3 (some .int) (rmF 2 42) [.ref (eA E o)] μ (some (.int r)) μ2 := CT.of (show plainFor yX1_squaresReached = true by decide +kernel) (Nat.le_of_ble_eq_true rfl) rfl (fun _ _ _ _ _ _ _ _ hX hM hl => w_X1_squaresReached l ho hf hX hM hl)
theorem mv_X1_squaresReached : MV yX1_squaresReached cX1_squaresReached 3 (some .int) RX1 0 := ⟨q_16_22, q_16_20, q_16_21, q_1_23, by decide +kernel⟩
def f_X1_farthestSquare_b11 (o : Nat)  : Nat → Int32 → Int32 → Mem → Option (Int32 × Mem)
  | 0, _, _, _ => none
  | n + 1, x1, x2, μ =>
    (if x2 < 0 then some (x1, μ) else bnd (f_X1_leastOf o x2 μ) (fun r3 μ2 => (if r3 = (1000000000 : Int32) then lt (x2 + (-1 : Int32)) (fun v4 => (f_X1_farthestSquare_b11 o  n) x1 v4 μ2) else bnd (f_X1_leastOf o x2 μ2) (fun r6 μ5 => bnd (f_X1_leastOf o x1 μ5) (fun r8 μ7 => (if r6 < r8 then lt (x2 + (-1 : Int32)) (fun v9 => (f_X1_farthestSquare_b11 o  n) x1 v9 μ7) else lt (x2 + (-1 : Int32)) (fun v10 => (f_X1_farthestSquare_b11 o  n) x2 v10 μ7)))))))
set_option maxHeartbeats 4000000 in
set_option maxRecDepth 100000 in
theorem w_X1_farthestSquare_b11 (l : Launch) {o : Nat} (ho : knd o = 0) {μ2 : Mem} {r : Int32}  (hX : XX E p m meth c cX1_farthestSquare 3 (some .int) s args RX1)  : ∀ (n : Nat) (x1 : Int32) (x2 : Int32) (μ : Mem), f_X1_farthestSquare_b11 o  n x1 x2 μ = some (r, μ2) → ∀ (H : Heap) (locs : List Loc), MM E s μ H locs → ∀ ls : Array Slot, lv_has ls 3 [(0, .ref (eA E o)), (1, .int x1), (2, .int x2)] → W p l e (rmF 2 42) s m args below meth c H locs 0 0 (MQ below (QC E (some (.int r)) μ2) args s 0 0 (AA E)) (F0 m 11 ls []) := by
  obtain ⟨⟨hx, hb, hml, hown, hts⟩, hXr⟩ := id hX
  intro n
  induction n with
  | zero => intro x1 x2 μ  hf; exact no_none hf
  | succ n ih =>
    intro x1 x2 μ  hf H locs hM ls hl
    rw [f_X1_farthestSquare_b11] at hf
    have hK11 := ih
    clear ih
    refine lv_iload_n hx hb dX1_farthestSquare_11 rfl (lv_at hl 2 rfl) ?_
    refine lv_if_lt (tgt := 46) hx hb dX1_farthestSquare_12 (by decide) (fun hc12 => ?_) (fun hc12 => ?_)
    · replace hf := it_t hf hc12
      refine lv_iload_n hx hb dX1_farthestSquare_46 rfl (lv_at hl 1 rfl) ?_
      exact rt_i hX hM (congrArg (fun z => some (Value.int z)) (so_1 hf)) (so_2 hf) dX1_farthestSquare_47
    · replace hf := it_f hf hc12
      refine lv_aload_n hx hb dX1_farthestSquare_15 rfl (lv_at hl 0 rfl) ?_
      refine lv_iload_n hx hb dX1_farthestSquare_16 rfl (lv_at hl 2 rfl) ?_
      replace hf := bnd_some hf
      obtain ⟨r3, μ2, h17, hf⟩ := hf
      refine cl_V (As := [.int x2]) (rest := []) (st2 := [.int r3]) (n := 1) hX hM (c_X1_leastOf l ho h17) mv_X1_leastOf q_16_23 ⟨rfl, rfl⟩ ⟨Nat.le_of_ble_eq_true rfl, Nat.le_of_ble_eq_true rfl⟩ ho (by decide) rfl rfl rfl hl.1 rfl (Nat.le_of_ble_eq_true rfl) dX1_farthestSquare_17 rfl (fun H locs hM => ?_)
      refine lv_ldc (v := 1000000000) hx hb hown (hts _ q_12_21) dX1_farthestSquare_20 ?_
      refine lv_icmp_eq (tgt := 40) hx hb dX1_farthestSquare_22 (by decide) (fun hc22 => ?_) (fun hc22 => ?_)
      · replace hf := it_t hf hc22
        obtain ⟨v4, ev4⟩ : ∃ y : Int32, y = x2 + (-1 : Int32) := ⟨_, rfl⟩
        replace hf := lt_e ev4 hf
        refine lv_iinc (v := v4) (lv' := [(2, .int v4), (0, .ref (eA E o)), (1, .int x1)]) hx hb dX1_farthestSquare_40 hl (k := 2) rfl (by rw [ev4]; rfl) (by decide) rfl (fun ls hl => ?_)
        refine lv_goto (tgt := 11) hx hb dX1_farthestSquare_43 (by decide) ?_
        exact hK11 _ _ _  hf _ _ hM _ (lv_sub hl [1, 2, 0] rfl)
      · replace hf := it_f hf hc22
        refine lv_aload_n hx hb dX1_farthestSquare_25 rfl (lv_at hl 0 rfl) ?_
        refine lv_iload_n hx hb dX1_farthestSquare_26 rfl (lv_at hl 2 rfl) ?_
        replace hf := bnd_some hf
        obtain ⟨r6, μ5, h27, hf⟩ := hf
        refine cl_V (As := [.int x2]) (rest := []) (st2 := [.int r6]) (n := 1) hX hM (c_X1_leastOf l ho h27) mv_X1_leastOf q_16_23 ⟨rfl, rfl⟩ ⟨Nat.le_of_ble_eq_true rfl, Nat.le_of_ble_eq_true rfl⟩ ho (by decide) rfl rfl rfl hl.1 rfl (Nat.le_of_ble_eq_true rfl) dX1_farthestSquare_27 rfl (fun H locs hM => ?_)
        refine lv_aload_n hx hb dX1_farthestSquare_30 rfl (lv_at hl 0 rfl) ?_
        refine lv_iload_n hx hb dX1_farthestSquare_31 rfl (lv_at hl 1 rfl) ?_
        replace hf := bnd_some hf
        obtain ⟨r8, μ7, h32, hf⟩ := hf
        refine cl_V (As := [.int x1]) (rest := [.int r6]) (st2 := [.int r8, .int r6]) (n := 1) hX hM (c_X1_leastOf l ho h32) mv_X1_leastOf q_16_23 ⟨rfl, rfl⟩ ⟨Nat.le_of_ble_eq_true rfl, Nat.le_of_ble_eq_true rfl⟩ ho (by decide) rfl rfl rfl hl.1 rfl (Nat.le_of_ble_eq_true rfl) dX1_farthestSquare_32 rfl (fun H locs hM => ?_)
        refine lv_icmp_lt (tgt := 40) hx hb dX1_farthestSquare_35 (by decide) (fun hc35 => ?_) (fun hc35 => ?_)
        · replace hf := it_t hf hc35
          obtain ⟨v9, ev9⟩ : ∃ y : Int32, y = x2 + (-1 : Int32) := ⟨_, rfl⟩
          replace hf := lt_e ev9 hf
          refine lv_iinc (v := v9) (lv' := [(2, .int v9), (0, .ref (eA E o)), (1, .int x1)]) hx hb dX1_farthestSquare_40 hl (k := 2) rfl (by rw [ev9]; rfl) (by decide) rfl (fun ls hl => ?_)
          refine lv_goto (tgt := 11) hx hb dX1_farthestSquare_43 (by decide) ?_
          exact hK11 _ _ _  hf _ _ hM _ (lv_sub hl [1, 2, 0] rfl)
        · replace hf := it_f hf hc35
          refine lv_iload_n hx hb dX1_farthestSquare_38 rfl (lv_at hl 2 rfl) ?_
          refine lv_istore_n (lv' := [(1, .int x2), (0, .ref (eA E o)), (2, .int x2)]) hx hb dX1_farthestSquare_39 rfl hl (by decide) rfl (fun ls hl => ?_)
          obtain ⟨v10, ev10⟩ : ∃ y : Int32, y = x2 + (-1 : Int32) := ⟨_, rfl⟩
          replace hf := lt_e ev10 hf
          refine lv_iinc (v := v10) (lv' := [(2, .int v10), (1, .int x2), (0, .ref (eA E o))]) hx hb dX1_farthestSquare_40 hl (k := 2) rfl (by rw [ev10]; rfl) (by decide) rfl (fun ls hl => ?_)
          refine lv_goto (tgt := 11) hx hb dX1_farthestSquare_43 (by decide) ?_
          exact hK11 _ _ _  hf _ _ hM _ (lv_sub hl [2, 1, 0] rfl)
def f_X1_farthestSquare (o : Nat) (μ : Mem) : Option (Int32 × Mem) :=
  lt (μ.1 (rf o 0) 7) (fun v1 => f_X1_farthestSquare_b11 o  FU v1 (35 : Int32) μ)
set_option maxHeartbeats 4000000 in
set_option maxRecDepth 100000 in
theorem w_X1_farthestSquare (l : Launch) {o : Nat} (ho : knd o = 0) {μ μ2 : Mem} {r : Int32} {H : Heap} {locs : List Loc} {ls : Array Slot} (hf : f_X1_farthestSquare o μ = some (r, μ2)) (hX : XX E p m meth c cX1_farthestSquare 3 (some .int) s args RX1) (hM : MM E s μ H locs) (hl : lv_has ls 3 [(0, .ref (eA E o))]) : W p l e (rmF 2 42) s m args below meth c H locs 0 0 (MQ below (QC E (some (.int r)) μ2) args s 0 0 (AA E)) (F0 m 0 ls []) := by
  obtain ⟨⟨hx, hb, hml, hown, hts⟩, hXr⟩ := id hX
  unfold f_X1_farthestSquare at hf
  refine lv_aload_n hx hb dX1_farthestSquare_0 rfl (lv_at hl 0 rfl) ?_
  refine gf_0_0 hX hM ho q_4_21 dX1_farthestSquare_1 ?_
  refine gf_4_7 hX hM (kr_0_0 ho) q_14_18 dX1_farthestSquare_4 ?_
  refine lv_topi (fun v1 ev1 => ?_)
  replace hf := lt_e ev1 hf
  refine lv_istore_n (lv' := [(1, .int v1), (0, .ref (eA E o))]) hx hb dX1_farthestSquare_7 rfl hl (by decide) rfl (fun ls hl => ?_)
  refine lv_bipush (v := 35) hx hb dX1_farthestSquare_8 (by decide) ?_
  refine lv_istore_n (lv' := [(2, .int (35 : Int32)), (1, .int v1), (0, .ref (eA E o))]) hx hb dX1_farthestSquare_10 rfl hl (by decide) rfl (fun ls hl => ?_)
  exact w_X1_farthestSquare_b11 l ho hX  FU _ _ _  hf _ _ hM _ (lv_sub hl [2, 1, 0] rfl)
theorem c_X1_farthestSquare (l : Launch) {o : Nat} (ho : knd o = 0) {μ μ2 : Mem} {r : Int32} (hf : f_X1_farthestSquare o μ = some (r, μ2)) : CT E l yX1_farthestSquare cX1_farthestSquare 3 (some .int) (rmF 2 42) [.ref (eA E o)] μ (some (.int r)) μ2 := CT.of (show plainFor yX1_farthestSquare = true by decide +kernel) (Nat.le_of_ble_eq_true rfl) rfl (fun _ _ _ _ _ _ _ _ hX hM hl => w_X1_farthestSquare l ho hf hX hM hl)
theorem mv_X1_farthestSquare : MV yX1_farthestSquare cX1_farthestSquare 3 (some .int) RX1 0 := ⟨q_30_8, q_30_6, q_30_7, q_1_23, by decide +kernel⟩
def f_X1_freshLegs (o : Nat) (μ : Mem) : Option (Nat × Mem) :=
  bnv (f_X4_freshen (rf o 1) μ) (fun μ1 => some ((rf o 1), μ1))
set_option maxHeartbeats 4000000 in
set_option maxRecDepth 100000 in
theorem w_X1_freshLegs (l : Launch) {o : Nat} (ho : knd o = 0) {μ μ2 : Mem} {r : Nat} {H : Heap} {locs : List Loc} {ls : Array Slot} (hf : f_X1_freshLegs o μ = some (r, μ2)) (hX : XX E p m meth c cX1_freshLegs 1 (some (.object "SailCourses$Legs")) s args RX1) (hM : MM E s μ H locs) (hl : lv_has ls 1 [(0, .ref (eA E o))]) : W p l e (rmF 4 95) s m args below meth c H locs 0 0 (MQ below (QC E (some (.ref (eA E r))) μ2) args s 0 0 (AA E)) (F0 m 0 ls []) := by
  obtain ⟨⟨hx, hb, hml, hown, hts⟩, hXr⟩ := id hX
  unfold f_X1_freshLegs at hf
  refine lv_aload_n hx hb dX1_freshLegs_0 rfl (lv_at hl 0 rfl) ?_
  refine gf_0_1 hX hM ho q_5_1 dX1_freshLegs_1 ?_
  replace hf := bnv_some hf
  obtain ⟨μ1, h4, hf⟩ := hf
  refine cl_V (As := []) (rest := []) (st2 := []) (n := 0) hX hM (c_X4_freshen l (kr_0_1 ho) h4) mv_X4_freshen q_12_23 ⟨rfl, rfl⟩ ⟨Nat.le_of_ble_eq_true rfl, Nat.le_of_ble_eq_true rfl⟩ (kr_0_1 ho) (by decide) rfl rfl rfl hl.1 rfl (Nat.le_of_ble_eq_true rfl) dX1_freshLegs_4 rfl (fun H locs hM => ?_)
  refine lv_aload_n hx hb dX1_freshLegs_7 rfl (lv_at hl 0 rfl) ?_
  refine gf_0_1 hX hM ho q_5_1 dX1_freshLegs_8 ?_
  exact rt_a hX hM (Or.inl ⟨_, rfl⟩) (congrArg (fun z => some (Value.ref (eA E z))) (so_1 hf)) (so_2 hf) dX1_freshLegs_11
theorem c_X1_freshLegs (l : Launch) {o : Nat} (ho : knd o = 0) {μ μ2 : Mem} {r : Nat} (hf : f_X1_freshLegs o μ = some (r, μ2)) : CT E l yX1_freshLegs cX1_freshLegs 1 (some (.object "SailCourses$Legs")) (rmF 4 95) [.ref (eA E o)] μ (some (.ref (eA E r))) μ2 := CT.of (show plainFor yX1_freshLegs = true by decide +kernel) (Nat.le_of_ble_eq_true rfl) rfl (fun _ _ _ _ _ _ _ _ hX hM hl => w_X1_freshLegs l ho hf hX hM hl)
theorem mv_X1_freshLegs : MV yX1_freshLegs cX1_freshLegs 1 (some (.object "SailCourses$Legs")) RX1 0 := ⟨q_31_17, q_31_15, q_31_16, q_1_23, by decide +kernel⟩
def f_X1_leastWith (o : Nat) (a1 : Int32) (a2 : Int32) (μ : Mem) : Option (Int32 × Mem) :=
  gA (((2 : Int32) * a1) + a2) (aln (rf o 2)) (some ((μ.1 (rf o 2) (((2 : Int32) * a1) + a2).toNatClampNeg), μ))
set_option maxHeartbeats 4000000 in
set_option maxRecDepth 100000 in
theorem w_X1_leastWith (l : Launch) {o : Nat} {a1 : Int32} {a2 : Int32} (ho : knd o = 0) {μ μ2 : Mem} {r : Int32} {H : Heap} {locs : List Loc} {ls : Array Slot} (hf : f_X1_leastWith o a1 a2 μ = some (r, μ2)) (hX : XX E p m meth c cX1_leastWith 3 (some .int) s args RX1) (hM : MM E s μ H locs) (hl : lv_has ls 3 [(0, .ref (eA E o)), (1, .int a1), (2, .int a2)]) : W p l e (rmF 0 0) s m args below meth c H locs 0 0 (MQ below (QC E (some (.int r)) μ2) args s 0 0 (AA E)) (F0 m 0 ls []) := by
  obtain ⟨⟨hx, hb, hml, hown, hts⟩, hXr⟩ := id hX
  unfold f_X1_leastWith at hf
  refine lv_aload_n hx hb dX1_leastWith_0 rfl (lv_at hl 0 rfl) ?_
  refine gf_0_2 hX hM ho q_4_14 dX1_leastWith_1 ?_
  refine lv_iconst (v := 2) hx hb dX1_leastWith_4 (by decide) ?_
  refine lv_iload_n hx hb dX1_leastWith_5 rfl (lv_at hl 1 rfl) ?_
  refine lv_imul hx hb dX1_leastWith_6 ?_
  refine lv_iload_n hx hb dX1_leastWith_7 rfl (lv_at hl 2 rfl) ?_
  refine lv_iadd hx hb dX1_leastWith_8 ?_
  replace hf := gA_some hf
  obtain ⟨hi, hf⟩ := hf
  refine ald hX hM (kr_0_2 ho) hi dX1_leastWith_9 ?_
  exact rt_i hX hM (congrArg (fun z => some (Value.int z)) (so_1 hf)) (so_2 hf) dX1_leastWith_10
theorem c_X1_leastWith (l : Launch) {o : Nat} {a1 : Int32} {a2 : Int32} (ho : knd o = 0) {μ μ2 : Mem} {r : Int32} (hf : f_X1_leastWith o a1 a2 μ = some (r, μ2)) : CT E l yX1_leastWith cX1_leastWith 3 (some .int) (rmF 0 0) [.ref (eA E o), .int a1, .int a2] μ (some (.int r)) μ2 := CT.of (show plainFor yX1_leastWith = true by decide +kernel) (Nat.le_of_ble_eq_true rfl) rfl (fun _ _ _ _ _ _ _ _ hX hM hl => w_X1_leastWith l ho hf hX hM hl)
theorem mv_X1_leastWith : MV yX1_leastWith cX1_leastWith 3 (some .int) RX1 2 := ⟨q_32_20, q_32_18, q_32_19, q_1_23, by decide +kernel⟩
def f_X1_endsAtLeast_b73 (o : Nat) (a1 : Int32) (a2 : Int32) (a3 : Int32) (K20 : Int32 → Mem → Option (Int32 × Mem)) (x4 : Int32) (x5 : Int32) (x6 : Int32) (t0 : Int32) (μ : Mem) : Option (Int32 × Mem) :=
  (if t0 = 0 then lt (x4 + (1 : Int32)) (fun v7 => K20 v7 μ) else bnd (f_X4_arrival (rf o 1) x6 (a1 - a1 / (2 : Int32) * (2 : Int32)) x5 μ) (fun r9 μ8 => gA a3 (aln (rf o 2)) ((if r9 = (μ8.1 (rf o 2) a3.toNatClampNeg) then some ((1 : Int32), μ8) else lt (x4 + (1 : Int32)) (fun v10 => K20 v10 μ8)))))
set_option maxHeartbeats 4000000 in
set_option maxRecDepth 100000 in
theorem w_X1_endsAtLeast_b73 (l : Launch) {o : Nat} {a1 : Int32} {a2 : Int32} {a3 : Int32} (ho : knd o = 0) {μ2 : Mem} {r : Int32} {K20 : Int32 → Mem → Option (Int32 × Mem)} (hK20 : ∀ (x4 : Int32) (μ : Mem), K20 x4 μ = some (r, μ2) → ∀ (H : Heap) (locs : List Loc), MM E s μ H locs → ∀ ls : Array Slot, lv_has ls 8 [(0, .ref (eA E o)), (1, .int a1), (2, .int a2), (3, .int a3), (4, .int x4)] → W p l e (rmF 2 43) s m args below meth c H locs 0 0 (MQ below (QC E (some (.int r)) μ2) args s 0 0 (AA E)) (F0 m 20 ls [])) {x4 : Int32} {x5 : Int32} {x6 : Int32} {t0 : Int32} {μ : Mem} {H : Heap} {locs : List Loc} {ls : Array Slot}  (hf : f_X1_endsAtLeast_b73 o a1 a2 a3 K20 x4 x5 x6 t0 μ = some (r, μ2)) (hX : XX E p m meth c cX1_endsAtLeast 8 (some .boolean) s args RX1) (hM : MM E s μ H locs) (hl : lv_has ls 8 [(0, .ref (eA E o)), (1, .int a1), (2, .int a2), (3, .int a3), (4, .int x4), (5, .int x5), (6, .int x6)]) : W p l e (rmF 2 43) s m args below meth c H locs 0 0 (MQ below (QC E (some (.int r)) μ2) args s 0 0 (AA E)) (F0 m 73 ls [.int t0]) := by
  obtain ⟨⟨hx, hb, hml, hown, hts⟩, hXr⟩ := id hX
  unfold f_X1_endsAtLeast_b73 at hf
  refine lv_istore (lv' := [(7, .int t0), (0, .ref (eA E o)), (1, .int a1), (2, .int a2), (3, .int a3), (4, .int x4), (5, .int x5), (6, .int x6)]) hx hb dX1_endsAtLeast_73 hl (by decide) rfl (fun ls hl => ?_)
  refine lv_iload hx hb dX1_endsAtLeast_75 (lv_at hl 0 rfl) ?_
  refine lv_if_eq (tgt := 105) hx hb dX1_endsAtLeast_77 (by decide) (fun hc77 => ?_) (fun hc77 => ?_)
  · replace hf := it_t hf hc77
    obtain ⟨v7, ev7⟩ : ∃ y : Int32, y = x4 + (1 : Int32) := ⟨_, rfl⟩
    replace hf := lt_e ev7 hf
    refine lv_iinc (v := v7) (lv' := [(4, .int v7), (7, .int t0), (0, .ref (eA E o)), (1, .int a1), (2, .int a2), (3, .int a3), (5, .int x5), (6, .int x6)]) hx hb dX1_endsAtLeast_105 hl (k := 5) rfl (by rw [ev7]; rfl) (by decide) rfl (fun ls hl => ?_)
    refine lv_goto (tgt := 20) hx hb dX1_endsAtLeast_108 (by decide) ?_
    exact hK20 _ _  hf _ _ hM _ (lv_sub hl [2, 3, 4, 5, 0] rfl)
  · replace hf := it_f hf hc77
    refine lv_aload_n hx hb dX1_endsAtLeast_80 rfl (lv_at hl 1 rfl) ?_
    refine gf_0_1 hX hM ho q_5_1 dX1_endsAtLeast_81 ?_
    refine lv_iload hx hb dX1_endsAtLeast_84 (lv_at hl 7 rfl) ?_
    refine lv_iload_n hx hb dX1_endsAtLeast_86 rfl (lv_at hl 2 rfl) ?_
    refine lv_iconst (v := 2) hx hb dX1_endsAtLeast_87 (by decide) ?_
    refine lv_irem hx hb dX1_endsAtLeast_88 (by decide) ?_
    refine lv_iload hx hb dX1_endsAtLeast_89 (lv_at hl 6 rfl) ?_
    replace hf := bnd_some hf
    obtain ⟨r9, μ8, h91, hf⟩ := hf
    refine cl_V (As := [.int x6, .int (a1 - a1 / (2 : Int32) * (2 : Int32)), .int x5]) (rest := []) (st2 := [.int r9]) (n := 3) hX hM (c_X4_arrival l (kr_0_1 ho) h91) mv_X4_arrival q_16_14 ⟨rfl, rfl⟩ ⟨Nat.le_of_ble_eq_true rfl, Nat.le_of_ble_eq_true rfl⟩ (kr_0_1 ho) (by decide) rfl rfl rfl hl.1 rfl (Nat.le_of_ble_eq_true rfl) dX1_endsAtLeast_91 rfl (fun H locs hM => ?_)
    refine lv_aload_n hx hb dX1_endsAtLeast_94 rfl (lv_at hl 1 rfl) ?_
    refine gf_0_2 hX hM ho q_4_14 dX1_endsAtLeast_95 ?_
    refine lv_iload_n hx hb dX1_endsAtLeast_98 rfl (lv_at hl 4 rfl) ?_
    replace hf := gA_some hf
    obtain ⟨hi, hf⟩ := hf
    refine ald hX hM (kr_0_2 ho) hi dX1_endsAtLeast_99 ?_
    refine lv_icmp_ne (tgt := 105) hx hb dX1_endsAtLeast_100 (by decide) (fun hc100 => ?_) (fun hc100 => ?_)
    · replace hf := it_f hf hc100
      obtain ⟨v10, ev10⟩ : ∃ y : Int32, y = x4 + (1 : Int32) := ⟨_, rfl⟩
      replace hf := lt_e ev10 hf
      refine lv_iinc (v := v10) (lv' := [(4, .int v10), (7, .int t0), (0, .ref (eA E o)), (1, .int a1), (2, .int a2), (3, .int a3), (5, .int x5), (6, .int x6)]) hx hb dX1_endsAtLeast_105 hl (k := 5) rfl (by rw [ev10]; rfl) (by decide) rfl (fun ls hl => ?_)
      refine lv_goto (tgt := 20) hx hb dX1_endsAtLeast_108 (by decide) ?_
      exact hK20 _ _  hf _ _ hM _ (lv_sub hl [2, 3, 4, 5, 0] rfl)
    · replace hf := it_t hf hc100
      refine lv_iconst (v := 1) hx hb dX1_endsAtLeast_103 (by decide) ?_
      exact rt_z hX hM rfl (congrArg (fun z => some (Value.int z)) (so_1 hf)) (so_2 hf) dX1_endsAtLeast_104
def f_X1_endsAtLeast_b20 (o : Nat) (a1 : Int32) (a2 : Int32) (a3 : Int32)  : Nat → Int32 → Mem → Option (Int32 × Mem)
  | 0, _, _ => none
  | n + 1, x4, μ =>
    (if (4 : Int32) ≤ x4 then some ((0 : Int32), μ) else gA a1 (aln (rf o 2)) (bnd (f_X4_departure (μ.1 (rf o 2) a1.toNatClampNeg) x4 μ) (fun r2 μ1 => bnd (f_X4_kindOf (a1 / (2 : Int32)) a2 r2 μ1) (fun r4 μ3 => bnd (f_X4_sideThen (rf o 1) r4 (a1 - a1 / (2 : Int32) * (2 : Int32)) μ3) (fun r6 μ5 => (if r6 = (a3 - a3 / (2 : Int32) * (2 : Int32)) then f_X1_endsAtLeast_b73 o a1 a2 a3 (f_X1_endsAtLeast_b20 o a1 a2 a3  n) x4 r2 r4 (1 : Int32) μ5 else f_X1_endsAtLeast_b73 o a1 a2 a3 (f_X1_endsAtLeast_b20 o a1 a2 a3  n) x4 r2 r4 (0 : Int32) μ5))))))
set_option maxHeartbeats 4000000 in
set_option maxRecDepth 100000 in
theorem w_X1_endsAtLeast_b20 (l : Launch) {o : Nat} {a1 : Int32} {a2 : Int32} {a3 : Int32} (ho : knd o = 0) {μ2 : Mem} {r : Int32}  (hX : XX E p m meth c cX1_endsAtLeast 8 (some .boolean) s args RX1)  : ∀ (n : Nat) (x4 : Int32) (μ : Mem), f_X1_endsAtLeast_b20 o a1 a2 a3  n x4 μ = some (r, μ2) → ∀ (H : Heap) (locs : List Loc), MM E s μ H locs → ∀ ls : Array Slot, lv_has ls 8 [(0, .ref (eA E o)), (1, .int a1), (2, .int a2), (3, .int a3), (4, .int x4)] → W p l e (rmF 2 43) s m args below meth c H locs 0 0 (MQ below (QC E (some (.int r)) μ2) args s 0 0 (AA E)) (F0 m 20 ls []) := by
  obtain ⟨⟨hx, hb, hml, hown, hts⟩, hXr⟩ := id hX
  intro n
  induction n with
  | zero => intro x4 μ  hf; exact no_none hf
  | succ n ih =>
    intro x4 μ  hf H locs hM ls hl
    rw [f_X1_endsAtLeast_b20] at hf
    have hK20 := ih
    clear ih
    refine lv_iload hx hb dX1_endsAtLeast_20 (lv_at hl 4 rfl) ?_
    refine lv_iconst (v := 4) hx hb dX1_endsAtLeast_22 (by decide) ?_
    refine lv_icmp_ge (tgt := 111) hx hb dX1_endsAtLeast_23 (by decide) (fun hc23 => ?_) (fun hc23 => ?_)
    · replace hf := it_t hf hc23
      refine lv_iconst (v := 0) hx hb dX1_endsAtLeast_111 (by decide) ?_
      exact rt_z hX hM rfl (congrArg (fun z => some (Value.int z)) (so_1 hf)) (so_2 hf) dX1_endsAtLeast_112
    · replace hf := it_f hf hc23
      refine lv_aload_n hx hb dX1_endsAtLeast_26 rfl (lv_at hl 0 rfl) ?_
      refine gf_0_2 hX hM ho q_4_14 dX1_endsAtLeast_27 ?_
      refine lv_iload_n hx hb dX1_endsAtLeast_30 rfl (lv_at hl 1 rfl) ?_
      replace hf := gA_some hf
      obtain ⟨hi, hf⟩ := hf
      refine ald hX hM (kr_0_2 ho) hi dX1_endsAtLeast_31 ?_
      refine lv_iload hx hb dX1_endsAtLeast_32 (lv_at hl 4 rfl) ?_
      replace hf := bnd_some hf
      obtain ⟨r2, μ1, h34, hf⟩ := hf
      refine cl_S (As := [.int (μ.1 (rf o 2) a1.toNatClampNeg), .int x4]) (rest := []) (st2 := [.int r2]) (n := 2) hX hM (c_X4_departure l  h34) mt_X4_departure q_15_22 ⟨rfl, rfl⟩ ⟨Nat.le_of_ble_eq_true rfl, Nat.le_of_ble_eq_true rfl⟩ rfl hl.1 rfl (Nat.le_of_ble_eq_true rfl) dX1_endsAtLeast_34 rfl (fun H locs hM => ?_)
      refine lv_istore (lv' := [(5, .int r2), (0, .ref (eA E o)), (1, .int a1), (2, .int a2), (3, .int a3), (4, .int x4)]) hx hb dX1_endsAtLeast_37 hl (by decide) rfl (fun ls hl => ?_)
      refine lv_iload_n hx hb dX1_endsAtLeast_39 rfl (lv_at hl 2 rfl) ?_
      refine lv_iconst (v := 2) hx hb dX1_endsAtLeast_40 (by decide) ?_
      refine lv_idiv hx hb dX1_endsAtLeast_41 (by decide) ?_
      refine lv_iload_n hx hb dX1_endsAtLeast_42 rfl (lv_at hl 3 rfl) ?_
      refine lv_iload hx hb dX1_endsAtLeast_43 (lv_at hl 0 rfl) ?_
      replace hf := bnd_some hf
      obtain ⟨r4, μ3, h45, hf⟩ := hf
      refine cl_S (As := [.int (a1 / (2 : Int32)), .int a2, .int r2]) (rest := []) (st2 := [.int r4]) (n := 3) hX hM (c_X4_kindOf l  h45) mt_X4_kindOf q_16_1 ⟨rfl, rfl⟩ ⟨Nat.le_of_ble_eq_true rfl, Nat.le_of_ble_eq_true rfl⟩ rfl hl.1 rfl (Nat.le_of_ble_eq_true rfl) dX1_endsAtLeast_45 rfl (fun H locs hM => ?_)
      refine lv_istore (lv' := [(6, .int r4), (5, .int r2), (0, .ref (eA E o)), (1, .int a1), (2, .int a2), (3, .int a3), (4, .int x4)]) hx hb dX1_endsAtLeast_48 hl (by decide) rfl (fun ls hl => ?_)
      refine lv_aload_n hx hb dX1_endsAtLeast_50 rfl (lv_at hl 2 rfl) ?_
      refine gf_0_1 hX hM ho q_5_1 dX1_endsAtLeast_51 ?_
      refine lv_iload hx hb dX1_endsAtLeast_54 (lv_at hl 0 rfl) ?_
      refine lv_iload_n hx hb dX1_endsAtLeast_56 rfl (lv_at hl 3 rfl) ?_
      refine lv_iconst (v := 2) hx hb dX1_endsAtLeast_57 (by decide) ?_
      refine lv_irem hx hb dX1_endsAtLeast_58 (by decide) ?_
      replace hf := bnd_some hf
      obtain ⟨r6, μ5, h59, hf⟩ := hf
      refine cl_V (As := [.int r4, .int (a1 - a1 / (2 : Int32) * (2 : Int32))]) (rest := []) (st2 := [.int r6]) (n := 2) hX hM (c_X4_sideThen l (kr_0_1 ho) h59) mv_X4_sideThen q_16_10 ⟨rfl, rfl⟩ ⟨Nat.le_of_ble_eq_true rfl, Nat.le_of_ble_eq_true rfl⟩ (kr_0_1 ho) (by decide) rfl rfl rfl hl.1 rfl (Nat.le_of_ble_eq_true rfl) dX1_endsAtLeast_59 rfl (fun H locs hM => ?_)
      refine lv_iload_n hx hb dX1_endsAtLeast_62 rfl (lv_at hl 5 rfl) ?_
      refine lv_iconst (v := 2) hx hb dX1_endsAtLeast_63 (by decide) ?_
      refine lv_irem hx hb dX1_endsAtLeast_64 (by decide) ?_
      refine lv_icmp_ne (tgt := 72) hx hb dX1_endsAtLeast_65 (by decide) (fun hc65 => ?_) (fun hc65 => ?_)
      · replace hf := it_f hf hc65
        refine lv_iconst (v := 0) hx hb dX1_endsAtLeast_72 (by decide) ?_
        exact w_X1_endsAtLeast_b73 l ho hK20  hf hX hM (lv_sub hl [2, 3, 4, 5, 6, 1, 0] rfl)
      · replace hf := it_t hf hc65
        refine lv_iconst (v := 1) hx hb dX1_endsAtLeast_68 (by decide) ?_
        refine lv_goto (tgt := 73) hx hb dX1_endsAtLeast_69 (by decide) ?_
        exact w_X1_endsAtLeast_b73 l ho hK20  hf hX hM (lv_sub hl [2, 3, 4, 5, 6, 1, 0] rfl)
def f_X1_endsAtLeast (o : Nat) (a1 : Int32) (a2 : Int32) (a3 : Int32) (μ : Mem) : Option (Int32 × Mem) :=
  gA a1 (aln (rf o 2)) (gA a3 (aln (rf o 2)) ((if (μ.1 (rf o 2) a1.toNatClampNeg) < (μ.1 (rf o 2) a3.toNatClampNeg) then f_X1_endsAtLeast_b20 o a1 a2 a3  FU (0 : Int32) μ else some ((0 : Int32), μ))))
set_option maxHeartbeats 4000000 in
set_option maxRecDepth 100000 in
theorem w_X1_endsAtLeast (l : Launch) {o : Nat} {a1 : Int32} {a2 : Int32} {a3 : Int32} (ho : knd o = 0) {μ μ2 : Mem} {r : Int32} {H : Heap} {locs : List Loc} {ls : Array Slot} (hf : f_X1_endsAtLeast o a1 a2 a3 μ = some (r, μ2)) (hX : XX E p m meth c cX1_endsAtLeast 8 (some .boolean) s args RX1) (hM : MM E s μ H locs) (hl : lv_has ls 8 [(0, .ref (eA E o)), (1, .int a1), (2, .int a2), (3, .int a3)]) : W p l e (rmF 2 43) s m args below meth c H locs 0 0 (MQ below (QC E (some (.int r)) μ2) args s 0 0 (AA E)) (F0 m 0 ls []) := by
  obtain ⟨⟨hx, hb, hml, hown, hts⟩, hXr⟩ := id hX
  unfold f_X1_endsAtLeast at hf
  refine lv_aload_n hx hb dX1_endsAtLeast_0 rfl (lv_at hl 0 rfl) ?_
  refine gf_0_2 hX hM ho q_4_14 dX1_endsAtLeast_1 ?_
  refine lv_iload_n hx hb dX1_endsAtLeast_4 rfl (lv_at hl 1 rfl) ?_
  replace hf := gA_some hf
  obtain ⟨hi, hf⟩ := hf
  refine ald hX hM (kr_0_2 ho) hi dX1_endsAtLeast_5 ?_
  refine lv_aload_n hx hb dX1_endsAtLeast_6 rfl (lv_at hl 0 rfl) ?_
  refine gf_0_2 hX hM ho q_4_14 dX1_endsAtLeast_7 ?_
  refine lv_iload_n hx hb dX1_endsAtLeast_10 rfl (lv_at hl 3 rfl) ?_
  replace hf := gA_some hf
  obtain ⟨hi, hf⟩ := hf
  refine ald hX hM (kr_0_2 ho) hi dX1_endsAtLeast_11 ?_
  refine lv_icmp_lt (tgt := 17) hx hb dX1_endsAtLeast_12 (by decide) (fun hc12 => ?_) (fun hc12 => ?_)
  · replace hf := it_t hf hc12
    refine lv_iconst (v := 0) hx hb dX1_endsAtLeast_17 (by decide) ?_
    refine lv_istore (lv' := [(4, .int (0 : Int32)), (0, .ref (eA E o)), (1, .int a1), (2, .int a2), (3, .int a3)]) hx hb dX1_endsAtLeast_18 hl (by decide) rfl (fun ls hl => ?_)
    exact w_X1_endsAtLeast_b20 l ho hX  FU _ _  hf _ _ hM _ (lv_sub hl [1, 2, 3, 4, 0] rfl)
  · replace hf := it_f hf hc12
    refine lv_iconst (v := 0) hx hb dX1_endsAtLeast_15 (by decide) ?_
    exact rt_z hX hM rfl (congrArg (fun z => some (Value.int z)) (so_1 hf)) (so_2 hf) dX1_endsAtLeast_16
theorem c_X1_endsAtLeast (l : Launch) {o : Nat} {a1 : Int32} {a2 : Int32} {a3 : Int32} (ho : knd o = 0) {μ μ2 : Mem} {r : Int32} (hf : f_X1_endsAtLeast o a1 a2 a3 μ = some (r, μ2)) : CT E l yX1_endsAtLeast cX1_endsAtLeast 8 (some .boolean) (rmF 2 43) [.ref (eA E o), .int a1, .int a2, .int a3] μ (some (.int r)) μ2 := CT.of (show plainFor yX1_endsAtLeast = true by decide +kernel) (Nat.le_of_ble_eq_true rfl) rfl (fun _ _ _ _ _ _ _ _ hX hM hl => w_X1_endsAtLeast l ho hf hX hM hl)
theorem mv_X1_endsAtLeast : MV yX1_endsAtLeast cX1_endsAtLeast 8 (some .boolean) RX1 3 := ⟨q_33_18, q_33_16, q_33_17, q_1_23, by decide +kernel⟩
def f_X1_seekLast_b42 (o : Nat) (a1 : Int32) (a2 : Int32) (K2 : Int32 → Mem → Option (Int32 × Mem)) : Nat → Int32 → Int32 → Int32 → Int32 → Mem → Option (Int32 × Mem)
  | 0, _, _, _, _, _ => none
  | n + 1, x3, x4, x5, x6, μ =>
    (if (2 : Int32) ≤ x6 then lt (x3 + (1 : Int32)) (fun v4 => K2 v4 μ) else bnd (f_X1_endsAtLeast o (((2 : Int32) * x5) + x6) x4 (((2 : Int32) * a1) + a2) μ) (fun r6 μ5 => (if r6 = 0 then lt (x6 + (1 : Int32)) (fun v7 => (f_X1_seekLast_b42 o a1 a2 K2 n) x3 x4 x5 v7 μ5) else some (((((100 : Int32) * x5) + ((10 : Int32) * x6)) + x4), μ5))))
set_option maxHeartbeats 4000000 in
set_option maxRecDepth 100000 in
theorem w_X1_seekLast_b42 (l : Launch) {o : Nat} {a1 : Int32} {a2 : Int32} (ho : knd o = 0) {μ2 : Mem} {r : Int32} {K2 : Int32 → Mem → Option (Int32 × Mem)} (hX : XX E p m meth c cX1_seekLast 7 (some .int) s args RX1) (hK2 : ∀ (x3 : Int32) (μ : Mem), K2 x3 μ = some (r, μ2) → ∀ (H : Heap) (locs : List Loc), MM E s μ H locs → ∀ ls : Array Slot, lv_has ls 7 [(0, .ref (eA E o)), (1, .int a1), (2, .int a2), (3, .int x3)] → W p l e (rmF 3 70) s m args below meth c H locs 0 0 (MQ below (QC E (some (.int r)) μ2) args s 0 0 (AA E)) (F0 m 2 ls [])) : ∀ (n : Nat) (x3 : Int32) (x4 : Int32) (x5 : Int32) (x6 : Int32) (μ : Mem), f_X1_seekLast_b42 o a1 a2 K2 n x3 x4 x5 x6 μ = some (r, μ2) → ∀ (H : Heap) (locs : List Loc), MM E s μ H locs → ∀ ls : Array Slot, lv_has ls 7 [(0, .ref (eA E o)), (1, .int a1), (2, .int a2), (3, .int x3), (4, .int x4), (5, .int x5), (6, .int x6)] → W p l e (rmF 3 70) s m args below meth c H locs 0 0 (MQ below (QC E (some (.int r)) μ2) args s 0 0 (AA E)) (F0 m 42 ls []) := by
  obtain ⟨⟨hx, hb, hml, hown, hts⟩, hXr⟩ := id hX
  intro n
  induction n with
  | zero => intro x3 x4 x5 x6 μ  hf; exact no_none hf
  | succ n ih =>
    intro x3 x4 x5 x6 μ  hf H locs hM ls hl
    rw [f_X1_seekLast_b42] at hf
    have hK42 := ih
    clear ih
    refine lv_iload hx hb dX1_seekLast_42 (lv_at hl 6 rfl) ?_
    refine lv_iconst (v := 2) hx hb dX1_seekLast_44 (by decide) ?_
    refine lv_icmp_ge (tgt := 90) hx hb dX1_seekLast_45 (by decide) (fun hc45 => ?_) (fun hc45 => ?_)
    · replace hf := it_t hf hc45
      obtain ⟨v4, ev4⟩ : ∃ y : Int32, y = x3 + (1 : Int32) := ⟨_, rfl⟩
      replace hf := lt_e ev4 hf
      refine lv_iinc (v := v4) (lv' := [(3, .int v4), (0, .ref (eA E o)), (1, .int a1), (2, .int a2), (4, .int x4), (5, .int x5), (6, .int x6)]) hx hb dX1_seekLast_90 hl (k := 3) rfl (by rw [ev4]; rfl) (by decide) rfl (fun ls hl => ?_)
      refine lv_goto (tgt := 2) hx hb dX1_seekLast_93 (by decide) ?_
      exact hK2 _ _  hf _ _ hM _ (lv_sub hl [1, 2, 3, 0] rfl)
    · replace hf := it_f hf hc45
      refine lv_aload_n hx hb dX1_seekLast_48 rfl (lv_at hl 0 rfl) ?_
      refine lv_iconst (v := 2) hx hb dX1_seekLast_49 (by decide) ?_
      refine lv_iload hx hb dX1_seekLast_50 (lv_at hl 5 rfl) ?_
      refine lv_imul hx hb dX1_seekLast_52 ?_
      refine lv_iload hx hb dX1_seekLast_53 (lv_at hl 6 rfl) ?_
      refine lv_iadd hx hb dX1_seekLast_55 ?_
      refine lv_iload hx hb dX1_seekLast_56 (lv_at hl 4 rfl) ?_
      refine lv_iconst (v := 2) hx hb dX1_seekLast_58 (by decide) ?_
      refine lv_iload_n hx hb dX1_seekLast_59 rfl (lv_at hl 1 rfl) ?_
      refine lv_imul hx hb dX1_seekLast_60 ?_
      refine lv_iload_n hx hb dX1_seekLast_61 rfl (lv_at hl 2 rfl) ?_
      refine lv_iadd hx hb dX1_seekLast_62 ?_
      replace hf := bnd_some hf
      obtain ⟨r6, μ5, h63, hf⟩ := hf
      refine cl_V (As := [.int (((2 : Int32) * x5) + x6), .int x4, .int (((2 : Int32) * a1) + a2)]) (rest := []) (st2 := [.int r6]) (n := 3) hX hM (c_X1_endsAtLeast l ho h63) mv_X1_endsAtLeast q_33_15 ⟨rfl, rfl⟩ ⟨Nat.le_of_ble_eq_true rfl, Nat.le_of_ble_eq_true rfl⟩ ho (by decide) rfl rfl rfl hl.1 rfl (Nat.le_of_ble_eq_true rfl) dX1_seekLast_63 rfl (fun H locs hM => ?_)
      refine lv_if_eq (tgt := 84) hx hb dX1_seekLast_66 (by decide) (fun hc66 => ?_) (fun hc66 => ?_)
      · replace hf := it_t hf hc66
        obtain ⟨v7, ev7⟩ : ∃ y : Int32, y = x6 + (1 : Int32) := ⟨_, rfl⟩
        replace hf := lt_e ev7 hf
        refine lv_iinc (v := v7) (lv' := [(6, .int v7), (0, .ref (eA E o)), (1, .int a1), (2, .int a2), (3, .int x3), (4, .int x4), (5, .int x5)]) hx hb dX1_seekLast_84 hl (k := 6) rfl (by rw [ev7]; rfl) (by decide) rfl (fun ls hl => ?_)
        refine lv_goto (tgt := 42) hx hb dX1_seekLast_87 (by decide) ?_
        exact hK42 _ _ _ _ _  hf _ _ hM _ (lv_sub hl [1, 2, 3, 4, 5, 6, 0] rfl)
      · replace hf := it_f hf hc66
        refine lv_bipush (v := 100) hx hb dX1_seekLast_69 (by decide) ?_
        refine lv_iload hx hb dX1_seekLast_71 (lv_at hl 5 rfl) ?_
        refine lv_imul hx hb dX1_seekLast_73 ?_
        refine lv_bipush (v := 10) hx hb dX1_seekLast_74 (by decide) ?_
        refine lv_iload hx hb dX1_seekLast_76 (lv_at hl 6 rfl) ?_
        refine lv_imul hx hb dX1_seekLast_78 ?_
        refine lv_iadd hx hb dX1_seekLast_79 ?_
        refine lv_iload hx hb dX1_seekLast_80 (lv_at hl 4 rfl) ?_
        refine lv_iadd hx hb dX1_seekLast_82 ?_
        exact rt_i hX hM (congrArg (fun z => some (Value.int z)) (so_1 hf)) (so_2 hf) dX1_seekLast_83
def f_X1_seekLast_b2 (o : Nat) (a1 : Int32) (a2 : Int32)  : Nat → Int32 → Mem → Option (Int32 × Mem)
  | 0, _, _ => none
  | n + 1, x3, μ =>
    (if (8 : Int32) ≤ x3 then some ((-5 : Int32), μ) else gA x3 8 (lt (k_into x3.toNatClampNeg) (fun v1 => bnd (f_X2_squareBeside a1 ((v1 + (4 : Int32)) - (v1 + (4 : Int32)) / (8 : Int32) * (8 : Int32)) μ) (fun r3 μ2 => (if r3 = (-1 : Int32) then lt (x3 + (1 : Int32)) (fun v8 => (f_X1_seekLast_b2 o a1 a2  n) v8 μ2) else f_X1_seekLast_b42 o a1 a2 (f_X1_seekLast_b2 o a1 a2  n) FU x3 v1 r3 (0 : Int32) μ2)))))
set_option maxHeartbeats 4000000 in
set_option maxRecDepth 100000 in
theorem w_X1_seekLast_b2 (l : Launch) {o : Nat} {a1 : Int32} {a2 : Int32} (ho : knd o = 0) {μ2 : Mem} {r : Int32}  (hX : XX E p m meth c cX1_seekLast 7 (some .int) s args RX1)  : ∀ (n : Nat) (x3 : Int32) (μ : Mem), f_X1_seekLast_b2 o a1 a2  n x3 μ = some (r, μ2) → ∀ (H : Heap) (locs : List Loc), MM E s μ H locs → ∀ ls : Array Slot, lv_has ls 7 [(0, .ref (eA E o)), (1, .int a1), (2, .int a2), (3, .int x3)] → W p l e (rmF 3 70) s m args below meth c H locs 0 0 (MQ below (QC E (some (.int r)) μ2) args s 0 0 (AA E)) (F0 m 2 ls []) := by
  obtain ⟨⟨hx, hb, hml, hown, hts⟩, hXr⟩ := id hX
  intro n
  induction n with
  | zero => intro x3 μ  hf; exact no_none hf
  | succ n ih =>
    intro x3 μ  hf H locs hM ls hl
    rw [f_X1_seekLast_b2] at hf
    have hK2 := ih
    clear ih
    refine lv_iload_n hx hb dX1_seekLast_2 rfl (lv_at hl 3 rfl) ?_
    refine va_gets hx hb ((hXr.2.2.1.1.2.2.2).1) hM.2 hown (hts _ q_33_13) (fun _ h9 => h9) dX1_seekLast_3 ?_
    refine va_tlen (v := 8) hx hb ((hXr.2.2.1.1.2.2.2).2) hM.2 (by decide) dX1_seekLast_6 ?_
    refine lv_icmp_ge (tgt := 96) hx hb dX1_seekLast_7 (by decide) (fun hc7 => ?_) (fun hc7 => ?_)
    · replace hf := it_t hf hc7
      refine lv_bipush (v := (-5)) hx hb dX1_seekLast_96 (by decide) ?_
      exact rt_i hX hM (congrArg (fun z => some (Value.int z)) (so_1 hf)) (so_2 hf) dX1_seekLast_98
    · replace hf := it_f hf hc7
      refine va_gets hx hb ((hXr.2.2.1.1.2.2.2).1) hM.2 hown (hts _ q_33_13) (fun _ h9 => h9) dX1_seekLast_10 ?_
      refine lv_iload_n hx hb dX1_seekLast_13 rfl (lv_at hl 3 rfl) ?_
      replace hf := gA_some hf
      obtain ⟨hi, hf⟩ := hf
      refine va_ti hx hb ((hXr.2.2.1.1.2.2.2).2) hM.2 hi rfl dX1_seekLast_14 ?_
      refine lv_topi (fun v1 ev1 => ?_)
      replace hf := lt_e ev1 hf
      refine lv_istore (lv' := [(4, .int v1), (0, .ref (eA E o)), (1, .int a1), (2, .int a2), (3, .int x3)]) hx hb dX1_seekLast_15 hl (by decide) rfl (fun ls hl => ?_)
      refine lv_iload_n hx hb dX1_seekLast_17 rfl (lv_at hl 2 rfl) ?_
      refine lv_iload hx hb dX1_seekLast_18 (lv_at hl 0 rfl) ?_
      refine lv_iconst (v := 4) hx hb dX1_seekLast_20 (by decide) ?_
      refine lv_iadd hx hb dX1_seekLast_21 ?_
      refine lv_bipush (v := 8) hx hb dX1_seekLast_22 (by decide) ?_
      refine lv_irem hx hb dX1_seekLast_24 (by decide) ?_
      replace hf := bnd_some hf
      obtain ⟨r3, μ2, h25, hf⟩ := hf
      refine cl_S (As := [.int a1, .int ((v1 + (4 : Int32)) - (v1 + (4 : Int32)) / (8 : Int32) * (8 : Int32))]) (rest := []) (st2 := [.int r3]) (n := 2) hX hM (c_X2_squareBeside l  h25) mt_X2_squareBeside q_33_14 ⟨rfl, rfl⟩ ⟨Nat.le_of_ble_eq_true rfl, Nat.le_of_ble_eq_true rfl⟩ rfl hl.1 rfl (Nat.le_of_ble_eq_true rfl) dX1_seekLast_25 rfl (fun H locs hM => ?_)
      refine lv_istore (lv' := [(5, .int r3), (4, .int v1), (0, .ref (eA E o)), (1, .int a1), (2, .int a2), (3, .int x3)]) hx hb dX1_seekLast_28 hl (by decide) rfl (fun ls hl => ?_)
      refine lv_iload hx hb dX1_seekLast_30 (lv_at hl 0 rfl) ?_
      refine lv_iconst (v := (-1)) hx hb dX1_seekLast_32 (by decide) ?_
      refine lv_icmp_ne (tgt := 39) hx hb dX1_seekLast_33 (by decide) (fun hc33 => ?_) (fun hc33 => ?_)
      · replace hf := it_f hf hc33
        refine lv_iconst (v := 0) hx hb dX1_seekLast_39 (by decide) ?_
        refine lv_istore (lv' := [(6, .int (0 : Int32)), (5, .int r3), (4, .int v1), (0, .ref (eA E o)), (1, .int a1), (2, .int a2), (3, .int x3)]) hx hb dX1_seekLast_40 hl (by decide) rfl (fun ls hl => ?_)
        exact w_X1_seekLast_b42 l ho hX hK2 FU _ _ _ _ _  hf _ _ hM _ (lv_sub hl [3, 4, 5, 6, 2, 1, 0] rfl)
      · replace hf := it_t hf hc33
        refine lv_goto (tgt := 90) hx hb dX1_seekLast_36 (by decide) ?_
        obtain ⟨v8, ev8⟩ : ∃ y : Int32, y = x3 + (1 : Int32) := ⟨_, rfl⟩
        replace hf := lt_e ev8 hf
        refine lv_iinc (v := v8) (lv' := [(3, .int v8), (5, .int r3), (4, .int v1), (0, .ref (eA E o)), (1, .int a1), (2, .int a2)]) hx hb dX1_seekLast_90 hl (k := 5) rfl (by rw [ev8]; rfl) (by decide) rfl (fun ls hl => ?_)
        refine lv_goto (tgt := 2) hx hb dX1_seekLast_93 (by decide) ?_
        exact hK2 _ _  hf _ _ hM _ (lv_sub hl [3, 4, 5, 0] rfl)
def f_X1_seekLast (o : Nat) (a1 : Int32) (a2 : Int32) (μ : Mem) : Option (Int32 × Mem) :=
  f_X1_seekLast_b2 o a1 a2  FU (0 : Int32) μ
set_option maxHeartbeats 4000000 in
set_option maxRecDepth 100000 in
theorem w_X1_seekLast (l : Launch) {o : Nat} {a1 : Int32} {a2 : Int32} (ho : knd o = 0) {μ μ2 : Mem} {r : Int32} {H : Heap} {locs : List Loc} {ls : Array Slot} (hf : f_X1_seekLast o a1 a2 μ = some (r, μ2)) (hX : XX E p m meth c cX1_seekLast 7 (some .int) s args RX1) (hM : MM E s μ H locs) (hl : lv_has ls 7 [(0, .ref (eA E o)), (1, .int a1), (2, .int a2)]) : W p l e (rmF 3 70) s m args below meth c H locs 0 0 (MQ below (QC E (some (.int r)) μ2) args s 0 0 (AA E)) (F0 m 0 ls []) := by
  obtain ⟨⟨hx, hb, hml, hown, hts⟩, hXr⟩ := id hX
  unfold f_X1_seekLast at hf
  refine lv_iconst (v := 0) hx hb dX1_seekLast_0 (by decide) ?_
  refine lv_istore_n (lv' := [(3, .int (0 : Int32)), (0, .ref (eA E o)), (1, .int a1), (2, .int a2)]) hx hb dX1_seekLast_1 rfl hl (by decide) rfl (fun ls hl => ?_)
  exact w_X1_seekLast_b2 l ho hX  FU _ _  hf _ _ hM _ (lv_sub hl [1, 2, 3, 0] rfl)
theorem c_X1_seekLast (l : Launch) {o : Nat} {a1 : Int32} {a2 : Int32} (ho : knd o = 0) {μ μ2 : Mem} {r : Int32} (hf : f_X1_seekLast o a1 a2 μ = some (r, μ2)) : CT E l yX1_seekLast cX1_seekLast 7 (some .int) (rmF 3 70) [.ref (eA E o), .int a1, .int a2] μ (some (.int r)) μ2 := CT.of (show plainFor yX1_seekLast = true by decide +kernel) (Nat.le_of_ble_eq_true rfl) rfl (fun _ _ _ _ _ _ _ _ hX hM hl => w_X1_seekLast l ho hf hX hM hl)
theorem mv_X1_seekLast : MV yX1_seekLast cX1_seekLast 7 (some .int) RX1 2 := ⟨q_33_12, q_33_10, q_33_11, q_1_23, by decide +kernel⟩
def f_X1_lastOf_b63 (o : Nat) (a1 : Int32) (a2 : Int32)  (x3 : Int32) (t0 : Nat) (t1 : Int32) (t2 : Int32) (μ : Mem) : Option (Int32 × Mem) :=
  gA t1 (aln t0) (lt (sI μ t0 t1.toNatClampNeg t2) (fun μ4 => gA x3 (aln (rf o 5)) (some ((μ4.1 (rf o 5) x3.toNatClampNeg), μ4))))
set_option maxHeartbeats 4000000 in
set_option maxRecDepth 100000 in
theorem w_X1_lastOf_b63 (l : Launch) {o : Nat} {a1 : Int32} {a2 : Int32} (ho : knd o = 0) {μ2 : Mem} {r : Int32}   {x3 : Int32} {t0 : Nat} {t1 : Int32} {t2 : Int32} {μ : Mem} {H : Heap} {locs : List Loc} {ls : Array Slot} (ht0 : knd t0 = 10) (hf : f_X1_lastOf_b63 o a1 a2  x3 t0 t1 t2 μ = some (r, μ2)) (hX : XX E p m meth c cX1_lastOf 5 (some .int) s args RX1) (hM : MM E s μ H locs) (hl : lv_has ls 5 [(0, .ref (eA E o)), (1, .int a1), (2, .int a2), (3, .int x3)]) : W p l e (rmF 4 96) s m args below meth c H locs 0 0 (MQ below (QC E (some (.int r)) μ2) args s 0 0 (AA E)) (F0 m 63 ls [.int t2, .int t1, .ref (eA E t0)]) := by
  obtain ⟨⟨hx, hb, hml, hown, hts⟩, hXr⟩ := id hX
  unfold f_X1_lastOf_b63 at hf
  replace hf := gA_some hf
  obtain ⟨hi, hf⟩ := hf
  refine ast hX hM ht0 hi dX1_lastOf_63 (fun μ4 H locs eμ4 hM => ?_)
  replace hf := lt_e eμ4 hf
  refine lv_aload_n hx hb dX1_lastOf_64 rfl (lv_at hl 0 rfl) ?_
  refine gf_0_5 hX hM ho q_4_17 dX1_lastOf_65 ?_
  refine lv_iload_n hx hb dX1_lastOf_68 rfl (lv_at hl 3 rfl) ?_
  replace hf := gA_some hf
  obtain ⟨hi, hf⟩ := hf
  refine ald hX hM (kr_0_5 ho) hi dX1_lastOf_69 ?_
  exact rt_i hX hM (congrArg (fun z => some (Value.int z)) (so_1 hf)) (so_2 hf) dX1_lastOf_70
def f_X1_lastOf_b40 (o : Nat) (a1 : Int32) (a2 : Int32)  (x3 : Int32) (t0 : Int32) (μ : Mem) : Option (Int32 × Mem) :=
  (if t0 = 0 then bnd (f_X1_seekLast o a1 a2 μ) (fun r3 μ2 => f_X1_lastOf_b63 o a1 a2  x3 (rf o 5) x3 r3 μ2) else f_X1_lastOf_b63 o a1 a2  x3 (rf o 5) x3 (-5 : Int32) μ)
set_option maxHeartbeats 4000000 in
set_option maxRecDepth 100000 in
theorem w_X1_lastOf_b40 (l : Launch) {o : Nat} {a1 : Int32} {a2 : Int32} (ho : knd o = 0) {μ2 : Mem} {r : Int32}   {x3 : Int32} {t0 : Int32} {μ : Mem} {H : Heap} {locs : List Loc} {ls : Array Slot}  (hf : f_X1_lastOf_b40 o a1 a2  x3 t0 μ = some (r, μ2)) (hX : XX E p m meth c cX1_lastOf 5 (some .int) s args RX1) (hM : MM E s μ H locs) (hl : lv_has ls 5 [(0, .ref (eA E o)), (1, .int a1), (2, .int a2), (3, .int x3)]) : W p l e (rmF 4 96) s m args below meth c H locs 0 0 (MQ below (QC E (some (.int r)) μ2) args s 0 0 (AA E)) (F0 m 40 ls [.int t0]) := by
  obtain ⟨⟨hx, hb, hml, hown, hts⟩, hXr⟩ := id hX
  unfold f_X1_lastOf_b40 at hf
  refine lv_istore (lv' := [(4, .int t0), (0, .ref (eA E o)), (1, .int a1), (2, .int a2), (3, .int x3)]) hx hb dX1_lastOf_40 hl (by decide) rfl (fun ls hl => ?_)
  refine lv_aload_n hx hb dX1_lastOf_42 rfl (lv_at hl 1 rfl) ?_
  refine gf_0_5 hX hM ho q_4_17 dX1_lastOf_43 ?_
  refine lv_iload_n hx hb dX1_lastOf_46 rfl (lv_at hl 4 rfl) ?_
  refine lv_iload hx hb dX1_lastOf_47 (lv_at hl 0 rfl) ?_
  refine lv_if_eq (tgt := 57) hx hb dX1_lastOf_49 (by decide) (fun hc49 => ?_) (fun hc49 => ?_)
  · replace hf := it_t hf hc49
    refine lv_aload_n hx hb dX1_lastOf_57 rfl (lv_at hl 1 rfl) ?_
    refine lv_iload_n hx hb dX1_lastOf_58 rfl (lv_at hl 2 rfl) ?_
    refine lv_iload_n hx hb dX1_lastOf_59 rfl (lv_at hl 3 rfl) ?_
    replace hf := bnd_some hf
    obtain ⟨r3, μ2, h60, hf⟩ := hf
    refine cl_V (As := [.int a1, .int a2]) (rest := [.int x3, .ref (eA E (rf o 5))]) (st2 := [.int r3, .int x3, .ref (eA E (rf o 5))]) (n := 2) hX hM (c_X1_seekLast l ho h60) mv_X1_seekLast q_33_9 ⟨rfl, rfl⟩ ⟨Nat.le_of_ble_eq_true rfl, Nat.le_of_ble_eq_true rfl⟩ ho (by decide) rfl rfl rfl hl.1 rfl (Nat.le_of_ble_eq_true rfl) dX1_lastOf_60 rfl (fun H locs hM => ?_)
    exact w_X1_lastOf_b63 l ho  (kr_0_5 ho) hf hX hM (lv_sub hl [1, 2, 3, 4] rfl)
  · replace hf := it_f hf hc49
    refine lv_bipush (v := (-5)) hx hb dX1_lastOf_52 (by decide) ?_
    refine lv_goto (tgt := 63) hx hb dX1_lastOf_54 (by decide) ?_
    exact w_X1_lastOf_b63 l ho  (kr_0_5 ho) hf hX hM (lv_sub hl [1, 2, 3, 4] rfl)
def f_X1_lastOf_b35 (o : Nat) (a1 : Int32) (a2 : Int32)  (x3 : Int32) (μ : Mem) : Option (Int32 × Mem) :=
  f_X1_lastOf_b40 o a1 a2  x3 (1 : Int32) μ
set_option maxHeartbeats 4000000 in
set_option maxRecDepth 100000 in
theorem w_X1_lastOf_b35 (l : Launch) {o : Nat} {a1 : Int32} {a2 : Int32} (ho : knd o = 0) {μ2 : Mem} {r : Int32}   {x3 : Int32} {μ : Mem} {H : Heap} {locs : List Loc} {ls : Array Slot}  (hf : f_X1_lastOf_b35 o a1 a2  x3 μ = some (r, μ2)) (hX : XX E p m meth c cX1_lastOf 5 (some .int) s args RX1) (hM : MM E s μ H locs) (hl : lv_has ls 5 [(0, .ref (eA E o)), (1, .int a1), (2, .int a2), (3, .int x3)]) : W p l e (rmF 4 96) s m args below meth c H locs 0 0 (MQ below (QC E (some (.int r)) μ2) args s 0 0 (AA E)) (F0 m 35 ls []) := by
  obtain ⟨⟨hx, hb, hml, hown, hts⟩, hXr⟩ := id hX
  unfold f_X1_lastOf_b35 at hf
  refine lv_iconst (v := 1) hx hb dX1_lastOf_35 (by decide) ?_
  refine lv_goto (tgt := 40) hx hb dX1_lastOf_36 (by decide) ?_
  exact w_X1_lastOf_b40 l ho   hf hX hM (lv_sub hl [0, 1, 2, 3] rfl)
def f_X1_lastOf (o : Nat) (a1 : Int32) (a2 : Int32) (μ : Mem) : Option (Int32 × Mem) :=
  lt (((2 : Int32) * a1) + a2) (fun v1 => gA v1 (aln (rf o 5)) ((if (μ.1 (rf o 5) v1.toNatClampNeg) = (-1 : Int32) then gA v1 (aln (rf o 2)) ((if (μ.1 (rf o 2) v1.toNatClampNeg) = (1000000000 : Int32) then f_X1_lastOf_b35 o a1 a2  v1 μ else bnd (f_X1_startSpot o μ) (fun r6 μ5 => (if v1 = r6 then f_X1_lastOf_b35 o a1 a2  v1 μ5 else f_X1_lastOf_b40 o a1 a2  v1 (0 : Int32) μ5)))) else gA v1 (aln (rf o 5)) (some ((μ.1 (rf o 5) v1.toNatClampNeg), μ)))))
set_option maxHeartbeats 4000000 in
set_option maxRecDepth 100000 in
theorem w_X1_lastOf (l : Launch) {o : Nat} {a1 : Int32} {a2 : Int32} (ho : knd o = 0) {μ μ2 : Mem} {r : Int32} {H : Heap} {locs : List Loc} {ls : Array Slot} (hf : f_X1_lastOf o a1 a2 μ = some (r, μ2)) (hX : XX E p m meth c cX1_lastOf 5 (some .int) s args RX1) (hM : MM E s μ H locs) (hl : lv_has ls 5 [(0, .ref (eA E o)), (1, .int a1), (2, .int a2)]) : W p l e (rmF 4 96) s m args below meth c H locs 0 0 (MQ below (QC E (some (.int r)) μ2) args s 0 0 (AA E)) (F0 m 0 ls []) := by
  obtain ⟨⟨hx, hb, hml, hown, hts⟩, hXr⟩ := id hX
  unfold f_X1_lastOf at hf
  refine lv_iconst (v := 2) hx hb dX1_lastOf_0 (by decide) ?_
  refine lv_iload_n hx hb dX1_lastOf_1 rfl (lv_at hl 1 rfl) ?_
  refine lv_imul hx hb dX1_lastOf_2 ?_
  refine lv_iload_n hx hb dX1_lastOf_3 rfl (lv_at hl 2 rfl) ?_
  refine lv_iadd hx hb dX1_lastOf_4 ?_
  refine lv_topi (fun v1 ev1 => ?_)
  replace hf := lt_e ev1 hf
  refine lv_istore_n (lv' := [(3, .int v1), (0, .ref (eA E o)), (1, .int a1), (2, .int a2)]) hx hb dX1_lastOf_5 rfl hl (by decide) rfl (fun ls hl => ?_)
  refine lv_aload_n hx hb dX1_lastOf_6 rfl (lv_at hl 1 rfl) ?_
  refine gf_0_5 hX hM ho q_4_17 dX1_lastOf_7 ?_
  refine lv_iload_n hx hb dX1_lastOf_10 rfl (lv_at hl 0 rfl) ?_
  replace hf := gA_some hf
  obtain ⟨hi, hf⟩ := hf
  refine ald hX hM (kr_0_5 ho) hi dX1_lastOf_11 ?_
  refine lv_iconst (v := (-1)) hx hb dX1_lastOf_12 (by decide) ?_
  refine lv_icmp_ne (tgt := 64) hx hb dX1_lastOf_13 (by decide) (fun hc13 => ?_) (fun hc13 => ?_)
  · replace hf := it_f hf hc13
    refine lv_aload_n hx hb dX1_lastOf_64 rfl (lv_at hl 1 rfl) ?_
    refine gf_0_5 hX hM ho q_4_17 dX1_lastOf_65 ?_
    refine lv_iload_n hx hb dX1_lastOf_68 rfl (lv_at hl 0 rfl) ?_
    replace hf := gA_some hf
    obtain ⟨hi, hf⟩ := hf
    refine ald hX hM (kr_0_5 ho) hi dX1_lastOf_69 ?_
    exact rt_i hX hM (congrArg (fun z => some (Value.int z)) (so_1 hf)) (so_2 hf) dX1_lastOf_70
  · replace hf := it_t hf hc13
    refine lv_aload_n hx hb dX1_lastOf_16 rfl (lv_at hl 1 rfl) ?_
    refine gf_0_2 hX hM ho q_4_14 dX1_lastOf_17 ?_
    refine lv_iload_n hx hb dX1_lastOf_20 rfl (lv_at hl 0 rfl) ?_
    replace hf := gA_some hf
    obtain ⟨hi, hf⟩ := hf
    refine ald hX hM (kr_0_2 ho) hi dX1_lastOf_21 ?_
    refine lv_ldc (v := 1000000000) hx hb hown (hts _ q_12_21) dX1_lastOf_22 ?_
    refine lv_icmp_eq (tgt := 35) hx hb dX1_lastOf_24 (by decide) (fun hc24 => ?_) (fun hc24 => ?_)
    · replace hf := it_t hf hc24
      exact w_X1_lastOf_b35 l ho   hf hX hM (lv_sub hl [1, 2, 3, 0] rfl)
    · replace hf := it_f hf hc24
      refine lv_iload_n hx hb dX1_lastOf_27 rfl (lv_at hl 0 rfl) ?_
      refine lv_aload_n hx hb dX1_lastOf_28 rfl (lv_at hl 1 rfl) ?_
      replace hf := bnd_some hf
      obtain ⟨r6, μ5, h29, hf⟩ := hf
      refine cl_V (As := []) (rest := [.int v1]) (st2 := [.int r6, .int v1]) (n := 0) hX hM (c_X1_startSpot l ho h29) mv_X1_startSpot q_14_14 ⟨rfl, rfl⟩ ⟨Nat.le_of_ble_eq_true rfl, Nat.le_of_ble_eq_true rfl⟩ ho (by decide) rfl rfl rfl hl.1 rfl (Nat.le_of_ble_eq_true rfl) dX1_lastOf_29 rfl (fun H locs hM => ?_)
      refine lv_icmp_ne (tgt := 39) hx hb dX1_lastOf_32 (by decide) (fun hc32 => ?_) (fun hc32 => ?_)
      · replace hf := it_f hf hc32
        refine lv_iconst (v := 0) hx hb dX1_lastOf_39 (by decide) ?_
        exact w_X1_lastOf_b40 l ho   hf hX hM (lv_sub hl [1, 2, 3, 0] rfl)
      · replace hf := it_t hf hc32
        exact w_X1_lastOf_b35 l ho   hf hX hM (lv_sub hl [1, 2, 3, 0] rfl)
theorem c_X1_lastOf (l : Launch) {o : Nat} {a1 : Int32} {a2 : Int32} (ho : knd o = 0) {μ μ2 : Mem} {r : Int32} (hf : f_X1_lastOf o a1 a2 μ = some (r, μ2)) : CT E l yX1_lastOf cX1_lastOf 5 (some .int) (rmF 4 96) [.ref (eA E o), .int a1, .int a2] μ (some (.int r)) μ2 := CT.of (show plainFor yX1_lastOf = true by decide +kernel) (Nat.le_of_ble_eq_true rfl) rfl (fun _ _ _ _ _ _ _ _ hX hM hl => w_X1_lastOf l ho hf hX hM hl)
theorem mv_X1_lastOf : MV yX1_lastOf cX1_lastOf 5 (some .int) RX1 2 := ⟨q_33_8, q_33_6, q_33_7, q_1_23, by decide +kernel⟩
def f_X1_layCourse_b55 (o : Nat) (a1 : Int32)  : Nat → Int32 → Int32 → Mem → Option (Int32 × Mem)
  | 0, _, _, _ => none
  | n + 1, x3, x4, μ =>
    (if (72 : Int32) ≤ x4 then some ((μ.1 o 7), μ) else (if x3 = (-5 : Int32) then some ((μ.1 o 7), μ) else gA x4 (aln (rf o 6)) (lt (sI μ (rf o 6) x4.toNatClampNeg (x3 - x3 / (10 : Int32) * (10 : Int32))) (fun μ6 => lt (sI μ6 o 7 ((μ6.1 o 7) + (1 : Int32))) (fun μ7 => bnd (f_X1_lastOf o (x3 / (100 : Int32)) ((x3 / (10 : Int32)) - (x3 / (10 : Int32)) / (10 : Int32) * (10 : Int32)) μ7) (fun r9 μ8 => lt (x4 + (1 : Int32)) (fun v10 => (f_X1_layCourse_b55 o a1  n) r9 v10 μ8)))))))
set_option maxHeartbeats 4000000 in
set_option maxRecDepth 100000 in
theorem w_X1_layCourse_b55 (l : Launch) {o : Nat} {a1 : Int32} (ho : knd o = 0) {μ2 : Mem} {r : Int32}  (hX : XX E p m meth c cX1_layCourse 5 (some .int) s args RX1)  : ∀ (n : Nat) (x3 : Int32) (x4 : Int32) (μ : Mem), f_X1_layCourse_b55 o a1  n x3 x4 μ = some (r, μ2) → ∀ (H : Heap) (locs : List Loc), MM E s μ H locs → ∀ ls : Array Slot, lv_has ls 5 [(0, .ref (eA E o)), (1, .int a1), (3, .int x3), (4, .int x4)] → W p l e (rmF 5 120) s m args below meth c H locs 0 0 (MQ below (QC E (some (.int r)) μ2) args s 0 0 (AA E)) (F0 m 55 ls []) := by
  obtain ⟨⟨hx, hb, hml, hown, hts⟩, hXr⟩ := id hX
  intro n
  induction n with
  | zero => intro x3 x4 μ  hf; exact no_none hf
  | succ n ih =>
    intro x3 x4 μ  hf H locs hM ls hl
    rw [f_X1_layCourse_b55] at hf
    have hK55 := ih
    clear ih
    refine lv_iload hx hb dX1_layCourse_55 (lv_at hl 3 rfl) ?_
    refine lv_bipush (v := 72) hx hb dX1_layCourse_57 (by decide) ?_
    refine lv_icmp_ge (tgt := 111) hx hb dX1_layCourse_59 (by decide) (fun hc59 => ?_) (fun hc59 => ?_)
    · replace hf := it_t hf hc59
      refine lv_aload_n hx hb dX1_layCourse_111 rfl (lv_at hl 0 rfl) ?_
      refine gf_0_7 hX hM ho q_4_19 dX1_layCourse_112 ?_
      exact rt_i hX hM (congrArg (fun z => some (Value.int z)) (so_1 hf)) (so_2 hf) dX1_layCourse_115
    · replace hf := it_f hf hc59
      refine lv_iload_n hx hb dX1_layCourse_62 rfl (lv_at hl 2 rfl) ?_
      refine lv_bipush (v := (-5)) hx hb dX1_layCourse_63 (by decide) ?_
      refine lv_icmp_eq (tgt := 111) hx hb dX1_layCourse_65 (by decide) (fun hc65 => ?_) (fun hc65 => ?_)
      · replace hf := it_t hf hc65
        refine lv_aload_n hx hb dX1_layCourse_111 rfl (lv_at hl 0 rfl) ?_
        refine gf_0_7 hX hM ho q_4_19 dX1_layCourse_112 ?_
        exact rt_i hX hM (congrArg (fun z => some (Value.int z)) (so_1 hf)) (so_2 hf) dX1_layCourse_115
      · replace hf := it_f hf hc65
        refine lv_aload_n hx hb dX1_layCourse_68 rfl (lv_at hl 0 rfl) ?_
        refine gf_0_6 hX hM ho q_4_18 dX1_layCourse_69 ?_
        refine lv_iload hx hb dX1_layCourse_72 (lv_at hl 3 rfl) ?_
        refine lv_iload_n hx hb dX1_layCourse_74 rfl (lv_at hl 2 rfl) ?_
        refine lv_bipush (v := 10) hx hb dX1_layCourse_75 (by decide) ?_
        refine lv_irem hx hb dX1_layCourse_77 (by decide) ?_
        replace hf := gA_some hf
        obtain ⟨hi, hf⟩ := hf
        refine ast hX hM (kr_0_6 ho) hi dX1_layCourse_78 (fun μ6 H locs eμ6 hM => ?_)
        replace hf := lt_e eμ6 hf
        refine lv_aload_n hx hb dX1_layCourse_79 rfl (lv_at hl 0 rfl) ?_
        refine lv_dup hx hb dX1_layCourse_80 rfl ?_
        refine gf_0_7 hX hM ho q_4_19 dX1_layCourse_81 ?_
        refine lv_iconst (v := 1) hx hb dX1_layCourse_84 (by decide) ?_
        refine lv_iadd hx hb dX1_layCourse_85 ?_
        refine pf_0_7 hX hM ho q_4_19 dX1_layCourse_86 (fun μ7 H locs eμ7 hM => ?_)
        replace hf := lt_e eμ7 hf
        refine lv_aload_n hx hb dX1_layCourse_89 rfl (lv_at hl 0 rfl) ?_
        refine lv_iload_n hx hb dX1_layCourse_90 rfl (lv_at hl 2 rfl) ?_
        refine lv_bipush (v := 100) hx hb dX1_layCourse_91 (by decide) ?_
        refine lv_idiv hx hb dX1_layCourse_93 (by decide) ?_
        refine lv_iload_n hx hb dX1_layCourse_94 rfl (lv_at hl 2 rfl) ?_
        refine lv_bipush (v := 10) hx hb dX1_layCourse_95 (by decide) ?_
        refine lv_idiv hx hb dX1_layCourse_97 (by decide) ?_
        refine lv_bipush (v := 10) hx hb dX1_layCourse_98 (by decide) ?_
        refine lv_irem hx hb dX1_layCourse_100 (by decide) ?_
        replace hf := bnd_some hf
        obtain ⟨r9, μ8, h101, hf⟩ := hf
        refine cl_V (As := [.int (x3 / (100 : Int32)), .int ((x3 / (10 : Int32)) - (x3 / (10 : Int32)) / (10 : Int32) * (10 : Int32))]) (rest := []) (st2 := [.int r9]) (n := 2) hX hM (c_X1_lastOf l ho h101) mv_X1_lastOf q_34_11 ⟨rfl, rfl⟩ ⟨Nat.le_of_ble_eq_true rfl, Nat.le_of_ble_eq_true rfl⟩ ho (by decide) rfl rfl rfl hl.1 rfl (Nat.le_of_ble_eq_true rfl) dX1_layCourse_101 rfl (fun H locs hM => ?_)
        refine lv_istore_n (lv' := [(3, .int r9), (0, .ref (eA E o)), (1, .int a1), (4, .int x4)]) hx hb dX1_layCourse_104 rfl hl (by decide) rfl (fun ls hl => ?_)
        obtain ⟨v10, ev10⟩ : ∃ y : Int32, y = x4 + (1 : Int32) := ⟨_, rfl⟩
        replace hf := lt_e ev10 hf
        refine lv_iinc (v := v10) (lv' := [(4, .int v10), (3, .int r9), (0, .ref (eA E o)), (1, .int a1)]) hx hb dX1_layCourse_105 hl (k := 3) rfl (by rw [ev10]; rfl) (by decide) rfl (fun ls hl => ?_)
        refine lv_goto (tgt := 55) hx hb dX1_layCourse_108 (by decide) ?_
        exact hK55 _ _ _  hf _ _ hM _ (lv_sub hl [2, 3, 1, 0] rfl)
def f_X1_layCourse_b44 (o : Nat) (a1 : Int32)  (t0 : Int32) (μ : Mem) : Option (Int32 × Mem) :=
  bnd (f_X1_lastOf o a1 t0 μ) (fun r5 μ4 => f_X1_layCourse_b55 o a1  FU r5 (0 : Int32) μ4)
set_option maxHeartbeats 4000000 in
set_option maxRecDepth 100000 in
theorem w_X1_layCourse_b44 (l : Launch) {o : Nat} {a1 : Int32} (ho : knd o = 0) {μ2 : Mem} {r : Int32}   {t0 : Int32} {μ : Mem} {H : Heap} {locs : List Loc} {ls : Array Slot}  (hf : f_X1_layCourse_b44 o a1  t0 μ = some (r, μ2)) (hX : XX E p m meth c cX1_layCourse 5 (some .int) s args RX1) (hM : MM E s μ H locs) (hl : lv_has ls 5 [(0, .ref (eA E o)), (1, .int a1)]) : W p l e (rmF 5 120) s m args below meth c H locs 0 0 (MQ below (QC E (some (.int r)) μ2) args s 0 0 (AA E)) (F0 m 44 ls [.int t0]) := by
  obtain ⟨⟨hx, hb, hml, hown, hts⟩, hXr⟩ := id hX
  unfold f_X1_layCourse_b44 at hf
  refine lv_istore_n (lv' := [(2, .int t0), (0, .ref (eA E o)), (1, .int a1)]) hx hb dX1_layCourse_44 rfl hl (by decide) rfl (fun ls hl => ?_)
  refine lv_aload_n hx hb dX1_layCourse_45 rfl (lv_at hl 1 rfl) ?_
  refine lv_iload_n hx hb dX1_layCourse_46 rfl (lv_at hl 2 rfl) ?_
  refine lv_iload_n hx hb dX1_layCourse_47 rfl (lv_at hl 0 rfl) ?_
  replace hf := bnd_some hf
  obtain ⟨r5, μ4, h48, hf⟩ := hf
  refine cl_V (As := [.int a1, .int t0]) (rest := []) (st2 := [.int r5]) (n := 2) hX hM (c_X1_lastOf l ho h48) mv_X1_lastOf q_34_11 ⟨rfl, rfl⟩ ⟨Nat.le_of_ble_eq_true rfl, Nat.le_of_ble_eq_true rfl⟩ ho (by decide) rfl rfl rfl hl.1 rfl (Nat.le_of_ble_eq_true rfl) dX1_layCourse_48 rfl (fun H locs hM => ?_)
  refine lv_istore_n (lv' := [(3, .int r5), (2, .int t0), (0, .ref (eA E o)), (1, .int a1)]) hx hb dX1_layCourse_51 rfl hl (by decide) rfl (fun ls hl => ?_)
  refine lv_iconst (v := 0) hx hb dX1_layCourse_52 (by decide) ?_
  refine lv_istore (lv' := [(4, .int (0 : Int32)), (3, .int r5), (2, .int t0), (0, .ref (eA E o)), (1, .int a1)]) hx hb dX1_layCourse_53 hl (by decide) rfl (fun ls hl => ?_)
  exact w_X1_layCourse_b55 l ho hX  FU _ _ _  hf _ _ hM _ (lv_sub hl [3, 4, 1, 0] rfl)
def f_X1_layCourse (o : Nat) (a1 : Int32) (μ : Mem) : Option (Int32 × Mem) :=
  lt (sI μ o 7 (0 : Int32)) (fun μ1 => bnd (f_X1_leastOf o a1 μ1) (fun r3 μ2 => (if r3 = (1000000000 : Int32) then some ((-5 : Int32), μ2) else gA ((2 : Int32) * a1) (aln (rf o 2)) (gA (((2 : Int32) * a1) + (1 : Int32)) (aln (rf o 2)) ((if (μ2.1 (rf o 2) (((2 : Int32) * a1) + (1 : Int32)).toNatClampNeg) < (μ2.1 (rf o 2) ((2 : Int32) * a1).toNatClampNeg) then f_X1_layCourse_b44 o a1  (1 : Int32) μ2 else f_X1_layCourse_b44 o a1  (0 : Int32) μ2))))))
set_option maxHeartbeats 4000000 in
set_option maxRecDepth 100000 in
theorem w_X1_layCourse (l : Launch) {o : Nat} {a1 : Int32} (ho : knd o = 0) {μ μ2 : Mem} {r : Int32} {H : Heap} {locs : List Loc} {ls : Array Slot} (hf : f_X1_layCourse o a1 μ = some (r, μ2)) (hX : XX E p m meth c cX1_layCourse 5 (some .int) s args RX1) (hM : MM E s μ H locs) (hl : lv_has ls 5 [(0, .ref (eA E o)), (1, .int a1)]) : W p l e (rmF 5 120) s m args below meth c H locs 0 0 (MQ below (QC E (some (.int r)) μ2) args s 0 0 (AA E)) (F0 m 0 ls []) := by
  obtain ⟨⟨hx, hb, hml, hown, hts⟩, hXr⟩ := id hX
  unfold f_X1_layCourse at hf
  refine lv_aload_n hx hb dX1_layCourse_0 rfl (lv_at hl 0 rfl) ?_
  refine lv_iconst (v := 0) hx hb dX1_layCourse_1 (by decide) ?_
  refine pf_0_7 hX hM ho q_4_19 dX1_layCourse_2 (fun μ1 H locs eμ1 hM => ?_)
  replace hf := lt_e eμ1 hf
  refine lv_aload_n hx hb dX1_layCourse_5 rfl (lv_at hl 0 rfl) ?_
  refine lv_iload_n hx hb dX1_layCourse_6 rfl (lv_at hl 1 rfl) ?_
  replace hf := bnd_some hf
  obtain ⟨r3, μ2, h7, hf⟩ := hf
  refine cl_V (As := [.int a1]) (rest := []) (st2 := [.int r3]) (n := 1) hX hM (c_X1_leastOf l ho h7) mv_X1_leastOf q_16_23 ⟨rfl, rfl⟩ ⟨Nat.le_of_ble_eq_true rfl, Nat.le_of_ble_eq_true rfl⟩ ho (by decide) rfl rfl rfl hl.1 rfl (Nat.le_of_ble_eq_true rfl) dX1_layCourse_7 rfl (fun H locs hM => ?_)
  refine lv_ldc (v := 1000000000) hx hb hown (hts _ q_12_21) dX1_layCourse_10 ?_
  refine lv_icmp_ne (tgt := 18) hx hb dX1_layCourse_12 (by decide) (fun hc12 => ?_) (fun hc12 => ?_)
  · replace hf := it_f hf hc12
    refine lv_aload_n hx hb dX1_layCourse_18 rfl (lv_at hl 0 rfl) ?_
    refine gf_0_2 hX hM ho q_4_14 dX1_layCourse_19 ?_
    refine lv_iconst (v := 2) hx hb dX1_layCourse_22 (by decide) ?_
    refine lv_iload_n hx hb dX1_layCourse_23 rfl (lv_at hl 1 rfl) ?_
    refine lv_imul hx hb dX1_layCourse_24 ?_
    replace hf := gA_some hf
    obtain ⟨hi, hf⟩ := hf
    refine ald hX hM (kr_0_2 ho) hi dX1_layCourse_25 ?_
    refine lv_aload_n hx hb dX1_layCourse_26 rfl (lv_at hl 0 rfl) ?_
    refine gf_0_2 hX hM ho q_4_14 dX1_layCourse_27 ?_
    refine lv_iconst (v := 2) hx hb dX1_layCourse_30 (by decide) ?_
    refine lv_iload_n hx hb dX1_layCourse_31 rfl (lv_at hl 1 rfl) ?_
    refine lv_imul hx hb dX1_layCourse_32 ?_
    refine lv_iconst (v := 1) hx hb dX1_layCourse_33 (by decide) ?_
    refine lv_iadd hx hb dX1_layCourse_34 ?_
    replace hf := gA_some hf
    obtain ⟨hi, hf⟩ := hf
    refine ald hX hM (kr_0_2 ho) hi dX1_layCourse_35 ?_
    refine lv_icmp_gt (tgt := 43) hx hb dX1_layCourse_36 (by decide) (fun hc36 => ?_) (fun hc36 => ?_)
    · replace hf := it_t hf hc36
      refine lv_iconst (v := 1) hx hb dX1_layCourse_43 (by decide) ?_
      exact w_X1_layCourse_b44 l ho   hf hX hM (lv_sub hl [0, 1] rfl)
    · replace hf := it_f hf hc36
      refine lv_iconst (v := 0) hx hb dX1_layCourse_39 (by decide) ?_
      refine lv_goto (tgt := 44) hx hb dX1_layCourse_40 (by decide) ?_
      exact w_X1_layCourse_b44 l ho   hf hX hM (lv_sub hl [0, 1] rfl)
  · replace hf := it_t hf hc12
    refine lv_bipush (v := (-5)) hx hb dX1_layCourse_15 (by decide) ?_
    exact rt_i hX hM (congrArg (fun z => some (Value.int z)) (so_1 hf)) (so_2 hf) dX1_layCourse_17
theorem c_X1_layCourse (l : Launch) {o : Nat} {a1 : Int32} (ho : knd o = 0) {μ μ2 : Mem} {r : Int32} (hf : f_X1_layCourse o a1 μ = some (r, μ2)) : CT E l yX1_layCourse cX1_layCourse 5 (some .int) (rmF 5 120) [.ref (eA E o), .int a1] μ (some (.int r)) μ2 := CT.of (show plainFor yX1_layCourse = true by decide +kernel) (Nat.le_of_ble_eq_true rfl) rfl (fun _ _ _ _ _ _ _ _ hX hM hl => w_X1_layCourse l ho hf hX hM hl)
theorem mv_X1_layCourse : MV yX1_layCourse cX1_layCourse 5 (some .int) RX1 1 := ⟨q_34_10, q_34_8, q_34_9, q_1_23, by decide +kernel⟩
def f_X1_courseHeading (o : Nat) (a1 : Int32) (μ : Mem) : Option (Int32 × Mem) :=
  bnd (f_X10_below a1 (μ.1 o 7) μ) (fun r2 μ1 => (if r2 = 0 then some ((-5 : Int32), μ1) else gA (((μ1.1 o 7) - (1 : Int32)) - a1) (aln (rf o 6)) (some ((μ1.1 (rf o 6) (((μ1.1 o 7) - (1 : Int32)) - a1).toNatClampNeg), μ1))))
set_option maxHeartbeats 4000000 in
set_option maxRecDepth 100000 in
theorem w_X1_courseHeading (l : Launch) {o : Nat} {a1 : Int32} (ho : knd o = 0) {μ μ2 : Mem} {r : Int32} {H : Heap} {locs : List Loc} {ls : Array Slot} (hf : f_X1_courseHeading o a1 μ = some (r, μ2)) (hX : XX E p m meth c cX1_courseHeading 2 (some .int) s args RX1) (hM : MM E s μ H locs) (hl : lv_has ls 2 [(0, .ref (eA E o)), (1, .int a1)]) : W p l e (rmF 1 21) s m args below meth c H locs 0 0 (MQ below (QC E (some (.int r)) μ2) args s 0 0 (AA E)) (F0 m 0 ls []) := by
  obtain ⟨⟨hx, hb, hml, hown, hts⟩, hXr⟩ := id hX
  unfold f_X1_courseHeading at hf
  refine lv_iload_n hx hb dX1_courseHeading_0 rfl (lv_at hl 1 rfl) ?_
  refine lv_aload_n hx hb dX1_courseHeading_1 rfl (lv_at hl 0 rfl) ?_
  refine gf_0_7 hX hM ho q_4_19 dX1_courseHeading_2 ?_
  replace hf := bnd_some hf
  obtain ⟨r2, μ1, h5, hf⟩ := hf
  refine cl_N (As := [.int a1, .int (μ.1 o 7)]) (rest := []) (st2 := [.int r2]) (n := 2) hX hM (c_X10_below l  h5) mt_X10_below (hXr.2.2.1.2.1.2.1) ⟨rfl, rfl⟩ ⟨Nat.le_of_ble_eq_true rfl, Nat.le_of_ble_eq_true rfl⟩ rfl hl.1 rfl (Nat.le_of_ble_eq_true rfl) dX1_courseHeading_5 rfl (fun H locs hM => ?_)
  refine lv_if_eq (tgt := 27) hx hb dX1_courseHeading_8 (by decide) (fun hc8 => ?_) (fun hc8 => ?_)
  · replace hf := it_t hf hc8
    refine lv_bipush (v := (-5)) hx hb dX1_courseHeading_27 (by decide) ?_
    exact rt_i hX hM (congrArg (fun z => some (Value.int z)) (so_1 hf)) (so_2 hf) dX1_courseHeading_29
  · replace hf := it_f hf hc8
    refine lv_aload_n hx hb dX1_courseHeading_11 rfl (lv_at hl 0 rfl) ?_
    refine gf_0_6 hX hM ho q_4_18 dX1_courseHeading_12 ?_
    refine lv_aload_n hx hb dX1_courseHeading_15 rfl (lv_at hl 0 rfl) ?_
    refine gf_0_7 hX hM ho q_4_19 dX1_courseHeading_16 ?_
    refine lv_iconst (v := 1) hx hb dX1_courseHeading_19 (by decide) ?_
    refine lv_isub hx hb dX1_courseHeading_20 ?_
    refine lv_iload_n hx hb dX1_courseHeading_21 rfl (lv_at hl 1 rfl) ?_
    refine lv_isub hx hb dX1_courseHeading_22 ?_
    replace hf := gA_some hf
    obtain ⟨hi, hf⟩ := hf
    refine ald hX hM (kr_0_6 ho) hi dX1_courseHeading_23 ?_
    refine lv_goto (tgt := 29) hx hb dX1_courseHeading_24 (by decide) ?_
    exact rt_i hX hM (congrArg (fun z => some (Value.int z)) (so_1 hf)) (so_2 hf) dX1_courseHeading_29
theorem c_X1_courseHeading (l : Launch) {o : Nat} {a1 : Int32} (ho : knd o = 0) {μ μ2 : Mem} {r : Int32} (hf : f_X1_courseHeading o a1 μ = some (r, μ2)) : CT E l yX1_courseHeading cX1_courseHeading 2 (some .int) (rmF 1 21) [.ref (eA E o), .int a1] μ (some (.int r)) μ2 := CT.of (show plainFor yX1_courseHeading = true by decide +kernel) (Nat.le_of_ble_eq_true rfl) rfl (fun _ _ _ _ _ _ _ _ hX hM hl => w_X1_courseHeading l ho hf hX hM hl)
theorem mv_X1_courseHeading : MV yX1_courseHeading cX1_courseHeading 2 (some .int) RX1 1 := ⟨q_34_15, q_34_13, q_34_14, q_1_23, by decide +kernel⟩
def f_X1_courseLength_b4 (o : Nat)  : Nat → Int32 → Int32 → Mem → Option (Int32 × Mem)
  | 0, _, _, _ => none
  | n + 1, x1, x2, μ =>
    (if (μ.1 o 7) ≤ x2 then some (x1, μ) else gA x2 (aln (rf o 6)) (bnd (f_X2_lengthOf (μ.1 (rf o 6) x2.toNatClampNeg) μ) (fun r2 μ1 => lt (x1 + r2) (fun v3 => lt (x2 + (1 : Int32)) (fun v4 => (f_X1_courseLength_b4 o  n) v3 v4 μ1)))))
set_option maxHeartbeats 4000000 in
set_option maxRecDepth 100000 in
theorem w_X1_courseLength_b4 (l : Launch) {o : Nat} (ho : knd o = 0) {μ2 : Mem} {r : Int32}  (hX : XX E p m meth c cX1_courseLength 3 (some .int) s args RX1)  : ∀ (n : Nat) (x1 : Int32) (x2 : Int32) (μ : Mem), f_X1_courseLength_b4 o  n x1 x2 μ = some (r, μ2) → ∀ (H : Heap) (locs : List Loc), MM E s μ H locs → ∀ ls : Array Slot, lv_has ls 3 [(0, .ref (eA E o)), (1, .int x1), (2, .int x2)] → W p l e (rmF 1 20) s m args below meth c H locs 0 0 (MQ below (QC E (some (.int r)) μ2) args s 0 0 (AA E)) (F0 m 4 ls []) := by
  obtain ⟨⟨hx, hb, hml, hown, hts⟩, hXr⟩ := id hX
  intro n
  induction n with
  | zero => intro x1 x2 μ  hf; exact no_none hf
  | succ n ih =>
    intro x1 x2 μ  hf H locs hM ls hl
    rw [f_X1_courseLength_b4] at hf
    have hK4 := ih
    clear ih
    refine lv_iload_n hx hb dX1_courseLength_4 rfl (lv_at hl 2 rfl) ?_
    refine lv_aload_n hx hb dX1_courseLength_5 rfl (lv_at hl 0 rfl) ?_
    refine gf_0_7 hX hM ho q_4_19 dX1_courseLength_6 ?_
    refine lv_icmp_ge (tgt := 30) hx hb dX1_courseLength_9 (by decide) (fun hc9 => ?_) (fun hc9 => ?_)
    · replace hf := it_t hf hc9
      refine lv_iload_n hx hb dX1_courseLength_30 rfl (lv_at hl 1 rfl) ?_
      exact rt_i hX hM (congrArg (fun z => some (Value.int z)) (so_1 hf)) (so_2 hf) dX1_courseLength_31
    · replace hf := it_f hf hc9
      refine lv_iload_n hx hb dX1_courseLength_12 rfl (lv_at hl 1 rfl) ?_
      refine lv_aload_n hx hb dX1_courseLength_13 rfl (lv_at hl 0 rfl) ?_
      refine gf_0_6 hX hM ho q_4_18 dX1_courseLength_14 ?_
      refine lv_iload_n hx hb dX1_courseLength_17 rfl (lv_at hl 2 rfl) ?_
      replace hf := gA_some hf
      obtain ⟨hi, hf⟩ := hf
      refine ald hX hM (kr_0_6 ho) hi dX1_courseLength_18 ?_
      replace hf := bnd_some hf
      obtain ⟨r2, μ1, h19, hf⟩ := hf
      refine cl_S (As := [.int (μ.1 (rf o 6) x2.toNatClampNeg)]) (rest := [.int x1]) (st2 := [.int r2, .int x1]) (n := 1) hX hM (c_X2_lengthOf l  h19) mt_X2_lengthOf q_38_6 ⟨rfl, rfl⟩ ⟨Nat.le_of_ble_eq_true rfl, Nat.le_of_ble_eq_true rfl⟩ rfl hl.1 rfl (Nat.le_of_ble_eq_true rfl) dX1_courseLength_19 rfl (fun H locs hM => ?_)
      refine lv_iadd hx hb dX1_courseLength_22 ?_
      refine lv_topi (fun v3 ev3 => ?_)
      replace hf := lt_e ev3 hf
      refine lv_istore_n (lv' := [(1, .int v3), (0, .ref (eA E o)), (2, .int x2)]) hx hb dX1_courseLength_23 rfl hl (by decide) rfl (fun ls hl => ?_)
      obtain ⟨v4, ev4⟩ : ∃ y : Int32, y = x2 + (1 : Int32) := ⟨_, rfl⟩
      replace hf := lt_e ev4 hf
      refine lv_iinc (v := v4) (lv' := [(2, .int v4), (1, .int v3), (0, .ref (eA E o))]) hx hb dX1_courseLength_24 hl (k := 2) rfl (by rw [ev4]; rfl) (by decide) rfl (fun ls hl => ?_)
      refine lv_goto (tgt := 4) hx hb dX1_courseLength_27 (by decide) ?_
      exact hK4 _ _ _  hf _ _ hM _ (lv_sub hl [2, 1, 0] rfl)
def f_X1_courseLength (o : Nat) (μ : Mem) : Option (Int32 × Mem) :=
  f_X1_courseLength_b4 o  FU (0 : Int32) (0 : Int32) μ
set_option maxHeartbeats 4000000 in
set_option maxRecDepth 100000 in
theorem w_X1_courseLength (l : Launch) {o : Nat} (ho : knd o = 0) {μ μ2 : Mem} {r : Int32} {H : Heap} {locs : List Loc} {ls : Array Slot} (hf : f_X1_courseLength o μ = some (r, μ2)) (hX : XX E p m meth c cX1_courseLength 3 (some .int) s args RX1) (hM : MM E s μ H locs) (hl : lv_has ls 3 [(0, .ref (eA E o))]) : W p l e (rmF 1 20) s m args below meth c H locs 0 0 (MQ below (QC E (some (.int r)) μ2) args s 0 0 (AA E)) (F0 m 0 ls []) := by
  obtain ⟨⟨hx, hb, hml, hown, hts⟩, hXr⟩ := id hX
  unfold f_X1_courseLength at hf
  refine lv_iconst (v := 0) hx hb dX1_courseLength_0 (by decide) ?_
  refine lv_istore_n (lv' := [(1, .int (0 : Int32)), (0, .ref (eA E o))]) hx hb dX1_courseLength_1 rfl hl (by decide) rfl (fun ls hl => ?_)
  refine lv_iconst (v := 0) hx hb dX1_courseLength_2 (by decide) ?_
  refine lv_istore_n (lv' := [(2, .int (0 : Int32)), (1, .int (0 : Int32)), (0, .ref (eA E o))]) hx hb dX1_courseLength_3 rfl hl (by decide) rfl (fun ls hl => ?_)
  exact w_X1_courseLength_b4 l ho hX  FU _ _ _  hf _ _ hM _ (lv_sub hl [2, 1, 0] rfl)
theorem c_X1_courseLength (l : Launch) {o : Nat} (ho : knd o = 0) {μ μ2 : Mem} {r : Int32} (hf : f_X1_courseLength o μ = some (r, μ2)) : CT E l yX1_courseLength cX1_courseLength 3 (some .int) (rmF 1 20) [.ref (eA E o)] μ (some (.int r)) μ2 := CT.of (show plainFor yX1_courseLength = true by decide +kernel) (Nat.le_of_ble_eq_true rfl) rfl (fun _ _ _ _ _ _ _ _ hX hM hl => w_X1_courseLength l ho hf hX hM hl)
theorem mv_X1_courseLength : MV yX1_courseLength cX1_courseLength 3 (some .int) RX1 0 := ⟨q_38_5, q_38_3, q_38_4, q_1_23, by decide +kernel⟩
def f_X1_leastTogether_b4 (o : Nat)  : Nat → Int32 → Int32 → Mem → Option (Int32 × Mem)
  | 0, _, _, _ => none
  | n + 1, x1, x2, μ =>
    (if (36 : Int32) ≤ x2 then some (x1, μ) else bnd (f_X1_leastOf o x2 μ) (fun r2 μ1 => (if r2 = (1000000000 : Int32) then lt (x2 + (1 : Int32)) (fun v3 => (f_X1_leastTogether_b4 o  n) x1 v3 μ1) else bnd (f_X1_leastOf o x2 μ1) (fun r5 μ4 => lt (x1 + r5) (fun v6 => lt (x2 + (1 : Int32)) (fun v7 => (f_X1_leastTogether_b4 o  n) v6 v7 μ4))))))
set_option maxHeartbeats 4000000 in
set_option maxRecDepth 100000 in
theorem w_X1_leastTogether_b4 (l : Launch) {o : Nat} (ho : knd o = 0) {μ2 : Mem} {r : Int32}  (hX : XX E p m meth c cX1_leastTogether 3 (some .int) s args RX1)  : ∀ (n : Nat) (x1 : Int32) (x2 : Int32) (μ : Mem), f_X1_leastTogether_b4 o  n x1 x2 μ = some (r, μ2) → ∀ (H : Heap) (locs : List Loc), MM E s μ H locs → ∀ ls : Array Slot, lv_has ls 3 [(0, .ref (eA E o)), (1, .int x1), (2, .int x2)] → W p l e (rmF 2 42) s m args below meth c H locs 0 0 (MQ below (QC E (some (.int r)) μ2) args s 0 0 (AA E)) (F0 m 4 ls []) := by
  obtain ⟨⟨hx, hb, hml, hown, hts⟩, hXr⟩ := id hX
  intro n
  induction n with
  | zero => intro x1 x2 μ  hf; exact no_none hf
  | succ n ih =>
    intro x1 x2 μ  hf H locs hM ls hl
    rw [f_X1_leastTogether_b4] at hf
    have hK4 := ih
    clear ih
    refine lv_iload_n hx hb dX1_leastTogether_4 rfl (lv_at hl 2 rfl) ?_
    refine lv_bipush (v := 36) hx hb dX1_leastTogether_5 (by decide) ?_
    refine lv_icmp_ge (tgt := 34) hx hb dX1_leastTogether_7 (by decide) (fun hc7 => ?_) (fun hc7 => ?_)
    · replace hf := it_t hf hc7
      refine lv_iload_n hx hb dX1_leastTogether_34 rfl (lv_at hl 1 rfl) ?_
      exact rt_i hX hM (congrArg (fun z => some (Value.int z)) (so_1 hf)) (so_2 hf) dX1_leastTogether_35
    · replace hf := it_f hf hc7
      refine lv_aload_n hx hb dX1_leastTogether_10 rfl (lv_at hl 0 rfl) ?_
      refine lv_iload_n hx hb dX1_leastTogether_11 rfl (lv_at hl 2 rfl) ?_
      replace hf := bnd_some hf
      obtain ⟨r2, μ1, h12, hf⟩ := hf
      refine cl_V (As := [.int x2]) (rest := []) (st2 := [.int r2]) (n := 1) hX hM (c_X1_leastOf l ho h12) mv_X1_leastOf q_16_23 ⟨rfl, rfl⟩ ⟨Nat.le_of_ble_eq_true rfl, Nat.le_of_ble_eq_true rfl⟩ ho (by decide) rfl rfl rfl hl.1 rfl (Nat.le_of_ble_eq_true rfl) dX1_leastTogether_12 rfl (fun H locs hM => ?_)
      refine lv_ldc (v := 1000000000) hx hb hown (hts _ q_12_21) dX1_leastTogether_15 ?_
      refine lv_icmp_eq (tgt := 28) hx hb dX1_leastTogether_17 (by decide) (fun hc17 => ?_) (fun hc17 => ?_)
      · replace hf := it_t hf hc17
        obtain ⟨v3, ev3⟩ : ∃ y : Int32, y = x2 + (1 : Int32) := ⟨_, rfl⟩
        replace hf := lt_e ev3 hf
        refine lv_iinc (v := v3) (lv' := [(2, .int v3), (0, .ref (eA E o)), (1, .int x1)]) hx hb dX1_leastTogether_28 hl (k := 2) rfl (by rw [ev3]; rfl) (by decide) rfl (fun ls hl => ?_)
        refine lv_goto (tgt := 4) hx hb dX1_leastTogether_31 (by decide) ?_
        exact hK4 _ _ _  hf _ _ hM _ (lv_sub hl [1, 2, 0] rfl)
      · replace hf := it_f hf hc17
        refine lv_iload_n hx hb dX1_leastTogether_20 rfl (lv_at hl 1 rfl) ?_
        refine lv_aload_n hx hb dX1_leastTogether_21 rfl (lv_at hl 0 rfl) ?_
        refine lv_iload_n hx hb dX1_leastTogether_22 rfl (lv_at hl 2 rfl) ?_
        replace hf := bnd_some hf
        obtain ⟨r5, μ4, h23, hf⟩ := hf
        refine cl_V (As := [.int x2]) (rest := [.int x1]) (st2 := [.int r5, .int x1]) (n := 1) hX hM (c_X1_leastOf l ho h23) mv_X1_leastOf q_16_23 ⟨rfl, rfl⟩ ⟨Nat.le_of_ble_eq_true rfl, Nat.le_of_ble_eq_true rfl⟩ ho (by decide) rfl rfl rfl hl.1 rfl (Nat.le_of_ble_eq_true rfl) dX1_leastTogether_23 rfl (fun H locs hM => ?_)
        refine lv_iadd hx hb dX1_leastTogether_26 ?_
        refine lv_topi (fun v6 ev6 => ?_)
        replace hf := lt_e ev6 hf
        refine lv_istore_n (lv' := [(1, .int v6), (0, .ref (eA E o)), (2, .int x2)]) hx hb dX1_leastTogether_27 rfl hl (by decide) rfl (fun ls hl => ?_)
        obtain ⟨v7, ev7⟩ : ∃ y : Int32, y = x2 + (1 : Int32) := ⟨_, rfl⟩
        replace hf := lt_e ev7 hf
        refine lv_iinc (v := v7) (lv' := [(2, .int v7), (1, .int v6), (0, .ref (eA E o))]) hx hb dX1_leastTogether_28 hl (k := 2) rfl (by rw [ev7]; rfl) (by decide) rfl (fun ls hl => ?_)
        refine lv_goto (tgt := 4) hx hb dX1_leastTogether_31 (by decide) ?_
        exact hK4 _ _ _  hf _ _ hM _ (lv_sub hl [2, 1, 0] rfl)
def f_X1_leastTogether (o : Nat) (μ : Mem) : Option (Int32 × Mem) :=
  f_X1_leastTogether_b4 o  FU (0 : Int32) (0 : Int32) μ
set_option maxHeartbeats 4000000 in
set_option maxRecDepth 100000 in
theorem w_X1_leastTogether (l : Launch) {o : Nat} (ho : knd o = 0) {μ μ2 : Mem} {r : Int32} {H : Heap} {locs : List Loc} {ls : Array Slot} (hf : f_X1_leastTogether o μ = some (r, μ2)) (hX : XX E p m meth c cX1_leastTogether 3 (some .int) s args RX1) (hM : MM E s μ H locs) (hl : lv_has ls 3 [(0, .ref (eA E o))]) : W p l e (rmF 2 42) s m args below meth c H locs 0 0 (MQ below (QC E (some (.int r)) μ2) args s 0 0 (AA E)) (F0 m 0 ls []) := by
  obtain ⟨⟨hx, hb, hml, hown, hts⟩, hXr⟩ := id hX
  unfold f_X1_leastTogether at hf
  refine lv_iconst (v := 0) hx hb dX1_leastTogether_0 (by decide) ?_
  refine lv_istore_n (lv' := [(1, .int (0 : Int32)), (0, .ref (eA E o))]) hx hb dX1_leastTogether_1 rfl hl (by decide) rfl (fun ls hl => ?_)
  refine lv_iconst (v := 0) hx hb dX1_leastTogether_2 (by decide) ?_
  refine lv_istore_n (lv' := [(2, .int (0 : Int32)), (1, .int (0 : Int32)), (0, .ref (eA E o))]) hx hb dX1_leastTogether_3 rfl hl (by decide) rfl (fun ls hl => ?_)
  exact w_X1_leastTogether_b4 l ho hX  FU _ _ _  hf _ _ hM _ (lv_sub hl [2, 1, 0] rfl)
theorem c_X1_leastTogether (l : Launch) {o : Nat} (ho : knd o = 0) {μ μ2 : Mem} {r : Int32} (hf : f_X1_leastTogether o μ = some (r, μ2)) : CT E l yX1_leastTogether cX1_leastTogether 3 (some .int) (rmF 2 42) [.ref (eA E o)] μ (some (.int r)) μ2 := CT.of (show plainFor yX1_leastTogether = true by decide +kernel) (Nat.le_of_ble_eq_true rfl) rfl (fun _ _ _ _ _ _ _ _ hX hM hl => w_X1_leastTogether l ho hf hX hM hl)
theorem mv_X1_leastTogether : MV yX1_leastTogether cX1_leastTogether 3 (some .int) RX1 0 := ⟨q_42_18, q_42_16, q_42_17, q_1_23, by decide +kernel⟩
end PG
