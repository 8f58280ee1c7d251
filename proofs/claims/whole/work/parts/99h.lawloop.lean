/-! the law's loop -/
theorem and63 (x : Int32) : ∃ j, j < 64 ∧ x &&& 63 = nI j := by
  refine ⟨(x.toBitVec &&& 63#32).toNat, ?_, ?_⟩
  · rw [BitVec.toNat_and]
    exact Nat.lt_of_le_of_lt Nat.and_le_right (by decide)
  · apply Int32.toBitVec_inj.mp
    show x.toBitVec &&& 63#32 = BitVec.ofNat 32 (x.toBitVec &&& 63#32).toNat
    rw [BitVec.ofNat_toNat, BitVec.setWidth_eq]
theorem law_gt {L i : Nat} (hL : L ≤ 3072) (hi : i ≤ 4000) : (nI L - nI 6 < nI i) ↔ L < i + 6 := by
  rw [Int32.lt_iff_toInt_lt, i_toInt (by omega) (by omega), nI_toInt (by omega)]
  omega
set_option maxHeartbeats 4000000 in
theorem law_loop (l : Launch) {p : Program} {e : Env} {s : State} {m : MethodId} {args : Array Value} {below : List Frame} {meth : Method} {c : Code} {Q : State → Prop} {E : EE} {ret : Option FieldType} {b L : Nat} {xs : Nat → Int32}
    (hX : XX E p m meth c cL_law 4 ret s args RL) (hx : va_X b L xs s s.heap) (hbl : b < s.heap.size) (hbA : ¬ AA E b) (hL : L ≤ 3072)
    (fin : ∀ (H : Heap) (locs : List Loc) (ls : Array Slot), va_S (AA E) s.heap H locs → W p l e room_1 s m args below meth c H locs 600000 7302250 Q (F0 m 1440 ls [])) :
    ∀ (N n : Nat), L + 6 ≤ 6 * n + N → n ≤ 600 → ∀ (S : ST) (μ : Mem) (H : Heap) (locs : List Loc) (ls : Array Slot), MM E s μ H locs → XI n S μ → MI S μ → lv_has ls 4 [(3, .int (nI (6 * n))), (2, .ref (eA E 85)), (1, .ref (eA E 0)), (0, .ref b)] → W p l e room_1 s m args below meth c H locs 600000 7302250 Q (F0 m 18 ls []) := by
  intro N
  induction N with
  | zero =>
    intro n hN hn S μ H locs ls hM h1 h2 hl
    refine lv_iload_n hX.1.1 hX.1.2.1 dL_law_18 rfl (lv_at hl 0 rfl) ?_
    refine lv_aload_n hX.1.1 hX.1.2.1 dL_law_19 rfl (lv_at hl 3 rfl) ?_
    refine va_slen hX.1.1 hX.1.2.1 hx hbl hbA hM.2 dL_law_20 ?_
    refine lv_bipush (v := nI 6) hX.1.1 hX.1.2.1 dL_law_21 (by decide) ?_
    refine lv_isub hX.1.1 hX.1.2.1 dL_law_23 ?_
    exact lv_icmp_gt (tgt := 1440) hX.1.1 hX.1.2.1 dL_law_24 (by decide) (fun _ => fin H locs ls hM.2) (fun z => absurd ((law_gt hL (by omega)).mpr (by omega)) z)
  | succ N ih =>
    intro n hN hn S μ H locs ls hM h1 h2 hl
    refine lv_iload_n hX.1.1 hX.1.2.1 dL_law_18 rfl (lv_at hl 0 rfl) ?_
    refine lv_aload_n hX.1.1 hX.1.2.1 dL_law_19 rfl (lv_at hl 3 rfl) ?_
    refine va_slen hX.1.1 hX.1.2.1 hx hbl hbA hM.2 dL_law_20 ?_
    refine lv_bipush (v := nI 6) hX.1.1 hX.1.2.1 dL_law_21 (by decide) ?_
    refine lv_isub hX.1.1 hX.1.2.1 dL_law_23 ?_
    refine lv_icmp_gt (tgt := 1440) hX.1.1 hX.1.2.1 dL_law_24 (by decide) (fun _ => fin H locs ls hM.2) (fun z => ?_)
    have hi : 6 * n + 5 < L := by
      rcases Nat.lt_or_ge L (6 * n + 6) with q | q
      · exact absurd ((law_gt hL (by omega)).mpr q) z
      · omega
    have step : ∀ (μ2 : Mem) (S2 : ST) (H1 : Heap) (locs1 : List Loc), MM E s μ2 H1 locs1 → XI (n + 1) S2 μ2 → MI S2 μ2 → W p l e room_1 s m args below meth c H1 locs1 600000 7302250 Q (F0 m 1434 ls []) := fun μ2 S2 H1 locs1 k1 k2 k3 => by
      refine lv_iinc (v := nI (6 * (n + 1))) (lv' := [(3, .int (nI (6 * (n + 1)))), (2, .ref (eA E 85)), (1, .ref (eA E 0)), (0, .ref b)]) hX.1.1 hX.1.2.1 dL_law_1434 hl (k := 0) rfl (show nI (6 * n) + nI 6 = _ by rw [nI_add, Nat.mul_succ]) (by decide) rfl (fun ls hl => ?_)
      refine lv_goto (tgt := 18) hX.1.1 hX.1.2.1 dL_law_1437 (by decide) ?_
      exact ih (n + 1) (by omega) (by omega) S2 μ2 H1 locs1 ls k1 k2 k3 hl
    refine lv_aload_n hX.1.1 hX.1.2.1 dL_law_27 rfl (lv_at hl 3 rfl) ?_
    refine lv_iload_n hX.1.1 hX.1.2.1 dL_law_28 rfl (lv_at hl 0 rfl) ?_
    refine va_sld hX.1.1 hX.1.2.1 hx hbl hbA hM.2 (vp_in_nI (by omega : 6 * n < L) (by omega)) dL_law_29 ?_
    rw [nI_clamp (by omega)]
    refine lv_bipush (v := 63) hX.1.1 hX.1.2.1 dL_law_30 (by decide) ?_
    refine lv_iand hX.1.1 hX.1.2.1 dL_law_32 ?_
    obtain ⟨j, hj, ej⟩ := and63 (xs (6 * n))
    rw [ej]
    by_cases hj2 : j < 35
    · match j, hj2 with
      | 0, _ =>
        refine lv_tableIn (off := 155) (tgt := 188) hX.1.1 hX.1.2.1 dL_law_33 (by decide) (by decide) (by rfl) (by decide) ?_
        exact lc_wind l hX hM hx hbl hbA hL hi (by omega) h1 h2 hl step
      | 1, _ =>
        refine lv_tableIn (off := 208) (tgt := 241) hX.1.1 hX.1.2.1 dL_law_33 (by decide) (by decide) (by rfl) (by decide) ?_
        exact lc_current l hX hM hx hbl hbA hL hi (by omega) h1 h2 hl step
      | 2, _ =>
        refine lv_tableIn (off := 251) (tgt := 284) hX.1.1 hX.1.2.1 dL_law_33 (by decide) (by decide) (by rfl) (by decide) ?_
        exact lc_table l hX hM hx hbl hbA hL hi (by omega) h1 h2 hl step
      | 3, _ =>
        refine lv_tableIn (off := 294) (tgt := 327) hX.1.1 hX.1.2.1 dL_law_33 (by decide) (by decide) (by rfl) (by decide) ?_
        exact lc_land l hX hM hx hbl hbA hL hi (by omega) h1 h2 hl step
      | 4, _ =>
        refine lv_tableIn (off := 343) (tgt := 376) hX.1.1 hX.1.2.1 dL_law_33 (by decide) (by decide) (by rfl) (by decide) ?_
        exact lc_start l hX hM hx hbl hbA hL hi (by omega) h1 h2 hl step
      | 5, _ =>
        refine lv_tableIn (off := 386) (tgt := 419) hX.1.1 hX.1.2.1 dL_law_33 (by decide) (by decide) (by rfl) (by decide) ?_
        exact lc_loss l hX hM hx hbl hbA hL hi (by omega) h1 h2 hl step
      | 6, _ =>
        refine lv_tableIn (off := 419) (tgt := 452) hX.1.1 hX.1.2.1 dL_law_33 (by decide) (by decide) (by rfl) (by decide) ?_
        exact lc_steer l hX hM hx hbl hbA hL hi (by omega) h1 h2 hl step
      | 7, _ =>
        refine lv_tableIn (off := 442) (tgt := 475) hX.1.1 hX.1.2.1 dL_law_33 (by decide) (by decide) (by rfl) (by decide) ?_
        exact lc_feed l hX hM hx hbl hbA hL hi (by omega) h1 h2 hl step
      | 8, _ =>
        refine lv_tableIn (off := 465) (tgt := 498) hX.1.1 hX.1.2.1 dL_law_33 (by decide) (by decide) (by rfl) (by decide) ?_
        exact lc_read l hX hM hx hbl hbA hL hi (by omega) h1 h2 hl step
      | 9, _ =>
        refine lv_tableIn (off := 478) (tgt := 511) hX.1.1 hX.1.2.1 dL_law_33 (by decide) (by decide) (by rfl) (by decide) ?_
        exact lc_of l hX hM hx hbl hbA hL hi (by omega) h1 h2 hl step
      | 10, _ =>
        refine lv_tableIn (off := 521) (tgt := 554) hX.1.1 hX.1.2.1 dL_law_33 (by decide) (by decide) (by rfl) (by decide) ?_
        exact lc_speed l hX hM hx hbl hbA hL hi (by omega) h1 h2 hl step
      | 11, _ =>
        refine lv_tableIn (off := 554) (tgt := 587) hX.1.1 hX.1.2.1 dL_law_33 (by decide) (by decide) (by rfl) (by decide) ?_
        exact lc_told l hX hM hx hbl hbA hL hi (by omega) h1 h2 hl step
      | 12, _ =>
        refine lv_tableIn (off := 577) (tgt := 610) hX.1.1 hX.1.2.1 dL_law_33 (by decide) (by decide) (by rfl) (by decide) ?_
        exact lc_pace l hX hM hx hbl hbA hL hi (by omega) h1 h2 hl step
      | 13, _ =>
        refine lv_tableIn (off := 620) (tgt := 653) hX.1.1 hX.1.2.1 dL_law_33 (by decide) (by decide) (by rfl) (by decide) ?_
        exact lc_leg l hX hM hx hbl hbA hL hi (by omega) h1 h2 hl step
      | 14, _ =>
        refine lv_tableIn (off := 683) (tgt := 716) hX.1.1 hX.1.2.1 dL_law_33 (by decide) (by decide) (by rfl) (by decide) ?_
        exact lc_least l hX hM hx hbl hbA hL hi (by omega) h1 h2 hl step
      | 15, _ =>
        refine lv_tableIn (off := 716) (tgt := 749) hX.1.1 hX.1.2.1 dL_law_33 (by decide) (by decide) (by rfl) (by decide) ?_
        exact lc_last l hX hM hx hbl hbA hL hi (by omega) h1 h2 hl step
      | 16, _ =>
        refine lv_tableIn (off := 749) (tgt := 782) hX.1.1 hX.1.2.1 dL_law_33 (by decide) (by decide) (by rfl) (by decide) ?_
        exact lc_course l hX hM hx hbl hbA hL hi (by omega) h1 h2 hl step
      | 17, _ =>
        refine lv_tableIn (off := 782) (tgt := 815) hX.1.1 hX.1.2.1 dL_law_33 (by decide) (by decide) (by rfl) (by decide) ?_
        exact lc_reckon l hX hM hx hbl hbA hL hi (by omega) h1 h2 hl step
      | 18, _ =>
        refine lv_tableIn (off := 816) (tgt := 849) hX.1.1 hX.1.2.1 dL_law_33 (by decide) (by decide) (by rfl) (by decide) ?_
        exact lc_meanPace l hX hM hx hbl hbA hL hi (by omega) h1 h2 hl step
      | 19, _ =>
        refine lv_tableIn (off := 840) (tgt := 873) hX.1.1 hX.1.2.1 dL_law_33 (by decide) (by decide) (by rfl) (by decide) ?_
        exact lc_see l hX hM hx hbl hbA hL hi (by omega) h1 h2 hl step
      | 20, _ =>
        refine lv_tableIn (off := 873) (tgt := 906) hX.1.1 hX.1.2.1 dL_law_33 (by decide) (by decide) (by rfl) (by decide) ?_
        exact lc_fits l hX hM hx hbl hbA hL hi (by omega) h1 h2 hl step
      | 21, _ =>
        refine lv_tableIn (off := 916) (tgt := 949) hX.1.1 hX.1.2.1 dL_law_33 (by decide) (by decide) (by rfl) (by decide) ?_
        exact lc_odds l hX hM hx hbl hbA hL hi (by omega) h1 h2 hl step
      | 22, _ =>
        refine lv_tableIn (off := 980) (tgt := 1013) hX.1.1 hX.1.2.1 dL_law_33 (by decide) (by decide) (by rfl) (by decide) ?_
        exact lc_mean l hX hM hx hbl hbA hL hi (by omega) h1 h2 hl step
      | 23, _ =>
        refine lv_tableIn (off := 1004) (tgt := 1037) hX.1.1 hX.1.2.1 dL_law_33 (by decide) (by decide) (by rfl) (by decide) ?_
        exact lc_event l hX hM hx hbl hbA hL hi (by omega) h1 h2 hl step
      | 24, _ =>
        refine lv_tableIn (off := 1037) (tgt := 1070) hX.1.1 hX.1.2.1 dL_law_33 (by decide) (by decide) (by rfl) (by decide) ?_
        exact lc_after l hX hM hx hbl hbA hL hi (by omega) h1 h2 hl step
      | 25, _ =>
        refine lv_tableIn (off := 1060) (tgt := 1093) hX.1.1 hX.1.2.1 dL_law_33 (by decide) (by decide) (by rfl) (by decide) ?_
        exact lc_book l hX hM hx hbl hbA hL hi (by omega) h1 h2 hl step
      | 26, _ =>
        refine lv_tableIn (off := 1093) (tgt := 1126) hX.1.1 hX.1.2.1 dL_law_33 (by decide) (by decide) (by rfl) (by decide) ?_
        exact lc_looked l hX hM hx hbl hbA hL hi (by omega) h1 h2 hl step
      | 27, _ =>
        refine lv_tableIn (off := 1106) (tgt := 1139) hX.1.1 hX.1.2.1 dL_law_33 (by decide) (by decide) (by rfl) (by decide) ?_
        exact lc_judge l hX hM hx hbl hbA hL hi (by omega) h1 h2 hl step
      | 28, _ =>
        refine lv_tableIn (off := 1139) (tgt := 1172) hX.1.1 hX.1.2.1 dL_law_33 (by decide) (by decide) (by rfl) (by decide) ?_
        exact lc_image l hX hM hx hbl hbA hL hi (by omega) h1 h2 hl step
      | 29, _ =>
        refine lv_tableIn (off := 1152) (tgt := 1185) hX.1.1 hX.1.2.1 dL_law_33 (by decide) (by decide) (by rfl) (by decide) ?_
        exact lc_undo l hX hM hx hbl hbA hL hi (by omega) h1 h2 hl step
      | 30, _ =>
        refine lv_tableIn (off := 1165) (tgt := 1198) hX.1.1 hX.1.2.1 dL_law_33 (by decide) (by decide) (by rfl) (by decide) ?_
        exact lc_count l hX hM hx hbl hbA hL hi (by omega) h1 h2 hl step
      | 31, _ =>
        refine lv_tableIn (off := 1188) (tgt := 1221) hX.1.1 hX.1.2.1 dL_law_33 (by decide) (by decide) (by rfl) (by decide) ?_
        exact lc_tape l hX hM hx hbl hbA hL hi (by omega) h1 h2 hl step
      | 32, _ =>
        refine lv_tableIn (off := 1231) (tgt := 1264) hX.1.1 hX.1.2.1 dL_law_33 (by decide) (by decide) (by rfl) (by decide) ?_
        exact lc_item l hX hM hx hbl hbA hL hi (by omega) h1 h2 hl step
      | 33, _ =>
        refine lv_tableIn (off := 1304) (tgt := 1337) hX.1.1 hX.1.2.1 dL_law_33 (by decide) (by decide) (by rfl) (by decide) ?_
        exact lc_peek l hX hM hx hbl hbA hL hi (by omega) h1 h2 hl step
      | 34, _ =>
        refine lv_tableIn (off := 1338) (tgt := 1371) hX.1.1 hX.1.2.1 dL_law_33 (by decide) (by decide) (by rfl) (by decide) ?_
        exact lc_shift l hX hM hx hbl hbA hL hi (by omega) h1 h2 hl step
      | j + 35, q => exact absurd q (by omega)
    · refine lv_tableOut (tgt := 1434) hX.1.1 hX.1.2.1 dL_law_33 (Or.inr (by rw [nI_toInt (by omega)]; omega)) (by decide) ?_
      exact step μ S H locs hM (h1.up (by omega)) h2
