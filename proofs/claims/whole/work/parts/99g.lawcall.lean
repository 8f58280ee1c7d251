/-! the calls of the law, one by one (written by wip/whole/gen/law.py) -/
section LC
variable {p : Program} {e : Env} {s : State} {m : MethodId} {args : Array Value} {below : List Frame} {meth : Method} {c : Code} {H : Heap} {locs : List Loc} {Q : State → Prop}
variable {ls : Array Slot} {E : EE} {μ : Mem} {ret : Option FieldType} {b L i n : Nat} {xs : Nat → Int32} {S : ST}
theorem kn_0 : knd 0 = 8 := by decide
theorem kn_85 : knd 85 = 9 := by decide
def LCall (l : Launch) (pc : Nat) : Prop := ∀ {p : Program} {e : Env} {s : State} {m : MethodId} {args : Array Value} {below : List Frame} {meth : Method} {c : Code} {H : Heap} {locs : List Loc} {Q : State → Prop} {ls : Array Slot} {E : EE} {μ : Mem} {ret : Option FieldType} {b L i n : Nat} {xs : Nat → Int32} {S : ST}, XX E p m meth c cL_law 4 ret s args RL → MM E s μ H locs → va_X b L xs s s.heap → b < s.heap.size → ¬ AA E b → L ≤ 3072 → i + 5 < L → n ≤ 100000 → XI n S μ → MI S μ → lv_has ls 4 [(3, .int (nI i)), (2, .ref (eA E 85)), (1, .ref (eA E 0)), (0, .ref b)] → (∀ (μ2 : Mem) (S2 : ST) (H1 : Heap) (locs1 : List Loc), MM E s μ2 H1 locs1 → XI (n + 1) S2 μ2 → MI S2 μ2 → W p l e room_1 s m args below meth c H1 locs1 600000 7302250 Q (F0 m 1434 ls [])) → W p l e room_1 s m args below meth c H locs 600000 7302250 Q (F0 m pc ls [])
theorem lc_wind (l : Launch) : LCall l 188 := by
  intro p e s m args below meth c H locs Q ls E μ ret b L i n xs S hX hM hx hbl hbA hL hi hn h1 h2 hl kk
  have h0 := lv_at hl 3 rfl
  have h3 := lv_at hl 0 rfl
  obtain ⟨r, μ1, μ2, S2, e1, e2, g1, g2⟩ := call_wind (xs (i + 1)) (xs (i + 2)) (xs (i + 3)) (xs (i + 4)) n S μ hn h1 h2
  refine lv_aload_n hX.1.1 hX.1.2.1 dL_law_188 rfl (lv_at hl 2 rfl) ?_
  refine lw_ld (k := 1) hX hM hx hbl hbA hL (by omega) h0 h3 (by decide) dL_law_189 dL_law_190 dL_law_191 dL_law_192 dL_law_193 ?_
  refine lw_ld (k := 2) hX hM hx hbl hbA hL (by omega) h0 h3 (by decide) dL_law_194 dL_law_195 dL_law_196 dL_law_197 dL_law_198 ?_
  refine lw_ld (k := 3) hX hM hx hbl hbA hL (by omega) h0 h3 (by decide) dL_law_199 dL_law_200 dL_law_201 dL_law_202 dL_law_203 ?_
  refine lw_ld (k := 4) hX hM hx hbl hbA hL (by omega) h0 h3 (by decide) dL_law_204 dL_law_205 dL_law_206 dL_law_207 dL_law_208 ?_
  refine cg_V (As := [.int (xs (i + 1)), .int (xs (i + 2)), .int (xs (i + 3)), .int (xs (i + 4))]) (rest := []) (st2 := [.int r]) (n := 4) hX hM (c_X10_wind l (o := 0) kn_0 e1) mv_X10_wind q_7_21 ⟨rfl, rfl⟩ ⟨Nat.le_of_ble_eq_true rfl, Nat.le_of_ble_eq_true rfl⟩ kn_0 (by decide) rfl rfl rfl hl.1 rfl (Nat.le_of_ble_eq_true rfl) dL_law_209 rfl ⟨Nat.le_of_ble_eq_true rfl, Nat.le_of_ble_eq_true rfl⟩ (fun H locs hM => ?_)
  refine lv_aload_n hX.1.1 hX.1.2.1 dL_law_212 rfl (lv_at hl 1 rfl) ?_
  refine lw_ld (k := 1) hX hM hx hbl hbA hL (by omega) h0 h3 (by decide) dL_law_213 dL_law_214 dL_law_215 dL_law_216 dL_law_217 ?_
  refine lw_ld (k := 2) hX hM hx hbl hbA hL (by omega) h0 h3 (by decide) dL_law_218 dL_law_219 dL_law_220 dL_law_221 dL_law_222 ?_
  refine lw_ld (k := 3) hX hM hx hbl hbA hL (by omega) h0 h3 (by decide) dL_law_223 dL_law_224 dL_law_225 dL_law_226 dL_law_227 ?_
  refine lw_ld (k := 4) hX hM hx hbl hbA hL (by omega) h0 h3 (by decide) dL_law_228 dL_law_229 dL_law_230 dL_law_231 dL_law_232 ?_
  refine cg_V (As := [.int (xs (i + 1)), .int (xs (i + 2)), .int (xs (i + 3)), .int (xs (i + 4))]) (rest := [.int r]) (st2 := [.int r, .int r]) (n := 4) hX hM (c_X11_wind l (o := 85) kn_85 e2) mv_X11_wind q_8_16 ⟨rfl, rfl⟩ ⟨Nat.le_of_ble_eq_true rfl, Nat.le_of_ble_eq_true rfl⟩ kn_85 (by decide) rfl rfl rfl hl.1 rfl (Nat.le_of_ble_eq_true rfl) dL_law_233 rfl ⟨Nat.le_of_ble_eq_true rfl, Nat.le_of_ble_eq_true rfl⟩ (fun H locs hM => ?_)
  exact lv_icmp_eq (tgt := 1434) hX.1.1 hX.1.2.1 dL_law_236 (by decide) (fun _ => kk μ2 S2 H locs hM g1 g2) (fun z => absurd rfl z)
theorem lc_current (l : Launch) : LCall l 241 := by
  intro p e s m args below meth c H locs Q ls E μ ret b L i n xs S hX hM hx hbl hbA hL hi hn h1 h2 hl kk
  have h0 := lv_at hl 3 rfl
  have h3 := lv_at hl 0 rfl
  obtain ⟨r, μ1, μ2, S2, e1, e2, g1, g2⟩ := call_current (xs (i + 1)) (xs (i + 2)) (xs (i + 3)) n S μ hn h1 h2
  refine lv_aload_n hX.1.1 hX.1.2.1 dL_law_241 rfl (lv_at hl 2 rfl) ?_
  refine lw_ld (k := 1) hX hM hx hbl hbA hL (by omega) h0 h3 (by decide) dL_law_242 dL_law_243 dL_law_244 dL_law_245 dL_law_246 ?_
  refine lw_ld (k := 2) hX hM hx hbl hbA hL (by omega) h0 h3 (by decide) dL_law_247 dL_law_248 dL_law_249 dL_law_250 dL_law_251 ?_
  refine lw_ld (k := 3) hX hM hx hbl hbA hL (by omega) h0 h3 (by decide) dL_law_252 dL_law_253 dL_law_254 dL_law_255 dL_law_256 ?_
  refine cg_V (As := [.int (xs (i + 1)), .int (xs (i + 2)), .int (xs (i + 3))]) (rest := []) (st2 := [.int r]) (n := 3) hX hM (c_X10_current l (o := 0) kn_0 e1) mv_X10_current q_9_11 ⟨rfl, rfl⟩ ⟨Nat.le_of_ble_eq_true rfl, Nat.le_of_ble_eq_true rfl⟩ kn_0 (by decide) rfl rfl rfl hl.1 rfl (Nat.le_of_ble_eq_true rfl) dL_law_257 rfl ⟨Nat.le_of_ble_eq_true rfl, Nat.le_of_ble_eq_true rfl⟩ (fun H locs hM => ?_)
  refine lv_aload_n hX.1.1 hX.1.2.1 dL_law_260 rfl (lv_at hl 1 rfl) ?_
  refine lw_ld (k := 1) hX hM hx hbl hbA hL (by omega) h0 h3 (by decide) dL_law_261 dL_law_262 dL_law_263 dL_law_264 dL_law_265 ?_
  refine lw_ld (k := 2) hX hM hx hbl hbA hL (by omega) h0 h3 (by decide) dL_law_266 dL_law_267 dL_law_268 dL_law_269 dL_law_270 ?_
  refine lw_ld (k := 3) hX hM hx hbl hbA hL (by omega) h0 h3 (by decide) dL_law_271 dL_law_272 dL_law_273 dL_law_274 dL_law_275 ?_
  refine cg_V (As := [.int (xs (i + 1)), .int (xs (i + 2)), .int (xs (i + 3))]) (rest := [.int r]) (st2 := [.int r, .int r]) (n := 3) hX hM (c_X11_current l (o := 85) kn_85 e2) mv_X11_current q_10_3 ⟨rfl, rfl⟩ ⟨Nat.le_of_ble_eq_true rfl, Nat.le_of_ble_eq_true rfl⟩ kn_85 (by decide) rfl rfl rfl hl.1 rfl (Nat.le_of_ble_eq_true rfl) dL_law_276 rfl ⟨Nat.le_of_ble_eq_true rfl, Nat.le_of_ble_eq_true rfl⟩ (fun H locs hM => ?_)
  exact lv_icmp_eq (tgt := 1434) hX.1.1 hX.1.2.1 dL_law_279 (by decide) (fun _ => kk μ2 S2 H locs hM g1 g2) (fun z => absurd rfl z)
theorem lc_table (l : Launch) : LCall l 284 := by
  intro p e s m args below meth c H locs Q ls E μ ret b L i n xs S hX hM hx hbl hbA hL hi hn h1 h2 hl kk
  have h0 := lv_at hl 3 rfl
  have h3 := lv_at hl 0 rfl
  obtain ⟨r, μ1, μ2, S2, e1, e2, g1, g2⟩ := call_table (xs (i + 1)) (xs (i + 2)) (xs (i + 3)) n S μ hn h1 h2
  refine lv_aload_n hX.1.1 hX.1.2.1 dL_law_284 rfl (lv_at hl 2 rfl) ?_
  refine lw_ld (k := 1) hX hM hx hbl hbA hL (by omega) h0 h3 (by decide) dL_law_285 dL_law_286 dL_law_287 dL_law_288 dL_law_289 ?_
  refine lw_ld (k := 2) hX hM hx hbl hbA hL (by omega) h0 h3 (by decide) dL_law_290 dL_law_291 dL_law_292 dL_law_293 dL_law_294 ?_
  refine lw_ld (k := 3) hX hM hx hbl hbA hL (by omega) h0 h3 (by decide) dL_law_295 dL_law_296 dL_law_297 dL_law_298 dL_law_299 ?_
  refine cg_V (As := [.int (xs (i + 1)), .int (xs (i + 2)), .int (xs (i + 3))]) (rest := []) (st2 := [.int r]) (n := 3) hX hM (c_X10_table l (o := 0) kn_0 e1) mv_X10_table q_10_7 ⟨rfl, rfl⟩ ⟨Nat.le_of_ble_eq_true rfl, Nat.le_of_ble_eq_true rfl⟩ kn_0 (by decide) rfl rfl rfl hl.1 rfl (Nat.le_of_ble_eq_true rfl) dL_law_300 rfl ⟨Nat.le_of_ble_eq_true rfl, Nat.le_of_ble_eq_true rfl⟩ (fun H locs hM => ?_)
  refine lv_aload_n hX.1.1 hX.1.2.1 dL_law_303 rfl (lv_at hl 1 rfl) ?_
  refine lw_ld (k := 1) hX hM hx hbl hbA hL (by omega) h0 h3 (by decide) dL_law_304 dL_law_305 dL_law_306 dL_law_307 dL_law_308 ?_
  refine lw_ld (k := 2) hX hM hx hbl hbA hL (by omega) h0 h3 (by decide) dL_law_309 dL_law_310 dL_law_311 dL_law_312 dL_law_313 ?_
  refine lw_ld (k := 3) hX hM hx hbl hbA hL (by omega) h0 h3 (by decide) dL_law_314 dL_law_315 dL_law_316 dL_law_317 dL_law_318 ?_
  refine cg_V (As := [.int (xs (i + 1)), .int (xs (i + 2)), .int (xs (i + 3))]) (rest := [.int r]) (st2 := [.int r, .int r]) (n := 3) hX hM (c_X11_table l (o := 85) kn_85 e2) mv_X11_table q_10_19 ⟨rfl, rfl⟩ ⟨Nat.le_of_ble_eq_true rfl, Nat.le_of_ble_eq_true rfl⟩ kn_85 (by decide) rfl rfl rfl hl.1 rfl (Nat.le_of_ble_eq_true rfl) dL_law_319 rfl ⟨Nat.le_of_ble_eq_true rfl, Nat.le_of_ble_eq_true rfl⟩ (fun H locs hM => ?_)
  exact lv_icmp_eq (tgt := 1434) hX.1.1 hX.1.2.1 dL_law_322 (by decide) (fun _ => kk μ2 S2 H locs hM g1 g2) (fun z => absurd rfl z)
theorem lc_land (l : Launch) : LCall l 327 := by
  intro p e s m args below meth c H locs Q ls E μ ret b L i n xs S hX hM hx hbl hbA hL hi hn h1 h2 hl kk
  have h0 := lv_at hl 3 rfl
  have h3 := lv_at hl 0 rfl
  by_cases hz : xs (i + 2) = 0
  · obtain ⟨r, μ1, μ2, S2, e1, e2, g1, g2⟩ := call_land (xs (i + 1)) ((0 : Int32)) n S μ hn h1 h2
    refine lv_aload_n hX.1.1 hX.1.2.1 dL_law_327 rfl (lv_at hl 2 rfl) ?_
    refine lw_ld (k := 1) hX hM hx hbl hbA hL (by omega) h0 h3 (by decide) dL_law_328 dL_law_329 dL_law_330 dL_law_331 dL_law_332 ?_
    refine lw_ld (k := 2) hX hM hx hbl hbA hL (by omega) h0 h3 (by decide) dL_law_333 dL_law_334 dL_law_335 dL_law_336 dL_law_337 ?_
    refine lv_if_eq (tgt := 345) hX.1.1 hX.1.2.1 dL_law_338 (by decide) (fun _ => ?_) (fun z => absurd hz z)
    refine lv_iconst (v := 0) hX.1.1 hX.1.2.1 dL_law_345 (by decide) ?_
    refine cg_V (As := [.int (xs (i + 1)), .int ((0 : Int32))]) (rest := []) (st2 := [.int r]) (n := 2) hX hM (c_X10_land l (o := 0) kn_0 e1) mv_X10_land q_11_2 ⟨rfl, rfl⟩ ⟨Nat.le_of_ble_eq_true rfl, Nat.le_of_ble_eq_true rfl⟩ kn_0 (by decide) rfl rfl rfl hl.1 rfl (Nat.le_of_ble_eq_true rfl) dL_law_346 rfl ⟨Nat.le_of_ble_eq_true rfl, Nat.le_of_ble_eq_true rfl⟩ (fun H locs hM => ?_)
    refine lv_aload_n hX.1.1 hX.1.2.1 dL_law_349 rfl (lv_at hl 1 rfl) ?_
    refine lw_ld (k := 1) hX hM hx hbl hbA hL (by omega) h0 h3 (by decide) dL_law_350 dL_law_351 dL_law_352 dL_law_353 dL_law_354 ?_
    refine lw_ld (k := 2) hX hM hx hbl hbA hL (by omega) h0 h3 (by decide) dL_law_355 dL_law_356 dL_law_357 dL_law_358 dL_law_359 ?_
    refine lv_if_eq (tgt := 367) hX.1.1 hX.1.2.1 dL_law_360 (by decide) (fun _ => ?_) (fun z => absurd hz z)
    refine lv_iconst (v := 0) hX.1.1 hX.1.2.1 dL_law_367 (by decide) ?_
    refine cg_V (As := [.int (xs (i + 1)), .int ((0 : Int32))]) (rest := [.int r]) (st2 := [.int r, .int r]) (n := 2) hX hM (c_X11_land l (o := 85) kn_85 e2) mv_X11_land q_11_16 ⟨rfl, rfl⟩ ⟨Nat.le_of_ble_eq_true rfl, Nat.le_of_ble_eq_true rfl⟩ kn_85 (by decide) rfl rfl rfl hl.1 rfl (Nat.le_of_ble_eq_true rfl) dL_law_368 rfl ⟨Nat.le_of_ble_eq_true rfl, Nat.le_of_ble_eq_true rfl⟩ (fun H locs hM => ?_)
    exact lv_icmp_eq (tgt := 1434) hX.1.1 hX.1.2.1 dL_law_371 (by decide) (fun _ => kk μ2 S2 H locs hM g1 g2) (fun z => absurd rfl z)
  · obtain ⟨r, μ1, μ2, S2, e1, e2, g1, g2⟩ := call_land (xs (i + 1)) ((1 : Int32)) n S μ hn h1 h2
    refine lv_aload_n hX.1.1 hX.1.2.1 dL_law_327 rfl (lv_at hl 2 rfl) ?_
    refine lw_ld (k := 1) hX hM hx hbl hbA hL (by omega) h0 h3 (by decide) dL_law_328 dL_law_329 dL_law_330 dL_law_331 dL_law_332 ?_
    refine lw_ld (k := 2) hX hM hx hbl hbA hL (by omega) h0 h3 (by decide) dL_law_333 dL_law_334 dL_law_335 dL_law_336 dL_law_337 ?_
    refine lv_if_eq (tgt := 345) hX.1.1 hX.1.2.1 dL_law_338 (by decide) (fun z => absurd z hz) (fun _ => ?_)
    refine lv_iconst (v := 1) hX.1.1 hX.1.2.1 dL_law_341 (by decide) ?_
    refine lv_goto (tgt := 346) hX.1.1 hX.1.2.1 dL_law_342 (by decide) ?_
    refine cg_V (As := [.int (xs (i + 1)), .int ((1 : Int32))]) (rest := []) (st2 := [.int r]) (n := 2) hX hM (c_X10_land l (o := 0) kn_0 e1) mv_X10_land q_11_2 ⟨rfl, rfl⟩ ⟨Nat.le_of_ble_eq_true rfl, Nat.le_of_ble_eq_true rfl⟩ kn_0 (by decide) rfl rfl rfl hl.1 rfl (Nat.le_of_ble_eq_true rfl) dL_law_346 rfl ⟨Nat.le_of_ble_eq_true rfl, Nat.le_of_ble_eq_true rfl⟩ (fun H locs hM => ?_)
    refine lv_aload_n hX.1.1 hX.1.2.1 dL_law_349 rfl (lv_at hl 1 rfl) ?_
    refine lw_ld (k := 1) hX hM hx hbl hbA hL (by omega) h0 h3 (by decide) dL_law_350 dL_law_351 dL_law_352 dL_law_353 dL_law_354 ?_
    refine lw_ld (k := 2) hX hM hx hbl hbA hL (by omega) h0 h3 (by decide) dL_law_355 dL_law_356 dL_law_357 dL_law_358 dL_law_359 ?_
    refine lv_if_eq (tgt := 367) hX.1.1 hX.1.2.1 dL_law_360 (by decide) (fun z => absurd z hz) (fun _ => ?_)
    refine lv_iconst (v := 1) hX.1.1 hX.1.2.1 dL_law_363 (by decide) ?_
    refine lv_goto (tgt := 368) hX.1.1 hX.1.2.1 dL_law_364 (by decide) ?_
    refine cg_V (As := [.int (xs (i + 1)), .int ((1 : Int32))]) (rest := [.int r]) (st2 := [.int r, .int r]) (n := 2) hX hM (c_X11_land l (o := 85) kn_85 e2) mv_X11_land q_11_16 ⟨rfl, rfl⟩ ⟨Nat.le_of_ble_eq_true rfl, Nat.le_of_ble_eq_true rfl⟩ kn_85 (by decide) rfl rfl rfl hl.1 rfl (Nat.le_of_ble_eq_true rfl) dL_law_368 rfl ⟨Nat.le_of_ble_eq_true rfl, Nat.le_of_ble_eq_true rfl⟩ (fun H locs hM => ?_)
    exact lv_icmp_eq (tgt := 1434) hX.1.1 hX.1.2.1 dL_law_371 (by decide) (fun _ => kk μ2 S2 H locs hM g1 g2) (fun z => absurd rfl z)
theorem lc_start (l : Launch) : LCall l 376 := by
  intro p e s m args below meth c H locs Q ls E μ ret b L i n xs S hX hM hx hbl hbA hL hi hn h1 h2 hl kk
  have h0 := lv_at hl 3 rfl
  have h3 := lv_at hl 0 rfl
  obtain ⟨r, μ1, μ2, S2, e1, e2, g1, g2⟩ := call_start (xs (i + 1)) (xs (i + 2)) (xs (i + 3)) n S μ hn h1 h2
  refine lv_aload_n hX.1.1 hX.1.2.1 dL_law_376 rfl (lv_at hl 2 rfl) ?_
  refine lw_ld (k := 1) hX hM hx hbl hbA hL (by omega) h0 h3 (by decide) dL_law_377 dL_law_378 dL_law_379 dL_law_380 dL_law_381 ?_
  refine lw_ld (k := 2) hX hM hx hbl hbA hL (by omega) h0 h3 (by decide) dL_law_382 dL_law_383 dL_law_384 dL_law_385 dL_law_386 ?_
  refine lw_ld (k := 3) hX hM hx hbl hbA hL (by omega) h0 h3 (by decide) dL_law_387 dL_law_388 dL_law_389 dL_law_390 dL_law_391 ?_
  refine cg_V (As := [.int (xs (i + 1)), .int (xs (i + 2)), .int (xs (i + 3))]) (rest := []) (st2 := [.int r]) (n := 3) hX hM (c_X10_start l (o := 0) kn_0 e1) mv_X10_start q_12_0 ⟨rfl, rfl⟩ ⟨Nat.le_of_ble_eq_true rfl, Nat.le_of_ble_eq_true rfl⟩ kn_0 (by decide) rfl rfl rfl hl.1 rfl (Nat.le_of_ble_eq_true rfl) dL_law_392 rfl ⟨Nat.le_of_ble_eq_true rfl, Nat.le_of_ble_eq_true rfl⟩ (fun H locs hM => ?_)
  refine lv_aload_n hX.1.1 hX.1.2.1 dL_law_395 rfl (lv_at hl 1 rfl) ?_
  refine lw_ld (k := 1) hX hM hx hbl hbA hL (by omega) h0 h3 (by decide) dL_law_396 dL_law_397 dL_law_398 dL_law_399 dL_law_400 ?_
  refine lw_ld (k := 2) hX hM hx hbl hbA hL (by omega) h0 h3 (by decide) dL_law_401 dL_law_402 dL_law_403 dL_law_404 dL_law_405 ?_
  refine lw_ld (k := 3) hX hM hx hbl hbA hL (by omega) h0 h3 (by decide) dL_law_406 dL_law_407 dL_law_408 dL_law_409 dL_law_410 ?_
  refine cg_V (As := [.int (xs (i + 1)), .int (xs (i + 2)), .int (xs (i + 3))]) (rest := [.int r]) (st2 := [.int r, .int r]) (n := 3) hX hM (c_X11_start l (o := 85) kn_85 e2) mv_X11_start q_17_6 ⟨rfl, rfl⟩ ⟨Nat.le_of_ble_eq_true rfl, Nat.le_of_ble_eq_true rfl⟩ kn_85 (by decide) rfl rfl rfl hl.1 rfl (Nat.le_of_ble_eq_true rfl) dL_law_411 rfl ⟨Nat.le_of_ble_eq_true rfl, Nat.le_of_ble_eq_true rfl⟩ (fun H locs hM => ?_)
  exact lv_icmp_eq (tgt := 1434) hX.1.1 hX.1.2.1 dL_law_414 (by decide) (fun _ => kk μ2 S2 H locs hM g1 g2) (fun z => absurd rfl z)
theorem lc_loss (l : Launch) : LCall l 419 := by
  intro p e s m args below meth c H locs Q ls E μ ret b L i n xs S hX hM hx hbl hbA hL hi hn h1 h2 hl kk
  have h0 := lv_at hl 3 rfl
  have h3 := lv_at hl 0 rfl
  obtain ⟨r, μ1, μ2, S2, e1, e2, g1, g2⟩ := call_loss (xs (i + 1)) (xs (i + 2)) n S μ hn h1 h2
  refine lv_aload_n hX.1.1 hX.1.2.1 dL_law_419 rfl (lv_at hl 2 rfl) ?_
  refine lw_ld (k := 1) hX hM hx hbl hbA hL (by omega) h0 h3 (by decide) dL_law_420 dL_law_421 dL_law_422 dL_law_423 dL_law_424 ?_
  refine lw_ld (k := 2) hX hM hx hbl hbA hL (by omega) h0 h3 (by decide) dL_law_425 dL_law_426 dL_law_427 dL_law_428 dL_law_429 ?_
  refine cg_V (As := [.int (xs (i + 1)), .int (xs (i + 2))]) (rest := []) (st2 := [.int r]) (n := 2) hX hM (c_X10_loss l (o := 0) kn_0 e1) mv_X10_loss q_19_20 ⟨rfl, rfl⟩ ⟨Nat.le_of_ble_eq_true rfl, Nat.le_of_ble_eq_true rfl⟩ kn_0 (by decide) rfl rfl rfl hl.1 rfl (Nat.le_of_ble_eq_true rfl) dL_law_430 rfl ⟨Nat.le_of_ble_eq_true rfl, Nat.le_of_ble_eq_true rfl⟩ (fun H locs hM => ?_)
  refine lv_aload_n hX.1.1 hX.1.2.1 dL_law_433 rfl (lv_at hl 1 rfl) ?_
  refine lw_ld (k := 1) hX hM hx hbl hbA hL (by omega) h0 h3 (by decide) dL_law_434 dL_law_435 dL_law_436 dL_law_437 dL_law_438 ?_
  refine lw_ld (k := 2) hX hM hx hbl hbA hL (by omega) h0 h3 (by decide) dL_law_439 dL_law_440 dL_law_441 dL_law_442 dL_law_443 ?_
  refine cg_V (As := [.int (xs (i + 1)), .int (xs (i + 2))]) (rest := [.int r]) (st2 := [.int r, .int r]) (n := 2) hX hM (c_X11_loss l (o := 85) kn_85 e2) mv_X11_loss q_20_5 ⟨rfl, rfl⟩ ⟨Nat.le_of_ble_eq_true rfl, Nat.le_of_ble_eq_true rfl⟩ kn_85 (by decide) rfl rfl rfl hl.1 rfl (Nat.le_of_ble_eq_true rfl) dL_law_444 rfl ⟨Nat.le_of_ble_eq_true rfl, Nat.le_of_ble_eq_true rfl⟩ (fun H locs hM => ?_)
  exact lv_icmp_eq (tgt := 1434) hX.1.1 hX.1.2.1 dL_law_447 (by decide) (fun _ => kk μ2 S2 H locs hM g1 g2) (fun z => absurd rfl z)
theorem lc_steer (l : Launch) : LCall l 452 := by
  intro p e s m args below meth c H locs Q ls E μ ret b L i n xs S hX hM hx hbl hbA hL hi hn h1 h2 hl kk
  have h0 := lv_at hl 3 rfl
  have h3 := lv_at hl 0 rfl
  obtain ⟨r, μ1, μ2, S2, e1, e2, g1, g2⟩ := call_steer (xs (i + 1)) n S μ hn h1 h2
  refine lv_aload_n hX.1.1 hX.1.2.1 dL_law_452 rfl (lv_at hl 2 rfl) ?_
  refine lw_ld (k := 1) hX hM hx hbl hbA hL (by omega) h0 h3 (by decide) dL_law_453 dL_law_454 dL_law_455 dL_law_456 dL_law_457 ?_
  refine cg_V (As := [.int (xs (i + 1))]) (rest := []) (st2 := [.int r]) (n := 1) hX hM (c_X10_steer l (o := 0) kn_0 e1) mv_X10_steer q_20_9 ⟨rfl, rfl⟩ ⟨Nat.le_of_ble_eq_true rfl, Nat.le_of_ble_eq_true rfl⟩ kn_0 (by decide) rfl rfl rfl hl.1 rfl (Nat.le_of_ble_eq_true rfl) dL_law_458 rfl ⟨Nat.le_of_ble_eq_true rfl, Nat.le_of_ble_eq_true rfl⟩ (fun H locs hM => ?_)
  refine lv_aload_n hX.1.1 hX.1.2.1 dL_law_461 rfl (lv_at hl 1 rfl) ?_
  refine lw_ld (k := 1) hX hM hx hbl hbA hL (by omega) h0 h3 (by decide) dL_law_462 dL_law_463 dL_law_464 dL_law_465 dL_law_466 ?_
  refine cg_V (As := [.int (xs (i + 1))]) (rest := [.int r]) (st2 := [.int r, .int r]) (n := 1) hX hM (c_X11_steer l (o := 85) kn_85 e2) mv_X11_steer q_20_22 ⟨rfl, rfl⟩ ⟨Nat.le_of_ble_eq_true rfl, Nat.le_of_ble_eq_true rfl⟩ kn_85 (by decide) rfl rfl rfl hl.1 rfl (Nat.le_of_ble_eq_true rfl) dL_law_467 rfl ⟨Nat.le_of_ble_eq_true rfl, Nat.le_of_ble_eq_true rfl⟩ (fun H locs hM => ?_)
  exact lv_icmp_eq (tgt := 1434) hX.1.1 hX.1.2.1 dL_law_470 (by decide) (fun _ => kk μ2 S2 H locs hM g1 g2) (fun z => absurd rfl z)
theorem lc_feed (l : Launch) : LCall l 475 := by
  intro p e s m args below meth c H locs Q ls E μ ret b L i n xs S hX hM hx hbl hbA hL hi hn h1 h2 hl kk
  have h0 := lv_at hl 3 rfl
  have h3 := lv_at hl 0 rfl
  obtain ⟨r, μ1, μ2, S2, e1, e2, g1, g2⟩ := call_feed (xs (i + 1)) n S μ hn h1 h2
  refine lv_aload_n hX.1.1 hX.1.2.1 dL_law_475 rfl (lv_at hl 2 rfl) ?_
  refine lw_ld (k := 1) hX hM hx hbl hbA hL (by omega) h0 h3 (by decide) dL_law_476 dL_law_477 dL_law_478 dL_law_479 dL_law_480 ?_
  refine cg_V (As := [.int (xs (i + 1))]) (rest := []) (st2 := [.int r]) (n := 1) hX hM (c_X10_feed l (o := 0) kn_0 e1) mv_X10_feed q_21_3 ⟨rfl, rfl⟩ ⟨Nat.le_of_ble_eq_true rfl, Nat.le_of_ble_eq_true rfl⟩ kn_0 (by decide) rfl rfl rfl hl.1 rfl (Nat.le_of_ble_eq_true rfl) dL_law_481 rfl ⟨Nat.le_of_ble_eq_true rfl, Nat.le_of_ble_eq_true rfl⟩ (fun H locs hM => ?_)
  refine lv_aload_n hX.1.1 hX.1.2.1 dL_law_484 rfl (lv_at hl 1 rfl) ?_
  refine lw_ld (k := 1) hX hM hx hbl hbA hL (by omega) h0 h3 (by decide) dL_law_485 dL_law_486 dL_law_487 dL_law_488 dL_law_489 ?_
  refine cg_V (As := [.int (xs (i + 1))]) (rest := [.int r]) (st2 := [.int r, .int r]) (n := 1) hX hM (c_X11_feed l (o := 85) kn_85 e2) mv_X11_feed q_21_11 ⟨rfl, rfl⟩ ⟨Nat.le_of_ble_eq_true rfl, Nat.le_of_ble_eq_true rfl⟩ kn_85 (by decide) rfl rfl rfl hl.1 rfl (Nat.le_of_ble_eq_true rfl) dL_law_490 rfl ⟨Nat.le_of_ble_eq_true rfl, Nat.le_of_ble_eq_true rfl⟩ (fun H locs hM => ?_)
  exact lv_icmp_eq (tgt := 1434) hX.1.1 hX.1.2.1 dL_law_493 (by decide) (fun _ => kk μ2 S2 H locs hM g1 g2) (fun z => absurd rfl z)
theorem lc_read (l : Launch) : LCall l 498 := by
  intro p e s m args below meth c H locs Q ls E μ ret b L i n xs S hX hM hx hbl hbA hL hi hn h1 h2 hl kk
  have h0 := lv_at hl 3 rfl
  have h3 := lv_at hl 0 rfl
  obtain ⟨r, μ1, μ2, S2, e1, e2, g1, g2⟩ := call_read  n S μ hn h1 h2
  refine lv_aload_n hX.1.1 hX.1.2.1 dL_law_498 rfl (lv_at hl 2 rfl) ?_
  refine cg_V (As := []) (rest := []) (st2 := [.int r]) (n := 0) hX hM (c_X10_read l (o := 0) kn_0 e1) mv_X10_read q_21_16 ⟨rfl, rfl⟩ ⟨Nat.le_of_ble_eq_true rfl, Nat.le_of_ble_eq_true rfl⟩ kn_0 (by decide) rfl rfl rfl hl.1 rfl (Nat.le_of_ble_eq_true rfl) dL_law_499 rfl ⟨Nat.le_of_ble_eq_true rfl, Nat.le_of_ble_eq_true rfl⟩ (fun H locs hM => ?_)
  refine lv_aload_n hX.1.1 hX.1.2.1 dL_law_502 rfl (lv_at hl 1 rfl) ?_
  refine cg_V (As := []) (rest := [.int r]) (st2 := [.int r, .int r]) (n := 0) hX hM (c_X11_read l (o := 85) kn_85 e2) mv_X11_read q_26_15 ⟨rfl, rfl⟩ ⟨Nat.le_of_ble_eq_true rfl, Nat.le_of_ble_eq_true rfl⟩ kn_85 (by decide) rfl rfl rfl hl.1 rfl (Nat.le_of_ble_eq_true rfl) dL_law_503 rfl ⟨Nat.le_of_ble_eq_true rfl, Nat.le_of_ble_eq_true rfl⟩ (fun H locs hM => ?_)
  exact lv_icmp_eq (tgt := 1434) hX.1.1 hX.1.2.1 dL_law_506 (by decide) (fun _ => kk μ2 S2 H locs hM g1 g2) (fun z => absurd rfl z)
theorem lc_of (l : Launch) : LCall l 511 := by
  intro p e s m args below meth c H locs Q ls E μ ret b L i n xs S hX hM hx hbl hbA hL hi hn h1 h2 hl kk
  have h0 := lv_at hl 3 rfl
  have h3 := lv_at hl 0 rfl
  obtain ⟨r, μ1, μ2, S2, e1, e2, g1, g2⟩ := call_of (xs (i + 1)) (xs (i + 2)) (xs (i + 3)) n S μ hn h1 h2
  refine lv_aload_n hX.1.1 hX.1.2.1 dL_law_511 rfl (lv_at hl 2 rfl) ?_
  refine lw_ld (k := 1) hX hM hx hbl hbA hL (by omega) h0 h3 (by decide) dL_law_512 dL_law_513 dL_law_514 dL_law_515 dL_law_516 ?_
  refine lw_ld (k := 2) hX hM hx hbl hbA hL (by omega) h0 h3 (by decide) dL_law_517 dL_law_518 dL_law_519 dL_law_520 dL_law_521 ?_
  refine lw_ld (k := 3) hX hM hx hbl hbA hL (by omega) h0 h3 (by decide) dL_law_522 dL_law_523 dL_law_524 dL_law_525 dL_law_526 ?_
  refine cg_V (As := [.int (xs (i + 1)), .int (xs (i + 2)), .int (xs (i + 3))]) (rest := []) (st2 := [.int r]) (n := 3) hX hM (c_X10_of l (o := 0) kn_0 e1) mv_X10_of q_28_20 ⟨rfl, rfl⟩ ⟨Nat.le_of_ble_eq_true rfl, Nat.le_of_ble_eq_true rfl⟩ kn_0 (by decide) rfl rfl rfl hl.1 rfl (Nat.le_of_ble_eq_true rfl) dL_law_527 rfl ⟨Nat.le_of_ble_eq_true rfl, Nat.le_of_ble_eq_true rfl⟩ (fun H locs hM => ?_)
  refine lv_aload_n hX.1.1 hX.1.2.1 dL_law_530 rfl (lv_at hl 1 rfl) ?_
  refine lw_ld (k := 1) hX hM hx hbl hbA hL (by omega) h0 h3 (by decide) dL_law_531 dL_law_532 dL_law_533 dL_law_534 dL_law_535 ?_
  refine lw_ld (k := 2) hX hM hx hbl hbA hL (by omega) h0 h3 (by decide) dL_law_536 dL_law_537 dL_law_538 dL_law_539 dL_law_540 ?_
  refine lw_ld (k := 3) hX hM hx hbl hbA hL (by omega) h0 h3 (by decide) dL_law_541 dL_law_542 dL_law_543 dL_law_544 dL_law_545 ?_
  refine cg_V (As := [.int (xs (i + 1)), .int (xs (i + 2)), .int (xs (i + 3))]) (rest := [.int r]) (st2 := [.int r, .int r]) (n := 3) hX hM (c_X11_of l (o := 85) kn_85 e2) mv_X11_of q_29_0 ⟨rfl, rfl⟩ ⟨Nat.le_of_ble_eq_true rfl, Nat.le_of_ble_eq_true rfl⟩ kn_85 (by decide) rfl rfl rfl hl.1 rfl (Nat.le_of_ble_eq_true rfl) dL_law_546 rfl ⟨Nat.le_of_ble_eq_true rfl, Nat.le_of_ble_eq_true rfl⟩ (fun H locs hM => ?_)
  exact lv_icmp_eq (tgt := 1434) hX.1.1 hX.1.2.1 dL_law_549 (by decide) (fun _ => kk μ2 S2 H locs hM g1 g2) (fun z => absurd rfl z)
theorem lc_speed (l : Launch) : LCall l 554 := by
  intro p e s m args below meth c H locs Q ls E μ ret b L i n xs S hX hM hx hbl hbA hL hi hn h1 h2 hl kk
  have h0 := lv_at hl 3 rfl
  have h3 := lv_at hl 0 rfl
  obtain ⟨r, μ1, μ2, S2, e1, e2, g1, g2⟩ := call_speed (xs (i + 1)) (xs (i + 2)) n S μ hn h1 h2
  refine lv_aload_n hX.1.1 hX.1.2.1 dL_law_554 rfl (lv_at hl 2 rfl) ?_
  refine lw_ld (k := 1) hX hM hx hbl hbA hL (by omega) h0 h3 (by decide) dL_law_555 dL_law_556 dL_law_557 dL_law_558 dL_law_559 ?_
  refine lw_ld (k := 2) hX hM hx hbl hbA hL (by omega) h0 h3 (by decide) dL_law_560 dL_law_561 dL_law_562 dL_law_563 dL_law_564 ?_
  refine cg_V (As := [.int (xs (i + 1)), .int (xs (i + 2))]) (rest := []) (st2 := [.int r]) (n := 2) hX hM (c_X10_speed l (o := 0) kn_0 e1) mv_X10_speed q_29_4 ⟨rfl, rfl⟩ ⟨Nat.le_of_ble_eq_true rfl, Nat.le_of_ble_eq_true rfl⟩ kn_0 (by decide) rfl rfl rfl hl.1 rfl (Nat.le_of_ble_eq_true rfl) dL_law_565 rfl ⟨Nat.le_of_ble_eq_true rfl, Nat.le_of_ble_eq_true rfl⟩ (fun H locs hM => ?_)
  refine lv_aload_n hX.1.1 hX.1.2.1 dL_law_568 rfl (lv_at hl 1 rfl) ?_
  refine lw_ld (k := 1) hX hM hx hbl hbA hL (by omega) h0 h3 (by decide) dL_law_569 dL_law_570 dL_law_571 dL_law_572 dL_law_573 ?_
  refine lw_ld (k := 2) hX hM hx hbl hbA hL (by omega) h0 h3 (by decide) dL_law_574 dL_law_575 dL_law_576 dL_law_577 dL_law_578 ?_
  refine cg_V (As := [.int (xs (i + 1)), .int (xs (i + 2))]) (rest := [.int r]) (st2 := [.int r, .int r]) (n := 2) hX hM (c_X11_speed l (o := 85) kn_85 e2) mv_X11_speed q_29_8 ⟨rfl, rfl⟩ ⟨Nat.le_of_ble_eq_true rfl, Nat.le_of_ble_eq_true rfl⟩ kn_85 (by decide) rfl rfl rfl hl.1 rfl (Nat.le_of_ble_eq_true rfl) dL_law_579 rfl ⟨Nat.le_of_ble_eq_true rfl, Nat.le_of_ble_eq_true rfl⟩ (fun H locs hM => ?_)
  exact lv_icmp_eq (tgt := 1434) hX.1.1 hX.1.2.1 dL_law_582 (by decide) (fun _ => kk μ2 S2 H locs hM g1 g2) (fun z => absurd rfl z)
theorem lc_told (l : Launch) : LCall l 587 := by
  intro p e s m args below meth c H locs Q ls E μ ret b L i n xs S hX hM hx hbl hbA hL hi hn h1 h2 hl kk
  have h0 := lv_at hl 3 rfl
  have h3 := lv_at hl 0 rfl
  obtain ⟨r, μ1, μ2, S2, e1, e2, g1, g2⟩ := call_told (xs (i + 1)) n S μ hn h1 h2
  refine lv_aload_n hX.1.1 hX.1.2.1 dL_law_587 rfl (lv_at hl 2 rfl) ?_
  refine lw_ld (k := 1) hX hM hx hbl hbA hL (by omega) h0 h3 (by decide) dL_law_588 dL_law_589 dL_law_590 dL_law_591 dL_law_592 ?_
  refine cg_V (As := [.int (xs (i + 1))]) (rest := []) (st2 := [.int r]) (n := 1) hX hM (c_X10_told l (o := 0) kn_0 e1) mv_X10_told q_29_12 ⟨rfl, rfl⟩ ⟨Nat.le_of_ble_eq_true rfl, Nat.le_of_ble_eq_true rfl⟩ kn_0 (by decide) rfl rfl rfl hl.1 rfl (Nat.le_of_ble_eq_true rfl) dL_law_593 rfl ⟨Nat.le_of_ble_eq_true rfl, Nat.le_of_ble_eq_true rfl⟩ (fun H locs hM => ?_)
  refine lv_aload_n hX.1.1 hX.1.2.1 dL_law_596 rfl (lv_at hl 1 rfl) ?_
  refine lw_ld (k := 1) hX hM hx hbl hbA hL (by omega) h0 h3 (by decide) dL_law_597 dL_law_598 dL_law_599 dL_law_600 dL_law_601 ?_
  refine cg_V (As := [.int (xs (i + 1))]) (rest := [.int r]) (st2 := [.int r, .int r]) (n := 1) hX hM (c_X11_told l (o := 85) kn_85 e2) mv_X11_told q_30_10 ⟨rfl, rfl⟩ ⟨Nat.le_of_ble_eq_true rfl, Nat.le_of_ble_eq_true rfl⟩ kn_85 (by decide) rfl rfl rfl hl.1 rfl (Nat.le_of_ble_eq_true rfl) dL_law_602 rfl ⟨Nat.le_of_ble_eq_true rfl, Nat.le_of_ble_eq_true rfl⟩ (fun H locs hM => ?_)
  exact lv_icmp_eq (tgt := 1434) hX.1.1 hX.1.2.1 dL_law_605 (by decide) (fun _ => kk μ2 S2 H locs hM g1 g2) (fun z => absurd rfl z)
theorem lc_pace (l : Launch) : LCall l 610 := by
  intro p e s m args below meth c H locs Q ls E μ ret b L i n xs S hX hM hx hbl hbA hL hi hn h1 h2 hl kk
  have h0 := lv_at hl 3 rfl
  have h3 := lv_at hl 0 rfl
  obtain ⟨r, μ1, μ2, S2, e1, e2, g1, g2⟩ := call_pace (xs (i + 1)) (xs (i + 2)) (xs (i + 3)) n S μ hn h1 h2
  refine lv_aload_n hX.1.1 hX.1.2.1 dL_law_610 rfl (lv_at hl 2 rfl) ?_
  refine lw_ld (k := 1) hX hM hx hbl hbA hL (by omega) h0 h3 (by decide) dL_law_611 dL_law_612 dL_law_613 dL_law_614 dL_law_615 ?_
  refine lw_ld (k := 2) hX hM hx hbl hbA hL (by omega) h0 h3 (by decide) dL_law_616 dL_law_617 dL_law_618 dL_law_619 dL_law_620 ?_
  refine lw_ld (k := 3) hX hM hx hbl hbA hL (by omega) h0 h3 (by decide) dL_law_621 dL_law_622 dL_law_623 dL_law_624 dL_law_625 ?_
  refine cg_V (As := [.int (xs (i + 1)), .int (xs (i + 2)), .int (xs (i + 3))]) (rest := []) (st2 := [.int r]) (n := 3) hX hM (c_X10_pace l (o := 0) kn_0 e1) mv_X10_pace q_30_22 ⟨rfl, rfl⟩ ⟨Nat.le_of_ble_eq_true rfl, Nat.le_of_ble_eq_true rfl⟩ kn_0 (by decide) rfl rfl rfl hl.1 rfl (Nat.le_of_ble_eq_true rfl) dL_law_626 rfl ⟨Nat.le_of_ble_eq_true rfl, Nat.le_of_ble_eq_true rfl⟩ (fun H locs hM => ?_)
  refine lv_aload_n hX.1.1 hX.1.2.1 dL_law_629 rfl (lv_at hl 1 rfl) ?_
  refine lw_ld (k := 1) hX hM hx hbl hbA hL (by omega) h0 h3 (by decide) dL_law_630 dL_law_631 dL_law_632 dL_law_633 dL_law_634 ?_
  refine lw_ld (k := 2) hX hM hx hbl hbA hL (by omega) h0 h3 (by decide) dL_law_635 dL_law_636 dL_law_637 dL_law_638 dL_law_639 ?_
  refine lw_ld (k := 3) hX hM hx hbl hbA hL (by omega) h0 h3 (by decide) dL_law_640 dL_law_641 dL_law_642 dL_law_643 dL_law_644 ?_
  refine cg_V (As := [.int (xs (i + 1)), .int (xs (i + 2)), .int (xs (i + 3))]) (rest := [.int r]) (st2 := [.int r, .int r]) (n := 3) hX hM (c_X11_pace l (o := 85) kn_85 e2) mv_X11_pace q_31_5 ⟨rfl, rfl⟩ ⟨Nat.le_of_ble_eq_true rfl, Nat.le_of_ble_eq_true rfl⟩ kn_85 (by decide) rfl rfl rfl hl.1 rfl (Nat.le_of_ble_eq_true rfl) dL_law_645 rfl ⟨Nat.le_of_ble_eq_true rfl, Nat.le_of_ble_eq_true rfl⟩ (fun H locs hM => ?_)
  exact lv_icmp_eq (tgt := 1434) hX.1.1 hX.1.2.1 dL_law_648 (by decide) (fun _ => kk μ2 S2 H locs hM g1 g2) (fun z => absurd rfl z)
theorem lc_leg (l : Launch) : LCall l 653 := by
  intro p e s m args below meth c H locs Q ls E μ ret b L i n xs S hX hM hx hbl hbA hL hi hn h1 h2 hl kk
  have h0 := lv_at hl 3 rfl
  have h3 := lv_at hl 0 rfl
  obtain ⟨r, μ1, μ2, S2, e1, e2, g1, g2⟩ := call_leg (xs (i + 1)) (xs (i + 2)) (xs (i + 3)) (xs (i + 4)) (xs (i + 5)) n S μ hn h1 h2
  refine lv_aload_n hX.1.1 hX.1.2.1 dL_law_653 rfl (lv_at hl 2 rfl) ?_
  refine lw_ld (k := 1) hX hM hx hbl hbA hL (by omega) h0 h3 (by decide) dL_law_654 dL_law_655 dL_law_656 dL_law_657 dL_law_658 ?_
  refine lw_ld (k := 2) hX hM hx hbl hbA hL (by omega) h0 h3 (by decide) dL_law_659 dL_law_660 dL_law_661 dL_law_662 dL_law_663 ?_
  refine lw_ld (k := 3) hX hM hx hbl hbA hL (by omega) h0 h3 (by decide) dL_law_664 dL_law_665 dL_law_666 dL_law_667 dL_law_668 ?_
  refine lw_ld (k := 4) hX hM hx hbl hbA hL (by omega) h0 h3 (by decide) dL_law_669 dL_law_670 dL_law_671 dL_law_672 dL_law_673 ?_
  refine lw_ld (k := 5) hX hM hx hbl hbA hL (by omega) h0 h3 (by decide) dL_law_674 dL_law_675 dL_law_676 dL_law_677 dL_law_678 ?_
  refine cg_V (As := [.int (xs (i + 1)), .int (xs (i + 2)), .int (xs (i + 3)), .int (xs (i + 4)), .int (xs (i + 5))]) (rest := []) (st2 := [.int r]) (n := 5) hX hM (c_X10_leg l (o := 0) kn_0 e1) mv_X10_leg q_31_9 ⟨rfl, rfl⟩ ⟨Nat.le_of_ble_eq_true rfl, Nat.le_of_ble_eq_true rfl⟩ kn_0 (by decide) rfl rfl rfl hl.1 rfl (Nat.le_of_ble_eq_true rfl) dL_law_679 rfl ⟨Nat.le_of_ble_eq_true rfl, Nat.le_of_ble_eq_true rfl⟩ (fun H locs hM => ?_)
  refine lv_aload_n hX.1.1 hX.1.2.1 dL_law_682 rfl (lv_at hl 1 rfl) ?_
  refine lw_ld (k := 1) hX hM hx hbl hbA hL (by omega) h0 h3 (by decide) dL_law_683 dL_law_684 dL_law_685 dL_law_686 dL_law_687 ?_
  refine lw_ld (k := 2) hX hM hx hbl hbA hL (by omega) h0 h3 (by decide) dL_law_688 dL_law_689 dL_law_690 dL_law_691 dL_law_692 ?_
  refine lw_ld (k := 3) hX hM hx hbl hbA hL (by omega) h0 h3 (by decide) dL_law_693 dL_law_694 dL_law_695 dL_law_696 dL_law_697 ?_
  refine lw_ld (k := 4) hX hM hx hbl hbA hL (by omega) h0 h3 (by decide) dL_law_698 dL_law_699 dL_law_700 dL_law_701 dL_law_702 ?_
  refine lw_ld (k := 5) hX hM hx hbl hbA hL (by omega) h0 h3 (by decide) dL_law_703 dL_law_704 dL_law_705 dL_law_706 dL_law_707 ?_
  refine cg_V (As := [.int (xs (i + 1)), .int (xs (i + 2)), .int (xs (i + 3)), .int (xs (i + 4)), .int (xs (i + 5))]) (rest := [.int r]) (st2 := [.int r, .int r]) (n := 5) hX hM (c_X11_leg l (o := 85) kn_85 e2) mv_X11_leg q_32_5 ⟨rfl, rfl⟩ ⟨Nat.le_of_ble_eq_true rfl, Nat.le_of_ble_eq_true rfl⟩ kn_85 (by decide) rfl rfl rfl hl.1 rfl (Nat.le_of_ble_eq_true rfl) dL_law_708 rfl ⟨Nat.le_of_ble_eq_true rfl, Nat.le_of_ble_eq_true rfl⟩ (fun H locs hM => ?_)
  exact lv_icmp_eq (tgt := 1434) hX.1.1 hX.1.2.1 dL_law_711 (by decide) (fun _ => kk μ2 S2 H locs hM g1 g2) (fun z => absurd rfl z)
theorem lc_least (l : Launch) : LCall l 716 := by
  intro p e s m args below meth c H locs Q ls E μ ret b L i n xs S hX hM hx hbl hbA hL hi hn h1 h2 hl kk
  have h0 := lv_at hl 3 rfl
  have h3 := lv_at hl 0 rfl
  obtain ⟨r, μ1, μ2, S2, e1, e2, g1, g2⟩ := call_least (xs (i + 1)) (xs (i + 2)) n S μ hn h1 h2
  refine lv_aload_n hX.1.1 hX.1.2.1 dL_law_716 rfl (lv_at hl 2 rfl) ?_
  refine lw_ld (k := 1) hX hM hx hbl hbA hL (by omega) h0 h3 (by decide) dL_law_717 dL_law_718 dL_law_719 dL_law_720 dL_law_721 ?_
  refine lw_ld (k := 2) hX hM hx hbl hbA hL (by omega) h0 h3 (by decide) dL_law_722 dL_law_723 dL_law_724 dL_law_725 dL_law_726 ?_
  refine cg_V (As := [.int (xs (i + 1)), .int (xs (i + 2))]) (rest := []) (st2 := [.int r]) (n := 2) hX hM (c_X10_least l (o := 0) kn_0 e1) mv_X10_least q_32_13 ⟨rfl, rfl⟩ ⟨Nat.le_of_ble_eq_true rfl, Nat.le_of_ble_eq_true rfl⟩ kn_0 (by decide) rfl rfl rfl hl.1 rfl (Nat.le_of_ble_eq_true rfl) dL_law_727 rfl ⟨Nat.le_of_ble_eq_true rfl, Nat.le_of_ble_eq_true rfl⟩ (fun H locs hM => ?_)
  refine lv_aload_n hX.1.1 hX.1.2.1 dL_law_730 rfl (lv_at hl 1 rfl) ?_
  refine lw_ld (k := 1) hX hM hx hbl hbA hL (by omega) h0 h3 (by decide) dL_law_731 dL_law_732 dL_law_733 dL_law_734 dL_law_735 ?_
  refine lw_ld (k := 2) hX hM hx hbl hbA hL (by omega) h0 h3 (by decide) dL_law_736 dL_law_737 dL_law_738 dL_law_739 dL_law_740 ?_
  refine cg_V (As := [.int (xs (i + 1)), .int (xs (i + 2))]) (rest := [.int r]) (st2 := [.int r, .int r]) (n := 2) hX hM (c_X11_least l (o := 85) kn_85 e2) mv_X11_least q_32_21 ⟨rfl, rfl⟩ ⟨Nat.le_of_ble_eq_true rfl, Nat.le_of_ble_eq_true rfl⟩ kn_85 (by decide) rfl rfl rfl hl.1 rfl (Nat.le_of_ble_eq_true rfl) dL_law_741 rfl ⟨Nat.le_of_ble_eq_true rfl, Nat.le_of_ble_eq_true rfl⟩ (fun H locs hM => ?_)
  exact lv_icmp_eq (tgt := 1434) hX.1.1 hX.1.2.1 dL_law_744 (by decide) (fun _ => kk μ2 S2 H locs hM g1 g2) (fun z => absurd rfl z)
theorem lc_last (l : Launch) : LCall l 749 := by
  intro p e s m args below meth c H locs Q ls E μ ret b L i n xs S hX hM hx hbl hbA hL hi hn h1 h2 hl kk
  have h0 := lv_at hl 3 rfl
  have h3 := lv_at hl 0 rfl
  obtain ⟨r, μ1, μ2, S2, e1, e2, g1, g2⟩ := call_last (xs (i + 1)) (xs (i + 2)) n S μ hn h1 h2
  refine lv_aload_n hX.1.1 hX.1.2.1 dL_law_749 rfl (lv_at hl 2 rfl) ?_
  refine lw_ld (k := 1) hX hM hx hbl hbA hL (by omega) h0 h3 (by decide) dL_law_750 dL_law_751 dL_law_752 dL_law_753 dL_law_754 ?_
  refine lw_ld (k := 2) hX hM hx hbl hbA hL (by omega) h0 h3 (by decide) dL_law_755 dL_law_756 dL_law_757 dL_law_758 dL_law_759 ?_
  refine cg_V (As := [.int (xs (i + 1)), .int (xs (i + 2))]) (rest := []) (st2 := [.int r]) (n := 2) hX hM (c_X10_last l (o := 0) kn_0 e1) mv_X10_last q_33_1 ⟨rfl, rfl⟩ ⟨Nat.le_of_ble_eq_true rfl, Nat.le_of_ble_eq_true rfl⟩ kn_0 (by decide) rfl rfl rfl hl.1 rfl (Nat.le_of_ble_eq_true rfl) dL_law_760 rfl ⟨Nat.le_of_ble_eq_true rfl, Nat.le_of_ble_eq_true rfl⟩ (fun H locs hM => ?_)
  refine lv_aload_n hX.1.1 hX.1.2.1 dL_law_763 rfl (lv_at hl 1 rfl) ?_
  refine lw_ld (k := 1) hX hM hx hbl hbA hL (by omega) h0 h3 (by decide) dL_law_764 dL_law_765 dL_law_766 dL_law_767 dL_law_768 ?_
  refine lw_ld (k := 2) hX hM hx hbl hbA hL (by omega) h0 h3 (by decide) dL_law_769 dL_law_770 dL_law_771 dL_law_772 dL_law_773 ?_
  refine cg_V (As := [.int (xs (i + 1)), .int (xs (i + 2))]) (rest := [.int r]) (st2 := [.int r, .int r]) (n := 2) hX hM (c_X11_last l (o := 85) kn_85 e2) mv_X11_last q_33_19 ⟨rfl, rfl⟩ ⟨Nat.le_of_ble_eq_true rfl, Nat.le_of_ble_eq_true rfl⟩ kn_85 (by decide) rfl rfl rfl hl.1 rfl (Nat.le_of_ble_eq_true rfl) dL_law_774 rfl ⟨Nat.le_of_ble_eq_true rfl, Nat.le_of_ble_eq_true rfl⟩ (fun H locs hM => ?_)
  exact lv_icmp_eq (tgt := 1434) hX.1.1 hX.1.2.1 dL_law_777 (by decide) (fun _ => kk μ2 S2 H locs hM g1 g2) (fun z => absurd rfl z)
theorem lc_course (l : Launch) : LCall l 782 := by
  intro p e s m args below meth c H locs Q ls E μ ret b L i n xs S hX hM hx hbl hbA hL hi hn h1 h2 hl kk
  have h0 := lv_at hl 3 rfl
  have h3 := lv_at hl 0 rfl
  obtain ⟨r, μ1, μ2, S2, e1, e2, g1, g2⟩ := call_course (xs (i + 1)) (xs (i + 2)) n S μ hn h1 h2
  refine lv_aload_n hX.1.1 hX.1.2.1 dL_law_782 rfl (lv_at hl 2 rfl) ?_
  refine lw_ld (k := 1) hX hM hx hbl hbA hL (by omega) h0 h3 (by decide) dL_law_783 dL_law_784 dL_law_785 dL_law_786 dL_law_787 ?_
  refine lw_ld (k := 2) hX hM hx hbl hbA hL (by omega) h0 h3 (by decide) dL_law_788 dL_law_789 dL_law_790 dL_law_791 dL_law_792 ?_
  refine cg_V (As := [.int (xs (i + 1)), .int (xs (i + 2))]) (rest := []) (st2 := [.int r]) (n := 2) hX hM (c_X10_course l (o := 0) kn_0 e1) mv_X10_course q_34_3 ⟨rfl, rfl⟩ ⟨Nat.le_of_ble_eq_true rfl, Nat.le_of_ble_eq_true rfl⟩ kn_0 (by decide) rfl rfl rfl hl.1 rfl (Nat.le_of_ble_eq_true rfl) dL_law_793 rfl ⟨Nat.le_of_ble_eq_true rfl, Nat.le_of_ble_eq_true rfl⟩ (fun H locs hM => ?_)
  refine lv_aload_n hX.1.1 hX.1.2.1 dL_law_796 rfl (lv_at hl 1 rfl) ?_
  refine lw_ld (k := 1) hX hM hx hbl hbA hL (by omega) h0 h3 (by decide) dL_law_797 dL_law_798 dL_law_799 dL_law_800 dL_law_801 ?_
  refine lw_ld (k := 2) hX hM hx hbl hbA hL (by omega) h0 h3 (by decide) dL_law_802 dL_law_803 dL_law_804 dL_law_805 dL_law_806 ?_
  refine cg_V (As := [.int (xs (i + 1)), .int (xs (i + 2))]) (rest := [.int r]) (st2 := [.int r, .int r]) (n := 2) hX hM (c_X11_course l (o := 85) kn_85 e2) mv_X11_course q_34_16 ⟨rfl, rfl⟩ ⟨Nat.le_of_ble_eq_true rfl, Nat.le_of_ble_eq_true rfl⟩ kn_85 (by decide) rfl rfl rfl hl.1 rfl (Nat.le_of_ble_eq_true rfl) dL_law_807 rfl ⟨Nat.le_of_ble_eq_true rfl, Nat.le_of_ble_eq_true rfl⟩ (fun H locs hM => ?_)
  exact lv_icmp_eq (tgt := 1434) hX.1.1 hX.1.2.1 dL_law_810 (by decide) (fun _ => kk μ2 S2 H locs hM g1 g2) (fun z => absurd rfl z)
theorem lc_reckon (l : Launch) : LCall l 815 := by
  intro p e s m args below meth c H locs Q ls E μ ret b L i n xs S hX hM hx hbl hbA hL hi hn h1 h2 hl kk
  have h0 := lv_at hl 3 rfl
  have h3 := lv_at hl 0 rfl
  obtain ⟨r, μ1, μ2, S2, e1, e2, g1, g2⟩ := call_reckon (xs (i + 1)) (xs (i + 2)) n S μ hn h1 h2
  refine lv_aload_n hX.1.1 hX.1.2.1 dL_law_815 rfl (lv_at hl 2 rfl) ?_
  refine lw_ld (k := 1) hX hM hx hbl hbA hL (by omega) h0 h3 (by decide) dL_law_816 dL_law_817 dL_law_818 dL_law_819 dL_law_820 ?_
  refine lw_ld (k := 2) hX hM hx hbl hbA hL (by omega) h0 h3 (by decide) dL_law_821 dL_law_822 dL_law_823 dL_law_824 dL_law_825 ?_
  refine cg_V (As := [.int (xs (i + 1)), .int (xs (i + 2))]) (rest := []) (st2 := [.long r]) (n := 2) hX hM (c_X10_reckon l (o := 0) kn_0 e1) mv_X10_reckon q_35_1 ⟨rfl, rfl⟩ ⟨Nat.le_of_ble_eq_true rfl, Nat.le_of_ble_eq_true rfl⟩ kn_0 (by decide) rfl rfl rfl hl.1 rfl (Nat.le_of_ble_eq_true rfl) dL_law_826 rfl ⟨Nat.le_of_ble_eq_true rfl, Nat.le_of_ble_eq_true rfl⟩ (fun H locs hM => ?_)
  refine lv_aload_n hX.1.1 hX.1.2.1 dL_law_829 rfl (lv_at hl 1 rfl) ?_
  refine lw_ld (k := 1) hX hM hx hbl hbA hL (by omega) h0 h3 (by decide) dL_law_830 dL_law_831 dL_law_832 dL_law_833 dL_law_834 ?_
  refine lw_ld (k := 2) hX hM hx hbl hbA hL (by omega) h0 h3 (by decide) dL_law_835 dL_law_836 dL_law_837 dL_law_838 dL_law_839 ?_
  refine cg_V (As := [.int (xs (i + 1)), .int (xs (i + 2))]) (rest := [.long r]) (st2 := [.long r, .long r]) (n := 2) hX hM (c_X11_reckon l (o := 85) kn_85 e2) mv_X11_reckon q_36_15 ⟨rfl, rfl⟩ ⟨Nat.le_of_ble_eq_true rfl, Nat.le_of_ble_eq_true rfl⟩ kn_85 (by decide) rfl rfl rfl hl.1 rfl (Nat.le_of_ble_eq_true rfl) dL_law_840 rfl ⟨Nat.le_of_ble_eq_true rfl, Nat.le_of_ble_eq_true rfl⟩ (fun H locs hM => ?_)
  refine W.lcmp hX.1.1 hX.1.2.1 dL_law_843 ?_
  exact lv_if_eq (tgt := 1434) hX.1.1 hX.1.2.1 dL_law_844 (by decide) (fun _ => kk μ2 S2 H locs hM g1 g2) (fun z => absurd (lgc0.mpr rfl) z)
theorem lc_meanPace (l : Launch) : LCall l 849 := by
  intro p e s m args below meth c H locs Q ls E μ ret b L i n xs S hX hM hx hbl hbA hL hi hn h1 h2 hl kk
  have h0 := lv_at hl 3 rfl
  have h3 := lv_at hl 0 rfl
  obtain ⟨r, μ1, μ2, S2, e1, e2, g1, g2⟩ := call_mpace (xs (i + 1)) n S μ hn h1 h2
  refine lv_aload_n hX.1.1 hX.1.2.1 dL_law_849 rfl (lv_at hl 2 rfl) ?_
  refine lw_ld (k := 1) hX hM hx hbl hbA hL (by omega) h0 h3 (by decide) dL_law_850 dL_law_851 dL_law_852 dL_law_853 dL_law_854 ?_
  refine cg_V (As := [.int (xs (i + 1))]) (rest := []) (st2 := [.long r]) (n := 1) hX hM (c_X10_meanPace l (o := 0) kn_0 e1) mv_X10_meanPace q_37_22 ⟨rfl, rfl⟩ ⟨Nat.le_of_ble_eq_true rfl, Nat.le_of_ble_eq_true rfl⟩ kn_0 (by decide) rfl rfl rfl hl.1 rfl (Nat.le_of_ble_eq_true rfl) dL_law_855 rfl ⟨Nat.le_of_ble_eq_true rfl, Nat.le_of_ble_eq_true rfl⟩ (fun H locs hM => ?_)
  refine lv_aload_n hX.1.1 hX.1.2.1 dL_law_858 rfl (lv_at hl 1 rfl) ?_
  refine lw_ld (k := 1) hX hM hx hbl hbA hL (by omega) h0 h3 (by decide) dL_law_859 dL_law_860 dL_law_861 dL_law_862 dL_law_863 ?_
  refine cg_V (As := [.int (xs (i + 1))]) (rest := [.long r]) (st2 := [.long r, .long r]) (n := 1) hX hM (c_X11_meanPace l (o := 85) kn_85 e2) mv_X11_meanPace q_38_10 ⟨rfl, rfl⟩ ⟨Nat.le_of_ble_eq_true rfl, Nat.le_of_ble_eq_true rfl⟩ kn_85 (by decide) rfl rfl rfl hl.1 rfl (Nat.le_of_ble_eq_true rfl) dL_law_864 rfl ⟨Nat.le_of_ble_eq_true rfl, Nat.le_of_ble_eq_true rfl⟩ (fun H locs hM => ?_)
  refine W.lcmp hX.1.1 hX.1.2.1 dL_law_867 ?_
  exact lv_if_eq (tgt := 1434) hX.1.1 hX.1.2.1 dL_law_868 (by decide) (fun _ => kk μ2 S2 H locs hM g1 g2) (fun z => absurd (lgc0.mpr rfl) z)
theorem lc_see (l : Launch) : LCall l 873 := by
  intro p e s m args below meth c H locs Q ls E μ ret b L i n xs S hX hM hx hbl hbA hL hi hn h1 h2 hl kk
  have h0 := lv_at hl 3 rfl
  have h3 := lv_at hl 0 rfl
  obtain ⟨r, μ1, μ2, S2, e1, e2, g1, g2⟩ := call_see (xs (i + 1)) (xs (i + 2)) n S μ hn h1 h2
  refine lv_aload_n hX.1.1 hX.1.2.1 dL_law_873 rfl (lv_at hl 2 rfl) ?_
  refine lw_ld (k := 1) hX hM hx hbl hbA hL (by omega) h0 h3 (by decide) dL_law_874 dL_law_875 dL_law_876 dL_law_877 dL_law_878 ?_
  refine lw_ld (k := 2) hX hM hx hbl hbA hL (by omega) h0 h3 (by decide) dL_law_879 dL_law_880 dL_law_881 dL_law_882 dL_law_883 ?_
  refine cg_V (As := [.int (xs (i + 1)), .int (xs (i + 2))]) (rest := []) (st2 := [.int r]) (n := 2) hX hM (c_X10_see l (o := 0) kn_0 e1) mv_X10_see q_39_2 ⟨rfl, rfl⟩ ⟨Nat.le_of_ble_eq_true rfl, Nat.le_of_ble_eq_true rfl⟩ kn_0 (by decide) rfl rfl rfl hl.1 rfl (Nat.le_of_ble_eq_true rfl) dL_law_884 rfl ⟨Nat.le_of_ble_eq_true rfl, Nat.le_of_ble_eq_true rfl⟩ (fun H locs hM => ?_)
  refine lv_aload_n hX.1.1 hX.1.2.1 dL_law_887 rfl (lv_at hl 1 rfl) ?_
  refine lw_ld (k := 1) hX hM hx hbl hbA hL (by omega) h0 h3 (by decide) dL_law_888 dL_law_889 dL_law_890 dL_law_891 dL_law_892 ?_
  refine lw_ld (k := 2) hX hM hx hbl hbA hL (by omega) h0 h3 (by decide) dL_law_893 dL_law_894 dL_law_895 dL_law_896 dL_law_897 ?_
  refine cg_V (As := [.int (xs (i + 1)), .int (xs (i + 2))]) (rest := [.int r]) (st2 := [.int r, .int r]) (n := 2) hX hM (c_X11_see l (o := 85) kn_85 e2) mv_X11_see q_39_11 ⟨rfl, rfl⟩ ⟨Nat.le_of_ble_eq_true rfl, Nat.le_of_ble_eq_true rfl⟩ kn_85 (by decide) rfl rfl rfl hl.1 rfl (Nat.le_of_ble_eq_true rfl) dL_law_898 rfl ⟨Nat.le_of_ble_eq_true rfl, Nat.le_of_ble_eq_true rfl⟩ (fun H locs hM => ?_)
  exact lv_icmp_eq (tgt := 1434) hX.1.1 hX.1.2.1 dL_law_901 (by decide) (fun _ => kk μ2 S2 H locs hM g1 g2) (fun z => absurd rfl z)
theorem lc_fits (l : Launch) : LCall l 906 := by
  intro p e s m args below meth c H locs Q ls E μ ret b L i n xs S hX hM hx hbl hbA hL hi hn h1 h2 hl kk
  have h0 := lv_at hl 3 rfl
  have h3 := lv_at hl 0 rfl
  obtain ⟨r, μ1, μ2, S2, e1, e2, g1, g2⟩ := call_fits (xs (i + 1)) (xs (i + 2)) (xs (i + 3)) n S μ hn h1 h2
  refine lv_aload_n hX.1.1 hX.1.2.1 dL_law_906 rfl (lv_at hl 2 rfl) ?_
  refine lw_ld (k := 1) hX hM hx hbl hbA hL (by omega) h0 h3 (by decide) dL_law_907 dL_law_908 dL_law_909 dL_law_910 dL_law_911 ?_
  refine lw_ld (k := 2) hX hM hx hbl hbA hL (by omega) h0 h3 (by decide) dL_law_912 dL_law_913 dL_law_914 dL_law_915 dL_law_916 ?_
  refine lw_ld (k := 3) hX hM hx hbl hbA hL (by omega) h0 h3 (by decide) dL_law_917 dL_law_918 dL_law_919 dL_law_920 dL_law_921 ?_
  refine cg_V (As := [.int (xs (i + 1)), .int (xs (i + 2)), .int (xs (i + 3))]) (rest := []) (st2 := [.int r]) (n := 3) hX hM (c_X10_fits l (o := 0) kn_0 e1) mv_X10_fits q_39_17 ⟨rfl, rfl⟩ ⟨Nat.le_of_ble_eq_true rfl, Nat.le_of_ble_eq_true rfl⟩ kn_0 (by decide) rfl rfl rfl hl.1 rfl (Nat.le_of_ble_eq_true rfl) dL_law_922 rfl ⟨Nat.le_of_ble_eq_true rfl, Nat.le_of_ble_eq_true rfl⟩ (fun H locs hM => ?_)
  refine lv_aload_n hX.1.1 hX.1.2.1 dL_law_925 rfl (lv_at hl 1 rfl) ?_
  refine lw_ld (k := 1) hX hM hx hbl hbA hL (by omega) h0 h3 (by decide) dL_law_926 dL_law_927 dL_law_928 dL_law_929 dL_law_930 ?_
  refine lw_ld (k := 2) hX hM hx hbl hbA hL (by omega) h0 h3 (by decide) dL_law_931 dL_law_932 dL_law_933 dL_law_934 dL_law_935 ?_
  refine lw_ld (k := 3) hX hM hx hbl hbA hL (by omega) h0 h3 (by decide) dL_law_936 dL_law_937 dL_law_938 dL_law_939 dL_law_940 ?_
  refine cg_V (As := [.int (xs (i + 1)), .int (xs (i + 2)), .int (xs (i + 3))]) (rest := [.int r]) (st2 := [.int r, .int r]) (n := 3) hX hM (c_X11_fits l (o := 85) kn_85 e2) mv_X11_fits q_41_0 ⟨rfl, rfl⟩ ⟨Nat.le_of_ble_eq_true rfl, Nat.le_of_ble_eq_true rfl⟩ kn_85 (by decide) rfl rfl rfl hl.1 rfl (Nat.le_of_ble_eq_true rfl) dL_law_941 rfl ⟨Nat.le_of_ble_eq_true rfl, Nat.le_of_ble_eq_true rfl⟩ (fun H locs hM => ?_)
  exact lv_icmp_eq (tgt := 1434) hX.1.1 hX.1.2.1 dL_law_944 (by decide) (fun _ => kk μ2 S2 H locs hM g1 g2) (fun z => absurd rfl z)
theorem lc_odds (l : Launch) : LCall l 949 := by
  intro p e s m args below meth c H locs Q ls E μ ret b L i n xs S hX hM hx hbl hbA hL hi hn h1 h2 hl kk
  have h0 := lv_at hl 3 rfl
  have h3 := lv_at hl 0 rfl
  obtain ⟨r, μ1, μ2, S2, e1, e2, g1, g2⟩ := call_odds (xs (i + 1)) (xs (i + 2)) (xs (i + 3)) (xs (i + 4)) (xs (i + 5)) n S μ hn h1 h2
  refine lv_aload_n hX.1.1 hX.1.2.1 dL_law_949 rfl (lv_at hl 2 rfl) ?_
  refine lw_ld (k := 1) hX hM hx hbl hbA hL (by omega) h0 h3 (by decide) dL_law_950 dL_law_951 dL_law_952 dL_law_953 dL_law_954 ?_
  refine lw_ld (k := 2) hX hM hx hbl hbA hL (by omega) h0 h3 (by decide) dL_law_955 dL_law_956 dL_law_957 dL_law_958 dL_law_959 ?_
  refine lw_ld (k := 3) hX hM hx hbl hbA hL (by omega) h0 h3 (by decide) dL_law_960 dL_law_961 dL_law_962 dL_law_963 dL_law_964 ?_
  refine lw_ld (k := 4) hX hM hx hbl hbA hL (by omega) h0 h3 (by decide) dL_law_965 dL_law_966 dL_law_967 dL_law_968 dL_law_969 ?_
  refine lw_ld (k := 5) hX hM hx hbl hbA hL (by omega) h0 h3 (by decide) dL_law_970 dL_law_971 dL_law_972 dL_law_973 dL_law_974 ?_
  refine cg_V (As := [.int (xs (i + 1)), .int (xs (i + 2)), .int (xs (i + 3)), .int (xs (i + 4)), .int (xs (i + 5))]) (rest := []) (st2 := [.long r]) (n := 5) hX hM (c_X10_odds l (o := 0) kn_0 e1) mv_X10_odds q_41_12 ⟨rfl, rfl⟩ ⟨Nat.le_of_ble_eq_true rfl, Nat.le_of_ble_eq_true rfl⟩ kn_0 (by decide) rfl rfl rfl hl.1 rfl (Nat.le_of_ble_eq_true rfl) dL_law_975 rfl ⟨Nat.le_of_ble_eq_true rfl, Nat.le_of_ble_eq_true rfl⟩ (fun H locs hM => ?_)
  refine lv_aload_n hX.1.1 hX.1.2.1 dL_law_978 rfl (lv_at hl 1 rfl) ?_
  refine lw_ld (k := 1) hX hM hx hbl hbA hL (by omega) h0 h3 (by decide) dL_law_979 dL_law_980 dL_law_981 dL_law_982 dL_law_983 ?_
  refine lw_ld (k := 2) hX hM hx hbl hbA hL (by omega) h0 h3 (by decide) dL_law_984 dL_law_985 dL_law_986 dL_law_987 dL_law_988 ?_
  refine lw_ld (k := 3) hX hM hx hbl hbA hL (by omega) h0 h3 (by decide) dL_law_989 dL_law_990 dL_law_991 dL_law_992 dL_law_993 ?_
  refine lw_ld (k := 4) hX hM hx hbl hbA hL (by omega) h0 h3 (by decide) dL_law_994 dL_law_995 dL_law_996 dL_law_997 dL_law_998 ?_
  refine lw_ld (k := 5) hX hM hx hbl hbA hL (by omega) h0 h3 (by decide) dL_law_999 dL_law_1000 dL_law_1001 dL_law_1002 dL_law_1003 ?_
  refine cg_V (As := [.int (xs (i + 1)), .int (xs (i + 2)), .int (xs (i + 3)), .int (xs (i + 4)), .int (xs (i + 5))]) (rest := [.long r]) (st2 := [.long r, .long r]) (n := 5) hX hM (c_X11_odds l (o := 85) kn_85 e2) mv_X11_odds q_42_0 ⟨rfl, rfl⟩ ⟨Nat.le_of_ble_eq_true rfl, Nat.le_of_ble_eq_true rfl⟩ kn_85 (by decide) rfl rfl rfl hl.1 rfl (Nat.le_of_ble_eq_true rfl) dL_law_1004 rfl ⟨Nat.le_of_ble_eq_true rfl, Nat.le_of_ble_eq_true rfl⟩ (fun H locs hM => ?_)
  refine W.lcmp hX.1.1 hX.1.2.1 dL_law_1007 ?_
  exact lv_if_eq (tgt := 1434) hX.1.1 hX.1.2.1 dL_law_1008 (by decide) (fun _ => kk μ2 S2 H locs hM g1 g2) (fun z => absurd (lgc0.mpr rfl) z)
theorem lc_mean (l : Launch) : LCall l 1013 := by
  intro p e s m args below meth c H locs Q ls E μ ret b L i n xs S hX hM hx hbl hbA hL hi hn h1 h2 hl kk
  have h0 := lv_at hl 3 rfl
  have h3 := lv_at hl 0 rfl
  obtain ⟨r, μ1, μ2, S2, e1, e2, g1, g2⟩ := call_mean (xs (i + 1)) n S μ hn h1 h2
  refine lv_aload_n hX.1.1 hX.1.2.1 dL_law_1013 rfl (lv_at hl 2 rfl) ?_
  refine lw_ld (k := 1) hX hM hx hbl hbA hL (by omega) h0 h3 (by decide) dL_law_1014 dL_law_1015 dL_law_1016 dL_law_1017 dL_law_1018 ?_
  refine cg_V (As := [.int (xs (i + 1))]) (rest := []) (st2 := [.long r]) (n := 1) hX hM (c_X10_mean l (o := 0) kn_0 e1) mv_X10_mean q_42_11 ⟨rfl, rfl⟩ ⟨Nat.le_of_ble_eq_true rfl, Nat.le_of_ble_eq_true rfl⟩ kn_0 (by decide) rfl rfl rfl hl.1 rfl (Nat.le_of_ble_eq_true rfl) dL_law_1019 rfl ⟨Nat.le_of_ble_eq_true rfl, Nat.le_of_ble_eq_true rfl⟩ (fun H locs hM => ?_)
  refine lv_aload_n hX.1.1 hX.1.2.1 dL_law_1022 rfl (lv_at hl 1 rfl) ?_
  refine lw_ld (k := 1) hX hM hx hbl hbA hL (by omega) h0 h3 (by decide) dL_law_1023 dL_law_1024 dL_law_1025 dL_law_1026 dL_law_1027 ?_
  refine cg_V (As := [.int (xs (i + 1))]) (rest := [.long r]) (st2 := [.long r, .long r]) (n := 1) hX hM (c_X11_mean l (o := 85) kn_85 e2) mv_X11_mean q_42_19 ⟨rfl, rfl⟩ ⟨Nat.le_of_ble_eq_true rfl, Nat.le_of_ble_eq_true rfl⟩ kn_85 (by decide) rfl rfl rfl hl.1 rfl (Nat.le_of_ble_eq_true rfl) dL_law_1028 rfl ⟨Nat.le_of_ble_eq_true rfl, Nat.le_of_ble_eq_true rfl⟩ (fun H locs hM => ?_)
  refine W.lcmp hX.1.1 hX.1.2.1 dL_law_1031 ?_
  exact lv_if_eq (tgt := 1434) hX.1.1 hX.1.2.1 dL_law_1032 (by decide) (fun _ => kk μ2 S2 H locs hM g1 g2) (fun z => absurd (lgc0.mpr rfl) z)
theorem lc_event (l : Launch) : LCall l 1037 := by
  intro p e s m args below meth c H locs Q ls E μ ret b L i n xs S hX hM hx hbl hbA hL hi hn h1 h2 hl kk
  have h0 := lv_at hl 3 rfl
  have h3 := lv_at hl 0 rfl
  obtain ⟨r, μ1, μ2, S2, e1, e2, g1, g2⟩ := call_event (xs (i + 1)) (xs (i + 2)) n S μ hn h1 h2
  refine lv_aload_n hX.1.1 hX.1.2.1 dL_law_1037 rfl (lv_at hl 2 rfl) ?_
  refine lw_ld (k := 1) hX hM hx hbl hbA hL (by omega) h0 h3 (by decide) dL_law_1038 dL_law_1039 dL_law_1040 dL_law_1041 dL_law_1042 ?_
  refine lw_ld (k := 2) hX hM hx hbl hbA hL (by omega) h0 h3 (by decide) dL_law_1043 dL_law_1044 dL_law_1045 dL_law_1046 dL_law_1047 ?_
  refine cg_V (As := [.int (xs (i + 1)), .int (xs (i + 2))]) (rest := []) (st2 := [.int r]) (n := 2) hX hM (c_X10_event l (o := 0) kn_0 e1) mv_X10_event q_43_3 ⟨rfl, rfl⟩ ⟨Nat.le_of_ble_eq_true rfl, Nat.le_of_ble_eq_true rfl⟩ kn_0 (by decide) rfl rfl rfl hl.1 rfl (Nat.le_of_ble_eq_true rfl) dL_law_1048 rfl ⟨Nat.le_of_ble_eq_true rfl, Nat.le_of_ble_eq_true rfl⟩ (fun H locs hM => ?_)
  refine lv_aload_n hX.1.1 hX.1.2.1 dL_law_1051 rfl (lv_at hl 1 rfl) ?_
  refine lw_ld (k := 1) hX hM hx hbl hbA hL (by omega) h0 h3 (by decide) dL_law_1052 dL_law_1053 dL_law_1054 dL_law_1055 dL_law_1056 ?_
  refine lw_ld (k := 2) hX hM hx hbl hbA hL (by omega) h0 h3 (by decide) dL_law_1057 dL_law_1058 dL_law_1059 dL_law_1060 dL_law_1061 ?_
  refine cg_V (As := [.int (xs (i + 1)), .int (xs (i + 2))]) (rest := [.int r]) (st2 := [.int r, .int r]) (n := 2) hX hM (c_X11_event l (o := 85) kn_85 e2) mv_X11_event q_43_8 ⟨rfl, rfl⟩ ⟨Nat.le_of_ble_eq_true rfl, Nat.le_of_ble_eq_true rfl⟩ kn_85 (by decide) rfl rfl rfl hl.1 rfl (Nat.le_of_ble_eq_true rfl) dL_law_1062 rfl ⟨Nat.le_of_ble_eq_true rfl, Nat.le_of_ble_eq_true rfl⟩ (fun H locs hM => ?_)
  exact lv_icmp_eq (tgt := 1434) hX.1.1 hX.1.2.1 dL_law_1065 (by decide) (fun _ => kk μ2 S2 H locs hM g1 g2) (fun z => absurd rfl z)
theorem lc_after (l : Launch) : LCall l 1070 := by
  intro p e s m args below meth c H locs Q ls E μ ret b L i n xs S hX hM hx hbl hbA hL hi hn h1 h2 hl kk
  have h0 := lv_at hl 3 rfl
  have h3 := lv_at hl 0 rfl
  obtain ⟨r, μ1, μ2, S2, e1, e2, g1, g2⟩ := call_after (xs (i + 1)) n S μ hn h1 h2
  refine lv_aload_n hX.1.1 hX.1.2.1 dL_law_1070 rfl (lv_at hl 2 rfl) ?_
  refine lw_ld (k := 1) hX hM hx hbl hbA hL (by omega) h0 h3 (by decide) dL_law_1071 dL_law_1072 dL_law_1073 dL_law_1074 dL_law_1075 ?_
  refine cg_V (As := [.int (xs (i + 1))]) (rest := []) (st2 := [.int r]) (n := 1) hX hM (c_X10_after l (o := 0) kn_0 e1) mv_X10_after q_43_13 ⟨rfl, rfl⟩ ⟨Nat.le_of_ble_eq_true rfl, Nat.le_of_ble_eq_true rfl⟩ kn_0 (by decide) rfl rfl rfl hl.1 rfl (Nat.le_of_ble_eq_true rfl) dL_law_1076 rfl ⟨Nat.le_of_ble_eq_true rfl, Nat.le_of_ble_eq_true rfl⟩ (fun H locs hM => ?_)
  refine lv_aload_n hX.1.1 hX.1.2.1 dL_law_1079 rfl (lv_at hl 1 rfl) ?_
  refine lw_ld (k := 1) hX hM hx hbl hbA hL (by omega) h0 h3 (by decide) dL_law_1080 dL_law_1081 dL_law_1082 dL_law_1083 dL_law_1084 ?_
  refine cg_V (As := [.int (xs (i + 1))]) (rest := [.int r]) (st2 := [.int r, .int r]) (n := 1) hX hM (c_X11_after l (o := 85) kn_85 e2) mv_X11_after q_44_8 ⟨rfl, rfl⟩ ⟨Nat.le_of_ble_eq_true rfl, Nat.le_of_ble_eq_true rfl⟩ kn_85 (by decide) rfl rfl rfl hl.1 rfl (Nat.le_of_ble_eq_true rfl) dL_law_1085 rfl ⟨Nat.le_of_ble_eq_true rfl, Nat.le_of_ble_eq_true rfl⟩ (fun H locs hM => ?_)
  exact lv_icmp_eq (tgt := 1434) hX.1.1 hX.1.2.1 dL_law_1088 (by decide) (fun _ => kk μ2 S2 H locs hM g1 g2) (fun z => absurd rfl z)
theorem lc_book (l : Launch) : LCall l 1093 := by
  intro p e s m args below meth c H locs Q ls E μ ret b L i n xs S hX hM hx hbl hbA hL hi hn h1 h2 hl kk
  have h0 := lv_at hl 3 rfl
  have h3 := lv_at hl 0 rfl
  obtain ⟨r, μ1, μ2, S2, e1, e2, g1, g2⟩ := call_book (xs (i + 1)) (xs (i + 2)) n S μ hn h1 h2
  refine lv_aload_n hX.1.1 hX.1.2.1 dL_law_1093 rfl (lv_at hl 2 rfl) ?_
  refine lw_ld (k := 1) hX hM hx hbl hbA hL (by omega) h0 h3 (by decide) dL_law_1094 dL_law_1095 dL_law_1096 dL_law_1097 dL_law_1098 ?_
  refine lw_ld (k := 2) hX hM hx hbl hbA hL (by omega) h0 h3 (by decide) dL_law_1099 dL_law_1100 dL_law_1101 dL_law_1102 dL_law_1103 ?_
  refine cg_V (As := [.int (xs (i + 1)), .int (xs (i + 2))]) (rest := []) (st2 := [.int r]) (n := 2) hX hM (c_X10_book l (o := 0) kn_0 e1) mv_X10_book q_45_1 ⟨rfl, rfl⟩ ⟨Nat.le_of_ble_eq_true rfl, Nat.le_of_ble_eq_true rfl⟩ kn_0 (by decide) rfl rfl rfl hl.1 rfl (Nat.le_of_ble_eq_true rfl) dL_law_1104 rfl ⟨Nat.le_of_ble_eq_true rfl, Nat.le_of_ble_eq_true rfl⟩ (fun H locs hM => ?_)
  refine lv_aload_n hX.1.1 hX.1.2.1 dL_law_1107 rfl (lv_at hl 1 rfl) ?_
  refine lw_ld (k := 1) hX hM hx hbl hbA hL (by omega) h0 h3 (by decide) dL_law_1108 dL_law_1109 dL_law_1110 dL_law_1111 dL_law_1112 ?_
  refine lw_ld (k := 2) hX hM hx hbl hbA hL (by omega) h0 h3 (by decide) dL_law_1113 dL_law_1114 dL_law_1115 dL_law_1116 dL_law_1117 ?_
  refine cg_V (As := [.int (xs (i + 1)), .int (xs (i + 2))]) (rest := [.int r]) (st2 := [.int r, .int r]) (n := 2) hX hM (c_X11_book l (o := 85) kn_85 e2) mv_X11_book q_45_6 ⟨rfl, rfl⟩ ⟨Nat.le_of_ble_eq_true rfl, Nat.le_of_ble_eq_true rfl⟩ kn_85 (by decide) rfl rfl rfl hl.1 rfl (Nat.le_of_ble_eq_true rfl) dL_law_1118 rfl ⟨Nat.le_of_ble_eq_true rfl, Nat.le_of_ble_eq_true rfl⟩ (fun H locs hM => ?_)
  exact lv_icmp_eq (tgt := 1434) hX.1.1 hX.1.2.1 dL_law_1121 (by decide) (fun _ => kk μ2 S2 H locs hM g1 g2) (fun z => absurd rfl z)
theorem lc_looked (l : Launch) : LCall l 1126 := by
  intro p e s m args below meth c H locs Q ls E μ ret b L i n xs S hX hM hx hbl hbA hL hi hn h1 h2 hl kk
  have h0 := lv_at hl 3 rfl
  have h3 := lv_at hl 0 rfl
  obtain ⟨r, μ1, μ2, S2, e1, e2, g1, g2⟩ := call_looked  n S μ hn h1 h2
  refine lv_aload_n hX.1.1 hX.1.2.1 dL_law_1126 rfl (lv_at hl 2 rfl) ?_
  refine cg_V (As := []) (rest := []) (st2 := [.int r]) (n := 0) hX hM (c_X10_looked l (o := 0) kn_0 e1) mv_X10_looked q_45_10 ⟨rfl, rfl⟩ ⟨Nat.le_of_ble_eq_true rfl, Nat.le_of_ble_eq_true rfl⟩ kn_0 (by decide) rfl rfl rfl hl.1 rfl (Nat.le_of_ble_eq_true rfl) dL_law_1127 rfl ⟨Nat.le_of_ble_eq_true rfl, Nat.le_of_ble_eq_true rfl⟩ (fun H locs hM => ?_)
  refine lv_aload_n hX.1.1 hX.1.2.1 dL_law_1130 rfl (lv_at hl 1 rfl) ?_
  refine cg_V (As := []) (rest := [.int r]) (st2 := [.int r, .int r]) (n := 0) hX hM (c_X11_looked l (o := 85) kn_85 e2) mv_X11_looked q_45_15 ⟨rfl, rfl⟩ ⟨Nat.le_of_ble_eq_true rfl, Nat.le_of_ble_eq_true rfl⟩ kn_85 (by decide) rfl rfl rfl hl.1 rfl (Nat.le_of_ble_eq_true rfl) dL_law_1131 rfl ⟨Nat.le_of_ble_eq_true rfl, Nat.le_of_ble_eq_true rfl⟩ (fun H locs hM => ?_)
  exact lv_icmp_eq (tgt := 1434) hX.1.1 hX.1.2.1 dL_law_1134 (by decide) (fun _ => kk μ2 S2 H locs hM g1 g2) (fun z => absurd rfl z)
theorem lc_judge (l : Launch) : LCall l 1139 := by
  intro p e s m args below meth c H locs Q ls E μ ret b L i n xs S hX hM hx hbl hbA hL hi hn h1 h2 hl kk
  have h0 := lv_at hl 3 rfl
  have h3 := lv_at hl 0 rfl
  obtain ⟨r, μ1, μ2, S2, e1, e2, g1, g2⟩ := call_judge (xs (i + 1)) (xs (i + 2)) n S μ hn h1 h2
  refine lv_aload_n hX.1.1 hX.1.2.1 dL_law_1139 rfl (lv_at hl 2 rfl) ?_
  refine lw_ld (k := 1) hX hM hx hbl hbA hL (by omega) h0 h3 (by decide) dL_law_1140 dL_law_1141 dL_law_1142 dL_law_1143 dL_law_1144 ?_
  refine lw_ld (k := 2) hX hM hx hbl hbA hL (by omega) h0 h3 (by decide) dL_law_1145 dL_law_1146 dL_law_1147 dL_law_1148 dL_law_1149 ?_
  refine cg_V (As := [.int (xs (i + 1)), .int (xs (i + 2))]) (rest := []) (st2 := [.int r]) (n := 2) hX hM (c_X10_judge l (o := 0) kn_0 e1) mv_X10_judge q_45_19 ⟨rfl, rfl⟩ ⟨Nat.le_of_ble_eq_true rfl, Nat.le_of_ble_eq_true rfl⟩ kn_0 (by decide) rfl rfl rfl hl.1 rfl (Nat.le_of_ble_eq_true rfl) dL_law_1150 rfl ⟨Nat.le_of_ble_eq_true rfl, Nat.le_of_ble_eq_true rfl⟩ (fun H locs hM => ?_)
  refine lv_aload_n hX.1.1 hX.1.2.1 dL_law_1153 rfl (lv_at hl 1 rfl) ?_
  refine lw_ld (k := 1) hX hM hx hbl hbA hL (by omega) h0 h3 (by decide) dL_law_1154 dL_law_1155 dL_law_1156 dL_law_1157 dL_law_1158 ?_
  refine lw_ld (k := 2) hX hM hx hbl hbA hL (by omega) h0 h3 (by decide) dL_law_1159 dL_law_1160 dL_law_1161 dL_law_1162 dL_law_1163 ?_
  refine cg_V (As := [.int (xs (i + 1)), .int (xs (i + 2))]) (rest := [.int r]) (st2 := [.int r, .int r]) (n := 2) hX hM (c_X11_judge l (o := 85) kn_85 e2) mv_X11_judge q_46_20 ⟨rfl, rfl⟩ ⟨Nat.le_of_ble_eq_true rfl, Nat.le_of_ble_eq_true rfl⟩ kn_85 (by decide) rfl rfl rfl hl.1 rfl (Nat.le_of_ble_eq_true rfl) dL_law_1164 rfl ⟨Nat.le_of_ble_eq_true rfl, Nat.le_of_ble_eq_true rfl⟩ (fun H locs hM => ?_)
  exact lv_icmp_eq (tgt := 1434) hX.1.1 hX.1.2.1 dL_law_1167 (by decide) (fun _ => kk μ2 S2 H locs hM g1 g2) (fun z => absurd rfl z)
theorem lc_image (l : Launch) : LCall l 1172 := by
  intro p e s m args below meth c H locs Q ls E μ ret b L i n xs S hX hM hx hbl hbA hL hi hn h1 h2 hl kk
  have h0 := lv_at hl 3 rfl
  have h3 := lv_at hl 0 rfl
  obtain ⟨r, μ1, μ2, S2, e1, e2, g1, g2⟩ := call_image  n S μ hn h1 h2
  refine lv_aload_n hX.1.1 hX.1.2.1 dL_law_1172 rfl (lv_at hl 2 rfl) ?_
  refine cg_V (As := []) (rest := []) (st2 := [.int r]) (n := 0) hX hM (c_X10_image l (o := 0) kn_0 e1) mv_X10_image q_47_3 ⟨rfl, rfl⟩ ⟨Nat.le_of_ble_eq_true rfl, Nat.le_of_ble_eq_true rfl⟩ kn_0 (by decide) rfl rfl rfl hl.1 rfl (Nat.le_of_ble_eq_true rfl) dL_law_1173 rfl ⟨Nat.le_of_ble_eq_true rfl, Nat.le_of_ble_eq_true rfl⟩ (fun H locs hM => ?_)
  refine lv_aload_n hX.1.1 hX.1.2.1 dL_law_1176 rfl (lv_at hl 1 rfl) ?_
  refine cg_V (As := []) (rest := [.int r]) (st2 := [.int r, .int r]) (n := 0) hX hM (c_X11_image l (o := 85) kn_85 e2) mv_X11_image q_47_18 ⟨rfl, rfl⟩ ⟨Nat.le_of_ble_eq_true rfl, Nat.le_of_ble_eq_true rfl⟩ kn_85 (by decide) rfl rfl rfl hl.1 rfl (Nat.le_of_ble_eq_true rfl) dL_law_1177 rfl ⟨Nat.le_of_ble_eq_true rfl, Nat.le_of_ble_eq_true rfl⟩ (fun H locs hM => ?_)
  exact lv_icmp_eq (tgt := 1434) hX.1.1 hX.1.2.1 dL_law_1180 (by decide) (fun _ => kk μ2 S2 H locs hM g1 g2) (fun z => absurd rfl z)
theorem lc_undo (l : Launch) : LCall l 1185 := by
  intro p e s m args below meth c H locs Q ls E μ ret b L i n xs S hX hM hx hbl hbA hL hi hn h1 h2 hl kk
  have h0 := lv_at hl 3 rfl
  have h3 := lv_at hl 0 rfl
  obtain ⟨r, μ1, μ2, S2, e1, e2, g1, g2⟩ := call_undo  n S μ hn h1 h2
  refine lv_aload_n hX.1.1 hX.1.2.1 dL_law_1185 rfl (lv_at hl 2 rfl) ?_
  refine cg_V (As := []) (rest := []) (st2 := [.int r]) (n := 0) hX hM (c_X10_undo l (o := 0) kn_0 e1) mv_X10_undo q_47_23 ⟨rfl, rfl⟩ ⟨Nat.le_of_ble_eq_true rfl, Nat.le_of_ble_eq_true rfl⟩ kn_0 (by decide) rfl rfl rfl hl.1 rfl (Nat.le_of_ble_eq_true rfl) dL_law_1186 rfl ⟨Nat.le_of_ble_eq_true rfl, Nat.le_of_ble_eq_true rfl⟩ (fun H locs hM => ?_)
  refine lv_aload_n hX.1.1 hX.1.2.1 dL_law_1189 rfl (lv_at hl 1 rfl) ?_
  refine cg_V (As := []) (rest := [.int r]) (st2 := [.int r, .int r]) (n := 0) hX hM (c_X11_undo l (o := 85) kn_85 e2) mv_X11_undo q_48_3 ⟨rfl, rfl⟩ ⟨Nat.le_of_ble_eq_true rfl, Nat.le_of_ble_eq_true rfl⟩ kn_85 (by decide) rfl rfl rfl hl.1 rfl (Nat.le_of_ble_eq_true rfl) dL_law_1190 rfl ⟨Nat.le_of_ble_eq_true rfl, Nat.le_of_ble_eq_true rfl⟩ (fun H locs hM => ?_)
  exact lv_icmp_eq (tgt := 1434) hX.1.1 hX.1.2.1 dL_law_1193 (by decide) (fun _ => kk μ2 S2 H locs hM g1 g2) (fun z => absurd rfl z)
theorem lc_count (l : Launch) : LCall l 1198 := by
  intro p e s m args below meth c H locs Q ls E μ ret b L i n xs S hX hM hx hbl hbA hL hi hn h1 h2 hl kk
  have h0 := lv_at hl 3 rfl
  have h3 := lv_at hl 0 rfl
  obtain ⟨r, μ1, μ2, S2, e1, e2, g1, g2⟩ := call_count (xs (i + 1)) n S μ hn h1 h2
  refine lv_aload_n hX.1.1 hX.1.2.1 dL_law_1198 rfl (lv_at hl 2 rfl) ?_
  refine lw_ld (k := 1) hX hM hx hbl hbA hL (by omega) h0 h3 (by decide) dL_law_1199 dL_law_1200 dL_law_1201 dL_law_1202 dL_law_1203 ?_
  refine cg_V (As := [.int (xs (i + 1))]) (rest := []) (st2 := [.int r]) (n := 1) hX hM (c_X10_count l (o := 0) kn_0 e1) mv_X10_count q_48_7 ⟨rfl, rfl⟩ ⟨Nat.le_of_ble_eq_true rfl, Nat.le_of_ble_eq_true rfl⟩ kn_0 (by decide) rfl rfl rfl hl.1 rfl (Nat.le_of_ble_eq_true rfl) dL_law_1204 rfl ⟨Nat.le_of_ble_eq_true rfl, Nat.le_of_ble_eq_true rfl⟩ (fun H locs hM => ?_)
  refine lv_aload_n hX.1.1 hX.1.2.1 dL_law_1207 rfl (lv_at hl 1 rfl) ?_
  refine lw_ld (k := 1) hX hM hx hbl hbA hL (by omega) h0 h3 (by decide) dL_law_1208 dL_law_1209 dL_law_1210 dL_law_1211 dL_law_1212 ?_
  refine cg_V (As := [.int (xs (i + 1))]) (rest := [.int r]) (st2 := [.int r, .int r]) (n := 1) hX hM (c_X11_count l (o := 85) kn_85 e2) mv_X11_count q_48_15 ⟨rfl, rfl⟩ ⟨Nat.le_of_ble_eq_true rfl, Nat.le_of_ble_eq_true rfl⟩ kn_85 (by decide) rfl rfl rfl hl.1 rfl (Nat.le_of_ble_eq_true rfl) dL_law_1213 rfl ⟨Nat.le_of_ble_eq_true rfl, Nat.le_of_ble_eq_true rfl⟩ (fun H locs hM => ?_)
  exact lv_icmp_eq (tgt := 1434) hX.1.1 hX.1.2.1 dL_law_1216 (by decide) (fun _ => kk μ2 S2 H locs hM g1 g2) (fun z => absurd rfl z)
theorem lc_tape (l : Launch) : LCall l 1221 := by
  intro p e s m args below meth c H locs Q ls E μ ret b L i n xs S hX hM hx hbl hbA hL hi hn h1 h2 hl kk
  have h0 := lv_at hl 3 rfl
  have h3 := lv_at hl 0 rfl
  obtain ⟨r, μ1, μ2, S2, e1, e2, g1, g2⟩ := call_tape (xs (i + 1)) (xs (i + 2)) (xs (i + 3)) n S μ hn h1 h2
  refine lv_aload_n hX.1.1 hX.1.2.1 dL_law_1221 rfl (lv_at hl 2 rfl) ?_
  refine lw_ld (k := 1) hX hM hx hbl hbA hL (by omega) h0 h3 (by decide) dL_law_1222 dL_law_1223 dL_law_1224 dL_law_1225 dL_law_1226 ?_
  refine lw_ld (k := 2) hX hM hx hbl hbA hL (by omega) h0 h3 (by decide) dL_law_1227 dL_law_1228 dL_law_1229 dL_law_1230 dL_law_1231 ?_
  refine lw_ld (k := 3) hX hM hx hbl hbA hL (by omega) h0 h3 (by decide) dL_law_1232 dL_law_1233 dL_law_1234 dL_law_1235 dL_law_1236 ?_
  refine cg_V (As := [.int (xs (i + 1)), .int (xs (i + 2)), .int (xs (i + 3))]) (rest := []) (st2 := [.int r]) (n := 3) hX hM (c_X10_tape l (o := 0) kn_0 e1) mv_X10_tape q_48_19 ⟨rfl, rfl⟩ ⟨Nat.le_of_ble_eq_true rfl, Nat.le_of_ble_eq_true rfl⟩ kn_0 (by decide) rfl rfl rfl hl.1 rfl (Nat.le_of_ble_eq_true rfl) dL_law_1237 rfl ⟨Nat.le_of_ble_eq_true rfl, Nat.le_of_ble_eq_true rfl⟩ (fun H locs hM => ?_)
  refine lv_aload_n hX.1.1 hX.1.2.1 dL_law_1240 rfl (lv_at hl 1 rfl) ?_
  refine lw_ld (k := 1) hX hM hx hbl hbA hL (by omega) h0 h3 (by decide) dL_law_1241 dL_law_1242 dL_law_1243 dL_law_1244 dL_law_1245 ?_
  refine lw_ld (k := 2) hX hM hx hbl hbA hL (by omega) h0 h3 (by decide) dL_law_1246 dL_law_1247 dL_law_1248 dL_law_1249 dL_law_1250 ?_
  refine lw_ld (k := 3) hX hM hx hbl hbA hL (by omega) h0 h3 (by decide) dL_law_1251 dL_law_1252 dL_law_1253 dL_law_1254 dL_law_1255 ?_
  refine cg_V (As := [.int (xs (i + 1)), .int (xs (i + 2)), .int (xs (i + 3))]) (rest := [.int r]) (st2 := [.int r, .int r]) (n := 3) hX hM (c_X11_tape l (o := 85) kn_85 e2) mv_X11_tape q_49_6 ⟨rfl, rfl⟩ ⟨Nat.le_of_ble_eq_true rfl, Nat.le_of_ble_eq_true rfl⟩ kn_85 (by decide) rfl rfl rfl hl.1 rfl (Nat.le_of_ble_eq_true rfl) dL_law_1256 rfl ⟨Nat.le_of_ble_eq_true rfl, Nat.le_of_ble_eq_true rfl⟩ (fun H locs hM => ?_)
  exact lv_icmp_eq (tgt := 1434) hX.1.1 hX.1.2.1 dL_law_1259 (by decide) (fun _ => kk μ2 S2 H locs hM g1 g2) (fun z => absurd rfl z)
theorem lc_item (l : Launch) : LCall l 1264 := by
  intro p e s m args below meth c H locs Q ls E μ ret b L i n xs S hX hM hx hbl hbA hL hi hn h1 h2 hl kk
  have h0 := lv_at hl 3 rfl
  have h3 := lv_at hl 0 rfl
  obtain ⟨r, μ1, μ2, S2, e1, e2, g1, g2⟩ := call_item (xs (i + 1)) (xs (i + 2)) (((((xs (i + 3)).toInt64) <<< ((32 : Int32).toInt64 &&& 63)) ||| (((xs (i + 4)).toInt64) &&& (4294967295 : Int64)))) n S μ hn h1 h2
  refine lv_aload_n hX.1.1 hX.1.2.1 dL_law_1264 rfl (lv_at hl 2 rfl) ?_
  refine lw_ld (k := 1) hX hM hx hbl hbA hL (by omega) h0 h3 (by decide) dL_law_1265 dL_law_1266 dL_law_1267 dL_law_1268 dL_law_1269 ?_
  refine lw_ld (k := 2) hX hM hx hbl hbA hL (by omega) h0 h3 (by decide) dL_law_1270 dL_law_1271 dL_law_1272 dL_law_1273 dL_law_1274 ?_
  refine lw_ld (k := 3) hX hM hx hbl hbA hL (by omega) h0 h3 (by decide) dL_law_1275 dL_law_1276 dL_law_1277 dL_law_1278 dL_law_1279 ?_
  refine lv_i2l (v := (xs (i + 3)).toInt64) hX.1.1 hX.1.2.1 dL_law_1280 rfl ?_
  refine lv_bipush (v := 32) hX.1.1 hX.1.2.1 dL_law_1281 (by decide) ?_
  refine lv_lshl (v := (((xs (i + 3)).toInt64) <<< ((32 : Int32).toInt64 &&& 63))) hX.1.1 hX.1.2.1 dL_law_1283 rfl ?_
  refine lw_ld (k := 4) hX hM hx hbl hbA hL (by omega) h0 h3 (by decide) dL_law_1284 dL_law_1285 dL_law_1286 dL_law_1287 dL_law_1288 ?_
  refine lv_i2l (v := (xs (i + 4)).toInt64) hX.1.1 hX.1.2.1 dL_law_1289 rfl ?_
  refine lv_ldc2 (v := 4294967295) hX.1.1 hX.1.2.1 hX.1.2.2.2.1 (hX.1.2.2.2.2 _ q_1_6) dL_law_1290 ?_
  refine lv_land hX.1.1 hX.1.2.1 dL_law_1293 ?_
  refine lv_lor hX.1.1 hX.1.2.1 dL_law_1294 ?_
  refine cg_V (As := [.int (xs (i + 1)), .int (xs (i + 2)), .long (((((xs (i + 3)).toInt64) <<< ((32 : Int32).toInt64 &&& 63)) ||| (((xs (i + 4)).toInt64) &&& (4294967295 : Int64))))]) (rest := []) (st2 := [.int r]) (n := 3) hX hM (c_X10_item l (o := 0) kn_0 e1) mv_X10_item q_49_10 ⟨rfl, rfl⟩ ⟨Nat.le_of_ble_eq_true rfl, Nat.le_of_ble_eq_true rfl⟩ kn_0 (by decide) rfl rfl rfl hl.1 rfl (Nat.le_of_ble_eq_true rfl) dL_law_1295 rfl ⟨Nat.le_of_ble_eq_true rfl, Nat.le_of_ble_eq_true rfl⟩ (fun H locs hM => ?_)
  refine lv_aload_n hX.1.1 hX.1.2.1 dL_law_1298 rfl (lv_at hl 1 rfl) ?_
  refine lw_ld (k := 1) hX hM hx hbl hbA hL (by omega) h0 h3 (by decide) dL_law_1299 dL_law_1300 dL_law_1301 dL_law_1302 dL_law_1303 ?_
  refine lw_ld (k := 2) hX hM hx hbl hbA hL (by omega) h0 h3 (by decide) dL_law_1304 dL_law_1305 dL_law_1306 dL_law_1307 dL_law_1308 ?_
  refine lw_ld (k := 3) hX hM hx hbl hbA hL (by omega) h0 h3 (by decide) dL_law_1309 dL_law_1310 dL_law_1311 dL_law_1312 dL_law_1313 ?_
  refine lv_i2l (v := (xs (i + 3)).toInt64) hX.1.1 hX.1.2.1 dL_law_1314 rfl ?_
  refine lv_bipush (v := 32) hX.1.1 hX.1.2.1 dL_law_1315 (by decide) ?_
  refine lv_lshl (v := (((xs (i + 3)).toInt64) <<< ((32 : Int32).toInt64 &&& 63))) hX.1.1 hX.1.2.1 dL_law_1317 rfl ?_
  refine lw_ld (k := 4) hX hM hx hbl hbA hL (by omega) h0 h3 (by decide) dL_law_1318 dL_law_1319 dL_law_1320 dL_law_1321 dL_law_1322 ?_
  refine lv_i2l (v := (xs (i + 4)).toInt64) hX.1.1 hX.1.2.1 dL_law_1323 rfl ?_
  refine lv_ldc2 (v := 4294967295) hX.1.1 hX.1.2.1 hX.1.2.2.2.1 (hX.1.2.2.2.2 _ q_1_6) dL_law_1324 ?_
  refine lv_land hX.1.1 hX.1.2.1 dL_law_1327 ?_
  refine lv_lor hX.1.1 hX.1.2.1 dL_law_1328 ?_
  refine cg_V (As := [.int (xs (i + 1)), .int (xs (i + 2)), .long (((((xs (i + 3)).toInt64) <<< ((32 : Int32).toInt64 &&& 63)) ||| (((xs (i + 4)).toInt64) &&& (4294967295 : Int64))))]) (rest := [.int r]) (st2 := [.int r, .int r]) (n := 3) hX hM (c_X11_item l (o := 85) kn_85 e2) mv_X11_item q_49_22 ⟨rfl, rfl⟩ ⟨Nat.le_of_ble_eq_true rfl, Nat.le_of_ble_eq_true rfl⟩ kn_85 (by decide) rfl rfl rfl hl.1 rfl (Nat.le_of_ble_eq_true rfl) dL_law_1329 rfl ⟨Nat.le_of_ble_eq_true rfl, Nat.le_of_ble_eq_true rfl⟩ (fun H locs hM => ?_)
  exact lv_icmp_eq (tgt := 1434) hX.1.1 hX.1.2.1 dL_law_1332 (by decide) (fun _ => kk μ2 S2 H locs hM g1 g2) (fun z => absurd rfl z)
theorem lc_peek (l : Launch) : LCall l 1337 := by
  intro p e s m args below meth c H locs Q ls E μ ret b L i n xs S hX hM hx hbl hbA hL hi hn h1 h2 hl kk
  have h0 := lv_at hl 3 rfl
  have h3 := lv_at hl 0 rfl
  obtain ⟨r, μ1, μ2, S2, e1, e2, g1, g2⟩ := call_peek (xs (i + 1)) (xs (i + 2)) n S μ hn h1 h2
  refine lv_aload_n hX.1.1 hX.1.2.1 dL_law_1337 rfl (lv_at hl 2 rfl) ?_
  refine lw_ld (k := 1) hX hM hx hbl hbA hL (by omega) h0 h3 (by decide) dL_law_1338 dL_law_1339 dL_law_1340 dL_law_1341 dL_law_1342 ?_
  refine lw_ld (k := 2) hX hM hx hbl hbA hL (by omega) h0 h3 (by decide) dL_law_1343 dL_law_1344 dL_law_1345 dL_law_1346 dL_law_1347 ?_
  refine cg_V (As := [.int (xs (i + 1)), .int (xs (i + 2))]) (rest := []) (st2 := [.long r]) (n := 2) hX hM (c_X10_peek l (o := 0) kn_0 e1) mv_X10_peek q_50_5 ⟨rfl, rfl⟩ ⟨Nat.le_of_ble_eq_true rfl, Nat.le_of_ble_eq_true rfl⟩ kn_0 (by decide) rfl rfl rfl hl.1 rfl (Nat.le_of_ble_eq_true rfl) dL_law_1348 rfl ⟨Nat.le_of_ble_eq_true rfl, Nat.le_of_ble_eq_true rfl⟩ (fun H locs hM => ?_)
  refine lv_aload_n hX.1.1 hX.1.2.1 dL_law_1351 rfl (lv_at hl 1 rfl) ?_
  refine lw_ld (k := 1) hX hM hx hbl hbA hL (by omega) h0 h3 (by decide) dL_law_1352 dL_law_1353 dL_law_1354 dL_law_1355 dL_law_1356 ?_
  refine lw_ld (k := 2) hX hM hx hbl hbA hL (by omega) h0 h3 (by decide) dL_law_1357 dL_law_1358 dL_law_1359 dL_law_1360 dL_law_1361 ?_
  refine cg_V (As := [.int (xs (i + 1)), .int (xs (i + 2))]) (rest := [.long r]) (st2 := [.long r, .long r]) (n := 2) hX hM (c_X11_peek l (o := 85) kn_85 e2) mv_X11_peek q_50_9 ⟨rfl, rfl⟩ ⟨Nat.le_of_ble_eq_true rfl, Nat.le_of_ble_eq_true rfl⟩ kn_85 (by decide) rfl rfl rfl hl.1 rfl (Nat.le_of_ble_eq_true rfl) dL_law_1362 rfl ⟨Nat.le_of_ble_eq_true rfl, Nat.le_of_ble_eq_true rfl⟩ (fun H locs hM => ?_)
  refine W.lcmp hX.1.1 hX.1.2.1 dL_law_1365 ?_
  exact lv_if_eq (tgt := 1434) hX.1.1 hX.1.2.1 dL_law_1366 (by decide) (fun _ => kk μ2 S2 H locs hM g1 g2) (fun z => absurd (lgc0.mpr rfl) z)
theorem lc_shift (l : Launch) : LCall l 1371 := by
  intro p e s m args below meth c H locs Q ls E μ ret b L i n xs S hX hM hx hbl hbA hL hi hn h1 h2 hl kk
  have h0 := lv_at hl 3 rfl
  have h3 := lv_at hl 0 rfl
  obtain ⟨r, μ1, μ2, S2, e1, e2, g1, g2⟩ := call_shift (xs (i + 1)) (xs (i + 2)) (xs (i + 3)) (xs (i + 4)) (xs (i + 5)) n S μ hn h1 h2
  refine lv_aload_n hX.1.1 hX.1.2.1 dL_law_1371 rfl (lv_at hl 2 rfl) ?_
  refine lw_ld (k := 1) hX hM hx hbl hbA hL (by omega) h0 h3 (by decide) dL_law_1372 dL_law_1373 dL_law_1374 dL_law_1375 dL_law_1376 ?_
  refine lw_ld (k := 2) hX hM hx hbl hbA hL (by omega) h0 h3 (by decide) dL_law_1377 dL_law_1378 dL_law_1379 dL_law_1380 dL_law_1381 ?_
  refine lw_ld (k := 3) hX hM hx hbl hbA hL (by omega) h0 h3 (by decide) dL_law_1382 dL_law_1383 dL_law_1384 dL_law_1385 dL_law_1386 ?_
  refine lw_ld (k := 4) hX hM hx hbl hbA hL (by omega) h0 h3 (by decide) dL_law_1387 dL_law_1388 dL_law_1389 dL_law_1390 dL_law_1391 ?_
  refine lw_ld (k := 5) hX hM hx hbl hbA hL (by omega) h0 h3 (by decide) dL_law_1392 dL_law_1393 dL_law_1394 dL_law_1395 dL_law_1396 ?_
  refine cg_V (As := [.int (xs (i + 1)), .int (xs (i + 2)), .int (xs (i + 3)), .int (xs (i + 4)), .int (xs (i + 5))]) (rest := []) (st2 := [.int r]) (n := 5) hX hM (c_X10_shift l (o := 0) kn_0 e1) mv_X10_shift q_50_13 ⟨rfl, rfl⟩ ⟨Nat.le_of_ble_eq_true rfl, Nat.le_of_ble_eq_true rfl⟩ kn_0 (by decide) rfl rfl rfl hl.1 rfl (Nat.le_of_ble_eq_true rfl) dL_law_1397 rfl ⟨Nat.le_of_ble_eq_true rfl, Nat.le_of_ble_eq_true rfl⟩ (fun H locs hM => ?_)
  refine lv_aload_n hX.1.1 hX.1.2.1 dL_law_1400 rfl (lv_at hl 1 rfl) ?_
  refine lw_ld (k := 1) hX hM hx hbl hbA hL (by omega) h0 h3 (by decide) dL_law_1401 dL_law_1402 dL_law_1403 dL_law_1404 dL_law_1405 ?_
  refine lw_ld (k := 2) hX hM hx hbl hbA hL (by omega) h0 h3 (by decide) dL_law_1406 dL_law_1407 dL_law_1408 dL_law_1409 dL_law_1410 ?_
  refine lw_ld (k := 3) hX hM hx hbl hbA hL (by omega) h0 h3 (by decide) dL_law_1411 dL_law_1412 dL_law_1413 dL_law_1414 dL_law_1415 ?_
  refine lw_ld (k := 4) hX hM hx hbl hbA hL (by omega) h0 h3 (by decide) dL_law_1416 dL_law_1417 dL_law_1418 dL_law_1419 dL_law_1420 ?_
  refine lw_ld (k := 5) hX hM hx hbl hbA hL (by omega) h0 h3 (by decide) dL_law_1421 dL_law_1422 dL_law_1423 dL_law_1424 dL_law_1425 ?_
  refine cg_V (As := [.int (xs (i + 1)), .int (xs (i + 2)), .int (xs (i + 3)), .int (xs (i + 4)), .int (xs (i + 5))]) (rest := [.int r]) (st2 := [.int r, .int r]) (n := 5) hX hM (c_X11_shift l (o := 85) kn_85 e2) mv_X11_shift q_51_3 ⟨rfl, rfl⟩ ⟨Nat.le_of_ble_eq_true rfl, Nat.le_of_ble_eq_true rfl⟩ kn_85 (by decide) rfl rfl rfl hl.1 rfl (Nat.le_of_ble_eq_true rfl) dL_law_1426 rfl ⟨Nat.le_of_ble_eq_true rfl, Nat.le_of_ble_eq_true rfl⟩ (fun H locs hM => ?_)
  exact lv_icmp_eq (tgt := 1434) hX.1.1 hX.1.2.1 dL_law_1429 (by decide) (fun _ => kk μ2 S2 H locs hM g1 g2) (fun z => absurd rfl z)
end LC
