/-! rows for the law's own walk: with cells and slots -/
section LB
variable {p : Program} {l : Launch} {e : Env} {R : Room} {s : State} {m : MethodId} {args : Array Value} {below : List Frame} {meth : Method} {c : Code} {H : Heap} {locs : List Loc} {Q : State → Prop} {cells slots : Nat}
variable {cc : ByteArray} {pc nL : Nat} {ls : Array Slot} {rest : List Value} {E : EE} {μ μ2 : Mem} {own : String} {ret : Option FieldType} {v : Option Value}
theorem cg_go {st0 : List Value} {a : Array Value} (hr : va_Run p l e R s m args below meth c H locs cells slots 0 0 (F0 m pc ls st0) rest (QC E v μ2 a) (AA E)) (hM : MM E s μ H locs)
    (kk : ∀ (H1 : Heap) (locs1 : List Loc), MM E s μ2 H1 locs1 → W p l e R s m args below meth c H1 locs1 cells slots Q (F0 m (pc + 3) ls (v.toList ++ rest))) : W p l e R s m args below meth c H locs cells slots Q (F0 m pc ls st0) := by
  intro T hT X
  obtain ⟨v1, st₀, t, T', L, h0, X', hL, e1, e2, ⟨⟨hv, hP⟩, hz, hk⟩, st⟩ := hr T hT X
  cases hv
  rw [h0] at hz hk
  have hS := hM.2
  obtain ⟨t2, a1, b1⟩ := kk T'.heap (locs ++ L) ⟨by rw [e1]; exact hP, Nat.le_trans hS.1 (by rw [e1]; exact hz), fun q h1 h2 => by rw [e1, hk q (Nat.lt_of_lt_of_le h1 hS.1) h2]; exact hS.2.1 q h1 h2, fun q hq => by
      rcases List.mem_append.mp hq with h | h
      · exact hS.2.2 q h
      · exact hL q h⟩ T' rfl X'
  exact ⟨t2, st t2 a1, b1⟩
theorem cg_V {y : MethodName} {rm : Room} {As st st2 : List Value} {b idx maxL n kd : Nat} {bytes : ByteArray} {ret2 : Option FieldType} {C : String} {q : vw_C} (hX : XX E p m meth c cc nL ret s args own) (hM : MM E s μ H locs) (hC : CT E l y bytes maxL ret2 rm (.ref (eA E b) :: As) μ v μ2)
    (hmv : MV y bytes maxL ret2 C n) (hlk : Cond.methodLink own idx y ∈ wsL_law) (hrm : rm.cells = 0 ∧ rm.slots = 0) (hR : rm.frames + 1 ≤ R.frames ∧ 8 + (maxL + 11) + rm.locals ≤ R.locals)
    (hb : knd b = kd) (hk : kd < 10) (hc : vwCl[kd]? = some q) (hq : q.1 = C) (hn : As.length = n) (hsz : ls.size = nL) (hst : st = As.reverse ++ .ref (eA E b) :: rest) (hro : (rest.map fun v => v.category).sum ≤ 8) (hdg : decode cc pc = .ok (.invokevirtual idx, 3)) (hst2 : v.toList ++ rest = st2) (hf : cells + 0 ≤ R.cells ∧ slots + 0 ≤ R.slots)
    (kk : ∀ (H1 : Heap) (locs1 : List Loc), MM E s μ2 H1 locs1 → W p l e R s m args below meth c H1 locs1 cells slots Q (F0 m (pc + 3) ls st2)) : W p l e R s m args below meth c H locs cells slots Q (F0 m pc ls st) := by
  subst hq; subst hst2
  exact cg_go (va_runV (As := As) (rest := rest) (C := q.1) hX.1 hC ⟨callB_of n hX.1.2.2.2.2 (gz hmv.1) rfl hrm.1 hrm.2 (by rw [hmv.2.2.2.2.1]; exact hX.1.2.2.2.2 _ hmv.2.2.2.1) (hX.1.2.2.2.2 _ hlk) hmv.2.2.2.2.2 hR, hX.1.2.2.2.2 _ hmv.2.1, hX.1.2.2.2.2 _ hmv.2.2.1⟩ ⟨WD.blind, recvO hX hM hb hk hc, fun U hU hW => ⟨rfl, WD.at hX hM hU hW⟩⟩ rfl hn hsz hst (lv_room hro) hdg hf) hM kk
/-- an int of the script -/
theorem lw_ld {b L i k : Nat} {kz : Int} {xs : Nat → Int32} (hX : XX E p m meth c cc nL ret s args own) (hM : MM E s μ H locs) (hx : va_X b L xs s s.heap) (hbl : b < s.heap.size) (hbA : ¬ AA E b) (hL : L ≤ 3072) (hi : i + k < L) (h0 : ls[0]? = some (.val (.ref b))) (h3 : ls[3]? = some (.val (.int (nI i)))) (hk : Int32.ofInt kz = nI k)
    (d1 : decode cc pc = .ok (.aload_n 0, 1)) (d2 : decode cc (pc + 1) = .ok (.iload_n 3, 1)) (d3 : decode cc (pc + 2) = .ok (.iconst kz, 1)) (d4 : decode cc (pc + 3) = .ok (.iadd, 1)) (d5 : decode cc (pc + 4) = .ok (.iaload, 1))
    (kk : W p l e R s m args below meth c H locs cells slots Q (F0 m (pc + 5) ls (.int (xs (i + k)) :: rest))) : W p l e R s m args below meth c H locs cells slots Q (F0 m pc ls rest) := by
  refine lv_aload_n hX.1.1 hX.1.2.1 d1 rfl h0 ?_
  refine lv_iload_n hX.1.1 hX.1.2.1 d2 rfl h3 ?_
  refine lv_iconst hX.1.1 hX.1.2.1 d3 hk ?_
  refine lv_iadd hX.1.1 hX.1.2.1 d4 ?_
  rw [nI_add]
  refine va_sld hX.1.1 hX.1.2.1 hx hbl hbA hM.2 (vp_in_nI hi (by omega)) d5 ?_
  rw [nI_clamp (by omega)]
  exact kk
end LB
