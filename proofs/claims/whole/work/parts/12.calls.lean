section CL
variable {p : Program} {l : Launch} {e : Env} {R : Room} {s : State} {m : MethodId} {args : Array Value} {below : List Frame} {meth : Method} {c : Code} {H : Heap} {locs : List Loc} {Q : State → Prop}
variable {cc : ByteArray} {pc nL : Nat} {ls : Array Slot} {rest : List Value} {E : EE} {μ μ2 : Mem} {own : String} {ret : Option FieldType} {v : Option Value}
theorem CT.of {y : MethodName} {rm : Room} {av : List Value} {maxL : Nat} {lv0 : List (Nat × Value)} (hy : plainFor y = true) (hlen : (lg_sl av).length ≤ maxL) (hlv : lv_args 0 av = lv0)
    (body : ∀ (p : Program) (e : Env) (s : State) (m : MethodId) (below : List Frame) (meth : Method) (c : Code) (ls : Array Slot), XX E p m meth c cc maxL ret s av.toArray y.cls → MM E s μ s.heap [] → lv_has ls maxL lv0 → W p l e rm s m av.toArray below meth c s.heap [] 0 0 (MQ below (QC E v μ2) av.toArray s 0 0 (AA E)) (F0 m 0 ls [])) : CT E l y cc maxL ret rm av μ v μ2 := by
  refine va_MetF (cc := cc) (maxL := maxL) (ret := ret) hy rfl ?_
  intro p e s m args below meth c s₁ B hml hv
  obtain ⟨rfl, hP, hK, hI, hS⟩ := hv
  have hts := fun (w : Cond) (h : w ∈ wsL_law) => atoms_spec (ws := Cond.code y cc maxL ret :: wsL_law) B.pre w (List.mem_cons_of_mem _ h)
  have hX : XX E p m meth c cc maxL ret s av.toArray y.cls := ⟨⟨B.exec, B.bytes, hml, findClass_of_methodNamed B.named, hts⟩, hK, hI, hS, B.returns, B.notSynchronized⟩
  have hl := lv_entry av (n := maxL) hlen
  rw [lg_entry_eq]
  rw [hlv] at hl
  exact body p e s m below meth c _ hX ⟨hP, va_S.rf⟩ hl
theorem rt_i {x : Int32} (hX : XX E p m meth c cc nL (some .int) s args own) (hM : MM E s μ H locs) (hv : some (Value.int x) = v) (hμ : μ = μ2) (hdg : decode cc pc = .ok (.ireturn, 1)) : W p l e R s m args below meth c H locs 0 0 (MQ below (QC E v μ2) args s 0 0 (AA E)) (F0 m pc ls [.int x]) := by
  subst hv; subst hμ
  exact W.iret hX.1.1 hX.1.2.1 hX.2.2.2.2.1 (fun t ht hW => ⟨⟨rfl, by rw [ht]; exact hM.1⟩, hM.2.F ht⟩) hM.2.2.2 hdg hX.2.2.2.2.2
theorem rt_l {x : Int64} (hX : XX E p m meth c cc nL (some .long) s args own) (hM : MM E s μ H locs) (hv : some (Value.long x) = v) (hμ : μ = μ2) (hdg : decode cc pc = .ok (.lreturn, 1)) : W p l e R s m args below meth c H locs 0 0 (MQ below (QC E v μ2) args s 0 0 (AA E)) (F0 m pc ls [.long x]) := by
  subst hv; subst hμ
  exact W.lret hX.1.1 hX.1.2.1 hX.2.2.2.2.1 (fun t ht hW => ⟨⟨rfl, by rw [ht]; exact hM.1⟩, hM.2.F ht⟩) hM.2.2.2 hdg hX.2.2.2.2.2
theorem rt_d {x : UInt64} (hX : XX E p m meth c cc nL (some .double) s args own) (hM : MM E s μ H locs) (hv : some (Value.double x) = v) (hμ : μ = μ2) (hdg : decode cc pc = .ok (.dreturn, 1)) : W p l e R s m args below meth c H locs 0 0 (MQ below (QC E v μ2) args s 0 0 (AA E)) (F0 m pc ls [.double x]) := by
  subst hv; subst hμ
  exact W.dret hX.1.1 hX.1.2.1 hX.2.2.2.2.1 (fun t ht hW => ⟨⟨rfl, by rw [ht]; exact hM.1⟩, hM.2.F ht⟩) hM.2.2.2 hdg hX.2.2.2.2.2
theorem rt_v (hX : XX E p m meth c cc nL none s args own) (hM : MM E s μ H locs) (hv : none = v) (hμ : μ = μ2) (hdg : decode cc pc = .ok (.return_, 1)) : W p l e R s m args below meth c H locs 0 0 (MQ below (QC E v μ2) args s 0 0 (AA E)) (F0 m pc ls []) := by
  subst hv; subst hμ
  exact W.vret hX.1.1 hX.1.2.1 hX.2.2.2.2.1 (fun t ht hW => ⟨⟨rfl, by rw [ht]; exact hM.1⟩, hM.2.F ht⟩) hM.2.2.2 hdg hX.2.2.2.2.2
theorem rt_z {x : Int32} {ty : FieldType} (hX : XX E p m meth c cc nL (some ty) s args own) (hM : MM E s μ H locs) (hn : narrow ty (.int x) = .int x) (hv : some (Value.int x) = v) (hμ : μ = μ2) (hdg : decode cc pc = .ok (.ireturn, 1)) : W p l e R s m args below meth c H locs 0 0 (MQ below (QC E v μ2) args s 0 0 (AA E)) (F0 m pc ls [.int x]) := by
  subst hv; subst hμ
  exact W.zret hX.1.1 hX.1.2.1 hX.2.2.2.2.1 hn (fun t ht hW => ⟨⟨rfl, by rw [ht]; exact hM.1⟩, hM.2.F ht⟩) hM.2.2.2 hdg hX.2.2.2.2.2
theorem rt_a {x : Nat} {rt : FieldType} (hX : XX E p m meth c cc nL (some rt) s args own) (hM : MM E s μ H locs) (hrt : (∃ n, rt = .object n) ∨ ∃ t, rt = .array t) (hv : some (Value.ref x) = v) (hμ : μ = μ2) (hdg : decode cc pc = .ok (.areturn, 1)) : W p l e R s m args below meth c H locs 0 0 (MQ below (QC E v μ2) args s 0 0 (AA E)) (F0 m pc ls [.ref x]) := by
  subst hv; subst hμ
  exact W.aret hX.1.1 hX.1.2.1 hX.2.2.2.2.1 hrt (Or.inr ⟨_, rfl⟩) (fun t ht hW => ⟨⟨rfl, by rw [ht]; exact hM.1⟩, hM.2.F ht⟩) hM.2.2.2 hdg hX.2.2.2.2.2
theorem rt_n {rt : FieldType} (hX : XX E p m meth c cc nL (some rt) s args own) (hM : MM E s μ H locs) (hrt : (∃ n, rt = .object n) ∨ ∃ t, rt = .array t) (hv : some Value.null = v) (hμ : μ = μ2) (hdg : decode cc pc = .ok (.areturn, 1)) : W p l e R s m args below meth c H locs 0 0 (MQ below (QC E v μ2) args s 0 0 (AA E)) (F0 m pc ls [.null]) := by
  subst hv; subst hμ
  exact W.aret hX.1.1 hX.1.2.1 hX.2.2.2.2.1 hrt (Or.inl rfl) (fun t ht hW => ⟨⟨rfl, by rw [ht]; exact hM.1⟩, hM.2.F ht⟩) hM.2.2.2 hdg hX.2.2.2.2.2
theorem cl_go {st0 : List Value} {a : Array Value} (hr : va_Run p l e R s m args below meth c H locs 0 0 0 0 (F0 m pc ls st0) rest (QC E v μ2 a) (AA E)) (hM : MM E s μ H locs)
    (kk : ∀ (H1 : Heap) (locs1 : List Loc), MM E s μ2 H1 locs1 → W p l e R s m args below meth c H1 locs1 0 0 Q (F0 m (pc + 3) ls (v.toList ++ rest))) : W p l e R s m args below meth c H locs 0 0 Q (F0 m pc ls st0) := by
  intro T hT X
  obtain ⟨v1, st₀, t, T', L, h0, X', hL, e1, e2, ⟨⟨hv, hP⟩, hz, hk⟩, st⟩ := hr T hT X
  cases hv
  rw [h0] at hz hk
  have hS := hM.2
  obtain ⟨t2, a1, b1⟩ := kk T'.heap (locs ++ L) ⟨by rw [e1]; exact hP, Nat.le_trans hS.1 (by rw [e1]; exact hz), fun q h1 h2 => by rw [e1, hk q (Nat.lt_of_lt_of_le h1 hS.1) h2]; exact hS.2.1 q h1 h2, fun q hq => by
      rcases List.mem_append.mp hq with h | h
      · exact hS.2.2 q h
      · exact hL q h⟩ T' rfl X'
  exact ⟨t2, st t2 a1, b1⟩
theorem cel_obj {i kd : Nat} (h : knd i = kd) (hk : kd < 10) : ∃ fs : List Value, cel E μ i = .inr (kd, fs) := by
  have h9 : kd = 0 ∨ kd = 1 ∨ kd = 2 ∨ kd = 3 ∨ kd = 4 ∨ kd = 5 ∨ kd = 6 ∨ kd = 7 ∨ kd = 8 ∨ kd = 9 := by omega
  rcases h9 with rfl | rfl | rfl | rfl | rfl | rfl | rfl | rfl | rfl | rfl
  · exact ⟨_, cel_0 h⟩
  · exact ⟨_, cel_1 h⟩
  · exact ⟨_, cel_2 h⟩
  · exact ⟨_, cel_3 h⟩
  · exact ⟨_, cel_4 h⟩
  · exact ⟨_, cel_5 h⟩
  · exact ⟨_, cel_6 h⟩
  · exact ⟨_, cel_7 h⟩
  · exact ⟨_, cel_8 h⟩
  · exact ⟨_, cel_9 h⟩
theorem recvO {i kd : Nat} {q : vw_C} (hX : XX E p m meth c cc nL ret s args own) (hM : MM E s μ H locs) (hi : knd i = kd) (hk : kd < 10) (hc : vwCl[kd]? = some q) : ∃ cell : Cell, H[eA E i]? = some cell ∧ cell.vm.isStatics = false ∧ s.vm.findClass q.1 = some cell.cls := by
  obtain ⟨fs, hf⟩ := cel_obj (E := E) (μ := μ) hi hk
  exact va_recv hX.2.1 hM.1 (ci := kd) (q0 := i) (q := q) (fs := fs) hc ((wsO_get (knd_lt hi (by omega))).trans (by rw [hf]))
theorem WD.at {U : State} (hX : XX E p m meth c cc nL ret s args own) (hM : MM E s μ H locs) (hU : U.heap = H) (hW : s.WarmedH U.vm) : WD E μ U := ⟨by rw [hU]; exact hM.1, va_K.moved hW.alike hX.2.1, hX.2.2.1, hX.2.2.2.1.at hM.2 hU hW⟩
def MV (y : MethodName) (bytes : ByteArray) (maxL : Nat) (ret2 : Option FieldType) (C : String) (n : Nat) : Prop := Cond.code y bytes maxL ret2 ∈ wsL_law ∧ Cond.instanceMethod y ∈ wsL_law ∧ Cond.selects C y y ∈ wsL_law ∧ Cond.initialized C ∈ wsL_law ∧ (y.cls = C ∧ y.cls ≠ "java/lang/invoke/MethodHandle" ∧ y.cls ≠ "java/lang/invoke/VarHandle" ∧ (parseMethodDescriptor y.desc).map (fun d => d.parameters.length) = some n)
def MT (y : MethodName) (bytes : ByteArray) (maxL : Nat) (ret2 : Option FieldType) (n : Nat) : Prop := Cond.code y bytes maxL ret2 ∈ wsL_law ∧ Cond.static y ∈ wsL_law ∧ Cond.initialized y.cls ∈ wsL_law ∧ (y.cls ≠ "java/lang/invoke/MethodHandle" ∧ y.cls ≠ "java/lang/invoke/VarHandle" ∧ (parseMethodDescriptor y.desc).map (fun d => d.parameters.length) = some n)
theorem cl_V {y : MethodName} {rm : Room} {As st st2 : List Value} {b idx maxL n kd : Nat} {bytes : ByteArray} {ret2 : Option FieldType} {C : String} {q : vw_C} (hX : XX E p m meth c cc nL ret s args own) (hM : MM E s μ H locs) (hC : CT E l y bytes maxL ret2 rm (.ref (eA E b) :: As) μ v μ2)
    (hmv : MV y bytes maxL ret2 C n) (hlk : Cond.methodLink own idx y ∈ wsL_law) (hrm : rm.cells = 0 ∧ rm.slots = 0) (hR : rm.frames + 1 ≤ R.frames ∧ 8 + (maxL + 11) + rm.locals ≤ R.locals)
    (hb : knd b = kd) (hk : kd < 10) (hc : vwCl[kd]? = some q) (hq : q.1 = C) (hn : As.length = n) (hsz : ls.size = nL) (hst : st = As.reverse ++ .ref (eA E b) :: rest) (hro : (rest.map fun v => v.category).sum ≤ 8) (hdg : decode cc pc = .ok (.invokevirtual idx, 3)) (hst2 : v.toList ++ rest = st2)
    (kk : ∀ (H1 : Heap) (locs1 : List Loc), MM E s μ2 H1 locs1 → W p l e R s m args below meth c H1 locs1 0 0 Q (F0 m (pc + 3) ls st2)) : W p l e R s m args below meth c H locs 0 0 Q (F0 m pc ls st) := by
  subst hq; subst hst2
  exact cl_go (va_runV (As := As) (rest := rest) (C := q.1) hX.1 hC ⟨callB_of n hX.1.2.2.2.2 (gz hmv.1) rfl hrm.1 hrm.2 (by rw [hmv.2.2.2.2.1]; exact hX.1.2.2.2.2 _ hmv.2.2.2.1) (hX.1.2.2.2.2 _ hlk) hmv.2.2.2.2.2 hR, hX.1.2.2.2.2 _ hmv.2.1, hX.1.2.2.2.2 _ hmv.2.2.1⟩ ⟨WD.blind, recvO hX hM hb hk hc, fun U hU hW => ⟨rfl, WD.at hX hM hU hW⟩⟩ rfl hn hsz hst (lv_room hro) hdg ⟨Nat.zero_le _, Nat.zero_le _⟩) hM kk
theorem cl_S {y : MethodName} {rm : Room} {As st st2 : List Value} {idx maxL n : Nat} {bytes : ByteArray} {ret2 : Option FieldType} (hX : XX E p m meth c cc nL ret s args own) (hM : MM E s μ H locs) (hC : CT E l y bytes maxL ret2 rm As μ v μ2)
    (hmv : MT y bytes maxL ret2 n) (hlk : Cond.methodLink own idx y ∈ wsL_law) (hrm : rm.cells = 0 ∧ rm.slots = 0) (hR : rm.frames + 1 ≤ R.frames ∧ 8 + (maxL + 11) + rm.locals ≤ R.locals)
    (hn : As.length = n) (hsz : ls.size = nL) (hst : st = As.reverse ++ rest) (hro : (rest.map fun v => v.category).sum ≤ 8) (hdg : decode cc pc = .ok (.invokestatic idx, 3)) (hst2 : v.toList ++ rest = st2)
    (kk : ∀ (H1 : Heap) (locs1 : List Loc), MM E s μ2 H1 locs1 → W p l e R s m args below meth c H1 locs1 0 0 Q (F0 m (pc + 3) ls st2)) : W p l e R s m args below meth c H locs 0 0 Q (F0 m pc ls st) := by
  subst hst2
  exact cl_go (va_runS (As := As) (rest := rest) hX.1 hC ⟨callB_of n hX.1.2.2.2.2 (gz hmv.1) rfl hrm.1 hrm.2 (hX.1.2.2.2.2 _ hmv.2.2.1) (hX.1.2.2.2.2 _ hlk) hmv.2.2.2 hR, hX.1.2.2.2.2 _ hmv.2.1⟩ ⟨WD.blind, fun U hU hW => ⟨rfl, WD.at hX hM hU hW⟩⟩ rfl hn hsz hst (lv_room hro) hdg ⟨Nat.zero_le _, Nat.zero_le _⟩) hM kk
theorem cl_N {y : MethodName} {rm : Room} {As st st2 : List Value} {idx maxL n : Nat} {bytes : ByteArray} {ret2 : Option FieldType} {host : String} (hX : XX E p m meth c cc nL ret s args own) (hM : MM E s μ H locs) (hC : CT E l y bytes maxL ret2 rm As μ v μ2)
    (hmv : MT y bytes maxL ret2 n) (hl : va_Nw (.methodLinkNest own idx y host) s) (hrm : rm.cells = 0 ∧ rm.slots = 0) (hR : rm.frames + 1 ≤ R.frames ∧ 8 + (maxL + 11) + rm.locals ≤ R.locals)
    (hn : As.length = n) (hsz : ls.size = nL) (hst : st = As.reverse ++ rest) (hro : (rest.map fun v => v.category).sum ≤ 8) (hdg : decode cc pc = .ok (.invokestatic idx, 3)) (hst2 : v.toList ++ rest = st2)
    (kk : ∀ (H1 : Heap) (locs1 : List Loc), MM E s μ2 H1 locs1 → W p l e R s m args below meth c H1 locs1 0 0 Q (F0 m (pc + 3) ls st2)) : W p l e R s m args below meth c H locs 0 0 Q (F0 m pc ls st) := by
  subst hst2
  exact cl_go (va_runSN (As := As) (rest := rest) hX.1 hC ⟨va_cnB n hX.1.2.2.2.2 (gz hmv.1) rfl hrm.1 hrm.2 hl (hX.1.2.2.2.2 _ hmv.2.2.1) hmv.2.2.2 hR, hX.1.2.2.2.2 _ hmv.2.1, trivial⟩ ⟨WD.blind, fun U hU hW => ⟨rfl, WD.at hX hM hU hW⟩⟩ rfl hn hsz hst (lv_room hro) hdg ⟨Nat.zero_le _, Nat.zero_le _⟩) hM kk
theorem cl_VS {y : MethodName} {rm : Room} {As st st2 : List Value} {b idx maxL n : Nat} {bytes : ByteArray} {ret2 : Option FieldType} {C : String} (hX : XX E p m meth c cc nL ret s args own) (hM : MM E s μ H locs) (hC : CT E l y bytes maxL ret2 rm (.ref (aK E b) :: As) μ v μ2)
    (hmv : MV y bytes maxL ret2 C n) (hlk : Cond.methodLink own idx y ∈ wsL_law) (hrm : rm.cells = 0 ∧ rm.slots = 0) (hR : rm.frames + 1 ≤ R.frames ∧ 8 + (maxL + 11) + rm.locals ≤ R.locals)
    (hb : b < 7) (hq : "java/lang/String" = C) (hn : As.length = n) (hsz : ls.size = nL) (hst : st = As.reverse ++ .ref (aK E b) :: rest) (hro : (rest.map fun v => v.category).sum ≤ 8) (hdg : decode cc pc = .ok (.invokevirtual idx, 3)) (hst2 : v.toList ++ rest = st2)
    (kk : ∀ (H1 : Heap) (locs1 : List Loc), MM E s μ2 H1 locs1 → W p l e R s m args below meth c H1 locs1 0 0 Q (F0 m (pc + 3) ls st2)) : W p l e R s m args below meth c H locs 0 0 Q (F0 m pc ls st) := by
  subst hq; subst hst2
  exact cl_go (va_runV (As := As) (rest := rest) (C := "java/lang/String") hX.1 hC ⟨callB_of n hX.1.2.2.2.2 (gz hmv.1) rfl hrm.1 hrm.2 (by rw [hmv.2.2.2.2.1]; exact hX.1.2.2.2.2 _ hmv.2.2.2.1) (hX.1.2.2.2.2 _ hlk) hmv.2.2.2.2.2 hR, hX.1.2.2.2.2 _ hmv.2.1, hX.1.2.2.2.2 _ hmv.2.2.1⟩ ⟨WD.blind, vk_recv hX.2.2.2.1.2.2.2.1 hb hM.2, fun U hU hW => ⟨rfl, WD.at hX hM hU hW⟩⟩ rfl hn hsz hst (lv_room hro) hdg ⟨Nat.zero_le _, Nat.zero_le _⟩) hM kk
end CL
section PU
variable {α β : Type}
def bnd (a : Option (α × Mem)) (k : α → Mem → Option β) : Option β := a.bind (fun q => k q.1 q.2)
def bnv (a : Option Mem) (k : Mem → Option β) : Option β := a.bind k
def lt (x : α) (k : α → Option β) : Option β := k x
def gA (x : Int32) (n : Nat) (k : Option β) : Option β := if x < 0 ∨ n ≤ x.toNatClampNeg then none else k
def gZ (y : Int32) (k : Option β) : Option β := if y = 0 then none else k
def gW (y : Int64) (k : Option β) : Option β := if y = 0 then none else k
def gB (v : Int32) (k : Option β) : Option β := if v = 0 ∨ v = 1 then k else none
def gP (c : Bool) (k : Option β) : Option β := if c = true then k else none
theorem bnd_some {a : Option (α × Mem)} {k : α → Mem → Option β} {z : β} (h : bnd a k = some z) : ∃ (r : α) (μ1 : Mem), a = some (r, μ1) ∧ k r μ1 = some z := by
  cases a with
  | none => cases h
  | some q => exact ⟨q.1, q.2, rfl, h⟩
theorem bnv_some {a : Option Mem} {k : Mem → Option β} {z : β} (h : bnv a k = some z) : ∃ (μ1 : Mem), a = some μ1 ∧ k μ1 = some z := by
  cases a with
  | none => cases h
  | some q => exact ⟨q, rfl, h⟩
theorem lt_e {x y : α} {k : α → Option β} {z : β} (e : y = x) (h : lt x k = some z) : k y = some z := by subst e; exact h
theorem gA_some {x : Int32} {n : Nat} {k : Option β} {z : β} (h : gA x n k = some z) : vp_in x n ∧ k = some z := by
  unfold gA at h
  by_cases q : x < 0 ∨ n ≤ x.toNatClampNeg
  · rw [if_pos q] at h; cases h
  · rw [if_neg q] at h; exact ⟨q, h⟩
theorem gZ_some {y : Int32} {k : Option β} {z : β} (h : gZ y k = some z) : ¬ y = 0 ∧ k = some z := by
  unfold gZ at h
  by_cases q : y = 0
  · rw [if_pos q] at h; cases h
  · rw [if_neg q] at h; exact ⟨q, h⟩
theorem gW_some {y : Int64} {k : Option β} {z : β} (h : gW y k = some z) : ¬ y = 0 ∧ k = some z := by
  unfold gW at h
  by_cases q : y = 0
  · rw [if_pos q] at h; cases h
  · rw [if_neg q] at h; exact ⟨q, h⟩
theorem gB_some {v : Int32} {k : Option β} {z : β} (h : gB v k = some z) : narrow .boolean (.int v) = .int v ∧ k = some z := by
  unfold gB at h
  by_cases q : v = 0 ∨ v = 1
  · rw [if_pos q] at h; refine ⟨?_, h⟩; rcases q with rfl | rfl <;> decide
  · rw [if_neg q] at h; cases h
theorem gP_some {c : Bool} {k : Option β} {z : β} (h : gP c k = some z) : c = true ∧ k = some z := by
  unfold gP at h
  by_cases q : c = true
  · rw [if_pos q] at h; exact ⟨q, h⟩
  · rw [if_neg q] at h; cases h
theorem it_t {c : Prop} [Decidable c] {x y : Option β} {z : β} (h : (if c then x else y) = some z) (q : c) : x = some z := by rw [if_pos q] at h; exact h
theorem it_f {c : Prop} [Decidable c] {x y : Option β} {z : β} (h : (if c then x else y) = some z) (q : ¬ c) : y = some z := by rw [if_neg q] at h; exact h
theorem so_1 {a : α} {b c : β} {d : α} (h : some (a, b) = some (d, c)) : a = d := (Prod.mk.inj (Option.some.inj h)).1
theorem so_2 {a : α} {b c : β} {d : α} (h : some (a, b) = some (d, c)) : b = c := (Prod.mk.inj (Option.some.inj h)).2
theorem no_none {a : α} {P : Prop} (h : (none : Option α) = some a) : P := by cases h
def cs (x : Option Nat) (k : Nat) (a : Option β) (b : Nat → Option β) : Option β := match x with
  | none => a
  | some j => if knd j = k then b j else none
theorem cs_some {x : Option Nat} {k : Nat} {a : Option β} {b : Nat → Option β} {z : β} (h : cs x k a b = some z) : (x = none ∧ a = some z) ∨ ∃ j, knd j = k ∧ x = some j ∧ b j = some z := by
  cases x with
  | none => exact Or.inl ⟨rfl, h⟩
  | some j =>
    by_cases q : knd j = k
    · exact Or.inr ⟨j, q, rfl, by unfold cs at h; dsimp only at h; rw [if_pos q] at h; exact h⟩
    · unfold cs at h; dsimp only at h; rw [if_neg q] at h; cases h
def nrf (E : EE) (x : Option Nat) : Value := match x with
  | none => .null
  | some i => .ref (eA E i)
abbrev mimax (x y : Int32) : Int32 := if x < y then y else x
abbrev mimin (x y : Int32) : Int32 := if y < x then y else x
def nn64 (r : UInt64) : Bool := decide (r &&& 0x7fffffffffffffff ≤ 0x7ff0000000000000)
def nn32 (r : UInt32) : Bool := decide (r &&& 0x7fffffff ≤ 0x7f800000)
theorem nn64_e {r : UInt64} (h : nn64 r = true) : vf_n64 r := by unfold nn64 at h; unfold vf_n64; exact of_decide_eq_true h
theorem nn32_e {r : UInt32} (h : nn32 r = true) : vf_n32 r := by unfold nn32 at h; unfold vf_n32; exact of_decide_eq_true h
def chr_ok (x : Int32) : Bool := decide (0 ≤ x.toInt) && decide (x.toInt < 65536)
def cp_ok (sp dp n : Int32) (n0 n1 : Nat) : Bool := !(decide (sp < 0)) && (!(decide (dp < 0)) && (!(decide (n < 0)) && (decide (sp.toNatClampNeg + n.toNatClampNeg ≤ n0) && decide (dp.toNatClampNeg + n.toNatClampNeg ≤ n1))))
theorem cp_e {sp dp n : Int32} {n0 n1 : Nat} (h : cp_ok sp dp n n0 n1 = true) : ¬ sp < 0 ∧ ¬ dp < 0 ∧ ¬ n < 0 ∧ sp.toNatClampNeg + n.toNatClampNeg ≤ n0 ∧ dp.toNatClampNeg + n.toNatClampNeg ≤ n1 := by
  unfold cp_ok at h
  simp only [Bool.and_eq_true, Bool.not_eq_true', decide_eq_false_iff_not, decide_eq_true_eq] at h
  exact h
def cpI (μ : Mem) (a b : Nat) (sp dp n : Int32) : Mem := rI μ b (va_cpy (μ.1 a) (μ.1 b) sp.toNatClampNeg dp.toNatClampNeg n.toNatClampNeg)
def cpL (μ : Mem) (a b : Nat) (sp dp n : Int32) : Mem := rL μ b (va_cpy (μ.2 a) (μ.2 b) sp.toNatClampNeg dp.toNatClampNeg n.toNatClampNeg)
def FU : Nat := 1000000000000
end PU
section CP
variable {p : Program} {l : Launch} {e : Env} {R : Room} {s : State} {m : MethodId} {args : Array Value} {below : List Frame} {meth : Method} {c : Code} {H : Heap} {locs : List Loc} {Q : State → Prop}
variable {cc : ByteArray} {pc nL : Nat} {ls : Array Slot} {rest : List Value} {E : EE} {μ : Mem} {own : String} {ret : Option FieldType}
theorem cpI_row {a b idx : Nat} {sp dp n : Int32} (hX : XX E p m meth c cc nL ret s args own) (hM : MM E s μ H locs) (ha : knd a = 10) (hb : knd b = 10) (hz : ¬ sp < 0 ∧ ¬ dp < 0 ∧ ¬ n < 0 ∧ sp.toNatClampNeg + n.toNatClampNeg ≤ aln a ∧ dp.toNatClampNeg + n.toNatClampNeg ≤ aln b) (hml : c.maxLocals = ls.size) (hlk : Cond.methodLink own idx arraycopyName ∈ wsL_law)
    (hfr : 1 ≤ R.frames) (hlo : (rest.map fun v => v.category).sum + (nativeFrameWords "java/lang/System" "arraycopy" 5 + 11) ≤ R.locals) (hdg : decode cc pc = .ok (.invokestatic idx, 3))
    (kk : ∀ (μ1 : Mem) (H1 : Heap) (locs1 : List Loc), μ1 = cpI μ a b sp dp n → MM E s μ1 H1 locs1 → W p l e R s m args below meth c H1 locs1 0 0 Q (F0 m (pc + 3) ls rest)) : W p l e R s m args below meth c H locs 0 0 Q (F0 m pc ls (.int n :: .int dp :: .ref (eA E b) :: .int sp :: .ref (eA E a) :: rest)) := by
  refine va_copyi hX.1.1 hX.1.2.1 hml hX.1.2.2.2.1 (hX.1.2.2.2.2 _ hlk) (hX.1.2.2.2.2 _ q_3_10) (hX.1.2.2.2.2 _ q_3_11) (hX.1.2.2.2.2 _ q_3_12) hX.2.1 hM.1 (wsO_D hX.2.2.1 μ) hM.2 a b 0 0 ((wsO_get (knd_lt ha (by decide))).trans (by rw [cel_10 ha])) ((wsO_get (knd_lt hb (by decide))).trans (by rw [cel_10 hb])) rfl rfl rfl hz.1 hz.2.1 hz.2.2.1 hz.2.2.2.1 hz.2.2.2.2 (fun _ _ => rfl) hfr hlo hdg (fun H1 locs1 hP hD hS => kk _ H1 locs1 rfl ⟨?_, hS⟩)
  have e9 := wsO_setI (E := E) (μ := μ) (f := va_cpy (μ.1 a) (μ.1 b) sp.toNatClampNeg dp.toNatClampNeg n.toNatClampNeg) (knd_lt hb (by decide)) ((cel_10 hb).trans (by rw [rI_eq]))
  exact e9 ▸ hP
theorem cpL_row {a b idx : Nat} {sp dp n : Int32} (hX : XX E p m meth c cc nL ret s args own) (hM : MM E s μ H locs) (ha : knd a = 11) (hb : knd b = 11) (hz : ¬ sp < 0 ∧ ¬ dp < 0 ∧ ¬ n < 0 ∧ sp.toNatClampNeg + n.toNatClampNeg ≤ aln a ∧ dp.toNatClampNeg + n.toNatClampNeg ≤ aln b) (hml : c.maxLocals = ls.size) (hlk : Cond.methodLink own idx arraycopyName ∈ wsL_law)
    (hfr : 1 ≤ R.frames) (hlo : (rest.map fun v => v.category).sum + (nativeFrameWords "java/lang/System" "arraycopy" 5 + 11) ≤ R.locals) (hdg : decode cc pc = .ok (.invokestatic idx, 3))
    (kk : ∀ (μ1 : Mem) (H1 : Heap) (locs1 : List Loc), μ1 = cpL μ a b sp dp n → MM E s μ1 H1 locs1 → W p l e R s m args below meth c H1 locs1 0 0 Q (F0 m (pc + 3) ls rest)) : W p l e R s m args below meth c H locs 0 0 Q (F0 m pc ls (.int n :: .int dp :: .ref (eA E b) :: .int sp :: .ref (eA E a) :: rest)) := by
  refine va_copyl hX.1.1 hX.1.2.1 hml hX.1.2.2.2.1 (hX.1.2.2.2.2 _ hlk) (hX.1.2.2.2.2 _ q_3_10) (hX.1.2.2.2.2 _ q_3_11) (hX.1.2.2.2.2 _ q_3_12) hX.2.1 hM.1 (wsO_D hX.2.2.1 μ) hM.2 a b 1 1 ((wsO_get (knd_lt ha (by decide))).trans (by rw [cel_11 ha])) ((wsO_get (knd_lt hb (by decide))).trans (by rw [cel_11 hb])) rfl rfl rfl hz.1 hz.2.1 hz.2.2.1 hz.2.2.2.1 hz.2.2.2.2 (fun _ _ => rfl) hfr hlo hdg (fun H1 locs1 hP hD hS => kk _ H1 locs1 rfl ⟨?_, hS⟩)
  have e9 := wsO_setL (E := E) (μ := μ) (f := va_cpy (μ.2 a) (μ.2 b) sp.toNatClampNeg dp.toNatClampNeg n.toNatClampNeg) (knd_lt hb (by decide)) ((cel_11 hb).trans (by rw [rL_eq]))
  exact e9 ▸ hP
end CP
theorem zq_or {C n d : String} {A : Nat → Prop} {U : State} {H : Heap} (h : va_Zq C n d A U H) : ∃ v : Value, (v = .null ∨ ∃ q : Nat, v = .ref q) ∧ va_Z C n d v A U H := by
  rcases h with h | ⟨t, h⟩
  · exact ⟨_, Or.inl rfl, h⟩
  · exact ⟨_, Or.inr ⟨t, rfl⟩, h⟩
theorem kr_tpi {i : Nat} {x : Int32} (h : knd i = 12) (hi : vp_in x (aln i)) : knd (rf i x.toNatClampNeg) = 7 := by
  have e : aln i = 6 := (show ∀ i, i < NN → knd i = 12 → aln i = 6 by decide +kernel) i (knd_lt h (by decide)) h
  refine kr_tp h ?_
  rw [e] at hi
  exact Nat.not_le.mp fun q => hi (Or.inr q)
theorem chr_e {x : Int32} (h : chr_ok x = true) : narrow .char (.int x) = .int x := by
  unfold chr_ok at h
  simp only [Bool.and_eq_true, decide_eq_true_eq] at h
  obtain ⟨j, hj, e⟩ : ∃ j : Nat, j < 65536 ∧ x = nI j := by
    refine ⟨x.toInt.toNat, by omega, ?_⟩
    apply Int32.toInt_inj.mp
    rw [nI_toInt (by omega)]
    omega
  rw [e]
  exact (pk_charN hj).1
