/-! the class: LEAST by settling the nearest first -/
theorem x_fill_b : ∀ (n i : Nat) (a : Nat) (v : Int32) (μ : Mem), i ≤ aln a → aln a - i < n → aln a < 2 ^ 31 → f_J7_fill_53178_b5 a v n (nI i) (nI (aln a)) μ = some (rI μ a (fun j => if i ≤ j ∧ j < aln a then v else μ.1 a j)) := by
  intro n
  induction n with
  | zero => intro i a v μ hi hn; omega
  | succ n ih =>
    intro i a v μ hi hn ha
    rw [f_J7_fill_53178_b5]
    simp (disch := omega) only [il, nI_leI, lt_d]
    by_cases c : aln a ≤ i
    · rw [if_pos c]
      refine congrArg some (Prod.ext ?_ rfl)
      funext j
      rw [rI_1]
      by_cases hj : j = a
      · rw [if_pos hj, hj]; funext x; rw [if_neg (by omega)]
      · rw [if_neg hj]
    · rw [if_neg c, gA_n (by omega) (by omega), nI_clamp (by omega), nI_add, ih (i + 1) a v _ (by omega) (by omega) ha]
      refine congrArg some (Prod.ext ?_ rfl)
      funext j
      rw [rI_1, rI_1]
      by_cases hj : j = a
      · rw [if_pos hj, if_pos hj]
        funext x
        by_cases hx : x = i
        · subst hx; rw [if_neg (by omega), if_pos (by omega), sI_e]
        · rw [sI_n (Or.inr hx)]
          by_cases h2 : i ≤ x ∧ x < aln a
          · rw [if_pos (by omega), if_pos h2]
          · rw [if_neg (by omega), if_neg h2]
      · rw [if_neg hj, if_neg hj, sI_o hj]
theorem x_fill {a : Nat} (ha : aln a < 2 ^ 31) (v : Int32) (μ : Mem) (h : aln a < FU) : f_J7_fill_53178 a v μ = some (rI μ a (fun j => if j < aln a then v else μ.1 a j)) := by
  unfold f_J7_fill_53178
  rw [lt_d, show (0 : Int32) = nI 0 from rfl, x_fill_b FU 0 a v μ (Nat.zero_le _) (by omega) ha]
  simp only [Nat.zero_le, true_and]
def ti (T : Nat → Bool) : Nat := sm (fun k => if T k = true then 1 else 0) 72
/-- the spots: T settled, O .. open -/
def PQ (V : SV) (v : Nat → Nat) (T : Nat → Bool) (O : Nat → Nat) (cnt : Nat) : Prop := Sup V v ∧ (∀ i, i < cnt → O i < 72 ∧ v (O i) < NV ∧ T (O i) = false) ∧ (∀ i j, i < cnt → j < cnt → O i = O j → i = j) ∧ (∀ k, k < 72 → v k < NV → T k = true ∨ ∃ i, i < cnt ∧ O i = k) ∧ (∀ k, T k = true → k < 72 ∧ v k < NV) ∧ cnt + ti T = s_cnt v
def clu (V : SV) (v : Nat → Nat) (u h : Nat) : Prop := ∀ j, j < 4 → s_leg V (u / 2) h (s_dep (v u) j) → v (s_st V (u / 2) (u % 2) h (s_dep (v u) j)) ≤ s_arr V (u / 2) (u % 2) h (s_dep (v u) j)
/-- settled ones are no later than the others -/
def OT (v : Nat → Nat) (T : Nat → Bool) : Prop := ∀ x w, T x = true → w < 72 → T w = false → v w < NV → v x ≤ v w
/-- while u sails on -/
def SG (V : SV) (v : Nat → Nat) (T : Nat → Bool) (u h : Nat) : Prop := OT v T ∧ T u = true ∧ (∀ x, T x = true → v x ≤ v u) ∧ (∀ x, T x = true → x ≠ u → ∀ h, h < 8 → clu V v x h) ∧ ∀ h2, h2 < h → clu V v u h2
def o_up (v : Nat → Nat) (O : Nat → Nat) (cnt s : Nat) : Nat → Nat := if v s = NV then (fun i => if i = cnt then s else O i) else O
def c_up (v : Nat → Nat) (cnt s : Nat) : Nat := if v s = NV then cnt + 1 else cnt
theorem vk_nv {V : SV} {v : Nat → Nat} (h : Sup V v) {k : Nat} (hk : k < 72) : v k = NV ∨ v k < NV := by
  have := s_cnt_le v
  have hNV : NV = 1000000000 := rfl
  rcases h.2.1 k hk with e | e
  · exact Or.inl e
  · right; omega
theorem PQ.cl {V : SV} {v : Nat → Nat} {T : Nat → Bool} {O : Nat → Nat} {cnt s : Nat} (h : PQ V v T O cnt) (hs : s < 72) (hv : v s = NV) : cnt < 72 := by
  have e := s_cnt_up (v := v) (a := 0) hs (by decide)
  rw [hv, if_neg (by decide)] at e
  have := s_cnt_le (s_up v s 0)
  have := h.2.2.2.2.2
  omega
theorem PQ.up {V : SV} (hV : SVok V) {v : Nat → Nat} {T : Nat → Bool} {O : Nat → Nat} {cnt u h j H : Nat} (hP : PQ V v T O cnt) (hS : SG V v T u H) (hh : h < 8) (hj : j < 4) (hl : s_leg V (u / 2) h (s_dep (v u) j)) (hlt : s_arr V (u / 2) (u % 2) h (s_dep (v u) j) < v (s_st V (u / 2) (u % 2) h (s_dep (v u) j))) (hH : H ≤ h) :
    PQ V (s_up v (s_st V (u / 2) (u % 2) h (s_dep (v u) j)) (s_arr V (u / 2) (u % 2) h (s_dep (v u) j))) T (o_up v O cnt (s_st V (u / 2) (u % 2) h (s_dep (v u) j))) (c_up v cnt (s_st V (u / 2) (u % 2) h (s_dep (v u) j))) ∧ SG V (s_up v (s_st V (u / 2) (u % 2) h (s_dep (v u) j)) (s_arr V (u / 2) (u % 2) h (s_dep (v u) j))) T u H ∧ s_arr V (u / 2) (u % 2) h (s_dep (v u) j) < NV ∧ s_st V (u / 2) (u % 2) h (s_dep (v u) j) ≠ u ∧ (∀ k, s_up v (s_st V (u / 2) (u % 2) h (s_dep (v u) j)) (s_arr V (u / 2) (u % 2) h (s_dep (v u) j)) k ≤ v k) := by
  obtain ⟨p1, p2, p3, p4, p5, p6⟩ := id hP
  obtain ⟨s1, s2, s3, s4, s5⟩ := id hS
  obtain ⟨hu, huv⟩ := p5 u s2
  obtain ⟨u1, u2, u3⟩ := p1.up hV hu huv hh hj hl hlt
  have hst := s_st_lt (sd := u % 2) (by omega) hl
  have hgt := s_arr_gt hV (sd := u % 2) (by omega : u / 2 < 36) hl
  have hd := @s_dep_le (v u) j
  have hNV : NV = 1000000000 := rfl
  generalize s_st V (u / 2) (u % 2) h (s_dep (v u) j) = s at *
  generalize s_arr V (u / 2) (u % 2) h (s_dep (v u) j) = r at *
  have hTs : T s = false := by
    cases c : T s with
    | false => rfl
    | true => have := s3 s c; omega
  have hsu : s ≠ u := fun e => by rw [e, s2] at hTs; cases hTs
  have hne : ∀ x, T x = true → x ≠ s := fun x hx e => by rw [e, hTs] at hx; cases hx
  have hdec : ∀ k, s_up v s r k ≤ v k := by
    intro k
    by_cases c : k = s
    · rw [c, s_up_e]; omega
    · rw [s_up_n c]; exact Nat.le_refl _
  have hcu := s_cnt_up (v := v) hst u2
  have eu : s_up v s r u = v u := s_up_n hsu.symm
  refine ⟨⟨u1, ?_, ?_, ?_, ?_, ?_⟩, ⟨?_, s2, ?_, ?_, ?_⟩, u2, hsu, hdec⟩
  · intro i hi
    unfold o_up c_up at *
    by_cases c : v s = NV
    · rw [if_pos c] at hi ⊢
      by_cases ci : i = cnt
      · rw [if_pos ci, s_up_e]; exact ⟨hst, u2, hTs⟩
      · rw [if_neg ci]
        obtain ⟨a, b, d⟩ := p2 i (by omega)
        exact ⟨a, Nat.lt_of_le_of_lt (hdec _) b, d⟩
    · rw [if_neg c] at hi ⊢
      obtain ⟨a, b, d⟩ := p2 i hi
      exact ⟨a, Nat.lt_of_le_of_lt (hdec _) b, d⟩
  · intro i j2 hi hj2 e
    unfold o_up c_up at *
    by_cases c : v s = NV
    · rw [if_pos c] at hi hj2 e
      by_cases ci : i = cnt
      · by_cases cj : j2 = cnt
        · omega
        · rw [if_pos ci, if_neg cj] at e
          have := (p2 j2 (by omega)).2.1
          rw [← e] at this
          omega
      · by_cases cj : j2 = cnt
        · rw [if_neg ci, if_pos cj] at e
          have := (p2 i (by omega)).2.1
          rw [e] at this
          omega
        · rw [if_neg ci, if_neg cj] at e
          exact p3 i j2 (by omega) (by omega) e
    · rw [if_neg c] at hi hj2 e
      exact p3 i j2 hi hj2 e
  · intro k hk hkv
    unfold o_up c_up
    by_cases c : v s = NV
    · rw [if_pos c, if_pos c]
      by_cases ck : k = s
      · exact Or.inr ⟨cnt, by omega, by rw [if_pos rfl, ck]⟩
      · rw [s_up_n ck] at hkv
        rcases p4 k hk hkv with e | ⟨i, hi, e⟩
        · exact Or.inl e
        · exact Or.inr ⟨i, by omega, by rw [if_neg (by omega)]; exact e⟩
    · rw [if_neg c, if_neg c]
      by_cases ck : k = s
      · subst ck
        exact p4 k hk (by rcases vk_nv p1 hk with e | e; · exact absurd e c
                          · exact e)
      · rw [s_up_n ck] at hkv
        exact p4 k hk hkv
  · intro k hk
    obtain ⟨a, b⟩ := p5 k hk
    exact ⟨a, Nat.lt_of_le_of_lt (hdec k) b⟩
  · unfold c_up
    by_cases c : v s = NV
    · rw [if_pos c]; rw [if_neg (by omega)] at hcu; omega
    · rw [if_neg c]
      rw [if_pos (by rcases vk_nv p1 hst with e | e; · exact absurd e c
                     · exact e)] at hcu
      omega
  · intro x w hx hw hTw hwv
    rw [s_up_n (hne x hx)]
    by_cases cw : w = s
    · rw [cw, s_up_e]; have := s3 x hx; omega
    · rw [s_up_n cw] at hwv ⊢; exact s1 x w hx hw hTw hwv
  · intro x hx
    rw [s_up_n (hne x hx), eu]
    exact s3 x hx
  · intro x hx hxu h2 hh2 j2 hj2 hl2
    rw [s_up_n (hne x hx)] at hl2 ⊢
    exact Nat.le_trans (hdec _) (s4 x hx hxu h2 hh2 j2 hj2 hl2)
  · intro h2 hh2 j2 hj2 hl2
    rw [eu] at hl2 ⊢
    exact Nat.le_trans (hdec _) (s5 h2 hh2 j2 hj2 hl2)
/-- taking the nearest -/
theorem PQ.take {V : SV} {v : Nat → Nat} {T : Nat → Bool} {O : Nat → Nat} {cnt i0 : Nat} (hP : PQ V v T O (cnt + 1)) (hi : i0 < cnt + 1) (hmin : ∀ i, i < cnt + 1 → v (O i0) ≤ v (O i)) (hO : OT v T) (hC : ∀ x, T x = true → ∀ h, h < 8 → clu V v x h) :
    PQ V v (fun k => if k = O i0 then true else T k) (fun i => if i = i0 then O cnt else O i) cnt ∧ SG V v (fun k => if k = O i0 then true else T k) (O i0) 0 ∧ ti (fun k => if k = O i0 then true else T k) = ti T + 1 := by
  obtain ⟨p1, p2, p3, p4, p5, p6⟩ := hP
  obtain ⟨o1, o2, o3⟩ := p2 i0 hi
  have hti : ti (fun k => if k = O i0 then true else T k) = ti T + 1 := by
    have e := sm_upd (fun k => if T k = true then 1 else 0) 1 o1
    have e2 : ti (fun k => if k = O i0 then true else T k) = sm (fun j => if j = O i0 then 1 else (fun k => if T k = true then 1 else 0) j) 72 := by
      refine sm_cong (fun k _ => ?_)
      by_cases c : k = O i0
      · simp only [c, if_true]
      · simp only [c, if_false]
    rw [e2]
    rw [o3, if_neg (by decide)] at e
    exact e
  refine ⟨⟨p1, ?_, ?_, ?_, ?_, ?_⟩, ⟨?_, ?_, ?_, ?_, fun h2 hh2 => by omega⟩, hti⟩
  · intro i hic
    dsimp only
    by_cases c : i = i0
    · rw [if_pos c]
      obtain ⟨a, b, d⟩ := p2 cnt (by omega)
      refine ⟨a, b, ?_⟩
      rw [if_neg (fun e => by have := p3 cnt i0 (by omega) hi e; omega)]
      exact d
    · rw [if_neg c]
      obtain ⟨a, b, d⟩ := p2 i (by omega)
      refine ⟨a, b, ?_⟩
      rw [if_neg (fun e => c (p3 i i0 (by omega) hi e))]
      exact d
  · intro i j hic hjc e
    dsimp only at e
    by_cases c : i = i0
    · by_cases c2 : j = i0
      · omega
      · rw [if_pos c, if_neg c2] at e
        have := p3 cnt j (by omega) (by omega) e
        omega
    · by_cases c2 : j = i0
      · rw [if_neg c, if_pos c2] at e
        have := p3 i cnt (by omega) (by omega) e
        omega
      · rw [if_neg c, if_neg c2] at e
        exact p3 i j (by omega) (by omega) e
  · intro k hk hkv
    dsimp only
    by_cases c : k = O i0
    · exact Or.inl (if_pos c)
    · rcases p4 k hk hkv with e | ⟨i, hic, e⟩
      · exact Or.inl (by rw [if_neg c]; exact e)
      · have hii : i ≠ i0 := fun z => c (by rw [← e, z])
        by_cases cl : i = cnt
        · by_cases c0 : i0 = cnt
          · omega
          · exact Or.inr ⟨i0, by omega, by rw [if_pos rfl, ← cl]; exact e⟩
        · exact Or.inr ⟨i, by omega, by rw [if_neg hii]; exact e⟩
  · intro k hk
    dsimp only at hk
    by_cases c : k = O i0
    · rw [c]; exact ⟨o1, o2⟩
    · rw [if_neg c] at hk; exact p5 k hk
  · rw [hti]; omega
  · intro x w hx hw hTw hwv
    dsimp only at hx hTw
    have hwn : w ≠ O i0 := fun z => by rw [if_pos z] at hTw; cases hTw
    rw [if_neg hwn] at hTw
    by_cases c : x = O i0
    · rw [c]
      rcases p4 w hw hwv with e | ⟨i, hic, e⟩
      · rw [e] at hTw; cases hTw
      · rw [← e]; exact hmin i hic
    · rw [if_neg c] at hx
      exact hO x w hx hw hTw hwv
  · exact if_pos rfl
  · intro x hx
    dsimp only at hx
    by_cases c : x = O i0
    · rw [c]; exact Nat.le_refl _
    · rw [if_neg c] at hx
      exact hO x (O i0) hx o1 o3 o2
  · intro x hx hxu
    dsimp only at hx
    rw [if_neg hxu] at hx
    exact hC x hx
/-- all is settled -/
theorem PQ.fin {V : SV} {v : Nat → Nat} {T : Nat → Bool} {O : Nat → Nat} (hP : PQ V v T O 0) (hC : ∀ x, T x = true → ∀ h, h < 8 → clu V v x h) : IsL V v := by
  refine hP.1.fin (fun i hi h hh j hj _ hv hl => ?_)
  rcases hP.2.2.2.1 i hi hv with e | ⟨x, hx, -⟩
  · exact hC i e h hh j hj hl
  · omega
/-- the chart's rows hold v and O -/
def CM (e : Nat) (μ : Mem) (V : SV) (v O : Nat → Nat) (cnt : Nat) : Prop := XSea (1 + 30 * e) μ V ∧ LegsTo e μ V 128 ∧ (∀ k, k < 72 → μ.1 (26 + 17 * e) k = nI (v k)) ∧ μ.1 (21 + 17 * e) 4 = nI cnt ∧ ∀ i, i < cnt → μ.1 (27 + 17 * e) i = nI (O i)
def XG (e : Nat) (μ μ2 : Mem) : Prop := μ2.2 = μ.2 ∧ (∀ i, i ≠ 21 + 17 * e → i ≠ 26 + 17 * e → i ≠ 27 + 17 * e → μ2.1 i = μ.1 i) ∧ ∀ k, k ≠ 4 → μ2.1 (21 + 17 * e) k = μ.1 (21 + 17 * e) k
theorem XG.rf (e : Nat) (μ : Mem) : XG e μ μ := ⟨rfl, fun _ _ _ _ => rfl, fun _ _ => rfl⟩
theorem XG.tr {e : Nat} {a b c : Mem} (h : XG e a b) (g : XG e b c) : XG e a c := ⟨g.1.trans h.1, fun i x y z => (g.2.1 i x y z).trans (h.2.1 i x y z), fun k hk => (g.2.2 k hk).trans (h.2.2 k hk)⟩
theorem XG.s {e i k : Nat} {μ : Mem} {v : Int32} (h : i = 26 + 17 * e ∨ i = 27 + 17 * e ∨ (i = 21 + 17 * e ∧ k = 4)) : XG e μ (sI μ i k v) := ⟨rfl, fun j x y z => sI_o (by omega), fun j hj => sI_n (by omega)⟩
theorem XG.xf {e : Nat} {μ μ2 : Mem} (h : XG e μ μ2) : XF e μ μ2 := ⟨h.1, fun i hi => h.2.1 i (by omega) (by omega) (by omega)⟩
theorem LegsTo.xg {e n : Nat} {μ μ2 : Mem} {V : SV} (h : LegsTo e μ V n) (f : XG e μ μ2) : LegsTo e μ2 V n := fun k hk => by
  rw [f.2.1 _ (by omega) (by omega) (by omega), f.2.1 _ (by omega) (by omega) (by omega), f.2.1 _ (by omega) (by omega) (by omega)]
  exact h k hk
theorem nv_lit : (1000000000 : Int32) = nI NV := rfl
section XC
variable {e : Nat} {μ : Mem} {V : SV} {v O : Nat → Nat} {cnt : Nat}
theorem x_reach (he : e < 2) (hC : CM e μ V v O cnt) {s a : Nat} (hs : s < 72) (hv : v s ≤ NV) (hc : v s = NV → cnt < 72) (hcnt : cnt < 2 ^ 20) : ∃ μ2, f_X1_reach (21 + 17 * e) (nI s) (nI a) μ = some μ2 ∧ XG e μ μ2 ∧ CM e μ2 V (s_up v s a) (o_up v O cnt s) (c_up v cnt s) := by
  obtain ⟨c1, c2, c3, c4, c5⟩ := hC
  have hNV : NV = 1000000000 := rfl
  have b40 : ∀ (μ' : Mem), XG e μ μ' → (∀ k, k < 72 → μ'.1 (26 + 17 * e) k = nI (v k)) → μ'.1 (21 + 17 * e) 4 = nI (c_up v cnt s) → (∀ i, i < c_up v cnt s → μ'.1 (27 + 17 * e) i = nI (o_up v O cnt s i)) → ∃ μ2, f_X1_reach_b40 (21 + 17 * e) (nI s) (nI a) μ' = some μ2 ∧ XG e μ μ2 ∧ CM e μ2 V (s_up v s a) (o_up v O cnt s) (c_up v cnt s) := by
    intro μ' f d3 d4 d5
    unfold f_X1_reach_b40
    simp (disch := omega) only [(tc he).2.2.1, (ta he).2.2.2.1, gA_n, nI_clamp, lt_d]
    have f2 : XG e μ (sI μ' (26 + 17 * e) s (nI a)) := f.tr (XG.s (Or.inl rfl))
    refine ⟨_, rfl, f2, c1.xf he f2.xf, c2.xg f2, fun k hk => ?_, ?_, fun i hi => ?_⟩
    · by_cases ck : k = s
      · rw [ck, sI_e, s_up_e]
      · rw [sI_n (Or.inr ck), s_up_n ck]; exact d3 k hk
    · rw [sI_o (by omega)]; exact d4
    · rw [sI_o (by omega)]; exact d5 i hi
  unfold f_X1_reach
  simp (disch := omega) only [nv_lit, (tc he).2.2.1, (tc he).2.2.2.1, (ta he).2.2.2.1, gA_n, nI_clamp, c3 s hs, c4, nI_eq]
  by_cases c : v s = NV
  · have hlt := hc c
    rw [if_pos c]
    simp (disch := omega) only [il, nI_leI, (ta he).2.2.2.2.1, gA_n, nI_clamp, lt_d]
    rw [if_neg (by omega)]
    have e1 : (sI μ (27 + 17 * e) cnt (nI s)).1 (21 + 17 * e) 4 = nI cnt := by rw [sI_o (by omega)]; exact c4
    rw [e1, nI_add]
    refine b40 _ ((XG.s (Or.inr (Or.inl rfl))).tr (XG.s (Or.inr (Or.inr ⟨rfl, rfl⟩)))) (fun k hk => ?_) ?_ (fun i hi => ?_)
    · rw [sI_o (by omega), sI_o (by omega)]; exact c3 k hk
    · rw [sI_e]; unfold c_up; rw [if_pos c]
    · unfold c_up at hi
      unfold o_up
      rw [if_pos c] at hi ⊢
      rw [sI_o (by omega)]
      by_cases ci : i = cnt
      · rw [ci, sI_e, if_pos rfl]
      · rw [sI_n (Or.inr ci), if_neg ci]; exact c5 i (by omega)
  · rw [if_neg c]
    refine b40 μ (XG.rf e μ) c3 ?_ (fun i hi => ?_)
    · unfold c_up; rw [if_neg c]; exact c4
    · unfold c_up at hi
      unfold o_up
      rw [if_neg c] at hi ⊢
      exact c5 i hi
/-- the nearest of the open ones -/
theorem x_take_b (he : e < 2) {T : Nat → Bool} (hC : CM e μ V v O (cnt + 1)) (hP : PQ V v T O (cnt + 1)) : ∀ (n x1 x2 : Nat), x1 < cnt + 1 → 1 ≤ x2 → x2 ≤ cnt + 1 → cnt + 1 - x2 < n → (∀ i, i < x2 → v (O x1) ≤ v (O i)) → ∃ i0, i0 < cnt + 1 ∧ (∀ i, i < cnt + 1 → v (O i0) ≤ v (O i)) ∧ ∃ μ2, f_X1_takeNearest_b4 (21 + 17 * e) n (nI x1) (nI x2) μ = some (nI (O i0), μ2) ∧ XG e μ μ2 ∧ CM e μ2 V v (fun i => if i = i0 then O cnt else O i) cnt := by
  obtain ⟨c1, c2, c3, c4, c5⟩ := hC
  have hNV : NV = 1000000000 := rfl
  have hcl : cnt + 1 ≤ 72 := by have := hP.2.2.2.2.2; have := s_cnt_le v; omega
  intro n
  induction n with
  | zero => intro x1 x2 _ _ _ hn; omega
  | succ n ih =>
    intro x1 x2 h1 h0 h2 hn hm
    rw [f_X1_takeNearest_b4]
    rw [c4]
    by_cases c : cnt + 1 ≤ x2
    · rw [if_pos (nI_le c (by omega))]
      simp (disch := omega) only [(tc he).2.2.2.1, (ta he).2.2.2.2.1, gA_n, nI_clamp, lt_d, c5 x1 h1, il]
      have e1 : nI (cnt + 1) - nI 1 = nI cnt := by rw [pk_sub (by omega)]; rfl
      have e2 : (sI μ (21 + 17 * e) 4 (nI (cnt + 1) - nI 1)).1 (21 + 17 * e) 4 = nI cnt := by rw [sI_e, e1]
      rw [e2]
      simp (disch := omega) only [gA_n, nI_clamp]
      rw [sI_o (by omega), c5 cnt (by omega)]
      have f2 : XG e μ (sI (sI μ (21 + 17 * e) 4 (nI (cnt + 1) - nI 1)) (27 + 17 * e) x1 (nI (O cnt))) := (XG.s (Or.inr (Or.inr ⟨rfl, rfl⟩))).tr (XG.s (Or.inr (Or.inl rfl)))
      refine ⟨x1, h1, fun i hi => hm i (by omega), _, rfl, f2, c1.xf he f2.xf, c2.xg f2, fun k hk => ?_, ?_, fun i hi => ?_⟩
      · rw [sI_o (by omega), sI_o (by omega)]; exact c3 k hk
      · rw [sI_o (by omega)]; exact e2
      · by_cases ci : i = x1
        · show _ = nI (if i = x1 then O cnt else O i)
          rw [ci, sI_e, if_pos rfl]
        · show _ = nI (if i = x1 then O cnt else O i)
          rw [sI_n (Or.inr ci), sI_o (by omega), if_neg ci]; exact c5 i (by omega)
    · rw [if_neg (nI_ge (by omega) (by omega))]
      have p1 := hP.2.1 x1 h1
      have p2 := hP.2.1 x2 (by omega)
      simp (disch := omega) only [(tc he).2.2.2.1, (tc he).2.2.1, (ta he).2.2.2.2.1, (ta he).2.2.2.1, gA_n, nI_clamp, lt_d, c5 x1 h1, c5 x2 (by omega), il, c3 _ p1.1, c3 _ p2.1, nI_leI, nI_add]
      by_cases cv : v (O x1) ≤ v (O x2)
      · rw [if_pos cv]
        exact ih x1 (x2 + 1) h1 (by omega) (by omega) (by omega) (fun i hi => by
          rcases (show i < x2 ∨ i = x2 by omega) with q | q
          · exact hm i q
          · rw [q]; exact cv)
      · rw [if_neg cv]
        exact ih x2 (x2 + 1) (by omega) (by omega) (by omega) (by omega) (fun i hi => by
          rcases (show i < x2 ∨ i = x2 by omega) with q | q
          · have := hm i q; omega
          · rw [q]; exact Nat.le_refl _)
theorem x_sail_b (hV : SVok V) (he : e < 2) {T : Nat → Bool} {u h : Nat} (hu : u < 72) (hh : h < 8) (hto : s_to V (u / 2) h < 36) : ∀ (n j : Nat) (v O : Nat → Nat) (cnt : Nat) (μ : Mem), j ≤ 4 → 4 - j < n → CM e μ V v O cnt → PQ V v T O cnt → SG V v T u h → (∀ i, i < j → s_leg V (u / 2) h (s_dep (v u) i) → v (s_st V (u / 2) (u % 2) h (s_dep (v u) i)) ≤ s_arr V (u / 2) (u % 2) h (s_dep (v u) i)) → ∃ μ2 v2 O2 cnt2, f_X1_sailOn_b30 (21 + 17 * e) (nI u) (nI h) n (nI (u / 2)) (nI (u % 2)) (nI (s_to V (u / 2) h)) (nI j) μ = some μ2 ∧ XG e μ μ2 ∧ CM e μ2 V v2 O2 cnt2 ∧ PQ V v2 T O2 cnt2 ∧ SG V v2 T u (h + 1) := by
  have hNV : NV = 1000000000 := rfl
  intro n
  induction n with
  | zero => intro j v O cnt μ hj hn; omega
  | succ n ih =>
    intro j v O cnt μ hj hn hC hP hS hcl
    obtain ⟨c1, c2, c3, c4, c5⟩ := id hC
    obtain ⟨hu1, huv⟩ := hP.2.2.2.2.1 u hS.2.1
    obtain ⟨b1, b2⟩ := hP.1.lt hu huv
    have vb : ∀ k, k < 72 → v k ≤ NV := fun k hk => by rcases vk_nv hP.1 hk with q | q <;> omega
    have done : (∀ i, i < 4 → s_leg V (u / 2) h (s_dep (v u) i) → v (s_st V (u / 2) (u % 2) h (s_dep (v u) i)) ≤ s_arr V (u / 2) (u % 2) h (s_dep (v u) i)) → SG V v T u (h + 1) := by
      intro hc
      refine ⟨hS.1, hS.2.1, hS.2.2.1, hS.2.2.2.1, fun h2 hh2 => ?_⟩
      rcases (show h2 < h ∨ h2 = h by omega) with q | q
      · exact hS.2.2.2.2 h2 q
      · rw [q]; exact hc
    rw [f_X1_sailOn_b30]
    simp (disch := omega) only [il, nI_leI, (tc he).2.2.1, (ta he).2.2.2.1, gA_n, nI_clamp, c3 u hu]
    by_cases c : 4 ≤ j
    · rw [if_pos c]
      exact ⟨μ, v, O, cnt, rfl, XG.rf e μ, hC, hP, done (fun i hi => hcl i (by omega))⟩
    rw [if_neg c]
    have hd := @s_dep_ub (v u) j (by omega)
    have hd0 := @s_dep_le (v u) j
    rw [bnd_e (x_dep (by omega) (by omega) μ)]
    have t0 := vb (2 * s_to V (u / 2) h) (by omega)
    have t1 := vb (2 * s_to V (u / 2) h + 1) (by omega)
    simp (disch := omega) only [pk_mul, nI_add, gA_n, nI_clamp, c3 (2 * s_to V (u / 2) h) (by omega), c3 (2 * s_to V (u / 2) h + 1) (by omega), nI_ltI]
    have b80 : ∃ μ2 v2 O2 cnt2, f_X1_sailOn_b80 (21 + 17 * e) (nI u) (nI h) (f_X1_sailOn_b30 (21 + 17 * e) (nI u) (nI h) n) (nI (u / 2)) (nI (u % 2)) (nI (s_to V (u / 2) h)) (nI j) (nI (s_dep (v u) j)) μ = some μ2 ∧ XG e μ μ2 ∧ CM e μ2 V v2 O2 cnt2 ∧ PQ V v2 T O2 cnt2 ∧ SG V v2 T u (h + 1) := by
      unfold f_X1_sailOn_b80
      rw [bnd_e (x_kind (by omega) hh (by omega) μ), (tc he).2.1, bnd_e (x_side he c2 (by omega) hh)]
      have hsd := @s_sd_lt V (s_zone (u / 2)) (s_span (s_dep (v u) j)) h (u % 2) (by omega)
      simp only [il, lt_d, pk_mul, nI_add]
      rw [bnd_e (x_arr hV he c2 (by omega) hh (by omega) (by omega))]
      have est : 2 * s_to V (u / 2) h + s_sd V (s_zone (u / 2)) (s_span (s_dep (v u) j)) h (u % 2) = s_st V (u / 2) (u % 2) h (s_dep (v u) j) := rfl
      rw [est]
      have hst : s_st V (u / 2) (u % 2) h (s_dep (v u) j) < 72 := by rw [← est]; omega
      simp (disch := omega) only [(tc he).2.2.1, (ta he).2.2.2.1, gA_n, nI_clamp, c3 _ hst]
      have hvs := vb _ hst
      by_cases c0 : s_pace V (s_zone (u / 2)) (s_span (s_dep (v u) j)) h = 0
      · rw [if_pos c0, if_pos (nI_le hvs (by omega))]
        refine ih (j + 1) v O cnt μ (by omega) (by omega) hC hP hS (fun i hi hl => ?_)
        rcases (show i < j ∨ i = j by omega) with q | q
        · exact hcl i q hl
        · rw [q] at hl; have := hl.2; omega
      · rw [if_neg c0]
        have hleg : s_leg V (u / 2) h (s_dep (v u) j) := ⟨hto, by omega⟩
        have har := s_arr_le hV (sd := u % 2) hleg
        by_cases cl : v (s_st V (u / 2) (u % 2) h (s_dep (v u) j)) ≤ s_arr V (u / 2) (u % 2) h (s_dep (v u) j)
        · rw [if_pos (nI_le cl (by omega))]
          refine ih (j + 1) v O cnt μ (by omega) (by omega) hC hP hS (fun i hi hl => ?_)
          rcases (show i < j ∨ i = j by omega) with q | q
          · exact hcl i q hl
          · rw [q]; exact cl
        · rw [if_neg (nI_ge (by omega) (by omega))]
          obtain ⟨w1, w2, w3, w4, w5⟩ := hP.up hV hS hh (by omega) hleg (by omega) (Nat.le_refl h)
          have hcn : cnt < 2 ^ 20 := by have := hP.2.2.2.2.2; have := s_cnt_le v; omega
          obtain ⟨μ2, g1, g2, g3⟩ := x_reach he hC (a := s_arr V (u / 2) (u % 2) h (s_dep (v u) j)) hst hvs (fun z => hP.cl hst z) hcn
          rw [bnv_e g1]
          have eu : s_up v (s_st V (u / 2) (u % 2) h (s_dep (v u) j)) (s_arr V (u / 2) (u % 2) h (s_dep (v u) j)) u = v u := s_up_n w4.symm
          obtain ⟨μ3, v3, O3, cnt3, k1, k2, k3, k4, k5⟩ := ih (j + 1) _ _ _ μ2 (by omega) (by omega) g3 w1 w2 (fun i hi hl => by
            rw [eu] at hl ⊢
            rcases (show i < j ∨ i = j by omega) with q | q
            · exact Nat.le_trans (w5 _) (hcl i q hl)
            · rw [q, s_up_e]; exact Nat.le_refl _)
          exact ⟨μ3, v3, O3, cnt3, k1, g2.tr k2, k3, k4, k5⟩
    by_cases c6 : s_dep (v u) j < v (2 * s_to V (u / 2) h)
    · rw [if_pos c6]; exact b80
    rw [if_neg c6]
    by_cases c7 : s_dep (v u) j < v (2 * s_to V (u / 2) h + 1)
    · rw [if_pos c7]; exact b80
    rw [if_neg c7]
    refine ⟨μ, v, O, cnt, rfl, XG.rf e μ, hC, hP, done (fun i hi hl => ?_)⟩
    by_cases ci : i < j
    · exact hcl i ci hl
    · have hgt := s_arr_gt hV (sd := u % 2) (by omega : u / 2 < 36) hl
      have hmono : s_dep (v u) j ≤ s_dep (v u) i := by unfold s_dep; split <;> split <;> omega
      have hsd := @s_sd_lt V (s_zone (u / 2)) (s_span (s_dep (v u) i)) h (u % 2) (by omega)
      have est : s_st V (u / 2) (u % 2) h (s_dep (v u) i) = 2 * s_to V (u / 2) h + s_sd V (s_zone (u / 2)) (s_span (s_dep (v u) i)) h (u % 2) := rfl
      rw [est]
      rcases (show s_sd V (s_zone (u / 2)) (s_span (s_dep (v u) i)) h (u % 2) = 0 ∨ s_sd V (s_zone (u / 2)) (s_span (s_dep (v u) i)) h (u % 2) = 1 by omega) with q | q
      · rw [q, Nat.add_zero]; omega
      · rw [q]; omega
end XC
