/-! what holds between calls -/
theorem IsL.ex {V : SV} (hV : SVok V) : ∃ v, IsL V v := by
  obtain ⟨_, _, _, v, hv, _⟩ := m_seeks hV (μ := (fun i k => if i = 87 then nI (V 0 k) else if i = 88 then nI (V 1 k) else if i = 89 then nI (V 4 k) else if i = 90 then nI (V 2 k) else if i = 91 then nI (V 3 k) else if i = 92 then nI (V 5 k) else if i = 86 then nI (V 6 k) else nI (V 7 (k - 7)), fun _ _ => 0))
    ⟨fun _ _ => rfl, fun _ _ => rfl, fun _ _ => rfl, fun _ _ => rfl, fun _ _ => rfl, ⟨rfl, rfl⟩, fun _ _ => rfl, rfl, rfl, rfl⟩
  exact ⟨v, hv⟩
noncomputable def s_L (V : SV) : Nat → Nat := Classical.epsilon (fun v => IsL V v)
theorem s_L_is {V : SV} (hV : SVok V) : IsL V (s_L V) := Classical.epsilon_spec (p := fun v => IsL V v) (IsL.ex hV)
theorem IsL.eq {V : SV} (hV : SVok V) {v : Nat → Nat} (h : IsL V v) {k : Nat} (hk : k < 72) : v k = s_L V k := IsL_one hV h (s_L_is hV) k hk
def upV (V : SV) (a k x : Nat) : SV := fun i j => if i = a ∧ j = k then x else V i j
theorem upV_e {V : SV} {a k x : Nat} : upV V a k x a k = x := if_pos ⟨rfl, rfl⟩
theorem upV_n {V : SV} {a k x i j : Nat} (h : i ≠ a ∨ j ≠ k) : upV V a k x i j = V i j := if_neg (by omega)
/-- the rows of the hand -/
def HVok (V : SV) : Prop := (V 15 0 ≤ 8 ∧ ∀ k, k < V 15 0 → V 8 k < 8) ∧ (V 15 1 ≤ 5 ∧ ∀ k, k < V 15 1 → V 9 k < 36 ∧ V 10 k ≤ 99999) ∧ (V 15 2 ≤ 8 ∧ ∀ k, k < V 15 2 → V 11 k < 4 ∧ V 12 k < 8 ∧ (V 11 k ≠ 2 → V 12 k < 4)) ∧ (V 15 3 ≤ 8 ∧ ∀ k, k < V 15 3 → V 13 k < 36 ∧ V 14 k ≤ 99999)
def XHand (o : Nat) (μ : Mem) (V : SV) : Prop := (μ.1 (o + 1) 2 = nI (V 15 0) ∧ ∀ k, k < V 15 0 → μ.1 (o + 2) k = nI (V 8 k)) ∧ (μ.1 (o + 4) 2 = nI (V 15 1) ∧ ∀ k, k < V 15 1 → μ.1 (o + 5) k = nI (V 9 k) ∧ μ.1 (o + 6) k = nI (V 10 k)) ∧ (μ.1 (o + 7) 2 = nI (V 15 2) ∧ ∀ k, k < V 15 2 → μ.1 (o + 8) k = nI (V 11 k) ∧ μ.1 (o + 9) k = nI (V 12 k)) ∧ (μ.1 (o + 10) 2 = nI (V 15 3) ∧ ∀ k, k < V 15 3 → μ.1 (o + 11) k = nI (V 13 k) ∧ μ.1 (o + 12) k = nI (V 14 k))
def MHand (μ : Mem) (V : SV) : Prop := (μ.1 85 10 = nI (V 15 0) ∧ ∀ k, k < V 15 0 → μ.1 93 k = nI (V 8 k)) ∧ (μ.1 85 12 = nI (V 15 1) ∧ ∀ k, k < V 15 1 → μ.1 94 k = nI (V 9 k) ∧ μ.1 95 k = nI (V 10 k)) ∧ (μ.1 85 15 = nI (V 15 2) ∧ ∀ k, k < V 15 2 → μ.1 96 k = nI (V 11 k) ∧ μ.1 97 k = nI (V 12 k)) ∧ (μ.1 85 18 = nI (V 15 3) ∧ ∀ k, k < V 15 3 → μ.1 98 k = nI (V 13 k) ∧ μ.1 99 k = nI (V 14 k))
/-- a whole state kept in a row -/
def MImg (a : Nat) (μ : Mem) (V H : SV) : Prop := ((∀ k, k < 36 → μ.1 a k = nI (V 6 k)) ∧ (∀ k, k < 16 → μ.1 a (36 + k) = nI (V 0 k) ∧ μ.1 a (52 + k) = nI (V 1 k)) ∧ (∀ k, k < 20 → μ.1 a (68 + k) = nI (V 4 k)) ∧ (∀ k, k < 4 → μ.1 a (88 + k) = nI (V 2 k) ∧ μ.1 a (92 + k) = nI (V 3 k)) ∧ (μ.1 a 146 = nI (V 5 0) ∧ μ.1 a 147 = nI (V 5 1)) ∧ (μ.1 a 148 = nI (V 7 0) ∧ μ.1 a 149 = nI (V 7 1) ∧ μ.1 a 150 = nI (V 7 2))) ∧
  (μ.1 a 151 = nI (H 15 0) ∧ ∀ k, k < H 15 0 → μ.1 a (96 + k) = nI (H 8 k)) ∧ (μ.1 a 152 = nI (H 15 1) ∧ ∀ k, k < H 15 1 → μ.1 a (136 + k) = nI (H 9 k) ∧ μ.1 a (141 + k) = nI (H 10 k)) ∧ (μ.1 a 153 = nI (H 15 2) ∧ ∀ k, k < H 15 2 → μ.1 a (104 + k) = nI (H 11 k) ∧ μ.1 a (112 + k) = nI (H 12 k)) ∧ (μ.1 a 154 = nI (H 15 3) ∧ ∀ k, k < H 15 3 → μ.1 a (120 + k) = nI (H 13 k) ∧ μ.1 a (128 + k) = nI (H 14 k))
/-- a version that is none, or an earlier one -/
def VL (x : Int32) (a : Nat) : Prop := x = -nI 1 ∨ ∃ c, c ≤ a ∧ x = nI c
theorem VL.up {x : Int32} {a b : Nat} (h : VL x a) (hab : a ≤ b) : VL x b := h.imp id (fun ⟨c, h1, h2⟩ => ⟨c, by omega, h2⟩)
theorem VL.ne {x : Int32} {a b : Nat} (h : VL x a) (hab : a < b) (hb : b < 2 ^ 31) : x ≠ nI b := by
  rcases h with e | ⟨c, h1, e⟩
  · rw [e]; exact fun z => nI_m1 hb z.symm
  · rw [e]; exact nI_ne (by omega) hb (by omega)
def s_lq (v : Nat → Nat) (q : Nat) : Nat := Nat.min (v (2 * q)) (v (2 * q + 1))
/-- what was worked out by another wind -/
def SI (μ : Mem) (V : SV) : Prop := ∀ z s, z < 4 → s < 4 → μ.1 30 3 = nI z → μ.1 30 4 = nI s → μ.1 30 5 = μ.1 1 10 → ∀ f q, f < 8 → q < 36 → μ.1 47 (36 * f + q) = nI (s_lq (s_L (upV V 0 (4 * z + s) f)) q)
def XC (n : Nat) (V : SV) (μ : Mem) : Prop := ∃ a b W, a ≤ 100 * n ∧ b ≤ 100 * n ∧ SVok W ∧ μ.1 1 10 = nI a ∧ μ.1 31 10 = nI b ∧ (VL (μ.1 21 8) a ∧ VL (μ.1 22 4) a ∧ VL (μ.1 30 5) a) ∧ (VL (μ.1 38 8) b ∧ VL (μ.1 39 4) b) ∧ KI 0 μ V ∧ KI 1 μ W ∧ SI μ V
/-- what the two hold alike: the state, the image, the text and the tapes' heads, the items -/
abbrev ST : Type := SV × SV × SV × SV × SV × (Nat → Nat → Int64)
def srt (n : Nat) : Int32 := if n = 0 then -nI 1 else nI (n - 1)
def STok (S : ST) : Prop := (SVok S.1 ∧ HVok S.2.1) ∧ (SVok S.2.2.1 ∧ HVok S.2.2.2.1) ∧ S.2.2.2.2.1 0 0 < 2 ∧ (S.2.2.2.2.1 1 0 ≤ 100 ∧ ∀ k, k < S.2.2.2.2.1 1 0 → S.2.2.2.2.1 2 k < 128) ∧ ∀ x, x < 6 → S.2.2.2.2.1 3 x ≤ 5 ∧ S.2.2.2.2.1 4 x ≤ 60 ∧ (S.2.2.2.2.1 3 x = 0 → S.2.2.2.2.1 4 x = 0)
def XText (S : ST) (μ : Mem) : Prop := μ.1 48 1 = nI (S.2.2.2.2.1 1 0) ∧ ∀ k, k < S.2.2.2.2.1 1 0 → μ.1 49 k = nI (S.2.2.2.2.1 2 k)
def XTape (S : ST) (μ : Mem) : Prop := ∀ x, x < 6 → μ.1 (53 + 2 * x) 1 = srt (S.2.2.2.2.1 3 x) ∧ μ.1 (53 + 2 * x) 2 = nI (S.2.2.2.2.1 4 x) ∧ ∀ k, k < 60 → μ.2 (54 + 2 * x) k = S.2.2.2.2.2 x k
def XI (n : Nat) (S : ST) (μ : Mem) : Prop := STok S ∧ XC n S.1 μ ∧ XHand 8 μ S.2.1 ∧ (XSea 65 μ S.2.2.1 ∧ XHand 72 μ S.2.2.2.1 ∧ μ.1 0 8 = nI (S.2.2.2.2.1 0 0)) ∧ XText S μ ∧ XTape S μ
def MText (S : ST) (μ : Mem) : Prop := μ.1 85 25 = nI (S.2.2.2.2.1 1 0) ∧ ∀ k, k < S.2.2.2.2.1 1 0 → μ.1 102 k = nI (S.2.2.2.2.1 2 k)
def MTape (S : ST) (μ : Mem) : Prop := ∀ x, x < 6 → μ.1 106 x = srt (S.2.2.2.2.1 3 x) ∧ μ.1 107 x = nI (S.2.2.2.2.1 4 x) ∧ ∀ k, k < 60 → μ.2 108 (60 * x + k) = S.2.2.2.2.2 x k
def MI (S : ST) (μ : Mem) : Prop := STok S ∧ MSea μ S.1 ∧ MHand μ S.2.1 ∧ (μ.1 85 23 = nI (S.2.2.2.2.1 0 0) ∧ (S.2.2.2.2.1 0 0 = 1 → MImg 100 μ S.2.2.1 S.2.2.2.1)) ∧ MText S μ ∧ MTape S μ
def lo (μ μ2 : Mem) : Prop := ∀ i, i < 85 → μ2.1 i = μ.1 i ∧ μ2.2 i = μ.2 i
def hi (μ μ2 : Mem) : Prop := ∀ i, 85 ≤ i → μ2.1 i = μ.1 i ∧ μ2.2 i = μ.2 i
theorem lo.tr {a b c : Mem} (h : lo a b) (g : lo b c) : lo a c := fun i hi => ⟨(g i hi).1.trans (h i hi).1, (g i hi).2.trans (h i hi).2⟩
theorem hi.tr {a b c : Mem} (h : hi a b) (g : hi b c) : hi a c := fun i hi => ⟨(g i hi).1.trans (h i hi).1, (g i hi).2.trans (h i hi).2⟩
theorem KI.cong {e : Nat} {μ μ2 : Mem} {V : SV} (he : e < 2) (h : KI e μ V) (f1 : ∀ i, (21 + 17 * e ≤ i ∧ i ≤ 29 + 17 * e) ∨ (1 + 30 * e ≤ i ∧ i ≤ 7 + 30 * e) → μ2.1 i = μ.1 i) (f2 : μ2.2 (1 + 30 * e) = μ.2 (1 + 30 * e)) : KI e μ2 V := by
  obtain ⟨h1, h2, h3⟩ := h
  have hX : XSea (1 + 30 * e) μ2 V := h1.cong (fun j hj => f1 _ (by omega)) f2 (fun j _ _ => by rw [f1 _ (by omega)])
  have hL : LegsTo e μ V 128 → LegsTo e μ2 V 128 := fun h k hk => by
    rw [f1 (23 + 17 * e) (by omega), f1 (24 + 17 * e) (by omega), f1 (25 + 17 * e) (by omega)]
    exact h k hk
  refine ⟨hX, fun z => ?_, fun z => hL (h3 ?_)⟩
  · rw [f1 _ (by omega), f1 (1 + 30 * e) (by omega)] at z
    obtain ⟨v, c1, c2, c3, c4, c5⟩ := h2 z
    refine ⟨v, c1, hX, hL c3, fun k hk => ?_, fun k hk => ?_⟩
    · rw [f1 _ (by omega)]; exact c4 k hk
    · rw [f1 _ (by omega)]; exact c5 k hk
  · rw [f1 (22 + 17 * e) (by omega), f1 (1 + 30 * e) (by omega)] at z
    exact z
theorem XHand.cong {o : Nat} {μ μ2 : Mem} {V : SV} (h : XHand o μ V) (f : ∀ i, o + 1 ≤ i → i ≤ o + 12 → μ2.1 i = μ.1 i) : XHand o μ2 V := by
  unfold XHand at *
  rw [f (o + 1) (by omega) (by omega), f (o + 2) (by omega) (by omega), f (o + 4) (by omega) (by omega), f (o + 5) (by omega) (by omega), f (o + 6) (by omega) (by omega), f (o + 7) (by omega) (by omega), f (o + 8) (by omega) (by omega), f (o + 9) (by omega) (by omega), f (o + 10) (by omega) (by omega), f (o + 11) (by omega) (by omega), f (o + 12) (by omega) (by omega)]
  exact h
theorem MImg.cong {a : Nat} {μ μ2 : Mem} {V H : SV} (h : MImg a μ V H) (f : μ2.1 a = μ.1 a) : MImg a μ2 V H := by
  unfold MImg at *
  rw [f]
  exact h
theorem SI.cong {μ μ2 : Mem} {V : SV} (h : SI μ V) (f1 : μ2.1 30 = μ.1 30) (f2 : μ2.1 1 10 = μ.1 1 10) (f3 : μ2.1 47 = μ.1 47) : SI μ2 V := by
  unfold SI at *
  rw [f1, f2, f3]
  exact h
theorem XText.cong {S : ST} {μ μ2 : Mem} (h : XText S μ) (f1 : μ2.1 48 1 = μ.1 48 1) (f2 : μ2.1 49 = μ.1 49) : XText S μ2 := by
  unfold XText at *
  rw [f1, f2]
  exact h
theorem XTape.cong {S : ST} {μ μ2 : Mem} (h : XTape S μ) (f1 : ∀ i, 53 ≤ i → i ≤ 64 → μ2.1 i = μ.1 i ∧ μ2.2 i = μ.2 i) : XTape S μ2 := fun x hx => by
  rw [(f1 (53 + 2 * x) (by omega) (by omega)).1, (f1 (54 + 2 * x) (by omega) (by omega)).2]
  exact h x hx
theorem XC.up {n m : Nat} {V : SV} {μ : Mem} (h : XC n V μ) (hnm : n ≤ m) : XC m V μ := by
  obtain ⟨a, b, W, h1, h2, h3⟩ := h
  exact ⟨a, b, W, by omega, by omega, h3⟩
theorem XC.cong {n : Nat} {V : SV} {μ μ2 : Mem} (h : XC n V μ) (f : ∀ i, i ≤ 7 ∨ (21 ≤ i ∧ i ≤ 47) → μ2.1 i = μ.1 i ∧ μ2.2 i = μ.2 i) : XC n V μ2 := by
  obtain ⟨a, b, W, h1, h2, h3, h4, h5, h6, h7, h8, h9, h10⟩ := h
  refine ⟨a, b, W, h1, h2, h3, ?_, ?_, ?_, ?_, h8.cong (by omega) (fun i hi => (f i (by omega)).1) (f 1 (by omega)).2, h9.cong (by omega) (fun i hi => (f i (by omega)).1) (f 31 (by omega)).2, h10.cong (f 30 (by omega)).1 (by rw [(f 1 (by omega)).1]) (f 47 (by omega)).1⟩
  · rw [(f 1 (by omega)).1]; exact h4
  · rw [(f 31 (by omega)).1]; exact h5
  · rw [(f 21 (by omega)).1, (f 22 (by omega)).1, (f 30 (by omega)).1]; exact h6
  · rw [(f 38 (by omega)).1, (f 39 (by omega)).1]; exact h7
theorem XI.up {n m : Nat} {S : ST} {μ : Mem} (h : XI n S μ) (hnm : n ≤ m) : XI m S μ := ⟨h.1, h.2.1.up hnm, h.2.2⟩
theorem XI.lo {n : Nat} {S : ST} {μ μ2 : Mem} (h : XI n S μ) (f : lo μ μ2) : XI n S μ2 := by
  obtain ⟨h1, h2, h3, ⟨h4, h5, h6⟩, h7, h8⟩ := h
  refine ⟨h1, h2.cong (fun i hi => f i (by omega)), h3.cong (fun i a b => (f i (by omega)).1), ⟨h4.cong (fun j hj => (f _ (by omega)).1) (f _ (by omega)).2 (fun j _ _ => by rw [(f _ (by omega)).1]), h5.cong (fun i a b => (f i (by omega)).1), by rw [(f _ (by omega)).1]; exact h6⟩, h7.cong (by rw [(f _ (by omega)).1]) (f _ (by omega)).1, h8.cong (fun i a b => f i (by omega))⟩
/-- the reference's scratch -/
def Qm (μ μ2 : Mem) : Prop := lo μ μ2 ∧ (∀ i, 85 < i → i ≠ 101 → i ≠ 103 → i ≠ 104 → i ≠ 105 → i ≠ 109 → μ2.1 i = μ.1 i ∧ μ2.2 i = μ.2 i) ∧ ∀ k, k ≠ 26 → k ≠ 28 → k ≠ 29 → k ≠ 30 → k ≠ 31 → k ≠ 32 → k ≠ 35 → μ2.1 85 k = μ.1 85 k
theorem Qm.rf (μ : Mem) : Qm μ μ := ⟨fun _ _ => ⟨rfl, rfl⟩, fun _ _ _ _ _ _ _ => ⟨rfl, rfl⟩, fun _ _ _ _ _ _ _ _ => rfl⟩
theorem Qm.tr {a b c : Mem} (h : Qm a b) (g : Qm b c) : Qm a c := ⟨h.1.tr g.1, fun i a1 a2 a3 a4 a5 a6 => ⟨(g.2.1 i a1 a2 a3 a4 a5 a6).1.trans (h.2.1 i a1 a2 a3 a4 a5 a6).1, (g.2.1 i a1 a2 a3 a4 a5 a6).2.trans (h.2.1 i a1 a2 a3 a4 a5 a6).2⟩, fun k a1 a2 a3 a4 a5 a6 a7 => (g.2.2 k a1 a2 a3 a4 a5 a6 a7).trans (h.2.2 k a1 a2 a3 a4 a5 a6 a7)⟩
theorem MFr.q {a b : Mem} (h : MFr a b) : Qm a b := ⟨fun i hi => ⟨h.2.1 i (by omega) (by omega), by rw [h.1]⟩, fun i _ _ _ h1 _ _ => ⟨h.2.1 i (by omega) h1, by rw [h.1]⟩, fun k _ _ h1 h2 h3 h4 _ => h.2.2 k h1 h2 h3 h4⟩
theorem MFc.q {a b : Mem} (h : MFc a b) : Qm a b := ⟨fun i hi => ⟨h.2.1 i (by omega) (by omega), by rw [h.1]⟩, fun i _ _ _ _ h1 _ => ⟨h.2.1 i (by omega) h1, by rw [h.1]⟩, fun k _ _ h1 h2 h3 h4 h5 => h.2.2 k h1 h2 h3 h4 h5⟩
theorem MF0.q {a b : Mem} (h : MF0 a b) : Qm a b := (MFr.of h).q
theorem MSea.cong {μ μ2 : Mem} {V : SV} (h : MSea μ V) (f : ∀ i, 86 ≤ i → i ≤ 92 → μ2.1 i = μ.1 i) (g : ∀ k, 7 ≤ k → k ≤ 9 → μ2.1 85 k = μ.1 85 k) : MSea μ2 V := by
  unfold MSea at *
  rw [f 86 (by omega) (by omega), f 87 (by omega) (by omega), f 88 (by omega) (by omega), f 89 (by omega) (by omega), f 90 (by omega) (by omega), f 91 (by omega) (by omega), f 92 (by omega) (by omega), g 7 (by omega) (by omega), g 8 (by omega) (by omega), g 9 (by omega) (by omega)]
  exact h
theorem MHand.cong {μ μ2 : Mem} {V : SV} (h : MHand μ V) (f : ∀ i, 93 ≤ i → i ≤ 99 → μ2.1 i = μ.1 i) (g : ∀ k, k = 10 ∨ k = 12 ∨ k = 15 ∨ k = 18 → μ2.1 85 k = μ.1 85 k) : MHand μ2 V := by
  unfold MHand at *
  rw [f 93 (by omega) (by omega), f 94 (by omega) (by omega), f 95 (by omega) (by omega), f 96 (by omega) (by omega), f 97 (by omega) (by omega), f 98 (by omega) (by omega), f 99 (by omega) (by omega), g 10 (by omega), g 12 (by omega), g 15 (by omega), g 18 (by omega)]
  exact h
theorem MText.cong {S : ST} {μ μ2 : Mem} (h : MText S μ) (f1 : μ2.1 85 25 = μ.1 85 25) (f2 : μ2.1 102 = μ.1 102) : MText S μ2 := by
  unfold MText at *
  rw [f1, f2]
  exact h
theorem MTape.cong {S : ST} {μ μ2 : Mem} (h : MTape S μ) (f1 : μ2.1 106 = μ.1 106) (f2 : μ2.1 107 = μ.1 107) (f3 : μ2.2 108 = μ.2 108) : MTape S μ2 := by
  unfold MTape at *
  rw [f1, f2, f3]
  exact h
theorem MI.q {S : ST} {μ μ2 : Mem} (h : MI S μ) (f : Qm μ μ2) : MI S μ2 := by
  obtain ⟨h1, h2, h3, ⟨h4, h5⟩, h6, h7⟩ := h
  obtain ⟨_, f1, f2⟩ := f
  refine ⟨h1, h2.cong (fun i _ _ => (f1 i (by omega) (by omega) (by omega) (by omega) (by omega) (by omega)).1) (fun k _ _ => f2 k (by omega) (by omega) (by omega) (by omega) (by omega) (by omega) (by omega)), h3.cong (fun i _ _ => (f1 i (by omega) (by omega) (by omega) (by omega) (by omega) (by omega)).1) (fun k _ => f2 k (by omega) (by omega) (by omega) (by omega) (by omega) (by omega) (by omega)), ⟨?_, fun z => (h5 z).cong (f1 100 (by decide) (by decide) (by decide) (by decide) (by decide) (by decide)).1⟩, h6.cong (f2 25 (by decide) (by decide) (by decide) (by decide) (by decide) (by decide) (by decide)) (f1 102 (by decide) (by decide) (by decide) (by decide) (by decide) (by decide)).1, h7.cong (f1 106 (by decide) (by decide) (by decide) (by decide) (by decide) (by decide)).1 (f1 107 (by decide) (by decide) (by decide) (by decide) (by decide) (by decide)).1 (f1 108 (by decide) (by decide) (by decide) (by decide) (by decide) (by decide)).2⟩
  rw [f2 23 (by decide) (by decide) (by decide) (by decide) (by decide) (by decide) (by decide)]
  exact h4
theorem MI.hi {S : ST} {μ μ2 : Mem} (h : MI S μ) (f : hi μ μ2) : MI S μ2 := by
  obtain ⟨h1, h2, h3, ⟨h4, h5⟩, h6, h7⟩ := h
  have f1 : ∀ i, 85 ≤ i → μ2.1 i = μ.1 i := fun i hi => (f i hi).1
  exact ⟨h1, h2.cong (fun i _ _ => f1 i (by omega)) (fun k _ _ => by rw [f1 85 (by omega)]), h3.cong (fun i _ _ => f1 i (by omega)) (fun k _ => by rw [f1 85 (by omega)]), ⟨by rw [f1 85 (by omega)]; exact h4, fun z => (h5 z).cong (f1 100 (by omega))⟩, h6.cong (by rw [f1 85 (by omega)]) (f1 102 (by omega)), h7.cong (f1 106 (by omega)) (f1 107 (by omega)) (f 108 (by omega)).2⟩
/-- the two answer alike, and go on alike -/
def CALL {α : Type} (fx fm : Mem → Option (α × Mem)) : Prop := ∀ n S μ, n ≤ 100000 → XI n S μ → MI S μ → ∃ r μ1 μ2 S2, fx μ = some (r, μ1) ∧ fm μ1 = some (r, μ2) ∧ XI (n + 1) S2 μ2 ∧ MI S2 μ2
/-- an answer that changes nothing -/
theorem call_0 {α : Type} {fx fm : Mem → Option (α × Mem)} {n : Nat} {S : ST} {μ μ1 μ2 : Mem} {r : α} (hX : XI n S μ1) (hM : MI S μ) (h1 : fx μ = some (r, μ1)) (hh : hi μ μ1) (h2 : fm μ1 = some (r, μ2)) (hq : Qm μ1 μ2) : ∃ r μ1 μ2 S2, fx μ = some (r, μ1) ∧ fm μ1 = some (r, μ2) ∧ XI (n + 1) S2 μ2 ∧ MI S2 μ2 :=
  ⟨r, μ1, μ2, S, h1, h2, (hX.lo hq.1).up (by omega), (hM.hi hh).q hq⟩
