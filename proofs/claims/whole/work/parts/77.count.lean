/-! counting LAND -/
theorem l2i (n : Nat) : (lN n).toInt32 = nI n := by
  apply Int32.toBitVec_inj.mp
  rw [Int64.toBitVec_toInt32, wb_tb]
  show BitVec.signExtend 32 (BitVec.ofNat 64 n) = BitVec.ofNat 32 n
  rw [BitVec.signExtend_eq_setWidth_of_le _ (by decide)]
  apply BitVec.eq_of_toNat_eq
  rw [BitVec.toNat_setWidth, BitVec.toNat_ofNat, BitVec.toNat_ofNat]
  omega
theorem nI_127 (a : Nat) : nI a &&& nI 127 = nI (a % 128) := by
  apply Int32.toBitVec_inj.mp
  rw [Int32.toBitVec_and]
  show BitVec.ofNat 32 a &&& BitVec.ofNat 32 127 = BitVec.ofNat 32 (a % 128)
  apply BitVec.eq_of_toNat_eq
  rw [BitVec.toNat_and, BitVec.toNat_ofNat, BitVec.toNat_ofNat, BitVec.toNat_ofNat]
  rw [show 127 % 2 ^ 32 = 2 ^ 7 - 1 from rfl, Nat.and_two_pow_sub_one_eq_mod]
  omega
theorem and16 {x y m n : Nat} (hx : x < 16) (hm : m < 16) : (x + 16 * y) &&& (m + 16 * n) = (x &&& m) + 16 * (y &&& n) := by
  have h := Nat.div_add_mod ((x + 16 * y) &&& (m + 16 * n)) (2 ^ 4)
  rw [Nat.and_div_two_pow, Nat.and_mod_two_pow, show (x + 16 * y) / 2 ^ 4 = y by omega, show (m + 16 * n) / 2 ^ 4 = n by omega, show (x + 16 * y) % 2 ^ 4 = x by omega, show (m + 16 * n) % 2 ^ 4 = m by omega] at h
  omega
def nbL : List Nat → Nat
  | [] => 0
  | x :: l => x + 16 * nbL l
def rep (m : Nat) : Nat → Nat
  | 0 => 0
  | j + 1 => m + 16 * rep m j
def rep2 : Nat → Nat
  | 0 => 0
  | j + 1 => 15 + 16 * (0 + 16 * rep2 j)
def ev : List Nat → List Nat
  | [] => []
  | [x] => [x]
  | x :: _ :: l => x :: 0 :: ev l
theorem bc_5 : ∀ (l : List Nat) (j : Nat), (∀ x, x ∈ l → x < 16) → l.length ≤ j → (nbL l / 2) &&& rep 5 j = nbL (l.map (fun x => x / 2 &&& 5)) := by
  intro l
  induction l with
  | nil => intro j _ _; exact Nat.zero_and _
  | cons x l ih =>
    intro j hl hj
    obtain ⟨j, rfl⟩ : ∃ i, j = i + 1 := ⟨j - 1, by rw [List.length_cons] at hj; omega⟩
    have hx := hl x (List.mem_cons_self ..)
    have i1 := ih j (fun y hy => hl y (List.mem_cons_of_mem _ hy)) (by rw [List.length_cons] at hj; omega)
    have e : nbL (x :: l) / 2 = (x / 2 + 8 * (nbL l % 2)) + 16 * (nbL l / 2) := by rw [nbL]; omega
    rw [e, rep, and16 (by omega) (by decide), i1]
    rw [(show ∀ x, x < 16 → ∀ b, b < 2 → ((x / 2 + 8 * b) &&& 5) = (x / 2 &&& 5) by decide +kernel) x hx (nbL l % 2) (by omega)]
    rfl
theorem bc_3a : ∀ (l : List Nat) (j : Nat), (∀ x, x ∈ l → x < 16) → l.length ≤ j → nbL l &&& rep 3 j = nbL (l.map (fun x => x &&& 3)) := by
  intro l
  induction l with
  | nil => intro j _ _; exact Nat.zero_and _
  | cons x l ih =>
    intro j hl hj
    obtain ⟨j, rfl⟩ : ∃ i, j = i + 1 := ⟨j - 1, by rw [List.length_cons] at hj; omega⟩
    have hx := hl x (List.mem_cons_self ..)
    have i1 := ih j (fun y hy => hl y (List.mem_cons_of_mem _ hy)) (by rw [List.length_cons] at hj; omega)
    rw [nbL, rep, and16 (by omega) (by decide), i1]
    rfl
theorem bc_3b : ∀ (l : List Nat) (j : Nat), (∀ x, x ∈ l → x < 16) → l.length ≤ j → (nbL l / 4) &&& rep 3 j = nbL (l.map (fun x => x / 4 &&& 3)) := by
  intro l
  induction l with
  | nil => intro j _ _; exact Nat.zero_and _
  | cons x l ih =>
    intro j hl hj
    obtain ⟨j, rfl⟩ : ∃ i, j = i + 1 := ⟨j - 1, by rw [List.length_cons] at hj; omega⟩
    have hx := hl x (List.mem_cons_self ..)
    have i1 := ih j (fun y hy => hl y (List.mem_cons_of_mem _ hy)) (by rw [List.length_cons] at hj; omega)
    have e : nbL (x :: l) / 4 = (x / 4 + 4 * (nbL l % 4)) + 16 * (nbL l / 4) := by rw [nbL]; omega
    rw [e, rep, and16 (by omega) (by decide), i1]
    rw [(show ∀ x, x < 16 → ∀ b, b < 4 → ((x / 4 + 4 * b) &&& 3) = (x / 4 &&& 3) by decide +kernel) x hx (nbL l % 4) (by omega)]
    rfl
theorem bc_f : ∀ (j : Nat) (l : List Nat), (∀ x, x ∈ l → x < 16) → l.length ≤ 2 * j → nbL l &&& rep2 j = nbL (ev l) := by
  intro j
  induction j with
  | zero =>
    intro l _ hj
    have : l = [] := List.length_eq_zero_iff.mp (by omega)
    subst this
    rfl
  | succ j ih =>
    intro l hl hj
    match l, hl, hj with
    | [], _, _ => exact Nat.zero_and _
    | [x], hl, _ =>
      have hx := hl x (List.mem_cons_self ..)
      rw [rep2, nbL, and16 hx (by decide), (show ∀ x, x < 16 → (x &&& 15) = x by decide +kernel) x hx]
      show x + 16 * (0 &&& _) = x + 16 * 0
      rw [Nat.zero_and]
    | x :: y :: l, hl, hj =>
      have hx := hl x (List.mem_cons_self ..)
      have hy := hl y (List.mem_cons_of_mem _ (List.mem_cons_self ..))
      have i1 := ih l (fun z hz => hl z (List.mem_cons_of_mem _ (List.mem_cons_of_mem _ hz))) (by rw [List.length_cons, List.length_cons] at hj; omega)
      rw [rep2, nbL, nbL, and16 hx (by decide), (show ∀ x, x < 16 → (x &&& 15) = x by decide +kernel) x hx, and16 hy (by decide), Nat.and_zero, i1]
      rfl
def p4 (x : Nat) : Nat := x % 2 + x / 2 % 2 + x / 4 % 2 + x / 8 % 2
theorem p4_e : ∀ x, x < 16 → ((x - (x / 2 &&& 5)) &&& 3) + ((x - (x / 2 &&& 5)) / 4 &&& 3) = p4 x ∧ (x / 2 &&& 5) ≤ x ∧ x - (x / 2 &&& 5) < 16 ∧ p4 x ≤ 4 := by decide +kernel
theorem bc_m5 : (6148914691236517205 : Int64) = lN (rep 5 16) := by decide +kernel
theorem bc_m3 : (3689348814741910323 : Int64) = lN (rep 3 16) := by decide +kernel
theorem bc_mf : (1085102592571150095 : Int64) = lN (rep2 8) := by decide +kernel
theorem bc_l : rep 5 16 < 2 ^ 64 ∧ rep 3 16 < 2 ^ 64 ∧ rep2 8 < 2 ^ 64 := by decide +kernel
theorem bc_all {P : Nat → Prop} {a b c d e f g h i : Nat} (ha : P a) (hb : P b) (hc : P c) (hd : P d) (he : P e) (hf : P f) (hg : P g) (hh : P h) (hi : P i) : ∀ x, x ∈ [a, b, c, d, e, f, g, h, i] → P x := by
  intro x hx
  simp only [List.mem_cons, List.not_mem_nil, or_false] at hx
  rcases hx with rfl | rfl | rfl | rfl | rfl | rfl | rfl | rfl | rfl
  · exact ha
  · exact hb
  · exact hc
  · exact hd
  · exact he
  · exact hf
  · exact hg
  · exact hh
  · exact hi
theorem nb_map {f g h : Nat → Nat} : ∀ {l : List Nat}, (∀ x, x ∈ l → f x + g x = h x) → nbL (l.map f) + nbL (l.map g) = nbL (l.map h)
  | [], _ => rfl
  | x :: l, e => by
    have i1 := nb_map (fun y hy => e y (List.mem_cons_of_mem x hy))
    have e1 := e x (List.mem_cons_self ..)
    show f x + 16 * nbL (l.map f) + (g x + 16 * nbL (l.map g)) = h x + 16 * nbL (l.map h)
    omega
theorem nb_id (l : List Nat) : nbL (l.map (fun x => x)) = nbL l := by rw [List.map_id']
def C9 (a b c d e f g h i : Nat) : List Nat := [a, b, c, d, e, f, g, h, i]
theorem bc_v2 {L : List Nat} (hL : ∀ x, x ∈ L → x < 16) (hn : L.length ≤ 16) : ∃ v1, ((nbL L / 2) &&& rep 5 16) ≤ nbL L ∧ v1 = nbL L - ((nbL L / 2) &&& rep 5 16) ∧ (v1 &&& rep 3 16) + ((v1 / 4) &&& rep 3 16) = nbL (L.map p4) := by
  have s1 := bc_5 L 16 hL hn
  have s0 : nbL (L.map (fun x => x / 2 &&& 5)) + nbL (L.map (fun x => x - (x / 2 &&& 5))) = nbL L := by
    rw [nb_map (h := fun x => x) (fun x hx => by have := (p4_e x (hL x hx)).2.1; omega), nb_id]
  refine ⟨nbL L - ((nbL L / 2) &&& rep 5 16), by rw [s1]; omega, rfl, ?_⟩
  rw [s1, show nbL L - nbL (L.map (fun x => x / 2 &&& 5)) = nbL (L.map (fun x => x - (x / 2 &&& 5))) by omega]
  have hL2 : ∀ y, y ∈ L.map (fun x => x - (x / 2 &&& 5)) → y < 16 := fun y hy => by
    obtain ⟨x, hx, rfl⟩ := List.mem_map.mp hy
    exact (p4_e x (hL x hx)).2.2.1
  rw [bc_3a _ 16 hL2 (by rw [List.length_map]; exact hn), bc_3b _ 16 hL2 (by rw [List.length_map]; exact hn), List.map_map, List.map_map]
  exact nb_map (fun x hx => (p4_e x (hL x hx)).1)
theorem bc_v3 {a b c d e f g h i : Nat} (ha : a ≤ 4) (hb : b ≤ 4) (hc : c ≤ 4) (hd : d ≤ 4) (he : e ≤ 4) (hf : f ≤ 4) (hg : g ≤ 4) (hh : h ≤ 4) (hi : i ≤ 4) : (nbL [a, b, c, d, e, f, g, h, i] + nbL [a, b, c, d, e, f, g, h, i] / 16) &&& rep2 8 = nbL [a + b, 0, c + d, 0, e + f, 0, g + h, 0, i] := by
  have e1 : nbL [a, b, c, d, e, f, g, h, i] / 16 = nbL [b, c, d, e, f, g, h, i] := by
    rw [nbL]
    omega
  have e2 : nbL [a, b, c, d, e, f, g, h, i] + nbL [b, c, d, e, f, g, h, i] = nbL [a + b, b + c, c + d, d + e, e + f, f + g, g + h, h + i, i] := by
    simp only [nbL]
    omega
  rw [e1, e2, bc_f 8 _ (bc_all (P := fun x => x < 16) (by omega) (by omega) (by omega) (by omega) (by omega) (by omega) (by omega) (by omega) (by omega)) (by simp only [List.length_cons, List.length_nil]; decide)]
  rfl
theorem bc_v6 {w a b c d e : Nat} (ha : a ≤ 8) (hb : b ≤ 8) (hc : c ≤ 8) (hd : d ≤ 8) (he : e ≤ 8) (hw : w = a + 256 * (b + 256 * (c + 256 * (d + 256 * e)))) : (w + w / 2 ^ 8 + (w + w / 2 ^ 8) / 2 ^ 16 + (w + w / 2 ^ 8 + (w + w / 2 ^ 8) / 2 ^ 16) / 2 ^ 32) % 128 = a + b + c + d + e ∧ w < 2 ^ 40 := by
  have e1 : w / 2 ^ 8 = b + 256 * (c + 256 * (d + 256 * e)) := by omega
  have e2 : w + w / 2 ^ 8 = (a + b) + 256 * ((b + c) + 256 * ((c + d) + 256 * ((d + e) + 256 * e))) := by omega
  have e3 : (w + w / 2 ^ 8) / 2 ^ 16 = (c + d) + 256 * ((d + e) + 256 * e) := by rw [e2]; omega
  have e4 : w + w / 2 ^ 8 + (w + w / 2 ^ 8) / 2 ^ 16 = (a + b + c + d) + 256 * ((b + c + d + e) + 256 * ((c + d + e) + 256 * ((d + e) + 256 * e))) := by rw [e3, e2]; omega
  have e5 : (w + w / 2 ^ 8 + (w + w / 2 ^ 8) / 2 ^ 16) / 2 ^ 32 = e := by rw [e4]; omega
  rw [e5, e4]
  omega
theorem bc_x {B : Nat} (hB : B < 2 ^ 36) (μ : Mem) {a b c d e f g h i : Nat} (ha : a < 16) (hb : b < 16) (hc : c < 16) (hd : d < 16) (he : e < 16) (hf : f < 16) (hg : g < 16) (hh : h < 16) (hi : i < 16) (hE : B = nbL [a, b, c, d, e, f, g, h, i]) : f_J13_bitCount_95d88 (lN B) μ = some (nI (p4 a + p4 b + p4 c + p4 d + p4 e + p4 f + p4 g + p4 h + p4 i), μ) := by
  have qa := (p4_e a ha).2.2.2
  have qb := (p4_e b hb).2.2.2
  have qc := (p4_e c hc).2.2.2
  have qd := (p4_e d hd).2.2.2
  have qe := (p4_e e he).2.2.2
  have qf := (p4_e f hf).2.2.2
  have qg := (p4_e g hg).2.2.2
  have qh := (p4_e h hh).2.2.2
  have qi := (p4_e i hi).2.2.2
  obtain ⟨v1, g1, hv, e2⟩ := bc_v2 (L := [a, b, c, d, e, f, g, h, i]) (bc_all ha hb hc hd he hf hg hh hi) (by simp only [List.length_cons, List.length_nil]; decide)
  rw [← hE] at g1 hv
  have hv1 : v1 < 2 ^ 36 := by omega
  simp only [List.map] at e2
  have g2 : v1 &&& rep 3 16 ≤ v1 := Nat.and_le_left
  have g3 : v1 / 4 &&& rep 3 16 ≤ v1 / 4 := Nat.and_le_left
  have hv2 : (v1 &&& rep 3 16) + ((v1 / 4) &&& rep 3 16) < 2 ^ 37 := by omega
  rw [e2] at hv2
  have s4 := bc_v3 qa qb qc qd qe qf qg qh qi
  generalize nbL [p4 a, p4 b, p4 c, p4 d, p4 e, p4 f, p4 g, p4 h, p4 i] = u at *
  obtain ⟨e5, hw2⟩ := bc_v6 (w := nbL [p4 a + p4 b, 0, p4 c + p4 d, 0, p4 e + p4 f, 0, p4 g + p4 h, 0, p4 i]) (a := p4 a + p4 b) (b := p4 c + p4 d) (c := p4 e + p4 f) (d := p4 g + p4 h) (e := p4 i) (by omega) (by omega) (by omega) (by omega) (by omega) (by simp only [nbL]; omega)
  generalize nbL [p4 a + p4 b, 0, p4 c + p4 d, 0, p4 e + p4 f, 0, p4 g + p4 h, 0, p4 i] = w at *
  unfold f_J13_bitCount_95d88
  simp only [il, lt_d, bc_m5, bc_m3, bc_mf]
  rw [wb_shr (n := B) (k := 1) (by omega) (by decide), show B / 2 ^ 1 = B / 2 from rfl, wb_and (by omega) bc_l.1, lN_sub g1, ← hv]
  rw [wb_shr (n := v1) (k := 2) (by omega) (by decide), show v1 / 2 ^ 2 = v1 / 4 from rfl, wb_and (by omega) bc_l.2.1, wb_and (by omega) bc_l.2.1, lN_add, e2]
  rw [wb_shr (n := u) (k := 4) (by omega) (by decide), show u / 2 ^ 4 = u / 16 from rfl, lN_add, wb_and (by omega) bc_l.2.2, s4]
  rw [wb_shr (n := w) (k := 8) (by omega) (by decide), lN_add, wb_shr (k := 16) (by omega) (by decide), lN_add, wb_shr (k := 32) (by omega) (by decide), lN_add, l2i, nI_127, e5]
  rw [show p4 a + p4 b + (p4 c + p4 d) + (p4 e + p4 f) + (p4 g + p4 h) + p4 i = p4 a + p4 b + p4 c + p4 d + p4 e + p4 f + p4 g + p4 h + p4 i by omega]
theorem sm_4 {f : Nat → Nat} {n : Nat} : sm f (n + 4) = sm f n + (f n + f (n + 1) + f (n + 2) + f (n + 3)) := by
  show sm f n + f n + f (n + 1) + f (n + 2) + f (n + 3) = _
  omega
theorem p4_b {B j q : Nat} (hq : q = 4 * j) : B / 2 ^ q % 2 + B / 2 ^ (q + 1) % 2 + B / 2 ^ (q + 2) % 2 + B / 2 ^ (q + 3) % 2 = p4 (B / 16 ^ j % 16) := by
  subst hq
  have e : ∀ i, B / 2 ^ (4 * j + i) = B / 16 ^ j / 2 ^ i := fun i => by
    rw [Nat.pow_add, Nat.pow_mul, Nat.div_div_eq_div_mul]
  have e0 := e 0
  rw [Nat.add_zero] at e0
  rw [e0, e 1, e 2, e 3]
  unfold p4
  generalize B / 16 ^ j = x
  omega
theorem bc_n {B : Nat} (hB : B < 2 ^ 36) (μ : Mem) : f_J13_bitCount_95d88 (lN B) μ = some (nI (sm (fun q => B / 2 ^ q % 2) 36), μ) := by
  have h := bc_x hB μ (a := B / 16 ^ 0 % 16) (b := B / 16 ^ 1 % 16) (c := B / 16 ^ 2 % 16) (d := B / 16 ^ 3 % 16) (e := B / 16 ^ 4 % 16) (f := B / 16 ^ 5 % 16) (g := B / 16 ^ 6 % 16) (h := B / 16 ^ 7 % 16) (i := B / 16 ^ 8 % 16) (by omega) (by omega) (by omega) (by omega) (by omega) (by omega) (by omega) (by omega) (by omega) (by simp only [nbL]; omega)
  rw [h]
  have e : sm (fun q => B / 2 ^ q % 2) 36 = p4 (B / 16 ^ 0 % 16) + p4 (B / 16 ^ 1 % 16) + p4 (B / 16 ^ 2 % 16) + p4 (B / 16 ^ 3 % 16) + p4 (B / 16 ^ 4 % 16) + p4 (B / 16 ^ 5 % 16) + p4 (B / 16 ^ 6 % 16) + p4 (B / 16 ^ 7 % 16) + p4 (B / 16 ^ 8 % 16) := by
    rw [← p4_b (B := B) (j := 0) (q := 0) rfl, ← p4_b (B := B) (j := 1) (q := 4) rfl, ← p4_b (B := B) (j := 2) (q := 8) rfl, ← p4_b (B := B) (j := 3) (q := 12) rfl, ← p4_b (B := B) (j := 4) (q := 16) rfl, ← p4_b (B := B) (j := 5) (q := 20) rfl, ← p4_b (B := B) (j := 6) (q := 24) rfl, ← p4_b (B := B) (j := 7) (q := 28) rfl, ← p4_b (B := B) (j := 8) (q := 32) rfl]
    rw [sm_4 (n := 32), sm_4 (n := 28), sm_4 (n := 24), sm_4 (n := 20), sm_4 (n := 16), sm_4 (n := 12), sm_4 (n := 8), sm_4 (n := 4), sm_4 (n := 0)]
    rw [show sm (fun q => B / 2 ^ q % 2) 0 = 0 from rfl]
    omega
  rw [e]
/-- how many squares are LAND -/
def s_lan (V : SV) : Nat := sm (V 6) 36
theorem x_lan {o : Nat} {V : SV} {μ : Mem} (hM : XSea o μ V) : f_X6_landCount o μ = some (nI (s_lan V), μ) := by
  obtain ⟨B, hB, hL⟩ := hM.2.2.2.2.2.2.1
  unfold f_X6_landCount
  rw [hB, bnd_e (bc_n hL.1 μ)]
  have e : sm (fun q => B / 2 ^ q % 2) 36 = s_lan V := sm_cong (fun k hk => hL.2 k hk)
  rw [e]
theorem s_lan_le {V : SV} (hV : SVok V) : ∀ n, n ≤ 36 → sm (V 6) n ≤ n := by
  intro n hn
  have := sm_le (f := V 6) (c := 1) (n := n) (fun k hk => by have := hV.2.2.2.2.1 k (by omega); omega)
  omega
theorem m_lan {V : SV} {μ : Mem} (hV : SVok V) (hM : MSea μ V) : f_X11_lands 85 μ = some (nI (s_lan V), μ) := by
  have key : ∀ (n k : Nat), k ≤ 36 → 36 - k < n → f_X11_lands_b4 85 n (nI (sm (V 6) k)) (nI k) μ = some (nI (sm (V 6) 36), μ) := by
    intro n
    induction n with
    | zero => intro k hk hn; omega
    | succ n ih =>
      intro k hk hn
      rw [f_X11_lands_b4]
      simp (disch := omega) only [il, nI_leI]
      by_cases c : 36 ≤ k
      · rw [if_pos c, show k = 36 by omega]
      · rw [if_neg c]
        simp (disch := omega) only [rf_85_0, rf_85_1, rf_85_2, rf_85_3, rf_85_4, rf_85_5, rf_85_6, rf_85_11, rf_85_13, rf_85_14, rf_85_16, rf_85_17, rf_85_19, rf_85_20, rf_85_21, rf_85_22, rf_85_24, rf_85_27, rf_85_33, rf_85_34, rf_85_36, rf_85_37, rf_85_38, rf_85_39, al_86, al_87, al_88, al_89, al_90, al_91, al_92, al_93, al_94, al_95, al_96, al_97, al_98, al_99, al_100, al_101, al_102, al_103, al_104, al_105, al_106, al_107, al_108, al_109, gA_n, nI_clamp, hM.2.2.2.2.2.2.1 k (by omega), nI_add, lt_d]
        exact ih (k + 1) (by omega) (by omega)
  have hFU : FU = 1000000000000 := rfl
  exact key FU 0 (by decide) (by omega)
