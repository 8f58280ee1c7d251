/-! the memory behind the two constructors (written by wip/whole/gen/init.py) -/
def mu0 : Mem := (fun i =>
  if i = 3 then fa_fl 16 2 (fun _ => 0) else if i = 33 then fa_fl 16 2 (fun _ => 0) else if i = 67 then fa_fl 16 2 (fun _ => 0) else
  if i = 6 then va_cpy k_first (fun _ => 0) (0 : Int32).toNatClampNeg (0 : Int32).toNatClampNeg (15 : Int32).toNatClampNeg else if i = 36 then va_cpy k_first (fun _ => 0) (0 : Int32).toNatClampNeg (0 : Int32).toNatClampNeg (15 : Int32).toNatClampNeg else if i = 70 then va_cpy k_first (fun _ => 0) (0 : Int32).toNatClampNeg (0 : Int32).toNatClampNeg (15 : Int32).toNatClampNeg else
  if i = 7 then upd (upd (fun _ => 0) 0 5) 1 9 else if i = 37 then upd (upd (fun _ => 0) 0 5) 1 9 else if i = 71 then upd (upd (fun _ => 0) 0 5) 1 9 else if i = 92 then upd (upd (fun _ => 0) 0 5) 1 9 else
  if i = 88 then upd (upd (upd (upd (upd (upd (upd (upd (upd (upd (upd (upd (upd (upd (upd (upd (fun _ => 0) 0 2) 1 2) 2 2) 3 2) 4 2) 5 2) 6 2) 7 2) 8 2) 9 2) 10 2) 11 2) 12 2) 13 2) 14 2) 15 2 else
  if i = 89 then upd (upd (upd (upd (upd (upd (upd (upd (upd (upd (upd (upd (upd (upd (upd (upd (upd (upd (upd (upd (fun _ => 0) 0 0) 1 0) 2 0) 3 0) 4 0) 5 0) 6 1) 7 2) 8 3) 9 2) 10 0) 11 2) 12 4) 13 5) 14 4) 15 0) 16 3) 17 5) 18 7) 19 6 else
  if i = 106 then upd (upd (upd (upd (upd (upd (fun _ => 0) 0 (-1)) 1 (-1)) 2 (-1)) 3 (-1)) 4 (-1)) 5 (-1) else
  if i = 21 then (fun k => if k = 8 then -1 else 0) else if i = 38 then (fun k => if k = 8 then -1 else 0) else
  if i = 22 then (fun k => if k = 4 then -1 else 0) else if i = 39 then (fun k => if k = 4 then -1 else 0) else
  if i = 30 then (fun k => if k = 3 then -1 else if k = 4 then -1 else if k = 5 then -1 else 0) else
  if i = 53 then (fun k => if k = 1 then -1 else 0) else if i = 55 then (fun k => if k = 1 then -1 else 0) else if i = 57 then (fun k => if k = 1 then -1 else 0) else if i = 59 then (fun k => if k = 1 then -1 else 0) else if i = 61 then (fun k => if k = 1 then -1 else 0) else if i = 63 then (fun k => if k = 1 then -1 else 0) else fun _ => 0, fun _ _ => 0)
def v0 : SV := fun i k => if i = 1 then 2 else if i = 4 then [0, 0, 0, 0, 0, 0, 1, 2, 3, 2, 0, 2, 4, 5, 4, 0, 3, 5, 7, 6].getD k 0 else if i = 5 then (if k = 0 then 5 else 9) else 0
def z0 : SV := fun _ _ => 0
def s0 : ST := (v0, z0, v0, z0, z0, fun _ _ => 0)
theorem v0_ok : SVok v0 := ⟨by decide +kernel, by decide +kernel, by decide +kernel, by decide +kernel, by decide +kernel, by decide +kernel, by decide +kernel, by decide +kernel, by decide +kernel⟩
theorem z0_ok : HVok z0 := ⟨⟨Nat.zero_le _, fun k h => absurd h (Nat.not_lt_zero k)⟩, ⟨Nat.zero_le _, fun k h => absurd h (Nat.not_lt_zero k)⟩, ⟨Nat.zero_le _, fun k h => absurd h (Nat.not_lt_zero k)⟩, ⟨Nat.zero_le _, fun k h => absurd h (Nat.not_lt_zero k)⟩⟩
theorem s0_ok : STok s0 := ⟨⟨v0_ok, z0_ok⟩, ⟨v0_ok, z0_ok⟩, show 0 < 2 by decide, ⟨Nat.zero_le _, fun k h => absurd h (Nat.not_lt_zero k)⟩, fun x _ => ⟨Nat.zero_le _, Nat.zero_le _, fun _ => rfl⟩⟩
theorem lb0 : LB 0 v0 := ⟨by decide, by decide +kernel⟩
theorem xs0_1 : XSea 1 mu0 v0 := ⟨by decide +kernel, by decide +kernel, by decide +kernel, by decide +kernel, by decide +kernel, by decide +kernel, ⟨0, by decide +kernel, lb0⟩, by decide +kernel, by decide +kernel, by decide +kernel⟩
theorem xs0_31 : XSea 31 mu0 v0 := ⟨by decide +kernel, by decide +kernel, by decide +kernel, by decide +kernel, by decide +kernel, by decide +kernel, ⟨0, by decide +kernel, lb0⟩, by decide +kernel, by decide +kernel, by decide +kernel⟩
theorem xs0_65 : XSea 65 mu0 v0 := ⟨by decide +kernel, by decide +kernel, by decide +kernel, by decide +kernel, by decide +kernel, by decide +kernel, ⟨0, by decide +kernel, lb0⟩, by decide +kernel, by decide +kernel, by decide +kernel⟩
theorem xh0_8 : XHand 8 mu0 z0 := ⟨⟨by decide +kernel, fun k h => absurd h (Nat.not_lt_zero k)⟩, ⟨by decide +kernel, fun k h => absurd h (Nat.not_lt_zero k)⟩, ⟨by decide +kernel, fun k h => absurd h (Nat.not_lt_zero k)⟩, ⟨by decide +kernel, fun k h => absurd h (Nat.not_lt_zero k)⟩⟩
theorem xh0_72 : XHand 72 mu0 z0 := ⟨⟨by decide +kernel, fun k h => absurd h (Nat.not_lt_zero k)⟩, ⟨by decide +kernel, fun k h => absurd h (Nat.not_lt_zero k)⟩, ⟨by decide +kernel, fun k h => absurd h (Nat.not_lt_zero k)⟩, ⟨by decide +kernel, fun k h => absurd h (Nat.not_lt_zero k)⟩⟩
theorem ki0 : KI 0 mu0 v0 := ⟨xs0_1, fun z => absurd z (by decide +kernel), fun z => absurd z (by decide +kernel)⟩
theorem ki1 : KI 1 mu0 v0 := ⟨xs0_31, fun z => absurd z (by decide +kernel), fun z => absurd z (by decide +kernel)⟩
theorem si0 : SI mu0 v0 := fun z s hz hs h => absurd h ((show ∀ z, z < 4 → ¬ mu0.1 30 3 = nI z by decide +kernel) z hz)
theorem xc0 : XC 0 v0 mu0 := ⟨0, 0, v0, Nat.zero_le _, Nat.zero_le _, v0_ok, by decide +kernel, by decide +kernel, ⟨Or.inl (by decide +kernel), Or.inl (by decide +kernel), Or.inl (by decide +kernel)⟩, ⟨Or.inl (by decide +kernel), Or.inl (by decide +kernel)⟩, ki0, ki1, si0⟩
theorem xi0 : XI 0 s0 mu0 := ⟨s0_ok, xc0, xh0_8, ⟨xs0_65, xh0_72, by decide +kernel⟩, ⟨by decide +kernel, fun k h => absurd h (Nat.not_lt_zero k)⟩, fun x hx => ⟨(show ∀ x, x < 6 → mu0.1 (53 + 2 * x) 1 = srt 0 by decide +kernel) x hx, (show ∀ x, x < 6 → mu0.1 (53 + 2 * x) 2 = nI 0 by decide +kernel) x hx, fun _ _ => rfl⟩⟩
theorem ms0 : MSea mu0 v0 := ⟨by decide +kernel, by decide +kernel, by decide +kernel, by decide +kernel, by decide +kernel, by decide +kernel, by decide +kernel, by decide +kernel, by decide +kernel, by decide +kernel⟩
theorem mh0 : MHand mu0 z0 := ⟨⟨by decide +kernel, fun k h => absurd h (Nat.not_lt_zero k)⟩, ⟨by decide +kernel, fun k h => absurd h (Nat.not_lt_zero k)⟩, ⟨by decide +kernel, fun k h => absurd h (Nat.not_lt_zero k)⟩, ⟨by decide +kernel, fun k h => absurd h (Nat.not_lt_zero k)⟩⟩
theorem mi0 : MI s0 mu0 := ⟨s0_ok, ms0, mh0, ⟨by decide +kernel, fun z => absurd z (show ¬ 0 = 1 by decide)⟩, ⟨by decide +kernel, fun k h => absurd h (Nat.not_lt_zero k)⟩, fun x hx => ⟨(show ∀ x, x < 6 → mu0.1 106 x = srt 0 by decide +kernel) x hx, (show ∀ x, x < 6 → mu0.1 107 x = nI 0 by decide +kernel) x hx, fun _ _ => rfl⟩⟩
