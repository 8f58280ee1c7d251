/-! pure basics -/
section PB
variable {α β : Type}
theorem lt_d (x : α) (k : α → Option β) : lt x k = k x := (Eq.refl _).trans (Eq.refl _)
theorem bnd_s (r : α) (μ : Mem) (k : α → Mem → Option β) : bnd (some (r, μ)) k = k r μ := (Eq.refl _).trans (Eq.refl _)
theorem bnv_s (μ : Mem) (k : Mem → Option β) : bnv (some μ) k = k μ := (Eq.refl _).trans (Eq.refl _)
theorem bnd_e {a : Option (α × Mem)} {r : α} {μ : Mem} {k : α → Mem → Option β} (h : a = some (r, μ)) : bnd a k = k r μ := by subst h; exact (Eq.refl _).trans (Eq.refl _)
theorem bnv_e {a : Option Mem} {μ : Mem} {k : Mem → Option β} (h : a = some μ) : bnv a k = k μ := by subst h; exact (Eq.refl _).trans (Eq.refl _)
theorem il (n : Nat) : (OfNat.ofNat n : Int32) = nI n := (Eq.refl _).trans (Eq.refl _)
theorem gA_n {i n : Nat} {k : Option β} (h : i < n) (h2 : i < 2 ^ 31) : gA (nI i) n k = k := by
  unfold gA
  refine if_neg (fun q => ?_)
  rcases q with q | q
  · exact nI_pos h2 q
  · rw [nI_clamp h2] at q; omega
theorem gA_i {x : Int32} {n : Nat} {k : Option β} (h : vp_in x n) : gA x n k = k := if_neg h
theorem gZ_n {n : Nat} {k : Option β} (h : 0 < n) (h2 : n < 2 ^ 31) : gZ (nI n) k = k := by
  unfold gZ
  exact if_neg (nI_ne0 h h2)
theorem gB_0 {k : Option β} : gB (nI 0) k = k := (Eq.refl _).trans (Eq.refl _)
theorem gB_1 {k : Option β} : gB (nI 1) k = k := (Eq.refl _).trans (Eq.refl _)
theorem gB_b {c : Prop} [Decidable c] {k : Option β} : gB (if c then nI 1 else nI 0) k = k := by by_cases h : c <;> simp only [h, if_true, if_false] <;> rfl
theorem gP_t {k : Option β} : gP true k = k := (Eq.refl _).trans (Eq.refl _)
theorem ite_n {c : Prop} [Decidable c] : ((if c then nI 1 else nI 0) = nI 0) ↔ ¬ c := by by_cases h : c <;> simp only [h, if_true, if_false] <;> decide
theorem nI_ne {a b : Nat} (ha : a < 2 ^ 31) (hb : b < 2 ^ 31) (h : a ≠ b) : ¬ nI a = nI b := fun e => h ((nI_eq ha hb).mp e)
theorem nI_lt0 {a : Nat} (ha : a < 2 ^ 31) : ¬ nI a < nI 0 := nI_pos ha
theorem sI_1 {μ : Mem} {i k : Nat} {v : Int32} (j : Nat) : (sI μ i k v).1 j = if j = i then upd (μ.1 i) k v else μ.1 j := (Eq.refl _).trans (Eq.refl _)
theorem sI_2 {μ : Mem} {i k : Nat} {v : Int32} : (sI μ i k v).2 = μ.2 := (Eq.refl _).trans (Eq.refl _)
theorem sL_1 {μ : Mem} {i k : Nat} {v : Int64} : (sL μ i k v).1 = μ.1 := (Eq.refl _).trans (Eq.refl _)
theorem sL_2 {μ : Mem} {i k : Nat} {v : Int64} (j : Nat) : (sL μ i k v).2 j = if j = i then vp_updL (μ.2 i) k v else μ.2 j := (Eq.refl _).trans (Eq.refl _)
theorem upd_a {f : Nat → Int32} {k : Nat} {v : Int32} (j : Nat) : upd f k v j = if j = k then v else f j := (Eq.refl _).trans (Eq.refl _)
theorem updL_a {f : Nat → Int64} {k : Nat} {v : Int64} (j : Nat) : vp_updL f k v j = if j = k then v else f j := (Eq.refl _).trans (Eq.refl _)
theorem n_rem (a d : Nat) : a - a / d * d = a % d := by
  have h := Nat.div_add_mod a d
  have e : a / d * d = d * (a / d) := Nat.mul_comm _ _
  omega
theorem rI_1 {μ : Mem} {i : Nat} {f : Nat → Int32} (j : Nat) : (rI μ i f).1 j = if j = i then f else μ.1 j := (Eq.refl _).trans (Eq.refl _)
theorem rI_2 {μ : Mem} {i : Nat} {f : Nat → Int32} : (rI μ i f).2 = μ.2 := (Eq.refl _).trans (Eq.refl _)
end PB
