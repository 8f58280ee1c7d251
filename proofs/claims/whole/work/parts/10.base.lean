/-! memory, shapes of the object graph, rows over it (written by wip/whole/gen/base.py) -/
abbrev Mem : Type := (Nat → Nat → Int32) × (Nat → Nat → Int64)
def rI (μ : Mem) (i : Nat) (f : Nat → Int32) : Mem := (va_up μ.1 i f, μ.2)
def rL (μ : Mem) (i : Nat) (f : Nat → Int64) : Mem := (μ.1, va_up μ.2 i f)
def sI (μ : Mem) (i k : Nat) (v : Int32) : Mem := rI μ i (upd (μ.1 i) k v)
def sL (μ : Mem) (i k : Nat) (v : Int64) : Mem := rL μ i (vp_updL (μ.2 i) k v)
def NN : Nat := 110
def kndL : List Nat := [8, 4, 10, 10, 10, 10, 10, 10, 1, 3, 10, 10, 3, 10, 10, 3, 10, 10, 3, 10, 10, 0, 2, 10, 10, 10, 10, 10, 10, 10, 6, 4, 10, 10, 10, 10, 10, 10, 0, 2, 10, 10, 10, 10, 10, 10, 10, 10, 5, 10, 10, 10, 12, 7, 11, 7, 11, 7, 11, 7, 11, 7, 11, 7, 11, 4, 10, 10, 10, 10, 10, 10, 1, 3, 10, 10, 3, 10, 10, 3, 10, 10, 3, 10, 10, 9, 10, 10, 10, 10, 10, 10, 10, 10, 10, 10, 10, 10, 10, 10, 10, 10, 10, 10, 10, 10, 10, 10, 11, 11]
def alnL : List Nat := [0, 0, 16, 16, 4, 4, 15, 2, 0, 0, 8, 8, 0, 5, 5, 0, 8, 8, 0, 8, 8, 0, 0, 128, 128, 128, 72, 72, 72, 72, 0, 0, 16, 16, 4, 4, 15, 2, 0, 0, 128, 128, 128, 72, 72, 72, 72, 288, 0, 100, 12, 72, 6, 0, 60, 0, 60, 0, 60, 0, 60, 0, 60, 0, 60, 0, 16, 16, 4, 4, 15, 2, 0, 0, 8, 8, 0, 5, 5, 0, 8, 8, 0, 8, 8, 0, 36, 16, 16, 20, 4, 4, 2, 8, 5, 5, 8, 8, 8, 8, 170, 170, 100, 5, 72, 72, 6, 6, 360, 60]
def rfL : List (List Nat) := [[1, 8, 21, 30, 48, 52, 65, 72, 0], [2, 3, 4, 5, 6, 7, 0, 0, 0, 0, 0], [], [], [], [], [], [], [9, 12, 15, 18], [10, 11, 0], [], [], [13, 14, 0], [], [], [16, 17, 0], [], [], [19, 20, 0], [], [], [1, 22, 26, 27, 0, 28, 29, 0, 0], [1, 23, 24, 25, 0], [], [], [], [], [], [], [], [31, 38, 47, 0, 0, 0], [32, 33, 34, 35, 36, 37, 0, 0, 0, 0, 0], [], [], [], [], [], [], [31, 39, 43, 44, 0, 45, 46, 0, 0], [31, 40, 41, 42, 0], [], [], [], [], [], [], [], [], [49, 0, 50, 51, 0, 0, 0], [], [], [], [53, 55, 57, 59, 61, 63], [54, 0, 0], [], [56, 0, 0], [], [58, 0, 0], [], [60, 0, 0], [], [62, 0, 0], [], [64, 0, 0], [], [66, 67, 68, 69, 70, 71, 0, 0, 0, 0, 0], [], [], [], [], [], [], [73, 76, 79, 82], [74, 75, 0], [], [], [77, 78, 0], [], [], [80, 81, 0], [], [], [83, 84, 0], [], [], [86, 87, 88, 89, 90, 91, 92, 0, 0, 0, 0, 93, 0, 94, 95, 0, 96, 97, 0, 98, 99, 100, 101, 0, 102, 0, 0, 103, 0, 0, 0, 0, 0, 104, 105, 0, 106, 107, 108, 109], [], [], [], [], [], [], [], [], [], [], [], [], [], [], [], [], [], [], [], [], [], [], [], []]
def knd (i : Nat) : Nat := kndL.getD i 99
def aln (i : Nat) : Nat := alnL.getD i 0
def rf (i k : Nat) : Nat := (rfL.getD i []).getD k 0
theorem knd_lt {i k : Nat} (h : knd i = k) (hk : k < 99) : i < NN := by
  rcases Nat.lt_or_ge i NN with q | q
  · exact q
  · exfalso
    have e : knd i = 99 := by
      unfold knd
      rw [List.getD_eq_getElem?_getD, List.getElem?_eq_none (show kndL.length ≤ i from q)]
      rfl
    omega
theorem kr_0_0 {i : Nat} (h : knd i = 0) : knd (rf i 0) = 4 := (show ∀ i, i < NN → knd i = 0 → knd (rf i 0) = 4 by decide +kernel) i (knd_lt h (by decide)) h
theorem kr_0_1 {i : Nat} (h : knd i = 0) : knd (rf i 1) = 2 := (show ∀ i, i < NN → knd i = 0 → knd (rf i 1) = 2 by decide +kernel) i (knd_lt h (by decide)) h
theorem kr_0_2 {i : Nat} (h : knd i = 0) : knd (rf i 2) = 10 := (show ∀ i, i < NN → knd i = 0 → knd (rf i 2) = 10 by decide +kernel) i (knd_lt h (by decide)) h
theorem kr_0_3 {i : Nat} (h : knd i = 0) : knd (rf i 3) = 10 := (show ∀ i, i < NN → knd i = 0 → knd (rf i 3) = 10 by decide +kernel) i (knd_lt h (by decide)) h
theorem kr_0_5 {i : Nat} (h : knd i = 0) : knd (rf i 5) = 10 := (show ∀ i, i < NN → knd i = 0 → knd (rf i 5) = 10 by decide +kernel) i (knd_lt h (by decide)) h
theorem kr_0_6 {i : Nat} (h : knd i = 0) : knd (rf i 6) = 10 := (show ∀ i, i < NN → knd i = 0 → knd (rf i 6) = 10 by decide +kernel) i (knd_lt h (by decide)) h
theorem kr_1_0 {i : Nat} (h : knd i = 1) : knd (rf i 0) = 3 := (show ∀ i, i < NN → knd i = 1 → knd (rf i 0) = 3 by decide +kernel) i (knd_lt h (by decide)) h
theorem kr_1_1 {i : Nat} (h : knd i = 1) : knd (rf i 1) = 3 := (show ∀ i, i < NN → knd i = 1 → knd (rf i 1) = 3 by decide +kernel) i (knd_lt h (by decide)) h
theorem kr_1_2 {i : Nat} (h : knd i = 1) : knd (rf i 2) = 3 := (show ∀ i, i < NN → knd i = 1 → knd (rf i 2) = 3 by decide +kernel) i (knd_lt h (by decide)) h
theorem kr_1_3 {i : Nat} (h : knd i = 1) : knd (rf i 3) = 3 := (show ∀ i, i < NN → knd i = 1 → knd (rf i 3) = 3 by decide +kernel) i (knd_lt h (by decide)) h
theorem kr_2_0 {i : Nat} (h : knd i = 2) : knd (rf i 0) = 4 := (show ∀ i, i < NN → knd i = 2 → knd (rf i 0) = 4 by decide +kernel) i (knd_lt h (by decide)) h
theorem kr_2_1 {i : Nat} (h : knd i = 2) : knd (rf i 1) = 10 := (show ∀ i, i < NN → knd i = 2 → knd (rf i 1) = 10 by decide +kernel) i (knd_lt h (by decide)) h
theorem kr_2_2 {i : Nat} (h : knd i = 2) : knd (rf i 2) = 10 := (show ∀ i, i < NN → knd i = 2 → knd (rf i 2) = 10 by decide +kernel) i (knd_lt h (by decide)) h
theorem kr_2_3 {i : Nat} (h : knd i = 2) : knd (rf i 3) = 10 := (show ∀ i, i < NN → knd i = 2 → knd (rf i 3) = 10 by decide +kernel) i (knd_lt h (by decide)) h
theorem kr_3_0 {i : Nat} (h : knd i = 3) : knd (rf i 0) = 10 := (show ∀ i, i < NN → knd i = 3 → knd (rf i 0) = 10 by decide +kernel) i (knd_lt h (by decide)) h
theorem kr_3_1 {i : Nat} (h : knd i = 3) : knd (rf i 1) = 10 := (show ∀ i, i < NN → knd i = 3 → knd (rf i 1) = 10 by decide +kernel) i (knd_lt h (by decide)) h
theorem kr_4_0 {i : Nat} (h : knd i = 4) : knd (rf i 0) = 10 := (show ∀ i, i < NN → knd i = 4 → knd (rf i 0) = 10 by decide +kernel) i (knd_lt h (by decide)) h
theorem kr_4_1 {i : Nat} (h : knd i = 4) : knd (rf i 1) = 10 := (show ∀ i, i < NN → knd i = 4 → knd (rf i 1) = 10 by decide +kernel) i (knd_lt h (by decide)) h
theorem kr_4_2 {i : Nat} (h : knd i = 4) : knd (rf i 2) = 10 := (show ∀ i, i < NN → knd i = 4 → knd (rf i 2) = 10 by decide +kernel) i (knd_lt h (by decide)) h
theorem kr_4_3 {i : Nat} (h : knd i = 4) : knd (rf i 3) = 10 := (show ∀ i, i < NN → knd i = 4 → knd (rf i 3) = 10 by decide +kernel) i (knd_lt h (by decide)) h
theorem kr_4_4 {i : Nat} (h : knd i = 4) : knd (rf i 4) = 10 := (show ∀ i, i < NN → knd i = 4 → knd (rf i 4) = 10 by decide +kernel) i (knd_lt h (by decide)) h
theorem kr_4_5 {i : Nat} (h : knd i = 4) : knd (rf i 5) = 10 := (show ∀ i, i < NN → knd i = 4 → knd (rf i 5) = 10 by decide +kernel) i (knd_lt h (by decide)) h
theorem kr_5_0 {i : Nat} (h : knd i = 5) : knd (rf i 0) = 10 := (show ∀ i, i < NN → knd i = 5 → knd (rf i 0) = 10 by decide +kernel) i (knd_lt h (by decide)) h
theorem kr_5_2 {i : Nat} (h : knd i = 5) : knd (rf i 2) = 10 := (show ∀ i, i < NN → knd i = 5 → knd (rf i 2) = 10 by decide +kernel) i (knd_lt h (by decide)) h
theorem kr_5_3 {i : Nat} (h : knd i = 5) : knd (rf i 3) = 10 := (show ∀ i, i < NN → knd i = 5 → knd (rf i 3) = 10 by decide +kernel) i (knd_lt h (by decide)) h
theorem kr_6_0 {i : Nat} (h : knd i = 6) : knd (rf i 0) = 4 := (show ∀ i, i < NN → knd i = 6 → knd (rf i 0) = 4 by decide +kernel) i (knd_lt h (by decide)) h
theorem kr_6_1 {i : Nat} (h : knd i = 6) : knd (rf i 1) = 0 := (show ∀ i, i < NN → knd i = 6 → knd (rf i 1) = 0 by decide +kernel) i (knd_lt h (by decide)) h
theorem kr_6_2 {i : Nat} (h : knd i = 6) : knd (rf i 2) = 10 := (show ∀ i, i < NN → knd i = 6 → knd (rf i 2) = 10 by decide +kernel) i (knd_lt h (by decide)) h
theorem kr_7_0 {i : Nat} (h : knd i = 7) : knd (rf i 0) = 11 := (show ∀ i, i < NN → knd i = 7 → knd (rf i 0) = 11 by decide +kernel) i (knd_lt h (by decide)) h
theorem kr_8_0 {i : Nat} (h : knd i = 8) : knd (rf i 0) = 4 := (show ∀ i, i < NN → knd i = 8 → knd (rf i 0) = 4 by decide +kernel) i (knd_lt h (by decide)) h
theorem kr_8_1 {i : Nat} (h : knd i = 8) : knd (rf i 1) = 1 := (show ∀ i, i < NN → knd i = 8 → knd (rf i 1) = 1 by decide +kernel) i (knd_lt h (by decide)) h
theorem kr_8_2 {i : Nat} (h : knd i = 8) : knd (rf i 2) = 0 := (show ∀ i, i < NN → knd i = 8 → knd (rf i 2) = 0 by decide +kernel) i (knd_lt h (by decide)) h
theorem kr_8_3 {i : Nat} (h : knd i = 8) : knd (rf i 3) = 6 := (show ∀ i, i < NN → knd i = 8 → knd (rf i 3) = 6 by decide +kernel) i (knd_lt h (by decide)) h
theorem kr_8_4 {i : Nat} (h : knd i = 8) : knd (rf i 4) = 5 := (show ∀ i, i < NN → knd i = 8 → knd (rf i 4) = 5 by decide +kernel) i (knd_lt h (by decide)) h
theorem kr_8_5 {i : Nat} (h : knd i = 8) : knd (rf i 5) = 12 := (show ∀ i, i < NN → knd i = 8 → knd (rf i 5) = 12 by decide +kernel) i (knd_lt h (by decide)) h
theorem kr_8_6 {i : Nat} (h : knd i = 8) : knd (rf i 6) = 4 := (show ∀ i, i < NN → knd i = 8 → knd (rf i 6) = 4 by decide +kernel) i (knd_lt h (by decide)) h
theorem kr_8_7 {i : Nat} (h : knd i = 8) : knd (rf i 7) = 1 := (show ∀ i, i < NN → knd i = 8 → knd (rf i 7) = 1 by decide +kernel) i (knd_lt h (by decide)) h
theorem kr_9_0 {i : Nat} (h : knd i = 9) : knd (rf i 0) = 10 := (show ∀ i, i < NN → knd i = 9 → knd (rf i 0) = 10 by decide +kernel) i (knd_lt h (by decide)) h
theorem kr_9_1 {i : Nat} (h : knd i = 9) : knd (rf i 1) = 10 := (show ∀ i, i < NN → knd i = 9 → knd (rf i 1) = 10 by decide +kernel) i (knd_lt h (by decide)) h
theorem kr_9_2 {i : Nat} (h : knd i = 9) : knd (rf i 2) = 10 := (show ∀ i, i < NN → knd i = 9 → knd (rf i 2) = 10 by decide +kernel) i (knd_lt h (by decide)) h
theorem kr_9_3 {i : Nat} (h : knd i = 9) : knd (rf i 3) = 10 := (show ∀ i, i < NN → knd i = 9 → knd (rf i 3) = 10 by decide +kernel) i (knd_lt h (by decide)) h
theorem kr_9_4 {i : Nat} (h : knd i = 9) : knd (rf i 4) = 10 := (show ∀ i, i < NN → knd i = 9 → knd (rf i 4) = 10 by decide +kernel) i (knd_lt h (by decide)) h
theorem kr_9_5 {i : Nat} (h : knd i = 9) : knd (rf i 5) = 10 := (show ∀ i, i < NN → knd i = 9 → knd (rf i 5) = 10 by decide +kernel) i (knd_lt h (by decide)) h
theorem kr_9_6 {i : Nat} (h : knd i = 9) : knd (rf i 6) = 10 := (show ∀ i, i < NN → knd i = 9 → knd (rf i 6) = 10 by decide +kernel) i (knd_lt h (by decide)) h
theorem kr_9_11 {i : Nat} (h : knd i = 9) : knd (rf i 11) = 10 := (show ∀ i, i < NN → knd i = 9 → knd (rf i 11) = 10 by decide +kernel) i (knd_lt h (by decide)) h
theorem kr_9_13 {i : Nat} (h : knd i = 9) : knd (rf i 13) = 10 := (show ∀ i, i < NN → knd i = 9 → knd (rf i 13) = 10 by decide +kernel) i (knd_lt h (by decide)) h
theorem kr_9_14 {i : Nat} (h : knd i = 9) : knd (rf i 14) = 10 := (show ∀ i, i < NN → knd i = 9 → knd (rf i 14) = 10 by decide +kernel) i (knd_lt h (by decide)) h
theorem kr_9_16 {i : Nat} (h : knd i = 9) : knd (rf i 16) = 10 := (show ∀ i, i < NN → knd i = 9 → knd (rf i 16) = 10 by decide +kernel) i (knd_lt h (by decide)) h
theorem kr_9_17 {i : Nat} (h : knd i = 9) : knd (rf i 17) = 10 := (show ∀ i, i < NN → knd i = 9 → knd (rf i 17) = 10 by decide +kernel) i (knd_lt h (by decide)) h
theorem kr_9_19 {i : Nat} (h : knd i = 9) : knd (rf i 19) = 10 := (show ∀ i, i < NN → knd i = 9 → knd (rf i 19) = 10 by decide +kernel) i (knd_lt h (by decide)) h
theorem kr_9_20 {i : Nat} (h : knd i = 9) : knd (rf i 20) = 10 := (show ∀ i, i < NN → knd i = 9 → knd (rf i 20) = 10 by decide +kernel) i (knd_lt h (by decide)) h
theorem kr_9_21 {i : Nat} (h : knd i = 9) : knd (rf i 21) = 10 := (show ∀ i, i < NN → knd i = 9 → knd (rf i 21) = 10 by decide +kernel) i (knd_lt h (by decide)) h
theorem kr_9_22 {i : Nat} (h : knd i = 9) : knd (rf i 22) = 10 := (show ∀ i, i < NN → knd i = 9 → knd (rf i 22) = 10 by decide +kernel) i (knd_lt h (by decide)) h
theorem kr_9_24 {i : Nat} (h : knd i = 9) : knd (rf i 24) = 10 := (show ∀ i, i < NN → knd i = 9 → knd (rf i 24) = 10 by decide +kernel) i (knd_lt h (by decide)) h
theorem kr_9_27 {i : Nat} (h : knd i = 9) : knd (rf i 27) = 10 := (show ∀ i, i < NN → knd i = 9 → knd (rf i 27) = 10 by decide +kernel) i (knd_lt h (by decide)) h
theorem kr_9_33 {i : Nat} (h : knd i = 9) : knd (rf i 33) = 10 := (show ∀ i, i < NN → knd i = 9 → knd (rf i 33) = 10 by decide +kernel) i (knd_lt h (by decide)) h
theorem kr_9_34 {i : Nat} (h : knd i = 9) : knd (rf i 34) = 10 := (show ∀ i, i < NN → knd i = 9 → knd (rf i 34) = 10 by decide +kernel) i (knd_lt h (by decide)) h
theorem kr_9_36 {i : Nat} (h : knd i = 9) : knd (rf i 36) = 10 := (show ∀ i, i < NN → knd i = 9 → knd (rf i 36) = 10 by decide +kernel) i (knd_lt h (by decide)) h
theorem kr_9_37 {i : Nat} (h : knd i = 9) : knd (rf i 37) = 10 := (show ∀ i, i < NN → knd i = 9 → knd (rf i 37) = 10 by decide +kernel) i (knd_lt h (by decide)) h
theorem kr_9_38 {i : Nat} (h : knd i = 9) : knd (rf i 38) = 11 := (show ∀ i, i < NN → knd i = 9 → knd (rf i 38) = 11 by decide +kernel) i (knd_lt h (by decide)) h
theorem kr_9_39 {i : Nat} (h : knd i = 9) : knd (rf i 39) = 11 := (show ∀ i, i < NN → knd i = 9 → knd (rf i 39) = 11 by decide +kernel) i (knd_lt h (by decide)) h
theorem kr_tp {i j : Nat} (h : knd i = 12) (hj : j < 6) : knd (rf i j) = 7 := (show ∀ i, i < NN → knd i = 12 → ∀ j, j < 6 → knd (rf i j) = 7 by decide +kernel) i (knd_lt h (by decide)) h j hj
abbrev EE : Type := va_G × (ClassId × ClassId × ClassId) × (Nat → Nat) × (Nat → Nat)
def eD (E : EE) : va_G := E.1
def eI (E : EE) : ClassId := E.2.1.1
def eJ (E : EE) : ClassId := E.2.1.2.1
def eT (E : EE) : ClassId := E.2.1.2.2
def eA (E : EE) : Nat → Nat := E.2.2.1
def eS (E : EE) : Nat → Nat := E.2.2.2
def cel (E : EE) (μ : Mem) (i : Nat) : va_E :=
  if knd i = 0 then .inr (0, [.ref (eA E (rf i 0)), .ref (eA E (rf i 1)), .ref (eA E (rf i 2)), .ref (eA E (rf i 3)), .int (μ.1 i 4), .ref (eA E (rf i 5)), .ref (eA E (rf i 6)), .int (μ.1 i 7), .int (μ.1 i 8)]) else
  if knd i = 1 then .inr (1, [.ref (eA E (rf i 0)), .ref (eA E (rf i 1)), .ref (eA E (rf i 2)), .ref (eA E (rf i 3))]) else
  if knd i = 2 then .inr (2, [.ref (eA E (rf i 0)), .ref (eA E (rf i 1)), .ref (eA E (rf i 2)), .ref (eA E (rf i 3)), .int (μ.1 i 4)]) else
  if knd i = 3 then .inr (3, [.ref (eA E (rf i 0)), .ref (eA E (rf i 1)), .int (μ.1 i 2)]) else
  if knd i = 4 then .inr (4, [.ref (eA E (rf i 0)), .ref (eA E (rf i 1)), .ref (eA E (rf i 2)), .ref (eA E (rf i 3)), .ref (eA E (rf i 4)), .ref (eA E (rf i 5)), .long (μ.2 i 6), .int (μ.1 i 7), .int (μ.1 i 8), .int (μ.1 i 9), .int (μ.1 i 10)]) else
  if knd i = 5 then .inr (5, [.ref (eA E (rf i 0)), .int (μ.1 i 1), .ref (eA E (rf i 2)), .ref (eA E (rf i 3)), .int (μ.1 i 4), .int (μ.1 i 5), .int (μ.1 i 6)]) else
  if knd i = 6 then .inr (6, [.ref (eA E (rf i 0)), .ref (eA E (rf i 1)), .ref (eA E (rf i 2)), .int (μ.1 i 3), .int (μ.1 i 4), .int (μ.1 i 5)]) else
  if knd i = 7 then .inr (7, [.ref (eA E (rf i 0)), .int (μ.1 i 1), .int (μ.1 i 2)]) else
  if knd i = 8 then .inr (8, [.ref (eA E (rf i 0)), .ref (eA E (rf i 1)), .ref (eA E (rf i 2)), .ref (eA E (rf i 3)), .ref (eA E (rf i 4)), .ref (eA E (rf i 5)), .ref (eA E (rf i 6)), .ref (eA E (rf i 7)), .int (μ.1 i 8)]) else
  if knd i = 9 then .inr (9, [.ref (eA E (rf i 0)), .ref (eA E (rf i 1)), .ref (eA E (rf i 2)), .ref (eA E (rf i 3)), .ref (eA E (rf i 4)), .ref (eA E (rf i 5)), .ref (eA E (rf i 6)), .int (μ.1 i 7), .int (μ.1 i 8), .int (μ.1 i 9), .int (μ.1 i 10), .ref (eA E (rf i 11)), .int (μ.1 i 12), .ref (eA E (rf i 13)), .ref (eA E (rf i 14)), .int (μ.1 i 15), .ref (eA E (rf i 16)), .ref (eA E (rf i 17)), .int (μ.1 i 18), .ref (eA E (rf i 19)), .ref (eA E (rf i 20)), .ref (eA E (rf i 21)), .ref (eA E (rf i 22)), .int (μ.1 i 23), .ref (eA E (rf i 24)), .int (μ.1 i 25), .int (μ.1 i 26), .ref (eA E (rf i 27)), .int (μ.1 i 28), .int (μ.1 i 29), .int (μ.1 i 30), .int (μ.1 i 31), .int (μ.1 i 32), .ref (eA E (rf i 33)), .ref (eA E (rf i 34)), .int (μ.1 i 35), .ref (eA E (rf i 36)), .ref (eA E (rf i 37)), .ref (eA E (rf i 38)), .ref (eA E (rf i 39))]) else
  if knd i = 10 then .inl (eI E, aln i, .inl (μ.1 i)) else
  if knd i = 11 then .inl (eJ E, aln i, .inr (.inl (μ.2 i))) else
  .inl (eT E, aln i, .inr (.inr (.inr (.inr (fun j => some (eA E (rf i j)))))))
theorem cel_0 {E : EE} {μ : Mem} {i : Nat} (h : knd i = 0) : cel E μ i = .inr (0, [.ref (eA E (rf i 0)), .ref (eA E (rf i 1)), .ref (eA E (rf i 2)), .ref (eA E (rf i 3)), .int (μ.1 i 4), .ref (eA E (rf i 5)), .ref (eA E (rf i 6)), .int (μ.1 i 7), .int (μ.1 i 8)]) := by unfold cel; simp [h]
theorem cel_1 {E : EE} {μ : Mem} {i : Nat} (h : knd i = 1) : cel E μ i = .inr (1, [.ref (eA E (rf i 0)), .ref (eA E (rf i 1)), .ref (eA E (rf i 2)), .ref (eA E (rf i 3))]) := by unfold cel; simp [h]
theorem cel_2 {E : EE} {μ : Mem} {i : Nat} (h : knd i = 2) : cel E μ i = .inr (2, [.ref (eA E (rf i 0)), .ref (eA E (rf i 1)), .ref (eA E (rf i 2)), .ref (eA E (rf i 3)), .int (μ.1 i 4)]) := by unfold cel; simp [h]
theorem cel_3 {E : EE} {μ : Mem} {i : Nat} (h : knd i = 3) : cel E μ i = .inr (3, [.ref (eA E (rf i 0)), .ref (eA E (rf i 1)), .int (μ.1 i 2)]) := by unfold cel; simp [h]
theorem cel_4 {E : EE} {μ : Mem} {i : Nat} (h : knd i = 4) : cel E μ i = .inr (4, [.ref (eA E (rf i 0)), .ref (eA E (rf i 1)), .ref (eA E (rf i 2)), .ref (eA E (rf i 3)), .ref (eA E (rf i 4)), .ref (eA E (rf i 5)), .long (μ.2 i 6), .int (μ.1 i 7), .int (μ.1 i 8), .int (μ.1 i 9), .int (μ.1 i 10)]) := by unfold cel; simp [h]
theorem cel_5 {E : EE} {μ : Mem} {i : Nat} (h : knd i = 5) : cel E μ i = .inr (5, [.ref (eA E (rf i 0)), .int (μ.1 i 1), .ref (eA E (rf i 2)), .ref (eA E (rf i 3)), .int (μ.1 i 4), .int (μ.1 i 5), .int (μ.1 i 6)]) := by unfold cel; simp [h]
theorem cel_6 {E : EE} {μ : Mem} {i : Nat} (h : knd i = 6) : cel E μ i = .inr (6, [.ref (eA E (rf i 0)), .ref (eA E (rf i 1)), .ref (eA E (rf i 2)), .int (μ.1 i 3), .int (μ.1 i 4), .int (μ.1 i 5)]) := by unfold cel; simp [h]
theorem cel_7 {E : EE} {μ : Mem} {i : Nat} (h : knd i = 7) : cel E μ i = .inr (7, [.ref (eA E (rf i 0)), .int (μ.1 i 1), .int (μ.1 i 2)]) := by unfold cel; simp [h]
theorem cel_8 {E : EE} {μ : Mem} {i : Nat} (h : knd i = 8) : cel E μ i = .inr (8, [.ref (eA E (rf i 0)), .ref (eA E (rf i 1)), .ref (eA E (rf i 2)), .ref (eA E (rf i 3)), .ref (eA E (rf i 4)), .ref (eA E (rf i 5)), .ref (eA E (rf i 6)), .ref (eA E (rf i 7)), .int (μ.1 i 8)]) := by unfold cel; simp [h]
theorem cel_9 {E : EE} {μ : Mem} {i : Nat} (h : knd i = 9) : cel E μ i = .inr (9, [.ref (eA E (rf i 0)), .ref (eA E (rf i 1)), .ref (eA E (rf i 2)), .ref (eA E (rf i 3)), .ref (eA E (rf i 4)), .ref (eA E (rf i 5)), .ref (eA E (rf i 6)), .int (μ.1 i 7), .int (μ.1 i 8), .int (μ.1 i 9), .int (μ.1 i 10), .ref (eA E (rf i 11)), .int (μ.1 i 12), .ref (eA E (rf i 13)), .ref (eA E (rf i 14)), .int (μ.1 i 15), .ref (eA E (rf i 16)), .ref (eA E (rf i 17)), .int (μ.1 i 18), .ref (eA E (rf i 19)), .ref (eA E (rf i 20)), .ref (eA E (rf i 21)), .ref (eA E (rf i 22)), .int (μ.1 i 23), .ref (eA E (rf i 24)), .int (μ.1 i 25), .int (μ.1 i 26), .ref (eA E (rf i 27)), .int (μ.1 i 28), .int (μ.1 i 29), .int (μ.1 i 30), .int (μ.1 i 31), .int (μ.1 i 32), .ref (eA E (rf i 33)), .ref (eA E (rf i 34)), .int (μ.1 i 35), .ref (eA E (rf i 36)), .ref (eA E (rf i 37)), .ref (eA E (rf i 38)), .ref (eA E (rf i 39))]) := by unfold cel; simp [h]
theorem cel_10 {E : EE} {μ : Mem} {i : Nat} (h : knd i = 10) : cel E μ i = .inl (eI E, aln i, .inl (μ.1 i)) := by unfold cel; simp [h]
theorem cel_11 {E : EE} {μ : Mem} {i : Nat} (h : knd i = 11) : cel E μ i = .inl (eJ E, aln i, .inr (.inl (μ.2 i))) := by unfold cel; simp [h]
theorem cel_12 {E : EE} {μ : Mem} {i : Nat} (h : knd i = 12) : cel E μ i = .inl (eT E, aln i, .inr (.inr (.inr (.inr (fun j => some (eA E (rf i j))))))) := by unfold cel; simp [h]
theorem cel_cong {E : EE} {μ μ2 : Mem} {i : Nat} (h1 : μ2.1 i = μ.1 i) (h2 : μ2.2 i = μ.2 i) : cel E μ2 i = cel E μ i := by unfold cel; rw [h1, h2]
def wsO (E : EE) (μ : Mem) : va_W := (List.range NN).map (fun i => (eA E i, cel E μ i))
theorem wsO_get {E : EE} {μ : Mem} {i : Nat} (hi : i < NN) : (wsO E μ)[i]? = some (eA E i, cel E μ i) := by
  unfold wsO
  rw [List.getElem?_map, List.getElem?_range hi]
  rfl
theorem wsO_len {E : EE} {μ : Mem} : (wsO E μ).length = NN := by unfold wsO; rw [List.length_map, List.length_range]
theorem wsO_set {E : EE} {μ μ2 : Mem} {i : Nat} (hi : i < NN) {x : va_E} (hx : cel E μ2 i = x) (ho : ∀ j, j ≠ i → cel E μ2 j = cel E μ j) : (wsO E μ).set i (eA E i, x) = wsO E μ2 := by
  apply List.ext_getElem?
  intro j
  rw [List.getElem?_set]
  by_cases hji : i = j
  · subst hji
    rw [if_pos rfl, wsO_len, if_pos hi, wsO_get hi, hx]
  · rw [if_neg hji]
    rcases Nat.lt_or_ge j NN with q | q
    · rw [wsO_get q, wsO_get q, ho j (fun e => hji e.symm)]
    · rw [List.getElem?_eq_none (by rw [wsO_len]; exact q), List.getElem?_eq_none (by rw [wsO_len]; exact q)]
theorem rI_ne {μ : Mem} {i j : Nat} {f : Nat → Int32} (h : j ≠ i) : (rI μ i f).1 j = μ.1 j := by unfold rI va_up; exact if_neg h
theorem rI_eq {μ : Mem} {i : Nat} {f : Nat → Int32} : (rI μ i f).1 i = f := by unfold rI va_up; exact if_pos rfl
theorem rL_ne {μ : Mem} {i j : Nat} {f : Nat → Int64} (h : j ≠ i) : (rL μ i f).2 j = μ.2 j := by unfold rL va_up; exact if_neg h
theorem rL_eq {μ : Mem} {i : Nat} {f : Nat → Int64} : (rL μ i f).2 i = f := by unfold rL va_up; exact if_pos rfl
theorem wsO_setI {E : EE} {μ : Mem} {i : Nat} {f : Nat → Int32} (hi : i < NN) {x : va_E} (hx : cel E (rI μ i f) i = x) : (wsO E μ).set i (eA E i, x) = wsO E (rI μ i f) := wsO_set hi hx (fun _ hj => cel_cong (rI_ne hj) rfl)
theorem wsO_setL {E : EE} {μ : Mem} {i : Nat} {f : Nat → Int64} (hi : i < NN) {x : va_E} (hx : cel E (rL μ i f) i = x) : (wsO E μ).set i (eA E i, x) = wsO E (rL μ i f) := wsO_set hi hx (fun _ hj => cel_cong rfl (rL_ne hj))
def eInj (E : EE) : Prop := ∀ i j, i < NN → j < NN → eA E i = eA E j → i = j
def AA (E : EE) : Nat → Prop := fun q => ∃ i, i < NN ∧ eA E i = q
theorem wsO_D {E : EE} (h : eInj E) (μ : Mem) : va_D (AA E) (wsO E μ) := by
  have g : ∀ (k : Nat) (q : Nat × va_E), (wsO E μ)[k]? = some q → k < NN ∧ q = (eA E k, cel E μ k) := by
    intro k q hq
    have hk : k < NN := by
      rcases Nat.lt_or_ge k NN with z | z
      · exact z
      · rw [List.getElem?_eq_none (by rw [wsO_len]; exact z)] at hq; cases hq
    rw [wsO_get hk] at hq
    exact ⟨hk, (Option.some.inj hq).symm⟩
  refine ⟨fun i j p q hp hq e => ?_, fun k q hq => ?_⟩
  · obtain ⟨h1, rfl⟩ := g i p hp
    obtain ⟨h2, rfl⟩ := g j q hq
    exact h i j h1 h2 e
  · obtain ⟨h1, rfl⟩ := g k q hq
    exact ⟨k, h1, rfl⟩
def tyO (E : EE) : List (ClassId × FieldType) := [(eI E, .int), (eJ E, .long), (eT E, .object "SailCourses$Tape")]
