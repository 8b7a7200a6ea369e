theorem y32s (a b : Int) : Int32.ofInt a - Int32.ofInt b = Int32.ofInt (a - b) := (Int32.ofInt_sub a b).symm
theorem y32a (a b : Int) : Int32.ofInt a + Int32.ofInt b = Int32.ofInt (a + b) := (Int32.ofInt_add a b).symm
theorem y32m (a b : Int) : Int32.ofInt a * Int32.ofInt b = Int32.ofInt (a * b) := (Int32.ofInt_mul a b).symm
theorem y64s (a b : Int) : Int64.ofInt a - Int64.ofInt b = Int64.ofInt (a - b) := (Int64.ofInt_sub a b).symm
theorem y64a (a b : Int) : Int64.ofInt a + Int64.ofInt b = Int64.ofInt (a + b) := (Int64.ofInt_add a b).symm
theorem y64m (a b : Int) : Int64.ofInt a * Int64.ofInt b = Int64.ofInt (a * b) := (Int64.ofInt_mul a b).symm
theorem ytoI (a : Int) (h : -2147483648 ≤ a) (g : a < 2147483648) : (Int32.ofInt a).toInt = a := Int32.toInt_ofInt_of_le (by simpa using h) (by simpa using g)
theorem ytoL (a : Int) (h : -9223372036854775808 ≤ a) (g : a < 9223372036854775808) : (Int64.ofInt a).toInt = a := Int64.toInt_ofInt_of_le (by simpa using h) (by simpa using g)
theorem yw (a : Int) (h : -2147483648 ≤ a) (g : a < 2147483648) : (Int32.ofInt a).toInt64 = Int64.ofInt a := by
  apply Int64.toInt_inj.mp
  rw [ytoL a (by omega) (by omega)]
  simp only [Int32.toInt_toInt64]
  exact ytoI a h g
def tri (c : Nat → Nat → Int) (p q r : Nat) : Int := (c 0 q - c 0 p) * (c 1 r - c 1 p) - (c 1 q - c 1 p) * (c 0 r - c 0 p)
/-- where the pads are -/
def XY (k : Nat) (c : Nat → Nat → Int) (μ : Mem) : Prop := (∀ i, i < 4 → μ.1 (k + 2) i = Int32.ofInt (c 0 i)) ∧ (∀ i, i < 4 → μ.1 (k + 3) i = Int32.ofInt (c 1 i))
def Bxy (c : Nat → Nat → Int) : Prop := ∀ i, i < 4 → -30 ≤ c 0 i ∧ c 0 i ≤ 30 ∧ -30 ≤ c 1 i ∧ c 1 i ≤ 30
theorem span_at {k : Nat} (hk : CK k) {c : Nat → Nat → Int} {μ : Mem} (h : XY k c μ) (b : Bxy c) : ∀ i, i < 4 → f_X4_span SX (k + 1) (Int32.ofNat i) μ = some (Int64.ofInt (tri c i ((i + 1) % 4) ((i + 2) % 4)), μ) := by
  intro i hi
  have b0 := b 0 (by decide)
  have b1 := b 1 (by decide)
  have b2 := b 2 (by decide)
  have b3 := b 3 (by decide)
  obtain ⟨h0, h1⟩ := h
  have e : i = 0 ∨ i = 1 ∨ i = 2 ∨ i = 3 := by omega
  rcases hk with rfl | rfl | rfl <;> rcases e with rfl | rfl | rfl | rfl <;>
    simp (decide := true) (implicitDefEqProofs := false) only [f_X4_span, f_X11_next, h0, h1, zO, zR, zA, zT, zu1, zu2, zu3, zu4, gI, gL, pI, pL, pZ, aI, aL, sI, sZ, sL, Option.bind_some, Option.map_some, if_true, if_false, ite_true, ite_false, true_and, and_true, false_and, and_false, or_true, true_or, or_false, false_or, and_self, not_true_eq_false, not_false_eq_true, ↓reduceIte, reduceIte, Nat.reduceAdd, Nat.reduceMul, Nat.reduceSub, Nat.reduceMod, Nat.reduceDiv, Nat.reduceEqDiff, Nat.reduceLT, Nat.reduceLeDiff, Int32.reduceAdd, Int32.reduceSub, Int32.reduceMul, Int32.reduceDiv, Int32.reduceMod, Int32.reduceOfNat, Int32.reduceOfInt, Int32.reduceLT, Int32.reduceLE, Int32.reduceToNatClampNeg, Int32.reduceToInt] <;>
    simp (implicitDefEqProofs := false) (disch := omega) only [y32s, yw, y64s, y64m, tri] 

theorem mulb {a b : Int} (A B : Nat) (h1 : -(A : Int) ≤ a) (h2 : a ≤ A) (h3 : -(B : Int) ≤ b) (h4 : b ≤ B) : -((A * B : Nat) : Int) ≤ a * b ∧ a * b ≤ ((A * B : Nat) : Int) := by
  have e : (a * b).natAbs ≤ A * B := by
    rw [Int.natAbs_mul]
    exact Nat.mul_le_mul (by omega) (by omega)
  omega
theorem tri_b {c : Nat → Nat → Int} (b : Bxy c) {p q r : Nat} (hp : p < 4) (hq : q < 4) (hr : r < 4) : -7200 ≤ tri c p q r ∧ tri c p q r ≤ 7200 := by
  have b1 := b p hp
  have b2 := b q hq
  have b3 := b r hr
  have m1 := mulb (a := c 0 q - c 0 p) (b := c 1 r - c 1 p) 60 60 (by omega) (by omega) (by omega) (by omega)
  have m2 := mulb (a := c 1 q - c 1 p) (b := c 0 r - c 0 p) 60 60 (by omega) (by omega) (by omega) (by omega)
  unfold tri
  omega
theorem yle0 (a : Int) (h : -9223372036854775808 ≤ a) (g : a < 9223372036854775808) : (Int64.ofInt a ≤ 0) ↔ a ≤ 0 := by
  rw [Int64.le_iff_toInt_le, ytoL a h g]; rfl
theorem ylt0 (a : Int) (h : -9223372036854775808 ≤ a) (g : a < 9223372036854775808) : (Int64.ofInt a < 0) ↔ a < 0 := by
  rw [Int64.lt_iff_toInt_lt, ytoL a h g]; rfl
def stb (c : Nat → Nat → Int) (i : Nat) (v : Int32) : Int32 := if v = 0 then 0 else if tri c i ((i + 1) % 4) ((i + 2) % 4) ≤ 0 then 0 else 1
theorem meas_step {k : Nat} (hk : CK k) {c : Nat → Nat → Int} {μ : Mem} (h : XY k c μ) (b : Bxy c) (self : (Int64 × Int64 × Int64 × Int64 × Int64 × Int32 × Mem) → Option (Unit × Mem)) (s1 s2 s3 s4 s5 : Int) : ∀ i, i < 4 → l_X4_measure_21 SX (k + 1) self (Int64.ofInt s1, Int64.ofInt s2, Int64.ofInt s3, Int64.ofInt s4, Int64.ofInt s5, Int32.ofNat i, μ) = self (Int64.ofInt (s1 + c 0 i), Int64.ofInt (s2 + c 1 i), Int64.ofInt (s3 + c 0 i * c 0 i), Int64.ofInt (s4 + c 0 i * c 1 i), Int64.ofInt (s5 + c 1 i * c 1 i), Int32.ofNat (i + 1), upI μ (k + 1) 3 (stb c i (μ.1 (k + 1) 3))) := by
  intro i hi
  have sp := span_at hk h b i hi
  have tb := tri_b b hi (Nat.mod_lt (i + 1) (by decide : 4 > 0)) (Nat.mod_lt (i + 2) (by decide : 4 > 0))
  have bi := b i hi
  obtain ⟨h0, h1⟩ := h
  have q1 : (Int64.ofInt (tri c i ((i + 1) % 4) ((i + 2) % 4)) ≤ 0) ↔ tri c i ((i + 1) % 4) ((i + 2) % 4) ≤ 0 := yle0 _ (by omega) (by omega)
  have e : i = 0 ∨ i = 1 ∨ i = 2 ∨ i = 3 := by omega
  by_cases hv : μ.1 (k + 1) 3 = 0
  · have es : stb c i (μ.1 (k + 1) 3) = 0 := by unfold stb; rw [if_pos hv]
    rw [es]
    rcases hk with rfl | rfl | rfl <;> rcases e with rfl | rfl | rfl | rfl <;>
    simp (decide := true) (implicitDefEqProofs := false) only [l_X4_measure_21, b_X4_measure_50, b_X4_measure_51, h0, h1, hv, zO, zR, zA, zT, zu1, zu2, zu3, zu4, gI, gL, pI, pL, pZ, aI, aL, sI, sZ, sL, Option.bind_some, Option.map_some, if_true, if_false, ite_true, ite_false, true_and, and_true, false_and, and_false, or_true, true_or, or_false, false_or, and_self, not_true_eq_false, not_false_eq_true, ↓reduceIte, reduceIte, Nat.reduceAdd, Nat.reduceMul, Nat.reduceSub, Nat.reduceMod, Nat.reduceDiv, Nat.reduceEqDiff, Nat.reduceLT, Nat.reduceLeDiff, Int32.reduceAdd, Int32.reduceSub, Int32.reduceMul, Int32.reduceDiv, Int32.reduceMod, Int32.reduceOfNat, Int32.reduceOfInt, Int32.reduceLT, Int32.reduceLE, Int32.reduceToNatClampNeg, Int32.reduceToInt] <;>
    simp (implicitDefEqProofs := false) (disch := omega) only [yw, y64a, y64m]
  · by_cases ht : tri c i ((i + 1) % 4) ((i + 2) % 4) ≤ 0
    · have es : stb c i (μ.1 (k + 1) 3) = 0 := by unfold stb; rw [if_neg hv, if_pos ht]
      rw [es]
      rcases hk with rfl | rfl | rfl <;> rcases e with rfl | rfl | rfl | rfl <;>
      simp only [Nat.reduceAdd, Nat.reduceMul, Nat.reduceMod, Int32.reduceOfNat] at sp q1 ht <;>
      simp (decide := true) (implicitDefEqProofs := false) only [l_X4_measure_21, sp, q1, ht, b_X4_measure_50, b_X4_measure_51, h0, h1, hv, zO, zR, zA, zT, zu1, zu2, zu3, zu4, gI, gL, pI, pL, pZ, aI, aL, sI, sZ, sL, Option.bind_some, Option.map_some, if_true, if_false, ite_true, ite_false, true_and, and_true, false_and, and_false, or_true, true_or, or_false, false_or, and_self, not_true_eq_false, not_false_eq_true, ↓reduceIte, reduceIte, Nat.reduceAdd, Nat.reduceMul, Nat.reduceSub, Nat.reduceMod, Nat.reduceDiv, Nat.reduceEqDiff, Nat.reduceLT, Nat.reduceLeDiff, Int32.reduceAdd, Int32.reduceSub, Int32.reduceMul, Int32.reduceDiv, Int32.reduceMod, Int32.reduceOfNat, Int32.reduceOfInt, Int32.reduceLT, Int32.reduceLE, Int32.reduceToNatClampNeg, Int32.reduceToInt] <;>
      simp (implicitDefEqProofs := false) (disch := omega) only [yw, y64a, y64m]
    · have es : stb c i (μ.1 (k + 1) 3) = 1 := by unfold stb; rw [if_neg hv, if_neg ht]
      rw [es]
      rcases hk with rfl | rfl | rfl <;> rcases e with rfl | rfl | rfl | rfl <;>
      simp only [Nat.reduceAdd, Nat.reduceMul, Nat.reduceMod, Int32.reduceOfNat] at sp q1 ht <;>
      simp (decide := true) (implicitDefEqProofs := false) only [l_X4_measure_21, sp, q1, ht, b_X4_measure_50, b_X4_measure_51, h0, h1, hv, zO, zR, zA, zT, zu1, zu2, zu3, zu4, gI, gL, pI, pL, pZ, aI, aL, sI, sZ, sL, Option.bind_some, Option.map_some, if_true, if_false, ite_true, ite_false, true_and, and_true, false_and, and_false, or_true, true_or, or_false, false_or, and_self, not_true_eq_false, not_false_eq_true, ↓reduceIte, reduceIte, Nat.reduceAdd, Nat.reduceMul, Nat.reduceSub, Nat.reduceMod, Nat.reduceDiv, Nat.reduceEqDiff, Nat.reduceLT, Nat.reduceLeDiff, Int32.reduceAdd, Int32.reduceSub, Int32.reduceMul, Int32.reduceDiv, Int32.reduceMod, Int32.reduceOfNat, Int32.reduceOfInt, Int32.reduceLT, Int32.reduceLE, Int32.reduceToNatClampNeg, Int32.reduceToInt] <;>
      simp (implicitDefEqProofs := false) (disch := omega) only [yw, y64a, y64m]
theorem XY.up {k : Nat} {c : Nat → Nat → Int} {μ : Mem} {v : Int32} {j : Nat} (h : XY k c μ) : XY k c (upI μ (k + 1) j v) := by
  refine ⟨fun i hi => ?_, fun i hi => ?_⟩
  · rw [zu1, if_neg (by omega)]; exact h.1 i hi
  · rw [zu1, if_neg (by omega)]; exact h.2 i hi
def S1 (c : Nat → Nat → Int) : Int := 0 + c 0 0 + c 0 1 + c 0 2 + c 0 3
def S2 (c : Nat → Nat → Int) : Int := 0 + c 1 0 + c 1 1 + c 1 2 + c 1 3
def S3 (c : Nat → Nat → Int) : Int := 0 + c 0 0 * c 0 0 + c 0 1 * c 0 1 + c 0 2 * c 0 2 + c 0 3 * c 0 3
def S4 (c : Nat → Nat → Int) : Int := 0 + c 0 0 * c 1 0 + c 0 1 * c 1 1 + c 0 2 * c 1 2 + c 0 3 * c 1 3
def S5 (c : Nat → Nat → Int) : Int := 0 + c 1 0 * c 1 0 + c 1 1 * c 1 1 + c 1 2 * c 1 2 + c 1 3 * c 1 3
def stands (c : Nat → Nat → Int) : Prop := 0 < tri c 0 1 2 ∧ 0 < tri c 1 2 3 ∧ 0 < tri c 2 3 0 ∧ 0 < tri c 3 0 1
def standB (c : Nat → Nat → Int) : Int32 := stb c 3 (stb c 2 (stb c 1 (stb c 0 1)))
def detC (c : Nat → Nat → Int) : Int := 4 * (S3 c * S5 c - S4 c * S4 c) + S1 c * (S4 c * S2 c - S1 c * S5 c) + S2 c * (S1 c * S4 c - S3 c * S2 c)
/-- what the class keeps of the pads -/
def PD (k : Nat) (c : Nat → Nat → Int) (μ : Mem) : Prop := μ.1 (k + 1) 3 = standB c ∧ μ.2 (k + 1) 4 = Int64.ofInt (S3 c * S5 c - S4 c * S4 c) ∧ μ.2 (k + 1) 5 = Int64.ofInt (S4 c * S2 c - S1 c * S5 c) ∧ μ.2 (k + 1) 6 = Int64.ofInt (S1 c * S4 c - S3 c * S2 c) ∧ μ.2 (k + 1) 7 = Int64.ofInt (4 * S5 c - S2 c * S2 c) ∧ μ.2 (k + 1) 8 = Int64.ofInt (S1 c * S2 c - 4 * S4 c) ∧ μ.2 (k + 1) 9 = Int64.ofInt (4 * S3 c - S1 c * S1 c) ∧ μ.2 (k + 1) 10 = Int64.ofInt (detC c)
theorem y64_4 : (4 : Int64) = Int64.ofInt 4 := rfl
theorem y64_65 : (65 : Int64) = Int64.ofInt 65 := rfl
theorem y64_0 : (0 : Int64) = Int64.ofInt 0 := rfl
theorem stb01 (c : Nat → Nat → Int) (i : Nat) (v : Int32) : stb c i v = 0 ∨ stb c i v = 1 := by
  unfold stb
  by_cases hv : v = 0
  · rw [if_pos hv]; exact Or.inl rfl
  · rw [if_neg hv]
    by_cases ht : tri c i ((i + 1) % 4) ((i + 2) % 4) ≤ 0
    · rw [if_pos ht]; exact Or.inl rfl
    · rw [if_neg ht]; exact Or.inr rfl
theorem standB_iff (c : Nat → Nat → Int) : (stands c ∧ standB c = 1) ∨ (¬ stands c ∧ standB c = 0) := by
  unfold standB stands
  have e : ∀ i v, stb c i v = if v = 0 then 0 else if tri c i ((i + 1) % 4) ((i + 2) % 4) ≤ 0 then 0 else 1 := fun _ _ => rfl
  by_cases h0 : tri c 0 1 2 ≤ 0 <;> by_cases h1 : tri c 1 2 3 ≤ 0 <;> by_cases h2 : tri c 2 3 0 ≤ 0 <;> by_cases h3 : tri c 3 0 1 ≤ 0 <;> simp (decide := true) [e, h0, h1, h2, h3, Int.not_lt, Int.not_le] <;> omega
theorem measure_at {k : Nat} (hk : CK k) {c : Nat → Nat → Int} {μ : Mem} (h : XY k c μ) (b : Bxy c) : ∃ ν, f_X4_measure SX (k + 1) μ = some ((), ν) ∧ Fr (fun q => q = k + 1) μ ν ∧ PD k c ν := by
  have e1 : isO SX 4 (k + 1) = true := by rcases hk with rfl | rfl | rfl <;> decide +kernel
  have st : ∀ (self) (s1 s2 s3 s4 s5 : Int) (μ' : Mem), XY k c μ' → ∀ i, i < 4 → _ := fun self s1 s2 s3 s4 s5 μ' hh => meas_step hk hh b self s1 s2 s3 s4 s5
  have e2 : f_X4_measure SX (k + 1) μ = lpN (l_X4_measure_21 SX (k + 1)) 5000 (Int64.ofInt 0, Int64.ofInt 0, Int64.ofInt 0, Int64.ofInt 0, Int64.ofInt 0, Int32.ofNat 0, upI μ (k + 1) 3 1) := by
    unfold f_X4_measure
    rw [if_pos e1]
    unfold pZ
    rw [if_pos ⟨e1, Or.inr rfl⟩]
    rfl
  rw [e2, zlp, st _ _ _ _ _ _ _ h.up 0 (by decide), zlp, st _ _ _ _ _ _ _ h.up.up 1 (by decide), zlp, st _ _ _ _ _ _ _ h.up.up.up 2 (by decide), zlp, st _ _ _ _ _ _ _ h.up.up.up.up 3 (by decide), zlp]
  refine ⟨_, by
    simp (decide := true) (implicitDefEqProofs := false) only [l_X4_measure_21, b_X4_measure_148, e1, zO, zR, zA, zT, zu1, zu2, zu3, zu4, gI, gL, pI, pL, pZ, aI, aL, sI, sZ, sL, Option.bind_some, Option.map_some, if_true, if_false, ite_true, ite_false, true_and, and_true, false_and, and_false, or_true, true_or, or_false, false_or, and_self, not_true_eq_false, not_false_eq_true, ↓reduceIte, reduceIte, Nat.reduceAdd, Nat.reduceMul, Nat.reduceSub, Nat.reduceMod, Nat.reduceDiv, Nat.reduceEqDiff, Nat.reduceLT, Nat.reduceLeDiff, Int32.reduceAdd, Int32.reduceSub, Int32.reduceMul, Int32.reduceDiv, Int32.reduceMod, Int32.reduceOfNat, Int32.reduceOfInt, Int32.reduceLT, Int32.reduceLE, Int32.reduceToNatClampNeg, Int32.reduceToInt]
    rfl, ?_, ?_⟩
  · intro q hq
    have hq' : ¬ q = k + 1 := hq
    refine ⟨?_, ?_⟩ <;> funext i <;> simp only [zu1, zu2, zu3, zu4, hq', false_and, if_false]
  · refine ⟨?_, ?_, ?_, ?_, ?_, ?_, ?_, ?_⟩ <;> simp (decide := true) (implicitDefEqProofs := false) only [zO, zR, zA, zT, zu1, zu2, zu3, zu4, gI, gL, pI, pL, pZ, aI, aL, sI, sZ, sL, Option.bind_some, Option.map_some, if_true, if_false, ite_true, ite_false, true_and, and_true, false_and, and_false, or_true, true_or, or_false, false_or, and_self, not_true_eq_false, not_false_eq_true, ↓reduceIte, reduceIte, Nat.reduceAdd, Nat.reduceMul, Nat.reduceSub, Nat.reduceMod, Nat.reduceDiv, Nat.reduceEqDiff, Nat.reduceLT, Nat.reduceLeDiff, Int32.reduceAdd, Int32.reduceSub, Int32.reduceMul, Int32.reduceDiv, Int32.reduceMod, Int32.reduceOfNat, Int32.reduceOfInt, Int32.reduceLT, Int32.reduceLE, Int32.reduceToNatClampNeg, Int32.reduceToInt] <;> (try simp (implicitDefEqProofs := false) (disch := omega) only [y64_4, y64a, y64s, y64m]) <;> rfl

