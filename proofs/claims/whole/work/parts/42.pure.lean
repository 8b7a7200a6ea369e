def sm (f : Nat → Int) : Nat → Int
  | 0 => 0
  | n + 1 => sm f n + f n
def nP (c : Nat → Nat → Int) : Nat := (c 7 0).toNat
/-- what the class keeps of the parts -/
def QD (k : Nat) (c : Nat → Nat → Int) (μ : Mem) : Prop := μ.1 (k + 5) 4 = Int32.ofInt (c 7 0) ∧ μ.1 (k + 5) 5 = Int32.ofInt (sm (c 3) (nP c)) ∧ μ.1 (k + 5) 6 = Int32.ofInt (sm (fun i => if c 6 i = 0 then c 3 i * c 4 i else 0) (nP c)) ∧ μ.1 (k + 5) 7 = Int32.ofInt (sm (fun i => if c 6 i = 0 then c 3 i * c 5 i else 0) (nP c)) ∧ μ.1 (k + 5) 8 = Int32.ofInt (sm (fun i => if c 6 i = 0 then 0 else c 3 i * c 4 i) (nP c)) ∧ μ.1 (k + 5) 9 = Int32.ofInt (sm (fun i => if c 6 i = 0 then 0 else c 3 i * c 5 i) (nP c))
/-- cell k of the memory holds a row -/
def Rw (μ : Mem) (k n : Nat) (f : Nat → Int) : Prop := ∀ i, i < n → μ.1 k i = Int32.ofInt (f i)
/-- a crane of the class -/
def CC (k : Nat) (c : Nat → Nat → Int) (μ : Mem) : Prop := XY k c μ ∧ Rw μ (k + 4) 4 (c 2) ∧ PD k c μ ∧ (Rw μ (k + 6) 8 (c 3) ∧ Rw μ (k + 7) 8 (c 4) ∧ Rw μ (k + 8) 8 (c 5) ∧ Rw μ (k + 9) 8 (c 6) ∧ QD k c μ) ∧ (∀ q, q < 3 → Rw μ (k + 12 + 2 * q) 61 (c (9 + q)) ∧ μ.1 (k + 11 + 2 * q) 1 = Int32.ofInt (c 12 q)) ∧ Rw μ (k + 17) 14 (c 8)
/-- what may be -/
def BC (c : Nat → Nat → Int) : Prop := Bxy c ∧ (∀ i, i < 4 → 0 ≤ c 2 i ∧ c 2 i ≤ 9999) ∧ (0 ≤ c 7 0 ∧ c 7 0 ≤ 8) ∧ (∀ i, i < 8 → (0 ≤ c 3 i ∧ c 3 i ≤ 999) ∧ (-40 ≤ c 4 i ∧ c 4 i ≤ 40) ∧ (-40 ≤ c 5 i ∧ c 5 i ≤ 40) ∧ (c 6 i = 0 ∨ c 6 i = 1)) ∧ (∀ q, q < 3 → (0 ≤ c 12 q ∧ c 12 q ≤ 10) ∧ ∀ i, i < 61 → -1 ≤ c (9 + q) i ∧ c (9 + q) i ≤ 9999) ∧ ((0 ≤ c 8 0 ∧ c 8 0 ≤ 19) ∧ (0 ≤ c 8 1 ∧ c 8 1 ≤ 60) ∧ (0 ≤ c 8 2 ∧ c 8 2 ≤ 999) ∧ (0 ≤ c 8 3 ∧ c 8 3 ≤ 9999) ∧ (1 ≤ c 8 4 ∧ c 8 4 ≤ 999) ∧ (0 ≤ c 8 5 ∧ c 8 5 ≤ 2) ∧ (0 ≤ c 8 6 ∧ c 8 6 ≤ 9) ∧ (0 ≤ c 8 7 ∧ c 8 7 ≤ 2) ∧ ∀ i, i < 4 → 0 ≤ c 8 (10 + i) ∧ c 8 (10 + i) ≤ 100)
theorem Fr.cp {P : Nat → Prop} {μ : Mem} {o : Nat} {f : Nat → Int32} (h : P o) : Fr P μ (fun k q => if k = o then f q else μ.1 k q, μ.2) := fun k hk => ⟨by
  funext i
  show (if k = o then f i else μ.1 k i) = μ.1 k i
  rw [if_neg (fun q : k = o => hk (by rw [q]; exact h))], rfl⟩
def PK (k j : Nat) : Prop := (k = 37 ∧ j = 1) ∨ (k = 19 ∧ j = 1) ∨ (k = 1 ∧ j = 19) ∨ (k = 1 ∧ j = 37)
theorem placeAs_at {k j : Nat} (hk : PK k j) {μ : Mem} (hb : μ.1 (j + 1) 3 = 0 ∨ μ.1 (j + 1) 3 = 1) : ∃ ν, f_X4_placeAs SX (k + 1) (j + 1) μ = some ((), ν) ∧ Fr (fun q => k + 1 ≤ q ∧ q ≤ k + 4) μ ν ∧ (∀ i, i < 4 → ν.1 (k + 2) i = μ.1 (j + 2) i) ∧ (∀ i, i < 4 → ν.1 (k + 3) i = μ.1 (j + 3) i) ∧ (∀ i, i < 4 → ν.1 (k + 4) i = μ.1 (j + 4) i) ∧ ν.1 (k + 1) 3 = μ.1 (j + 1) 3 ∧ (∀ i, 4 ≤ i → i ≤ 10 → ν.2 (k + 1) i = μ.2 (j + 1) i) := by
  rcases hk with ⟨rfl, rfl⟩ | ⟨rfl, rfl⟩ | ⟨rfl, rfl⟩ | ⟨rfl, rfl⟩ <;> simp only [Nat.reduceAdd, Nat.reduceMul, Nat.reduceMod, Int32.reduceOfNat] at hb ⊢ <;>
  · refine ⟨_, by
      simp (decide := true) (implicitDefEqProofs := false) only [f_X4_placeAs, cpI, hb, zO, zR, zA, zT, zu1, zu2, zu3, zu4, gI, gL, pI, pL, pZ, aI, aL, sI, sZ, sL, Option.bind_some, Option.map_some, if_true, if_false, ite_true, ite_false, true_and, and_true, false_and, and_false, or_true, true_or, or_false, false_or, and_self, not_true_eq_false, not_false_eq_true, ↓reduceIte, reduceIte, Nat.reduceAdd, Nat.reduceMul, Nat.reduceSub, Nat.reduceMod, Nat.reduceDiv, Nat.reduceEqDiff, Nat.reduceLT, Nat.reduceLeDiff, Int32.reduceAdd, Int32.reduceSub, Int32.reduceMul, Int32.reduceDiv, Int32.reduceMod, Int32.reduceOfNat, Int32.reduceOfInt, Int32.reduceLT, Int32.reduceLE, Int32.reduceToNatClampNeg, Int32.reduceToInt]
      rfl, ?_, ?_, ?_, ?_, ?_, ?_⟩
    · intro q hq
      have hq' : ¬ (_ ≤ q ∧ q ≤ _) := hq
      refine ⟨?_, ?_⟩ <;> funext i <;> simp only [zu1, zu2, zu3, zu4] <;> repeat rw [if_neg (by omega)]
    · intro i hi; simp (decide := true) (implicitDefEqProofs := false) only [va_cpy, zO, zR, zA, zT, zu1, zu2, zu3, zu4, gI, gL, pI, pL, pZ, aI, aL, sI, sZ, sL, Option.bind_some, Option.map_some, if_true, if_false, ite_true, ite_false, true_and, and_true, false_and, and_false, or_true, true_or, or_false, false_or, and_self, not_true_eq_false, not_false_eq_true, ↓reduceIte, reduceIte, Nat.reduceAdd, Nat.reduceMul, Nat.reduceSub, Nat.reduceMod, Nat.reduceDiv, Nat.reduceEqDiff, Nat.reduceLT, Nat.reduceLeDiff, Int32.reduceAdd, Int32.reduceSub, Int32.reduceMul, Int32.reduceDiv, Int32.reduceMod, Int32.reduceOfNat, Int32.reduceOfInt, Int32.reduceLT, Int32.reduceLE, Int32.reduceToNatClampNeg, Int32.reduceToInt]; simp [hi]
    · intro i hi; simp (decide := true) (implicitDefEqProofs := false) only [va_cpy, zO, zR, zA, zT, zu1, zu2, zu3, zu4, gI, gL, pI, pL, pZ, aI, aL, sI, sZ, sL, Option.bind_some, Option.map_some, if_true, if_false, ite_true, ite_false, true_and, and_true, false_and, and_false, or_true, true_or, or_false, false_or, and_self, not_true_eq_false, not_false_eq_true, ↓reduceIte, reduceIte, Nat.reduceAdd, Nat.reduceMul, Nat.reduceSub, Nat.reduceMod, Nat.reduceDiv, Nat.reduceEqDiff, Nat.reduceLT, Nat.reduceLeDiff, Int32.reduceAdd, Int32.reduceSub, Int32.reduceMul, Int32.reduceDiv, Int32.reduceMod, Int32.reduceOfNat, Int32.reduceOfInt, Int32.reduceLT, Int32.reduceLE, Int32.reduceToNatClampNeg, Int32.reduceToInt]; simp [hi]
    · intro i hi; simp (decide := true) (implicitDefEqProofs := false) only [va_cpy, zO, zR, zA, zT, zu1, zu2, zu3, zu4, gI, gL, pI, pL, pZ, aI, aL, sI, sZ, sL, Option.bind_some, Option.map_some, if_true, if_false, ite_true, ite_false, true_and, and_true, false_and, and_false, or_true, true_or, or_false, false_or, and_self, not_true_eq_false, not_false_eq_true, ↓reduceIte, reduceIte, Nat.reduceAdd, Nat.reduceMul, Nat.reduceSub, Nat.reduceMod, Nat.reduceDiv, Nat.reduceEqDiff, Nat.reduceLT, Nat.reduceLeDiff, Int32.reduceAdd, Int32.reduceSub, Int32.reduceMul, Int32.reduceDiv, Int32.reduceMod, Int32.reduceOfNat, Int32.reduceOfInt, Int32.reduceLT, Int32.reduceLE, Int32.reduceToNatClampNeg, Int32.reduceToInt]; simp [hi]
    · simp (decide := true) (implicitDefEqProofs := false) only [zO, zR, zA, zT, zu1, zu2, zu3, zu4, gI, gL, pI, pL, pZ, aI, aL, sI, sZ, sL, Option.bind_some, Option.map_some, if_true, if_false, ite_true, ite_false, true_and, and_true, false_and, and_false, or_true, true_or, or_false, false_or, and_self, not_true_eq_false, not_false_eq_true, ↓reduceIte, reduceIte, Nat.reduceAdd, Nat.reduceMul, Nat.reduceSub, Nat.reduceMod, Nat.reduceDiv, Nat.reduceEqDiff, Nat.reduceLT, Nat.reduceLeDiff, Int32.reduceAdd, Int32.reduceSub, Int32.reduceMul, Int32.reduceDiv, Int32.reduceMod, Int32.reduceOfNat, Int32.reduceOfInt, Int32.reduceLT, Int32.reduceLE, Int32.reduceToNatClampNeg, Int32.reduceToInt]
    · intro i h1 h2
      have e : i = 4 ∨ i = 5 ∨ i = 6 ∨ i = 7 ∨ i = 8 ∨ i = 9 ∨ i = 10 := by omega
      rcases e with rfl | rfl | rfl | rfl | rfl | rfl | rfl <;> simp (decide := true) (implicitDefEqProofs := false) only [zO, zR, zA, zT, zu1, zu2, zu3, zu4, gI, gL, pI, pL, pZ, aI, aL, sI, sZ, sL, Option.bind_some, Option.map_some, if_true, if_false, ite_true, ite_false, true_and, and_true, false_and, and_false, or_true, true_or, or_false, false_or, and_self, not_true_eq_false, not_false_eq_true, ↓reduceIte, reduceIte, Nat.reduceAdd, Nat.reduceMul, Nat.reduceSub, Nat.reduceMod, Nat.reduceDiv, Nat.reduceEqDiff, Nat.reduceLT, Nat.reduceLeDiff, Int32.reduceAdd, Int32.reduceSub, Int32.reduceMul, Int32.reduceDiv, Int32.reduceMod, Int32.reduceOfNat, Int32.reduceOfInt, Int32.reduceLT, Int32.reduceLE, Int32.reduceToNatClampNeg, Int32.reduceToInt]
/-- a loop that counts from 0 to N, by what holds at each turn -/
theorem lpG {ρ : Type} {B : ((Int32 × Mem) → Option ρ) → (Int32 × Mem) → Option ρ} {fin : Mem → Option ρ} {N : Nat} {P : Nat → Mem → Prop} (step : ∀ (self : (Int32 × Mem) → Option ρ) i μ, i < N → P i μ → ∃ ν, B self (Int32.ofNat i, μ) = self (Int32.ofNat (i + 1), ν) ∧ P (i + 1) ν) (ex : ∀ self μ, P N μ → B self (Int32.ofNat N, μ) = fin μ) (hN : N < 5000) {μ : Mem} (h : P 0 μ) : ∃ ν, lpN B fu (0, μ) = fin ν ∧ P N ν := by
  have go : ∀ m i, i + m = N → ∀ u μ, P i μ → ∃ ν, lpN B (u + m + 1) (Int32.ofNat i, μ) = fin ν ∧ P N ν := by
    intro m
    induction m with
    | zero =>
      intro i hi u μ hp
      have e : i = N := by omega
      subst e
      exact ⟨μ, by rw [zlp]; exact ex _ _ hp, hp⟩
    | succ m ih =>
      intro i hi u μ hp
      obtain ⟨ν1, p1, h1⟩ := step (lpN B (u + m + 1)) i μ (by omega) hp
      obtain ⟨ν, p, g⟩ := ih (i + 1) (by omega) u ν1 h1
      refine ⟨ν, ?_, g⟩
      rw [show u + (m + 1) + 1 = (u + m + 1) + 1 from rfl, zlp, p1]
      exact p
  obtain ⟨ν, p, g⟩ := go N 0 (by omega) (4999 - N) μ h
  rw [show 4999 - N + N + 1 = fu by show _ = 5000; omega] at p
  exact ⟨ν, p, g⟩
theorem PK.a {k j : Nat} (h : PK k j) : CK k ∧ CK j ∧ (k + 17 < j ∨ j + 17 < k) := by
  rcases h with ⟨rfl, rfl⟩ | ⟨rfl, rfl⟩ | ⟨rfl, rfl⟩ | ⟨rfl, rfl⟩ <;> simp [CK]
theorem weigh_st {k j : Nat} (hk : PK k j) (self : (Int32 × Mem) → Option (Unit × Mem)) {i : Nat} (hi : i < 8) {μ : Mem} (hb : μ.1 (j + 9) i = 0 ∨ μ.1 (j + 9) i = 1) : l_X5_weighAs_47 SX (k + 5) (j + 5) self (Int32.ofNat i, μ) = self (Int32.ofNat (i + 1), upI μ (k + 9) i (μ.1 (j + 9) i)) := by
  have lf : ((8 : Int32) ≤ Int32.ofNat i) = False := eq_false ((by decide +kernel : ∀ i, i < 8 → ¬ ((8 : Int32) ≤ Int32.ofNat i)) i hi)
  have nb : vp_nar .boolean (μ.1 (j + 9) i) = μ.1 (j + 9) i := by rcases hb with e | e <;> rw [e] <;> decide +kernel
  have o1 : Int32.ofNat i + 1 = Int32.ofNat (i + 1) := (Int32.ofNat_add i 1).symm
  have n1 := zin i 8 hi (by decide)
  have n2 := ztn i (by omega)
  rcases hk with ⟨rfl, rfl⟩ | ⟨rfl, rfl⟩ | ⟨rfl, rfl⟩ | ⟨rfl, rfl⟩ <;> simp only [Nat.reduceAdd, Nat.reduceMul, Nat.reduceMod, Int32.reduceOfNat] at nb ⊢ <;> simp (decide := true) (implicitDefEqProofs := false) only [l_X5_weighAs_47, lf, n1, n2, o1, nb, zO, zR, zA, zT, zu1, zu2, zu3, zu4, gI, gL, pI, pL, pZ, aI, aL, sI, sZ, sL, Option.bind_some, Option.map_some, if_true, if_false, ite_true, ite_false, true_and, and_true, false_and, and_false, or_true, true_or, or_false, false_or, and_self, not_true_eq_false, not_false_eq_true, ↓reduceIte, reduceIte, Nat.reduceAdd, Nat.reduceMul, Nat.reduceSub, Nat.reduceMod, Nat.reduceDiv, Nat.reduceEqDiff, Nat.reduceLT, Nat.reduceLeDiff, Int32.reduceAdd, Int32.reduceSub, Int32.reduceMul, Int32.reduceDiv, Int32.reduceMod, Int32.reduceOfNat, Int32.reduceOfInt, Int32.reduceLT, Int32.reduceLE, Int32.reduceToNatClampNeg, Int32.reduceToInt]
theorem weigh_lp {k j : Nat} (hk : PK k j) {μ : Mem} (hb : ∀ i, i < 8 → μ.1 (j + 9) i = 0 ∨ μ.1 (j + 9) i = 1) : ∃ ν, lpN (l_X5_weighAs_47 SX (k + 5) (j + 5)) fu (0, μ) = b_X5_weighAs_71 SX (k + 5) (j + 5) ν ∧ Fr (fun q => q = k + 9) μ ν ∧ ∀ i, i < 8 → ν.1 (k + 9) i = μ.1 (j + 9) i := by
  obtain ⟨-, -, hn⟩ := hk.a
  refine lpG (N := 8) (P := fun i ν => Fr (fun q => q = k + 9) μ ν ∧ ∀ q, q < i → ν.1 (k + 9) q = μ.1 (j + 9) q) ?_ ?_ (by decide) ⟨Fr.rf, fun q hq => by omega⟩
  · rintro self i ν hi ⟨f, g⟩
    have ej : ν.1 (j + 9) = μ.1 (j + 9) := (f (j + 9) (by omega)).1
    refine ⟨_, weigh_st hk self hi (by rw [ej]; exact hb i hi), f.tr (Fr.uI rfl), fun q hq => ?_⟩
    rw [zu1]
    by_cases e : q = i
    · rw [if_pos ⟨rfl, e⟩, ej, e]
    · rw [if_neg (fun h => e h.2)]; exact g q (by omega)
  · rintro self ν -
    simp (decide := true) (implicitDefEqProofs := false) only [l_X5_weighAs_47, zO, zR, zA, zT, zu1, zu2, zu3, zu4, gI, gL, pI, pL, pZ, aI, aL, sI, sZ, sL, Option.bind_some, Option.map_some, if_true, if_false, ite_true, ite_false, true_and, and_true, false_and, and_false, or_true, true_or, or_false, false_or, and_self, not_true_eq_false, not_false_eq_true, ↓reduceIte, reduceIte, Nat.reduceAdd, Nat.reduceMul, Nat.reduceSub, Nat.reduceMod, Nat.reduceDiv, Nat.reduceEqDiff, Nat.reduceLT, Nat.reduceLeDiff, Int32.reduceAdd, Int32.reduceSub, Int32.reduceMul, Int32.reduceDiv, Int32.reduceMod, Int32.reduceOfNat, Int32.reduceOfInt, Int32.reduceLT, Int32.reduceLE, Int32.reduceToNatClampNeg, Int32.reduceToInt]
theorem weighAs_at {k j : Nat} (hk : PK k j) {μ : Mem} (hb : ∀ i, i < 8 → μ.1 (j + 9) i = 0 ∨ μ.1 (j + 9) i = 1) : ∃ ν, f_X5_weighAs SX (k + 5) (j + 5) μ = some ((), ν) ∧ Fr (fun q => k + 5 ≤ q ∧ q ≤ k + 9) μ ν ∧ (∀ i, i < 8 → ν.1 (k + 6) i = μ.1 (j + 6) i) ∧ (∀ i, i < 8 → ν.1 (k + 7) i = μ.1 (j + 7) i) ∧ (∀ i, i < 8 → ν.1 (k + 8) i = μ.1 (j + 8) i) ∧ (∀ i, i < 8 → ν.1 (k + 9) i = μ.1 (j + 9) i) ∧ (∀ i, 4 ≤ i → i ≤ 9 → ν.1 (k + 5) i = μ.1 (j + 5) i) := by
  obtain ⟨-, -, hn⟩ := hk.a
  have pre : ∃ μ1, f_X5_weighAs SX (k + 5) (j + 5) μ = lpN (l_X5_weighAs_47 SX (k + 5) (j + 5)) fu (0, μ1) ∧ Fr (fun q => k + 6 ≤ q ∧ q ≤ k + 8) μ μ1 ∧ (∀ i, i < 8 → μ1.1 (k + 6) i = μ.1 (j + 6) i) ∧ (∀ i, i < 8 → μ1.1 (k + 7) i = μ.1 (j + 7) i) ∧ (∀ i, i < 8 → μ1.1 (k + 8) i = μ.1 (j + 8) i) := by
    clear hb hn
    rcases hk with ⟨rfl, rfl⟩ | ⟨rfl, rfl⟩ | ⟨rfl, rfl⟩ | ⟨rfl, rfl⟩ <;> simp only [Nat.reduceAdd, Nat.reduceMul, Nat.reduceMod, Int32.reduceOfNat] <;>
    · refine ⟨_, by
        simp (decide := true) (implicitDefEqProofs := false) only [f_X5_weighAs, cpI, Nat.zero_add, zO, zR, zA, zT, zu1, zu2, zu3, zu4, gI, gL, pI, pL, pZ, aI, aL, sI, sZ, sL, Option.bind_some, Option.map_some, if_true, if_false, ite_true, ite_false, true_and, and_true, false_and, and_false, or_true, true_or, or_false, false_or, and_self, not_true_eq_false, not_false_eq_true, ↓reduceIte, reduceIte, Nat.reduceAdd, Nat.reduceMul, Nat.reduceSub, Nat.reduceMod, Nat.reduceDiv, Nat.reduceEqDiff, Nat.reduceLT, Nat.reduceLeDiff, Int32.reduceAdd, Int32.reduceSub, Int32.reduceMul, Int32.reduceDiv, Int32.reduceMod, Int32.reduceOfNat, Int32.reduceOfInt, Int32.reduceLT, Int32.reduceLE, Int32.reduceToNatClampNeg, Int32.reduceToInt]
        rfl, ?_, ?_, ?_, ?_⟩
      · intro q hq
        have hq' : ¬ (_ ≤ q ∧ q ≤ _) := hq
        refine ⟨?_, ?_⟩ <;> funext i <;> simp only [zu1, zu2, zu3, zu4] <;> repeat rw [if_neg (by omega)]
      · intro i hi; simp (decide := true) (implicitDefEqProofs := false) only [va_cpy, zO, zR, zA, zT, zu1, zu2, zu3, zu4, gI, gL, pI, pL, pZ, aI, aL, sI, sZ, sL, Option.bind_some, Option.map_some, if_true, if_false, ite_true, ite_false, true_and, and_true, false_and, and_false, or_true, true_or, or_false, false_or, and_self, not_true_eq_false, not_false_eq_true, ↓reduceIte, reduceIte, Nat.reduceAdd, Nat.reduceMul, Nat.reduceSub, Nat.reduceMod, Nat.reduceDiv, Nat.reduceEqDiff, Nat.reduceLT, Nat.reduceLeDiff, Int32.reduceAdd, Int32.reduceSub, Int32.reduceMul, Int32.reduceDiv, Int32.reduceMod, Int32.reduceOfNat, Int32.reduceOfInt, Int32.reduceLT, Int32.reduceLE, Int32.reduceToNatClampNeg, Int32.reduceToInt]; simp [hi]
      · intro i hi; simp (decide := true) (implicitDefEqProofs := false) only [va_cpy, zO, zR, zA, zT, zu1, zu2, zu3, zu4, gI, gL, pI, pL, pZ, aI, aL, sI, sZ, sL, Option.bind_some, Option.map_some, if_true, if_false, ite_true, ite_false, true_and, and_true, false_and, and_false, or_true, true_or, or_false, false_or, and_self, not_true_eq_false, not_false_eq_true, ↓reduceIte, reduceIte, Nat.reduceAdd, Nat.reduceMul, Nat.reduceSub, Nat.reduceMod, Nat.reduceDiv, Nat.reduceEqDiff, Nat.reduceLT, Nat.reduceLeDiff, Int32.reduceAdd, Int32.reduceSub, Int32.reduceMul, Int32.reduceDiv, Int32.reduceMod, Int32.reduceOfNat, Int32.reduceOfInt, Int32.reduceLT, Int32.reduceLE, Int32.reduceToNatClampNeg, Int32.reduceToInt]; simp [hi]
      · intro i hi; simp (decide := true) (implicitDefEqProofs := false) only [va_cpy, zO, zR, zA, zT, zu1, zu2, zu3, zu4, gI, gL, pI, pL, pZ, aI, aL, sI, sZ, sL, Option.bind_some, Option.map_some, if_true, if_false, ite_true, ite_false, true_and, and_true, false_and, and_false, or_true, true_or, or_false, false_or, and_self, not_true_eq_false, not_false_eq_true, ↓reduceIte, reduceIte, Nat.reduceAdd, Nat.reduceMul, Nat.reduceSub, Nat.reduceMod, Nat.reduceDiv, Nat.reduceEqDiff, Nat.reduceLT, Nat.reduceLeDiff, Int32.reduceAdd, Int32.reduceSub, Int32.reduceMul, Int32.reduceDiv, Int32.reduceMod, Int32.reduceOfNat, Int32.reduceOfInt, Int32.reduceLT, Int32.reduceLE, Int32.reduceToNatClampNeg, Int32.reduceToInt]; simp [hi]
  obtain ⟨μ1, p1, f1, c1, c2, c3⟩ := pre
  have ej : ∀ q, j + 5 ≤ q → q ≤ j + 9 → μ1.1 q = μ.1 q := fun q h1 h2 => (f1 q (by omega)).1
  obtain ⟨μ2, p2, f2, c4⟩ := weigh_lp hk (μ := μ1) (by rw [ej _ (by omega) (by omega)]; exact hb)
  have last : ∃ ν, b_X5_weighAs_71 SX (k + 5) (j + 5) μ2 = some ((), ν) ∧ Fr (fun q => q = k + 5) μ2 ν ∧ ∀ i, 4 ≤ i → i ≤ 9 → ν.1 (k + 5) i = μ2.1 (j + 5) i := by
    clear hb hn p1 f1 c1 c2 c3 ej p2 f2 c4
    rcases hk with ⟨rfl, rfl⟩ | ⟨rfl, rfl⟩ | ⟨rfl, rfl⟩ | ⟨rfl, rfl⟩ <;> simp only [Nat.reduceAdd, Nat.reduceMul, Nat.reduceMod, Int32.reduceOfNat] <;>
    · refine ⟨_, by
        simp (decide := true) (implicitDefEqProofs := false) only [b_X5_weighAs_71, zO, zR, zA, zT, zu1, zu2, zu3, zu4, gI, gL, pI, pL, pZ, aI, aL, sI, sZ, sL, Option.bind_some, Option.map_some, if_true, if_false, ite_true, ite_false, true_and, and_true, false_and, and_false, or_true, true_or, or_false, false_or, and_self, not_true_eq_false, not_false_eq_true, ↓reduceIte, reduceIte, Nat.reduceAdd, Nat.reduceMul, Nat.reduceSub, Nat.reduceMod, Nat.reduceDiv, Nat.reduceEqDiff, Nat.reduceLT, Nat.reduceLeDiff, Int32.reduceAdd, Int32.reduceSub, Int32.reduceMul, Int32.reduceDiv, Int32.reduceMod, Int32.reduceOfNat, Int32.reduceOfInt, Int32.reduceLT, Int32.reduceLE, Int32.reduceToNatClampNeg, Int32.reduceToInt]
        rfl, ?_, ?_⟩
      · intro q hq
        have hq' : ¬ (q = _) := hq
        refine ⟨?_, ?_⟩ <;> funext i <;> simp only [zu1, zu2, zu3, zu4] <;> repeat rw [if_neg (by omega)]
      · intro i h1 h2
        have e : i = 4 ∨ i = 5 ∨ i = 6 ∨ i = 7 ∨ i = 8 ∨ i = 9 := by omega
        rcases e with rfl | rfl | rfl | rfl | rfl | rfl <;> simp (decide := true) (implicitDefEqProofs := false) only [zO, zR, zA, zT, zu1, zu2, zu3, zu4, gI, gL, pI, pL, pZ, aI, aL, sI, sZ, sL, Option.bind_some, Option.map_some, if_true, if_false, ite_true, ite_false, true_and, and_true, false_and, and_false, or_true, true_or, or_false, false_or, and_self, not_true_eq_false, not_false_eq_true, ↓reduceIte, reduceIte, Nat.reduceAdd, Nat.reduceMul, Nat.reduceSub, Nat.reduceMod, Nat.reduceDiv, Nat.reduceEqDiff, Nat.reduceLT, Nat.reduceLeDiff, Int32.reduceAdd, Int32.reduceSub, Int32.reduceMul, Int32.reduceDiv, Int32.reduceMod, Int32.reduceOfNat, Int32.reduceOfInt, Int32.reduceLT, Int32.reduceLE, Int32.reduceToNatClampNeg, Int32.reduceToInt]
  obtain ⟨ν, p3, f3, c5⟩ := last
  refine ⟨ν, by rw [p1, p2, p3], ((f1.mo (fun q hq => by omega)).tr (f2.mo (fun q hq => by omega))).tr (f3.mo (fun q hq => by omega)), fun i hi => ?_, fun i hi => ?_, fun i hi => ?_, fun i hi => ?_, fun i h1 h2 => ?_⟩
  · rw [(f3 (k + 6) (by omega)).1, (f2 (k + 6) (by omega)).1]; exact c1 i hi
  · rw [(f3 (k + 7) (by omega)).1, (f2 (k + 7) (by omega)).1]; exact c2 i hi
  · rw [(f3 (k + 8) (by omega)).1, (f2 (k + 8) (by omega)).1]; exact c3 i hi
  · rw [(f3 (k + 9) (by omega)).1, c4 i hi, ej (j + 9) (by omega) (by omega)]
  · rw [c5 i h1 h2, (f2 (j + 5) (by omega)).1, ej (j + 5) (by omega) (by omega)]
theorem readAs_at {k j : Nat} (hk : PK k j) {μ : Mem} {q : Nat} (hq : q < 3) : ∃ ν, f_X1_readAs SX (k + 11 + 2 * q) (j + 11 + 2 * q) μ = some ((), ν) ∧ Fr (fun t => k + 11 + 2 * q ≤ t ∧ t ≤ k + 12 + 2 * q) μ ν ∧ (∀ i, i < 61 → ν.1 (k + 12 + 2 * q) i = μ.1 (j + 12 + 2 * q) i) ∧ ν.1 (k + 11 + 2 * q) 1 = μ.1 (j + 11 + 2 * q) 1 := by
  have e : q = 0 ∨ q = 1 ∨ q = 2 := by omega
  rcases hk with ⟨rfl, rfl⟩ | ⟨rfl, rfl⟩ | ⟨rfl, rfl⟩ | ⟨rfl, rfl⟩ <;> rcases e with rfl | rfl | rfl <;> simp only [Nat.reduceAdd, Nat.reduceMul, Nat.reduceMod, Int32.reduceOfNat] <;>
  · refine ⟨_, by
      simp (decide := true) (implicitDefEqProofs := false) only [f_X1_readAs, cpI, zO, zR, zA, zT, zu1, zu2, zu3, zu4, gI, gL, pI, pL, pZ, aI, aL, sI, sZ, sL, Option.bind_some, Option.map_some, if_true, if_false, ite_true, ite_false, true_and, and_true, false_and, and_false, or_true, true_or, or_false, false_or, and_self, not_true_eq_false, not_false_eq_true, ↓reduceIte, reduceIte, Nat.reduceAdd, Nat.reduceMul, Nat.reduceSub, Nat.reduceMod, Nat.reduceDiv, Nat.reduceEqDiff, Nat.reduceLT, Nat.reduceLeDiff, Int32.reduceAdd, Int32.reduceSub, Int32.reduceMul, Int32.reduceDiv, Int32.reduceMod, Int32.reduceOfNat, Int32.reduceOfInt, Int32.reduceLT, Int32.reduceLE, Int32.reduceToNatClampNeg, Int32.reduceToInt]
      rfl, ?_, ?_, ?_⟩
    · intro q hq
      have hq' : ¬ (_ ≤ q ∧ q ≤ _) := hq
      refine ⟨?_, ?_⟩ <;> funext i <;> simp only [zu1, zu2, zu3, zu4] <;> repeat rw [if_neg (by omega)]
    · intro i hi; simp (decide := true) (implicitDefEqProofs := false) only [va_cpy, zO, zR, zA, zT, zu1, zu2, zu3, zu4, gI, gL, pI, pL, pZ, aI, aL, sI, sZ, sL, Option.bind_some, Option.map_some, if_true, if_false, ite_true, ite_false, true_and, and_true, false_and, and_false, or_true, true_or, or_false, false_or, and_self, not_true_eq_false, not_false_eq_true, ↓reduceIte, reduceIte, Nat.reduceAdd, Nat.reduceMul, Nat.reduceSub, Nat.reduceMod, Nat.reduceDiv, Nat.reduceEqDiff, Nat.reduceLT, Nat.reduceLeDiff, Int32.reduceAdd, Int32.reduceSub, Int32.reduceMul, Int32.reduceDiv, Int32.reduceMod, Int32.reduceOfNat, Int32.reduceOfInt, Int32.reduceLT, Int32.reduceLE, Int32.reduceToNatClampNeg, Int32.reduceToInt]; simp [hi]
    · simp (decide := true) (implicitDefEqProofs := false) only [zO, zR, zA, zT, zu1, zu2, zu3, zu4, gI, gL, pI, pL, pZ, aI, aL, sI, sZ, sL, Option.bind_some, Option.map_some, if_true, if_false, ite_true, ite_false, true_and, and_true, false_and, and_false, or_true, true_or, or_false, false_or, and_self, not_true_eq_false, not_false_eq_true, ↓reduceIte, reduceIte, Nat.reduceAdd, Nat.reduceMul, Nat.reduceSub, Nat.reduceMod, Nat.reduceDiv, Nat.reduceEqDiff, Nat.reduceLT, Nat.reduceLeDiff, Int32.reduceAdd, Int32.reduceSub, Int32.reduceMul, Int32.reduceDiv, Int32.reduceMod, Int32.reduceOfNat, Int32.reduceOfInt, Int32.reduceLT, Int32.reduceLE, Int32.reduceToNatClampNeg, Int32.reduceToInt]
theorem aRc {k : Nat} (hk : CK k) : ∀ q, q < 3 → aR SX (.object "CranePads$Chart") (k + 10) (Int32.ofNat q) = some (k + 11 + 2 * q) := by
  rcases hk with rfl | rfl | rfl <;> decide +kernel
theorem gR2 {k : Nat} (hk : CK k) : isO SX 2 k = true ∧ gR SX 2 k 0 = some (k + 1) ∧ gR SX 2 k 1 = some (k + 5) ∧ gR SX 2 k 2 = some (k + 10) ∧ gR SX 2 k 3 = some (k + 17) ∧ isA SX .int (k + 17) = some 14 := by
  rcases hk with rfl | rfl | rfl <;> decide +kernel
theorem CC.w {k : Nat} {c : Nat → Nat → Int} {μ ν : Mem} (h : CC k c μ) (P : Nat → Prop) (f : Fr P μ ν) (hP : ∀ q, k ≤ q → q ≤ k + 17 → ¬ P q) : CC k c ν := by
  have e : ∀ i, i ≤ 17 → ν.1 (k + i) = μ.1 (k + i) ∧ ν.2 (k + i) = μ.2 (k + i) := fun i hi => f _ (hP _ (by omega) (by omega))
  have e1 : ∀ i, i ≤ 17 → ν.1 (k + i) = μ.1 (k + i) := fun i hi => (e i hi).1
  have e2 : ∀ i, i ≤ 17 → ν.2 (k + i) = μ.2 (k + i) := fun i hi => (e i hi).2
  obtain ⟨⟨h1, h2⟩, h3, h4, ⟨h5, h6, h7, h8, h9⟩, h10, h11⟩ := h
  refine ⟨⟨fun i hi => ?_, fun i hi => ?_⟩, fun i hi => ?_, ?_, ⟨fun i hi => ?_, fun i hi => ?_, fun i hi => ?_, fun i hi => ?_, ?_⟩, fun q hq => ⟨fun i hi => ?_, ?_⟩, fun i hi => ?_⟩
  · rw [e1 2 (by omega)]; exact h1 i hi
  · rw [e1 3 (by omega)]; exact h2 i hi
  · rw [e1 4 (by omega)]; exact h3 i hi
  · unfold PD; rw [e1 1 (by omega), e2 1 (by omega)]; exact h4
  · rw [e1 6 (by omega)]; exact h5 i hi
  · rw [e1 7 (by omega)]; exact h6 i hi
  · rw [e1 8 (by omega)]; exact h7 i hi
  · rw [e1 9 (by omega)]; exact h8 i hi
  · unfold QD; rw [e1 5 (by omega)]; exact h9
  · rw [show k + 12 + 2 * q = k + (12 + 2 * q) by omega, e1 _ (by omega), ← show k + 12 + 2 * q = k + (12 + 2 * q) by omega]; exact (h10 q hq).1 i hi
  · rw [show k + 11 + 2 * q = k + (11 + 2 * q) by omega, e1 _ (by omega), ← show k + 11 + 2 * q = k + (11 + 2 * q) by omega]; exact (h10 q hq).2
  · rw [e1 17 (by omega)]; exact h11 i hi
theorem CC.b01 {k : Nat} {c : Nat → Nat → Int} {μ : Mem} (h : CC k c μ) (b : BC c) : (μ.1 (k + 1) 3 = 0 ∨ μ.1 (k + 1) 3 = 1) ∧ ∀ i, i < 8 → μ.1 (k + 9) i = 0 ∨ μ.1 (k + 9) i = 1 := by
  refine ⟨?_, fun i hi => ?_⟩
  · rw [h.2.2.1.1]; exact stb01 _ _ _
  · rw [h.2.2.2.1.2.2.2.1 i hi]
    rcases (b.2.2.2.1 i hi).2.2.2 with e | e <;> rw [e]
    · exact Or.inl rfl
    · exact Or.inr rfl
theorem become_at {k j : Nat} (hk : PK k j) {c : Nat → Nat → Int} {μ : Mem} (h : CC j c μ) (b : BC c) : ∃ ν, f_X2_become SX k j μ = some ((), ν) ∧ Fr (fun q => k ≤ q ∧ q ≤ k + 17) μ ν ∧ CC k c ν := by
  obtain ⟨hk1, hk2, hk3⟩ := hk.a
  obtain ⟨o1, r1, r2, r3, r4, r5⟩ := gR2 hk1
  obtain ⟨o1', r1', r2', r3', r4', r5'⟩ := gR2 hk2
  obtain ⟨b1, b2⟩ := h.b01 b
  obtain ⟨μ1, p1, f1, u1, u2, u3, u4, u5⟩ := placeAs_at hk b1
  have J1 : CC j c μ1 := h.w _ f1 (fun q h1 h2 => by omega)
  obtain ⟨μ2, p2, f2, w1, w2, w3, w4, w5⟩ := weighAs_at hk (J1.b01 b).2
  have J2 : CC j c μ2 := J1.w _ f2 (fun q h1 h2 => by omega)
  obtain ⟨μ3, p3, f3, x1, y1⟩ := readAs_at hk (μ := μ2) (q := 0) (by decide)
  have J3 : CC j c μ3 := J2.w _ f3 (fun q h1 h2 => by omega)
  obtain ⟨μ4, p4, f4, x2, y2⟩ := readAs_at hk (μ := μ3) (q := 1) (by decide)
  have J4 : CC j c μ4 := J3.w _ f4 (fun q h1 h2 => by omega)
  obtain ⟨μ5, p5, f5, x3, y3⟩ := readAs_at hk (μ := μ4) (q := 2) (by decide)
  have J5 : CC j c μ5 := J4.w _ f5 (fun q h1 h2 => by omega)
  have g1 := f1.mo (Q := fun q => k ≤ q ∧ q ≤ k + 17) (fun q hq => by omega)
  have g2 := f2.mo (Q := fun q => k ≤ q ∧ q ≤ k + 17) (fun q hq => by omega)
  have g3 := f3.mo (Q := fun q => k ≤ q ∧ q ≤ k + 17) (fun q hq => by omega)
  have g4 := f4.mo (Q := fun q => k ≤ q ∧ q ≤ k + 17) (fun q hq => by omega)
  have g5 := f5.mo (Q := fun q => k ≤ q ∧ q ≤ k + 17) (fun q hq => by omega)
  obtain ⟨μ6, hμ6⟩ : ∃ m : Mem, m = (fun t q => if t = k + 17 then va_cpy (μ5.1 (j + 17)) (μ5.1 (k + 17)) 0 0 14 q else μ5.1 t q, μ5.2) := ⟨_, rfl⟩
  have g6 : Fr (fun q => q = k + 17) μ5 μ6 := by rw [hμ6]; exact Fr.cp rfl
  have e7 : ∀ i, i < 14 → μ6.1 (k + 17) i = μ5.1 (j + 17) i := by
    intro i hi
    rw [hμ6]
    simp (decide := true) (implicitDefEqProofs := false) only [va_cpy, zO, zR, zA, zT, zu1, zu2, zu3, zu4, gI, gL, pI, pL, pZ, aI, aL, sI, sZ, sL, Option.bind_some, Option.map_some, if_true, if_false, ite_true, ite_false, true_and, and_true, false_and, and_false, or_true, true_or, or_false, false_or, and_self, not_true_eq_false, not_false_eq_true, ↓reduceIte, reduceIte, Nat.reduceAdd, Nat.reduceMul, Nat.reduceSub, Nat.reduceMod, Nat.reduceDiv, Nat.reduceEqDiff, Nat.reduceLT, Nat.reduceLeDiff, Int32.reduceAdd, Int32.reduceSub, Int32.reduceMul, Int32.reduceDiv, Int32.reduceMod, Int32.reduceOfNat, Int32.reduceOfInt, Int32.reduceLT, Int32.reduceLE, Int32.reduceToNatClampNeg, Int32.reduceToInt]
    simp [hi]
  have a0 := aRc hk1 0 (by decide)
  have a1 := aRc hk1 1 (by decide)
  have a2 := aRc hk1 2 (by decide)
  have c0 := aRc hk2 0 (by decide)
  have c1 := aRc hk2 1 (by decide)
  have c2 := aRc hk2 2 (by decide)
  simp only [Nat.reduceAdd, Nat.reduceMul, Nat.reduceMod, Int32.reduceOfNat] at a0 a1 a2 c0 c1 c2 p3 p4 p5
  have hl : ∀ n, lpN (l_X2_become_24 SX k j) (n + 4) (0, μ2) = some ((), μ6) := by
    intro n
    rw [hμ6]
    rw [zlp]
    simp (decide := true) (implicitDefEqProofs := false) only [l_X2_become_24, r3, r3', a0, c0, p3, zO, zR, zA, zT, zu1, zu2, zu3, zu4, gI, gL, pI, pL, pZ, aI, aL, sI, sZ, sL, Option.bind_some, Option.map_some, if_true, if_false, ite_true, ite_false, true_and, and_true, false_and, and_false, or_true, true_or, or_false, false_or, and_self, not_true_eq_false, not_false_eq_true, ↓reduceIte, reduceIte, Nat.reduceAdd, Nat.reduceMul, Nat.reduceSub, Nat.reduceMod, Nat.reduceDiv, Nat.reduceEqDiff, Nat.reduceLT, Nat.reduceLeDiff, Int32.reduceAdd, Int32.reduceSub, Int32.reduceMul, Int32.reduceDiv, Int32.reduceMod, Int32.reduceOfNat, Int32.reduceOfInt, Int32.reduceLT, Int32.reduceLE, Int32.reduceToNatClampNeg, Int32.reduceToInt]
    rw [zlp]
    simp (decide := true) (implicitDefEqProofs := false) only [l_X2_become_24, r3, r3', a1, c1, p4, zO, zR, zA, zT, zu1, zu2, zu3, zu4, gI, gL, pI, pL, pZ, aI, aL, sI, sZ, sL, Option.bind_some, Option.map_some, if_true, if_false, ite_true, ite_false, true_and, and_true, false_and, and_false, or_true, true_or, or_false, false_or, and_self, not_true_eq_false, not_false_eq_true, ↓reduceIte, reduceIte, Nat.reduceAdd, Nat.reduceMul, Nat.reduceSub, Nat.reduceMod, Nat.reduceDiv, Nat.reduceEqDiff, Nat.reduceLT, Nat.reduceLeDiff, Int32.reduceAdd, Int32.reduceSub, Int32.reduceMul, Int32.reduceDiv, Int32.reduceMod, Int32.reduceOfNat, Int32.reduceOfInt, Int32.reduceLT, Int32.reduceLE, Int32.reduceToNatClampNeg, Int32.reduceToInt]
    rw [zlp]
    simp (decide := true) (implicitDefEqProofs := false) only [l_X2_become_24, r3, r3', a2, c2, p5, zO, zR, zA, zT, zu1, zu2, zu3, zu4, gI, gL, pI, pL, pZ, aI, aL, sI, sZ, sL, Option.bind_some, Option.map_some, if_true, if_false, ite_true, ite_false, true_and, and_true, false_and, and_false, or_true, true_or, or_false, false_or, and_self, not_true_eq_false, not_false_eq_true, ↓reduceIte, reduceIte, Nat.reduceAdd, Nat.reduceMul, Nat.reduceSub, Nat.reduceMod, Nat.reduceDiv, Nat.reduceEqDiff, Nat.reduceLT, Nat.reduceLeDiff, Int32.reduceAdd, Int32.reduceSub, Int32.reduceMul, Int32.reduceDiv, Int32.reduceMod, Int32.reduceOfNat, Int32.reduceOfInt, Int32.reduceLT, Int32.reduceLE, Int32.reduceToNatClampNeg, Int32.reduceToInt]
    rw [zlp]
    simp (decide := true) (implicitDefEqProofs := false) only [l_X2_become_24, b_X2_become_50, r4, r4', r5, r5', cpI, zO, zR, zA, zT, zu1, zu2, zu3, zu4, gI, gL, pI, pL, pZ, aI, aL, sI, sZ, sL, Option.bind_some, Option.map_some, if_true, if_false, ite_true, ite_false, true_and, and_true, false_and, and_false, or_true, true_or, or_false, false_or, and_self, not_true_eq_false, not_false_eq_true, ↓reduceIte, reduceIte, Nat.reduceAdd, Nat.reduceMul, Nat.reduceSub, Nat.reduceMod, Nat.reduceDiv, Nat.reduceEqDiff, Nat.reduceLT, Nat.reduceLeDiff, Int32.reduceAdd, Int32.reduceSub, Int32.reduceMul, Int32.reduceDiv, Int32.reduceMod, Int32.reduceOfNat, Int32.reduceOfInt, Int32.reduceLT, Int32.reduceLE, Int32.reduceToNatClampNeg, Int32.reduceToInt]
  refine ⟨_, ?_, (((((g1.tr g2).tr g3).tr g4).tr g5).tr (g6.mo (fun q hq => by omega))), ?_⟩
  · unfold f_X2_become
    rw [if_pos o1, r1, r1', r2, r2']
    simp (decide := true) (implicitDefEqProofs := false) only [p1, p2, Option.bind_some]
    exact hl 4996
  · have e6 : ∀ q, q ≠ k + 17 → μ6.1 q = μ5.1 q := fun q hq => (g6 q hq).1
    have d5 : ∀ q, ¬ (k + 15 ≤ q ∧ q ≤ k + 16) → μ5.1 q = μ4.1 q ∧ μ5.2 q = μ4.2 q := fun q hq => f5 q (by omega)
    have d4 : ∀ q, ¬ (k + 13 ≤ q ∧ q ≤ k + 14) → μ4.1 q = μ3.1 q ∧ μ4.2 q = μ3.2 q := fun q hq => f4 q (by omega)
    have d3 : ∀ q, ¬ (k + 11 ≤ q ∧ q ≤ k + 12) → μ3.1 q = μ2.1 q ∧ μ3.2 q = μ2.2 q := fun q hq => f3 q (by omega)
    have d2 : ∀ q, ¬ (k + 5 ≤ q ∧ q ≤ k + 9) → μ2.1 q = μ1.1 q ∧ μ2.2 q = μ1.2 q := fun q hq => f2 q (by omega)
    have k1 : ∀ i, 1 ≤ i → i ≤ 4 → μ5.1 (k + i) = μ1.1 (k + i) ∧ μ5.2 (k + i) = μ1.2 (k + i) := fun i h1 h2 => ⟨by rw [(d5 _ (by omega)).1, (d4 _ (by omega)).1, (d3 _ (by omega)).1, (d2 _ (by omega)).1], by rw [(d5 _ (by omega)).2, (d4 _ (by omega)).2, (d3 _ (by omega)).2, (d2 _ (by omega)).2]⟩
    have k2 : ∀ i, 5 ≤ i → i ≤ 9 → μ5.1 (k + i) = μ2.1 (k + i) := fun i h1 h2 => by rw [(d5 _ (by omega)).1, (d4 _ (by omega)).1, (d3 _ (by omega)).1]
    obtain ⟨⟨h1, h2⟩, h3, h4, -, -, -⟩ := h
    obtain ⟨-, -, -, ⟨h5, h6, h7, h8, h9⟩, -, -⟩ := J1
    refine ⟨⟨fun i hi => ?_, fun i hi => ?_⟩, fun i hi => ?_, ?_, ⟨fun i hi => ?_, fun i hi => ?_, fun i hi => ?_, fun i hi => ?_, ?_⟩, fun q hq => ?_, fun i hi => ?_⟩
    · rw [e6 _ (by omega), (k1 2 (by omega) (by omega)).1, u1 i hi]; exact h1 i hi
    · rw [e6 _ (by omega), (k1 3 (by omega) (by omega)).1, u2 i hi]; exact h2 i hi
    · rw [e6 _ (by omega), (k1 4 (by omega) (by omega)).1, u3 i hi]; exact h3 i hi
    · unfold PD
      rw [e6 _ (by omega), (k1 1 (by omega) (by omega)).1, u4]
      rw [(g6 (k + 1) (by omega)).2, (k1 1 (by omega) (by omega)).2]
      rw [u5 4 (by omega) (by omega), u5 5 (by omega) (by omega), u5 6 (by omega) (by omega), u5 7 (by omega) (by omega), u5 8 (by omega) (by omega), u5 9 (by omega) (by omega), u5 10 (by omega) (by omega)]
      exact h4
    · rw [e6 _ (by omega), k2 6 (by omega) (by omega), w1 i hi]; exact h5 i hi
    · rw [e6 _ (by omega), k2 7 (by omega) (by omega), w2 i hi]; exact h6 i hi
    · rw [e6 _ (by omega), k2 8 (by omega) (by omega), w3 i hi]; exact h7 i hi
    · rw [e6 _ (by omega), k2 9 (by omega) (by omega), w4 i hi]; exact h8 i hi
    · unfold QD
      rw [e6 _ (by omega), k2 5 (by omega) (by omega), w5 4 (by omega) (by omega), w5 5 (by omega) (by omega), w5 6 (by omega) (by omega), w5 7 (by omega) (by omega), w5 8 (by omega) (by omega), w5 9 (by omega) (by omega)]
      exact h9
    · have e : q = 0 ∨ q = 1 ∨ q = 2 := by omega
      rcases e with rfl | rfl | rfl
      · refine ⟨fun i hi => ?_, ?_⟩
        · rw [e6 _ (by omega), (d5 _ (by omega)).1, (d4 _ (by omega)).1, x1 i hi]; exact (J2.2.2.2.2.1 0 hq).1 i hi
        · rw [e6 _ (by omega), (d5 _ (by omega)).1, (d4 _ (by omega)).1, y1]; exact (J2.2.2.2.2.1 0 hq).2
      · refine ⟨fun i hi => ?_, ?_⟩
        · rw [e6 _ (by omega), (d5 _ (by omega)).1, x2 i hi]; exact (J3.2.2.2.2.1 1 hq).1 i hi
        · rw [e6 _ (by omega), (d5 _ (by omega)).1, y2]; exact (J3.2.2.2.2.1 1 hq).2
      · refine ⟨fun i hi => ?_, ?_⟩
        · rw [e6 _ (by omega), x3 i hi]; exact (J4.2.2.2.2.1 2 hq).1 i hi
        · rw [e6 _ (by omega), y3]; exact (J4.2.2.2.2.1 2 hq).2
    · rw [e7 i hi]; exact J5.2.2.2.2.2 i hi

