theorem RW.len {μ : Mem} (h : RW μ) {l : Nat} (hl : l < 4) : ∃ z : Int, -1 ≤ z ∧ z ≤ 30 ∧ μ.1 80 l = Int32.ofInt z ∧ μ.1 105 l = Int32.ofInt z := by
  obtain ⟨h1, h2, -⟩ := h l hl
  rcases h2 with e | ⟨n, hn, e⟩
  · exact ⟨-1, by omega, by omega, by rw [e]; exact ym1, by rw [← h1, e]; exact ym1⟩
  · exact ⟨(n : Int), by omega, by omega, e, by rw [← h1]; exact e⟩
/-- whether a list has such a place -/
theorem hasPlace_at {μ : Mem} {l : Nat} (hl : l < 4) {z : Int} (h1 : -1 ≤ z) (h2 : z ≤ 30) (e : μ.1 80 l = Int32.ofInt z) (a : Int32) : (f_X8_hasPlace SX 74 (Int32.ofNat l) a μ = some (0, μ) ∧ wb a 0 (Int32.ofInt z - 1) = 0) ∨ (∃ i : Nat, (i : Int) < z ∧ a = Int32.ofNat i ∧ f_X8_hasPlace SX 74 (Int32.ofNat l) a μ = some (1, μ) ∧ wb a 0 (Int32.ofInt z - 1) = 1) := by
  have i1 := zin l 4 hl (by decide)
  have i2 := ztn l (by omega)
  have e1 : (Int32.ofInt z - 1) = Int32.ofInt (z - 1) := y32s z 1
  rw [e1]
  rcases wbI a 0 (z - 1) (by omega) (by omega) (by omega) (by omega) with t | ⟨t, y, y1, y2, rfl⟩
  · left
    have t' : wb a 0 (Int32.ofInt (z - 1)) = 0 := t
    refine ⟨?_, t'⟩
    by_cases s : a < 0
    · simp (decide := true) (implicitDefEqProofs := false) only [f_X8_hasPlace, s, zO, zR, zA, zT, zu1, zu2, zu3, zu4, gI, gL, pI, pL, pZ, aI, aL, sI, sZ, sL, Option.bind_some, Option.map_some, if_true, if_false, ite_true, ite_false, true_and, and_true, false_and, and_false, or_true, true_or, or_false, false_or, and_self, not_true_eq_false, not_false_eq_true, ↓reduceIte, reduceIte, Nat.reduceAdd, Nat.reduceMul, Nat.reduceSub, Nat.reduceMod, Nat.reduceDiv, Nat.reduceEqDiff, Nat.reduceLT, Nat.reduceLeDiff, Int32.reduceAdd, Int32.reduceSub, Int32.reduceMul, Int32.reduceDiv, Int32.reduceMod, Int32.reduceOfNat, Int32.reduceOfInt, Int32.reduceLT, Int32.reduceLE, Int32.reduceToNatClampNeg, Int32.reduceToInt]
    · have ea : a = Int32.ofInt a.toInt := by simp
      have b1 := Int32.le_toInt a
      have b2 := Int32.toInt_lt a
      unfold wb at t'
      rw [if_neg s] at t'
      have s2 : Int32.ofInt (z - 1) < a := by
        by_cases g : Int32.ofInt (z - 1) < a
        · exact g
        · rw [if_neg g] at t'; cases t'
      have s3 : Int32.ofInt z ≤ a := by
        rw [ea] at s2 ⊢
        have := (ylt32 (z - 1) a.toInt (by omega) (by omega) (by omega) (by omega)).mp s2
        exact (yle32 z a.toInt (by omega) (by omega) (by omega) (by omega)).mpr (by omega)
      simp (decide := true) (implicitDefEqProofs := false) only [f_X8_hasPlace, s, i1, i2, e, s3, zO, zR, zA, zT, zu1, zu2, zu3, zu4, gI, gL, pI, pL, pZ, aI, aL, sI, sZ, sL, Option.bind_some, Option.map_some, if_true, if_false, ite_true, ite_false, true_and, and_true, false_and, and_false, or_true, true_or, or_false, false_or, and_self, not_true_eq_false, not_false_eq_true, ↓reduceIte, reduceIte, Nat.reduceAdd, Nat.reduceMul, Nat.reduceSub, Nat.reduceMod, Nat.reduceDiv, Nat.reduceEqDiff, Nat.reduceLT, Nat.reduceLeDiff, Int32.reduceAdd, Int32.reduceSub, Int32.reduceMul, Int32.reduceDiv, Int32.reduceMod, Int32.reduceOfNat, Int32.reduceOfInt, Int32.reduceLT, Int32.reduceLE, Int32.reduceToNatClampNeg, Int32.reduceToInt]
  · right
    have t' : wb (Int32.ofInt y) 0 (Int32.ofInt (z - 1)) = 1 := t
    have s1 : ¬ Int32.ofInt y < 0 := fun g => by
      have := (ylt32 y 0 (by omega) (by omega) (by omega) (by omega)).mp g
      omega
    have s2 : ¬ Int32.ofInt z ≤ Int32.ofInt y := fun g => by
      have := (yle32 z y (by omega) (by omega) (by omega) (by omega)).mp g
      omega
    refine ⟨y.toNat, by omega, ofIn y y1, ?_, t'⟩
    simp (decide := true) (implicitDefEqProofs := false) only [f_X8_hasPlace, s1, i1, i2, e, s2, zO, zR, zA, zT, zu1, zu2, zu3, zu4, gI, gL, pI, pL, pZ, aI, aL, sI, sZ, sL, Option.bind_some, Option.map_some, if_true, if_false, ite_true, ite_false, true_and, and_true, false_and, and_false, or_true, true_or, or_false, false_or, and_self, not_true_eq_false, not_false_eq_true, ↓reduceIte, reduceIte, Nat.reduceAdd, Nat.reduceMul, Nat.reduceSub, Nat.reduceMod, Nat.reduceDiv, Nat.reduceEqDiff, Nat.reduceLT, Nat.reduceLeDiff, Int32.reduceAdd, Int32.reduceSub, Int32.reduceMul, Int32.reduceDiv, Int32.reduceMod, Int32.reduceOfNat, Int32.reduceOfInt, Int32.reduceLT, Int32.reduceLE, Int32.reduceToNatClampNeg, Int32.reduceToInt]
theorem aRr : ∀ l, l < 4 → aR SX (.array .long) 75 (Int32.ofNat l) = some (76 + l) ∧ isA SX .long (76 + l) = some 30 := by decide +kernel
theorem i30 (q i : Nat) : 30 * Int32.ofNat q + Int32.ofNat i = Int32.ofNat (30 * q + i) := by
  rw [Int32.ofNat_add, Int32.ofNat_mul]
  rfl
theorem ok_get {μ : Mem} (h : INV μ) (a1 a2 : Int32) : OKop (f_X11_get SX 0 a1 a2) (f_X12_get SX 81 a1 a2) μ := by
  have hR := h.2.2.2.2.2
  rcases wbN a1 3 (by decide) with t | ⟨t, l, hl, rfl⟩
  · simp only [Nat.reduceAdd, Nat.reduceMul, Nat.reduceMod, Int32.reduceOfNat] at t
    refine ⟨-9223372036854775808, μ, μ, ?_, ?_, h⟩
    · simp (decide := true) (implicitDefEqProofs := false) only [f_X11_get, isList_at, t, zO, zR, zA, zT, zu1, zu2, zu3, zu4, gI, gL, pI, pL, pZ, aI, aL, sI, sZ, sL, Option.bind_some, Option.map_some, if_true, if_false, ite_true, ite_false, true_and, and_true, false_and, and_false, or_true, true_or, or_false, false_or, and_self, not_true_eq_false, not_false_eq_true, ↓reduceIte, reduceIte, Nat.reduceAdd, Nat.reduceMul, Nat.reduceSub, Nat.reduceMod, Nat.reduceDiv, Nat.reduceEqDiff, Nat.reduceLT, Nat.reduceLeDiff, Int32.reduceAdd, Int32.reduceSub, Int32.reduceMul, Int32.reduceDiv, Int32.reduceMod, Int32.reduceOfNat, Int32.reduceOfInt, Int32.reduceLT, Int32.reduceLE, Int32.reduceToNatClampNeg, Int32.reduceToInt]
    · simp (decide := true) (implicitDefEqProofs := false) only [f_X12_get, isList_at, t, zO, zR, zA, zT, zu1, zu2, zu3, zu4, gI, gL, pI, pL, pZ, aI, aL, sI, sZ, sL, Option.bind_some, Option.map_some, if_true, if_false, ite_true, ite_false, true_and, and_true, false_and, and_false, or_true, true_or, or_false, false_or, and_self, not_true_eq_false, not_false_eq_true, ↓reduceIte, reduceIte, Nat.reduceAdd, Nat.reduceMul, Nat.reduceSub, Nat.reduceMod, Nat.reduceDiv, Nat.reduceEqDiff, Nat.reduceLT, Nat.reduceLeDiff, Int32.reduceAdd, Int32.reduceSub, Int32.reduceMul, Int32.reduceDiv, Int32.reduceMod, Int32.reduceOfNat, Int32.reduceOfInt, Int32.reduceLT, Int32.reduceLE, Int32.reduceToNatClampNeg, Int32.reduceToInt]
  · simp only [Nat.reduceAdd, Nat.reduceMul, Nat.reduceMod, Int32.reduceOfNat] at t
    have hl4 : l < 4 := by omega
    obtain ⟨z, z1, z2, e1, e2⟩ := hR.len hl4
    have i1 := zin l 4 hl4 (by decide)
    have i2 := ztn l (by omega)
    rcases hasPlace_at hl4 z1 z2 e1 a2 with ⟨s, s'⟩ | ⟨i, hi, rfl, s, s'⟩
    · refine ⟨-9223372036854775808, μ, μ, ?_, ?_, h⟩
      · simp (decide := true) (implicitDefEqProofs := false) only [f_X11_get, isList_at, t, s, zO, zR, zA, zT, zu1, zu2, zu3, zu4, gI, gL, pI, pL, pZ, aI, aL, sI, sZ, sL, Option.bind_some, Option.map_some, if_true, if_false, ite_true, ite_false, true_and, and_true, false_and, and_false, or_true, true_or, or_false, false_or, and_self, not_true_eq_false, not_false_eq_true, ↓reduceIte, reduceIte, Nat.reduceAdd, Nat.reduceMul, Nat.reduceSub, Nat.reduceMod, Nat.reduceDiv, Nat.reduceEqDiff, Nat.reduceLT, Nat.reduceLeDiff, Int32.reduceAdd, Int32.reduceSub, Int32.reduceMul, Int32.reduceDiv, Int32.reduceMod, Int32.reduceOfNat, Int32.reduceOfInt, Int32.reduceLT, Int32.reduceLE, Int32.reduceToNatClampNeg, Int32.reduceToInt]
      · simp (decide := true) (implicitDefEqProofs := false) only [f_X12_get, isList_at, t, i1, i2, e2, in_at, s', zO, zR, zA, zT, zu1, zu2, zu3, zu4, gI, gL, pI, pL, pZ, aI, aL, sI, sZ, sL, Option.bind_some, Option.map_some, if_true, if_false, ite_true, ite_false, true_and, and_true, false_and, and_false, or_true, true_or, or_false, false_or, and_self, not_true_eq_false, not_false_eq_true, ↓reduceIte, reduceIte, Nat.reduceAdd, Nat.reduceMul, Nat.reduceSub, Nat.reduceMod, Nat.reduceDiv, Nat.reduceEqDiff, Nat.reduceLT, Nat.reduceLeDiff, Int32.reduceAdd, Int32.reduceSub, Int32.reduceMul, Int32.reduceDiv, Int32.reduceMod, Int32.reduceOfNat, Int32.reduceOfInt, Int32.reduceLT, Int32.reduceLE, Int32.reduceToNatClampNeg, Int32.reduceToInt]
    · obtain ⟨r1, r2⟩ := aRr l hl4
      have g := (hR l hl4).2.2 i (by omega)
      refine ⟨μ.2 106 (30 * l + i), μ, μ, ?_, ?_, h⟩
      · simp (decide := true) (implicitDefEqProofs := false) only [f_X11_get, isList_at, t, s, r1, r2, zin i 30 (by omega) (by decide), ztn i (by omega), g, zO, zR, zA, zT, zu1, zu2, zu3, zu4, gI, gL, pI, pL, pZ, aI, aL, sI, sZ, sL, Option.bind_some, Option.map_some, if_true, if_false, ite_true, ite_false, true_and, and_true, false_and, and_false, or_true, true_or, or_false, false_or, and_self, not_true_eq_false, not_false_eq_true, ↓reduceIte, reduceIte, Nat.reduceAdd, Nat.reduceMul, Nat.reduceSub, Nat.reduceMod, Nat.reduceDiv, Nat.reduceEqDiff, Nat.reduceLT, Nat.reduceLeDiff, Int32.reduceAdd, Int32.reduceSub, Int32.reduceMul, Int32.reduceDiv, Int32.reduceMod, Int32.reduceOfNat, Int32.reduceOfInt, Int32.reduceLT, Int32.reduceLE, Int32.reduceToNatClampNeg, Int32.reduceToInt]
      · simp (decide := true) (implicitDefEqProofs := false) only [f_X12_get, isList_at, t, i1, i2, e2, in_at, s', i30 l i, zin (30 * l + i) 120 (by omega) (by decide), ztn (30 * l + i) (by omega), zO, zR, zA, zT, zu1, zu2, zu3, zu4, gI, gL, pI, pL, pZ, aI, aL, sI, sZ, sL, Option.bind_some, Option.map_some, if_true, if_false, ite_true, ite_false, true_and, and_true, false_and, and_false, or_true, true_or, or_false, false_or, and_self, not_true_eq_false, not_false_eq_true, ↓reduceIte, reduceIte, Nat.reduceAdd, Nat.reduceMul, Nat.reduceSub, Nat.reduceMod, Nat.reduceDiv, Nat.reduceEqDiff, Nat.reduceLT, Nat.reduceLeDiff, Int32.reduceAdd, Int32.reduceSub, Int32.reduceMul, Int32.reduceDiv, Int32.reduceMod, Int32.reduceOfNat, Int32.reduceOfInt, Int32.reduceLT, Int32.reduceLE, Int32.reduceToNatClampNeg, Int32.reduceToInt]
def rwP (q : Nat) : Prop := (76 ≤ q ∧ q ≤ 80) ∨ q = 105 ∨ q = 106 ∨ scP q
theorem INV.rw {μ ν : Mem} (h : INV μ) (f : FM rwP scJ μ ν) (g : RW ν) : INV ν := by
  obtain ⟨⟨c, b, h1, h2⟩, h3, h4, h5, h6, -⟩ := h
  refine ⟨⟨c, b, h1.f f (fun q g1 g2 => ⟨by omega, by unfold rwP scP; omega⟩), h2.w f (fun q g1 g2 => by unfold rwP scP; omega) (by unfold scJ; omega)⟩, h3.f f ?_ ?_ ?_ ?_, h4.f f ?_ ?_ ?_ ?_, h5.f f ?_ ?_ ?_ ?_ ?_ ?_, h6.f f ?_ ?_ ?_, g⟩ <;> first | (unfold rwP scP; omega) | (unfold scJ; omega) | (intro q g1 g2; unfold rwP scP; omega)
theorem holds_at {μ : Mem} {l : Nat} (hl : l < 4) {z : Int} (h1 : -1 ≤ z) (h2 : z ≤ 30) (e : μ.1 80 l = Int32.ofInt z) : f_X8_holds SX 74 (Int32.ofNat l) μ = some (if z = -1 then 0 else 1, μ) ∧ (0 ≤ Int32.ofInt z) = (z ≠ -1) := by
  have i1 := zin l 4 hl (by decide)
  have i2 := ztn l (by omega)
  have q : (Int32.ofInt z = -1) = (z = -1) := by rw [ym1]; exact propext (yeq z (-1) (by omega) (by omega) (by omega) (by omega))
  refine ⟨?_, ?_⟩
  · by_cases t : z = -1
    · rw [if_pos t]; simp (decide := true) (implicitDefEqProofs := false) only [f_X8_holds, i1, i2, e, q, t, zO, zR, zA, zT, zu1, zu2, zu3, zu4, gI, gL, pI, pL, pZ, aI, aL, sI, sZ, sL, Option.bind_some, Option.map_some, if_true, if_false, ite_true, ite_false, true_and, and_true, false_and, and_false, or_true, true_or, or_false, false_or, and_self, not_true_eq_false, not_false_eq_true, ↓reduceIte, reduceIte, Nat.reduceAdd, Nat.reduceMul, Nat.reduceSub, Nat.reduceMod, Nat.reduceDiv, Nat.reduceEqDiff, Nat.reduceLT, Nat.reduceLeDiff, Int32.reduceAdd, Int32.reduceSub, Int32.reduceMul, Int32.reduceDiv, Int32.reduceMod, Int32.reduceOfNat, Int32.reduceOfInt, Int32.reduceLT, Int32.reduceLE, Int32.reduceToNatClampNeg, Int32.reduceToInt]
    · rw [if_neg t]; simp (decide := true) (implicitDefEqProofs := false) only [f_X8_holds, i1, i2, e, q, t, zO, zR, zA, zT, zu1, zu2, zu3, zu4, gI, gL, pI, pL, pZ, aI, aL, sI, sZ, sL, Option.bind_some, Option.map_some, if_true, if_false, ite_true, ite_false, true_and, and_true, false_and, and_false, or_true, true_or, or_false, false_or, and_self, not_true_eq_false, not_false_eq_true, ↓reduceIte, reduceIte, Nat.reduceAdd, Nat.reduceMul, Nat.reduceSub, Nat.reduceMod, Nat.reduceDiv, Nat.reduceEqDiff, Nat.reduceLT, Nat.reduceLeDiff, Int32.reduceAdd, Int32.reduceSub, Int32.reduceMul, Int32.reduceDiv, Int32.reduceMod, Int32.reduceOfNat, Int32.reduceOfInt, Int32.reduceLT, Int32.reduceLE, Int32.reduceToNatClampNeg, Int32.reduceToInt]
  · have := yle32 0 z (by omega) (by omega) (by omega) (by omega)
    exact propext ⟨fun g => by have := this.mp g; omega, fun g => this.mpr (by omega)⟩
theorem ok_set {μ : Mem} (h : INV μ) (a1 a2 : Int32) (a3 : Int64) : OKop (f_X11_set SX 0 a1 a2 a3) (f_X12_set SX 81 a1 a2 a3) μ := by
  have hR := h.2.2.2.2.2
  rcases wbN a1 3 (by decide) with t | ⟨t, l, hl, rfl⟩
  · simp only [Nat.reduceAdd, Nat.reduceMul, Nat.reduceMod, Int32.reduceOfNat] at t
    refine ⟨-1, μ, μ, ?_, ?_, h⟩
    · simp (decide := true) (implicitDefEqProofs := false) only [f_X11_set, isList_at, t, zO, zR, zA, zT, zu1, zu2, zu3, zu4, gI, gL, pI, pL, pZ, aI, aL, sI, sZ, sL, Option.bind_some, Option.map_some, if_true, if_false, ite_true, ite_false, true_and, and_true, false_and, and_false, or_true, true_or, or_false, false_or, and_self, not_true_eq_false, not_false_eq_true, ↓reduceIte, reduceIte, Nat.reduceAdd, Nat.reduceMul, Nat.reduceSub, Nat.reduceMod, Nat.reduceDiv, Nat.reduceEqDiff, Nat.reduceLT, Nat.reduceLeDiff, Int32.reduceAdd, Int32.reduceSub, Int32.reduceMul, Int32.reduceDiv, Int32.reduceMod, Int32.reduceOfNat, Int32.reduceOfInt, Int32.reduceLT, Int32.reduceLE, Int32.reduceToNatClampNeg, Int32.reduceToInt]
    · simp (decide := true) (implicitDefEqProofs := false) only [f_X12_set, isList_at, t, zO, zR, zA, zT, zu1, zu2, zu3, zu4, gI, gL, pI, pL, pZ, aI, aL, sI, sZ, sL, Option.bind_some, Option.map_some, if_true, if_false, ite_true, ite_false, true_and, and_true, false_and, and_false, or_true, true_or, or_false, false_or, and_self, not_true_eq_false, not_false_eq_true, ↓reduceIte, reduceIte, Nat.reduceAdd, Nat.reduceMul, Nat.reduceSub, Nat.reduceMod, Nat.reduceDiv, Nat.reduceEqDiff, Nat.reduceLT, Nat.reduceLeDiff, Int32.reduceAdd, Int32.reduceSub, Int32.reduceMul, Int32.reduceDiv, Int32.reduceMod, Int32.reduceOfNat, Int32.reduceOfInt, Int32.reduceLT, Int32.reduceLE, Int32.reduceToNatClampNeg, Int32.reduceToInt]
  · simp only [Nat.reduceAdd, Nat.reduceMul, Nat.reduceMod, Int32.reduceOfNat] at t
    have hl4 : l < 4 := by omega
    obtain ⟨z, z1, z2, e1, e2⟩ := hR.len hl4
    have i1 := zin l 4 hl4 (by decide)
    have i2 := ztn l (by omega)
    obtain ⟨ho, hz⟩ := holds_at hl4 z1 z2 e1
    by_cases w : z = -1
    · rw [if_pos w] at ho
      have hz' : (0 ≤ Int32.ofInt z) = False := by rw [hz]; exact eq_false (fun g => g w)
      refine ⟨-11, μ, μ, ?_, ?_, h⟩
      · simp (decide := true) (implicitDefEqProofs := false) only [f_X11_set, isList_at, t, ho, zO, zR, zA, zT, zu1, zu2, zu3, zu4, gI, gL, pI, pL, pZ, aI, aL, sI, sZ, sL, Option.bind_some, Option.map_some, if_true, if_false, ite_true, ite_false, true_and, and_true, false_and, and_false, or_true, true_or, or_false, false_or, and_self, not_true_eq_false, not_false_eq_true, ↓reduceIte, reduceIte, Nat.reduceAdd, Nat.reduceMul, Nat.reduceSub, Nat.reduceMod, Nat.reduceDiv, Nat.reduceEqDiff, Nat.reduceLT, Nat.reduceLeDiff, Int32.reduceAdd, Int32.reduceSub, Int32.reduceMul, Int32.reduceDiv, Int32.reduceMod, Int32.reduceOfNat, Int32.reduceOfInt, Int32.reduceLT, Int32.reduceLE, Int32.reduceToNatClampNeg, Int32.reduceToInt]
      · simp (decide := true) (implicitDefEqProofs := false) only [f_X12_set, isList_at, t, i1, i2, e2, hz', zO, zR, zA, zT, zu1, zu2, zu3, zu4, gI, gL, pI, pL, pZ, aI, aL, sI, sZ, sL, Option.bind_some, Option.map_some, if_true, if_false, ite_true, ite_false, true_and, and_true, false_and, and_false, or_true, true_or, or_false, false_or, and_self, not_true_eq_false, not_false_eq_true, ↓reduceIte, reduceIte, Nat.reduceAdd, Nat.reduceMul, Nat.reduceSub, Nat.reduceMod, Nat.reduceDiv, Nat.reduceEqDiff, Nat.reduceLT, Nat.reduceLeDiff, Int32.reduceAdd, Int32.reduceSub, Int32.reduceMul, Int32.reduceDiv, Int32.reduceMod, Int32.reduceOfNat, Int32.reduceOfInt, Int32.reduceLT, Int32.reduceLE, Int32.reduceToNatClampNeg, Int32.reduceToInt]
    · rw [if_neg w] at ho
      have hz' : (0 ≤ Int32.ofInt z) = True := by rw [hz]; exact eq_true w
      rcases hasPlace_at hl4 z1 z2 e1 a2 with ⟨s, s'⟩ | ⟨i, hi, rfl, s, s'⟩
      · refine ⟨-13, μ, μ, ?_, ?_, h⟩
        · simp (decide := true) (implicitDefEqProofs := false) only [f_X11_set, isList_at, t, ho, s, zO, zR, zA, zT, zu1, zu2, zu3, zu4, gI, gL, pI, pL, pZ, aI, aL, sI, sZ, sL, Option.bind_some, Option.map_some, if_true, if_false, ite_true, ite_false, true_and, and_true, false_and, and_false, or_true, true_or, or_false, false_or, and_self, not_true_eq_false, not_false_eq_true, ↓reduceIte, reduceIte, Nat.reduceAdd, Nat.reduceMul, Nat.reduceSub, Nat.reduceMod, Nat.reduceDiv, Nat.reduceEqDiff, Nat.reduceLT, Nat.reduceLeDiff, Int32.reduceAdd, Int32.reduceSub, Int32.reduceMul, Int32.reduceDiv, Int32.reduceMod, Int32.reduceOfNat, Int32.reduceOfInt, Int32.reduceLT, Int32.reduceLE, Int32.reduceToNatClampNeg, Int32.reduceToInt]
        · simp (decide := true) (implicitDefEqProofs := false) only [f_X12_set, isList_at, t, i1, i2, e2, hz', in_at, s', zO, zR, zA, zT, zu1, zu2, zu3, zu4, gI, gL, pI, pL, pZ, aI, aL, sI, sZ, sL, Option.bind_some, Option.map_some, if_true, if_false, ite_true, ite_false, true_and, and_true, false_and, and_false, or_true, true_or, or_false, false_or, and_self, not_true_eq_false, not_false_eq_true, ↓reduceIte, reduceIte, Nat.reduceAdd, Nat.reduceMul, Nat.reduceSub, Nat.reduceMod, Nat.reduceDiv, Nat.reduceEqDiff, Nat.reduceLT, Nat.reduceLeDiff, Int32.reduceAdd, Int32.reduceSub, Int32.reduceMul, Int32.reduceDiv, Int32.reduceMod, Int32.reduceOfNat, Int32.reduceOfInt, Int32.reduceLT, Int32.reduceLE, Int32.reduceToNatClampNeg, Int32.reduceToInt]
      · obtain ⟨r1, r2⟩ := aRr l hl4
        have F1 : FM rwP scJ μ (upL μ (76 + l) i a3) := FM.uL (Or.inl ⟨by omega, by unfold rwP; omega⟩)
        have F2 : FM rwP scJ (upL μ (76 + l) i a3) (upL (upL μ (76 + l) i a3) 106 (30 * l + i) a3) := FM.uL (Or.inl ⟨by omega, by unfold rwP; omega⟩)
        refine ⟨1, upL μ (76 + l) i a3, upL (upL μ (76 + l) i a3) 106 (30 * l + i) a3, ?_, ?_, h.rw (F1.tr F2) ?_⟩
        · simp (decide := true) (implicitDefEqProofs := false) only [f_X11_set, isList_at, t, ho, s, r1, r2, zin i 30 (by omega) (by decide), ztn i (by omega), zO, zR, zA, zT, zu1, zu2, zu3, zu4, gI, gL, pI, pL, pZ, aI, aL, sI, sZ, sL, Option.bind_some, Option.map_some, if_true, if_false, ite_true, ite_false, true_and, and_true, false_and, and_false, or_true, true_or, or_false, false_or, and_self, not_true_eq_false, not_false_eq_true, ↓reduceIte, reduceIte, Nat.reduceAdd, Nat.reduceMul, Nat.reduceSub, Nat.reduceMod, Nat.reduceDiv, Nat.reduceEqDiff, Nat.reduceLT, Nat.reduceLeDiff, Int32.reduceAdd, Int32.reduceSub, Int32.reduceMul, Int32.reduceDiv, Int32.reduceMod, Int32.reduceOfNat, Int32.reduceOfInt, Int32.reduceLT, Int32.reduceLE, Int32.reduceToNatClampNeg, Int32.reduceToInt]
        · simp (decide := true) (implicitDefEqProofs := false) only [f_X12_set, isList_at, t, i1, i2, e2, hz', in_at, s', i30 l i, zin (30 * l + i) 120 (by omega) (by decide), ztn (30 * l + i) (by omega), zO, zR, zA, zT, zu1, zu2, zu3, zu4, gI, gL, pI, pL, pZ, aI, aL, sI, sZ, sL, Option.bind_some, Option.map_some, if_true, if_false, ite_true, ite_false, true_and, and_true, false_and, and_false, or_true, true_or, or_false, false_or, and_self, not_true_eq_false, not_false_eq_true, ↓reduceIte, reduceIte, Nat.reduceAdd, Nat.reduceMul, Nat.reduceSub, Nat.reduceMod, Nat.reduceDiv, Nat.reduceEqDiff, Nat.reduceLT, Nat.reduceLeDiff, Int32.reduceAdd, Int32.reduceSub, Int32.reduceMul, Int32.reduceDiv, Int32.reduceMod, Int32.reduceOfNat, Int32.reduceOfInt, Int32.reduceLT, Int32.reduceLE, Int32.reduceToNatClampNeg, Int32.reduceToInt]
        · intro l' hl'
          obtain ⟨g1, g2, g3⟩ := hR l' hl'
          refine ⟨g1, g2, fun j hj => ?_⟩
          have := g3 j hj
          simp only [zu4]
          by_cases q : l' = l ∧ j = i
          · obtain ⟨rfl, rfl⟩ := q
            rw [if_neg (by omega), if_pos (by first | exact ⟨rfl, rfl⟩ | exact ⟨trivial, rfl⟩), if_pos (by first | exact ⟨rfl, rfl⟩ | exact ⟨trivial, rfl⟩)]
          · rw [if_neg (by omega), if_neg (by omega), if_neg (by omega), if_neg (by omega)]; exact this

