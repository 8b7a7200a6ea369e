theorem i4c : ∀ e, e < 4 → (4 ≤ Int32.ofNat e) = False := by
  intro e he
  have h : e = 0 ∨ e = 1 ∨ e = 2 ∨ e = 3 := by omega
  rcases h with rfl | rfl | rfl | rfl <;> decide
theorem i4n : ∀ e, e < 4 → Int32.ofNat e + 1 = Int32.ofNat (e + 1) := by
  intro e he
  have h : e = 0 ∨ e = 1 ∨ e = 2 ∨ e = 3 := by omega
  rcases h with rfl | rfl | rfl | rfl <;> decide
def ovN (c : Nat → Nat → Int) (s : Nat → Int) (bl : Int) : Int32 := if s 0 ≤ c 2 0 * bl ∧ s 1 ≤ c 2 1 * bl ∧ s 2 ≤ c 2 2 * bl ∧ s 3 ≤ c 2 3 * bl then 0 else 1
theorem isOver_at {k : Nat} (hk : CK k) {c : Nat → Nat → Int} {μ : Mem} {s : Nat → Int} {bl : Int} (h : Rw μ (k + 4) 4 (c 2)) (b : ∀ i, i < 4 → 0 ≤ c 2 i ∧ c 2 i ≤ 9999) (h1 : ∀ p, p < 4 → μ.2 56 p = Int64.ofInt (s p)) (h2 : μ.2 55 4 = Int64.ofInt bl) (hs : ∀ i, i < 4 → -9000000000000000000 ≤ s i ∧ s i ≤ 9000000000000000000) (hb : -100000000000000 ≤ bl ∧ bl ≤ 100000000000000) : f_X3_isOverLimit SX 55 (k + 1) μ = some (ovN c s bl, μ) := by
  obtain ⟨o4, r1, r2, r3, a1, a2, a3⟩ := gR4 hk
  have st : ∀ self, ∀ e, e < 4 → l_X3_isOverLimit_2 SX 55 (k + 1) self (Int32.ofNat e, μ) = if s e ≤ c 2 e * bl then self (Int32.ofNat (e + 1), μ) else some (1, μ) := by
    intro self e he
    have b1 := b e he
    have b2 := hs e he
    have m1 := mulb (a := c 2 e) (b := bl) 9999 100000000000000 (by omega) (by omega) (by omega) (by omega)
    have q : (Int64.ofInt (s e) ≤ Int64.ofInt (c 2 e * bl)) = (s e ≤ c 2 e * bl) := propext (yle _ _ (by omega) (by omega) (by omega) (by omega))
    have y := yw (c 2 e) (by omega) (by omega)
    simp (decide := true) (implicitDefEqProofs := false) only [l_X3_isOverLimit_2, i4c e he, i4n e he, r3, a3, zin e 4 he (by decide), ztn e (by omega), h e he, h1 e he, h2, y, y64m, q, zO, zR, zA, zT, zu1, zu2, zu3, zu4, gI, gL, pI, pL, pZ, aI, aL, sI, sZ, sL, Option.bind_some, Option.map_some, if_true, if_false, ite_true, ite_false, true_and, and_true, false_and, and_false, or_true, true_or, or_false, false_or, and_self, not_true_eq_false, not_false_eq_true, ↓reduceIte, reduceIte, Nat.reduceAdd, Nat.reduceMul, Nat.reduceSub, Nat.reduceMod, Nat.reduceDiv, Nat.reduceEqDiff, Nat.reduceLT, Nat.reduceLeDiff, Int32.reduceAdd, Int32.reduceSub, Int32.reduceMul, Int32.reduceDiv, Int32.reduceMod, Int32.reduceOfNat, Int32.reduceOfInt, Int32.reduceLT, Int32.reduceLE, Int32.reduceToNatClampNeg, Int32.reduceToInt]
  have e0 : f_X3_isOverLimit SX 55 (k + 1) μ = lpN (l_X3_isOverLimit_2 SX 55 (k + 1)) 5000 (Int32.ofNat 0, μ) := by
    unfold f_X3_isOverLimit; rw [if_pos (by decide +kernel)]; rfl
  have ex : ∀ self, l_X3_isOverLimit_2 SX 55 (k + 1) self (Int32.ofNat 4, μ) = some (0, μ) := fun _ => rfl
  rw [e0, zlp, st _ 0 (by decide), zlp, st _ 1 (by decide), zlp, st _ 2 (by decide), zlp, st _ 3 (by decide), zlp, ex]
  unfold ovN
  by_cases t0 : s 0 ≤ c 2 0 * bl <;> by_cases t1 : s 1 ≤ c 2 1 * bl <;> by_cases t2 : s 2 ≤ c 2 2 * bl <;> by_cases t3 : s 3 ≤ c 2 3 * bl <;> simp [t0, t1, t2, t3]
theorem yeq (a b : Int) (h : -2147483648 ≤ a) (g : a < 2147483648) (h' : -2147483648 ≤ b) (g' : b < 2147483648) : (Int32.ofInt a = Int32.ofInt b) ↔ a = b := by
  rw [← Int32.toInt_inj, ytoI a h g, ytoI b h' g']
theorem yle32 (a b : Int) (h : -2147483648 ≤ a) (g : a < 2147483648) (h' : -2147483648 ≤ b) (g' : b < 2147483648) : (Int32.ofInt a ≤ Int32.ofInt b) ↔ a ≤ b := by
  rw [Int32.le_iff_toInt_le, ytoI a h g, ytoI b h' g']
theorem ylt32 (a b : Int) (h : -2147483648 ≤ a) (g : a < 2147483648) (h' : -2147483648 ≤ b) (g' : b < 2147483648) : (Int32.ofInt a < Int32.ofInt b) ↔ a < b := by
  rw [Int32.lt_iff_toInt_lt, ytoI a h g, ytoI b h' g']
theorem ym1 : (-1 : Int32) = Int32.ofInt (-1) := by decide
theorem ofN1 (r : Nat) : Int32.ofNat r + 1 = Int32.ofNat (r + 1) := (Int32.ofNat_add r 1).symm
/-- the first place from r on that says something; 61: none -/
def bhN (f : Nat → Int) : Nat → Nat → Nat
  | 0, r => r
  | n + 1, r => if f r = -1 then bhN f n (r + 1) else r
def bh (f : Nat → Int) (r : Nat) : Nat := bhN f (61 - r) r
/-- the last place ahead of m that says something, -1: none -/
def ah (f : Nat → Int) : Nat → Int
  | 0 => -1
  | m + 1 => if f m = -1 then ah f m else m
def readV (f : Nat → Int) (r : Nat) : Int32 := if bh f r = 61 then 0 else if ah f (r + 1) < 0 then Int32.ofInt (f (bh f r)) else if ah f (r + 1) = bh f r then Int32.ofInt (f (bh f r)) else Int32.ofInt (f (ah f (r + 1)).toNat * (bh f r - r) + f (bh f r) * (r - ah f (r + 1))) / Int32.ofInt (bh f r - ah f (r + 1))
theorem bhN_b {f : Nat → Int} : ∀ n r, r ≤ bhN f n r ∧ bhN f n r ≤ r + n
  | 0, r => by unfold bhN; omega
  | n + 1, r => by
    unfold bhN
    have := bhN_b (f := f) n (r + 1)
    by_cases e : f r = -1
    · rw [if_pos e]; omega
    · rw [if_neg e]; omega
theorem ah_b {f : Nat → Int} : ∀ m, -1 ≤ ah f m ∧ ah f m < m
  | 0 => by unfold ah; omega
  | m + 1 => by
    unfold ah
    have := ah_b (f := f) m
    by_cases e : f m = -1
    · rw [if_pos e]; omega
    · rw [if_neg e]; omega
theorem gR1 {k : Nat} (hk : CK k) : ∀ q, q < 3 → isO SX 1 (k + 11 + 2 * q) = true ∧ gR SX 1 (k + 11 + 2 * q) 0 = some (k + 12 + 2 * q) ∧ isA SX .int (k + 12 + 2 * q) = some 61 := by
  rcases hk with rfl | rfl | rfl <;> decide +kernel
theorem at_at {k : Nat} (hk : CK k) {q : Nat} (hq : q < 3) {f : Nat → Int} {μ : Mem} (h : Rw μ (k + 12 + 2 * q) 61 f) (b : ∀ i, i < 61 → -1 ≤ f i ∧ f i ≤ 9999) {r : Nat} (hr : r < 61) : f_X1_at SX (k + 11 + 2 * q) (Int32.ofNat r) μ = some (readV f r, μ) := by
  obtain ⟨o1, r1, a1⟩ := gR1 hk q hq
  have said : ∀ i, i < 61 → (μ.1 (k + 12 + 2 * q) i = -1) = (f i = -1) := by
    intro i hi
    have := b i hi
    rw [h i hi, ym1]
    exact propext (yeq (f i) (-1) (by omega) (by omega) (by omega) (by omega))
  have up : ∀ n r', r' + n = 61 → ∀ m, lpN (l_X1_at_2 SX (k + 11 + 2 * q) (Int32.ofNat r)) (m + n + 1) (Int32.ofNat r', μ) = b_X1_at_24 SX (k + 11 + 2 * q) (Int32.ofNat r) (Int32.ofNat (bhN f n r')) μ := by
    intro n
    induction n with
    | zero =>
      intro r' e m
      have : r' = 61 := by omega
      subst this
      rw [zlp]
      rfl
    | succ n ih =>
      intro r' e m
      rw [zlp]
      have c1 : ((61 : Int32) ≤ Int32.ofNat r') = False := by
        have := yle32 61 r' (by omega) (by omega) (by omega) (by omega)
        exact propext ⟨fun g => by have := this.mp g; omega, fun g => g.elim⟩
      have s1 := said r' (by omega)
      have n1 := ofN1 r'
      unfold bhN
      by_cases g : f r' = -1
      · rw [if_pos g]
        simp (decide := true) (implicitDefEqProofs := false) only [l_X1_at_2, c1, r1, a1, zin r' 61 (by omega) (by decide), ztn r' (by omega), s1, g, n1, zO, zR, zA, zT, zu1, zu2, zu3, zu4, gI, gL, pI, pL, pZ, aI, aL, sI, sZ, sL, Option.bind_some, Option.map_some, if_true, if_false, ite_true, ite_false, true_and, and_true, false_and, and_false, or_true, true_or, or_false, false_or, and_self, not_true_eq_false, not_false_eq_true, ↓reduceIte, reduceIte, Nat.reduceAdd, Nat.reduceMul, Nat.reduceSub, Nat.reduceMod, Nat.reduceDiv, Nat.reduceEqDiff, Nat.reduceLT, Nat.reduceLeDiff, Int32.reduceAdd, Int32.reduceSub, Int32.reduceMul, Int32.reduceDiv, Int32.reduceMod, Int32.reduceOfNat, Int32.reduceOfInt, Int32.reduceLT, Int32.reduceLE, Int32.reduceToNatClampNeg, Int32.reduceToInt]
        exact ih (r' + 1) (by omega) m
      · rw [if_neg g]
        simp (decide := true) (implicitDefEqProofs := false) only [l_X1_at_2, c1, r1, a1, zin r' 61 (by omega) (by decide), ztn r' (by omega), s1, g, zO, zR, zA, zT, zu1, zu2, zu3, zu4, gI, gL, pI, pL, pZ, aI, aL, sI, sZ, sL, Option.bind_some, Option.map_some, if_true, if_false, ite_true, ite_false, true_and, and_true, false_and, and_false, or_true, true_or, or_false, false_or, and_self, not_true_eq_false, not_false_eq_true, ↓reduceIte, reduceIte, Nat.reduceAdd, Nat.reduceMul, Nat.reduceSub, Nat.reduceMod, Nat.reduceDiv, Nat.reduceEqDiff, Nat.reduceLT, Nat.reduceLeDiff, Int32.reduceAdd, Int32.reduceSub, Int32.reduceMul, Int32.reduceDiv, Int32.reduceMod, Int32.reduceOfNat, Int32.reduceOfInt, Int32.reduceLT, Int32.reduceLE, Int32.reduceToNatClampNeg, Int32.reduceToInt]
  have hbh := bhN_b (f := f) (61 - r) r
  have down : ∀ m, m ≤ r + 1 → ∀ u, lpN (l_X1_at_34 SX (k + 11 + 2 * q) (Int32.ofNat r) (Int32.ofNat (bh f r))) (u + m + 1) (Int32.ofInt ((m : Int) - 1), μ) = b_X1_at_54 SX (k + 11 + 2 * q) (Int32.ofNat r) (Int32.ofNat (bh f r)) (Int32.ofInt (ah f m)) μ := by
    intro m
    induction m with
    | zero => intro _ u; rw [zlp]; rfl
    | succ m ih =>
      intro e u
      rw [zlp]
      have c1 : (Int32.ofInt (((m + 1 : Nat) : Int) - 1) < 0) = False := by
        have := ylt32 (((m + 1 : Nat) : Int) - 1) 0 (by omega) (by omega) (by omega) (by omega)
        exact propext ⟨fun g => by have := this.mp g; omega, fun g => g.elim⟩
      have e1 : Int32.ofInt (((m + 1 : Nat) : Int) - 1) = Int32.ofNat m := by rw [show ((m + 1 : Nat) : Int) - 1 = (m : Int) by omega]; rfl
      rw [e1] at c1 ⊢
      have s1 := said m (by omega)
      have n1 : Int32.ofNat m + (-1) = Int32.ofInt ((m : Int) - 1) := by
        rw [ym1, show Int32.ofNat m = Int32.ofInt (m : Int) from rfl, y32a]; rfl
      unfold ah
      by_cases g : f m = -1
      · rw [if_pos g]
        simp (decide := true) (implicitDefEqProofs := false) only [l_X1_at_34, c1, r1, a1, zin m 61 (by omega) (by decide), ztn m (by omega), s1, g, n1, zO, zR, zA, zT, zu1, zu2, zu3, zu4, gI, gL, pI, pL, pZ, aI, aL, sI, sZ, sL, Option.bind_some, Option.map_some, if_true, if_false, ite_true, ite_false, true_and, and_true, false_and, and_false, or_true, true_or, or_false, false_or, and_self, not_true_eq_false, not_false_eq_true, ↓reduceIte, reduceIte, Nat.reduceAdd, Nat.reduceMul, Nat.reduceSub, Nat.reduceMod, Nat.reduceDiv, Nat.reduceEqDiff, Nat.reduceLT, Nat.reduceLeDiff, Int32.reduceAdd, Int32.reduceSub, Int32.reduceMul, Int32.reduceDiv, Int32.reduceMod, Int32.reduceOfNat, Int32.reduceOfInt, Int32.reduceLT, Int32.reduceLE, Int32.reduceToNatClampNeg, Int32.reduceToInt]
        exact ih (by omega) u
      · rw [if_neg g]
        simp (decide := true) (implicitDefEqProofs := false) only [l_X1_at_34, c1, r1, a1, zin m 61 (by omega) (by decide), ztn m (by omega), s1, g, zO, zR, zA, zT, zu1, zu2, zu3, zu4, gI, gL, pI, pL, pZ, aI, aL, sI, sZ, sL, Option.bind_some, Option.map_some, if_true, if_false, ite_true, ite_false, true_and, and_true, false_and, and_false, or_true, true_or, or_false, false_or, and_self, not_true_eq_false, not_false_eq_true, ↓reduceIte, reduceIte, Nat.reduceAdd, Nat.reduceMul, Nat.reduceSub, Nat.reduceMod, Nat.reduceDiv, Nat.reduceEqDiff, Nat.reduceLT, Nat.reduceLeDiff, Int32.reduceAdd, Int32.reduceSub, Int32.reduceMul, Int32.reduceDiv, Int32.reduceMod, Int32.reduceOfNat, Int32.reduceOfInt, Int32.reduceLT, Int32.reduceLE, Int32.reduceToNatClampNeg, Int32.reduceToInt]
        rfl
  have hah := ah_b (f := f) (r + 1)
  unfold f_X1_at
  rw [if_pos o1]
  have e0 := up (61 - r) r (by omega) (4999 - (61 - r))
  rw [show 4999 - (61 - r) + (61 - r) + 1 = fu from by show _ = 5000; omega] at e0
  rw [e0]
  unfold b_X1_at_24 readV
  by_cases g : bh f r = 61
  · rw [if_pos g]
    unfold bh at g
    rw [g]; rfl
  · rw [if_neg g]
    have g' : ¬ (Int32.ofNat (bhN f (61 - r) r) = 61) := by
      intro e
      have := (yeq (bhN f (61 - r) r : Nat) 61 (by omega) (by omega) (by omega) (by omega)).mp e
      unfold bh at g; omega
    rw [if_neg g']
    have e2 := down (r + 1) (Nat.le_refl _) (4998 - r)
    rw [show 4998 - r + (r + 1) + 1 = fu from by show _ = 5000; omega, show ((r + 1 : Nat) : Int) - 1 = (r : Int) by omega] at e2
    have e3 : lpN (l_X1_at_34 SX (k + 11 + 2 * q) (Int32.ofNat r) (Int32.ofNat (bhN f (61 - r) r))) fu (Int32.ofNat r, μ) = _ := e2
    rw [e3]
    have hb61 : bh f r < 61 := by unfold bh at g ⊢; omega
    by_cases t1 : ah f (r + 1) < 0
    · rw [if_pos t1]
      have c1 : Int32.ofInt (ah f (r + 1)) < 0 := (ylt32 _ 0 (by omega) (by omega) (by omega) (by omega)).mpr t1
      simp (decide := true) (implicitDefEqProofs := false) only [b_X1_at_54, c1, r1, a1, zin _ 61 hb61 (by decide), ztn (bh f r) (by omega), h _ hb61, zO, zR, zA, zT, zu1, zu2, zu3, zu4, gI, gL, pI, pL, pZ, aI, aL, sI, sZ, sL, Option.bind_some, Option.map_some, if_true, if_false, ite_true, ite_false, true_and, and_true, false_and, and_false, or_true, true_or, or_false, false_or, and_self, not_true_eq_false, not_false_eq_true, ↓reduceIte, reduceIte, Nat.reduceAdd, Nat.reduceMul, Nat.reduceSub, Nat.reduceMod, Nat.reduceDiv, Nat.reduceEqDiff, Nat.reduceLT, Nat.reduceLeDiff, Int32.reduceAdd, Int32.reduceSub, Int32.reduceMul, Int32.reduceDiv, Int32.reduceMod, Int32.reduceOfNat, Int32.reduceOfInt, Int32.reduceLT, Int32.reduceLE, Int32.reduceToNatClampNeg, Int32.reduceToInt]
    · rw [if_neg t1]
      have c1 : ¬ (Int32.ofInt (ah f (r + 1)) < 0) := fun g => t1 ((ylt32 _ 0 (by omega) (by omega) (by omega) (by omega)).mp g)
      have e4 : Int32.ofInt (ah f (r + 1)) = Int32.ofNat (ah f (r + 1)).toNat := ofIn _ (by omega)
      have c2 : (Int32.ofInt (ah f (r + 1)) = Int32.ofNat (bh f r)) = (ah f (r + 1) = bh f r) := propext (yeq (ah f (r + 1)) (bh f r : Nat) (by omega) (by omega) (by omega) (by omega))
      by_cases t2 : ah f (r + 1) = bh f r
      · rw [if_pos t2]
        have t2' : Int32.ofInt (ah f (r + 1)) = Int32.ofNat (bh f r) := by rw [c2]; exact t2
        unfold b_X1_at_54
        rw [if_neg c1, if_pos t2']
        simp (decide := true) (implicitDefEqProofs := false) only [r1, a1, zin _ 61 hb61 (by decide), ztn (bh f r) (by omega), h _ hb61, zO, zR, zA, zT, zu1, zu2, zu3, zu4, gI, gL, pI, pL, pZ, aI, aL, sI, sZ, sL, Option.bind_some, Option.map_some, if_true, if_false, ite_true, ite_false, true_and, and_true, false_and, and_false, or_true, true_or, or_false, false_or, and_self, not_true_eq_false, not_false_eq_true, ↓reduceIte, reduceIte, Nat.reduceAdd, Nat.reduceMul, Nat.reduceSub, Nat.reduceMod, Nat.reduceDiv, Nat.reduceEqDiff, Nat.reduceLT, Nat.reduceLeDiff, Int32.reduceAdd, Int32.reduceSub, Int32.reduceMul, Int32.reduceDiv, Int32.reduceMod, Int32.reduceOfNat, Int32.reduceOfInt, Int32.reduceLT, Int32.reduceLE, Int32.reduceToNatClampNeg, Int32.reduceToInt]
      · rw [if_neg t2]
        have hz : ¬ (Int32.ofNat (bh f r) - Int32.ofInt (ah f (r + 1)) = 0) := by
          show ¬ (Int32.ofInt (bh f r : Nat) - Int32.ofInt (ah f (r + 1)) = Int32.ofInt 0)
          rw [y32s]
          intro e
          have := (yeq _ 0 (by omega) (by omega) (by omega) (by omega)).mp e
          omega
        have ha61 : (ah f (r + 1)).toNat < 61 := by omega
        have c3 := h _ ha61
        have c4 := zin (ah f (r + 1)).toNat 61 ha61 (by decide)
        have c5 := ztn (ah f (r + 1)).toNat (by omega)
        rw [← e4] at c4 c5
        simp (decide := true) (implicitDefEqProofs := false) only [b_X1_at_54, o_idiv, hz, c1, c2, t2, r1, a1, zin _ 61 hb61 (by decide), ztn (bh f r) (by omega), h _ hb61, c3, c4, c5, zO, zR, zA, zT, zu1, zu2, zu3, zu4, gI, gL, pI, pL, pZ, aI, aL, sI, sZ, sL, Option.bind_some, Option.map_some, if_true, if_false, ite_true, ite_false, true_and, and_true, false_and, and_false, or_true, true_or, or_false, false_or, and_self, not_true_eq_false, not_false_eq_true, ↓reduceIte, reduceIte, Nat.reduceAdd, Nat.reduceMul, Nat.reduceSub, Nat.reduceMod, Nat.reduceDiv, Nat.reduceEqDiff, Nat.reduceLT, Nat.reduceLeDiff, Int32.reduceAdd, Int32.reduceSub, Int32.reduceMul, Int32.reduceDiv, Int32.reduceMod, Int32.reduceOfNat, Int32.reduceOfInt, Int32.reduceLT, Int32.reduceLE, Int32.reduceToNatClampNeg, Int32.reduceToInt]
        have q1 : Int32.ofNat (bh f r) = Int32.ofInt (bh f r : Nat) := rfl
        have q2 : Int32.ofNat r = Int32.ofInt (r : Nat) := rfl
        rw [q1, q2]
        simp only [y32s, y32m, y32a]

