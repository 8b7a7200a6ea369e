theorem pk37 : PK 37 1 := Or.inl ⟨rfl, rfl⟩
/-- the draft becomes what is -/
theorem draft_at {c : Nat → Nat → Int} {μ : Mem} (h : CC 1 c μ) (b : BC c) : ∃ ν, f_X2_become SX 37 1 μ = some ((), ν) ∧ FM scP scJ μ ν ∧ CC 37 c ν := by
  obtain ⟨ν, p, f, c1⟩ := become_at pk37 h b
  exact ⟨ν, p, (f.fm (by omega)).mo (fun k q => by unfold scP; omega) (fun k q => q.elim), c1⟩
theorem CC.f37 {c : Nat → Nat → Int} {μ ν : Mem} (h : CC 37 c μ) (f : Fr (fun q => q = 55 ∨ q = 56) μ ν) : CC 37 c ν := h.w _ f (fun q g1 g2 => by omega)
theorem sc54 {μ : Mem} {i : Nat} {v : Int32} : FM scP scJ μ (upI μ 54 i v) := FM.uI (Or.inl ⟨by decide, by unfold scP; omega⟩)
theorem up_up (c : Nat → Nat → Int) (f i : Nat) (v w : Int) : up (up c f i v) f i w = up c f i w := by
  funext g j
  unfold up
  by_cases e : g = f ∧ j = i <;> simp [e]
/-- the greatest v below n with which it may, -5: none -/
def mostV (P : Nat → Bool) : Nat → Int
  | 0 => -5
  | n + 1 => if P n = true then (n : Int) else mostV P n
theorem mostX {c : Nat → Nat → Int} (b : BC c) : ∀ n, n ≤ 1000 → ∀ u μ (l : Int), (0 ≤ l ∧ l ≤ 9999) → CC 37 (up c 8 3 l) μ → ∃ ν, lpN (l_X11_most_15 SX 0) (u + n + 1) (Int32.ofInt ((n : Int) - 1), μ) = some (Int32.ofInt (mostV (fun v => decide (whyV (up c 8 3 (v : Int)) = 0)) n), ν) ∧ FM scP scJ μ ν := by
  intro n
  induction n with
  | zero =>
    intro _ u μ l hl h
    refine ⟨μ, ?_, FM.rf⟩
    rw [zlp]
    have e : ((0 : Nat) : Int) - 1 = -1 := by omega
    have c1 : (Int32.ofInt (-1) < 0) = True := eq_true (by decide)
    rw [e]
    simp (decide := true) (implicitDefEqProofs := false) only [l_X11_most_15, c1, zO, zR, zA, zT, zu1, zu2, zu3, zu4, gI, gL, pI, pL, pZ, aI, aL, sI, sZ, sL, Option.bind_some, Option.map_some, if_true, if_false, ite_true, ite_false, true_and, and_true, false_and, and_false, or_true, true_or, or_false, false_or, and_self, not_true_eq_false, not_false_eq_true, ↓reduceIte, reduceIte, Nat.reduceAdd, Nat.reduceMul, Nat.reduceSub, Nat.reduceMod, Nat.reduceDiv, Nat.reduceEqDiff, Nat.reduceLT, Nat.reduceLeDiff, Int32.reduceAdd, Int32.reduceSub, Int32.reduceMul, Int32.reduceDiv, Int32.reduceMod, Int32.reduceOfNat, Int32.reduceOfInt, Int32.reduceLT, Int32.reduceLE, Int32.reduceToNatClampNeg, Int32.reduceToInt]
    rfl
  | succ n ih =>
    intro hn u μ l hl h
    have e : ((n + 1 : Nat) : Int) - 1 = (n : Int) := by omega
    rw [e, zlp]
    have c1 : (Int32.ofInt (n : Int) < 0) = False := eq_false (fun g => by
      have := (ylt32 (n : Int) 0 (by omega) (by omega) (by omega) (by omega)).mp g
      omega)
    have D : CC 37 (up c 8 3 (n : Int)) (upI μ 54 3 (Int32.ofInt (n : Int))) := by
      have := h.dial (i := 3) (z := (n : Int)) (v := Int32.ofInt (n : Int)) rfl
      rw [up_up] at this
      exact this
    have B : BC (up c 8 3 (n : Int)) := b.dial ⟨by decide, by decide, by decide, by show (0 : Int) ≤ _; omega, by show _ ≤ (9999 : Int); omega⟩
    obtain ⟨ν1, p1, f1, -⟩ := verdict_at ck37 D B
    have F1 : FM scP scJ μ ν1 := sc54.tr (sc55 f1)
    have n1 : Int32.ofInt (n : Int) + (-1) = Int32.ofInt ((n : Int) - 1) := by rw [ym1, y32a]; rfl
    unfold mostV
    by_cases t : whyV (up c 8 3 (n : Int)) = 0
    · refine ⟨ν1, ?_, F1⟩
      rw [if_pos (by simpa using t)]
      simp (decide := true) (implicitDefEqProofs := false) only [l_X11_most_15, c1, p1, t, zO, zR, zA, zT, zu1, zu2, zu3, zu4, gI, gL, pI, pL, pZ, aI, aL, sI, sZ, sL, Option.bind_some, Option.map_some, if_true, if_false, ite_true, ite_false, true_and, and_true, false_and, and_false, or_true, true_or, or_false, false_or, and_self, not_true_eq_false, not_false_eq_true, ↓reduceIte, reduceIte, Nat.reduceAdd, Nat.reduceMul, Nat.reduceSub, Nat.reduceMod, Nat.reduceDiv, Nat.reduceEqDiff, Nat.reduceLT, Nat.reduceLeDiff, Int32.reduceAdd, Int32.reduceSub, Int32.reduceMul, Int32.reduceDiv, Int32.reduceMod, Int32.reduceOfNat, Int32.reduceOfInt, Int32.reduceLT, Int32.reduceLE, Int32.reduceToNatClampNeg, Int32.reduceToInt]
    · obtain ⟨ν, p, f⟩ := ih (by omega) u ν1 (n : Int) (by omega) (D.f37 f1)
      refine ⟨ν, ?_, F1.tr f⟩
      rw [if_neg (by simpa using t)]
      simp (decide := true) (implicitDefEqProofs := false) only [l_X11_most_15, c1, p1, t, n1, zO, zR, zA, zT, zu1, zu2, zu3, zu4, gI, gL, pI, pL, pZ, aI, aL, sI, sZ, sL, Option.bind_some, Option.map_some, if_true, if_false, ite_true, ite_false, true_and, and_true, false_and, and_false, or_true, true_or, or_false, false_or, and_self, not_true_eq_false, not_false_eq_true, ↓reduceIte, reduceIte, Nat.reduceAdd, Nat.reduceMul, Nat.reduceSub, Nat.reduceMod, Nat.reduceDiv, Nat.reduceEqDiff, Nat.reduceLT, Nat.reduceLeDiff, Int32.reduceAdd, Int32.reduceSub, Int32.reduceMul, Int32.reduceDiv, Int32.reduceMod, Int32.reduceOfNat, Int32.reduceOfInt, Int32.reduceLT, Int32.reduceLE, Int32.reduceToNatClampNeg, Int32.reduceToInt]
      exact p

