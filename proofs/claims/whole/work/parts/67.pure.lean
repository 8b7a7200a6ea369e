/-- the least v from i on, of so many, with which it may; -5: none -/
def leastV (P : Nat → Bool) : Nat → Nat → Int
  | 0, _ => -5
  | n + 1, i => if P i = true then (i : Int) else leastV P n (i + 1)
theorem balX {c : Nat → Nat → Int} (b : BC c) {p : Nat} (hp : p < nP c) : ∀ n i, i + n = 1000 → 1 ≤ i → ∀ u μ (m0 : Int), (0 ≤ m0 ∧ m0 ≤ 999) → CC 37 (up c 3 p m0) μ → ∃ ν, lpN (l_X11_ballast_29 SX 0 (Int32.ofNat p)) (u + n + 1) (Int32.ofNat i, μ) = some (Int32.ofInt (leastV (fun v => decide (whyV (up c 3 p (v : Int)) = 0)) n i), ν) ∧ FM scP scJ μ ν := by
  intro n
  induction n with
  | zero =>
    intro i hi h1 u μ m0 hm h
    have e : i = 1000 := by omega
    subst e
    refine ⟨μ, ?_, FM.rf⟩
    rw [zlp]
    simp (decide := true) (implicitDefEqProofs := false) only [l_X11_ballast_29, leastV, zO, zR, zA, zT, zu1, zu2, zu3, zu4, gI, gL, pI, pL, pZ, aI, aL, sI, sZ, sL, Option.bind_some, Option.map_some, if_true, if_false, ite_true, ite_false, true_and, and_true, false_and, and_false, or_true, true_or, or_false, false_or, and_self, not_true_eq_false, not_false_eq_true, ↓reduceIte, reduceIte, Nat.reduceAdd, Nat.reduceMul, Nat.reduceSub, Nat.reduceMod, Nat.reduceDiv, Nat.reduceEqDiff, Nat.reduceLT, Nat.reduceLeDiff, Int32.reduceAdd, Int32.reduceSub, Int32.reduceMul, Int32.reduceDiv, Int32.reduceMod, Int32.reduceOfNat, Int32.reduceOfInt, Int32.reduceLT, Int32.reduceLE, Int32.reduceToNatClampNeg, Int32.reduceToInt]
    rfl
  | succ n ih =>
    intro i hi h1 u μ m0 hm h
    rw [zlp]
    have lf : ((999 : Int32) < Int32.ofNat i) = False := eq_false (fun g => by
      have := (ylt32 999 (i : Nat) (by omega) (by omega) (by omega) (by omega)).mp g
      omega)
    have B0 : BC (up c 3 p m0) := b.mass hm
    have np : nP (up c 3 p m0) = nP c := by unfold nP; rw [up_ne (by decide)]
    obtain ⟨ν0, p0, f0, D0⟩ := reweigh_at ck37 h B0 (p := p) (by rw [np]; exact hp) (i : Int)
    rw [up_up] at D0
    simp only [Nat.reduceAdd, Nat.reduceMul, Nat.reduceMod, Int32.reduceOfNat] at p0
    have p0' : f_X5_reweigh SX 42 (Int32.ofNat p) (Int32.ofNat i) μ = some ((), ν0) := p0
    obtain ⟨ν1, p1, f1, -⟩ := verdict_at ck37 D0 (b.mass (by omega))
    have F1 : FM scP scJ μ ν1 := ((f0.fm (by omega)).mo (fun k q => by unfold scP; omega) (fun k q => q.elim)).tr (sc55 f1)
    have n1 := ofN1 i
    unfold leastV
    by_cases t : whyV (up c 3 p (i : Int)) = 0
    · refine ⟨ν1, ?_, F1⟩
      rw [if_pos (by simpa using t)]
      simp (decide := true) (implicitDefEqProofs := false) only [l_X11_ballast_29, lf, p0', p1, t, zO, zR, zA, zT, zu1, zu2, zu3, zu4, gI, gL, pI, pL, pZ, aI, aL, sI, sZ, sL, Option.bind_some, Option.map_some, if_true, if_false, ite_true, ite_false, true_and, and_true, false_and, and_false, or_true, true_or, or_false, false_or, and_self, not_true_eq_false, not_false_eq_true, ↓reduceIte, reduceIte, Nat.reduceAdd, Nat.reduceMul, Nat.reduceSub, Nat.reduceMod, Nat.reduceDiv, Nat.reduceEqDiff, Nat.reduceLT, Nat.reduceLeDiff, Int32.reduceAdd, Int32.reduceSub, Int32.reduceMul, Int32.reduceDiv, Int32.reduceMod, Int32.reduceOfNat, Int32.reduceOfInt, Int32.reduceLT, Int32.reduceLE, Int32.reduceToNatClampNeg, Int32.reduceToInt]
      rfl
    · obtain ⟨ν, q, f⟩ := ih (i + 1) (by omega) (by omega) u ν1 (i : Int) (by omega) (D0.f37 f1)
      refine ⟨ν, ?_, F1.tr f⟩
      rw [if_neg (by simpa using t)]
      simp (decide := true) (implicitDefEqProofs := false) only [l_X11_ballast_29, lf, p0', p1, t, n1, zO, zR, zA, zT, zu1, zu2, zu3, zu4, gI, gL, pI, pL, pZ, aI, aL, sI, sZ, sL, Option.bind_some, Option.map_some, if_true, if_false, ite_true, ite_false, true_and, and_true, false_and, and_false, or_true, true_or, or_false, false_or, and_self, not_true_eq_false, not_false_eq_true, ↓reduceIte, reduceIte, Nat.reduceAdd, Nat.reduceMul, Nat.reduceSub, Nat.reduceMod, Nat.reduceDiv, Nat.reduceEqDiff, Nat.reduceLT, Nat.reduceLeDiff, Int32.reduceAdd, Int32.reduceSub, Int32.reduceMul, Int32.reduceDiv, Int32.reduceMod, Int32.reduceOfNat, Int32.reduceOfInt, Int32.reduceLT, Int32.reduceLE, Int32.reduceToNatClampNeg, Int32.reduceToInt]
      exact q

