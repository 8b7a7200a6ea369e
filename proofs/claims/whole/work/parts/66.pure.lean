theorem farX {c : Nat → Nat → Int} (b : BC c) {d : Nat} (hd : d < 20) : ∀ n, n ≤ 61 → ∀ u μ (r0 : Int), CC 37 (up (up c 8 0 (d : Int)) 8 1 r0) μ → ∃ ν, lpN (l_X11_farthest_34 SX 0) (u + n + 1) (Int32.ofInt ((n : Int) - 1), μ) = some (Int32.ofInt (mostV (fun r => decide (whyV (atc c d r) = 0)) n), ν) ∧ FM scP scJ μ ν := by
  intro n
  induction n with
  | zero =>
    intro _ u μ l h
    refine ⟨μ, ?_, FM.rf⟩
    rw [zlp]
    have e : ((0 : Nat) : Int) - 1 = -1 := by omega
    have c1 : (Int32.ofInt (-1) < 0) = True := eq_true (by decide)
    rw [e]
    simp (decide := true) (implicitDefEqProofs := false) only [l_X11_farthest_34, c1, zO, zR, zA, zT, zu1, zu2, zu3, zu4, gI, gL, pI, pL, pZ, aI, aL, sI, sZ, sL, Option.bind_some, Option.map_some, if_true, if_false, ite_true, ite_false, true_and, and_true, false_and, and_false, or_true, true_or, or_false, false_or, and_self, not_true_eq_false, not_false_eq_true, ↓reduceIte, reduceIte, Nat.reduceAdd, Nat.reduceMul, Nat.reduceSub, Nat.reduceMod, Nat.reduceDiv, Nat.reduceEqDiff, Nat.reduceLT, Nat.reduceLeDiff, Int32.reduceAdd, Int32.reduceSub, Int32.reduceMul, Int32.reduceDiv, Int32.reduceMod, Int32.reduceOfNat, Int32.reduceOfInt, Int32.reduceLT, Int32.reduceLE, Int32.reduceToNatClampNeg, Int32.reduceToInt]
    rfl
  | succ n ih =>
    intro hn u μ l h
    have e : ((n + 1 : Nat) : Int) - 1 = (n : Int) := by omega
    rw [e, zlp]
    have c1 : (Int32.ofInt (n : Int) < 0) = False := eq_false (fun g => by
      have := (ylt32 (n : Int) 0 (by omega) (by omega) (by omega) (by omega)).mp g
      omega)
    have D : CC 37 (atc c d n) (upI μ 54 1 (Int32.ofInt (n : Int))) := by
      have := h.dial (i := 1) (z := (n : Int)) (v := Int32.ofInt (n : Int)) rfl
      rw [up_up] at this
      exact this
    obtain ⟨ν1, p1, f1, -⟩ := verdict_at ck37 D (b.atc hd (by omega))
    have F1 : FM scP scJ μ ν1 := sc54.tr (sc55 f1)
    have n1 : Int32.ofInt (n : Int) + (-1) = Int32.ofInt ((n : Int) - 1) := by rw [ym1, y32a]; rfl
    unfold mostV
    by_cases t : whyV (atc c d n) = 0
    · refine ⟨ν1, ?_, F1⟩
      rw [if_pos (by simpa using t)]
      simp (decide := true) (implicitDefEqProofs := false) only [l_X11_farthest_34, c1, p1, t, zO, zR, zA, zT, zu1, zu2, zu3, zu4, gI, gL, pI, pL, pZ, aI, aL, sI, sZ, sL, Option.bind_some, Option.map_some, if_true, if_false, ite_true, ite_false, true_and, and_true, false_and, and_false, or_true, true_or, or_false, false_or, and_self, not_true_eq_false, not_false_eq_true, ↓reduceIte, reduceIte, Nat.reduceAdd, Nat.reduceMul, Nat.reduceSub, Nat.reduceMod, Nat.reduceDiv, Nat.reduceEqDiff, Nat.reduceLT, Nat.reduceLeDiff, Int32.reduceAdd, Int32.reduceSub, Int32.reduceMul, Int32.reduceDiv, Int32.reduceMod, Int32.reduceOfNat, Int32.reduceOfInt, Int32.reduceLT, Int32.reduceLE, Int32.reduceToNatClampNeg, Int32.reduceToInt]
    · obtain ⟨ν, p, f⟩ := ih (by omega) u ν1 (n : Int) (D.f37 f1)
      refine ⟨ν, ?_, F1.tr f⟩
      rw [if_neg (by simpa using t)]
      simp (decide := true) (implicitDefEqProofs := false) only [l_X11_farthest_34, c1, p1, t, n1, zO, zR, zA, zT, zu1, zu2, zu3, zu4, gI, gL, pI, pL, pZ, aI, aL, sI, sZ, sL, Option.bind_some, Option.map_some, if_true, if_false, ite_true, ite_false, true_and, and_true, false_and, and_false, or_true, true_or, or_false, false_or, and_self, not_true_eq_false, not_false_eq_true, ↓reduceIte, reduceIte, Nat.reduceAdd, Nat.reduceMul, Nat.reduceSub, Nat.reduceMod, Nat.reduceDiv, Nat.reduceEqDiff, Nat.reduceLT, Nat.reduceLeDiff, Int32.reduceAdd, Int32.reduceSub, Int32.reduceMul, Int32.reduceDiv, Int32.reduceMod, Int32.reduceOfNat, Int32.reduceOfInt, Int32.reduceLT, Int32.reduceLE, Int32.reduceToNatClampNeg, Int32.reduceToInt]
      exact p
theorem farM {c : Nat → Nat → Int} (b : BC c) {d : Nat} (hd : d < 20) : ∀ n, n ≤ 61 → ∀ u μ, MM c μ → ∃ ν, lpN (l_X12_farthest_12 SX 81 (Int32.ofNat d)) (u + n + 1) (Int32.ofInt ((n : Int) - 1), μ) = some (Int32.ofInt (mostV (fun r => decide (whyV (atc c d r) = 0)) n), ν) ∧ FM tmP uJ μ ν ∧ MM c ν := by
  intro n
  induction n with
  | zero =>
    intro _ u μ h
    refine ⟨μ, ?_, FM.rf, h⟩
    rw [zlp]
    have e : ((0 : Nat) : Int) - 1 = -1 := by omega
    have c1 : (Int32.ofInt (-1) < 0) = True := eq_true (by decide)
    rw [e]
    simp (decide := true) (implicitDefEqProofs := false) only [l_X12_farthest_12, c1, zO, zR, zA, zT, zu1, zu2, zu3, zu4, gI, gL, pI, pL, pZ, aI, aL, sI, sZ, sL, Option.bind_some, Option.map_some, if_true, if_false, ite_true, ite_false, true_and, and_true, false_and, and_false, or_true, true_or, or_false, false_or, and_self, not_true_eq_false, not_false_eq_true, ↓reduceIte, reduceIte, Nat.reduceAdd, Nat.reduceMul, Nat.reduceSub, Nat.reduceMod, Nat.reduceDiv, Nat.reduceEqDiff, Nat.reduceLT, Nat.reduceLeDiff, Int32.reduceAdd, Int32.reduceSub, Int32.reduceMul, Int32.reduceDiv, Int32.reduceMod, Int32.reduceOfNat, Int32.reduceOfInt, Int32.reduceLT, Int32.reduceLE, Int32.reduceToNatClampNeg, Int32.reduceToInt]
    rfl
  | succ n ih =>
    intro hn u μ h
    have e : ((n + 1 : Nat) : Int) - 1 = (n : Int) := by omega
    rw [e, zlp]
    have c1 : (Int32.ofInt (n : Int) < 0) = False := eq_false (fun g => by
      have := (ylt32 (n : Int) 0 (by omega) (by omega) (by omega) (by omega)).mp g
      omega)
    obtain ⟨ν1, p1, f1, h1⟩ := mayAt_at h b hd (r := n) (by omega)
    have p1' : f_X12_mayAt SX 81 (Int32.ofNat d) (Int32.ofInt (n : Int)) μ = _ := p1
    have n1 : Int32.ofInt (n : Int) + (-1) = Int32.ofInt ((n : Int) - 1) := by rw [ym1, y32a]; rfl
    unfold mostV
    by_cases t : whyV (atc c d n) = 0
    · refine ⟨ν1, ?_, f1, h1⟩
      rw [if_pos t] at p1'
      rw [if_pos (by simpa using t)]
      simp (decide := true) (implicitDefEqProofs := false) only [l_X12_farthest_12, c1, p1', zO, zR, zA, zT, zu1, zu2, zu3, zu4, gI, gL, pI, pL, pZ, aI, aL, sI, sZ, sL, Option.bind_some, Option.map_some, if_true, if_false, ite_true, ite_false, true_and, and_true, false_and, and_false, or_true, true_or, or_false, false_or, and_self, not_true_eq_false, not_false_eq_true, ↓reduceIte, reduceIte, Nat.reduceAdd, Nat.reduceMul, Nat.reduceSub, Nat.reduceMod, Nat.reduceDiv, Nat.reduceEqDiff, Nat.reduceLT, Nat.reduceLeDiff, Int32.reduceAdd, Int32.reduceSub, Int32.reduceMul, Int32.reduceDiv, Int32.reduceMod, Int32.reduceOfNat, Int32.reduceOfInt, Int32.reduceLT, Int32.reduceLE, Int32.reduceToNatClampNeg, Int32.reduceToInt]
    · obtain ⟨ν, p, f, g⟩ := ih (by omega) u ν1 h1
      refine ⟨ν, ?_, f1.tr f, g⟩
      rw [if_neg t] at p1'
      rw [if_neg (by simpa using t)]
      simp (decide := true) (implicitDefEqProofs := false) only [l_X12_farthest_12, c1, p1', n1, zO, zR, zA, zT, zu1, zu2, zu3, zu4, gI, gL, pI, pL, pZ, aI, aL, sI, sZ, sL, Option.bind_some, Option.map_some, if_true, if_false, ite_true, ite_false, true_and, and_true, false_and, and_false, or_true, true_or, or_false, false_or, and_self, not_true_eq_false, not_false_eq_true, ↓reduceIte, reduceIte, Nat.reduceAdd, Nat.reduceMul, Nat.reduceSub, Nat.reduceMod, Nat.reduceDiv, Nat.reduceEqDiff, Nat.reduceLT, Nat.reduceLeDiff, Int32.reduceAdd, Int32.reduceSub, Int32.reduceMul, Int32.reduceDiv, Int32.reduceMod, Int32.reduceOfNat, Int32.reduceOfInt, Int32.reduceLT, Int32.reduceLE, Int32.reduceToNatClampNeg, Int32.reduceToInt]
      exact p
theorem ok_farthest {μ : Mem} (h : INV μ) (a1 : Int32) : OKop (f_X11_farthest SX 0 a1) (f_X12_farthest SX 81 a1) μ := by
  obtain ⟨c, b, h1, h2⟩ := h.1
  rcases wbN a1 19 (by decide) with t | ⟨t, d, hd, rfl⟩
  · simp only [Nat.reduceAdd, Nat.reduceMul, Nat.reduceMod, Int32.reduceOfNat] at t
    refine ⟨-1, μ, μ, ?_, ?_, h⟩
    · simp (decide := true) (implicitDefEqProofs := false) only [f_X11_farthest, isDir_at, t, zO, zR, zA, zT, zu1, zu2, zu3, zu4, gI, gL, pI, pL, pZ, aI, aL, sI, sZ, sL, Option.bind_some, Option.map_some, if_true, if_false, ite_true, ite_false, true_and, and_true, false_and, and_false, or_true, true_or, or_false, false_or, and_self, not_true_eq_false, not_false_eq_true, ↓reduceIte, reduceIte, Nat.reduceAdd, Nat.reduceMul, Nat.reduceSub, Nat.reduceMod, Nat.reduceDiv, Nat.reduceEqDiff, Nat.reduceLT, Nat.reduceLeDiff, Int32.reduceAdd, Int32.reduceSub, Int32.reduceMul, Int32.reduceDiv, Int32.reduceMod, Int32.reduceOfNat, Int32.reduceOfInt, Int32.reduceLT, Int32.reduceLE, Int32.reduceToNatClampNeg, Int32.reduceToInt]
    · simp (decide := true) (implicitDefEqProofs := false) only [f_X12_farthest, isDir_at, t, zO, zR, zA, zT, zu1, zu2, zu3, zu4, gI, gL, pI, pL, pZ, aI, aL, sI, sZ, sL, Option.bind_some, Option.map_some, if_true, if_false, ite_true, ite_false, true_and, and_true, false_and, and_false, or_true, true_or, or_false, false_or, and_self, not_true_eq_false, not_false_eq_true, ↓reduceIte, reduceIte, Nat.reduceAdd, Nat.reduceMul, Nat.reduceSub, Nat.reduceMod, Nat.reduceDiv, Nat.reduceEqDiff, Nat.reduceLT, Nat.reduceLeDiff, Int32.reduceAdd, Int32.reduceSub, Int32.reduceMul, Int32.reduceDiv, Int32.reduceMod, Int32.reduceOfNat, Int32.reduceOfInt, Int32.reduceLT, Int32.reduceLE, Int32.reduceToNatClampNeg, Int32.reduceToInt]
  · simp only [Nat.reduceAdd, Nat.reduceMul, Nat.reduceMod, Int32.reduceOfNat] at t
    obtain ⟨μ1, p1, f1, d1⟩ := draft_at h1 b
    have d2 : CC 37 (up (up c 8 0 (d : Int)) 8 1 (c 8 1)) (upI μ1 54 0 (Int32.ofNat d)) := by
      have := d1.dial (i := 0) (z := (d : Int)) (v := Int32.ofNat d) rfl
      have e : up (up c 8 0 (d : Int)) 8 1 (c 8 1) = up c 8 0 (d : Int) := by rw [← up_sw, up_self]
      rw [e]; exact this
    obtain ⟨μ2, p2, f2⟩ := farX b (d := d) (by omega) 61 (Nat.le_refl _) 4938 _ _ d2
    have F12 := (f1.tr (sc54 (i := 0) (v := Int32.ofNat d))).tr f2
    have M2 := h2.sc F12
    obtain ⟨μ3, p3, f3, m3⟩ := farM b (d := d) (by omega) 61 (Nat.le_refl _) 4938 μ2 M2
    have C2 := h1.sc F12
    refine ⟨Int32.ofInt (mostV (fun r => decide (whyV (atc c d r) = 0)) 61), μ2, μ3, ?_, ?_, h.cr ((scCr F12).tr (tmCr f3)) ⟨c, b, C2.f f3 (fun q g1 g2 => ⟨by omega, by unfold tmP uP; omega⟩), m3⟩⟩
    · simp (decide := true) (implicitDefEqProofs := false) only [f_X11_farthest, isDir_at, t, p1, zO, zR, zA, zT, zu1, zu2, zu3, zu4, gI, gL, pI, pL, pZ, aI, aL, sI, sZ, sL, Option.bind_some, Option.map_some, if_true, if_false, ite_true, ite_false, true_and, and_true, false_and, and_false, or_true, true_or, or_false, false_or, and_self, not_true_eq_false, not_false_eq_true, ↓reduceIte, reduceIte, Nat.reduceAdd, Nat.reduceMul, Nat.reduceSub, Nat.reduceMod, Nat.reduceDiv, Nat.reduceEqDiff, Nat.reduceLT, Nat.reduceLeDiff, Int32.reduceAdd, Int32.reduceSub, Int32.reduceMul, Int32.reduceDiv, Int32.reduceMod, Int32.reduceOfNat, Int32.reduceOfInt, Int32.reduceLT, Int32.reduceLE, Int32.reduceToNatClampNeg, Int32.reduceToInt]
      exact p2
    · simp (decide := true) (implicitDefEqProofs := false) only [f_X12_farthest, isDir_at, t, zO, zR, zA, zT, zu1, zu2, zu3, zu4, gI, gL, pI, pL, pZ, aI, aL, sI, sZ, sL, Option.bind_some, Option.map_some, if_true, if_false, ite_true, ite_false, true_and, and_true, false_and, and_false, or_true, true_or, or_false, false_or, and_self, not_true_eq_false, not_false_eq_true, ↓reduceIte, reduceIte, Nat.reduceAdd, Nat.reduceMul, Nat.reduceSub, Nat.reduceMod, Nat.reduceDiv, Nat.reduceEqDiff, Nat.reduceLT, Nat.reduceLeDiff, Int32.reduceAdd, Int32.reduceSub, Int32.reduceMul, Int32.reduceDiv, Int32.reduceMod, Int32.reduceOfNat, Int32.reduceOfInt, Int32.reduceLT, Int32.reduceLE, Int32.reduceToNatClampNeg, Int32.reduceToInt]
      exact p3

