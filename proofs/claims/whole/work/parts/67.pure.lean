/-- the least v from i on, of so many, with which it may; -5: none -/
def leastV (P : Nat → Bool) : Nat → Nat → Int
  | 0, _ => -5
  | n + 1, i => if P i = true then (i : Int) else leastV P n (i + 1)
theorem balX {c : Nat → Nat → Int} (b : BC c) {p : Nat} (hp : p < nP c) : ∀ n i, i + n = 1000 → 1 ≤ i → ∀ u μ (m0 : Int), (0 ≤ m0 ∧ m0 ≤ 999) → CC 37 (up c 3 p m0) μ → ∃ ν, lpN (l_X11_ballast_29 SX 0 (Int32.ofNat p)) (u + n + 1) (Int32.ofNat i, μ) = some (Int32.ofInt (leastV (fun v => decide (whyV (up c 3 p (v : Int)) = 0)) n i), ν) ∧ FM scP scJ μ ν := by
  intro n
  induction n with
  | zero =>
    intro i hi h1 u μ m0 hm h
    have e : i = 1000 := by omega
    subst e
    refine ⟨μ, ?_, FM.rf⟩
    rw [zlp]
    simp (decide := true) (implicitDefEqProofs := false) only [l_X11_ballast_29, leastV, zO, zR, zA, zT, zu1, zu2, zu3, zu4, gI, gL, pI, pL, pZ, aI, aL, sI, sZ, sL, Option.bind_some, Option.map_some, if_true, if_false, ite_true, ite_false, true_and, and_true, false_and, and_false, or_true, true_or, or_false, false_or, and_self, not_true_eq_false, not_false_eq_true, ↓reduceIte, reduceIte, Nat.reduceAdd, Nat.reduceMul, Nat.reduceSub, Nat.reduceMod, Nat.reduceDiv, Nat.reduceEqDiff, Nat.reduceLT, Nat.reduceLeDiff, Int32.reduceAdd, Int32.reduceSub, Int32.reduceMul, Int32.reduceDiv, Int32.reduceMod, Int32.reduceOfNat, Int32.reduceOfInt, Int32.reduceLT, Int32.reduceLE, Int32.reduceToNatClampNeg, Int32.reduceToInt]
  | succ n ih =>
    intro i hi h1 u μ m0 hm h
    rw [zlp]
    have lf : ((999 : Int32) < Int32.ofNat i) = False := eq_false (fun g => by
      have := (ylt32 999 (i : Nat) (by omega) (by omega) (by omega) (by omega)).mp g
      omega)
    have B0 : BC (up c 3 p m0) := b.mass hm
    have np : nP (up c 3 p m0) = nP c := by unfold nP; rw [up_ne (by decide)]
    obtain ⟨ν0, p0, f0, D0⟩ := reweigh_at ck37 h B0 (p := p) (by rw [np]; exact hp) (i : Int)
    rw [up_up] at D0
    simp only [Nat.reduceAdd, Nat.reduceMul, Nat.reduceMod, Int32.reduceOfNat] at p0
    have p0' : f_X5_reweigh SX 42 (Int32.ofNat p) (Int32.ofNat i) μ = some ((), ν0) := p0
    obtain ⟨ν1, p1, f1, -⟩ := verdict_at ck37 D0 (b.mass (by omega))
    have F1 : FM scP scJ μ ν1 := ((f0.fm (by omega)).mo (fun k q => by unfold scP; omega) (fun k q => q.elim)).tr (sc55 f1)
    have n1 := ofN1 i
    unfold leastV
    by_cases t : whyV (up c 3 p (i : Int)) = 0
    · refine ⟨ν1, ?_, F1⟩
      rw [if_pos (by simpa using t)]
      simp (decide := true) (implicitDefEqProofs := false) only [l_X11_ballast_29, lf, p0', p1, t, zO, zR, zA, zT, zu1, zu2, zu3, zu4, gI, gL, pI, pL, pZ, aI, aL, sI, sZ, sL, Option.bind_some, Option.map_some, if_true, if_false, ite_true, ite_false, true_and, and_true, false_and, and_false, or_true, true_or, or_false, false_or, and_self, not_true_eq_false, not_false_eq_true, ↓reduceIte, reduceIte, Nat.reduceAdd, Nat.reduceMul, Nat.reduceSub, Nat.reduceMod, Nat.reduceDiv, Nat.reduceEqDiff, Nat.reduceLT, Nat.reduceLeDiff, Int32.reduceAdd, Int32.reduceSub, Int32.reduceMul, Int32.reduceDiv, Int32.reduceMod, Int32.reduceOfNat, Int32.reduceOfInt, Int32.reduceLT, Int32.reduceLE, Int32.reduceToNatClampNeg, Int32.reduceToInt]
      rfl
    · obtain ⟨ν, q, f⟩ := ih (i + 1) (by omega) (by omega) u ν1 (i : Int) (by omega) (D0.f37 f1)
      refine ⟨ν, ?_, F1.tr f⟩
      rw [if_neg (by simpa using t)]
      simp (decide := true) (implicitDefEqProofs := false) only [l_X11_ballast_29, lf, p0', p1, t, n1, zO, zR, zA, zT, zu1, zu2, zu3, zu4, gI, gL, pI, pL, pZ, aI, aL, sI, sZ, sL, Option.bind_some, Option.map_some, if_true, if_false, ite_true, ite_false, true_and, and_true, false_and, and_false, or_true, true_or, or_false, false_or, and_self, not_true_eq_false, not_false_eq_true, ↓reduceIte, reduceIte, Nat.reduceAdd, Nat.reduceMul, Nat.reduceSub, Nat.reduceMod, Nat.reduceDiv, Nat.reduceEqDiff, Nat.reduceLT, Nat.reduceLeDiff, Int32.reduceAdd, Int32.reduceSub, Int32.reduceMul, Int32.reduceDiv, Int32.reduceMod, Int32.reduceOfNat, Int32.reduceOfInt, Int32.reduceLT, Int32.reduceLE, Int32.reduceToNatClampNeg, Int32.reduceToInt]
      exact q
theorem tm83 {μ : Mem} {i : Nat} {v : Int32} : FM tmP uJ μ (upI μ 83 i v) := FM.uI (Or.inl ⟨by decide, Or.inr (Or.inl rfl)⟩)
theorem balM {c : Nat → Nat → Int} (b : BC c) {p : Nat} (hp : p < nP c) : ∀ n i, i + n = 1000 → 1 ≤ i → ∀ u μ (m0 : Int), MM (up c 3 p m0) μ → ∃ ν, lpN (l_X12_ballast_23 SX 81 (Int32.ofNat p) (Int32.ofInt (c 3 p))) (u + n + 2) (-5, Int32.ofNat i, μ) = some (Int32.ofInt (leastV (fun v => decide (whyV (up c 3 p (v : Int)) = 0)) n i), ν) ∧ FM tmP uJ μ ν ∧ MM c ν := by
  have hp8 : p < 8 := by have := b.2.2.1; unfold nP at hp; omega
  have i1 := zin p 8 hp8 (by decide)
  have i2 := ztn p (by omega)
  have res : ∀ μ (l : Int), MM (up c 3 p l) μ → MM c (upI μ 83 p (Int32.ofInt (c 3 p))) := fun μ l h => by
    have := h.mass (p := p) (z := c 3 p) (v := Int32.ofInt (c 3 p)) rfl
    rw [up_id] at this
    exact this
  intro n
  induction n with
  | zero =>
    intro i hi h1 u μ m0 h
    have e : i = 1000 := by omega
    subst e
    refine ⟨_, ?_, tm83, res _ _ h⟩
    rw [show u + 0 + 2 = u + 1 + 1 from rfl, zlp]
    simp (decide := true) (implicitDefEqProofs := false) only [l_X12_ballast_23, i1, i2, leastV, zO, zR, zA, zT, zu1, zu2, zu3, zu4, gI, gL, pI, pL, pZ, aI, aL, sI, sZ, sL, Option.bind_some, Option.map_some, if_true, if_false, ite_true, ite_false, true_and, and_true, false_and, and_false, or_true, true_or, or_false, false_or, and_self, not_true_eq_false, not_false_eq_true, ↓reduceIte, reduceIte, Nat.reduceAdd, Nat.reduceMul, Nat.reduceSub, Nat.reduceMod, Nat.reduceDiv, Nat.reduceEqDiff, Nat.reduceLT, Nat.reduceLeDiff, Int32.reduceAdd, Int32.reduceSub, Int32.reduceMul, Int32.reduceDiv, Int32.reduceMod, Int32.reduceOfNat, Int32.reduceOfInt, Int32.reduceLT, Int32.reduceLE, Int32.reduceToNatClampNeg, Int32.reduceToInt]
  | succ n ih =>
    intro i hi h1 u μ m0 h
    rw [show u + (n + 1) + 2 = (u + n + 2) + 1 from by omega, zlp]
    have lf : ((1000 : Int32) ≤ Int32.ofNat i) = False := leF (n := 1000) (by omega) (by decide)
    have D : MM (up c 3 p (i : Int)) (upI μ 83 p (Int32.ofNat i)) := by
      have := h.mass (p := p) (z := (i : Int)) (v := Int32.ofNat i) rfl
      rw [up_up] at this
      exact this
    obtain ⟨ν1, p1, f1⟩ := may_at D (b.mass (by omega))
    have F1 : FM tmP uJ μ ν1 := tm83.tr (tmU f1)
    have n1 := ofN1 i
    unfold leastV
    by_cases t : whyV (up c 3 p (i : Int)) = 0
    · rw [if_pos t] at p1
      rw [if_pos (by simpa using t)]
      refine ⟨_, ?_, F1.tr tm83, res _ _ (D.u f1)⟩
      simp (decide := true) (implicitDefEqProofs := false) only [l_X12_ballast_23, lf, i1, i2, p1, n1, zO, zR, zA, zT, zu1, zu2, zu3, zu4, gI, gL, pI, pL, pZ, aI, aL, sI, sZ, sL, Option.bind_some, Option.map_some, if_true, if_false, ite_true, ite_false, true_and, and_true, false_and, and_false, or_true, true_or, or_false, false_or, and_self, not_true_eq_false, not_false_eq_true, ↓reduceIte, reduceIte, Nat.reduceAdd, Nat.reduceMul, Nat.reduceSub, Nat.reduceMod, Nat.reduceDiv, Nat.reduceEqDiff, Nat.reduceLT, Nat.reduceLeDiff, Int32.reduceAdd, Int32.reduceSub, Int32.reduceMul, Int32.reduceDiv, Int32.reduceMod, Int32.reduceOfNat, Int32.reduceOfInt, Int32.reduceLT, Int32.reduceLE, Int32.reduceToNatClampNeg, Int32.reduceToInt]
      rw [show u + n + 2 = (u + n + 1) + 1 from rfl, zlp]
      have c5 : (Int32.ofNat i = -5) = False := by
        rw [show (-5 : Int32) = Int32.ofInt (-5) by decide]
        exact eq_false (fun g => by
          have := (yeq (i : Nat) (-5) (by omega) (by omega) (by omega) (by omega)).mp g
          omega)
      by_cases q : (1000 : Int32) ≤ Int32.ofNat (i + 1)
      · simp (decide := true) (implicitDefEqProofs := false) only [l_X12_ballast_23, q, i1, i2, zO, zR, zA, zT, zu1, zu2, zu3, zu4, gI, gL, pI, pL, pZ, aI, aL, sI, sZ, sL, Option.bind_some, Option.map_some, if_true, if_false, ite_true, ite_false, true_and, and_true, false_and, and_false, or_true, true_or, or_false, false_or, and_self, not_true_eq_false, not_false_eq_true, ↓reduceIte, reduceIte, Nat.reduceAdd, Nat.reduceMul, Nat.reduceSub, Nat.reduceMod, Nat.reduceDiv, Nat.reduceEqDiff, Nat.reduceLT, Nat.reduceLeDiff, Int32.reduceAdd, Int32.reduceSub, Int32.reduceMul, Int32.reduceDiv, Int32.reduceMod, Int32.reduceOfNat, Int32.reduceOfInt, Int32.reduceLT, Int32.reduceLE, Int32.reduceToNatClampNeg, Int32.reduceToInt]
        rfl
      · simp (decide := true) (implicitDefEqProofs := false) only [l_X12_ballast_23, q, c5, i1, i2, zO, zR, zA, zT, zu1, zu2, zu3, zu4, gI, gL, pI, pL, pZ, aI, aL, sI, sZ, sL, Option.bind_some, Option.map_some, if_true, if_false, ite_true, ite_false, true_and, and_true, false_and, and_false, or_true, true_or, or_false, false_or, and_self, not_true_eq_false, not_false_eq_true, ↓reduceIte, reduceIte, Nat.reduceAdd, Nat.reduceMul, Nat.reduceSub, Nat.reduceMod, Nat.reduceDiv, Nat.reduceEqDiff, Nat.reduceLT, Nat.reduceLeDiff, Int32.reduceAdd, Int32.reduceSub, Int32.reduceMul, Int32.reduceDiv, Int32.reduceMod, Int32.reduceOfNat, Int32.reduceOfInt, Int32.reduceLT, Int32.reduceLE, Int32.reduceToNatClampNeg, Int32.reduceToInt]
        rfl
    · rw [if_neg t] at p1
      rw [if_neg (by simpa using t)]
      obtain ⟨ν, q, f, m⟩ := ih (i + 1) (by omega) (by omega) u ν1 (i : Int) (D.u f1)
      refine ⟨ν, ?_, F1.tr f, m⟩
      simp (decide := true) (implicitDefEqProofs := false) only [l_X12_ballast_23, lf, i1, i2, p1, n1, zO, zR, zA, zT, zu1, zu2, zu3, zu4, gI, gL, pI, pL, pZ, aI, aL, sI, sZ, sL, Option.bind_some, Option.map_some, if_true, if_false, ite_true, ite_false, true_and, and_true, false_and, and_false, or_true, true_or, or_false, false_or, and_self, not_true_eq_false, not_false_eq_true, ↓reduceIte, reduceIte, Nat.reduceAdd, Nat.reduceMul, Nat.reduceSub, Nat.reduceMod, Nat.reduceDiv, Nat.reduceEqDiff, Nat.reduceLT, Nat.reduceLeDiff, Int32.reduceAdd, Int32.reduceSub, Int32.reduceMul, Int32.reduceDiv, Int32.reduceMod, Int32.reduceOfNat, Int32.reduceOfInt, Int32.reduceLT, Int32.reduceLE, Int32.reduceToNatClampNeg, Int32.reduceToInt]
      exact q
theorem ok_ballast {μ : Mem} (h : INV μ) (a1 : Int32) : OKop (f_X11_ballast SX 0 a1) (f_X12_ballast SX 81 a1) μ := by
  obtain ⟨c, b, h1, h2⟩ := h.1
  rcases has_at ck1 h1 h2 b a1 with ⟨t1, t2⟩ | ⟨p, hp, rfl, t1, t2⟩
  · simp only [Nat.reduceAdd, Nat.reduceMul, Nat.reduceMod, Int32.reduceOfNat] at t1
    refine ⟨-1, μ, μ, ?_, ?_, h⟩
    · simp (decide := true) (implicitDefEqProofs := false) only [f_X11_ballast, t1, zO, zR, zA, zT, zu1, zu2, zu3, zu4, gI, gL, pI, pL, pZ, aI, aL, sI, sZ, sL, Option.bind_some, Option.map_some, if_true, if_false, ite_true, ite_false, true_and, and_true, false_and, and_false, or_true, true_or, or_false, false_or, and_self, not_true_eq_false, not_false_eq_true, ↓reduceIte, reduceIte, Nat.reduceAdd, Nat.reduceMul, Nat.reduceSub, Nat.reduceMod, Nat.reduceDiv, Nat.reduceEqDiff, Nat.reduceLT, Nat.reduceLeDiff, Int32.reduceAdd, Int32.reduceSub, Int32.reduceMul, Int32.reduceDiv, Int32.reduceMod, Int32.reduceOfNat, Int32.reduceOfInt, Int32.reduceLT, Int32.reduceLE, Int32.reduceToNatClampNeg, Int32.reduceToInt]
    · simp (decide := true) (implicitDefEqProofs := false) only [f_X12_ballast, t2, zO, zR, zA, zT, zu1, zu2, zu3, zu4, gI, gL, pI, pL, pZ, aI, aL, sI, sZ, sL, Option.bind_some, Option.map_some, if_true, if_false, ite_true, ite_false, true_and, and_true, false_and, and_false, or_true, true_or, or_false, false_or, and_self, not_true_eq_false, not_false_eq_true, ↓reduceIte, reduceIte, Nat.reduceAdd, Nat.reduceMul, Nat.reduceSub, Nat.reduceMod, Nat.reduceDiv, Nat.reduceEqDiff, Nat.reduceLT, Nat.reduceLeDiff, Int32.reduceAdd, Int32.reduceSub, Int32.reduceMul, Int32.reduceDiv, Int32.reduceMod, Int32.reduceOfNat, Int32.reduceOfInt, Int32.reduceLT, Int32.reduceLE, Int32.reduceToNatClampNeg, Int32.reduceToInt]
  · simp only [Nat.reduceAdd, Nat.reduceMul, Nat.reduceMod, Int32.reduceOfNat] at t1
    have hp8 : p < 8 := by have := b.2.2.1; unfold nP at hp; omega
    have bm := b.2.2.2.1 p hp8
    obtain ⟨μ1, p1, f1, d1⟩ := draft_at h1 b
    obtain ⟨μ2, p2, f2⟩ := balX b hp 999 1 (by omega) (by omega) 4000 μ1 (c 3 p) bm.1 (by rw [up_self]; exact d1)
    have F12 := f1.tr f2
    have M2 := h2.sc F12
    have t2' : f_X12_isPartOf SX 81 (Int32.ofNat p) μ2 = some (1, μ2) := by
      rcases has_at ck1 h1 M2 b (Int32.ofNat p) with ⟨g, -⟩ | ⟨_, _, _, _, g⟩
      · simp only [Nat.reduceAdd, Nat.reduceMul, Nat.reduceMod, Int32.reduceOfNat] at g
        rw [t1] at g; cases g
      · exact g
    obtain ⟨μ3, p3, f3, m3⟩ := balM b hp 999 1 (by omega) (by omega) 3999 μ2 (c 3 p) (by rw [up_self]; exact M2)
    have C2 := h1.sc F12
    have x2 := M2.2.1.2.1 p hp8
    refine ⟨Int32.ofInt (leastV (fun v => decide (whyV (up c 3 p (v : Int)) = 0)) 999 1), μ2, μ3, ?_, ?_, h.cr ((scCr F12).tr (tmCr f3)) ⟨c, b, C2.f f3 (fun q g1 g2 => ⟨by omega, by unfold tmP uP; omega⟩), m3⟩⟩
    · simp (decide := true) (implicitDefEqProofs := false) only [f_X11_ballast, t1, p1, zO, zR, zA, zT, zu1, zu2, zu3, zu4, gI, gL, pI, pL, pZ, aI, aL, sI, sZ, sL, Option.bind_some, Option.map_some, if_true, if_false, ite_true, ite_false, true_and, and_true, false_and, and_false, or_true, true_or, or_false, false_or, and_self, not_true_eq_false, not_false_eq_true, ↓reduceIte, reduceIte, Nat.reduceAdd, Nat.reduceMul, Nat.reduceSub, Nat.reduceMod, Nat.reduceDiv, Nat.reduceEqDiff, Nat.reduceLT, Nat.reduceLeDiff, Int32.reduceAdd, Int32.reduceSub, Int32.reduceMul, Int32.reduceDiv, Int32.reduceMod, Int32.reduceOfNat, Int32.reduceOfInt, Int32.reduceLT, Int32.reduceLE, Int32.reduceToNatClampNeg, Int32.reduceToInt]
      exact p2
    · simp (decide := true) (implicitDefEqProofs := false) only [f_X12_ballast, t2', zin p 8 hp8 (by decide), ztn p (by omega), x2, zO, zR, zA, zT, zu1, zu2, zu3, zu4, gI, gL, pI, pL, pZ, aI, aL, sI, sZ, sL, Option.bind_some, Option.map_some, if_true, if_false, ite_true, ite_false, true_and, and_true, false_and, and_false, or_true, true_or, or_false, false_or, and_self, not_true_eq_false, not_false_eq_true, ↓reduceIte, reduceIte, Nat.reduceAdd, Nat.reduceMul, Nat.reduceSub, Nat.reduceMod, Nat.reduceDiv, Nat.reduceEqDiff, Nat.reduceLT, Nat.reduceLeDiff, Int32.reduceAdd, Int32.reduceSub, Int32.reduceMul, Int32.reduceDiv, Int32.reduceMod, Int32.reduceOfNat, Int32.reduceOfInt, Int32.reduceLT, Int32.reduceLE, Int32.reduceToNatClampNeg, Int32.reduceToInt]
      exact p3

