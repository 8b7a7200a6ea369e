theorem pk37 : PK 37 1 := Or.inl ⟨rfl, rfl⟩
/-- the draft becomes what is -/
theorem draft_at {c : Nat → Nat → Int} {μ : Mem} (h : CC 1 c μ) (b : BC c) : ∃ ν, f_X2_become SX 37 1 μ = some ((), ν) ∧ FM scP scJ μ ν ∧ CC 37 c ν := by
  obtain ⟨ν, p, f, c1⟩ := become_at pk37 h b
  exact ⟨ν, p, (f.fm (by omega)).mo (fun k q => by unfold scP; omega) (fun k q => q.elim), c1⟩
theorem CC.f37 {c : Nat → Nat → Int} {μ ν : Mem} (h : CC 37 c μ) (f : Fr (fun q => q = 55 ∨ q = 56) μ ν) : CC 37 c ν := h.w _ f (fun q g1 g2 => by omega)
theorem sc54 {μ : Mem} {i : Nat} {v : Int32} : FM scP scJ μ (upI μ 54 i v) := FM.uI (Or.inl ⟨by decide, by unfold scP; omega⟩)
theorem up_up (c : Nat → Nat → Int) (f i : Nat) (v w : Int) : up (up c f i v) f i w = up c f i w := by
  funext g j
  unfold up
  by_cases e : g = f ∧ j = i <;> simp [e]
/-- the greatest v below n with which it may, -5: none -/
def mostV (P : Nat → Bool) : Nat → Int
  | 0 => -5
  | n + 1 => if P n = true then (n : Int) else mostV P n
theorem mostX {c : Nat → Nat → Int} (b : BC c) : ∀ n, n ≤ 1000 → ∀ u μ (l : Int), (0 ≤ l ∧ l ≤ 9999) → CC 37 (up c 8 3 l) μ → ∃ ν, lpN (l_X11_most_15 SX 0) (u + n + 1) (Int32.ofInt ((n : Int) - 1), μ) = some (Int32.ofInt (mostV (fun v => decide (whyV (up c 8 3 (v : Int)) = 0)) n), ν) ∧ FM scP scJ μ ν := by
  intro n
  induction n with
  | zero =>
    intro _ u μ l hl h
    refine ⟨μ, ?_, FM.rf⟩
    rw [zlp]
    have e : ((0 : Nat) : Int) - 1 = -1 := by omega
    have c1 : (Int32.ofInt (-1) < 0) = True := eq_true (by decide)
    rw [e]
    simp (decide := true) (implicitDefEqProofs := false) only [l_X11_most_15, c1, zO, zR, zA, zT, zu1, zu2, zu3, zu4, gI, gL, pI, pL, pZ, aI, aL, sI, sZ, sL, Option.bind_some, Option.map_some, if_true, if_false, ite_true, ite_false, true_and, and_true, false_and, and_false, or_true, true_or, or_false, false_or, and_self, not_true_eq_false, not_false_eq_true, ↓reduceIte, reduceIte, Nat.reduceAdd, Nat.reduceMul, Nat.reduceSub, Nat.reduceMod, Nat.reduceDiv, Nat.reduceEqDiff, Nat.reduceLT, Nat.reduceLeDiff, Int32.reduceAdd, Int32.reduceSub, Int32.reduceMul, Int32.reduceDiv, Int32.reduceMod, Int32.reduceOfNat, Int32.reduceOfInt, Int32.reduceLT, Int32.reduceLE, Int32.reduceToNatClampNeg, Int32.reduceToInt]
    rfl
  | succ n ih =>
    intro hn u μ l hl h
    have e : ((n + 1 : Nat) : Int) - 1 = (n : Int) := by omega
    rw [e, zlp]
    have c1 : (Int32.ofInt (n : Int) < 0) = False := eq_false (fun g => by
      have := (ylt32 (n : Int) 0 (by omega) (by omega) (by omega) (by omega)).mp g
      omega)
    have D : CC 37 (up c 8 3 (n : Int)) (upI μ 54 3 (Int32.ofInt (n : Int))) := by
      have := h.dial (i := 3) (z := (n : Int)) (v := Int32.ofInt (n : Int)) rfl
      rw [up_up] at this
      exact this
    have B : BC (up c 8 3 (n : Int)) := b.dial ⟨by decide, by decide, by decide, by show (0 : Int) ≤ _; omega, by show _ ≤ (9999 : Int); omega⟩
    obtain ⟨ν1, p1, f1, -⟩ := verdict_at ck37 D B
    have F1 : FM scP scJ μ ν1 := sc54.tr (sc55 f1)
    have n1 : Int32.ofInt (n : Int) + (-1) = Int32.ofInt ((n : Int) - 1) := by rw [ym1, y32a]; rfl
    unfold mostV
    by_cases t : whyV (up c 8 3 (n : Int)) = 0
    · refine ⟨ν1, ?_, F1⟩
      rw [if_pos (by simpa using t)]
      simp (decide := true) (implicitDefEqProofs := false) only [l_X11_most_15, c1, p1, t, zO, zR, zA, zT, zu1, zu2, zu3, zu4, gI, gL, pI, pL, pZ, aI, aL, sI, sZ, sL, Option.bind_some, Option.map_some, if_true, if_false, ite_true, ite_false, true_and, and_true, false_and, and_false, or_true, true_or, or_false, false_or, and_self, not_true_eq_false, not_false_eq_true, ↓reduceIte, reduceIte, Nat.reduceAdd, Nat.reduceMul, Nat.reduceSub, Nat.reduceMod, Nat.reduceDiv, Nat.reduceEqDiff, Nat.reduceLT, Nat.reduceLeDiff, Int32.reduceAdd, Int32.reduceSub, Int32.reduceMul, Int32.reduceDiv, Int32.reduceMod, Int32.reduceOfNat, Int32.reduceOfInt, Int32.reduceLT, Int32.reduceLE, Int32.reduceToNatClampNeg, Int32.reduceToInt]
    · obtain ⟨ν, p, f⟩ := ih (by omega) u ν1 (n : Int) (by omega) (D.f37 f1)
      refine ⟨ν, ?_, F1.tr f⟩
      rw [if_neg (by simpa using t)]
      simp (decide := true) (implicitDefEqProofs := false) only [l_X11_most_15, c1, p1, t, n1, zO, zR, zA, zT, zu1, zu2, zu3, zu4, gI, gL, pI, pL, pZ, aI, aL, sI, sZ, sL, Option.bind_some, Option.map_some, if_true, if_false, ite_true, ite_false, true_and, and_true, false_and, and_false, or_true, true_or, or_false, false_or, and_self, not_true_eq_false, not_false_eq_true, ↓reduceIte, reduceIte, Nat.reduceAdd, Nat.reduceMul, Nat.reduceSub, Nat.reduceMod, Nat.reduceDiv, Nat.reduceEqDiff, Nat.reduceLT, Nat.reduceLeDiff, Int32.reduceAdd, Int32.reduceSub, Int32.reduceMul, Int32.reduceDiv, Int32.reduceMod, Int32.reduceOfNat, Int32.reduceOfInt, Int32.reduceLT, Int32.reduceLE, Int32.reduceToNatClampNeg, Int32.reduceToInt]
      exact p
theorem up_id (c : Nat → Nat → Int) (f i : Nat) (v : Int) : up (up c f i v) f i (c f i) = c := by
  rw [up_up]
  funext g j
  unfold up
  by_cases e : g = f ∧ j = i
  · rw [if_pos e, e.1, e.2]
  · rw [if_neg e]
def tmP (q : Nat) : Prop := q = 90 ∨ q = 83 ∨ uP q
theorem tmU {μ ν : Mem} (f : FM uP uJ μ ν) : FM tmP uJ μ ν := f.mo (fun k q => Or.inr (Or.inr q)) (fun k q => q)
theorem tm90 {μ : Mem} {i : Nat} {v : Int32} : FM tmP uJ μ (upI μ 90 i v) := FM.uI (Or.inl ⟨by decide, Or.inl rfl⟩)
theorem tmCr {μ ν : Mem} (f : FM tmP uJ μ ν) : FM crP crJ μ ν := f.mo (fun k q => by unfold tmP uP at q; unfold crP scP; omega) (fun k q => by unfold uJ at q; unfold crJ scJ; omega)
theorem scCr {μ ν : Mem} (f : FM scP scJ μ ν) : FM crP crJ μ ν := f.mo (fun k q => Or.inr (Or.inr q)) (fun k q => Or.inr q)
theorem MM.u {c : Nat → Nat → Int} {μ ν : Mem} (h : MM c μ) (f : FM uP uJ μ ν) : MM c ν := h.sc (scu f)
theorem mostM {c : Nat → Nat → Int} (b : BC c) : ∀ n, n ≤ 1000 → ∀ u μ (l : Int), MM (up c 8 3 l) μ → ∃ ν, lpN (l_X12_most__14 SX 81 (Int32.ofInt (c 8 3))) (u + n + 2) (-5, Int32.ofInt ((n : Int) - 1), μ) = some (Int32.ofInt (mostV (fun v => decide (whyV (up c 8 3 (v : Int)) = 0)) n), ν) ∧ FM tmP uJ μ ν ∧ MM c ν := by
  have res : ∀ μ (l : Int), MM (up c 8 3 l) μ → MM c (upI μ 90 3 (Int32.ofInt (c 8 3))) := fun μ l h => by
    have := h.dial (i := 3) (z := c 8 3) (v := Int32.ofInt (c 8 3)) rfl
    rw [up_id] at this
    exact this
  intro n
  induction n with
  | zero =>
    intro _ u μ l h
    refine ⟨_, ?_, tm90, res _ _ h⟩
    rw [show u + 0 + 2 = u + 1 + 1 from rfl, zlp]
    have e : ((0 : Nat) : Int) - 1 = -1 := by omega
    have c1 : (Int32.ofInt (-1) < 0) = True := eq_true (by decide)
    rw [e]
    simp (decide := true) (implicitDefEqProofs := false) only [l_X12_most__14, c1, zO, zR, zA, zT, zu1, zu2, zu3, zu4, gI, gL, pI, pL, pZ, aI, aL, sI, sZ, sL, Option.bind_some, Option.map_some, if_true, if_false, ite_true, ite_false, true_and, and_true, false_and, and_false, or_true, true_or, or_false, false_or, and_self, not_true_eq_false, not_false_eq_true, ↓reduceIte, reduceIte, Nat.reduceAdd, Nat.reduceMul, Nat.reduceSub, Nat.reduceMod, Nat.reduceDiv, Nat.reduceEqDiff, Nat.reduceLT, Nat.reduceLeDiff, Int32.reduceAdd, Int32.reduceSub, Int32.reduceMul, Int32.reduceDiv, Int32.reduceMod, Int32.reduceOfNat, Int32.reduceOfInt, Int32.reduceLT, Int32.reduceLE, Int32.reduceToNatClampNeg, Int32.reduceToInt]
    rfl
  | succ n ih =>
    intro hn u μ l h
    have e : ((n + 1 : Nat) : Int) - 1 = (n : Int) := by omega
    rw [e, show u + (n + 1) + 2 = (u + n + 2) + 1 from by omega, zlp]
    have c1 : (Int32.ofInt (n : Int) < 0) = False := eq_false (fun g => by
      have := (ylt32 (n : Int) 0 (by omega) (by omega) (by omega) (by omega)).mp g
      omega)
    have D : MM (up c 8 3 (n : Int)) (upI μ 90 3 (Int32.ofInt (n : Int))) := by
      have := h.dial (i := 3) (z := (n : Int)) (v := Int32.ofInt (n : Int)) rfl
      rw [up_up] at this
      exact this
    have B : BC (up c 8 3 (n : Int)) := b.dial ⟨by decide, by decide, by decide, by show (0 : Int) ≤ _; omega, by show _ ≤ (9999 : Int); omega⟩
    obtain ⟨ν1, p1, f1⟩ := may_at D B
    have n1 : Int32.ofInt (n : Int) + (-1) = Int32.ofInt ((n : Int) - 1) := by rw [ym1, y32a]; rfl
    have F1 : FM tmP uJ μ ν1 := tm90.tr (tmU f1)
    unfold mostV
    by_cases t : whyV (up c 8 3 (n : Int)) = 0
    · rw [if_pos t] at p1
      rw [if_pos (by simpa using t)]
      refine ⟨_, ?_, F1.tr tm90, res _ _ (D.u f1)⟩
      simp (decide := true) (implicitDefEqProofs := false) only [l_X12_most__14, c1, p1, n1, zO, zR, zA, zT, zu1, zu2, zu3, zu4, gI, gL, pI, pL, pZ, aI, aL, sI, sZ, sL, Option.bind_some, Option.map_some, if_true, if_false, ite_true, ite_false, true_and, and_true, false_and, and_false, or_true, true_or, or_false, false_or, and_self, not_true_eq_false, not_false_eq_true, ↓reduceIte, reduceIte, Nat.reduceAdd, Nat.reduceMul, Nat.reduceSub, Nat.reduceMod, Nat.reduceDiv, Nat.reduceEqDiff, Nat.reduceLT, Nat.reduceLeDiff, Int32.reduceAdd, Int32.reduceSub, Int32.reduceMul, Int32.reduceDiv, Int32.reduceMod, Int32.reduceOfNat, Int32.reduceOfInt, Int32.reduceLT, Int32.reduceLE, Int32.reduceToNatClampNeg, Int32.reduceToInt]
      rw [show u + n + 2 = (u + n + 1) + 1 from rfl, zlp]
      have c5 : (Int32.ofInt (n : Int) = -5) = False := by
        rw [show (-5 : Int32) = Int32.ofInt (-5) by decide]
        exact eq_false (fun g => by
          have := (yeq (n : Int) (-5) (by omega) (by omega) (by omega) (by omega)).mp g
          omega)
      by_cases q : Int32.ofInt ((n : Int) - 1) < 0
      · simp (decide := true) (implicitDefEqProofs := false) only [l_X12_most__14, q, zO, zR, zA, zT, zu1, zu2, zu3, zu4, gI, gL, pI, pL, pZ, aI, aL, sI, sZ, sL, Option.bind_some, Option.map_some, if_true, if_false, ite_true, ite_false, true_and, and_true, false_and, and_false, or_true, true_or, or_false, false_or, and_self, not_true_eq_false, not_false_eq_true, ↓reduceIte, reduceIte, Nat.reduceAdd, Nat.reduceMul, Nat.reduceSub, Nat.reduceMod, Nat.reduceDiv, Nat.reduceEqDiff, Nat.reduceLT, Nat.reduceLeDiff, Int32.reduceAdd, Int32.reduceSub, Int32.reduceMul, Int32.reduceDiv, Int32.reduceMod, Int32.reduceOfNat, Int32.reduceOfInt, Int32.reduceLT, Int32.reduceLE, Int32.reduceToNatClampNeg, Int32.reduceToInt]
      · simp (decide := true) (implicitDefEqProofs := false) only [l_X12_most__14, q, c5, zO, zR, zA, zT, zu1, zu2, zu3, zu4, gI, gL, pI, pL, pZ, aI, aL, sI, sZ, sL, Option.bind_some, Option.map_some, if_true, if_false, ite_true, ite_false, true_and, and_true, false_and, and_false, or_true, true_or, or_false, false_or, and_self, not_true_eq_false, not_false_eq_true, ↓reduceIte, reduceIte, Nat.reduceAdd, Nat.reduceMul, Nat.reduceSub, Nat.reduceMod, Nat.reduceDiv, Nat.reduceEqDiff, Nat.reduceLT, Nat.reduceLeDiff, Int32.reduceAdd, Int32.reduceSub, Int32.reduceMul, Int32.reduceDiv, Int32.reduceMod, Int32.reduceOfNat, Int32.reduceOfInt, Int32.reduceLT, Int32.reduceLE, Int32.reduceToNatClampNeg, Int32.reduceToInt]
    · rw [if_neg t] at p1
      rw [if_neg (by simpa using t)]
      obtain ⟨ν, p, f, m⟩ := ih (by omega) u ν1 (n : Int) (D.u f1)
      refine ⟨ν, ?_, F1.tr f, m⟩
      simp (decide := true) (implicitDefEqProofs := false) only [l_X12_most__14, c1, p1, n1, zO, zR, zA, zT, zu1, zu2, zu3, zu4, gI, gL, pI, pL, pZ, aI, aL, sI, sZ, sL, Option.bind_some, Option.map_some, if_true, if_false, ite_true, ite_false, true_and, and_true, false_and, and_false, or_true, true_or, or_false, false_or, and_self, not_true_eq_false, not_false_eq_true, ↓reduceIte, reduceIte, Nat.reduceAdd, Nat.reduceMul, Nat.reduceSub, Nat.reduceMod, Nat.reduceDiv, Nat.reduceEqDiff, Nat.reduceLT, Nat.reduceLeDiff, Int32.reduceAdd, Int32.reduceSub, Int32.reduceMul, Int32.reduceDiv, Int32.reduceMod, Int32.reduceOfNat, Int32.reduceOfInt, Int32.reduceLT, Int32.reduceLE, Int32.reduceToNatClampNeg, Int32.reduceToInt]
      exact p
theorem ok_most {μ : Mem} (h : INV μ) : OKop (f_X11_most SX 0) (f_X12_most_ SX 81) μ := by
  obtain ⟨c, b, h1, h2⟩ := h.1
  have bd := b.2.2.2.2.2
  have id3 : up c 8 3 (c 8 3) = c := by
    have := up_id c 8 3 (c 8 3)
    rw [up_up] at this
    exact this
  obtain ⟨μ1, p1, f1, d1⟩ := draft_at h1 b
  obtain ⟨μ2, p2, f2⟩ := mostX b 1000 (Nat.le_refl _) 3999 μ1 (c 8 3) (by omega) (by rw [id3]; exact d1)
  have F12 := f1.tr f2
  have M2 := h2.sc F12
  obtain ⟨μ3, p3, f3, m3⟩ := mostM b 1000 (Nat.le_refl _) 3998 μ2 (c 8 3) (by rw [id3]; exact M2)
  have C2 := h1.sc F12
  have g3 := h2.sc F12
  have l3 := M2.2.2.2 3 (by decide)
  refine ⟨Int32.ofInt (mostV (fun v => decide (whyV (up c 8 3 (v : Int)) = 0)) 1000), μ2, μ3, ?_, ?_, h.cr ((scCr F12).tr (tmCr f3)) ⟨c, b, C2.f f3 (fun q g1 g2 => ⟨by omega, by unfold tmP uP; omega⟩), m3⟩⟩
  · simp (decide := true) (implicitDefEqProofs := false) only [f_X11_most, p1, zO, zR, zA, zT, zu1, zu2, zu3, zu4, gI, gL, pI, pL, pZ, aI, aL, sI, sZ, sL, Option.bind_some, Option.map_some, if_true, if_false, ite_true, ite_false, true_and, and_true, false_and, and_false, or_true, true_or, or_false, false_or, and_self, not_true_eq_false, not_false_eq_true, ↓reduceIte, reduceIte, Nat.reduceAdd, Nat.reduceMul, Nat.reduceSub, Nat.reduceMod, Nat.reduceDiv, Nat.reduceEqDiff, Nat.reduceLT, Nat.reduceLeDiff, Int32.reduceAdd, Int32.reduceSub, Int32.reduceMul, Int32.reduceDiv, Int32.reduceMod, Int32.reduceOfNat, Int32.reduceOfInt, Int32.reduceLT, Int32.reduceLE, Int32.reduceToNatClampNeg, Int32.reduceToInt]
    exact p2
  · simp (decide := true) (implicitDefEqProofs := false) only [f_X12_most_, l3, zO, zR, zA, zT, zu1, zu2, zu3, zu4, gI, gL, pI, pL, pZ, aI, aL, sI, sZ, sL, Option.bind_some, Option.map_some, if_true, if_false, ite_true, ite_false, true_and, and_true, false_and, and_false, or_true, true_or, or_false, false_or, and_self, not_true_eq_false, not_false_eq_true, ↓reduceIte, reduceIte, Nat.reduceAdd, Nat.reduceMul, Nat.reduceSub, Nat.reduceMod, Nat.reduceDiv, Nat.reduceEqDiff, Nat.reduceLT, Nat.reduceLeDiff, Int32.reduceAdd, Int32.reduceSub, Int32.reduceMul, Int32.reduceDiv, Int32.reduceMod, Int32.reduceOfNat, Int32.reduceOfInt, Int32.reduceLT, Int32.reduceLE, Int32.reduceToNatClampNeg, Int32.reduceToInt]
    exact p3

