def atc (c : Nat → Nat → Int) (d r : Nat) : Nat → Nat → Int := up (up c 8 0 (d : Int)) 8 1 (r : Int)
theorem atc_id (c : Nat → Nat → Int) (d r : Int) : up (up (up (up c 8 0 d) 8 1 r) 8 0 (c 8 0)) 8 1 (c 8 1) = c := by
  funext g j
  unfold up
  by_cases e1 : g = 8 ∧ j = 1
  · rw [if_pos e1, e1.1, e1.2]
  · rw [if_neg e1]
    by_cases e0 : g = 8 ∧ j = 0
    · rw [if_pos e0, e0.1, e0.2]
    · rw [if_neg e0, if_neg e1, if_neg e0]
theorem BC.atc {c : Nat → Nat → Int} (b : BC c) {d r : Nat} (hd : d < 20) (hr : r < 61) : BC (atc c d r) :=
  (b.dial (i := 0) ⟨by decide, by decide, by decide, by show (0 : Int) ≤ _; omega, by show _ ≤ (19 : Int); omega⟩).dial (i := 1) ⟨by decide, by decide, by decide, by show (0 : Int) ≤ _; omega, by show _ ≤ (60 : Int); omega⟩
theorem mayAt_at {c : Nat → Nat → Int} {μ : Mem} (h : MM c μ) (b : BC c) {d r : Nat} (hd : d < 20) (hr : r < 61) : ∃ ν, f_X12_mayAt SX 81 (Int32.ofNat d) (Int32.ofNat r) μ = some (if whyV (atc c d r) = 0 then 1 else 0, ν) ∧ FM tmP uJ μ ν ∧ MM c ν := by
  have D : MM (atc c d r) (upI (upI μ 90 0 (Int32.ofNat d)) 90 1 (Int32.ofNat r)) := (h.dial (i := 0) (z := (d : Int)) rfl).dial (i := 1) (z := (r : Int)) rfl
  obtain ⟨ν1, p1, f1⟩ := may_at D (b.atc hd hr)
  have D1 := D.u f1
  have D2 : MM c (upI (upI ν1 90 0 (Int32.ofInt (c 8 0))) 90 1 (Int32.ofInt (c 8 1))) := by
    have := (D1.dial (i := 0) (z := c 8 0) (v := Int32.ofInt (c 8 0)) rfl).dial (i := 1) (z := c 8 1) (v := Int32.ofInt (c 8 1)) rfl
    unfold atc at this
    rw [atc_id] at this
    exact this
  have g0 := h.2.2.2 0 (by decide)
  have g1 := h.2.2.2 1 (by decide)
  refine ⟨_, ?_, ((tm90.tr tm90).tr (tmU f1)).tr (tm90.tr tm90), D2⟩
  have ozi : ∀ P : Prop, [Decidable P] → oz (if P then (1 : Int32) else 0) = some (if P then 1 else 0) := by
    intro P _
    unfold oz
    rw [if_pos]
    by_cases e : P
    · right; rw [if_pos e]
    · left; rw [if_neg e]
  simp (decide := true) (implicitDefEqProofs := false) only [f_X12_mayAt, g0, g1, p1, ozi, zO, zR, zA, zT, zu1, zu2, zu3, zu4, gI, gL, pI, pL, pZ, aI, aL, sI, sZ, sL, Option.bind_some, Option.map_some, if_true, if_false, ite_true, ite_false, true_and, and_true, false_and, and_false, or_true, true_or, or_false, false_or, and_self, not_true_eq_false, not_false_eq_true, ↓reduceIte, reduceIte, Nat.reduceAdd, Nat.reduceMul, Nat.reduceSub, Nat.reduceMod, Nat.reduceDiv, Nat.reduceEqDiff, Nat.reduceLT, Nat.reduceLeDiff, Int32.reduceAdd, Int32.reduceSub, Int32.reduceMul, Int32.reduceDiv, Int32.reduceMod, Int32.reduceOfNat, Int32.reduceOfInt, Int32.reduceLT, Int32.reduceLE, Int32.reduceToNatClampNeg, Int32.reduceToInt]

