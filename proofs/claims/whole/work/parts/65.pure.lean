def atc (c : Nat → Nat → Int) (d r : Nat) : Nat → Nat → Int := up (up c 8 0 (d : Int)) 8 1 (r : Int)
theorem atc_id (c : Nat → Nat → Int) (d r : Int) : up (up (up (up c 8 0 d) 8 1 r) 8 0 (c 8 0)) 8 1 (c 8 1) = c := by
  funext g j
  unfold up
  by_cases e1 : g = 8 ∧ j = 1
  · rw [if_pos e1, e1.1, e1.2]
  · rw [if_neg e1]
    by_cases e0 : g = 8 ∧ j = 0
    · rw [if_pos e0, e0.1, e0.2]
    · rw [if_neg e0, if_neg e1, if_neg e0]
theorem BC.atc {c : Nat → Nat → Int} (b : BC c) {d r : Nat} (hd : d < 20) (hr : r < 61) : BC (atc c d r) :=
  (b.dial (i := 0) ⟨by decide, by decide, by decide, by show (0 : Int) ≤ _; omega, by show _ ≤ (19 : Int); omega⟩).dial (i := 1) ⟨by decide, by decide, by decide, by show (0 : Int) ≤ _; omega, by show _ ≤ (60 : Int); omega⟩
theorem mayAt_at {c : Nat → Nat → Int} {μ : Mem} (h : MM c μ) (b : BC c) {d r : Nat} (hd : d < 20) (hr : r < 61) : ∃ ν, f_X12_mayAt SX 81 (Int32.ofNat d) (Int32.ofNat r) μ = some (if whyV (atc c d r) = 0 then 1 else 0, ν) ∧ FM tmP uJ μ ν ∧ MM c ν := by
  have D : MM (atc c d r) (upI (upI μ 90 0 (Int32.ofNat d)) 90 1 (Int32.ofNat r)) := (h.dial (i := 0) (z := (d : Int)) rfl).dial (i := 1) (z := (r : Int)) rfl
  obtain ⟨ν1, p1, f1⟩ := may_at D (b.atc hd hr)
  have D1 := D.u f1
  have D2 : MM c (upI (upI ν1 90 0 (Int32.ofInt (c 8 0))) 90 1 (Int32.ofInt (c 8 1))) := by
    have := (D1.dial (i := 0) (z := c 8 0) (v := Int32.ofInt (c 8 0)) rfl).dial (i := 1) (z := c 8 1) (v := Int32.ofInt (c 8 1)) rfl
    unfold atc at this
    rw [atc_id] at this
    exact this
  have g0 := h.2.2.2 0 (by decide)
  have g1 := h.2.2.2 1 (by decide)
  refine ⟨_, ?_, ((tm90.tr tm90).tr (tmU f1)).tr (tm90.tr tm90), D2⟩
  have ozi : ∀ P : Prop, [Decidable P] → oz (if P then (1 : Int32) else 0) = some (if P then 1 else 0) := by
    intro P _
    unfold oz
    rw [if_pos]
    by_cases e : P
    · right; rw [if_pos e]
    · left; rw [if_neg e]
  simp (decide := true) (implicitDefEqProofs := false) only [f_X12_mayAt, g0, g1, p1, ozi, zO, zR, zA, zT, zu1, zu2, zu3, zu4, gI, gL, pI, pL, pZ, aI, aL, sI, sZ, sL, Option.bind_some, Option.map_some, if_true, if_false, ite_true, ite_false, true_and, and_true, false_and, and_false, or_true, true_or, or_false, false_or, and_self, not_true_eq_false, not_false_eq_true, ↓reduceIte, reduceIte, Nat.reduceAdd, Nat.reduceMul, Nat.reduceSub, Nat.reduceMod, Nat.reduceDiv, Nat.reduceEqDiff, Nat.reduceLT, Nat.reduceLeDiff, Int32.reduceAdd, Int32.reduceSub, Int32.reduceMul, Int32.reduceDiv, Int32.reduceMod, Int32.reduceOfNat, Int32.reduceOfInt, Int32.reduceLT, Int32.reduceLE, Int32.reduceToNatClampNeg, Int32.reduceToInt]
/-- the directions, as bits, from a place on -/
def whB (P : Nat → Bool) : Nat → Int32
  | 0 => 0
  | n + 1 => if P n = true then whB P n ||| (1 <<< (Int32.ofNat n &&& 31)) else whB P n
theorem up_cm (c : Nat → Nat → Int) (d d' r : Int) : up (up (up c 8 1 r) 8 0 d) 8 0 d' = up (up c 8 1 r) 8 0 d' := up_up _ _ _ _ _
theorem up_sw (c : Nat → Nat → Int) (d r : Int) : up (up c 8 1 r) 8 0 d = up (up c 8 0 d) 8 1 r := by
  funext g j
  unfold up
  by_cases e1 : g = 8 ∧ j = 1
  · have : ¬ (g = 8 ∧ j = 0) := by omega
    rw [if_neg this, if_pos e1, if_pos e1]
  · rw [if_neg e1, if_neg e1]
theorem lawful_at {c : Nat → Nat → Int} (b : BC c) {r : Nat} (hr : r < 61) {d0 r0 : Int} {μ : Mem} (h : CC 37 (up (up c 8 1 r0) 8 0 d0) μ) : ∃ ν d1, f_X3_lawfulDirections SX 55 37 (Int32.ofNat r) μ = some (whB (fun d => decide (whyV (atc c d r) = 0)) 20, ν) ∧ FM scP scJ μ ν ∧ CC 37 (up (up c 8 1 (r : Int)) 8 0 d1) ν := by
  have h1 : CC 37 (up (up c 8 1 (r : Int)) 8 0 d0) (upI μ 54 1 (Int32.ofNat r)) := by
    have := h.dial (i := 1) (z := (r : Int)) (v := Int32.ofNat r) rfl
    rw [up_sw c d0 r0, up_up, ← up_sw] at this
    exact this
  have loop : ∀ m i, i + m = 20 → ∀ u μ' d, CC 37 (up (up c 8 1 (r : Int)) 8 0 d) μ' → ∃ ν d1, lpN (l_X3_lawfulDirections_12 SX 55 37) (u + m + 1) (whB (fun d => decide (whyV (atc c d r) = 0)) i, Int32.ofNat i, μ') = some (whB (fun d => decide (whyV (atc c d r) = 0)) 20, ν) ∧ FM scP scJ μ' ν ∧ CC 37 (up (up c 8 1 (r : Int)) 8 0 d1) ν := by
    intro m
    induction m with
    | zero =>
      intro i hi u μ' d hd
      have e : i = 20 := by omega
      subst e
      refine ⟨μ', d, ?_, FM.rf, hd⟩
      rw [zlp]
      simp (decide := true) (implicitDefEqProofs := false) only [l_X3_lawfulDirections_12, zO, zR, zA, zT, zu1, zu2, zu3, zu4, gI, gL, pI, pL, pZ, aI, aL, sI, sZ, sL, Option.bind_some, Option.map_some, if_true, if_false, ite_true, ite_false, true_and, and_true, false_and, and_false, or_true, true_or, or_false, false_or, and_self, not_true_eq_false, not_false_eq_true, ↓reduceIte, reduceIte, Nat.reduceAdd, Nat.reduceMul, Nat.reduceSub, Nat.reduceMod, Nat.reduceDiv, Nat.reduceEqDiff, Nat.reduceLT, Nat.reduceLeDiff, Int32.reduceAdd, Int32.reduceSub, Int32.reduceMul, Int32.reduceDiv, Int32.reduceMod, Int32.reduceOfNat, Int32.reduceOfInt, Int32.reduceLT, Int32.reduceLE, Int32.reduceToNatClampNeg, Int32.reduceToInt]
    | succ m ih =>
      intro i hi u μ' d hd
      have D : CC 37 (atc c i r) (upI μ' 54 0 (Int32.ofNat i)) := by
        have := hd.dial (i := 0) (z := (i : Int)) (v := Int32.ofNat i) rfl
        rw [up_up, up_sw] at this
        exact this
      obtain ⟨ν1, p1, f1, -⟩ := verdict_at ck37 D (b.atc (by omega) hr)
      have D1 : CC 37 (up (up c 8 1 (r : Int)) 8 0 (i : Int)) ν1 := by rw [up_sw]; exact D.f37 f1
      obtain ⟨ν, d1, p, f, g⟩ := ih (i + 1) (by omega) u ν1 (i : Int) D1
      refine ⟨ν, d1, ?_, (sc54.tr (sc55 f1)).tr f, g⟩
      rw [zlp]
      have lf : ((20 : Int32) ≤ Int32.ofNat i) = False := leF (n := 20) (by omega) (by decide)
      have n1 := ofN1 i
      by_cases t : whyV (atc c i r) = 0
      · have e : whB (fun d => decide (whyV (atc c d r) = 0)) (i + 1) = whB (fun d => decide (whyV (atc c d r) = 0)) i ||| (1 <<< (Int32.ofNat i &&& 31)) := by
          show (if _ then _ else _) = _
          rw [if_pos (by simpa using t)]
        rw [e] at p
        simp (decide := true) (implicitDefEqProofs := false) only [l_X3_lawfulDirections_12, lf, p1, t, n1, zO, zR, zA, zT, zu1, zu2, zu3, zu4, gI, gL, pI, pL, pZ, aI, aL, sI, sZ, sL, Option.bind_some, Option.map_some, if_true, if_false, ite_true, ite_false, true_and, and_true, false_and, and_false, or_true, true_or, or_false, false_or, and_self, not_true_eq_false, not_false_eq_true, ↓reduceIte, reduceIte, Nat.reduceAdd, Nat.reduceMul, Nat.reduceSub, Nat.reduceMod, Nat.reduceDiv, Nat.reduceEqDiff, Nat.reduceLT, Nat.reduceLeDiff, Int32.reduceAdd, Int32.reduceSub, Int32.reduceMul, Int32.reduceDiv, Int32.reduceMod, Int32.reduceOfNat, Int32.reduceOfInt, Int32.reduceLT, Int32.reduceLE, Int32.reduceToNatClampNeg, Int32.reduceToInt]
        exact p
      · have e : whB (fun d => decide (whyV (atc c d r) = 0)) (i + 1) = whB (fun d => decide (whyV (atc c d r) = 0)) i := by
          show (if _ then _ else _) = _
          rw [if_neg (by simpa using t)]
        rw [e] at p
        simp (decide := true) (implicitDefEqProofs := false) only [l_X3_lawfulDirections_12, lf, p1, t, n1, zO, zR, zA, zT, zu1, zu2, zu3, zu4, gI, gL, pI, pL, pZ, aI, aL, sI, sZ, sL, Option.bind_some, Option.map_some, if_true, if_false, ite_true, ite_false, true_and, and_true, false_and, and_false, or_true, true_or, or_false, false_or, and_self, not_true_eq_false, not_false_eq_true, ↓reduceIte, reduceIte, Nat.reduceAdd, Nat.reduceMul, Nat.reduceSub, Nat.reduceMod, Nat.reduceDiv, Nat.reduceEqDiff, Nat.reduceLT, Nat.reduceLeDiff, Int32.reduceAdd, Int32.reduceSub, Int32.reduceMul, Int32.reduceDiv, Int32.reduceMod, Int32.reduceOfNat, Int32.reduceOfInt, Int32.reduceLT, Int32.reduceLE, Int32.reduceToNatClampNeg, Int32.reduceToInt]
        exact p
  obtain ⟨ν, d1, p, f, g⟩ := loop 20 0 (by omega) 4979 _ d0 h1
  refine ⟨ν, d1, ?_, sc54.tr f, g⟩
  simp (decide := true) (implicitDefEqProofs := false) only [f_X3_lawfulDirections, zO, zR, zA, zT, zu1, zu2, zu3, zu4, gI, gL, pI, pL, pZ, aI, aL, sI, sZ, sL, Option.bind_some, Option.map_some, if_true, if_false, ite_true, ite_false, true_and, and_true, false_and, and_false, or_true, true_or, or_false, false_or, and_self, not_true_eq_false, not_false_eq_true, ↓reduceIte, reduceIte, Nat.reduceAdd, Nat.reduceMul, Nat.reduceSub, Nat.reduceMod, Nat.reduceDiv, Nat.reduceEqDiff, Nat.reduceLT, Nat.reduceLeDiff, Int32.reduceAdd, Int32.reduceSub, Int32.reduceMul, Int32.reduceDiv, Int32.reduceMod, Int32.reduceOfNat, Int32.reduceOfInt, Int32.reduceLT, Int32.reduceLE, Int32.reduceToNatClampNeg, Int32.reduceToInt]
  exact p
theorem whereM {c : Nat → Nat → Int} (b : BC c) {r : Nat} (hr : r < 61) : ∀ m i, i + m = 20 → ∀ u μ, MM c μ → ∃ ν, lpN (l_X12_where_14 SX 81 (Int32.ofNat r)) (u + m + 1) (whB (fun d => decide (whyV (atc c d r) = 0)) i, Int32.ofNat i, μ) = some (whB (fun d => decide (whyV (atc c d r) = 0)) 20, ν) ∧ FM tmP uJ μ ν ∧ MM c ν := by
  intro m
  induction m with
  | zero =>
    intro i hi u μ h
    have e : i = 20 := by omega
    subst e
    refine ⟨μ, ?_, FM.rf, h⟩
    rw [zlp]
    simp (decide := true) (implicitDefEqProofs := false) only [l_X12_where_14, zO, zR, zA, zT, zu1, zu2, zu3, zu4, gI, gL, pI, pL, pZ, aI, aL, sI, sZ, sL, Option.bind_some, Option.map_some, if_true, if_false, ite_true, ite_false, true_and, and_true, false_and, and_false, or_true, true_or, or_false, false_or, and_self, not_true_eq_false, not_false_eq_true, ↓reduceIte, reduceIte, Nat.reduceAdd, Nat.reduceMul, Nat.reduceSub, Nat.reduceMod, Nat.reduceDiv, Nat.reduceEqDiff, Nat.reduceLT, Nat.reduceLeDiff, Int32.reduceAdd, Int32.reduceSub, Int32.reduceMul, Int32.reduceDiv, Int32.reduceMod, Int32.reduceOfNat, Int32.reduceOfInt, Int32.reduceLT, Int32.reduceLE, Int32.reduceToNatClampNeg, Int32.reduceToInt]
  | succ m ih =>
    intro i hi u μ h
    obtain ⟨ν1, p1, f1, h1⟩ := mayAt_at h b (d := i) (by omega) hr
    obtain ⟨ν, p, f, g⟩ := ih (i + 1) (by omega) u ν1 h1
    refine ⟨ν, ?_, f1.tr f, g⟩
    rw [zlp]
    have lf : ((20 : Int32) ≤ Int32.ofNat i) = False := leF (n := 20) (by omega) (by decide)
    have n1 := ofN1 i
    by_cases t : whyV (atc c i r) = 0
    · have e : whB (fun d => decide (whyV (atc c d r) = 0)) (i + 1) = whB (fun d => decide (whyV (atc c d r) = 0)) i ||| (1 <<< (Int32.ofNat i &&& 31)) := by
        show (if _ then _ else _) = _
        rw [if_pos (by simpa using t)]
      rw [e] at p
      rw [if_pos t] at p1
      simp (decide := true) (implicitDefEqProofs := false) only [l_X12_where_14, lf, p1, n1, zO, zR, zA, zT, zu1, zu2, zu3, zu4, gI, gL, pI, pL, pZ, aI, aL, sI, sZ, sL, Option.bind_some, Option.map_some, if_true, if_false, ite_true, ite_false, true_and, and_true, false_and, and_false, or_true, true_or, or_false, false_or, and_self, not_true_eq_false, not_false_eq_true, ↓reduceIte, reduceIte, Nat.reduceAdd, Nat.reduceMul, Nat.reduceSub, Nat.reduceMod, Nat.reduceDiv, Nat.reduceEqDiff, Nat.reduceLT, Nat.reduceLeDiff, Int32.reduceAdd, Int32.reduceSub, Int32.reduceMul, Int32.reduceDiv, Int32.reduceMod, Int32.reduceOfNat, Int32.reduceOfInt, Int32.reduceLT, Int32.reduceLE, Int32.reduceToNatClampNeg, Int32.reduceToInt]
      exact p
    · have e : whB (fun d => decide (whyV (atc c d r) = 0)) (i + 1) = whB (fun d => decide (whyV (atc c d r) = 0)) i := by
        show (if _ then _ else _) = _
        rw [if_neg (by simpa using t)]
      rw [e] at p
      rw [if_neg t] at p1
      simp (decide := true) (implicitDefEqProofs := false) only [l_X12_where_14, lf, p1, n1, Int32.or_zero, zO, zR, zA, zT, zu1, zu2, zu3, zu4, gI, gL, pI, pL, pZ, aI, aL, sI, sZ, sL, Option.bind_some, Option.map_some, if_true, if_false, ite_true, ite_false, true_and, and_true, false_and, and_false, or_true, true_or, or_false, false_or, and_self, not_true_eq_false, not_false_eq_true, ↓reduceIte, reduceIte, Nat.reduceAdd, Nat.reduceMul, Nat.reduceSub, Nat.reduceMod, Nat.reduceDiv, Nat.reduceEqDiff, Nat.reduceLT, Nat.reduceLeDiff, Int32.reduceAdd, Int32.reduceSub, Int32.reduceMul, Int32.reduceDiv, Int32.reduceMod, Int32.reduceOfNat, Int32.reduceOfInt, Int32.reduceLT, Int32.reduceLE, Int32.reduceToNatClampNeg, Int32.reduceToInt]
      exact p
theorem up_self (c : Nat → Nat → Int) (f i : Nat) : up c f i (c f i) = c := by
  have := up_id c f i (c f i)
  rw [up_up] at this
  exact this
theorem ok_where {μ : Mem} (h : INV μ) (a1 : Int32) : OKop (f_X11_where SX 0 a1) (f_X12_where SX 81 a1) μ := by
  obtain ⟨c, b, h1, h2⟩ := h.1
  rcases wbN a1 60 (by decide) with t | ⟨t, r, hr, rfl⟩
  · simp only [Nat.reduceAdd, Nat.reduceMul, Nat.reduceMod, Int32.reduceOfNat] at t
    refine ⟨-2, μ, μ, ?_, ?_, h⟩
    · simp (decide := true) (implicitDefEqProofs := false) only [f_X11_where, isReach_at, t, zO, zR, zA, zT, zu1, zu2, zu3, zu4, gI, gL, pI, pL, pZ, aI, aL, sI, sZ, sL, Option.bind_some, Option.map_some, if_true, if_false, ite_true, ite_false, true_and, and_true, false_and, and_false, or_true, true_or, or_false, false_or, and_self, not_true_eq_false, not_false_eq_true, ↓reduceIte, reduceIte, Nat.reduceAdd, Nat.reduceMul, Nat.reduceSub, Nat.reduceMod, Nat.reduceDiv, Nat.reduceEqDiff, Nat.reduceLT, Nat.reduceLeDiff, Int32.reduceAdd, Int32.reduceSub, Int32.reduceMul, Int32.reduceDiv, Int32.reduceMod, Int32.reduceOfNat, Int32.reduceOfInt, Int32.reduceLT, Int32.reduceLE, Int32.reduceToNatClampNeg, Int32.reduceToInt]
    · simp (decide := true) (implicitDefEqProofs := false) only [f_X12_where, isReach_at, t, zO, zR, zA, zT, zu1, zu2, zu3, zu4, gI, gL, pI, pL, pZ, aI, aL, sI, sZ, sL, Option.bind_some, Option.map_some, if_true, if_false, ite_true, ite_false, true_and, and_true, false_and, and_false, or_true, true_or, or_false, false_or, and_self, not_true_eq_false, not_false_eq_true, ↓reduceIte, reduceIte, Nat.reduceAdd, Nat.reduceMul, Nat.reduceSub, Nat.reduceMod, Nat.reduceDiv, Nat.reduceEqDiff, Nat.reduceLT, Nat.reduceLeDiff, Int32.reduceAdd, Int32.reduceSub, Int32.reduceMul, Int32.reduceDiv, Int32.reduceMod, Int32.reduceOfNat, Int32.reduceOfInt, Int32.reduceLT, Int32.reduceLE, Int32.reduceToNatClampNeg, Int32.reduceToInt]
  · simp only [Nat.reduceAdd, Nat.reduceMul, Nat.reduceMod, Int32.reduceOfNat] at t
    obtain ⟨μ1, p1, f1, d1⟩ := draft_at h1 b
    have d1' : CC 37 (up (up c 8 1 (c 8 1)) 8 0 (c 8 0)) μ1 := by rw [up_self, up_self]; exact d1
    obtain ⟨μ2, dd, p2, f2, -⟩ := lawful_at b (r := r) (by omega) d1'
    have F12 := f1.tr f2
    have M2 := h2.sc F12
    obtain ⟨μ3, p3, f3, m3⟩ := whereM b (r := r) (by omega) 20 0 (by omega) 4979 μ2 M2
    have C2 := h1.sc F12
    refine ⟨whB (fun d => decide (whyV (atc c d r) = 0)) 20, μ2, μ3, ?_, ?_, h.cr ((scCr F12).tr (tmCr f3)) ⟨c, b, C2.f f3 (fun q g1 g2 => ⟨by omega, by unfold tmP uP; omega⟩), m3⟩⟩
    · simp (decide := true) (implicitDefEqProofs := false) only [f_X11_where, isReach_at, t, p1, p2, zO, zR, zA, zT, zu1, zu2, zu3, zu4, gI, gL, pI, pL, pZ, aI, aL, sI, sZ, sL, Option.bind_some, Option.map_some, if_true, if_false, ite_true, ite_false, true_and, and_true, false_and, and_false, or_true, true_or, or_false, false_or, and_self, not_true_eq_false, not_false_eq_true, ↓reduceIte, reduceIte, Nat.reduceAdd, Nat.reduceMul, Nat.reduceSub, Nat.reduceMod, Nat.reduceDiv, Nat.reduceEqDiff, Nat.reduceLT, Nat.reduceLeDiff, Int32.reduceAdd, Int32.reduceSub, Int32.reduceMul, Int32.reduceDiv, Int32.reduceMod, Int32.reduceOfNat, Int32.reduceOfInt, Int32.reduceLT, Int32.reduceLE, Int32.reduceToNatClampNeg, Int32.reduceToInt]
    · simp (decide := true) (implicitDefEqProofs := false) only [f_X12_where, isReach_at, t, zO, zR, zA, zT, zu1, zu2, zu3, zu4, gI, gL, pI, pL, pZ, aI, aL, sI, sZ, sL, Option.bind_some, Option.map_some, if_true, if_false, ite_true, ite_false, true_and, and_true, false_and, and_false, or_true, true_or, or_false, false_or, and_self, not_true_eq_false, not_false_eq_true, ↓reduceIte, reduceIte, Nat.reduceAdd, Nat.reduceMul, Nat.reduceSub, Nat.reduceMod, Nat.reduceDiv, Nat.reduceEqDiff, Nat.reduceLT, Nat.reduceLeDiff, Int32.reduceAdd, Int32.reduceSub, Int32.reduceMul, Int32.reduceDiv, Int32.reduceMod, Int32.reduceOfNat, Int32.reduceOfInt, Int32.reduceLT, Int32.reduceLE, Int32.reduceToNatClampNeg, Int32.reduceToInt]
      exact p3

