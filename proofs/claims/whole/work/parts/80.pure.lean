theorem nP8 {c : Nat → Nat → Int} (b : BC c) : nP c + 2 ≤ 10 := by have := b.2.2.1; unfold nP; omega
theorem sums_at {c : Nat → Nat → Int} {μ : Mem} (b : BC c) (l : LK c (nP c + 2) μ) : f_X12_sum SX 81 0 μ = some (Int64.ofInt (WW c), μ) ∧ f_X12_sum SX 81 1 μ = some (Int64.ofInt (MX c), μ) ∧ f_X12_sum SX 81 2 μ = some (Int64.ofInt (MY c), μ) := by
  have s0 := sum_at b l (nP8 b) (a := 0) (by decide)
  have s1 := sum_at b l (nP8 b) (a := 1) (by decide)
  have s2 := sum_at b l (nP8 b) (a := 2) (by decide)
  have e0 : sm (thF c 0) (nP c + 2) = WW c := (sm_congr _ (fun i _ => rfl)).trans sm_W
  have e1 : sm (thF c 1) (nP c + 2) = MX c := (sm_congr _ (fun i _ => rfl)).trans sm_X
  have e2 : sm (thF c 2) (nP c + 2) = MY c := (sm_congr _ (fun i _ => rfl)).trans sm_Y
  rw [e0] at s0
  rw [e1] at s1
  rw [e2] at s2
  exact ⟨s0, s1, s2⟩
theorem WW0 {c : Nat → Nat → Int} (b : BC c) : (Int64.ofInt (sw c) = 0) = (WW c = 0) ∧ (Int64.ofInt (WW c) = 0) = (WW c = 0) := by
  have jb := b.jb.1
  have e : sw c = 65 * WW c := rfl
  refine ⟨propext ⟨fun g => ?_, fun g => ?_⟩, propext ⟨fun g => ?_, fun g => ?_⟩⟩
  · have := (yeq64 (sw c) 0 (by omega) (by omega) (by omega) (by omega)).mp g; omega
  · rw [e, g]; rfl
  · exact (yeq64 (WW c) 0 (by omega) (by omega) (by omega) (by omega)).mp g
  · rw [g]; rfl
theorem s65 (c : Nat → Nat → Int) : 65 * Int64.ofInt (WW c) = Int64.ofInt (sw c) := by
  rw [y64_65, y64m]; rfl
theorem ok_centre {μ : Mem} (h : INV μ) (a1 a2 : Int32) : OKop (f_X11_centre SX 0 a1 a2) (f_X12_centre SX 81 a1 a2) μ := by
  obtain ⟨c, b, h1, h2⟩ := h.1
  have g := gather_at ck1 h1 b
  obtain ⟨d0, d1, d2⟩ := gath_JD c μ
  have F := sc55 (gath_Fr c μ)
  obtain ⟨ν, p, f, l⟩ := looks_at (h2.sc F) b
  have hI := h.q (F.tr (sck f))
  obtain ⟨u0, u1, u2⟩ := sums_at b l
  obtain ⟨z1, z2⟩ := WW0 b
  have jb := b.jb
  obtain ⟨m1, E1⟩ : ∃ m, m = gath c μ := ⟨_, rfl⟩
  rw [← E1] at g d0 d1 d2 p
  rcases wbN a1 1 (by decide) with t | ⟨t, j, hj, rfl⟩
  · simp only [Nat.reduceAdd, Nat.reduceMul, Nat.reduceMod, Int32.reduceOfNat] at t
    refine ⟨-9223372036854775808, m1, ν, ?_, ?_, hI⟩
    · simp (decide := true) (implicitDefEqProofs := false) only [f_X11_centre, g, within_at, t, zO, zR, zA, zT, zu1, zu2, zu3, zu4, gI, gL, pI, pL, pZ, aI, aL, sI, sZ, sL, Option.bind_some, Option.map_some, if_true, if_false, ite_true, ite_false, true_and, and_true, false_and, and_false, or_true, true_or, or_false, false_or, and_self, not_true_eq_false, not_false_eq_true, ↓reduceIte, reduceIte, Nat.reduceAdd, Nat.reduceMul, Nat.reduceSub, Nat.reduceMod, Nat.reduceDiv, Nat.reduceEqDiff, Nat.reduceLT, Nat.reduceLeDiff, Int32.reduceAdd, Int32.reduceSub, Int32.reduceMul, Int32.reduceDiv, Int32.reduceMod, Int32.reduceOfNat, Int32.reduceOfInt, Int32.reduceLT, Int32.reduceLE, Int32.reduceToNatClampNeg, Int32.reduceToInt]
    · simp (decide := true) (implicitDefEqProofs := false) only [f_X12_centre, p, in_at, t, zO, zR, zA, zT, zu1, zu2, zu3, zu4, gI, gL, pI, pL, pZ, aI, aL, sI, sZ, sL, Option.bind_some, Option.map_some, if_true, if_false, ite_true, ite_false, true_and, and_true, false_and, and_false, or_true, true_or, or_false, false_or, and_self, not_true_eq_false, not_false_eq_true, ↓reduceIte, reduceIte, Nat.reduceAdd, Nat.reduceMul, Nat.reduceSub, Nat.reduceMod, Nat.reduceDiv, Nat.reduceEqDiff, Nat.reduceLT, Nat.reduceLeDiff, Int32.reduceAdd, Int32.reduceSub, Int32.reduceMul, Int32.reduceDiv, Int32.reduceMod, Int32.reduceOfNat, Int32.reduceOfInt, Int32.reduceLT, Int32.reduceLE, Int32.reduceToNatClampNeg, Int32.reduceToInt]
  · simp only [Nat.reduceAdd, Nat.reduceMul, Nat.reduceMod, Int32.reduceOfNat] at t
    rcases wbN a2 1 (by decide) with s | ⟨s, k, hk, rfl⟩
    · simp only [Nat.reduceAdd, Nat.reduceMul, Nat.reduceMod, Int32.reduceOfNat] at s
      refine ⟨-9223372036854775808, m1, ν, ?_, ?_, hI⟩
      · simp (decide := true) (implicitDefEqProofs := false) only [f_X11_centre, g, within_at, isSide_at, t, s, zO, zR, zA, zT, zu1, zu2, zu3, zu4, gI, gL, pI, pL, pZ, aI, aL, sI, sZ, sL, Option.bind_some, Option.map_some, if_true, if_false, ite_true, ite_false, true_and, and_true, false_and, and_false, or_true, true_or, or_false, false_or, and_self, not_true_eq_false, not_false_eq_true, ↓reduceIte, reduceIte, Nat.reduceAdd, Nat.reduceMul, Nat.reduceSub, Nat.reduceMod, Nat.reduceDiv, Nat.reduceEqDiff, Nat.reduceLT, Nat.reduceLeDiff, Int32.reduceAdd, Int32.reduceSub, Int32.reduceMul, Int32.reduceDiv, Int32.reduceMod, Int32.reduceOfNat, Int32.reduceOfInt, Int32.reduceLT, Int32.reduceLE, Int32.reduceToNatClampNeg, Int32.reduceToInt]
      · simp (decide := true) (implicitDefEqProofs := false) only [f_X12_centre, p, in_at, isSide_at, t, s, zO, zR, zA, zT, zu1, zu2, zu3, zu4, gI, gL, pI, pL, pZ, aI, aL, sI, sZ, sL, Option.bind_some, Option.map_some, if_true, if_false, ite_true, ite_false, true_and, and_true, false_and, and_false, or_true, true_or, or_false, false_or, and_self, not_true_eq_false, not_false_eq_true, ↓reduceIte, reduceIte, Nat.reduceAdd, Nat.reduceMul, Nat.reduceSub, Nat.reduceMod, Nat.reduceDiv, Nat.reduceEqDiff, Nat.reduceLT, Nat.reduceLeDiff, Int32.reduceAdd, Int32.reduceSub, Int32.reduceMul, Int32.reduceDiv, Int32.reduceMod, Int32.reduceOfNat, Int32.reduceOfInt, Int32.reduceLT, Int32.reduceLE, Int32.reduceToNatClampNeg, Int32.reduceToInt]
    · simp only [Nat.reduceAdd, Nat.reduceMul, Nat.reduceMod, Int32.reduceOfNat] at s
      by_cases w : WW c = 0
      · refine ⟨-9223372036854775808, m1, ν, ?_, ?_, hI⟩
        · simp (decide := true) (implicitDefEqProofs := false) only [f_X11_centre, g, within_at, isSide_at, t, s, d0, z1, w, zO, zR, zA, zT, zu1, zu2, zu3, zu4, gI, gL, pI, pL, pZ, aI, aL, sI, sZ, sL, Option.bind_some, Option.map_some, if_true, if_false, ite_true, ite_false, true_and, and_true, false_and, and_false, or_true, true_or, or_false, false_or, and_self, not_true_eq_false, not_false_eq_true, ↓reduceIte, reduceIte, Nat.reduceAdd, Nat.reduceMul, Nat.reduceSub, Nat.reduceMod, Nat.reduceDiv, Nat.reduceEqDiff, Nat.reduceLT, Nat.reduceLeDiff, Int32.reduceAdd, Int32.reduceSub, Int32.reduceMul, Int32.reduceDiv, Int32.reduceMod, Int32.reduceOfNat, Int32.reduceOfInt, Int32.reduceLT, Int32.reduceLE, Int32.reduceToNatClampNeg, Int32.reduceToInt]
        · simp (decide := true) (implicitDefEqProofs := false) only [f_X12_centre, p, in_at, isSide_at, t, s, u0, z2, w, zO, zR, zA, zT, zu1, zu2, zu3, zu4, gI, gL, pI, pL, pZ, aI, aL, sI, sZ, sL, Option.bind_some, Option.map_some, if_true, if_false, ite_true, ite_false, true_and, and_true, false_and, and_false, or_true, true_or, or_false, false_or, and_self, not_true_eq_false, not_false_eq_true, ↓reduceIte, reduceIte, Nat.reduceAdd, Nat.reduceMul, Nat.reduceSub, Nat.reduceMod, Nat.reduceDiv, Nat.reduceEqDiff, Nat.reduceLT, Nat.reduceLeDiff, Int32.reduceAdd, Int32.reduceSub, Int32.reduceMul, Int32.reduceDiv, Int32.reduceMod, Int32.reduceOfNat, Int32.reduceOfInt, Int32.reduceLT, Int32.reduceLE, Int32.reduceToNatClampNeg, Int32.reduceToInt]
      · have hw : 0 < sw c ∧ sw c ≤ 1000000000000000 := by
          have e : sw c = 65 * WW c := rfl
          have := jb.1
          omega
        have e : j = 0 ∨ j = 1 := by omega
        rcases e with rfl | rfl
        · have x := lowX (MX c) (sw c) (Int32.ofNat k) m1 (by have := jb.2.1; omega) hw
          have y := lowM (MX c) (sw c) (Int32.ofNat k) ν (by have := jb.2.1; omega) hw
          simp only [Nat.reduceAdd, Nat.reduceMul, Nat.reduceMod, Int32.reduceOfNat] at t
          refine ⟨Int64.ofInt (lowV (MX c) (sw c) (Int32.ofNat k)), m1, ν, ?_, ?_, hI⟩
          · simp (decide := true) (implicitDefEqProofs := false) only [f_X11_centre, g, within_at, isSide_at, t, s, d0, d1, z1, w, x, zO, zR, zA, zT, zu1, zu2, zu3, zu4, gI, gL, pI, pL, pZ, aI, aL, sI, sZ, sL, Option.bind_some, Option.map_some, if_true, if_false, ite_true, ite_false, true_and, and_true, false_and, and_false, or_true, true_or, or_false, false_or, and_self, not_true_eq_false, not_false_eq_true, ↓reduceIte, reduceIte, Nat.reduceAdd, Nat.reduceMul, Nat.reduceSub, Nat.reduceMod, Nat.reduceDiv, Nat.reduceEqDiff, Nat.reduceLT, Nat.reduceLeDiff, Int32.reduceAdd, Int32.reduceSub, Int32.reduceMul, Int32.reduceDiv, Int32.reduceMod, Int32.reduceOfNat, Int32.reduceOfInt, Int32.reduceLT, Int32.reduceLE, Int32.reduceToNatClampNeg, Int32.reduceToInt]
          · simp (decide := true) (implicitDefEqProofs := false) only [f_X12_centre, p, in_at, isSide_at, t, s, u0, u1, z2, w, s65, y, zO, zR, zA, zT, zu1, zu2, zu3, zu4, gI, gL, pI, pL, pZ, aI, aL, sI, sZ, sL, Option.bind_some, Option.map_some, if_true, if_false, ite_true, ite_false, true_and, and_true, false_and, and_false, or_true, true_or, or_false, false_or, and_self, not_true_eq_false, not_false_eq_true, ↓reduceIte, reduceIte, Nat.reduceAdd, Nat.reduceMul, Nat.reduceSub, Nat.reduceMod, Nat.reduceDiv, Nat.reduceEqDiff, Nat.reduceLT, Nat.reduceLeDiff, Int32.reduceAdd, Int32.reduceSub, Int32.reduceMul, Int32.reduceDiv, Int32.reduceMod, Int32.reduceOfNat, Int32.reduceOfInt, Int32.reduceLT, Int32.reduceLE, Int32.reduceToNatClampNeg, Int32.reduceToInt]
        · have x := lowX (MY c) (sw c) (Int32.ofNat k) m1 (by have := jb.2.2; omega) hw
          have y := lowM (MY c) (sw c) (Int32.ofNat k) ν (by have := jb.2.2; omega) hw
          simp only [Nat.reduceAdd, Nat.reduceMul, Nat.reduceMod, Int32.reduceOfNat] at t
          refine ⟨Int64.ofInt (lowV (MY c) (sw c) (Int32.ofNat k)), m1, ν, ?_, ?_, hI⟩
          · simp (decide := true) (implicitDefEqProofs := false) only [f_X11_centre, g, within_at, isSide_at, t, s, d0, d2, z1, w, x, zO, zR, zA, zT, zu1, zu2, zu3, zu4, gI, gL, pI, pL, pZ, aI, aL, sI, sZ, sL, Option.bind_some, Option.map_some, if_true, if_false, ite_true, ite_false, true_and, and_true, false_and, and_false, or_true, true_or, or_false, false_or, and_self, not_true_eq_false, not_false_eq_true, ↓reduceIte, reduceIte, Nat.reduceAdd, Nat.reduceMul, Nat.reduceSub, Nat.reduceMod, Nat.reduceDiv, Nat.reduceEqDiff, Nat.reduceLT, Nat.reduceLeDiff, Int32.reduceAdd, Int32.reduceSub, Int32.reduceMul, Int32.reduceDiv, Int32.reduceMod, Int32.reduceOfNat, Int32.reduceOfInt, Int32.reduceLT, Int32.reduceLE, Int32.reduceToNatClampNeg, Int32.reduceToInt]
          · simp (decide := true) (implicitDefEqProofs := false) only [f_X12_centre, p, in_at, isSide_at, t, s, u0, u2, z2, w, s65, y, zO, zR, zA, zT, zu1, zu2, zu3, zu4, gI, gL, pI, pL, pZ, aI, aL, sI, sZ, sL, Option.bind_some, Option.map_some, if_true, if_false, ite_true, ite_false, true_and, and_true, false_and, and_false, or_true, true_or, or_false, false_or, and_self, not_true_eq_false, not_false_eq_true, ↓reduceIte, reduceIte, Nat.reduceAdd, Nat.reduceMul, Nat.reduceSub, Nat.reduceMod, Nat.reduceDiv, Nat.reduceEqDiff, Nat.reduceLT, Nat.reduceLeDiff, Int32.reduceAdd, Int32.reduceSub, Int32.reduceMul, Int32.reduceDiv, Int32.reduceMod, Int32.reduceOfNat, Int32.reduceOfInt, Int32.reduceLT, Int32.reduceLE, Int32.reduceToNatClampNeg, Int32.reduceToInt]
theorem ok_moment {μ : Mem} (h : INV μ) (a1 a2 : Int32) : OKop (f_X11_moment SX 0 a1 a2) (f_X12_moment SX 81 a1 a2) μ := by
  obtain ⟨c, b, h1, h2⟩ := h.1
  have g := gather_at ck1 h1 b
  have jd := gath_JD c μ
  have F := sc55 (gath_Fr c μ)
  have M1 := h2.sc F
  obtain ⟨ν, p, f, l⟩ := looks_at M1 b
  have hI := h.q (F.tr (sck f))
  have M2 := M1.sc (sck f)
  have xy : XY 1 c (gath c μ) := h1.1.w ck1 rfl
  rcases wbN a1 3 (by decide) with t | ⟨t, e, he, rfl⟩
  · simp only [Nat.reduceAdd, Nat.reduceMul, Nat.reduceMod, Int32.reduceOfNat] at t
    refine ⟨-9223372036854775808, μ, μ, ?_, ?_, h⟩
    · simp (decide := true) (implicitDefEqProofs := false) only [f_X11_moment, isPad_at, t, zO, zR, zA, zT, zu1, zu2, zu3, zu4, gI, gL, pI, pL, pZ, aI, aL, sI, sZ, sL, Option.bind_some, Option.map_some, if_true, if_false, ite_true, ite_false, true_and, and_true, false_and, and_false, or_true, true_or, or_false, false_or, and_self, not_true_eq_false, not_false_eq_true, ↓reduceIte, reduceIte, Nat.reduceAdd, Nat.reduceMul, Nat.reduceSub, Nat.reduceMod, Nat.reduceDiv, Nat.reduceEqDiff, Nat.reduceLT, Nat.reduceLeDiff, Int32.reduceAdd, Int32.reduceSub, Int32.reduceMul, Int32.reduceDiv, Int32.reduceMod, Int32.reduceOfNat, Int32.reduceOfInt, Int32.reduceLT, Int32.reduceLE, Int32.reduceToNatClampNeg, Int32.reduceToInt]
    · simp (decide := true) (implicitDefEqProofs := false) only [f_X12_moment, isPad_at, t, zO, zR, zA, zT, zu1, zu2, zu3, zu4, gI, gL, pI, pL, pZ, aI, aL, sI, sZ, sL, Option.bind_some, Option.map_some, if_true, if_false, ite_true, ite_false, true_and, and_true, false_and, and_false, or_true, true_or, or_false, false_or, and_self, not_true_eq_false, not_false_eq_true, ↓reduceIte, reduceIte, Nat.reduceAdd, Nat.reduceMul, Nat.reduceSub, Nat.reduceMod, Nat.reduceDiv, Nat.reduceEqDiff, Nat.reduceLT, Nat.reduceLeDiff, Int32.reduceAdd, Int32.reduceSub, Int32.reduceMul, Int32.reduceDiv, Int32.reduceMod, Int32.reduceOfNat, Int32.reduceOfInt, Int32.reduceLT, Int32.reduceLE, Int32.reduceToNatClampNeg, Int32.reduceToInt]
  · simp only [Nat.reduceAdd, Nat.reduceMul, Nat.reduceMod, Int32.reduceOfNat] at t
    rcases wbN a2 1 (by decide) with s | ⟨s, k, hk, rfl⟩
    · simp only [Nat.reduceAdd, Nat.reduceMul, Nat.reduceMod, Int32.reduceOfNat] at s
      refine ⟨-9223372036854775808, μ, μ, ?_, ?_, h⟩
      · simp (decide := true) (implicitDefEqProofs := false) only [f_X11_moment, isPad_at, isSide_at, t, s, zO, zR, zA, zT, zu1, zu2, zu3, zu4, gI, gL, pI, pL, pZ, aI, aL, sI, sZ, sL, Option.bind_some, Option.map_some, if_true, if_false, ite_true, ite_false, true_and, and_true, false_and, and_false, or_true, true_or, or_false, false_or, and_self, not_true_eq_false, not_false_eq_true, ↓reduceIte, reduceIte, Nat.reduceAdd, Nat.reduceMul, Nat.reduceSub, Nat.reduceMod, Nat.reduceDiv, Nat.reduceEqDiff, Nat.reduceLT, Nat.reduceLeDiff, Int32.reduceAdd, Int32.reduceSub, Int32.reduceMul, Int32.reduceDiv, Int32.reduceMod, Int32.reduceOfNat, Int32.reduceOfInt, Int32.reduceLT, Int32.reduceLE, Int32.reduceToNatClampNeg, Int32.reduceToInt]
      · simp (decide := true) (implicitDefEqProofs := false) only [f_X12_moment, isPad_at, isSide_at, t, s, zO, zR, zA, zT, zu1, zu2, zu3, zu4, gI, gL, pI, pL, pZ, aI, aL, sI, sZ, sL, Option.bind_some, Option.map_some, if_true, if_false, ite_true, ite_false, true_and, and_true, false_and, and_false, or_true, true_or, or_false, false_or, and_self, not_true_eq_false, not_false_eq_true, ↓reduceIte, reduceIte, Nat.reduceAdd, Nat.reduceMul, Nat.reduceSub, Nat.reduceMod, Nat.reduceDiv, Nat.reduceEqDiff, Nat.reduceLT, Nat.reduceLeDiff, Int32.reduceAdd, Int32.reduceSub, Int32.reduceMul, Int32.reduceDiv, Int32.reduceMod, Int32.reduceOfNat, Int32.reduceOfInt, Int32.reduceLT, Int32.reduceLE, Int32.reduceToNatClampNeg, Int32.reduceToInt]
    · simp only [Nat.reduceAdd, Nat.reduceMul, Nat.reduceMod, Int32.reduceOfNat] at s
      have he4 : e < 4 := by omega
      have hf4 : (e + 1) % 4 < 4 := Nat.mod_lt _ (by decide)
      have ab := about_at ck1 xy b.1 jd he4 hf4
      simp only [Nat.reduceAdd, Nat.reduceMul, Nat.reduceMod, Int32.reduceOfNat] at ab
      have bb := abt_b b.1 b.jb he4 hf4
      have mo := moments_at M2 b l (nP8 b) he4
      rw [sm_mo he4] at mo
      have nx := next_at (S := SX) (μ := gath c μ) e he4
      have x := lowX (abt c (sw c) (MX c) (MY c) e ((e + 1) % 4)) 65 (Int32.ofNat k) (gath c μ) (by omega) (by omega)
      have y := lowM (abt c (sw c) (MX c) (MY c) e ((e + 1) % 4)) 65 (Int32.ofNat k) ν (by omega) (by omega)
      rw [← y64_65] at x y
      obtain ⟨m1, E1⟩ : ∃ m, m = gath c μ := ⟨_, rfl⟩
      rw [← E1] at g p ab nx x
      refine ⟨Int64.ofInt (lowV (abt c (sw c) (MX c) (MY c) e ((e + 1) % 4)) 65 (Int32.ofNat k)), m1, ν, ?_, ?_, hI⟩
      · simp (decide := true) (implicitDefEqProofs := false) only [f_X11_moment, isPad_at, isSide_at, t, s, g, nx, ab, x, zO, zR, zA, zT, zu1, zu2, zu3, zu4, gI, gL, pI, pL, pZ, aI, aL, sI, sZ, sL, Option.bind_some, Option.map_some, if_true, if_false, ite_true, ite_false, true_and, and_true, false_and, and_false, or_true, true_or, or_false, false_or, and_self, not_true_eq_false, not_false_eq_true, ↓reduceIte, reduceIte, Nat.reduceAdd, Nat.reduceMul, Nat.reduceSub, Nat.reduceMod, Nat.reduceDiv, Nat.reduceEqDiff, Nat.reduceLT, Nat.reduceLeDiff, Int32.reduceAdd, Int32.reduceSub, Int32.reduceMul, Int32.reduceDiv, Int32.reduceMod, Int32.reduceOfNat, Int32.reduceOfInt, Int32.reduceLT, Int32.reduceLE, Int32.reduceToNatClampNeg, Int32.reduceToInt]
      · simp (decide := true) (implicitDefEqProofs := false) only [f_X12_moment, isPad_at, isSide_at, t, s, p, mo, y, zO, zR, zA, zT, zu1, zu2, zu3, zu4, gI, gL, pI, pL, pZ, aI, aL, sI, sZ, sL, Option.bind_some, Option.map_some, if_true, if_false, ite_true, ite_false, true_and, and_true, false_and, and_false, or_true, true_or, or_false, false_or, and_self, not_true_eq_false, not_false_eq_true, ↓reduceIte, reduceIte, Nat.reduceAdd, Nat.reduceMul, Nat.reduceSub, Nat.reduceMod, Nat.reduceDiv, Nat.reduceEqDiff, Nat.reduceLT, Nat.reduceLeDiff, Int32.reduceAdd, Int32.reduceSub, Int32.reduceMul, Int32.reduceDiv, Int32.reduceMod, Int32.reduceOfNat, Int32.reduceOfInt, Int32.reduceLT, Int32.reduceLE, Int32.reduceToNatClampNeg, Int32.reduceToInt]
theorem sq_nn (t : Int) : 0 ≤ t * t := by
  rcases Int.le_total 0 t with h | h
  · exact Int.mul_nonneg h h
  · exact Int.mul_nonneg_of_nonpos_of_nonpos h h
theorem det_sq (c : Nat → Nat → Int) : detC c = tri c 0 1 2 * tri c 0 1 2 + tri c 0 1 3 * tri c 0 1 3 + tri c 0 2 3 * tri c 0 2 3 + tri c 1 2 3 * tri c 1 2 3 := by
  unfold detC S1 S2 S3 S4 S5 tri
  grind
theorem bl_pos {c : Nat → Nat → Int} (h : none3 c = 0) : 0 < blF c := by
  obtain ⟨-, st⟩ := DD_pos h
  unfold blF
  by_cases t : air c = -5
  · rw [if_pos t, det_sq]
    have sb := standB_iff c
    have st1 : stands c := by
      rcases sb with q | q
      · exact q.1
      · exact absurd q.2 st
    have p1 := Int.mul_pos st1.1 st1.1
    have p2 := sq_nn (tri c 0 1 3)
    have p3 := sq_nn (tri c 0 2 3)
    have p4 := sq_nn (tri c 1 2 3)
    omega
  · rw [if_neg t]
    have lr := low_r (s4 c)
    have la : air c = low (s4 c) := rfl
    have := tr3_pos st (air c).toNat (by omega)
    unfold tr3 at this
    omega
theorem ok_push {μ : Mem} (h : INV μ) (a1 a2 : Int32) : OKop (f_X11_push SX 0 a1 a2) (f_X12_push SX 81 a1 a2) μ := by
  obtain ⟨c, b, h1, h2⟩ := h.1
  obtain ⟨μ1, p1, f1, j1⟩ := finds_at ck1 h1 b
  obtain ⟨μ2, p2, f2, j2⟩ := pushes_at (h2.sc (sc55 f1)) b
  have hI := h.q ((sc55 f1).tr (scu f2))
  rcases wbN a1 3 (by decide) with t | ⟨t, e, he, rfl⟩
  · simp only [Nat.reduceAdd, Nat.reduceMul, Nat.reduceMod, Int32.reduceOfNat] at t
    refine ⟨-9223372036854775808, μ, μ, ?_, ?_, h⟩
    · simp (decide := true) (implicitDefEqProofs := false) only [f_X11_push, isPad_at, t, zO, zR, zA, zT, zu1, zu2, zu3, zu4, gI, gL, pI, pL, pZ, aI, aL, sI, sZ, sL, Option.bind_some, Option.map_some, if_true, if_false, ite_true, ite_false, true_and, and_true, false_and, and_false, or_true, true_or, or_false, false_or, and_self, not_true_eq_false, not_false_eq_true, ↓reduceIte, reduceIte, Nat.reduceAdd, Nat.reduceMul, Nat.reduceSub, Nat.reduceMod, Nat.reduceDiv, Nat.reduceEqDiff, Nat.reduceLT, Nat.reduceLeDiff, Int32.reduceAdd, Int32.reduceSub, Int32.reduceMul, Int32.reduceDiv, Int32.reduceMod, Int32.reduceOfNat, Int32.reduceOfInt, Int32.reduceLT, Int32.reduceLE, Int32.reduceToNatClampNeg, Int32.reduceToInt]
    · simp (decide := true) (implicitDefEqProofs := false) only [f_X12_push, isPad_at, t, zO, zR, zA, zT, zu1, zu2, zu3, zu4, gI, gL, pI, pL, pZ, aI, aL, sI, sZ, sL, Option.bind_some, Option.map_some, if_true, if_false, ite_true, ite_false, true_and, and_true, false_and, and_false, or_true, true_or, or_false, false_or, and_self, not_true_eq_false, not_false_eq_true, ↓reduceIte, reduceIte, Nat.reduceAdd, Nat.reduceMul, Nat.reduceSub, Nat.reduceMod, Nat.reduceDiv, Nat.reduceEqDiff, Nat.reduceLT, Nat.reduceLeDiff, Int32.reduceAdd, Int32.reduceSub, Int32.reduceMul, Int32.reduceDiv, Int32.reduceMod, Int32.reduceOfNat, Int32.reduceOfInt, Int32.reduceLT, Int32.reduceLE, Int32.reduceToNatClampNeg, Int32.reduceToInt]
  · simp only [Nat.reduceAdd, Nat.reduceMul, Nat.reduceMod, Int32.reduceOfNat] at t
    rcases wbN a2 1 (by decide) with s | ⟨s, k, hk, rfl⟩
    · simp only [Nat.reduceAdd, Nat.reduceMul, Nat.reduceMod, Int32.reduceOfNat] at s
      refine ⟨-9223372036854775808, μ, μ, ?_, ?_, h⟩
      · simp (decide := true) (implicitDefEqProofs := false) only [f_X11_push, isPad_at, isSide_at, t, s, zO, zR, zA, zT, zu1, zu2, zu3, zu4, gI, gL, pI, pL, pZ, aI, aL, sI, sZ, sL, Option.bind_some, Option.map_some, if_true, if_false, ite_true, ite_false, true_and, and_true, false_and, and_false, or_true, true_or, or_false, false_or, and_self, not_true_eq_false, not_false_eq_true, ↓reduceIte, reduceIte, Nat.reduceAdd, Nat.reduceMul, Nat.reduceSub, Nat.reduceMod, Nat.reduceDiv, Nat.reduceEqDiff, Nat.reduceLT, Nat.reduceLeDiff, Int32.reduceAdd, Int32.reduceSub, Int32.reduceMul, Int32.reduceDiv, Int32.reduceMod, Int32.reduceOfNat, Int32.reduceOfInt, Int32.reduceLT, Int32.reduceLE, Int32.reduceToNatClampNeg, Int32.reduceToInt]
      · simp (decide := true) (implicitDefEqProofs := false) only [f_X12_push, isPad_at, isSide_at, t, s, zO, zR, zA, zT, zu1, zu2, zu3, zu4, gI, gL, pI, pL, pZ, aI, aL, sI, sZ, sL, Option.bind_some, Option.map_some, if_true, if_false, ite_true, ite_false, true_and, and_true, false_and, and_false, or_true, true_or, or_false, false_or, and_self, not_true_eq_false, not_false_eq_true, ↓reduceIte, reduceIte, Nat.reduceAdd, Nat.reduceMul, Nat.reduceSub, Nat.reduceMod, Nat.reduceDiv, Nat.reduceEqDiff, Nat.reduceLT, Nat.reduceLeDiff, Int32.reduceAdd, Int32.reduceSub, Int32.reduceMul, Int32.reduceDiv, Int32.reduceMod, Int32.reduceOfNat, Int32.reduceOfInt, Int32.reduceLT, Int32.reduceLE, Int32.reduceToNatClampNeg, Int32.reduceToInt]
    · simp only [Nat.reduceAdd, Nat.reduceMul, Nat.reduceMod, Int32.reduceOfNat] at s
      have i1 := zin e 4 (by omega) (by decide)
      have i2 := ztn e (by omega)
      by_cases w : none3 c = 0
      · rw [if_pos w] at p1
        obtain ⟨q1, q2, -⟩ := j1 w
        obtain ⟨⟨r1, r2⟩, -⟩ := j2 w
        have q1 := q1 e (by omega)
        have r1 := r1 e (by omega)
        have bp := bl_pos w
        have dp := (DD_pos w).1
        obtain ⟨-, B1, B2, B3, B4⟩ := F_b b
        have B1 := B1 e (by omega)
        have B3 := B3 e (by omega)
        have dbp : 0 < DD c * blF c := Int.mul_pos dp bp
        have x := lowX (shF c e) (blF c) (Int32.ofNat k) μ1 (by omega) (by omega)
        have y := lowM (DD c * shF c e) (DD c * blF c) (Int32.ofNat k) μ2 (by omega) (by omega)
        rw [lowV_mul _ _ _ _ dp] at y
        refine ⟨Int64.ofInt (lowV (shF c e) (blF c) (Int32.ofNat k)), μ1, μ2, ?_, ?_, hI⟩
        · simp (decide := true) (implicitDefEqProofs := false) only [f_X11_push, isPad_at, isSide_at, t, s, p1, i1, i2, q1, q2, x, zO, zR, zA, zT, zu1, zu2, zu3, zu4, gI, gL, pI, pL, pZ, aI, aL, sI, sZ, sL, Option.bind_some, Option.map_some, if_true, if_false, ite_true, ite_false, true_and, and_true, false_and, and_false, or_true, true_or, or_false, false_or, and_self, not_true_eq_false, not_false_eq_true, ↓reduceIte, reduceIte, Nat.reduceAdd, Nat.reduceMul, Nat.reduceSub, Nat.reduceMod, Nat.reduceDiv, Nat.reduceEqDiff, Nat.reduceLT, Nat.reduceLeDiff, Int32.reduceAdd, Int32.reduceSub, Int32.reduceMul, Int32.reduceDiv, Int32.reduceMod, Int32.reduceOfNat, Int32.reduceOfInt, Int32.reduceLT, Int32.reduceLE, Int32.reduceToNatClampNeg, Int32.reduceToInt]
        · simp (decide := true) (implicitDefEqProofs := false) only [f_X12_push, isPad_at, isSide_at, t, s, p2, none3_le, w, i1, i2, r1, r2, y, zO, zR, zA, zT, zu1, zu2, zu3, zu4, gI, gL, pI, pL, pZ, aI, aL, sI, sZ, sL, Option.bind_some, Option.map_some, if_true, if_false, ite_true, ite_false, true_and, and_true, false_and, and_false, or_true, true_or, or_false, false_or, and_self, not_true_eq_false, not_false_eq_true, ↓reduceIte, reduceIte, Nat.reduceAdd, Nat.reduceMul, Nat.reduceSub, Nat.reduceMod, Nat.reduceDiv, Nat.reduceEqDiff, Nat.reduceLT, Nat.reduceLeDiff, Int32.reduceAdd, Int32.reduceSub, Int32.reduceMul, Int32.reduceDiv, Int32.reduceMod, Int32.reduceOfNat, Int32.reduceOfInt, Int32.reduceLT, Int32.reduceLE, Int32.reduceToNatClampNeg, Int32.reduceToInt]
      · rw [if_neg w] at p1
        refine ⟨-9223372036854775808, μ1, μ2, ?_, ?_, hI⟩
        · simp (decide := true) (implicitDefEqProofs := false) only [f_X11_push, isPad_at, isSide_at, t, s, p1, zO, zR, zA, zT, zu1, zu2, zu3, zu4, gI, gL, pI, pL, pZ, aI, aL, sI, sZ, sL, Option.bind_some, Option.map_some, if_true, if_false, ite_true, ite_false, true_and, and_true, false_and, and_false, or_true, true_or, or_false, false_or, and_self, not_true_eq_false, not_false_eq_true, ↓reduceIte, reduceIte, Nat.reduceAdd, Nat.reduceMul, Nat.reduceSub, Nat.reduceMod, Nat.reduceDiv, Nat.reduceEqDiff, Nat.reduceLT, Nat.reduceLeDiff, Int32.reduceAdd, Int32.reduceSub, Int32.reduceMul, Int32.reduceDiv, Int32.reduceMod, Int32.reduceOfNat, Int32.reduceOfInt, Int32.reduceLT, Int32.reduceLE, Int32.reduceToNatClampNeg, Int32.reduceToInt]
        · simp (decide := true) (implicitDefEqProofs := false) only [f_X12_push, isPad_at, isSide_at, t, s, p2, none3_le, w, zO, zR, zA, zT, zu1, zu2, zu3, zu4, gI, gL, pI, pL, pZ, aI, aL, sI, sZ, sL, Option.bind_some, Option.map_some, if_true, if_false, ite_true, ite_false, true_and, and_true, false_and, and_false, or_true, true_or, or_false, false_or, and_self, not_true_eq_false, not_false_eq_true, ↓reduceIte, reduceIte, Nat.reduceAdd, Nat.reduceMul, Nat.reduceSub, Nat.reduceMod, Nat.reduceDiv, Nat.reduceEqDiff, Nat.reduceLT, Nat.reduceLeDiff, Int32.reduceAdd, Int32.reduceSub, Int32.reduceMul, Int32.reduceDiv, Int32.reduceMod, Int32.reduceOfNat, Int32.reduceOfInt, Int32.reduceLT, Int32.reduceLE, Int32.reduceToNatClampNeg, Int32.reduceToInt]

