def upP (c : Nat → Nat → Int) (i : Nat) (x y l : Int) : Nat → Nat → Int := up (up (up c 0 i x) 1 i y) 2 i l
theorem upP_ne {c : Nat → Nat → Int} {i g : Nat} {x y l : Int} (h0 : g ≠ 0) (h1 : g ≠ 1) (h2 : g ≠ 2) : upP c i x y l g = c g := by
  unfold upP; rw [up_ne h2, up_ne h1, up_ne h0]
theorem upP_0 (c : Nat → Nat → Int) (i j : Nat) (x y l : Int) : upP c i x y l 0 j = if j = i then x else c 0 j := by
  unfold upP; rw [up_ne (by decide), up_ne (by decide)]; simp [up]
theorem upP_1 (c : Nat → Nat → Int) (i j : Nat) (x y l : Int) : upP c i x y l 1 j = if j = i then y else c 1 j := by
  unfold upP; rw [up_ne (by decide)]; unfold up; simp
theorem upP_2 (c : Nat → Nat → Int) (i j : Nat) (x y l : Int) : upP c i x y l 2 j = if j = i then l else c 2 j := by
  unfold upP up; simp
theorem BC.pad {c : Nat → Nat → Int} (b : BC c) {i : Nat} {x y l : Int} (hx : -30 ≤ x ∧ x ≤ 30) (hy : -30 ≤ y ∧ y ≤ 30) (hl : 0 ≤ l ∧ l ≤ 9999) : BC (upP c i x y l) := by
  obtain ⟨b1, b2, b3, b4, b5, b6⟩ := b
  refine ⟨fun j hj => ?_, fun j hj => ?_, ?_, ?_, ?_, ?_⟩
  · have := b1 j hj
    rw [upP_0, upP_1]
    split <;> omega
  · have := b2 j hj
    rw [upP_2]
    split <;> omega
  · rw [upP_ne (by decide) (by decide) (by decide)]; exact b3
  · rw [upP_ne (by decide) (by decide) (by decide), upP_ne (by decide) (by decide) (by decide), upP_ne (by decide) (by decide) (by decide), upP_ne (by decide) (by decide) (by decide)]; exact b4
  · intro q hq
    rw [upP_ne (by decide) (by decide) (by decide), upP_ne (by omega) (by omega) (by omega)]; exact b5 q hq
  · rw [upP_ne (by decide) (by decide) (by decide)]; exact b6
theorem place_at {c : Nat → Nat → Int} {μ : Mem} (h : CC 1 c μ) (b : BC c) {i : Nat} (hi : i < 4) {x y l : Int} (b' : BC (upP c i x y l)) : ∃ ν, f_X4_place SX 2 (Int32.ofNat i) (Int32.ofInt x) (Int32.ofInt y) (Int32.ofInt l) μ = some ((), ν) ∧ Fr (fun q => 2 ≤ q ∧ q ≤ 5) μ ν ∧ CC 1 (upP c i x y l) ν := by
  obtain ⟨μa, Ea⟩ : ∃ m : Mem, m = upI (upI (upI μ 3 i (Int32.ofInt x)) 4 i (Int32.ofInt y)) 5 i (Int32.ofInt l) := ⟨_, rfl⟩
  have fa : Fr (fun q => 3 ≤ q ∧ q ≤ 5) μ μa := by rw [Ea]; exact ((Fr.uI (by omega)).tr (Fr.uI (by omega))).tr (Fr.uI (by omega))
  obtain ⟨⟨h1, h2⟩, h3, h4, ⟨h5, h6, h7, h8, h9⟩, h10, h11⟩ := h
  have xa : XY 1 (upP c i x y l) μa := by
    refine ⟨fun j hj => ?_, fun j hj => ?_⟩
    · rw [upP_0]
      have := h1 j hj
      simp only [Nat.reduceAdd, Nat.reduceMul, Nat.reduceMod, Int32.reduceOfNat] at this
      by_cases e : j = i
      · subst e; rw [Ea, if_pos rfl]; simp (decide := true) (implicitDefEqProofs := false) only [zO, zR, zA, zT, zu1, zu2, zu3, zu4, gI, gL, pI, pL, pZ, aI, aL, sI, sZ, sL, Option.bind_some, Option.map_some, if_true, if_false, ite_true, ite_false, true_and, and_true, false_and, and_false, or_true, true_or, or_false, false_or, and_self, not_true_eq_false, not_false_eq_true, ↓reduceIte, reduceIte, Nat.reduceAdd, Nat.reduceMul, Nat.reduceSub, Nat.reduceMod, Nat.reduceDiv, Nat.reduceEqDiff, Nat.reduceLT, Nat.reduceLeDiff, Int32.reduceAdd, Int32.reduceSub, Int32.reduceMul, Int32.reduceDiv, Int32.reduceMod, Int32.reduceOfNat, Int32.reduceOfInt, Int32.reduceLT, Int32.reduceLE, Int32.reduceToNatClampNeg, Int32.reduceToInt]
      · rw [Ea, if_neg e]; simp (decide := true) (implicitDefEqProofs := false) only [e, this, zO, zR, zA, zT, zu1, zu2, zu3, zu4, gI, gL, pI, pL, pZ, aI, aL, sI, sZ, sL, Option.bind_some, Option.map_some, if_true, if_false, ite_true, ite_false, true_and, and_true, false_and, and_false, or_true, true_or, or_false, false_or, and_self, not_true_eq_false, not_false_eq_true, ↓reduceIte, reduceIte, Nat.reduceAdd, Nat.reduceMul, Nat.reduceSub, Nat.reduceMod, Nat.reduceDiv, Nat.reduceEqDiff, Nat.reduceLT, Nat.reduceLeDiff, Int32.reduceAdd, Int32.reduceSub, Int32.reduceMul, Int32.reduceDiv, Int32.reduceMod, Int32.reduceOfNat, Int32.reduceOfInt, Int32.reduceLT, Int32.reduceLE, Int32.reduceToNatClampNeg, Int32.reduceToInt]
    · rw [upP_1]
      have := h2 j hj
      simp only [Nat.reduceAdd, Nat.reduceMul, Nat.reduceMod, Int32.reduceOfNat] at this
      by_cases e : j = i
      · subst e; rw [Ea, if_pos rfl]; simp (decide := true) (implicitDefEqProofs := false) only [zO, zR, zA, zT, zu1, zu2, zu3, zu4, gI, gL, pI, pL, pZ, aI, aL, sI, sZ, sL, Option.bind_some, Option.map_some, if_true, if_false, ite_true, ite_false, true_and, and_true, false_and, and_false, or_true, true_or, or_false, false_or, and_self, not_true_eq_false, not_false_eq_true, ↓reduceIte, reduceIte, Nat.reduceAdd, Nat.reduceMul, Nat.reduceSub, Nat.reduceMod, Nat.reduceDiv, Nat.reduceEqDiff, Nat.reduceLT, Nat.reduceLeDiff, Int32.reduceAdd, Int32.reduceSub, Int32.reduceMul, Int32.reduceDiv, Int32.reduceMod, Int32.reduceOfNat, Int32.reduceOfInt, Int32.reduceLT, Int32.reduceLE, Int32.reduceToNatClampNeg, Int32.reduceToInt]
      · rw [Ea, if_neg e]; simp (decide := true) (implicitDefEqProofs := false) only [e, this, zO, zR, zA, zT, zu1, zu2, zu3, zu4, gI, gL, pI, pL, pZ, aI, aL, sI, sZ, sL, Option.bind_some, Option.map_some, if_true, if_false, ite_true, ite_false, true_and, and_true, false_and, and_false, or_true, true_or, or_false, false_or, and_self, not_true_eq_false, not_false_eq_true, ↓reduceIte, reduceIte, Nat.reduceAdd, Nat.reduceMul, Nat.reduceSub, Nat.reduceMod, Nat.reduceDiv, Nat.reduceEqDiff, Nat.reduceLT, Nat.reduceLeDiff, Int32.reduceAdd, Int32.reduceSub, Int32.reduceMul, Int32.reduceDiv, Int32.reduceMod, Int32.reduceOfNat, Int32.reduceOfInt, Int32.reduceLT, Int32.reduceLE, Int32.reduceToNatClampNeg, Int32.reduceToInt]
  have la : ∀ j, j < 4 → μa.1 5 j = Int32.ofInt (upP c i x y l 2 j) := by
    intro j hj
    rw [upP_2]
    have := h3 j hj
    simp only [Nat.reduceAdd, Nat.reduceMul, Nat.reduceMod, Int32.reduceOfNat] at this
    by_cases e : j = i
    · subst e; rw [Ea, if_pos rfl]; simp (decide := true) (implicitDefEqProofs := false) only [zO, zR, zA, zT, zu1, zu2, zu3, zu4, gI, gL, pI, pL, pZ, aI, aL, sI, sZ, sL, Option.bind_some, Option.map_some, if_true, if_false, ite_true, ite_false, true_and, and_true, false_and, and_false, or_true, true_or, or_false, false_or, and_self, not_true_eq_false, not_false_eq_true, ↓reduceIte, reduceIte, Nat.reduceAdd, Nat.reduceMul, Nat.reduceSub, Nat.reduceMod, Nat.reduceDiv, Nat.reduceEqDiff, Nat.reduceLT, Nat.reduceLeDiff, Int32.reduceAdd, Int32.reduceSub, Int32.reduceMul, Int32.reduceDiv, Int32.reduceMod, Int32.reduceOfNat, Int32.reduceOfInt, Int32.reduceLT, Int32.reduceLE, Int32.reduceToNatClampNeg, Int32.reduceToInt]
    · rw [Ea, if_neg e]; simp (decide := true) (implicitDefEqProofs := false) only [e, this, zO, zR, zA, zT, zu1, zu2, zu3, zu4, gI, gL, pI, pL, pZ, aI, aL, sI, sZ, sL, Option.bind_some, Option.map_some, if_true, if_false, ite_true, ite_false, true_and, and_true, false_and, and_false, or_true, true_or, or_false, false_or, and_self, not_true_eq_false, not_false_eq_true, ↓reduceIte, reduceIte, Nat.reduceAdd, Nat.reduceMul, Nat.reduceSub, Nat.reduceMod, Nat.reduceDiv, Nat.reduceEqDiff, Nat.reduceLT, Nat.reduceLeDiff, Int32.reduceAdd, Int32.reduceSub, Int32.reduceMul, Int32.reduceDiv, Int32.reduceMod, Int32.reduceOfNat, Int32.reduceOfInt, Int32.reduceLT, Int32.reduceLE, Int32.reduceToNatClampNeg, Int32.reduceToInt]
  obtain ⟨ν, p, f, d⟩ := measure_at ck1 xa b'.1
  have f' : Fr (fun q => q = 2) μa ν := f
  have F : Fr (fun q => 2 ≤ q ∧ q ≤ 5) μ ν := (fa.mo (fun k q => by omega)).tr (f'.mo (fun k q => by omega))
  simp only [Nat.reduceAdd, Nat.reduceMul, Nat.reduceMod, Int32.reduceOfNat] at p
  refine ⟨ν, ?_, F, ?_⟩
  · simp (decide := true) (implicitDefEqProofs := false) only [f_X4_place, zin i 4 hi (by decide), ztn i (by omega), ← Ea, p, zO, zR, zA, zT, zu1, zu2, zu3, zu4, gI, gL, pI, pL, pZ, aI, aL, sI, sZ, sL, Option.bind_some, Option.map_some, if_true, if_false, ite_true, ite_false, true_and, and_true, false_and, and_false, or_true, true_or, or_false, false_or, and_self, not_true_eq_false, not_false_eq_true, ↓reduceIte, reduceIte, Nat.reduceAdd, Nat.reduceMul, Nat.reduceSub, Nat.reduceMod, Nat.reduceDiv, Nat.reduceEqDiff, Nat.reduceLT, Nat.reduceLeDiff, Int32.reduceAdd, Int32.reduceSub, Int32.reduceMul, Int32.reduceDiv, Int32.reduceMod, Int32.reduceOfNat, Int32.reduceOfInt, Int32.reduceLT, Int32.reduceLE, Int32.reduceToNatClampNeg, Int32.reduceToInt]
  · have e1 : ∀ q, ¬ (2 ≤ q ∧ q ≤ 5) → ν.1 q = μ.1 q := fun q hq => (F q hq).1
    have e2 : ∀ q, q ≠ 2 → ν.1 q = μa.1 q := fun q hq => (f' q hq).1
    have n : ∀ g, g ≠ 0 → g ≠ 1 → g ≠ 2 → upP c i x y l g = c g := fun g a b d => upP_ne a b d
    refine ⟨⟨fun j hj => ?_, fun j hj => ?_⟩, fun j hj => ?_, d, ⟨fun j hj => ?_, fun j hj => ?_, fun j hj => ?_, fun j hj => ?_, ?_⟩, fun q hq => ⟨fun j hj => ?_, ?_⟩, fun j hj => ?_⟩
    · rw [e2 _ (by omega)]; exact xa.1 j hj
    · rw [e2 _ (by omega)]; exact xa.2 j hj
    · rw [e2 _ (by omega)]; exact la j hj
    · rw [e1 _ (by omega), n _ (by decide) (by decide) (by decide)]; exact h5 j hj
    · rw [e1 _ (by omega), n _ (by decide) (by decide) (by decide)]; exact h6 j hj
    · rw [e1 _ (by omega), n _ (by decide) (by decide) (by decide)]; exact h7 j hj
    · rw [e1 _ (by omega), n _ (by decide) (by decide) (by decide)]; exact h8 j hj
    · have : QD 1 (upP c i x y l) ν = QD 1 c μ := by
        unfold QD nP
        rw [e1 _ (by omega), n 7 (by decide) (by decide) (by decide), n 3 (by decide) (by decide) (by decide), n 4 (by decide) (by decide) (by decide), n 5 (by decide) (by decide) (by decide), n 6 (by decide) (by decide) (by decide)]
      rw [this]; exact h9
    · rw [e1 _ (by omega), n _ (by omega) (by omega) (by omega)]; exact (h10 q hq).1 j hj
    · rw [e1 _ (by omega), n _ (by decide) (by decide) (by decide)]; exact (h10 q hq).2
    · rw [e1 _ (by omega), n _ (by decide) (by decide) (by decide)]; exact h11 j hj
theorem MM.pad {c : Nat → Nat → Int} {μ : Mem} (h : MM c μ) {i : Nat} {x y l : Int} : MM (upP c i x y l) (upI (upI (upI μ 82 (3 * i) (Int32.ofInt x)) 82 (3 * i + 1) (Int32.ofInt y)) 82 (3 * i + 2) (Int32.ofInt l)) := by
  obtain ⟨ν, Eν⟩ : ∃ m : Mem, m = upI (upI (upI μ 82 (3 * i) (Int32.ofInt x)) 82 (3 * i + 1) (Int32.ofInt y)) 82 (3 * i + 2) (Int32.ofInt l) := ⟨_, rfl⟩
  rw [← Eν]
  have f : Fr (fun q => q = 82) μ ν := by rw [Eν]; refine Fr.tr (Fr.tr (Fr.uI ?_) (Fr.uI ?_)) (Fr.uI ?_) <;> rfl
  have e1 : ∀ q, q ≠ 82 → ν.1 q = μ.1 q := fun q hq => (f q hq).1
  have n : ∀ g, g ≠ 0 → g ≠ 1 → g ≠ 2 → upP c i x y l g = c g := fun g a b d => upP_ne a b d
  obtain ⟨h1, h2, h3, h4⟩ := h
  refine ⟨fun j hj => ?_, ?_, ?_, ?_⟩
  · have := h1 j hj
    rw [upP_0, upP_1, upP_2, Eν]
    simp only [zu1, true_and]
    by_cases e : j = i
    · subst e
      refine ⟨?_, ?_, ?_⟩
      · rw [if_neg (by omega), if_neg (by omega), if_pos rfl, if_pos rfl]
      · rw [if_neg (by omega), if_pos rfl, if_pos rfl]
      · rw [if_pos rfl, if_pos rfl]
    · refine ⟨?_, ?_, ?_⟩ <;> rw [if_neg (by omega), if_neg (by omega), if_neg (by omega), if_neg e]
      · exact this.1
      · exact this.2.1
      · exact this.2.2
  · unfold Rw; rw [e1 81 (by decide), e1 83 (by decide), e1 84 (by decide), e1 85 (by decide), e1 86 (by decide), n 7 (by decide) (by decide) (by decide), n 3 (by decide) (by decide) (by decide), n 4 (by decide) (by decide) (by decide), n 5 (by decide) (by decide) (by decide), n 6 (by decide) (by decide) (by decide)]; exact h2
  · intro q hq
    rw [e1 87 (by decide), e1 88 (by decide), e1 89 (by decide), n 12 (by decide) (by decide) (by decide), n (9 + q) (by omega) (by omega) (by omega)]; exact h3 q hq
  · unfold Rw; rw [e1 90 (by decide), n 8 (by decide) (by decide) (by decide)]; exact h4
theorem ok_pad {μ : Mem} (h : INV μ) (a1 a2 a3 a4 : Int32) : OKop (f_X11_pad SX 0 a1 a2 a3 a4) (f_X12_pad SX 81 a1 a2 a3 a4) μ := by
  obtain ⟨c, b, h1, h2⟩ := h.1
  rcases wbN a1 3 (by decide) with t | ⟨t, i, hi, rfl⟩
  · simp only [Nat.reduceAdd, Nat.reduceMul, Nat.reduceMod, Int32.reduceOfNat] at t
    refine ⟨-1, μ, μ, ?_, ?_, h⟩
    · simp (decide := true) (implicitDefEqProofs := false) only [f_X11_pad, isPad_at, t, zO, zR, zA, zT, zu1, zu2, zu3, zu4, gI, gL, pI, pL, pZ, aI, aL, sI, sZ, sL, Option.bind_some, Option.map_some, if_true, if_false, ite_true, ite_false, true_and, and_true, false_and, and_false, or_true, true_or, or_false, false_or, and_self, not_true_eq_false, not_false_eq_true, ↓reduceIte, reduceIte, Nat.reduceAdd, Nat.reduceMul, Nat.reduceSub, Nat.reduceMod, Nat.reduceDiv, Nat.reduceEqDiff, Nat.reduceLT, Nat.reduceLeDiff, Int32.reduceAdd, Int32.reduceSub, Int32.reduceMul, Int32.reduceDiv, Int32.reduceMod, Int32.reduceOfNat, Int32.reduceOfInt, Int32.reduceLT, Int32.reduceLE, Int32.reduceToNatClampNeg, Int32.reduceToInt]
    · simp (decide := true) (implicitDefEqProofs := false) only [f_X12_pad, isPad_at, t, zO, zR, zA, zT, zu1, zu2, zu3, zu4, gI, gL, pI, pL, pZ, aI, aL, sI, sZ, sL, Option.bind_some, Option.map_some, if_true, if_false, ite_true, ite_false, true_and, and_true, false_and, and_false, or_true, true_or, or_false, false_or, and_self, not_true_eq_false, not_false_eq_true, ↓reduceIte, reduceIte, Nat.reduceAdd, Nat.reduceMul, Nat.reduceSub, Nat.reduceMod, Nat.reduceDiv, Nat.reduceEqDiff, Nat.reduceLT, Nat.reduceLeDiff, Int32.reduceAdd, Int32.reduceSub, Int32.reduceMul, Int32.reduceDiv, Int32.reduceMod, Int32.reduceOfNat, Int32.reduceOfInt, Int32.reduceLT, Int32.reduceLE, Int32.reduceToNatClampNeg, Int32.reduceToInt]
  · simp only [Nat.reduceAdd, Nat.reduceMul, Nat.reduceMod, Int32.reduceOfNat] at t
    have m30 : (-30 : Int32) = Int32.ofInt (-30) := by decide
    rcases wbI a2 (-30) 30 (by decide) (by decide) (by decide) (by decide) with s | ⟨s, x, x1, x2, rfl⟩
    · have s' : wb a2 (-30) 30 = 0 := by rw [m30]; exact s
      refine ⟨-2, μ, μ, ?_, ?_, h⟩
      · simp (decide := true) (implicitDefEqProofs := false) only [f_X11_pad, isPad_at, t, within_at, s', zO, zR, zA, zT, zu1, zu2, zu3, zu4, gI, gL, pI, pL, pZ, aI, aL, sI, sZ, sL, Option.bind_some, Option.map_some, if_true, if_false, ite_true, ite_false, true_and, and_true, false_and, and_false, or_true, true_or, or_false, false_or, and_self, not_true_eq_false, not_false_eq_true, ↓reduceIte, reduceIte, Nat.reduceAdd, Nat.reduceMul, Nat.reduceSub, Nat.reduceMod, Nat.reduceDiv, Nat.reduceEqDiff, Nat.reduceLT, Nat.reduceLeDiff, Int32.reduceAdd, Int32.reduceSub, Int32.reduceMul, Int32.reduceDiv, Int32.reduceMod, Int32.reduceOfNat, Int32.reduceOfInt, Int32.reduceLT, Int32.reduceLE, Int32.reduceToNatClampNeg, Int32.reduceToInt]
      · simp (decide := true) (implicitDefEqProofs := false) only [f_X12_pad, isPad_at, t, in_at, s', zO, zR, zA, zT, zu1, zu2, zu3, zu4, gI, gL, pI, pL, pZ, aI, aL, sI, sZ, sL, Option.bind_some, Option.map_some, if_true, if_false, ite_true, ite_false, true_and, and_true, false_and, and_false, or_true, true_or, or_false, false_or, and_self, not_true_eq_false, not_false_eq_true, ↓reduceIte, reduceIte, Nat.reduceAdd, Nat.reduceMul, Nat.reduceSub, Nat.reduceMod, Nat.reduceDiv, Nat.reduceEqDiff, Nat.reduceLT, Nat.reduceLeDiff, Int32.reduceAdd, Int32.reduceSub, Int32.reduceMul, Int32.reduceDiv, Int32.reduceMod, Int32.reduceOfNat, Int32.reduceOfInt, Int32.reduceLT, Int32.reduceLE, Int32.reduceToNatClampNeg, Int32.reduceToInt]
    · have s' : wb (Int32.ofInt x) (-30) 30 = 1 := by rw [m30]; exact s
      rcases wbI a3 (-30) 30 (by decide) (by decide) (by decide) (by decide) with r | ⟨r, y, y1, y2, rfl⟩
      · have r' : wb a3 (-30) 30 = 0 := by rw [m30]; exact r
        refine ⟨-2, μ, μ, ?_, ?_, h⟩
        · simp (decide := true) (implicitDefEqProofs := false) only [f_X11_pad, isPad_at, t, within_at, s', r', zO, zR, zA, zT, zu1, zu2, zu3, zu4, gI, gL, pI, pL, pZ, aI, aL, sI, sZ, sL, Option.bind_some, Option.map_some, if_true, if_false, ite_true, ite_false, true_and, and_true, false_and, and_false, or_true, true_or, or_false, false_or, and_self, not_true_eq_false, not_false_eq_true, ↓reduceIte, reduceIte, Nat.reduceAdd, Nat.reduceMul, Nat.reduceSub, Nat.reduceMod, Nat.reduceDiv, Nat.reduceEqDiff, Nat.reduceLT, Nat.reduceLeDiff, Int32.reduceAdd, Int32.reduceSub, Int32.reduceMul, Int32.reduceDiv, Int32.reduceMod, Int32.reduceOfNat, Int32.reduceOfInt, Int32.reduceLT, Int32.reduceLE, Int32.reduceToNatClampNeg, Int32.reduceToInt]
        · simp (decide := true) (implicitDefEqProofs := false) only [f_X12_pad, isPad_at, t, in_at, s', r', zO, zR, zA, zT, zu1, zu2, zu3, zu4, gI, gL, pI, pL, pZ, aI, aL, sI, sZ, sL, Option.bind_some, Option.map_some, if_true, if_false, ite_true, ite_false, true_and, and_true, false_and, and_false, or_true, true_or, or_false, false_or, and_self, not_true_eq_false, not_false_eq_true, ↓reduceIte, reduceIte, Nat.reduceAdd, Nat.reduceMul, Nat.reduceSub, Nat.reduceMod, Nat.reduceDiv, Nat.reduceEqDiff, Nat.reduceLT, Nat.reduceLeDiff, Int32.reduceAdd, Int32.reduceSub, Int32.reduceMul, Int32.reduceDiv, Int32.reduceMod, Int32.reduceOfNat, Int32.reduceOfInt, Int32.reduceLT, Int32.reduceLE, Int32.reduceToNatClampNeg, Int32.reduceToInt]
      · have r' : wb (Int32.ofInt y) (-30) 30 = 1 := by rw [m30]; exact r
        rcases wbI a4 0 9999 (by decide) (by decide) (by decide) (by decide) with u | ⟨u, l, l1, l2, rfl⟩
        · have u' : wb a4 0 9999 = 0 := u
          refine ⟨-2, μ, μ, ?_, ?_, h⟩
          · simp (decide := true) (implicitDefEqProofs := false) only [f_X11_pad, isPad_at, t, within_at, s', r', u', zO, zR, zA, zT, zu1, zu2, zu3, zu4, gI, gL, pI, pL, pZ, aI, aL, sI, sZ, sL, Option.bind_some, Option.map_some, if_true, if_false, ite_true, ite_false, true_and, and_true, false_and, and_false, or_true, true_or, or_false, false_or, and_self, not_true_eq_false, not_false_eq_true, ↓reduceIte, reduceIte, Nat.reduceAdd, Nat.reduceMul, Nat.reduceSub, Nat.reduceMod, Nat.reduceDiv, Nat.reduceEqDiff, Nat.reduceLT, Nat.reduceLeDiff, Int32.reduceAdd, Int32.reduceSub, Int32.reduceMul, Int32.reduceDiv, Int32.reduceMod, Int32.reduceOfNat, Int32.reduceOfInt, Int32.reduceLT, Int32.reduceLE, Int32.reduceToNatClampNeg, Int32.reduceToInt]
          · simp (decide := true) (implicitDefEqProofs := false) only [f_X12_pad, isPad_at, t, in_at, s', r', u', zO, zR, zA, zT, zu1, zu2, zu3, zu4, gI, gL, pI, pL, pZ, aI, aL, sI, sZ, sL, Option.bind_some, Option.map_some, if_true, if_false, ite_true, ite_false, true_and, and_true, false_and, and_false, or_true, true_or, or_false, false_or, and_self, not_true_eq_false, not_false_eq_true, ↓reduceIte, reduceIte, Nat.reduceAdd, Nat.reduceMul, Nat.reduceSub, Nat.reduceMod, Nat.reduceDiv, Nat.reduceEqDiff, Nat.reduceLT, Nat.reduceLeDiff, Int32.reduceAdd, Int32.reduceSub, Int32.reduceMul, Int32.reduceDiv, Int32.reduceMod, Int32.reduceOfNat, Int32.reduceOfInt, Int32.reduceLT, Int32.reduceLE, Int32.reduceToNatClampNeg, Int32.reduceToInt]
        · have u' : wb (Int32.ofInt l) 0 9999 = 1 := u
          have hi4 : i < 4 := by omega
          have b' := b.pad (i := i) ⟨x1, x2⟩ ⟨y1, y2⟩ ⟨l1, l2⟩
          obtain ⟨ν, p, f, c1⟩ := place_at h1 b hi4 b'
          have M1 : MM c ν := h2.w (f.fm (by omega)) (fun q g1 g2 => by omega) (fun q => q.elim)
          have M2 := M1.pad (i := i) (x := x) (y := y) (l := l)
          obtain ⟨ν2, E2⟩ : ∃ m : Mem, m = upI (upI (upI ν 82 (3 * i) (Int32.ofInt x)) 82 (3 * i + 1) (Int32.ofInt y)) 82 (3 * i + 2) (Int32.ofInt l) := ⟨_, rfl⟩
          rw [← E2] at M2
          have f2 : FM (fun q => q = 82) (fun _ => False) ν ν2 := by rw [E2]; refine FM.tr (FM.tr (FM.uI ?_) (FM.uI ?_)) (FM.uI ?_) <;> exact Or.inl ⟨by decide, rfl⟩
          have sa := stands_at M2 b'.1
          have sv := c1.2.2.1.1
          simp only [Nat.reduceAdd, Nat.reduceMul, Nat.reduceMod, Int32.reduceOfNat] at sv
          have e0 : 3 * Int32.ofNat i = Int32.ofNat (3 * i) ∧ Int32.ofNat (3 * i) + 1 = Int32.ofNat (3 * i + 1) ∧ Int32.ofNat (3 * i) + 2 = Int32.ofNat (3 * i + 2) := by
            have e : i = 0 ∨ i = 1 ∨ i = 2 ∨ i = 3 := by omega
            rcases e with rfl | rfl | rfl | rfl <;> decide
          have hI : INV ν2 := h.cr ((crX f (fun q hq => by omega)).tr (crM f2 (fun q hq => by omega) (fun q hq => hq.elim))) ⟨_, b', c1.f f2 (fun q g1 g2 => ⟨by omega, by omega⟩), M2⟩
          by_cases w : standB (upP c i x y l) = 0
          · refine ⟨0, ν, ν2, ?_, ?_, hI⟩
            · simp (decide := true) (implicitDefEqProofs := false) only [f_X11_pad, isPad_at, t, within_at, s', r', u', p, sv, w, zO, zR, zA, zT, zu1, zu2, zu3, zu4, gI, gL, pI, pL, pZ, aI, aL, sI, sZ, sL, Option.bind_some, Option.map_some, if_true, if_false, ite_true, ite_false, true_and, and_true, false_and, and_false, or_true, true_or, or_false, false_or, and_self, not_true_eq_false, not_false_eq_true, ↓reduceIte, reduceIte, Nat.reduceAdd, Nat.reduceMul, Nat.reduceSub, Nat.reduceMod, Nat.reduceDiv, Nat.reduceEqDiff, Nat.reduceLT, Nat.reduceLeDiff, Int32.reduceAdd, Int32.reduceSub, Int32.reduceMul, Int32.reduceDiv, Int32.reduceMod, Int32.reduceOfNat, Int32.reduceOfInt, Int32.reduceLT, Int32.reduceLE, Int32.reduceToNatClampNeg, Int32.reduceToInt]
            · simp (decide := true) (implicitDefEqProofs := false) only [f_X12_pad, isPad_at, t, in_at, s', r', u', e0, zin (3 * i) 12 (by omega) (by decide), ztn (3 * i) (by omega), zin (3 * i + 1) 12 (by omega) (by decide), ztn (3 * i + 1) (by omega), zin (3 * i + 2) 12 (by omega) (by decide), ztn (3 * i + 2) (by omega), ← E2, sa, w, zO, zR, zA, zT, zu1, zu2, zu3, zu4, gI, gL, pI, pL, pZ, aI, aL, sI, sZ, sL, Option.bind_some, Option.map_some, if_true, if_false, ite_true, ite_false, true_and, and_true, false_and, and_false, or_true, true_or, or_false, false_or, and_self, not_true_eq_false, not_false_eq_true, ↓reduceIte, reduceIte, Nat.reduceAdd, Nat.reduceMul, Nat.reduceSub, Nat.reduceMod, Nat.reduceDiv, Nat.reduceEqDiff, Nat.reduceLT, Nat.reduceLeDiff, Int32.reduceAdd, Int32.reduceSub, Int32.reduceMul, Int32.reduceDiv, Int32.reduceMod, Int32.reduceOfNat, Int32.reduceOfInt, Int32.reduceLT, Int32.reduceLE, Int32.reduceToNatClampNeg, Int32.reduceToInt]
          · refine ⟨1, ν, ν2, ?_, ?_, hI⟩
            · simp (decide := true) (implicitDefEqProofs := false) only [f_X11_pad, isPad_at, t, within_at, s', r', u', p, sv, w, zO, zR, zA, zT, zu1, zu2, zu3, zu4, gI, gL, pI, pL, pZ, aI, aL, sI, sZ, sL, Option.bind_some, Option.map_some, if_true, if_false, ite_true, ite_false, true_and, and_true, false_and, and_false, or_true, true_or, or_false, false_or, and_self, not_true_eq_false, not_false_eq_true, ↓reduceIte, reduceIte, Nat.reduceAdd, Nat.reduceMul, Nat.reduceSub, Nat.reduceMod, Nat.reduceDiv, Nat.reduceEqDiff, Nat.reduceLT, Nat.reduceLeDiff, Int32.reduceAdd, Int32.reduceSub, Int32.reduceMul, Int32.reduceDiv, Int32.reduceMod, Int32.reduceOfNat, Int32.reduceOfInt, Int32.reduceLT, Int32.reduceLE, Int32.reduceToNatClampNeg, Int32.reduceToInt]
            · simp (decide := true) (implicitDefEqProofs := false) only [f_X12_pad, isPad_at, t, in_at, s', r', u', e0, zin (3 * i) 12 (by omega) (by decide), ztn (3 * i) (by omega), zin (3 * i + 1) 12 (by omega) (by decide), ztn (3 * i + 1) (by omega), zin (3 * i + 2) 12 (by omega) (by decide), ztn (3 * i + 2) (by omega), ← E2, sa, w, zO, zR, zA, zT, zu1, zu2, zu3, zu4, gI, gL, pI, pL, pZ, aI, aL, sI, sZ, sL, Option.bind_some, Option.map_some, if_true, if_false, ite_true, ite_false, true_and, and_true, false_and, and_false, or_true, true_or, or_false, false_or, and_self, not_true_eq_false, not_false_eq_true, ↓reduceIte, reduceIte, Nat.reduceAdd, Nat.reduceMul, Nat.reduceSub, Nat.reduceMod, Nat.reduceDiv, Nat.reduceEqDiff, Nat.reduceLT, Nat.reduceLeDiff, Int32.reduceAdd, Int32.reduceSub, Int32.reduceMul, Int32.reduceDiv, Int32.reduceMod, Int32.reduceOfNat, Int32.reduceOfInt, Int32.reduceLT, Int32.reduceLE, Int32.reduceToNatClampNeg, Int32.reduceToInt]

