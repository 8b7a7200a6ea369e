def FC (k : Nat → Prop) (μ ν : Mem) : Prop := FM k (fun _ => False) μ ν
theorem FC.u {k : Nat → Prop} {μ : Mem} {o j : Nat} {v : Int32} (h1 : o ≠ 81) (h : k o) : FC k μ (upI μ o j v) := FM.uI (Or.inl ⟨h1, h⟩)
theorem FC.tr {k : Nat → Prop} {a b c : Mem} (h : FC k a b) (g : FC k b c) : FC k a c := FM.tr h g
theorem FC.e {k : Nat → Prop} {μ ν : Mem} (h : FC k μ ν) (q : Nat) (h1 : q ≠ 81) (h2 : ¬ k q) : ν.1 q = μ.1 q := (h.1 q h1 h2).1
theorem undA (μ0 : Mem) : ∃ ν, lpN (l_X12_undo_12 SX 81) fu (0, μ0) = b_X12_undo_36 SX 81 ν ∧ FC (fun q => q = 82) μ0 ν ∧ ∀ j, j < 12 → ν.1 82 j = μ0.1 91 j := by
  refine lpG (N := 12) (P := fun i ν => FC (fun q => q = 82) μ0 ν ∧ ∀ j, j < i → ν.1 82 j = μ0.1 91 j) ?_ ?_ (by decide) ⟨FM.rf, fun j hj => by omega⟩
  · rintro self i μ hi ⟨f, g⟩
    have lf : ((12 : Int32) ≤ Int32.ofNat i) = False := leF (n := 12) (by omega) (by decide)
    refine ⟨upI μ 82 i (μ.1 91 i), by
      simp (decide := true) (implicitDefEqProofs := false) only [l_X12_undo_12, lf, zin i 12 hi (by decide), ztn i (by omega), zin i 130 (by omega) (by decide), ofN1 i, zO, zR, zA, zT, zu1, zu2, zu3, zu4, gI, gL, pI, pL, pZ, aI, aL, sI, sZ, sL, Option.bind_some, Option.map_some, if_true, if_false, ite_true, ite_false, true_and, and_true, false_and, and_false, or_true, true_or, or_false, false_or, and_self, not_true_eq_false, not_false_eq_true, ↓reduceIte, reduceIte, Nat.reduceAdd, Nat.reduceMul, Nat.reduceSub, Nat.reduceMod, Nat.reduceDiv, Nat.reduceEqDiff, Nat.reduceLT, Nat.reduceLeDiff, Int32.reduceAdd, Int32.reduceSub, Int32.reduceMul, Int32.reduceDiv, Int32.reduceMod, Int32.reduceOfNat, Int32.reduceOfInt, Int32.reduceLT, Int32.reduceLE, Int32.reduceToNatClampNeg, Int32.reduceToInt], f.tr (FC.u (by decide) rfl), fun j hj => ?_⟩
    rw [zu1]
    by_cases e : j = i
    · rw [if_pos (by first | exact ⟨rfl, e⟩ | exact ⟨trivial, e⟩), f.e 91 (by decide) (by decide), e]
    · rw [if_neg (fun q => e q.2)]; exact g j (by omega)
  · rintro self μ -
    simp (decide := true) (implicitDefEqProofs := false) only [l_X12_undo_12, zO, zR, zA, zT, zu1, zu2, zu3, zu4, gI, gL, pI, pL, pZ, aI, aL, sI, sZ, sL, Option.bind_some, Option.map_some, if_true, if_false, ite_true, ite_false, true_and, and_true, false_and, and_false, or_true, true_or, or_false, false_or, and_self, not_true_eq_false, not_false_eq_true, ↓reduceIte, reduceIte, Nat.reduceAdd, Nat.reduceMul, Nat.reduceSub, Nat.reduceMod, Nat.reduceDiv, Nat.reduceEqDiff, Nat.reduceLT, Nat.reduceLeDiff, Int32.reduceAdd, Int32.reduceSub, Int32.reduceMul, Int32.reduceDiv, Int32.reduceMod, Int32.reduceOfNat, Int32.reduceOfInt, Int32.reduceLT, Int32.reduceLE, Int32.reduceToNatClampNeg, Int32.reduceToInt]
theorem undB (μ0 : Mem) : ∃ ν, lpN (l_X12_undo_38 SX 81) fu (0, μ0) = b_X12_undo_110 SX 81 ν ∧ FC (fun q => 83 ≤ q ∧ q ≤ 86) μ0 ν ∧ ∀ j, j < 8 → ν.1 83 j = μ0.1 91 (12 + j) ∧ ν.1 84 j = μ0.1 91 (20 + j) ∧ ν.1 85 j = μ0.1 91 (28 + j) ∧ ν.1 86 j = μ0.1 91 (36 + j) := by
  refine lpG (N := 8) (P := fun i ν => FC (fun q => 83 ≤ q ∧ q ≤ 86) μ0 ν ∧ ∀ j, j < i → ν.1 83 j = μ0.1 91 (12 + j) ∧ ν.1 84 j = μ0.1 91 (20 + j) ∧ ν.1 85 j = μ0.1 91 (28 + j) ∧ ν.1 86 j = μ0.1 91 (36 + j)) ?_ ?_ (by decide) ⟨FM.rf, fun j hj => by omega⟩
  · rintro self i μ hi ⟨f, g⟩
    have lf : ((8 : Int32) ≤ Int32.ofNat i) = False := leF (n := 8) (by omega) (by decide)
    have a1 : (12 : Int32) + Int32.ofNat i = Int32.ofNat (12 + i) := adN 12 i (by decide)
    have a2 : (20 : Int32) + Int32.ofNat i = Int32.ofNat (20 + i) := adN 20 i (by decide)
    have a3 : (28 : Int32) + Int32.ofNat i = Int32.ofNat (28 + i) := adN 28 i (by decide)
    have a4 : (36 : Int32) + Int32.ofNat i = Int32.ofNat (36 + i) := adN 36 i (by decide)
    refine ⟨upI (upI (upI (upI μ 83 i (μ.1 91 (12 + i))) 84 i (μ.1 91 (20 + i))) 85 i (μ.1 91 (28 + i))) 86 i (μ.1 91 (36 + i)), by
      simp (decide := true) (implicitDefEqProofs := false) only [l_X12_undo_38, lf, a1, a2, a3, a4, zin i 8 hi (by decide), ztn i (by omega), zin (12 + i) 130 (by omega) (by decide), ztn (12 + i) (by omega), zin (20 + i) 130 (by omega) (by decide), ztn (20 + i) (by omega), zin (28 + i) 130 (by omega) (by decide), ztn (28 + i) (by omega), zin (36 + i) 130 (by omega) (by decide), ztn (36 + i) (by omega), ofN1 i, zO, zR, zA, zT, zu1, zu2, zu3, zu4, gI, gL, pI, pL, pZ, aI, aL, sI, sZ, sL, Option.bind_some, Option.map_some, if_true, if_false, ite_true, ite_false, true_and, and_true, false_and, and_false, or_true, true_or, or_false, false_or, and_self, not_true_eq_false, not_false_eq_true, ↓reduceIte, reduceIte, Nat.reduceAdd, Nat.reduceMul, Nat.reduceSub, Nat.reduceMod, Nat.reduceDiv, Nat.reduceEqDiff, Nat.reduceLT, Nat.reduceLeDiff, Int32.reduceAdd, Int32.reduceSub, Int32.reduceMul, Int32.reduceDiv, Int32.reduceMod, Int32.reduceOfNat, Int32.reduceOfInt, Int32.reduceLT, Int32.reduceLE, Int32.reduceToNatClampNeg, Int32.reduceToInt], f.tr (FC.tr (FC.tr (FC.tr (FC.u (by decide) (by omega)) (FC.u (by decide) (by omega))) (FC.u (by decide) (by omega))) (FC.u (by decide) (by omega))), fun j hj => ?_⟩
    simp only [zu1]
    rw [f.e 91 (by decide) (by omega)]
    by_cases e : j = i
    · subst e
      refine ⟨?_, ?_, ?_, ?_⟩
      · rw [if_neg (by omega), if_neg (by omega), if_neg (by omega), if_pos (by first | omega | exact ⟨trivial, by omega⟩ | exact ⟨trivial, trivial⟩)]
      · rw [if_neg (by omega), if_neg (by omega), if_pos (by first | omega | exact ⟨trivial, by omega⟩ | exact ⟨trivial, trivial⟩)]
      · rw [if_neg (by omega), if_pos (by first | omega | exact ⟨trivial, by omega⟩ | exact ⟨trivial, trivial⟩)]
      · rw [if_pos (by first | omega | exact ⟨trivial, by omega⟩ | exact ⟨trivial, trivial⟩)]
    · obtain ⟨q1, q2, q3, q4⟩ := g j (by omega)
      refine ⟨?_, ?_, ?_, ?_⟩
      · rw [if_neg (by omega), if_neg (by omega), if_neg (by omega), if_neg (by omega)]; exact q1
      · rw [if_neg (by omega), if_neg (by omega), if_neg (by omega), if_neg (by omega)]; exact q2
      · rw [if_neg (by omega), if_neg (by omega), if_neg (by omega), if_neg (by omega)]; exact q3
      · rw [if_neg (by omega), if_neg (by omega), if_neg (by omega), if_neg (by omega)]; exact q4
  · rintro self μ -
    simp (decide := true) (implicitDefEqProofs := false) only [l_X12_undo_38, zO, zR, zA, zT, zu1, zu2, zu3, zu4, gI, gL, pI, pL, pZ, aI, aL, sI, sZ, sL, Option.bind_some, Option.map_some, if_true, if_false, ite_true, ite_false, true_and, and_true, false_and, and_false, or_true, true_or, or_false, false_or, and_self, not_true_eq_false, not_false_eq_true, ↓reduceIte, reduceIte, Nat.reduceAdd, Nat.reduceMul, Nat.reduceSub, Nat.reduceMod, Nat.reduceDiv, Nat.reduceEqDiff, Nat.reduceLT, Nat.reduceLeDiff, Int32.reduceAdd, Int32.reduceSub, Int32.reduceMul, Int32.reduceDiv, Int32.reduceMod, Int32.reduceOfNat, Int32.reduceOfInt, Int32.reduceLT, Int32.reduceLE, Int32.reduceToNatClampNeg, Int32.reduceToInt]
theorem undC (μ0 : Mem) : ∃ ν, lpN (l_X12_undo_112 SX 81) fu (0, μ0) = b_X12_undo_154 SX 81 ν ∧ FC (fun q => q = 88 ∨ q = 89) μ0 ν ∧ ∀ j, j < 30 → ν.1 88 j = μ0.1 91 (44 + j) ∧ ν.1 89 j = μ0.1 91 (74 + j) := by
  refine lpG (N := 30) (P := fun i ν => FC (fun q => q = 88 ∨ q = 89) μ0 ν ∧ ∀ j, j < i → ν.1 88 j = μ0.1 91 (44 + j) ∧ ν.1 89 j = μ0.1 91 (74 + j)) ?_ ?_ (by decide) ⟨FM.rf, fun j hj => by omega⟩
  · rintro self i μ hi ⟨f, g⟩
    have lf : ((30 : Int32) ≤ Int32.ofNat i) = False := leF (n := 30) (by omega) (by decide)
    have a1 : (44 : Int32) + Int32.ofNat i = Int32.ofNat (44 + i) := adN 44 i (by decide)
    have a2 : (74 : Int32) + Int32.ofNat i = Int32.ofNat (74 + i) := adN 74 i (by decide)
    refine ⟨upI (upI μ 88 i (μ.1 91 (44 + i))) 89 i (μ.1 91 (74 + i)), by
      simp (decide := true) (implicitDefEqProofs := false) only [l_X12_undo_112, lf, a1, a2, zin i 30 hi (by decide), ztn i (by omega), zin (44 + i) 130 (by omega) (by decide), ztn (44 + i) (by omega), zin (74 + i) 130 (by omega) (by decide), ztn (74 + i) (by omega), ofN1 i, zO, zR, zA, zT, zu1, zu2, zu3, zu4, gI, gL, pI, pL, pZ, aI, aL, sI, sZ, sL, Option.bind_some, Option.map_some, if_true, if_false, ite_true, ite_false, true_and, and_true, false_and, and_false, or_true, true_or, or_false, false_or, and_self, not_true_eq_false, not_false_eq_true, ↓reduceIte, reduceIte, Nat.reduceAdd, Nat.reduceMul, Nat.reduceSub, Nat.reduceMod, Nat.reduceDiv, Nat.reduceEqDiff, Nat.reduceLT, Nat.reduceLeDiff, Int32.reduceAdd, Int32.reduceSub, Int32.reduceMul, Int32.reduceDiv, Int32.reduceMod, Int32.reduceOfNat, Int32.reduceOfInt, Int32.reduceLT, Int32.reduceLE, Int32.reduceToNatClampNeg, Int32.reduceToInt], f.tr (FC.tr (FC.u (by decide) (by omega)) (FC.u (by decide) (by omega))), fun j hj => ?_⟩
    simp only [zu1]
    rw [f.e 91 (by decide) (by omega)]
    by_cases e : j = i
    · subst e
      refine ⟨?_, ?_⟩
      · rw [if_neg (by omega), if_pos (by first | omega | exact ⟨trivial, by omega⟩ | exact ⟨trivial, trivial⟩)]
      · rw [if_pos (by first | omega | exact ⟨trivial, by omega⟩ | exact ⟨trivial, trivial⟩)]
    · obtain ⟨q1, q2⟩ := g j (by omega)
      refine ⟨?_, ?_⟩
      · rw [if_neg (by omega), if_neg (by omega)]; exact q1
      · rw [if_neg (by omega), if_neg (by omega)]; exact q2
  · rintro self μ -
    simp (decide := true) (implicitDefEqProofs := false) only [l_X12_undo_112, zO, zR, zA, zT, zu1, zu2, zu3, zu4, gI, gL, pI, pL, pZ, aI, aL, sI, sZ, sL, Option.bind_some, Option.map_some, if_true, if_false, ite_true, ite_false, true_and, and_true, false_and, and_false, or_true, true_or, or_false, false_or, and_self, not_true_eq_false, not_false_eq_true, ↓reduceIte, reduceIte, Nat.reduceAdd, Nat.reduceMul, Nat.reduceSub, Nat.reduceMod, Nat.reduceDiv, Nat.reduceEqDiff, Nat.reduceLT, Nat.reduceLeDiff, Int32.reduceAdd, Int32.reduceSub, Int32.reduceMul, Int32.reduceDiv, Int32.reduceMod, Int32.reduceOfNat, Int32.reduceOfInt, Int32.reduceLT, Int32.reduceLE, Int32.reduceToNatClampNeg, Int32.reduceToInt]
theorem undD (μ0 : Mem) : ∃ ν, lpN (l_X12_undo_156 SX 81) fu (0, μ0) = b_X12_undo_183 SX 81 ν ∧ FC (fun q => q = 90) μ0 ν ∧ ∀ j, j < 14 → ν.1 90 j = μ0.1 91 (104 + j) := by
  refine lpG (N := 14) (P := fun i ν => FC (fun q => q = 90) μ0 ν ∧ ∀ j, j < i → ν.1 90 j = μ0.1 91 (104 + j)) ?_ ?_ (by decide) ⟨FM.rf, fun j hj => by omega⟩
  · rintro self i μ hi ⟨f, g⟩
    have lf : ((14 : Int32) ≤ Int32.ofNat i) = False := leF (n := 14) (by omega) (by decide)
    have a1 : (104 : Int32) + Int32.ofNat i = Int32.ofNat (104 + i) := adN 104 i (by decide)
    refine ⟨upI μ 90 i (μ.1 91 (104 + i)), by
      simp (decide := true) (implicitDefEqProofs := false) only [l_X12_undo_156, lf, a1, zin i 14 hi (by decide), ztn i (by omega), zin (104 + i) 130 (by omega) (by decide), ztn (104 + i) (by omega), ofN1 i, zO, zR, zA, zT, zu1, zu2, zu3, zu4, gI, gL, pI, pL, pZ, aI, aL, sI, sZ, sL, Option.bind_some, Option.map_some, if_true, if_false, ite_true, ite_false, true_and, and_true, false_and, and_false, or_true, true_or, or_false, false_or, and_self, not_true_eq_false, not_false_eq_true, ↓reduceIte, reduceIte, Nat.reduceAdd, Nat.reduceMul, Nat.reduceSub, Nat.reduceMod, Nat.reduceDiv, Nat.reduceEqDiff, Nat.reduceLT, Nat.reduceLeDiff, Int32.reduceAdd, Int32.reduceSub, Int32.reduceMul, Int32.reduceDiv, Int32.reduceMod, Int32.reduceOfNat, Int32.reduceOfInt, Int32.reduceLT, Int32.reduceLE, Int32.reduceToNatClampNeg, Int32.reduceToInt], f.tr (FC.u (by decide) rfl), fun j hj => ?_⟩
    rw [zu1]
    by_cases e : j = i
    · rw [if_pos (by first | exact ⟨rfl, e⟩ | exact ⟨trivial, e⟩), f.e 91 (by decide) (by decide), e]
    · rw [if_neg (fun q => e q.2)]; exact g j (by omega)
  · rintro self μ -
    simp (decide := true) (implicitDefEqProofs := false) only [l_X12_undo_156, zO, zR, zA, zT, zu1, zu2, zu3, zu4, gI, gL, pI, pL, pZ, aI, aL, sI, sZ, sL, Option.bind_some, Option.map_some, if_true, if_false, ite_true, ite_false, true_and, and_true, false_and, and_false, or_true, true_or, or_false, false_or, and_self, not_true_eq_false, not_false_eq_true, ↓reduceIte, reduceIte, Nat.reduceAdd, Nat.reduceMul, Nat.reduceSub, Nat.reduceMod, Nat.reduceDiv, Nat.reduceEqDiff, Nat.reduceLT, Nat.reduceLeDiff, Int32.reduceAdd, Int32.reduceSub, Int32.reduceMul, Int32.reduceDiv, Int32.reduceMod, Int32.reduceOfNat, Int32.reduceOfInt, Int32.reduceLT, Int32.reduceLE, Int32.reduceToNatClampNeg, Int32.reduceToInt]
theorem undE (μ0 : Mem) : ∃ ν, lpN (l_X12_undo_185 SX 81) fu (0, μ0) = b_X12_undo_211 SX 81 ν ∧ FC (fun q => q = 87) μ0 ν ∧ ∀ j, j < 3 → ν.1 87 j = μ0.1 91 (118 + j) := by
  refine lpG (N := 3) (P := fun i ν => FC (fun q => q = 87) μ0 ν ∧ ∀ j, j < i → ν.1 87 j = μ0.1 91 (118 + j)) ?_ ?_ (by decide) ⟨FM.rf, fun j hj => by omega⟩
  · rintro self i μ hi ⟨f, g⟩
    have lf : ((3 : Int32) ≤ Int32.ofNat i) = False := leF (n := 3) (by omega) (by decide)
    have a1 : (118 : Int32) + Int32.ofNat i = Int32.ofNat (118 + i) := adN 118 i (by decide)
    refine ⟨upI μ 87 i (μ.1 91 (118 + i)), by
      simp (decide := true) (implicitDefEqProofs := false) only [l_X12_undo_185, lf, a1, zin i 3 hi (by decide), ztn i (by omega), zin (118 + i) 130 (by omega) (by decide), ztn (118 + i) (by omega), ofN1 i, zO, zR, zA, zT, zu1, zu2, zu3, zu4, gI, gL, pI, pL, pZ, aI, aL, sI, sZ, sL, Option.bind_some, Option.map_some, if_true, if_false, ite_true, ite_false, true_and, and_true, false_and, and_false, or_true, true_or, or_false, false_or, and_self, not_true_eq_false, not_false_eq_true, ↓reduceIte, reduceIte, Nat.reduceAdd, Nat.reduceMul, Nat.reduceSub, Nat.reduceMod, Nat.reduceDiv, Nat.reduceEqDiff, Nat.reduceLT, Nat.reduceLeDiff, Int32.reduceAdd, Int32.reduceSub, Int32.reduceMul, Int32.reduceDiv, Int32.reduceMod, Int32.reduceOfNat, Int32.reduceOfInt, Int32.reduceLT, Int32.reduceLE, Int32.reduceToNatClampNeg, Int32.reduceToInt], f.tr (FC.u (by decide) rfl), fun j hj => ?_⟩
    rw [zu1]
    by_cases e : j = i
    · rw [if_pos (by first | exact ⟨rfl, e⟩ | exact ⟨trivial, e⟩), f.e 91 (by decide) (by decide), e]
    · rw [if_neg (fun q => e q.2)]; exact g j (by omega)
  · rintro self μ -
    simp (decide := true) (implicitDefEqProofs := false) only [l_X12_undo_185, zO, zR, zA, zT, zu1, zu2, zu3, zu4, gI, gL, pI, pL, pZ, aI, aL, sI, sZ, sL, Option.bind_some, Option.map_some, if_true, if_false, ite_true, ite_false, true_and, and_true, false_and, and_false, or_true, true_or, or_false, false_or, and_self, not_true_eq_false, not_false_eq_true, ↓reduceIte, reduceIte, Nat.reduceAdd, Nat.reduceMul, Nat.reduceSub, Nat.reduceMod, Nat.reduceDiv, Nat.reduceEqDiff, Nat.reduceLT, Nat.reduceLeDiff, Int32.reduceAdd, Int32.reduceSub, Int32.reduceMul, Int32.reduceDiv, Int32.reduceMod, Int32.reduceOfNat, Int32.reduceOfInt, Int32.reduceLT, Int32.reduceLE, Int32.reduceToNatClampNeg, Int32.reduceToInt]
theorem undoM {c : Nat → Nat → Int} {μ : Mem} (h : MIm c μ) (b : BC c) (h11 : μ.1 81 11 = 1) : ∃ ν, f_X12_undo SX 81 μ = some (Int32.ofInt (c 7 0), ν) ∧ FM (fun q => 82 ≤ q ∧ q ≤ 90) (fun j => j = 1) μ ν ∧ MM c ν := by
  obtain ⟨ν1, p1, f1, a1⟩ := undA μ
  obtain ⟨ν2, p2, f2, a2⟩ := undB ν1
  obtain ⟨ν3, p3, f3, a3⟩ := undC ν2
  obtain ⟨ν4, p4, f4, a4⟩ := undD ν3
  obtain ⟨ν5, p5, f5, a5⟩ := undE ν4
  have w1 := f1.e 91 (by decide) (by decide)
  have w2 := (f2.e 91 (by decide) (by omega)).trans w1
  have w3 := (f3.e 91 (by decide) (by omega)).trans w2
  have w4 := (f4.e 91 (by decide) (by decide)).trans w3
  have w5 := (f5.e 91 (by decide) (by decide)).trans w4
  have G : FM (fun q => 82 ≤ q ∧ q ≤ 90) (fun j => j = 1) μ ν5 := FM.tr (FM.tr (FM.tr (FM.tr (f1.mo (fun k q => by omega) (fun k q => q.elim)) (f2.mo (fun k q => by omega) (fun k q => q.elim))) (f3.mo (fun k q => by omega) (fun k q => q.elim))) (f4.mo (fun k q => by omega) (fun k q => q.elim))) (f5.mo (fun k q => by omega) (fun k q => q.elim))
  obtain ⟨h1, ⟨h2, h3⟩, h4, h5⟩ := h
  have s5 : ν5.1 91 121 = Int32.ofInt (c 7 0) := by rw [w5]; exact h2
  refine ⟨upI ν5 81 1 (Int32.ofInt (c 7 0)), ?_, G.tr (FM.uI (Or.inr ⟨rfl, rfl⟩)), ?_⟩
  · simp (decide := true) (implicitDefEqProofs := false) only [f_X12_undo, h11, zO, zR, zA, zT, zu1, zu2, zu3, zu4, gI, gL, pI, pL, pZ, aI, aL, sI, sZ, sL, Option.bind_some, Option.map_some, if_true, if_false, ite_true, ite_false, true_and, and_true, false_and, and_false, or_true, true_or, or_false, false_or, and_self, not_true_eq_false, not_false_eq_true, ↓reduceIte, reduceIte, Nat.reduceAdd, Nat.reduceMul, Nat.reduceSub, Nat.reduceMod, Nat.reduceDiv, Nat.reduceEqDiff, Nat.reduceLT, Nat.reduceLeDiff, Int32.reduceAdd, Int32.reduceSub, Int32.reduceMul, Int32.reduceDiv, Int32.reduceMod, Int32.reduceOfNat, Int32.reduceOfInt, Int32.reduceLT, Int32.reduceLE, Int32.reduceToNatClampNeg, Int32.reduceToInt]
    refine Eq.trans p1 ?_
    unfold b_X12_undo_36
    refine Eq.trans p2 ?_
    unfold b_X12_undo_110
    refine Eq.trans p3 ?_
    unfold b_X12_undo_154
    refine Eq.trans p4 ?_
    unfold b_X12_undo_183
    refine Eq.trans p5 ?_
    simp (decide := true) (implicitDefEqProofs := false) only [b_X12_undo_211, s5, zO, zR, zA, zT, zu1, zu2, zu3, zu4, gI, gL, pI, pL, pZ, aI, aL, sI, sZ, sL, Option.bind_some, Option.map_some, if_true, if_false, ite_true, ite_false, true_and, and_true, false_and, and_false, or_true, true_or, or_false, false_or, and_self, not_true_eq_false, not_false_eq_true, ↓reduceIte, reduceIte, Nat.reduceAdd, Nat.reduceMul, Nat.reduceSub, Nat.reduceMod, Nat.reduceDiv, Nat.reduceEqDiff, Nat.reduceLT, Nat.reduceLeDiff, Int32.reduceAdd, Int32.reduceSub, Int32.reduceMul, Int32.reduceDiv, Int32.reduceMod, Int32.reduceOfNat, Int32.reduceOfInt, Int32.reduceLT, Int32.reduceLE, Int32.reduceToNatClampNeg, Int32.reduceToInt]
  · have e : ∀ q, q ≠ 81 → (upI ν5 81 1 (Int32.ofInt (c 7 0))).1 q = ν5.1 q := fun q hq => by funext i; rw [zu1, if_neg (fun w => hq w.1)]
    have r82 : ∀ j, j < 12 → ν5.1 82 j = μ.1 91 j := fun j hj => by
      rw [f5.e 82 (by decide) (by decide), f4.e 82 (by decide) (by decide), f3.e 82 (by decide) (by omega), f2.e 82 (by decide) (by omega)]; exact a1 j hj
    have r83 : ∀ q, 83 ≤ q → q ≤ 86 → ν5.1 q = ν2.1 q := fun q g1 g2 => by
      rw [f5.e q (by omega) (by omega), f4.e q (by omega) (by omega), f3.e q (by omega) (by omega)]
    refine ⟨fun i hi => ?_, ⟨?_, fun i hi => ?_, fun i hi => ?_, fun i hi => ?_, fun i hi => ?_⟩, fun q hq => ⟨?_, ?_⟩, fun i hi => ?_⟩
    · rw [e 82 (by decide), r82 _ (by omega), r82 _ (by omega), r82 _ (by omega)]; exact h1 i hi
    · simp (decide := true) (implicitDefEqProofs := false) only [zO, zR, zA, zT, zu1, zu2, zu3, zu4, gI, gL, pI, pL, pZ, aI, aL, sI, sZ, sL, Option.bind_some, Option.map_some, if_true, if_false, ite_true, ite_false, true_and, and_true, false_and, and_false, or_true, true_or, or_false, false_or, and_self, not_true_eq_false, not_false_eq_true, ↓reduceIte, reduceIte, Nat.reduceAdd, Nat.reduceMul, Nat.reduceSub, Nat.reduceMod, Nat.reduceDiv, Nat.reduceEqDiff, Nat.reduceLT, Nat.reduceLeDiff, Int32.reduceAdd, Int32.reduceSub, Int32.reduceMul, Int32.reduceDiv, Int32.reduceMod, Int32.reduceOfNat, Int32.reduceOfInt, Int32.reduceLT, Int32.reduceLE, Int32.reduceToNatClampNeg, Int32.reduceToInt]
    · rw [e 83 (by decide), r83 83 (by omega) (by omega), (a2 i hi).1, w1]; exact (h3 i hi).1
    · rw [e 84 (by decide), r83 84 (by omega) (by omega), (a2 i hi).2.1, w1]; exact (h3 i hi).2.1
    · rw [e 85 (by decide), r83 85 (by omega) (by omega), (a2 i hi).2.2.1, w1]; exact (h3 i hi).2.2.1
    · rw [e 86 (by decide), r83 86 (by omega) (by omega), (a2 i hi).2.2.2, w1]; exact (h3 i hi).2.2.2
    · rw [e 87 (by decide), a5 q hq, w4]; exact (h4 q hq).1
    · have bq := (b.2.2.2.2.1 q hq).1
      refine (h4 q hq).2.cg (fun i hi => ?_)
      rw [e 88 (by decide), e 89 (by decide), f5.e 88 (by decide) (by decide), f5.e 89 (by decide) (by decide), f4.e 88 (by decide) (by decide), f4.e 89 (by decide) (by decide)]
      obtain ⟨q1, q2⟩ := a3 (10 * q + i) (by omega)
      rw [q1, q2, w2]
      exact ⟨rfl, rfl⟩
    · rw [e 90 (by decide), f5.e 90 (by decide) (by decide), a4 i hi, w3]; exact h5 i hi
theorem ok_undo {μ : Mem} (h : INV μ) : OKop (f_X11_undo SX 0) (f_X12_undo SX 81) μ := by
  rcases h.2.1 with ⟨t1, t2⟩ | ⟨t1, t2, c, b, h1, h2⟩
  · refine ⟨-3, μ, μ, ?_, ?_, h⟩
    · simp (decide := true) (implicitDefEqProofs := false) only [f_X11_undo, t1, zO, zR, zA, zT, zu1, zu2, zu3, zu4, gI, gL, pI, pL, pZ, aI, aL, sI, sZ, sL, Option.bind_some, Option.map_some, if_true, if_false, ite_true, ite_false, true_and, and_true, false_and, and_false, or_true, true_or, or_false, false_or, and_self, not_true_eq_false, not_false_eq_true, ↓reduceIte, reduceIte, Nat.reduceAdd, Nat.reduceMul, Nat.reduceSub, Nat.reduceMod, Nat.reduceDiv, Nat.reduceEqDiff, Nat.reduceLT, Nat.reduceLeDiff, Int32.reduceAdd, Int32.reduceSub, Int32.reduceMul, Int32.reduceDiv, Int32.reduceMod, Int32.reduceOfNat, Int32.reduceOfInt, Int32.reduceLT, Int32.reduceLE, Int32.reduceToNatClampNeg, Int32.reduceToInt]
    · simp (decide := true) (implicitDefEqProofs := false) only [f_X12_undo, t2, zO, zR, zA, zT, zu1, zu2, zu3, zu4, gI, gL, pI, pL, pZ, aI, aL, sI, sZ, sL, Option.bind_some, Option.map_some, if_true, if_false, ite_true, ite_false, true_and, and_true, false_and, and_false, or_true, true_or, or_false, false_or, and_self, not_true_eq_false, not_false_eq_true, ↓reduceIte, reduceIte, Nat.reduceAdd, Nat.reduceMul, Nat.reduceSub, Nat.reduceMod, Nat.reduceDiv, Nat.reduceEqDiff, Nat.reduceLT, Nat.reduceLeDiff, Int32.reduceAdd, Int32.reduceSub, Int32.reduceMul, Int32.reduceDiv, Int32.reduceMod, Int32.reduceOfNat, Int32.reduceOfInt, Int32.reduceLT, Int32.reduceLE, Int32.reduceToNatClampNeg, Int32.reduceToInt]
  · obtain ⟨μ1, p1, f1, d1⟩ := become_at (k := 1) (j := 19) (Or.inr (Or.inr (Or.inl ⟨rfl, rfl⟩))) h1 b
    have sz := d1.2.2.2.1.2.2.2.2.1
    simp only [Nat.reduceAdd, Nat.reduceMul, Nat.reduceMod, Int32.reduceOfNat] at sz
    have M1 : MIm c μ1 := h2.f (f1.fm (by omega)) (by omega)
    have s11 : μ1.1 81 11 = 1 := by rw [(f1 81 (by omega)).1]; exact t2
    obtain ⟨ν, p2, f2, m⟩ := undoM M1 b s11
    refine ⟨Int32.ofInt (c 7 0), μ1, ν, ?_, p2, h.cr ((crX f1 (fun q g => by omega)).tr (crM f2 (fun q g => g) (fun q g => g))) ⟨c, b, d1.f f2 (fun q g1 g2 => ⟨by omega, by omega⟩), m⟩⟩
    simp (decide := true) (implicitDefEqProofs := false) only [f_X11_undo, t1, p1, sz, zO, zR, zA, zT, zu1, zu2, zu3, zu4, gI, gL, pI, pL, pZ, aI, aL, sI, sZ, sL, Option.bind_some, Option.map_some, if_true, if_false, ite_true, ite_false, true_and, and_true, false_and, and_false, or_true, true_or, or_false, false_or, and_self, not_true_eq_false, not_false_eq_true, ↓reduceIte, reduceIte, Nat.reduceAdd, Nat.reduceMul, Nat.reduceSub, Nat.reduceMod, Nat.reduceDiv, Nat.reduceEqDiff, Nat.reduceLT, Nat.reduceLeDiff, Int32.reduceAdd, Int32.reduceSub, Int32.reduceMul, Int32.reduceDiv, Int32.reduceMod, Int32.reduceOfNat, Int32.reduceOfInt, Int32.reduceLT, Int32.reduceLE, Int32.reduceToNatClampNeg, Int32.reduceToInt]

