theorem Ch.cg {f : Nat → Int} {n : Nat} {A H A' H' : Nat → Int32} (h : Ch f n A H) (e : ∀ i, i < n → A' i = A i ∧ H' i = H i) : Ch f n A' H' := by
  obtain ⟨p, h1, h2, h3⟩ := h
  exact ⟨p, fun i hi => by rw [(e i hi).1, (e i hi).2]; exact h1 i hi, h2, h3⟩
def F91 (μ ν : Mem) : Prop := FM (fun q => q = 91) (fun _ => False) μ ν
theorem F91.u {μ : Mem} {j : Nat} {v : Int32} : F91 μ (upI μ 91 j v) := FM.uI (Or.inl ⟨by decide, rfl⟩)
theorem F91.tr {a b c : Mem} (h : F91 a b) (g : F91 b c) : F91 a c := FM.tr h g
theorem F91.e {μ ν : Mem} (h : F91 μ ν) (q : Nat) (h1 : q ≠ 81) (h2 : q ≠ 91) : ν.1 q = μ.1 q := (h.1 q h1 h2).1
theorem adN (a : Nat) (i : Nat) (h : a < 2147483648) : (Int32.ofNat a + Int32.ofNat i) = Int32.ofNat (a + i) := (Int32.ofNat_add a i).symm
theorem imgA (μ0 : Mem) : ∃ ν, lpN (l_X12_image_7 SX 81) fu (0, μ0) = b_X12_image_31 SX 81 ν ∧ F91 μ0 ν ∧ ∀ j, j < 12 → ν.1 91 j = μ0.1 82 j := by
  refine lpG (N := 12) (P := fun i ν => F91 μ0 ν ∧ ∀ j, j < i → ν.1 91 j = μ0.1 82 j) ?_ ?_ (by decide) ⟨FM.rf, fun j hj => by omega⟩
  · rintro self i μ hi ⟨f, g⟩
    have lf : ((12 : Int32) ≤ Int32.ofNat i) = False := leF (n := 12) (by omega) (by decide)
    refine ⟨_, by
      simp (decide := true) (implicitDefEqProofs := false) only [l_X12_image_7, lf, zin i 12 hi (by decide), ztn i (by omega), zin i 130 (by omega) (by decide), ofN1 i, zO, zR, zA, zT, zu1, zu2, zu3, zu4, gI, gL, pI, pL, pZ, aI, aL, sI, sZ, sL, Option.bind_some, Option.map_some, if_true, if_false, ite_true, ite_false, true_and, and_true, false_and, and_false, or_true, true_or, or_false, false_or, and_self, not_true_eq_false, not_false_eq_true, ↓reduceIte, reduceIte, Nat.reduceAdd, Nat.reduceMul, Nat.reduceSub, Nat.reduceMod, Nat.reduceDiv, Nat.reduceEqDiff, Nat.reduceLT, Nat.reduceLeDiff, Int32.reduceAdd, Int32.reduceSub, Int32.reduceMul, Int32.reduceDiv, Int32.reduceMod, Int32.reduceOfNat, Int32.reduceOfInt, Int32.reduceLT, Int32.reduceLE, Int32.reduceToNatClampNeg, Int32.reduceToInt]
      rfl, f.tr F91.u, fun j hj => ?_⟩
    rw [zu1]
    by_cases e : j = i
    · rw [if_pos (by first | exact ⟨rfl, e⟩ | exact ⟨trivial, e⟩), f.e 82 (by decide) (by decide), e]
    · rw [if_neg (fun q => e q.2)]; exact g j (by omega)
  · rintro self μ -
    simp (decide := true) (implicitDefEqProofs := false) only [l_X12_image_7, zO, zR, zA, zT, zu1, zu2, zu3, zu4, gI, gL, pI, pL, pZ, aI, aL, sI, sZ, sL, Option.bind_some, Option.map_some, if_true, if_false, ite_true, ite_false, true_and, and_true, false_and, and_false, or_true, true_or, or_false, false_or, and_self, not_true_eq_false, not_false_eq_true, ↓reduceIte, reduceIte, Nat.reduceAdd, Nat.reduceMul, Nat.reduceSub, Nat.reduceMod, Nat.reduceDiv, Nat.reduceEqDiff, Nat.reduceLT, Nat.reduceLeDiff, Int32.reduceAdd, Int32.reduceSub, Int32.reduceMul, Int32.reduceDiv, Int32.reduceMod, Int32.reduceOfNat, Int32.reduceOfInt, Int32.reduceLT, Int32.reduceLE, Int32.reduceToNatClampNeg, Int32.reduceToInt]
theorem imgB (μ0 : Mem) : ∃ ν, lpN (l_X12_image_33 SX 81) fu (0, μ0) = b_X12_image_105 SX 81 ν ∧ F91 μ0 ν ∧ (∀ j, j < 12 → ν.1 91 j = μ0.1 91 j) ∧ ∀ j, j < 8 → ν.1 91 (12 + j) = μ0.1 83 j ∧ ν.1 91 (20 + j) = μ0.1 84 j ∧ ν.1 91 (28 + j) = μ0.1 85 j ∧ ν.1 91 (36 + j) = μ0.1 86 j := by
  refine lpG (N := 8) (P := fun i ν => F91 μ0 ν ∧ (∀ j, j < 12 → ν.1 91 j = μ0.1 91 j) ∧ ∀ j, j < i → ν.1 91 (12 + j) = μ0.1 83 j ∧ ν.1 91 (20 + j) = μ0.1 84 j ∧ ν.1 91 (28 + j) = μ0.1 85 j ∧ ν.1 91 (36 + j) = μ0.1 86 j) ?_ ?_ (by decide) ⟨FM.rf, fun j hj => rfl, fun j hj => by omega⟩
  · rintro self i μ hi ⟨f, g0, g⟩
    have lf : ((8 : Int32) ≤ Int32.ofNat i) = False := leF (n := 8) (by omega) (by decide)
    have a1 : (12 : Int32) + Int32.ofNat i = Int32.ofNat (12 + i) := adN 12 i (by decide)
    have a2 : (20 : Int32) + Int32.ofNat i = Int32.ofNat (20 + i) := adN 20 i (by decide)
    have a3 : (28 : Int32) + Int32.ofNat i = Int32.ofNat (28 + i) := adN 28 i (by decide)
    have a4 : (36 : Int32) + Int32.ofNat i = Int32.ofNat (36 + i) := adN 36 i (by decide)
    refine ⟨upI (upI (upI (upI μ 91 (12 + i) (μ.1 83 i)) 91 (20 + i) (μ.1 84 i)) 91 (28 + i) (μ.1 85 i)) 91 (36 + i) (μ.1 86 i), by
      simp (decide := true) (implicitDefEqProofs := false) only [l_X12_image_33, lf, a1, a2, a3, a4, zin i 8 hi (by decide), ztn i (by omega), zin (12 + i) 130 (by omega) (by decide), ztn (12 + i) (by omega), zin (20 + i) 130 (by omega) (by decide), ztn (20 + i) (by omega), zin (28 + i) 130 (by omega) (by decide), ztn (28 + i) (by omega), zin (36 + i) 130 (by omega) (by decide), ztn (36 + i) (by omega), ofN1 i, zO, zR, zA, zT, zu1, zu2, zu3, zu4, gI, gL, pI, pL, pZ, aI, aL, sI, sZ, sL, Option.bind_some, Option.map_some, if_true, if_false, ite_true, ite_false, true_and, and_true, false_and, and_false, or_true, true_or, or_false, false_or, and_self, not_true_eq_false, not_false_eq_true, ↓reduceIte, reduceIte, Nat.reduceAdd, Nat.reduceMul, Nat.reduceSub, Nat.reduceMod, Nat.reduceDiv, Nat.reduceEqDiff, Nat.reduceLT, Nat.reduceLeDiff, Int32.reduceAdd, Int32.reduceSub, Int32.reduceMul, Int32.reduceDiv, Int32.reduceMod, Int32.reduceOfNat, Int32.reduceOfInt, Int32.reduceLT, Int32.reduceLE, Int32.reduceToNatClampNeg, Int32.reduceToInt], f.tr (((F91.u.tr F91.u).tr F91.u).tr F91.u), fun j hj => ?_, fun j hj => ?_⟩
    · simp only [zu1]
      rw [if_neg (by omega), if_neg (by omega), if_neg (by omega), if_neg (by omega)]; exact g0 j hj
    · simp only [zu1]
      by_cases e : j = i
      · subst e
        rw [f.e 83 (by decide) (by decide), f.e 84 (by decide) (by decide), f.e 85 (by decide) (by decide), f.e 86 (by decide) (by decide)]
        refine ⟨?_, ?_, ?_, ?_⟩
        · rw [if_neg (by omega), if_neg (by omega), if_neg (by omega), if_pos (by first | omega | exact ⟨trivial, by omega⟩ | exact ⟨trivial, trivial⟩)]
        · rw [if_neg (by omega), if_neg (by omega), if_pos (by first | omega | exact ⟨trivial, by omega⟩ | exact ⟨trivial, trivial⟩)]
        · rw [if_neg (by omega), if_pos (by first | omega | exact ⟨trivial, by omega⟩ | exact ⟨trivial, trivial⟩)]
        · rw [if_pos (by first | omega | exact ⟨trivial, by omega⟩ | exact ⟨trivial, trivial⟩)]
      · obtain ⟨q1, q2, q3, q4⟩ := g j (by omega)
        refine ⟨?_, ?_, ?_, ?_⟩
        · rw [if_neg (by omega), if_neg (by omega), if_neg (by omega), if_neg (by omega)]; exact q1
        · rw [if_neg (by omega), if_neg (by omega), if_neg (by omega), if_neg (by omega)]; exact q2
        · rw [if_neg (by omega), if_neg (by omega), if_neg (by omega), if_neg (by omega)]; exact q3
        · rw [if_neg (by omega), if_neg (by omega), if_neg (by omega), if_neg (by omega)]; exact q4
  · rintro self μ -
    simp (decide := true) (implicitDefEqProofs := false) only [l_X12_image_33, zO, zR, zA, zT, zu1, zu2, zu3, zu4, gI, gL, pI, pL, pZ, aI, aL, sI, sZ, sL, Option.bind_some, Option.map_some, if_true, if_false, ite_true, ite_false, true_and, and_true, false_and, and_false, or_true, true_or, or_false, false_or, and_self, not_true_eq_false, not_false_eq_true, ↓reduceIte, reduceIte, Nat.reduceAdd, Nat.reduceMul, Nat.reduceSub, Nat.reduceMod, Nat.reduceDiv, Nat.reduceEqDiff, Nat.reduceLT, Nat.reduceLeDiff, Int32.reduceAdd, Int32.reduceSub, Int32.reduceMul, Int32.reduceDiv, Int32.reduceMod, Int32.reduceOfNat, Int32.reduceOfInt, Int32.reduceLT, Int32.reduceLE, Int32.reduceToNatClampNeg, Int32.reduceToInt]
theorem imgC (μ0 : Mem) : ∃ ν, lpN (l_X12_image_107 SX 81) fu (0, μ0) = b_X12_image_149 SX 81 ν ∧ F91 μ0 ν ∧ (∀ j, j < 44 → ν.1 91 j = μ0.1 91 j) ∧ ∀ j, j < 30 → ν.1 91 (44 + j) = μ0.1 88 j ∧ ν.1 91 (74 + j) = μ0.1 89 j := by
  refine lpG (N := 30) (P := fun i ν => F91 μ0 ν ∧ (∀ j, j < 44 → ν.1 91 j = μ0.1 91 j) ∧ ∀ j, j < i → ν.1 91 (44 + j) = μ0.1 88 j ∧ ν.1 91 (74 + j) = μ0.1 89 j) ?_ ?_ (by decide) ⟨FM.rf, fun j hj => rfl, fun j hj => by omega⟩
  · rintro self i μ hi ⟨f, g0, g⟩
    have lf : ((30 : Int32) ≤ Int32.ofNat i) = False := leF (n := 30) (by omega) (by decide)
    have a1 : (44 : Int32) + Int32.ofNat i = Int32.ofNat (44 + i) := adN 44 i (by decide)
    have a2 : (74 : Int32) + Int32.ofNat i = Int32.ofNat (74 + i) := adN 74 i (by decide)
    refine ⟨upI (upI μ 91 (44 + i) (μ.1 88 i)) 91 (74 + i) (μ.1 89 i), by
      simp (decide := true) (implicitDefEqProofs := false) only [l_X12_image_107, lf, a1, a2, zin i 30 hi (by decide), ztn i (by omega), zin (44 + i) 130 (by omega) (by decide), ztn (44 + i) (by omega), zin (74 + i) 130 (by omega) (by decide), ztn (74 + i) (by omega), ofN1 i, zO, zR, zA, zT, zu1, zu2, zu3, zu4, gI, gL, pI, pL, pZ, aI, aL, sI, sZ, sL, Option.bind_some, Option.map_some, if_true, if_false, ite_true, ite_false, true_and, and_true, false_and, and_false, or_true, true_or, or_false, false_or, and_self, not_true_eq_false, not_false_eq_true, ↓reduceIte, reduceIte, Nat.reduceAdd, Nat.reduceMul, Nat.reduceSub, Nat.reduceMod, Nat.reduceDiv, Nat.reduceEqDiff, Nat.reduceLT, Nat.reduceLeDiff, Int32.reduceAdd, Int32.reduceSub, Int32.reduceMul, Int32.reduceDiv, Int32.reduceMod, Int32.reduceOfNat, Int32.reduceOfInt, Int32.reduceLT, Int32.reduceLE, Int32.reduceToNatClampNeg, Int32.reduceToInt], f.tr (F91.u.tr F91.u), fun j hj => ?_, fun j hj => ?_⟩
    · simp only [zu1]
      rw [if_neg (by omega), if_neg (by omega)]; exact g0 j hj
    · simp only [zu1]
      by_cases e : j = i
      · subst e
        rw [f.e 88 (by decide) (by decide), f.e 89 (by decide) (by decide)]
        refine ⟨?_, ?_⟩
        · rw [if_neg (by omega), if_pos (by first | omega | exact ⟨trivial, by omega⟩ | exact ⟨trivial, trivial⟩)]
        · rw [if_pos (by first | omega | exact ⟨trivial, by omega⟩ | exact ⟨trivial, trivial⟩)]
      · obtain ⟨q1, q2⟩ := g j (by omega)
        refine ⟨?_, ?_⟩
        · rw [if_neg (by omega), if_neg (by omega)]; exact q1
        · rw [if_neg (by omega), if_neg (by omega)]; exact q2
  · rintro self μ -
    simp (decide := true) (implicitDefEqProofs := false) only [l_X12_image_107, zO, zR, zA, zT, zu1, zu2, zu3, zu4, gI, gL, pI, pL, pZ, aI, aL, sI, sZ, sL, Option.bind_some, Option.map_some, if_true, if_false, ite_true, ite_false, true_and, and_true, false_and, and_false, or_true, true_or, or_false, false_or, and_self, not_true_eq_false, not_false_eq_true, ↓reduceIte, reduceIte, Nat.reduceAdd, Nat.reduceMul, Nat.reduceSub, Nat.reduceMod, Nat.reduceDiv, Nat.reduceEqDiff, Nat.reduceLT, Nat.reduceLeDiff, Int32.reduceAdd, Int32.reduceSub, Int32.reduceMul, Int32.reduceDiv, Int32.reduceMod, Int32.reduceOfNat, Int32.reduceOfInt, Int32.reduceLT, Int32.reduceLE, Int32.reduceToNatClampNeg, Int32.reduceToInt]
theorem imgD (μ0 : Mem) : ∃ ν, lpN (l_X12_image_151 SX 81) fu (0, μ0) = b_X12_image_178 SX 81 ν ∧ F91 μ0 ν ∧ (∀ j, j < 104 → ν.1 91 j = μ0.1 91 j) ∧ ∀ j, j < 14 → ν.1 91 (104 + j) = μ0.1 90 j := by
  refine lpG (N := 14) (P := fun i ν => F91 μ0 ν ∧ (∀ j, j < 104 → ν.1 91 j = μ0.1 91 j) ∧ ∀ j, j < i → ν.1 91 (104 + j) = μ0.1 90 j) ?_ ?_ (by decide) ⟨FM.rf, fun j hj => rfl, fun j hj => by omega⟩
  · rintro self i μ hi ⟨f, g0, g⟩
    have lf : ((14 : Int32) ≤ Int32.ofNat i) = False := leF (n := 14) (by omega) (by decide)
    have a1 : (104 : Int32) + Int32.ofNat i = Int32.ofNat (104 + i) := adN 104 i (by decide)
    refine ⟨upI μ 91 (104 + i) (μ.1 90 i), by
      simp (decide := true) (implicitDefEqProofs := false) only [l_X12_image_151, lf, a1, zin i 14 hi (by decide), ztn i (by omega), zin (104 + i) 130 (by omega) (by decide), ztn (104 + i) (by omega), ofN1 i, zO, zR, zA, zT, zu1, zu2, zu3, zu4, gI, gL, pI, pL, pZ, aI, aL, sI, sZ, sL, Option.bind_some, Option.map_some, if_true, if_false, ite_true, ite_false, true_and, and_true, false_and, and_false, or_true, true_or, or_false, false_or, and_self, not_true_eq_false, not_false_eq_true, ↓reduceIte, reduceIte, Nat.reduceAdd, Nat.reduceMul, Nat.reduceSub, Nat.reduceMod, Nat.reduceDiv, Nat.reduceEqDiff, Nat.reduceLT, Nat.reduceLeDiff, Int32.reduceAdd, Int32.reduceSub, Int32.reduceMul, Int32.reduceDiv, Int32.reduceMod, Int32.reduceOfNat, Int32.reduceOfInt, Int32.reduceLT, Int32.reduceLE, Int32.reduceToNatClampNeg, Int32.reduceToInt], f.tr F91.u, fun j hj => ?_, fun j hj => ?_⟩
    · simp only [zu1]
      rw [if_neg (by omega)]; exact g0 j hj
    · simp only [zu1]
      by_cases e : j = i
      · subst e
        rw [f.e 90 (by decide) (by decide), if_pos (by first | omega | exact ⟨trivial, by omega⟩ | exact ⟨trivial, trivial⟩)]
      · rw [if_neg (by omega)]; exact g j (by omega)
  · rintro self μ -
    simp (decide := true) (implicitDefEqProofs := false) only [l_X12_image_151, zO, zR, zA, zT, zu1, zu2, zu3, zu4, gI, gL, pI, pL, pZ, aI, aL, sI, sZ, sL, Option.bind_some, Option.map_some, if_true, if_false, ite_true, ite_false, true_and, and_true, false_and, and_false, or_true, true_or, or_false, false_or, and_self, not_true_eq_false, not_false_eq_true, ↓reduceIte, reduceIte, Nat.reduceAdd, Nat.reduceMul, Nat.reduceSub, Nat.reduceMod, Nat.reduceDiv, Nat.reduceEqDiff, Nat.reduceLT, Nat.reduceLeDiff, Int32.reduceAdd, Int32.reduceSub, Int32.reduceMul, Int32.reduceDiv, Int32.reduceMod, Int32.reduceOfNat, Int32.reduceOfInt, Int32.reduceLT, Int32.reduceLE, Int32.reduceToNatClampNeg, Int32.reduceToInt]
theorem imgE (μ0 : Mem) : ∃ ν, lpN (l_X12_image_180 SX 81) fu (0, μ0) = b_X12_image_206 SX 81 ν ∧ F91 μ0 ν ∧ (∀ j, j < 118 → ν.1 91 j = μ0.1 91 j) ∧ ∀ j, j < 3 → ν.1 91 (118 + j) = μ0.1 87 j := by
  refine lpG (N := 3) (P := fun i ν => F91 μ0 ν ∧ (∀ j, j < 118 → ν.1 91 j = μ0.1 91 j) ∧ ∀ j, j < i → ν.1 91 (118 + j) = μ0.1 87 j) ?_ ?_ (by decide) ⟨FM.rf, fun j hj => rfl, fun j hj => by omega⟩
  · rintro self i μ hi ⟨f, g0, g⟩
    have lf : ((3 : Int32) ≤ Int32.ofNat i) = False := leF (n := 3) (by omega) (by decide)
    have a1 : (118 : Int32) + Int32.ofNat i = Int32.ofNat (118 + i) := adN 118 i (by decide)
    refine ⟨upI μ 91 (118 + i) (μ.1 87 i), by
      simp (decide := true) (implicitDefEqProofs := false) only [l_X12_image_180, lf, a1, zin i 3 hi (by decide), ztn i (by omega), zin (118 + i) 130 (by omega) (by decide), ztn (118 + i) (by omega), ofN1 i, zO, zR, zA, zT, zu1, zu2, zu3, zu4, gI, gL, pI, pL, pZ, aI, aL, sI, sZ, sL, Option.bind_some, Option.map_some, if_true, if_false, ite_true, ite_false, true_and, and_true, false_and, and_false, or_true, true_or, or_false, false_or, and_self, not_true_eq_false, not_false_eq_true, ↓reduceIte, reduceIte, Nat.reduceAdd, Nat.reduceMul, Nat.reduceSub, Nat.reduceMod, Nat.reduceDiv, Nat.reduceEqDiff, Nat.reduceLT, Nat.reduceLeDiff, Int32.reduceAdd, Int32.reduceSub, Int32.reduceMul, Int32.reduceDiv, Int32.reduceMod, Int32.reduceOfNat, Int32.reduceOfInt, Int32.reduceLT, Int32.reduceLE, Int32.reduceToNatClampNeg, Int32.reduceToInt], f.tr F91.u, fun j hj => ?_, fun j hj => ?_⟩
    · simp only [zu1]
      rw [if_neg (by omega)]; exact g0 j hj
    · simp only [zu1]
      by_cases e : j = i
      · subst e
        rw [f.e 87 (by decide) (by decide), if_pos (by first | omega | exact ⟨trivial, by omega⟩ | exact ⟨trivial, trivial⟩)]
      · rw [if_neg (by omega)]; exact g j (by omega)
  · rintro self μ -
    simp (decide := true) (implicitDefEqProofs := false) only [l_X12_image_180, zO, zR, zA, zT, zu1, zu2, zu3, zu4, gI, gL, pI, pL, pZ, aI, aL, sI, sZ, sL, Option.bind_some, Option.map_some, if_true, if_false, ite_true, ite_false, true_and, and_true, false_and, and_false, or_true, true_or, or_false, false_or, and_self, not_true_eq_false, not_false_eq_true, ↓reduceIte, reduceIte, Nat.reduceAdd, Nat.reduceMul, Nat.reduceSub, Nat.reduceMod, Nat.reduceDiv, Nat.reduceEqDiff, Nat.reduceLT, Nat.reduceLeDiff, Int32.reduceAdd, Int32.reduceSub, Int32.reduceMul, Int32.reduceDiv, Int32.reduceMod, Int32.reduceOfNat, Int32.reduceOfInt, Int32.reduceLT, Int32.reduceLE, Int32.reduceToNatClampNeg, Int32.reduceToInt]
theorem imageM {c : Nat → Nat → Int} {μ : Mem} (h : MM c μ) (b : BC c) : ∃ ν, f_X12_image SX 81 μ = some (Int32.ofInt (c 7 0), ν) ∧ FM (fun q => q = 91) (fun j => j = 11) μ ν ∧ ν.1 81 11 = 1 ∧ MIm c ν := by
  obtain ⟨ν0, E0⟩ : ∃ m : Mem, m = upI μ 81 11 1 := ⟨_, rfl⟩
  have g0 : FM (fun q => q = 91) (fun j => j = 11) μ ν0 := by rw [E0]; exact FM.uI (Or.inr ⟨rfl, rfl⟩)
  obtain ⟨ν1, p1, f1, a1⟩ := imgA ν0
  obtain ⟨ν2, p2, f2, a2, b2⟩ := imgB ν1
  obtain ⟨ν3, p3, f3, a3, b3⟩ := imgC ν2
  obtain ⟨ν4, p4, f4, a4, b4⟩ := imgD ν3
  obtain ⟨ν5, p5, f5, a5, b5⟩ := imgE ν4
  have f12 := f1.tr f2
  have f13 := f12.tr f3
  have f14 := f13.tr f4
  have f15 := f14.tr f5
  have e0 : ∀ q, q ≠ 81 → ν0.1 q = μ.1 q := fun q hq => by rw [E0]; funext i; rw [zu1, if_neg (fun w => hq w.1)]
  have s5 : ν5.1 81 1 = Int32.ofInt (c 7 0) := by
    rw [(f15.2 1 (fun q => q)).1, (g0.2 1 (by omega)).1]; exact h.2.1.1
  have s11 : ν5.1 81 11 = 1 := by
    rw [(f15.2 11 (fun q => q)).1, E0]; simp (decide := true) (implicitDefEqProofs := false) only [zO, zR, zA, zT, zu1, zu2, zu3, zu4, gI, gL, pI, pL, pZ, aI, aL, sI, sZ, sL, Option.bind_some, Option.map_some, if_true, if_false, ite_true, ite_false, true_and, and_true, false_and, and_false, or_true, true_or, or_false, false_or, and_self, not_true_eq_false, not_false_eq_true, ↓reduceIte, reduceIte, Nat.reduceAdd, Nat.reduceMul, Nat.reduceSub, Nat.reduceMod, Nat.reduceDiv, Nat.reduceEqDiff, Nat.reduceLT, Nat.reduceLeDiff, Int32.reduceAdd, Int32.reduceSub, Int32.reduceMul, Int32.reduceDiv, Int32.reduceMod, Int32.reduceOfNat, Int32.reduceOfInt, Int32.reduceLT, Int32.reduceLE, Int32.reduceToNatClampNeg, Int32.reduceToInt]
  obtain ⟨h1, ⟨h2, h3, h4, h5, h6⟩, h7, h8⟩ := h
  have k : ∀ j, j < 118 → ν5.1 91 j = ν4.1 91 j := a5
  refine ⟨upI ν5 91 121 (Int32.ofInt (c 7 0)), ?_, (g0.tr (f15.mo (fun k q => q) (fun k q => q.elim))).tr (FM.uI (Or.inl ⟨by decide, rfl⟩)), ?_, ?_⟩
  · simp (decide := true) (implicitDefEqProofs := false) only [f_X12_image, ← E0, zO, zR, zA, zT, zu1, zu2, zu3, zu4, gI, gL, pI, pL, pZ, aI, aL, sI, sZ, sL, Option.bind_some, Option.map_some, if_true, if_false, ite_true, ite_false, true_and, and_true, false_and, and_false, or_true, true_or, or_false, false_or, and_self, not_true_eq_false, not_false_eq_true, ↓reduceIte, reduceIte, Nat.reduceAdd, Nat.reduceMul, Nat.reduceSub, Nat.reduceMod, Nat.reduceDiv, Nat.reduceEqDiff, Nat.reduceLT, Nat.reduceLeDiff, Int32.reduceAdd, Int32.reduceSub, Int32.reduceMul, Int32.reduceDiv, Int32.reduceMod, Int32.reduceOfNat, Int32.reduceOfInt, Int32.reduceLT, Int32.reduceLE, Int32.reduceToNatClampNeg, Int32.reduceToInt]
    refine Eq.trans p1 ?_
    unfold b_X12_image_31
    refine Eq.trans p2 ?_
    unfold b_X12_image_105
    refine Eq.trans p3 ?_
    unfold b_X12_image_149
    refine Eq.trans p4 ?_
    unfold b_X12_image_178
    refine Eq.trans p5 ?_
    simp (decide := true) (implicitDefEqProofs := false) only [b_X12_image_206, s5, zO, zR, zA, zT, zu1, zu2, zu3, zu4, gI, gL, pI, pL, pZ, aI, aL, sI, sZ, sL, Option.bind_some, Option.map_some, if_true, if_false, ite_true, ite_false, true_and, and_true, false_and, and_false, or_true, true_or, or_false, false_or, and_self, not_true_eq_false, not_false_eq_true, ↓reduceIte, reduceIte, Nat.reduceAdd, Nat.reduceMul, Nat.reduceSub, Nat.reduceMod, Nat.reduceDiv, Nat.reduceEqDiff, Nat.reduceLT, Nat.reduceLeDiff, Int32.reduceAdd, Int32.reduceSub, Int32.reduceMul, Int32.reduceDiv, Int32.reduceMod, Int32.reduceOfNat, Int32.reduceOfInt, Int32.reduceLT, Int32.reduceLE, Int32.reduceToNatClampNeg, Int32.reduceToInt]
  · rw [zu1, if_neg (by omega)]; exact s11
  · refine ⟨fun i hi => ?_, ⟨?_, fun i hi => ?_⟩, fun q hq => ⟨?_, ?_⟩, fun i hi => ?_⟩
    · have w : ∀ j, j < 12 → (upI ν5 91 121 (Int32.ofInt (c 7 0))).1 91 j = μ.1 82 j := fun j hj => by
        rw [zu1, if_neg (by omega), a5 j (by omega), a4 j (by omega), a3 j (by omega), a2 j hj, a1 j hj, e0 82 (by decide)]
      rw [w _ (by omega), w _ (by omega), w _ (by omega)]
      exact h1 i hi
    · rw [zu1, if_pos (by first | exact ⟨rfl, rfl⟩ | exact ⟨trivial, rfl⟩)]
    · obtain ⟨q1, q2, q3, q4⟩ := b2 i hi
      rw [f1.e 83 (by decide) (by decide), e0 83 (by decide)] at q1
      rw [f1.e 84 (by decide) (by decide), e0 84 (by decide)] at q2
      rw [f1.e 85 (by decide) (by decide), e0 85 (by decide)] at q3
      rw [f1.e 86 (by decide) (by decide), e0 86 (by decide)] at q4
      have w : ∀ j, j < 44 → (upI ν5 91 121 (Int32.ofInt (c 7 0))).1 91 j = ν2.1 91 j := fun j hj => by
        rw [zu1, if_neg (by omega), a5 j (by omega), a4 j (by omega), a3 j (by omega)]
      rw [w _ (by omega), w _ (by omega), w _ (by omega), w _ (by omega), q1, q2, q3, q4]
      exact ⟨h3 i hi, h4 i hi, h5 i hi, h6 i hi⟩
    · rw [zu1, if_neg (by omega), b5 q hq, f14.e 87 (by decide) (by decide), e0 87 (by decide)]
      exact (h7 q hq).1
    · have bq := (b.2.2.2.2.1 q hq).1
      refine (h7 q hq).2.cg (fun i hi => ?_)
      obtain ⟨q1, q2⟩ := b3 (10 * q + i) (by omega)
      rw [f12.e 88 (by decide) (by decide), e0 88 (by decide)] at q1
      rw [f12.e 89 (by decide) (by decide), e0 89 (by decide)] at q2
      have w : ∀ j, j < 104 → (upI ν5 91 121 (Int32.ofInt (c 7 0))).1 91 j = ν3.1 91 j := fun j hj => by
        rw [zu1, if_neg (by omega), a5 j (by omega), a4 j (by omega)]
      rw [w _ (by omega), w _ (by omega)]
      exact ⟨q1, q2⟩
    · rw [zu1, if_neg (by omega), a5 _ (by omega), b4 i hi, f13.e 90 (by decide) (by decide), e0 90 (by decide)]
      exact h8 i hi
def imP (q : Nat) : Prop := q = 0 ∨ (19 ≤ q ∧ q ≤ 36) ∨ q = 91 ∨ scP q
def imJ (j : Nat) : Prop := j = 11 ∨ scJ j
theorem INV.im {μ ν : Mem} (h : INV μ) (f : FM imP imJ μ ν) (g : IM ν) : INV ν := by
  obtain ⟨⟨c, b, h1, h2⟩, -, h4, h5, h6, h7⟩ := h
  refine ⟨⟨c, b, h1.f f (fun q g1 g2 => ⟨by omega, by unfold imP scP; omega⟩), h2.w f (fun q g1 g2 => by unfold imP scP; omega) (by unfold imJ scJ; omega)⟩, g, h4.f f ?_ ?_ ?_ ?_, h5.f f ?_ ?_ ?_ ?_ ?_ ?_, h6.f f ?_ ?_ ?_, h7.f f ?_ ?_ ?_⟩ <;> first | (unfold imP scP; omega) | (unfold imJ scJ; omega) | (intro q g1 g2; unfold imP scP; omega)
theorem ok_image {μ : Mem} (h : INV μ) : OKop (f_X11_image SX 0) (f_X12_image SX 81) μ := by
  obtain ⟨c, b, h1, h2⟩ := h.1
  obtain ⟨μ1, p1, f1, d1⟩ := become_at (k := 19) (j := 1) (Or.inr (Or.inl ⟨rfl, rfl⟩)) h1 b
  have F1 : FM imP imJ μ (upI μ1 0 11 1) := ((f1.fm (by omega)).mo (fun k q => by unfold imP; omega) (fun k q => q.elim)).tr (FM.uI (Or.inl ⟨by decide, by unfold imP; omega⟩))
  have M1 : MM c (upI μ1 0 11 1) := h2.w F1 (fun q g1 g2 => by unfold imP scP; omega) (by unfold imJ scJ; omega)
  have D1 : CC 19 c (upI μ1 0 11 1) := d1.w (fun q => q = 0) (Fr.uI rfl) (fun q g1 g2 => by omega)
  obtain ⟨ν, p2, f2, s11, im⟩ := imageM M1 b
  have sz := d1.2.2.2.1.2.2.2.2.1
  simp only [Nat.reduceAdd, Nat.reduceMul, Nat.reduceMod, Int32.reduceOfNat] at sz
  refine ⟨Int32.ofInt (c 7 0), upI μ1 0 11 1, ν, ?_, p2, h.im (F1.tr (f2.mo (fun k q => by unfold imP; omega) (fun k q => by unfold imJ; omega))) (Or.inr ⟨?_, s11, c, b, D1.f f2 (fun q g1 g2 => ⟨by omega, by omega⟩), im⟩)⟩
  · simp (decide := true) (implicitDefEqProofs := false) only [f_X11_image, p1, sz, zO, zR, zA, zT, zu1, zu2, zu3, zu4, gI, gL, pI, pL, pZ, aI, aL, sI, sZ, sL, Option.bind_some, Option.map_some, if_true, if_false, ite_true, ite_false, true_and, and_true, false_and, and_false, or_true, true_or, or_false, false_or, and_self, not_true_eq_false, not_false_eq_true, ↓reduceIte, reduceIte, Nat.reduceAdd, Nat.reduceMul, Nat.reduceSub, Nat.reduceMod, Nat.reduceDiv, Nat.reduceEqDiff, Nat.reduceLT, Nat.reduceLeDiff, Int32.reduceAdd, Int32.reduceSub, Int32.reduceMul, Int32.reduceDiv, Int32.reduceMod, Int32.reduceOfNat, Int32.reduceOfInt, Int32.reduceLT, Int32.reduceLE, Int32.reduceToNatClampNeg, Int32.reduceToInt]
  · rw [(f2.1 0 (by decide) (by omega)).1]; simp (decide := true) (implicitDefEqProofs := false) only [zO, zR, zA, zT, zu1, zu2, zu3, zu4, gI, gL, pI, pL, pZ, aI, aL, sI, sZ, sL, Option.bind_some, Option.map_some, if_true, if_false, ite_true, ite_false, true_and, and_true, false_and, and_false, or_true, true_or, or_false, false_or, and_self, not_true_eq_false, not_false_eq_true, ↓reduceIte, reduceIte, Nat.reduceAdd, Nat.reduceMul, Nat.reduceSub, Nat.reduceMod, Nat.reduceDiv, Nat.reduceEqDiff, Nat.reduceLT, Nat.reduceLeDiff, Int32.reduceAdd, Int32.reduceSub, Int32.reduceMul, Int32.reduceDiv, Int32.reduceMod, Int32.reduceOfNat, Int32.reduceOfInt, Int32.reduceLT, Int32.reduceLE, Int32.reduceToNatClampNeg, Int32.reduceToInt]

