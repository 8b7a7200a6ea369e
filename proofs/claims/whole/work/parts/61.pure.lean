theorem isMass_at (S : SH) (a : Int32) (μ : Mem) : f_X11_isMass S a μ = some (wb a 1 999, μ) := by
  unfold f_X11_isMass; simp only [within_at, Option.bind_some, ozw]
/-- whether there is such a part -/
theorem has_at {k : Nat} (hk : CK k) {c : Nat → Nat → Int} {μ ν : Mem} (h : CC k c μ) (m : MM c ν) (b : BC c) (a : Int32) : (f_X5_has SX (k + 5) a μ = some (0, μ) ∧ f_X12_isPartOf SX 81 a ν = some (0, ν)) ∨ (∃ p : Nat, p < nP c ∧ a = Int32.ofNat p ∧ f_X5_has SX (k + 5) a μ = some (1, μ) ∧ f_X12_isPartOf SX 81 a ν = some (1, ν)) := by
  obtain ⟨o5, -⟩ := gR5 hk
  have q4 := h.2.2.2.1.2.2.2.2.1
  have m1 := m.2.1.1
  have bn := b.2.2.1
  have e1 : (Int32.ofInt (c 7 0) - 1) = Int32.ofInt (c 7 0 - 1) := y32s (c 7 0) 1
  rcases wbI a 0 (c 7 0 - 1) (by omega) (by omega) (by omega) (by omega) with t | ⟨t, z, z1, z2, rfl⟩
  · left
    have t' : wb a 0 (Int32.ofInt (c 7 0 - 1)) = 0 := t
    refine ⟨?_, ?_⟩
    · by_cases s : a < 0
      · simp (decide := true) (implicitDefEqProofs := false) only [f_X5_has, o5, s, zO, zR, zA, zT, zu1, zu2, zu3, zu4, gI, gL, pI, pL, pZ, aI, aL, sI, sZ, sL, Option.bind_some, Option.map_some, if_true, if_false, ite_true, ite_false, true_and, and_true, false_and, and_false, or_true, true_or, or_false, false_or, and_self, not_true_eq_false, not_false_eq_true, ↓reduceIte, reduceIte, Nat.reduceAdd, Nat.reduceMul, Nat.reduceSub, Nat.reduceMod, Nat.reduceDiv, Nat.reduceEqDiff, Nat.reduceLT, Nat.reduceLeDiff, Int32.reduceAdd, Int32.reduceSub, Int32.reduceMul, Int32.reduceDiv, Int32.reduceMod, Int32.reduceOfNat, Int32.reduceOfInt, Int32.reduceLT, Int32.reduceLE, Int32.reduceToNatClampNeg, Int32.reduceToInt]
      · have e : a = Int32.ofInt a.toInt := by simp
        have b1 := Int32.le_toInt a
        have b2 := Int32.toInt_lt a
        unfold wb at t'
        rw [if_neg s] at t'
        have s2 : Int32.ofInt (c 7 0 - 1) < a := by
          by_cases g : Int32.ofInt (c 7 0 - 1) < a
          · exact g
          · rw [if_neg g] at t'; cases t'
        have s3 : Int32.ofInt (c 7 0) ≤ a := by
          rw [e] at s2 ⊢
          have := (ylt32 (c 7 0 - 1) a.toInt (by omega) (by omega) (by omega) (by omega)).mp s2
          exact (yle32 (c 7 0) a.toInt (by omega) (by omega) (by omega) (by omega)).mpr (by omega)
        simp (decide := true) (implicitDefEqProofs := false) only [f_X5_has, o5, s, q4, s3, zO, zR, zA, zT, zu1, zu2, zu3, zu4, gI, gL, pI, pL, pZ, aI, aL, sI, sZ, sL, Option.bind_some, Option.map_some, if_true, if_false, ite_true, ite_false, true_and, and_true, false_and, and_false, or_true, true_or, or_false, false_or, and_self, not_true_eq_false, not_false_eq_true, ↓reduceIte, reduceIte, Nat.reduceAdd, Nat.reduceMul, Nat.reduceSub, Nat.reduceMod, Nat.reduceDiv, Nat.reduceEqDiff, Nat.reduceLT, Nat.reduceLeDiff, Int32.reduceAdd, Int32.reduceSub, Int32.reduceMul, Int32.reduceDiv, Int32.reduceMod, Int32.reduceOfNat, Int32.reduceOfInt, Int32.reduceLT, Int32.reduceLE, Int32.reduceToNatClampNeg, Int32.reduceToInt]
    · simp (decide := true) (implicitDefEqProofs := false) only [f_X12_isPartOf, m1, e1, in_at, t', ozw, oz, zO, zR, zA, zT, zu1, zu2, zu3, zu4, gI, gL, pI, pL, pZ, aI, aL, sI, sZ, sL, Option.bind_some, Option.map_some, if_true, if_false, ite_true, ite_false, true_and, and_true, false_and, and_false, or_true, true_or, or_false, false_or, and_self, not_true_eq_false, not_false_eq_true, ↓reduceIte, reduceIte, Nat.reduceAdd, Nat.reduceMul, Nat.reduceSub, Nat.reduceMod, Nat.reduceDiv, Nat.reduceEqDiff, Nat.reduceLT, Nat.reduceLeDiff, Int32.reduceAdd, Int32.reduceSub, Int32.reduceMul, Int32.reduceDiv, Int32.reduceMod, Int32.reduceOfNat, Int32.reduceOfInt, Int32.reduceLT, Int32.reduceLE, Int32.reduceToNatClampNeg, Int32.reduceToInt]
  · right
    have t' : wb (Int32.ofInt z) 0 (Int32.ofInt (c 7 0 - 1)) = 1 := t
    have s1 : ¬ Int32.ofInt z < 0 := fun g => by
      have := (ylt32 z 0 (by omega) (by omega) (by omega) (by omega)).mp g
      omega
    have s2 : ¬ Int32.ofInt (c 7 0) ≤ Int32.ofInt z := fun g => by
      have := (yle32 (c 7 0) z (by omega) (by omega) (by omega) (by omega)).mp g
      omega
    refine ⟨z.toNat, by unfold nP; omega, ofIn z z1, ?_, ?_⟩
    · simp (decide := true) (implicitDefEqProofs := false) only [f_X5_has, o5, s1, q4, s2, zO, zR, zA, zT, zu1, zu2, zu3, zu4, gI, gL, pI, pL, pZ, aI, aL, sI, sZ, sL, Option.bind_some, Option.map_some, if_true, if_false, ite_true, ite_false, true_and, and_true, false_and, and_false, or_true, true_or, or_false, false_or, and_self, not_true_eq_false, not_false_eq_true, ↓reduceIte, reduceIte, Nat.reduceAdd, Nat.reduceMul, Nat.reduceSub, Nat.reduceMod, Nat.reduceDiv, Nat.reduceEqDiff, Nat.reduceLT, Nat.reduceLeDiff, Int32.reduceAdd, Int32.reduceSub, Int32.reduceMul, Int32.reduceDiv, Int32.reduceMod, Int32.reduceOfNat, Int32.reduceOfInt, Int32.reduceLT, Int32.reduceLE, Int32.reduceToNatClampNeg, Int32.reduceToInt]
    · simp (decide := true) (implicitDefEqProofs := false) only [f_X12_isPartOf, m1, e1, in_at, t', ozw, oz, zO, zR, zA, zT, zu1, zu2, zu3, zu4, gI, gL, pI, pL, pZ, aI, aL, sI, sZ, sL, Option.bind_some, Option.map_some, if_true, if_false, ite_true, ite_false, true_and, and_true, false_and, and_false, or_true, true_or, or_false, false_or, and_self, not_true_eq_false, not_false_eq_true, ↓reduceIte, reduceIte, Nat.reduceAdd, Nat.reduceMul, Nat.reduceSub, Nat.reduceMod, Nat.reduceDiv, Nat.reduceEqDiff, Nat.reduceLT, Nat.reduceLeDiff, Int32.reduceAdd, Int32.reduceSub, Int32.reduceMul, Int32.reduceDiv, Int32.reduceMod, Int32.reduceOfNat, Int32.reduceOfInt, Int32.reduceLT, Int32.reduceLE, Int32.reduceToNatClampNeg, Int32.reduceToInt]
theorem BC.mass {c : Nat → Nat → Int} (b : BC c) {p : Nat} {z : Int} (h : 0 ≤ z ∧ z ≤ 999) : BC (up c 3 p z) := by
  obtain ⟨b1, b2, b3, b4, b5, b6⟩ := b
  refine ⟨?_, ?_, ?_, fun i hi => ?_, ?_, ?_⟩
  · unfold Bxy; rw [up_ne (by decide), up_ne (by decide)]; exact b1
  · rw [up_ne (by decide)]; exact b2
  · rw [up_ne (by decide)]; exact b3
  · rw [up_ne (show 4 ≠ 3 by decide), up_ne (show 5 ≠ 3 by decide), up_ne (show 6 ≠ 3 by decide)]
    have := b4 i hi
    refine ⟨?_, this.2⟩
    by_cases e : i = p
    · rw [e, up_at]; exact h
    · rw [up_of e]; exact this.1
  · intro q hq
    rw [up_ne (by decide), up_ne (by omega)]; exact b5 q hq
  · rw [up_ne (by decide)]; exact b6
theorem MM.mass {c : Nat → Nat → Int} {μ : Mem} (h : MM c μ) {p : Nat} {z : Int} {v : Int32} (hv : v = Int32.ofInt z) : MM (up c 3 p z) (upI μ 83 p v) := by
  have e1 : ∀ q, q ≠ 83 → (upI μ 83 p v).1 q = μ.1 q := fun q hq => ((Fr.uI (P := fun q => q = 83) (μ := μ) (o := 83) (j := p) (v := v) rfl) q hq).1
  obtain ⟨h1, ⟨h2, h2a, h2b, h2c, h2d⟩, h3, h4⟩ := h
  refine ⟨?_, ⟨?_, fun j hj => ?_, ?_, ?_, ?_⟩, ?_, ?_⟩
  · rw [e1 82 (by decide), up_ne (by decide), up_ne (by decide), up_ne (by decide)]; exact h1
  · rw [e1 81 (by decide), up_ne (by decide)]; exact h2
  · rw [zu1]
    by_cases e : j = p
    · rw [if_pos ⟨rfl, e⟩, e, up_at, hv]
    · rw [if_neg (fun g => e g.2), up_of e]; exact h2a j hj
  · unfold Rw; rw [e1 84 (by decide), up_ne (by decide)]; exact h2b
  · unfold Rw; rw [e1 85 (by decide), up_ne (by decide)]; exact h2c
  · unfold Rw; rw [e1 86 (by decide), up_ne (by decide)]; exact h2d
  · intro q hq
    rw [e1 87 (by decide), e1 88 (by decide), e1 89 (by decide), up_ne (show 12 ≠ 3 by decide), up_ne (show 9 + q ≠ 3 by omega)]; exact h3 q hq
  · unfold Rw; rw [e1 90 (by decide), up_ne (by decide)]; exact h4
theorem ok_mass {μ : Mem} (h : INV μ) (a1 a2 : Int32) : OKop (f_X11_mass SX 0 a1 a2) (f_X12_mass SX 81 a1 a2) μ := by
  obtain ⟨c, b, h1, h2⟩ := h.1
  have ha : ∀ ν, MM c ν → _ := fun ν m => has_at ck1 h1 m b a1
  rcases ha μ h2 with ⟨t1, t2⟩ | ⟨p, hp, rfl, t1, t2⟩
  · simp only [Nat.reduceAdd, Nat.reduceMul, Nat.reduceMod, Int32.reduceOfNat] at t1
    refine ⟨-1, μ, μ, ?_, ?_, h⟩
    · simp (decide := true) (implicitDefEqProofs := false) only [f_X11_mass, t1, zO, zR, zA, zT, zu1, zu2, zu3, zu4, gI, gL, pI, pL, pZ, aI, aL, sI, sZ, sL, Option.bind_some, Option.map_some, if_true, if_false, ite_true, ite_false, true_and, and_true, false_and, and_false, or_true, true_or, or_false, false_or, and_self, not_true_eq_false, not_false_eq_true, ↓reduceIte, reduceIte, Nat.reduceAdd, Nat.reduceMul, Nat.reduceSub, Nat.reduceMod, Nat.reduceDiv, Nat.reduceEqDiff, Nat.reduceLT, Nat.reduceLeDiff, Int32.reduceAdd, Int32.reduceSub, Int32.reduceMul, Int32.reduceDiv, Int32.reduceMod, Int32.reduceOfNat, Int32.reduceOfInt, Int32.reduceLT, Int32.reduceLE, Int32.reduceToNatClampNeg, Int32.reduceToInt]
    · simp (decide := true) (implicitDefEqProofs := false) only [f_X12_mass, t2, zO, zR, zA, zT, zu1, zu2, zu3, zu4, gI, gL, pI, pL, pZ, aI, aL, sI, sZ, sL, Option.bind_some, Option.map_some, if_true, if_false, ite_true, ite_false, true_and, and_true, false_and, and_false, or_true, true_or, or_false, false_or, and_self, not_true_eq_false, not_false_eq_true, ↓reduceIte, reduceIte, Nat.reduceAdd, Nat.reduceMul, Nat.reduceSub, Nat.reduceMod, Nat.reduceDiv, Nat.reduceEqDiff, Nat.reduceLT, Nat.reduceLeDiff, Int32.reduceAdd, Int32.reduceSub, Int32.reduceMul, Int32.reduceDiv, Int32.reduceMod, Int32.reduceOfNat, Int32.reduceOfInt, Int32.reduceLT, Int32.reduceLE, Int32.reduceToNatClampNeg, Int32.reduceToInt]
  · simp only [Nat.reduceAdd, Nat.reduceMul, Nat.reduceMod, Int32.reduceOfNat] at t1
    have hp8 : p < 8 := by have := b.2.2.1; unfold nP at hp; omega
    rcases wbI a2 1 999 (by decide) (by decide) (by decide) (by decide) with s | ⟨s, z, z1, z2, rfl⟩
    · have s' : wb a2 1 999 = 0 := s
      refine ⟨-2, μ, μ, ?_, ?_, h⟩
      · simp (decide := true) (implicitDefEqProofs := false) only [f_X11_mass, t1, isMass_at, s', zO, zR, zA, zT, zu1, zu2, zu3, zu4, gI, gL, pI, pL, pZ, aI, aL, sI, sZ, sL, Option.bind_some, Option.map_some, if_true, if_false, ite_true, ite_false, true_and, and_true, false_and, and_false, or_true, true_or, or_false, false_or, and_self, not_true_eq_false, not_false_eq_true, ↓reduceIte, reduceIte, Nat.reduceAdd, Nat.reduceMul, Nat.reduceSub, Nat.reduceMod, Nat.reduceDiv, Nat.reduceEqDiff, Nat.reduceLT, Nat.reduceLeDiff, Int32.reduceAdd, Int32.reduceSub, Int32.reduceMul, Int32.reduceDiv, Int32.reduceMod, Int32.reduceOfNat, Int32.reduceOfInt, Int32.reduceLT, Int32.reduceLE, Int32.reduceToNatClampNeg, Int32.reduceToInt]
      · simp (decide := true) (implicitDefEqProofs := false) only [f_X12_mass, t2, in_at, s', zO, zR, zA, zT, zu1, zu2, zu3, zu4, gI, gL, pI, pL, pZ, aI, aL, sI, sZ, sL, Option.bind_some, Option.map_some, if_true, if_false, ite_true, ite_false, true_and, and_true, false_and, and_false, or_true, true_or, or_false, false_or, and_self, not_true_eq_false, not_false_eq_true, ↓reduceIte, reduceIte, Nat.reduceAdd, Nat.reduceMul, Nat.reduceSub, Nat.reduceMod, Nat.reduceDiv, Nat.reduceEqDiff, Nat.reduceLT, Nat.reduceLeDiff, Int32.reduceAdd, Int32.reduceSub, Int32.reduceMul, Int32.reduceDiv, Int32.reduceMod, Int32.reduceOfNat, Int32.reduceOfInt, Int32.reduceLT, Int32.reduceLE, Int32.reduceToNatClampNeg, Int32.reduceToInt]
    · have s' : wb (Int32.ofInt z) 1 999 = 1 := s
      obtain ⟨ν, p1, f1, c1⟩ := reweigh_at ck1 h1 b hp z
      simp only [Nat.reduceAdd, Nat.reduceMul, Nat.reduceMod, Int32.reduceOfNat] at p1
      have F1 := crX f1 (fun q hq => by omega)
      have M1 : MM c ν := h2.w (f1.fm (by omega)) (fun q g1 g2 => by omega) (fun q => q.elim)
      have t2' : f_X12_isPartOf SX 81 (Int32.ofNat p) ν = some (1, ν) := by
        rcases has_at ck1 h1 M1 b (Int32.ofNat p) with ⟨g, -⟩ | ⟨_, _, _, _, g⟩
        · simp only [Nat.reduceAdd, Nat.reduceMul, Nat.reduceMod, Int32.reduceOfNat] at g
          rw [t1] at g; cases g
        · exact g
      have f2 : FM (fun q => q = 83) (fun _ => False) ν (upI ν 83 p (Int32.ofInt z)) := FM.uI (Or.inl ⟨by decide, rfl⟩)
      have F2 := crM f2 (fun q hq => by omega) (fun q hq => hq.elim)
      have x1 := h1.2.2.2.1.1 p hp8
      have x2 := M1.2.1.2.1 p hp8
      simp only [Nat.reduceAdd, Nat.reduceMul, Nat.reduceMod, Int32.reduceOfNat] at x1
      refine ⟨Int32.ofInt (c 3 p), ν, upI ν 83 p (Int32.ofInt z), ?_, ?_, ?_⟩
      · simp (decide := true) (implicitDefEqProofs := false) only [f_X11_mass, t1, isMass_at, s', zin p 8 hp8 (by decide), ztn p (by omega), x1, p1, zO, zR, zA, zT, zu1, zu2, zu3, zu4, gI, gL, pI, pL, pZ, aI, aL, sI, sZ, sL, Option.bind_some, Option.map_some, if_true, if_false, ite_true, ite_false, true_and, and_true, false_and, and_false, or_true, true_or, or_false, false_or, and_self, not_true_eq_false, not_false_eq_true, ↓reduceIte, reduceIte, Nat.reduceAdd, Nat.reduceMul, Nat.reduceSub, Nat.reduceMod, Nat.reduceDiv, Nat.reduceEqDiff, Nat.reduceLT, Nat.reduceLeDiff, Int32.reduceAdd, Int32.reduceSub, Int32.reduceMul, Int32.reduceDiv, Int32.reduceMod, Int32.reduceOfNat, Int32.reduceOfInt, Int32.reduceLT, Int32.reduceLE, Int32.reduceToNatClampNeg, Int32.reduceToInt]
      · simp (decide := true) (implicitDefEqProofs := false) only [f_X12_mass, t2', in_at, s', zin p 8 hp8 (by decide), ztn p (by omega), x2, zO, zR, zA, zT, zu1, zu2, zu3, zu4, gI, gL, pI, pL, pZ, aI, aL, sI, sZ, sL, Option.bind_some, Option.map_some, if_true, if_false, ite_true, ite_false, true_and, and_true, false_and, and_false, or_true, true_or, or_false, false_or, and_self, not_true_eq_false, not_false_eq_true, ↓reduceIte, reduceIte, Nat.reduceAdd, Nat.reduceMul, Nat.reduceSub, Nat.reduceMod, Nat.reduceDiv, Nat.reduceEqDiff, Nat.reduceLT, Nat.reduceLeDiff, Int32.reduceAdd, Int32.reduceSub, Int32.reduceMul, Int32.reduceDiv, Int32.reduceMod, Int32.reduceOfNat, Int32.reduceOfInt, Int32.reduceLT, Int32.reduceLE, Int32.reduceToNatClampNeg, Int32.reduceToInt]
      · exact h.cr (F1.tr F2) ⟨up c 3 p z, b.mass (by omega), c1.f f2 (fun q g1 g2 => ⟨by omega, by omega⟩), M1.mass rfl⟩

