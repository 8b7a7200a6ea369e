theorem allowedAt_at {c : Nat → Nat → Int} {μ : Mem} (h : MM c μ) (b : BC c) {d r : Nat} (hd : d < 20) (hr : r < 61) : f_X12_allowedAt SX 81 (Int32.ofNat d) (Int32.ofNat r) μ = some (mayV c d r, μ) := by
  obtain ⟨b1, b2, b3, b4, b5, c0, c1, c2, c3, c4, c5, c6, c7, c8⟩ := id b
  have hD := h.2.2.2
  have h5 := hD 5 (by decide)
  have h6 := hD 6 (by decide)
  have h7 := hD 7 (by decide)
  have hq := hD (10 + d / 5) (by omega)
  have hn : (c 8 5).toNat < 3 := by omega
  have a2 := readOf_at h b hn hr
  rw [← ofIn _ c5.1] at a2
  obtain ⟨i1, i2⟩ := d5 d hd
  have m0 : (Int32.ofInt (c 8 7) ≤ 0) = (c 8 7 = 0) := by
    have := yle32 (c 8 7) 0 (by omega) (by omega) (by omega) (by omega)
    exact propext ⟨fun g => by have := this.mp g; omega, fun g => this.mpr (by omega)⟩
  have m2 : (Int32.ofInt (c 8 7) = 2) = (c 8 7 = 2) := propext (yeq _ 2 (by omega) (by omega) (by omega) (by omega))
  unfold mayV
  by_cases t0 : c 8 7 = 0
  · have t2 : ¬ c 8 7 = 2 := by omega
    simp (decide := true) (implicitDefEqProofs := false) only [f_X12_allowedAt, b_X12_allowedAt_44, b_X12_allowedAt_69, h5, h6, h7, hq, a2, i1, i2, m0, m2, t0, t2, zO, zR, zA, zT, zu1, zu2, zu3, zu4, gI, gL, pI, pL, pZ, aI, aL, sI, sZ, sL, Option.bind_some, Option.map_some, if_true, if_false, ite_true, ite_false, true_and, and_true, false_and, and_false, or_true, true_or, or_false, false_or, and_self, not_true_eq_false, not_false_eq_true, ↓reduceIte, reduceIte, Nat.reduceAdd, Nat.reduceMul, Nat.reduceSub, Nat.reduceMod, Nat.reduceDiv, Nat.reduceEqDiff, Nat.reduceLT, Nat.reduceLeDiff, Int32.reduceAdd, Int32.reduceSub, Int32.reduceMul, Int32.reduceDiv, Int32.reduceMod, Int32.reduceOfNat, Int32.reduceOfInt, Int32.reduceLT, Int32.reduceLE, Int32.reduceToNatClampNeg, Int32.reduceToInt]
  · by_cases t2 : c 8 7 = 2
    · simp (decide := true) (implicitDefEqProofs := false) only [f_X12_allowedAt, b_X12_allowedAt_44, b_X12_allowedAt_69, h5, h6, h7, hq, a2, i1, i2, m0, m2, t0, t2, zO, zR, zA, zT, zu1, zu2, zu3, zu4, gI, gL, pI, pL, pZ, aI, aL, sI, sZ, sL, Option.bind_some, Option.map_some, if_true, if_false, ite_true, ite_false, true_and, and_true, false_and, and_false, or_true, true_or, or_false, false_or, and_self, not_true_eq_false, not_false_eq_true, ↓reduceIte, reduceIte, Nat.reduceAdd, Nat.reduceMul, Nat.reduceSub, Nat.reduceMod, Nat.reduceDiv, Nat.reduceEqDiff, Nat.reduceLT, Nat.reduceLeDiff, Int32.reduceAdd, Int32.reduceSub, Int32.reduceMul, Int32.reduceDiv, Int32.reduceMod, Int32.reduceOfNat, Int32.reduceOfInt, Int32.reduceLT, Int32.reduceLE, Int32.reduceToNatClampNeg, Int32.reduceToInt]
    · simp (decide := true) (implicitDefEqProofs := false) only [f_X12_allowedAt, b_X12_allowedAt_44, b_X12_allowedAt_69, h5, h6, h7, hq, a2, i1, i2, m0, m2, t0, t2, zO, zR, zA, zT, zu1, zu2, zu3, zu4, gI, gL, pI, pL, pZ, aI, aL, sI, sZ, sL, Option.bind_some, Option.map_some, if_true, if_false, ite_true, ite_false, true_and, and_true, false_and, and_false, or_true, true_or, or_false, false_or, and_self, not_true_eq_false, not_false_eq_true, ↓reduceIte, reduceIte, Nat.reduceAdd, Nat.reduceMul, Nat.reduceSub, Nat.reduceMod, Nat.reduceDiv, Nat.reduceEqDiff, Nat.reduceLT, Nat.reduceLeDiff, Int32.reduceAdd, Int32.reduceSub, Int32.reduceMul, Int32.reduceDiv, Int32.reduceMod, Int32.reduceOfNat, Int32.reduceOfInt, Int32.reduceLT, Int32.reduceLE, Int32.reduceToNatClampNeg, Int32.reduceToInt]
theorem spareNow_at {c : Nat → Nat → Int} {μ : Mem} (h : MM c μ) (b : BC c) : f_X12_spareNow SX 81 μ = some (roomV c, μ) := by
  have bd := b.2.2.2.2.2
  have m := allowedAt_at h b (d := (c 8 0).toNat) (r := (c 8 1).toNat) (by omega) (by omega)
  rw [← ofIn _ bd.1.1, ← ofIn _ bd.2.1.1] at m
  have h0 := h.2.2.2 0 (by decide)
  have h1 := h.2.2.2 1 (by decide)
  have h2 := h.2.2.2 2 (by decide)
  have h3 := h.2.2.2 3 (by decide)
  simp (decide := true) (implicitDefEqProofs := false) only [f_X12_spareNow, h0, h1, h2, h3, m, roomV, hangs, zO, zR, zA, zT, zu1, zu2, zu3, zu4, gI, gL, pI, pL, pZ, aI, aL, sI, sZ, sL, Option.bind_some, Option.map_some, if_true, if_false, ite_true, ite_false, true_and, and_true, false_and, and_false, or_true, true_or, or_false, false_or, and_self, not_true_eq_false, not_false_eq_true, ↓reduceIte, reduceIte, Nat.reduceAdd, Nat.reduceMul, Nat.reduceSub, Nat.reduceMod, Nat.reduceDiv, Nat.reduceEqDiff, Nat.reduceLT, Nat.reduceLeDiff, Int32.reduceAdd, Int32.reduceSub, Int32.reduceMul, Int32.reduceDiv, Int32.reduceMod, Int32.reduceOfNat, Int32.reduceOfInt, Int32.reduceLT, Int32.reduceLE, Int32.reduceToNatClampNeg, Int32.reduceToInt]
  have : Int32.ofInt (c 8 3 + c 8 2) = Int32.ofInt (c 8 3) + Int32.ofInt (c 8 2) := (y32a _ _).symm
  rw [this]
  have z : ∀ x y z : Int32, x - y - z = x - (y + z) := fun x y z => by grind
  rw [z]
theorem DD_pos {c : Nat → Nat → Int} (h : none3 c = 0) : 0 < DD c ∧ standB c ≠ 0 := by
  have t1 : standB c ≠ 0 := by
    intro e
    unfold none3 at h
    rw [if_pos e] at h
    cases h
  refine ⟨?_, t1⟩
  unfold DD
  rcases low_r (s4 c) with t | t
  · have t' : air c = -5 := t
    rw [if_pos t']; decide
  · have t' : 0 ≤ air c ∧ air c ≤ 3 := t
    rw [if_neg (by omega)]
    exact tr3_pos t1 _ (by omega)
theorem F_b {c : Nat → Nat → Int} (b : BC c) : (-7200 ≤ DD c ∧ DD c ≤ 7200) ∧ (∀ p, p < 4 → -1000000000000000 ≤ shF c p ∧ shF c p ≤ 1000000000000000) ∧ (-30000000000 ≤ blF c ∧ blF c ≤ 30000000000) ∧ (∀ p, p < 4 → -1000000000000000 ≤ DD c * shF c p ∧ DD c * shF c p ≤ 1000000000000000) ∧ (-30000000000 ≤ DD c * blF c ∧ DD c * blF c ≤ 30000000000) := by
  obtain ⟨bs, bdt⟩ := pl_b b.1 b.jb
  have tb := tri_b b.1 (Nat.mod_lt ((air c).toNat + 1) (by decide : 4 > 0)) (Nat.mod_lt ((air c).toNat + 2) (by decide : 4 > 0)) (Nat.mod_lt ((air c).toNat + 3) (by decide : 4 > 0))
  unfold DD shF blF tr3
  by_cases t : air c = -5
  · simp only [t, if_true]
    refine ⟨by omega, fun p hp => ?_, by omega, fun p hp => ?_, by omega⟩
    · exact bs p hp
    · have := bs p hp; unfold s4; omega
  · simp only [t, if_false]
    refine ⟨tb, fun p hp => ?_, by omega, fun p hp => ?_, ?_⟩
    · have := s3_b b (air c).toNat p; omega
    · have := s3_b b (air c).toNat p
      have := mulb (a := tri c (((air c).toNat + 1) % 4) (((air c).toNat + 2) % 4) (((air c).toNat + 3) % 4)) (b := s3 c (air c).toNat p) 7200 18000000000 (by omega) (by omega) (by omega) (by omega)
      omega
    · have := mulb (a := tri c (((air c).toNat + 1) % 4) (((air c).toNat + 2) % 4) (((air c).toNat + 3) % 4)) (b := 65 * tri c (((air c).toNat + 1) % 4) (((air c).toNat + 2) % 4) (((air c).toNat + 3) % 4)) 7200 468000 (by omega) (by omega) (by omega) (by omega)
      omega
theorem isAbove_at {c : Nat → Nat → Int} {μ : Mem} (h : MM c μ) (b : BC c) (hd : 0 < DD c) (m : MPs (fun p => DD c * shF c p) (DD c * blF c) μ) : f_X12_isAboveLimit SX 81 μ = some (ovN c (shF c) (blF c), μ) := by
  obtain ⟨g1, g2, g3, g4, g5⟩ := F_b b
  obtain ⟨m1, m2⟩ := m
  have st : ∀ self, ∀ e, e < 4 → l_X12_isAboveLimit_2 SX 81 self (Int32.ofNat e, μ) = if shF c e ≤ c 2 e * blF c then self (Int32.ofNat (e + 1), μ) else some (1, μ) := by
    intro self e he
    have b1 := b.2.1 e he
    have b2 := g4 e he
    have k1 := mulb (a := c 2 e) (b := DD c * blF c) 9999 30000000000 (by omega) (by omega) (by omega) (by omega)
    have q : (Int64.ofInt (DD c * shF c e) ≤ Int64.ofInt (c 2 e * (DD c * blF c))) = (shF c e ≤ c 2 e * blF c) := by
      have y1 := yle (DD c * shF c e) (c 2 e * (DD c * blF c)) (by omega) (by omega) (by omega) (by omega)
      have y2 : c 2 e * (DD c * blF c) = DD c * (c 2 e * blF c) := by grind
      rw [y2] at y1 ⊢
      exact propext ⟨fun g => Int.le_of_mul_le_mul_left (y1.mp g) hd, fun g => y1.mpr (Int.mul_le_mul_of_nonneg_left g (by omega))⟩
    have y := yw (c 2 e) (by omega) (by omega)
    have e3 : 3 * Int32.ofNat e + 2 = Int32.ofNat (3 * e + 2) := by
      have h : e = 0 ∨ e = 1 ∨ e = 2 ∨ e = 3 := by omega
      rcases h with rfl | rfl | rfl | rfl <;> decide
    have l2 := (h.1 e he).2.2
    have me : μ.2 95 e = Int64.ofInt (DD c * shF c e) := m1 e he
    simp (decide := true) (implicitDefEqProofs := false) only [l_X12_isAboveLimit_2, i4c e he, i4n e he, zin e 4 he (by decide), ztn e (by omega), e3, zin (3 * e + 2) 12 (by omega) (by decide), ztn (3 * e + 2) (by omega), l2, me, m2, y, y64m, q, zO, zR, zA, zT, zu1, zu2, zu3, zu4, gI, gL, pI, pL, pZ, aI, aL, sI, sZ, sL, Option.bind_some, Option.map_some, if_true, if_false, ite_true, ite_false, true_and, and_true, false_and, and_false, or_true, true_or, or_false, false_or, and_self, not_true_eq_false, not_false_eq_true, ↓reduceIte, reduceIte, Nat.reduceAdd, Nat.reduceMul, Nat.reduceSub, Nat.reduceMod, Nat.reduceDiv, Nat.reduceEqDiff, Nat.reduceLT, Nat.reduceLeDiff, Int32.reduceAdd, Int32.reduceSub, Int32.reduceMul, Int32.reduceDiv, Int32.reduceMod, Int32.reduceOfNat, Int32.reduceOfInt, Int32.reduceLT, Int32.reduceLE, Int32.reduceToNatClampNeg, Int32.reduceToInt]
  have e0 : f_X12_isAboveLimit SX 81 μ = lpN (l_X12_isAboveLimit_2 SX 81) 5000 (Int32.ofNat 0, μ) := by
    unfold f_X12_isAboveLimit; rw [if_pos (by decide +kernel)]; rfl
  have ex : ∀ self, l_X12_isAboveLimit_2 SX 81 self (Int32.ofNat 4, μ) = some (0, μ) := fun _ => rfl
  rw [e0, zlp, st _ 0 (by decide), zlp, st _ 1 (by decide), zlp, st _ 2 (by decide), zlp, st _ 3 (by decide), zlp, ex]
  unfold ovN
  by_cases t0 : shF c 0 ≤ c 2 0 * blF c <;> by_cases t1 : shF c 1 ≤ c 2 1 * blF c <;> by_cases t2 : shF c 2 ≤ c 2 2 * blF c <;> by_cases t3 : shF c 3 ≤ c 2 3 * blF c <;> simp [t0, t1, t2, t3]
theorem none3_r (c : Nat → Nat → Int) : none3 c = 0 ∨ none3 c = 1 ∨ none3 c = 2 ∨ none3 c = 3 := by
  unfold none3
  repeat' split
  all_goals simp
theorem whyNow_at {c : Nat → Nat → Int} {μ : Mem} (h : MM c μ) (b : BC c) : ∃ ν, f_X12_whyNow SX 81 μ = some (whyV c, ν) ∧ FM uP uJ μ ν ∧ (none3 c = 0 → MO c ν) := by
  obtain ⟨ν, p, f, m⟩ := pushes_at h b
  have h' : MM c ν := h.w f (fun q h1 h2 => by unfold uP; omega) (by unfold uJ; omega)
  refine ⟨ν, ?_, f, m⟩
  by_cases t : none3 c = 0
  · have ia := isAbove_at h' b (DD_pos t).1 (m t).1
    have sp := spareNow_at h' b
    unfold whyV
    rw [if_pos t]
    have l0 : (none3 c ≤ 0) = True := by rw [t]; exact eq_true (by decide)
    by_cases t1 : ovN c (shF c) (blF c) = 0
    · by_cases t2 : 0 ≤ roomV c
      · simp (decide := true) (implicitDefEqProofs := false) only [f_X12_whyNow, p, l0, ia, t1, sp, t2, zO, zR, zA, zT, zu1, zu2, zu3, zu4, gI, gL, pI, pL, pZ, aI, aL, sI, sZ, sL, Option.bind_some, Option.map_some, if_true, if_false, ite_true, ite_false, true_and, and_true, false_and, and_false, or_true, true_or, or_false, false_or, and_self, not_true_eq_false, not_false_eq_true, ↓reduceIte, reduceIte, Nat.reduceAdd, Nat.reduceMul, Nat.reduceSub, Nat.reduceMod, Nat.reduceDiv, Nat.reduceEqDiff, Nat.reduceLT, Nat.reduceLeDiff, Int32.reduceAdd, Int32.reduceSub, Int32.reduceMul, Int32.reduceDiv, Int32.reduceMod, Int32.reduceOfNat, Int32.reduceOfInt, Int32.reduceLT, Int32.reduceLE, Int32.reduceToNatClampNeg, Int32.reduceToInt]
      · simp (decide := true) (implicitDefEqProofs := false) only [f_X12_whyNow, p, l0, ia, t1, sp, t2, zO, zR, zA, zT, zu1, zu2, zu3, zu4, gI, gL, pI, pL, pZ, aI, aL, sI, sZ, sL, Option.bind_some, Option.map_some, if_true, if_false, ite_true, ite_false, true_and, and_true, false_and, and_false, or_true, true_or, or_false, false_or, and_self, not_true_eq_false, not_false_eq_true, ↓reduceIte, reduceIte, Nat.reduceAdd, Nat.reduceMul, Nat.reduceSub, Nat.reduceMod, Nat.reduceDiv, Nat.reduceEqDiff, Nat.reduceLT, Nat.reduceLeDiff, Int32.reduceAdd, Int32.reduceSub, Int32.reduceMul, Int32.reduceDiv, Int32.reduceMod, Int32.reduceOfNat, Int32.reduceOfInt, Int32.reduceLT, Int32.reduceLE, Int32.reduceToNatClampNeg, Int32.reduceToInt]
    · simp (decide := true) (implicitDefEqProofs := false) only [f_X12_whyNow, p, l0, ia, t1, zO, zR, zA, zT, zu1, zu2, zu3, zu4, gI, gL, pI, pL, pZ, aI, aL, sI, sZ, sL, Option.bind_some, Option.map_some, if_true, if_false, ite_true, ite_false, true_and, and_true, false_and, and_false, or_true, true_or, or_false, false_or, and_self, not_true_eq_false, not_false_eq_true, ↓reduceIte, reduceIte, Nat.reduceAdd, Nat.reduceMul, Nat.reduceSub, Nat.reduceMod, Nat.reduceDiv, Nat.reduceEqDiff, Nat.reduceLT, Nat.reduceLeDiff, Int32.reduceAdd, Int32.reduceSub, Int32.reduceMul, Int32.reduceDiv, Int32.reduceMod, Int32.reduceOfNat, Int32.reduceOfInt, Int32.reduceLT, Int32.reduceLE, Int32.reduceToNatClampNeg, Int32.reduceToInt]
  · have l0 : (none3 c ≤ 0) = False := by
      rcases none3_r c with g | g | g | g
      · exact absurd g t
      · rw [g]; exact eq_false (by decide)
      · rw [g]; exact eq_false (by decide)
      · rw [g]; exact eq_false (by decide)
    unfold whyV
    rw [if_neg t]
    simp (decide := true) (implicitDefEqProofs := false) only [f_X12_whyNow, p, l0, zO, zR, zA, zT, zu1, zu2, zu3, zu4, gI, gL, pI, pL, pZ, aI, aL, sI, sZ, sL, Option.bind_some, Option.map_some, if_true, if_false, ite_true, ite_false, true_and, and_true, false_and, and_false, or_true, true_or, or_false, false_or, and_self, not_true_eq_false, not_false_eq_true, ↓reduceIte, reduceIte, Nat.reduceAdd, Nat.reduceMul, Nat.reduceSub, Nat.reduceMod, Nat.reduceDiv, Nat.reduceEqDiff, Nat.reduceLT, Nat.reduceLeDiff, Int32.reduceAdd, Int32.reduceSub, Int32.reduceMul, Int32.reduceDiv, Int32.reduceMod, Int32.reduceOfNat, Int32.reduceOfInt, Int32.reduceLT, Int32.reduceLE, Int32.reduceToNatClampNeg, Int32.reduceToInt]
theorem may_at {c : Nat → Nat → Int} {μ : Mem} (h : MM c μ) (b : BC c) : ∃ ν, f_X12_may SX 81 μ = some (if whyV c = 0 then 1 else 0, ν) ∧ FM uP uJ μ ν := by
  obtain ⟨ν, p, f, -⟩ := whyNow_at h b
  refine ⟨ν, ?_, f⟩
  by_cases t : whyV c = 0
  · simp (decide := true) (implicitDefEqProofs := false) only [f_X12_may, p, t, zO, zR, zA, zT, zu1, zu2, zu3, zu4, gI, gL, pI, pL, pZ, aI, aL, sI, sZ, sL, Option.bind_some, Option.map_some, if_true, if_false, ite_true, ite_false, true_and, and_true, false_and, and_false, or_true, true_or, or_false, false_or, and_self, not_true_eq_false, not_false_eq_true, ↓reduceIte, reduceIte, Nat.reduceAdd, Nat.reduceMul, Nat.reduceSub, Nat.reduceMod, Nat.reduceDiv, Nat.reduceEqDiff, Nat.reduceLT, Nat.reduceLeDiff, Int32.reduceAdd, Int32.reduceSub, Int32.reduceMul, Int32.reduceDiv, Int32.reduceMod, Int32.reduceOfNat, Int32.reduceOfInt, Int32.reduceLT, Int32.reduceLE, Int32.reduceToNatClampNeg, Int32.reduceToInt]
  · simp (decide := true) (implicitDefEqProofs := false) only [f_X12_may, p, t, zO, zR, zA, zT, zu1, zu2, zu3, zu4, gI, gL, pI, pL, pZ, aI, aL, sI, sZ, sL, Option.bind_some, Option.map_some, if_true, if_false, ite_true, ite_false, true_and, and_true, false_and, and_false, or_true, true_or, or_false, false_or, and_self, not_true_eq_false, not_false_eq_true, ↓reduceIte, reduceIte, Nat.reduceAdd, Nat.reduceMul, Nat.reduceSub, Nat.reduceMod, Nat.reduceDiv, Nat.reduceEqDiff, Nat.reduceLT, Nat.reduceLeDiff, Int32.reduceAdd, Int32.reduceSub, Int32.reduceMul, Int32.reduceDiv, Int32.reduceMod, Int32.reduceOfNat, Int32.reduceOfInt, Int32.reduceLT, Int32.reduceLE, Int32.reduceToNatClampNeg, Int32.reduceToInt]

