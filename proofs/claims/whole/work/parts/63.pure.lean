def upQ (c : Nat → Nat → Int) (m a b t : Int) : Nat → Nat → Int := up (up (up (up (up c 3 (nP c) m) 4 (nP c) a) 5 (nP c) b) 6 (nP c) t) 7 0 (c 7 0 + 1)
theorem upQ_ne {c : Nat → Nat → Int} {m a b t : Int} {g : Nat} (h : g ≠ 3 ∧ g ≠ 4 ∧ g ≠ 5 ∧ g ≠ 6 ∧ g ≠ 7) : upQ c m a b t g = c g := by
  unfold upQ; rw [up_ne h.2.2.2.2, up_ne h.2.2.2.1, up_ne h.2.2.1, up_ne h.2.1, up_ne h.1]
theorem upQ_3 (c : Nat → Nat → Int) (m a b t : Int) (j : Nat) : upQ c m a b t 3 j = if j = nP c then m else c 3 j := by
  unfold upQ; rw [up_ne (by decide), up_ne (by decide), up_ne (by decide), up_ne (by decide)]; simp [up]
theorem upQ_4 (c : Nat → Nat → Int) (m a b t : Int) (j : Nat) : upQ c m a b t 4 j = if j = nP c then a else c 4 j := by
  unfold upQ; rw [up_ne (by decide), up_ne (by decide), up_ne (by decide)]; simp [up]
theorem upQ_5 (c : Nat → Nat → Int) (m a b t : Int) (j : Nat) : upQ c m a b t 5 j = if j = nP c then b else c 5 j := by
  unfold upQ; rw [up_ne (by decide), up_ne (by decide)]; simp [up]
theorem upQ_6 (c : Nat → Nat → Int) (m a b t : Int) (j : Nat) : upQ c m a b t 6 j = if j = nP c then t else c 6 j := by
  unfold upQ; rw [up_ne (by decide)]; simp [up]
theorem upQ_7 (c : Nat → Nat → Int) (m a b t : Int) : upQ c m a b t 7 0 = c 7 0 + 1 := by
  unfold upQ; rw [up_at]
theorem BC.part {c : Nat → Nat → Int} (h : BC c) (hn : c 7 0 < 8) {m a b t : Int} (hm : 0 ≤ m ∧ m ≤ 999) (ha : -40 ≤ a ∧ a ≤ 40) (hb : -40 ≤ b ∧ b ≤ 40) (ht : t = 0 ∨ t = 1) : BC (upQ c m a b t) := by
  obtain ⟨b1, b2, b3, b4, b5, b6⟩ := h
  refine ⟨?_, ?_, ?_, fun i hi => ?_, ?_, ?_⟩
  · unfold Bxy; rw [upQ_ne (by decide), upQ_ne (by decide)]; exact b1
  · rw [upQ_ne (by decide)]; exact b2
  · rw [upQ_7]; omega
  · have := b4 i hi
    rw [upQ_3, upQ_4, upQ_5, upQ_6]
    by_cases e : i = nP c
    · simp only [e, if_true]; exact ⟨hm, ha, hb, ht⟩
    · simp only [e, if_false]; exact this
  · intro q hq
    rw [upQ_ne (by decide), upQ_ne (by omega)]; exact b5 q hq
  · rw [upQ_ne (by decide)]; exact b6
theorem nP_part {c : Nat → Nat → Int} (h : BC c) (m a b t : Int) : nP (upQ c m a b t) = nP c + 1 := by
  have := h.2.2.1
  unfold nP; rw [upQ_7]; omega
theorem sm_part {c : Nat → Nat → Int} (F G : Nat → Int) (h1 : ∀ j, j < nP c → G j = F j) : sm G (nP c + 1) = sm F (nP c) + G (nP c) := by
  show sm G (nP c) + G (nP c) = _
  rw [sm_congr (nP c) h1]
theorem CC.part {c : Nat → Nat → Int} {μ : Mem} (h : CC 1 c μ) (b : BC c) (hn : c 7 0 < 8) {pa pb t : Int} (ht : t = 0 ∨ t = 1) : CC 1 (upQ c 0 pa pb t) (upI (upI (upI (upI (upI μ 7 (nP c) 0) 8 (nP c) (Int32.ofInt pa)) 9 (nP c) (Int32.ofInt pb)) 10 (nP c) (Int32.ofInt t)) 6 4 (Int32.ofInt (c 7 0 + 1))) := by
  obtain ⟨ν, Eν⟩ : ∃ m : Mem, m = upI (upI (upI (upI (upI μ 7 (nP c) 0) 8 (nP c) (Int32.ofInt pa)) 9 (nP c) (Int32.ofInt pb)) 10 (nP c) (Int32.ofInt t)) 6 4 (Int32.ofInt (c 7 0 + 1)) := ⟨_, rfl⟩
  rw [← Eν]
  have f : Fr (fun q => 6 ≤ q ∧ q ≤ 10) μ ν := by rw [Eν]; refine Fr.tr (Fr.tr (Fr.tr (Fr.tr (Fr.uI ?_) (Fr.uI ?_)) (Fr.uI ?_)) (Fr.uI ?_)) (Fr.uI ?_) <;> decide
  have e1 : ∀ q, ¬ (6 ≤ q ∧ q ≤ 10) → ν.1 q = μ.1 q := fun q hq => (f q hq).1
  obtain ⟨⟨h1, h2⟩, h3, h4, ⟨h5, h6, h7, h8, h9, h9a, h9b, h9c, h9d, h9e⟩, h10, h11⟩ := h
  have row : ∀ j, j < 8 → ν.1 7 j = Int32.ofInt (upQ c 0 pa pb t 3 j) ∧ ν.1 8 j = Int32.ofInt (upQ c 0 pa pb t 4 j) ∧ ν.1 9 j = Int32.ofInt (upQ c 0 pa pb t 5 j) ∧ ν.1 10 j = Int32.ofInt (upQ c 0 pa pb t 6 j) := by
    intro j hj
    have r5 := h5 j hj
    have r6 := h6 j hj
    have r7 := h7 j hj
    have r8 := h8 j hj
    simp only [Nat.reduceAdd, Nat.reduceMul, Nat.reduceMod, Int32.reduceOfNat] at r5 r6 r7 r8
    rw [upQ_3, upQ_4, upQ_5, upQ_6, Eν]
    by_cases e : j = nP c
    · subst e; simp (decide := true) (implicitDefEqProofs := false) only [y32_0, zO, zR, zA, zT, zu1, zu2, zu3, zu4, gI, gL, pI, pL, pZ, aI, aL, sI, sZ, sL, Option.bind_some, Option.map_some, if_true, if_false, ite_true, ite_false, true_and, and_true, false_and, and_false, or_true, true_or, or_false, false_or, and_self, not_true_eq_false, not_false_eq_true, ↓reduceIte, reduceIte, Nat.reduceAdd, Nat.reduceMul, Nat.reduceSub, Nat.reduceMod, Nat.reduceDiv, Nat.reduceEqDiff, Nat.reduceLT, Nat.reduceLeDiff, Int32.reduceAdd, Int32.reduceSub, Int32.reduceMul, Int32.reduceDiv, Int32.reduceMod, Int32.reduceOfNat, Int32.reduceOfInt, Int32.reduceLT, Int32.reduceLE, Int32.reduceToNatClampNeg, Int32.reduceToInt]
    · simp (decide := true) (implicitDefEqProofs := false) only [e, r5, r6, r7, r8, zO, zR, zA, zT, zu1, zu2, zu3, zu4, gI, gL, pI, pL, pZ, aI, aL, sI, sZ, sL, Option.bind_some, Option.map_some, if_true, if_false, ite_true, ite_false, true_and, and_true, false_and, and_false, or_true, true_or, or_false, false_or, and_self, not_true_eq_false, not_false_eq_true, ↓reduceIte, reduceIte, Nat.reduceAdd, Nat.reduceMul, Nat.reduceSub, Nat.reduceMod, Nat.reduceDiv, Nat.reduceEqDiff, Nat.reduceLT, Nat.reduceLeDiff, Int32.reduceAdd, Int32.reduceSub, Int32.reduceMul, Int32.reduceDiv, Int32.reduceMod, Int32.reduceOfNat, Int32.reduceOfInt, Int32.reduceLT, Int32.reduceLE, Int32.reduceToNatClampNeg, Int32.reduceToInt]
  have N := nP_part b 0 pa pb t
  have sz : ν.1 6 4 = Int32.ofInt (c 7 0 + 1) := by rw [Eν]; simp (decide := true) (implicitDefEqProofs := false) only [zO, zR, zA, zT, zu1, zu2, zu3, zu4, gI, gL, pI, pL, pZ, aI, aL, sI, sZ, sL, Option.bind_some, Option.map_some, if_true, if_false, ite_true, ite_false, true_and, and_true, false_and, and_false, or_true, true_or, or_false, false_or, and_self, not_true_eq_false, not_false_eq_true, ↓reduceIte, reduceIte, Nat.reduceAdd, Nat.reduceMul, Nat.reduceSub, Nat.reduceMod, Nat.reduceDiv, Nat.reduceEqDiff, Nat.reduceLT, Nat.reduceLeDiff, Int32.reduceAdd, Int32.reduceSub, Int32.reduceMul, Int32.reduceDiv, Int32.reduceMod, Int32.reduceOfNat, Int32.reduceOfInt, Int32.reduceLT, Int32.reduceLE, Int32.reduceToNatClampNeg, Int32.reduceToInt]
  have s5 : ∀ j, j ≠ 4 → ν.1 6 j = μ.1 6 j := fun j hj => by rw [Eν]; simp (decide := true) (implicitDefEqProofs := false) only [hj, zO, zR, zA, zT, zu1, zu2, zu3, zu4, gI, gL, pI, pL, pZ, aI, aL, sI, sZ, sL, Option.bind_some, Option.map_some, if_true, if_false, ite_true, ite_false, true_and, and_true, false_and, and_false, or_true, true_or, or_false, false_or, and_self, not_true_eq_false, not_false_eq_true, ↓reduceIte, reduceIte, Nat.reduceAdd, Nat.reduceMul, Nat.reduceSub, Nat.reduceMod, Nat.reduceDiv, Nat.reduceEqDiff, Nat.reduceLT, Nat.reduceLeDiff, Int32.reduceAdd, Int32.reduceSub, Int32.reduceMul, Int32.reduceDiv, Int32.reduceMod, Int32.reduceOfNat, Int32.reduceOfInt, Int32.reduceLT, Int32.reduceLE, Int32.reduceToNatClampNeg, Int32.reduceToInt]
  refine ⟨⟨fun j hj => ?_, fun j hj => ?_⟩, fun j hj => ?_, ?_, ⟨fun j hj => (row j hj).1, fun j hj => (row j hj).2.1, fun j hj => (row j hj).2.2.1, fun j hj => (row j hj).2.2.2, ?_⟩, fun q hq => ⟨fun j hj => ?_, ?_⟩, fun j hj => ?_⟩
  · rw [e1 _ (by omega), upQ_ne (by decide)]; exact h1 j hj
  · rw [e1 _ (by omega), upQ_ne (by decide)]; exact h2 j hj
  · rw [e1 _ (by omega), upQ_ne (by decide)]; exact h3 j hj
  · have : PD 1 (upQ c 0 pa pb t) ν = PD 1 c μ := by
      unfold PD standB detC S1 S2 S3 S4 S5 stb tri
      rw [(f (1 + 1) (by omega)).1, (f (1 + 1) (by omega)).2, upQ_ne (by decide), upQ_ne (by decide)]
    rw [this]; exact h4
  · have old : ∀ j, j < nP c → upQ c 0 pa pb t 3 j = c 3 j ∧ upQ c 0 pa pb t 4 j = c 4 j ∧ upQ c 0 pa pb t 5 j = c 5 j ∧ upQ c 0 pa pb t 6 j = c 6 j := by
      intro j hj
      rw [upQ_3, upQ_4, upQ_5, upQ_6, if_neg (by omega), if_neg (by omega), if_neg (by omega), if_neg (by omega)]
      exact ⟨rfl, rfl, rfl, rfl⟩
    have new : upQ c 0 pa pb t 3 (nP c) = 0 := by rw [upQ_3, if_pos rfl]
    simp only [Nat.reduceAdd, Nat.reduceMul, Nat.reduceMod, Int32.reduceOfNat] at h9a h9b h9c h9d h9e
    refine ⟨by rw [upQ_7]; exact sz, ?_, ?_, ?_, ?_, ?_⟩
    · rw [N, sm_part (c 3) _ (fun j hj => (old j hj).1), new, Int.add_zero]; exact (s5 5 (by decide)).trans h9a
    · rw [N, sm_part (fun i => if c 6 i = 0 then c 3 i * c 4 i else 0) _ (fun j hj => by rw [(old j hj).1, (old j hj).2.1, (old j hj).2.2.2]), new]; simp only [Int.zero_mul, ite_self, Int.add_zero]; exact (s5 6 (by decide)).trans h9b
    · rw [N, sm_part (fun i => if c 6 i = 0 then c 3 i * c 5 i else 0) _ (fun j hj => by rw [(old j hj).1, (old j hj).2.2.1, (old j hj).2.2.2]), new]; simp only [Int.zero_mul, ite_self, Int.add_zero]; exact (s5 7 (by decide)).trans h9c
    · rw [N, sm_part (fun i => if c 6 i = 0 then 0 else c 3 i * c 4 i) _ (fun j hj => by rw [(old j hj).1, (old j hj).2.1, (old j hj).2.2.2]), new]; simp only [Int.zero_mul, ite_self, Int.add_zero]; exact (s5 8 (by decide)).trans h9d
    · rw [N, sm_part (fun i => if c 6 i = 0 then 0 else c 3 i * c 5 i) _ (fun j hj => by rw [(old j hj).1, (old j hj).2.2.1, (old j hj).2.2.2]), new]; simp only [Int.zero_mul, ite_self, Int.add_zero]; exact (s5 9 (by decide)).trans h9e
  · rw [e1 _ (by omega), upQ_ne (by omega)]; exact (h10 q hq).1 j hj
  · rw [e1 _ (by omega), upQ_ne (by decide)]; exact (h10 q hq).2
  · rw [e1 _ (by omega), upQ_ne (by decide)]; exact h11 j hj
theorem upQ_m (c : Nat → Nat → Int) (z a b t : Int) : up (upQ c 0 a b t) 3 (nP c) z = upQ c z a b t := by
  funext g j
  by_cases e : g = 3
  · subst e
    rw [upQ_3]
    by_cases q : j = nP c
    · rw [if_pos q, q, up_at]
    · rw [if_neg q, up_of q, upQ_3, if_neg q]
  · rw [up_ne e]
    unfold upQ up
    simp only [e, false_and, if_false]
theorem MM.part {c : Nat → Nat → Int} {μ : Mem} (h : MM c μ) {z pa pb t : Int} : MM (upQ c z pa pb t) (upI (upI (upI (upI (upI μ 83 (nP c) (Int32.ofInt z)) 84 (nP c) (Int32.ofInt pa)) 85 (nP c) (Int32.ofInt pb)) 86 (nP c) (Int32.ofInt t)) 81 1 (Int32.ofInt (c 7 0 + 1))) := by
  obtain ⟨ν, Eν⟩ : ∃ m : Mem, m = upI (upI (upI (upI (upI μ 83 (nP c) (Int32.ofInt z)) 84 (nP c) (Int32.ofInt pa)) 85 (nP c) (Int32.ofInt pb)) 86 (nP c) (Int32.ofInt t)) 81 1 (Int32.ofInt (c 7 0 + 1)) := ⟨_, rfl⟩
  rw [← Eν]
  have f : Fr (fun q => q = 81 ∨ (83 ≤ q ∧ q ≤ 86)) μ ν := by rw [Eν]; refine Fr.tr (Fr.tr (Fr.tr (Fr.tr (Fr.uI ?_) (Fr.uI ?_)) (Fr.uI ?_)) (Fr.uI ?_)) (Fr.uI ?_) <;> decide
  have e1 : ∀ q, ¬ (q = 81 ∨ (83 ≤ q ∧ q ≤ 86)) → ν.1 q = μ.1 q := fun q hq => (f q hq).1
  obtain ⟨h1, ⟨h2, h2a, h2b, h2c, h2d⟩, h3, h4⟩ := h
  have row : ∀ j, j < 8 → ν.1 83 j = Int32.ofInt (upQ c z pa pb t 3 j) ∧ ν.1 84 j = Int32.ofInt (upQ c z pa pb t 4 j) ∧ ν.1 85 j = Int32.ofInt (upQ c z pa pb t 5 j) ∧ ν.1 86 j = Int32.ofInt (upQ c z pa pb t 6 j) := by
    intro j hj
    have r5 := h2a j hj
    have r6 := h2b j hj
    have r7 := h2c j hj
    have r8 := h2d j hj
    rw [upQ_3, upQ_4, upQ_5, upQ_6, Eν]
    by_cases e : j = nP c
    · subst e; simp (decide := true) (implicitDefEqProofs := false) only [zO, zR, zA, zT, zu1, zu2, zu3, zu4, gI, gL, pI, pL, pZ, aI, aL, sI, sZ, sL, Option.bind_some, Option.map_some, if_true, if_false, ite_true, ite_false, true_and, and_true, false_and, and_false, or_true, true_or, or_false, false_or, and_self, not_true_eq_false, not_false_eq_true, ↓reduceIte, reduceIte, Nat.reduceAdd, Nat.reduceMul, Nat.reduceSub, Nat.reduceMod, Nat.reduceDiv, Nat.reduceEqDiff, Nat.reduceLT, Nat.reduceLeDiff, Int32.reduceAdd, Int32.reduceSub, Int32.reduceMul, Int32.reduceDiv, Int32.reduceMod, Int32.reduceOfNat, Int32.reduceOfInt, Int32.reduceLT, Int32.reduceLE, Int32.reduceToNatClampNeg, Int32.reduceToInt]
    · simp (decide := true) (implicitDefEqProofs := false) only [e, r5, r6, r7, r8, zO, zR, zA, zT, zu1, zu2, zu3, zu4, gI, gL, pI, pL, pZ, aI, aL, sI, sZ, sL, Option.bind_some, Option.map_some, if_true, if_false, ite_true, ite_false, true_and, and_true, false_and, and_false, or_true, true_or, or_false, false_or, and_self, not_true_eq_false, not_false_eq_true, ↓reduceIte, reduceIte, Nat.reduceAdd, Nat.reduceMul, Nat.reduceSub, Nat.reduceMod, Nat.reduceDiv, Nat.reduceEqDiff, Nat.reduceLT, Nat.reduceLeDiff, Int32.reduceAdd, Int32.reduceSub, Int32.reduceMul, Int32.reduceDiv, Int32.reduceMod, Int32.reduceOfNat, Int32.reduceOfInt, Int32.reduceLT, Int32.reduceLE, Int32.reduceToNatClampNeg, Int32.reduceToInt]
  refine ⟨?_, ⟨?_, fun j hj => (row j hj).1, fun j hj => (row j hj).2.1, fun j hj => (row j hj).2.2.1, fun j hj => (row j hj).2.2.2⟩, ?_, ?_⟩
  · rw [e1 82 (by decide), upQ_ne (by decide), upQ_ne (by decide), upQ_ne (by decide)]; exact h1
  · rw [upQ_7, Eν]; simp (decide := true) (implicitDefEqProofs := false) only [zO, zR, zA, zT, zu1, zu2, zu3, zu4, gI, gL, pI, pL, pZ, aI, aL, sI, sZ, sL, Option.bind_some, Option.map_some, if_true, if_false, ite_true, ite_false, true_and, and_true, false_and, and_false, or_true, true_or, or_false, false_or, and_self, not_true_eq_false, not_false_eq_true, ↓reduceIte, reduceIte, Nat.reduceAdd, Nat.reduceMul, Nat.reduceSub, Nat.reduceMod, Nat.reduceDiv, Nat.reduceEqDiff, Nat.reduceLT, Nat.reduceLeDiff, Int32.reduceAdd, Int32.reduceSub, Int32.reduceMul, Int32.reduceDiv, Int32.reduceMod, Int32.reduceOfNat, Int32.reduceOfInt, Int32.reduceLT, Int32.reduceLE, Int32.reduceToNatClampNeg, Int32.reduceToInt]
  · intro q hq
    rw [e1 87 (by decide), e1 88 (by decide), e1 89 (by decide), upQ_ne (by decide), upQ_ne (by omega)]; exact h3 q hq
  · unfold Rw; rw [e1 90 (by decide), upQ_ne (by decide)]; exact h4
theorem ok_part {μ : Mem} (h : INV μ) (a1 a2 a3 a4 : Int32) (h4 : a4 = 0 ∨ a4 = 1) : OKop (f_X11_part SX 0 a1 a2 a3 a4) (f_X12_part_ SX 81 a1 a2 a3 a4) μ := by
  obtain ⟨c, b, h1, h2⟩ := h.1
  have m40 : (-40 : Int32) = Int32.ofInt (-40) := by decide
  rcases wbI a1 1 999 (by decide) (by decide) (by decide) (by decide) with t | ⟨t, z, z1, z2, rfl⟩
  · have t' : wb a1 1 999 = 0 := t
    refine ⟨-2, μ, μ, ?_, ?_, h⟩
    · simp (decide := true) (implicitDefEqProofs := false) only [f_X11_part, isMass_at, t', zO, zR, zA, zT, zu1, zu2, zu3, zu4, gI, gL, pI, pL, pZ, aI, aL, sI, sZ, sL, Option.bind_some, Option.map_some, if_true, if_false, ite_true, ite_false, true_and, and_true, false_and, and_false, or_true, true_or, or_false, false_or, and_self, not_true_eq_false, not_false_eq_true, ↓reduceIte, reduceIte, Nat.reduceAdd, Nat.reduceMul, Nat.reduceSub, Nat.reduceMod, Nat.reduceDiv, Nat.reduceEqDiff, Nat.reduceLT, Nat.reduceLeDiff, Int32.reduceAdd, Int32.reduceSub, Int32.reduceMul, Int32.reduceDiv, Int32.reduceMod, Int32.reduceOfNat, Int32.reduceOfInt, Int32.reduceLT, Int32.reduceLE, Int32.reduceToNatClampNeg, Int32.reduceToInt]
    · simp (decide := true) (implicitDefEqProofs := false) only [f_X12_part_, in_at, t', zO, zR, zA, zT, zu1, zu2, zu3, zu4, gI, gL, pI, pL, pZ, aI, aL, sI, sZ, sL, Option.bind_some, Option.map_some, if_true, if_false, ite_true, ite_false, true_and, and_true, false_and, and_false, or_true, true_or, or_false, false_or, and_self, not_true_eq_false, not_false_eq_true, ↓reduceIte, reduceIte, Nat.reduceAdd, Nat.reduceMul, Nat.reduceSub, Nat.reduceMod, Nat.reduceDiv, Nat.reduceEqDiff, Nat.reduceLT, Nat.reduceLeDiff, Int32.reduceAdd, Int32.reduceSub, Int32.reduceMul, Int32.reduceDiv, Int32.reduceMod, Int32.reduceOfNat, Int32.reduceOfInt, Int32.reduceLT, Int32.reduceLE, Int32.reduceToNatClampNeg, Int32.reduceToInt]
  · have t' : wb (Int32.ofInt z) 1 999 = 1 := t
    rcases wbI a2 (-40) 40 (by decide) (by decide) (by decide) (by decide) with s | ⟨s, x, x1, x2, rfl⟩
    · have s' : wb a2 (-40) 40 = 0 := by rw [m40]; exact s
      refine ⟨-2, μ, μ, ?_, ?_, h⟩
      · simp (decide := true) (implicitDefEqProofs := false) only [f_X11_part, isMass_at, t', within_at, s', zO, zR, zA, zT, zu1, zu2, zu3, zu4, gI, gL, pI, pL, pZ, aI, aL, sI, sZ, sL, Option.bind_some, Option.map_some, if_true, if_false, ite_true, ite_false, true_and, and_true, false_and, and_false, or_true, true_or, or_false, false_or, and_self, not_true_eq_false, not_false_eq_true, ↓reduceIte, reduceIte, Nat.reduceAdd, Nat.reduceMul, Nat.reduceSub, Nat.reduceMod, Nat.reduceDiv, Nat.reduceEqDiff, Nat.reduceLT, Nat.reduceLeDiff, Int32.reduceAdd, Int32.reduceSub, Int32.reduceMul, Int32.reduceDiv, Int32.reduceMod, Int32.reduceOfNat, Int32.reduceOfInt, Int32.reduceLT, Int32.reduceLE, Int32.reduceToNatClampNeg, Int32.reduceToInt]
      · simp (decide := true) (implicitDefEqProofs := false) only [f_X12_part_, in_at, t', s', zO, zR, zA, zT, zu1, zu2, zu3, zu4, gI, gL, pI, pL, pZ, aI, aL, sI, sZ, sL, Option.bind_some, Option.map_some, if_true, if_false, ite_true, ite_false, true_and, and_true, false_and, and_false, or_true, true_or, or_false, false_or, and_self, not_true_eq_false, not_false_eq_true, ↓reduceIte, reduceIte, Nat.reduceAdd, Nat.reduceMul, Nat.reduceSub, Nat.reduceMod, Nat.reduceDiv, Nat.reduceEqDiff, Nat.reduceLT, Nat.reduceLeDiff, Int32.reduceAdd, Int32.reduceSub, Int32.reduceMul, Int32.reduceDiv, Int32.reduceMod, Int32.reduceOfNat, Int32.reduceOfInt, Int32.reduceLT, Int32.reduceLE, Int32.reduceToNatClampNeg, Int32.reduceToInt]
    · have s' : wb (Int32.ofInt x) (-40) 40 = 1 := by rw [m40]; exact s
      rcases wbI a3 (-40) 40 (by decide) (by decide) (by decide) (by decide) with r | ⟨r, y, y1, y2, rfl⟩
      · have r' : wb a3 (-40) 40 = 0 := by rw [m40]; exact r
        refine ⟨-2, μ, μ, ?_, ?_, h⟩
        · simp (decide := true) (implicitDefEqProofs := false) only [f_X11_part, isMass_at, t', within_at, s', r', zO, zR, zA, zT, zu1, zu2, zu3, zu4, gI, gL, pI, pL, pZ, aI, aL, sI, sZ, sL, Option.bind_some, Option.map_some, if_true, if_false, ite_true, ite_false, true_and, and_true, false_and, and_false, or_true, true_or, or_false, false_or, and_self, not_true_eq_false, not_false_eq_true, ↓reduceIte, reduceIte, Nat.reduceAdd, Nat.reduceMul, Nat.reduceSub, Nat.reduceMod, Nat.reduceDiv, Nat.reduceEqDiff, Nat.reduceLT, Nat.reduceLeDiff, Int32.reduceAdd, Int32.reduceSub, Int32.reduceMul, Int32.reduceDiv, Int32.reduceMod, Int32.reduceOfNat, Int32.reduceOfInt, Int32.reduceLT, Int32.reduceLE, Int32.reduceToNatClampNeg, Int32.reduceToInt]
        · simp (decide := true) (implicitDefEqProofs := false) only [f_X12_part_, in_at, t', s', r', zO, zR, zA, zT, zu1, zu2, zu3, zu4, gI, gL, pI, pL, pZ, aI, aL, sI, sZ, sL, Option.bind_some, Option.map_some, if_true, if_false, ite_true, ite_false, true_and, and_true, false_and, and_false, or_true, true_or, or_false, false_or, and_self, not_true_eq_false, not_false_eq_true, ↓reduceIte, reduceIte, Nat.reduceAdd, Nat.reduceMul, Nat.reduceSub, Nat.reduceMod, Nat.reduceDiv, Nat.reduceEqDiff, Nat.reduceLT, Nat.reduceLeDiff, Int32.reduceAdd, Int32.reduceSub, Int32.reduceMul, Int32.reduceDiv, Int32.reduceMod, Int32.reduceOfNat, Int32.reduceOfInt, Int32.reduceLT, Int32.reduceLE, Int32.reduceToNatClampNeg, Int32.reduceToInt]
      · have r' : wb (Int32.ofInt y) (-40) 40 = 1 := by rw [m40]; exact r
        have bn := b.2.2.1
        have sz := h1.2.2.2.1.2.2.2.2.1
        simp only [Nat.reduceAdd, Nat.reduceMul, Nat.reduceMod, Int32.reduceOfNat] at sz
        have mz := h2.2.1.1
        have l8 : (Int32.ofInt (c 7 0) < 8) = (c 7 0 < 8) := propext (ylt32 _ 8 (by omega) (by omega) (by omega) (by omega))
        have q8 : (Int32.ofInt (c 7 0) = 8) = (c 7 0 = 8) := propext (yeq _ 8 (by omega) (by omega) (by omega) (by omega))
        by_cases w : c 7 0 < 8
        · have w' : ¬ c 7 0 = 8 := by omega
          obtain ⟨tt, Et⟩ : ∃ tt : Int, tt = if a4 = 0 then 0 else 1 := ⟨_, rfl⟩
          have ht : tt = 0 ∨ tt = 1 := by rw [Et]; split <;> simp
          have n4 : vp_nar .boolean a4 = Int32.ofInt tt := by
            rcases h4 with e | e <;> rw [Et, e] <;> decide
          have hn8 : nP c < 8 := by unfold nP; omega
          have hN : Int32.ofInt (c 7 0) = Int32.ofNat (nP c) := ofIn _ bn.1
          have i1 := zin (nP c) 8 hn8 (by decide)
          have i2 := ztn (nP c) (by omega)
          rw [← hN] at i1 i2
          have C1 := h1.part b w (pa := x) (pb := y) ht
          have B1 : BC (upQ c 0 x y tt) := b.part w (by omega) ⟨x1, x2⟩ ⟨y1, y2⟩ ht
          have np := nP_part b 0 x y tt
          have e71 : Int32.ofInt (c 7 0) + 1 = Int32.ofInt (c 7 0 + 1) := y32a (c 7 0) 1
          obtain ⟨μa, Ea⟩ : ∃ m : Mem, m = upI (upI (upI (upI (upI μ 7 (nP c) 0) 8 (nP c) (Int32.ofInt x)) 9 (nP c) (Int32.ofInt y)) 10 (nP c) (Int32.ofInt tt)) 6 4 (Int32.ofInt (c 7 0 + 1)) := ⟨_, rfl⟩
          rw [← Ea] at C1
          have fa : Fr (fun q => 6 ≤ q ∧ q ≤ 10) μ μa := by rw [Ea]; refine Fr.tr (Fr.tr (Fr.tr (Fr.tr (Fr.uI ?_) (Fr.uI ?_)) (Fr.uI ?_)) (Fr.uI ?_)) (Fr.uI ?_) <;> decide
          obtain ⟨ν, p, f, C2⟩ := reweigh_at ck1 C1 B1 (p := nP c) (by rw [np]; omega) z
          rw [upQ_m] at C2
          rw [← hN] at p
          simp only [Nat.reduceAdd, Nat.reduceMul, Nat.reduceMod, Int32.reduceOfNat] at p
          have F : Fr (fun q => 6 ≤ q ∧ q ≤ 10) μ ν := fa.tr (f.mo (fun k q => by omega))
          have M1 : MM c ν := h2.w (F.fm (by omega)) (fun q g1 g2 => by omega) (fun q => q.elim)
          have M2 := M1.part (z := z) (pa := x) (pb := y) (t := tt)
          obtain ⟨ν2, E2⟩ : ∃ m : Mem, m = upI (upI (upI (upI (upI ν 83 (nP c) (Int32.ofInt z)) 84 (nP c) (Int32.ofInt x)) 85 (nP c) (Int32.ofInt y)) 86 (nP c) (Int32.ofInt tt)) 81 1 (Int32.ofInt (c 7 0 + 1)) := ⟨_, rfl⟩
          rw [← E2] at M2
          have f2 : FM (fun q => 83 ≤ q ∧ q ≤ 86) (fun j => j = 1) ν ν2 := by rw [E2]; refine FM.tr (FM.tr (FM.tr (FM.tr (FM.uI ?_) (FM.uI ?_)) (FM.uI ?_)) (FM.uI ?_)) (FM.uI ?_) <;> omega
          have B2 : BC (upQ c z x y tt) := b.part w (by omega) ⟨x1, x2⟩ ⟨y1, y2⟩ ht
          have hI : INV ν2 := h.cr ((crX F (fun q hq => by omega)).tr (crM f2 (fun q hq => by omega) (fun q hq => hq))) ⟨_, B2, C2.f f2 (fun q g1 g2 => ⟨by omega, by omega⟩), M2⟩
          have mz1 := M1.2.1.1
          refine ⟨Int32.ofInt (c 7 0), ν, ν2, ?_, ?_, hI⟩
          · simp (decide := true) (implicitDefEqProofs := false) only [f_X11_part, f_X5_append, isMass_at, t', within_at, s', r', sz, l8, w, i1, i2, n4, e71, ← Ea, p, zO, zR, zA, zT, zu1, zu2, zu3, zu4, gI, gL, pI, pL, pZ, aI, aL, sI, sZ, sL, Option.bind_some, Option.map_some, if_true, if_false, ite_true, ite_false, true_and, and_true, false_and, and_false, or_true, true_or, or_false, false_or, and_self, not_true_eq_false, not_false_eq_true, ↓reduceIte, reduceIte, Nat.reduceAdd, Nat.reduceMul, Nat.reduceSub, Nat.reduceMod, Nat.reduceDiv, Nat.reduceEqDiff, Nat.reduceLT, Nat.reduceLeDiff, Int32.reduceAdd, Int32.reduceSub, Int32.reduceMul, Int32.reduceDiv, Int32.reduceMod, Int32.reduceOfNat, Int32.reduceOfInt, Int32.reduceLT, Int32.reduceLE, Int32.reduceToNatClampNeg, Int32.reduceToInt]
          · have e4 : (if a4 = 0 then (b_X12_part__96 SX 81 0 (Int32.ofInt (c 7 0)) 86 (upI (upI (upI ν 83 (nP c) (Int32.ofInt z)) 84 (nP c) (Int32.ofInt x)) 85 (nP c) (Int32.ofInt y))) else (b_X12_part__96 SX 81 1 (Int32.ofInt (c 7 0)) 86 (upI (upI (upI ν 83 (nP c) (Int32.ofInt z)) 84 (nP c) (Int32.ofInt x)) 85 (nP c) (Int32.ofInt y)))) = b_X12_part__96 SX 81 (Int32.ofInt tt) (Int32.ofInt (c 7 0)) 86 (upI (upI (upI ν 83 (nP c) (Int32.ofInt z)) 84 (nP c) (Int32.ofInt x)) 85 (nP c) (Int32.ofInt y)) := by
              rcases h4 with e | e <;> rw [Et, e] <;> rfl
            have e5 : Int32.ofInt (c 7 0 + 1) - 1 = Int32.ofInt (c 7 0) := by
              rw [show (1 : Int32) = Int32.ofInt 1 from rfl, y32s]; congr 1; omega
            simp (decide := true) (implicitDefEqProofs := false) only [f_X12_part_, in_at, t', s', r', mz1, q8, w', i1, i2, zO, zR, zA, zT, zu1, zu2, zu3, zu4, gI, gL, pI, pL, pZ, aI, aL, sI, sZ, sL, Option.bind_some, Option.map_some, if_true, if_false, ite_true, ite_false, true_and, and_true, false_and, and_false, or_true, true_or, or_false, false_or, and_self, not_true_eq_false, not_false_eq_true, ↓reduceIte, reduceIte, Nat.reduceAdd, Nat.reduceMul, Nat.reduceSub, Nat.reduceMod, Nat.reduceDiv, Nat.reduceEqDiff, Nat.reduceLT, Nat.reduceLeDiff, Int32.reduceAdd, Int32.reduceSub, Int32.reduceMul, Int32.reduceDiv, Int32.reduceMod, Int32.reduceOfNat, Int32.reduceOfInt, Int32.reduceLT, Int32.reduceLE, Int32.reduceToNatClampNeg, Int32.reduceToInt]
            rw [e4]
            simp (decide := true) (implicitDefEqProofs := false) only [b_X12_part__96, mz1, i1, i2, e71, ← E2, zO, zR, zA, zT, zu1, zu2, zu3, zu4, gI, gL, pI, pL, pZ, aI, aL, sI, sZ, sL, Option.bind_some, Option.map_some, if_true, if_false, ite_true, ite_false, true_and, and_true, false_and, and_false, or_true, true_or, or_false, false_or, and_self, not_true_eq_false, not_false_eq_true, ↓reduceIte, reduceIte, Nat.reduceAdd, Nat.reduceMul, Nat.reduceSub, Nat.reduceMod, Nat.reduceDiv, Nat.reduceEqDiff, Nat.reduceLT, Nat.reduceLeDiff, Int32.reduceAdd, Int32.reduceSub, Int32.reduceMul, Int32.reduceDiv, Int32.reduceMod, Int32.reduceOfNat, Int32.reduceOfInt, Int32.reduceLT, Int32.reduceLE, Int32.reduceToNatClampNeg, Int32.reduceToInt]
            rw [E2]
            simp (decide := true) (implicitDefEqProofs := false) only [e5, zO, zR, zA, zT, zu1, zu2, zu3, zu4, gI, gL, pI, pL, pZ, aI, aL, sI, sZ, sL, Option.bind_some, Option.map_some, if_true, if_false, ite_true, ite_false, true_and, and_true, false_and, and_false, or_true, true_or, or_false, false_or, and_self, not_true_eq_false, not_false_eq_true, ↓reduceIte, reduceIte, Nat.reduceAdd, Nat.reduceMul, Nat.reduceSub, Nat.reduceMod, Nat.reduceDiv, Nat.reduceEqDiff, Nat.reduceLT, Nat.reduceLeDiff, Int32.reduceAdd, Int32.reduceSub, Int32.reduceMul, Int32.reduceDiv, Int32.reduceMod, Int32.reduceOfNat, Int32.reduceOfInt, Int32.reduceLT, Int32.reduceLE, Int32.reduceToNatClampNeg, Int32.reduceToInt]
        · have w' : c 7 0 = 8 := by omega
          refine ⟨-4, μ, μ, ?_, ?_, h⟩
          · simp (decide := true) (implicitDefEqProofs := false) only [f_X11_part, isMass_at, t', within_at, s', r', sz, l8, w, zO, zR, zA, zT, zu1, zu2, zu3, zu4, gI, gL, pI, pL, pZ, aI, aL, sI, sZ, sL, Option.bind_some, Option.map_some, if_true, if_false, ite_true, ite_false, true_and, and_true, false_and, and_false, or_true, true_or, or_false, false_or, and_self, not_true_eq_false, not_false_eq_true, ↓reduceIte, reduceIte, Nat.reduceAdd, Nat.reduceMul, Nat.reduceSub, Nat.reduceMod, Nat.reduceDiv, Nat.reduceEqDiff, Nat.reduceLT, Nat.reduceLeDiff, Int32.reduceAdd, Int32.reduceSub, Int32.reduceMul, Int32.reduceDiv, Int32.reduceMod, Int32.reduceOfNat, Int32.reduceOfInt, Int32.reduceLT, Int32.reduceLE, Int32.reduceToNatClampNeg, Int32.reduceToInt]
          · simp (decide := true) (implicitDefEqProofs := false) only [f_X12_part_, in_at, t', s', r', mz, q8, w', zO, zR, zA, zT, zu1, zu2, zu3, zu4, gI, gL, pI, pL, pZ, aI, aL, sI, sZ, sL, Option.bind_some, Option.map_some, if_true, if_false, ite_true, ite_false, true_and, and_true, false_and, and_false, or_true, true_or, or_false, false_or, and_self, not_true_eq_false, not_false_eq_true, ↓reduceIte, reduceIte, Nat.reduceAdd, Nat.reduceMul, Nat.reduceSub, Nat.reduceMod, Nat.reduceDiv, Nat.reduceEqDiff, Nat.reduceLT, Nat.reduceLeDiff, Int32.reduceAdd, Int32.reduceSub, Int32.reduceMul, Int32.reduceDiv, Int32.reduceMod, Int32.reduceOfNat, Int32.reduceOfInt, Int32.reduceLT, Int32.reduceLE, Int32.reduceToNatClampNeg, Int32.reduceToInt]

