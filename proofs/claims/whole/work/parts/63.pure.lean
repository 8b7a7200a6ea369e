def upQ (c : Nat → Nat → Int) (m a b t : Int) : Nat → Nat → Int := up (up (up (up (up c 3 (nP c) m) 4 (nP c) a) 5 (nP c) b) 6 (nP c) t) 7 0 (c 7 0 + 1)
theorem upQ_ne {c : Nat → Nat → Int} {m a b t : Int} {g : Nat} (h : g ≠ 3 ∧ g ≠ 4 ∧ g ≠ 5 ∧ g ≠ 6 ∧ g ≠ 7) : upQ c m a b t g = c g := by
  unfold upQ; rw [up_ne h.2.2.2.2, up_ne h.2.2.2.1, up_ne h.2.2.1, up_ne h.2.1, up_ne h.1]
theorem upQ_3 (c : Nat → Nat → Int) (m a b t : Int) (j : Nat) : upQ c m a b t 3 j = if j = nP c then m else c 3 j := by
  unfold upQ; rw [up_ne (by decide), up_ne (by decide), up_ne (by decide), up_ne (by decide)]; simp [up]
theorem upQ_4 (c : Nat → Nat → Int) (m a b t : Int) (j : Nat) : upQ c m a b t 4 j = if j = nP c then a else c 4 j := by
  unfold upQ; rw [up_ne (by decide), up_ne (by decide), up_ne (by decide)]; simp [up]
theorem upQ_5 (c : Nat → Nat → Int) (m a b t : Int) (j : Nat) : upQ c m a b t 5 j = if j = nP c then b else c 5 j := by
  unfold upQ; rw [up_ne (by decide), up_ne (by decide)]; simp [up]
theorem upQ_6 (c : Nat → Nat → Int) (m a b t : Int) (j : Nat) : upQ c m a b t 6 j = if j = nP c then t else c 6 j := by
  unfold upQ; rw [up_ne (by decide)]; simp [up]
theorem upQ_7 (c : Nat → Nat → Int) (m a b t : Int) : upQ c m a b t 7 0 = c 7 0 + 1 := by
  unfold upQ; rw [up_at]
theorem BC.part {c : Nat → Nat → Int} (h : BC c) (hn : c 7 0 < 8) {m a b t : Int} (hm : 0 ≤ m ∧ m ≤ 999) (ha : -40 ≤ a ∧ a ≤ 40) (hb : -40 ≤ b ∧ b ≤ 40) (ht : t = 0 ∨ t = 1) : BC (upQ c m a b t) := by
  obtain ⟨b1, b2, b3, b4, b5, b6⟩ := h
  refine ⟨?_, ?_, ?_, fun i hi => ?_, ?_, ?_⟩
  · unfold Bxy; rw [upQ_ne (by decide), upQ_ne (by decide)]; exact b1
  · rw [upQ_ne (by decide)]; exact b2
  · rw [upQ_7]; omega
  · have := b4 i hi
    rw [upQ_3, upQ_4, upQ_5, upQ_6]
    by_cases e : i = nP c
    · simp only [e, if_true]; exact ⟨hm, ha, hb, ht⟩
    · simp only [e, if_false]; exact this
  · intro q hq
    rw [upQ_ne (by decide), upQ_ne (by omega)]; exact b5 q hq
  · rw [upQ_ne (by decide)]; exact b6
theorem nP_part {c : Nat → Nat → Int} (h : BC c) (m a b t : Int) : nP (upQ c m a b t) = nP c + 1 := by
  have := h.2.2.1
  unfold nP; rw [upQ_7]; omega
theorem sm_part {c : Nat → Nat → Int} (F G : Nat → Int) (h1 : ∀ j, j < nP c → G j = F j) : sm G (nP c + 1) = sm F (nP c) + G (nP c) := by
  show sm G (nP c) + G (nP c) = _
  rw [sm_congr (nP c) h1]
theorem CC.part {c : Nat → Nat → Int} {μ : Mem} (h : CC 1 c μ) (b : BC c) (hn : c 7 0 < 8) {pa pb t : Int} (ht : t = 0 ∨ t = 1) : CC 1 (upQ c 0 pa pb t) (upI (upI (upI (upI (upI μ 7 (nP c) 0) 8 (nP c) (Int32.ofInt pa)) 9 (nP c) (Int32.ofInt pb)) 10 (nP c) (Int32.ofInt t)) 6 4 (Int32.ofInt (c 7 0 + 1))) := by
  obtain ⟨ν, Eν⟩ : ∃ m : Mem, m = upI (upI (upI (upI (upI μ 7 (nP c) 0) 8 (nP c) (Int32.ofInt pa)) 9 (nP c) (Int32.ofInt pb)) 10 (nP c) (Int32.ofInt t)) 6 4 (Int32.ofInt (c 7 0 + 1)) := ⟨_, rfl⟩
  rw [← Eν]
  have f : Fr (fun q => 6 ≤ q ∧ q ≤ 10) μ ν := by rw [Eν]; refine Fr.tr (Fr.tr (Fr.tr (Fr.tr (Fr.uI ?_) (Fr.uI ?_)) (Fr.uI ?_)) (Fr.uI ?_)) (Fr.uI ?_) <;> decide
  have e1 : ∀ q, ¬ (6 ≤ q ∧ q ≤ 10) → ν.1 q = μ.1 q := fun q hq => (f q hq).1
  obtain ⟨⟨h1, h2⟩, h3, h4, ⟨h5, h6, h7, h8, h9, h9a, h9b, h9c, h9d, h9e⟩, h10, h11⟩ := h
  have row : ∀ j, j < 8 → ν.1 7 j = Int32.ofInt (upQ c 0 pa pb t 3 j) ∧ ν.1 8 j = Int32.ofInt (upQ c 0 pa pb t 4 j) ∧ ν.1 9 j = Int32.ofInt (upQ c 0 pa pb t 5 j) ∧ ν.1 10 j = Int32.ofInt (upQ c 0 pa pb t 6 j) := by
    intro j hj
    have r5 := h5 j hj
    have r6 := h6 j hj
    have r7 := h7 j hj
    have r8 := h8 j hj
    simp only [Nat.reduceAdd, Nat.reduceMul, Nat.reduceMod, Int32.reduceOfNat] at r5 r6 r7 r8
    rw [upQ_3, upQ_4, upQ_5, upQ_6, Eν]
    by_cases e : j = nP c
    · subst e; simp (decide := true) (implicitDefEqProofs := false) only [y32_0, zO, zR, zA, zT, zu1, zu2, zu3, zu4, gI, gL, pI, pL, pZ, aI, aL, sI, sZ, sL, Option.bind_some, Option.map_some, if_true, if_false, ite_true, ite_false, true_and, and_true, false_and, and_false, or_true, true_or, or_false, false_or, and_self, not_true_eq_false, not_false_eq_true, ↓reduceIte, reduceIte, Nat.reduceAdd, Nat.reduceMul, Nat.reduceSub, Nat.reduceMod, Nat.reduceDiv, Nat.reduceEqDiff, Nat.reduceLT, Nat.reduceLeDiff, Int32.reduceAdd, Int32.reduceSub, Int32.reduceMul, Int32.reduceDiv, Int32.reduceMod, Int32.reduceOfNat, Int32.reduceOfInt, Int32.reduceLT, Int32.reduceLE, Int32.reduceToNatClampNeg, Int32.reduceToInt]
    · simp (decide := true) (implicitDefEqProofs := false) only [e, r5, r6, r7, r8, zO, zR, zA, zT, zu1, zu2, zu3, zu4, gI, gL, pI, pL, pZ, aI, aL, sI, sZ, sL, Option.bind_some, Option.map_some, if_true, if_false, ite_true, ite_false, true_and, and_true, false_and, and_false, or_true, true_or, or_false, false_or, and_self, not_true_eq_false, not_false_eq_true, ↓reduceIte, reduceIte, Nat.reduceAdd, Nat.reduceMul, Nat.reduceSub, Nat.reduceMod, Nat.reduceDiv, Nat.reduceEqDiff, Nat.reduceLT, Nat.reduceLeDiff, Int32.reduceAdd, Int32.reduceSub, Int32.reduceMul, Int32.reduceDiv, Int32.reduceMod, Int32.reduceOfNat, Int32.reduceOfInt, Int32.reduceLT, Int32.reduceLE, Int32.reduceToNatClampNeg, Int32.reduceToInt]
  have N := nP_part b 0 pa pb t
  have sz : ν.1 6 4 = Int32.ofInt (c 7 0 + 1) := by rw [Eν]; simp (decide := true) (implicitDefEqProofs := false) only [zO, zR, zA, zT, zu1, zu2, zu3, zu4, gI, gL, pI, pL, pZ, aI, aL, sI, sZ, sL, Option.bind_some, Option.map_some, if_true, if_false, ite_true, ite_false, true_and, and_true, false_and, and_false, or_true, true_or, or_false, false_or, and_self, not_true_eq_false, not_false_eq_true, ↓reduceIte, reduceIte, Nat.reduceAdd, Nat.reduceMul, Nat.reduceSub, Nat.reduceMod, Nat.reduceDiv, Nat.reduceEqDiff, Nat.reduceLT, Nat.reduceLeDiff, Int32.reduceAdd, Int32.reduceSub, Int32.reduceMul, Int32.reduceDiv, Int32.reduceMod, Int32.reduceOfNat, Int32.reduceOfInt, Int32.reduceLT, Int32.reduceLE, Int32.reduceToNatClampNeg, Int32.reduceToInt]
  have s5 : ∀ j, j ≠ 4 → ν.1 6 j = μ.1 6 j := fun j hj => by rw [Eν]; simp (decide := true) (implicitDefEqProofs := false) only [hj, zO, zR, zA, zT, zu1, zu2, zu3, zu4, gI, gL, pI, pL, pZ, aI, aL, sI, sZ, sL, Option.bind_some, Option.map_some, if_true, if_false, ite_true, ite_false, true_and, and_true, false_and, and_false, or_true, true_or, or_false, false_or, and_self, not_true_eq_false, not_false_eq_true, ↓reduceIte, reduceIte, Nat.reduceAdd, Nat.reduceMul, Nat.reduceSub, Nat.reduceMod, Nat.reduceDiv, Nat.reduceEqDiff, Nat.reduceLT, Nat.reduceLeDiff, Int32.reduceAdd, Int32.reduceSub, Int32.reduceMul, Int32.reduceDiv, Int32.reduceMod, Int32.reduceOfNat, Int32.reduceOfInt, Int32.reduceLT, Int32.reduceLE, Int32.reduceToNatClampNeg, Int32.reduceToInt]
  refine ⟨⟨fun j hj => ?_, fun j hj => ?_⟩, fun j hj => ?_, ?_, ⟨fun j hj => (row j hj).1, fun j hj => (row j hj).2.1, fun j hj => (row j hj).2.2.1, fun j hj => (row j hj).2.2.2, ?_⟩, fun q hq => ⟨fun j hj => ?_, ?_⟩, fun j hj => ?_⟩
  · rw [e1 _ (by omega), upQ_ne (by decide)]; exact h1 j hj
  · rw [e1 _ (by omega), upQ_ne (by decide)]; exact h2 j hj
  · rw [e1 _ (by omega), upQ_ne (by decide)]; exact h3 j hj
  · have : PD 1 (upQ c 0 pa pb t) ν = PD 1 c μ := by
      unfold PD standB detC S1 S2 S3 S4 S5 stb tri
      rw [(f (1 + 1) (by omega)).1, (f (1 + 1) (by omega)).2, upQ_ne (by decide), upQ_ne (by decide)]
    rw [this]; exact h4
  · have old : ∀ j, j < nP c → upQ c 0 pa pb t 3 j = c 3 j ∧ upQ c 0 pa pb t 4 j = c 4 j ∧ upQ c 0 pa pb t 5 j = c 5 j ∧ upQ c 0 pa pb t 6 j = c 6 j := by
      intro j hj
      rw [upQ_3, upQ_4, upQ_5, upQ_6, if_neg (by omega), if_neg (by omega), if_neg (by omega), if_neg (by omega)]
      exact ⟨rfl, rfl, rfl, rfl⟩
    have new : upQ c 0 pa pb t 3 (nP c) = 0 := by rw [upQ_3, if_pos rfl]
    simp only [Nat.reduceAdd, Nat.reduceMul, Nat.reduceMod, Int32.reduceOfNat] at h9a h9b h9c h9d h9e
    refine ⟨by rw [upQ_7]; exact sz, ?_, ?_, ?_, ?_, ?_⟩
    · rw [N, sm_part (c 3) _ (fun j hj => (old j hj).1), new, Int.add_zero]; exact (s5 5 (by decide)).trans h9a
    · rw [N, sm_part (fun i => if c 6 i = 0 then c 3 i * c 4 i else 0) _ (fun j hj => by rw [(old j hj).1, (old j hj).2.1, (old j hj).2.2.2]), new]; simp only [Int.zero_mul, ite_self, Int.add_zero]; exact (s5 6 (by decide)).trans h9b
    · rw [N, sm_part (fun i => if c 6 i = 0 then c 3 i * c 5 i else 0) _ (fun j hj => by rw [(old j hj).1, (old j hj).2.2.1, (old j hj).2.2.2]), new]; simp only [Int.zero_mul, ite_self, Int.add_zero]; exact (s5 7 (by decide)).trans h9c
    · rw [N, sm_part (fun i => if c 6 i = 0 then 0 else c 3 i * c 4 i) _ (fun j hj => by rw [(old j hj).1, (old j hj).2.1, (old j hj).2.2.2]), new]; simp only [Int.zero_mul, ite_self, Int.add_zero]; exact (s5 8 (by decide)).trans h9d
    · rw [N, sm_part (fun i => if c 6 i = 0 then 0 else c 3 i * c 5 i) _ (fun j hj => by rw [(old j hj).1, (old j hj).2.2.1, (old j hj).2.2.2]), new]; simp only [Int.zero_mul, ite_self, Int.add_zero]; exact (s5 9 (by decide)).trans h9e
  · rw [e1 _ (by omega), upQ_ne (by omega)]; exact (h10 q hq).1 j hj
  · rw [e1 _ (by omega), upQ_ne (by decide)]; exact (h10 q hq).2
  · rw [e1 _ (by omega), upQ_ne (by decide)]; exact h11 j hj

