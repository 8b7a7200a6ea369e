def up (c : Nat → Nat → Int) (f i : Nat) (v : Int) : Nat → Nat → Int := fun g j => if g = f ∧ j = i then v else c g j
theorem up_ne {c : Nat → Nat → Int} {f i g : Nat} {v : Int} (h : g ≠ f) : up c f i v g = c g := by
  funext j; unfold up; rw [if_neg (fun q => h q.1)]
theorem up_at {c : Nat → Nat → Int} {f i : Nat} {v : Int} : up c f i v f i = v := by unfold up; rw [if_pos ⟨rfl, rfl⟩]
theorem up_of {c : Nat → Nat → Int} {f i j : Nat} {v : Int} (h : j ≠ i) : up c f i v f j = c f j := by unfold up; rw [if_neg (fun q => h q.2)]
theorem sm_congr {f g : Nat → Int} : ∀ n, (∀ i, i < n → f i = g i) → sm f n = sm g n
  | 0, _ => rfl
  | n + 1, h => by
    show sm f n + f n = sm g n + g n
    rw [sm_congr n (fun i hi => h i (by omega)), h n (by omega)]
theorem sm_up {f g : Nat → Int} {p : Nat} : ∀ n, p < n → (∀ i, i ≠ p → g i = f i) → sm g n = sm f n + (g p - f p)
  | 0, hp, _ => by omega
  | n + 1, hp, h => by
    show sm g n + g n = sm f n + f n + (g p - f p)
    by_cases e : p = n
    · subst e
      rw [sm_congr p (fun i hi => h i (by omega))]
      omega
    · rw [sm_up n (by omega) h, h n (by omega)]
      omega
theorem gR5 {k : Nat} (hk : CK k) : isO SX 5 (k + 5) = true ∧ gR SX 5 (k + 5) 0 = some (k + 6) ∧ gR SX 5 (k + 5) 1 = some (k + 7) ∧ gR SX 5 (k + 5) 2 = some (k + 8) ∧ gR SX 5 (k + 5) 3 = some (k + 9) ∧ isA SX .int (k + 6) = some 8 ∧ isA SX .int (k + 7) = some 8 ∧ isA SX .int (k + 8) = some 8 ∧ isA SX .boolean (k + 9) = some 8 := by
  rcases hk with rfl | rfl | rfl <;> decide +kernel
set_option maxHeartbeats 1000000 in
theorem reweigh_at {k : Nat} (hk : CK k) {c : Nat → Nat → Int} {μ : Mem} (h : CC k c μ) (b : BC c) {p : Nat} (hp : p < nP c) (v : Int) : ∃ ν, f_X5_reweigh SX (k + 5) (Int32.ofNat p) (Int32.ofInt v) μ = some ((), ν) ∧ Fr (fun q => q = k + 5 ∨ q = k + 6) μ ν ∧ CC k (up c 3 p v) ν := by
  have hp8 : p < 8 := by have := b.2.2.1; unfold nP at hp; omega
  obtain ⟨o1, r1, r2, r3, r4, a1, a2, a3, a4⟩ := gR5 hk
  have hin := zin p 8 hp8 (by decide)
  have htn := ztn p (by omega)
  obtain ⟨⟨h1, h2⟩, h3, h4, ⟨h5, h6, h7, h8, h9, h9a, h9b, h9c, h9d, h9e⟩, h10, h11⟩ := h
  have m1 := h5 p hp8
  have m2 := h6 p hp8
  have m3 := h7 p hp8
  have m4 := h8 p hp8
  have n1 : (k + 9 = k + 5) = False := by simp
  have n2 : (k + 9 = k + 6) = False := by simp
  have n3 : (k + 7 = k + 5) = False := by simp
  have n4 : (k + 7 = k + 6) = False := by simp
  have n5 : (k + 8 = k + 5) = False := by simp
  have n6 : (k + 8 = k + 6) = False := by simp
  have n7 : (k + 5 = k + 6) = False := by simp
  have hs : ∀ g : Nat → Nat → Int → Int, (∀ i, i < 8 → True) → True := fun _ _ => trivial
  have eN : nP (up c 3 p v) = nP c := by unfold nP; rw [up_ne (by decide)]
  have key : ∀ (F : Int → Nat → Int), sm (fun i => F (up c 3 p v 3 i) i) (nP c) = sm (fun i => F (c 3 i) i) (nP c) + (F v p - F (c 3 p) p) := by
    intro F
    have := sm_up (f := fun i => F (c 3 i) i) (g := fun i => F (up c 3 p v 3 i) i) (nP c) hp (fun i hi => by simp only [up_of hi])
    rw [this, up_at]
  have k1 := key (fun m i => m)
  have k2 := key (fun m i => if c 6 i = 0 then m * c 4 i else 0)
  have k3 := key (fun m i => if c 6 i = 0 then m * c 5 i else 0)
  have k4 := key (fun m i => if c 6 i = 0 then 0 else m * c 4 i)
  have k5 := key (fun m i => if c 6 i = 0 then 0 else m * c 5 i)
  have rest : ∀ ν : Mem, Fr (fun q => q = k + 5 ∨ q = k + 6) μ ν → (∀ i, i < 8 → ν.1 (k + 6) i = if i = p then Int32.ofInt v else μ.1 (k + 6) i) → QD k (up c 3 p v) ν → CC k (up c 3 p v) ν := by
    intro ν f g6 g5
    have e1 : ∀ q, ¬ (q = k + 5 ∨ q = k + 6) → ν.1 q = μ.1 q := fun q hq => (f q hq).1
    refine ⟨⟨fun i hi => ?_, fun i hi => ?_⟩, fun i hi => ?_, ?_, ⟨fun i hi => ?_, fun i hi => ?_, fun i hi => ?_, fun i hi => ?_, g5⟩, fun q hq => ⟨fun i hi => ?_, ?_⟩, fun i hi => ?_⟩
    · rw [e1 _ (by omega), up_ne (by decide)]; exact h1 i hi
    · rw [e1 _ (by omega), up_ne (by decide)]; exact h2 i hi
    · rw [e1 _ (by omega), up_ne (by decide)]; exact h3 i hi
    · have : PD k (up c 3 p v) ν = PD k c μ := by
        unfold PD standB detC S1 S2 S3 S4 S5 stb tri
        rw [(f (k + 1) (by omega)).1, (f (k + 1) (by omega)).2, up_ne (by decide), up_ne (by decide)]
      rw [this]; exact h4
    · rw [g6 i hi]
      by_cases e : i = p
      · rw [if_pos e, e, up_at]
      · rw [if_neg e, up_of e]; exact h5 i hi
    · rw [e1 _ (by omega), up_ne (by decide)]; exact h6 i hi
    · rw [e1 _ (by omega), up_ne (by decide)]; exact h7 i hi
    · rw [e1 _ (by omega), up_ne (by decide)]; exact h8 i hi
    · rw [e1 _ (by omega), up_ne (by omega)]; exact (h10 q hq).1 i hi
    · rw [e1 _ (by omega), up_ne (by omega)]; exact (h10 q hq).2
    · rw [e1 _ (by omega), up_ne (by decide)]; exact h11 i hi
  have n8 : (k + 6 = k + 5) = False := by simp
  have frT : ∀ ν : Mem, (∀ q i, ¬ (q = k + 5 ∨ q = k + 6) → ν.1 q i = μ.1 q i) → ν.2 = μ.2 → Fr (fun q => q = k + 5 ∨ q = k + 6) μ ν := fun ν g1 g2 q hq => ⟨funext fun i => g1 q i hq, by rw [g2]⟩
  have qd : ∀ (ν : Mem) (e5 e6 e7 e8 e9 : Int), ν.1 (k + 5) 4 = μ.1 (k + 5) 4 → ν.1 (k + 5) 5 = Int32.ofInt e5 → ν.1 (k + 5) 6 = Int32.ofInt e6 → ν.1 (k + 5) 7 = Int32.ofInt e7 → ν.1 (k + 5) 8 = Int32.ofInt e8 → ν.1 (k + 5) 9 = Int32.ofInt e9 → e5 = sm (c 3) (nP c) + (v - c 3 p) → e6 = sm (fun i => if c 6 i = 0 then c 3 i * c 4 i else 0) (nP c) + ((if c 6 p = 0 then v * c 4 p else 0) - (if c 6 p = 0 then c 3 p * c 4 p else 0)) → e7 = sm (fun i => if c 6 i = 0 then c 3 i * c 5 i else 0) (nP c) + ((if c 6 p = 0 then v * c 5 p else 0) - (if c 6 p = 0 then c 3 p * c 5 p else 0)) → e8 = sm (fun i => if c 6 i = 0 then 0 else c 3 i * c 4 i) (nP c) + ((if c 6 p = 0 then 0 else v * c 4 p) - (if c 6 p = 0 then 0 else c 3 p * c 4 p)) → e9 = sm (fun i => if c 6 i = 0 then 0 else c 3 i * c 5 i) (nP c) + ((if c 6 p = 0 then 0 else v * c 5 p) - (if c 6 p = 0 then 0 else c 3 p * c 5 p)) → QD k (up c 3 p v) ν := by
    intro ν e5 e6 e7 e8 e9 q4 q5 q6 q7 q8 q9 d5 d6 d7 d8 d9
    unfold QD
    rw [eN, q4, q5, q6, q7, q8, q9, d5, d6, d7, d8, d9, up_ne (show 7 ≠ 3 by decide), up_ne (show 6 ≠ 3 by decide), up_ne (show 4 ≠ 3 by decide), up_ne (show 5 ≠ 3 by decide)]
    exact ⟨h9, by rw [← k1], by rw [← k2], by rw [← k3], by rw [← k4], by rw [← k5]⟩
  by_cases ht : c 6 p = 0
  · have hz : μ.1 (k + 9) p = 0 := by rw [m4, ht]; rfl
    refine ⟨_, by
      simp (decide := true) (implicitDefEqProofs := false) only [f_X5_reweigh, o1, r1, r2, r3, r4, a1, a2, a3, a4, hin, htn, hz, n1, n2, n3, n4, n5, n6, n7, zO, zR, zA, zT, zu1, zu2, zu3, zu4, gI, gL, pI, pL, pZ, aI, aL, sI, sZ, sL, Option.bind_some, Option.map_some, if_true, if_false, ite_true, ite_false, true_and, and_true, false_and, and_false, or_true, true_or, or_false, false_or, and_self, not_true_eq_false, not_false_eq_true, ↓reduceIte, reduceIte, Nat.reduceAdd, Nat.reduceMul, Nat.reduceSub, Nat.reduceMod, Nat.reduceDiv, Nat.reduceEqDiff, Nat.reduceLT, Nat.reduceLeDiff, Int32.reduceAdd, Int32.reduceSub, Int32.reduceMul, Int32.reduceDiv, Int32.reduceMod, Int32.reduceOfNat, Int32.reduceOfInt, Int32.reduceLT, Int32.reduceLE, Int32.reduceToNatClampNeg, Int32.reduceToInt]
      rfl, frT _ ?_ ?_, rest _ (frT _ ?_ ?_) ?_ (qd _ (sm (c 3) (nP c) + (v - c 3 p)) (sm (fun i => if c 6 i = 0 then c 3 i * c 4 i else 0) (nP c) + (v - c 3 p) * c 4 p) (sm (fun i => if c 6 i = 0 then c 3 i * c 5 i else 0) (nP c) + (v - c 3 p) * c 5 p) (sm (fun i => if c 6 i = 0 then 0 else c 3 i * c 4 i) (nP c)) (sm (fun i => if c 6 i = 0 then 0 else c 3 i * c 5 i) (nP c)) ?_ ?_ ?_ ?_ ?_ ?_ rfl ?_ ?_ ?_ ?_)⟩
    · intro q i hq; simp only [zu1]; repeat rw [if_neg (by omega)]
    · rfl
    · intro q i hq; simp only [zu1]; repeat rw [if_neg (by omega)]
    · rfl
    · intro i hi; simp only [zu1, n8, false_and, if_false, true_and]
    · simp (decide := true) (implicitDefEqProofs := false) only [n7, zO, zR, zA, zT, zu1, zu2, zu3, zu4, gI, gL, pI, pL, pZ, aI, aL, sI, sZ, sL, Option.bind_some, Option.map_some, if_true, if_false, ite_true, ite_false, true_and, and_true, false_and, and_false, or_true, true_or, or_false, false_or, and_self, not_true_eq_false, not_false_eq_true, ↓reduceIte, reduceIte, Nat.reduceAdd, Nat.reduceMul, Nat.reduceSub, Nat.reduceMod, Nat.reduceDiv, Nat.reduceEqDiff, Nat.reduceLT, Nat.reduceLeDiff, Int32.reduceAdd, Int32.reduceSub, Int32.reduceMul, Int32.reduceDiv, Int32.reduceMod, Int32.reduceOfNat, Int32.reduceOfInt, Int32.reduceLT, Int32.reduceLE, Int32.reduceToNatClampNeg, Int32.reduceToInt]
    · simp (decide := true) (implicitDefEqProofs := false) only [n7, h9a, m1, y32s, y32a, y32m, zO, zR, zA, zT, zu1, zu2, zu3, zu4, gI, gL, pI, pL, pZ, aI, aL, sI, sZ, sL, Option.bind_some, Option.map_some, if_true, if_false, ite_true, ite_false, true_and, and_true, false_and, and_false, or_true, true_or, or_false, false_or, and_self, not_true_eq_false, not_false_eq_true, ↓reduceIte, reduceIte, Nat.reduceAdd, Nat.reduceMul, Nat.reduceSub, Nat.reduceMod, Nat.reduceDiv, Nat.reduceEqDiff, Nat.reduceLT, Nat.reduceLeDiff, Int32.reduceAdd, Int32.reduceSub, Int32.reduceMul, Int32.reduceDiv, Int32.reduceMod, Int32.reduceOfNat, Int32.reduceOfInt, Int32.reduceLT, Int32.reduceLE, Int32.reduceToNatClampNeg, Int32.reduceToInt]
    · simp (decide := true) (implicitDefEqProofs := false) only [n7, n4, n3, h9b, m1, m2, y32s, y32a, y32m, zO, zR, zA, zT, zu1, zu2, zu3, zu4, gI, gL, pI, pL, pZ, aI, aL, sI, sZ, sL, Option.bind_some, Option.map_some, if_true, if_false, ite_true, ite_false, true_and, and_true, false_and, and_false, or_true, true_or, or_false, false_or, and_self, not_true_eq_false, not_false_eq_true, ↓reduceIte, reduceIte, Nat.reduceAdd, Nat.reduceMul, Nat.reduceSub, Nat.reduceMod, Nat.reduceDiv, Nat.reduceEqDiff, Nat.reduceLT, Nat.reduceLeDiff, Int32.reduceAdd, Int32.reduceSub, Int32.reduceMul, Int32.reduceDiv, Int32.reduceMod, Int32.reduceOfNat, Int32.reduceOfInt, Int32.reduceLT, Int32.reduceLE, Int32.reduceToNatClampNeg, Int32.reduceToInt]
    · simp (decide := true) (implicitDefEqProofs := false) only [n7, n5, n6, h9c, m1, m3, y32s, y32a, y32m, zO, zR, zA, zT, zu1, zu2, zu3, zu4, gI, gL, pI, pL, pZ, aI, aL, sI, sZ, sL, Option.bind_some, Option.map_some, if_true, if_false, ite_true, ite_false, true_and, and_true, false_and, and_false, or_true, true_or, or_false, false_or, and_self, not_true_eq_false, not_false_eq_true, ↓reduceIte, reduceIte, Nat.reduceAdd, Nat.reduceMul, Nat.reduceSub, Nat.reduceMod, Nat.reduceDiv, Nat.reduceEqDiff, Nat.reduceLT, Nat.reduceLeDiff, Int32.reduceAdd, Int32.reduceSub, Int32.reduceMul, Int32.reduceDiv, Int32.reduceMod, Int32.reduceOfNat, Int32.reduceOfInt, Int32.reduceLT, Int32.reduceLE, Int32.reduceToNatClampNeg, Int32.reduceToInt]
    · simp (decide := true) (implicitDefEqProofs := false) only [n7, h9d, zO, zR, zA, zT, zu1, zu2, zu3, zu4, gI, gL, pI, pL, pZ, aI, aL, sI, sZ, sL, Option.bind_some, Option.map_some, if_true, if_false, ite_true, ite_false, true_and, and_true, false_and, and_false, or_true, true_or, or_false, false_or, and_self, not_true_eq_false, not_false_eq_true, ↓reduceIte, reduceIte, Nat.reduceAdd, Nat.reduceMul, Nat.reduceSub, Nat.reduceMod, Nat.reduceDiv, Nat.reduceEqDiff, Nat.reduceLT, Nat.reduceLeDiff, Int32.reduceAdd, Int32.reduceSub, Int32.reduceMul, Int32.reduceDiv, Int32.reduceMod, Int32.reduceOfNat, Int32.reduceOfInt, Int32.reduceLT, Int32.reduceLE, Int32.reduceToNatClampNeg, Int32.reduceToInt]
    · simp (decide := true) (implicitDefEqProofs := false) only [n7, h9e, zO, zR, zA, zT, zu1, zu2, zu3, zu4, gI, gL, pI, pL, pZ, aI, aL, sI, sZ, sL, Option.bind_some, Option.map_some, if_true, if_false, ite_true, ite_false, true_and, and_true, false_and, and_false, or_true, true_or, or_false, false_or, and_self, not_true_eq_false, not_false_eq_true, ↓reduceIte, reduceIte, Nat.reduceAdd, Nat.reduceMul, Nat.reduceSub, Nat.reduceMod, Nat.reduceDiv, Nat.reduceEqDiff, Nat.reduceLT, Nat.reduceLeDiff, Int32.reduceAdd, Int32.reduceSub, Int32.reduceMul, Int32.reduceDiv, Int32.reduceMod, Int32.reduceOfNat, Int32.reduceOfInt, Int32.reduceLT, Int32.reduceLE, Int32.reduceToNatClampNeg, Int32.reduceToInt]
    · rw [if_pos ht, if_pos ht, Int.sub_mul]
    · rw [if_pos ht, if_pos ht, Int.sub_mul]
    · rw [if_pos ht, if_pos ht]; simp
    · rw [if_pos ht, if_pos ht]; simp
  · have hz : ¬ μ.1 (k + 9) p = 0 := by
      rw [m4]
      rcases (b.2.2.2.1 p hp8).2.2.2 with e | e
      · exact absurd e ht
      · rw [e]; decide
    refine ⟨_, by
      simp (decide := true) (implicitDefEqProofs := false) only [f_X5_reweigh, o1, r1, r2, r3, r4, a1, a2, a3, a4, hin, htn, hz, n1, n2, n3, n4, n5, n6, n7, zO, zR, zA, zT, zu1, zu2, zu3, zu4, gI, gL, pI, pL, pZ, aI, aL, sI, sZ, sL, Option.bind_some, Option.map_some, if_true, if_false, ite_true, ite_false, true_and, and_true, false_and, and_false, or_true, true_or, or_false, false_or, and_self, not_true_eq_false, not_false_eq_true, ↓reduceIte, reduceIte, Nat.reduceAdd, Nat.reduceMul, Nat.reduceSub, Nat.reduceMod, Nat.reduceDiv, Nat.reduceEqDiff, Nat.reduceLT, Nat.reduceLeDiff, Int32.reduceAdd, Int32.reduceSub, Int32.reduceMul, Int32.reduceDiv, Int32.reduceMod, Int32.reduceOfNat, Int32.reduceOfInt, Int32.reduceLT, Int32.reduceLE, Int32.reduceToNatClampNeg, Int32.reduceToInt]
      rfl, frT _ ?_ ?_, rest _ (frT _ ?_ ?_) ?_ (qd _ (sm (c 3) (nP c) + (v - c 3 p)) (sm (fun i => if c 6 i = 0 then c 3 i * c 4 i else 0) (nP c)) (sm (fun i => if c 6 i = 0 then c 3 i * c 5 i else 0) (nP c)) (sm (fun i => if c 6 i = 0 then 0 else c 3 i * c 4 i) (nP c) + (v - c 3 p) * c 4 p) (sm (fun i => if c 6 i = 0 then 0 else c 3 i * c 5 i) (nP c) + (v - c 3 p) * c 5 p) ?_ ?_ ?_ ?_ ?_ ?_ rfl ?_ ?_ ?_ ?_)⟩
    · intro q i hq; simp only [zu1]; repeat rw [if_neg (by omega)]
    · rfl
    · intro q i hq; simp only [zu1]; repeat rw [if_neg (by omega)]
    · rfl
    · intro i hi; simp only [zu1, n8, false_and, if_false, true_and]
    · simp (decide := true) (implicitDefEqProofs := false) only [n7, zO, zR, zA, zT, zu1, zu2, zu3, zu4, gI, gL, pI, pL, pZ, aI, aL, sI, sZ, sL, Option.bind_some, Option.map_some, if_true, if_false, ite_true, ite_false, true_and, and_true, false_and, and_false, or_true, true_or, or_false, false_or, and_self, not_true_eq_false, not_false_eq_true, ↓reduceIte, reduceIte, Nat.reduceAdd, Nat.reduceMul, Nat.reduceSub, Nat.reduceMod, Nat.reduceDiv, Nat.reduceEqDiff, Nat.reduceLT, Nat.reduceLeDiff, Int32.reduceAdd, Int32.reduceSub, Int32.reduceMul, Int32.reduceDiv, Int32.reduceMod, Int32.reduceOfNat, Int32.reduceOfInt, Int32.reduceLT, Int32.reduceLE, Int32.reduceToNatClampNeg, Int32.reduceToInt]
    · simp (decide := true) (implicitDefEqProofs := false) only [n7, h9a, m1, y32s, y32a, y32m, zO, zR, zA, zT, zu1, zu2, zu3, zu4, gI, gL, pI, pL, pZ, aI, aL, sI, sZ, sL, Option.bind_some, Option.map_some, if_true, if_false, ite_true, ite_false, true_and, and_true, false_and, and_false, or_true, true_or, or_false, false_or, and_self, not_true_eq_false, not_false_eq_true, ↓reduceIte, reduceIte, Nat.reduceAdd, Nat.reduceMul, Nat.reduceSub, Nat.reduceMod, Nat.reduceDiv, Nat.reduceEqDiff, Nat.reduceLT, Nat.reduceLeDiff, Int32.reduceAdd, Int32.reduceSub, Int32.reduceMul, Int32.reduceDiv, Int32.reduceMod, Int32.reduceOfNat, Int32.reduceOfInt, Int32.reduceLT, Int32.reduceLE, Int32.reduceToNatClampNeg, Int32.reduceToInt]
    · simp (decide := true) (implicitDefEqProofs := false) only [n7, h9b, zO, zR, zA, zT, zu1, zu2, zu3, zu4, gI, gL, pI, pL, pZ, aI, aL, sI, sZ, sL, Option.bind_some, Option.map_some, if_true, if_false, ite_true, ite_false, true_and, and_true, false_and, and_false, or_true, true_or, or_false, false_or, and_self, not_true_eq_false, not_false_eq_true, ↓reduceIte, reduceIte, Nat.reduceAdd, Nat.reduceMul, Nat.reduceSub, Nat.reduceMod, Nat.reduceDiv, Nat.reduceEqDiff, Nat.reduceLT, Nat.reduceLeDiff, Int32.reduceAdd, Int32.reduceSub, Int32.reduceMul, Int32.reduceDiv, Int32.reduceMod, Int32.reduceOfNat, Int32.reduceOfInt, Int32.reduceLT, Int32.reduceLE, Int32.reduceToNatClampNeg, Int32.reduceToInt]
    · simp (decide := true) (implicitDefEqProofs := false) only [n7, h9c, zO, zR, zA, zT, zu1, zu2, zu3, zu4, gI, gL, pI, pL, pZ, aI, aL, sI, sZ, sL, Option.bind_some, Option.map_some, if_true, if_false, ite_true, ite_false, true_and, and_true, false_and, and_false, or_true, true_or, or_false, false_or, and_self, not_true_eq_false, not_false_eq_true, ↓reduceIte, reduceIte, Nat.reduceAdd, Nat.reduceMul, Nat.reduceSub, Nat.reduceMod, Nat.reduceDiv, Nat.reduceEqDiff, Nat.reduceLT, Nat.reduceLeDiff, Int32.reduceAdd, Int32.reduceSub, Int32.reduceMul, Int32.reduceDiv, Int32.reduceMod, Int32.reduceOfNat, Int32.reduceOfInt, Int32.reduceLT, Int32.reduceLE, Int32.reduceToNatClampNeg, Int32.reduceToInt]
    · simp (decide := true) (implicitDefEqProofs := false) only [n7, n4, n3, h9d, m1, m2, y32s, y32a, y32m, zO, zR, zA, zT, zu1, zu2, zu3, zu4, gI, gL, pI, pL, pZ, aI, aL, sI, sZ, sL, Option.bind_some, Option.map_some, if_true, if_false, ite_true, ite_false, true_and, and_true, false_and, and_false, or_true, true_or, or_false, false_or, and_self, not_true_eq_false, not_false_eq_true, ↓reduceIte, reduceIte, Nat.reduceAdd, Nat.reduceMul, Nat.reduceSub, Nat.reduceMod, Nat.reduceDiv, Nat.reduceEqDiff, Nat.reduceLT, Nat.reduceLeDiff, Int32.reduceAdd, Int32.reduceSub, Int32.reduceMul, Int32.reduceDiv, Int32.reduceMod, Int32.reduceOfNat, Int32.reduceOfInt, Int32.reduceLT, Int32.reduceLE, Int32.reduceToNatClampNeg, Int32.reduceToInt]
    · simp (decide := true) (implicitDefEqProofs := false) only [n7, n5, n6, h9e, m1, m3, y32s, y32a, y32m, zO, zR, zA, zT, zu1, zu2, zu3, zu4, gI, gL, pI, pL, pZ, aI, aL, sI, sZ, sL, Option.bind_some, Option.map_some, if_true, if_false, ite_true, ite_false, true_and, and_true, false_and, and_false, or_true, true_or, or_false, false_or, and_self, not_true_eq_false, not_false_eq_true, ↓reduceIte, reduceIte, Nat.reduceAdd, Nat.reduceMul, Nat.reduceSub, Nat.reduceMod, Nat.reduceDiv, Nat.reduceEqDiff, Nat.reduceLT, Nat.reduceLeDiff, Int32.reduceAdd, Int32.reduceSub, Int32.reduceMul, Int32.reduceDiv, Int32.reduceMod, Int32.reduceOfNat, Int32.reduceOfInt, Int32.reduceLT, Int32.reduceLE, Int32.reduceToNatClampNeg, Int32.reduceToInt]
    · rw [if_neg ht, if_neg ht]; simp
    · rw [if_neg ht, if_neg ht]; simp
    · rw [if_neg ht, if_neg ht, Int.sub_mul]
    · rw [if_neg ht, if_neg ht, Int.sub_mul]

