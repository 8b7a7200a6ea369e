def chU (c : Nat → Nat → Int) (q r : Nat) (v n : Int) : Nat → Nat → Int := up (up c (9 + q) r v) 12 q n
theorem chU_ne {c : Nat → Nat → Int} {q r : Nat} {v n : Int} {g : Nat} (h1 : g ≠ 9 + q) (h2 : g ≠ 12) : chU c q r v n g = c g := by
  unfold chU; rw [up_ne h2, up_ne h1]
theorem chU_f {c : Nat → Nat → Int} {q r : Nat} {v n : Int} (hq : q < 3) (j : Nat) : chU c q r v n (9 + q) j = if j = r then v else c (9 + q) j := by
  unfold chU; rw [up_ne (by omega)]
  unfold up
  by_cases e : j = r
  · rw [if_pos (by first | exact ⟨rfl, e⟩ | exact ⟨trivial, e⟩), if_pos e]
  · rw [if_neg (fun g => e g.2), if_neg e]
theorem chU_n {c : Nat → Nat → Int} {q r : Nat} {v n : Int} (hq : q < 3) (j : Nat) : chU c q r v n 12 j = if j = q then n else c 12 j := by
  unfold chU up
  by_cases e : j = q
  · rw [if_pos (by first | exact ⟨rfl, e⟩ | exact ⟨trivial, e⟩), if_pos e]
  · rw [if_neg (fun g => e g.2), if_neg e, if_neg (by omega)]
theorem BC.chart {c : Nat → Nat → Int} (b : BC c) {q r : Nat} {v n : Int} (hq : q < 3) (hv : -1 ≤ v ∧ v ≤ 9999) (hn : 0 ≤ n ∧ n ≤ 10) : BC (chU c q r v n) := by
  obtain ⟨b1, b2, b3, b4, b5, b6⟩ := b
  have e : ∀ g, g < 9 → chU c q r v n g = c g := fun g hg => chU_ne (by omega) (by omega)
  refine ⟨?_, ?_, ?_, ?_, fun q' hq' => ⟨?_, fun i hi => ?_⟩, ?_⟩
  · unfold Bxy; rw [e 0 (by decide), e 1 (by decide)]; exact b1
  · rw [e 2 (by decide)]; exact b2
  · rw [e 7 (by decide)]; exact b3
  · rw [e 3 (by decide), e 4 (by decide), e 5 (by decide), e 6 (by decide)]; exact b4
  · rw [chU_n hq]
    by_cases t : q' = q
    · rw [if_pos t]; exact hn
    · rw [if_neg t]; exact (b5 q' hq').1
  · by_cases t : q' = q
    · subst t
      rw [chU_f hq]
      by_cases s : i = r
      · rw [if_pos s]; exact hv
      · rw [if_neg s]; exact (b5 q' hq').2 i hi
    · rw [chU_ne (by omega) (by omega)]; exact (b5 q' hq').2 i hi
  · rw [e 8 (by decide)]; exact b6
theorem CC.chart {c : Nat → Nat → Int} {μ ν : Mem} (h : CC 1 c μ) {q r : Nat} {v n : Int} (hq : q < 3) (f : Fr (fun x => x = 12 + 2 * q ∨ x = 13 + 2 * q) μ ν) (e1 : ∀ i, i < 61 → ν.1 (13 + 2 * q) i = if i = r then Int32.ofInt v else μ.1 (13 + 2 * q) i) (e2 : ν.1 (12 + 2 * q) 1 = Int32.ofInt n) : CC 1 (chU c q r v n) ν := by
  have e : ∀ g, g < 9 → chU c q r v n g = c g := fun g hg => chU_ne (by omega) (by omega)
  have k : ∀ x, ¬ (x = 12 + 2 * q ∨ x = 13 + 2 * q) → ν.1 x = μ.1 x := fun x hx => (f x hx).1
  obtain ⟨⟨h1, h2⟩, h3, h4, ⟨h5, h6, h7, h8, h9⟩, h10, h11⟩ := h
  refine ⟨⟨fun j hj => ?_, fun j hj => ?_⟩, fun j hj => ?_, ?_, ⟨fun j hj => ?_, fun j hj => ?_, fun j hj => ?_, fun j hj => ?_, ?_⟩, fun q' hq' => ⟨fun j hj => ?_, ?_⟩, fun j hj => ?_⟩
  · rw [k _ (by omega), e 0 (by decide)]; exact h1 j hj
  · rw [k _ (by omega), e 1 (by decide)]; exact h2 j hj
  · rw [k _ (by omega), e 2 (by decide)]; exact h3 j hj
  · have : PD 1 (chU c q r v n) ν = PD 1 c μ := by
      unfold PD standB detC S1 S2 S3 S4 S5 stb tri
      rw [(f (1 + 1) (by omega)).1, (f (1 + 1) (by omega)).2, e 0 (by decide), e 1 (by decide)]
    rw [this]; exact h4
  · rw [k _ (by omega), e 3 (by decide)]; exact h5 j hj
  · rw [k _ (by omega), e 4 (by decide)]; exact h6 j hj
  · rw [k _ (by omega), e 5 (by decide)]; exact h7 j hj
  · rw [k _ (by omega), e 6 (by decide)]; exact h8 j hj
  · have : QD 1 (chU c q r v n) ν = QD 1 c μ := by
      unfold QD nP
      rw [k _ (by omega), e 7 (by decide), e 3 (by decide), e 4 (by decide), e 5 (by decide), e 6 (by decide)]
    rw [this]; exact h9
  · by_cases t : q' = q
    · subst t
      have e1' := e1 j hj
      have g := (h10 q' hq').1 j hj
      have x : 1 + 12 + 2 * q' = 13 + 2 * q' := by omega
      rw [x] at g ⊢
      rw [e1', chU_f hq]
      by_cases s : j = r
      · rw [if_pos s, if_pos s]
      · rw [if_neg s, if_neg s]; exact g
    · rw [k _ (by omega), chU_ne (by omega) (by omega)]; exact (h10 q' hq').1 j hj
  · rw [chU_n hq]
    by_cases t : q' = q
    · subst t
      rw [if_pos rfl, show 1 + 11 + 2 * q' = 12 + 2 * q' by omega]; exact e2
    · rw [if_neg t, k _ (by omega)]; exact (h10 q' hq').2
  · rw [k _ (by omega), e 8 (by decide)]; exact h11 j hj
def enP (q : Nat) : Prop := q = 87 ∨ q = 88 ∨ q = 89
theorem MM.chart {c : Nat → Nat → Int} {μ ν : Mem} (h : MM c μ) (b : BC c) {q r : Nat} {v n : Int} (hq : q < 3) (f : FC enP μ ν) (e0 : ν.1 87 q = Int32.ofInt n) (e1 : ∀ q', q' < 3 → q' ≠ q → ν.1 87 q' = μ.1 87 q' ∧ ∀ i, i < 10 → ν.1 88 (10 * q' + i) = μ.1 88 (10 * q' + i) ∧ ν.1 89 (10 * q' + i) = μ.1 89 (10 * q' + i)) (e2 : Ch (chU c q r v n (9 + q)) n.toNat (fun i => ν.1 88 (10 * q + i)) (fun i => ν.1 89 (10 * q + i))) : MM (chU c q r v n) ν := by
  have e : ∀ g, g < 9 → chU c q r v n g = c g := fun g hg => chU_ne (by omega) (by omega)
  have k : ∀ x, x ≠ 81 → ¬ enP x → ν.1 x = μ.1 x := fun x g1 g2 => f.e x g1 g2
  obtain ⟨h1, h2, h3, h4⟩ := h
  refine ⟨?_, ?_, fun q' hq' => ?_, ?_⟩
  · rw [k 82 (by decide) (by unfold enP; omega), e 0 (by decide), e 1 (by decide), e 2 (by decide)]; exact h1
  · unfold Rw
    rw [(f.2 1 (fun q => q)).1, k 83 (by decide) (by unfold enP; omega), k 84 (by decide) (by unfold enP; omega), k 85 (by decide) (by unfold enP; omega), k 86 (by decide) (by unfold enP; omega), e 7 (by decide), e 3 (by decide), e 4 (by decide), e 5 (by decide), e 6 (by decide)]; exact h2
  · rw [chU_n hq]
    by_cases t : q' = q
    · subst t
      rw [if_pos rfl]
      exact ⟨e0, e2⟩
    · obtain ⟨g1, g2⟩ := e1 q' hq' t
      rw [if_neg t, chU_ne (by omega) (by omega), g1]
      have bq := (b.2.2.2.2.1 q' hq').1
      exact ⟨(h3 q' hq').1, (h3 q' hq').2.cg (fun i hi => g2 i (by omega))⟩
  · unfold Rw
    rw [k 90 (by decide) (by unfold enP; omega), e 8 (by decide)]; exact h4
theorem has1_at {c : Nat → Nat → Int} {q r : Nat} (hq : q < 3) (hr : r < 61) {f : Nat → Int} {μ : Mem} (e : μ.1 (13 + 2 * q) r = Int32.ofInt (f r)) (b : -1 ≤ f r ∧ f r ≤ 9999) : f_X1_has SX (12 + 2 * q) (Int32.ofNat r) μ = some (if f r = -1 then 0 else 1, μ) := by
  have k : (Int32.ofInt (f r) = -1) = (f r = -1) := by rw [ym1]; exact propext (yeq _ _ (by omega) (by omega) (by omega) (by omega))
  have i1 := zin r 61 hr (by decide)
  have i2 := ztn r (by omega)
  have t : q = 0 ∨ q = 1 ∨ q = 2 := by omega
  by_cases w : f r = -1
  · rw [if_pos w]
    rcases t with rfl | rfl | rfl <;> simp only [Nat.reduceAdd, Nat.reduceMul, Nat.reduceMod, Int32.reduceOfNat] at e ⊢ <;> simp (decide := true) (implicitDefEqProofs := false) only [f_X1_has, i1, i2, e, k, w, zO, zR, zA, zT, zu1, zu2, zu3, zu4, gI, gL, pI, pL, pZ, aI, aL, sI, sZ, sL, Option.bind_some, Option.map_some, if_true, if_false, ite_true, ite_false, true_and, and_true, false_and, and_false, or_true, true_or, or_false, false_or, and_self, not_true_eq_false, not_false_eq_true, ↓reduceIte, reduceIte, Nat.reduceAdd, Nat.reduceMul, Nat.reduceSub, Nat.reduceMod, Nat.reduceDiv, Nat.reduceEqDiff, Nat.reduceLT, Nat.reduceLeDiff, Int32.reduceAdd, Int32.reduceSub, Int32.reduceMul, Int32.reduceDiv, Int32.reduceMod, Int32.reduceOfNat, Int32.reduceOfInt, Int32.reduceLT, Int32.reduceLE, Int32.reduceToNatClampNeg, Int32.reduceToInt]
  · rw [if_neg w]
    rcases t with rfl | rfl | rfl <;> simp only [Nat.reduceAdd, Nat.reduceMul, Nat.reduceMod, Int32.reduceOfNat] at e ⊢ <;> simp (decide := true) (implicitDefEqProofs := false) only [f_X1_has, i1, i2, e, k, w, zO, zR, zA, zT, zu1, zu2, zu3, zu4, gI, gL, pI, pL, pZ, aI, aL, sI, sZ, sL, Option.bind_some, Option.map_some, if_true, if_false, ite_true, ite_false, true_and, and_true, false_and, and_false, or_true, true_or, or_false, false_or, and_self, not_true_eq_false, not_false_eq_true, ↓reduceIte, reduceIte, Nat.reduceAdd, Nat.reduceMul, Nat.reduceSub, Nat.reduceMod, Nat.reduceDiv, Nat.reduceEqDiff, Nat.reduceLT, Nat.reduceLeDiff, Int32.reduceAdd, Int32.reduceSub, Int32.reduceMul, Int32.reduceDiv, Int32.reduceMod, Int32.reduceOfNat, Int32.reduceOfInt, Int32.reduceLT, Int32.reduceLE, Int32.reduceToNatClampNeg, Int32.reduceToInt]
theorem writeX {q r : Nat} (hq : q < 3) (hr : r < 61) {f : Nat → Int} {s z : Int} {μ : Mem} (e : μ.1 (13 + 2 * q) r = Int32.ofInt (f r)) (b : -1 ≤ f r ∧ f r ≤ 9999) (e2 : μ.1 (12 + 2 * q) 1 = Int32.ofInt s) (hz : -1 ≤ z ∧ z ≤ 9999) : f_X1_write SX (12 + 2 * q) (Int32.ofNat r) (Int32.ofInt z) μ = some ((), upI (upI (upI μ (12 + 2 * q) 1 (Int32.ofInt (s - (if f r = -1 then 0 else 1)))) (13 + 2 * q) r (Int32.ofInt z)) (12 + 2 * q) 1 (Int32.ofInt (s - (if f r = -1 then 0 else 1) + (if z = -1 then 0 else 1)))) := by
  have h1 := has1_at (c := fun _ _ => 0) hq hr e b
  have h2 := has1_at (c := fun _ _ => 0) hq hr (f := fun _ => z) (μ := upI (upI μ (12 + 2 * q) 1 (Int32.ofInt (s - (if f r = -1 then 0 else 1)))) (13 + 2 * q) r (Int32.ofInt z)) (by rw [zu1, if_pos (by first | exact ⟨rfl, rfl⟩ | exact ⟨trivial, rfl⟩)]) hz
  have i1 := zin r 61 hr (by decide)
  have i2 := ztn r (by omega)
  have t : q = 0 ∨ q = 1 ∨ q = 2 := by omega
  have n0 : ∀ x : Int, Int32.ofInt x - 0 = Int32.ofInt (x - 0) := fun x => y32s x 0
  have n1 : ∀ x : Int, Int32.ofInt x - 1 = Int32.ofInt (x - 1) := fun x => y32s x 1
  have m0 : ∀ x : Int, Int32.ofInt x + 0 = Int32.ofInt (x + 0) := fun x => y32a x 0
  have m1 : ∀ x : Int, Int32.ofInt x + 1 = Int32.ofInt (x + 1) := fun x => y32a x 1
  by_cases w : f r = -1
  · by_cases v : z = -1
    · simp only [if_pos w, if_pos v] at h1 h2 ⊢
      rcases t with rfl | rfl | rfl <;> simp only [Nat.reduceAdd, Nat.reduceMul, Nat.reduceMod, Int32.reduceOfNat] at e e2 h1 h2 ⊢ <;> simp (decide := true) (implicitDefEqProofs := false) only [f_X1_write, b_X1_write_18, h1, h2, e2, n0, m0, i1, i2, zO, zR, zA, zT, zu1, zu2, zu3, zu4, gI, gL, pI, pL, pZ, aI, aL, sI, sZ, sL, Option.bind_some, Option.map_some, if_true, if_false, ite_true, ite_false, true_and, and_true, false_and, and_false, or_true, true_or, or_false, false_or, and_self, not_true_eq_false, not_false_eq_true, ↓reduceIte, reduceIte, Nat.reduceAdd, Nat.reduceMul, Nat.reduceSub, Nat.reduceMod, Nat.reduceDiv, Nat.reduceEqDiff, Nat.reduceLT, Nat.reduceLeDiff, Int32.reduceAdd, Int32.reduceSub, Int32.reduceMul, Int32.reduceDiv, Int32.reduceMod, Int32.reduceOfNat, Int32.reduceOfInt, Int32.reduceLT, Int32.reduceLE, Int32.reduceToNatClampNeg, Int32.reduceToInt]
    · simp only [if_pos w, if_neg v] at h1 h2 ⊢
      rcases t with rfl | rfl | rfl <;> simp only [Nat.reduceAdd, Nat.reduceMul, Nat.reduceMod, Int32.reduceOfNat] at e e2 h1 h2 ⊢ <;> simp (decide := true) (implicitDefEqProofs := false) only [f_X1_write, b_X1_write_18, h1, h2, e2, n0, m1, i1, i2, zO, zR, zA, zT, zu1, zu2, zu3, zu4, gI, gL, pI, pL, pZ, aI, aL, sI, sZ, sL, Option.bind_some, Option.map_some, if_true, if_false, ite_true, ite_false, true_and, and_true, false_and, and_false, or_true, true_or, or_false, false_or, and_self, not_true_eq_false, not_false_eq_true, ↓reduceIte, reduceIte, Nat.reduceAdd, Nat.reduceMul, Nat.reduceSub, Nat.reduceMod, Nat.reduceDiv, Nat.reduceEqDiff, Nat.reduceLT, Nat.reduceLeDiff, Int32.reduceAdd, Int32.reduceSub, Int32.reduceMul, Int32.reduceDiv, Int32.reduceMod, Int32.reduceOfNat, Int32.reduceOfInt, Int32.reduceLT, Int32.reduceLE, Int32.reduceToNatClampNeg, Int32.reduceToInt]
  · by_cases v : z = -1
    · simp only [if_neg w, if_pos v] at h1 h2 ⊢
      rcases t with rfl | rfl | rfl <;> simp only [Nat.reduceAdd, Nat.reduceMul, Nat.reduceMod, Int32.reduceOfNat] at e e2 h1 h2 ⊢ <;> simp (decide := true) (implicitDefEqProofs := false) only [f_X1_write, b_X1_write_18, h1, h2, e2, n1, m0, i1, i2, zO, zR, zA, zT, zu1, zu2, zu3, zu4, gI, gL, pI, pL, pZ, aI, aL, sI, sZ, sL, Option.bind_some, Option.map_some, if_true, if_false, ite_true, ite_false, true_and, and_true, false_and, and_false, or_true, true_or, or_false, false_or, and_self, not_true_eq_false, not_false_eq_true, ↓reduceIte, reduceIte, Nat.reduceAdd, Nat.reduceMul, Nat.reduceSub, Nat.reduceMod, Nat.reduceDiv, Nat.reduceEqDiff, Nat.reduceLT, Nat.reduceLeDiff, Int32.reduceAdd, Int32.reduceSub, Int32.reduceMul, Int32.reduceDiv, Int32.reduceMod, Int32.reduceOfNat, Int32.reduceOfInt, Int32.reduceLT, Int32.reduceLE, Int32.reduceToNatClampNeg, Int32.reduceToInt]
    · simp only [if_neg w, if_neg v] at h1 h2 ⊢
      rcases t with rfl | rfl | rfl <;> simp only [Nat.reduceAdd, Nat.reduceMul, Nat.reduceMod, Int32.reduceOfNat] at e e2 h1 h2 ⊢ <;> simp (decide := true) (implicitDefEqProofs := false) only [f_X1_write, b_X1_write_18, h1, h2, e2, n1, m1, i1, i2, zO, zR, zA, zT, zu1, zu2, zu3, zu4, gI, gL, pI, pL, pZ, aI, aL, sI, sZ, sL, Option.bind_some, Option.map_some, if_true, if_false, ite_true, ite_false, true_and, and_true, false_and, and_false, or_true, true_or, or_false, false_or, and_self, not_true_eq_false, not_false_eq_true, ↓reduceIte, reduceIte, Nat.reduceAdd, Nat.reduceMul, Nat.reduceSub, Nat.reduceMod, Nat.reduceDiv, Nat.reduceEqDiff, Nat.reduceLT, Nat.reduceLeDiff, Int32.reduceAdd, Int32.reduceSub, Int32.reduceMul, Int32.reduceDiv, Int32.reduceMod, Int32.reduceOfNat, Int32.reduceOfInt, Int32.reduceLT, Int32.reduceLE, Int32.reduceToNatClampNeg, Int32.reduceToInt]

