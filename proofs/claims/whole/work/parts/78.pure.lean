theorem Ch.go {f f' : Nat → Int} {n K r : Nat} {p : Nat → Nat} {A H A' H' : Nat → Int32} (g2 : ∀ i, i < n → p i < 61 ∧ A i = Int32.ofNat (p i) ∧ H i = Int32.ofInt (f (p i)) ∧ f (p i) ≠ -1) (g3 : ∀ i j, i < j → j < n → p i < p j) (g4 : ∀ s, s < 61 → f s ≠ -1 → ∃ i, i < n ∧ p i = s) (hK : K < n) (e : p K = r) (hf : ∀ j, f' j = if j = r then -1 else f j) (eA : ∀ i, i < n - 1 → A' i = if K ≤ i then A (i + 1) else A i) (eH : ∀ i, i < n - 1 → H' i = if K ≤ i then H (i + 1) else H i) : Ch f' (n - 1) A' H' := by
  have lo : ∀ i, i < K → p i < r := fun i hi => by have := g3 i K hi hK; omega
  have hi' : ∀ i, K < i → i < n → r < p i := fun i h1 h2 => by have := g3 K i h1 h2; omega
  refine ⟨fun i => if K ≤ i then p (i + 1) else p i, fun i hi => ?_, fun i j hij hj => ?_, fun s hs hfs => ?_⟩
  · rw [eA i hi, eH i hi]
    by_cases t : K ≤ i
    · obtain ⟨a1, a2, a3, a4⟩ := g2 (i + 1) (by omega)
      have := hi' (i + 1) (by omega) (by omega)
      simp only [if_pos t]
      rw [hf, if_neg (by omega)]
      exact ⟨a1, a2, a3, a4⟩
    · obtain ⟨a1, a2, a3, a4⟩ := g2 i (by omega)
      have := lo i (by omega)
      simp only [if_neg t]
      rw [hf, if_neg (by omega)]
      exact ⟨a1, a2, a3, a4⟩
  · show (if K ≤ i then p (i + 1) else p i) < (if K ≤ j then p (j + 1) else p j)
    by_cases t : K ≤ i
    · rw [if_pos t, if_pos (by first | omega | exact ⟨trivial, by omega⟩ | exact ⟨trivial, trivial⟩)]; exact g3 _ _ (by omega) (by omega)
    · rw [if_neg t]
      by_cases s : K ≤ j
      · rw [if_pos s]; exact g3 _ _ (by omega) (by omega)
      · rw [if_neg s]; exact g3 _ _ (by omega) (by omega)
  · rw [hf] at hfs
    by_cases w : s = r
    · rw [if_pos w] at hfs; exact absurd rfl hfs
    · rw [if_neg w] at hfs
      obtain ⟨i, h1, h2⟩ := g4 s hs hfs
      have ne : i ≠ K := fun q => by rw [q] at h2; omega
      by_cases t : i < K
      · exact ⟨i, by omega, by show (if K ≤ i then p (i + 1) else p i) = s; rw [if_neg (by omega)]; exact h2⟩
      · refine ⟨i - 1, by omega, ?_⟩
        show (if K ≤ i - 1 then p (i - 1 + 1) else p (i - 1)) = s
        rw [if_pos (by first | omega | exact ⟨trivial, by omega⟩ | exact ⟨trivial, trivial⟩), show i - 1 + 1 = i by omega]; exact h2
theorem Ch.co {f f' : Nat → Int} {n K r : Nat} {z : Int} {p : Nat → Nat} {A H A' H' : Nat → Int32} (g2 : ∀ i, i < n → p i < 61 ∧ A i = Int32.ofNat (p i) ∧ H i = Int32.ofInt (f (p i)) ∧ f (p i) ≠ -1) (g3 : ∀ i j, i < j → j < n → p i < p j) (g4 : ∀ s, s < 61 → f s ≠ -1 → ∃ i, i < n ∧ p i = s) (hK : K ≤ n) (hr : r < 61) (lo : ∀ i, i < K → p i < r) (ge : ∀ i, K ≤ i → i < n → r ≤ p i) (w : f r = -1) (hz : z ≠ -1) (hf : ∀ j, f' j = if j = r then z else f j) (eA : ∀ i, i < n + 1 → A' i = if i = K then Int32.ofNat r else if K < i then A (i - 1) else A i) (eH : ∀ i, i < n + 1 → H' i = if i = K then Int32.ofInt z else if K < i then H (i - 1) else H i) : Ch f' (n + 1) A' H' := by
  have gt : ∀ i, K ≤ i → i < n → r < p i := fun i h1 h2 => by
    have a := ge i h1 h2
    have : p i ≠ r := fun q => (g2 i h2).2.2.2 (by rw [q]; exact w)
    omega
  refine ⟨fun i => if i = K then r else if K < i then p (i - 1) else p i, fun i hi => ?_, fun i j hij hj => ?_, fun s hs hfs => ?_⟩
  · rw [eA i hi, eH i hi]
    by_cases t : i = K
    · simp only [if_pos t]
      rw [hf, if_pos rfl]
      exact ⟨hr, by trivial, by trivial, hz⟩
    · by_cases s : K < i
      · obtain ⟨a1, a2, a3, a4⟩ := g2 (i - 1) (by omega)
        have := gt (i - 1) (by omega) (by omega)
        simp only [if_neg t, if_pos s]
        rw [hf, if_neg (by omega)]
        exact ⟨a1, a2, a3, a4⟩
      · obtain ⟨a1, a2, a3, a4⟩ := g2 i (by omega)
        have := lo i (by omega)
        simp only [if_neg t, if_neg s]
        rw [hf, if_neg (by omega)]
        exact ⟨a1, a2, a3, a4⟩
  · show (if i = K then r else if K < i then p (i - 1) else p i) < (if j = K then r else if K < j then p (j - 1) else p j)
    by_cases t : i = K
    · rw [if_pos t, if_neg (by omega), if_pos (by first | omega | exact ⟨trivial, by omega⟩ | exact ⟨trivial, trivial⟩)]; exact gt _ (by omega) (by omega)
    · rw [if_neg t]
      by_cases s : K < i
      · rw [if_pos s, if_neg (by omega), if_pos (by first | omega | exact ⟨trivial, by omega⟩ | exact ⟨trivial, trivial⟩)]; exact g3 _ _ (by omega) (by omega)
      · rw [if_neg s]
        by_cases u : j = K
        · rw [if_pos u]; exact lo _ (by omega)
        · rw [if_neg u]
          by_cases v : K < j
          · rw [if_pos v]
            by_cases x : i < j - 1
            · exact g3 _ _ x (by omega)
            · omega
          · rw [if_neg v]; exact g3 _ _ (by omega) (by omega)
  · rw [hf] at hfs
    by_cases x : s = r
    · exact ⟨K, by omega, by show (if K = K then r else if K < K then p (K - 1) else p K) = s; rw [if_pos rfl]; exact x.symm⟩
    · rw [if_neg x] at hfs
      obtain ⟨i, h1, h2⟩ := g4 s hs hfs
      by_cases t : i < K
      · exact ⟨i, by omega, by show (if i = K then r else if K < i then p (i - 1) else p i) = s; rw [if_neg (by omega), if_neg (by omega)]; exact h2⟩
      · refine ⟨i + 1, by omega, ?_⟩
        show (if i + 1 = K then r else if K < i + 1 then p (i + 1 - 1) else p (i + 1)) = s
        rw [if_neg (by omega), if_pos (by first | omega | exact ⟨trivial, by omega⟩ | exact ⟨trivial, trivial⟩), show i + 1 - 1 = i by omega]; exact h2
theorem Ch.st {f f' : Nat → Int} {n K r : Nat} {z : Int} {p : Nat → Nat} {A H A' H' : Nat → Int32} (g2 : ∀ i, i < n → p i < 61 ∧ A i = Int32.ofNat (p i) ∧ H i = Int32.ofInt (f (p i)) ∧ f (p i) ≠ -1) (g3 : ∀ i j, i < j → j < n → p i < p j) (g4 : ∀ s, s < 61 → f s ≠ -1 → ∃ i, i < n ∧ p i = s) (hK : K < n) (e : p K = r) (hz : z ≠ -1) (hf : ∀ j, f' j = if j = r then z else f j) (eA : ∀ i, i < n → A' i = A i) (eH : ∀ i, i < n → H' i = if i = K then Int32.ofInt z else H i) : Ch f' n A' H' := by
  have ne : ∀ i, i < n → i ≠ K → p i ≠ r := fun i h1 h2 => by
    by_cases t : i < K
    · have := g3 i K t hK; omega
    · have := g3 K i (by omega) h1; omega
  refine ⟨p, fun i hi => ?_, g3, fun s hs hfs => ?_⟩
  · obtain ⟨a1, a2, a3, a4⟩ := g2 i hi
    rw [eA i hi, eH i hi, hf]
    by_cases t : i = K
    · rw [if_pos t, t, e, if_pos rfl]
      rw [t, e] at a1 a2
      exact ⟨a1, a2, rfl, hz⟩
    · rw [if_neg t, if_neg (ne i hi t)]
      exact ⟨a1, a2, a3, a4⟩
  · by_cases x : s = r
    · exact ⟨K, hK, by rw [e, x]⟩
    · rw [hf, if_neg x] at hfs
      exact g4 s hs hfs
theorem ok_entry {μ : Mem} (h : INV μ) (a1 a2 a3 : Int32) : OKop (f_X11_entry SX 0 a1 a2 a3) (f_X12_entry SX 81 a1 a2 a3) μ := by
  obtain ⟨c, b, h1, h2⟩ := h.1
  rcases wbN a1 2 (by decide) with t | ⟨t, q, hq, rfl⟩
  · simp only [Nat.reduceAdd, Nat.reduceMul, Nat.reduceMod, Int32.reduceOfNat] at t
    refine ⟨-1, μ, μ, ?_, ?_, h⟩
    · simp (decide := true) (implicitDefEqProofs := false) only [f_X11_entry, isChart_at, t, zO, zR, zA, zT, zu1, zu2, zu3, zu4, gI, gL, pI, pL, pZ, aI, aL, sI, sZ, sL, Option.bind_some, Option.map_some, if_true, if_false, ite_true, ite_false, true_and, and_true, false_and, and_false, or_true, true_or, or_false, false_or, and_self, not_true_eq_false, not_false_eq_true, ↓reduceIte, reduceIte, Nat.reduceAdd, Nat.reduceMul, Nat.reduceSub, Nat.reduceMod, Nat.reduceDiv, Nat.reduceEqDiff, Nat.reduceLT, Nat.reduceLeDiff, Int32.reduceAdd, Int32.reduceSub, Int32.reduceMul, Int32.reduceDiv, Int32.reduceMod, Int32.reduceOfNat, Int32.reduceOfInt, Int32.reduceLT, Int32.reduceLE, Int32.reduceToNatClampNeg, Int32.reduceToInt]
    · simp (decide := true) (implicitDefEqProofs := false) only [f_X12_entry, isChart_at, t, zO, zR, zA, zT, zu1, zu2, zu3, zu4, gI, gL, pI, pL, pZ, aI, aL, sI, sZ, sL, Option.bind_some, Option.map_some, if_true, if_false, ite_true, ite_false, true_and, and_true, false_and, and_false, or_true, true_or, or_false, false_or, and_self, not_true_eq_false, not_false_eq_true, ↓reduceIte, reduceIte, Nat.reduceAdd, Nat.reduceMul, Nat.reduceSub, Nat.reduceMod, Nat.reduceDiv, Nat.reduceEqDiff, Nat.reduceLT, Nat.reduceLeDiff, Int32.reduceAdd, Int32.reduceSub, Int32.reduceMul, Int32.reduceDiv, Int32.reduceMod, Int32.reduceOfNat, Int32.reduceOfInt, Int32.reduceLT, Int32.reduceLE, Int32.reduceToNatClampNeg, Int32.reduceToInt]
  · simp only [Nat.reduceAdd, Nat.reduceMul, Nat.reduceMod, Int32.reduceOfNat] at t
    rcases wbN a2 60 (by decide) with s | ⟨s, r, hr, rfl⟩
    · simp only [Nat.reduceAdd, Nat.reduceMul, Nat.reduceMod, Int32.reduceOfNat] at s
      refine ⟨-2, μ, μ, ?_, ?_, h⟩
      · simp (decide := true) (implicitDefEqProofs := false) only [f_X11_entry, isChart_at, isReach_at, t, s, zO, zR, zA, zT, zu1, zu2, zu3, zu4, gI, gL, pI, pL, pZ, aI, aL, sI, sZ, sL, Option.bind_some, Option.map_some, if_true, if_false, ite_true, ite_false, true_and, and_true, false_and, and_false, or_true, true_or, or_false, false_or, and_self, not_true_eq_false, not_false_eq_true, ↓reduceIte, reduceIte, Nat.reduceAdd, Nat.reduceMul, Nat.reduceSub, Nat.reduceMod, Nat.reduceDiv, Nat.reduceEqDiff, Nat.reduceLT, Nat.reduceLeDiff, Int32.reduceAdd, Int32.reduceSub, Int32.reduceMul, Int32.reduceDiv, Int32.reduceMod, Int32.reduceOfNat, Int32.reduceOfInt, Int32.reduceLT, Int32.reduceLE, Int32.reduceToNatClampNeg, Int32.reduceToInt]
      · simp (decide := true) (implicitDefEqProofs := false) only [f_X12_entry, isChart_at, isReach_at, t, s, zO, zR, zA, zT, zu1, zu2, zu3, zu4, gI, gL, pI, pL, pZ, aI, aL, sI, sZ, sL, Option.bind_some, Option.map_some, if_true, if_false, ite_true, ite_false, true_and, and_true, false_and, and_false, or_true, true_or, or_false, false_or, and_self, not_true_eq_false, not_false_eq_true, ↓reduceIte, reduceIte, Nat.reduceAdd, Nat.reduceMul, Nat.reduceSub, Nat.reduceMod, Nat.reduceDiv, Nat.reduceEqDiff, Nat.reduceLT, Nat.reduceLeDiff, Int32.reduceAdd, Int32.reduceSub, Int32.reduceMul, Int32.reduceDiv, Int32.reduceMod, Int32.reduceOfNat, Int32.reduceOfInt, Int32.reduceLT, Int32.reduceLE, Int32.reduceToNatClampNeg, Int32.reduceToInt]
    · simp only [Nat.reduceAdd, Nat.reduceMul, Nat.reduceMod, Int32.reduceOfNat] at s
      rcases wbI a3 (-1) 9999 (by decide) (by decide) (by decide) (by decide) with w | ⟨w, z, z1, z2, rfl⟩
      · have w' : wb a3 (-1) 9999 = 0 := by rw [ym1]; exact w
        refine ⟨-2, μ, μ, ?_, ?_, h⟩
        · simp (decide := true) (implicitDefEqProofs := false) only [f_X11_entry, isChart_at, isReach_at, within_at, t, s, w', zO, zR, zA, zT, zu1, zu2, zu3, zu4, gI, gL, pI, pL, pZ, aI, aL, sI, sZ, sL, Option.bind_some, Option.map_some, if_true, if_false, ite_true, ite_false, true_and, and_true, false_and, and_false, or_true, true_or, or_false, false_or, and_self, not_true_eq_false, not_false_eq_true, ↓reduceIte, reduceIte, Nat.reduceAdd, Nat.reduceMul, Nat.reduceSub, Nat.reduceMod, Nat.reduceDiv, Nat.reduceEqDiff, Nat.reduceLT, Nat.reduceLeDiff, Int32.reduceAdd, Int32.reduceSub, Int32.reduceMul, Int32.reduceDiv, Int32.reduceMod, Int32.reduceOfNat, Int32.reduceOfInt, Int32.reduceLT, Int32.reduceLE, Int32.reduceToNatClampNeg, Int32.reduceToInt]
        · simp (decide := true) (implicitDefEqProofs := false) only [f_X12_entry, isChart_at, isReach_at, in_at, t, s, w', zO, zR, zA, zT, zu1, zu2, zu3, zu4, gI, gL, pI, pL, pZ, aI, aL, sI, sZ, sL, Option.bind_some, Option.map_some, if_true, if_false, ite_true, ite_false, true_and, and_true, false_and, and_false, or_true, true_or, or_false, false_or, and_self, not_true_eq_false, not_false_eq_true, ↓reduceIte, reduceIte, Nat.reduceAdd, Nat.reduceMul, Nat.reduceSub, Nat.reduceMod, Nat.reduceDiv, Nat.reduceEqDiff, Nat.reduceLT, Nat.reduceLeDiff, Int32.reduceAdd, Int32.reduceSub, Int32.reduceMul, Int32.reduceDiv, Int32.reduceMod, Int32.reduceOfNat, Int32.reduceOfInt, Int32.reduceLT, Int32.reduceLE, Int32.reduceToNatClampNeg, Int32.reduceToInt]
      · have w' : wb (Int32.ofInt z) (-1) 9999 = 1 := by rw [ym1]; exact w
        have hq3 : q < 3 := by omega
        have hr61 : r < 61 := by omega
        have bq := b.2.2.2.2.1 q hq3
        have br := bq.2 r hr61
        obtain ⟨x1, x2⟩ := h1.2.2.2.2.1 q hq3
        have x1 := x1 r hr61
        rw [show 1 + 12 + 2 * q = 13 + 2 * q by omega] at x1
        rw [show 1 + 11 + 2 * q = 12 + 2 * q by omega] at x2
        have ar := aRc ck1 q hq3
        rw [show 1 + 11 + 2 * q = 12 + 2 * q by omega] at ar
        simp only [Nat.reduceAdd, Nat.reduceMul, Nat.reduceMod, Int32.reduceOfNat] at ar
        have io : isO SX 1 (12 + 2 * q) = true := by
          have := (gR1 ck1 q hq3).1
          rw [show 1 + 11 + 2 * q = 12 + 2 * q by omega] at this
          exact this
        have hs := has1_at (c := c) hq3 hr61 x1 br
        have wr := writeX hq3 hr61 x1 br x2 ⟨z1, z2⟩
        obtain ⟨n, K, p, hn, En, g1, k2, k1, g2, g3, g4, lo, ge, it, th⟩ := entA h2 b hq3 hr61
        have zq : (Int32.ofInt z = -1) = (z = -1) := by rw [ym1]; exact propext (yeq _ _ (by omega) (by omega) (by omega) (by omega))
        have zp : (0 ≤ Int32.ofInt z) = (0 ≤ z) := propext (yle32 0 z (by omega) (by omega) (by omega) (by omega))
        have q1 := zin q 3 hq3 (by decide)
        have q2 := ztn q (by omega)
        -- the class has written, the reference too
        have fin : ∀ (n' : Int) (ν : Mem), 0 ≤ n' → n' ≤ 10 → n' = c 12 q - (if c (9 + q) r = -1 then 0 else 1) + (if z = -1 then 0 else 1) → FC enP (upI (upI (upI μ (12 + 2 * q) 1 (Int32.ofInt (c 12 q - (if c (9 + q) r = -1 then 0 else 1)))) (13 + 2 * q) r (Int32.ofInt z)) (12 + 2 * q) 1 (Int32.ofInt (c 12 q - (if c (9 + q) r = -1 then 0 else 1) + (if z = -1 then 0 else 1)))) ν → ν.1 87 q = Int32.ofInt n' → (∀ q', q' < 3 → q' ≠ q → ν.1 87 q' = μ.1 87 q' ∧ ∀ i, i < 10 → ν.1 88 (10 * q' + i) = μ.1 88 (10 * q' + i) ∧ ν.1 89 (10 * q' + i) = μ.1 89 (10 * q' + i)) → Ch (chU c q r z n' (9 + q)) n'.toNat (fun i => ν.1 88 (10 * q + i)) (fun i => ν.1 89 (10 * q + i)) → INV ν := by
          intro n' ν y1 y2 y3 f e0 e1 e2
          rw [← y3] at f
          obtain ⟨μ1, E1⟩ : ∃ m : Mem, m = upI (upI (upI μ (12 + 2 * q) 1 (Int32.ofInt (c 12 q - (if c (9 + q) r = -1 then 0 else 1)))) (13 + 2 * q) r (Int32.ofInt z)) (12 + 2 * q) 1 (Int32.ofInt n') := ⟨_, rfl⟩
          rw [← E1] at f
          have fx : Fr (fun x => x = 12 + 2 * q ∨ x = 13 + 2 * q) μ μ1 := by rw [E1]; exact Fr.tr (Fr.tr (Fr.uI (Or.inl rfl)) (Fr.uI (Or.inr rfl))) (Fr.uI (Or.inl rfl))
          have C1 : CC 1 (chU c q r z n') μ1 := h1.chart hq3 fx (fun i hi => by
            rw [E1]; simp only [zu1]
            rw [if_neg (by omega)]
            by_cases e : i = r
            · rw [if_pos (by first | exact ⟨rfl, e⟩ | exact ⟨trivial, e⟩), if_pos e]
            · rw [if_neg (fun g => e g.2), if_neg e, if_neg (by omega)]) (by rw [E1, zu1, if_pos (by first | exact ⟨rfl, rfl⟩ | exact ⟨trivial, rfl⟩)])
          have M1 : MM c μ1 := h2.w (fx.fm (by omega)) (fun q g1 g2 => by omega) (fun q => q.elim)
          have k : ∀ x, 82 ≤ x → μ1.1 x = μ.1 x := fun x hx => (fx x (by omega)).1
          have M2 : MM (chU c q r z n') ν := M1.chart b hq3 f e0 (fun q' a1 a2 => by rw [k 87 (by decide), k 88 (by decide), k 89 (by decide)]; exact e1 q' a1 a2) e2
          exact h.cr ((crX fx (fun q g => by omega)).tr (f.mo (fun k q => by unfold enP at q; unfold crP; omega) (fun k q => q.elim))) ⟨_, b.chart hq3 ⟨z1, z2⟩ ⟨y1, y2⟩, C1.f f (fun q g1 g2 => ⟨by omega, by unfold enP; omega⟩), M2⟩
        obtain ⟨μ1, E1⟩ : ∃ m : Mem, m = upI (upI (upI μ (12 + 2 * q) 1 (Int32.ofInt (c 12 q - (if c (9 + q) r = -1 then 0 else 1)))) (13 + 2 * q) r (Int32.ofInt z)) (12 + 2 * q) 1 (Int32.ofInt (c 12 q - (if c (9 + q) r = -1 then 0 else 1) + (if z = -1 then 0 else 1))) := ⟨_, rfl⟩
        rw [← E1] at wr fin
        have fx : Fr (fun x => x = 12 + 2 * q ∨ x = 13 + 2 * q) μ μ1 := by rw [E1]; exact Fr.tr (Fr.tr (Fr.uI (Or.inl rfl)) (Fr.uI (Or.inr rfl))) (Fr.uI (Or.inl rfl))
        have k : ∀ x, 81 ≤ x → μ1.1 x = μ.1 x := fun x hx => (fx x (by omega)).1
        have sz : μ1.1 (12 + 2 * q) 1 = Int32.ofInt (c 12 q - (if c (9 + q) r = -1 then 0 else 1) + (if z = -1 then 0 else 1)) := by rw [E1, zu1, if_pos (by first | exact ⟨rfl, rfl⟩ | exact ⟨trivial, rfl⟩)]
        have M1 : MM c μ1 := h2.w (fx.fm (by omega)) (fun q g1 g2 => by omega) (fun q => q.elim)
        obtain ⟨n_, K_, p_, hn_, En_, g1_, k2_, k1_, g2_, g3_, g4_, lo_, ge_, it_, th_⟩ := entA M1 b hq3 hr61
        have hc10 : (Int32.ofInt (c 12 q) < 10) = (c 12 q < 10) := propext (ylt32 (c 12 q) 10 (by omega) (by omega) (by omega) (by omega))
        by_cases e1 : c (9 + q) r = -1
        · rw [if_pos e1] at it hs it_
          by_cases e2 : z = -1
          · refine ⟨-3, μ, μ, ?_, ?_, h⟩
            · simp (decide := true) (implicitDefEqProofs := false) only [f_X11_entry, isChart_at, isReach_at, within_at, t, s, w', ar, hs, zq, e2, zO, zR, zA, zT, zu1, zu2, zu3, zu4, gI, gL, pI, pL, pZ, aI, aL, sI, sZ, sL, Option.bind_some, Option.map_some, if_true, if_false, ite_true, ite_false, true_and, and_true, false_and, and_false, or_true, true_or, or_false, false_or, and_self, not_true_eq_false, not_false_eq_true, ↓reduceIte, reduceIte, Nat.reduceAdd, Nat.reduceMul, Nat.reduceSub, Nat.reduceMod, Nat.reduceDiv, Nat.reduceEqDiff, Nat.reduceLT, Nat.reduceLeDiff, Int32.reduceAdd, Int32.reduceSub, Int32.reduceMul, Int32.reduceDiv, Int32.reduceMod, Int32.reduceOfNat, Int32.reduceOfInt, Int32.reduceLT, Int32.reduceLE, Int32.reduceToNatClampNeg, Int32.reduceToInt]
            · have zn : ¬ 0 ≤ z := by omega
              simp (decide := true) (implicitDefEqProofs := false) only [f_X12_entry, isChart_at, isReach_at, in_at, t, s, w', k1, it, zp, zn, zO, zR, zA, zT, zu1, zu2, zu3, zu4, gI, gL, pI, pL, pZ, aI, aL, sI, sZ, sL, Option.bind_some, Option.map_some, if_true, if_false, ite_true, ite_false, true_and, and_true, false_and, and_false, or_true, true_or, or_false, false_or, and_self, not_true_eq_false, not_false_eq_true, ↓reduceIte, reduceIte, Nat.reduceAdd, Nat.reduceMul, Nat.reduceSub, Nat.reduceMod, Nat.reduceDiv, Nat.reduceEqDiff, Nat.reduceLT, Nat.reduceLeDiff, Int32.reduceAdd, Int32.reduceSub, Int32.reduceMul, Int32.reduceDiv, Int32.reduceMod, Int32.reduceOfNat, Int32.reduceOfInt, Int32.reduceLT, Int32.reduceLE, Int32.reduceToNatClampNeg, Int32.reduceToInt]
          · have zn : 0 ≤ z := by omega
            by_cases e3 : n = 10
            · have ne10 : (Int32.ofNat n = 10) = True := by rw [e3]; exact eq_true rfl
              have n10 : ¬ c 12 q < 10 := by omega
              refine ⟨-4, μ, μ, ?_, ?_, h⟩
              · simp (decide := true) (implicitDefEqProofs := false) only [f_X11_entry, isChart_at, isReach_at, within_at, t, s, w', ar, hs, zq, e2, b_X11_entry_63, io, x2, hc10, n10, zO, zR, zA, zT, zu1, zu2, zu3, zu4, gI, gL, pI, pL, pZ, aI, aL, sI, sZ, sL, Option.bind_some, Option.map_some, if_true, if_false, ite_true, ite_false, true_and, and_true, false_and, and_false, or_true, true_or, or_false, false_or, and_self, not_true_eq_false, not_false_eq_true, ↓reduceIte, reduceIte, Nat.reduceAdd, Nat.reduceMul, Nat.reduceSub, Nat.reduceMod, Nat.reduceDiv, Nat.reduceEqDiff, Nat.reduceLT, Nat.reduceLeDiff, Int32.reduceAdd, Int32.reduceSub, Int32.reduceMul, Int32.reduceDiv, Int32.reduceMod, Int32.reduceOfNat, Int32.reduceOfInt, Int32.reduceLT, Int32.reduceLE, Int32.reduceToNatClampNeg, Int32.reduceToInt]
              · simp (decide := true) (implicitDefEqProofs := false) only [f_X12_entry, isChart_at, isReach_at, in_at, t, s, w', k1, it, zp, zn, q1, q2, g1, ne10, zO, zR, zA, zT, zu1, zu2, zu3, zu4, gI, gL, pI, pL, pZ, aI, aL, sI, sZ, sL, Option.bind_some, Option.map_some, if_true, if_false, ite_true, ite_false, true_and, and_true, false_and, and_false, or_true, true_or, or_false, false_or, and_self, not_true_eq_false, not_false_eq_true, ↓reduceIte, reduceIte, Nat.reduceAdd, Nat.reduceMul, Nat.reduceSub, Nat.reduceMod, Nat.reduceDiv, Nat.reduceEqDiff, Nat.reduceLT, Nat.reduceLeDiff, Int32.reduceAdd, Int32.reduceSub, Int32.reduceMul, Int32.reduceDiv, Int32.reduceMod, Int32.reduceOfNat, Int32.reduceOfInt, Int32.reduceLT, Int32.reduceLE, Int32.reduceToNatClampNeg, Int32.reduceToInt]
            · have y10 : c 12 q < 10 := by omega
              have enn : n_ = n := by omega
              subst enn
              have nne : (Int32.ofNat n_ = 10) = False := (neN (a := n_) (b := 10) (by omega) (by decide)).trans (eq_false e3)
              obtain ⟨ν, p1, f1, v1, v2, v3⟩ := comesM (r := r) hq3 (n := n_) (by omega) k2_ g1_
              have s87 : ν.1 87 q = Int32.ofNat (n_ + 1) := by rw [v1, if_pos rfl]
              refine ⟨Int32.ofNat (n_ + 1), μ1, upI ν 89 (10 * q + K_) (Int32.ofInt z), ?_, ?_, fin (n_ + 1) _ (by omega) (by omega) (by rw [if_pos e1, if_neg e2]; omega) (FC.tr f1 (FC.u (by decide) (Or.inr (Or.inr rfl)))) ?_ (fun q' a1 a2 => ⟨?_, fun i hi => ⟨?_, ?_⟩⟩) ?_⟩
              · have sz' : μ1.1 (12 + 2 * q) 1 = Int32.ofNat (n_ + 1) := by rw [sz, if_pos e1, if_neg e2, En_]; rw [show (n_ : Int) - 0 + 1 = ((n_ + 1 : Nat) : Int) by omega]; rfl
                simp (decide := true) (implicitDefEqProofs := false) only [f_X11_entry, isChart_at, isReach_at, within_at, t, s, w', ar, hs, zq, e2, b_X11_entry_63, io, x2, hc10, y10, wr, sz', zO, zR, zA, zT, zu1, zu2, zu3, zu4, gI, gL, pI, pL, pZ, aI, aL, sI, sZ, sL, Option.bind_some, Option.map_some, if_true, if_false, ite_true, ite_false, true_and, and_true, false_and, and_false, or_true, true_or, or_false, false_or, and_self, not_true_eq_false, not_false_eq_true, ↓reduceIte, reduceIte, Nat.reduceAdd, Nat.reduceMul, Nat.reduceSub, Nat.reduceMod, Nat.reduceDiv, Nat.reduceEqDiff, Nat.reduceLT, Nat.reduceLeDiff, Int32.reduceAdd, Int32.reduceSub, Int32.reduceMul, Int32.reduceDiv, Int32.reduceMod, Int32.reduceOfNat, Int32.reduceOfInt, Int32.reduceLT, Int32.reduceLE, Int32.reduceToNatClampNeg, Int32.reduceToInt]
              · simp (decide := true) (implicitDefEqProofs := false) only [f_X12_entry, isChart_at, isReach_at, in_at, t, s, w', k1_, it_, zp, zn, q1, q2, g1_, nne, p1, b_X12_entry_101, i10, zin (10 * q + K_) 30 (by omega) (by decide), ztn (10 * q + K_) (by omega), s87, zO, zR, zA, zT, zu1, zu2, zu3, zu4, gI, gL, pI, pL, pZ, aI, aL, sI, sZ, sL, Option.bind_some, Option.map_some, if_true, if_false, ite_true, ite_false, true_and, and_true, false_and, and_false, or_true, true_or, or_false, false_or, and_self, not_true_eq_false, not_false_eq_true, ↓reduceIte, reduceIte, Nat.reduceAdd, Nat.reduceMul, Nat.reduceSub, Nat.reduceMod, Nat.reduceDiv, Nat.reduceEqDiff, Nat.reduceLT, Nat.reduceLeDiff, Int32.reduceAdd, Int32.reduceSub, Int32.reduceMul, Int32.reduceDiv, Int32.reduceMod, Int32.reduceOfNat, Int32.reduceOfInt, Int32.reduceLT, Int32.reduceLE, Int32.reduceToNatClampNeg, Int32.reduceToInt]
              · rw [zu1, if_neg (by omega), s87]; rfl
              · rw [zu1, if_neg (by omega), v1, if_neg a2, k 87 (by decide)]
              · rw [zu1, if_neg (by omega), v2, if_neg (by omega), if_neg (by omega), k 88 (by decide)]
              · rw [zu1, if_neg (by omega), v3, if_neg (by omega), k 89 (by decide)]
              · rw [show ((n_ : Int) + 1).toNat = n_ + 1 by omega]
                refine Ch.co (A := fun i => μ1.1 88 (10 * q + i)) (H := fun i => μ1.1 89 (10 * q + i)) g2_ g3_ g4_ k2_ hr61 lo_ ge_ e1 e2 (fun j => chU_f hq3 j) (fun i hi => ?_) (fun i hi => ?_)
                · simp only [zu1]
                  rw [if_neg (by omega), v2]
                  by_cases y : i = K_
                  · rw [if_pos (by first | omega | exact ⟨trivial, by omega⟩ | exact ⟨trivial, trivial⟩), if_pos y]
                  · rw [if_neg (by omega), if_neg y]
                    by_cases y' : K_ < i
                    · rw [if_pos (by first | omega | exact ⟨trivial, by omega⟩ | exact ⟨trivial, trivial⟩), if_pos y', show 10 * q + i - 1 = 10 * q + (i - 1) by omega]
                    · rw [if_neg (by omega), if_neg y']
                · simp only [zu1]
                  by_cases y : i = K_
                  · rw [if_pos (by first | omega | exact ⟨trivial, by omega⟩ | exact ⟨trivial, trivial⟩), if_pos y]
                  · rw [if_neg (by omega), if_neg y, v3]
                    by_cases y' : K_ < i
                    · rw [if_pos (by first | omega | exact ⟨trivial, by omega⟩ | exact ⟨trivial, trivial⟩), if_pos y', show 10 * q + i - 1 = 10 * q + (i - 1) by omega]
                    · rw [if_neg (by omega), if_neg y']
        · rw [if_neg e1] at it hs it_
          obtain ⟨kn, kp⟩ := th_ e1
          by_cases e2 : z = -1
          · have zn : ¬ 0 ≤ z := by omega
            obtain ⟨ν, p1, f1, v1, v2, v3⟩ := goesM hq3 hn_ kn g1_
            have s87 : ν.1 87 q = Int32.ofNat (n_ - 1) := by rw [v1, if_pos rfl]
            refine ⟨Int32.ofNat (n_ - 1), μ1, ν, ?_, ?_, fin ((n_ - 1 : Nat) : Int) _ (by omega) (by omega) (by rw [if_neg e1, if_pos e2]; omega) f1 ?_ (fun q' a1 a2 => ⟨?_, fun i hi => ⟨?_, ?_⟩⟩) ?_⟩
            · have sz' : μ1.1 (12 + 2 * q) 1 = Int32.ofNat (n_ - 1) := by rw [sz, if_neg e1, if_pos e2, En_]; rw [show (n_ : Int) - 1 + 0 = ((n_ - 1 : Nat) : Int) by omega]; rfl
              have zt : (Int32.ofInt z = -1) = True := by rw [zq]; exact eq_true e2
              simp (decide := true) (implicitDefEqProofs := false) only [f_X11_entry, isChart_at, isReach_at, within_at, t, s, w', ar, hs, zt, b_X11_entry_63, io, x2, wr, sz', zO, zR, zA, zT, zu1, zu2, zu3, zu4, gI, gL, pI, pL, pZ, aI, aL, sI, sZ, sL, Option.bind_some, Option.map_some, if_true, if_false, ite_true, ite_false, true_and, and_true, false_and, and_false, or_true, true_or, or_false, false_or, and_self, not_true_eq_false, not_false_eq_true, ↓reduceIte, reduceIte, Nat.reduceAdd, Nat.reduceMul, Nat.reduceSub, Nat.reduceMod, Nat.reduceDiv, Nat.reduceEqDiff, Nat.reduceLT, Nat.reduceLeDiff, Int32.reduceAdd, Int32.reduceSub, Int32.reduceMul, Int32.reduceDiv, Int32.reduceMod, Int32.reduceOfNat, Int32.reduceOfInt, Int32.reduceLT, Int32.reduceLE, Int32.reduceToNatClampNeg, Int32.reduceToInt]
            · simp (decide := true) (implicitDefEqProofs := false) only [f_X12_entry, isChart_at, isReach_at, in_at, t, s, w', k1_, it_, zp, zn, q1, q2, p1, s87, zO, zR, zA, zT, zu1, zu2, zu3, zu4, gI, gL, pI, pL, pZ, aI, aL, sI, sZ, sL, Option.bind_some, Option.map_some, if_true, if_false, ite_true, ite_false, true_and, and_true, false_and, and_false, or_true, true_or, or_false, false_or, and_self, not_true_eq_false, not_false_eq_true, ↓reduceIte, reduceIte, Nat.reduceAdd, Nat.reduceMul, Nat.reduceSub, Nat.reduceMod, Nat.reduceDiv, Nat.reduceEqDiff, Nat.reduceLT, Nat.reduceLeDiff, Int32.reduceAdd, Int32.reduceSub, Int32.reduceMul, Int32.reduceDiv, Int32.reduceMod, Int32.reduceOfNat, Int32.reduceOfInt, Int32.reduceLT, Int32.reduceLE, Int32.reduceToNatClampNeg, Int32.reduceToInt]
            · exact s87
            · rw [v1, if_neg a2, k 87 (by decide)]
            · rw [v2, if_neg (by omega), k 88 (by decide)]
            · rw [v3, if_neg (by omega), k 89 (by decide)]
            · rw [Int.toNat_natCast]
              refine Ch.go (A := fun i => μ1.1 88 (10 * q + i)) (H := fun i => μ1.1 89 (10 * q + i)) g2_ g3_ g4_ kn kp (fun j => by rw [chU_f hq3 j, e2]) (fun i hi => ?_) (fun i hi => ?_)
              · show ν.1 88 (10 * q + i) = _
                rw [v2]
                by_cases y : K_ ≤ i
                · rw [if_pos (by first | omega | exact ⟨trivial, by omega⟩ | exact ⟨trivial, trivial⟩), if_pos y]; rfl
                · rw [if_neg (by omega), if_neg y]
              · show ν.1 89 (10 * q + i) = _
                rw [v3]
                by_cases y : K_ ≤ i
                · rw [if_pos (by first | omega | exact ⟨trivial, by omega⟩ | exact ⟨trivial, trivial⟩), if_pos y]; rfl
                · rw [if_neg (by omega), if_neg y]
          · have zn : 0 ≤ z := by omega
            refine ⟨Int32.ofNat n_, μ1, upI μ1 89 (10 * q + K_) (Int32.ofInt z), ?_, ?_, fin (n_ : Int) _ (by omega) (by omega) (by rw [if_neg e1, if_neg e2]; omega) (FC.u (by decide) (Or.inr (Or.inr rfl))) ?_ (fun q' a1 a2 => ⟨?_, fun i hi => ⟨?_, ?_⟩⟩) ?_⟩
            · have sz' : μ1.1 (12 + 2 * q) 1 = Int32.ofNat n_ := by rw [sz, if_neg e1, if_neg e2, En_]; rw [show (n_ : Int) - 1 + 1 = (n_ : Int) by omega]; rfl
              simp (decide := true) (implicitDefEqProofs := false) only [f_X11_entry, isChart_at, isReach_at, within_at, t, s, w', ar, hs, zq, e2, b_X11_entry_63, io, x2, wr, sz', zO, zR, zA, zT, zu1, zu2, zu3, zu4, gI, gL, pI, pL, pZ, aI, aL, sI, sZ, sL, Option.bind_some, Option.map_some, if_true, if_false, ite_true, ite_false, true_and, and_true, false_and, and_false, or_true, true_or, or_false, false_or, and_self, not_true_eq_false, not_false_eq_true, ↓reduceIte, reduceIte, Nat.reduceAdd, Nat.reduceMul, Nat.reduceSub, Nat.reduceMod, Nat.reduceDiv, Nat.reduceEqDiff, Nat.reduceLT, Nat.reduceLeDiff, Int32.reduceAdd, Int32.reduceSub, Int32.reduceMul, Int32.reduceDiv, Int32.reduceMod, Int32.reduceOfNat, Int32.reduceOfInt, Int32.reduceLT, Int32.reduceLE, Int32.reduceToNatClampNeg, Int32.reduceToInt]
            · simp (decide := true) (implicitDefEqProofs := false) only [f_X12_entry, isChart_at, isReach_at, in_at, t, s, w', k1_, it_, zp, zn, q1, q2, b_X12_entry_101, i10, zin (10 * q + K_) 30 (by omega) (by decide), ztn (10 * q + K_) (by omega), g1_, zO, zR, zA, zT, zu1, zu2, zu3, zu4, gI, gL, pI, pL, pZ, aI, aL, sI, sZ, sL, Option.bind_some, Option.map_some, if_true, if_false, ite_true, ite_false, true_and, and_true, false_and, and_false, or_true, true_or, or_false, false_or, and_self, not_true_eq_false, not_false_eq_true, ↓reduceIte, reduceIte, Nat.reduceAdd, Nat.reduceMul, Nat.reduceSub, Nat.reduceMod, Nat.reduceDiv, Nat.reduceEqDiff, Nat.reduceLT, Nat.reduceLeDiff, Int32.reduceAdd, Int32.reduceSub, Int32.reduceMul, Int32.reduceDiv, Int32.reduceMod, Int32.reduceOfNat, Int32.reduceOfInt, Int32.reduceLT, Int32.reduceLE, Int32.reduceToNatClampNeg, Int32.reduceToInt]
            · rw [zu1, if_neg (by omega), g1_]; rfl
            · rw [zu1, if_neg (by omega), k 87 (by decide)]
            · rw [zu1, if_neg (by omega), k 88 (by decide)]
            · rw [zu1, if_neg (by omega), k 89 (by decide)]
            · rw [Int.toNat_natCast]
              refine Ch.st (A := fun i => μ1.1 88 (10 * q + i)) (H := fun i => μ1.1 89 (10 * q + i)) g2_ g3_ g4_ kn kp e2 (fun j => chU_f hq3 j) (fun i hi => ?_) (fun i hi => ?_)
              · show (upI μ1 89 (10 * q + K_) (Int32.ofInt z)).1 88 (10 * q + i) = _
                rw [zu1, if_neg (by omega)]
              · show (upI μ1 89 (10 * q + K_) (Int32.ofInt z)).1 89 (10 * q + i) = _
                rw [zu1]
                by_cases y : i = K_
                · rw [if_pos (by first | omega | exact ⟨trivial, by omega⟩ | exact ⟨trivial, trivial⟩), if_pos y]
                · rw [if_neg (by omega), if_neg y]

