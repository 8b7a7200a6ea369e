theorem sb1 (a : Nat) (h : 1 ≤ a) : Int32.ofNat a - 1 = Int32.ofNat (a - 1) := by
  rw [show (1 : Int32) = Int32.ofNat 1 from rfl, ← Int32.ofNat_sub a 1 h]
theorem am1 (a : Nat) (h : 1 ≤ a) : Int32.ofNat a + (-1) = Int32.ofNat (a - 1) := by
  rw [← Int32.sub_eq_add_neg]; exact sb1 a h
def e8 (q : Nat) : Prop := q = 88 ∨ q = 89
theorem goesL {q n : Nat} (hq : q < 3) (hn : n ≤ 10) : ∀ m k, k + m = n - 1 → ∀ u μ, μ.1 87 q = Int32.ofNat (n - 1) → ∃ ν, lpN (l_X12_goes_17 SX 81 (Int32.ofNat q)) (u + m + 1) (Int32.ofNat (10 * q + k), μ) = some ((), ν) ∧ FC e8 μ ν ∧ (∀ x, ν.1 88 x = if 10 * q + k ≤ x ∧ x < 10 * q + (n - 1) then μ.1 88 (x + 1) else μ.1 88 x) ∧ (∀ x, ν.1 89 x = if 10 * q + k ≤ x ∧ x < 10 * q + (n - 1) then μ.1 89 (x + 1) else μ.1 89 x) := by
  have q1 := zin q 3 hq (by decide)
  have q2 := ztn q (by omega)
  intro m
  induction m with
  | zero =>
    intro k hk u μ h
    have e : k = n - 1 := by omega
    subst e
    refine ⟨μ, ?_, FM.rf, fun x => by rw [if_neg (by omega)], fun x => by rw [if_neg (by omega)]⟩
    rw [zlp]
    simp (decide := true) (implicitDefEqProofs := false) only [l_X12_goes_17, q1, q2, h, i10, leT, zO, zR, zA, zT, zu1, zu2, zu3, zu4, gI, gL, pI, pL, pZ, aI, aL, sI, sZ, sL, Option.bind_some, Option.map_some, if_true, if_false, ite_true, ite_false, true_and, and_true, false_and, and_false, or_true, true_or, or_false, false_or, and_self, not_true_eq_false, not_false_eq_true, ↓reduceIte, reduceIte, Nat.reduceAdd, Nat.reduceMul, Nat.reduceSub, Nat.reduceMod, Nat.reduceDiv, Nat.reduceEqDiff, Nat.reduceLT, Nat.reduceLeDiff, Int32.reduceAdd, Int32.reduceSub, Int32.reduceMul, Int32.reduceDiv, Int32.reduceMod, Int32.reduceOfNat, Int32.reduceOfInt, Int32.reduceLT, Int32.reduceLE, Int32.reduceToNatClampNeg, Int32.reduceToInt]
  | succ m ih =>
    intro k hk u μ h
    have lf := leF (n := 10 * q + (n - 1)) (i := 10 * q + k) (by omega) (by omega)
    obtain ⟨ν, p, f, g1, g2⟩ := ih (k + 1) (by omega) u (upI (upI μ 88 (10 * q + k) (μ.1 88 (10 * q + k + 1))) 89 (10 * q + k) (μ.1 89 (10 * q + k + 1))) (by simp (decide := true) (implicitDefEqProofs := false) only [h, zO, zR, zA, zT, zu1, zu2, zu3, zu4, gI, gL, pI, pL, pZ, aI, aL, sI, sZ, sL, Option.bind_some, Option.map_some, if_true, if_false, ite_true, ite_false, true_and, and_true, false_and, and_false, or_true, true_or, or_false, false_or, and_self, not_true_eq_false, not_false_eq_true, ↓reduceIte, reduceIte, Nat.reduceAdd, Nat.reduceMul, Nat.reduceSub, Nat.reduceMod, Nat.reduceDiv, Nat.reduceEqDiff, Nat.reduceLT, Nat.reduceLeDiff, Int32.reduceAdd, Int32.reduceSub, Int32.reduceMul, Int32.reduceDiv, Int32.reduceMod, Int32.reduceOfNat, Int32.reduceOfInt, Int32.reduceLT, Int32.reduceLE, Int32.reduceToNatClampNeg, Int32.reduceToInt])
    refine ⟨ν, ?_, FC.tr (FC.tr (FC.u (by decide) (Or.inl rfl)) (FC.u (by decide) (Or.inr rfl))) f, fun x => ?_, fun x => ?_⟩
    · rw [zlp]
      simp (decide := true) (implicitDefEqProofs := false) only [l_X12_goes_17, q1, q2, h, i10, lf, ofN1, zin (10 * q + k) 30 (by omega) (by decide), ztn (10 * q + k) (by omega), zin (10 * q + k + 1) 30 (by omega) (by decide), ztn (10 * q + k + 1) (by omega), zO, zR, zA, zT, zu1, zu2, zu3, zu4, gI, gL, pI, pL, pZ, aI, aL, sI, sZ, sL, Option.bind_some, Option.map_some, if_true, if_false, ite_true, ite_false, true_and, and_true, false_and, and_false, or_true, true_or, or_false, false_or, and_self, not_true_eq_false, not_false_eq_true, ↓reduceIte, reduceIte, Nat.reduceAdd, Nat.reduceMul, Nat.reduceSub, Nat.reduceMod, Nat.reduceDiv, Nat.reduceEqDiff, Nat.reduceLT, Nat.reduceLeDiff, Int32.reduceAdd, Int32.reduceSub, Int32.reduceMul, Int32.reduceDiv, Int32.reduceMod, Int32.reduceOfNat, Int32.reduceOfInt, Int32.reduceLT, Int32.reduceLE, Int32.reduceToNatClampNeg, Int32.reduceToInt]
      exact p
    · rw [g1]
      simp only [zu1]
      by_cases t : x = 10 * q + k
      · rw [if_neg (by omega), if_neg (by omega), if_pos (by first | omega | exact ⟨trivial, by omega⟩ | exact ⟨trivial, trivial⟩), if_pos (by first | omega | exact ⟨trivial, by omega⟩ | exact ⟨trivial, trivial⟩), t]
      · by_cases s : 10 * q + (k + 1) ≤ x ∧ x < 10 * q + (n - 1)
        · rw [if_pos s, if_neg (by omega), if_neg (by omega), if_pos (by first | omega | exact ⟨trivial, by omega⟩ | exact ⟨trivial, trivial⟩)]
        · rw [if_neg s, if_neg (by omega), if_neg (by omega), if_neg (by omega)]
    · rw [g2]
      simp only [zu1]
      by_cases t : x = 10 * q + k
      · rw [if_neg (by omega), if_pos (by first | omega | exact ⟨trivial, by omega⟩ | exact ⟨trivial, trivial⟩), if_pos (by first | omega | exact ⟨trivial, by omega⟩ | exact ⟨trivial, trivial⟩), t]
      · by_cases s : 10 * q + (k + 1) ≤ x ∧ x < 10 * q + (n - 1)
        · rw [if_pos s, if_neg (by omega), if_neg (by omega), if_pos (by first | omega | exact ⟨trivial, by omega⟩ | exact ⟨trivial, trivial⟩)]
        · rw [if_neg s, if_neg (by omega), if_neg (by omega), if_neg (by omega)]
theorem goesM {q n K : Nat} (hq : q < 3) (hn : n ≤ 10) (hK : K < n) {μ : Mem} (h : μ.1 87 q = Int32.ofNat n) : ∃ ν, f_X12_goes SX 81 (Int32.ofNat q) (Int32.ofNat K) μ = some ((), ν) ∧ FC enP μ ν ∧ (∀ x, ν.1 87 x = if x = q then Int32.ofNat (n - 1) else μ.1 87 x) ∧ (∀ x, ν.1 88 x = if 10 * q + K ≤ x ∧ x < 10 * q + (n - 1) then μ.1 88 (x + 1) else μ.1 88 x) ∧ (∀ x, ν.1 89 x = if 10 * q + K ≤ x ∧ x < 10 * q + (n - 1) then μ.1 89 (x + 1) else μ.1 89 x) := by
  have q1 := zin q 3 hq (by decide)
  have q2 := ztn q (by omega)
  obtain ⟨ν, p, f, g1, g2⟩ := goesL hq hn (n - 1 - K) K (by omega) (4999 - (n - 1 - K)) (upI μ 87 q (Int32.ofNat (n - 1))) (by rw [zu1, if_pos (by first | exact ⟨rfl, rfl⟩ | exact ⟨trivial, rfl⟩)])
  rw [show 4999 - (n - 1 - K) + (n - 1 - K) + 1 = fu by show _ = 5000; omega] at p
  refine ⟨ν, ?_, FC.tr (FC.u (by decide) (Or.inl rfl)) (f.mo (fun k q => by unfold e8 at q; unfold enP; omega) (fun k q => q)), fun x => ?_, fun x => ?_, fun x => ?_⟩
  · simp (decide := true) (implicitDefEqProofs := false) only [f_X12_goes, q1, q2, h, i10, sb1 n (by omega), p, zO, zR, zA, zT, zu1, zu2, zu3, zu4, gI, gL, pI, pL, pZ, aI, aL, sI, sZ, sL, Option.bind_some, Option.map_some, if_true, if_false, ite_true, ite_false, true_and, and_true, false_and, and_false, or_true, true_or, or_false, false_or, and_self, not_true_eq_false, not_false_eq_true, ↓reduceIte, reduceIte, Nat.reduceAdd, Nat.reduceMul, Nat.reduceSub, Nat.reduceMod, Nat.reduceDiv, Nat.reduceEqDiff, Nat.reduceLT, Nat.reduceLeDiff, Int32.reduceAdd, Int32.reduceSub, Int32.reduceMul, Int32.reduceDiv, Int32.reduceMod, Int32.reduceOfNat, Int32.reduceOfInt, Int32.reduceLT, Int32.reduceLE, Int32.reduceToNatClampNeg, Int32.reduceToInt]
  · rw [f.e 87 (by decide) (by unfold e8; omega), zu1]
    by_cases e : x = q
    · rw [if_pos (by first | exact ⟨rfl, e⟩ | exact ⟨trivial, e⟩), if_pos e]
    · rw [if_neg (fun g => e g.2), if_neg e]
  · have e : (upI μ 87 q (Int32.ofNat (n - 1))).1 88 = μ.1 88 := by funext x; rw [zu1, if_neg (by omega)]
    rw [g1, e]
  · have e : (upI μ 87 q (Int32.ofNat (n - 1))).1 89 = μ.1 89 := by funext x; rw [zu1, if_neg (by omega)]
    rw [g2, e]
theorem comesL {q n K r : Nat} (hq : q < 3) (hn : n < 10) : ∀ m k, k = K + m → k ≤ n → ∀ u μ, ∃ ν, lpN (l_X12_comes_13 SX 81 (Int32.ofNat q) (Int32.ofNat K) (Int32.ofNat r)) (u + m + 1) (Int32.ofNat (10 * q + k), μ) = b_X12_comes_62 SX 81 (Int32.ofNat q) (Int32.ofNat K) (Int32.ofNat r) ν ∧ FC e8 μ ν ∧ (∀ x, ν.1 88 x = if 10 * q + K < x ∧ x ≤ 10 * q + k then μ.1 88 (x - 1) else μ.1 88 x) ∧ (∀ x, ν.1 89 x = if 10 * q + K < x ∧ x ≤ 10 * q + k then μ.1 89 (x - 1) else μ.1 89 x) := by
  intro m
  induction m with
  | zero =>
    intro k hk hn u μ
    have e : k = K := by omega
    subst e
    refine ⟨μ, ?_, FM.rf, fun x => by rw [if_neg (by omega)], fun x => by rw [if_neg (by omega)]⟩
    rw [zlp]
    simp (decide := true) (implicitDefEqProofs := false) only [l_X12_comes_13, i10, leT, zO, zR, zA, zT, zu1, zu2, zu3, zu4, gI, gL, pI, pL, pZ, aI, aL, sI, sZ, sL, Option.bind_some, Option.map_some, if_true, if_false, ite_true, ite_false, true_and, and_true, false_and, and_false, or_true, true_or, or_false, false_or, and_self, not_true_eq_false, not_false_eq_true, ↓reduceIte, reduceIte, Nat.reduceAdd, Nat.reduceMul, Nat.reduceSub, Nat.reduceMod, Nat.reduceDiv, Nat.reduceEqDiff, Nat.reduceLT, Nat.reduceLeDiff, Int32.reduceAdd, Int32.reduceSub, Int32.reduceMul, Int32.reduceDiv, Int32.reduceMod, Int32.reduceOfNat, Int32.reduceOfInt, Int32.reduceLT, Int32.reduceLE, Int32.reduceToNatClampNeg, Int32.reduceToInt]
  | succ m ih =>
    intro k hk hn u μ
    have lf := leF (n := 10 * q + k) (i := 10 * q + K) (by omega) (by omega)
    obtain ⟨ν, p, f, g1, g2⟩ := ih (k - 1) (by omega) (by omega) u (upI (upI μ 88 (10 * q + k) (μ.1 88 (10 * q + k - 1))) 89 (10 * q + k) (μ.1 89 (10 * q + k - 1)))
    refine ⟨ν, ?_, FC.tr (FC.tr (FC.u (by decide) (Or.inl rfl)) (FC.u (by decide) (Or.inr rfl))) f, fun x => ?_, fun x => ?_⟩
    · rw [zlp]
      simp (decide := true) (implicitDefEqProofs := false) only [l_X12_comes_13, i10, lf, sb1 (10 * q + k) (by omega), am1 (10 * q + k) (by omega), zin (10 * q + k) 30 (by omega) (by decide), ztn (10 * q + k) (by omega), zin (10 * q + k - 1) 30 (by omega) (by decide), ztn (10 * q + k - 1) (by omega), zO, zR, zA, zT, zu1, zu2, zu3, zu4, gI, gL, pI, pL, pZ, aI, aL, sI, sZ, sL, Option.bind_some, Option.map_some, if_true, if_false, ite_true, ite_false, true_and, and_true, false_and, and_false, or_true, true_or, or_false, false_or, and_self, not_true_eq_false, not_false_eq_true, ↓reduceIte, reduceIte, Nat.reduceAdd, Nat.reduceMul, Nat.reduceSub, Nat.reduceMod, Nat.reduceDiv, Nat.reduceEqDiff, Nat.reduceLT, Nat.reduceLeDiff, Int32.reduceAdd, Int32.reduceSub, Int32.reduceMul, Int32.reduceDiv, Int32.reduceMod, Int32.reduceOfNat, Int32.reduceOfInt, Int32.reduceLT, Int32.reduceLE, Int32.reduceToNatClampNeg, Int32.reduceToInt]
      rw [show 10 * q + k - 1 = 10 * q + (k - 1) by omega]
      rw [show 10 * q + k - 1 = 10 * q + (k - 1) by omega] at p
      exact p
    · rw [g1]
      simp only [zu1]
      by_cases t : x = 10 * q + k
      · rw [if_neg (by omega), if_neg (by omega), if_pos (by first | omega | exact ⟨trivial, by omega⟩ | exact ⟨trivial, trivial⟩), if_pos (by first | omega | exact ⟨trivial, by omega⟩ | exact ⟨trivial, trivial⟩), t]
      · by_cases s : 10 * q + K < x ∧ x ≤ 10 * q + (k - 1)
        · rw [if_pos s, if_neg (by omega), if_neg (by omega), if_pos (by first | omega | exact ⟨trivial, by omega⟩ | exact ⟨trivial, trivial⟩)]
        · rw [if_neg s, if_neg (by omega), if_neg (by omega), if_neg (by omega)]
    · rw [g2]
      simp only [zu1]
      by_cases t : x = 10 * q + k
      · rw [if_neg (by omega), if_pos (by first | omega | exact ⟨trivial, by omega⟩ | exact ⟨trivial, trivial⟩), if_pos (by first | omega | exact ⟨trivial, by omega⟩ | exact ⟨trivial, trivial⟩), t]
      · by_cases s : 10 * q + K < x ∧ x ≤ 10 * q + (k - 1)
        · rw [if_pos s, if_neg (by omega), if_neg (by omega), if_pos (by first | omega | exact ⟨trivial, by omega⟩ | exact ⟨trivial, trivial⟩)]
        · rw [if_neg s, if_neg (by omega), if_neg (by omega), if_neg (by omega)]
theorem comesM {q n K r : Nat} (hq : q < 3) (hn : n < 10) (hK : K ≤ n) {μ : Mem} (h : μ.1 87 q = Int32.ofNat n) : ∃ ν, f_X12_comes SX 81 (Int32.ofNat q) (Int32.ofNat K) (Int32.ofNat r) μ = some ((), ν) ∧ FC enP μ ν ∧ (∀ x, ν.1 87 x = if x = q then Int32.ofNat (n + 1) else μ.1 87 x) ∧ (∀ x, ν.1 88 x = if x = 10 * q + K then Int32.ofNat r else if 10 * q + K < x ∧ x ≤ 10 * q + n then μ.1 88 (x - 1) else μ.1 88 x) ∧ (∀ x, ν.1 89 x = if 10 * q + K < x ∧ x ≤ 10 * q + n then μ.1 89 (x - 1) else μ.1 89 x) := by
  have q1 := zin q 3 hq (by decide)
  have q2 := ztn q (by omega)
  obtain ⟨ν, p, f, g1, g2⟩ := comesL (r := r) (K := K) hq hn (n - K) n (by omega) (by omega) (4999 - (n - K)) μ
  rw [show 4999 - (n - K) + (n - K) + 1 = fu by show _ = 5000; omega] at p
  have e87 := f.e 87 (by decide) (by unfold e8; omega)
  have h' : ν.1 87 q = Int32.ofNat n := by rw [e87]; exact h
  refine ⟨upI (upI ν 88 (10 * q + K) (Int32.ofNat r)) 87 q (Int32.ofNat (n + 1)), ?_, FC.tr (f.mo (fun k q => by unfold e8 at q; unfold enP; omega) (fun k q => q)) (FC.tr (FC.u (by decide) (Or.inr (Or.inl rfl))) (FC.u (by decide) (Or.inl rfl))), fun x => ?_, fun x => ?_, fun x => ?_⟩
  · simp (decide := true) (implicitDefEqProofs := false) only [f_X12_comes, q1, q2, h, i10, p, b_X12_comes_62, h', zin (10 * q + K) 30 (by omega) (by decide), ztn (10 * q + K) (by omega), ofN1, zO, zR, zA, zT, zu1, zu2, zu3, zu4, gI, gL, pI, pL, pZ, aI, aL, sI, sZ, sL, Option.bind_some, Option.map_some, if_true, if_false, ite_true, ite_false, true_and, and_true, false_and, and_false, or_true, true_or, or_false, false_or, and_self, not_true_eq_false, not_false_eq_true, ↓reduceIte, reduceIte, Nat.reduceAdd, Nat.reduceMul, Nat.reduceSub, Nat.reduceMod, Nat.reduceDiv, Nat.reduceEqDiff, Nat.reduceLT, Nat.reduceLeDiff, Int32.reduceAdd, Int32.reduceSub, Int32.reduceMul, Int32.reduceDiv, Int32.reduceMod, Int32.reduceOfNat, Int32.reduceOfInt, Int32.reduceLT, Int32.reduceLE, Int32.reduceToNatClampNeg, Int32.reduceToInt]
  · simp only [zu1]
    by_cases e : x = q
    · rw [if_pos (by first | exact ⟨rfl, e⟩ | exact ⟨trivial, e⟩), if_pos e]
    · rw [if_neg (fun g => e g.2), if_neg (by omega), if_neg e, e87]
  · simp only [zu1]
    rw [if_neg (by omega)]
    by_cases e : x = 10 * q + K
    · rw [if_pos (by first | exact ⟨rfl, e⟩ | exact ⟨trivial, e⟩), if_pos e]
    · rw [if_neg (fun g => e g.2), if_neg e, g1]
  · simp only [zu1]
    rw [if_neg (by omega), if_neg (by omega), g2]
theorem entA {c : Nat → Nat → Int} {μ : Mem} (h : MM c μ) (b : BC c) {q r : Nat} (hq : q < 3) (hr : r < 61) : ∃ (n K : Nat) (p : Nat → Nat), n ≤ 10 ∧ c 12 q = (n : Int) ∧ μ.1 87 q = Int32.ofNat n ∧ K ≤ n ∧ f_X12_placeOf SX 81 (Int32.ofNat q) (Int32.ofNat r) μ = some (Int32.ofNat K, μ) ∧ (∀ i, i < n → p i < 61 ∧ μ.1 88 (10 * q + i) = Int32.ofNat (p i) ∧ μ.1 89 (10 * q + i) = Int32.ofInt (c (9 + q) (p i)) ∧ c (9 + q) (p i) ≠ -1) ∧ (∀ i j, i < j → j < n → p i < p j) ∧ (∀ s, s < 61 → c (9 + q) s ≠ -1 → ∃ i, i < n ∧ p i = s) ∧ (∀ i, i < K → p i < r) ∧ (∀ i, K ≤ i → i < n → r ≤ p i) ∧ f_X12_isThere SX 81 (Int32.ofNat q) (Int32.ofNat K) (Int32.ofNat r) μ = some (if c (9 + q) r = -1 then 0 else 1, μ) ∧ (c (9 + q) r ≠ -1 → K < n ∧ p K = r) := by
  have q1 := zin q 3 hq (by decide)
  have q2 := ztn q (by omega)
  obtain ⟨g1, p, g2, g3, g4⟩ := h.2.2.1 q hq
  have bq := (b.2.2.2.2.1 q hq).1
  obtain ⟨n, En⟩ : ∃ n : Nat, n = (c 12 q).toNat := ⟨_, rfl⟩
  have En' : c 12 q = (n : Int) := by omega
  have g1' : μ.1 87 q = Int32.ofNat n := by rw [g1, En']; rfl
  rw [← En] at g2 g3 g4
  obtain ⟨K, k1, k2, k3, k4⟩ := placeOf_at (p := p) hq (by omega) g1' (fun i hi => ⟨(g2 i hi).1, (g2 i hi).2.1⟩) hr
  have ge : ∀ i, K ≤ i → i < n → r ≤ p i := fun i h1 h2 => by
    by_cases e : i = K
    · rw [e]; exact k4 (by omega)
    · have := g3 K i (by omega) h2
      have := k4 (by omega)
      omega
  have th : c (9 + q) r ≠ -1 → K < n ∧ p K = r := fun w => by
    obtain ⟨i, hi, e⟩ := g4 r hr w
    have hKi : K ≤ i := by
      by_cases t : i < K
      · have := k3 i t; omega
      · omega
    refine ⟨by omega, ?_⟩
    have a := k4 (by omega)
    by_cases t : i = K
    · rw [← t]; exact e
    · have := g3 K i (by omega) hi
      omega
  refine ⟨n, K, p, by omega, En', g1', k2, k1, g2, g3, g4, k3, ge, ?_, th⟩
  by_cases t : K < n
  · have lf := leF (n := n) (i := K) t (by omega)
    obtain ⟨c1, c2, c3, c4⟩ := g2 K t
    have nn : (Int32.ofNat (p K) = Int32.ofNat r) = (p K = r) := neN (by omega) (by omega)
    by_cases w : c (9 + q) r = -1
    · have ne : ¬ p K = r := fun e => by rw [e] at c4; exact c4 w
      rw [if_pos w]
      simp (decide := true) (implicitDefEqProofs := false) only [f_X12_isThere, q1, q2, g1', lf, i10, zin (10 * q + K) 30 (by omega) (by decide), ztn (10 * q + K) (by omega), c2, nn, ne, zO, zR, zA, zT, zu1, zu2, zu3, zu4, gI, gL, pI, pL, pZ, aI, aL, sI, sZ, sL, Option.bind_some, Option.map_some, if_true, if_false, ite_true, ite_false, true_and, and_true, false_and, and_false, or_true, true_or, or_false, false_or, and_self, not_true_eq_false, not_false_eq_true, ↓reduceIte, reduceIte, Nat.reduceAdd, Nat.reduceMul, Nat.reduceSub, Nat.reduceMod, Nat.reduceDiv, Nat.reduceEqDiff, Nat.reduceLT, Nat.reduceLeDiff, Int32.reduceAdd, Int32.reduceSub, Int32.reduceMul, Int32.reduceDiv, Int32.reduceMod, Int32.reduceOfNat, Int32.reduceOfInt, Int32.reduceLT, Int32.reduceLE, Int32.reduceToNatClampNeg, Int32.reduceToInt]
    · have ee := (th w).2
      rw [if_neg w]
      simp (decide := true) (implicitDefEqProofs := false) only [f_X12_isThere, q1, q2, g1', lf, i10, zin (10 * q + K) 30 (by omega) (by decide), ztn (10 * q + K) (by omega), c2, nn, ee, zO, zR, zA, zT, zu1, zu2, zu3, zu4, gI, gL, pI, pL, pZ, aI, aL, sI, sZ, sL, Option.bind_some, Option.map_some, if_true, if_false, ite_true, ite_false, true_and, and_true, false_and, and_false, or_true, true_or, or_false, false_or, and_self, not_true_eq_false, not_false_eq_true, ↓reduceIte, reduceIte, Nat.reduceAdd, Nat.reduceMul, Nat.reduceSub, Nat.reduceMod, Nat.reduceDiv, Nat.reduceEqDiff, Nat.reduceLT, Nat.reduceLeDiff, Int32.reduceAdd, Int32.reduceSub, Int32.reduceMul, Int32.reduceDiv, Int32.reduceMod, Int32.reduceOfNat, Int32.reduceOfInt, Int32.reduceLT, Int32.reduceLE, Int32.reduceToNatClampNeg, Int32.reduceToInt]
  · have e : K = n := by omega
    have w : c (9 + q) r = -1 := by
      by_cases w : c (9 + q) r = -1
      · exact w
      · have := (th w).1; omega
    rw [if_pos w, e]
    simp (decide := true) (implicitDefEqProofs := false) only [f_X12_isThere, q1, q2, g1', leT, zO, zR, zA, zT, zu1, zu2, zu3, zu4, gI, gL, pI, pL, pZ, aI, aL, sI, sZ, sL, Option.bind_some, Option.map_some, if_true, if_false, ite_true, ite_false, true_and, and_true, false_and, and_false, or_true, true_or, or_false, false_or, and_self, not_true_eq_false, not_false_eq_true, ↓reduceIte, reduceIte, Nat.reduceAdd, Nat.reduceMul, Nat.reduceSub, Nat.reduceMod, Nat.reduceDiv, Nat.reduceEqDiff, Nat.reduceLT, Nat.reduceLeDiff, Int32.reduceAdd, Int32.reduceSub, Int32.reduceMul, Int32.reduceDiv, Int32.reduceMod, Int32.reduceOfNat, Int32.reduceOfInt, Int32.reduceLT, Int32.reduceLE, Int32.reduceToNatClampNeg, Int32.reduceToInt]

