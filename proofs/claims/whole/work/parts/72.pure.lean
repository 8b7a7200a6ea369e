/-- the place of the greatest so far, of several the first; -5: none yet -/
def hvF (f : Nat → Nat) : Nat → Int
  | 0 => -5
  | n + 1 => if hvF f n = -5 then (n : Int) else if f n ≤ f (hvF f n).toNat then hvF f n else (n : Int)
theorem hvF_r (f : Nat → Nat) : ∀ n, hvF f n = -5 ∨ ∃ j : Nat, j < n ∧ hvF f n = (j : Int)
  | 0 => Or.inl rfl
  | n + 1 => by
    right
    show ∃ j : Nat, j < n + 1 ∧ (if hvF f n = -5 then (n : Int) else if f n ≤ f (hvF f n).toNat then hvF f n else (n : Int)) = (j : Int)
    rcases hvF_r f n with e | ⟨j, hj, e⟩
    · rw [if_pos e]; exact ⟨n, by omega, rfl⟩
    · rw [if_neg (by omega)]
      by_cases t : f n ≤ f (hvF f n).toNat
      · rw [if_pos t]; exact ⟨j, by omega, e⟩
      · rw [if_neg t]; exact ⟨n, by omega, rfl⟩
theorem hvF_s1 {f : Nat → Nat} {n : Nat} (h : hvF f n = -5) : hvF f (n + 1) = (n : Int) := by
  show (if _ then _ else _) = _
  rw [if_pos h]
theorem hvF_s2 {f : Nat → Nat} {n j : Nat} (h : hvF f n = (j : Int)) (g : f n ≤ f j) : hvF f (n + 1) = (j : Int) := by
  show (if _ then _ else _) = _
  rw [if_neg (by omega), h, if_pos (by simpa using g)]
theorem hvF_s3 {f : Nat → Nat} {n j : Nat} (h : hvF f n = (j : Int)) (g : ¬ f n ≤ f j) : hvF f (n + 1) = (n : Int) := by
  show (if _ then _ else _) = _
  rw [if_neg (by omega), h, if_neg (by simpa using g)]
def grF (f : Nat → Nat) (n : Nat) : Int := if hvF f n = -5 then -1 else (f (hvF f n).toNat : Int)
theorem BK.f2 {μ : Mem} (h : BK μ) : ∃ (n : Nat) (f : Nat → Nat), n ≤ 8 ∧ μ.1 70 3 = Int32.ofNat n ∧ μ.1 81 39 = Int32.ofNat n ∧ ∀ i, i < n → f i ≤ 600000 ∧ μ.1 71 i * μ.1 73 i = Int32.ofNat (f i) ∧ μ.1 107 (3 * i) * μ.1 107 (3 * i + 2) = Int32.ofNat (f i) := by
  obtain ⟨n, hn, t1, t2, t3⟩ := h
  refine ⟨n, fun i => (μ.1 71 i * μ.1 73 i).toNatClampNeg, hn, t1, t2, fun i hi => ?_⟩
  obtain ⟨l, d, r, b1, b2, b3, w1, w2, w3, w4, w5, w6⟩ := t3 i hi
  have e : Int32.ofNat l * Int32.ofNat r = Int32.ofNat (l * r) := (Int32.ofNat_mul l r).symm
  have m : l * r ≤ 9999 * 60 := Nat.mul_le_mul b1 b3
  simp only [w1, w3, w4, w6, e]
  rw [ztn (l * r) (by omega)]
  exact ⟨by omega, rfl, rfl⟩
theorem heavX {n : Nat} (hn : n ≤ 8) {f : Nat → Nat} {μ : Mem} (t : μ.1 70 3 = Int32.ofNat n) (hf : ∀ i, i < n → f i ≤ 600000 ∧ μ.1 71 i * μ.1 73 i = Int32.ofNat (f i)) : ∀ m i, i + m = n → ∀ u, lpN (l_X0_withMost_7 SX 70) (u + m + 1) (Int32.ofInt (hvF f i), Int32.ofInt (grF f i), Int32.ofNat i, μ) = some (Int32.ofInt (hvF f n), μ) := by
  intro m
  induction m with
  | zero =>
    intro i hi u
    have e : i = n := by omega
    subst e
    rw [zlp]
    simp (decide := true) (implicitDefEqProofs := false) only [l_X0_withMost_7, t, leT, zO, zR, zA, zT, zu1, zu2, zu3, zu4, gI, gL, pI, pL, pZ, aI, aL, sI, sZ, sL, Option.bind_some, Option.map_some, if_true, if_false, ite_true, ite_false, true_and, and_true, false_and, and_false, or_true, true_or, or_false, false_or, and_self, not_true_eq_false, not_false_eq_true, ↓reduceIte, reduceIte, Nat.reduceAdd, Nat.reduceMul, Nat.reduceSub, Nat.reduceMod, Nat.reduceDiv, Nat.reduceEqDiff, Nat.reduceLT, Nat.reduceLeDiff, Int32.reduceAdd, Int32.reduceSub, Int32.reduceMul, Int32.reduceDiv, Int32.reduceMod, Int32.reduceOfNat, Int32.reduceOfInt, Int32.reduceLT, Int32.reduceLE, Int32.reduceToNatClampNeg, Int32.reduceToInt]
  | succ m ih =>
    intro i hi u
    have p := ih (i + 1) (by omega) u
    obtain ⟨f1, f2⟩ := hf i (by omega)
    have lf := leF (n := n) (i := i) (by omega) (by omega)
    rw [zlp]
    rcases hvF_r f i with e | ⟨j, hj, e⟩
    · have g : grF f i = -1 := by unfold grF; rw [if_pos e]
      have cm : (Int32.ofNat (f i) ≤ Int32.ofInt (grF f i)) = False := eq_false (fun q => by
        have := (yle32 (f i : Nat) (grF f i) (by omega) (by omega) (by omega) (by omega)).mp q
        omega)
      have s1 := hvF_s1 e
      have s2 : grF f (i + 1) = (f i : Nat) := by unfold grF; rw [s1, if_neg (by omega)]; rfl
      rw [s1, s2] at p
      simp (decide := true) (implicitDefEqProofs := false) only [l_X0_withMost_7, t, lf, zin i 8 (by omega) (by decide), ztn i (by omega), f2, cm, ofN1 i, zO, zR, zA, zT, zu1, zu2, zu3, zu4, gI, gL, pI, pL, pZ, aI, aL, sI, sZ, sL, Option.bind_some, Option.map_some, if_true, if_false, ite_true, ite_false, true_and, and_true, false_and, and_false, or_true, true_or, or_false, false_or, and_self, not_true_eq_false, not_false_eq_true, ↓reduceIte, reduceIte, Nat.reduceAdd, Nat.reduceMul, Nat.reduceSub, Nat.reduceMod, Nat.reduceDiv, Nat.reduceEqDiff, Nat.reduceLT, Nat.reduceLeDiff, Int32.reduceAdd, Int32.reduceSub, Int32.reduceMul, Int32.reduceDiv, Int32.reduceMod, Int32.reduceOfNat, Int32.reduceOfInt, Int32.reduceLT, Int32.reduceLE, Int32.reduceToNatClampNeg, Int32.reduceToInt]
      exact p
    · obtain ⟨fj, -⟩ := hf j (by omega)
      have g : grF f i = (f j : Nat) := by unfold grF; rw [if_neg (by omega), e]; rfl
      have cm : (Int32.ofNat (f i) ≤ Int32.ofInt (grF f i)) = (f i ≤ f j) := by
        rw [g]; exact leN (by omega) (by omega)
      by_cases q : f i ≤ f j
      · have s1 := hvF_s2 e q
        have s2 : grF f (i + 1) = grF f i := by unfold grF; rw [s1, e]
        rw [s1, s2, ← e] at p
        simp (decide := true) (implicitDefEqProofs := false) only [l_X0_withMost_7, t, lf, zin i 8 (by omega) (by decide), ztn i (by omega), f2, cm, q, ofN1 i, zO, zR, zA, zT, zu1, zu2, zu3, zu4, gI, gL, pI, pL, pZ, aI, aL, sI, sZ, sL, Option.bind_some, Option.map_some, if_true, if_false, ite_true, ite_false, true_and, and_true, false_and, and_false, or_true, true_or, or_false, false_or, and_self, not_true_eq_false, not_false_eq_true, ↓reduceIte, reduceIte, Nat.reduceAdd, Nat.reduceMul, Nat.reduceSub, Nat.reduceMod, Nat.reduceDiv, Nat.reduceEqDiff, Nat.reduceLT, Nat.reduceLeDiff, Int32.reduceAdd, Int32.reduceSub, Int32.reduceMul, Int32.reduceDiv, Int32.reduceMod, Int32.reduceOfNat, Int32.reduceOfInt, Int32.reduceLT, Int32.reduceLE, Int32.reduceToNatClampNeg, Int32.reduceToInt]
        exact p
      · have s1 := hvF_s3 e q
        have s2 : grF f (i + 1) = (f i : Nat) := by unfold grF; rw [s1, if_neg (by omega)]; rfl
        rw [s1, s2] at p
        simp (decide := true) (implicitDefEqProofs := false) only [l_X0_withMost_7, t, lf, zin i 8 (by omega) (by decide), ztn i (by omega), f2, cm, q, ofN1 i, zO, zR, zA, zT, zu1, zu2, zu3, zu4, gI, gL, pI, pL, pZ, aI, aL, sI, sZ, sL, Option.bind_some, Option.map_some, if_true, if_false, ite_true, ite_false, true_and, and_true, false_and, and_false, or_true, true_or, or_false, false_or, and_self, not_true_eq_false, not_false_eq_true, ↓reduceIte, reduceIte, Nat.reduceAdd, Nat.reduceMul, Nat.reduceSub, Nat.reduceMod, Nat.reduceDiv, Nat.reduceEqDiff, Nat.reduceLT, Nat.reduceLeDiff, Int32.reduceAdd, Int32.reduceSub, Int32.reduceMul, Int32.reduceDiv, Int32.reduceMod, Int32.reduceOfNat, Int32.reduceOfInt, Int32.reduceLT, Int32.reduceLE, Int32.reduceToNatClampNeg, Int32.reduceToInt]
        exact p
theorem heavM {n : Nat} (hn : n ≤ 8) {f : Nat → Nat} {μ : Mem} (t : μ.1 81 39 = Int32.ofNat n) (hf : ∀ i, i < n → f i ≤ 600000 ∧ μ.1 107 (3 * i) * μ.1 107 (3 * i + 2) = Int32.ofNat (f i)) : ∀ m i, i + m = n → ∀ u, lpN (l_X12_heaviest_5 SX 81) (u + m + 1) (Int32.ofInt (hvF f i), Int32.ofNat i, μ) = some (Int32.ofInt (hvF f n), μ) := by
  intro m
  induction m with
  | zero =>
    intro i hi u
    have e : i = n := by omega
    subst e
    rw [zlp]
    simp (decide := true) (implicitDefEqProofs := false) only [l_X12_heaviest_5, t, leT, zO, zR, zA, zT, zu1, zu2, zu3, zu4, gI, gL, pI, pL, pZ, aI, aL, sI, sZ, sL, Option.bind_some, Option.map_some, if_true, if_false, ite_true, ite_false, true_and, and_true, false_and, and_false, or_true, true_or, or_false, false_or, and_self, not_true_eq_false, not_false_eq_true, ↓reduceIte, reduceIte, Nat.reduceAdd, Nat.reduceMul, Nat.reduceSub, Nat.reduceMod, Nat.reduceDiv, Nat.reduceEqDiff, Nat.reduceLT, Nat.reduceLeDiff, Int32.reduceAdd, Int32.reduceSub, Int32.reduceMul, Int32.reduceDiv, Int32.reduceMod, Int32.reduceOfNat, Int32.reduceOfInt, Int32.reduceLT, Int32.reduceLE, Int32.reduceToNatClampNeg, Int32.reduceToInt]
  | succ m ih =>
    intro i hi u
    have p := ih (i + 1) (by omega) u
    obtain ⟨f1, f2⟩ := hf i (by omega)
    have lf := leF (n := n) (i := i) (by omega) (by omega)
    rw [zlp]
    rcases hvF_r f i with e | ⟨j, hj, e⟩
    · have s1 := hvF_s1 e
      have e5 : Int32.ofInt (hvF f i) = -5 := by rw [e]; decide
      rw [s1] at p
      simp (decide := true) (implicitDefEqProofs := false) only [l_X12_heaviest_5, t, lf, e5, b_X12_heaviest_60, b_X12_heaviest_65, ofN1 i, zO, zR, zA, zT, zu1, zu2, zu3, zu4, gI, gL, pI, pL, pZ, aI, aL, sI, sZ, sL, Option.bind_some, Option.map_some, if_true, if_false, ite_true, ite_false, true_and, and_true, false_and, and_false, or_true, true_or, or_false, false_or, and_self, not_true_eq_false, not_false_eq_true, ↓reduceIte, reduceIte, Nat.reduceAdd, Nat.reduceMul, Nat.reduceSub, Nat.reduceMod, Nat.reduceDiv, Nat.reduceEqDiff, Nat.reduceLT, Nat.reduceLeDiff, Int32.reduceAdd, Int32.reduceSub, Int32.reduceMul, Int32.reduceDiv, Int32.reduceMod, Int32.reduceOfNat, Int32.reduceOfInt, Int32.reduceLT, Int32.reduceLE, Int32.reduceToNatClampNeg, Int32.reduceToInt]
      exact p
    · obtain ⟨fj, fj2⟩ := hf j (by omega)
      have ej : Int32.ofInt (hvF f i) = Int32.ofNat j := by rw [e]; rfl
      have nj : (Int32.ofNat j = -5) = False := by
        rw [show (-5 : Int32) = Int32.ofInt (-5) by decide]
        exact eq_false (fun g => by
          have := (yeq (j : Nat) (-5) (by omega) (by omega) (by omega) (by omega)).mp g
          omega)
      have cm : (Int32.ofNat (f i) ≤ Int32.ofNat (f j)) = (f i ≤ f j) := leN (by omega) (by omega)
      rw [ej]
      by_cases q : f i ≤ f j
      · have s1 := hvF_s2 e q
        rw [s1] at p
        simp (decide := true) (implicitDefEqProofs := false) only [l_X12_heaviest_5, t, lf, nj, b_X12_heaviest_60, b_X12_heaviest_65, i3, ofN2, zin (3 * i) 24 (by omega) (by decide), ztn (3 * i) (by omega), zin (3 * i + 2) 24 (by omega) (by decide), ztn (3 * i + 2) (by omega), zin (3 * j) 24 (by omega) (by decide), ztn (3 * j) (by omega), zin (3 * j + 2) 24 (by omega) (by decide), ztn (3 * j + 2) (by omega), f2, fj2, cm, q, ofN1 i, zO, zR, zA, zT, zu1, zu2, zu3, zu4, gI, gL, pI, pL, pZ, aI, aL, sI, sZ, sL, Option.bind_some, Option.map_some, if_true, if_false, ite_true, ite_false, true_and, and_true, false_and, and_false, or_true, true_or, or_false, false_or, and_self, not_true_eq_false, not_false_eq_true, ↓reduceIte, reduceIte, Nat.reduceAdd, Nat.reduceMul, Nat.reduceSub, Nat.reduceMod, Nat.reduceDiv, Nat.reduceEqDiff, Nat.reduceLT, Nat.reduceLeDiff, Int32.reduceAdd, Int32.reduceSub, Int32.reduceMul, Int32.reduceDiv, Int32.reduceMod, Int32.reduceOfNat, Int32.reduceOfInt, Int32.reduceLT, Int32.reduceLE, Int32.reduceToNatClampNeg, Int32.reduceToInt]
        exact p
      · have s1 := hvF_s3 e q
        rw [s1] at p
        simp (decide := true) (implicitDefEqProofs := false) only [l_X12_heaviest_5, t, lf, nj, b_X12_heaviest_60, b_X12_heaviest_65, i3, ofN2, zin (3 * i) 24 (by omega) (by decide), ztn (3 * i) (by omega), zin (3 * i + 2) 24 (by omega) (by decide), ztn (3 * i + 2) (by omega), zin (3 * j) 24 (by omega) (by decide), ztn (3 * j) (by omega), zin (3 * j + 2) 24 (by omega) (by decide), ztn (3 * j + 2) (by omega), f2, fj2, cm, q, ofN1 i, zO, zR, zA, zT, zu1, zu2, zu3, zu4, gI, gL, pI, pL, pZ, aI, aL, sI, sZ, sL, Option.bind_some, Option.map_some, if_true, if_false, ite_true, ite_false, true_and, and_true, false_and, and_false, or_true, true_or, or_false, false_or, and_self, not_true_eq_false, not_false_eq_true, ↓reduceIte, reduceIte, Nat.reduceAdd, Nat.reduceMul, Nat.reduceSub, Nat.reduceMod, Nat.reduceDiv, Nat.reduceEqDiff, Nat.reduceLT, Nat.reduceLeDiff, Int32.reduceAdd, Int32.reduceSub, Int32.reduceMul, Int32.reduceDiv, Int32.reduceMod, Int32.reduceOfNat, Int32.reduceOfInt, Int32.reduceLT, Int32.reduceLE, Int32.reduceToNatClampNeg, Int32.reduceToInt]
        exact p
theorem ok_heaviest {μ : Mem} (h : INV μ) : OKop (f_X11_heaviest SX 0) (f_X12_heaviest SX 81) μ := by
  obtain ⟨n, f, hn, t1, t2, t3⟩ := h.2.2.2.2.1.f2
  have p1 := heavX hn t1 (fun i hi => ⟨(t3 i hi).1, (t3 i hi).2.1⟩) n 0 (by omega) (4999 - n)
  have p2 := heavM hn t2 (fun i hi => ⟨(t3 i hi).1, (t3 i hi).2.2⟩) n 0 (by omega) (4999 - n)
  have e : 4999 - n + n + 1 = fu := by show _ = 5000; omega
  rw [e] at p1 p2
  have p1' : lpN (l_X0_withMost_7 SX 70) fu (-5, -1, 0, μ) = _ := p1
  have p2' : lpN (l_X12_heaviest_5 SX 81) fu (-5, 0, μ) = _ := p2
  refine ⟨Int32.ofInt (hvF f n), μ, μ, ?_, ?_, h⟩
  · simp (decide := true) (implicitDefEqProofs := false) only [f_X11_heaviest, f_X0_withMost, p1', zO, zR, zA, zT, zu1, zu2, zu3, zu4, gI, gL, pI, pL, pZ, aI, aL, sI, sZ, sL, Option.bind_some, Option.map_some, if_true, if_false, ite_true, ite_false, true_and, and_true, false_and, and_false, or_true, true_or, or_false, false_or, and_self, not_true_eq_false, not_false_eq_true, ↓reduceIte, reduceIte, Nat.reduceAdd, Nat.reduceMul, Nat.reduceSub, Nat.reduceMod, Nat.reduceDiv, Nat.reduceEqDiff, Nat.reduceLT, Nat.reduceLeDiff, Int32.reduceAdd, Int32.reduceSub, Int32.reduceMul, Int32.reduceDiv, Int32.reduceMod, Int32.reduceOfNat, Int32.reduceOfInt, Int32.reduceLT, Int32.reduceLE, Int32.reduceToNatClampNeg, Int32.reduceToInt]
  · simp (decide := true) (implicitDefEqProofs := false) only [f_X12_heaviest, p2', zO, zR, zA, zT, zu1, zu2, zu3, zu4, gI, gL, pI, pL, pZ, aI, aL, sI, sZ, sL, Option.bind_some, Option.map_some, if_true, if_false, ite_true, ite_false, true_and, and_true, false_and, and_false, or_true, true_or, or_false, false_or, and_self, not_true_eq_false, not_false_eq_true, ↓reduceIte, reduceIte, Nat.reduceAdd, Nat.reduceMul, Nat.reduceSub, Nat.reduceMod, Nat.reduceDiv, Nat.reduceEqDiff, Nat.reduceLT, Nat.reduceLeDiff, Int32.reduceAdd, Int32.reduceSub, Int32.reduceMul, Int32.reduceDiv, Int32.reduceMod, Int32.reduceOfNat, Int32.reduceOfInt, Int32.reduceLT, Int32.reduceLE, Int32.reduceToNatClampNeg, Int32.reduceToInt]
theorem inN {n : Nat} (hn : n ≤ 100) (a : Int32) : (wb a 0 (Int32.ofNat n - 1) = 0 ∧ (a < 0 ∨ ¬ a < Int32.ofNat n)) ∨ ∃ i, i < n ∧ a = Int32.ofNat i ∧ wb a 0 (Int32.ofNat n - 1) = 1 ∧ ¬ a < 0 ∧ a < Int32.ofNat n := by
  have e1 : (Int32.ofNat n - 1) = Int32.ofInt ((n : Int) - 1) := y32s n 1
  rw [e1]
  rcases wbI a 0 ((n : Int) - 1) (by omega) (by omega) (by omega) (by omega) with t | ⟨t, y, y1, y2, e⟩
  · left
    have t' : wb a 0 (Int32.ofInt ((n : Int) - 1)) = 0 := t
    refine ⟨t', ?_⟩
    by_cases s : a < 0
    · exact Or.inl s
    · right
      have ea : a = Int32.ofInt a.toInt := by simp
      have b1 := Int32.le_toInt a
      have b2 := Int32.toInt_lt a
      unfold wb at t'
      rw [if_neg s] at t'
      have s2 : Int32.ofInt ((n : Int) - 1) < a := by
        by_cases g : Int32.ofInt ((n : Int) - 1) < a
        · exact g
        · rw [if_neg g] at t'; cases t'
      rw [ea] at s2 ⊢
      have := (ylt32 ((n : Int) - 1) a.toInt (by omega) (by omega) (by omega) (by omega)).mp s2
      intro g
      have := (ylt32 a.toInt (n : Int) (by omega) (by omega) (by omega) (by omega)).mp g
      omega
  · right
    have t' : wb a 0 (Int32.ofInt ((n : Int) - 1)) = 1 := t
    refine ⟨y.toNat, by omega, ?_, t', ?_, ?_⟩
    · rw [e]; exact ofIn y (by omega)
    · rw [e]; intro g
      have := (ylt32 y 0 (by omega) (by omega) (by omega) (by omega)).mp g
      omega
    · rw [e]; exact (ylt32 y (n : Int) (by omega) (by omega) (by omega) (by omega)).mpr (by omega)

