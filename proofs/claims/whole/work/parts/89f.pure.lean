theorem wk12 : ∀ k, k < 5 → ((k = 1 ∧ wOf k = 0) ∨ (k = 2 ∧ wOf k = 1) ∨ (¬ (k = 1 ∨ k = 2) ∧ ¬ Int32.ofNat (wOf k) = 0 ∧ ¬ Int32.ofNat (wOf k) = 1 ∧ ¬ Int32.ofNat k = 1 ∧ ¬ Int32.ofNat k = 2)) := by decide
theorem onlyX {n : Nat} {K V : Nat → Nat} (hn : n ≤ 25) (ok : ∀ i, i < n → K i < 5 ∧ V i ≤ mOf (K i)) {μ : Mem} (hp : PLx 63 n (fun i => wOf (K i)) V μ) : ∀ m i, i + m = n → ∀ u, ((∀ j, i ≤ j → j < n → K j = 1 ∨ K j = 2) ∧ lpN (l_X6_onlyMoves_2 SX 63) (u + m + 1) (Int32.ofNat i, μ) = some (1, μ)) ∨ ((∃ j, j < n ∧ ¬ (K j = 1 ∨ K j = 2)) ∧ lpN (l_X6_onlyMoves_2 SX 63) (u + m + 1) (Int32.ofNat i, μ) = some (0, μ)) := by
  obtain ⟨p0, p12⟩ := hp
  intro m
  induction m with
  | zero =>
    intro i hi u
    have e : i = n := by omega
    subst e
    left
    refine ⟨fun j h1 h2 => by omega, ?_⟩
    rw [zlp]
    simp (decide := true) (implicitDefEqProofs := false) only [l_X6_onlyMoves_2, p0, leT, zO, zR, zA, zT, zu1, zu2, zu3, zu4, gI, gL, pI, pL, pZ, aI, aL, sI, sZ, sL, Option.bind_some, Option.map_some, if_true, if_false, ite_true, ite_false, true_and, and_true, false_and, and_false, or_true, true_or, or_false, false_or, and_self, not_true_eq_false, not_false_eq_true, ↓reduceIte, reduceIte, Nat.reduceAdd, Nat.reduceMul, Nat.reduceSub, Nat.reduceMod, Nat.reduceDiv, Nat.reduceEqDiff, Nat.reduceLT, Nat.reduceLeDiff, Int32.reduceAdd, Int32.reduceSub, Int32.reduceMul, Int32.reduceDiv, Int32.reduceMod, Int32.reduceOfNat, Int32.reduceOfInt, Int32.reduceLT, Int32.reduceLE, Int32.reduceToNatClampNeg, Int32.reduceToInt]
  | succ m ih =>
    intro i hi u
    have lf := leF (n := n) (i := i) (by omega) (by omega)
    have i1 := zin i 25 (by omega) (by decide)
    have i2 := ztn i (by omega)
    have p1 := (p12 i (by omega)).1
    simp only [Nat.reduceAdd, Nat.reduceMul, Nat.reduceMod, Int32.reduceOfNat] at p1
    rw [show u + (m + 1) + 1 = (u + m + 1) + 1 from rfl, zlp]
    rcases wk12 (K i) (ok i (by omega)).1 with ⟨k1, k2⟩ | ⟨k1, k2⟩ | ⟨k1, k2, k3, -, -⟩
    · have p1' : μ.1 64 i = 0 := by rw [p1, k2]; rfl
      have st : l_X6_onlyMoves_2 SX 63 (lpN (l_X6_onlyMoves_2 SX 63) (u + m + 1)) (Int32.ofNat i, μ) = lpN (l_X6_onlyMoves_2 SX 63) (u + m + 1) (Int32.ofNat (i + 1), μ) := by
        simp (decide := true) (implicitDefEqProofs := false) only [l_X6_onlyMoves_2, p0, lf, f_X6_isMove, i1, i2, p1', ofN1 i, zO, zR, zA, zT, zu1, zu2, zu3, zu4, gI, gL, pI, pL, pZ, aI, aL, sI, sZ, sL, Option.bind_some, Option.map_some, if_true, if_false, ite_true, ite_false, true_and, and_true, false_and, and_false, or_true, true_or, or_false, false_or, and_self, not_true_eq_false, not_false_eq_true, ↓reduceIte, reduceIte, Nat.reduceAdd, Nat.reduceMul, Nat.reduceSub, Nat.reduceMod, Nat.reduceDiv, Nat.reduceEqDiff, Nat.reduceLT, Nat.reduceLeDiff, Int32.reduceAdd, Int32.reduceSub, Int32.reduceMul, Int32.reduceDiv, Int32.reduceMod, Int32.reduceOfNat, Int32.reduceOfInt, Int32.reduceLT, Int32.reduceLE, Int32.reduceToNatClampNeg, Int32.reduceToInt]
      rw [st]
      rcases ih (i + 1) (by omega) u with ⟨a, q⟩ | ⟨a, q⟩
      · left; refine ⟨fun j h1 h2 => ?_, q⟩
        by_cases x : j = i
        · rw [x]; exact Or.inl k1
        · exact a j (by omega) h2
      · right; exact ⟨a, q⟩
    · have p1' : μ.1 64 i = 1 := by rw [p1, k2]; rfl
      have st : l_X6_onlyMoves_2 SX 63 (lpN (l_X6_onlyMoves_2 SX 63) (u + m + 1)) (Int32.ofNat i, μ) = lpN (l_X6_onlyMoves_2 SX 63) (u + m + 1) (Int32.ofNat (i + 1), μ) := by
        simp (decide := true) (implicitDefEqProofs := false) only [l_X6_onlyMoves_2, p0, lf, f_X6_isMove, i1, i2, p1', ofN1 i, zO, zR, zA, zT, zu1, zu2, zu3, zu4, gI, gL, pI, pL, pZ, aI, aL, sI, sZ, sL, Option.bind_some, Option.map_some, if_true, if_false, ite_true, ite_false, true_and, and_true, false_and, and_false, or_true, true_or, or_false, false_or, and_self, not_true_eq_false, not_false_eq_true, ↓reduceIte, reduceIte, Nat.reduceAdd, Nat.reduceMul, Nat.reduceSub, Nat.reduceMod, Nat.reduceDiv, Nat.reduceEqDiff, Nat.reduceLT, Nat.reduceLeDiff, Int32.reduceAdd, Int32.reduceSub, Int32.reduceMul, Int32.reduceDiv, Int32.reduceMod, Int32.reduceOfNat, Int32.reduceOfInt, Int32.reduceLT, Int32.reduceLE, Int32.reduceToNatClampNeg, Int32.reduceToInt]
      rw [st]
      rcases ih (i + 1) (by omega) u with ⟨a, q⟩ | ⟨a, q⟩
      · left; refine ⟨fun j h1 h2 => ?_, q⟩
        by_cases x : j = i
        · rw [x]; exact Or.inr k1
        · exact a j (by omega) h2
      · right; exact ⟨a, q⟩
    · right
      refine ⟨⟨i, by omega, k1⟩, ?_⟩
      simp (decide := true) (implicitDefEqProofs := false) only [l_X6_onlyMoves_2, p0, lf, f_X6_isMove, i1, i2, p1, k2, k3, zO, zR, zA, zT, zu1, zu2, zu3, zu4, gI, gL, pI, pL, pZ, aI, aL, sI, sZ, sL, Option.bind_some, Option.map_some, if_true, if_false, ite_true, ite_false, true_and, and_true, false_and, and_false, or_true, true_or, or_false, false_or, and_self, not_true_eq_false, not_false_eq_true, ↓reduceIte, reduceIte, Nat.reduceAdd, Nat.reduceMul, Nat.reduceSub, Nat.reduceMod, Nat.reduceDiv, Nat.reduceEqDiff, Nat.reduceLT, Nat.reduceLeDiff, Int32.reduceAdd, Int32.reduceSub, Int32.reduceMul, Int32.reduceDiv, Int32.reduceMod, Int32.reduceOfNat, Int32.reduceOfInt, Int32.reduceLT, Int32.reduceLE, Int32.reduceToNatClampNeg, Int32.reduceToInt]
theorem onlyM {n : Nat} {K V : Nat → Nat} (hn : n ≤ 25) (ok : ∀ i, i < n → K i < 5 ∧ V i ≤ mOf (K i)) {μ : Mem} (hp : PMx n K V μ) : ∀ m i, i + m = n → ∀ u, ((∀ j, i ≤ j → j < n → K j = 1 ∨ K j = 2) ∧ lpN (l_X12_backward_12 SX 81) (u + m + 1) (Int32.ofNat i, μ) = b_X12_backward_49 SX 81 μ) ∨ ((∃ j, j < n ∧ ¬ (K j = 1 ∨ K j = 2)) ∧ lpN (l_X12_backward_12 SX 81) (u + m + 1) (Int32.ofNat i, μ) = some (-3, μ)) := by
  obtain ⟨p0, p12⟩ := hp
  intro m
  induction m with
  | zero =>
    intro i hi u
    have e : i = n := by omega
    subst e
    left
    refine ⟨fun j h1 h2 => by omega, ?_⟩
    rw [zlp]
    simp (decide := true) (implicitDefEqProofs := false) only [l_X12_backward_12, p0, leT, zO, zR, zA, zT, zu1, zu2, zu3, zu4, gI, gL, pI, pL, pZ, aI, aL, sI, sZ, sL, Option.bind_some, Option.map_some, if_true, if_false, ite_true, ite_false, true_and, and_true, false_and, and_false, or_true, true_or, or_false, false_or, and_self, not_true_eq_false, not_false_eq_true, ↓reduceIte, reduceIte, Nat.reduceAdd, Nat.reduceMul, Nat.reduceSub, Nat.reduceMod, Nat.reduceDiv, Nat.reduceEqDiff, Nat.reduceLT, Nat.reduceLeDiff, Int32.reduceAdd, Int32.reduceSub, Int32.reduceMul, Int32.reduceDiv, Int32.reduceMod, Int32.reduceOfNat, Int32.reduceOfInt, Int32.reduceLT, Int32.reduceLE, Int32.reduceToNatClampNeg, Int32.reduceToInt]
  | succ m ih =>
    intro i hi u
    have lf := leF (n := n) (i := i) (by omega) (by omega)
    have i1 := zin i 40 (by omega) (by decide)
    have i2 := ztn i (by omega)
    have p1 := (p12 i (by omega)).1
    rw [show u + (m + 1) + 1 = (u + m + 1) + 1 from rfl, zlp]
    rcases wk12 (K i) (ok i (by omega)).1 with ⟨k1, k2⟩ | ⟨k1, k2⟩ | ⟨k1, -, -, k2, k3⟩
    · have p1' : μ.1 99 i = 1 := by rw [p1, k1]; rfl
      have st : l_X12_backward_12 SX 81 (lpN (l_X12_backward_12 SX 81) (u + m + 1)) (Int32.ofNat i, μ) = lpN (l_X12_backward_12 SX 81) (u + m + 1) (Int32.ofNat (i + 1), μ) := by
        simp (decide := true) (implicitDefEqProofs := false) only [l_X12_backward_12, p0, lf, i1, i2, p1', ofN1 i, zO, zR, zA, zT, zu1, zu2, zu3, zu4, gI, gL, pI, pL, pZ, aI, aL, sI, sZ, sL, Option.bind_some, Option.map_some, if_true, if_false, ite_true, ite_false, true_and, and_true, false_and, and_false, or_true, true_or, or_false, false_or, and_self, not_true_eq_false, not_false_eq_true, ↓reduceIte, reduceIte, Nat.reduceAdd, Nat.reduceMul, Nat.reduceSub, Nat.reduceMod, Nat.reduceDiv, Nat.reduceEqDiff, Nat.reduceLT, Nat.reduceLeDiff, Int32.reduceAdd, Int32.reduceSub, Int32.reduceMul, Int32.reduceDiv, Int32.reduceMod, Int32.reduceOfNat, Int32.reduceOfInt, Int32.reduceLT, Int32.reduceLE, Int32.reduceToNatClampNeg, Int32.reduceToInt]
      rw [st]
      rcases ih (i + 1) (by omega) u with ⟨a, q⟩ | ⟨a, q⟩
      · left; refine ⟨fun j h1 h2 => ?_, q⟩
        by_cases x : j = i
        · rw [x]; exact Or.inl k1
        · exact a j (by omega) h2
      · right; exact ⟨a, q⟩
    · have p1' : μ.1 99 i = 2 := by rw [p1, k1]; rfl
      have st : l_X12_backward_12 SX 81 (lpN (l_X12_backward_12 SX 81) (u + m + 1)) (Int32.ofNat i, μ) = lpN (l_X12_backward_12 SX 81) (u + m + 1) (Int32.ofNat (i + 1), μ) := by
        simp (decide := true) (implicitDefEqProofs := false) only [l_X12_backward_12, p0, lf, i1, i2, p1', ofN1 i, zO, zR, zA, zT, zu1, zu2, zu3, zu4, gI, gL, pI, pL, pZ, aI, aL, sI, sZ, sL, Option.bind_some, Option.map_some, if_true, if_false, ite_true, ite_false, true_and, and_true, false_and, and_false, or_true, true_or, or_false, false_or, and_self, not_true_eq_false, not_false_eq_true, ↓reduceIte, reduceIte, Nat.reduceAdd, Nat.reduceMul, Nat.reduceSub, Nat.reduceMod, Nat.reduceDiv, Nat.reduceEqDiff, Nat.reduceLT, Nat.reduceLeDiff, Int32.reduceAdd, Int32.reduceSub, Int32.reduceMul, Int32.reduceDiv, Int32.reduceMod, Int32.reduceOfNat, Int32.reduceOfInt, Int32.reduceLT, Int32.reduceLE, Int32.reduceToNatClampNeg, Int32.reduceToInt]
      rw [st]
      rcases ih (i + 1) (by omega) u with ⟨a, q⟩ | ⟨a, q⟩
      · left; refine ⟨fun j h1 h2 => ?_, q⟩
        by_cases x : j = i
        · rw [x]; exact Or.inr k1
        · exact a j (by omega) h2
      · right; exact ⟨a, q⟩
    · right
      refine ⟨⟨i, by omega, k1⟩, ?_⟩
      simp (decide := true) (implicitDefEqProofs := false) only [l_X12_backward_12, p0, lf, i1, i2, p1, k2, k3, zO, zR, zA, zT, zu1, zu2, zu3, zu4, gI, gL, pI, pL, pZ, aI, aL, sI, sZ, sL, Option.bind_some, Option.map_some, if_true, if_false, ite_true, ite_false, true_and, and_true, false_and, and_false, or_true, true_or, or_false, false_or, and_self, not_true_eq_false, not_false_eq_true, ↓reduceIte, reduceIte, Nat.reduceAdd, Nat.reduceMul, Nat.reduceSub, Nat.reduceMod, Nat.reduceDiv, Nat.reduceEqDiff, Nat.reduceLT, Nat.reduceLeDiff, Int32.reduceAdd, Int32.reduceSub, Int32.reduceMul, Int32.reduceDiv, Int32.reduceMod, Int32.reduceOfNat, Int32.reduceOfInt, Int32.reduceLT, Int32.reduceLE, Int32.reduceToNatClampNeg, Int32.reduceToInt]
/-- how it is behind so many STEPS that are moves -/
def cb (D V : Nat → Nat) (c : Nat → Nat → Int) : Nat → (Nat → Nat → Int)
  | 0 => c
  | i + 1 => up (cb D V c i) 8 (D i) (V i : Int)
def bB (D V : Nat → Nat) (c : Nat → Nat → Int) (i : Nat) : Nat := (cb D V c i 8 (D i)).toNat
theorem cb_ok {D V : Nat → Nat} {c : Nat → Nat → Int} (b : BC c) {n : Nat} (ok : ∀ i, i < n → GO (D i) (V i)) : ∀ i, i ≤ n → BC (cb D V c i) ∧ S8 c (cb D V c i) := by
  intro i
  induction i with
  | zero => intro _; exact ⟨b, fun q _ => rfl⟩
  | succ i ih =>
    intro hi
    obtain ⟨b1, s1⟩ := ih (by omega)
    have so : SOK (D i) (V i) := Or.inl (ok i (by omega))
    exact ⟨so.bc b1, s1.u⟩
theorem bB_ok {D V : Nat → Nat} {c : Nat → Nat → Int} (b : BC c) {n : Nat} (ok : ∀ i, i < n → GO (D i) (V i)) {i : Nat} (hi : i < n) : GO (D i) (bB D V c i) ∧ cb D V c i 8 (D i) = (bB D V c i : Nat) := by
  obtain ⟨b1, -⟩ := cb_ok b ok i (by omega)
  have bd := b1.2.2.2.2.2
  have g := ok i hi
  unfold bB
  rcases g with ⟨e, _⟩ | ⟨e, _⟩
  · rw [e]
    exact ⟨Or.inl ⟨rfl, by omega⟩, by omega⟩
  · rw [e]
    exact ⟨Or.inr ⟨rfl, by omega⟩, by omega⟩
def tbX (q : Nat) : Prop := q = 54 ∨ q = 67 ∨ q = 68
theorem turnL {n : Nat} {D V : Nat → Nat} {c : Nat → Nat → Int} (b : BC c) (hn : n ≤ 25) (ok : ∀ i, i < n → GO (D i) (V i)) : ∀ m i, i + m = n → ∀ u μ, CC 37 (cb D V c i) μ → PLx 63 n D V μ → μ.1 66 2 = Int32.ofNat n → (∀ j, n - i ≤ j → j < n → μ.1 67 j = Int32.ofNat (D (n - 1 - j)) ∧ μ.1 68 j = Int32.ofNat (bB D V c (n - 1 - j))) → ∃ ν, lpN (l_X6_turnBack_10 SX 66 63 37) (u + m + 1) (Int32.ofNat i, μ) = some ((), ν) ∧ Fr tbX μ ν ∧ CC 37 (cb D V c n) ν ∧ PLx 66 n (fun j => D (n - 1 - j)) (fun j => bB D V c (n - 1 - j)) ν := by
  intro m
  induction m with
  | zero =>
    intro i hi u μ h hp h66 hj
    have e : i = n := by omega
    subst e
    refine ⟨μ, ?_, Fr.rf, h, h66, fun j hj' => hj j (by omega) hj'⟩
    rw [zlp]
    simp (decide := true) (implicitDefEqProofs := false) only [l_X6_turnBack_10, h66, leT, zO, zR, zA, zT, zu1, zu2, zu3, zu4, gI, gL, pI, pL, pZ, aI, aL, sI, sZ, sL, Option.bind_some, Option.map_some, if_true, if_false, ite_true, ite_false, true_and, and_true, false_and, and_false, or_true, true_or, or_false, false_or, and_self, not_true_eq_false, not_false_eq_true, ↓reduceIte, reduceIte, Nat.reduceAdd, Nat.reduceMul, Nat.reduceSub, Nat.reduceMod, Nat.reduceDiv, Nat.reduceEqDiff, Nat.reduceLT, Nat.reduceLeDiff, Int32.reduceAdd, Int32.reduceSub, Int32.reduceMul, Int32.reduceDiv, Int32.reduceMod, Int32.reduceOfNat, Int32.reduceOfInt, Int32.reduceLT, Int32.reduceLE, Int32.reduceToNatClampNeg, Int32.reduceToInt]
  | succ m ih =>
    intro i hi u μ h hp h66 hj
    have lf := leF (n := n) (i := i) (by omega) (by omega)
    have i1 := zin i 25 (by omega) (by decide)
    have i2 := ztn i (by omega)
    obtain ⟨p0, p12⟩ := id hp
    obtain ⟨p1, p2⟩ := p12 i (by omega)
    simp only [Nat.reduceAdd, Nat.reduceMul, Nat.reduceMod, Int32.reduceOfNat] at p1 p2
    obtain ⟨go, eB⟩ := bB_ok b ok (i := i) (by omega)
    have d14 : D i < 14 := by unfold GO at go; omega
    have m54 := h.2.2.2.2.2 (D i) d14
    rw [eB] at m54
    simp only [Nat.reduceAdd, Nat.reduceMul, Nat.reduceMod, Int32.reduceOfNat] at m54
    have m54' : μ.1 54 (D i) = Int32.ofNat (bB D V c i) := m54
    obtain ⟨μ', E'⟩ : ∃ m : Mem, m = upI (upI (upI μ 67 (n - 1 - i) (Int32.ofNat (D i))) 68 (n - 1 - i) (Int32.ofNat (bB D V c i))) 54 (D i) (Int32.ofNat (V i)) := ⟨_, rfl⟩
    have f' : Fr tbX μ μ' := by
      rw [E']
      exact Fr.tr (Fr.tr (Fr.uI (Or.inr (Or.inl rfl))) (Fr.uI (Or.inr (Or.inr rfl)))) (Fr.uI (Or.inl rfl))
    have C' : CC 37 (cb D V c (i + 1)) μ' := by
      rw [E']
      have C0 : CC 37 (cb D V c i) (upI (upI μ 67 (n - 1 - i) (Int32.ofNat (D i))) 68 (n - 1 - i) (Int32.ofNat (bB D V c i))) := h.w (fun q => q = 67 ∨ q = 68) (Fr.tr (Fr.uI (Or.inl rfl)) (Fr.uI (Or.inr rfl))) (fun q g1 g2 => by omega)
      exact C0.dial rfl
    obtain ⟨ν, q, f, g1, g2⟩ := ih (i + 1) (by omega) u μ' C' (hp.w f' (by unfold tbX; omega) (by unfold tbX; omega) (by unfold tbX; omega)) (by rw [(f' 66 (by unfold tbX; omega)).1]; exact h66) (fun j h1 h2 => by
      rw [E']
      simp only [zu1]
      by_cases x : j = n - 1 - i
      · rw [show n - 1 - j = i by omega]
        refine ⟨?_, ?_⟩
        · rw [if_neg (by omega), if_neg (by omega), if_pos (by first | omega | exact ⟨trivial, by omega⟩ | exact ⟨trivial, trivial⟩)]
        · rw [if_neg (by omega), if_pos (by first | omega | exact ⟨trivial, by omega⟩ | exact ⟨trivial, trivial⟩)]
      · obtain ⟨y1, y2⟩ := hj j (by omega) h2
        refine ⟨?_, ?_⟩
        · rw [if_neg (by omega), if_neg (by omega), if_neg (by omega)]; exact y1
        · rw [if_neg (by omega), if_neg (by omega), if_neg (by omega)]; exact y2)
    refine ⟨ν, ?_, f'.tr f, g1, g2⟩
    rw [show u + (m + 1) + 1 = (u + m + 1) + 1 from rfl, zlp]
    simp (decide := true) (implicitDefEqProofs := false) only [l_X6_turnBack_10, h66, lf, i1, i2, p1, p2, sb1 n (by omega), sbN (n - 1) i (by omega), zin (n - 1 - i) 25 (by omega) (by decide), ztn (n - 1 - i) (by omega), zin (D i) 14 d14 (by decide), ztn (D i) (by omega), m54', ← E', ofN1 i, zO, zR, zA, zT, zu1, zu2, zu3, zu4, gI, gL, pI, pL, pZ, aI, aL, sI, sZ, sL, Option.bind_some, Option.map_some, if_true, if_false, ite_true, ite_false, true_and, and_true, false_and, and_false, or_true, true_or, or_false, false_or, and_self, not_true_eq_false, not_false_eq_true, ↓reduceIte, reduceIte, Nat.reduceAdd, Nat.reduceMul, Nat.reduceSub, Nat.reduceMod, Nat.reduceDiv, Nat.reduceEqDiff, Nat.reduceLT, Nat.reduceLeDiff, Int32.reduceAdd, Int32.reduceSub, Int32.reduceMul, Int32.reduceDiv, Int32.reduceMod, Int32.reduceOfNat, Int32.reduceOfInt, Int32.reduceLT, Int32.reduceLE, Int32.reduceToNatClampNeg, Int32.reduceToInt]
    exact q
theorem begunL {n : Nat} {K V : Nat → Nat} {c : Nat → Nat → Int} (b : BC c) (hn : n ≤ 25) (k5 : ∀ i, i < n → K i < 5) (ok : ∀ i, i < n → GO (wOf (K i)) (V i)) : ∀ m i, i + m = n → ∀ u μ, MM (cb (fun i => wOf (K i)) V c i) μ → PMx n K V μ → (∀ j, j < i → μ.1 104 j = Int32.ofNat (bB (fun i => wOf (K i)) V c j)) → ∃ ν, lpN (l_X12_backward_55 SX 81) (u + m + 1) (Int32.ofNat i, μ) = b_X12_backward_109 SX 81 ν ∧ FC (fun q => q = 90 ∨ q = 104) μ ν ∧ MM (cb (fun i => wOf (K i)) V c n) ν ∧ (∀ j, j < n → ν.1 104 j = Int32.ofNat (bB (fun i => wOf (K i)) V c j)) := by
  intro m
  induction m with
  | zero =>
    intro i hi u μ h hp hj
    have e : i = n := by omega
    subst e
    refine ⟨μ, ?_, FM.rf, h, hj⟩
    have p0 := hp.1
    rw [zlp]
    simp (decide := true) (implicitDefEqProofs := false) only [l_X12_backward_55, p0, leT, zO, zR, zA, zT, zu1, zu2, zu3, zu4, gI, gL, pI, pL, pZ, aI, aL, sI, sZ, sL, Option.bind_some, Option.map_some, if_true, if_false, ite_true, ite_false, true_and, and_true, false_and, and_false, or_true, true_or, or_false, false_or, and_self, not_true_eq_false, not_false_eq_true, ↓reduceIte, reduceIte, Nat.reduceAdd, Nat.reduceMul, Nat.reduceSub, Nat.reduceMod, Nat.reduceDiv, Nat.reduceEqDiff, Nat.reduceLT, Nat.reduceLeDiff, Int32.reduceAdd, Int32.reduceSub, Int32.reduceMul, Int32.reduceDiv, Int32.reduceMod, Int32.reduceOfNat, Int32.reduceOfInt, Int32.reduceLT, Int32.reduceLE, Int32.reduceToNatClampNeg, Int32.reduceToInt]
  | succ m ih =>
    intro i hi u μ h hp hj
    have lf := leF (n := n) (i := i) (by omega) (by omega)
    have i1 := zin i 40 (by omega) (by decide)
    have i2 := ztn i (by omega)
    obtain ⟨p0, p12⟩ := id hp
    obtain ⟨p1, p2⟩ := p12 i (by omega)
    obtain ⟨go, eB⟩ := bB_ok (D := fun i => wOf (K i)) b ok (i := i) (by omega)
    have d14 : wOf (K i) < 14 := by unfold GO at go; omega
    have m90 := h.2.2.2 (wOf (K i)) d14
    rw [eB] at m90
    have m90' : μ.1 90 (wOf (K i)) = Int32.ofNat (bB (fun i => wOf (K i)) V c i) := m90
    have wo : ∀ m : Mem, f_X12_whatOf SX (Int32.ofNat (K i)) m = some (Int32.ofNat (wOf (K i)), m) := fun m => whatOf_at m (K i) (k5 i (by omega))
    obtain ⟨μ', E'⟩ : ∃ m : Mem, m = upI (upI μ 104 i (Int32.ofNat (bB (fun i => wOf (K i)) V c i))) 90 (wOf (K i)) (Int32.ofNat (V i)) := ⟨_, rfl⟩
    have f' : FC (fun q => q = 90 ∨ q = 104) μ μ' := by
      rw [E']
      exact FC.tr (FC.u (by decide) (Or.inr rfl)) (FC.u (by decide) (Or.inl rfl))
    have M' : MM (cb (fun i => wOf (K i)) V c (i + 1)) μ' := by
      rw [E']
      have M0 : MM (cb (fun i => wOf (K i)) V c i) (upI μ 104 i (Int32.ofNat (bB (fun i => wOf (K i)) V c i))) := h.w (P := fun q => q = 104) (J := fun _ => False) (FM.uI (Or.inl ⟨by decide, rfl⟩)) (fun q g1 g2 => by omega) (fun q => q)
      exact M0.dial rfl
    obtain ⟨ν, q, f, g1, g2⟩ := ih (i + 1) (by omega) u μ' M' (hp.w f' (fun q => q) (by omega) (by omega)) (fun j h1 => by
      rw [E']
      simp only [zu1]
      rw [if_neg (by omega)]
      by_cases x : j = i
      · rw [if_pos (by first | omega | exact ⟨trivial, by omega⟩ | exact ⟨trivial, trivial⟩), x]
      · rw [if_neg (by omega)]; exact hj j (by omega))
    refine ⟨ν, ?_, f'.tr f, g1, g2⟩
    rw [show u + (m + 1) + 1 = (u + m + 1) + 1 from rfl, zlp]
    simp (decide := true) (implicitDefEqProofs := false) only [l_X12_backward_55, p0, lf, i1, i2, p1, p2, wo, zin (wOf (K i)) 14 d14 (by decide), ztn (wOf (K i)) (by omega), m90', ← E', ofN1 i, zO, zR, zA, zT, zu1, zu2, zu3, zu4, gI, gL, pI, pL, pZ, aI, aL, sI, sZ, sL, Option.bind_some, Option.map_some, if_true, if_false, ite_true, ite_false, true_and, and_true, false_and, and_false, or_true, true_or, or_false, false_or, and_self, not_true_eq_false, not_false_eq_true, ↓reduceIte, reduceIte, Nat.reduceAdd, Nat.reduceMul, Nat.reduceSub, Nat.reduceMod, Nat.reduceDiv, Nat.reduceEqDiff, Nat.reduceLT, Nat.reduceLeDiff, Int32.reduceAdd, Int32.reduceSub, Int32.reduceMul, Int32.reduceDiv, Int32.reduceMod, Int32.reduceOfNat, Int32.reduceOfInt, Int32.reduceLT, Int32.reduceLE, Int32.reduceToNatClampNeg, Int32.reduceToInt]
    exact q
theorem backL {n : Nat} {K V B : Nat → Nat} (hn : n ≤ 25) (k12 : ∀ i, i < n → K i = 1 ∨ K i = 2) (ok : ∀ i, i < n → GO (wOf (K i)) (B i)) : ∀ k, k ≤ n → ∀ u c w μ, BC c → MM c μ → WM false w μ → WOK w → w.1 + 61 * k < 1000000 → PMx n K V μ → (∀ j, j < n → μ.1 104 j = Int32.ofNat (B j)) → ∃ ν, lpN (l_X12_backward_120 SX 81) (u + k + 1) (Int32.ofInt ((k : Int) - 1), μ) = b_X12_backward_165 SX 81 ν ∧ FM gM lkJ μ ν ∧ MM (goF (fun j => wOf (K (n - 1 - j))) (fun j => B (n - 1 - j)) k (n - k) c w).1 ν ∧ WM false (goF (fun j => wOf (K (n - 1 - j))) (fun j => B (n - 1 - j)) k (n - k) c w).2 ν := by
  intro k
  induction k with
  | zero =>
    intro hk u c w μ b h hw hok hm hp hj
    refine ⟨μ, ?_, FM.rf, h, hw⟩
    have e : ((0 : Nat) : Int) - 1 = -1 := by omega
    have c1 : (Int32.ofInt (-1) < 0) = True := eq_true (by decide)
    rw [zlp, e]
    simp (decide := true) (implicitDefEqProofs := false) only [l_X12_backward_120, c1, zO, zR, zA, zT, zu1, zu2, zu3, zu4, gI, gL, pI, pL, pZ, aI, aL, sI, sZ, sL, Option.bind_some, Option.map_some, if_true, if_false, ite_true, ite_false, true_and, and_true, false_and, and_false, or_true, true_or, or_false, false_or, and_self, not_true_eq_false, not_false_eq_true, ↓reduceIte, reduceIte, Nat.reduceAdd, Nat.reduceMul, Nat.reduceSub, Nat.reduceMod, Nat.reduceDiv, Nat.reduceEqDiff, Nat.reduceLT, Nat.reduceLeDiff, Int32.reduceAdd, Int32.reduceSub, Int32.reduceMul, Int32.reduceDiv, Int32.reduceMod, Int32.reduceOfNat, Int32.reduceOfInt, Int32.reduceLT, Int32.reduceLE, Int32.reduceToNatClampNeg, Int32.reduceToInt]
  | succ k ih =>
    intro hk u c w μ b h hw hok hm hp hj
    have e : ((k + 1 : Nat) : Int) - 1 = (k : Int) := by omega
    have c1 : (Int32.ofNat k < 0) = False := eq_false (fun g => by
      have := (ylt32 (k : Int) 0 (by omega) (by omega) (by omega) (by omega)).mp g
      omega)
    have n1 : Int32.ofNat k + (-1) = Int32.ofInt ((k : Int) - 1) := by rw [ym1]; exact y32a (k : Int) (-1)
    have i1 := zin k 40 (by omega) (by decide)
    have i2 := ztn k (by omega)
    obtain ⟨p0, p12⟩ := id hp
    have p1 := (p12 k (by omega)).1
    have q104 := hj k (by omega)
    have g := ok k (by omega)
    have ix : n - 1 - (n - (k + 1)) = k := by omega
    rw [goF_s]
    rw [ix, show n - (k + 1) + 1 = n - k by omega]
    rw [e, show u + (k + 1) + 1 = (u + k + 1) + 1 from rfl, zlp, show Int32.ofInt (k : Int) = Int32.ofNat k from rfl]
    have gok := gsF_ok (s := Int32.ofNat (n - (k + 1))) (w := w) (Or.inl g : SOK (wOf (K k)) (B k)) b
    rcases k12 k (by omega) with kk | kk
    · have eg : gsF (Int32.ofNat (n - (k + 1))) (wOf (K k)) (B k) c w = mvF (Int32.ofNat (n - (k + 1))) 0 (B k) 61 c w := by
        rw [kk, show wOf 1 = 0 from rfl]; unfold gsF; rw [if_pos (Or.inl rfl)]
      have hB : B k ≤ 19 := by
        rw [kk] at g
        rcases g with ⟨_, q⟩ | ⟨q, _⟩
        · exact q
        · cases q
      obtain ⟨ν1, q1, f1, M1, X1⟩ := slewsM hB (s := Int32.ofNat k) (s' := Int32.ofNat (n - (k + 1))) (k := false) (fun w => by cases w) b h hw hok (by omega)
      rw [eg] at gok ⊢
      obtain ⟨g1, g2, g3, g4⟩ := gok
      obtain ⟨ν, q, f, r⟩ := ih (by omega) u _ _ ν1 g1 M1 X1 (g4 hok (by omega)) (by omega) (hp.w f1 (by unfold lkJ uJ; omega) (by unfold gM uP; omega) (by unfold gM uP; omega)) (fun j h1 => by rw [(f1.1 104 (by decide) (by unfold gM uP; omega)).1]; exact hj j h1)
      refine ⟨ν, ?_, f1.tr f, r⟩
      have p1' : μ.1 99 k = 1 := by rw [p1, kk]; rfl
      simp (decide := true) (implicitDefEqProofs := false) only [l_X12_backward_120, c1, i1, i2, p1', q104, q1, n1, zO, zR, zA, zT, zu1, zu2, zu3, zu4, gI, gL, pI, pL, pZ, aI, aL, sI, sZ, sL, Option.bind_some, Option.map_some, if_true, if_false, ite_true, ite_false, true_and, and_true, false_and, and_false, or_true, true_or, or_false, false_or, and_self, not_true_eq_false, not_false_eq_true, ↓reduceIte, reduceIte, Nat.reduceAdd, Nat.reduceMul, Nat.reduceSub, Nat.reduceMod, Nat.reduceDiv, Nat.reduceEqDiff, Nat.reduceLT, Nat.reduceLeDiff, Int32.reduceAdd, Int32.reduceSub, Int32.reduceMul, Int32.reduceDiv, Int32.reduceMod, Int32.reduceOfNat, Int32.reduceOfInt, Int32.reduceLT, Int32.reduceLE, Int32.reduceToNatClampNeg, Int32.reduceToInt]
      exact q
    · have eg : gsF (Int32.ofNat (n - (k + 1))) (wOf (K k)) (B k) c w = mvF (Int32.ofNat (n - (k + 1))) 1 (B k) 61 c w := by
        rw [kk, show wOf 2 = 1 from rfl]; unfold gsF; rw [if_pos (Or.inr rfl)]
      have hB : B k ≤ 60 := by
        rw [kk] at g
        rcases g with ⟨q, _⟩ | ⟨_, q⟩
        · cases q
        · exact q
      obtain ⟨ν1, q1, f1, M1, X1⟩ := reachesM hB (s := Int32.ofNat k) (s' := Int32.ofNat (n - (k + 1))) (k := false) (fun w => by cases w) b h hw hok (by omega)
      rw [eg] at gok ⊢
      obtain ⟨g1, g2, g3, g4⟩ := gok
      obtain ⟨ν, q, f, r⟩ := ih (by omega) u _ _ ν1 g1 M1 X1 (g4 hok (by omega)) (by omega) (hp.w f1 (by unfold lkJ uJ; omega) (by unfold gM uP; omega) (by unfold gM uP; omega)) (fun j h1 => by rw [(f1.1 104 (by decide) (by unfold gM uP; omega)).1]; exact hj j h1)
      refine ⟨ν, ?_, f1.tr f, r⟩
      have p1' : μ.1 99 k = 2 := by rw [p1, kk]; rfl
      simp (decide := true) (implicitDefEqProofs := false) only [l_X12_backward_120, c1, i1, i2, p1', q104, q1, n1, zO, zR, zA, zT, zu1, zu2, zu3, zu4, gI, gL, pI, pL, pZ, aI, aL, sI, sZ, sL, Option.bind_some, Option.map_some, if_true, if_false, ite_true, ite_false, true_and, and_true, false_and, and_false, or_true, true_or, or_false, false_or, and_self, not_true_eq_false, not_false_eq_true, ↓reduceIte, reduceIte, Nat.reduceAdd, Nat.reduceMul, Nat.reduceSub, Nat.reduceMod, Nat.reduceDiv, Nat.reduceEqDiff, Nat.reduceLT, Nat.reduceLeDiff, Int32.reduceAdd, Int32.reduceSub, Int32.reduceMul, Int32.reduceDiv, Int32.reduceMod, Int32.reduceOfNat, Int32.reduceOfInt, Int32.reduceLT, Int32.reduceLE, Int32.reduceToNatClampNeg, Int32.reduceToInt]
      exact q
theorem ok_backward {μ : Mem} (h : INV μ) : OKop (f_X11_backward SX 0) (f_X12_backward SX 81) μ := by
  obtain ⟨c, b, h1, h2⟩ := h.1
  obtain ⟨n, K, V, hn, t1, ok, px, pm⟩ := h.2.2.2.1.fn
  have pm1 := pm.1
  have n0 : (Int32.ofNat n = 0) = (n = 0) := neN (b := 0) (by omega) (by decide)
  by_cases z : n = 0
  · refine ⟨-3, μ, μ, ?_, ?_, h⟩
    · simp (decide := true) (implicitDefEqProofs := false) only [f_X11_backward, t1, n0, z, zO, zR, zA, zT, zu1, zu2, zu3, zu4, gI, gL, pI, pL, pZ, aI, aL, sI, sZ, sL, Option.bind_some, Option.map_some, if_true, if_false, ite_true, ite_false, true_and, and_true, false_and, and_false, or_true, true_or, or_false, false_or, and_self, not_true_eq_false, not_false_eq_true, ↓reduceIte, reduceIte, Nat.reduceAdd, Nat.reduceMul, Nat.reduceSub, Nat.reduceMod, Nat.reduceDiv, Nat.reduceEqDiff, Nat.reduceLT, Nat.reduceLeDiff, Int32.reduceAdd, Int32.reduceSub, Int32.reduceMul, Int32.reduceDiv, Int32.reduceMod, Int32.reduceOfNat, Int32.reduceOfInt, Int32.reduceLT, Int32.reduceLE, Int32.reduceToNatClampNeg, Int32.reduceToInt]
    · simp (decide := true) (implicitDefEqProofs := false) only [f_X12_backward, pm1, n0, z, zO, zR, zA, zT, zu1, zu2, zu3, zu4, gI, gL, pI, pL, pZ, aI, aL, sI, sZ, sL, Option.bind_some, Option.map_some, if_true, if_false, ite_true, ite_false, true_and, and_true, false_and, and_false, or_true, true_or, or_false, false_or, and_self, not_true_eq_false, not_false_eq_true, ↓reduceIte, reduceIte, Nat.reduceAdd, Nat.reduceMul, Nat.reduceSub, Nat.reduceMod, Nat.reduceDiv, Nat.reduceEqDiff, Nat.reduceLT, Nat.reduceLeDiff, Int32.reduceAdd, Int32.reduceSub, Int32.reduceMul, Int32.reduceDiv, Int32.reduceMod, Int32.reduceOfNat, Int32.reduceOfInt, Int32.reduceLT, Int32.reduceLE, Int32.reduceToNatClampNeg, Int32.reduceToInt]
  · have fu1 : 4999 - n + n + 1 = fu := by show _ = 5000; omega
    have ox := onlyX hn ok px n 0 (by omega) (4999 - n)
    rw [fu1] at ox
    rcases ox with ⟨a, q⟩ | ⟨a, q⟩
    · have oq : f_X6_onlyMoves SX 63 μ = some (1, μ) := by
        simp (decide := true) (implicitDefEqProofs := false) only [f_X6_onlyMoves, zO, zR, zA, zT, zu1, zu2, zu3, zu4, gI, gL, pI, pL, pZ, aI, aL, sI, sZ, sL, Option.bind_some, Option.map_some, if_true, if_false, ite_true, ite_false, true_and, and_true, false_and, and_false, or_true, true_or, or_false, false_or, and_self, not_true_eq_false, not_false_eq_true, ↓reduceIte, reduceIte, Nat.reduceAdd, Nat.reduceMul, Nat.reduceSub, Nat.reduceMod, Nat.reduceDiv, Nat.reduceEqDiff, Nat.reduceLT, Nat.reduceLeDiff, Int32.reduceAdd, Int32.reduceSub, Int32.reduceMul, Int32.reduceDiv, Int32.reduceMod, Int32.reduceOfNat, Int32.reduceOfInt, Int32.reduceLT, Int32.reduceLE, Int32.reduceToNatClampNeg, Int32.reduceToInt]
        exact q
      have k12 : ∀ i, i < n → K i = 1 ∨ K i = 2 := fun i hi => a i (by omega) hi
      have go : ∀ i, i < n → GO (wOf (K i)) (V i) := fun i hi => by
        have v := (ok i hi).2
        rcases k12 i hi with k | k
        · rw [k] at v ⊢; exact Or.inl ⟨rfl, v⟩
        · rw [k] at v ⊢; exact Or.inr ⟨rfl, v⟩
      obtain ⟨μ1, p1, f1, d1⟩ := draft_at h1 b
      have px1 : PLx 63 n (fun i => wOf (K i)) V μ1 := by
        unfold PLx at *
        rw [(f1.1 63 (by decide) (by unfold scP; omega)).1, (f1.1 (63 + 1) (by decide) (by unfold scP; omega)).1, (f1.1 (63 + 2) (by decide) (by unfold scP; omega)).1]
        exact px
      obtain ⟨μ2, E2⟩ : ∃ m : Mem, m = upI μ1 66 2 (Int32.ofNat n) := ⟨_, rfl⟩
      have f2 : Fr (fun q => q = 66) μ1 μ2 := by rw [E2]; exact Fr.uI rfl
      have d2 : CC 37 c μ2 := d1.w _ f2 (fun q g1 g2 => by omega)
      have px2 : PLx 63 n (fun i => wOf (K i)) V μ2 := px1.w f2 (by omega) (by omega) (by omega)
      obtain ⟨μ3, p3, f3, d3, px3⟩ := turnL (D := fun i => wOf (K i)) (V := V) b hn go n 0 (by omega) (4999 - n) μ2 d2 px2 (by rw [E2]; simp (decide := true) (implicitDefEqProofs := false) only [zO, zR, zA, zT, zu1, zu2, zu3, zu4, gI, gL, pI, pL, pZ, aI, aL, sI, sZ, sL, Option.bind_some, Option.map_some, if_true, if_false, ite_true, ite_false, true_and, and_true, false_and, and_false, or_true, true_or, or_false, false_or, and_self, not_true_eq_false, not_false_eq_true, ↓reduceIte, reduceIte, Nat.reduceAdd, Nat.reduceMul, Nat.reduceSub, Nat.reduceMod, Nat.reduceDiv, Nat.reduceEqDiff, Nat.reduceLT, Nat.reduceLeDiff, Int32.reduceAdd, Int32.reduceSub, Int32.reduceMul, Int32.reduceDiv, Int32.reduceMod, Int32.reduceOfNat, Int32.reduceOfInt, Int32.reduceLT, Int32.reduceLE, Int32.reduceToNatClampNeg, Int32.reduceToInt]) (fun j h1 h2 => by omega)
      rw [fu1] at p3
      have tb : f_X6_turnBack SX 66 63 37 μ1 = some ((), μ3) := by
        have s63 := px1.1
        simp (decide := true) (implicitDefEqProofs := false) only [f_X6_turnBack, s63, ← E2, zO, zR, zA, zT, zu1, zu2, zu3, zu4, gI, gL, pI, pL, pZ, aI, aL, sI, sZ, sL, Option.bind_some, Option.map_some, if_true, if_false, ite_true, ite_false, true_and, and_true, false_and, and_false, or_true, true_or, or_false, false_or, and_self, not_true_eq_false, not_false_eq_true, ↓reduceIte, reduceIte, Nat.reduceAdd, Nat.reduceMul, Nat.reduceSub, Nat.reduceMod, Nat.reduceDiv, Nat.reduceEqDiff, Nat.reduceLT, Nat.reduceLeDiff, Int32.reduceAdd, Int32.reduceSub, Int32.reduceMul, Int32.reduceDiv, Int32.reduceMod, Int32.reduceOfNat, Int32.reduceOfInt, Int32.reduceLT, Int32.reduceLE, Int32.reduceToNatClampNeg, Int32.reduceToInt]
        exact p3
      obtain ⟨bn, sn⟩ := cb_ok (D := fun i => wOf (K i)) b go n (Nat.le_refl _)
      have gB : ∀ i, i < n → GO (wOf (K i)) (bB (fun i => wOf (K i)) V c i) := fun i hi => (bB_ok (D := fun i => wOf (K i)) b go hi).1
      obtain ⟨μ4, p4, f4, C4, X4⟩ := goX (P := 66) (Or.inr rfl) hn (fun i hi => Or.inl (gB (n - 1 - i) (by omega))) bn d3 px3
      have F2 : FM scP scJ μ1 μ2 := (f2.fm (by omega)).mo (fun k q => by unfold scP; omega) (fun k q => q.elim)
      have F3 : FM scP scJ μ2 μ3 := (f3.fm (by unfold tbX; omega)).mo (fun k q => by unfold tbX at q; unfold scP; omega) (fun k q => q.elim)
      have F14 := ((f1.tr F2).tr F3).tr (gXsc f4)
      have M4 := h2.sc F14
      have pm4 : PMx n K V μ4 := pm.w F14 (by unfold scJ; omega) (by unfold scP; omega) (by unfold scP; omega)
      have om := onlyM hn ok pm4 n 0 (by omega) (4999 - n)
      rw [fu1] at om
      rcases om with ⟨-, qm⟩ | ⟨⟨j, hj, nj⟩, -⟩
      · obtain ⟨m1, r1, g1, e1⟩ := remM μ4
        have N1 : MM c m1 := M4.w g1 (fun q g1 g2 => by omega) (fun q => q)
        have pn1 : PMx n K V m1 := pm4.w g1 (fun q => q) (by omega) (by omega)
        obtain ⟨m2, r2, g2, N2, b2⟩ := begunL b hn (fun i hi => (ok i hi).1) go n 0 (by omega) (4999 - n) m1 N1 pn1 (fun j hj => by omega)
        rw [fu1] at r2
        have pn2 : PMx n K V m2 := pn1.w g2 (fun q => q) (by omega) (by omega)
        obtain ⟨m3, r3, g3, N3, Y3⟩ := beginsM bn N2 false
        have pn3 : PMx n K V m3 := pn2.w g3 (by unfold lkJ uJ; omega) (by unfold uP; omega) (by unfold uP; omega)
        obtain ⟨m4, r4, g4, N4, Y4⟩ := backL (B := bB (fun i => wOf (K i)) V c) hn k12 gB n (Nat.le_refl _) (4999 - n) (cb (fun i => wOf (K i)) V c n) (W1 (cb (fun i => wOf (K i)) V c n)) m3 bn N3 Y3 (W1_ok _) (by rw [W1_1]; omega) pn3 (fun j hj => by rw [(g3.1 104 (by decide) (by unfold uP; omega)).1]; exact b2 j hj)
        rw [fu1] at r4
        rw [show n - n = 0 by omega] at N4 Y4
        obtain ⟨m5, r5, g5, e5⟩ := retM m4
        have gk := goF_ok (D := fun j => wOf (K (n - 1 - j))) (G := fun j => bB (fun i => wOf (K i)) V c (n - 1 - j)) n 0 (fun j _ h2 => Or.inl (gB (n - 1 - j) (by omega))) (cb (fun i => wOf (K i)) V c n) (W1 (cb (fun i => wOf (K i)) V c n)) bn
        have wo := gk.2.2.2 (W1_ok _) (by rw [W1_1]; omega)
        have s8 := sn.tr gk.2.1
        obtain ⟨w, Ew⟩ : ∃ w, w = (goF (fun j => wOf (K (n - 1 - j))) (fun j => bB (fun i => wOf (K i)) V c (n - 1 - j)) n 0 (cb (fun i => wOf (K i)) V c n) (W1 (cb (fun i => wOf (K i)) V c n))).2 := ⟨_, rfl⟩
        rw [← Ew] at X4 Y4 wo
        have Y5 := Y4.w g5
        obtain ⟨x0, x1, x2, x3, x4⟩ := X4
        obtain ⟨y0, y1, y2, y3, y4⟩ := Y5
        have H1 : FM g4P lkJ μ4 m1 := g1.mo (fun q w => Or.inr (Or.inl w)) (fun j w => w.elim)
        have H2 : FM g4P lkJ m1 m2 := g2.mo (fun q w => by unfold g4P gM; omega) (fun j w => w.elim)
        have H3 : FM g4P lkJ m2 m3 := g3.mo (fun q w => Or.inl (Or.inr w)) (fun j w => w)
        have H4 : FM g4P lkJ m3 m4 := g4.mo (fun q w => Or.inl w) (fun j w => w)
        have H5 : FM g4P lkJ m4 m5 := g5.mo (fun q w => Or.inl (Or.inl w)) (fun j w => w.elim)
        have H := (((H1.tr H2).tr H3).tr H4).tr H5
        have R5 : MM c m5 := N4.ret s8 g5 (fun j hj => by
          rw [e5 j hj, (g4.1 103 (by decide) (by unfold gM uP; omega)).1, (g3.1 103 (by decide) (by unfold uP; omega)).1, (g2.1 103 (by decide) (by omega)).1, e1 j hj]
          exact M4.2.2.2 j hj)
        have I5 : INV m5 := h.cr ((scCr F14).tr (g4cr H)) ⟨c, b, (h1.sc F14).f H (fun q g1 g2 => ⟨by omega, by unfold g4P gM uP; omega⟩), R5⟩
        have pm4' := pm4.1
        have pn3' := pn3.1
        have y7 : Int32.ofNat n - 1 = Int32.ofInt ((n : Int) - 1) := y32s n 1
        have rb : f_X12_backward SX 81 μ4 = b_X12_backward_165 SX 81 m4 := by
          simp (decide := true) (implicitDefEqProofs := false) only [f_X12_backward, pm4', n0, z, zO, zR, zA, zT, zu1, zu2, zu3, zu4, gI, gL, pI, pL, pZ, aI, aL, sI, sZ, sL, Option.bind_some, Option.map_some, if_true, if_false, ite_true, ite_false, true_and, and_true, false_and, and_false, or_true, true_or, or_false, false_or, and_self, not_true_eq_false, not_false_eq_true, ↓reduceIte, reduceIte, Nat.reduceAdd, Nat.reduceMul, Nat.reduceSub, Nat.reduceMod, Nat.reduceDiv, Nat.reduceEqDiff, Nat.reduceLT, Nat.reduceLeDiff, Int32.reduceAdd, Int32.reduceSub, Int32.reduceMul, Int32.reduceDiv, Int32.reduceMod, Int32.reduceOfNat, Int32.reduceOfInt, Int32.reduceLT, Int32.reduceLE, Int32.reduceToNatClampNeg, Int32.reduceToInt]
          refine Eq.trans qm ?_
          simp (decide := true) (implicitDefEqProofs := false) only [b_X12_backward_49, r1, zO, zR, zA, zT, zu1, zu2, zu3, zu4, gI, gL, pI, pL, pZ, aI, aL, sI, sZ, sL, Option.bind_some, Option.map_some, if_true, if_false, ite_true, ite_false, true_and, and_true, false_and, and_false, or_true, true_or, or_false, false_or, and_self, not_true_eq_false, not_false_eq_true, ↓reduceIte, reduceIte, Nat.reduceAdd, Nat.reduceMul, Nat.reduceSub, Nat.reduceMod, Nat.reduceDiv, Nat.reduceEqDiff, Nat.reduceLT, Nat.reduceLeDiff, Int32.reduceAdd, Int32.reduceSub, Int32.reduceMul, Int32.reduceDiv, Int32.reduceMod, Int32.reduceOfNat, Int32.reduceOfInt, Int32.reduceLT, Int32.reduceLE, Int32.reduceToNatClampNeg, Int32.reduceToInt]
          refine Eq.trans r2 ?_
          simp (decide := true) (implicitDefEqProofs := false) only [b_X12_backward_109, r3, pn3', y7, zO, zR, zA, zT, zu1, zu2, zu3, zu4, gI, gL, pI, pL, pZ, aI, aL, sI, sZ, sL, Option.bind_some, Option.map_some, if_true, if_false, ite_true, ite_false, true_and, and_true, false_and, and_false, or_true, true_or, or_false, false_or, and_self, not_true_eq_false, not_false_eq_true, ↓reduceIte, reduceIte, Nat.reduceAdd, Nat.reduceMul, Nat.reduceSub, Nat.reduceMod, Nat.reduceDiv, Nat.reduceEqDiff, Nat.reduceLT, Nat.reduceLeDiff, Int32.reduceAdd, Int32.reduceSub, Int32.reduceMul, Int32.reduceDiv, Int32.reduceMod, Int32.reduceOfNat, Int32.reduceOfInt, Int32.reduceLT, Int32.reduceLE, Int32.reduceToNatClampNeg, Int32.reduceToInt]
          exact r4
        by_cases r : w.2.2.2.1 = 0
        · have r5' : w.2.1 = -5 := by
            rcases wo with ⟨g, -⟩ | ⟨-, g⟩
            · exact g
            · exact absurd r g
          refine ⟨1, μ4, m5, ?_, ?_, I5⟩
          · simp (decide := true) (implicitDefEqProofs := false) only [f_X11_backward, t1, n0, z, oq, p1, tb, p4, x3, r, zO, zR, zA, zT, zu1, zu2, zu3, zu4, gI, gL, pI, pL, pZ, aI, aL, sI, sZ, sL, Option.bind_some, Option.map_some, if_true, if_false, ite_true, ite_false, true_and, and_true, false_and, and_false, or_true, true_or, or_false, false_or, and_self, not_true_eq_false, not_false_eq_true, ↓reduceIte, reduceIte, Nat.reduceAdd, Nat.reduceMul, Nat.reduceSub, Nat.reduceMod, Nat.reduceDiv, Nat.reduceEqDiff, Nat.reduceLT, Nat.reduceLeDiff, Int32.reduceAdd, Int32.reduceSub, Int32.reduceMul, Int32.reduceDiv, Int32.reduceMod, Int32.reduceOfNat, Int32.reduceOfInt, Int32.reduceLT, Int32.reduceLE, Int32.reduceToNatClampNeg, Int32.reduceToInt]
          · rw [rb]
            simp (decide := true) (implicitDefEqProofs := false) only [b_X12_backward_165, r5, y1, r5', zO, zR, zA, zT, zu1, zu2, zu3, zu4, gI, gL, pI, pL, pZ, aI, aL, sI, sZ, sL, Option.bind_some, Option.map_some, if_true, if_false, ite_true, ite_false, true_and, and_true, false_and, and_false, or_true, true_or, or_false, false_or, and_self, not_true_eq_false, not_false_eq_true, ↓reduceIte, reduceIte, Nat.reduceAdd, Nat.reduceMul, Nat.reduceSub, Nat.reduceMod, Nat.reduceDiv, Nat.reduceEqDiff, Nat.reduceLT, Nat.reduceLeDiff, Int32.reduceAdd, Int32.reduceSub, Int32.reduceMul, Int32.reduceDiv, Int32.reduceMod, Int32.reduceOfNat, Int32.reduceOfInt, Int32.reduceLT, Int32.reduceLE, Int32.reduceToNatClampNeg, Int32.reduceToInt]
        · have r5' : ¬ w.2.1 = -5 := by
            rcases wo with ⟨-, g⟩ | ⟨g, -⟩
            · exact absurd g r
            · exact g
          refine ⟨0, μ4, m5, ?_, ?_, I5⟩
          · simp (decide := true) (implicitDefEqProofs := false) only [f_X11_backward, t1, n0, z, oq, p1, tb, p4, x3, r, zO, zR, zA, zT, zu1, zu2, zu3, zu4, gI, gL, pI, pL, pZ, aI, aL, sI, sZ, sL, Option.bind_some, Option.map_some, if_true, if_false, ite_true, ite_false, true_and, and_true, false_and, and_false, or_true, true_or, or_false, false_or, and_self, not_true_eq_false, not_false_eq_true, ↓reduceIte, reduceIte, Nat.reduceAdd, Nat.reduceMul, Nat.reduceSub, Nat.reduceMod, Nat.reduceDiv, Nat.reduceEqDiff, Nat.reduceLT, Nat.reduceLeDiff, Int32.reduceAdd, Int32.reduceSub, Int32.reduceMul, Int32.reduceDiv, Int32.reduceMod, Int32.reduceOfNat, Int32.reduceOfInt, Int32.reduceLT, Int32.reduceLE, Int32.reduceToNatClampNeg, Int32.reduceToInt]
          · rw [rb]
            simp (decide := true) (implicitDefEqProofs := false) only [b_X12_backward_165, r5, y1, r5', zO, zR, zA, zT, zu1, zu2, zu3, zu4, gI, gL, pI, pL, pZ, aI, aL, sI, sZ, sL, Option.bind_some, Option.map_some, if_true, if_false, ite_true, ite_false, true_and, and_true, false_and, and_false, or_true, true_or, or_false, false_or, and_self, not_true_eq_false, not_false_eq_true, ↓reduceIte, reduceIte, Nat.reduceAdd, Nat.reduceMul, Nat.reduceSub, Nat.reduceMod, Nat.reduceDiv, Nat.reduceEqDiff, Nat.reduceLT, Nat.reduceLeDiff, Int32.reduceAdd, Int32.reduceSub, Int32.reduceMul, Int32.reduceDiv, Int32.reduceMod, Int32.reduceOfNat, Int32.reduceOfInt, Int32.reduceLT, Int32.reduceLE, Int32.reduceToNatClampNeg, Int32.reduceToInt]
      · exact absurd (k12 j hj) nj
    · have oq : f_X6_onlyMoves SX 63 μ = some (0, μ) := by
        simp (decide := true) (implicitDefEqProofs := false) only [f_X6_onlyMoves, zO, zR, zA, zT, zu1, zu2, zu3, zu4, gI, gL, pI, pL, pZ, aI, aL, sI, sZ, sL, Option.bind_some, Option.map_some, if_true, if_false, ite_true, ite_false, true_and, and_true, false_and, and_false, or_true, true_or, or_false, false_or, and_self, not_true_eq_false, not_false_eq_true, ↓reduceIte, reduceIte, Nat.reduceAdd, Nat.reduceMul, Nat.reduceSub, Nat.reduceMod, Nat.reduceDiv, Nat.reduceEqDiff, Nat.reduceLT, Nat.reduceLeDiff, Int32.reduceAdd, Int32.reduceSub, Int32.reduceMul, Int32.reduceDiv, Int32.reduceMod, Int32.reduceOfNat, Int32.reduceOfInt, Int32.reduceLT, Int32.reduceLE, Int32.reduceToNatClampNeg, Int32.reduceToInt]
        exact q
      have om := onlyM hn ok pm n 0 (by omega) (4999 - n)
      rw [fu1] at om
      rcases om with ⟨a', -⟩ | ⟨-, qm⟩
      · obtain ⟨j, hj, nj⟩ := a
        exact absurd (a' j (by omega) hj) nj
      · refine ⟨-3, μ, μ, ?_, ?_, h⟩
        · simp (decide := true) (implicitDefEqProofs := false) only [f_X11_backward, t1, n0, z, oq, zO, zR, zA, zT, zu1, zu2, zu3, zu4, gI, gL, pI, pL, pZ, aI, aL, sI, sZ, sL, Option.bind_some, Option.map_some, if_true, if_false, ite_true, ite_false, true_and, and_true, false_and, and_false, or_true, true_or, or_false, false_or, and_self, not_true_eq_false, not_false_eq_true, ↓reduceIte, reduceIte, Nat.reduceAdd, Nat.reduceMul, Nat.reduceSub, Nat.reduceMod, Nat.reduceDiv, Nat.reduceEqDiff, Nat.reduceLT, Nat.reduceLeDiff, Int32.reduceAdd, Int32.reduceSub, Int32.reduceMul, Int32.reduceDiv, Int32.reduceMod, Int32.reduceOfNat, Int32.reduceOfInt, Int32.reduceLT, Int32.reduceLE, Int32.reduceToNatClampNeg, Int32.reduceToInt]
        · simp (decide := true) (implicitDefEqProofs := false) only [f_X12_backward, pm1, n0, z, zO, zR, zA, zT, zu1, zu2, zu3, zu4, gI, gL, pI, pL, pZ, aI, aL, sI, sZ, sL, Option.bind_some, Option.map_some, if_true, if_false, ite_true, ite_false, true_and, and_true, false_and, and_false, or_true, true_or, or_false, false_or, and_self, not_true_eq_false, not_false_eq_true, ↓reduceIte, reduceIte, Nat.reduceAdd, Nat.reduceMul, Nat.reduceSub, Nat.reduceMod, Nat.reduceDiv, Nat.reduceEqDiff, Nat.reduceLT, Nat.reduceLeDiff, Int32.reduceAdd, Int32.reduceSub, Int32.reduceMul, Int32.reduceDiv, Int32.reduceMod, Int32.reduceOfNat, Int32.reduceOfInt, Int32.reduceLT, Int32.reduceLE, Int32.reduceToNatClampNeg, Int32.reduceToInt]
          exact qm

