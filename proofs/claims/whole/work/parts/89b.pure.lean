def dF (a g : Nat) : Nat := (g + 20 - a) % 20
/-- one nearer -/
def nx (d a g : Nat) : Nat := if d = 0 then (if dF a g ≤ 10 then (a + 1) % 20 else (a + 19) % 20) else (if a < g then a + 1 else a - 1)
def rmN (d a g : Nat) : Nat := if d = 0 then (if dF a g ≤ 10 then dF a g else 20 - dF a g) else (if a < g then g - a else a - g)
theorem slD1 : ∀ a, a < 20 → ∀ g, g < 20 → (a = g ∨ ¬ dF a g ≤ 10 ∨ (nx 0 a g = (a + 1) % 20 ∧ dF (nx 0 a g) g ≤ 10)) := by decide +kernel
theorem slD2 : ∀ a, a < 20 → ∀ g, g < 20 → (a = g ∨ ¬ 10 < dF a g ∨ (nx 0 a g = (a + 19) % 20 ∧ (10 < dF (nx 0 a g) g ∨ nx 0 a g = g))) := by decide +kernel
theorem slD3 : ∀ a, a < 20 → ∀ g, g < 20 → (a = g ∨ (rmN 0 (nx 0 a g) g + 1 = rmN 0 a g ∧ nx 0 a g < 20)) := by decide +kernel
theorem slD4 : ∀ a, a < 20 → ∀ g, g < 20 → ((¬ rmN 0 a g = 0 ∨ a = g) ∧ rmN 0 a g ≤ 10) := by decide +kernel
theorem slD (a : Nat) (ha : a < 20) (g : Nat) (hg : g < 20) : (a ≠ g → (dF a g ≤ 10 → nx 0 a g = (a + 1) % 20 ∧ dF (nx 0 a g) g ≤ 10) ∧ (10 < dF a g → nx 0 a g = (a + 19) % 20 ∧ (10 < dF (nx 0 a g) g ∨ nx 0 a g = g)) ∧ rmN 0 (nx 0 a g) g + 1 = rmN 0 a g ∧ nx 0 a g < 20) ∧ (rmN 0 a g = 0 → a = g) ∧ rmN 0 a g ≤ 10 := by
  obtain ⟨k1, k2⟩ := slD4 a ha g hg
  refine ⟨fun ne => ⟨fun t => ?_, fun t => ?_, (slD3 a ha g hg).resolve_left ne⟩, fun t => ?_, k2⟩
  · rcases slD1 a ha g hg with q | q | q
    · exact absurd q ne
    · exact absurd t q
    · exact q
  · rcases slD2 a ha g hg with q | q | q
    · exact absurd q ne
    · exact absurd t q
    · exact q
  · rcases k1 with q | q
    · exact absurd t q
    · exact q
theorem rcD {a g : Nat} (ha : a ≤ 60) (hg : g ≤ 60) : (a ≠ g → rmN 1 (nx 1 a g) g + 1 = rmN 1 a g ∧ nx 1 a g ≤ 60) ∧ (rmN 1 a g = 0 → a = g) ∧ rmN 1 a g ≤ 60 := by
  have e1 : nx 1 a g = if a < g then a + 1 else a - 1 := rfl
  have e2 : ∀ x, rmN 1 x g = if x < g then g - x else x - g := fun _ => rfl
  rw [e2 a, e2 (nx 1 a g), e1]
  refine ⟨fun h => ?_, fun h => ?_, ?_⟩
  · by_cases t : a < g
    · rw [if_pos t, if_pos t]
      by_cases s : a + 1 < g
      · rw [if_pos s]; omega
      · rw [if_neg s]; omega
    · rw [if_neg t, if_neg t]
      by_cases s : a - 1 < g
      · rw [if_pos s]; omega
      · rw [if_neg s]; omega
  · by_cases t : a < g
    · rw [if_pos t] at h; omega
    · rw [if_neg t] at h; omega
  · split <;> omega
def mvF (s : Int32) (d g : Nat) : Nat → (Nat → Nat → Int) → WS → (Nat → Nat → Int) × WS
  | 0, c, w => (c, w)
  | k + 1, c, w => if c 8 d = (g : Int) then (c, w) else mvF s d g k (up c 8 d ((nx d (c 8 d).toNat g : Nat) : Int)) (mtF s (up c 8 d ((nx d (c 8 d).toNat g : Nat) : Int)) w)
theorem mvF_t {s : Int32} {d g k : Nat} {c : Nat → Nat → Int} {w : WS} (h : c 8 d = (g : Int)) : mvF s d g k c w = (c, w) := by
  cases k with
  | zero => rfl
  | succ k => show (if _ then _ else _) = _; rw [if_pos h]
theorem mvF_f {s : Int32} {d g k : Nat} {c : Nat → Nat → Int} {w : WS} (h : ¬ c 8 d = (g : Int)) : mvF s d g (k + 1) c w = mvF s d g k (up c 8 d ((nx d (c 8 d).toNat g : Nat) : Int)) (mtF s (up c 8 d ((nx d (c 8 d).toNat g : Nat) : Int)) w) := by
  show (if _ then _ else _) = _; rw [if_neg h]
def GO (d g : Nat) : Prop := (d = 0 ∧ g ≤ 19) ∨ (d = 1 ∧ g ≤ 60)
theorem BC.nx {c : Nat → Nat → Int} (b : BC c) {d g : Nat} (hd : GO d g) (h : ¬ c 8 d = (g : Int)) : BC (up c 8 d ((nx d (c 8 d).toNat g : Nat) : Int)) := by
  have bd := b.2.2.2.2.2
  rcases hd with ⟨rfl, hg⟩ | ⟨rfl, hg⟩
  · have := ((slD (c 8 0).toNat (by omega) g (by omega)).1 (by omega)).2.2.2
    exact b.dial ⟨by decide, by decide, by decide, by show (0 : Int) ≤ _; omega, by show _ ≤ (19 : Int); omega⟩
  · have := ((rcD (a := (c 8 1).toNat) (g := g) (by omega) hg).1 (by omega)).2
    exact b.dial ⟨by decide, by decide, by decide, by show (0 : Int) ≤ _; omega, by show _ ≤ (60 : Int); omega⟩
def S8 (c c' : Nat → Nat → Int) : Prop := ∀ q, q ≠ 8 → c' q = c q
theorem S8.u {c c' : Nat → Nat → Int} (h : S8 c c') {i : Nat} {z : Int} : S8 c (up c' 8 i z) := fun q hq => by rw [up_ne hq]; exact h q hq
theorem S8.tr {a b c : Nat → Nat → Int} (h : S8 a b) (g : S8 b c) : S8 a c := fun q hq => (g q hq).trans (h q hq)
theorem mvF_ok {s : Int32} {d g : Nat} (hd : GO d g) : ∀ k c w, BC c → BC (mvF s d g k c w).1 ∧ S8 c (mvF s d g k c w).1 ∧ (mvF s d g k c w).2.1 ≤ w.1 + k ∧ (WOK w → w.1 + k < 1000000 → WOK (mvF s d g k c w).2) := by
  intro k
  induction k with
  | zero => intro c w b; exact ⟨b, fun q _ => rfl, Nat.le_refl _, fun h _ => h⟩
  | succ k ih =>
    intro c w b
    by_cases t : c 8 d = (g : Int)
    · rw [mvF_t t]; exact ⟨b, fun q _ => rfl, by show w.1 ≤ w.1 + (k + 1); omega, fun h _ => h⟩
    · rw [mvF_f t]
      obtain ⟨i1, i2, i3, i4⟩ := ih _ (mtF s (up c 8 d ((nx d (c 8 d).toNat g : Nat) : Int)) w) (b.nx hd t)
      rw [mtF_1] at i3 i4
      refine ⟨i1, S8.tr (S8.u (c := c) (c' := c) (fun q _ => rfl)) i2, by omega, fun h g => i4 (h.m (by omega) _ _) (by omega)⟩
def fmD (x : Int32) : Option Int32 := (o_irem x 20).bind fun v1 => if 0 ≤ (x ^^^ 20) then some v1 else if v1 = 0 then some v1 else some (v1 + 20)
theorem fm_at (x : Int32) (μ : Mem) {y : Int32} (h : fmD x = some y) : f_J9_floorMod_7cf53 SX x 20 μ = some (y, μ) := by
  unfold fmD at h
  unfold f_J9_floorMod_7cf53
  cases e : o_irem x 20 with
  | none => rw [e] at h; cases h
  | some v =>
    rw [e] at h
    simp only [Option.bind_some] at h ⊢
    by_cases a : 0 ≤ (x ^^^ 20)
    · rw [if_pos a] at h ⊢; cases h; rfl
    · rw [if_neg a] at h ⊢
      by_cases b : v = 0
      · rw [if_pos b] at h ⊢; cases h; rfl
      · rw [if_neg b] at h ⊢; cases h; rfl
theorem fmA : ∀ a, a < 20 → ∀ g, g < 20 → fmD (Int32.ofNat g - Int32.ofNat a) = some (Int32.ofNat (dF a g)) := by decide +kernel
theorem fmB : ∀ a, a < 20 → fmD (Int32.ofNat a + 1) = some (Int32.ofNat ((a + 1) % 20)) ∧ fmD (Int32.ofNat a - 1) = some (Int32.ofNat ((a + 19) % 20)) := by decide +kernel
theorem approachX {c : Nat → Nat → Int} {μ : Mem} (h : CC 37 c μ) (b : BC c) {d g : Nat} (hd : GO d g) (ne : ¬ c 8 d = (g : Int)) : f_X2_approach SX 37 (Int32.ofNat d) (Int32.ofNat g) μ = some ((), upI μ 54 d (Int32.ofNat (nx d (c 8 d).toNat g))) := by
  have bd := b.2.2.2.2.2
  rcases hd with ⟨rfl, hg⟩ | ⟨rfl, hg⟩
  · have m0 := h.2.2.2.2.2 0 (by decide)
    rw [ofIn (c 8 0) (by omega)] at m0
    simp only [Nat.reduceAdd, Nat.reduceMul, Nat.reduceMod, Int32.reduceOfNat] at m0
    obtain ⟨a, Ea⟩ : ∃ a, a = (c 8 0).toNat := ⟨_, rfl⟩
    rw [← Ea] at m0 ⊢
    have ha : a < 20 := by omega
    have q1 := fm_at _ μ (fmA a ha g (by omega))
    have q2 := fm_at _ μ (fmB a ha).1
    have q3 := fm_at _ μ (fmB a ha).2
    have lt : (10 < Int32.ofNat (dF a g)) = (10 < dF a g) := ltN (a := 10) (by decide) (by unfold dF; omega)
    have e : nx 0 a g = if dF a g ≤ 10 then (a + 1) % 20 else (a + 19) % 20 := rfl
    by_cases t : dF a g ≤ 10
    · rw [e, if_pos t]
      have t' : ¬ 10 < dF a g := by omega
      simp (decide := true) (implicitDefEqProofs := false) only [f_X2_approach, b_X2_approach_29, m0, q1, q2, lt, t', zO, zR, zA, zT, zu1, zu2, zu3, zu4, gI, gL, pI, pL, pZ, aI, aL, sI, sZ, sL, Option.bind_some, Option.map_some, if_true, if_false, ite_true, ite_false, true_and, and_true, false_and, and_false, or_true, true_or, or_false, false_or, and_self, not_true_eq_false, not_false_eq_true, ↓reduceIte, reduceIte, Nat.reduceAdd, Nat.reduceMul, Nat.reduceSub, Nat.reduceMod, Nat.reduceDiv, Nat.reduceEqDiff, Nat.reduceLT, Nat.reduceLeDiff, Int32.reduceAdd, Int32.reduceSub, Int32.reduceMul, Int32.reduceDiv, Int32.reduceMod, Int32.reduceOfNat, Int32.reduceOfInt, Int32.reduceLT, Int32.reduceLE, Int32.reduceToNatClampNeg, Int32.reduceToInt]
    · rw [e, if_neg t]
      have t' : 10 < dF a g := by omega
      simp (decide := true) (implicitDefEqProofs := false) only [f_X2_approach, b_X2_approach_29, m0, q1, q3, lt, t', zO, zR, zA, zT, zu1, zu2, zu3, zu4, gI, gL, pI, pL, pZ, aI, aL, sI, sZ, sL, Option.bind_some, Option.map_some, if_true, if_false, ite_true, ite_false, true_and, and_true, false_and, and_false, or_true, true_or, or_false, false_or, and_self, not_true_eq_false, not_false_eq_true, ↓reduceIte, reduceIte, Nat.reduceAdd, Nat.reduceMul, Nat.reduceSub, Nat.reduceMod, Nat.reduceDiv, Nat.reduceEqDiff, Nat.reduceLT, Nat.reduceLeDiff, Int32.reduceAdd, Int32.reduceSub, Int32.reduceMul, Int32.reduceDiv, Int32.reduceMod, Int32.reduceOfNat, Int32.reduceOfInt, Int32.reduceLT, Int32.reduceLE, Int32.reduceToNatClampNeg, Int32.reduceToInt]
  · have m0 := h.2.2.2.2.2 1 (by decide)
    rw [ofIn (c 8 1) (by omega)] at m0
    simp only [Nat.reduceAdd, Nat.reduceMul, Nat.reduceMod, Int32.reduceOfNat] at m0
    obtain ⟨a, Ea⟩ : ∃ a, a = (c 8 1).toNat := ⟨_, rfl⟩
    rw [← Ea] at m0 ⊢
    have le : (Int32.ofNat g ≤ Int32.ofNat a) = (g ≤ a) := leN (by omega) (by omega)
    have e : nx 1 a g = if a < g then a + 1 else a - 1 := rfl
    by_cases t : a < g
    · rw [e, if_pos t]
      have t' : ¬ g ≤ a := by omega
      simp (decide := true) (implicitDefEqProofs := false) only [f_X2_approach, m0, le, t', ofN1 a, zO, zR, zA, zT, zu1, zu2, zu3, zu4, gI, gL, pI, pL, pZ, aI, aL, sI, sZ, sL, Option.bind_some, Option.map_some, if_true, if_false, ite_true, ite_false, true_and, and_true, false_and, and_false, or_true, true_or, or_false, false_or, and_self, not_true_eq_false, not_false_eq_true, ↓reduceIte, reduceIte, Nat.reduceAdd, Nat.reduceMul, Nat.reduceSub, Nat.reduceMod, Nat.reduceDiv, Nat.reduceEqDiff, Nat.reduceLT, Nat.reduceLeDiff, Int32.reduceAdd, Int32.reduceSub, Int32.reduceMul, Int32.reduceDiv, Int32.reduceMod, Int32.reduceOfNat, Int32.reduceOfInt, Int32.reduceLT, Int32.reduceLE, Int32.reduceToNatClampNeg, Int32.reduceToInt]
    · rw [e, if_neg t]
      have t' : g ≤ a := by omega
      simp (decide := true) (implicitDefEqProofs := false) only [f_X2_approach, m0, le, t', sb1 a (by omega), zO, zR, zA, zT, zu1, zu2, zu3, zu4, gI, gL, pI, pL, pZ, aI, aL, sI, sZ, sL, Option.bind_some, Option.map_some, if_true, if_false, ite_true, ite_false, true_and, and_true, false_and, and_false, or_true, true_or, or_false, false_or, and_self, not_true_eq_false, not_false_eq_true, ↓reduceIte, reduceIte, Nat.reduceAdd, Nat.reduceMul, Nat.reduceSub, Nat.reduceMod, Nat.reduceDiv, Nat.reduceEqDiff, Nat.reduceLT, Nat.reduceLeDiff, Int32.reduceAdd, Int32.reduceSub, Int32.reduceMul, Int32.reduceDiv, Int32.reduceMod, Int32.reduceOfNat, Int32.reduceOfInt, Int32.reduceLT, Int32.reduceLE, Int32.reduceToNatClampNeg, Int32.reduceToInt]
def gX (q : Nat) : Prop := q = 54 ∨ q = 55 ∨ q = 56 ∨ q = 69
theorem moveX {d g : Nat} (hd : GO d g) (k39 : (Int32 × Mem) → Option (Unit × Mem)) (a1 : Nat) (i : Int32) : ∀ m n, n + m = 61 → ∀ u c w μ, BC c → CC 37 c μ → WX w μ → ∃ ν, lpN (l_X10_go_78 SX k39 69 a1 37 55 i (Int32.ofNat d) (Int32.ofNat g)) (u + m + 1) (Int32.ofNat n, μ) = k39 (i + 1, ν) ∧ Fr gX μ ν ∧ CC 37 (mvF i d g m c w).1 ν ∧ WX (mvF i d g m c w).2 ν := by
  have d14 : d < 14 := by rcases hd with ⟨rfl, _⟩ | ⟨rfl, _⟩ <;> decide
  intro m
  induction m with
  | zero =>
    intro n hn u c w μ b h hw
    have e : n = 61 := by omega
    subst e
    refine ⟨μ, ?_, Fr.rf, h, hw⟩
    rw [zlp]
    simp (decide := true) (implicitDefEqProofs := false) only [l_X10_go_78, zO, zR, zA, zT, zu1, zu2, zu3, zu4, gI, gL, pI, pL, pZ, aI, aL, sI, sZ, sL, Option.bind_some, Option.map_some, if_true, if_false, ite_true, ite_false, true_and, and_true, false_and, and_false, or_true, true_or, or_false, false_or, and_self, not_true_eq_false, not_false_eq_true, ↓reduceIte, reduceIte, Nat.reduceAdd, Nat.reduceMul, Nat.reduceSub, Nat.reduceMod, Nat.reduceDiv, Nat.reduceEqDiff, Nat.reduceLT, Nat.reduceLeDiff, Int32.reduceAdd, Int32.reduceSub, Int32.reduceMul, Int32.reduceDiv, Int32.reduceMod, Int32.reduceOfNat, Int32.reduceOfInt, Int32.reduceLT, Int32.reduceLE, Int32.reduceToNatClampNeg, Int32.reduceToInt]
  | succ m ih =>
    intro n hn u c w μ b h hw
    have bd := b.2.2.2.2.2
    have lf : ((61 : Int32) ≤ Int32.ofNat n) = False := leF (n := 61) (by omega) (by decide)
    have m0 := h.2.2.2.2.2 d d14
    have cd : 0 ≤ c 8 d ∧ c 8 d ≤ 60 ∧ g ≤ 60 := by rcases hd with ⟨rfl, _⟩ | ⟨rfl, _⟩ <;> omega
    have eq : (Int32.ofInt (c 8 d) = Int32.ofNat g) = (c 8 d = (g : Int)) := propext (yeq (c 8 d) (g : Int) (by omega) (by omega) (by omega) (by omega))
    simp only [Nat.reduceAdd, Nat.reduceMul, Nat.reduceMod, Int32.reduceOfNat] at m0
    rw [show u + (m + 1) + 1 = (u + m + 1) + 1 from rfl, zlp]
    by_cases t : c 8 d = (g : Int)
    · rw [mvF_t t]
      refine ⟨μ, ?_, Fr.rf, h, hw⟩
      have eqt : (Int32.ofInt (c 8 d) = Int32.ofNat g) = True := by rw [eq]; exact eq_true t
      simp (decide := true) (implicitDefEqProofs := false) only [l_X10_go_78, lf, zin d 14 d14 (by decide), ztn d (by omega), m0, eqt, zO, zR, zA, zT, zu1, zu2, zu3, zu4, gI, gL, pI, pL, pZ, aI, aL, sI, sZ, sL, Option.bind_some, Option.map_some, if_true, if_false, ite_true, ite_false, true_and, and_true, false_and, and_false, or_true, true_or, or_false, false_or, and_self, not_true_eq_false, not_false_eq_true, ↓reduceIte, reduceIte, Nat.reduceAdd, Nat.reduceMul, Nat.reduceSub, Nat.reduceMod, Nat.reduceDiv, Nat.reduceEqDiff, Nat.reduceLT, Nat.reduceLeDiff, Int32.reduceAdd, Int32.reduceSub, Int32.reduceMul, Int32.reduceDiv, Int32.reduceMod, Int32.reduceOfNat, Int32.reduceOfInt, Int32.reduceLT, Int32.reduceLE, Int32.reduceToNatClampNeg, Int32.reduceToInt]
    · rw [mvF_f t]
      have ap := approachX h b hd t
      have D : CC 37 (up c 8 d ((nx d (c 8 d).toNat g : Nat) : Int)) (upI μ 54 d (Int32.ofNat (nx d (c 8 d).toNat g))) := h.dial rfl
      obtain ⟨ν1, p1, f1, C1, W1⟩ := meetX D (b.nx hd t) (w := w) (by unfold WX at *; simp only [zu1]; simpa using hw) i
      obtain ⟨ν, p, f, g1, g2⟩ := ih (n + 1) (by omega) u _ _ ν1 (b.nx hd t) C1 W1
      refine ⟨ν, ?_, Fr.tr (Fr.tr (Fr.uI (Or.inl rfl)) (f1.mo (fun q hq => by unfold gX; omega))) f, g1, g2⟩
      simp (decide := true) (implicitDefEqProofs := false) only [l_X10_go_78, lf, zin d 14 d14 (by decide), ztn d (by omega), m0, eq, t, ap, p1, ofN1 n, zO, zR, zA, zT, zu1, zu2, zu3, zu4, gI, gL, pI, pL, pZ, aI, aL, sI, sZ, sL, Option.bind_some, Option.map_some, if_true, if_false, ite_true, ite_false, true_and, and_true, false_and, and_false, or_true, true_or, or_false, false_or, and_self, not_true_eq_false, not_false_eq_true, ↓reduceIte, reduceIte, Nat.reduceAdd, Nat.reduceMul, Nat.reduceSub, Nat.reduceMod, Nat.reduceDiv, Nat.reduceEqDiff, Nat.reduceLT, Nat.reduceLeDiff, Int32.reduceAdd, Int32.reduceSub, Int32.reduceMul, Int32.reduceDiv, Int32.reduceMod, Int32.reduceOfNat, Int32.reduceOfInt, Int32.reduceLT, Int32.reduceLE, Int32.reduceToNatClampNeg, Int32.reduceToInt]
      exact p

