def gM (q : Nat) : Prop := q = 90 ∨ uP q
theorem byD : ∀ a, a < 20 → ((Int32.ofNat a + 1) - (Int32.ofNat a + 1) / 20 * 20 = Int32.ofNat ((a + 1) % 20)) ∧ ((Int32.ofNat a + 19) - (Int32.ofNat a + 19) / 20 * 20 = Int32.ofNat ((a + 19) % 20)) := by decide +kernel
theorem onD : ∀ a, a < 20 → ∀ g, g < 20 → (((Int32.ofNat g - Int32.ofNat a) + 20) - ((Int32.ofNat g - Int32.ofNat a) + 20) / 20 * 20 = Int32.ofNat (dF a g)) := by decide +kernel
theorem onE : ∀ x, x < 20 → ((20 - Int32.ofNat x < Int32.ofNat x ∧ 10 < x) ∨ (¬ 20 - Int32.ofNat x < Int32.ofNat x ∧ ¬ 10 < x)) := by decide +kernel
theorem slewL {g : Nat} (hg : g ≤ 19) {y : Nat} (hy : y = 1 ∨ y = 19) {s s' : Int32} {k : Bool} (hs : k = true → s' = s) : ∀ m u c w μ, BC c → MM c μ → WM k w μ → WOK w → w.1 + m < 1000000 → rmN 0 (c 8 0).toNat g ≤ m → ((y = 1 ∧ dF (c 8 0).toNat g ≤ 10) ∨ (y = 19 ∧ (10 < dF (c 8 0).toNat g ∨ (c 8 0).toNat = g))) → ∃ ν, lpN (l_X12_slews_31 SX 81 s (Int32.ofNat g) (Int32.ofNat y)) (u + m + 1) μ = some ((), ν) ∧ FM gM lkJ μ ν ∧ MM (mvF s' 0 g m c w).1 ν ∧ WM k (mvF s' 0 g m c w).2 ν := by
  intro m
  induction m with
  | zero =>
    intro u c w μ b h hw hk hm hr hd
    have bd := b.2.2.2.2.2
    have e := (slD (c 8 0).toNat (by omega) g (by omega)).2.1 (by omega)
    have m0 := h.2.2.2 0 (by decide)
    rw [ofIn (c 8 0) (by omega), e] at m0
    refine ⟨μ, ?_, FM.rf, h, hw⟩
    rw [zlp]
    simp (decide := true) (implicitDefEqProofs := false) only [l_X12_slews_31, m0, zO, zR, zA, zT, zu1, zu2, zu3, zu4, gI, gL, pI, pL, pZ, aI, aL, sI, sZ, sL, Option.bind_some, Option.map_some, if_true, if_false, ite_true, ite_false, true_and, and_true, false_and, and_false, or_true, true_or, or_false, false_or, and_self, not_true_eq_false, not_false_eq_true, ↓reduceIte, reduceIte, Nat.reduceAdd, Nat.reduceMul, Nat.reduceSub, Nat.reduceMod, Nat.reduceDiv, Nat.reduceEqDiff, Nat.reduceLT, Nat.reduceLeDiff, Int32.reduceAdd, Int32.reduceSub, Int32.reduceMul, Int32.reduceDiv, Int32.reduceMod, Int32.reduceOfNat, Int32.reduceOfInt, Int32.reduceLT, Int32.reduceLE, Int32.reduceToNatClampNeg, Int32.reduceToInt]
  | succ m ih =>
    intro u c w μ b h hw hk hm hr hd
    have bd := b.2.2.2.2.2
    have m0 := h.2.2.2 0 (by decide)
    rw [ofIn (c 8 0) (by omega)] at m0
    rw [show u + (m + 1) + 1 = (u + m + 1) + 1 from rfl, zlp]
    by_cases t : c 8 0 = (g : Int)
    · rw [mvF_t t]
      refine ⟨μ, ?_, FM.rf, h, hw⟩
      rw [show (c 8 0).toNat = g by omega] at m0
      simp (decide := true) (implicitDefEqProofs := false) only [l_X12_slews_31, m0, zO, zR, zA, zT, zu1, zu2, zu3, zu4, gI, gL, pI, pL, pZ, aI, aL, sI, sZ, sL, Option.bind_some, Option.map_some, if_true, if_false, ite_true, ite_false, true_and, and_true, false_and, and_false, or_true, true_or, or_false, false_or, and_self, not_true_eq_false, not_false_eq_true, ↓reduceIte, reduceIte, Nat.reduceAdd, Nat.reduceMul, Nat.reduceSub, Nat.reduceMod, Nat.reduceDiv, Nat.reduceEqDiff, Nat.reduceLT, Nat.reduceLeDiff, Int32.reduceAdd, Int32.reduceSub, Int32.reduceMul, Int32.reduceDiv, Int32.reduceMod, Int32.reduceOfNat, Int32.reduceOfInt, Int32.reduceLT, Int32.reduceLE, Int32.reduceToNatClampNeg, Int32.reduceToInt]
    · rw [mvF_f t]
      obtain ⟨a, Ea⟩ : ∃ a, a = (c 8 0).toNat := ⟨_, rfl⟩
      rw [← Ea] at m0 hr hd ⊢
      have ha : a < 20 := by omega
      have ne : ¬ a = g := by omega
      have neI : ¬ Int32.ofNat a = Int32.ofNat g := by rw [neN (by omega) (by omega)]; exact ne
      obtain ⟨s1, s2, s3, s4⟩ := (slD a ha g (by omega)).1 ne
      obtain ⟨b1, b2⟩ := byD a ha
      have nxv : (Int32.ofNat a + Int32.ofNat y) - (Int32.ofNat a + Int32.ofNat y) / 20 * 20 = Int32.ofNat (nx 0 a g) := by
        rcases hd with ⟨rfl, q⟩ | ⟨rfl, q⟩
        · rw [(s1 q).1]; exact b1
        · have q' : 10 < dF a g := by omega
          rw [(s2 q').1]; exact b2
      have hd' : (y = 1 ∧ dF (nx 0 a g) g ≤ 10) ∨ (y = 19 ∧ (10 < dF (nx 0 a g) g ∨ nx 0 a g = g)) := by
        rcases hd with ⟨e, q⟩ | ⟨e, q⟩
        · exact Or.inl ⟨e, (s1 q).2⟩
        · exact Or.inr ⟨e, (s2 (by omega)).2⟩
      have B1 := b.nx (d := 0) (g := g) (Or.inl ⟨rfl, hg⟩) t
      rw [← Ea] at B1
      have D : MM (up c 8 0 ((nx 0 a g : Nat) : Int)) (upI μ 90 0 (Int32.ofNat (nx 0 a g))) := h.dial rfl
      have f0 : FM gM lkJ μ (upI μ 90 0 (Int32.ofNat (nx 0 a g))) := FM.uI (Or.inl ⟨by decide, Or.inl rfl⟩)
      obtain ⟨ν1, p1, f1, M1, W1⟩ := looksAtM D B1 (w := w) (k := k) (by unfold WM at *; simp only [zu1]; simpa using hw) hk (by omega) s s' hs
      have e8 : (up c 8 0 ((nx 0 a g : Nat) : Int) 8 0).toNat = nx 0 a g := by rw [up_at]; rfl
      obtain ⟨ν, p, f, g1, g2⟩ := ih u _ _ ν1 B1 M1 W1 (hk.m (by omega) s' (up c 8 0 ((nx 0 a g : Nat) : Int))) (by rw [mtF_1]; omega) (by rw [e8]; omega) (by rw [e8]; exact hd')
      refine ⟨ν, ?_, (f0.tr (f1.mo (fun q w => Or.inr w) (fun j w => w))).tr f, g1, g2⟩
      simp (decide := true) (implicitDefEqProofs := false) only [l_X12_slews_31, m0, neI, nxv, p1, zO, zR, zA, zT, zu1, zu2, zu3, zu4, gI, gL, pI, pL, pZ, aI, aL, sI, sZ, sL, Option.bind_some, Option.map_some, if_true, if_false, ite_true, ite_false, true_and, and_true, false_and, and_false, or_true, true_or, or_false, false_or, and_self, not_true_eq_false, not_false_eq_true, ↓reduceIte, reduceIte, Nat.reduceAdd, Nat.reduceMul, Nat.reduceSub, Nat.reduceMod, Nat.reduceDiv, Nat.reduceEqDiff, Nat.reduceLT, Nat.reduceLeDiff, Int32.reduceAdd, Int32.reduceSub, Int32.reduceMul, Int32.reduceDiv, Int32.reduceMod, Int32.reduceOfNat, Int32.reduceOfInt, Int32.reduceLT, Int32.reduceLE, Int32.reduceToNatClampNeg, Int32.reduceToInt]
      exact p
theorem slewsM {g : Nat} (hg : g ≤ 19) {s s' : Int32} {k : Bool} (hs : k = true → s' = s) {c : Nat → Nat → Int} {w : WS} {μ : Mem} (b : BC c) (h : MM c μ) (hw : WM k w μ) (hk : WOK w) (hm : w.1 + 61 < 1000000) : ∃ ν, f_X12_slews SX 81 s (Int32.ofNat g) μ = some ((), ν) ∧ FM gM lkJ μ ν ∧ MM (mvF s' 0 g 61 c w).1 ν ∧ WM k (mvF s' 0 g 61 c w).2 ν := by
  have bd := b.2.2.2.2.2
  have m0 := h.2.2.2 0 (by decide)
  rw [ofIn (c 8 0) (by omega)] at m0
  have r10 := (slD (c 8 0).toNat (by omega) g (by omega)).2.2
  have on := onD (c 8 0).toNat (by omega) g (by omega)
  have d20 : dF (c 8 0).toNat g < 20 := by unfold dF; omega
  rcases onE (dF (c 8 0).toNat g) d20 with ⟨o1, o2⟩ | ⟨o1, o2⟩
  · obtain ⟨ν, p, g1⟩ := slewL hg (y := 19) (Or.inr rfl) hs 61 4938 c w μ b h hw hk hm (by omega) (Or.inr ⟨rfl, Or.inl o2⟩)
    refine ⟨ν, ?_, g1⟩
    simp (decide := true) (implicitDefEqProofs := false) only [f_X12_slews, b_X12_slews_29, m0, on, o1, zO, zR, zA, zT, zu1, zu2, zu3, zu4, gI, gL, pI, pL, pZ, aI, aL, sI, sZ, sL, Option.bind_some, Option.map_some, if_true, if_false, ite_true, ite_false, true_and, and_true, false_and, and_false, or_true, true_or, or_false, false_or, and_self, not_true_eq_false, not_false_eq_true, ↓reduceIte, reduceIte, Nat.reduceAdd, Nat.reduceMul, Nat.reduceSub, Nat.reduceMod, Nat.reduceDiv, Nat.reduceEqDiff, Nat.reduceLT, Nat.reduceLeDiff, Int32.reduceAdd, Int32.reduceSub, Int32.reduceMul, Int32.reduceDiv, Int32.reduceMod, Int32.reduceOfNat, Int32.reduceOfInt, Int32.reduceLT, Int32.reduceLE, Int32.reduceToNatClampNeg, Int32.reduceToInt]
    exact p
  · obtain ⟨ν, p, g1⟩ := slewL hg (y := 1) (Or.inl rfl) hs 61 4938 c w μ b h hw hk hm (by omega) (Or.inl ⟨rfl, by omega⟩)
    refine ⟨ν, ?_, g1⟩
    simp (decide := true) (implicitDefEqProofs := false) only [f_X12_slews, b_X12_slews_29, m0, on, o1, zO, zR, zA, zT, zu1, zu2, zu3, zu4, gI, gL, pI, pL, pZ, aI, aL, sI, sZ, sL, Option.bind_some, Option.map_some, if_true, if_false, ite_true, ite_false, true_and, and_true, false_and, and_false, or_true, true_or, or_false, false_or, and_self, not_true_eq_false, not_false_eq_true, ↓reduceIte, reduceIte, Nat.reduceAdd, Nat.reduceMul, Nat.reduceSub, Nat.reduceMod, Nat.reduceDiv, Nat.reduceEqDiff, Nat.reduceLT, Nat.reduceLeDiff, Int32.reduceAdd, Int32.reduceSub, Int32.reduceMul, Int32.reduceDiv, Int32.reduceMod, Int32.reduceOfNat, Int32.reduceOfInt, Int32.reduceLT, Int32.reduceLE, Int32.reduceToNatClampNeg, Int32.reduceToInt]
    exact p
theorem reachL {g : Nat} (hg : g ≤ 60) {s s' : Int32} {k : Bool} (hs : k = true → s' = s) : ∀ m u c w μ, BC c → MM c μ → WM k w μ → WOK w → w.1 + m < 1000000 → rmN 1 (c 8 1).toNat g ≤ m → ∃ ν, lpN (l_X12_reaches_0 SX 81 s (Int32.ofNat g)) (u + m + 1) μ = some ((), ν) ∧ FM gM lkJ μ ν ∧ MM (mvF s' 1 g m c w).1 ν ∧ WM k (mvF s' 1 g m c w).2 ν := by
  intro m
  induction m with
  | zero =>
    intro u c w μ b h hw hk hm hr
    have bd := b.2.2.2.2.2
    have e := (rcD (a := (c 8 1).toNat) (g := g) (by omega) hg).2.1 (by omega)
    have m0 := h.2.2.2 1 (by decide)
    rw [ofIn (c 8 1) (by omega), e] at m0
    refine ⟨μ, ?_, FM.rf, h, hw⟩
    rw [zlp]
    simp (decide := true) (implicitDefEqProofs := false) only [l_X12_reaches_0, m0, zO, zR, zA, zT, zu1, zu2, zu3, zu4, gI, gL, pI, pL, pZ, aI, aL, sI, sZ, sL, Option.bind_some, Option.map_some, if_true, if_false, ite_true, ite_false, true_and, and_true, false_and, and_false, or_true, true_or, or_false, false_or, and_self, not_true_eq_false, not_false_eq_true, ↓reduceIte, reduceIte, Nat.reduceAdd, Nat.reduceMul, Nat.reduceSub, Nat.reduceMod, Nat.reduceDiv, Nat.reduceEqDiff, Nat.reduceLT, Nat.reduceLeDiff, Int32.reduceAdd, Int32.reduceSub, Int32.reduceMul, Int32.reduceDiv, Int32.reduceMod, Int32.reduceOfNat, Int32.reduceOfInt, Int32.reduceLT, Int32.reduceLE, Int32.reduceToNatClampNeg, Int32.reduceToInt]
  | succ m ih =>
    intro u c w μ b h hw hk hm hr
    have bd := b.2.2.2.2.2
    have m0 := h.2.2.2 1 (by decide)
    rw [ofIn (c 8 1) (by omega)] at m0
    rw [show u + (m + 1) + 1 = (u + m + 1) + 1 from rfl, zlp]
    by_cases t : c 8 1 = (g : Int)
    · rw [mvF_t t]
      refine ⟨μ, ?_, FM.rf, h, hw⟩
      rw [show (c 8 1).toNat = g by omega] at m0
      simp (decide := true) (implicitDefEqProofs := false) only [l_X12_reaches_0, m0, zO, zR, zA, zT, zu1, zu2, zu3, zu4, gI, gL, pI, pL, pZ, aI, aL, sI, sZ, sL, Option.bind_some, Option.map_some, if_true, if_false, ite_true, ite_false, true_and, and_true, false_and, and_false, or_true, true_or, or_false, false_or, and_self, not_true_eq_false, not_false_eq_true, ↓reduceIte, reduceIte, Nat.reduceAdd, Nat.reduceMul, Nat.reduceSub, Nat.reduceMod, Nat.reduceDiv, Nat.reduceEqDiff, Nat.reduceLT, Nat.reduceLeDiff, Int32.reduceAdd, Int32.reduceSub, Int32.reduceMul, Int32.reduceDiv, Int32.reduceMod, Int32.reduceOfNat, Int32.reduceOfInt, Int32.reduceLT, Int32.reduceLE, Int32.reduceToNatClampNeg, Int32.reduceToInt]
    · rw [mvF_f t]
      obtain ⟨a, Ea⟩ : ∃ a, a = (c 8 1).toNat := ⟨_, rfl⟩
      have B1 := b.nx (d := 1) (g := g) (Or.inr ⟨rfl, hg⟩) t
      rw [← Ea] at m0 hr B1 ⊢
      have ne : ¬ a = g := by omega
      have neI : ¬ Int32.ofNat a = Int32.ofNat g := by rw [neN (by omega) (by omega)]; exact ne
      obtain ⟨s1, s2⟩ := (rcD (a := a) (g := g) (by omega) hg).1 ne
      have D : MM (up c 8 1 ((nx 1 a g : Nat) : Int)) (upI μ 90 1 (Int32.ofNat (nx 1 a g))) := h.dial rfl
      have f0 : FM gM lkJ μ (upI μ 90 1 (Int32.ofNat (nx 1 a g))) := FM.uI (Or.inl ⟨by decide, Or.inl rfl⟩)
      obtain ⟨ν1, p1, f1, M1, W1⟩ := looksAtM D B1 (w := w) (k := k) (by unfold WM at *; simp only [zu1]; simpa using hw) hk (by omega) s s' hs
      have e8 : (up c 8 1 ((nx 1 a g : Nat) : Int) 8 1).toNat = nx 1 a g := by rw [up_at]; rfl
      obtain ⟨ν, p, f, g1, g2⟩ := ih u _ _ ν1 B1 M1 W1 (hk.m (by omega) s' (up c 8 1 ((nx 1 a g : Nat) : Int))) (by rw [mtF_1]; omega) (by rw [e8]; omega)
      refine ⟨ν, ?_, (f0.tr (f1.mo (fun q w => Or.inr w) (fun j w => w))).tr f, g1, g2⟩
      have le : (Int32.ofNat g ≤ Int32.ofNat a) = (g ≤ a) := leN (by omega) (by omega)
      have e : nx 1 a g = if a < g then a + 1 else a - 1 := rfl
      by_cases t' : a < g
      · rw [if_pos t'] at e
        rw [e] at p1
        have t2 : ¬ g ≤ a := by omega
        simp (decide := true) (implicitDefEqProofs := false) only [l_X12_reaches_0, m0, neI, le, t2, ofN1 a, p1, zO, zR, zA, zT, zu1, zu2, zu3, zu4, gI, gL, pI, pL, pZ, aI, aL, sI, sZ, sL, Option.bind_some, Option.map_some, if_true, if_false, ite_true, ite_false, true_and, and_true, false_and, and_false, or_true, true_or, or_false, false_or, and_self, not_true_eq_false, not_false_eq_true, ↓reduceIte, reduceIte, Nat.reduceAdd, Nat.reduceMul, Nat.reduceSub, Nat.reduceMod, Nat.reduceDiv, Nat.reduceEqDiff, Nat.reduceLT, Nat.reduceLeDiff, Int32.reduceAdd, Int32.reduceSub, Int32.reduceMul, Int32.reduceDiv, Int32.reduceMod, Int32.reduceOfNat, Int32.reduceOfInt, Int32.reduceLT, Int32.reduceLE, Int32.reduceToNatClampNeg, Int32.reduceToInt]
        exact p
      · rw [if_neg t'] at e
        rw [e] at p1
        have t2 : g ≤ a := by omega
        simp (decide := true) (implicitDefEqProofs := false) only [l_X12_reaches_0, m0, neI, le, t2, am1 a (by omega), p1, zO, zR, zA, zT, zu1, zu2, zu3, zu4, gI, gL, pI, pL, pZ, aI, aL, sI, sZ, sL, Option.bind_some, Option.map_some, if_true, if_false, ite_true, ite_false, true_and, and_true, false_and, and_false, or_true, true_or, or_false, false_or, and_self, not_true_eq_false, not_false_eq_true, ↓reduceIte, reduceIte, Nat.reduceAdd, Nat.reduceMul, Nat.reduceSub, Nat.reduceMod, Nat.reduceDiv, Nat.reduceEqDiff, Nat.reduceLT, Nat.reduceLeDiff, Int32.reduceAdd, Int32.reduceSub, Int32.reduceMul, Int32.reduceDiv, Int32.reduceMod, Int32.reduceOfNat, Int32.reduceOfInt, Int32.reduceLT, Int32.reduceLE, Int32.reduceToNatClampNeg, Int32.reduceToInt]
        exact p
theorem reachesM {g : Nat} (hg : g ≤ 60) {s s' : Int32} {k : Bool} (hs : k = true → s' = s) {c : Nat → Nat → Int} {w : WS} {μ : Mem} (b : BC c) (h : MM c μ) (hw : WM k w μ) (hk : WOK w) (hm : w.1 + 61 < 1000000) : ∃ ν, f_X12_reaches SX 81 s (Int32.ofNat g) μ = some ((), ν) ∧ FM gM lkJ μ ν ∧ MM (mvF s' 1 g 61 c w).1 ν ∧ WM k (mvF s' 1 g 61 c w).2 ν := by
  have bd := b.2.2.2.2.2
  have r10 := (rcD (a := (c 8 1).toNat) (g := g) (by omega) hg).2.2
  obtain ⟨ν, p, g1⟩ := reachL hg hs 61 4938 c w μ b h hw hk hm (by omega)
  refine ⟨ν, ?_, g1⟩
  simp (decide := true) (implicitDefEqProofs := false) only [f_X12_reaches, zO, zR, zA, zT, zu1, zu2, zu3, zu4, gI, gL, pI, pL, pZ, aI, aL, sI, sZ, sL, Option.bind_some, Option.map_some, if_true, if_false, ite_true, ite_false, true_and, and_true, false_and, and_false, or_true, true_or, or_false, false_or, and_self, not_true_eq_false, not_false_eq_true, ↓reduceIte, reduceIte, Nat.reduceAdd, Nat.reduceMul, Nat.reduceSub, Nat.reduceMod, Nat.reduceDiv, Nat.reduceEqDiff, Nat.reduceLT, Nat.reduceLeDiff, Int32.reduceAdd, Int32.reduceSub, Int32.reduceMul, Int32.reduceDiv, Int32.reduceMod, Int32.reduceOfNat, Int32.reduceOfInt, Int32.reduceLT, Int32.reduceLE, Int32.reduceToNatClampNeg, Int32.reduceToInt]
  exact p
/-- a STEP gone -/
def gsF (s : Int32) (d g : Nat) (c : Nat → Nat → Int) (w : WS) : (Nat → Nat → Int) × WS := if d = 0 ∨ d = 1 then mvF s d g 61 c w else (up c 8 d (g : Int), mtF s (up c 8 d (g : Int)) w)
def SOK (d g : Nat) : Prop := GO d g ∨ (d = 3 ∧ g ≤ 9999) ∨ (d = 6 ∧ g ≤ 9)
theorem SOK.bc {d g : Nat} (h : SOK d g) {c : Nat → Nat → Int} (b : BC c) : BC (up c 8 d (g : Int)) := by
  rcases h with (⟨rfl, hg⟩ | ⟨rfl, hg⟩) | ⟨rfl, hg⟩ | ⟨rfl, hg⟩
  · exact b.dial ⟨by decide, by decide, by decide, by show (0 : Int) ≤ _; omega, by show _ ≤ (19 : Int); omega⟩
  · exact b.dial ⟨by decide, by decide, by decide, by show (0 : Int) ≤ _; omega, by show _ ≤ (60 : Int); omega⟩
  · exact b.dial ⟨by decide, by decide, by decide, by show (0 : Int) ≤ _; omega, by show _ ≤ (9999 : Int); omega⟩
  · exact b.dial ⟨by decide, by decide, by decide, by show (0 : Int) ≤ _; omega, by show _ ≤ (9 : Int); omega⟩
theorem gsF_ok {s : Int32} {d g : Nat} (hd : SOK d g) {c : Nat → Nat → Int} {w : WS} (b : BC c) : BC (gsF s d g c w).1 ∧ S8 c (gsF s d g c w).1 ∧ (gsF s d g c w).2.1 ≤ w.1 + 61 ∧ (WOK w → w.1 + 61 < 1000000 → WOK (gsF s d g c w).2) := by
  unfold gsF
  by_cases t : d = 0 ∨ d = 1
  · rw [if_pos t]
    have hd' : GO d g := by
      unfold SOK GO at *; omega
    exact mvF_ok hd' 61 c w b
  · rw [if_neg t]
    refine ⟨hd.bc b, S8.u (c := c) (c' := c) (fun q _ => rfl), ?_, fun h g' => ?_⟩
    · show (mtF s (up c 8 d (g : Int)) w).1 ≤ w.1 + 61
      rw [mtF_1]; omega
    · have hm : w.1 < 2147483648 := by omega
      have q := WOK.m h hm s (up c 8 d (g : Int))
      dsimp only
      exact q
def goF (D G : Nat → Nat) : Nat → Nat → (Nat → Nat → Int) → WS → (Nat → Nat → Int) × WS
  | 0, _, c, w => (c, w)
  | m + 1, i, c, w => goF D G m (i + 1) (gsF (Int32.ofNat i) (D i) (G i) c w).1 (gsF (Int32.ofNat i) (D i) (G i) c w).2
theorem goF_ok {D G : Nat → Nat} : ∀ m i, (∀ j, i ≤ j → j < i + m → SOK (D j) (G j)) → ∀ c w, BC c → BC (goF D G m i c w).1 ∧ S8 c (goF D G m i c w).1 ∧ (goF D G m i c w).2.1 ≤ w.1 + 61 * m ∧ (WOK w → w.1 + 61 * m < 1000000 → WOK (goF D G m i c w).2) := by
  intro m
  induction m with
  | zero => intro i hs c w b; exact ⟨b, fun q _ => rfl, by show w.1 ≤ w.1 + 61 * 0; omega, fun h _ => h⟩
  | succ m ih =>
    intro i hs c w b
    obtain ⟨g1, g2, g3, g4⟩ := gsF_ok (s := Int32.ofNat i) (w := w) (hs i (by omega) (by omega)) b
    obtain ⟨i1, i2, i3, i4⟩ := ih (i + 1) (fun j h1 h2 => hs j (by omega) (by omega)) _ (gsF (Int32.ofNat i) (D i) (G i) c w).2 g1
    refine ⟨i1, g2.tr i2, ?_, fun h g => i4 (g4 h (by omega)) (by omega)⟩
    show (goF D G m (i + 1) (gsF (Int32.ofNat i) (D i) (G i) c w).1 (gsF (Int32.ofNat i) (D i) (G i) c w).2).2.1 ≤ w.1 + 61 * (m + 1)
    omega

