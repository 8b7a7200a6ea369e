theorem mvF_mo {s : Int32} {d g : Nat} : ∀ k c w, w.1 ≤ (mvF s d g k c w).2.1 := by
  intro k
  induction k with
  | zero => intro c w; exact Nat.le_refl _
  | succ k ih =>
    intro c w
    by_cases t : c 8 d = (g : Int)
    · rw [mvF_t t]; exact Nat.le_refl _
    · rw [mvF_f t]
      have := ih (up c 8 d ((nx d (c 8 d).toNat g : Nat) : Int)) (mtF s (up c 8 d ((nx d (c 8 d).toNat g : Nat) : Int)) w)
      rw [mtF_1] at this
      omega
theorem gsF_mo {s : Int32} {d g : Nat} {c : Nat → Nat → Int} {w : WS} : w.1 ≤ (gsF s d g c w).2.1 := by
  unfold gsF
  by_cases t : d = 0 ∨ d = 1
  · rw [if_pos t]; exact mvF_mo 61 c w
  · rw [if_neg t]
    have := mtF_1 s (up c 8 d (g : Int)) w
    dsimp only
    omega
theorem goF_mo {D G : Nat → Nat} : ∀ m i c w, w.1 ≤ (goF D G m i c w).2.1 := by
  intro m
  induction m with
  | zero => intro i c w; exact Nat.le_refl _
  | succ m ih => intro i c w; exact Nat.le_trans gsF_mo (ih (i + 1) _ _)
def PLx (P n : Nat) (D G : Nat → Nat) (μ : Mem) : Prop := μ.1 P 2 = Int32.ofNat n ∧ ∀ i, i < n → μ.1 (P + 1) i = Int32.ofNat (D i) ∧ μ.1 (P + 2) i = Int32.ofNat (G i)
theorem PLx.w {P n : Nat} {D G : Nat → Nat} {μ ν : Mem} {Q : Nat → Prop} (h : PLx P n D G μ) (f : Fr Q μ ν) (h0 : ¬ Q P) (h1 : ¬ Q (P + 1)) (h2 : ¬ Q (P + 2)) : PLx P n D G ν := by
  unfold PLx at *
  rw [(f P h0).1, (f (P + 1) h1).1, (f (P + 2) h2).1]
  exact h
theorem goF_s {D G : Nat → Nat} {m i : Nat} {c : Nat → Nat → Int} {w : WS} : goF D G (m + 1) i c w = goF D G m (i + 1) (gsF (Int32.ofNat i) (D i) (G i) c w).1 (gsF (Int32.ofNat i) (D i) (G i) c w).2 := rfl
theorem goLX {P : Nat} (hP : P = 63 ∨ P = 66) {n : Nat} {D G : Nat → Nat} (hn : n ≤ 25) (ok : ∀ i, i < n → SOK (D i) (G i)) : ∀ m i, i + m = n → ∀ u c w μ, BC c → CC 37 c μ → WX w μ → PLx P n D G μ → ∃ ν, lpN (l_X10_go_39 SX 69 P 37 55) (u + m + 1) (Int32.ofNat i, μ) = some ((), ν) ∧ Fr gX μ ν ∧ CC 37 (goF D G m i c w).1 ν ∧ WX (goF D G m i c w).2 ν := by
  intro m
  induction m with
  | zero =>
    intro i hi u c w μ b h hw hp
    have e : i = n := by omega
    subst e
    refine ⟨μ, ?_, Fr.rf, h, hw⟩
    have p1 := hp.1
    rw [zlp]
    rcases hP with rfl | rfl <;> simp (decide := true) (implicitDefEqProofs := false) only [l_X10_go_39, p1, leT, zO, zR, zA, zT, zu1, zu2, zu3, zu4, gI, gL, pI, pL, pZ, aI, aL, sI, sZ, sL, Option.bind_some, Option.map_some, if_true, if_false, ite_true, ite_false, true_and, and_true, false_and, and_false, or_true, true_or, or_false, false_or, and_self, not_true_eq_false, not_false_eq_true, ↓reduceIte, reduceIte, Nat.reduceAdd, Nat.reduceMul, Nat.reduceSub, Nat.reduceMod, Nat.reduceDiv, Nat.reduceEqDiff, Nat.reduceLT, Nat.reduceLeDiff, Int32.reduceAdd, Int32.reduceSub, Int32.reduceMul, Int32.reduceDiv, Int32.reduceMod, Int32.reduceOfNat, Int32.reduceOfInt, Int32.reduceLT, Int32.reduceLE, Int32.reduceToNatClampNeg, Int32.reduceToInt]
  | succ m ih =>
    intro i hi u c w μ b h hw hp
    have lf := leF (n := n) (i := i) (by omega) (by omega)
    have i1 := zin i 25 (by omega) (by decide)
    have i2 := ztn i (by omega)
    obtain ⟨p0, p12⟩ := id hp
    obtain ⟨p1, p2⟩ := p12 i (by omega)
    have so := ok i (by omega)
    rw [goF_s, show u + (m + 1) + 1 = (u + m + 1) + 1 from rfl, zlp]
    by_cases t : D i = 0 ∨ D i = 1
    · have go : GO (D i) (G i) := by unfold SOK GO at *; omega
      have e : gsF (Int32.ofNat i) (D i) (G i) c w = mvF (Int32.ofNat i) (D i) (G i) 61 c w := by unfold gsF; rw [if_pos t]
      rw [e]
      obtain ⟨ν1, q1, f1, C1, W1⟩ := moveX go (lpN (l_X10_go_39 SX 69 P 37 55) (u + m + 1)) P (Int32.ofNat i) 61 0 (by omega) 4938 c w μ b h hw
      have B1 := (mvF_ok (s := Int32.ofNat i) go 61 c w b).1
      have P1 : PLx P n D G ν1 := hp.w f1 (by unfold gX; omega) (by unfold gX; omega) (by unfold gX; omega)
      obtain ⟨ν, q, f, g1, g2⟩ := ih (i + 1) (by omega) u _ _ ν1 B1 C1 W1 P1
      refine ⟨ν, ?_, f1.tr f, g1, g2⟩
      rw [ofN1] at q1
      have q1' : lpN (l_X10_go_78 SX (lpN (l_X10_go_39 SX 69 P 37 55) (u + m + 1)) 69 P 37 55 (Int32.ofNat i) (Int32.ofNat (D i)) (Int32.ofNat (G i))) fu (0, μ) = some ((), ν) := q1.trans q
      rcases t with t | t
      · have p1' : μ.1 (P + 1) i = 0 := by rw [p1, t]; rfl
        rw [t] at q1'
        rcases hP with rfl | rfl <;> simp only [Nat.reduceAdd, Nat.reduceMul, Nat.reduceMod, Int32.reduceOfNat] at p1' p2 q1' ⊢ <;> simp (decide := true) (implicitDefEqProofs := false) only [l_X10_go_39, p0, lf, i1, i2, p1', p2, f_X6_isMove, q1', zO, zR, zA, zT, zu1, zu2, zu3, zu4, gI, gL, pI, pL, pZ, aI, aL, sI, sZ, sL, Option.bind_some, Option.map_some, if_true, if_false, ite_true, ite_false, true_and, and_true, false_and, and_false, or_true, true_or, or_false, false_or, and_self, not_true_eq_false, not_false_eq_true, ↓reduceIte, reduceIte, Nat.reduceAdd, Nat.reduceMul, Nat.reduceSub, Nat.reduceMod, Nat.reduceDiv, Nat.reduceEqDiff, Nat.reduceLT, Nat.reduceLeDiff, Int32.reduceAdd, Int32.reduceSub, Int32.reduceMul, Int32.reduceDiv, Int32.reduceMod, Int32.reduceOfNat, Int32.reduceOfInt, Int32.reduceLT, Int32.reduceLE, Int32.reduceToNatClampNeg, Int32.reduceToInt]
      · have p1' : μ.1 (P + 1) i = 1 := by rw [p1, t]; rfl
        rw [t] at q1'
        rcases hP with rfl | rfl <;> simp only [Nat.reduceAdd, Nat.reduceMul, Nat.reduceMod, Int32.reduceOfNat] at p1' p2 q1' ⊢ <;> simp (decide := true) (implicitDefEqProofs := false) only [l_X10_go_39, p0, lf, i1, i2, p1', p2, f_X6_isMove, q1', zO, zR, zA, zT, zu1, zu2, zu3, zu4, gI, gL, pI, pL, pZ, aI, aL, sI, sZ, sL, Option.bind_some, Option.map_some, if_true, if_false, ite_true, ite_false, true_and, and_true, false_and, and_false, or_true, true_or, or_false, false_or, and_self, not_true_eq_false, not_false_eq_true, ↓reduceIte, reduceIte, Nat.reduceAdd, Nat.reduceMul, Nat.reduceSub, Nat.reduceMod, Nat.reduceDiv, Nat.reduceEqDiff, Nat.reduceLT, Nat.reduceLeDiff, Int32.reduceAdd, Int32.reduceSub, Int32.reduceMul, Int32.reduceDiv, Int32.reduceMod, Int32.reduceOfNat, Int32.reduceOfInt, Int32.reduceLT, Int32.reduceLE, Int32.reduceToNatClampNeg, Int32.reduceToInt]
    · have d36 : D i = 3 ∨ D i = 6 := by unfold SOK GO at so; omega
      have d14 : D i < 14 := by omega
      have e : gsF (Int32.ofNat i) (D i) (G i) c w = (up c 8 (D i) (G i : Int), mtF (Int32.ofNat i) (up c 8 (D i) (G i : Int)) w) := by unfold gsF; rw [if_neg t]
      rw [e]
      dsimp only
      have B1 := so.bc b
      have C0 : CC 37 (up c 8 (D i) (G i : Int)) (upI μ 54 (D i) (Int32.ofNat (G i))) := h.dial rfl
      obtain ⟨ν1, q1, f1, C1, W1⟩ := meetX C0 B1 (w := w) (by unfold WX at *; simp only [zu1]; simpa using hw) (Int32.ofNat i)
      have f1' : Fr gX μ ν1 := Fr.tr (Fr.uI (Or.inl rfl)) (f1.mo (fun q hq => by unfold gX; omega))
      have P1 : PLx P n D G ν1 := hp.w f1' (by unfold gX; omega) (by unfold gX; omega) (by unfold gX; omega)
      obtain ⟨ν, q, f, g1, g2⟩ := ih (i + 1) (by omega) u _ _ ν1 B1 C1 W1 P1
      refine ⟨ν, ?_, f1'.tr f, g1, g2⟩
      have z0 : ¬ Int32.ofNat (D i) = 0 := by rcases d36 with g | g <;> rw [g] <;> decide
      have z1 : ¬ Int32.ofNat (D i) = 1 := by rcases d36 with g | g <;> rw [g] <;> decide
      have dz := zin (D i) 14 d14 (by decide)
      have dt := ztn (D i) (by omega)
      rcases hP with rfl | rfl
      · simp only [Nat.reduceAdd, Nat.reduceMul, Nat.reduceMod, Int32.reduceOfNat] at p1 p2
        simp (decide := true) (implicitDefEqProofs := false) only [l_X10_go_39, p0, lf, i1, i2, p1, p2, f_X6_isMove, z0, z1, dz, dt, q1, ofN1 i, zO, zR, zA, zT, zu1, zu2, zu3, zu4, gI, gL, pI, pL, pZ, aI, aL, sI, sZ, sL, Option.bind_some, Option.map_some, if_true, if_false, ite_true, ite_false, true_and, and_true, false_and, and_false, or_true, true_or, or_false, false_or, and_self, not_true_eq_false, not_false_eq_true, ↓reduceIte, reduceIte, Nat.reduceAdd, Nat.reduceMul, Nat.reduceSub, Nat.reduceMod, Nat.reduceDiv, Nat.reduceEqDiff, Nat.reduceLT, Nat.reduceLeDiff, Int32.reduceAdd, Int32.reduceSub, Int32.reduceMul, Int32.reduceDiv, Int32.reduceMod, Int32.reduceOfNat, Int32.reduceOfInt, Int32.reduceLT, Int32.reduceLE, Int32.reduceToNatClampNeg, Int32.reduceToInt]
        exact q
      · simp only [Nat.reduceAdd, Nat.reduceMul, Nat.reduceMod, Int32.reduceOfNat] at p1 p2
        simp (decide := true) (implicitDefEqProofs := false) only [l_X10_go_39, p0, lf, i1, i2, p1, p2, f_X6_isMove, z0, z1, dz, dt, q1, ofN1 i, zO, zR, zA, zT, zu1, zu2, zu3, zu4, gI, gL, pI, pL, pZ, aI, aL, sI, sZ, sL, Option.bind_some, Option.map_some, if_true, if_false, ite_true, ite_false, true_and, and_true, false_and, and_false, or_true, true_or, or_false, false_or, and_self, not_true_eq_false, not_false_eq_true, ↓reduceIte, reduceIte, Nat.reduceAdd, Nat.reduceMul, Nat.reduceSub, Nat.reduceMod, Nat.reduceDiv, Nat.reduceEqDiff, Nat.reduceLT, Nat.reduceLeDiff, Int32.reduceAdd, Int32.reduceSub, Int32.reduceMul, Int32.reduceDiv, Int32.reduceMod, Int32.reduceOfNat, Int32.reduceOfInt, Int32.reduceLT, Int32.reduceLE, Int32.reduceToNatClampNeg, Int32.reduceToInt]
        exact q
def W0 : WS := (0, -5, -5, 0, 0)
def W1 (c : Nat → Nat → Int) : WS := mtF (-5) c W0
theorem W0_ok : WOK W0 := Or.inl ⟨rfl, rfl⟩
theorem W1_1 (c : Nat → Nat → Int) : (W1 c).1 = 1 := mtF_1 (-5) c W0
theorem W1_ok (c : Nat → Nat → Int) : WOK (W1 c) := WOK.m W0_ok (by decide) (-5) c
theorem goX {P : Nat} (hP : P = 63 ∨ P = 66) {n : Nat} {D G : Nat → Nat} (hn : n ≤ 25) (ok : ∀ i, i < n → SOK (D i) (G i)) {c : Nat → Nat → Int} {μ : Mem} (b : BC c) (h : CC 37 c μ) (hp : PLx P n D G μ) : ∃ ν, f_X10_go SX 69 P 37 55 μ = some ((), ν) ∧ Fr gX μ ν ∧ CC 37 (goF D G n 0 c (W1 c)).1 ν ∧ WX (goF D G n 0 c (W1 c)).2 ν := by
  obtain ⟨μ5, E5⟩ : ∃ m : Mem, m = upI (upI (upI (upI (upI μ 69 0 0) 69 1 (-5)) 69 2 (-5)) 69 3 0) 69 4 2147483647 := ⟨_, rfl⟩
  have f5 : Fr gX μ μ5 := by
    rw [E5]
    exact Fr.tr (Fr.tr (Fr.tr (Fr.tr (Fr.uI (by unfold gX; omega)) (Fr.uI (by unfold gX; omega))) (Fr.uI (by unfold gX; omega))) (Fr.uI (by unfold gX; omega))) (Fr.uI (by unfold gX; omega))
  have f5' : Fr (fun q => q = 69) μ μ5 := by
    rw [E5]
    exact Fr.tr (Fr.tr (Fr.tr (Fr.tr (Fr.uI rfl) (Fr.uI rfl)) (Fr.uI rfl)) (Fr.uI rfl)) (Fr.uI rfl)
  have C5 : CC 37 c μ5 := h.w _ f5' (fun q g1 g2 => by omega)
  have X5 : WX W0 μ5 := by
    rw [E5]
    refine ⟨?_, ?_, ?_, ?_, ?_⟩
    · simp (decide := true) (implicitDefEqProofs := false) only [zO, zR, zA, zT, zu1, zu2, zu3, zu4, gI, gL, pI, pL, pZ, aI, aL, sI, sZ, sL, Option.bind_some, Option.map_some, if_true, if_false, ite_true, ite_false, true_and, and_true, false_and, and_false, or_true, true_or, or_false, false_or, and_self, not_true_eq_false, not_false_eq_true, ↓reduceIte, reduceIte, Nat.reduceAdd, Nat.reduceMul, Nat.reduceSub, Nat.reduceMod, Nat.reduceDiv, Nat.reduceEqDiff, Nat.reduceLT, Nat.reduceLeDiff, Int32.reduceAdd, Int32.reduceSub, Int32.reduceMul, Int32.reduceDiv, Int32.reduceMod, Int32.reduceOfNat, Int32.reduceOfInt, Int32.reduceLT, Int32.reduceLE, Int32.reduceToNatClampNeg, Int32.reduceToInt]
    · simp (decide := true) (implicitDefEqProofs := false) only [zO, zR, zA, zT, zu1, zu2, zu3, zu4, gI, gL, pI, pL, pZ, aI, aL, sI, sZ, sL, Option.bind_some, Option.map_some, if_true, if_false, ite_true, ite_false, true_and, and_true, false_and, and_false, or_true, true_or, or_false, false_or, and_self, not_true_eq_false, not_false_eq_true, ↓reduceIte, reduceIte, Nat.reduceAdd, Nat.reduceMul, Nat.reduceSub, Nat.reduceMod, Nat.reduceDiv, Nat.reduceEqDiff, Nat.reduceLT, Nat.reduceLeDiff, Int32.reduceAdd, Int32.reduceSub, Int32.reduceMul, Int32.reduceDiv, Int32.reduceMod, Int32.reduceOfNat, Int32.reduceOfInt, Int32.reduceLT, Int32.reduceLE, Int32.reduceToNatClampNeg, Int32.reduceToInt]
    · simp (decide := true) (implicitDefEqProofs := false) only [zO, zR, zA, zT, zu1, zu2, zu3, zu4, gI, gL, pI, pL, pZ, aI, aL, sI, sZ, sL, Option.bind_some, Option.map_some, if_true, if_false, ite_true, ite_false, true_and, and_true, false_and, and_false, or_true, true_or, or_false, false_or, and_self, not_true_eq_false, not_false_eq_true, ↓reduceIte, reduceIte, Nat.reduceAdd, Nat.reduceMul, Nat.reduceSub, Nat.reduceMod, Nat.reduceDiv, Nat.reduceEqDiff, Nat.reduceLT, Nat.reduceLeDiff, Int32.reduceAdd, Int32.reduceSub, Int32.reduceMul, Int32.reduceDiv, Int32.reduceMod, Int32.reduceOfNat, Int32.reduceOfInt, Int32.reduceLT, Int32.reduceLE, Int32.reduceToNatClampNeg, Int32.reduceToInt]
    · simp (decide := true) (implicitDefEqProofs := false) only [zO, zR, zA, zT, zu1, zu2, zu3, zu4, gI, gL, pI, pL, pZ, aI, aL, sI, sZ, sL, Option.bind_some, Option.map_some, if_true, if_false, ite_true, ite_false, true_and, and_true, false_and, and_false, or_true, true_or, or_false, false_or, and_self, not_true_eq_false, not_false_eq_true, ↓reduceIte, reduceIte, Nat.reduceAdd, Nat.reduceMul, Nat.reduceSub, Nat.reduceMod, Nat.reduceDiv, Nat.reduceEqDiff, Nat.reduceLT, Nat.reduceLeDiff, Int32.reduceAdd, Int32.reduceSub, Int32.reduceMul, Int32.reduceDiv, Int32.reduceMod, Int32.reduceOfNat, Int32.reduceOfInt, Int32.reduceLT, Int32.reduceLE, Int32.reduceToNatClampNeg, Int32.reduceToInt]
    · simp (decide := true) (implicitDefEqProofs := false) only [zO, zR, zA, zT, zu1, zu2, zu3, zu4, gI, gL, pI, pL, pZ, aI, aL, sI, sZ, sL, Option.bind_some, Option.map_some, if_true, if_false, ite_true, ite_false, true_and, and_true, false_and, and_false, or_true, true_or, or_false, false_or, and_self, not_true_eq_false, not_false_eq_true, ↓reduceIte, reduceIte, Nat.reduceAdd, Nat.reduceMul, Nat.reduceSub, Nat.reduceMod, Nat.reduceDiv, Nat.reduceEqDiff, Nat.reduceLT, Nat.reduceLeDiff, Int32.reduceAdd, Int32.reduceSub, Int32.reduceMul, Int32.reduceDiv, Int32.reduceMod, Int32.reduceOfNat, Int32.reduceOfInt, Int32.reduceLT, Int32.reduceLE, Int32.reduceToNatClampNeg, Int32.reduceToInt]
  obtain ⟨ν1, q1, f1, C1, X1⟩ := meetX C5 b X5 (-5)
  have f1' : Fr gX μ5 ν1 := f1.mo (fun q hq => by unfold gX; omega)
  have P1 : PLx P n D G ν1 := (hp.w f5 (by unfold gX; omega) (by unfold gX; omega) (by unfold gX; omega)).w f1' (by unfold gX; omega) (by unfold gX; omega) (by unfold gX; omega)
  obtain ⟨ν, q, f, g1, g2⟩ := goLX hP hn ok n 0 (by omega) (4999 - n) c (W1 c) ν1 b C1 X1 P1
  rw [show 4999 - n + n + 1 = fu by show _ = 5000; omega] at q
  refine ⟨ν, ?_, (f5.tr f1').tr f, g1, g2⟩
  simp (decide := true) (implicitDefEqProofs := false) only [f_X10_go, ← E5, q1, zO, zR, zA, zT, zu1, zu2, zu3, zu4, gI, gL, pI, pL, pZ, aI, aL, sI, sZ, sL, Option.bind_some, Option.map_some, if_true, if_false, ite_true, ite_false, true_and, and_true, false_and, and_false, or_true, true_or, or_false, false_or, and_self, not_true_eq_false, not_false_eq_true, ↓reduceIte, reduceIte, Nat.reduceAdd, Nat.reduceMul, Nat.reduceSub, Nat.reduceMod, Nat.reduceDiv, Nat.reduceEqDiff, Nat.reduceLT, Nat.reduceLeDiff, Int32.reduceAdd, Int32.reduceSub, Int32.reduceMul, Int32.reduceDiv, Int32.reduceMod, Int32.reduceOfNat, Int32.reduceOfInt, Int32.reduceLT, Int32.reduceLE, Int32.reduceToNatClampNeg, Int32.reduceToInt]
  exact q
/-- the reference's PLAN -/
def PMx (n : Nat) (K V : Nat → Nat) (μ : Mem) : Prop := μ.1 81 24 = Int32.ofNat n ∧ ∀ i, i < n → μ.1 99 i = Int32.ofNat (K i) ∧ μ.1 100 i = Int32.ofNat (V i)
theorem PMx.w {n : Nat} {K V : Nat → Nat} {μ ν : Mem} {P J : Nat → Prop} (h : PMx n K V μ) (f : FM P J μ ν) (h0 : ¬ J 24) (h1 : ¬ P 99) (h2 : ¬ P 100) : PMx n K V ν := by
  unfold PMx at *
  rw [(f.2 24 h0).1, (f.1 99 (by decide) h1).1, (f.1 100 (by decide) h2).1]
  exact h
theorem sokW {k v : Nat} (hk : k < 5) (hv : v ≤ mOf k) : SOK (wOf k) v := by
  have e : k = 0 ∨ k = 1 ∨ k = 2 ∨ k = 3 ∨ k = 4 := by omega
  rcases e with rfl | rfl | rfl | rfl | rfl
  · exact Or.inr (Or.inl ⟨rfl, hv⟩)
  · exact Or.inl (Or.inl ⟨rfl, hv⟩)
  · exact Or.inl (Or.inr ⟨rfl, hv⟩)
  · exact Or.inr (Or.inl ⟨rfl, hv⟩)
  · exact Or.inr (Or.inr ⟨rfl, hv⟩)
theorem goesStepM {i k v : Nat} (hi : i < 25) (hk : k < 5) (hv : v ≤ mOf k) {c : Nat → Nat → Int} {w : WS} {μ : Mem} (b : BC c) (h : MM c μ) (hw : WM true w μ) (hok : WOK w) (hm : w.1 + 61 < 1000000) (e1 : μ.1 99 i = Int32.ofNat k) (e2 : μ.1 100 i = Int32.ofNat v) : ∃ ν, f_X12_goesStep SX 81 (Int32.ofNat i) μ = some ((), ν) ∧ FM gM lkJ μ ν ∧ MM (gsF (Int32.ofNat i) (wOf k) v c w).1 ν ∧ WM true (gsF (Int32.ofNat i) (wOf k) v c w).2 ν := by
  have i1 := zin i 40 (by omega) (by decide)
  have i2 := ztn i (by omega)
  have so := sokW hk hv
  by_cases k1 : k = 1
  · subst k1
    have e : gsF (Int32.ofNat i) (wOf 1) v c w = mvF (Int32.ofNat i) 0 v 61 c w := by rw [show wOf 1 = 0 from rfl]; unfold gsF; rw [if_pos (Or.inl rfl)]
    rw [e]
    obtain ⟨ν, p, g⟩ := slewsM (g := v) hv (s := Int32.ofNat i) (s' := Int32.ofNat i) (k := true) (fun _ => rfl) b h hw hok hm
    refine ⟨ν, ?_, g⟩
    simp only [Nat.reduceAdd, Nat.reduceMul, Nat.reduceMod, Int32.reduceOfNat] at e1
    simp (decide := true) (implicitDefEqProofs := false) only [f_X12_goesStep, i1, i2, e1, e2, p, zO, zR, zA, zT, zu1, zu2, zu3, zu4, gI, gL, pI, pL, pZ, aI, aL, sI, sZ, sL, Option.bind_some, Option.map_some, if_true, if_false, ite_true, ite_false, true_and, and_true, false_and, and_false, or_true, true_or, or_false, false_or, and_self, not_true_eq_false, not_false_eq_true, ↓reduceIte, reduceIte, Nat.reduceAdd, Nat.reduceMul, Nat.reduceSub, Nat.reduceMod, Nat.reduceDiv, Nat.reduceEqDiff, Nat.reduceLT, Nat.reduceLeDiff, Int32.reduceAdd, Int32.reduceSub, Int32.reduceMul, Int32.reduceDiv, Int32.reduceMod, Int32.reduceOfNat, Int32.reduceOfInt, Int32.reduceLT, Int32.reduceLE, Int32.reduceToNatClampNeg, Int32.reduceToInt]
  · by_cases k2 : k = 2
    · subst k2
      have e : gsF (Int32.ofNat i) (wOf 2) v c w = mvF (Int32.ofNat i) 1 v 61 c w := by rw [show wOf 2 = 1 from rfl]; unfold gsF; rw [if_pos (Or.inr rfl)]
      rw [e]
      obtain ⟨ν, p, g⟩ := reachesM (g := v) hv (s := Int32.ofNat i) (s' := Int32.ofNat i) (k := true) (fun _ => rfl) b h hw hok hm
      refine ⟨ν, ?_, g⟩
      simp only [Nat.reduceAdd, Nat.reduceMul, Nat.reduceMod, Int32.reduceOfNat] at e1
      simp (decide := true) (implicitDefEqProofs := false) only [f_X12_goesStep, i1, i2, e1, e2, p, zO, zR, zA, zT, zu1, zu2, zu3, zu4, gI, gL, pI, pL, pZ, aI, aL, sI, sZ, sL, Option.bind_some, Option.map_some, if_true, if_false, ite_true, ite_false, true_and, and_true, false_and, and_false, or_true, true_or, or_false, false_or, and_self, not_true_eq_false, not_false_eq_true, ↓reduceIte, reduceIte, Nat.reduceAdd, Nat.reduceMul, Nat.reduceSub, Nat.reduceMod, Nat.reduceDiv, Nat.reduceEqDiff, Nat.reduceLT, Nat.reduceLeDiff, Int32.reduceAdd, Int32.reduceSub, Int32.reduceMul, Int32.reduceDiv, Int32.reduceMod, Int32.reduceOfNat, Int32.reduceOfInt, Int32.reduceLT, Int32.reduceLE, Int32.reduceToNatClampNeg, Int32.reduceToInt]
    · have wk : ∀ k, k < 5 → k ≠ 1 → k ≠ 2 → (¬ (wOf k = 0 ∨ wOf k = 1)) ∧ wOf k < 14 := by decide
      obtain ⟨wk1, wk2⟩ := wk k hk k1 k2
      have e : gsF (Int32.ofNat i) (wOf k) v c w = (up c 8 (wOf k) (v : Int), mtF (Int32.ofNat i) (up c 8 (wOf k) (v : Int)) w) := by unfold gsF; rw [if_neg wk1]
      rw [e]
      dsimp only
      have D : MM (up c 8 (wOf k) (v : Int)) (upI μ 90 (wOf k) (Int32.ofNat v)) := h.dial rfl
      obtain ⟨ν1, p1, f1, M1, X1⟩ := looksAtM D (so.bc b) (w := w) (k := true) (by unfold WM at *; simp only [zu1]; simpa using hw) hok (by omega) (Int32.ofNat i) (Int32.ofNat i) (fun _ => rfl)
      have f0 : FM gM lkJ μ (upI μ 90 (wOf k) (Int32.ofNat v)) := FM.uI (Or.inl ⟨by decide, Or.inl rfl⟩)
      refine ⟨ν1, ?_, f0.tr (f1.mo (fun q w => Or.inr w) (fun j w => w)), M1, X1⟩
      have z1 : ¬ Int32.ofNat k = 1 := by
        have : (Int32.ofNat k = 1) = (k = 1) := neN (b := 1) (by omega) (by decide)
        rw [this]; exact k1
      have z2 : ¬ Int32.ofNat k = 2 := by
        have : (Int32.ofNat k = 2) = (k = 2) := neN (b := 2) (by omega) (by decide)
        rw [this]; exact k2
      have wo := whatOf_at μ k hk
      simp (decide := true) (implicitDefEqProofs := false) only [f_X12_goesStep, i1, i2, e1, e2, z1, z2, wo, zin (wOf k) 14 wk2 (by decide), ztn (wOf k) (by omega), p1, zO, zR, zA, zT, zu1, zu2, zu3, zu4, gI, gL, pI, pL, pZ, aI, aL, sI, sZ, sL, Option.bind_some, Option.map_some, if_true, if_false, ite_true, ite_false, true_and, and_true, false_and, and_false, or_true, true_or, or_false, false_or, and_self, not_true_eq_false, not_false_eq_true, ↓reduceIte, reduceIte, Nat.reduceAdd, Nat.reduceMul, Nat.reduceSub, Nat.reduceMod, Nat.reduceDiv, Nat.reduceEqDiff, Nat.reduceLT, Nat.reduceLeDiff, Int32.reduceAdd, Int32.reduceSub, Int32.reduceMul, Int32.reduceDiv, Int32.reduceMod, Int32.reduceOfNat, Int32.reduceOfInt, Int32.reduceLT, Int32.reduceLE, Int32.reduceToNatClampNeg, Int32.reduceToInt]
theorem goLM {n : Nat} {K V : Nat → Nat} (hn : n ≤ 25) (ok : ∀ i, i < n → K i < 5 ∧ V i ≤ mOf (K i)) : ∀ m i, i + m = n → ∀ u c w μ, BC c → MM c μ → WM true w μ → WOK w → w.1 + 61 * m < 1000000 → PMx n K V μ → ∃ ν, lpN (l_X12_goesAll_6 SX 81) (u + m + 1) (Int32.ofNat i, μ) = some ((), ν) ∧ FM gM lkJ μ ν ∧ MM (goF (fun i => wOf (K i)) V m i c w).1 ν ∧ WM true (goF (fun i => wOf (K i)) V m i c w).2 ν := by
  intro m
  induction m with
  | zero =>
    intro i hi u c w μ b h hw hok hm hp
    have e : i = n := by omega
    subst e
    refine ⟨μ, ?_, FM.rf, h, hw⟩
    have p1 := hp.1
    rw [zlp]
    simp (decide := true) (implicitDefEqProofs := false) only [l_X12_goesAll_6, p1, leT, zO, zR, zA, zT, zu1, zu2, zu3, zu4, gI, gL, pI, pL, pZ, aI, aL, sI, sZ, sL, Option.bind_some, Option.map_some, if_true, if_false, ite_true, ite_false, true_and, and_true, false_and, and_false, or_true, true_or, or_false, false_or, and_self, not_true_eq_false, not_false_eq_true, ↓reduceIte, reduceIte, Nat.reduceAdd, Nat.reduceMul, Nat.reduceSub, Nat.reduceMod, Nat.reduceDiv, Nat.reduceEqDiff, Nat.reduceLT, Nat.reduceLeDiff, Int32.reduceAdd, Int32.reduceSub, Int32.reduceMul, Int32.reduceDiv, Int32.reduceMod, Int32.reduceOfNat, Int32.reduceOfInt, Int32.reduceLT, Int32.reduceLE, Int32.reduceToNatClampNeg, Int32.reduceToInt]
  | succ m ih =>
    intro i hi u c w μ b h hw hok hm hp
    have lf := leF (n := n) (i := i) (by omega) (by omega)
    obtain ⟨p0, p12⟩ := id hp
    obtain ⟨p1, p2⟩ := p12 i (by omega)
    obtain ⟨k1, k2⟩ := ok i (by omega)
    obtain ⟨ν1, q1, f1, M1, X1⟩ := goesStepM (i := i) (by omega) k1 k2 b h hw hok (by omega) p1 p2
    obtain ⟨g1, g2, g3, g4⟩ := gsF_ok (s := Int32.ofNat i) (w := w) (sokW k1 k2) b
    have P1 : PMx n K V ν1 := hp.w f1 (by unfold lkJ uJ; omega) (by unfold gM uP; omega) (by unfold gM uP; omega)
    rw [goF_s]
    obtain ⟨ν, q, f, r1, r2⟩ := ih (i + 1) (by omega) u _ _ ν1 g1 M1 X1 (g4 hok (by omega)) (by omega) P1
    refine ⟨ν, ?_, f1.tr f, r1, r2⟩
    rw [show u + (m + 1) + 1 = (u + m + 1) + 1 from rfl, zlp]
    simp (decide := true) (implicitDefEqProofs := false) only [l_X12_goesAll_6, p0, lf, q1, ofN1 i, zO, zR, zA, zT, zu1, zu2, zu3, zu4, gI, gL, pI, pL, pZ, aI, aL, sI, sZ, sL, Option.bind_some, Option.map_some, if_true, if_false, ite_true, ite_false, true_and, and_true, false_and, and_false, or_true, true_or, or_false, false_or, and_self, not_true_eq_false, not_false_eq_true, ↓reduceIte, reduceIte, Nat.reduceAdd, Nat.reduceMul, Nat.reduceSub, Nat.reduceMod, Nat.reduceDiv, Nat.reduceEqDiff, Nat.reduceLT, Nat.reduceLeDiff, Int32.reduceAdd, Int32.reduceSub, Int32.reduceMul, Int32.reduceDiv, Int32.reduceMod, Int32.reduceOfNat, Int32.reduceOfInt, Int32.reduceLT, Int32.reduceLE, Int32.reduceToNatClampNeg, Int32.reduceToInt]
    exact q
theorem beginsM {c : Nat → Nat → Int} {μ : Mem} (b : BC c) (h : MM c μ) (k : Bool) : ∃ ν, f_X12_begins SX 81 μ = some ((), ν) ∧ FM uP lkJ μ ν ∧ MM c ν ∧ WM k (W1 c) ν := by
  obtain ⟨μ4, E4⟩ : ∃ m : Mem, m = upI (upI (upI (upI μ 81 30 0) 81 31 (-5)) 81 32 (-5)) 81 33 0 := ⟨_, rfl⟩
  have f4 : FM uP lkJ μ μ4 := by
    rw [E4]
    exact FM.tr (FM.tr (FM.tr (FM.uI (Or.inr ⟨rfl, by unfold lkJ; omega⟩)) (FM.uI (Or.inr ⟨rfl, by unfold lkJ; omega⟩))) (FM.uI (Or.inr ⟨rfl, by unfold lkJ; omega⟩))) (FM.uI (Or.inr ⟨rfl, by unfold lkJ; omega⟩))
  have M4 : MM c μ4 := h.w f4 (fun q g1 g2 => by unfold uP; omega) (by unfold lkJ uJ; omega)
  have X4 : WM k W0 μ4 := by
    rw [E4]
    refine ⟨?_, ?_, fun _ => ?_, ?_, fun g => absurd rfl g⟩
    · simp (decide := true) (implicitDefEqProofs := false) only [zO, zR, zA, zT, zu1, zu2, zu3, zu4, gI, gL, pI, pL, pZ, aI, aL, sI, sZ, sL, Option.bind_some, Option.map_some, if_true, if_false, ite_true, ite_false, true_and, and_true, false_and, and_false, or_true, true_or, or_false, false_or, and_self, not_true_eq_false, not_false_eq_true, ↓reduceIte, reduceIte, Nat.reduceAdd, Nat.reduceMul, Nat.reduceSub, Nat.reduceMod, Nat.reduceDiv, Nat.reduceEqDiff, Nat.reduceLT, Nat.reduceLeDiff, Int32.reduceAdd, Int32.reduceSub, Int32.reduceMul, Int32.reduceDiv, Int32.reduceMod, Int32.reduceOfNat, Int32.reduceOfInt, Int32.reduceLT, Int32.reduceLE, Int32.reduceToNatClampNeg, Int32.reduceToInt]
    · simp (decide := true) (implicitDefEqProofs := false) only [zO, zR, zA, zT, zu1, zu2, zu3, zu4, gI, gL, pI, pL, pZ, aI, aL, sI, sZ, sL, Option.bind_some, Option.map_some, if_true, if_false, ite_true, ite_false, true_and, and_true, false_and, and_false, or_true, true_or, or_false, false_or, and_self, not_true_eq_false, not_false_eq_true, ↓reduceIte, reduceIte, Nat.reduceAdd, Nat.reduceMul, Nat.reduceSub, Nat.reduceMod, Nat.reduceDiv, Nat.reduceEqDiff, Nat.reduceLT, Nat.reduceLeDiff, Int32.reduceAdd, Int32.reduceSub, Int32.reduceMul, Int32.reduceDiv, Int32.reduceMod, Int32.reduceOfNat, Int32.reduceOfInt, Int32.reduceLT, Int32.reduceLE, Int32.reduceToNatClampNeg, Int32.reduceToInt]
    · simp (decide := true) (implicitDefEqProofs := false) only [zO, zR, zA, zT, zu1, zu2, zu3, zu4, gI, gL, pI, pL, pZ, aI, aL, sI, sZ, sL, Option.bind_some, Option.map_some, if_true, if_false, ite_true, ite_false, true_and, and_true, false_and, and_false, or_true, true_or, or_false, false_or, and_self, not_true_eq_false, not_false_eq_true, ↓reduceIte, reduceIte, Nat.reduceAdd, Nat.reduceMul, Nat.reduceSub, Nat.reduceMod, Nat.reduceDiv, Nat.reduceEqDiff, Nat.reduceLT, Nat.reduceLeDiff, Int32.reduceAdd, Int32.reduceSub, Int32.reduceMul, Int32.reduceDiv, Int32.reduceMod, Int32.reduceOfNat, Int32.reduceOfInt, Int32.reduceLT, Int32.reduceLE, Int32.reduceToNatClampNeg, Int32.reduceToInt]
    · simp (decide := true) (implicitDefEqProofs := false) only [zO, zR, zA, zT, zu1, zu2, zu3, zu4, gI, gL, pI, pL, pZ, aI, aL, sI, sZ, sL, Option.bind_some, Option.map_some, if_true, if_false, ite_true, ite_false, true_and, and_true, false_and, and_false, or_true, true_or, or_false, false_or, and_self, not_true_eq_false, not_false_eq_true, ↓reduceIte, reduceIte, Nat.reduceAdd, Nat.reduceMul, Nat.reduceSub, Nat.reduceMod, Nat.reduceDiv, Nat.reduceEqDiff, Nat.reduceLT, Nat.reduceLeDiff, Int32.reduceAdd, Int32.reduceSub, Int32.reduceMul, Int32.reduceDiv, Int32.reduceMod, Int32.reduceOfNat, Int32.reduceOfInt, Int32.reduceLT, Int32.reduceLE, Int32.reduceToNatClampNeg, Int32.reduceToInt]
  obtain ⟨ν, p, f, m, x⟩ := looksAtM M4 b X4 W0_ok (by decide) (-5) (-5) (fun _ => rfl)
  refine ⟨ν, ?_, f4.tr f, m, x⟩
  simp (decide := true) (implicitDefEqProofs := false) only [f_X12_begins, ← E4, p, zO, zR, zA, zT, zu1, zu2, zu3, zu4, gI, gL, pI, pL, pZ, aI, aL, sI, sZ, sL, Option.bind_some, Option.map_some, if_true, if_false, ite_true, ite_false, true_and, and_true, false_and, and_false, or_true, true_or, or_false, false_or, and_self, not_true_eq_false, not_false_eq_true, ↓reduceIte, reduceIte, Nat.reduceAdd, Nat.reduceMul, Nat.reduceSub, Nat.reduceMod, Nat.reduceDiv, Nat.reduceEqDiff, Nat.reduceLT, Nat.reduceLeDiff, Int32.reduceAdd, Int32.reduceSub, Int32.reduceMul, Int32.reduceDiv, Int32.reduceMod, Int32.reduceOfNat, Int32.reduceOfInt, Int32.reduceLT, Int32.reduceLE, Int32.reduceToNatClampNeg, Int32.reduceToInt]
theorem goesAllM {n : Nat} {K V : Nat → Nat} (hn : n ≤ 25) (ok : ∀ i, i < n → K i < 5 ∧ V i ≤ mOf (K i)) {c : Nat → Nat → Int} {μ : Mem} (b : BC c) (h : MM c μ) (hp : PMx n K V μ) : ∃ ν, f_X12_goesAll SX 81 μ = some ((), ν) ∧ FM gM lkJ μ ν ∧ MM (goF (fun i => wOf (K i)) V n 0 c (W1 c)).1 ν ∧ WM true (goF (fun i => wOf (K i)) V n 0 c (W1 c)).2 ν := by
  obtain ⟨ν1, p1, f1, M1, X1⟩ := beginsM b h true
  have f1' : FM gM lkJ μ ν1 := f1.mo (fun q w => Or.inr w) (fun j w => w)
  have P1 : PMx n K V ν1 := hp.w f1' (by unfold lkJ uJ; omega) (by unfold gM uP; omega) (by unfold gM uP; omega)
  obtain ⟨ν, q, f, r⟩ := goLM hn ok n 0 (by omega) (4999 - n) c (W1 c) ν1 b M1 X1 (W1_ok c) (by rw [W1_1]; omega) P1
  rw [show 4999 - n + n + 1 = fu by show _ = 5000; omega] at q
  refine ⟨ν, ?_, f1'.tr f, r⟩
  simp (decide := true) (implicitDefEqProofs := false) only [f_X12_goesAll, p1, zO, zR, zA, zT, zu1, zu2, zu3, zu4, gI, gL, pI, pL, pZ, aI, aL, sI, sZ, sL, Option.bind_some, Option.map_some, if_true, if_false, ite_true, ite_false, true_and, and_true, false_and, and_false, or_true, true_or, or_false, false_or, and_self, not_true_eq_false, not_false_eq_true, ↓reduceIte, reduceIte, Nat.reduceAdd, Nat.reduceMul, Nat.reduceSub, Nat.reduceMod, Nat.reduceDiv, Nat.reduceEqDiff, Nat.reduceLT, Nat.reduceLeDiff, Int32.reduceAdd, Int32.reduceSub, Int32.reduceMul, Int32.reduceDiv, Int32.reduceMod, Int32.reduceOfNat, Int32.reduceOfInt, Int32.reduceLT, Int32.reduceLE, Int32.reduceToNatClampNeg, Int32.reduceToInt]
  exact q

