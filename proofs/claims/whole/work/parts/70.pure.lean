theorem ltN {a b : Nat} (ha : a < 2147483648) (hb : b < 2147483648) : (Int32.ofNat a < Int32.ofNat b) = (a < b) := by
  have := ylt32 (a : Nat) (b : Nat) (by omega) (by omega) (by omega) (by omega)
  exact propext ⟨fun g => by have := this.mp g; omega, fun g => this.mpr (by omega)⟩
theorem leN {a b : Nat} (ha : a < 2147483648) (hb : b < 2147483648) : (Int32.ofNat a ≤ Int32.ofNat b) = (a ≤ b) := by
  have := yle32 (a : Nat) (b : Nat) (by omega) (by omega) (by omega) (by omega)
  exact propext ⟨fun g => by have := this.mp g; omega, fun g => this.mpr (by omega)⟩
theorem nnB (a : Int32) (k : Nat) (hk : k < 2147483648) (h1 : a ≤ Int32.ofNat k) (h2 : 0 ≤ a) : ∃ n, n ≤ k ∧ a = Int32.ofNat n := by
  have e := zof a h2
  refine ⟨a.toNatClampNeg, ?_, e⟩
  have b2 := Int32.toInt_lt a
  have h3 : a.toNatClampNeg < 2147483648 := by simp only [Int32.toNatClampNeg]; omega
  rw [e, leN h3 hk] at h1
  exact h1
theorem fillL {o : Nat} (ho : isA SX .long o = some 30) : ∀ m i, i + m = 30 → ∀ u μ, ∃ ν, lpN (l_J7_fill_d0a16_6 SX o 0 30) (u + m + 1) (Int32.ofNat i, μ) = some ((), ν) ∧ Fr (fun q => q = o) μ ν ∧ ν.1 = μ.1 ∧ (∀ j, ν.2 o j = if i ≤ j ∧ j < 30 then 0 else μ.2 o j) := by
  intro m
  induction m with
  | zero =>
    intro i hi u μ
    have e : i = 30 := by omega
    subst e
    refine ⟨μ, ?_, Fr.rf, rfl, fun j => by rw [if_neg (by omega)]⟩
    rw [zlp]
    simp (decide := true) (implicitDefEqProofs := false) only [l_J7_fill_d0a16_6, zO, zR, zA, zT, zu1, zu2, zu3, zu4, gI, gL, pI, pL, pZ, aI, aL, sI, sZ, sL, Option.bind_some, Option.map_some, if_true, if_false, ite_true, ite_false, true_and, and_true, false_and, and_false, or_true, true_or, or_false, false_or, and_self, not_true_eq_false, not_false_eq_true, ↓reduceIte, reduceIte, Nat.reduceAdd, Nat.reduceMul, Nat.reduceSub, Nat.reduceMod, Nat.reduceDiv, Nat.reduceEqDiff, Nat.reduceLT, Nat.reduceLeDiff, Int32.reduceAdd, Int32.reduceSub, Int32.reduceMul, Int32.reduceDiv, Int32.reduceMod, Int32.reduceOfNat, Int32.reduceOfInt, Int32.reduceLT, Int32.reduceLE, Int32.reduceToNatClampNeg, Int32.reduceToInt]
  | succ m ih =>
    intro i hi u μ
    obtain ⟨ν, p, f, e1, e2⟩ := ih (i + 1) (by omega) u (upL μ o i 0)
    have lf : ((30 : Int32) ≤ Int32.ofNat i) = False := leF (n := 30) (by omega) (by decide)
    refine ⟨ν, ?_, Fr.tr (Fr.uL rfl) f, e1, fun j => ?_⟩
    · rw [zlp]
      simp (decide := true) (implicitDefEqProofs := false) only [l_J7_fill_d0a16_6, lf, ho, zin i 30 (by omega) (by decide), ztn i (by omega), ofN1 i, zO, zR, zA, zT, zu1, zu2, zu3, zu4, gI, gL, pI, pL, pZ, aI, aL, sI, sZ, sL, Option.bind_some, Option.map_some, if_true, if_false, ite_true, ite_false, true_and, and_true, false_and, and_false, or_true, true_or, or_false, false_or, and_self, not_true_eq_false, not_false_eq_true, ↓reduceIte, reduceIte, Nat.reduceAdd, Nat.reduceMul, Nat.reduceSub, Nat.reduceMod, Nat.reduceDiv, Nat.reduceEqDiff, Nat.reduceLT, Nat.reduceLeDiff, Int32.reduceAdd, Int32.reduceSub, Int32.reduceMul, Int32.reduceDiv, Int32.reduceMod, Int32.reduceOfNat, Int32.reduceOfInt, Int32.reduceLT, Int32.reduceLE, Int32.reduceToNatClampNeg, Int32.reduceToInt]
      exact p
    · rw [e2 j, zu4]
      by_cases t : j = i
      · rw [if_neg (by omega), if_pos (by first | exact ⟨rfl, t⟩ | exact ⟨trivial, t⟩), if_pos (by first | omega | exact ⟨trivial, by omega⟩ | exact ⟨trivial, trivial⟩)]
      · by_cases s : i + 1 ≤ j ∧ j < 30
        · rw [if_pos s, if_pos (by first | omega | exact ⟨trivial, by omega⟩ | exact ⟨trivial, trivial⟩)]
        · rw [if_neg s, if_neg (fun g => t g.2), if_neg (by omega)]
theorem listM {l : Nat} (hl : l < 4) : ∀ m i, i + m = 30 → ∀ u μ, ∃ ν, lpN (l_X12_list_34 SX 81 (Int32.ofNat l)) (u + m + 1) (Int32.ofNat i, μ) = some (1, ν) ∧ FM (fun q => q = 106) (fun _ => False) μ ν ∧ ν.1 = μ.1 ∧ (∀ j, ν.2 106 j = if 30 * l + i ≤ j ∧ j < 30 * l + 30 then 0 else μ.2 106 j) := by
  intro m
  induction m with
  | zero =>
    intro i hi u μ
    have e : i = 30 := by omega
    subst e
    refine ⟨μ, ?_, FM.rf, rfl, fun j => by rw [if_neg (by omega)]⟩
    rw [zlp]
    simp (decide := true) (implicitDefEqProofs := false) only [l_X12_list_34, zO, zR, zA, zT, zu1, zu2, zu3, zu4, gI, gL, pI, pL, pZ, aI, aL, sI, sZ, sL, Option.bind_some, Option.map_some, if_true, if_false, ite_true, ite_false, true_and, and_true, false_and, and_false, or_true, true_or, or_false, false_or, and_self, not_true_eq_false, not_false_eq_true, ↓reduceIte, reduceIte, Nat.reduceAdd, Nat.reduceMul, Nat.reduceSub, Nat.reduceMod, Nat.reduceDiv, Nat.reduceEqDiff, Nat.reduceLT, Nat.reduceLeDiff, Int32.reduceAdd, Int32.reduceSub, Int32.reduceMul, Int32.reduceDiv, Int32.reduceMod, Int32.reduceOfNat, Int32.reduceOfInt, Int32.reduceLT, Int32.reduceLE, Int32.reduceToNatClampNeg, Int32.reduceToInt]
  | succ m ih =>
    intro i hi u μ
    obtain ⟨ν, p, f, e1, e2⟩ := ih (i + 1) (by omega) u (upL μ 106 (30 * l + i) 0)
    have lf : ((30 : Int32) ≤ Int32.ofNat i) = False := leF (n := 30) (by omega) (by decide)
    refine ⟨ν, ?_, FM.tr (FM.uL (Or.inl ⟨by decide, rfl⟩)) f, e1, fun j => ?_⟩
    · rw [zlp]
      simp (decide := true) (implicitDefEqProofs := false) only [l_X12_list_34, lf, i30 l i, zin (30 * l + i) 120 (by omega) (by decide), ztn (30 * l + i) (by omega), ofN1 i, zO, zR, zA, zT, zu1, zu2, zu3, zu4, gI, gL, pI, pL, pZ, aI, aL, sI, sZ, sL, Option.bind_some, Option.map_some, if_true, if_false, ite_true, ite_false, true_and, and_true, false_and, and_false, or_true, true_or, or_false, false_or, and_self, not_true_eq_false, not_false_eq_true, ↓reduceIte, reduceIte, Nat.reduceAdd, Nat.reduceMul, Nat.reduceSub, Nat.reduceMod, Nat.reduceDiv, Nat.reduceEqDiff, Nat.reduceLT, Nat.reduceLeDiff, Int32.reduceAdd, Int32.reduceSub, Int32.reduceMul, Int32.reduceDiv, Int32.reduceMod, Int32.reduceOfNat, Int32.reduceOfInt, Int32.reduceLT, Int32.reduceLE, Int32.reduceToNatClampNeg, Int32.reduceToInt]
      exact p
    · rw [e2 j, zu4]
      by_cases t : j = 30 * l + i
      · rw [if_neg (by omega), if_pos (by first | exact ⟨rfl, t⟩ | exact ⟨trivial, t⟩), if_pos (by first | omega | exact ⟨trivial, by omega⟩ | exact ⟨trivial, trivial⟩)]
      · by_cases s : 30 * l + (i + 1) ≤ j ∧ j < 30 * l + 30
        · rw [if_pos s, if_pos (by first | omega | exact ⟨trivial, by omega⟩ | exact ⟨trivial, trivial⟩)]
        · rw [if_neg s, if_neg (fun g => t g.2), if_neg (by omega)]
theorem ok_list {μ : Mem} (h : INV μ) (a1 a2 : Int32) : OKop (f_X11_list SX 0 a1 a2) (f_X12_list SX 81 a1 a2) μ := by
  have hR := h.2.2.2.2.2
  rcases wbN a1 3 (by decide) with t | ⟨t, l, hl, rfl⟩
  · simp only [Nat.reduceAdd, Nat.reduceMul, Nat.reduceMod, Int32.reduceOfNat] at t
    refine ⟨-1, μ, μ, ?_, ?_, h⟩
    · simp (decide := true) (implicitDefEqProofs := false) only [f_X11_list, isList_at, t, zO, zR, zA, zT, zu1, zu2, zu3, zu4, gI, gL, pI, pL, pZ, aI, aL, sI, sZ, sL, Option.bind_some, Option.map_some, if_true, if_false, ite_true, ite_false, true_and, and_true, false_and, and_false, or_true, true_or, or_false, false_or, and_self, not_true_eq_false, not_false_eq_true, ↓reduceIte, reduceIte, Nat.reduceAdd, Nat.reduceMul, Nat.reduceSub, Nat.reduceMod, Nat.reduceDiv, Nat.reduceEqDiff, Nat.reduceLT, Nat.reduceLeDiff, Int32.reduceAdd, Int32.reduceSub, Int32.reduceMul, Int32.reduceDiv, Int32.reduceMod, Int32.reduceOfNat, Int32.reduceOfInt, Int32.reduceLT, Int32.reduceLE, Int32.reduceToNatClampNeg, Int32.reduceToInt]
    · simp (decide := true) (implicitDefEqProofs := false) only [f_X12_list, isList_at, t, zO, zR, zA, zT, zu1, zu2, zu3, zu4, gI, gL, pI, pL, pZ, aI, aL, sI, sZ, sL, Option.bind_some, Option.map_some, if_true, if_false, ite_true, ite_false, true_and, and_true, false_and, and_false, or_true, true_or, or_false, false_or, and_self, not_true_eq_false, not_false_eq_true, ↓reduceIte, reduceIte, Nat.reduceAdd, Nat.reduceMul, Nat.reduceSub, Nat.reduceMod, Nat.reduceDiv, Nat.reduceEqDiff, Nat.reduceLT, Nat.reduceLeDiff, Int32.reduceAdd, Int32.reduceSub, Int32.reduceMul, Int32.reduceDiv, Int32.reduceMod, Int32.reduceOfNat, Int32.reduceOfInt, Int32.reduceLT, Int32.reduceLE, Int32.reduceToNatClampNeg, Int32.reduceToInt]
  · simp only [Nat.reduceAdd, Nat.reduceMul, Nat.reduceMod, Int32.reduceOfNat] at t
    have hl4 : l < 4 := by omega
    have i1 := zin l 4 hl4 (by decide)
    have i2 := ztn l (by omega)
    by_cases s : a2 ≤ 30
    · by_cases w : 0 ≤ a2
      · obtain ⟨n, hn, rfl⟩ := nnB a2 30 (by decide) s w
        obtain ⟨r1, r2⟩ := aRr l hl4
        obtain ⟨ν1, p1, f1, e1, g1⟩ := fillL r2 30 0 (by omega) 4969 μ
        have pf : f_J7_fill_d0a16 SX (76 + l) 0 μ = some ((), ν1) := by
          simp (decide := true) (implicitDefEqProofs := false) only [f_J7_fill_d0a16, aN, r2, zO, zR, zA, zT, zu1, zu2, zu3, zu4, gI, gL, pI, pL, pZ, aI, aL, sI, sZ, sL, Option.bind_some, Option.map_some, if_true, if_false, ite_true, ite_false, true_and, and_true, false_and, and_false, or_true, true_or, or_false, false_or, and_self, not_true_eq_false, not_false_eq_true, ↓reduceIte, reduceIte, Nat.reduceAdd, Nat.reduceMul, Nat.reduceSub, Nat.reduceMod, Nat.reduceDiv, Nat.reduceEqDiff, Nat.reduceLT, Nat.reduceLeDiff, Int32.reduceAdd, Int32.reduceSub, Int32.reduceMul, Int32.reduceDiv, Int32.reduceMod, Int32.reduceOfNat, Int32.reduceOfInt, Int32.reduceLT, Int32.reduceLE, Int32.reduceToNatClampNeg, Int32.reduceToInt]
          exact p1
        have F2 : FM rwP scJ μ (upI ν1 80 l (Int32.ofNat n)) := ((f1.fm (by omega)).mo (fun k q => by unfold rwP; omega) (fun k q => q.elim)).tr (FM.uI (Or.inl ⟨by decide, by unfold rwP; omega⟩))
        obtain ⟨ν4, p4, f4, e4, g4⟩ := listM hl4 30 0 (by omega) 4969 (upI (upI ν1 80 l (Int32.ofNat n)) 105 l (Int32.ofNat n))
        have F4 : FM rwP scJ (upI ν1 80 l (Int32.ofNat n)) ν4 := FM.tr (FM.uI (Or.inl ⟨by decide, by unfold rwP; omega⟩)) (f4.mo (fun k q => by unfold rwP; omega) (fun k q => q.elim))
        refine ⟨1, upI ν1 80 l (Int32.ofNat n), ν4, ?_, ?_, h.rw (F2.tr F4) ?_⟩
        · simp (decide := true) (implicitDefEqProofs := false) only [f_X11_list, isList_at, t, s, w, f_X8_begin, r1, pf, i1, i2, zO, zR, zA, zT, zu1, zu2, zu3, zu4, gI, gL, pI, pL, pZ, aI, aL, sI, sZ, sL, Option.bind_some, Option.map_some, if_true, if_false, ite_true, ite_false, true_and, and_true, false_and, and_false, or_true, true_or, or_false, false_or, and_self, not_true_eq_false, not_false_eq_true, ↓reduceIte, reduceIte, Nat.reduceAdd, Nat.reduceMul, Nat.reduceSub, Nat.reduceMod, Nat.reduceDiv, Nat.reduceEqDiff, Nat.reduceLT, Nat.reduceLeDiff, Int32.reduceAdd, Int32.reduceSub, Int32.reduceMul, Int32.reduceDiv, Int32.reduceMod, Int32.reduceOfNat, Int32.reduceOfInt, Int32.reduceLT, Int32.reduceLE, Int32.reduceToNatClampNeg, Int32.reduceToInt]
        · simp (decide := true) (implicitDefEqProofs := false) only [f_X12_list, isList_at, t, s, w, i1, i2, zO, zR, zA, zT, zu1, zu2, zu3, zu4, gI, gL, pI, pL, pZ, aI, aL, sI, sZ, sL, Option.bind_some, Option.map_some, if_true, if_false, ite_true, ite_false, true_and, and_true, false_and, and_false, or_true, true_or, or_false, false_or, and_self, not_true_eq_false, not_false_eq_true, ↓reduceIte, reduceIte, Nat.reduceAdd, Nat.reduceMul, Nat.reduceSub, Nat.reduceMod, Nat.reduceDiv, Nat.reduceEqDiff, Nat.reduceLT, Nat.reduceLeDiff, Int32.reduceAdd, Int32.reduceSub, Int32.reduceMul, Int32.reduceDiv, Int32.reduceMod, Int32.reduceOfNat, Int32.reduceOfInt, Int32.reduceLT, Int32.reduceLE, Int32.reduceToNatClampNeg, Int32.reduceToInt]
          exact p4
        · intro l' hl'
          obtain ⟨q1, q2, q3⟩ := hR l' hl'
          have n1 : ν4.2 (76 + l') = ν1.2 (76 + l') := (f4.1 _ (by omega) (by omega)).2
          rw [e4, n1]
          simp only [zu1, e1]
          refine ⟨?_, ?_, fun i hi => ?_⟩
          · by_cases k : l' = l
            · rw [if_neg (by omega), if_pos (by first | exact ⟨rfl, k⟩ | exact ⟨trivial, k⟩), if_pos (by first | exact ⟨rfl, k⟩ | exact ⟨trivial, k⟩)]
            · rw [if_neg (by omega), if_neg (fun g => k g.2), if_neg (fun g => k g.2), if_neg (fun g => k g.2)]; exact q1
          · rw [if_neg (by omega)]
            by_cases k : l' = l
            · rw [if_pos (by first | exact ⟨rfl, k⟩ | exact ⟨trivial, k⟩)]; exact Or.inr ⟨n, hn, rfl⟩
            · rw [if_neg (fun g => k g.2)]; exact q2
          · rw [g4]
            simp only [zu2]
            have n2 : ν1.2 106 = μ.2 106 := (f1 106 (by omega)).2
            rw [n2]
            by_cases k : l' = l
            · subst k
              rw [g1, if_pos (by first | omega | exact ⟨trivial, by omega⟩ | exact ⟨trivial, trivial⟩), if_pos (by first | omega | exact ⟨trivial, by omega⟩ | exact ⟨trivial, trivial⟩)]
            · rw [if_neg (by omega), (f1 (76 + l') (by omega)).2]; exact q3 i hi
      · refine ⟨-14, μ, μ, ?_, ?_, h⟩
        · simp (decide := true) (implicitDefEqProofs := false) only [f_X11_list, isList_at, t, s, w, zO, zR, zA, zT, zu1, zu2, zu3, zu4, gI, gL, pI, pL, pZ, aI, aL, sI, sZ, sL, Option.bind_some, Option.map_some, if_true, if_false, ite_true, ite_false, true_and, and_true, false_and, and_false, or_true, true_or, or_false, false_or, and_self, not_true_eq_false, not_false_eq_true, ↓reduceIte, reduceIte, Nat.reduceAdd, Nat.reduceMul, Nat.reduceSub, Nat.reduceMod, Nat.reduceDiv, Nat.reduceEqDiff, Nat.reduceLT, Nat.reduceLeDiff, Int32.reduceAdd, Int32.reduceSub, Int32.reduceMul, Int32.reduceDiv, Int32.reduceMod, Int32.reduceOfNat, Int32.reduceOfInt, Int32.reduceLT, Int32.reduceLE, Int32.reduceToNatClampNeg, Int32.reduceToInt]
        · simp (decide := true) (implicitDefEqProofs := false) only [f_X12_list, isList_at, t, s, w, zO, zR, zA, zT, zu1, zu2, zu3, zu4, gI, gL, pI, pL, pZ, aI, aL, sI, sZ, sL, Option.bind_some, Option.map_some, if_true, if_false, ite_true, ite_false, true_and, and_true, false_and, and_false, or_true, true_or, or_false, false_or, and_self, not_true_eq_false, not_false_eq_true, ↓reduceIte, reduceIte, Nat.reduceAdd, Nat.reduceMul, Nat.reduceSub, Nat.reduceMod, Nat.reduceDiv, Nat.reduceEqDiff, Nat.reduceLT, Nat.reduceLeDiff, Int32.reduceAdd, Int32.reduceSub, Int32.reduceMul, Int32.reduceDiv, Int32.reduceMod, Int32.reduceOfNat, Int32.reduceOfInt, Int32.reduceLT, Int32.reduceLE, Int32.reduceToNatClampNeg, Int32.reduceToInt]
    · refine ⟨-2, μ, μ, ?_, ?_, h⟩
      · simp (decide := true) (implicitDefEqProofs := false) only [f_X11_list, isList_at, t, s, zO, zR, zA, zT, zu1, zu2, zu3, zu4, gI, gL, pI, pL, pZ, aI, aL, sI, sZ, sL, Option.bind_some, Option.map_some, if_true, if_false, ite_true, ite_false, true_and, and_true, false_and, and_false, or_true, true_or, or_false, false_or, and_self, not_true_eq_false, not_false_eq_true, ↓reduceIte, reduceIte, Nat.reduceAdd, Nat.reduceMul, Nat.reduceSub, Nat.reduceMod, Nat.reduceDiv, Nat.reduceEqDiff, Nat.reduceLT, Nat.reduceLeDiff, Int32.reduceAdd, Int32.reduceSub, Int32.reduceMul, Int32.reduceDiv, Int32.reduceMod, Int32.reduceOfNat, Int32.reduceOfInt, Int32.reduceLT, Int32.reduceLE, Int32.reduceToNatClampNeg, Int32.reduceToInt]
      · simp (decide := true) (implicitDefEqProofs := false) only [f_X12_list, isList_at, t, s, zO, zR, zA, zT, zu1, zu2, zu3, zu4, gI, gL, pI, pL, pZ, aI, aL, sI, sZ, sL, Option.bind_some, Option.map_some, if_true, if_false, ite_true, ite_false, true_and, and_true, false_and, and_false, or_true, true_or, or_false, false_or, and_self, not_true_eq_false, not_false_eq_true, ↓reduceIte, reduceIte, Nat.reduceAdd, Nat.reduceMul, Nat.reduceSub, Nat.reduceMod, Nat.reduceDiv, Nat.reduceEqDiff, Nat.reduceLT, Nat.reduceLeDiff, Int32.reduceAdd, Int32.reduceSub, Int32.reduceMul, Int32.reduceDiv, Int32.reduceMod, Int32.reduceOfNat, Int32.reduceOfInt, Int32.reduceLT, Int32.reduceLE, Int32.reduceToNatClampNeg, Int32.reduceToInt]
def tpP (q : Nat) : Prop := q = 61 ∨ q = 62 ∨ q = 98 ∨ scP q
def tpJ (j : Nat) : Prop := j = 23 ∨ scJ j
theorem INV.tp {μ ν : Mem} (h : INV μ) (f : FM tpP tpJ μ ν) (g : TP ν) : INV ν := by
  obtain ⟨⟨c, b, h1, h2⟩, h3, -, h5, h6, h7⟩ := h
  refine ⟨⟨c, b, h1.f f (fun q g1 g2 => ⟨by omega, by unfold tpP scP; omega⟩), h2.w f (fun q g1 g2 => by unfold tpP scP; omega) (by unfold tpJ scJ; omega)⟩, h3.f f ?_ ?_ ?_ ?_, g, h5.f f ?_ ?_ ?_ ?_ ?_ ?_, h6.f f ?_ ?_ ?_, h7.f f ?_ ?_ ?_⟩ <;> first | (unfold tpP scP; omega) | (unfold tpJ scJ; omega) | (intro q g1 g2; unfold tpP scP; omega)
theorem ok_clear {μ : Mem} (h : INV μ) : OKop (f_X11_clear SX 0) (f_X12_clear SX 81) μ := by
  obtain ⟨n, hn, t1, t2, t3⟩ := h.2.2.1
  have F : FM tpP tpJ μ (upI (upI μ 61 1 0) 81 23 0) := FM.tr (FM.uI (Or.inl ⟨by decide, by unfold tpP; omega⟩)) (FM.uI (Or.inr ⟨rfl, by unfold tpJ; omega⟩))
  refine ⟨Int32.ofNat n, upI μ 61 1 0, upI (upI μ 61 1 0) 81 23 0, ?_, ?_, h.tp F ⟨0, by omega, ?_, ?_, fun i hi => by omega⟩⟩
  · simp (decide := true) (implicitDefEqProofs := false) only [f_X11_clear, t1, zO, zR, zA, zT, zu1, zu2, zu3, zu4, gI, gL, pI, pL, pZ, aI, aL, sI, sZ, sL, Option.bind_some, Option.map_some, if_true, if_false, ite_true, ite_false, true_and, and_true, false_and, and_false, or_true, true_or, or_false, false_or, and_self, not_true_eq_false, not_false_eq_true, ↓reduceIte, reduceIte, Nat.reduceAdd, Nat.reduceMul, Nat.reduceSub, Nat.reduceMod, Nat.reduceDiv, Nat.reduceEqDiff, Nat.reduceLT, Nat.reduceLeDiff, Int32.reduceAdd, Int32.reduceSub, Int32.reduceMul, Int32.reduceDiv, Int32.reduceMod, Int32.reduceOfNat, Int32.reduceOfInt, Int32.reduceLT, Int32.reduceLE, Int32.reduceToNatClampNeg, Int32.reduceToInt]
  · simp (decide := true) (implicitDefEqProofs := false) only [f_X12_clear, t2, zO, zR, zA, zT, zu1, zu2, zu3, zu4, gI, gL, pI, pL, pZ, aI, aL, sI, sZ, sL, Option.bind_some, Option.map_some, if_true, if_false, ite_true, ite_false, true_and, and_true, false_and, and_false, or_true, true_or, or_false, false_or, and_self, not_true_eq_false, not_false_eq_true, ↓reduceIte, reduceIte, Nat.reduceAdd, Nat.reduceMul, Nat.reduceSub, Nat.reduceMod, Nat.reduceDiv, Nat.reduceEqDiff, Nat.reduceLT, Nat.reduceLeDiff, Int32.reduceAdd, Int32.reduceSub, Int32.reduceMul, Int32.reduceDiv, Int32.reduceMod, Int32.reduceOfNat, Int32.reduceOfInt, Int32.reduceLT, Int32.reduceLE, Int32.reduceToNatClampNeg, Int32.reduceToInt]
  · simp (decide := true) (implicitDefEqProofs := false) only [zO, zR, zA, zT, zu1, zu2, zu3, zu4, gI, gL, pI, pL, pZ, aI, aL, sI, sZ, sL, Option.bind_some, Option.map_some, if_true, if_false, ite_true, ite_false, true_and, and_true, false_and, and_false, or_true, true_or, or_false, false_or, and_self, not_true_eq_false, not_false_eq_true, ↓reduceIte, reduceIte, Nat.reduceAdd, Nat.reduceMul, Nat.reduceSub, Nat.reduceMod, Nat.reduceDiv, Nat.reduceEqDiff, Nat.reduceLT, Nat.reduceLeDiff, Int32.reduceAdd, Int32.reduceSub, Int32.reduceMul, Int32.reduceDiv, Int32.reduceMod, Int32.reduceOfNat, Int32.reduceOfInt, Int32.reduceLT, Int32.reduceLE, Int32.reduceToNatClampNeg, Int32.reduceToInt]
  · simp (decide := true) (implicitDefEqProofs := false) only [zO, zR, zA, zT, zu1, zu2, zu3, zu4, gI, gL, pI, pL, pZ, aI, aL, sI, sZ, sL, Option.bind_some, Option.map_some, if_true, if_false, ite_true, ite_false, true_and, and_true, false_and, and_false, or_true, true_or, or_false, false_or, and_self, not_true_eq_false, not_false_eq_true, ↓reduceIte, reduceIte, Nat.reduceAdd, Nat.reduceMul, Nat.reduceSub, Nat.reduceMod, Nat.reduceDiv, Nat.reduceEqDiff, Nat.reduceLT, Nat.reduceLeDiff, Int32.reduceAdd, Int32.reduceSub, Int32.reduceMul, Int32.reduceDiv, Int32.reduceMod, Int32.reduceOfNat, Int32.reduceOfInt, Int32.reduceLT, Int32.reduceLE, Int32.reduceToNatClampNeg, Int32.reduceToInt]
theorem nar8 : ∀ v, v < 128 → vp_nar .byte ((Int32.ofNat v).toInt8.toInt32) = Int32.ofNat v := by decide +kernel
theorem ok_feed {μ : Mem} (h : INV μ) (a1 : Int32) : OKop (f_X11_feed SX 0 a1) (f_X12_feed SX 81 a1) μ := by
  obtain ⟨n, hn, t1, t2, t3⟩ := h.2.2.1
  rcases wbI a1 1 127 (by decide) (by decide) (by decide) (by decide) with t | ⟨t, z, z1, z2, rfl⟩
  · have t' : wb a1 1 127 = 0 := t
    refine ⟨-2, μ, μ, ?_, ?_, h⟩
    · simp (decide := true) (implicitDefEqProofs := false) only [f_X11_feed, within_at, t', zO, zR, zA, zT, zu1, zu2, zu3, zu4, gI, gL, pI, pL, pZ, aI, aL, sI, sZ, sL, Option.bind_some, Option.map_some, if_true, if_false, ite_true, ite_false, true_and, and_true, false_and, and_false, or_true, true_or, or_false, false_or, and_self, not_true_eq_false, not_false_eq_true, ↓reduceIte, reduceIte, Nat.reduceAdd, Nat.reduceMul, Nat.reduceSub, Nat.reduceMod, Nat.reduceDiv, Nat.reduceEqDiff, Nat.reduceLT, Nat.reduceLeDiff, Int32.reduceAdd, Int32.reduceSub, Int32.reduceMul, Int32.reduceDiv, Int32.reduceMod, Int32.reduceOfNat, Int32.reduceOfInt, Int32.reduceLT, Int32.reduceLE, Int32.reduceToNatClampNeg, Int32.reduceToInt]
    · simp (decide := true) (implicitDefEqProofs := false) only [f_X12_feed, in_at, t', zO, zR, zA, zT, zu1, zu2, zu3, zu4, gI, gL, pI, pL, pZ, aI, aL, sI, sZ, sL, Option.bind_some, Option.map_some, if_true, if_false, ite_true, ite_false, true_and, and_true, false_and, and_false, or_true, true_or, or_false, false_or, and_self, not_true_eq_false, not_false_eq_true, ↓reduceIte, reduceIte, Nat.reduceAdd, Nat.reduceMul, Nat.reduceSub, Nat.reduceMod, Nat.reduceDiv, Nat.reduceEqDiff, Nat.reduceLT, Nat.reduceLeDiff, Int32.reduceAdd, Int32.reduceSub, Int32.reduceMul, Int32.reduceDiv, Int32.reduceMod, Int32.reduceOfNat, Int32.reduceOfInt, Int32.reduceLT, Int32.reduceLE, Int32.reduceToNatClampNeg, Int32.reduceToInt]
  · have t' : wb (Int32.ofInt z) 1 127 = 1 := t
    obtain ⟨v, ev⟩ : ∃ v : Nat, v = z.toNat := ⟨_, rfl⟩
    rw [ofIn z (by omega), ← ev] at t' ⊢
    have lt : (Int32.ofNat n < 100) = (n < 100) := ltN (b := 100) (by omega) (by decide)
    have ne : (Int32.ofNat n = 100) = (n = 100) := neN (b := 100) (by omega) (by decide)
    by_cases e : n = 100
    · refine ⟨-4, μ, μ, ?_, ?_, h⟩
      · simp (decide := true) (implicitDefEqProofs := false) only [f_X11_feed, within_at, t', t1, lt, e, zO, zR, zA, zT, zu1, zu2, zu3, zu4, gI, gL, pI, pL, pZ, aI, aL, sI, sZ, sL, Option.bind_some, Option.map_some, if_true, if_false, ite_true, ite_false, true_and, and_true, false_and, and_false, or_true, true_or, or_false, false_or, and_self, not_true_eq_false, not_false_eq_true, ↓reduceIte, reduceIte, Nat.reduceAdd, Nat.reduceMul, Nat.reduceSub, Nat.reduceMod, Nat.reduceDiv, Nat.reduceEqDiff, Nat.reduceLT, Nat.reduceLeDiff, Int32.reduceAdd, Int32.reduceSub, Int32.reduceMul, Int32.reduceDiv, Int32.reduceMod, Int32.reduceOfNat, Int32.reduceOfInt, Int32.reduceLT, Int32.reduceLE, Int32.reduceToNatClampNeg, Int32.reduceToInt]
      · simp (decide := true) (implicitDefEqProofs := false) only [f_X12_feed, in_at, t', t2, ne, e, zO, zR, zA, zT, zu1, zu2, zu3, zu4, gI, gL, pI, pL, pZ, aI, aL, sI, sZ, sL, Option.bind_some, Option.map_some, if_true, if_false, ite_true, ite_false, true_and, and_true, false_and, and_false, or_true, true_or, or_false, false_or, and_self, not_true_eq_false, not_false_eq_true, ↓reduceIte, reduceIte, Nat.reduceAdd, Nat.reduceMul, Nat.reduceSub, Nat.reduceMod, Nat.reduceDiv, Nat.reduceEqDiff, Nat.reduceLT, Nat.reduceLeDiff, Int32.reduceAdd, Int32.reduceSub, Int32.reduceMul, Int32.reduceDiv, Int32.reduceMod, Int32.reduceOfNat, Int32.reduceOfInt, Int32.reduceLT, Int32.reduceLE, Int32.reduceToNatClampNeg, Int32.reduceToInt]
    · have lt' : n < 100 := by omega
      have i1 := zin n 100 lt' (by decide)
      have i2 := ztn n (by omega)
      have na := nar8 v (by omega)
      refine ⟨Int32.ofNat (n + 1), upI (upI μ 62 n (Int32.ofNat v)) 61 1 (Int32.ofNat (n + 1)), upI (upI (upI (upI μ 62 n (Int32.ofNat v)) 61 1 (Int32.ofNat (n + 1))) 98 n (Int32.ofNat v)) 81 23 (Int32.ofNat (n + 1)), ?_, ?_, h.tp (FM.tr (FM.tr (FM.tr (FM.uI (Or.inl ⟨by decide, by unfold tpP; omega⟩)) (FM.uI (Or.inl ⟨by decide, by unfold tpP; omega⟩))) (FM.uI (Or.inl ⟨by decide, by unfold tpP; omega⟩))) (FM.uI (Or.inr ⟨rfl, by unfold tpJ; omega⟩))) ⟨n + 1, by omega, ?_, ?_, fun i hi => ?_⟩⟩
      · simp (decide := true) (implicitDefEqProofs := false) only [f_X11_feed, within_at, t', t1, lt, lt', f_X9_append, sB, i1, i2, na, ofN1 n, zO, zR, zA, zT, zu1, zu2, zu3, zu4, gI, gL, pI, pL, pZ, aI, aL, sI, sZ, sL, Option.bind_some, Option.map_some, if_true, if_false, ite_true, ite_false, true_and, and_true, false_and, and_false, or_true, true_or, or_false, false_or, and_self, not_true_eq_false, not_false_eq_true, ↓reduceIte, reduceIte, Nat.reduceAdd, Nat.reduceMul, Nat.reduceSub, Nat.reduceMod, Nat.reduceDiv, Nat.reduceEqDiff, Nat.reduceLT, Nat.reduceLeDiff, Int32.reduceAdd, Int32.reduceSub, Int32.reduceMul, Int32.reduceDiv, Int32.reduceMod, Int32.reduceOfNat, Int32.reduceOfInt, Int32.reduceLT, Int32.reduceLE, Int32.reduceToNatClampNeg, Int32.reduceToInt]
      · simp (decide := true) (implicitDefEqProofs := false) only [f_X12_feed, in_at, t', t2, ne, e, i1, i2, ofN1 n, zO, zR, zA, zT, zu1, zu2, zu3, zu4, gI, gL, pI, pL, pZ, aI, aL, sI, sZ, sL, Option.bind_some, Option.map_some, if_true, if_false, ite_true, ite_false, true_and, and_true, false_and, and_false, or_true, true_or, or_false, false_or, and_self, not_true_eq_false, not_false_eq_true, ↓reduceIte, reduceIte, Nat.reduceAdd, Nat.reduceMul, Nat.reduceSub, Nat.reduceMod, Nat.reduceDiv, Nat.reduceEqDiff, Nat.reduceLT, Nat.reduceLeDiff, Int32.reduceAdd, Int32.reduceSub, Int32.reduceMul, Int32.reduceDiv, Int32.reduceMod, Int32.reduceOfNat, Int32.reduceOfInt, Int32.reduceLT, Int32.reduceLE, Int32.reduceToNatClampNeg, Int32.reduceToInt]
      · simp (decide := true) (implicitDefEqProofs := false) only [zO, zR, zA, zT, zu1, zu2, zu3, zu4, gI, gL, pI, pL, pZ, aI, aL, sI, sZ, sL, Option.bind_some, Option.map_some, if_true, if_false, ite_true, ite_false, true_and, and_true, false_and, and_false, or_true, true_or, or_false, false_or, and_self, not_true_eq_false, not_false_eq_true, ↓reduceIte, reduceIte, Nat.reduceAdd, Nat.reduceMul, Nat.reduceSub, Nat.reduceMod, Nat.reduceDiv, Nat.reduceEqDiff, Nat.reduceLT, Nat.reduceLeDiff, Int32.reduceAdd, Int32.reduceSub, Int32.reduceMul, Int32.reduceDiv, Int32.reduceMod, Int32.reduceOfNat, Int32.reduceOfInt, Int32.reduceLT, Int32.reduceLE, Int32.reduceToNatClampNeg, Int32.reduceToInt]
      · simp (decide := true) (implicitDefEqProofs := false) only [zO, zR, zA, zT, zu1, zu2, zu3, zu4, gI, gL, pI, pL, pZ, aI, aL, sI, sZ, sL, Option.bind_some, Option.map_some, if_true, if_false, ite_true, ite_false, true_and, and_true, false_and, and_false, or_true, true_or, or_false, false_or, and_self, not_true_eq_false, not_false_eq_true, ↓reduceIte, reduceIte, Nat.reduceAdd, Nat.reduceMul, Nat.reduceSub, Nat.reduceMod, Nat.reduceDiv, Nat.reduceEqDiff, Nat.reduceLT, Nat.reduceLeDiff, Int32.reduceAdd, Int32.reduceSub, Int32.reduceMul, Int32.reduceDiv, Int32.reduceMod, Int32.reduceOfNat, Int32.reduceOfInt, Int32.reduceLT, Int32.reduceLE, Int32.reduceToNatClampNeg, Int32.reduceToInt]
      · by_cases q : i = n
        · subst q
          refine ⟨v, by omega, by omega, ?_, ?_⟩
          · simp (decide := true) (implicitDefEqProofs := false) only [zO, zR, zA, zT, zu1, zu2, zu3, zu4, gI, gL, pI, pL, pZ, aI, aL, sI, sZ, sL, Option.bind_some, Option.map_some, if_true, if_false, ite_true, ite_false, true_and, and_true, false_and, and_false, or_true, true_or, or_false, false_or, and_self, not_true_eq_false, not_false_eq_true, ↓reduceIte, reduceIte, Nat.reduceAdd, Nat.reduceMul, Nat.reduceSub, Nat.reduceMod, Nat.reduceDiv, Nat.reduceEqDiff, Nat.reduceLT, Nat.reduceLeDiff, Int32.reduceAdd, Int32.reduceSub, Int32.reduceMul, Int32.reduceDiv, Int32.reduceMod, Int32.reduceOfNat, Int32.reduceOfInt, Int32.reduceLT, Int32.reduceLE, Int32.reduceToNatClampNeg, Int32.reduceToInt]
          · simp (decide := true) (implicitDefEqProofs := false) only [zO, zR, zA, zT, zu1, zu2, zu3, zu4, gI, gL, pI, pL, pZ, aI, aL, sI, sZ, sL, Option.bind_some, Option.map_some, if_true, if_false, ite_true, ite_false, true_and, and_true, false_and, and_false, or_true, true_or, or_false, false_or, and_self, not_true_eq_false, not_false_eq_true, ↓reduceIte, reduceIte, Nat.reduceAdd, Nat.reduceMul, Nat.reduceSub, Nat.reduceMod, Nat.reduceDiv, Nat.reduceEqDiff, Nat.reduceLT, Nat.reduceLeDiff, Int32.reduceAdd, Int32.reduceSub, Int32.reduceMul, Int32.reduceDiv, Int32.reduceMod, Int32.reduceOfNat, Int32.reduceOfInt, Int32.reduceLT, Int32.reduceLE, Int32.reduceToNatClampNeg, Int32.reduceToInt]
        · obtain ⟨w, w1, w2, w3, w4⟩ := t3 i (by omega)
          refine ⟨w, w1, w2, ?_, ?_⟩
          · simp (decide := true) (implicitDefEqProofs := false) only [q, w3, zO, zR, zA, zT, zu1, zu2, zu3, zu4, gI, gL, pI, pL, pZ, aI, aL, sI, sZ, sL, Option.bind_some, Option.map_some, if_true, if_false, ite_true, ite_false, true_and, and_true, false_and, and_false, or_true, true_or, or_false, false_or, and_self, not_true_eq_false, not_false_eq_true, ↓reduceIte, reduceIte, Nat.reduceAdd, Nat.reduceMul, Nat.reduceSub, Nat.reduceMod, Nat.reduceDiv, Nat.reduceEqDiff, Nat.reduceLT, Nat.reduceLeDiff, Int32.reduceAdd, Int32.reduceSub, Int32.reduceMul, Int32.reduceDiv, Int32.reduceMod, Int32.reduceOfNat, Int32.reduceOfInt, Int32.reduceLT, Int32.reduceLE, Int32.reduceToNatClampNeg, Int32.reduceToInt]
          · simp (decide := true) (implicitDefEqProofs := false) only [q, w4, zO, zR, zA, zT, zu1, zu2, zu3, zu4, gI, gL, pI, pL, pZ, aI, aL, sI, sZ, sL, Option.bind_some, Option.map_some, if_true, if_false, ite_true, ite_false, true_and, and_true, false_and, and_false, or_true, true_or, or_false, false_or, and_self, not_true_eq_false, not_false_eq_true, ↓reduceIte, reduceIte, Nat.reduceAdd, Nat.reduceMul, Nat.reduceSub, Nat.reduceMod, Nat.reduceDiv, Nat.reduceEqDiff, Nat.reduceLT, Nat.reduceLeDiff, Int32.reduceAdd, Int32.reduceSub, Int32.reduceMul, Int32.reduceDiv, Int32.reduceMod, Int32.reduceOfNat, Int32.reduceOfInt, Int32.reduceLT, Int32.reduceLE, Int32.reduceToNatClampNeg, Int32.reduceToInt]

