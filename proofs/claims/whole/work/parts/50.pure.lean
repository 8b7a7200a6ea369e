theorem cosN {μ : Mem} : ∀ n : Nat, n < 20 → f_X12_cos SX (Int32.ofNat n) μ = some (Int32.ofInt (cs (n : Int)), μ) := by
  intro n hn
  have e : n = 0 ∨ n = 1 ∨ n = 2 ∨ n = 3 ∨ n = 4 ∨ n = 5 ∨ n = 6 ∨ n = 7 ∨ n = 8 ∨ n = 9 ∨ n = 10 ∨ n = 11 ∨ n = 12 ∨ n = 13 ∨ n = 14 ∨ n = 15 ∨ n = 16 ∨ n = 17 ∨ n = 18 ∨ n = 19 := by omega
  rcases e with rfl | rfl | rfl | rfl | rfl | rfl | rfl | rfl | rfl | rfl | rfl | rfl | rfl | rfl | rfl | rfl | rfl | rfl | rfl | rfl <;> simp (decide := true) [f_X12_cos, f_X12_plainCos, f_X12_plainSin, cs, csL]
theorem sinN {μ : Mem} : ∀ n : Nat, n < 20 → f_X12_sin SX (Int32.ofNat n) μ = some (Int32.ofInt (sn (n : Int)), μ) := by
  intro n hn
  have e : n = 0 ∨ n = 1 ∨ n = 2 ∨ n = 3 ∨ n = 4 ∨ n = 5 ∨ n = 6 ∨ n = 7 ∨ n = 8 ∨ n = 9 ∨ n = 10 ∨ n = 11 ∨ n = 12 ∨ n = 13 ∨ n = 14 ∨ n = 15 ∨ n = 16 ∨ n = 17 ∨ n = 18 ∨ n = 19 := by omega
  rcases e with rfl | rfl | rfl | rfl | rfl | rfl | rfl | rfl | rfl | rfl | rfl | rfl | rfl | rfl | rfl | rfl | rfl | rfl | rfl | rfl <;> simp (decide := true) [f_X12_sin, f_X12_cos, f_X12_plainCos, f_X12_plainSin, sn, snL]
theorem cos_at {μ : Mem} {d : Int} (h0 : 0 ≤ d) (h1 : d ≤ 19) : f_X12_cos SX (Int32.ofInt d) μ = some (Int32.ofInt (cs d), μ) := dirs (fun d => f_X12_cos SX (Int32.ofInt d) μ = some (Int32.ofInt (cs d), μ)) cosN d h0 h1
theorem sin_at {μ : Mem} {d : Int} (h0 : 0 ≤ d) (h1 : d ≤ 19) : f_X12_sin SX (Int32.ofInt d) μ = some (Int32.ofInt (sn d), μ) := dirs (fun d => f_X12_sin SX (Int32.ofInt d) μ = some (Int32.ofInt (sn d), μ)) sinN d h0 h1
def thW (c : Nat → Nat → Int) (i : Nat) : Int := if i < nP c then c 3 i else if i = nP c then c 8 3 else c 8 2
def thX (c : Nat → Nat → Int) (i : Nat) : Int := if i < nP c then (if c 6 i = 0 then 65 * c 4 i else c 4 i * cs (c 8 0) - c 5 i * sn (c 8 0)) else c 8 1 * cs (c 8 0)
def thY (c : Nat → Nat → Int) (i : Nat) : Int := if i < nP c then (if c 6 i = 0 then 65 * c 5 i else c 4 i * sn (c 8 0) + c 5 i * cs (c 8 0)) else c 8 1 * sn (c 8 0)
/-- so many things are laid -/
def LK (c : Nat → Nat → Int) (t : Nat) (ν : Mem) : Prop := ν.1 81 12 = Int32.ofNat t ∧ ∀ i, i < t → ν.1 92 i = Int32.ofInt (thW c i) ∧ ν.2 93 i = Int64.ofInt (thX c i) ∧ ν.2 94 i = Int64.ofInt (thY c i)
def kP (q : Nat) : Prop := q = 92 ∨ q = 93 ∨ q = 94
def kJ (j : Nat) : Prop := j = 12
theorem lays_at {c : Nat → Nat → Int} {t : Nat} {μ : Mem} (h : LK c t μ) (ht : t < 10) {w : Int32} {x y : Int64} (e1 : w = Int32.ofInt (thW c t)) (e2 : x = Int64.ofInt (thX c t)) (e3 : y = Int64.ofInt (thY c t)) : ∃ ν, f_X12_lays SX 81 w x y μ = some ((), ν) ∧ FM kP kJ μ ν ∧ LK c (t + 1) ν := by
  obtain ⟨h1, h2⟩ := h
  have i1 := zin t 10 ht (by decide)
  have i2 := ztn t (by omega)
  have n1 := ofN1 t
  refine ⟨upI (upL (upL (upI μ 92 t w) 93 t x) 94 t y) 81 12 (Int32.ofNat (t + 1)), ?_, ?_, ?_, ?_⟩
  · simp (decide := true) (implicitDefEqProofs := false) only [f_X12_lays, h1, i1, i2, n1, zO, zR, zA, zT, zu1, zu2, zu3, zu4, gI, gL, pI, pL, pZ, aI, aL, sI, sZ, sL, Option.bind_some, Option.map_some, if_true, if_false, ite_true, ite_false, true_and, and_true, false_and, and_false, or_true, true_or, or_false, false_or, and_self, not_true_eq_false, not_false_eq_true, ↓reduceIte, reduceIte, Nat.reduceAdd, Nat.reduceMul, Nat.reduceSub, Nat.reduceMod, Nat.reduceDiv, Nat.reduceEqDiff, Nat.reduceLT, Nat.reduceLeDiff, Int32.reduceAdd, Int32.reduceSub, Int32.reduceMul, Int32.reduceDiv, Int32.reduceMod, Int32.reduceOfNat, Int32.reduceOfInt, Int32.reduceLT, Int32.reduceLE, Int32.reduceToNatClampNeg, Int32.reduceToInt]
  · exact (((FM.uI (Or.inl ⟨by decide, Or.inl rfl⟩)).tr (FM.uL (Or.inl ⟨by decide, Or.inr (Or.inl rfl)⟩))).tr (FM.uL (Or.inl ⟨by decide, Or.inr (Or.inr rfl)⟩))).tr (FM.uI (Or.inr ⟨rfl, rfl⟩))
  · simp (decide := true) (implicitDefEqProofs := false) only [zO, zR, zA, zT, zu1, zu2, zu3, zu4, gI, gL, pI, pL, pZ, aI, aL, sI, sZ, sL, Option.bind_some, Option.map_some, if_true, if_false, ite_true, ite_false, true_and, and_true, false_and, and_false, or_true, true_or, or_false, false_or, and_self, not_true_eq_false, not_false_eq_true, ↓reduceIte, reduceIte, Nat.reduceAdd, Nat.reduceMul, Nat.reduceSub, Nat.reduceMod, Nat.reduceDiv, Nat.reduceEqDiff, Nat.reduceLT, Nat.reduceLeDiff, Int32.reduceAdd, Int32.reduceSub, Int32.reduceMul, Int32.reduceDiv, Int32.reduceMod, Int32.reduceOfNat, Int32.reduceOfInt, Int32.reduceLT, Int32.reduceLE, Int32.reduceToNatClampNeg, Int32.reduceToInt]
  · intro i hi
    by_cases e : i = t
    · subst e
      simp (decide := true) (implicitDefEqProofs := false) only [e1, e2, e3, zO, zR, zA, zT, zu1, zu2, zu3, zu4, gI, gL, pI, pL, pZ, aI, aL, sI, sZ, sL, Option.bind_some, Option.map_some, if_true, if_false, ite_true, ite_false, true_and, and_true, false_and, and_false, or_true, true_or, or_false, false_or, and_self, not_true_eq_false, not_false_eq_true, ↓reduceIte, reduceIte, Nat.reduceAdd, Nat.reduceMul, Nat.reduceSub, Nat.reduceMod, Nat.reduceDiv, Nat.reduceEqDiff, Nat.reduceLT, Nat.reduceLeDiff, Int32.reduceAdd, Int32.reduceSub, Int32.reduceMul, Int32.reduceDiv, Int32.reduceMod, Int32.reduceOfNat, Int32.reduceOfInt, Int32.reduceLT, Int32.reduceLE, Int32.reduceToNatClampNeg, Int32.reduceToInt]
    · have := h2 i (by omega)
      simp (decide := true) (implicitDefEqProofs := false) only [e, this, zO, zR, zA, zT, zu1, zu2, zu3, zu4, gI, gL, pI, pL, pZ, aI, aL, sI, sZ, sL, Option.bind_some, Option.map_some, if_true, if_false, ite_true, ite_false, true_and, and_true, false_and, and_false, or_true, true_or, or_false, false_or, and_self, not_true_eq_false, not_false_eq_true, ↓reduceIte, reduceIte, Nat.reduceAdd, Nat.reduceMul, Nat.reduceSub, Nat.reduceMod, Nat.reduceDiv, Nat.reduceEqDiff, Nat.reduceLT, Nat.reduceLeDiff, Int32.reduceAdd, Int32.reduceSub, Int32.reduceMul, Int32.reduceDiv, Int32.reduceMod, Int32.reduceOfNat, Int32.reduceOfInt, Int32.reduceLT, Int32.reduceLE, Int32.reduceToNatClampNeg, Int32.reduceToInt]
theorem th_b {c : Nat → Nat → Int} (b : BC c) (i : Nat) : (0 ≤ thW c i ∧ thW c i ≤ 9999) ∧ (-5200 ≤ thX c i ∧ thX c i ≤ 5200) ∧ (-5200 ≤ thY c i ∧ thY c i ≤ 5200) := by
  have bd := b.2.2.2.2.2
  have cb := cs_b bd.1.1 bd.1.2
  have m1 := mulb (a := c 8 1) (b := cs (c 8 0)) 60 65 (by omega) (by omega) (by omega) (by omega)
  have m2 := mulb (a := c 8 1) (b := sn (c 8 0)) 60 65 (by omega) (by omega) (by omega) (by omega)
  unfold thW thX thY
  by_cases hi : i < nP c
  · have h8 : i < 8 := by have := b.2.2.1; unfold nP at hi; omega
    have bi := b.2.2.2.1 i h8
    have m3 := mulb (a := c 4 i) (b := cs (c 8 0)) 40 65 (by omega) (by omega) (by omega) (by omega)
    have m4 := mulb (a := c 4 i) (b := sn (c 8 0)) 40 65 (by omega) (by omega) (by omega) (by omega)
    have m5 := mulb (a := c 5 i) (b := cs (c 8 0)) 40 65 (by omega) (by omega) (by omega) (by omega)
    have m6 := mulb (a := c 5 i) (b := sn (c 8 0)) 40 65 (by omega) (by omega) (by omega) (by omega)
    rw [if_pos hi, if_pos hi, if_pos hi]
    by_cases e : c 6 i = 0
    · rw [if_pos e, if_pos e]; omega
    · rw [if_neg e, if_neg e]; omega
  · rw [if_neg hi, if_neg hi, if_neg hi]
    split <;> omega
theorem looks_at {c : Nat → Nat → Int} {μ : Mem} (h : MM c μ) (b : BC c) : ∃ ν, f_X12_looks SX 81 μ = some ((), ν) ∧ FM kP kJ μ ν ∧ LK c (nP c + 2) ν := by
  have bd := b.2.2.2.2.2
  have hn8 : nP c ≤ 8 := by have := b.2.2.1; unfold nP; omega
  have hnP : ∀ μ', MM c μ' → μ'.1 81 1 = Int32.ofNat (nP c) := fun μ' h' => by rw [h'.2.1.1]; exact ofIn _ b.2.2.1.1
  have keep : ∀ μ', FM kP kJ μ μ' → MM c μ' := fun μ' f => h.w f (fun q h1 h2 => by unfold kP; omega) (by unfold kJ; omega)
  have d0 := h.2.2.2 0 (by decide)
  have co := cos_at (μ := μ) bd.1.1 bd.1.2
  have si := sin_at (μ := μ) bd.1.1 bd.1.2
  have f0 : FM kP kJ μ (upI μ 81 12 0) := FM.uI (Or.inr ⟨rfl, rfl⟩)
  have l0 : LK c 0 (upI μ 81 12 0) := ⟨by simp (decide := true) (implicitDefEqProofs := false) only [zO, zR, zA, zT, zu1, zu2, zu3, zu4, gI, gL, pI, pL, pZ, aI, aL, sI, sZ, sL, Option.bind_some, Option.map_some, if_true, if_false, ite_true, ite_false, true_and, and_true, false_and, and_false, or_true, true_or, or_false, false_or, and_self, not_true_eq_false, not_false_eq_true, ↓reduceIte, reduceIte, Nat.reduceAdd, Nat.reduceMul, Nat.reduceSub, Nat.reduceMod, Nat.reduceDiv, Nat.reduceEqDiff, Nat.reduceLT, Nat.reduceLeDiff, Int32.reduceAdd, Int32.reduceSub, Int32.reduceMul, Int32.reduceDiv, Int32.reduceMod, Int32.reduceOfNat, Int32.reduceOfInt, Int32.reduceLT, Int32.reduceLE, Int32.reduceToNatClampNeg, Int32.reduceToInt], fun i hi => by omega⟩
  have e0 : f_X12_looks SX 81 μ = lpN (l_X12_looks_27 SX 81 (Int32.ofInt (cs (c 8 0))) (Int32.ofInt (sn (c 8 0)))) fu (0, upI μ 81 12 0) := by
    simp (decide := true) (implicitDefEqProofs := false) only [f_X12_looks, d0, co, si, zO, zR, zA, zT, zu1, zu2, zu3, zu4, gI, gL, pI, pL, pZ, aI, aL, sI, sZ, sL, Option.bind_some, Option.map_some, if_true, if_false, ite_true, ite_false, true_and, and_true, false_and, and_false, or_true, true_or, or_false, false_or, and_self, not_true_eq_false, not_false_eq_true, ↓reduceIte, reduceIte, Nat.reduceAdd, Nat.reduceMul, Nat.reduceSub, Nat.reduceMod, Nat.reduceDiv, Nat.reduceEqDiff, Nat.reduceLT, Nat.reduceLeDiff, Int32.reduceAdd, Int32.reduceSub, Int32.reduceMul, Int32.reduceDiv, Int32.reduceMod, Int32.reduceOfNat, Int32.reduceOfInt, Int32.reduceLT, Int32.reduceLE, Int32.reduceToNatClampNeg, Int32.reduceToInt]
  have tail : ∀ μ', FM kP kJ μ μ' → LK c (nP c) μ' → ∃ ν, b_X12_looks_130 SX 81 (Int32.ofInt (cs (c 8 0))) (Int32.ofInt (sn (c 8 0))) μ' = some ((), ν) ∧ FM kP kJ μ ν ∧ LK c (nP c + 2) ν := by
    intro μ' f' l'
    have h' := keep _ f'
    have d1 := h'.2.2.2 1 (by decide)
    have d3 := h'.2.2.2 3 (by decide)
    have t1 := th_b b (nP c)
    have t2 := th_b b (nP c + 1)
    have x1 : thX c (nP c) = c 8 1 * cs (c 8 0) := by unfold thX; rw [if_neg (by omega)]
    have y1 : thY c (nP c) = c 8 1 * sn (c 8 0) := by unfold thY; rw [if_neg (by omega)]
    have x2 : thX c (nP c + 1) = c 8 1 * cs (c 8 0) := by unfold thX; rw [if_neg (by omega)]
    have y2 : thY c (nP c + 1) = c 8 1 * sn (c 8 0) := by unfold thY; rw [if_neg (by omega)]
    have w1 : thW c (nP c) = c 8 3 := by unfold thW; rw [if_neg (by omega), if_pos rfl]
    have w2 : thW c (nP c + 1) = c 8 2 := by unfold thW; rw [if_neg (by omega), if_neg (by omega)]
    have ex : (Int32.ofInt (c 8 1) * Int32.ofInt (cs (c 8 0))).toInt64 = Int64.ofInt (c 8 1 * cs (c 8 0)) := by rw [y32m]; exact yw _ (by omega) (by omega)
    have ey : (Int32.ofInt (c 8 1) * Int32.ofInt (sn (c 8 0))).toInt64 = Int64.ofInt (c 8 1 * sn (c 8 0)) := by rw [y32m]; exact yw _ (by omega) (by omega)
    obtain ⟨ν1, p1, g1, k1⟩ := lays_at l' (by omega) (w := Int32.ofInt (c 8 3)) (x := Int64.ofInt (c 8 1 * cs (c 8 0))) (y := Int64.ofInt (c 8 1 * sn (c 8 0))) (by rw [w1]) (by rw [x1]) (by rw [y1])
    have h1 := keep _ (f'.tr g1)
    have d1' := h1.2.2.2 1 (by decide)
    have d2' := h1.2.2.2 2 (by decide)
    obtain ⟨ν2, p2, g2, k2⟩ := lays_at k1 (by omega) (w := Int32.ofInt (c 8 2)) (x := Int64.ofInt (c 8 1 * cs (c 8 0))) (y := Int64.ofInt (c 8 1 * sn (c 8 0))) (by rw [w2]) (by rw [x2]) (by rw [y2])
    refine ⟨ν2, ?_, (f'.tr g1).tr g2, k2⟩
    simp (decide := true) (implicitDefEqProofs := false) only [b_X12_looks_130, d1, d3, ex, ey, p1, d1', d2', p2, zO, zR, zA, zT, zu1, zu2, zu3, zu4, gI, gL, pI, pL, pZ, aI, aL, sI, sZ, sL, Option.bind_some, Option.map_some, if_true, if_false, ite_true, ite_false, true_and, and_true, false_and, and_false, or_true, true_or, or_false, false_or, and_self, not_true_eq_false, not_false_eq_true, ↓reduceIte, reduceIte, Nat.reduceAdd, Nat.reduceMul, Nat.reduceSub, Nat.reduceMod, Nat.reduceDiv, Nat.reduceEqDiff, Nat.reduceLT, Nat.reduceLeDiff, Int32.reduceAdd, Int32.reduceSub, Int32.reduceMul, Int32.reduceDiv, Int32.reduceMod, Int32.reduceOfNat, Int32.reduceOfInt, Int32.reduceLT, Int32.reduceLE, Int32.reduceToNatClampNeg, Int32.reduceToInt]
  have loop : ∀ m i, i + m = nP c → ∀ u μ', FM kP kJ μ μ' → LK c i μ' → ∃ ν, lpN (l_X12_looks_27 SX 81 (Int32.ofInt (cs (c 8 0))) (Int32.ofInt (sn (c 8 0)))) (u + m + 1) (Int32.ofNat i, μ') = some ((), ν) ∧ FM kP kJ μ ν ∧ LK c (nP c + 2) ν := by
    intro m
    induction m with
    | zero =>
      intro i hi u μ' f' l'
      have hi' : i = nP c := by omega
      subst hi'
      obtain ⟨ν, p, g1, g2⟩ := tail μ' f' l'
      refine ⟨ν, ?_, g1, g2⟩
      rw [zlp]
      have le : (Int32.ofNat (nP c) ≤ Int32.ofNat (nP c)) = True := eq_true (Int32.le_refl _)
      simp (decide := true) (implicitDefEqProofs := false) only [l_X12_looks_27, hnP _ (keep _ f'), le, p, zO, zR, zA, zT, zu1, zu2, zu3, zu4, gI, gL, pI, pL, pZ, aI, aL, sI, sZ, sL, Option.bind_some, Option.map_some, if_true, if_false, ite_true, ite_false, true_and, and_true, false_and, and_false, or_true, true_or, or_false, false_or, and_self, not_true_eq_false, not_false_eq_true, ↓reduceIte, reduceIte, Nat.reduceAdd, Nat.reduceMul, Nat.reduceSub, Nat.reduceMod, Nat.reduceDiv, Nat.reduceEqDiff, Nat.reduceLT, Nat.reduceLeDiff, Int32.reduceAdd, Int32.reduceSub, Int32.reduceMul, Int32.reduceDiv, Int32.reduceMod, Int32.reduceOfNat, Int32.reduceOfInt, Int32.reduceLT, Int32.reduceLE, Int32.reduceToNatClampNeg, Int32.reduceToInt]
    | succ m ih =>
      intro i hi u μ' f' l'
      have h' := keep _ f'
      have hi8 : i < 8 := by omega
      have bi := b.2.2.2.1 i hi8
      have le : (Int32.ofNat (nP c) ≤ Int32.ofNat i) = False := by
        have := yle32 (nP c : Nat) (i : Nat) (by omega) (by omega) (by omega) (by omega)
        exact propext ⟨fun g => by have := this.mp g; omega, fun g => g.elim⟩
      obtain ⟨-, ⟨-, a3, a4, a5, a6⟩, -, -⟩ := h'
      have q3 := a3 i hi8
      have q4 := a4 i hi8
      have q5 := a5 i hi8
      have q6 := a6 i hi8
      have tb := th_b b i
      have i1 := zin i 8 hi8 (by decide)
      have i2 := ztn i (by omega)
      have n1 := ofN1 i
      have w1 : thW c i = c 3 i := by unfold thW; rw [if_pos (by omega)]
      rcases bi.2.2.2 with e | e
      · have x1 : thX c i = 65 * c 4 i := by unfold thX; rw [if_pos (by omega), if_pos e]
        have y1 : thY c i = 65 * c 5 i := by unfold thY; rw [if_pos (by omega), if_pos e]
        have ne : (Int32.ofInt (c 6 i) = 1) = False := by rw [e]; simp
        have ex : (65 * Int32.ofInt (c 4 i)).toInt64 = Int64.ofInt (65 * c 4 i) := by
          rw [show (65 : Int32) = Int32.ofInt 65 from rfl, y32m]; exact yw _ (by omega) (by omega)
        have ey : (65 * Int32.ofInt (c 5 i)).toInt64 = Int64.ofInt (65 * c 5 i) := by
          rw [show (65 : Int32) = Int32.ofInt 65 from rfl, y32m]; exact yw _ (by omega) (by omega)
        obtain ⟨ν1, p1, g1, k1⟩ := lays_at l' (by omega) (w := Int32.ofInt (c 3 i)) (x := Int64.ofInt (65 * c 4 i)) (y := Int64.ofInt (65 * c 5 i)) (by rw [w1]) (by rw [x1]) (by rw [y1])
        obtain ⟨ν, p, r1, r2⟩ := ih (i + 1) (by omega) u ν1 (f'.tr g1) k1
        refine ⟨ν, ?_, r1, r2⟩
        rw [zlp]
        simp (decide := true) (implicitDefEqProofs := false) only [l_X12_looks_27, hnP _ (keep _ f'), le, i1, i2, n1, q3, q4, q5, q6, ne, ex, ey, p1, zO, zR, zA, zT, zu1, zu2, zu3, zu4, gI, gL, pI, pL, pZ, aI, aL, sI, sZ, sL, Option.bind_some, Option.map_some, if_true, if_false, ite_true, ite_false, true_and, and_true, false_and, and_false, or_true, true_or, or_false, false_or, and_self, not_true_eq_false, not_false_eq_true, ↓reduceIte, reduceIte, Nat.reduceAdd, Nat.reduceMul, Nat.reduceSub, Nat.reduceMod, Nat.reduceDiv, Nat.reduceEqDiff, Nat.reduceLT, Nat.reduceLeDiff, Int32.reduceAdd, Int32.reduceSub, Int32.reduceMul, Int32.reduceDiv, Int32.reduceMod, Int32.reduceOfNat, Int32.reduceOfInt, Int32.reduceLT, Int32.reduceLE, Int32.reduceToNatClampNeg, Int32.reduceToInt]
        exact p
      · have ne0 : ¬ c 6 i = 0 := by omega
        have x1 : thX c i = c 4 i * cs (c 8 0) - c 5 i * sn (c 8 0) := by unfold thX; rw [if_pos (by omega), if_neg ne0]
        have y1 : thY c i = c 4 i * sn (c 8 0) + c 5 i * cs (c 8 0) := by unfold thY; rw [if_pos (by omega), if_neg ne0]
        have ne : (Int32.ofInt (c 6 i) = 1) = True := by rw [e]; simp
        have ex : (Int32.ofInt (c 4 i) * Int32.ofInt (cs (c 8 0)) - Int32.ofInt (c 5 i) * Int32.ofInt (sn (c 8 0))).toInt64 = Int64.ofInt (c 4 i * cs (c 8 0) - c 5 i * sn (c 8 0)) := by
          rw [y32m, y32m, y32s]; exact yw _ (by omega) (by omega)
        have ey : (Int32.ofInt (c 4 i) * Int32.ofInt (sn (c 8 0)) + Int32.ofInt (c 5 i) * Int32.ofInt (cs (c 8 0))).toInt64 = Int64.ofInt (c 4 i * sn (c 8 0) + c 5 i * cs (c 8 0)) := by
          rw [y32m, y32m, y32a]; exact yw _ (by omega) (by omega)
        obtain ⟨ν1, p1, g1, k1⟩ := lays_at l' (by omega) (w := Int32.ofInt (c 3 i)) (x := Int64.ofInt (c 4 i * cs (c 8 0) - c 5 i * sn (c 8 0))) (y := Int64.ofInt (c 4 i * sn (c 8 0) + c 5 i * cs (c 8 0))) (by rw [w1]) (by rw [x1]) (by rw [y1])
        obtain ⟨ν, p, r1, r2⟩ := ih (i + 1) (by omega) u ν1 (f'.tr g1) k1
        refine ⟨ν, ?_, r1, r2⟩
        rw [zlp]
        simp (decide := true) (implicitDefEqProofs := false) only [l_X12_looks_27, hnP _ (keep _ f'), le, i1, i2, n1, q3, q4, q5, q6, ne, ex, ey, p1, zO, zR, zA, zT, zu1, zu2, zu3, zu4, gI, gL, pI, pL, pZ, aI, aL, sI, sZ, sL, Option.bind_some, Option.map_some, if_true, if_false, ite_true, ite_false, true_and, and_true, false_and, and_false, or_true, true_or, or_false, false_or, and_self, not_true_eq_false, not_false_eq_true, ↓reduceIte, reduceIte, Nat.reduceAdd, Nat.reduceMul, Nat.reduceSub, Nat.reduceMod, Nat.reduceDiv, Nat.reduceEqDiff, Nat.reduceLT, Nat.reduceLeDiff, Int32.reduceAdd, Int32.reduceSub, Int32.reduceMul, Int32.reduceDiv, Int32.reduceMod, Int32.reduceOfNat, Int32.reduceOfInt, Int32.reduceLT, Int32.reduceLE, Int32.reduceToNatClampNeg, Int32.reduceToInt]
        exact p
  obtain ⟨ν, p, r1, r2⟩ := loop (nP c) 0 (by omega) (4999 - nP c) _ f0 l0
  rw [show 4999 - nP c + nP c + 1 = fu from by show _ = 5000; omega] at p
  exact ⟨ν, by rw [e0]; exact p, r1, r2⟩

