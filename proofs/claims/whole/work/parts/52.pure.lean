def dM (p q r s t u v w z : Int) : Int := p * (t * z - u * w) - q * (s * z - u * v) + r * (s * w - t * v)
theorem pl3_det (x1 y1 x2 y2 x3 y3 : Int) : dM 3 (x1 + x2 + x3) (y1 + y2 + y3) (x1 + x2 + x3) (x1 * x1 + x2 * x2 + x3 * x3) (x1 * y1 + x2 * y2 + x3 * y3) (y1 + y2 + y3) (x1 * y1 + x2 * y2 + x3 * y3) (y1 * y1 + y2 * y2 + y3 * y3) = ((x2 - x1) * (y3 - y1) - (y2 - y1) * (x3 - x1)) * ((x2 - x1) * (y3 - y1) - (y2 - y1) * (x3 - x1)) := by
  unfold dM; grind
theorem pl3_push (x1 y1 x2 y2 x3 y3 w mx my : Int) : dM w (x1 + x2 + x3) (y1 + y2 + y3) mx (x1 * x1 + x2 * x2 + x3 * x3) (x1 * y1 + x2 * y2 + x3 * y3) my (x1 * y1 + x2 * y2 + x3 * y3) (y1 * y1 + y2 * y2 + y3 * y3) + dM 3 w (y1 + y2 + y3) (x1 + x2 + x3) mx (x1 * y1 + x2 * y2 + x3 * y3) (y1 + y2 + y3) my (y1 * y1 + y2 * y2 + y3 * y3) * x1 + dM 3 (x1 + x2 + x3) w (x1 + x2 + x3) (x1 * x1 + x2 * x2 + x3 * x3) mx (y1 + y2 + y3) (x1 * y1 + x2 * y2 + x3 * y3) my * y1 = ((x2 - x1) * (y3 - y1) - (y2 - y1) * (x3 - x1)) * ((x3 - x2) * (my - y2 * w) - (y3 - y2) * (mx - x2 * w)) := by
  unfold dM; grind
def pk (u : Int) (f : Nat → Int) (i : Nat) : Int := if (i : Int) = u then 0 else f i
def pN (u : Int) : Int := sm (pk u (fun _ => 1)) 4
def pX (c : Nat → Nat → Int) (u : Int) : Int := sm (pk u (c 0)) 4
def pY (c : Nat → Nat → Int) (u : Int) : Int := sm (pk u (c 1)) 4
def pXX (c : Nat → Nat → Int) (u : Int) : Int := sm (pk u (fun i => c 0 i * c 0 i)) 4
def pXY (c : Nat → Nat → Int) (u : Int) : Int := sm (pk u (fun i => c 0 i * c 1 i)) 4
def pYY (c : Nat → Nat → Int) (u : Int) : Int := sm (pk u (fun i => c 1 i * c 1 i)) 4
def pAll (c : Nat → Nat → Int) (u : Int) : Int := dM (pN u) (pX c u) (pY c u) (pX c u) (pXX c u) (pXY c u) (pY c u) (pXY c u) (pYY c u)
def pFlat (c : Nat → Nat → Int) (u : Int) : Int := dM (sw c) (pX c u) (pY c u) (MX c) (pXX c u) (pXY c u) (MY c) (pXY c u) (pYY c u)
def pBx (c : Nat → Nat → Int) (u : Int) : Int := dM (pN u) (sw c) (pY c u) (pX c u) (MX c) (pXY c u) (pY c u) (MY c) (pYY c u)
def pBy (c : Nat → Nat → Int) (u : Int) : Int := dM (pN u) (pX c u) (sw c) (pX c u) (pXX c u) (MX c) (pY c u) (pXY c u) (MY c)
def pPush (c : Nat → Nat → Int) (u : Int) (k : Nat) : Int := if (k : Int) = u then 0 else pFlat c u + pBx c u * c 0 k + pBy c u * c 1 k
/-- the reference's pushes lie there -/
def MPs (s : Nat → Int) (bl : Int) (ν : Mem) : Prop := (∀ p, p < 4 → ν.2 95 p = Int64.ofInt (s p)) ∧ ν.2 81 17 = Int64.ofInt bl
def pP (q : Nat) : Prop := q = 95
def pJ (j : Nat) : Prop := j = 17
theorem LK.w {c : Nat → Nat → Int} {t : Nat} {μ ν : Mem} {P J : Nat → Prop} (l : LK c t μ) (f : FM P J μ ν) (h1 : ¬ P 92) (h2 : ¬ P 93) (h3 : ¬ P 94) (hJ : ¬ J 12) : LK c t ν := by
  unfold LK at *
  rw [(f.1 92 (by decide) h1).1, (f.1 93 (by decide) h2).2, (f.1 94 (by decide) h3).2, (f.2 12 hJ).1]
  exact l
theorem dM_at (p q r s t u v w z : Int) (μ : Mem) : f_X12_determinant SX (Int64.ofInt p) (Int64.ofInt q) (Int64.ofInt r) (Int64.ofInt s) (Int64.ofInt t) (Int64.ofInt u) (Int64.ofInt v) (Int64.ofInt w) (Int64.ofInt z) μ = some (Int64.ofInt (dM p q r s t u v w z), μ) := by
  unfold f_X12_determinant
  simp only [y64m, y64s, y64a]
  rfl
theorem plane_at {c : Nat → Nat → Int} {μ : Mem} (h : MM c μ) (b : BC c) (l : LK c (nP c + 2) μ) {u : Int} (hu : -1 ≤ u ∧ u ≤ 3) : ∃ ν, f_X12_plane SX 81 (Int32.ofInt u) μ = some ((), ν) ∧ FM pP pJ μ ν ∧ MPs (pPush c u) (65 * pAll c u) ν := by
  have hn8 : nP c ≤ 8 := by have := b.2.2.1; unfold nP; omega
  have eq : ∀ e : Nat, e < 4 → (Int32.ofNat e = Int32.ofInt u) = ((e : Int) = u) := fun e he => propext (yeq (e : Nat) u (by omega) (by omega) (by omega) (by omega))
  have st : ∀ self, ∀ e, e < 4 → l_X12_plane_20 SX 81 (Int32.ofInt u) self (Int64.ofInt (sm (pk u (fun _ => 1)) e), Int64.ofInt (sm (pk u (c 0)) e), Int64.ofInt (sm (pk u (c 1)) e), Int64.ofInt (sm (pk u (fun i => c 0 i * c 0 i)) e), Int64.ofInt (sm (pk u (fun i => c 0 i * c 1 i)) e), Int64.ofInt (sm (pk u (fun i => c 1 i * c 1 i)) e), Int32.ofNat e, μ) = self (Int64.ofInt (sm (pk u (fun _ => 1)) (e + 1)), Int64.ofInt (sm (pk u (c 0)) (e + 1)), Int64.ofInt (sm (pk u (c 1)) (e + 1)), Int64.ofInt (sm (pk u (fun i => c 0 i * c 0 i)) (e + 1)), Int64.ofInt (sm (pk u (fun i => c 0 i * c 1 i)) (e + 1)), Int64.ofInt (sm (pk u (fun i => c 1 i * c 1 i)) (e + 1)), Int32.ofNat (e + 1), μ) := by
    intro self e he
    have su : ∀ f : Nat → Int, sm (pk u f) (e + 1) = sm (pk u f) e + pk u f e := fun _ => rfl
    simp only [su]
    have q := eq e he
    by_cases t : (e : Int) = u
    · have z : ∀ f : Nat → Int, pk u f e = 0 := fun f => by unfold pk; rw [if_pos t]
      simp only [z, Int.add_zero]
      simp (decide := true) (implicitDefEqProofs := false) only [l_X12_plane_20, i4c e he, i4n e he, q, t, zO, zR, zA, zT, zu1, zu2, zu3, zu4, gI, gL, pI, pL, pZ, aI, aL, sI, sZ, sL, Option.bind_some, Option.map_some, if_true, if_false, ite_true, ite_false, true_and, and_true, false_and, and_false, or_true, true_or, or_false, false_or, and_self, not_true_eq_false, not_false_eq_true, ↓reduceIte, reduceIte, Nat.reduceAdd, Nat.reduceMul, Nat.reduceSub, Nat.reduceMod, Nat.reduceDiv, Nat.reduceEqDiff, Nat.reduceLT, Nat.reduceLeDiff, Int32.reduceAdd, Int32.reduceSub, Int32.reduceMul, Int32.reduceDiv, Int32.reduceMod, Int32.reduceOfNat, Int32.reduceOfInt, Int32.reduceLT, Int32.reduceLE, Int32.reduceToNatClampNeg, Int32.reduceToInt]
    · have z : ∀ f : Nat → Int, pk u f e = f e := fun f => by unfold pk; rw [if_neg t]
      simp only [z]
      have xe := x_at h (show e < 8 by omega)
      have ye := y_at h (show e < 8 by omega)
      rw [Nat.mod_eq_of_lt he] at xe ye
      have be := b.1 e he
      have m1 := mulb (a := c 0 e) (b := c 0 e) 30 30 (by omega) (by omega) (by omega) (by omega)
      have m2 := mulb (a := c 0 e) (b := c 1 e) 30 30 (by omega) (by omega) (by omega) (by omega)
      have m3 := mulb (a := c 1 e) (b := c 1 e) 30 30 (by omega) (by omega) (by omega) (by omega)
      simp (decide := true) (implicitDefEqProofs := false) only [l_X12_plane_20, i4c e he, i4n e he, q, t, xe, ye, y32m, zO, zR, zA, zT, zu1, zu2, zu3, zu4, gI, gL, pI, pL, pZ, aI, aL, sI, sZ, sL, Option.bind_some, Option.map_some, if_true, if_false, ite_true, ite_false, true_and, and_true, false_and, and_false, or_true, true_or, or_false, false_or, and_self, not_true_eq_false, not_false_eq_true, ↓reduceIte, reduceIte, Nat.reduceAdd, Nat.reduceMul, Nat.reduceSub, Nat.reduceMod, Nat.reduceDiv, Nat.reduceEqDiff, Nat.reduceLT, Nat.reduceLeDiff, Int32.reduceAdd, Int32.reduceSub, Int32.reduceMul, Int32.reduceDiv, Int32.reduceMod, Int32.reduceOfNat, Int32.reduceOfInt, Int32.reduceLT, Int32.reduceLE, Int32.reduceToNatClampNeg, Int32.reduceToInt]
      simp (implicitDefEqProofs := false) (disch := omega) only [yw, y64a, show (1 : Int64) = Int64.ofInt 1 from rfl]
  have e0 : f_X12_plane SX 81 (Int32.ofInt u) μ = lpN (l_X12_plane_20 SX 81 (Int32.ofInt u)) 5000 (Int64.ofInt (sm (pk u (fun _ => 1)) 0), Int64.ofInt (sm (pk u (c 0)) 0), Int64.ofInt (sm (pk u (c 1)) 0), Int64.ofInt (sm (pk u (fun i => c 0 i * c 0 i)) 0), Int64.ofInt (sm (pk u (fun i => c 0 i * c 1 i)) 0), Int64.ofInt (sm (pk u (fun i => c 1 i * c 1 i)) 0), Int32.ofNat 0, μ) := by
    unfold f_X12_plane; rw [if_pos (by decide +kernel)]; rfl
  have ex : ∀ self a1 a2 a3 a4 a5 a6, l_X12_plane_20 SX 81 (Int32.ofInt u) self (a1, a2, a3, a4, a5, a6, Int32.ofNat 4, μ) = b_X12_plane_126 SX 81 (Int32.ofInt u) a1 a2 a3 a4 a5 a6 μ := fun _ _ _ _ _ _ _ => rfl
  rw [e0, zlp, st _ 0 (by decide), zlp, st _ 1 (by decide), zlp, st _ 2 (by decide), zlp, st _ 3 (by decide), zlp, ex]
  have a0 := sum_at b l (by omega) (a := 0) (by decide)
  have a1 := sum_at b l (by omega) (a := 1) (by decide)
  have a2 := sum_at b l (by omega) (a := 2) (by decide)
  have w0 : sm (thF c 0) (nP c + 2) = WW c := sm_W
  have w1 : sm (thF c 1) (nP c + 2) = MX c := sm_X
  have w2 : sm (thF c 2) (nP c + 2) = MY c := sm_Y
  rw [w0] at a0
  rw [w1] at a1
  rw [w2] at a2
  simp only [Nat.reduceAdd, Nat.reduceMul, Nat.reduceMod, Int32.reduceOfNat] at a0 a1 a2
  have e1 : b_X12_plane_126 SX 81 (Int32.ofInt u) (Int64.ofInt (sm (pk u (fun _ => 1)) (3 + 1))) (Int64.ofInt (sm (pk u (c 0)) (3 + 1))) (Int64.ofInt (sm (pk u (c 1)) (3 + 1))) (Int64.ofInt (sm (pk u (fun i => c 0 i * c 0 i)) (3 + 1))) (Int64.ofInt (sm (pk u (fun i => c 0 i * c 1 i)) (3 + 1))) (Int64.ofInt (sm (pk u (fun i => c 1 i * c 1 i)) (3 + 1))) μ = lpN (l_X12_plane_253 SX 81 (Int32.ofInt u) (Int64.ofInt (pFlat c u)) (Int64.ofInt (pBx c u)) (Int64.ofInt (pBy c u))) fu (0, upL μ 81 17 (Int64.ofInt (65 * pAll c u))) := by
    simp (decide := true) (implicitDefEqProofs := false) only [b_X12_plane_126, a0, a1, a2, y64_65, y64m, dM_at, zO, zR, zA, zT, zu1, zu2, zu3, zu4, gI, gL, pI, pL, pZ, aI, aL, sI, sZ, sL, Option.bind_some, Option.map_some, if_true, if_false, ite_true, ite_false, true_and, and_true, false_and, and_false, or_true, true_or, or_false, false_or, and_self, not_true_eq_false, not_false_eq_true, ↓reduceIte, reduceIte, Nat.reduceAdd, Nat.reduceMul, Nat.reduceSub, Nat.reduceMod, Nat.reduceDiv, Nat.reduceEqDiff, Nat.reduceLT, Nat.reduceLeDiff, Int32.reduceAdd, Int32.reduceSub, Int32.reduceMul, Int32.reduceDiv, Int32.reduceMod, Int32.reduceOfNat, Int32.reduceOfInt, Int32.reduceLT, Int32.reduceLE, Int32.reduceToNatClampNeg, Int32.reduceToInt]
    rfl
  rw [e1]
  have st2 : ∀ self, ∀ e, e < 4 → ∀ μ', MM c μ' → l_X12_plane_253 SX 81 (Int32.ofInt u) (Int64.ofInt (pFlat c u)) (Int64.ofInt (pBx c u)) (Int64.ofInt (pBy c u)) self (Int32.ofNat e, μ') = self (Int32.ofNat (e + 1), upL μ' 95 e (Int64.ofInt (pPush c u e))) := by
    intro self e he μ' h'
    have q := eq e he
    have i1 := zin e 4 he (by decide)
    have i2 := ztn e (by omega)
    have xe := x_at h' (show e < 8 by omega)
    have ye := y_at h' (show e < 8 by omega)
    rw [Nat.mod_eq_of_lt he] at xe ye
    have be := b.1 e he
    have yx := yw (c 0 e) (by omega) (by omega)
    have yy := yw (c 1 e) (by omega) (by omega)
    by_cases t : (e : Int) = u
    · have z : pPush c u e = 0 := by unfold pPush; rw [if_pos t]
      rw [z]
      simp (decide := true) (implicitDefEqProofs := false) only [l_X12_plane_253, i4c e he, i4n e he, q, t, i1, i2, zO, zR, zA, zT, zu1, zu2, zu3, zu4, gI, gL, pI, pL, pZ, aI, aL, sI, sZ, sL, Option.bind_some, Option.map_some, if_true, if_false, ite_true, ite_false, true_and, and_true, false_and, and_false, or_true, true_or, or_false, false_or, and_self, not_true_eq_false, not_false_eq_true, ↓reduceIte, reduceIte, Nat.reduceAdd, Nat.reduceMul, Nat.reduceSub, Nat.reduceMod, Nat.reduceDiv, Nat.reduceEqDiff, Nat.reduceLT, Nat.reduceLeDiff, Int32.reduceAdd, Int32.reduceSub, Int32.reduceMul, Int32.reduceDiv, Int32.reduceMod, Int32.reduceOfNat, Int32.reduceOfInt, Int32.reduceLT, Int32.reduceLE, Int32.reduceToNatClampNeg, Int32.reduceToInt]
      rfl
    · have z : pPush c u e = pFlat c u + pBx c u * c 0 e + pBy c u * c 1 e := by unfold pPush; rw [if_neg t]
      rw [z]
      simp (decide := true) (implicitDefEqProofs := false) only [l_X12_plane_253, i4c e he, i4n e he, q, t, i1, i2, xe, ye, yx, yy, y64m, y64a, zO, zR, zA, zT, zu1, zu2, zu3, zu4, gI, gL, pI, pL, pZ, aI, aL, sI, sZ, sL, Option.bind_some, Option.map_some, if_true, if_false, ite_true, ite_false, true_and, and_true, false_and, and_false, or_true, true_or, or_false, false_or, and_self, not_true_eq_false, not_false_eq_true, ↓reduceIte, reduceIte, Nat.reduceAdd, Nat.reduceMul, Nat.reduceSub, Nat.reduceMod, Nat.reduceDiv, Nat.reduceEqDiff, Nat.reduceLT, Nat.reduceLeDiff, Int32.reduceAdd, Int32.reduceSub, Int32.reduceMul, Int32.reduceDiv, Int32.reduceMod, Int32.reduceOfNat, Int32.reduceOfInt, Int32.reduceLT, Int32.reduceLE, Int32.reduceToNatClampNeg, Int32.reduceToInt]
  have f0 : FM pP pJ μ (upL μ 81 17 (Int64.ofInt (65 * pAll c u))) := FM.uL (Or.inr ⟨rfl, rfl⟩)
  have fs : ∀ μ' e v, FM pP pJ μ' (upL μ' 95 e v) := fun μ' e v => FM.uL (Or.inl ⟨by decide, rfl⟩)
  have keep : ∀ μ', FM pP pJ μ μ' → MM c μ' := fun μ' f => h.w f (fun q h1 h2 => by unfold pP; omega) (by unfold pJ; omega)
  have f1 := f0.tr (fs _ 0 (Int64.ofInt (pPush c u 0)))
  have f2 := f1.tr (fs _ 1 (Int64.ofInt (pPush c u 1)))
  have f3 := f2.tr (fs _ 2 (Int64.ofInt (pPush c u 2)))
  have f4 := f3.tr (fs _ 3 (Int64.ofInt (pPush c u 3)))
  refine ⟨_, ?_, f4, ?_, ?_⟩
  · show lpN _ 5000 (Int32.ofNat 0, _) = _
    rw [zlp, st2 _ 0 (by decide) _ (keep _ f0), zlp, st2 _ 1 (by decide) _ (keep _ f1), zlp, st2 _ 2 (by decide) _ (keep _ f2), zlp, st2 _ 3 (by decide) _ (keep _ f3), zlp]
    rfl
  · intro p hp
    have h4 : p = 0 ∨ p = 1 ∨ p = 2 ∨ p = 3 := by omega
    rcases h4 with rfl | rfl | rfl | rfl <;> simp (decide := true) (implicitDefEqProofs := false) only [zO, zR, zA, zT, zu1, zu2, zu3, zu4, gI, gL, pI, pL, pZ, aI, aL, sI, sZ, sL, Option.bind_some, Option.map_some, if_true, if_false, ite_true, ite_false, true_and, and_true, false_and, and_false, or_true, true_or, or_false, false_or, and_self, not_true_eq_false, not_false_eq_true, ↓reduceIte, reduceIte, Nat.reduceAdd, Nat.reduceMul, Nat.reduceSub, Nat.reduceMod, Nat.reduceDiv, Nat.reduceEqDiff, Nat.reduceLT, Nat.reduceLeDiff, Int32.reduceAdd, Int32.reduceSub, Int32.reduceMul, Int32.reduceDiv, Int32.reduceMod, Int32.reduceOfNat, Int32.reduceOfInt, Int32.reduceLT, Int32.reduceLE, Int32.reduceToNatClampNeg, Int32.reduceToInt]
  · simp (decide := true) (implicitDefEqProofs := false) only [zO, zR, zA, zT, zu1, zu2, zu3, zu4, gI, gL, pI, pL, pZ, aI, aL, sI, sZ, sL, Option.bind_some, Option.map_some, if_true, if_false, ite_true, ite_false, true_and, and_true, false_and, and_false, or_true, true_or, or_false, false_or, and_self, not_true_eq_false, not_false_eq_true, ↓reduceIte, reduceIte, Nat.reduceAdd, Nat.reduceMul, Nat.reduceSub, Nat.reduceMod, Nat.reduceDiv, Nat.reduceEqDiff, Nat.reduceLT, Nat.reduceLeDiff, Int32.reduceAdd, Int32.reduceSub, Int32.reduceMul, Int32.reduceDiv, Int32.reduceMod, Int32.reduceOfNat, Int32.reduceOfInt, Int32.reduceLT, Int32.reduceLE, Int32.reduceToNatClampNeg, Int32.reduceToInt]

