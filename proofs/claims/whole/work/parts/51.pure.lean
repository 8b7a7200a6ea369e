theorem leF {n i : Nat} (h : i < n) (hn : n < 2147483648) : (Int32.ofNat n ≤ Int32.ofNat i) = False := by
  have := yle32 (n : Nat) (i : Nat) (by omega) (by omega) (by omega) (by omega)
  exact propext ⟨fun g => by have := this.mp g; omega, fun g => g.elim⟩
theorem leT (n : Nat) : (Int32.ofNat n ≤ Int32.ofNat n) = True := eq_true (Int32.le_refl _)
def thF (c : Nat → Nat → Int) (a i : Nat) : Int := if a = 0 then thW c i else if a = 1 then thW c i * thX c i else thW c i * thY c i
theorem sum_at {c : Nat → Nat → Int} {t : Nat} {μ : Mem} (b : BC c) (l : LK c t μ) (ht : t ≤ 10) {a : Nat} (ha : a < 3) : f_X12_sum SX 81 (Int32.ofNat a) μ = some (Int64.ofInt (sm (thF c a) t), μ) := by
  have loop : ∀ m i, i + m = t → ∀ u, lpN (l_X12_sum_5 SX 81 (Int32.ofNat a)) (u + m + 1) (Int64.ofInt (sm (thF c a) i), Int32.ofNat i, μ) = some (Int64.ofInt (sm (thF c a) t), μ) := by
    intro m
    induction m with
    | zero =>
      intro i hi u
      have hi' : i = t := by omega
      subst hi'
      rw [zlp]
      simp (decide := true) (implicitDefEqProofs := false) only [l_X12_sum_5, l.1, leT, zO, zR, zA, zT, zu1, zu2, zu3, zu4, gI, gL, pI, pL, pZ, aI, aL, sI, sZ, sL, Option.bind_some, Option.map_some, if_true, if_false, ite_true, ite_false, true_and, and_true, false_and, and_false, or_true, true_or, or_false, false_or, and_self, not_true_eq_false, not_false_eq_true, ↓reduceIte, reduceIte, Nat.reduceAdd, Nat.reduceMul, Nat.reduceSub, Nat.reduceMod, Nat.reduceDiv, Nat.reduceEqDiff, Nat.reduceLT, Nat.reduceLeDiff, Int32.reduceAdd, Int32.reduceSub, Int32.reduceMul, Int32.reduceDiv, Int32.reduceMod, Int32.reduceOfNat, Int32.reduceOfInt, Int32.reduceLT, Int32.reduceLE, Int32.reduceToNatClampNeg, Int32.reduceToInt]
    | succ m ih =>
      intro i hi u
      have li := l.2 i (by omega)
      have n1 := ofN1 i
      have i1 := zin i 10 (by omega) (by decide)
      have i2 := ztn i (by omega)
      have tb := th_b b i
      have y := yw (thW c i) (by omega) (by omega)
      have e : sm (thF c a) (i + 1) = sm (thF c a) i + thF c a i := rfl
      have := ih (i + 1) (by omega) u
      rw [zlp]
      have lf : (Int32.ofNat t ≤ Int32.ofNat i) = False := leF (by omega) (by omega)
      have ea : a = 0 ∨ a = 1 ∨ a = 2 := by omega
      rw [e] at this
      rcases ea with rfl | rfl | rfl
      · simp (decide := true) (implicitDefEqProofs := false) only [l_X12_sum_5, l.1, lf, li, i1, i2, n1, y, y64a, y64m, Int64.mul_one, zO, zR, zA, zT, zu1, zu2, zu3, zu4, gI, gL, pI, pL, pZ, aI, aL, sI, sZ, sL, Option.bind_some, Option.map_some, if_true, if_false, ite_true, ite_false, true_and, and_true, false_and, and_false, or_true, true_or, or_false, false_or, and_self, not_true_eq_false, not_false_eq_true, ↓reduceIte, reduceIte, Nat.reduceAdd, Nat.reduceMul, Nat.reduceSub, Nat.reduceMod, Nat.reduceDiv, Nat.reduceEqDiff, Nat.reduceLT, Nat.reduceLeDiff, Int32.reduceAdd, Int32.reduceSub, Int32.reduceMul, Int32.reduceDiv, Int32.reduceMod, Int32.reduceOfNat, Int32.reduceOfInt, Int32.reduceLT, Int32.reduceLE, Int32.reduceToNatClampNeg, Int32.reduceToInt]
        exact this
      · simp (decide := true) (implicitDefEqProofs := false) only [l_X12_sum_5, l.1, lf, li, i1, i2, n1, y, y64a, y64m, Int64.mul_one, zO, zR, zA, zT, zu1, zu2, zu3, zu4, gI, gL, pI, pL, pZ, aI, aL, sI, sZ, sL, Option.bind_some, Option.map_some, if_true, if_false, ite_true, ite_false, true_and, and_true, false_and, and_false, or_true, true_or, or_false, false_or, and_self, not_true_eq_false, not_false_eq_true, ↓reduceIte, reduceIte, Nat.reduceAdd, Nat.reduceMul, Nat.reduceSub, Nat.reduceMod, Nat.reduceDiv, Nat.reduceEqDiff, Nat.reduceLT, Nat.reduceLeDiff, Int32.reduceAdd, Int32.reduceSub, Int32.reduceMul, Int32.reduceDiv, Int32.reduceMod, Int32.reduceOfNat, Int32.reduceOfInt, Int32.reduceLT, Int32.reduceLE, Int32.reduceToNatClampNeg, Int32.reduceToInt]
        exact this
      · simp (decide := true) (implicitDefEqProofs := false) only [l_X12_sum_5, l.1, lf, li, i1, i2, n1, y, y64a, y64m, Int64.mul_one, zO, zR, zA, zT, zu1, zu2, zu3, zu4, gI, gL, pI, pL, pZ, aI, aL, sI, sZ, sL, Option.bind_some, Option.map_some, if_true, if_false, ite_true, ite_false, true_and, and_true, false_and, and_false, or_true, true_or, or_false, false_or, and_self, not_true_eq_false, not_false_eq_true, ↓reduceIte, reduceIte, Nat.reduceAdd, Nat.reduceMul, Nat.reduceSub, Nat.reduceMod, Nat.reduceDiv, Nat.reduceEqDiff, Nat.reduceLT, Nat.reduceLeDiff, Int32.reduceAdd, Int32.reduceSub, Int32.reduceMul, Int32.reduceDiv, Int32.reduceMod, Int32.reduceOfNat, Int32.reduceOfInt, Int32.reduceLT, Int32.reduceLE, Int32.reduceToNatClampNeg, Int32.reduceToInt]
        exact this
  have p := loop t 0 (by omega) (4999 - t)
  rw [show 4999 - t + t + 1 = fu from by show _ = 5000; omega] at p
  unfold f_X12_sum
  rw [if_pos (by decide +kernel)]
  exact p
def moI (c : Nat → Nat → Int) (e i : Nat) : Int := thW c i * ((c 0 ((e + 1) % 4) - c 0 (e % 4)) * (thY c i - 65 * c 1 (e % 4)) - (c 1 ((e + 1) % 4) - c 1 (e % 4)) * (thX c i - 65 * c 0 (e % 4)))
theorem momentOf_at {c : Nat → Nat → Int} {t : Nat} {μ : Mem} (h : MM c μ) (b : BC c) (l : LK c t μ) (ht : t ≤ 10) {e i : Nat} (he : e < 4) (hi : i < t) : f_X12_momentOf SX 81 (Int32.ofNat e) (Int32.ofNat i) μ = some (Int64.ofInt (moI c e i), μ) := by
  have li := l.2 i hi
  have n1 := ofN1 e
  have i1 := zin i 10 (by omega) (by decide)
  have i2 := ztn i (by omega)
  have tb := th_b b i
  have y := yw (thW c i) (by omega) (by omega)
  have b1 := b.1 (e % 4) (Nat.mod_lt _ (by decide))
  have b2 := b.1 ((e + 1) % 4) (Nat.mod_lt _ (by decide))
  simp (decide := true) (implicitDefEqProofs := false) only [f_X12_momentOf, n1, x_at h (show e + 1 < 8 by omega), x_at h (show e < 8 by omega), y_at h (show e + 1 < 8 by omega), y_at h (show e < 8 by omega), li, i1, i2, y, y64_65, zO, zR, zA, zT, zu1, zu2, zu3, zu4, gI, gL, pI, pL, pZ, aI, aL, sI, sZ, sL, Option.bind_some, Option.map_some, if_true, if_false, ite_true, ite_false, true_and, and_true, false_and, and_false, or_true, true_or, or_false, false_or, and_self, not_true_eq_false, not_false_eq_true, ↓reduceIte, reduceIte, Nat.reduceAdd, Nat.reduceMul, Nat.reduceSub, Nat.reduceMod, Nat.reduceDiv, Nat.reduceEqDiff, Nat.reduceLT, Nat.reduceLeDiff, Int32.reduceAdd, Int32.reduceSub, Int32.reduceMul, Int32.reduceDiv, Int32.reduceMod, Int32.reduceOfNat, Int32.reduceOfInt, Int32.reduceLT, Int32.reduceLE, Int32.reduceToNatClampNeg, Int32.reduceToInt]
  simp (implicitDefEqProofs := false) (disch := omega) only [y32s, yw, y64s, y64m]
  rfl
theorem moments_at {c : Nat → Nat → Int} {t : Nat} {μ : Mem} (h : MM c μ) (b : BC c) (l : LK c t μ) (ht : t ≤ 10) {e : Nat} (he : e < 4) : f_X12_moments SX 81 (Int32.ofNat e) 0 μ = some (Int64.ofInt (sm (moI c e) t), μ) := by
  have loop : ∀ m i, i + m = t → ∀ u, lpN (l_X12_moments_5 SX 81 (Int32.ofNat e) 0) (u + m + 1) (Int64.ofInt (sm (moI c e) i), Int32.ofNat i, μ) = some (Int64.ofInt (sm (moI c e) t), μ) := by
    intro m
    induction m with
    | zero =>
      intro i hi u
      have hi' : i = t := by omega
      subst hi'
      rw [zlp]
      simp (decide := true) (implicitDefEqProofs := false) only [l_X12_moments_5, l.1, leT, zO, zR, zA, zT, zu1, zu2, zu3, zu4, gI, gL, pI, pL, pZ, aI, aL, sI, sZ, sL, Option.bind_some, Option.map_some, if_true, if_false, ite_true, ite_false, true_and, and_true, false_and, and_false, or_true, true_or, or_false, false_or, and_self, not_true_eq_false, not_false_eq_true, ↓reduceIte, reduceIte, Nat.reduceAdd, Nat.reduceMul, Nat.reduceSub, Nat.reduceMod, Nat.reduceDiv, Nat.reduceEqDiff, Nat.reduceLT, Nat.reduceLeDiff, Int32.reduceAdd, Int32.reduceSub, Int32.reduceMul, Int32.reduceDiv, Int32.reduceMod, Int32.reduceOfNat, Int32.reduceOfInt, Int32.reduceLT, Int32.reduceLE, Int32.reduceToNatClampNeg, Int32.reduceToInt]
    | succ m ih =>
      intro i hi u
      have n1 := ofN1 i
      have lf : (Int32.ofNat t ≤ Int32.ofNat i) = False := leF (by omega) (by omega)
      have this := ih (i + 1) (by omega) u
      rw [show sm (moI c e) (i + 1) = sm (moI c e) i + moI c e i from rfl] at this
      rw [zlp]
      simp (decide := true) (implicitDefEqProofs := false) only [l_X12_moments_5, l.1, lf, n1, momentOf_at h b l ht he (show i < t by omega), y64a, zO, zR, zA, zT, zu1, zu2, zu3, zu4, gI, gL, pI, pL, pZ, aI, aL, sI, sZ, sL, Option.bind_some, Option.map_some, if_true, if_false, ite_true, ite_false, true_and, and_true, false_and, and_false, or_true, true_or, or_false, false_or, and_self, not_true_eq_false, not_false_eq_true, ↓reduceIte, reduceIte, Nat.reduceAdd, Nat.reduceMul, Nat.reduceSub, Nat.reduceMod, Nat.reduceDiv, Nat.reduceEqDiff, Nat.reduceLT, Nat.reduceLeDiff, Int32.reduceAdd, Int32.reduceSub, Int32.reduceMul, Int32.reduceDiv, Int32.reduceMod, Int32.reduceOfNat, Int32.reduceOfInt, Int32.reduceLT, Int32.reduceLE, Int32.reduceToNatClampNeg, Int32.reduceToInt]
      exact this
  have p := loop t 0 (by omega) (4999 - t)
  rw [show 4999 - t + t + 1 = fu from by show _ = 5000; omega] at p
  unfold f_X12_moments
  rw [if_pos (by decide +kernel)]
  exact p
theorem sm_lin (w x y : Nat → Int) (p q r s : Int) : ∀ n, sm (fun i => w i * (p * (y i - 65 * q) - r * (x i - 65 * s))) n = p * (sm (fun i => w i * y i) n - q * (65 * sm w n)) - r * (sm (fun i => w i * x i) n - s * (65 * sm w n))
  | 0 => by simp [sm]
  | n + 1 => by
    have := sm_lin w x y p q r s n
    simp only [sm, this]
    grind
theorem sm_W {c : Nat → Nat → Int} : sm (thW c) (nP c + 2) = WW c := by
  show sm (thW c) (nP c) + thW c (nP c) + thW c (nP c + 1) = _
  rw [sm_congr (g := c 3) (nP c) (fun i hi => by unfold thW; rw [if_pos hi])]
  unfold thW WW hangs
  rw [if_neg (by omega), if_pos rfl, if_neg (by omega), if_neg (by omega)]
  omega
theorem sm_lc (f g h : Nat → Int) (p q r : Int) : ∀ n, sm (fun i => p * f i + q * g i + r * h i) n = p * sm f n + q * sm g n + r * sm h n
  | 0 => by simp [sm]
  | n + 1 => by
    have := sm_lc f g h p q r n
    simp only [sm, this]
    grind
theorem sm_X {c : Nat → Nat → Int} : sm (fun i => thW c i * thX c i) (nP c + 2) = MX c := by
  show sm _ (nP c) + thW c (nP c) * thX c (nP c) + thW c (nP c + 1) * thX c (nP c + 1) = _
  rw [sm_congr (g := fun i => 65 * (if c 6 i = 0 then c 3 i * c 4 i else 0) + cs (c 8 0) * (if c 6 i = 0 then 0 else c 3 i * c 4 i) + (- sn (c 8 0)) * (if c 6 i = 0 then 0 else c 3 i * c 5 i)) (nP c) (fun i hi => by
    unfold thW thX
    rw [if_pos hi, if_pos hi]
    by_cases e : c 6 i = 0
    · simp only [e, if_true]; grind
    · simp only [e, if_false]; grind), sm_lc]
  unfold thW thX
  rw [if_neg (by omega), if_pos rfl, if_neg (by omega), if_neg (by omega), if_neg (by omega), if_neg (by omega)]
  unfold MX stA tuA tuB hangs
  grind
theorem sm_Y {c : Nat → Nat → Int} : sm (fun i => thW c i * thY c i) (nP c + 2) = MY c := by
  show sm _ (nP c) + thW c (nP c) * thY c (nP c) + thW c (nP c + 1) * thY c (nP c + 1) = _
  rw [sm_congr (g := fun i => 65 * (if c 6 i = 0 then c 3 i * c 5 i else 0) + sn (c 8 0) * (if c 6 i = 0 then 0 else c 3 i * c 4 i) + cs (c 8 0) * (if c 6 i = 0 then 0 else c 3 i * c 5 i)) (nP c) (fun i hi => by
    unfold thW thY
    rw [if_pos hi, if_pos hi]
    by_cases e : c 6 i = 0
    · simp only [e, if_true]; grind
    · simp only [e, if_false]; grind), sm_lc]
  unfold thW thY
  rw [if_neg (by omega), if_pos rfl, if_neg (by omega), if_neg (by omega), if_neg (by omega), if_neg (by omega)]
  unfold MY stB tuA tuB hangs
  grind
theorem sm_mo {c : Nat → Nat → Int} {e : Nat} (he : e < 4) : sm (moI c e) (nP c + 2) = abt c (sw c) (MX c) (MY c) e ((e + 1) % 4) := by
  have := sm_lin (thW c) (thX c) (thY c) (c 0 ((e + 1) % 4) - c 0 (e % 4)) (c 1 (e % 4)) (c 1 ((e + 1) % 4) - c 1 (e % 4)) (c 0 (e % 4)) (nP c + 2)
  rw [sm_W, sm_X, sm_Y] at this
  show sm (fun i => _) _ = _
  unfold moI
  rw [this, Nat.mod_eq_of_lt he]
  rfl
theorem tips_at {c : Nat → Nat → Int} {μ : Mem} (h : MM c μ) (b : BC c) (l : LK c (nP c + 2) μ) : f_X12_tips SX 81 μ = some (tipN c (sw c) (MX c) (MY c), μ) := by
  have hn8 : nP c ≤ 8 := by have := b.2.2.1; unfold nP; omega
  have st : ∀ self, ∀ e, e < 4 → l_X12_tips_2 SX 81 self (Int32.ofNat e, μ) = if 0 ≤ abt c (sw c) (MX c) (MY c) e ((e + 1) % 4) then self (Int32.ofNat (e + 1), μ) else some (1, μ) := by
    intro self e he
    have hb := abt_b b.1 b.jb he (Nat.mod_lt (e + 1) (by decide : 4 > 0))
    have m := moments_at h b l (by omega) he
    rw [sm_mo he] at m
    simp (decide := true) (implicitDefEqProofs := false) only [l_X12_tips_2, i4c e he, i4n e he, m, y0le _ (show -9223372036854775808 ≤ abt c (sw c) (MX c) (MY c) e ((e + 1) % 4) by omega) (by omega), zO, zR, zA, zT, zu1, zu2, zu3, zu4, gI, gL, pI, pL, pZ, aI, aL, sI, sZ, sL, Option.bind_some, Option.map_some, if_true, if_false, ite_true, ite_false, true_and, and_true, false_and, and_false, or_true, true_or, or_false, false_or, and_self, not_true_eq_false, not_false_eq_true, ↓reduceIte, reduceIte, Nat.reduceAdd, Nat.reduceMul, Nat.reduceSub, Nat.reduceMod, Nat.reduceDiv, Nat.reduceEqDiff, Nat.reduceLT, Nat.reduceLeDiff, Int32.reduceAdd, Int32.reduceSub, Int32.reduceMul, Int32.reduceDiv, Int32.reduceMod, Int32.reduceOfNat, Int32.reduceOfInt, Int32.reduceLT, Int32.reduceLE, Int32.reduceToNatClampNeg, Int32.reduceToInt]
  have e0 : f_X12_tips SX 81 μ = lpN (l_X12_tips_2 SX 81) 5000 (Int32.ofNat 0, μ) := by
    unfold f_X12_tips; rw [if_pos (by decide +kernel)]; rfl
  have ex : ∀ self, l_X12_tips_2 SX 81 self (Int32.ofNat 4, μ) = some (0, μ) := fun _ => rfl
  rw [e0, zlp, st _ 0 (by decide), zlp, st _ 1 (by decide), zlp, st _ 2 (by decide), zlp, st _ 3 (by decide), zlp, ex]
  unfold tipN
  simp only [Nat.reduceAdd, Nat.reduceMul, Nat.reduceMod, Int32.reduceOfNat]
  by_cases t0 : 0 ≤ abt c (sw c) (MX c) (MY c) 0 1 <;> by_cases t1 : 0 ≤ abt c (sw c) (MX c) (MY c) 1 2 <;> by_cases t2 : 0 ≤ abt c (sw c) (MX c) (MY c) 2 3 <;> by_cases t3 : 0 ≤ abt c (sw c) (MX c) (MY c) 3 0 <;> simp [t0, t1, t2, t3]

