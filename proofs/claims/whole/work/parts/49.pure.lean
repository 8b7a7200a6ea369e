/-- a chart's entries in a row -/
def Ch (f : Nat → Int) (n : Nat) (A H : Nat → Int32) : Prop := ∃ p : Nat → Nat, (∀ i, i < n → p i < 61 ∧ A i = Int32.ofNat (p i) ∧ H i = Int32.ofInt (f (p i)) ∧ f (p i) ≠ -1) ∧ (∀ i j, i < j → j < n → p i < p j) ∧ (∀ r, r < 61 → f r ≠ -1 → ∃ i, i < n ∧ p i = r)
/-- the reference's crane -/
def MM (c : Nat → Nat → Int) (μ : Mem) : Prop := (∀ i, i < 4 → μ.1 82 (3 * i) = Int32.ofInt (c 0 i) ∧ μ.1 82 (3 * i + 1) = Int32.ofInt (c 1 i) ∧ μ.1 82 (3 * i + 2) = Int32.ofInt (c 2 i)) ∧ (μ.1 81 1 = Int32.ofInt (c 7 0) ∧ Rw μ 83 8 (c 3) ∧ Rw μ 84 8 (c 4) ∧ Rw μ 85 8 (c 5) ∧ Rw μ 86 8 (c 6)) ∧ (∀ q, q < 3 → μ.1 87 q = Int32.ofInt (c 12 q) ∧ Ch (c (9 + q)) (c 12 q).toNat (fun i => μ.1 88 (10 * q + i)) (fun i => μ.1 89 (10 * q + i))) ∧ Rw μ 90 14 (c 8)
/-- of the reference only these cells, and of its object only these slots, may have changed -/
def FM (P J : Nat → Prop) (μ ν : Mem) : Prop := (∀ k, k ≠ 81 → ¬ P k → ν.1 k = μ.1 k ∧ ν.2 k = μ.2 k) ∧ ∀ j, ¬ J j → ν.1 81 j = μ.1 81 j ∧ ν.2 81 j = μ.2 81 j
theorem FM.rf {P J : Nat → Prop} {μ : Mem} : FM P J μ μ := ⟨fun _ _ _ => ⟨rfl, rfl⟩, fun _ _ => ⟨rfl, rfl⟩⟩
theorem FM.tr {P J : Nat → Prop} {a b c : Mem} (h : FM P J a b) (g : FM P J b c) : FM P J a c := ⟨fun k h1 h2 => ⟨(g.1 k h1 h2).1.trans (h.1 k h1 h2).1, (g.1 k h1 h2).2.trans (h.1 k h1 h2).2⟩, fun j hj => ⟨(g.2 j hj).1.trans (h.2 j hj).1, (g.2 j hj).2.trans (h.2 j hj).2⟩⟩
theorem FM.mo {P J P' J' : Nat → Prop} {a b : Mem} (h : FM P J a b) (g1 : ∀ k, P k → P' k) (g2 : ∀ k, J k → J' k) : FM P' J' a b := ⟨fun k h1 h2 => h.1 k h1 (fun q => h2 (g1 k q)), fun j hj => h.2 j (fun q => hj (g2 j q))⟩
theorem FM.uI {P J : Nat → Prop} {μ : Mem} {o j : Nat} {v : Int32} (h : (o ≠ 81 ∧ P o) ∨ (o = 81 ∧ J j)) : FM P J μ (upI μ o j v) := by
  refine ⟨fun k h1 h2 => ⟨?_, rfl⟩, fun i hi => ⟨?_, rfl⟩⟩
  · funext i
    rw [zu1]
    rw [if_neg]
    rintro ⟨rfl, rfl⟩
    rcases h with h | h
    · exact h2 h.2
    · exact h1 h.1
  · rw [zu1, if_neg]
    rintro ⟨h3, rfl⟩
    rcases h with h | h
    · exact h.1 h3.symm
    · exact hi h.2
theorem FM.uL {P J : Nat → Prop} {μ : Mem} {o j : Nat} {v : Int64} (h : (o ≠ 81 ∧ P o) ∨ (o = 81 ∧ J j)) : FM P J μ (upL μ o j v) := by
  refine ⟨fun k h1 h2 => ⟨rfl, ?_⟩, fun i hi => ⟨rfl, ?_⟩⟩
  · funext i
    rw [zu4]
    rw [if_neg]
    rintro ⟨rfl, rfl⟩
    rcases h with h | h
    · exact h2 h.2
    · exact h1 h.1
  · rw [zu4, if_neg]
    rintro ⟨h3, rfl⟩
    rcases h with h | h
    · exact h.1 h3.symm
    · exact hi h.2
theorem MM.w {c : Nat → Nat → Int} {μ ν : Mem} {P J : Nat → Prop} (h : MM c μ) (f : FM P J μ ν) (hP : ∀ q, 82 ≤ q → q ≤ 90 → ¬ P q) (hJ : ¬ J 1) : MM c ν := by
  have e : ∀ q, 82 ≤ q → q ≤ 90 → ν.1 q = μ.1 q := fun q h1 h2 => (f.1 q (by omega) (hP q h1 h2)).1
  unfold MM Rw at *
  rw [e 82 (by decide) (by decide), e 83 (by decide) (by decide), e 84 (by decide) (by decide), e 85 (by decide) (by decide), e 86 (by decide) (by decide), e 87 (by decide) (by decide), e 88 (by decide) (by decide), e 89 (by decide) (by decide), e 90 (by decide) (by decide), (f.2 1 hJ).1]
  exact h
theorem pix : ∀ e, e < 8 → (inb (3 * (Int32.ofNat e - Int32.ofNat e / 4 * 4)) 12 = true ∧ (3 * (Int32.ofNat e - Int32.ofNat e / 4 * 4)).toNatClampNeg = 3 * (e % 4)) ∧ (inb (3 * (Int32.ofNat e - Int32.ofNat e / 4 * 4) + 1) 12 = true ∧ (3 * (Int32.ofNat e - Int32.ofNat e / 4 * 4) + 1).toNatClampNeg = 3 * (e % 4) + 1) := by decide +kernel
theorem x_at {c : Nat → Nat → Int} {μ : Mem} (h : MM c μ) {e : Nat} (he : e < 8) : f_X12_x SX 81 (Int32.ofNat e) μ = some (Int32.ofInt (c 0 (e % 4)), μ) := by
  obtain ⟨⟨i1, i2⟩, -⟩ := pix e he
  have g := (h.1 (e % 4) (Nat.mod_lt _ (by decide))).1
  simp (decide := true) (implicitDefEqProofs := false) only [f_X12_x, i1, i2, g, zO, zR, zA, zT, zu1, zu2, zu3, zu4, gI, gL, pI, pL, pZ, aI, aL, sI, sZ, sL, Option.bind_some, Option.map_some, if_true, if_false, ite_true, ite_false, true_and, and_true, false_and, and_false, or_true, true_or, or_false, false_or, and_self, not_true_eq_false, not_false_eq_true, ↓reduceIte, reduceIte, Nat.reduceAdd, Nat.reduceMul, Nat.reduceSub, Nat.reduceMod, Nat.reduceDiv, Nat.reduceEqDiff, Nat.reduceLT, Nat.reduceLeDiff, Int32.reduceAdd, Int32.reduceSub, Int32.reduceMul, Int32.reduceDiv, Int32.reduceMod, Int32.reduceOfNat, Int32.reduceOfInt, Int32.reduceLT, Int32.reduceLE, Int32.reduceToNatClampNeg, Int32.reduceToInt]
theorem y_at {c : Nat → Nat → Int} {μ : Mem} (h : MM c μ) {e : Nat} (he : e < 8) : f_X12_y SX 81 (Int32.ofNat e) μ = some (Int32.ofInt (c 1 (e % 4)), μ) := by
  obtain ⟨-, ⟨i1, i2⟩⟩ := pix e he
  have g := (h.1 (e % 4) (Nat.mod_lt _ (by decide))).2.1
  simp (decide := true) (implicitDefEqProofs := false) only [f_X12_y, i1, i2, g, zO, zR, zA, zT, zu1, zu2, zu3, zu4, gI, gL, pI, pL, pZ, aI, aL, sI, sZ, sL, Option.bind_some, Option.map_some, if_true, if_false, ite_true, ite_false, true_and, and_true, false_and, and_false, or_true, true_or, or_false, false_or, and_self, not_true_eq_false, not_false_eq_true, ↓reduceIte, reduceIte, Nat.reduceAdd, Nat.reduceMul, Nat.reduceSub, Nat.reduceMod, Nat.reduceDiv, Nat.reduceEqDiff, Nat.reduceLT, Nat.reduceLeDiff, Int32.reduceAdd, Int32.reduceSub, Int32.reduceMul, Int32.reduceDiv, Int32.reduceMod, Int32.reduceOfNat, Int32.reduceOfInt, Int32.reduceLT, Int32.reduceLE, Int32.reduceToNatClampNeg, Int32.reduceToInt]
theorem ylt32' (a b : Int) (h : -2147483648 ≤ a) (g : a < 2147483648) (h' : -2147483648 ≤ b) (g' : b < 2147483648) : (Int32.ofInt a < Int32.ofInt b) = (a < b) := propext (ylt32 a b h g h' g')
theorem y32_0 : (0 : Int32) = Int32.ofInt 0 := rfl
def stC (c : Nat → Nat → Int) (e : Nat) : Int := (c 0 ((e + 1) % 4) - c 0 (e % 4)) * (c 1 ((e + 2) % 4) - c 1 ((e + 1) % 4)) - (c 0 ((e + 2) % 4) - c 0 ((e + 1) % 4)) * (c 1 ((e + 1) % 4) - c 1 (e % 4))
theorem stC_tri (c : Nat → Nat → Int) (e : Nat) (he : e < 4) : stC c e = tri c e ((e + 1) % 4) ((e + 2) % 4) := by
  unfold stC tri
  rw [Nat.mod_eq_of_lt he]
  grind
theorem stands_at {c : Nat → Nat → Int} {μ : Mem} (h : MM c μ) (b : Bxy c) : f_X12_stands SX 81 μ = some (standB c, μ) := by
  have st : ∀ self, ∀ e, e < 4 → l_X12_stands_2 SX 81 self (Int32.ofNat e, μ) = if 0 < tri c e ((e + 1) % 4) ((e + 2) % 4) then self (Int32.ofNat (e + 1), μ) else some (0, μ) := by
    intro self e he
    have tb := tri_b b he (Nat.mod_lt (e + 1) (by decide : 4 > 0)) (Nat.mod_lt (e + 2) (by decide : 4 > 0))
    have n1 := ofN1 e
    have n2 : Int32.ofNat e + 2 = Int32.ofNat (e + 2) := (Int32.ofNat_add e 2).symm
    have q : (0 < Int32.ofInt (stC c e)) = (0 < stC c e) := ylt32' 0 (stC c e) (by omega) (by omega) (by rw [stC_tri c e he]; omega) (by rw [stC_tri c e he]; omega)
    unfold l_X12_stands_2
    simp (decide := true) (implicitDefEqProofs := false) only [i4c e he, n1, n2, x_at h (show e + 1 < 8 by omega), x_at h (show e < 8 by omega), x_at h (show e + 2 < 8 by omega), y_at h (show e + 1 < 8 by omega), y_at h (show e < 8 by omega), y_at h (show e + 2 < 8 by omega), y32s, y32m, zO, zR, zA, zT, zu1, zu2, zu3, zu4, gI, gL, pI, pL, pZ, aI, aL, sI, sZ, sL, Option.bind_some, Option.map_some, if_true, if_false, ite_true, ite_false, true_and, and_true, false_and, and_false, or_true, true_or, or_false, false_or, and_self, not_true_eq_false, not_false_eq_true, ↓reduceIte, reduceIte, Nat.reduceAdd, Nat.reduceMul, Nat.reduceSub, Nat.reduceMod, Nat.reduceDiv, Nat.reduceEqDiff, Nat.reduceLT, Nat.reduceLeDiff, Int32.reduceAdd, Int32.reduceSub, Int32.reduceMul, Int32.reduceDiv, Int32.reduceMod, Int32.reduceOfNat, Int32.reduceOfInt, Int32.reduceLT, Int32.reduceLE, Int32.reduceToNatClampNeg, Int32.reduceToInt]
    rw [← stC_tri c e he]
    show (if 0 < Int32.ofInt (stC c e) then _ else _) = _
    simp only [q]
  have e0 : f_X12_stands SX 81 μ = lpN (l_X12_stands_2 SX 81) 5000 (Int32.ofNat 0, μ) := by
    unfold f_X12_stands; rw [if_pos (by decide +kernel)]; rfl
  have ex : ∀ self, l_X12_stands_2 SX 81 self (Int32.ofNat 4, μ) = some (1, μ) := fun _ => rfl
  rw [e0, zlp, st _ 0 (by decide), zlp, st _ 1 (by decide), zlp, st _ 2 (by decide), zlp, st _ 3 (by decide), zlp, ex]
  have sb := standB_iff c
  unfold stands at sb
  simp only [Nat.reduceAdd, Nat.reduceMul, Nat.reduceMod, Int32.reduceOfNat]
  rcases sb with ⟨⟨s1, s2, s3, s4⟩, s5⟩ | ⟨s1, s5⟩
  · rw [s5, if_pos s1, if_pos s2, if_pos s3, if_pos s4]
  · rw [s5]
    by_cases t0 : 0 < tri c 0 1 2 <;> by_cases t1 : 0 < tri c 1 2 3 <;> by_cases t2 : 0 < tri c 2 3 0 <;> by_cases t3 : 0 < tri c 3 0 1 <;> simp [t0, t1, t2, t3] <;> exact absurd ⟨t0, t1, t2, t3⟩ s1

