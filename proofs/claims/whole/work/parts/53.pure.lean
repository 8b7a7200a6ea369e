theorem pk4 (c : Nat → Nat → Int) : pN (-1) = 4 ∧ pX c (-1) = S1 c ∧ pY c (-1) = S2 c ∧ pXX c (-1) = S3 c ∧ pXY c (-1) = S4 c ∧ pYY c (-1) = S5 c := by
  refine ⟨?_, ?_, ?_, ?_, ?_, ?_⟩ <;> simp [pN, pX, pY, pXX, pXY, pYY, sm, pk, S1, S2, S3, S4, S5]
theorem pPush4 (c : Nat → Nat → Int) (k : Nat) : pPush c (-1) k = s4 c k := by
  obtain ⟨h0, h1, h2, h3, h4, h5⟩ := pk4 c
  unfold pPush pFlat pBx pBy s4 sh4 plA plB plC
  rw [if_neg (by omega), h0, h1, h2, h3, h4, h5]
  generalize S1 c = a1
  generalize S2 c = a2
  generalize S3 c = a3
  generalize S4 c = a4
  generalize S5 c = a5
  unfold dM
  grind
theorem pAll4 (c : Nat → Nat → Int) : pAll c (-1) = detC c := by
  obtain ⟨h0, h1, h2, h3, h4, h5⟩ := pk4 c
  unfold pAll detC
  rw [h0, h1, h2, h3, h4, h5]
  unfold dM
  grind
def tr3 (c : Nat → Nat → Int) (u : Nat) : Int := tri c ((u + 1) % 4) ((u + 2) % 4) ((u + 3) % 4)
theorem pk3 (c : Nat → Nat → Int) : ∀ u, u < 4 → (pN (u : Nat) = 3 ∧ pX c (u : Nat) = c 0 ((u + 1) % 4) + c 0 ((u + 2) % 4) + c 0 ((u + 3) % 4) ∧ pY c (u : Nat) = c 1 ((u + 1) % 4) + c 1 ((u + 2) % 4) + c 1 ((u + 3) % 4) ∧ pXX c (u : Nat) = c 0 ((u + 1) % 4) * c 0 ((u + 1) % 4) + c 0 ((u + 2) % 4) * c 0 ((u + 2) % 4) + c 0 ((u + 3) % 4) * c 0 ((u + 3) % 4) ∧ pXY c (u : Nat) = c 0 ((u + 1) % 4) * c 1 ((u + 1) % 4) + c 0 ((u + 2) % 4) * c 1 ((u + 2) % 4) + c 0 ((u + 3) % 4) * c 1 ((u + 3) % 4) ∧ pYY c (u : Nat) = c 1 ((u + 1) % 4) * c 1 ((u + 1) % 4) + c 1 ((u + 2) % 4) * c 1 ((u + 2) % 4) + c 1 ((u + 3) % 4) * c 1 ((u + 3) % 4)) := by
  intro u hu
  have e : u = 0 ∨ u = 1 ∨ u = 2 ∨ u = 3 := by omega
  rcases e with rfl | rfl | rfl | rfl <;> refine ⟨?_, ?_, ?_, ?_, ?_, ?_⟩ <;> simp (decide := true) [pN, pX, pY, pXX, pXY, pYY, sm, pk] <;> omega
theorem pAll3 (c : Nat → Nat → Int) {u : Nat} (hu : u < 4) : pAll c (u : Nat) = tr3 c u * tr3 c u := by
  obtain ⟨h0, h1, h2, h3, h4, h5⟩ := pk3 c u hu
  unfold pAll tr3 tri
  rw [h0, h1, h2, h3, h4, h5]
  exact pl3_det _ _ _ _ _ _
theorem pPush3 (c : Nat → Nat → Int) {u : Nat} (hu : u < 4) {k : Nat} (hk : k < 4) : pPush c (u : Nat) k = tr3 c u * s3 c u k := by
  obtain ⟨h0, h1, h2, h3, h4, h5⟩ := pk3 c u hu
  have A := pl3_push (c 0 ((u + 1) % 4)) (c 1 ((u + 1) % 4)) (c 0 ((u + 2) % 4)) (c 1 ((u + 2) % 4)) (c 0 ((u + 3) % 4)) (c 1 ((u + 3) % 4)) (sw c) (MX c) (MY c)
  have B := pl3_push (c 0 ((u + 2) % 4)) (c 1 ((u + 2) % 4)) (c 0 ((u + 3) % 4)) (c 1 ((u + 3) % 4)) (c 0 ((u + 1) % 4)) (c 1 ((u + 1) % 4)) (sw c) (MX c) (MY c)
  have C := pl3_push (c 0 ((u + 3) % 4)) (c 1 ((u + 3) % 4)) (c 0 ((u + 1) % 4)) (c 1 ((u + 1) % 4)) (c 0 ((u + 2) % 4)) (c 1 ((u + 2) % 4)) (sw c) (MX c) (MY c)
  have rot : ∀ a b d : Int, b + d + a = a + b + d := fun a b d => by omega
  have rot2 : ∀ a b d : Int, d + a + b = a + b + d := fun a b d => by omega
  rw [rot (c 0 ((u + 1) % 4)), rot (c 1 ((u + 1) % 4)), rot (c 0 ((u + 1) % 4) * c 0 ((u + 1) % 4)), rot (c 0 ((u + 1) % 4) * c 1 ((u + 1) % 4)), rot (c 1 ((u + 1) % 4) * c 1 ((u + 1) % 4)), ← h0, ← h1, ← h2, ← h3, ← h4, ← h5] at B
  rw [rot2 (c 0 ((u + 1) % 4)), rot2 (c 1 ((u + 1) % 4)), rot2 (c 0 ((u + 1) % 4) * c 0 ((u + 1) % 4)), rot2 (c 0 ((u + 1) % 4) * c 1 ((u + 1) % 4)), rot2 (c 1 ((u + 1) % 4) * c 1 ((u + 1) % 4)), ← h0, ← h1, ← h2, ← h3, ← h4, ← h5] at C
  rw [← h0, ← h1, ← h2, ← h3, ← h4, ← h5] at A
  unfold pPush s3 sh3
  by_cases t0 : k = u
  · rw [if_pos (by omega), if_pos t0, Int.mul_zero]
  rw [if_neg (by omega), if_neg t0]
  by_cases t1 : k = (u + 1) % 4
  · rw [if_pos t1, t1]
    exact A
  rw [if_neg t1]
  by_cases t2 : k = (u + 2) % 4
  · rw [if_pos t2, t2]
    refine Eq.trans B ?_
    unfold tr3 tri abt
    grind
  · rw [if_neg t2]
    have t3 : k = (u + 3) % 4 := by omega
    rw [t3]
    refine Eq.trans C ?_
    unfold tr3 tri abt
    grind
def lmF (s : Nat → Int) : Nat → Nat
  | 0 => 0
  | n + 1 => if s (lmF s n) ≤ s (n + 1) then lmF s n else n + 1
theorem lmF_s (s : Nat → Int) : ∀ n, lmF s n ≤ n ∧ (∀ i, i ≤ n → s (lmF s n) ≤ s i) ∧ (∀ i, i < lmF s n → s (lmF s n) < s i)
  | 0 => ⟨Nat.le_refl 0, fun i hi => by have : i = 0 := by omega
                                        subst this; exact Int.le_refl _, fun i hi => absurd hi (Nat.not_lt_zero _)⟩
  | n + 1 => by
    obtain ⟨h1, h2, h3⟩ := lmF_s s n
    unfold lmF
    by_cases e : s (lmF s n) ≤ s (n + 1)
    · rw [if_pos e]
      refine ⟨by omega, fun i hi => ?_, h3⟩
      by_cases q : i = n + 1
      · rw [q]; exact e
      · exact h2 i (by omega)
    · rw [if_neg e]
      refine ⟨Nat.le_refl _, fun i hi => ?_, fun i hi => ?_⟩
      · by_cases q : i = n + 1
        · rw [q]; exact Int.le_refl _
        · have := h2 i (by omega); omega
      · have := h2 i (by omega); omega
theorem lowF_s (s : Nat → Int) : ∀ n, ((∀ i, i < n → 0 ≤ s i) ∧ lowF s n = (-5, 0)) ∨ ∃ j : Nat, j < n ∧ s j < 0 ∧ lowF s n = ((j : Int), s j) ∧ (∀ i, i < n → s j ≤ s i) ∧ (∀ i, i < j → s j < s i)
  | 0 => Or.inl ⟨fun i hi => absurd hi (Nat.not_lt_zero _), rfl⟩
  | n + 1 => by
    rcases lowF_s s n with ⟨h1, h2⟩ | ⟨j, h0, h1, h2, h3, h4⟩
    · unfold lowF
      rw [h2]
      by_cases e : (0 : Int) ≤ s n
      · left
        refine ⟨fun i hi => ?_, by rw [if_pos e]⟩
        by_cases q : i = n
        · rw [q]; exact e
        · exact h1 i (by omega)
      · right
        refine ⟨n, by omega, by omega, by rw [if_neg e], fun i hi => ?_, fun i hi => ?_⟩
        · by_cases q : i = n
          · rw [q]; exact Int.le_refl _
          · have := h1 i (by omega); omega
        · have := h1 i (by omega); omega
    · right
      unfold lowF
      rw [h2]
      by_cases e : s j ≤ s n
      · refine ⟨j, by omega, h1, by rw [if_pos e], fun i hi => ?_, h4⟩
        by_cases q : i = n
        · rw [q]; exact e
        · exact h3 i (by omega)
      · refine ⟨n, by omega, by omega, by rw [if_neg e], fun i hi => ?_, fun i hi => ?_⟩
        · by_cases q : i = n
          · rw [q]; exact Int.le_refl _
          · have := h3 i (by omega); omega
        · have := h3 i (by omega); omega
theorem low_lst (s : Nat → Int) : (0 ≤ s (lmF s 3) ∧ low s = -5) ∨ (s (lmF s 3) < 0 ∧ low s = (lmF s 3 : Nat)) := by
  obtain ⟨a1, a2, a3⟩ := lmF_s s 3
  unfold low
  rcases lowF_s s 4 with ⟨h1, h2⟩ | ⟨j, h0, h1, h2, h3, h4⟩
  · left; exact ⟨h1 _ (by omega), by rw [h2]⟩
  · right
    have p1 := a2 j (by omega)
    have p2 := h3 (lmF s 3) (by omega)
    refine ⟨by omega, ?_⟩
    rw [h2]
    show (j : Int) = _
    have : ¬ j < lmF s 3 := fun q => by have := a3 j q; omega
    have : ¬ lmF s 3 < j := fun q => by have := h4 _ q; omega
    omega
theorem least_at {μ : Mem} {s : Nat → Int} (h : ∀ i, i < 4 → μ.2 95 i = Int64.ofInt (s i)) (hb : ∀ i, i < 4 → -9000000000000000000 ≤ s i ∧ s i ≤ 9000000000000000000) : f_X12_least SX 81 μ = some (Int32.ofNat (lmF s 3), μ) := by
  have st : ∀ self, ∀ e, e < 3 → l_X12_least_4 SX 81 self (Int32.ofNat (lmF s e), Int32.ofNat (e + 1), μ) = self (Int32.ofNat (lmF s (e + 1)), Int32.ofNat (e + 2), μ) := by
    intro self e he
    have h0 := (lmF_s s e).1
    have h1 := hb (lmF s e) (by omega)
    have h2 := hb (e + 1) (by omega)
    have h3 : (Int64.ofInt (s (lmF s e)) ≤ Int64.ofInt (s (e + 1))) = (s (lmF s e) ≤ s (e + 1)) := propext (yle _ _ (by omega) (by omega) (by omega) (by omega))
    have hn := i4n (e + 1) (by omega)
    by_cases q : s (lmF s e) ≤ s (e + 1)
    · have e1 : lmF s (e + 1) = lmF s e := by show (if _ then _ else _) = _; rw [if_pos q]
      rw [e1]
      simp (decide := true) (implicitDefEqProofs := false) only [l_X12_least_4, i4c (e + 1) (by omega), hn, zin (e + 1) 4 (by omega) (by decide), ztn (e + 1) (by omega), zin (lmF s e) 4 (by omega) (by decide), ztn (lmF s e) (by omega), h (e + 1) (by omega), h (lmF s e) (by omega), h3, q, zO, zR, zA, zT, zu1, zu2, zu3, zu4, gI, gL, pI, pL, pZ, aI, aL, sI, sZ, sL, Option.bind_some, Option.map_some, if_true, if_false, ite_true, ite_false, true_and, and_true, false_and, and_false, or_true, true_or, or_false, false_or, and_self, not_true_eq_false, not_false_eq_true, ↓reduceIte, reduceIte, Nat.reduceAdd, Nat.reduceMul, Nat.reduceSub, Nat.reduceMod, Nat.reduceDiv, Nat.reduceEqDiff, Nat.reduceLT, Nat.reduceLeDiff, Int32.reduceAdd, Int32.reduceSub, Int32.reduceMul, Int32.reduceDiv, Int32.reduceMod, Int32.reduceOfNat, Int32.reduceOfInt, Int32.reduceLT, Int32.reduceLE, Int32.reduceToNatClampNeg, Int32.reduceToInt]
    · have e1 : lmF s (e + 1) = e + 1 := by show (if _ then _ else _) = _; rw [if_neg q]
      rw [e1]
      simp (decide := true) (implicitDefEqProofs := false) only [l_X12_least_4, i4c (e + 1) (by omega), hn, zin (e + 1) 4 (by omega) (by decide), ztn (e + 1) (by omega), zin (lmF s e) 4 (by omega) (by decide), ztn (lmF s e) (by omega), h (e + 1) (by omega), h (lmF s e) (by omega), h3, q, zO, zR, zA, zT, zu1, zu2, zu3, zu4, gI, gL, pI, pL, pZ, aI, aL, sI, sZ, sL, Option.bind_some, Option.map_some, if_true, if_false, ite_true, ite_false, true_and, and_true, false_and, and_false, or_true, true_or, or_false, false_or, and_self, not_true_eq_false, not_false_eq_true, ↓reduceIte, reduceIte, Nat.reduceAdd, Nat.reduceMul, Nat.reduceSub, Nat.reduceMod, Nat.reduceDiv, Nat.reduceEqDiff, Nat.reduceLT, Nat.reduceLeDiff, Int32.reduceAdd, Int32.reduceSub, Int32.reduceMul, Int32.reduceDiv, Int32.reduceMod, Int32.reduceOfNat, Int32.reduceOfInt, Int32.reduceLT, Int32.reduceLE, Int32.reduceToNatClampNeg, Int32.reduceToInt]
  have e0 : f_X12_least SX 81 μ = lpN (l_X12_least_4 SX 81) 5000 (Int32.ofNat (lmF s 0), Int32.ofNat 1, μ) := by
    unfold f_X12_least; rw [if_pos (by decide +kernel)]; rfl
  have ex : ∀ self a, l_X12_least_4 SX 81 self (a, Int32.ofNat 4, μ) = some (a, μ) := fun _ _ => rfl
  rw [e0, zlp, st _ 0 (by decide), zlp, st _ 1 (by decide), zlp, st _ 2 (by decide), zlp, ex]
def DD (c : Nat → Nat → Int) : Int := if air c = -5 then 1 else tr3 c (air c).toNat
/-- what the reference has found -/
def MO (c : Nat → Nat → Int) (ν : Mem) : Prop := MPs (fun p => DD c * shF c p) (DD c * blF c) ν ∧ ν.1 81 18 = Int32.ofInt (air c)
def uP (q : Nat) : Prop := 92 ≤ q ∧ q ≤ 95
def uJ (j : Nat) : Prop := j = 12 ∨ j = 17 ∨ j = 18
theorem s3_b {c : Nat → Nat → Int} (b : BC c) (u k : Nat) : -18000000000 ≤ s3 c u k ∧ s3 c u k ≤ 18000000000 := by
  have jb := b.jb
  have d1 := abt_b b.1 jb (Nat.mod_lt (u + 2) (by decide : 4 > 0)) (Nat.mod_lt (u + 3) (by decide : 4 > 0))
  have d2 := abt_b b.1 jb (Nat.mod_lt (u + 3) (by decide : 4 > 0)) (Nat.mod_lt (u + 1) (by decide : 4 > 0))
  have d3 := abt_b b.1 jb (Nat.mod_lt (u + 1) (by decide : 4 > 0)) (Nat.mod_lt (u + 2) (by decide : 4 > 0))
  unfold s3 sh3
  split
  · omega
  · split
    · omega
    · split <;> omega
theorem tr3_pos {c : Nat → Nat → Int} (h : standB c ≠ 0) : ∀ u, u < 4 → 0 < tr3 c u := by
  have := standB_iff c
  rcases this with ⟨⟨a, b, d, e⟩, -⟩ | ⟨-, g⟩
  · intro u hu
    have q : u = 0 ∨ u = 1 ∨ u = 2 ∨ u = 3 := by omega
    unfold tr3
    rcases q with rfl | rfl | rfl | rfl <;> simp only [Nat.reduceAdd, Nat.reduceMul, Nat.reduceMod, Int32.reduceOfNat] <;> assumption
  · exact absurd g h

