theorem bhN_eq {f : Nat → Int} : ∀ n r m, r + n = 61 → r ≤ m → m ≤ 61 → (∀ j, r ≤ j → j < m → f j = -1) → (m < 61 → f m ≠ -1) → bhN f n r = m
  | 0, r, m, h1, h2, h3, h4, h5 => by unfold bhN; omega
  | n + 1, r, m, h1, h2, h3, h4, h5 => by
    unfold bhN
    by_cases e : r = m
    · subst e
      rw [if_neg (h5 (by omega))]
    · rw [if_pos (h4 r (Nat.le_refl _) (by omega))]
      exact bhN_eq n (r + 1) m (by omega) (by omega) h3 (fun j h6 h7 => h4 j (by omega) h7) h5
theorem bh_eq {f : Nat → Int} {r m : Nat} (h1 : r ≤ 61) (h2 : r ≤ m) (h3 : m ≤ 61) (h4 : ∀ j, r ≤ j → j < m → f j = -1) (h5 : m < 61 → f m ≠ -1) : bh f r = m := bhN_eq _ r m (by omega) h2 h3 h4 h5
theorem ah_none {f : Nat → Int} : ∀ m, (∀ j, j < m → f j = -1) → ah f m = -1
  | 0, _ => rfl
  | m + 1, h => by
    unfold ah
    rw [if_pos (h m (by omega))]
    exact ah_none m (fun j hj => h j (by omega))
theorem ah_eq {f : Nat → Int} {a : Nat} : ∀ m, a < m → (∀ j, a < j → j < m → f j = -1) → f a ≠ -1 → ah f m = a
  | 0, h, _, _ => absurd h (Nat.not_lt_zero _)
  | m + 1, h1, h2, h3 => by
    unfold ah
    by_cases e : a = m
    · subst e; rw [if_neg h3]
    · rw [if_pos (h2 m (by omega) (by omega))]
      exact ah_eq m (by omega) (fun j h4 h5 => h2 j h4 (by omega)) h3
theorem i10 (q i : Nat) : 10 * Int32.ofNat q + Int32.ofNat i = Int32.ofNat (10 * q + i) := by
  rw [Int32.ofNat_add, Int32.ofNat_mul]
  rfl
theorem placeOf_at {n q : Nat} (hq : q < 3) (hn : n ≤ 10) {p : Nat → Nat} {μ : Mem} (h1 : μ.1 87 q = Int32.ofNat n) (h2 : ∀ i, i < n → p i < 61 ∧ μ.1 88 (10 * q + i) = Int32.ofNat (p i)) {r : Nat} (hr : r < 61) : ∃ K, f_X12_placeOf SX 81 (Int32.ofNat q) (Int32.ofNat r) μ = some (Int32.ofNat K, μ) ∧ K ≤ n ∧ (∀ i, i < K → p i < r) ∧ (K < n → r ≤ p K) := by
  have loop : ∀ m i, i + m = n → (∀ j, j < i → p j < r) → ∀ u, ∃ K, lpN (l_X12_placeOf_2 SX 81 (Int32.ofNat q) (Int32.ofNat r)) (u + m + 1) (Int32.ofNat i, μ) = some (Int32.ofNat K, μ) ∧ K ≤ n ∧ (∀ i, i < K → p i < r) ∧ (K < n → r ≤ p K) := by
    intro m
    induction m with
    | zero =>
      intro i hi hj u
      have e : i = n := by omega
      subst e
      refine ⟨i, ?_, Nat.le_refl _, hj, fun g => absurd g (Nat.lt_irrefl _)⟩
      rw [zlp]
      simp (decide := true) (implicitDefEqProofs := false) only [l_X12_placeOf_2, zin q 3 hq (by decide), ztn q (by omega), h1, leT, zO, zR, zA, zT, zu1, zu2, zu3, zu4, gI, gL, pI, pL, pZ, aI, aL, sI, sZ, sL, Option.bind_some, Option.map_some, if_true, if_false, ite_true, ite_false, true_and, and_true, false_and, and_false, or_true, true_or, or_false, false_or, and_self, not_true_eq_false, not_false_eq_true, ↓reduceIte, reduceIte, Nat.reduceAdd, Nat.reduceMul, Nat.reduceSub, Nat.reduceMod, Nat.reduceDiv, Nat.reduceEqDiff, Nat.reduceLT, Nat.reduceLeDiff, Int32.reduceAdd, Int32.reduceSub, Int32.reduceMul, Int32.reduceDiv, Int32.reduceMod, Int32.reduceOfNat, Int32.reduceOfInt, Int32.reduceLT, Int32.reduceLE, Int32.reduceToNatClampNeg, Int32.reduceToInt]
    | succ m ih =>
      intro i hi hj u
      have e := h2 i (by omega)
      have lf : (Int32.ofNat n ≤ Int32.ofNat i) = False := leF (by omega) (by omega)
      have le : (Int32.ofNat r ≤ Int32.ofNat (p i)) = (r ≤ p i) := by
        have := yle32 (r : Nat) (p i : Nat) (by omega) (by omega) (by omega) (by omega)
        exact propext ⟨fun g => by have := this.mp g; omega, fun g => this.mpr (by omega)⟩
      by_cases t : r ≤ p i
      · refine ⟨i, ?_, by omega, hj, fun _ => t⟩
        rw [zlp]
        simp (decide := true) (implicitDefEqProofs := false) only [l_X12_placeOf_2, zin q 3 hq (by decide), ztn q (by omega), h1, lf, i10 q i, zin (10 * q + i) 30 (by omega) (by decide), ztn (10 * q + i) (by omega), e.2, le, t, zO, zR, zA, zT, zu1, zu2, zu3, zu4, gI, gL, pI, pL, pZ, aI, aL, sI, sZ, sL, Option.bind_some, Option.map_some, if_true, if_false, ite_true, ite_false, true_and, and_true, false_and, and_false, or_true, true_or, or_false, false_or, and_self, not_true_eq_false, not_false_eq_true, ↓reduceIte, reduceIte, Nat.reduceAdd, Nat.reduceMul, Nat.reduceSub, Nat.reduceMod, Nat.reduceDiv, Nat.reduceEqDiff, Nat.reduceLT, Nat.reduceLeDiff, Int32.reduceAdd, Int32.reduceSub, Int32.reduceMul, Int32.reduceDiv, Int32.reduceMod, Int32.reduceOfNat, Int32.reduceOfInt, Int32.reduceLT, Int32.reduceLE, Int32.reduceToNatClampNeg, Int32.reduceToInt]
      · obtain ⟨K, k1, k2⟩ := ih (i + 1) (by omega) (fun j hj' => by
          by_cases g : j = i
          · rw [g]; omega
          · exact hj j (by omega)) u
        refine ⟨K, ?_, k2⟩
        rw [zlp]
        simp (decide := true) (implicitDefEqProofs := false) only [l_X12_placeOf_2, zin q 3 hq (by decide), ztn q (by omega), h1, lf, i10 q i, zin (10 * q + i) 30 (by omega) (by decide), ztn (10 * q + i) (by omega), e.2, le, t, ofN1 i, zO, zR, zA, zT, zu1, zu2, zu3, zu4, gI, gL, pI, pL, pZ, aI, aL, sI, sZ, sL, Option.bind_some, Option.map_some, if_true, if_false, ite_true, ite_false, true_and, and_true, false_and, and_false, or_true, true_or, or_false, false_or, and_self, not_true_eq_false, not_false_eq_true, ↓reduceIte, reduceIte, Nat.reduceAdd, Nat.reduceMul, Nat.reduceSub, Nat.reduceMod, Nat.reduceDiv, Nat.reduceEqDiff, Nat.reduceLT, Nat.reduceLeDiff, Int32.reduceAdd, Int32.reduceSub, Int32.reduceMul, Int32.reduceDiv, Int32.reduceMod, Int32.reduceOfNat, Int32.reduceOfInt, Int32.reduceLT, Int32.reduceLE, Int32.reduceToNatClampNeg, Int32.reduceToInt]
        exact k1
  obtain ⟨K, k1, k2⟩ := loop n 0 (by omega) (fun j hj => absurd hj (Nat.not_lt_zero _)) (4999 - n)
  rw [show 4999 - n + n + 1 = fu from by show _ = 5000; omega] at k1
  refine ⟨K, ?_, k2⟩
  unfold f_X12_placeOf
  rw [if_pos (by decide +kernel)]
  exact k1
theorem neN {a b : Nat} (ha : a < 2147483648) (hb : b < 2147483648) : (Int32.ofNat a = Int32.ofNat b) = (a = b) := by
  have := yeq (a : Nat) (b : Nat) (by omega) (by omega) (by omega) (by omega)
  exact propext ⟨fun g => by have := this.mp g; omega, fun g => by rw [g]⟩
theorem readOf_at {c : Nat → Nat → Int} {μ : Mem} (h : MM c μ) (b : BC c) {q r : Nat} (hq : q < 3) (hr : r < 61) : f_X12_readOf SX 81 (Int32.ofNat q) (Int32.ofNat r) μ = some (readV (c (9 + q)) r, μ) := by
  obtain ⟨hc1, p, hp1, hp2, hp3⟩ := h.2.2.1 q hq
  obtain ⟨b1, b2⟩ := b.2.2.2.2.1 q hq
  rw [ofIn _ b1.1] at hc1
  obtain ⟨n, En⟩ : ∃ n, n = (c 12 q).toNat := ⟨_, rfl⟩
  rw [← En] at hc1 hp1 hp2 hp3
  have hn : n ≤ 10 := by omega
  obtain ⟨f, Ef⟩ : ∃ f, f = c (9 + q) := ⟨_, rfl⟩
  rw [← Ef] at hp1 hp3 b2 ⊢
  obtain ⟨K, k1, k2, k3, k4⟩ := placeOf_at hq hn hc1 (fun i hi => ⟨(hp1 i hi).1, (hp1 i hi).2.1⟩) hr
  have iq := zin q 3 hq (by decide)
  have tq := ztn q (by omega)
  by_cases t1 : K = n
  · have e : bh f r = 61 := bh_eq (by omega) (by omega) (Nat.le_refl _) (fun j g1 g2 => by
      by_cases g : f j = -1
      · exact g
      · obtain ⟨i, g3, g4⟩ := hp3 j g2 g
        have := k3 i (by omega)
        omega) (fun g => absurd g (Nat.lt_irrefl _))
    have e2 : readV f r = 0 := by unfold readV; rw [if_pos e]
    rw [e2]
    simp (decide := true) (implicitDefEqProofs := false) only [f_X12_readOf, k1, iq, tq, hc1, t1, zO, zR, zA, zT, zu1, zu2, zu3, zu4, gI, gL, pI, pL, pZ, aI, aL, sI, sZ, sL, Option.bind_some, Option.map_some, if_true, if_false, ite_true, ite_false, true_and, and_true, false_and, and_false, or_true, true_or, or_false, false_or, and_self, not_true_eq_false, not_false_eq_true, ↓reduceIte, reduceIte, Nat.reduceAdd, Nat.reduceMul, Nat.reduceSub, Nat.reduceMod, Nat.reduceDiv, Nat.reduceEqDiff, Nat.reduceLT, Nat.reduceLeDiff, Int32.reduceAdd, Int32.reduceSub, Int32.reduceMul, Int32.reduceDiv, Int32.reduceMod, Int32.reduceOfNat, Int32.reduceOfInt, Int32.reduceLT, Int32.reduceLE, Int32.reduceToNatClampNeg, Int32.reduceToInt]
  · have hK : K < n := by omega
    have pK := hp1 K hK
    have rK := k4 hK
    have e : bh f r = p K := bh_eq (by omega) rK (by omega) (fun j g1 g2 => by
      by_cases g : f j = -1
      · exact g
      · obtain ⟨i, g3, g4⟩ := hp3 j (by omega) g
        by_cases g5 : i < K
        · have := k3 i g5; omega
        · by_cases g6 : i = K
          · subst g6; omega
          · have := hp2 K i (by omega) g3; omega) (fun _ => pK.2.2.2)
    have n1 : (Int32.ofNat K = Int32.ofNat n) = False := by rw [neN (by omega) (by omega)]; exact eq_false t1
    have iK := zin (10 * q + K) 30 (by omega) (by decide)
    have tK := ztn (10 * q + K) (by omega)
    have n2 : (Int32.ofNat (p K) = Int32.ofNat r) = (p K = r) := neN (by omega) (by omega)
    have a1 : μ.1 88 (10 * q + K) = Int32.ofNat (p K) := pK.2.1
    have a2 : μ.1 89 (10 * q + K) = Int32.ofInt (f (p K)) := pK.2.2.1
    by_cases t2 : p K = r
    · have e3 : ah f (r + 1) = (p K : Nat) := ah_eq _ (by omega) (fun j g1 g2 => by omega) pK.2.2.2
      have e2 : readV f r = Int32.ofInt (f (p K)) := by
        unfold readV; rw [e, e3, if_neg (by omega), if_neg (by omega), if_pos rfl]
      rw [e2]
      simp (decide := true) (implicitDefEqProofs := false) only [f_X12_readOf, k1, iq, tq, hc1, n1, i10 q K, iK, tK, a1, a2, n2, t2, zO, zR, zA, zT, zu1, zu2, zu3, zu4, gI, gL, pI, pL, pZ, aI, aL, sI, sZ, sL, Option.bind_some, Option.map_some, if_true, if_false, ite_true, ite_false, true_and, and_true, false_and, and_false, or_true, true_or, or_false, false_or, and_self, not_true_eq_false, not_false_eq_true, ↓reduceIte, reduceIte, Nat.reduceAdd, Nat.reduceMul, Nat.reduceSub, Nat.reduceMod, Nat.reduceDiv, Nat.reduceEqDiff, Nat.reduceLT, Nat.reduceLeDiff, Int32.reduceAdd, Int32.reduceSub, Int32.reduceMul, Int32.reduceDiv, Int32.reduceMod, Int32.reduceOfNat, Int32.reduceOfInt, Int32.reduceLT, Int32.reduceLE, Int32.reduceToNatClampNeg, Int32.reduceToInt]
    · by_cases t3 : K = 0
      · have e3 : ah f (r + 1) = -1 := ah_none _ (fun j g1 => by
          by_cases g : f j = -1
          · exact g
          · obtain ⟨i, g3, g4⟩ := hp3 j (by omega) g
            by_cases g6 : i = K
            · subst g6; omega
            · have := hp2 K i (by omega) g3; omega)
        have e2 : readV f r = Int32.ofInt (f (p K)) := by
          unfold readV; rw [e, e3, if_neg (by omega), if_pos (by decide)]
        rw [e2]
        have n3 : (Int32.ofNat K = 0) = True := by rw [t3]; exact eq_true rfl
        simp (decide := true) (implicitDefEqProofs := false) only [f_X12_readOf, k1, iq, tq, hc1, n1, i10 q K, iK, tK, a1, a2, n2, t2, n3, zO, zR, zA, zT, zu1, zu2, zu3, zu4, gI, gL, pI, pL, pZ, aI, aL, sI, sZ, sL, Option.bind_some, Option.map_some, if_true, if_false, ite_true, ite_false, true_and, and_true, false_and, and_false, or_true, true_or, or_false, false_or, and_self, not_true_eq_false, not_false_eq_true, ↓reduceIte, reduceIte, Nat.reduceAdd, Nat.reduceMul, Nat.reduceSub, Nat.reduceMod, Nat.reduceDiv, Nat.reduceEqDiff, Nat.reduceLT, Nat.reduceLeDiff, Int32.reduceAdd, Int32.reduceSub, Int32.reduceMul, Int32.reduceDiv, Int32.reduceMod, Int32.reduceOfNat, Int32.reduceOfInt, Int32.reduceLT, Int32.reduceLE, Int32.reduceToNatClampNeg, Int32.reduceToInt]
      · have pJ := hp1 (K - 1) (by omega)
        have rJ := k3 (K - 1) (by omega)
        have e3 : ah f (r + 1) = (p (K - 1) : Nat) := ah_eq _ (by omega) (fun j g1 g2 => by
          by_cases g : f j = -1
          · exact g
          · obtain ⟨i, g3, g4⟩ := hp3 j (by omega) g
            by_cases g5 : i < K
            · by_cases g6 : i = K - 1
              · subst g6; omega
              · have := hp2 i (K - 1) (by omega) (by omega); omega
            · by_cases g6 : i = K
              · subst g6; omega
              · have := hp2 K i (by omega) g3; omega) pJ.2.2.2
        have e2 : readV f r = Int32.ofInt (f (p (K - 1)) * ((p K : Nat) - r) + f (p K) * (r - (p (K - 1) : Nat))) / Int32.ofInt ((p K : Nat) - (p (K - 1) : Nat)) := by
          unfold readV; rw [e, e3, if_neg (by omega), if_neg (by omega), if_neg (by omega)]; rfl
        rw [e2]
        have n3 : (Int32.ofNat K = 0) = False := by
          have := neN (a := K) (b := 0) (by omega) (by omega)
          exact this.trans (eq_false t3)
        have ij : Int32.ofNat (10 * q + K) - 1 = Int32.ofNat (10 * q + (K - 1)) := by
          have : Int32.ofNat (10 * q + K) = Int32.ofNat (10 * q + (K - 1)) + 1 := by rw [ofN1]; congr 1; omega
          rw [this]
          simp
        have iJ := zin (10 * q + (K - 1)) 30 (by omega) (by decide)
        have tJ := ztn (10 * q + (K - 1)) (by omega)
        have c1 : μ.1 88 (10 * q + (K - 1)) = Int32.ofNat (p (K - 1)) := pJ.2.1
        have c2 : μ.1 89 (10 * q + (K - 1)) = Int32.ofInt (f (p (K - 1))) := pJ.2.2.1
        have hz : ¬ (Int32.ofInt ((p K : Nat) - (p (K - 1) : Nat)) = 0) := by
          intro g
          have := (yeq _ 0 (by omega) (by omega) (by omega) (by omega)).mp g
          omega
        have o1 : ∀ a : Nat, Int32.ofNat a = Int32.ofInt (a : Nat) := fun _ => rfl
        simp (decide := true) (implicitDefEqProofs := false) only [f_X12_readOf, k1, iq, tq, hc1, n1, i10 q K, iK, tK, a1, a2, n2, t2, n3, ij, iJ, tJ, c1, c2, zO, zR, zA, zT, zu1, zu2, zu3, zu4, gI, gL, pI, pL, pZ, aI, aL, sI, sZ, sL, Option.bind_some, Option.map_some, if_true, if_false, ite_true, ite_false, true_and, and_true, false_and, and_false, or_true, true_or, or_false, false_or, and_self, not_true_eq_false, not_false_eq_true, ↓reduceIte, reduceIte, Nat.reduceAdd, Nat.reduceMul, Nat.reduceSub, Nat.reduceMod, Nat.reduceDiv, Nat.reduceEqDiff, Nat.reduceLT, Nat.reduceLeDiff, Int32.reduceAdd, Int32.reduceSub, Int32.reduceMul, Int32.reduceDiv, Int32.reduceMod, Int32.reduceOfNat, Int32.reduceOfInt, Int32.reduceLT, Int32.reduceLE, Int32.reduceToNatClampNeg, Int32.reduceToInt]
        simp only [o1, y32s, y32m, y32a]
        unfold o_idiv
        rw [if_neg hz]
        rfl

