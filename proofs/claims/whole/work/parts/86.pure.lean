/-- all STEPS: the fault or -1, how many, which, their numbers -/
def prF (t : Nat → Int32) (n : Nat) : Nat → Nat → Nat → (Nat → Nat) → (Nat → Int32) → Int × Nat × (Nat → Nat) × (Nat → Int32)
  | 0, s, _, K, V => (0, s, K, V)
  | m + 1, s, p, K, V => if (tsF t n p).1 = -1 then (if (tsF t n p).2.2.2 = n then (-1, s + 1, ups K s (tsF t n p).2.1, ups V s (tsF t n p).2.2.1) else if t (tsF t n p).2.2.2 = 59 then prF t n m (s + 1) ((tsF t n p).2.2.2 + 1) (ups K s (tsF t n p).2.1) (ups V s (tsF t n p).2.2.1) else (((tsF t n p).2.2.2 : Nat), s, K, V)) else ((tsF t n p).1, s, K, V)
/-- steps that may be -/
def KV (s : Nat) (K : Nat → Nat) (V : Nat → Int32) : Prop := ∀ i, i < s → K i < 5 ∧ ∃ z : Nat, z ≤ mOf (K i) ∧ V i = Int32.ofNat z
theorem KV.u {s k : Nat} {K : Nat → Nat} {V : Nat → Int32} {v : Int32} (h : KV s K V) (hk : k < 5) (hv : ∃ z : Nat, z ≤ mOf k ∧ v = Int32.ofNat z) : KV (s + 1) (ups K s k) (ups V s v) := by
  intro i hi
  unfold ups
  by_cases e : i = s
  · rw [if_pos e, if_pos e]; exact ⟨hk, hv⟩
  · rw [if_neg e, if_neg e]; exact h i (by omega)
theorem prF_r (t : Nat → Int32) {n : Nat} (hn : n ≤ 100) : ∀ m s, s + m = 26 → ∀ p K V, p ≤ n → 4 * s ≤ p → KV s K V → ((0 ≤ (prF t n m s p K V).1 ∧ (prF t n m s p K V).1 ≤ n) ∨ ((prF t n m s p K V).1 = -1 ∧ 1 ≤ (prF t n m s p K V).2.1 ∧ (prF t n m s p K V).2.1 ≤ 25 ∧ KV (prF t n m s p K V).2.1 (prF t n m s p K V).2.2.1 (prF t n m s p K V).2.2.2)) := by
  intro m
  induction m with
  | zero => intro s hs p K V hp h4; omega
  | succ m ih =>
    intro s hs p K V hp h4 kv
    have sr := tsF_r t hp
    unfold prF
    generalize tsF t n p = r at sr ⊢
    rcases sr with ⟨r1, r2⟩ | ⟨r1, r2, r3, r4, r5⟩
    · rw [if_neg (by omega)]; exact Or.inl ⟨r1, r2⟩
    · rw [if_pos r1]
      by_cases e : r.2.2.2 = n
      · rw [if_pos e]
        exact Or.inr ⟨rfl, by show 1 ≤ s + 1; omega, by show s + 1 ≤ 25; omega, kv.u r2 r3⟩
      · rw [if_neg e]
        by_cases w : t r.2.2.2 = 59
        · rw [if_pos w]
          exact ih (s + 1) (by omega) _ _ _ (by omega) (by omega) (kv.u r2 r3)
        · rw [if_neg w]
          exact Or.inl ⟨by show (0 : Int) ≤ ((r.2.2.2 : Nat) : Int); omega, by show ((r.2.2.2 : Nat) : Int) ≤ n; omega⟩
theorem rdX {n : Nat} {t : Nat → Int32} (hn : n ≤ 100) : ∀ m s, s + m = 26 → ∀ p K V u μ, p ≤ n → 4 * s ≤ p → TX n t p μ → PX s K V μ → ∃ ν, lpN (l_X9_readInto_12 SX 61 66) (u + m + 1) (Int32.ofNat s, μ) = some (Int32.ofInt (prF t n m s p K V).1, ν) ∧ FT pP3 μ ν ∧ ((prF t n m s p K V).1 = -1 → PX (prF t n m s p K V).2.1 (prF t n m s p K V).2.2.1 (prF t n m s p K V).2.2.2 ν) := by
  intro m
  induction m with
  | zero => intro s hs p K V u μ hp h4; omega
  | succ m ih =>
    intro s hs p K V u μ hp h4 h hx
    obtain ⟨ν, q, f, g⟩ := stepX hn hp h4 h hx
    have sr := tsF_r t hp
    have lf : ((100 : Int32) < Int32.ofNat s) = False := (ltN (a := 100) (b := s) (by omega) (by omega)).trans (eq_false (by omega))
    rw [show u + (m + 1) + 1 = (u + m + 1) + 1 from rfl, zlp]
    unfold prF
    generalize tsF t n p = r at sr q g ⊢
    have rm : (Int32.ofInt r.1 = -1) = (r.1 = -1) := by rw [ym1]; exact propext (yeq _ _ (by omega) (by omega) (by omega) (by omega))
    rcases sr with ⟨r1, r2⟩ | ⟨r1, r2, r3, r4, r5⟩
    · have n1 : ¬ r.1 = -1 := by omega
      rw [if_neg n1]
      refine ⟨ν, ?_, f, fun e => absurd e n1⟩
      simp (decide := true) (implicitDefEqProofs := false) only [l_X9_readInto_12, lf, q, rm, n1, zO, zR, zA, zT, zu1, zu2, zu3, zu4, gI, gL, pI, pL, pZ, aI, aL, sI, sZ, sL, Option.bind_some, Option.map_some, if_true, if_false, ite_true, ite_false, true_and, and_true, false_and, and_false, or_true, true_or, or_false, false_or, and_self, not_true_eq_false, not_false_eq_true, ↓reduceIte, reduceIte, Nat.reduceAdd, Nat.reduceMul, Nat.reduceSub, Nat.reduceMod, Nat.reduceDiv, Nat.reduceEqDiff, Nat.reduceLT, Nat.reduceLeDiff, Int32.reduceAdd, Int32.reduceSub, Int32.reduceMul, Int32.reduceDiv, Int32.reduceMod, Int32.reduceOfNat, Int32.reduceOfInt, Int32.reduceLT, Int32.reduceLE, Int32.reduceToNatClampNeg, Int32.reduceToInt]
    · rw [if_pos r1]
      obtain ⟨gt, gp⟩ := g r1
      obtain ⟨h1, h2, h3⟩ := id gt
      have rt : (Int32.ofInt r.1 = -1) = True := by rw [rm]; exact eq_true r1
      have ne : (Int32.ofNat r.2.2.2 = Int32.ofNat n) = (r.2.2.2 = n) := neN (by omega) (by omega)
      by_cases e : r.2.2.2 = n
      · rw [if_pos e]
        refine ⟨ν, ?_, f, fun _ => gp⟩
        simp (decide := true) (implicitDefEqProofs := false) only [l_X9_readInto_12, lf, q, rt, h1, h2, ne, e, zO, zR, zA, zT, zu1, zu2, zu3, zu4, gI, gL, pI, pL, pZ, aI, aL, sI, sZ, sL, Option.bind_some, Option.map_some, if_true, if_false, ite_true, ite_false, true_and, and_true, false_and, and_false, or_true, true_or, or_false, false_or, and_self, not_true_eq_false, not_false_eq_true, ↓reduceIte, reduceIte, Nat.reduceAdd, Nat.reduceMul, Nat.reduceSub, Nat.reduceMod, Nat.reduceDiv, Nat.reduceEqDiff, Nat.reduceLT, Nat.reduceLeDiff, Int32.reduceAdd, Int32.reduceSub, Int32.reduceMul, Int32.reduceDiv, Int32.reduceMod, Int32.reduceOfNat, Int32.reduceOfInt, Int32.reduceLT, Int32.reduceLE, Int32.reduceToNatClampNeg, Int32.reduceToInt]
      · rw [if_neg e]
        have i1 := zin r.2.2.2 100 (by omega) (by decide)
        have i2 := ztn r.2.2.2 (by omega)
        have g3 := h3 r.2.2.2 (by omega)
        by_cases w : t r.2.2.2 = 59
        · rw [if_pos w]
          obtain ⟨ν2, q2, f2, g2⟩ := ih (s + 1) (by omega) (r.2.2.2 + 1) (ups K s r.2.1) (ups V s r.2.2.1) u _ (by omega) (by omega) (gt.at (q := r.2.2.2 + 1)) (gp.w FT.u)
          refine ⟨ν2, ?_, (f.tr FT.u).tr f2, g2⟩
          simp (decide := true) (implicitDefEqProofs := false) only [l_X9_readInto_12, lf, q, rt, h1, h2, ne, e, i1, i2, g3, w, ofN1, zO, zR, zA, zT, zu1, zu2, zu3, zu4, gI, gL, pI, pL, pZ, aI, aL, sI, sZ, sL, Option.bind_some, Option.map_some, if_true, if_false, ite_true, ite_false, true_and, and_true, false_and, and_false, or_true, true_or, or_false, false_or, and_self, not_true_eq_false, not_false_eq_true, ↓reduceIte, reduceIte, Nat.reduceAdd, Nat.reduceMul, Nat.reduceSub, Nat.reduceMod, Nat.reduceDiv, Nat.reduceEqDiff, Nat.reduceLT, Nat.reduceLeDiff, Int32.reduceAdd, Int32.reduceSub, Int32.reduceMul, Int32.reduceDiv, Int32.reduceMod, Int32.reduceOfNat, Int32.reduceOfInt, Int32.reduceLT, Int32.reduceLE, Int32.reduceToNatClampNeg, Int32.reduceToInt]
          exact q2
        · rw [if_neg w]
          refine ⟨ν, ?_, f, fun x => by exfalso; have x' : ((r.2.2.2 : Nat) : Int) = -1 := x; omega⟩
          simp (decide := true) (implicitDefEqProofs := false) only [l_X9_readInto_12, lf, q, rt, h1, h2, ne, e, i1, i2, g3, w, zO, zR, zA, zT, zu1, zu2, zu3, zu4, gI, gL, pI, pL, pZ, aI, aL, sI, sZ, sL, Option.bind_some, Option.map_some, if_true, if_false, ite_true, ite_false, true_and, and_true, false_and, and_false, or_true, true_or, or_false, false_or, and_self, not_true_eq_false, not_false_eq_true, ↓reduceIte, reduceIte, Nat.reduceAdd, Nat.reduceMul, Nat.reduceSub, Nat.reduceMod, Nat.reduceDiv, Nat.reduceEqDiff, Nat.reduceLT, Nat.reduceLeDiff, Int32.reduceAdd, Int32.reduceSub, Int32.reduceMul, Int32.reduceDiv, Int32.reduceMod, Int32.reduceOfNat, Int32.reduceOfInt, Int32.reduceLT, Int32.reduceLE, Int32.reduceToNatClampNeg, Int32.reduceToInt]
          rfl

