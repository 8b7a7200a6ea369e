/-! ways: the reference's queue -/
def cu (f : Nat → Int) : Nat → Nat
  | 0 => 0
  | n + 1 => cu f n + (if f n = -1 then 1 else 0)
theorem cu_cg {f g : Nat → Int} : ∀ n, (∀ i, i < n → f i = g i) → cu f n = cu g n
  | 0, _ => rfl
  | n + 1, h => by
    show cu f n + _ = cu g n + _
    rw [cu_cg n (fun i hi => h i (by omega)), h n (by omega)]
theorem cu_up {f : Nat → Int} {p : Nat} {v : Int} (hf : f p = -1) (hv : v ≠ -1) : ∀ n, p < n → cu (ups f p v) n + 1 = cu f n
  | 0, h => by omega
  | n + 1, h => by
    show cu (ups f p v) n + (if ups f p v n = -1 then 1 else 0) + 1 = cu f n + (if f n = -1 then 1 else 0)
    by_cases e : p = n
    · subst e
      have e1 : ups f p v p = v := by unfold ups; rw [if_pos rfl]
      rw [e1, if_neg hv, if_pos hf, cu_cg (f := ups f p v) (g := f) p (fun i hi => by unfold ups; rw [if_neg (by omega)])]
    · have e1 : ups f p v n = f n := by unfold ups; rw [if_neg (by omega)]
      rw [e1, ← cu_up hf hv n (by omega)]
      omega
theorem cu_pos {f : Nat → Int} {p : Nat} (hf : f p = -1) : ∀ n, p < n → 1 ≤ cu f n
  | 0, h => by omega
  | n + 1, h => by
    show 1 ≤ cu f n + (if f n = -1 then 1 else 0)
    by_cases e : p = n
    · rw [← e, if_pos hf]; omega
    · have := cu_pos hf n (by omega)
      omega
theorem cu_all : ∀ n, cu (fun _ => -1) n = n
  | 0 => rfl
  | n + 1 => by
    show cu (fun _ => -1) n + (if (-1 : Int) = -1 then 1 else 0) = n + 1
    rw [cu_all n, if_pos rfl]
theorem ups_at {α : Type} {f : Nat → α} {p : Nat} {v : α} : ups f p v p = v := by unfold ups; rw [if_pos rfl]
theorem ups_ne {α : Type} {f : Nat → α} {p x : Nat} {v : α} (h : x ≠ p) : ups f p v x = f x := by unfold ups; rw [if_neg h]
/-- what holds when the h-th of the queue is looked at -/
def BF (c : Nat → Nat → Int) (s g h : Nat) (f : Nat → Int) (q : Nat → Nat) (Q : Nat) : Prop :=
  h ≤ Q ∧ (∀ i, i < Q → q i < 1220 ∧ LW c (q i) ∧ 0 ≤ f (q i) ∧ f (q i) ≤ i ∧ RC c s (f (q i)).toNat (q i)) ∧ (∀ i j, i ≤ j → j < Q → f (q i) ≤ f (q j)) ∧ (h < Q → ∀ j, j < Q → f (q j) ≤ f (q h) + 1) ∧ (∀ x, x < 1220 → f x = -1 ∨ (f x = -2 ∧ ¬ LW c x) ∨ (0 ≤ f x ∧ ∃ i, i < Q ∧ q i = x)) ∧ Q + cu f 1220 ≤ 1220 ∧ (LW c s → f s = 0) ∧ (∀ i, i < h → ∀ y, NB (q i) y → LW c y → 0 ≤ f y ∧ f y ≤ f (q i) + 1) ∧ (∀ i, i < h → q i ≠ g)
theorem BF.rg {c : Nat → Nat → Int} {s g h Q : Nat} {f : Nat → Int} {q : Nat → Nat} (B : BF c s g h f q Q) {x : Nat} (hx : x < 1220) : -2 ≤ f x ∧ f x ≤ 1220 := by
  obtain ⟨-, b2, -, -, b5, b6, -⟩ := B
  rcases b5 x hx with e | ⟨e, -⟩ | ⟨e, i, hi, rfl⟩
  · omega
  · omega
  · have := (b2 i hi).2.2.2.1
    omega
theorem BF.unl {c : Nat → Nat → Int} {s g h Q : Nat} {f : Nat → Int} {q : Nat → Nat} (B : BF c s g h f q Q) {y : Nat} (hy : y < 1220) (e : f y = -1) (nl : ¬ LW c y) : BF c s g h (ups f y (-2)) q Q := by
  obtain ⟨b1, b2, b3, b4, b5, b6, b7, b8, b9⟩ := B
  have ne : ∀ i, i < Q → q i ≠ y := fun i hi w => by have := (b2 i hi).2.2.1; rw [w] at this; omega
  have fe : ∀ i, i < Q → ups f y (-2) (q i) = f (q i) := fun i hi => ups_ne (ne i hi)
  refine ⟨b1, fun i hi => ?_, fun i j hij hj => ?_, fun hh j hj => ?_, fun x hx => ?_, ?_, fun ls => ?_, fun i hi z hz lz => ?_, b9⟩
  · rw [fe i hi]; exact b2 i hi
  · rw [fe i (by omega), fe j hj]; exact b3 i j hij hj
  · rw [fe j hj, fe h hh]; exact b4 hh j hj
  · by_cases w : x = y
    · subst w; rw [ups_at]; exact Or.inr (Or.inl ⟨rfl, nl⟩)
    · rw [ups_ne w]; exact b5 x hx
  · have := cu_up (v := -2) e (by decide) 1220 hy; omega
  · rw [ups_ne (fun w => nl (by rw [← w]; exact ls))]; exact b7 ls
  · rw [ups_ne (fun w => nl (by rw [← w]; exact lz)), fe i (by omega)]; exact b8 i hi z hz lz
theorem BF.add {c : Nat → Nat → Int} {s g h Q : Nat} {f : Nat → Int} {q : Nat → Nat} (B : BF c s g h f q Q) (hh : h < Q) {y : Nat} (hy : y < 1220) (e : f y = -1) (l : LW c y) (nb : NB (q h) y) : BF c s g h (ups f y (f (q h) + 1)) (ups q Q y) (Q + 1) := by
  obtain ⟨b1, b2, b3, b4, b5, b6, b7, b8, b9⟩ := B
  have ne : ∀ i, i < Q → q i ≠ y := fun i hi w => by have := (b2 i hi).2.2.1; rw [w] at this; omega
  obtain ⟨h1, h2, h3, h4, h5⟩ := b2 h hh
  have qe : ∀ i, i < Q → ups q Q y i = q i := fun i hi => ups_ne (by omega)
  have qQ : ups q Q y Q = y := ups_at
  have fe : ∀ i, i < Q → ups f y (f (q h) + 1) (q i) = f (q i) := fun i hi => ups_ne (ne i hi)
  have fy : ups f y (f (q h) + 1) y = f (q h) + 1 := ups_at
  refine ⟨by omega, fun i hi => ?_, fun i j hij hj => ?_, fun _ j hj => ?_, fun x hx => ?_, ?_, fun ls => ?_, fun i hi z hz lz => ?_, fun i hi => ?_⟩
  · by_cases w : i = Q
    · subst w
      rw [qQ, fy]
      refine ⟨hy, l, by omega, by omega, ?_⟩
      rw [show (f (q h) + 1).toNat = (f (q h)).toNat + 1 by omega]
      exact ⟨hy, l, Or.inr ⟨q h, h1, h5, nb⟩⟩
    · rw [qe i (by omega), fe i (by omega)]; exact b2 i (by omega)
  · by_cases w : j = Q
    · subst w
      rw [qQ, fy]
      by_cases w2 : i = j
      · subst w2; rw [qQ, fy]; exact Int.le_refl _
      · rw [qe i (by omega), fe i (by omega)]; exact b4 hh i (by omega)
    · rw [qe j (by omega), fe j (by omega), qe i (by omega), fe i (by omega)]; exact b3 i j hij (by omega)
  · rw [qe h hh, fe h hh]
    by_cases w : j = Q
    · subst w; rw [qQ, fy]; exact Int.le_refl _
    · rw [qe j (by omega), fe j (by omega)]; exact b4 hh j (by omega)
  · by_cases w : x = y
    · subst w; rw [fy]; exact Or.inr (Or.inr ⟨by omega, Q, by omega, qQ⟩)
    · rw [ups_ne w]
      rcases b5 x hx with k | k | ⟨k, i, hi, ki⟩
      · exact Or.inl k
      · exact Or.inr (Or.inl k)
      · exact Or.inr (Or.inr ⟨k, i, by omega, by rw [qe i hi]; exact ki⟩)
  · have := cu_up (v := f (q h) + 1) e (by omega) 1220 hy; omega
  · have := b7 ls
    rw [ups_ne (fun w => by rw [w] at this; omega)]; exact this
  · rw [qe i (by omega)] at hz ⊢
    have := b8 i hi z hz lz
    rw [ups_ne (fun w => by rw [w] at this; omega), fe i (by omega)]; exact this
  · rw [qe i (by omega)]; exact b9 i hi
/-- the reference's rows of the search -/
def BMm (f : Nat → Int) (q : Nat → Nat) (Q : Nat) (μ : Mem) : Prop := (∀ x, x < 1220 → μ.1 96 x = Int32.ofInt (f x)) ∧ (∀ i, i < Q → μ.1 97 i = Int32.ofNat (q i)) ∧ μ.1 81 21 = Int32.ofNat Q
def wyM (q : Nat) : Prop := tmP q ∨ q = 96 ∨ q = 97
def wyJ (j : Nat) : Prop := uJ j ∨ j = 21
theorem BMm.w {f : Nat → Int} {q : Nat → Nat} {Q : Nat} {μ ν : Mem} (h : BMm f q Q μ) (g : FM tmP uJ μ ν) : BMm f q Q ν := by
  unfold BMm at *
  rw [(g.1 96 (by decide) (by unfold tmP uP; omega)).1, (g.1 97 (by decide) (by unfold tmP uP; omega)).1, (g.2 21 (by unfold uJ; omega)).1]
  exact h
theorem i61 (d r : Nat) : 61 * Int32.ofNat d + Int32.ofNat r = Int32.ofNat (61 * d + r) := by
  rw [Int32.ofNat_add, Int32.ofNat_mul]
  rfl
theorem comesToM {c : Nat → Nat → Int} (b : BC c) {μ : Mem} (h : MM c μ) {d r : Nat} (hd : d < 20) (hr : r < 61) {f : Nat → Int} {q : Nat → Nat} {Q : Nat} {n : Int} (hn : 0 ≤ n ∧ n ≤ 2000) (bm : BMm f q Q μ) (rg : -2 ≤ f (61 * d + r) ∧ f (61 * d + r) ≤ 1220) (hQ : f (61 * d + r) = -1 → Q < 1220) : ∃ ν, f_X12_comesTo SX 81 (Int32.ofNat d) (Int32.ofNat r) (Int32.ofInt n) μ = some ((), ν) ∧ FM wyM wyJ μ ν ∧ MM c ν ∧ ((f (61 * d + r) ≠ -1 ∧ BMm f q Q ν) ∨ (f (61 * d + r) = -1 ∧ ¬ LW c (61 * d + r) ∧ BMm (ups f (61 * d + r) (-2)) q Q ν) ∨ (f (61 * d + r) = -1 ∧ LW c (61 * d + r) ∧ BMm (ups f (61 * d + r) n) (ups q Q (61 * d + r)) (Q + 1) ν)) := by
  obtain ⟨y, Ey⟩ : ∃ y, y = 61 * d + r := ⟨_, rfl⟩
  have hy : y < 1220 := by omega
  have e61 := i61 d r
  rw [← Ey] at e61 rg hQ ⊢
  have isr : f_X12_isReach SX (Int32.ofNat r) μ = some (1, μ) := by
    rcases wbN (Int32.ofNat r) 60 (by decide) with t | ⟨t, -⟩
    · exfalso
      simp only [Nat.reduceAdd, Nat.reduceMul, Nat.reduceMod, Int32.reduceOfNat] at t
      have w1 : ¬ Int32.ofNat r < 0 := by rw [show (0 : Int32) = Int32.ofNat 0 from rfl, ltN (by omega) (by decide)]; omega
      have w2 : ¬ (60 : Int32) < Int32.ofNat r := by rw [show (60 : Int32) = Int32.ofNat 60 from rfl, ltN (by decide) (by omega)]; omega
      unfold wb at t
      rw [if_neg w1, if_neg w2] at t
      cases t
    · simp only [Nat.reduceAdd, Nat.reduceMul, Nat.reduceMod, Int32.reduceOfNat] at t
      rw [(isReach_at SX (Int32.ofNat r) μ).2, t]
  have i1 := zin y 1220 hy (by decide)
  have i2 := ztn y (by omega)
  obtain ⟨b1, b2, b3⟩ := id bm
  have g := b1 y hy
  have eq : (Int32.ofInt (f y) = -1) = (f y = -1) := by rw [ym1]; exact propext (yeq _ _ (by omega) (by omega) (by omega) (by omega))
  by_cases t : f y = -1
  · obtain ⟨ν1, p1, f1, M1⟩ := mayAt_at h b hd hr
    have F1 : FM wyM wyJ μ ν1 := f1.mo (fun q w => Or.inl w) (fun j w => Or.inl w)
    have bm1 := bm.w f1
    obtain ⟨c1, c2, c3⟩ := bm1
    have eqt : (Int32.ofInt (f y) = -1) = True := by rw [eq]; exact eq_true t
    have lw : LW c y = (whyV (atc c d r) = 0) := by
      unfold LW
      rw [show y / 61 = d by omega, show y % 61 = r by omega]
    by_cases l : whyV (atc c d r) = 0
    · rw [if_pos l] at p1
      have Q1 := hQ t
      have n0 : (Int32.ofInt n < 0) = False := eq_false (fun w => by have := (ylt32 n 0 (by omega) (by omega) (by omega) (by omega)).mp w; omega)
      have u1 : FM wyM wyJ ν1 (upI (upI (upI ν1 96 y (Int32.ofInt n)) 97 Q (Int32.ofNat y)) 81 21 (Int32.ofNat (Q + 1))) := FM.tr (FM.tr (FM.uI (Or.inl ⟨by decide, Or.inr (Or.inl rfl)⟩)) (FM.uI (Or.inl ⟨by decide, Or.inr (Or.inr rfl)⟩))) (FM.uI (Or.inr ⟨rfl, Or.inr rfl⟩))
      have u2 : FM (fun q => q = 96 ∨ q = 97) (fun j => j = 21) ν1 (upI (upI (upI ν1 96 y (Int32.ofInt n)) 97 Q (Int32.ofNat y)) 81 21 (Int32.ofNat (Q + 1))) := FM.tr (FM.tr (FM.uI (Or.inl ⟨by decide, Or.inl rfl⟩)) (FM.uI (Or.inl ⟨by decide, Or.inr rfl⟩))) (FM.uI (Or.inr ⟨rfl, rfl⟩))
      refine ⟨_, ?_, F1.tr u1, M1.w u2 (fun q g1 g2 => by omega) (by omega), Or.inr (Or.inr ⟨t, by rw [lw]; exact l, fun x hx => ?_, fun i hi => ?_, ?_⟩)⟩
      · simp (decide := true) (implicitDefEqProofs := false) only [f_X12_comesTo, e61, isr, i1, i2, g, eqt, p1, b_X12_comesTo_48, n0, c3, zin Q 1220 Q1 (by decide), ztn Q (by omega), ofN1 Q, zO, zR, zA, zT, zu1, zu2, zu3, zu4, gI, gL, pI, pL, pZ, aI, aL, sI, sZ, sL, Option.bind_some, Option.map_some, if_true, if_false, ite_true, ite_false, true_and, and_true, false_and, and_false, or_true, true_or, or_false, false_or, and_self, not_true_eq_false, not_false_eq_true, ↓reduceIte, reduceIte, Nat.reduceAdd, Nat.reduceMul, Nat.reduceSub, Nat.reduceMod, Nat.reduceDiv, Nat.reduceEqDiff, Nat.reduceLT, Nat.reduceLeDiff, Int32.reduceAdd, Int32.reduceSub, Int32.reduceMul, Int32.reduceDiv, Int32.reduceMod, Int32.reduceOfNat, Int32.reduceOfInt, Int32.reduceLT, Int32.reduceLE, Int32.reduceToNatClampNeg, Int32.reduceToInt]
      · simp only [zu1]
        rw [if_neg (by omega), if_neg (by omega)]
        by_cases w : x = y
        · rw [if_pos (by first | exact ⟨rfl, w⟩ | exact ⟨trivial, w⟩), w, ups_at]
        · rw [if_neg (fun k => w k.2), ups_ne w]; exact c1 x hx
      · simp only [zu1]
        rw [if_neg (by omega)]
        by_cases w : i = Q
        · rw [if_pos (by first | exact ⟨rfl, w⟩ | exact ⟨trivial, w⟩), w, ups_at]
        · rw [if_neg (fun k => w k.2), if_neg (by omega), ups_ne w]; exact c2 i (by omega)
      · simp (decide := true) (implicitDefEqProofs := false) only [zO, zR, zA, zT, zu1, zu2, zu3, zu4, gI, gL, pI, pL, pZ, aI, aL, sI, sZ, sL, Option.bind_some, Option.map_some, if_true, if_false, ite_true, ite_false, true_and, and_true, false_and, and_false, or_true, true_or, or_false, false_or, and_self, not_true_eq_false, not_false_eq_true, ↓reduceIte, reduceIte, Nat.reduceAdd, Nat.reduceMul, Nat.reduceSub, Nat.reduceMod, Nat.reduceDiv, Nat.reduceEqDiff, Nat.reduceLT, Nat.reduceLeDiff, Int32.reduceAdd, Int32.reduceSub, Int32.reduceMul, Int32.reduceDiv, Int32.reduceMod, Int32.reduceOfNat, Int32.reduceOfInt, Int32.reduceLT, Int32.reduceLE, Int32.reduceToNatClampNeg, Int32.reduceToInt]
    · rw [if_neg l] at p1
      have u1 : FM wyM wyJ ν1 (upI ν1 96 y (-2)) := FM.uI (Or.inl ⟨by decide, Or.inr (Or.inl rfl)⟩)
      have u2 : FM (fun q => q = 96) (fun _ => False) ν1 (upI ν1 96 y (-2)) := FM.uI (Or.inl ⟨by decide, rfl⟩)
      refine ⟨_, ?_, F1.tr u1, M1.w u2 (fun q g1 g2 => by omega) (fun w => w), Or.inr (Or.inl ⟨t, by rw [lw]; exact l, fun x hx => ?_, fun i hi => ?_, ?_⟩)⟩
      · simp (decide := true) (implicitDefEqProofs := false) only [f_X12_comesTo, e61, isr, i1, i2, g, eqt, p1, b_X12_comesTo_48, zO, zR, zA, zT, zu1, zu2, zu3, zu4, gI, gL, pI, pL, pZ, aI, aL, sI, sZ, sL, Option.bind_some, Option.map_some, if_true, if_false, ite_true, ite_false, true_and, and_true, false_and, and_false, or_true, true_or, or_false, false_or, and_self, not_true_eq_false, not_false_eq_true, ↓reduceIte, reduceIte, Nat.reduceAdd, Nat.reduceMul, Nat.reduceSub, Nat.reduceMod, Nat.reduceDiv, Nat.reduceEqDiff, Nat.reduceLT, Nat.reduceLeDiff, Int32.reduceAdd, Int32.reduceSub, Int32.reduceMul, Int32.reduceDiv, Int32.reduceMod, Int32.reduceOfNat, Int32.reduceOfInt, Int32.reduceLT, Int32.reduceLE, Int32.reduceToNatClampNeg, Int32.reduceToInt]
      · rw [zu1]
        by_cases w : x = y
        · rw [if_pos (by first | exact ⟨rfl, w⟩ | exact ⟨trivial, w⟩), w, ups_at]; decide
        · rw [if_neg (fun k => w k.2), ups_ne w]; exact c1 x hx
      · rw [zu1, if_neg (by omega)]; exact c2 i hi
      · rw [zu1, if_neg (by omega)]; exact c3
  · refine ⟨μ, ?_, FM.rf, h, Or.inl ⟨t, bm⟩⟩
    simp (decide := true) (implicitDefEqProofs := false) only [f_X12_comesTo, e61, isr, i1, i2, g, eq, t, zO, zR, zA, zT, zu1, zu2, zu3, zu4, gI, gL, pI, pL, pZ, aI, aL, sI, sZ, sL, Option.bind_some, Option.map_some, if_true, if_false, ite_true, ite_false, true_and, and_true, false_and, and_false, or_true, true_or, or_false, false_or, and_self, not_true_eq_false, not_false_eq_true, ↓reduceIte, reduceIte, Nat.reduceAdd, Nat.reduceMul, Nat.reduceSub, Nat.reduceMod, Nat.reduceDiv, Nat.reduceEqDiff, Nat.reduceLT, Nat.reduceLeDiff, Int32.reduceAdd, Int32.reduceSub, Int32.reduceMul, Int32.reduceDiv, Int32.reduceMod, Int32.reduceOfNat, Int32.reduceOfInt, Int32.reduceLT, Int32.reduceLE, Int32.reduceToNatClampNeg, Int32.reduceToInt]

