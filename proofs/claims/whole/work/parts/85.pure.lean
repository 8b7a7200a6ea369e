def ups {α : Type} (K : Nat → α) (s : Nat) (k : α) : Nat → α := fun i => if i = s then k else K i
/-- what the class has read so far -/
def PX (s : Nat) (K : Nat → Nat) (V : Nat → Int32) (μ : Mem) : Prop := μ.1 66 2 = Int32.ofNat s ∧ ∀ i, i < s → μ.1 67 i = Int32.ofNat (wOf (K i)) ∧ μ.1 68 i = V i
def pP3 (q : Nat) : Prop := 66 ≤ q ∧ q ≤ 68
theorem PX.w {s : Nat} {K : Nat → Nat} {V : Nat → Int32} {μ ν : Mem} (h : PX s K V μ) (f : FT (fun _ => False) μ ν) : PX s K V ν := by
  unfold PX at *
  rw [(f.1 66 (by decide) (fun q => q)).1, (f.1 67 (by decide) (fun q => q)).1, (f.1 68 (by decide) (fun q => q)).1]
  exact h
theorem TX.w {n p : Nat} {t : Nat → Int32} {μ ν : Mem} (h : TX n t p μ) (f : FT pP3 μ ν) (e : ν.1 61 2 = μ.1 61 2) : TX n t p ν := by
  unfold TX at *
  rw [f.2, e, (f.1 62 (by decide) (by unfold pP3; omega)).1]
  exact h
theorem appendX {s : Nat} {K : Nat → Nat} {V : Nat → Int32} {μ : Mem} (h : PX s K V μ) (hs : s < 25) (k : Nat) (v : Int32) : ∃ ν, f_X6_append SX 66 (Int32.ofNat (wOf k)) v μ = some ((), ν) ∧ FT pP3 μ ν ∧ ν.1 61 2 = μ.1 61 2 ∧ PX (s + 1) (ups K s k) (ups V s v) ν := by
  obtain ⟨h1, h2⟩ := h
  have lf : ((25 : Int32) ≤ Int32.ofNat s) = False := leF (n := 25) hs (by decide)
  have i1 := zin s 25 hs (by decide)
  have i2 := ztn s (by omega)
  refine ⟨upI (upI (upI μ 67 s (Int32.ofNat (wOf k))) 68 s v) 66 2 (Int32.ofNat (s + 1)), ?_, ⟨fun q g1 g2 => ⟨?_, rfl⟩, ?_⟩, ?_, ?_, fun i hi => ?_⟩
  · simp (decide := true) (implicitDefEqProofs := false) only [f_X6_append, h1, lf, i1, i2, ofN1 s, zO, zR, zA, zT, zu1, zu2, zu3, zu4, gI, gL, pI, pL, pZ, aI, aL, sI, sZ, sL, Option.bind_some, Option.map_some, if_true, if_false, ite_true, ite_false, true_and, and_true, false_and, and_false, or_true, true_or, or_false, false_or, and_self, not_true_eq_false, not_false_eq_true, ↓reduceIte, reduceIte, Nat.reduceAdd, Nat.reduceMul, Nat.reduceSub, Nat.reduceMod, Nat.reduceDiv, Nat.reduceEqDiff, Nat.reduceLT, Nat.reduceLeDiff, Int32.reduceAdd, Int32.reduceSub, Int32.reduceMul, Int32.reduceDiv, Int32.reduceMod, Int32.reduceOfNat, Int32.reduceOfInt, Int32.reduceLT, Int32.reduceLE, Int32.reduceToNatClampNeg, Int32.reduceToInt]
  · unfold pP3 at g2
    funext i; simp only [zu1]
    rw [if_neg (by omega), if_neg (by omega), if_neg (by omega)]
  · simp (decide := true) (implicitDefEqProofs := false) only [zO, zR, zA, zT, zu1, zu2, zu3, zu4, gI, gL, pI, pL, pZ, aI, aL, sI, sZ, sL, Option.bind_some, Option.map_some, if_true, if_false, ite_true, ite_false, true_and, and_true, false_and, and_false, or_true, true_or, or_false, false_or, and_self, not_true_eq_false, not_false_eq_true, ↓reduceIte, reduceIte, Nat.reduceAdd, Nat.reduceMul, Nat.reduceSub, Nat.reduceMod, Nat.reduceDiv, Nat.reduceEqDiff, Nat.reduceLT, Nat.reduceLeDiff, Int32.reduceAdd, Int32.reduceSub, Int32.reduceMul, Int32.reduceDiv, Int32.reduceMod, Int32.reduceOfNat, Int32.reduceOfInt, Int32.reduceLT, Int32.reduceLE, Int32.reduceToNatClampNeg, Int32.reduceToInt]
  · simp (decide := true) (implicitDefEqProofs := false) only [zO, zR, zA, zT, zu1, zu2, zu3, zu4, gI, gL, pI, pL, pZ, aI, aL, sI, sZ, sL, Option.bind_some, Option.map_some, if_true, if_false, ite_true, ite_false, true_and, and_true, false_and, and_false, or_true, true_or, or_false, false_or, and_self, not_true_eq_false, not_false_eq_true, ↓reduceIte, reduceIte, Nat.reduceAdd, Nat.reduceMul, Nat.reduceSub, Nat.reduceMod, Nat.reduceDiv, Nat.reduceEqDiff, Nat.reduceLT, Nat.reduceLeDiff, Int32.reduceAdd, Int32.reduceSub, Int32.reduceMul, Int32.reduceDiv, Int32.reduceMod, Int32.reduceOfNat, Int32.reduceOfInt, Int32.reduceLT, Int32.reduceLE, Int32.reduceToNatClampNeg, Int32.reduceToInt]
  · simp (decide := true) (implicitDefEqProofs := false) only [zO, zR, zA, zT, zu1, zu2, zu3, zu4, gI, gL, pI, pL, pZ, aI, aL, sI, sZ, sL, Option.bind_some, Option.map_some, if_true, if_false, ite_true, ite_false, true_and, and_true, false_and, and_false, or_true, true_or, or_false, false_or, and_self, not_true_eq_false, not_false_eq_true, ↓reduceIte, reduceIte, Nat.reduceAdd, Nat.reduceMul, Nat.reduceSub, Nat.reduceMod, Nat.reduceDiv, Nat.reduceEqDiff, Nat.reduceLT, Nat.reduceLeDiff, Int32.reduceAdd, Int32.reduceSub, Int32.reduceMul, Int32.reduceDiv, Int32.reduceMod, Int32.reduceOfNat, Int32.reduceOfInt, Int32.reduceLT, Int32.reduceLE, Int32.reduceToNatClampNeg, Int32.reduceToInt]
  · unfold ups
    by_cases e : i = s
    · subst e
      rw [if_pos rfl, if_pos rfl]
      refine ⟨?_, ?_⟩ <;> simp (decide := true) (implicitDefEqProofs := false) only [zO, zR, zA, zT, zu1, zu2, zu3, zu4, gI, gL, pI, pL, pZ, aI, aL, sI, sZ, sL, Option.bind_some, Option.map_some, if_true, if_false, ite_true, ite_false, true_and, and_true, false_and, and_false, or_true, true_or, or_false, false_or, and_self, not_true_eq_false, not_false_eq_true, ↓reduceIte, reduceIte, Nat.reduceAdd, Nat.reduceMul, Nat.reduceSub, Nat.reduceMod, Nat.reduceDiv, Nat.reduceEqDiff, Nat.reduceLT, Nat.reduceLeDiff, Int32.reduceAdd, Int32.reduceSub, Int32.reduceMul, Int32.reduceDiv, Int32.reduceMod, Int32.reduceOfNat, Int32.reduceOfInt, Int32.reduceLT, Int32.reduceLE, Int32.reduceToNatClampNeg, Int32.reduceToInt]
    · rw [if_neg e, if_neg e]
      obtain ⟨g1, g2⟩ := h2 i (by omega)
      refine ⟨?_, ?_⟩
      · simp (decide := true) (implicitDefEqProofs := false) only [e, g1, zO, zR, zA, zT, zu1, zu2, zu3, zu4, gI, gL, pI, pL, pZ, aI, aL, sI, sZ, sL, Option.bind_some, Option.map_some, if_true, if_false, ite_true, ite_false, true_and, and_true, false_and, and_false, or_true, true_or, or_false, false_or, and_self, not_true_eq_false, not_false_eq_true, ↓reduceIte, reduceIte, Nat.reduceAdd, Nat.reduceMul, Nat.reduceSub, Nat.reduceMod, Nat.reduceDiv, Nat.reduceEqDiff, Nat.reduceLT, Nat.reduceLeDiff, Int32.reduceAdd, Int32.reduceSub, Int32.reduceMul, Int32.reduceDiv, Int32.reduceMod, Int32.reduceOfNat, Int32.reduceOfInt, Int32.reduceLT, Int32.reduceLE, Int32.reduceToNatClampNeg, Int32.reduceToInt]
      · simp (decide := true) (implicitDefEqProofs := false) only [e, g2, zO, zR, zA, zT, zu1, zu2, zu3, zu4, gI, gL, pI, pL, pZ, aI, aL, sI, sZ, sL, Option.bind_some, Option.map_some, if_true, if_false, ite_true, ite_false, true_and, and_true, false_and, and_false, or_true, true_or, or_false, false_or, and_self, not_true_eq_false, not_false_eq_true, ↓reduceIte, reduceIte, Nat.reduceAdd, Nat.reduceMul, Nat.reduceSub, Nat.reduceMod, Nat.reduceDiv, Nat.reduceEqDiff, Nat.reduceLT, Nat.reduceLeDiff, Int32.reduceAdd, Int32.reduceSub, Int32.reduceMul, Int32.reduceDiv, Int32.reduceMod, Int32.reduceOfNat, Int32.reduceOfInt, Int32.reduceLT, Int32.reduceLE, Int32.reduceToNatClampNeg, Int32.reduceToInt]
theorem fitW (v : Int32) (μ : Mem) : ∀ k, k < 5 → f_X11_fitsDial SX (Int32.ofNat (wOf k)) v μ = some (wb v 0 (Int32.ofNat (mOf k)), μ) ∧ f_X12_isFor SX (Int32.ofNat (wOf k)) v μ = some (wb v 0 (Int32.ofNat (mOf k)), μ) := by
  intro k hk
  have e : k = 0 ∨ k = 1 ∨ k = 2 ∨ k = 3 ∨ k = 4 := by omega
  rcases e with rfl | rfl | rfl | rfl | rfl
  · exact fits_at SX v μ 3 (by decide) (by decide) (by decide)
  · exact fits_at SX v μ 0 (by decide) (by decide) (by decide)
  · exact fits_at SX v μ 1 (by decide) (by decide) (by decide)
  · exact fits_at SX v μ 3 (by decide) (by decide) (by decide)
  · exact fits_at SX v μ 6 (by decide) (by decide) (by decide)
theorem numLX {n b E : Nat} {t : Nat → Int32} (hn : n ≤ 100) (hE : E ≤ n) (d : Int32) : ∀ m p, p + m = E → ∀ v u μ, TX n t p μ → ∃ ν, lpN (l_X9_readNumber_20 SX 61 66 d (Int32.ofNat b) (Int32.ofNat E)) (u + m + 1) (v, μ) = b_X9_readNumber_90 SX 61 66 d (Int32.ofNat b) (dE t m p v).2 ν ∧ FT (fun _ => False) μ ν ∧ TX n t (dE t m p v).1 ν := by
  intro m
  induction m with
  | zero =>
    intro p hp v u μ h
    have e : p = E := by omega
    subst e
    refine ⟨μ, ?_, FT.rf, h⟩
    obtain ⟨h1, h2, h3⟩ := h
    rw [zlp]
    simp (decide := true) (implicitDefEqProofs := false) only [l_X9_readNumber_20, h1, h2, leT, zO, zR, zA, zT, zu1, zu2, zu3, zu4, gI, gL, pI, pL, pZ, aI, aL, sI, sZ, sL, Option.bind_some, Option.map_some, if_true, if_false, ite_true, ite_false, true_and, and_true, false_and, and_false, or_true, true_or, or_false, false_or, and_self, not_true_eq_false, not_false_eq_true, ↓reduceIte, reduceIte, Nat.reduceAdd, Nat.reduceMul, Nat.reduceSub, Nat.reduceMod, Nat.reduceDiv, Nat.reduceEqDiff, Nat.reduceLT, Nat.reduceLeDiff, Int32.reduceAdd, Int32.reduceSub, Int32.reduceMul, Int32.reduceDiv, Int32.reduceMod, Int32.reduceOfNat, Int32.reduceOfInt, Int32.reduceLT, Int32.reduceLE, Int32.reduceToNatClampNeg, Int32.reduceToInt]
    rfl
  | succ m ih =>
    intro p hp v u μ h
    have lf := leF (n := E) (i := p) (by omega) (by omega)
    have i1 := zin p 100 (by omega) (by decide)
    have i2 := ztn p (by omega)
    obtain ⟨h1, h2, h3⟩ := id h
    have g := h3 p (by omega)
    rw [show u + (m + 1) + 1 = (u + m + 1) + 1 from rfl, zlp]
    by_cases w : wb (t p) 48 57 = 1
    · obtain ⟨w1, w2⟩ := wb_1 w
      obtain ⟨ν, q, f, g'⟩ := ih (p + 1) (by omega) (v * 10 + t p - 48) u _ (h.at (q := p + 1))
      have e : dE t (m + 1) p v = dE t m (p + 1) (v * 10 + t p - 48) := by show (if _ then _ else _) = _; rw [if_pos w]
      rw [e]
      refine ⟨ν, ?_, FT.u.tr f, g'⟩
      simp (decide := true) (implicitDefEqProofs := false) only [l_X9_readNumber_20, h1, h2, lf, i1, i2, g, w1, w2, ofN1 p, zO, zR, zA, zT, zu1, zu2, zu3, zu4, gI, gL, pI, pL, pZ, aI, aL, sI, sZ, sL, Option.bind_some, Option.map_some, if_true, if_false, ite_true, ite_false, true_and, and_true, false_and, and_false, or_true, true_or, or_false, false_or, and_self, not_true_eq_false, not_false_eq_true, ↓reduceIte, reduceIte, Nat.reduceAdd, Nat.reduceMul, Nat.reduceSub, Nat.reduceMod, Nat.reduceDiv, Nat.reduceEqDiff, Nat.reduceLT, Nat.reduceLeDiff, Int32.reduceAdd, Int32.reduceSub, Int32.reduceMul, Int32.reduceDiv, Int32.reduceMod, Int32.reduceOfNat, Int32.reduceOfInt, Int32.reduceLT, Int32.reduceLE, Int32.reduceToNatClampNeg, Int32.reduceToInt]
      exact q
    · have e : dE t (m + 1) p v = (p, v) := by show (if _ then _ else _) = _; rw [if_neg w]
      rw [e]
      refine ⟨μ, ?_, FT.rf, h⟩
      rcases (wb_n w).2 with w1 | ⟨w1, w2⟩
      · simp (decide := true) (implicitDefEqProofs := false) only [l_X9_readNumber_20, h1, h2, lf, i1, i2, g, w1, zO, zR, zA, zT, zu1, zu2, zu3, zu4, gI, gL, pI, pL, pZ, aI, aL, sI, sZ, sL, Option.bind_some, Option.map_some, if_true, if_false, ite_true, ite_false, true_and, and_true, false_and, and_false, or_true, true_or, or_false, false_or, and_self, not_true_eq_false, not_false_eq_true, ↓reduceIte, reduceIte, Nat.reduceAdd, Nat.reduceMul, Nat.reduceSub, Nat.reduceMod, Nat.reduceDiv, Nat.reduceEqDiff, Nat.reduceLT, Nat.reduceLeDiff, Int32.reduceAdd, Int32.reduceSub, Int32.reduceMul, Int32.reduceDiv, Int32.reduceMod, Int32.reduceOfNat, Int32.reduceOfInt, Int32.reduceLT, Int32.reduceLE, Int32.reduceToNatClampNeg, Int32.reduceToInt]
      · simp (decide := true) (implicitDefEqProofs := false) only [l_X9_readNumber_20, h1, h2, lf, i1, i2, g, w1, w2, zO, zR, zA, zT, zu1, zu2, zu3, zu4, gI, gL, pI, pL, pZ, aI, aL, sI, sZ, sL, Option.bind_some, Option.map_some, if_true, if_false, ite_true, ite_false, true_and, and_true, false_and, and_false, or_true, true_or, or_false, false_or, and_self, not_true_eq_false, not_false_eq_true, ↓reduceIte, reduceIte, Nat.reduceAdd, Nat.reduceMul, Nat.reduceSub, Nat.reduceMod, Nat.reduceDiv, Nat.reduceEqDiff, Nat.reduceLT, Nat.reduceLeDiff, Int32.reduceAdd, Int32.reduceSub, Int32.reduceMul, Int32.reduceDiv, Int32.reduceMod, Int32.reduceOfNat, Int32.reduceOfInt, Int32.reduceLT, Int32.reduceLE, Int32.reduceToNatClampNeg, Int32.reduceToInt]
theorem numX {n b s k : Nat} {t : Nat → Int32} {K : Nat → Nat} {V : Nat → Int32} (hn : n ≤ 100) (hb : b ≤ n) (hk : k < 5) (hs : s < 25) {μ : Mem} (h : TX n t b μ) (hp : PX s K V μ) : ∃ ν, f_X9_readNumber SX 61 66 (Int32.ofNat (wOf k)) μ = some (Int32.ofInt (tsN t n b k).1, ν) ∧ FT pP3 μ ν ∧ ((tsN t n b k).1 = -1 → TX n t (tsN t n b k).2.2.2 ν ∧ PX (s + 1) (ups K s (tsN t n b k).2.1) (ups V s (tsN t n b k).2.2.1) ν) := by
  have nb := nuE_b hb
  have db := dE_b t (nuE n b - b) b 0
  obtain ⟨ν, p, f, g⟩ := numLX (b := b) hn nb.2.1 (Int32.ofNat (wOf k)) (nuE n b - b) b (by omega) 0 (4999 - (nuE n b - b)) μ h
  rw [show 4999 - (nuE n b - b) + (nuE n b - b) + 1 = fu by show _ = 5000; omega] at p
  have F := f.mo (Q := pP3) (fun q w => w.elim)
  have hp' := hp.w f
  have st : f_X9_readNumber SX 61 66 (Int32.ofNat (wOf k)) μ = b_X9_readNumber_90 SX 61 66 (Int32.ofNat (wOf k)) (Int32.ofNat b) (dE t (nuE n b - b) b 0).2 ν := by
    rw [← p]
    obtain ⟨h1, h2, h3⟩ := h
    have ad : Int32.ofNat b + 4 = Int32.ofNat (b + 4) := (Int32.ofNat_add b 4).symm
    have lt : (Int32.ofNat (b + 4) < Int32.ofNat n) = (b + 4 < n) := ltN (by omega) (by omega)
    have en : nuE n b = if b + 4 < n then b + 4 else n := rfl
    by_cases c : b + 4 < n
    · rw [if_pos c] at en
      rw [en]
      simp (decide := true) (implicitDefEqProofs := false) only [f_X9_readNumber, h1, h2, ad, lt, c, zO, zR, zA, zT, zu1, zu2, zu3, zu4, gI, gL, pI, pL, pZ, aI, aL, sI, sZ, sL, Option.bind_some, Option.map_some, if_true, if_false, ite_true, ite_false, true_and, and_true, false_and, and_false, or_true, true_or, or_false, false_or, and_self, not_true_eq_false, not_false_eq_true, ↓reduceIte, reduceIte, Nat.reduceAdd, Nat.reduceMul, Nat.reduceSub, Nat.reduceMod, Nat.reduceDiv, Nat.reduceEqDiff, Nat.reduceLT, Nat.reduceLeDiff, Int32.reduceAdd, Int32.reduceSub, Int32.reduceMul, Int32.reduceDiv, Int32.reduceMod, Int32.reduceOfNat, Int32.reduceOfInt, Int32.reduceLT, Int32.reduceLE, Int32.reduceToNatClampNeg, Int32.reduceToInt]
    · rw [if_neg c] at en
      rw [en]
      simp (decide := true) (implicitDefEqProofs := false) only [f_X9_readNumber, h1, h2, ad, lt, c, zO, zR, zA, zT, zu1, zu2, zu3, zu4, gI, gL, pI, pL, pZ, aI, aL, sI, sZ, sL, Option.bind_some, Option.map_some, if_true, if_false, ite_true, ite_false, true_and, and_true, false_and, and_false, or_true, true_or, or_false, false_or, and_self, not_true_eq_false, not_false_eq_true, ↓reduceIte, reduceIte, Nat.reduceAdd, Nat.reduceMul, Nat.reduceSub, Nat.reduceMod, Nat.reduceDiv, Nat.reduceEqDiff, Nat.reduceLT, Nat.reduceLeDiff, Int32.reduceAdd, Int32.reduceSub, Int32.reduceMul, Int32.reduceDiv, Int32.reduceMod, Int32.reduceOfNat, Int32.reduceOfInt, Int32.reduceLT, Int32.reduceLE, Int32.reduceToNatClampNeg, Int32.reduceToInt]
  rw [st]
  unfold tsN
  generalize dE t (nuE n b - b) b 0 = r at db g p ⊢
  have ft := (fitW r.2 ν k hk).1
  have ne : (Int32.ofNat r.1 = Int32.ofNat b) = (r.1 = b) := neN (by omega) (by omega)
  obtain ⟨h1, h2, h3⟩ := id g
  by_cases q1 : r.1 = b
  · rw [if_pos q1]
    refine ⟨ν, ?_, F, fun e => by exfalso; have e' : ((b : Int)) = -1 := e; omega⟩
    simp (decide := true) (implicitDefEqProofs := false) only [b_X9_readNumber_90, h2, ne, q1, zO, zR, zA, zT, zu1, zu2, zu3, zu4, gI, gL, pI, pL, pZ, aI, aL, sI, sZ, sL, Option.bind_some, Option.map_some, if_true, if_false, ite_true, ite_false, true_and, and_true, false_and, and_false, or_true, true_or, or_false, false_or, and_self, not_true_eq_false, not_false_eq_true, ↓reduceIte, reduceIte, Nat.reduceAdd, Nat.reduceMul, Nat.reduceSub, Nat.reduceMod, Nat.reduceDiv, Nat.reduceEqDiff, Nat.reduceLT, Nat.reduceLeDiff, Int32.reduceAdd, Int32.reduceSub, Int32.reduceMul, Int32.reduceDiv, Int32.reduceMod, Int32.reduceOfNat, Int32.reduceOfInt, Int32.reduceLT, Int32.reduceLE, Int32.reduceToNatClampNeg, Int32.reduceToInt]
    rfl
  · rw [if_neg q1]
    rcases wb01 r.2 0 (Int32.ofNat (mOf k)) with q2 | q2
    · rw [if_pos q2]
      refine ⟨ν, ?_, F, fun e => by exfalso; have e' : ((b : Int)) = -1 := e; omega⟩
      simp (decide := true) (implicitDefEqProofs := false) only [b_X9_readNumber_90, h2, ne, q1, ft, q2, zO, zR, zA, zT, zu1, zu2, zu3, zu4, gI, gL, pI, pL, pZ, aI, aL, sI, sZ, sL, Option.bind_some, Option.map_some, if_true, if_false, ite_true, ite_false, true_and, and_true, false_and, and_false, or_true, true_or, or_false, false_or, and_self, not_true_eq_false, not_false_eq_true, ↓reduceIte, reduceIte, Nat.reduceAdd, Nat.reduceMul, Nat.reduceSub, Nat.reduceMod, Nat.reduceDiv, Nat.reduceEqDiff, Nat.reduceLT, Nat.reduceLeDiff, Int32.reduceAdd, Int32.reduceSub, Int32.reduceMul, Int32.reduceDiv, Int32.reduceMod, Int32.reduceOfNat, Int32.reduceOfInt, Int32.reduceLT, Int32.reduceLE, Int32.reduceToNatClampNeg, Int32.reduceToInt]
      rfl
    · rw [if_neg (by rw [q2]; decide)]
      obtain ⟨ν2, p2, f2, e2, g2⟩ := appendX hp' hs k r.2
      refine ⟨ν2, ?_, F.tr f2, fun _ => ⟨g.w f2 e2, g2⟩⟩
      simp (decide := true) (implicitDefEqProofs := false) only [b_X9_readNumber_90, h2, ne, q1, ft, q2, p2, zO, zR, zA, zT, zu1, zu2, zu3, zu4, gI, gL, pI, pL, pZ, aI, aL, sI, sZ, sL, Option.bind_some, Option.map_some, if_true, if_false, ite_true, ite_false, true_and, and_true, false_and, and_false, or_true, true_or, or_false, false_or, and_self, not_true_eq_false, not_false_eq_true, ↓reduceIte, reduceIte, Nat.reduceAdd, Nat.reduceMul, Nat.reduceSub, Nat.reduceMod, Nat.reduceDiv, Nat.reduceEqDiff, Nat.reduceLT, Nat.reduceLeDiff, Int32.reduceAdd, Int32.reduceSub, Int32.reduceMul, Int32.reduceDiv, Int32.reduceMod, Int32.reduceOfNat, Int32.reduceOfInt, Int32.reduceLT, Int32.reduceLE, Int32.reduceToNatClampNeg, Int32.reduceToInt]
theorem dowX {n p e : Nat} {t : Nat → Int32} (hn : n ≤ 100) (hp : p ≤ e) (he : e ≤ n) {μ : Mem} (h : TX n t e μ) : (spB t p e 0 = true ∧ wdK t p e = 3) ∨ (¬ spB t p e 0 = true ∧ wdK t p e = 5 ∧ f_X9_dialOfWord SX 61 (Int32.ofNat p) μ = some (-1, μ)) ∨ (¬ spB t p e 0 = true ∧ ∃ k, k < 5 ∧ k ≠ 3 ∧ wdK t p e = k ∧ f_X9_dialOfWord SX 61 (Int32.ofNat p) μ = some (Int32.ofNat (wOf k), μ)) := by
  have s1 := spellsX hn hp he (w := 1) (by decide) h
  have s2 := spellsX hn hp he (w := 2) (by decide) h
  have s3 := spellsX hn hp he (w := 3) (by decide) h
  have s4 := spellsX hn hp he (w := 4) (by decide) h
  unfold wdK
  by_cases h0 : spB t p e 0 = true
  · left; rw [if_pos h0]; exact ⟨h0, rfl⟩
  · right
    rw [if_neg h0]
    by_cases h1 : spB t p e 1 = true
    · rw [if_pos h1] at s1 ⊢
      right; refine ⟨h0, 0, by decide, by decide, rfl, ?_⟩
      simp (decide := true) (implicitDefEqProofs := false) only [f_X9_dialOfWord, s1, zO, zR, zA, zT, zu1, zu2, zu3, zu4, gI, gL, pI, pL, pZ, aI, aL, sI, sZ, sL, Option.bind_some, Option.map_some, if_true, if_false, ite_true, ite_false, true_and, and_true, false_and, and_false, or_true, true_or, or_false, false_or, and_self, not_true_eq_false, not_false_eq_true, ↓reduceIte, reduceIte, Nat.reduceAdd, Nat.reduceMul, Nat.reduceSub, Nat.reduceMod, Nat.reduceDiv, Nat.reduceEqDiff, Nat.reduceLT, Nat.reduceLeDiff, Int32.reduceAdd, Int32.reduceSub, Int32.reduceMul, Int32.reduceDiv, Int32.reduceMod, Int32.reduceOfNat, Int32.reduceOfInt, Int32.reduceLT, Int32.reduceLE, Int32.reduceToNatClampNeg, Int32.reduceToInt]
      rfl
    · rw [if_neg h1] at s1 ⊢
      by_cases h2 : spB t p e 2 = true
      · rw [if_pos h2] at s2 ⊢
        right; refine ⟨h0, 1, by decide, by decide, rfl, ?_⟩
        simp (decide := true) (implicitDefEqProofs := false) only [f_X9_dialOfWord, s1, s2, zO, zR, zA, zT, zu1, zu2, zu3, zu4, gI, gL, pI, pL, pZ, aI, aL, sI, sZ, sL, Option.bind_some, Option.map_some, if_true, if_false, ite_true, ite_false, true_and, and_true, false_and, and_false, or_true, true_or, or_false, false_or, and_self, not_true_eq_false, not_false_eq_true, ↓reduceIte, reduceIte, Nat.reduceAdd, Nat.reduceMul, Nat.reduceSub, Nat.reduceMod, Nat.reduceDiv, Nat.reduceEqDiff, Nat.reduceLT, Nat.reduceLeDiff, Int32.reduceAdd, Int32.reduceSub, Int32.reduceMul, Int32.reduceDiv, Int32.reduceMod, Int32.reduceOfNat, Int32.reduceOfInt, Int32.reduceLT, Int32.reduceLE, Int32.reduceToNatClampNeg, Int32.reduceToInt]
        rfl
      · rw [if_neg h2] at s2 ⊢
        by_cases h3 : spB t p e 3 = true
        · rw [if_pos h3] at s3 ⊢
          right; refine ⟨h0, 2, by decide, by decide, rfl, ?_⟩
          simp (decide := true) (implicitDefEqProofs := false) only [f_X9_dialOfWord, s1, s2, s3, zO, zR, zA, zT, zu1, zu2, zu3, zu4, gI, gL, pI, pL, pZ, aI, aL, sI, sZ, sL, Option.bind_some, Option.map_some, if_true, if_false, ite_true, ite_false, true_and, and_true, false_and, and_false, or_true, true_or, or_false, false_or, and_self, not_true_eq_false, not_false_eq_true, ↓reduceIte, reduceIte, Nat.reduceAdd, Nat.reduceMul, Nat.reduceSub, Nat.reduceMod, Nat.reduceDiv, Nat.reduceEqDiff, Nat.reduceLT, Nat.reduceLeDiff, Int32.reduceAdd, Int32.reduceSub, Int32.reduceMul, Int32.reduceDiv, Int32.reduceMod, Int32.reduceOfNat, Int32.reduceOfInt, Int32.reduceLT, Int32.reduceLE, Int32.reduceToNatClampNeg, Int32.reduceToInt]
          rfl
        · rw [if_neg h3] at s3 ⊢
          by_cases h4 : spB t p e 4 = true
          · rw [if_pos h4] at s4 ⊢
            right; refine ⟨h0, 4, by decide, by decide, rfl, ?_⟩
            simp (decide := true) (implicitDefEqProofs := false) only [f_X9_dialOfWord, s1, s2, s3, s4, zO, zR, zA, zT, zu1, zu2, zu3, zu4, gI, gL, pI, pL, pZ, aI, aL, sI, sZ, sL, Option.bind_some, Option.map_some, if_true, if_false, ite_true, ite_false, true_and, and_true, false_and, and_false, or_true, true_or, or_false, false_or, and_self, not_true_eq_false, not_false_eq_true, ↓reduceIte, reduceIte, Nat.reduceAdd, Nat.reduceMul, Nat.reduceSub, Nat.reduceMod, Nat.reduceDiv, Nat.reduceEqDiff, Nat.reduceLT, Nat.reduceLeDiff, Int32.reduceAdd, Int32.reduceSub, Int32.reduceMul, Int32.reduceDiv, Int32.reduceMod, Int32.reduceOfNat, Int32.reduceOfInt, Int32.reduceLT, Int32.reduceLE, Int32.reduceToNatClampNeg, Int32.reduceToInt]
            rfl
          · rw [if_neg h4] at s4 ⊢
            left; refine ⟨h0, rfl, ?_⟩
            simp (decide := true) (implicitDefEqProofs := false) only [f_X9_dialOfWord, s1, s2, s3, s4, zO, zR, zA, zT, zu1, zu2, zu3, zu4, gI, gL, pI, pL, pZ, aI, aL, sI, sZ, sL, Option.bind_some, Option.map_some, if_true, if_false, ite_true, ite_false, true_and, and_true, false_and, and_false, or_true, true_or, or_false, false_or, and_self, not_true_eq_false, not_false_eq_true, ↓reduceIte, reduceIte, Nat.reduceAdd, Nat.reduceMul, Nat.reduceSub, Nat.reduceMod, Nat.reduceDiv, Nat.reduceEqDiff, Nat.reduceLT, Nat.reduceLeDiff, Int32.reduceAdd, Int32.reduceSub, Int32.reduceMul, Int32.reduceDiv, Int32.reduceMod, Int32.reduceOfNat, Int32.reduceOfInt, Int32.reduceLT, Int32.reduceLE, Int32.reduceToNatClampNeg, Int32.reduceToInt]
theorem stepX {n p s : Nat} {t : Nat → Int32} {K : Nat → Nat} {V : Nat → Int32} (hn : n ≤ 100) (hp : p ≤ n) (hs : 4 * s ≤ p) {μ : Mem} (h : TX n t p μ) (hx : PX s K V μ) : ∃ ν, f_X9_readStep SX 61 66 μ = some (Int32.ofInt (tsF t n p).1, ν) ∧ FT pP3 μ ν ∧ ((tsF t n p).1 = -1 → TX n t (tsF t n p).2.2.2 ν ∧ PX (s + 1) (ups K s (tsF t n p).2.1) (ups V s (tsF t n p).2.2.1) ν) := by
  have eb := wE_b t (n - p) p
  obtain ⟨ν, q, f, g⟩ := wordX hn (Int32.ofNat p) (n - p) p (by omega) (4999 - (n - p)) μ h
  rw [show 4999 - (n - p) + (n - p) + 1 = fu by show _ = 5000; omega] at q
  have F := f.mo (Q := pP3) (fun q w => w.elim)
  have hx' := hx.w f
  have st : f_X9_readStep SX 61 66 μ = b_X9_readStep_57 SX 61 66 (Int32.ofNat p) ν := by
    rw [← q]
    have h2 := h.2.1
    simp (decide := true) (implicitDefEqProofs := false) only [f_X9_readStep, h2, zO, zR, zA, zT, zu1, zu2, zu3, zu4, gI, gL, pI, pL, pZ, aI, aL, sI, sZ, sL, Option.bind_some, Option.map_some, if_true, if_false, ite_true, ite_false, true_and, and_true, false_and, and_false, or_true, true_or, or_false, false_or, and_self, not_true_eq_false, not_false_eq_true, ↓reduceIte, reduceIte, Nat.reduceAdd, Nat.reduceMul, Nat.reduceSub, Nat.reduceMod, Nat.reduceDiv, Nat.reduceEqDiff, Nat.reduceLT, Nat.reduceLeDiff, Int32.reduceAdd, Int32.reduceSub, Int32.reduceMul, Int32.reduceDiv, Int32.reduceMod, Int32.reduceOfNat, Int32.reduceOfInt, Int32.reduceLT, Int32.reduceLE, Int32.reduceToNatClampNeg, Int32.reduceToInt]
  rw [st]
  have kr := wdK_r t p (wE t (n - p) p)
  unfold tsF
  generalize wE t (n - p) p = e at eb g kr ⊢
  have dw := dowX (p := p) hn (by omega) (by omega) g
  have s0 := spellsX (p := p) hn (by omega) (by omega) (w := 0) (by decide) g
  obtain ⟨h1, h2, h3⟩ := id g
  rcases dw with ⟨d1, d2⟩ | ⟨d1, d2, d3⟩ | ⟨d1, k, k5, k3, d2, d3⟩
  · rw [if_pos d1] at s0
    rw [d2] at kr ⊢
    obtain ⟨ν2, p2, f2, e2, g2⟩ := appendX hx' (by omega) 3 0
    have p2' : f_X6_append SX 66 3 0 ν = some ((), ν2) := p2
    refine ⟨ν2, ?_, F.tr f2, fun _ => ⟨g.w f2 e2, g2⟩⟩
    simp (decide := true) (implicitDefEqProofs := false) only [b_X9_readStep_57, s0, p2', zO, zR, zA, zT, zu1, zu2, zu3, zu4, gI, gL, pI, pL, pZ, aI, aL, sI, sZ, sL, Option.bind_some, Option.map_some, if_true, if_false, ite_true, ite_false, true_and, and_true, false_and, and_false, or_true, true_or, or_false, false_or, and_self, not_true_eq_false, not_false_eq_true, ↓reduceIte, reduceIte, Nat.reduceAdd, Nat.reduceMul, Nat.reduceSub, Nat.reduceMod, Nat.reduceDiv, Nat.reduceEqDiff, Nat.reduceLT, Nat.reduceLeDiff, Int32.reduceAdd, Int32.reduceSub, Int32.reduceMul, Int32.reduceDiv, Int32.reduceMod, Int32.reduceOfNat, Int32.reduceOfInt, Int32.reduceLT, Int32.reduceLE, Int32.reduceToNatClampNeg, Int32.reduceToInt]
    rfl
  · rw [if_neg d1] at s0
    rw [d2]
    refine ⟨ν, ?_, F, fun x => by exfalso; have x' : ((p : Int)) = -1 := x; omega⟩
    simp (decide := true) (implicitDefEqProofs := false) only [b_X9_readStep_57, s0, d3, zO, zR, zA, zT, zu1, zu2, zu3, zu4, gI, gL, pI, pL, pZ, aI, aL, sI, sZ, sL, Option.bind_some, Option.map_some, if_true, if_false, ite_true, ite_false, true_and, and_true, false_and, and_false, or_true, true_or, or_false, false_or, and_self, not_true_eq_false, not_false_eq_true, ↓reduceIte, reduceIte, Nat.reduceAdd, Nat.reduceMul, Nat.reduceSub, Nat.reduceMod, Nat.reduceDiv, Nat.reduceEqDiff, Nat.reduceLT, Nat.reduceLeDiff, Int32.reduceAdd, Int32.reduceSub, Int32.reduceMul, Int32.reduceDiv, Int32.reduceMod, Int32.reduceOfNat, Int32.reduceOfInt, Int32.reduceLT, Int32.reduceLE, Int32.reduceToNatClampNeg, Int32.reduceToInt]
    rfl
  · rw [if_neg d1] at s0
    rw [d2] at kr ⊢
    have wk : ∀ k, k < 5 → (Int32.ofNat (wOf k) = -1) = False := fun k hk => eq_false (by
      have : ∀ k, k < 5 → ¬ Int32.ofNat (wOf k) = -1 := by decide
      exact this k hk)
    have wk := wk k k5
    have ne : (Int32.ofNat e = Int32.ofNat n) = (e = n) := neN (by omega) (by omega)
    unfold tsG
    rw [if_neg (by omega), if_neg k3]
    by_cases en : e = n
    · rw [if_pos en]
      refine ⟨ν, ?_, F, fun x => by exfalso; have x' : ((e : Int)) = -1 := x; omega⟩
      simp (decide := true) (implicitDefEqProofs := false) only [b_X9_readStep_57, s0, d3, wk, h1, h2, ne, en, zO, zR, zA, zT, zu1, zu2, zu3, zu4, gI, gL, pI, pL, pZ, aI, aL, sI, sZ, sL, Option.bind_some, Option.map_some, if_true, if_false, ite_true, ite_false, true_and, and_true, false_and, and_false, or_true, true_or, or_false, false_or, and_self, not_true_eq_false, not_false_eq_true, ↓reduceIte, reduceIte, Nat.reduceAdd, Nat.reduceMul, Nat.reduceSub, Nat.reduceMod, Nat.reduceDiv, Nat.reduceEqDiff, Nat.reduceLT, Nat.reduceLeDiff, Int32.reduceAdd, Int32.reduceSub, Int32.reduceMul, Int32.reduceDiv, Int32.reduceMod, Int32.reduceOfNat, Int32.reduceOfInt, Int32.reduceLT, Int32.reduceLE, Int32.reduceToNatClampNeg, Int32.reduceToInt]
      rfl
    · rw [if_neg en]
      have i1 := zin e 100 (by omega) (by decide)
      have i2 := ztn e (by omega)
      have ge := h3 e (by omega)
      by_cases t32 : t e = 32
      · rw [if_pos t32]
        obtain ⟨ν2, p2, f2, g2⟩ := numX (b := e + 1) (s := s) (K := K) (V := V) hn (by omega) k5 (by omega) (g.at (q := e + 1)) (hx'.w FT.u)
        refine ⟨ν2, ?_, (F.tr FT.u).tr f2, g2⟩
        simp (decide := true) (implicitDefEqProofs := false) only [b_X9_readStep_57, s0, d3, wk, h1, h2, ne, en, i1, i2, ge, t32, ofN1 e, p2, zO, zR, zA, zT, zu1, zu2, zu3, zu4, gI, gL, pI, pL, pZ, aI, aL, sI, sZ, sL, Option.bind_some, Option.map_some, if_true, if_false, ite_true, ite_false, true_and, and_true, false_and, and_false, or_true, true_or, or_false, false_or, and_self, not_true_eq_false, not_false_eq_true, ↓reduceIte, reduceIte, Nat.reduceAdd, Nat.reduceMul, Nat.reduceSub, Nat.reduceMod, Nat.reduceDiv, Nat.reduceEqDiff, Nat.reduceLT, Nat.reduceLeDiff, Int32.reduceAdd, Int32.reduceSub, Int32.reduceMul, Int32.reduceDiv, Int32.reduceMod, Int32.reduceOfNat, Int32.reduceOfInt, Int32.reduceLT, Int32.reduceLE, Int32.reduceToNatClampNeg, Int32.reduceToInt]
      · rw [if_neg t32]
        refine ⟨ν, ?_, F, fun x => by exfalso; have x' : ((e : Int)) = -1 := x; omega⟩
        simp (decide := true) (implicitDefEqProofs := false) only [b_X9_readStep_57, s0, d3, wk, h1, h2, ne, en, i1, i2, ge, t32, zO, zR, zA, zT, zu1, zu2, zu3, zu4, gI, gL, pI, pL, pZ, aI, aL, sI, sZ, sL, Option.bind_some, Option.map_some, if_true, if_false, ite_true, ite_false, true_and, and_true, false_and, and_false, or_true, true_or, or_false, false_or, and_self, not_true_eq_false, not_false_eq_true, ↓reduceIte, reduceIte, Nat.reduceAdd, Nat.reduceMul, Nat.reduceSub, Nat.reduceMod, Nat.reduceDiv, Nat.reduceEqDiff, Nat.reduceLT, Nat.reduceLeDiff, Int32.reduceAdd, Int32.reduceSub, Int32.reduceMul, Int32.reduceDiv, Int32.reduceMod, Int32.reduceOfNat, Int32.reduceOfInt, Int32.reduceLT, Int32.reduceLE, Int32.reduceToNatClampNeg, Int32.reduceToInt]
        rfl

