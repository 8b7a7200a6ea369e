def lfR (w : Nat → Int32) (r : Nat) : Int32 := if 0 < r then w (r - 1) else 0
def rtR (w : Nat → Int32) (r : Nat) : Int32 := if r < 60 then w (r + 1) else 0
def gvR (lw w : Nat → Int32) (r : Nat) : Int32 := (((w r ||| ((w r <<< (1 &&& 31)) ||| (w r >>> (19 &&& 31)))) ||| ((w r >>> (1 &&& 31)) ||| (w r <<< (19 &&& 31)))) ||| (lfR w r ||| rtR w r)) &&& lw r
theorem gv_RB {c : Nat → Nat → Int} {s k : Nat} {lw w : Nat → Int32} (hl : RB lw (LW c)) (hv : RB w (RC c s k)) : RB (gvR lw w) (RC c s (k + 1)) := by
  intro r hr
  exact grow_at hl hv hr (lfR w r) (rtR w r) (by unfold lfR; by_cases t : 0 < r
                                                 · rw [if_pos t, if_pos t]
                                                 · rw [if_neg t, if_neg t]) (by unfold rtR; by_cases t : r < 60
                                                                                · rw [if_pos t, if_pos t]
                                                                                · rw [if_neg t, if_neg t])
theorem spread_st {μ ν : Mem} (f : Fr (fun q => q = 60) μ ν) {r : Nat} (hr : r < 61) (self : (Int32 × Int32 × Mem) → Option (Int32 × Mem)) (mo : Int32) : l_X7_spread_4 SX 57 self (mo, Int32.ofNat r, ν) = if mo = 0 then (if gvR (μ.1 58) (μ.1 59) r = μ.1 59 r then self (0, Int32.ofNat (r + 1), upI ν 60 r (gvR (μ.1 58) (μ.1 59) r)) else self (1, Int32.ofNat (r + 1), upI ν 60 r (gvR (μ.1 58) (μ.1 59) r))) else self (1, Int32.ofNat (r + 1), upI ν 60 r (gvR (μ.1 58) (μ.1 59) r)) := by
  have e58 : ν.1 58 = μ.1 58 := (f 58 (by omega)).1
  have e59 : ν.1 59 = μ.1 59 := (f 59 (by omega)).1
  have lf : ((61 : Int32) ≤ Int32.ofNat r) = False := leF (n := 61) hr (by decide)
  have i1 := zin r 61 hr (by decide)
  have i2 := ztn r (by omega)
  have l0 : (Int32.ofNat r ≤ 0) = (r ≤ 0) := leN (b := 0) (by omega) (by decide)
  have l60 : ((60 : Int32) ≤ Int32.ofNat r) = (60 ≤ r) := leN (a := 60) (by decide) (by omega)
  have fin : ∀ (lft rgt : Int32), lfR (μ.1 59) r = lft → rtR (μ.1 59) r = rgt → b_X7_spread_71 SX self 57 mo (Int32.ofNat r) (μ.1 59 r) ((μ.1 59 r <<< (1 &&& 31)) ||| (μ.1 59 r >>> (19 &&& 31))) ((μ.1 59 r >>> (1 &&& 31)) ||| (μ.1 59 r <<< (19 &&& 31))) rgt lft ν = if mo = 0 then (if gvR (μ.1 58) (μ.1 59) r = μ.1 59 r then self (0, Int32.ofNat (r + 1), upI ν 60 r (gvR (μ.1 58) (μ.1 59) r)) else self (1, Int32.ofNat (r + 1), upI ν 60 r (gvR (μ.1 58) (μ.1 59) r))) else self (1, Int32.ofNat (r + 1), upI ν 60 r (gvR (μ.1 58) (μ.1 59) r)) := by
    rintro lft rgt rfl rfl
    have eg : (((μ.1 59 r ||| ((μ.1 59 r <<< (1 &&& 31)) ||| (μ.1 59 r >>> (19 &&& 31)))) ||| ((μ.1 59 r >>> (1 &&& 31)) ||| (μ.1 59 r <<< (19 &&& 31)))) ||| (lfR (μ.1 59) r ||| rtR (μ.1 59) r)) &&& μ.1 58 r = gvR (μ.1 58) (μ.1 59) r := rfl
    simp (decide := true) (implicitDefEqProofs := false) only [b_X7_spread_71, e58, i1, i2, eg, ofN1 r, zO, zR, zA, zT, zu1, zu2, zu3, zu4, gI, gL, pI, pL, pZ, aI, aL, sI, sZ, sL, Option.bind_some, Option.map_some, if_true, if_false, ite_true, ite_false, true_and, and_true, false_and, and_false, or_true, true_or, or_false, false_or, and_self, not_true_eq_false, not_false_eq_true, ↓reduceIte, reduceIte, Nat.reduceAdd, Nat.reduceMul, Nat.reduceSub, Nat.reduceMod, Nat.reduceDiv, Nat.reduceEqDiff, Nat.reduceLT, Nat.reduceLeDiff, Int32.reduceAdd, Int32.reduceSub, Int32.reduceMul, Int32.reduceDiv, Int32.reduceMod, Int32.reduceOfNat, Int32.reduceOfInt, Int32.reduceLT, Int32.reduceLE, Int32.reduceToNatClampNeg, Int32.reduceToInt]
  by_cases t0 : r ≤ 0
  · have e0 : r = 0 := by omega
    by_cases t6 : 60 ≤ r
    · omega
    · have q := fin 0 (μ.1 59 (r + 1)) (by unfold lfR; rw [if_neg (by omega)]) (by unfold rtR; rw [if_pos (by first | omega | exact ⟨trivial, by omega⟩ | exact ⟨trivial, trivial⟩)])
      simp (decide := true) (implicitDefEqProofs := false) only [l_X7_spread_4, lf, e59, i1, i2, l0, t0, b_X7_spread_53, l60, t6, ofN1, zin (r + 1) 61 (by omega) (by decide), ztn (r + 1) (by omega), zO, zR, zA, zT, zu1, zu2, zu3, zu4, gI, gL, pI, pL, pZ, aI, aL, sI, sZ, sL, Option.bind_some, Option.map_some, if_true, if_false, ite_true, ite_false, true_and, and_true, false_and, and_false, or_true, true_or, or_false, false_or, and_self, not_true_eq_false, not_false_eq_true, ↓reduceIte, reduceIte, Nat.reduceAdd, Nat.reduceMul, Nat.reduceSub, Nat.reduceMod, Nat.reduceDiv, Nat.reduceEqDiff, Nat.reduceLT, Nat.reduceLeDiff, Int32.reduceAdd, Int32.reduceSub, Int32.reduceMul, Int32.reduceDiv, Int32.reduceMod, Int32.reduceOfNat, Int32.reduceOfInt, Int32.reduceLT, Int32.reduceLE, Int32.reduceToNatClampNeg, Int32.reduceToInt]
      exact q
  · have s1 := sb1 r (by omega)
    by_cases t6 : 60 ≤ r
    · have q := fin (μ.1 59 (r - 1)) 0 (by unfold lfR; rw [if_pos (by first | omega | exact ⟨trivial, by omega⟩ | exact ⟨trivial, trivial⟩)]) (by unfold rtR; rw [if_neg (by omega)])
      simp (decide := true) (implicitDefEqProofs := false) only [l_X7_spread_4, lf, e59, i1, i2, l0, t0, b_X7_spread_53, l60, t6, s1, zin (r - 1) 61 (by omega) (by decide), ztn (r - 1) (by omega), zO, zR, zA, zT, zu1, zu2, zu3, zu4, gI, gL, pI, pL, pZ, aI, aL, sI, sZ, sL, Option.bind_some, Option.map_some, if_true, if_false, ite_true, ite_false, true_and, and_true, false_and, and_false, or_true, true_or, or_false, false_or, and_self, not_true_eq_false, not_false_eq_true, ↓reduceIte, reduceIte, Nat.reduceAdd, Nat.reduceMul, Nat.reduceSub, Nat.reduceMod, Nat.reduceDiv, Nat.reduceEqDiff, Nat.reduceLT, Nat.reduceLeDiff, Int32.reduceAdd, Int32.reduceSub, Int32.reduceMul, Int32.reduceDiv, Int32.reduceMod, Int32.reduceOfNat, Int32.reduceOfInt, Int32.reduceLT, Int32.reduceLE, Int32.reduceToNatClampNeg, Int32.reduceToInt]
      exact q
    · have q := fin (μ.1 59 (r - 1)) (μ.1 59 (r + 1)) (by unfold lfR; rw [if_pos (by first | omega | exact ⟨trivial, by omega⟩ | exact ⟨trivial, trivial⟩)]) (by unfold rtR; rw [if_pos (by first | omega | exact ⟨trivial, by omega⟩ | exact ⟨trivial, trivial⟩)])
      simp (decide := true) (implicitDefEqProofs := false) only [l_X7_spread_4, lf, e59, i1, i2, l0, t0, b_X7_spread_53, l60, t6, s1, ofN1, zin (r - 1) 61 (by omega) (by decide), ztn (r - 1) (by omega), zin (r + 1) 61 (by omega) (by decide), ztn (r + 1) (by omega), zO, zR, zA, zT, zu1, zu2, zu3, zu4, gI, gL, pI, pL, pZ, aI, aL, sI, sZ, sL, Option.bind_some, Option.map_some, if_true, if_false, ite_true, ite_false, true_and, and_true, false_and, and_false, or_true, true_or, or_false, false_or, and_self, not_true_eq_false, not_false_eq_true, ↓reduceIte, reduceIte, Nat.reduceAdd, Nat.reduceMul, Nat.reduceSub, Nat.reduceMod, Nat.reduceDiv, Nat.reduceEqDiff, Nat.reduceLT, Nat.reduceLeDiff, Int32.reduceAdd, Int32.reduceSub, Int32.reduceMul, Int32.reduceDiv, Int32.reduceMod, Int32.reduceOfNat, Int32.reduceOfInt, Int32.reduceLT, Int32.reduceLE, Int32.reduceToNatClampNeg, Int32.reduceToInt]
      exact q
theorem spreadX (μ : Mem) : ∃ ν mo, f_X7_spread SX 57 μ = some (mo, ν) ∧ (mo = 0 ∨ mo = 1) ∧ Fr (fun q => q = 59 ∨ q = 60) μ ν ∧ (∀ j, j < 61 → ν.1 59 j = gvR (μ.1 58) (μ.1 59) j) ∧ (mo = 0 → ∀ j, j < 61 → gvR (μ.1 58) (μ.1 59) j = μ.1 59 j) := by
  have loop : ∀ m r, r + m = 61 → ∀ u mo ν, (mo = 0 ∨ mo = 1) → Fr (fun q => q = 60) μ ν → (∀ j, j < r → ν.1 60 j = gvR (μ.1 58) (μ.1 59) j) → (mo = 0 → ∀ j, j < r → gvR (μ.1 58) (μ.1 59) j = μ.1 59 j) → ∃ ν' mo', lpN (l_X7_spread_4 SX 57) (u + m + 1) (mo, Int32.ofNat r, ν) = some (mo', ν') ∧ (mo' = 0 ∨ mo' = 1) ∧ Fr (fun q => q = 59 ∨ q = 60) μ ν' ∧ (∀ j, j < 61 → ν'.1 59 j = gvR (μ.1 58) (μ.1 59) j) ∧ (mo' = 0 → ∀ j, j < 61 → gvR (μ.1 58) (μ.1 59) j = μ.1 59 j) := by
    intro m
    induction m with
    | zero =>
      intro r hr u mo ν hmo f g1 g2
      have e : r = 61 := by omega
      subst e
      obtain ⟨ν', E'⟩ : ∃ m : Mem, m = (fun t q => if t = 59 then va_cpy (ν.1 60) (ν.1 59) 0 0 61 q else ν.1 t q, ν.2) := ⟨_, rfl⟩
      have f' : Fr (fun q => q = 59) ν ν' := by rw [E']; exact Fr.cp rfl
      have ozm : oz mo = some mo := by unfold oz; rw [if_pos hmo]
      refine ⟨ν', mo, ?_, hmo, (f.mo (fun q hq => Or.inr hq)).tr (f'.mo (fun q hq => Or.inl hq)), fun j hj => ?_, g2⟩
      · rw [zlp, E']
        simp (decide := true) (implicitDefEqProofs := false) only [l_X7_spread_4, b_X7_spread_123, cpI, ozm, zO, zR, zA, zT, zu1, zu2, zu3, zu4, gI, gL, pI, pL, pZ, aI, aL, sI, sZ, sL, Option.bind_some, Option.map_some, if_true, if_false, ite_true, ite_false, true_and, and_true, false_and, and_false, or_true, true_or, or_false, false_or, and_self, not_true_eq_false, not_false_eq_true, ↓reduceIte, reduceIte, Nat.reduceAdd, Nat.reduceMul, Nat.reduceSub, Nat.reduceMod, Nat.reduceDiv, Nat.reduceEqDiff, Nat.reduceLT, Nat.reduceLeDiff, Int32.reduceAdd, Int32.reduceSub, Int32.reduceMul, Int32.reduceDiv, Int32.reduceMod, Int32.reduceOfNat, Int32.reduceOfInt, Int32.reduceLT, Int32.reduceLE, Int32.reduceToNatClampNeg, Int32.reduceToInt]
      · rw [E']
        simp (decide := true) (implicitDefEqProofs := false) only [va_cpy, zO, zR, zA, zT, zu1, zu2, zu3, zu4, gI, gL, pI, pL, pZ, aI, aL, sI, sZ, sL, Option.bind_some, Option.map_some, if_true, if_false, ite_true, ite_false, true_and, and_true, false_and, and_false, or_true, true_or, or_false, false_or, and_self, not_true_eq_false, not_false_eq_true, ↓reduceIte, reduceIte, Nat.reduceAdd, Nat.reduceMul, Nat.reduceSub, Nat.reduceMod, Nat.reduceDiv, Nat.reduceEqDiff, Nat.reduceLT, Nat.reduceLeDiff, Int32.reduceAdd, Int32.reduceSub, Int32.reduceMul, Int32.reduceDiv, Int32.reduceMod, Int32.reduceOfNat, Int32.reduceOfInt, Int32.reduceLT, Int32.reduceLE, Int32.reduceToNatClampNeg, Int32.reduceToInt]
        simp [hj]
        exact g1 j hj
    | succ m ih =>
      intro r hr u mo ν hmo f g1 g2
      have g1' : ∀ j, j < r + 1 → (upI ν 60 r (gvR (μ.1 58) (μ.1 59) r)).1 60 j = gvR (μ.1 58) (μ.1 59) j := fun j hj => by
        rw [zu1]
        by_cases e : j = r
        · rw [if_pos (by first | exact ⟨rfl, e⟩ | exact ⟨trivial, e⟩), e]
        · rw [if_neg (fun q => e q.2)]; exact g1 j (by omega)
      have f' : Fr (fun q => q = 60) μ (upI ν 60 r (gvR (μ.1 58) (μ.1 59) r)) := f.tr (Fr.uI rfl)
      rw [show u + (m + 1) + 1 = (u + m + 1) + 1 from rfl, zlp, spread_st f (by omega)]
      rcases hmo with rfl | rfl
      · rw [if_pos rfl]
        by_cases t : gvR (μ.1 58) (μ.1 59) r = μ.1 59 r
        · rw [if_pos t]
          exact ih (r + 1) (by omega) u 0 _ (Or.inl rfl) f' g1' (fun _ j hj => by
            by_cases e : j = r
            · rw [e]; exact t
            · exact g2 rfl j (by omega))
        · rw [if_neg t]
          exact ih (r + 1) (by omega) u 1 _ (Or.inr rfl) f' g1' (fun e => by cases e)
      · rw [if_neg (by decide)]
        exact ih (r + 1) (by omega) u 1 _ (Or.inr rfl) f' g1' (fun e => by cases e)
  obtain ⟨ν, mo, p, g⟩ := loop 61 0 (by omega) 4938 0 μ (Or.inl rfl) Fr.rf (fun j hj => by omega) (fun _ j hj => by omega)
  refine ⟨ν, mo, ?_, g⟩
  simp (decide := true) (implicitDefEqProofs := false) only [f_X7_spread, zO, zR, zA, zT, zu1, zu2, zu3, zu4, gI, gL, pI, pL, pZ, aI, aL, sI, sZ, sL, Option.bind_some, Option.map_some, if_true, if_false, ite_true, ite_false, true_and, and_true, false_and, and_false, or_true, true_or, or_false, false_or, and_self, not_true_eq_false, not_false_eq_true, ↓reduceIte, reduceIte, Nat.reduceAdd, Nat.reduceMul, Nat.reduceSub, Nat.reduceMod, Nat.reduceDiv, Nat.reduceEqDiff, Nat.reduceLT, Nat.reduceLeDiff, Int32.reduceAdd, Int32.reduceSub, Int32.reduceMul, Int32.reduceDiv, Int32.reduceMod, Int32.reduceOfNat, Int32.reduceOfInt, Int32.reduceLT, Int32.reduceLE, Int32.reduceToNatClampNeg, Int32.reduceToInt]
  exact p
theorem RB.eq {v : Nat → Int32} {P Q : Nat → Prop} (h1 : RB v P) (h2 : RB v Q) {x : Nat} (hx : x < 1220) : P x ↔ Q x := by
  have a := h1 (x % 61) (by omega) (x / 61) (by omega)
  have b := h2 (x % 61) (by omega) (x / 61) (by omega)
  rw [show 61 * (x / 61) + x % 61 = x by omega] at a b
  constructor
  · intro g; exact (b.mp (a.mpr ⟨by omega, g⟩)).2
  · intro g; exact (a.mp (b.mpr ⟨by omega, g⟩)).2
theorem RB.cg {v w : Nat → Int32} {P : Nat → Prop} (h : RB v P) (e : ∀ r, r < 61 → w r = v r) : RB w P := fun r hr => by rw [e r hr]; exact h r hr
/-- one MOVE more -/
theorem spreadR {c : Nat → Nat → Int} {s k : Nat} {μ : Mem} (hl : RB (μ.1 58) (LW c)) (hv : RB (μ.1 59) (RC c s k)) : ∃ ν mo, f_X7_spread SX 57 μ = some (mo, ν) ∧ (mo = 0 ∨ mo = 1) ∧ Fr (fun q => q = 59 ∨ q = 60) μ ν ∧ RB (ν.1 58) (LW c) ∧ RB (ν.1 59) (RC c s (k + 1)) ∧ (mo = 0 → ∀ x, x < 1220 → (RC c s (k + 1) x ↔ RC c s k x)) := by
  obtain ⟨ν, mo, p, hm, f, g1, g2⟩ := spreadX μ
  have R := gv_RB hl hv
  refine ⟨ν, mo, p, hm, f, by rw [(f 58 (by omega)).1]; exact hl, R.cg g1, fun e x hx => ?_⟩
  exact (R.cg (w := μ.1 59) (fun r hr => (g2 e r hr).symm)).eq hv hx
def rtP (q : Nat) : Prop := q = 58 ∨ q = 59 ∨ q = 60
theorem movesA {c : Nat → Nat → Int} {s v d r : Nat} (hs : s < 1220) (hd : d < 20) (hr : r < 61) (hv : v ≤ 1219) (h1 : RC c s v (61 * d + r)) (h2 : ∀ j, j < v → ¬ RC c s j (61 * d + r)) : ∀ m k, k + m = v → ∀ u μ, RB (μ.1 58) (LW c) → RB (μ.1 59) (RC c s k) → ∃ ν, lpN (l_X7_movesTo_5 SX 57 (Int32.ofNat d) (Int32.ofNat r)) (u + m + 1) (1, Int32.ofNat k, μ) = some (Int32.ofNat v, ν) ∧ Fr rtP μ ν := by
  have i1 := zin r 61 hr (by decide)
  have i2 := ztn r (by omega)
  intro m
  induction m with
  | zero =>
    intro k hk u μ hl hw
    have e : k = v := by omega
    subst e
    refine ⟨μ, ?_, Fr.rf⟩
    have lt : ((1220 : Int32) < Int32.ofNat k) = False := (ltN (a := 1220) (by decide) (by omega)).trans (eq_false (by omega))
    have b1 : bt (μ.1 59 r) d = true := (hw r hr d (by omega)).mpr ⟨hd, h1⟩
    have z : (μ.1 59 r &&& (1 <<< (Int32.ofNat d &&& 31)) = 0) = False := by rw [and0 hd, b1]; exact eq_false (by decide)
    rw [zlp]
    simp (decide := true) (implicitDefEqProofs := false) only [l_X7_movesTo_5, lt, i1, i2, z, zO, zR, zA, zT, zu1, zu2, zu3, zu4, gI, gL, pI, pL, pZ, aI, aL, sI, sZ, sL, Option.bind_some, Option.map_some, if_true, if_false, ite_true, ite_false, true_and, and_true, false_and, and_false, or_true, true_or, or_false, false_or, and_self, not_true_eq_false, not_false_eq_true, ↓reduceIte, reduceIte, Nat.reduceAdd, Nat.reduceMul, Nat.reduceSub, Nat.reduceMod, Nat.reduceDiv, Nat.reduceEqDiff, Nat.reduceLT, Nat.reduceLeDiff, Int32.reduceAdd, Int32.reduceSub, Int32.reduceMul, Int32.reduceDiv, Int32.reduceMod, Int32.reduceOfNat, Int32.reduceOfInt, Int32.reduceLT, Int32.reduceLE, Int32.reduceToNatClampNeg, Int32.reduceToInt]
  | succ m ih =>
    intro k hk u μ hl hw
    have lt : ((1220 : Int32) < Int32.ofNat k) = False := (ltN (a := 1220) (by decide) (by omega)).trans (eq_false (by omega))
    have b1 : bt (μ.1 59 r) d = false := by
      cases e : bt (μ.1 59 r) d with
      | false => rfl
      | true => exact absurd ((hw r hr d (by omega)).mp e).2 (h2 k (by omega))
    have z : (μ.1 59 r &&& (1 <<< (Int32.ofNat d &&& 31)) = 0) = True := by rw [and0 hd]; exact eq_true b1
    obtain ⟨ν1, mo, p1, hm, f1, l1, w1, st⟩ := spreadR hl hw
    have mo1 : mo = 1 := by
      rcases hm with e | e
      · exfalso
        have := RC_st hs (st e) (v - k) (61 * d + r) (by rw [show k + (v - k) = v by omega]; exact h1)
        exact h2 k (by omega) this
      · exact e
    rw [mo1] at p1
    obtain ⟨ν, p, f⟩ := ih (k + 1) (by omega) u ν1 l1 w1
    refine ⟨ν, ?_, Fr.tr (f1.mo (fun q hq => by unfold rtP; omega)) f⟩
    rw [show u + (m + 1) + 1 = (u + m + 1) + 1 from rfl, zlp]
    simp (decide := true) (implicitDefEqProofs := false) only [l_X7_movesTo_5, lt, i1, i2, z, p1, ofN1 k, zO, zR, zA, zT, zu1, zu2, zu3, zu4, gI, gL, pI, pL, pZ, aI, aL, sI, sZ, sL, Option.bind_some, Option.map_some, if_true, if_false, ite_true, ite_false, true_and, and_true, false_and, and_false, or_true, true_or, or_false, false_or, and_self, not_true_eq_false, not_false_eq_true, ↓reduceIte, reduceIte, Nat.reduceAdd, Nat.reduceMul, Nat.reduceSub, Nat.reduceMod, Nat.reduceDiv, Nat.reduceEqDiff, Nat.reduceLT, Nat.reduceLeDiff, Int32.reduceAdd, Int32.reduceSub, Int32.reduceMul, Int32.reduceDiv, Int32.reduceMod, Int32.reduceOfNat, Int32.reduceOfInt, Int32.reduceLT, Int32.reduceLE, Int32.reduceToNatClampNeg, Int32.reduceToInt]
    exact p
theorem movesB {c : Nat → Nat → Int} {s d r : Nat} (hd : d < 20) (hr : r < 61) (h2 : ∀ j, ¬ RC c s j (61 * d + r)) : ∀ m k, k + m = 1221 → ∀ u mo μ, RB (μ.1 58) (LW c) → RB (μ.1 59) (RC c s k) → ∃ ν, lpN (l_X7_movesTo_5 SX 57 (Int32.ofNat d) (Int32.ofNat r)) (u + m + 1) (mo, Int32.ofNat k, μ) = some (-5, ν) ∧ Fr rtP μ ν := by
  have i1 := zin r 61 hr (by decide)
  have i2 := ztn r (by omega)
  intro m
  induction m with
  | zero =>
    intro k hk u mo μ hl hw
    have e : k = 1221 := by omega
    subst e
    refine ⟨μ, ?_, Fr.rf⟩
    rw [zlp]
    by_cases t : mo = 0
    · simp (decide := true) (implicitDefEqProofs := false) only [l_X7_movesTo_5, t, zO, zR, zA, zT, zu1, zu2, zu3, zu4, gI, gL, pI, pL, pZ, aI, aL, sI, sZ, sL, Option.bind_some, Option.map_some, if_true, if_false, ite_true, ite_false, true_and, and_true, false_and, and_false, or_true, true_or, or_false, false_or, and_self, not_true_eq_false, not_false_eq_true, ↓reduceIte, reduceIte, Nat.reduceAdd, Nat.reduceMul, Nat.reduceSub, Nat.reduceMod, Nat.reduceDiv, Nat.reduceEqDiff, Nat.reduceLT, Nat.reduceLeDiff, Int32.reduceAdd, Int32.reduceSub, Int32.reduceMul, Int32.reduceDiv, Int32.reduceMod, Int32.reduceOfNat, Int32.reduceOfInt, Int32.reduceLT, Int32.reduceLE, Int32.reduceToNatClampNeg, Int32.reduceToInt]
    · simp (decide := true) (implicitDefEqProofs := false) only [l_X7_movesTo_5, t, zO, zR, zA, zT, zu1, zu2, zu3, zu4, gI, gL, pI, pL, pZ, aI, aL, sI, sZ, sL, Option.bind_some, Option.map_some, if_true, if_false, ite_true, ite_false, true_and, and_true, false_and, and_false, or_true, true_or, or_false, false_or, and_self, not_true_eq_false, not_false_eq_true, ↓reduceIte, reduceIte, Nat.reduceAdd, Nat.reduceMul, Nat.reduceSub, Nat.reduceMod, Nat.reduceDiv, Nat.reduceEqDiff, Nat.reduceLT, Nat.reduceLeDiff, Int32.reduceAdd, Int32.reduceSub, Int32.reduceMul, Int32.reduceDiv, Int32.reduceMod, Int32.reduceOfNat, Int32.reduceOfInt, Int32.reduceLT, Int32.reduceLE, Int32.reduceToNatClampNeg, Int32.reduceToInt]
  | succ m ih =>
    intro k hk u mo μ hl hw
    rw [show u + (m + 1) + 1 = (u + m + 1) + 1 from rfl, zlp]
    by_cases t : mo = 0
    · refine ⟨μ, ?_, Fr.rf⟩
      simp (decide := true) (implicitDefEqProofs := false) only [l_X7_movesTo_5, t, zO, zR, zA, zT, zu1, zu2, zu3, zu4, gI, gL, pI, pL, pZ, aI, aL, sI, sZ, sL, Option.bind_some, Option.map_some, if_true, if_false, ite_true, ite_false, true_and, and_true, false_and, and_false, or_true, true_or, or_false, false_or, and_self, not_true_eq_false, not_false_eq_true, ↓reduceIte, reduceIte, Nat.reduceAdd, Nat.reduceMul, Nat.reduceSub, Nat.reduceMod, Nat.reduceDiv, Nat.reduceEqDiff, Nat.reduceLT, Nat.reduceLeDiff, Int32.reduceAdd, Int32.reduceSub, Int32.reduceMul, Int32.reduceDiv, Int32.reduceMod, Int32.reduceOfNat, Int32.reduceOfInt, Int32.reduceLT, Int32.reduceLE, Int32.reduceToNatClampNeg, Int32.reduceToInt]
    · have lt : ((1220 : Int32) < Int32.ofNat k) = False := (ltN (a := 1220) (by decide) (by omega)).trans (eq_false (by omega))
      have b1 : bt (μ.1 59 r) d = false := by
        cases e : bt (μ.1 59 r) d with
        | false => rfl
        | true => exact absurd ((hw r hr d (by omega)).mp e).2 (h2 k)
      have z : (μ.1 59 r &&& (1 <<< (Int32.ofNat d &&& 31)) = 0) = True := by rw [and0 hd]; exact eq_true b1
      obtain ⟨ν1, mo1, p1, hm, f1, l1, w1, st⟩ := spreadR hl hw
      obtain ⟨ν, p, f⟩ := ih (k + 1) (by omega) u mo1 ν1 l1 w1
      refine ⟨ν, ?_, Fr.tr (f1.mo (fun q hq => by unfold rtP; omega)) f⟩
      simp (decide := true) (implicitDefEqProofs := false) only [l_X7_movesTo_5, t, lt, i1, i2, z, p1, ofN1 k, zO, zR, zA, zT, zu1, zu2, zu3, zu4, gI, gL, pI, pL, pZ, aI, aL, sI, sZ, sL, Option.bind_some, Option.map_some, if_true, if_false, ite_true, ite_false, true_and, and_true, false_and, and_false, or_true, true_or, or_false, false_or, and_self, not_true_eq_false, not_false_eq_true, ↓reduceIte, reduceIte, Nat.reduceAdd, Nat.reduceMul, Nat.reduceSub, Nat.reduceMod, Nat.reduceDiv, Nat.reduceEqDiff, Nat.reduceLT, Nat.reduceLeDiff, Int32.reduceAdd, Int32.reduceSub, Int32.reduceMul, Int32.reduceDiv, Int32.reduceMod, Int32.reduceOfNat, Int32.reduceOfInt, Int32.reduceLT, Int32.reduceLE, Int32.reduceToNatClampNeg, Int32.reduceToInt]
      exact p

