def sgI (s : Int) (c : Nat → Nat → Int) (e i : Nat) : Int := if s * moI c e i ≤ 0 then 0 else moI c e i
theorem moI_b {c : Nat → Nat → Int} (b : BC c) {e : Nat} (he : e < 4) (i : Nat) : -10000000000 ≤ moI c e i ∧ moI c e i ≤ 10000000000 := by
  have tb := th_b b i
  have sb := spn_b b.1 he tb.2.1 tb.2.2
  rw [moI_spn he i]
  have m := mulb (a := thW c i) (b := spn c e (thX c i) (thY c i)) 9999 1000000 (by omega) (by omega) (by omega) (by omega)
  omega
theorem momS_at {c : Nat → Nat → Int} {t : Nat} {μ : Mem} (h : MM c μ) (b : BC c) (l : LK c t μ) (ht : t ≤ 10) {e : Nat} (he : e < 4) {s : Int} (hs : s = 1 ∨ s = -1) : f_X12_moments SX 81 (Int32.ofNat e) (Int32.ofInt s) μ = some (Int64.ofInt (sm (sgI s c e) t), μ) := by
  have s0 : (Int32.ofInt s = 0) = False := by rcases hs with rfl | rfl <;> exact eq_false (by decide)
  have sL : (Int32.ofInt s).toInt64 = Int64.ofInt s := yw s (by omega) (by omega)
  have loop : ∀ m i, i + m = t → ∀ u, lpN (l_X12_moments_5 SX 81 (Int32.ofNat e) (Int32.ofInt s)) (u + m + 1) (Int64.ofInt (sm (sgI s c e) i), Int32.ofNat i, μ) = some (Int64.ofInt (sm (sgI s c e) t), μ) := by
    intro m
    induction m with
    | zero =>
      intro i hi u
      have hi' : i = t := by omega
      subst hi'
      rw [zlp]
      simp (decide := true) (implicitDefEqProofs := false) only [l_X12_moments_5, l.1, leT, zO, zR, zA, zT, zu1, zu2, zu3, zu4, gI, gL, pI, pL, pZ, aI, aL, sI, sZ, sL, Option.bind_some, Option.map_some, if_true, if_false, ite_true, ite_false, true_and, and_true, false_and, and_false, or_true, true_or, or_false, false_or, and_self, not_true_eq_false, not_false_eq_true, ↓reduceIte, reduceIte, Nat.reduceAdd, Nat.reduceMul, Nat.reduceSub, Nat.reduceMod, Nat.reduceDiv, Nat.reduceEqDiff, Nat.reduceLT, Nat.reduceLeDiff, Int32.reduceAdd, Int32.reduceSub, Int32.reduceMul, Int32.reduceDiv, Int32.reduceMod, Int32.reduceOfNat, Int32.reduceOfInt, Int32.reduceLT, Int32.reduceLE, Int32.reduceToNatClampNeg, Int32.reduceToInt]
    | succ m ih =>
      intro i hi u
      have n1 := ofN1 i
      have lf : (Int32.ofNat t ≤ Int32.ofNat i) = False := leF (by omega) (by omega)
      have this := ih (i + 1) (by omega) u
      rw [show sm (sgI s c e) (i + 1) = sm (sgI s c e) i + sgI s c e i from rfl] at this
      have mb := moI_b b he i
      have q : (Int64.ofInt (s * moI c e i) ≤ 0) = (s * moI c e i ≤ 0) := propext (yle0 _ (by rcases hs with rfl | rfl <;> omega) (by rcases hs with rfl | rfl <;> omega))
      rw [zlp]
      by_cases w : s * moI c e i ≤ 0
      · have e0 : sgI s c e i = 0 := by unfold sgI; rw [if_pos w]
        rw [e0] at this
        simp (decide := true) (implicitDefEqProofs := false) only [l_X12_moments_5, l.1, lf, n1, momentOf_at h b l ht he (show i < t by omega), s0, sL, y64m, q, w, zO, zR, zA, zT, zu1, zu2, zu3, zu4, gI, gL, pI, pL, pZ, aI, aL, sI, sZ, sL, Option.bind_some, Option.map_some, if_true, if_false, ite_true, ite_false, true_and, and_true, false_and, and_false, or_true, true_or, or_false, false_or, and_self, not_true_eq_false, not_false_eq_true, ↓reduceIte, reduceIte, Nat.reduceAdd, Nat.reduceMul, Nat.reduceSub, Nat.reduceMod, Nat.reduceDiv, Nat.reduceEqDiff, Nat.reduceLT, Nat.reduceLeDiff, Int32.reduceAdd, Int32.reduceSub, Int32.reduceMul, Int32.reduceDiv, Int32.reduceMod, Int32.reduceOfNat, Int32.reduceOfInt, Int32.reduceLT, Int32.reduceLE, Int32.reduceToNatClampNeg, Int32.reduceToInt]
        rw [← y64a] at this
        exact this
      · have e0 : sgI s c e i = moI c e i := by unfold sgI; rw [if_neg w]
        rw [e0] at this
        simp (decide := true) (implicitDefEqProofs := false) only [l_X12_moments_5, l.1, lf, n1, momentOf_at h b l ht he (show i < t by omega), s0, sL, y64m, q, w, y64a, zO, zR, zA, zT, zu1, zu2, zu3, zu4, gI, gL, pI, pL, pZ, aI, aL, sI, sZ, sL, Option.bind_some, Option.map_some, if_true, if_false, ite_true, ite_false, true_and, and_true, false_and, and_false, or_true, true_or, or_false, false_or, and_self, not_true_eq_false, not_false_eq_true, ↓reduceIte, reduceIte, Nat.reduceAdd, Nat.reduceMul, Nat.reduceSub, Nat.reduceMod, Nat.reduceDiv, Nat.reduceEqDiff, Nat.reduceLT, Nat.reduceLeDiff, Int32.reduceAdd, Int32.reduceSub, Int32.reduceMul, Int32.reduceDiv, Int32.reduceMod, Int32.reduceOfNat, Int32.reduceOfInt, Int32.reduceLT, Int32.reduceLE, Int32.reduceToNatClampNeg, Int32.reduceToInt]
        exact this
  have p := loop t 0 (by omega) (4999 - t)
  rw [show 4999 - t + t + 1 = fu from by show _ = 5000; omega] at p
  unfold f_X12_moments
  rw [if_pos (by decide +kernel)]
  exact p
theorem sg1 (c : Nat → Nat → Int) (e : Nat) : sgI 1 c e = hI c e ∧ sgI (-1) c e = tI c e := by
  refine ⟨?_, ?_⟩ <;> funext i
  · unfold sgI hI
    by_cases w : 0 < moI c e i
    · rw [if_neg (by omega), if_pos w]
    · rw [if_pos (by first | omega | exact ⟨trivial, by omega⟩ | exact ⟨trivial, trivial⟩), if_neg w]
  · unfold sgI tI
    by_cases w : moI c e i < 0
    · rw [if_neg (by omega), if_pos w]
    · rw [if_pos (by first | omega | exact ⟨trivial, by omega⟩ | exact ⟨trivial, trivial⟩), if_neg w]
theorem sm_le {f : Nat → Int} {A B : Int} : ∀ n : Nat, (∀ i, i < n → A ≤ f i ∧ f i ≤ B) → n * A ≤ sm f n ∧ sm f n ≤ n * B
  | 0, _ => by simp [sm]
  | n + 1, h => by
    have i := sm_le n (fun i hi => h i (by omega))
    have g := h n (by omega)
    have e1 : ((n + 1 : Nat) : Int) * A = n * A + A := by rw [Int.natCast_add, Int.add_mul]; simp
    have e2 : ((n + 1 : Nat) : Int) * B = n * B + B := by rw [Int.natCast_add, Int.add_mul]; simp
    rw [e1, e2]
    show _ ≤ sm f n + f n ∧ sm f n + f n ≤ _
    omega
theorem ht_b {c : Nat → Nat → Int} (b : BC c) {e : Nat} (he : e < 4) : (0 ≤ sm (hI c e) (nP c + 2) ∧ sm (hI c e) (nP c + 2) ≤ 100000000000) ∧ (0 ≤ -(sm (tI c e) (nP c + 2)) ∧ -(sm (tI c e) (nP c + 2)) ≤ 100000000000) := by
  have n8 := nP8 b
  have s1 := sm_le (f := hI c e) (A := 0) (B := 10000000000) (nP c + 2) (fun i _ => by have := moI_b b he i; unfold hI; split <;> omega)
  have s2 := sm_le (f := tI c e) (A := -10000000000) (B := 0) (nP c + 2) (fun i _ => by have := moI_b b he i; unfold tI; split <;> omega)
  omega
theorem ok_factor {μ : Mem} (h : INV μ) (a1 a2 : Int32) : OKop (f_X11_factor SX 0 a1 a2) (f_X12_factor SX 81 a1 a2) μ := by
  obtain ⟨c, b, h1, h2⟩ := h.1
  rcases wbN a1 3 (by decide) with t | ⟨t, e, he, rfl⟩
  · simp only [Nat.reduceAdd, Nat.reduceMul, Nat.reduceMod, Int32.reduceOfNat] at t
    refine ⟨-9223372036854775808, μ, μ, ?_, ?_, h⟩
    · simp (decide := true) (implicitDefEqProofs := false) only [f_X11_factor, isPad_at, t, zO, zR, zA, zT, zu1, zu2, zu3, zu4, gI, gL, pI, pL, pZ, aI, aL, sI, sZ, sL, Option.bind_some, Option.map_some, if_true, if_false, ite_true, ite_false, true_and, and_true, false_and, and_false, or_true, true_or, or_false, false_or, and_self, not_true_eq_false, not_false_eq_true, ↓reduceIte, reduceIte, Nat.reduceAdd, Nat.reduceMul, Nat.reduceSub, Nat.reduceMod, Nat.reduceDiv, Nat.reduceEqDiff, Nat.reduceLT, Nat.reduceLeDiff, Int32.reduceAdd, Int32.reduceSub, Int32.reduceMul, Int32.reduceDiv, Int32.reduceMod, Int32.reduceOfNat, Int32.reduceOfInt, Int32.reduceLT, Int32.reduceLE, Int32.reduceToNatClampNeg, Int32.reduceToInt]
    · simp (decide := true) (implicitDefEqProofs := false) only [f_X12_factor, isPad_at, t, zO, zR, zA, zT, zu1, zu2, zu3, zu4, gI, gL, pI, pL, pZ, aI, aL, sI, sZ, sL, Option.bind_some, Option.map_some, if_true, if_false, ite_true, ite_false, true_and, and_true, false_and, and_false, or_true, true_or, or_false, false_or, and_self, not_true_eq_false, not_false_eq_true, ↓reduceIte, reduceIte, Nat.reduceAdd, Nat.reduceMul, Nat.reduceSub, Nat.reduceMod, Nat.reduceDiv, Nat.reduceEqDiff, Nat.reduceLT, Nat.reduceLeDiff, Int32.reduceAdd, Int32.reduceSub, Int32.reduceMul, Int32.reduceDiv, Int32.reduceMod, Int32.reduceOfNat, Int32.reduceOfInt, Int32.reduceLT, Int32.reduceLE, Int32.reduceToNatClampNeg, Int32.reduceToInt]
  · simp only [Nat.reduceAdd, Nat.reduceMul, Nat.reduceMod, Int32.reduceOfNat] at t
    rcases wbN a2 1 (by decide) with s | ⟨s, k, hk, rfl⟩
    · simp only [Nat.reduceAdd, Nat.reduceMul, Nat.reduceMod, Int32.reduceOfNat] at s
      refine ⟨-9223372036854775808, μ, μ, ?_, ?_, h⟩
      · simp (decide := true) (implicitDefEqProofs := false) only [f_X11_factor, isPad_at, isSide_at, t, s, zO, zR, zA, zT, zu1, zu2, zu3, zu4, gI, gL, pI, pL, pZ, aI, aL, sI, sZ, sL, Option.bind_some, Option.map_some, if_true, if_false, ite_true, ite_false, true_and, and_true, false_and, and_false, or_true, true_or, or_false, false_or, and_self, not_true_eq_false, not_false_eq_true, ↓reduceIte, reduceIte, Nat.reduceAdd, Nat.reduceMul, Nat.reduceSub, Nat.reduceMod, Nat.reduceDiv, Nat.reduceEqDiff, Nat.reduceLT, Nat.reduceLeDiff, Int32.reduceAdd, Int32.reduceSub, Int32.reduceMul, Int32.reduceDiv, Int32.reduceMod, Int32.reduceOfNat, Int32.reduceOfInt, Int32.reduceLT, Int32.reduceLE, Int32.reduceToNatClampNeg, Int32.reduceToInt]
      · simp (decide := true) (implicitDefEqProofs := false) only [f_X12_factor, isPad_at, isSide_at, t, s, zO, zR, zA, zT, zu1, zu2, zu3, zu4, gI, gL, pI, pL, pZ, aI, aL, sI, sZ, sL, Option.bind_some, Option.map_some, if_true, if_false, ite_true, ite_false, true_and, and_true, false_and, and_false, or_true, true_or, or_false, false_or, and_self, not_true_eq_false, not_false_eq_true, ↓reduceIte, reduceIte, Nat.reduceAdd, Nat.reduceMul, Nat.reduceSub, Nat.reduceMod, Nat.reduceDiv, Nat.reduceEqDiff, Nat.reduceLT, Nat.reduceLeDiff, Int32.reduceAdd, Int32.reduceSub, Int32.reduceMul, Int32.reduceDiv, Int32.reduceMod, Int32.reduceOfNat, Int32.reduceOfInt, Int32.reduceLT, Int32.reduceLE, Int32.reduceToNatClampNeg, Int32.reduceToInt]
    · simp only [Nat.reduceAdd, Nat.reduceMul, Nat.reduceMod, Int32.reduceOfNat] at s
      have he4 : e < 4 := by omega
      obtain ⟨μ1, p1, t1, t2, t3, t4⟩ := splitX h1 b he4
      have f1 : Fr (fun q => q = 55 ∨ q = 56) μ μ1 := fun q hq => ⟨by rw [t1], t2 q (fun w => hq (Or.inl w))⟩
      have F := sc55 f1
      have M1 := h2.sc F
      obtain ⟨ν, p2, f2, l⟩ := looks_at M1 b
      have hI' := h.q (F.tr (sck f2))
      have M2 := M1.sc (sck f2)
      have r1 := momS_at M2 b l (nP8 b) he4 (s := -1) (Or.inr rfl)
      have r2 := momS_at M2 b l (nP8 b) he4 (s := 1) (Or.inl rfl)
      rw [(sg1 c e).2, ← ym1] at r1
      rw [(sg1 c e).1] at r2
      have r2' : f_X12_moments SX 81 (Int32.ofNat e) 1 ν = some (Int64.ofInt (sm (hI c e) (nP c + 2)), ν) := r2
      obtain ⟨B1, B2⟩ := ht_b b he4
      obtain ⟨H, EH⟩ : ∃ H, H = sm (hI c e) (nP c + 2) := ⟨_, rfl⟩
      obtain ⟨T, ET⟩ : ∃ T, T = -(sm (tI c e) (nP c + 2)) := ⟨_, rfl⟩
      have ny : -Int64.ofInt (sm (tI c e) (nP c + 2)) = Int64.ofInt T := by rw [y64n, ET]
      rw [← EH] at r2' t3 B1
      rw [← ET] at t4 B2
      have zz : (Int64.ofInt T = 0) = (T = 0) := propext ⟨fun g => (yeq64 T 0 (by omega) (by omega) (by omega) (by omega)).mp g, fun g => by rw [g]; rfl⟩
      by_cases w : T = 0
      · refine ⟨-9223372036854775808, μ1, ν, ?_, ?_, hI'⟩
        · simp (decide := true) (implicitDefEqProofs := false) only [f_X11_factor, isPad_at, isSide_at, t, s, p1, t4, zz, w, zO, zR, zA, zT, zu1, zu2, zu3, zu4, gI, gL, pI, pL, pZ, aI, aL, sI, sZ, sL, Option.bind_some, Option.map_some, if_true, if_false, ite_true, ite_false, true_and, and_true, false_and, and_false, or_true, true_or, or_false, false_or, and_self, not_true_eq_false, not_false_eq_true, ↓reduceIte, reduceIte, Nat.reduceAdd, Nat.reduceMul, Nat.reduceSub, Nat.reduceMod, Nat.reduceDiv, Nat.reduceEqDiff, Nat.reduceLT, Nat.reduceLeDiff, Int32.reduceAdd, Int32.reduceSub, Int32.reduceMul, Int32.reduceDiv, Int32.reduceMod, Int32.reduceOfNat, Int32.reduceOfInt, Int32.reduceLT, Int32.reduceLE, Int32.reduceToNatClampNeg, Int32.reduceToInt]
        · simp (decide := true) (implicitDefEqProofs := false) only [f_X12_factor, isPad_at, isSide_at, t, s, p2, r1, ny, zz, w, zO, zR, zA, zT, zu1, zu2, zu3, zu4, gI, gL, pI, pL, pZ, aI, aL, sI, sZ, sL, Option.bind_some, Option.map_some, if_true, if_false, ite_true, ite_false, true_and, and_true, false_and, and_false, or_true, true_or, or_false, false_or, and_self, not_true_eq_false, not_false_eq_true, ↓reduceIte, reduceIte, Nat.reduceAdd, Nat.reduceMul, Nat.reduceSub, Nat.reduceMod, Nat.reduceDiv, Nat.reduceEqDiff, Nat.reduceLT, Nat.reduceLeDiff, Int32.reduceAdd, Int32.reduceSub, Int32.reduceMul, Int32.reduceDiv, Int32.reduceMod, Int32.reduceOfNat, Int32.reduceOfInt, Int32.reduceLT, Int32.reduceLE, Int32.reduceToNatClampNeg, Int32.reduceToInt]
      · have x := lowX H T (Int32.ofNat k) μ1 (by omega) (by omega)
        have y := lowM H T (Int32.ofNat k) ν (by omega) (by omega)
        refine ⟨Int64.ofInt (lowV H T (Int32.ofNat k)), μ1, ν, ?_, ?_, hI'⟩
        · simp (decide := true) (implicitDefEqProofs := false) only [f_X11_factor, isPad_at, isSide_at, t, s, p1, t3, t4, zz, w, x, zO, zR, zA, zT, zu1, zu2, zu3, zu4, gI, gL, pI, pL, pZ, aI, aL, sI, sZ, sL, Option.bind_some, Option.map_some, if_true, if_false, ite_true, ite_false, true_and, and_true, false_and, and_false, or_true, true_or, or_false, false_or, and_self, not_true_eq_false, not_false_eq_true, ↓reduceIte, reduceIte, Nat.reduceAdd, Nat.reduceMul, Nat.reduceSub, Nat.reduceMod, Nat.reduceDiv, Nat.reduceEqDiff, Nat.reduceLT, Nat.reduceLeDiff, Int32.reduceAdd, Int32.reduceSub, Int32.reduceMul, Int32.reduceDiv, Int32.reduceMod, Int32.reduceOfNat, Int32.reduceOfInt, Int32.reduceLT, Int32.reduceLE, Int32.reduceToNatClampNeg, Int32.reduceToInt]
        · simp (decide := true) (implicitDefEqProofs := false) only [f_X12_factor, isPad_at, isSide_at, t, s, p2, r1, r2', ny, zz, w, y, zO, zR, zA, zT, zu1, zu2, zu3, zu4, gI, gL, pI, pL, pZ, aI, aL, sI, sZ, sL, Option.bind_some, Option.map_some, if_true, if_false, ite_true, ite_false, true_and, and_true, false_and, and_false, or_true, true_or, or_false, false_or, and_self, not_true_eq_false, not_false_eq_true, ↓reduceIte, reduceIte, Nat.reduceAdd, Nat.reduceMul, Nat.reduceSub, Nat.reduceMod, Nat.reduceDiv, Nat.reduceEqDiff, Nat.reduceLT, Nat.reduceLeDiff, Int32.reduceAdd, Int32.reduceSub, Int32.reduceMul, Int32.reduceDiv, Int32.reduceMod, Int32.reduceOfNat, Int32.reduceOfInt, Int32.reduceLT, Int32.reduceLE, Int32.reduceToNatClampNeg, Int32.reduceToInt]
theorem ylt64 (a b : Int) (h : -9223372036854775808 ≤ a) (g : a < 9223372036854775808) (h' : -9223372036854775808 ≤ b) (g' : b < 9223372036854775808) : (Int64.ofInt a < Int64.ofInt b) ↔ a < b := by
  rw [Int64.lt_iff_toInt_lt, ytoL a h g, ytoL b h' g']
theorem tl32 (i : Nat) (h : i < 2147483648) : (Int32.ofNat i).toInt64 = Int64.ofInt (i : Int) := yw (i : Int) (by omega) (by omega)
/-- whether a mat of this side is enough -/
def mtP (c : Nat → Nat → Int) (p i : Nat) : Bool := decide (shF c p ≤ (i : Int) * i * c 8 4 * blF c)
theorem mt_b {c : Nat → Nat → Int} (b : BC c) {i : Nat} (hi : i ≤ 60) {z : Int} (hz : -30000000000 ≤ z ∧ z ≤ 30000000000) : -200000000000000000 ≤ (i : Int) * i * c 8 4 * z ∧ (i : Int) * i * c 8 4 * z ≤ 200000000000000000 := by
  have bd := b.2.2.2.2.2
  have m1 := mulb (a := (i : Int)) (b := (i : Int)) 60 60 (by omega) (by omega) (by omega) (by omega)
  have m2 := mulb (a := (i : Int) * i) (b := c 8 4) 3600 999 (by omega) (by omega) (by omega) (by omega)
  have m3 := mulb (a := (i : Int) * i * c 8 4) (b := z) 3596400 30000000000 (by omega) (by omega) (by omega) (by omega)
  omega
theorem matX {c : Nat → Nat → Int} {μ : Mem} (h : CC 1 c μ) (b : BC c) (j : JO c μ) {p : Nat} (hp : p < 4) : ∀ n i, i + n = 61 → 1 ≤ i → ∀ u, lpN (l_X11_mat_28 SX 0 (Int32.ofNat p)) (u + n + 1) (Int32.ofNat i, μ) = some (Int32.ofInt (leastV (mtP c p) n i), μ) := by
  have d4 := h.2.2.2.2.2 4 (by decide)
  simp only [Nat.reduceAdd, Nat.reduceMul, Nat.reduceMod, Int32.reduceOfNat] at d4
  obtain ⟨q1, q2, -⟩ := j
  have q1 := q1 p hp
  have bd := b.2.2.2.2.2
  obtain ⟨-, B1, B2, B3, B4⟩ := F_b b
  have B1 := B1 p hp
  have g4 : (Int32.ofInt (c 8 4)).toInt64 = Int64.ofInt (c 8 4) := yw _ (by omega) (by omega)
  intro n
  induction n with
  | zero =>
    intro i hi h1 u
    have e : i = 61 := by omega
    subst e
    rw [zlp]
    simp (decide := true) (implicitDefEqProofs := false) only [l_X11_mat_28, leastV, zO, zR, zA, zT, zu1, zu2, zu3, zu4, gI, gL, pI, pL, pZ, aI, aL, sI, sZ, sL, Option.bind_some, Option.map_some, if_true, if_false, ite_true, ite_false, true_and, and_true, false_and, and_false, or_true, true_or, or_false, false_or, and_self, not_true_eq_false, not_false_eq_true, ↓reduceIte, reduceIte, Nat.reduceAdd, Nat.reduceMul, Nat.reduceSub, Nat.reduceMod, Nat.reduceDiv, Nat.reduceEqDiff, Nat.reduceLT, Nat.reduceLeDiff, Int32.reduceAdd, Int32.reduceSub, Int32.reduceMul, Int32.reduceDiv, Int32.reduceMod, Int32.reduceOfNat, Int32.reduceOfInt, Int32.reduceLT, Int32.reduceLE, Int32.reduceToNatClampNeg, Int32.reduceToInt]
  | succ n ih =>
    intro i hi h1 u
    have p' := ih (i + 1) (by omega) (by omega) u
    rw [zlp]
    have lf : ((60 : Int32) < Int32.ofNat i) = False := (ltN (a := 60) (b := i) (by omega) (by omega)).trans (eq_false (by omega))
    have mb := mt_b b (i := i) (by omega) B2
    have q : (Int64.ofInt ((i : Int) * i * c 8 4 * blF c) < Int64.ofInt (shF c p)) = ((i : Int) * i * c 8 4 * blF c < shF c p) := propext (ylt64 _ _ (by omega) (by omega) (by omega) (by omega))
    unfold leastV
    by_cases t : shF c p ≤ (i : Int) * i * c 8 4 * blF c
    · rw [if_pos (by unfold mtP; simpa using t)]
      have t' : ¬ (i : Int) * i * c 8 4 * blF c < shF c p := by omega
      simp (decide := true) (implicitDefEqProofs := false) only [l_X11_mat_28, lf, d4, q1, q2, zin p 4 hp (by decide), ztn p (by omega), tl32 i (by omega), g4, y64m, q, t', zO, zR, zA, zT, zu1, zu2, zu3, zu4, gI, gL, pI, pL, pZ, aI, aL, sI, sZ, sL, Option.bind_some, Option.map_some, if_true, if_false, ite_true, ite_false, true_and, and_true, false_and, and_false, or_true, true_or, or_false, false_or, and_self, not_true_eq_false, not_false_eq_true, ↓reduceIte, reduceIte, Nat.reduceAdd, Nat.reduceMul, Nat.reduceSub, Nat.reduceMod, Nat.reduceDiv, Nat.reduceEqDiff, Nat.reduceLT, Nat.reduceLeDiff, Int32.reduceAdd, Int32.reduceSub, Int32.reduceMul, Int32.reduceDiv, Int32.reduceMod, Int32.reduceOfNat, Int32.reduceOfInt, Int32.reduceLT, Int32.reduceLE, Int32.reduceToNatClampNeg, Int32.reduceToInt]
      rfl
    · rw [if_neg (by unfold mtP; simpa using t)]
      have t' : (i : Int) * i * c 8 4 * blF c < shF c p := by omega
      simp (decide := true) (implicitDefEqProofs := false) only [l_X11_mat_28, lf, d4, q1, q2, zin p 4 hp (by decide), ztn p (by omega), tl32 i (by omega), g4, y64m, q, t', ofN1 i, zO, zR, zA, zT, zu1, zu2, zu3, zu4, gI, gL, pI, pL, pZ, aI, aL, sI, sZ, sL, Option.bind_some, Option.map_some, if_true, if_false, ite_true, ite_false, true_and, and_true, false_and, and_false, or_true, true_or, or_false, false_or, and_self, not_true_eq_false, not_false_eq_true, ↓reduceIte, reduceIte, Nat.reduceAdd, Nat.reduceMul, Nat.reduceSub, Nat.reduceMod, Nat.reduceDiv, Nat.reduceEqDiff, Nat.reduceLT, Nat.reduceLeDiff, Int32.reduceAdd, Int32.reduceSub, Int32.reduceMul, Int32.reduceDiv, Int32.reduceMod, Int32.reduceOfNat, Int32.reduceOfInt, Int32.reduceLT, Int32.reduceLE, Int32.reduceToNatClampNeg, Int32.reduceToInt]
      exact p'
theorem matM {c : Nat → Nat → Int} {μ : Mem} (h : MM c μ) (b : BC c) (hd : 0 < DD c) (j : MPs (fun p => DD c * shF c p) (DD c * blF c) μ) {p : Nat} (hp : p < 4) : ∀ n i, i + n = 61 → 1 ≤ i → ∀ u, lpN (l_X12_mat_21 SX 81 (Int32.ofNat p)) (u + n + 1) (Int32.ofNat i, μ) = some (Int32.ofInt (leastV (mtP c p) n i), μ) := by
  have d4 := h.2.2.2 4 (by decide)
  obtain ⟨q1, q2⟩ := j
  have q1 := q1 p hp
  have bd := b.2.2.2.2.2
  obtain ⟨-, B1, B2, B3, B4⟩ := F_b b
  have B3 := B3 p hp
  have g4 : (Int32.ofInt (c 8 4)).toInt64 = Int64.ofInt (c 8 4) := yw _ (by omega) (by omega)
  intro n
  induction n with
  | zero =>
    intro i hi h1 u
    have e : i = 61 := by omega
    subst e
    rw [zlp]
    simp (decide := true) (implicitDefEqProofs := false) only [l_X12_mat_21, leastV, zO, zR, zA, zT, zu1, zu2, zu3, zu4, gI, gL, pI, pL, pZ, aI, aL, sI, sZ, sL, Option.bind_some, Option.map_some, if_true, if_false, ite_true, ite_false, true_and, and_true, false_and, and_false, or_true, true_or, or_false, false_or, and_self, not_true_eq_false, not_false_eq_true, ↓reduceIte, reduceIte, Nat.reduceAdd, Nat.reduceMul, Nat.reduceSub, Nat.reduceMod, Nat.reduceDiv, Nat.reduceEqDiff, Nat.reduceLT, Nat.reduceLeDiff, Int32.reduceAdd, Int32.reduceSub, Int32.reduceMul, Int32.reduceDiv, Int32.reduceMod, Int32.reduceOfNat, Int32.reduceOfInt, Int32.reduceLT, Int32.reduceLE, Int32.reduceToNatClampNeg, Int32.reduceToInt]
  | succ n ih =>
    intro i hi h1 u
    have p' := ih (i + 1) (by omega) (by omega) u
    rw [zlp]
    have lf : ((61 : Int32) ≤ Int32.ofNat i) = False := leF (n := 61) (by omega) (by decide)
    have mb := mt_b b (i := i) (by omega) B4
    have ii : (i : Nat) * i ≤ 60 * 60 := Nat.mul_le_mul (by omega) (by omega)
    have sq : (Int32.ofNat i * Int32.ofNat i).toInt64 = Int64.ofInt ((i : Int) * i) := by
      rw [show Int32.ofNat i * Int32.ofNat i = Int32.ofNat (i * i) from (Int32.ofNat_mul i i).symm, tl32 (i * i) (by omega), Int.natCast_mul]
    have q : (Int64.ofInt ((i : Int) * i * c 8 4 * (DD c * blF c)) < Int64.ofInt (DD c * shF c p)) = ((i : Int) * i * c 8 4 * blF c < shF c p) := by
      rw [show ((i : Int) * i * c 8 4 * (DD c * blF c)) = DD c * ((i : Int) * i * c 8 4 * blF c) by rw [← Int.mul_assoc, Int.mul_comm _ (DD c), Int.mul_assoc]] at mb ⊢
      refine propext ((ylt64 _ _ (by omega) (by omega) (by omega) (by omega)).trans ?_)
      exact ⟨fun g => Int.lt_of_mul_lt_mul_left g (Int.le_of_lt hd), fun g => Int.mul_lt_mul_of_pos_left g hd⟩
    unfold leastV
    by_cases t : shF c p ≤ (i : Int) * i * c 8 4 * blF c
    · rw [if_pos (by unfold mtP; simpa using t)]
      have t' : ¬ (i : Int) * i * c 8 4 * blF c < shF c p := by omega
      simp (decide := true) (implicitDefEqProofs := false) only [l_X12_mat_21, lf, d4, q1, q2, zin p 4 hp (by decide), ztn p (by omega), sq, g4, y64m, q, t', zO, zR, zA, zT, zu1, zu2, zu3, zu4, gI, gL, pI, pL, pZ, aI, aL, sI, sZ, sL, Option.bind_some, Option.map_some, if_true, if_false, ite_true, ite_false, true_and, and_true, false_and, and_false, or_true, true_or, or_false, false_or, and_self, not_true_eq_false, not_false_eq_true, ↓reduceIte, reduceIte, Nat.reduceAdd, Nat.reduceMul, Nat.reduceSub, Nat.reduceMod, Nat.reduceDiv, Nat.reduceEqDiff, Nat.reduceLT, Nat.reduceLeDiff, Int32.reduceAdd, Int32.reduceSub, Int32.reduceMul, Int32.reduceDiv, Int32.reduceMod, Int32.reduceOfNat, Int32.reduceOfInt, Int32.reduceLT, Int32.reduceLE, Int32.reduceToNatClampNeg, Int32.reduceToInt]
      rfl
    · rw [if_neg (by unfold mtP; simpa using t)]
      have t' : (i : Int) * i * c 8 4 * blF c < shF c p := by omega
      simp (decide := true) (implicitDefEqProofs := false) only [l_X12_mat_21, lf, d4, q1, q2, zin p 4 hp (by decide), ztn p (by omega), sq, g4, y64m, q, t', ofN1 i, zO, zR, zA, zT, zu1, zu2, zu3, zu4, gI, gL, pI, pL, pZ, aI, aL, sI, sZ, sL, Option.bind_some, Option.map_some, if_true, if_false, ite_true, ite_false, true_and, and_true, false_and, and_false, or_true, true_or, or_false, false_or, and_self, not_true_eq_false, not_false_eq_true, ↓reduceIte, reduceIte, Nat.reduceAdd, Nat.reduceMul, Nat.reduceSub, Nat.reduceMod, Nat.reduceDiv, Nat.reduceEqDiff, Nat.reduceLT, Nat.reduceLeDiff, Int32.reduceAdd, Int32.reduceSub, Int32.reduceMul, Int32.reduceDiv, Int32.reduceMod, Int32.reduceOfNat, Int32.reduceOfInt, Int32.reduceLT, Int32.reduceLE, Int32.reduceToNatClampNeg, Int32.reduceToInt]
      exact p'
theorem ok_mat {μ : Mem} (h : INV μ) (a1 : Int32) : OKop (f_X11_mat SX 0 a1) (f_X12_mat SX 81 a1) μ := by
  obtain ⟨c, b, h1, h2⟩ := h.1
  obtain ⟨μ1, p1, f1, j1⟩ := finds_at ck1 h1 b
  have M1 := h2.sc (sc55 f1)
  obtain ⟨μ2, p2, f2, j2⟩ := pushes_at M1 b
  have hI := h.q ((sc55 f1).tr (scu f2))
  rcases wbN a1 3 (by decide) with t | ⟨t, e, he, rfl⟩
  · simp only [Nat.reduceAdd, Nat.reduceMul, Nat.reduceMod, Int32.reduceOfNat] at t
    refine ⟨-1, μ, μ, ?_, ?_, h⟩
    · simp (decide := true) (implicitDefEqProofs := false) only [f_X11_mat, isPad_at, t, zO, zR, zA, zT, zu1, zu2, zu3, zu4, gI, gL, pI, pL, pZ, aI, aL, sI, sZ, sL, Option.bind_some, Option.map_some, if_true, if_false, ite_true, ite_false, true_and, and_true, false_and, and_false, or_true, true_or, or_false, false_or, and_self, not_true_eq_false, not_false_eq_true, ↓reduceIte, reduceIte, Nat.reduceAdd, Nat.reduceMul, Nat.reduceSub, Nat.reduceMod, Nat.reduceDiv, Nat.reduceEqDiff, Nat.reduceLT, Nat.reduceLeDiff, Int32.reduceAdd, Int32.reduceSub, Int32.reduceMul, Int32.reduceDiv, Int32.reduceMod, Int32.reduceOfNat, Int32.reduceOfInt, Int32.reduceLT, Int32.reduceLE, Int32.reduceToNatClampNeg, Int32.reduceToInt]
    · simp (decide := true) (implicitDefEqProofs := false) only [f_X12_mat, isPad_at, t, zO, zR, zA, zT, zu1, zu2, zu3, zu4, gI, gL, pI, pL, pZ, aI, aL, sI, sZ, sL, Option.bind_some, Option.map_some, if_true, if_false, ite_true, ite_false, true_and, and_true, false_and, and_false, or_true, true_or, or_false, false_or, and_self, not_true_eq_false, not_false_eq_true, ↓reduceIte, reduceIte, Nat.reduceAdd, Nat.reduceMul, Nat.reduceSub, Nat.reduceMod, Nat.reduceDiv, Nat.reduceEqDiff, Nat.reduceLT, Nat.reduceLeDiff, Int32.reduceAdd, Int32.reduceSub, Int32.reduceMul, Int32.reduceDiv, Int32.reduceMod, Int32.reduceOfNat, Int32.reduceOfInt, Int32.reduceLT, Int32.reduceLE, Int32.reduceToNatClampNeg, Int32.reduceToInt]
  · simp only [Nat.reduceAdd, Nat.reduceMul, Nat.reduceMod, Int32.reduceOfNat] at t
    by_cases w : none3 c = 0
    · rw [if_pos w] at p1
      have C1 : CC 1 c μ1 := h1.w _ f1 (fun q g1 g2 => by omega)
      have x := matX C1 b (j1 w) (p := e) (by omega) 60 1 (by omega) (by omega) 4939
      have y := matM (M1.u f2) b (DD_pos w).1 (j2 w).1 (p := e) (by omega) 60 1 (by omega) (by omega) 4939
      refine ⟨Int32.ofInt (leastV (mtP c e) 60 1), μ1, μ2, ?_, ?_, hI⟩
      · simp (decide := true) (implicitDefEqProofs := false) only [f_X11_mat, isPad_at, t, p1, zO, zR, zA, zT, zu1, zu2, zu3, zu4, gI, gL, pI, pL, pZ, aI, aL, sI, sZ, sL, Option.bind_some, Option.map_some, if_true, if_false, ite_true, ite_false, true_and, and_true, false_and, and_false, or_true, true_or, or_false, false_or, and_self, not_true_eq_false, not_false_eq_true, ↓reduceIte, reduceIte, Nat.reduceAdd, Nat.reduceMul, Nat.reduceSub, Nat.reduceMod, Nat.reduceDiv, Nat.reduceEqDiff, Nat.reduceLT, Nat.reduceLeDiff, Int32.reduceAdd, Int32.reduceSub, Int32.reduceMul, Int32.reduceDiv, Int32.reduceMod, Int32.reduceOfNat, Int32.reduceOfInt, Int32.reduceLT, Int32.reduceLE, Int32.reduceToNatClampNeg, Int32.reduceToInt]
        exact x
      · simp (decide := true) (implicitDefEqProofs := false) only [f_X12_mat, isPad_at, t, p2, none3_le, w, zO, zR, zA, zT, zu1, zu2, zu3, zu4, gI, gL, pI, pL, pZ, aI, aL, sI, sZ, sL, Option.bind_some, Option.map_some, if_true, if_false, ite_true, ite_false, true_and, and_true, false_and, and_false, or_true, true_or, or_false, false_or, and_self, not_true_eq_false, not_false_eq_true, ↓reduceIte, reduceIte, Nat.reduceAdd, Nat.reduceMul, Nat.reduceSub, Nat.reduceMod, Nat.reduceDiv, Nat.reduceEqDiff, Nat.reduceLT, Nat.reduceLeDiff, Int32.reduceAdd, Int32.reduceSub, Int32.reduceMul, Int32.reduceDiv, Int32.reduceMod, Int32.reduceOfNat, Int32.reduceOfInt, Int32.reduceLT, Int32.reduceLE, Int32.reduceToNatClampNeg, Int32.reduceToInt]
        exact y
    · rw [if_neg w] at p1
      refine ⟨-3, μ1, μ2, ?_, ?_, hI⟩
      · simp (decide := true) (implicitDefEqProofs := false) only [f_X11_mat, isPad_at, t, p1, zO, zR, zA, zT, zu1, zu2, zu3, zu4, gI, gL, pI, pL, pZ, aI, aL, sI, sZ, sL, Option.bind_some, Option.map_some, if_true, if_false, ite_true, ite_false, true_and, and_true, false_and, and_false, or_true, true_or, or_false, false_or, and_self, not_true_eq_false, not_false_eq_true, ↓reduceIte, reduceIte, Nat.reduceAdd, Nat.reduceMul, Nat.reduceSub, Nat.reduceMod, Nat.reduceDiv, Nat.reduceEqDiff, Nat.reduceLT, Nat.reduceLeDiff, Int32.reduceAdd, Int32.reduceSub, Int32.reduceMul, Int32.reduceDiv, Int32.reduceMod, Int32.reduceOfNat, Int32.reduceOfInt, Int32.reduceLT, Int32.reduceLE, Int32.reduceToNatClampNeg, Int32.reduceToInt]
      · simp (decide := true) (implicitDefEqProofs := false) only [f_X12_mat, isPad_at, t, p2, none3_le, w, zO, zR, zA, zT, zu1, zu2, zu3, zu4, gI, gL, pI, pL, pZ, aI, aL, sI, sZ, sL, Option.bind_some, Option.map_some, if_true, if_false, ite_true, ite_false, true_and, and_true, false_and, and_false, or_true, true_or, or_false, false_or, and_self, not_true_eq_false, not_false_eq_true, ↓reduceIte, reduceIte, Nat.reduceAdd, Nat.reduceMul, Nat.reduceSub, Nat.reduceMod, Nat.reduceDiv, Nat.reduceEqDiff, Nat.reduceLT, Nat.reduceLeDiff, Int32.reduceAdd, Int32.reduceSub, Int32.reduceMul, Int32.reduceDiv, Int32.reduceMod, Int32.reduceOfNat, Int32.reduceOfInt, Int32.reduceLT, Int32.reduceLE, Int32.reduceToNatClampNeg, Int32.reduceToInt]

