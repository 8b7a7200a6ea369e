def mayV (c : Nat → Nat → Int) (d r : Nat) : Int32 :=
  (fun v0 : Int32 => (fun v1 : Int32 => (fun v2 : Int32 => v2 * Int32.ofInt (c 8 (10 + d / 5)) / 100) (if c 8 7 = 2 then (if 0 < v1 - Int32.ofInt (c 8 6) then v1 - Int32.ofInt (c 8 6) else 0) else v1)) (if c 8 7 = 0 then v0 else v0 * 3 / 4)) (readV (c (9 + (c 8 5).toNat)) r * (100 - 5 * Int32.ofInt (c 8 6)) / 100)
def roomV (c : Nat → Nat → Int) : Int32 := mayV c (c 8 0).toNat (c 8 1).toNat - Int32.ofInt (hangs c)
theorem d5 : ∀ d, d < 20 → inb (10 + Int32.ofNat d / 5) 14 = true ∧ (10 + Int32.ofNat d / 5).toNatClampNeg = 10 + d / 5 := by decide +kernel
theorem mayHang_at {k : Nat} (hk : CK k) {c : Nat → Nat → Int} {μ : Mem} (h : CC k c μ) (b : BC c) {d r : Nat} (hd : d < 20) (hr : r < 61) : f_X2_mayHang SX k (Int32.ofNat d) (Int32.ofNat r) μ = some (mayV c d r, μ) := by
  obtain ⟨o1, r1, r2, r3, r4, r5⟩ := gR2 hk
  obtain ⟨b1, b2, b3, b4, b5, c0, c1, c2, c3, c4, c5, c6, c7, c8⟩ := b
  obtain ⟨-, -, -, -, hc, hD⟩ := h
  have h5 := hD 5 (by decide)
  have h6 := hD 6 (by decide)
  have h7 := hD 7 (by decide)
  have hq := hD (10 + d / 5) (by omega)
  have hn : (c 8 5).toNat < 3 := by omega
  have a1 := aRc hk _ hn
  rw [← ofIn _ c5.1] at a1
  have a2 := at_at hk hn (hc _ hn).1 (b5 _ hn).2 hr
  obtain ⟨i1, i2⟩ := d5 d hd
  have m0 : (Int32.ofInt (c 8 7) = 0) = (c 8 7 = 0) := propext (yeq _ 0 (by omega) (by omega) (by omega) (by omega))
  have m2 : (Int32.ofInt (c 8 7) = 2) = (c 8 7 = 2) := propext (yeq _ 2 (by omega) (by omega) (by omega) (by omega))
  unfold mayV
  by_cases t0 : c 8 7 = 0
  · have t2 : ¬ c 8 7 = 2 := by omega
    simp (decide := true) (implicitDefEqProofs := false) only [f_X2_mayHang, b_X2_mayHang_53, b_X2_mayHang_74, o1, r1, r2, r3, r4, r5, h5, h6, h7, hq, a1, a2, i1, i2, m0, m2, t0, t2, zO, zR, zA, zT, zu1, zu2, zu3, zu4, gI, gL, pI, pL, pZ, aI, aL, sI, sZ, sL, Option.bind_some, Option.map_some, if_true, if_false, ite_true, ite_false, true_and, and_true, false_and, and_false, or_true, true_or, or_false, false_or, and_self, not_true_eq_false, not_false_eq_true, ↓reduceIte, reduceIte, Nat.reduceAdd, Nat.reduceMul, Nat.reduceSub, Nat.reduceMod, Nat.reduceDiv, Nat.reduceEqDiff, Nat.reduceLT, Nat.reduceLeDiff, Int32.reduceAdd, Int32.reduceSub, Int32.reduceMul, Int32.reduceDiv, Int32.reduceMod, Int32.reduceOfNat, Int32.reduceOfInt, Int32.reduceLT, Int32.reduceLE, Int32.reduceToNatClampNeg, Int32.reduceToInt]
  · by_cases t2 : c 8 7 = 2
    · simp (decide := true) (implicitDefEqProofs := false) only [f_X2_mayHang, b_X2_mayHang_53, b_X2_mayHang_74, o1, r1, r2, r3, r4, r5, h5, h6, h7, hq, a1, a2, i1, i2, m0, m2, t0, t2, zO, zR, zA, zT, zu1, zu2, zu3, zu4, gI, gL, pI, pL, pZ, aI, aL, sI, sZ, sL, Option.bind_some, Option.map_some, if_true, if_false, ite_true, ite_false, true_and, and_true, false_and, and_false, or_true, true_or, or_false, false_or, and_self, not_true_eq_false, not_false_eq_true, ↓reduceIte, reduceIte, Nat.reduceAdd, Nat.reduceMul, Nat.reduceSub, Nat.reduceMod, Nat.reduceDiv, Nat.reduceEqDiff, Nat.reduceLT, Nat.reduceLeDiff, Int32.reduceAdd, Int32.reduceSub, Int32.reduceMul, Int32.reduceDiv, Int32.reduceMod, Int32.reduceOfNat, Int32.reduceOfInt, Int32.reduceLT, Int32.reduceLE, Int32.reduceToNatClampNeg, Int32.reduceToInt]
    · simp (decide := true) (implicitDefEqProofs := false) only [f_X2_mayHang, b_X2_mayHang_53, b_X2_mayHang_74, o1, r1, r2, r3, r4, r5, h5, h6, h7, hq, a1, a2, i1, i2, m0, m2, t0, t2, zO, zR, zA, zT, zu1, zu2, zu3, zu4, gI, gL, pI, pL, pZ, aI, aL, sI, sZ, sL, Option.bind_some, Option.map_some, if_true, if_false, ite_true, ite_false, true_and, and_true, false_and, and_false, or_true, true_or, or_false, false_or, and_self, not_true_eq_false, not_false_eq_true, ↓reduceIte, reduceIte, Nat.reduceAdd, Nat.reduceMul, Nat.reduceSub, Nat.reduceMod, Nat.reduceDiv, Nat.reduceEqDiff, Nat.reduceLT, Nat.reduceLeDiff, Int32.reduceAdd, Int32.reduceSub, Int32.reduceMul, Int32.reduceDiv, Int32.reduceMod, Int32.reduceOfNat, Int32.reduceOfInt, Int32.reduceLT, Int32.reduceLE, Int32.reduceToNatClampNeg, Int32.reduceToInt]
theorem room_at {k : Nat} (hk : CK k) {c : Nat → Nat → Int} {μ : Mem} (h : CC k c μ) (b : BC c) : f_X2_room SX k μ = some (roomV c, μ) := by
  obtain ⟨o1, r1, r2, r3, r4, r5⟩ := gR2 hk
  have bd := b.2.2.2.2.2
  have m := mayHang_at hk h b (d := (c 8 0).toNat) (r := (c 8 1).toNat) (by omega) (by omega)
  rw [← ofIn _ bd.1.1, ← ofIn _ bd.2.1.1] at m
  have h0 := h.2.2.2.2.2 0 (by decide)
  have h1 := h.2.2.2.2.2 1 (by decide)
  simp (decide := true) (implicitDefEqProofs := false) only [f_X2_room, o1, r4, r5, h0, h1, m, hanging_at hk h, roomV, zO, zR, zA, zT, zu1, zu2, zu3, zu4, gI, gL, pI, pL, pZ, aI, aL, sI, sZ, sL, Option.bind_some, Option.map_some, if_true, if_false, ite_true, ite_false, true_and, and_true, false_and, and_false, or_true, true_or, or_false, false_or, and_self, not_true_eq_false, not_false_eq_true, ↓reduceIte, reduceIte, Nat.reduceAdd, Nat.reduceMul, Nat.reduceSub, Nat.reduceMod, Nat.reduceDiv, Nat.reduceEqDiff, Nat.reduceLT, Nat.reduceLeDiff, Int32.reduceAdd, Int32.reduceSub, Int32.reduceMul, Int32.reduceDiv, Int32.reduceMod, Int32.reduceOfNat, Int32.reduceOfInt, Int32.reduceLT, Int32.reduceLE, Int32.reduceToNatClampNeg, Int32.reduceToInt]
def sw (c : Nat → Nat → Int) : Int := 65 * WW c
def s4 (c : Nat → Nat → Int) : Nat → Int := sh4 c (sw c) (MX c) (MY c)
def s3 (c : Nat → Nat → Int) (u : Nat) : Nat → Int := sh3 c (sw c) (MX c) (MY c) u
def air (c : Nat → Nat → Int) : Int := low (s4 c)
def shF (c : Nat → Nat → Int) : Nat → Int := if air c = -5 then s4 c else s3 c (air c).toNat
def blF (c : Nat → Nat → Int) : Int := if air c = -5 then 65 * detC c else 65 * tri c (((air c).toNat + 1) % 4) (((air c).toNat + 2) % 4) (((air c).toNat + 3) % 4)
def three (c : Nat → Nat → Int) (u : Nat) : Prop := 0 ≤ s3 c u ((u + 1) % 4) ∧ 0 ≤ s3 c u ((u + 2) % 4) ∧ 0 ≤ s3 c u ((u + 3) % 4)
/-- there are pushes -/
def none3 (c : Nat → Nat → Int) : Int32 := if standB c = 0 then 1 else if WW c = 0 then 2 else if tipN c (sw c) (MX c) (MY c) = 0 then (if air c = -5 then 0 else if 0 ≤ s3 c (air c).toNat (((air c).toNat + 1) % 4) ∧ 0 ≤ s3 c (air c).toNat (((air c).toNat + 2) % 4) ∧ 0 ≤ s3 c (air c).toNat (((air c).toNat + 3) % 4) then 0 else 3) else 2
def whyV (c : Nat → Nat → Int) : Int32 := if none3 c = 0 then (if ovN c (shF c) (blF c) = 0 then (if 0 ≤ roomV c then 0 else 5) else 4) else none3 c
theorem BC.jb {c : Nat → Nat → Int} (b : BC c) : JB (sw c) (MX c) (MY c) := by
  obtain ⟨s1, s2, s3, s4, s5, s6⟩ := b.sums
  have bd := b.2.2.2.2.2
  have cb := cs_b bd.1.1 bd.1.2
  have m0 := mulb (a := hangs c) (b := c 8 1) 10998 60 (by omega) (by omega) (by omega) (by omega)
  have m1 := mulb (a := cs (c 8 0)) (b := tuA c + hangs c * c 8 1) 65 979560 (by omega) (by omega) (by omega) (by omega)
  have m2 := mulb (a := sn (c 8 0)) (b := tuA c + hangs c * c 8 1) 65 979560 (by omega) (by omega) (by omega) (by omega)
  have m3 := mulb (a := sn (c 8 0)) (b := tuB c) 65 319680 (by omega) (by omega) (by omega) (by omega)
  have m4 := mulb (a := cs (c 8 0)) (b := tuB c) 65 319680 (by omega) (by omega) (by omega) (by omega)
  unfold JB sw WW MX MY
  omega
theorem S_b {c : Nat → Nat → Int} (b : Bxy c) : (-120 ≤ S1 c ∧ S1 c ≤ 120) ∧ (-120 ≤ S2 c ∧ S2 c ≤ 120) ∧ (-3600 ≤ S3 c ∧ S3 c ≤ 3600) ∧ (-3600 ≤ S4 c ∧ S4 c ≤ 3600) ∧ (-3600 ≤ S5 c ∧ S5 c ≤ 3600) := by
  have b0 := b 0 (by decide)
  have b1 := b 1 (by decide)
  have b2 := b 2 (by decide)
  have b3 := b 3 (by decide)
  have m : ∀ p, p < 4 → (-900 ≤ c 0 p * c 0 p ∧ c 0 p * c 0 p ≤ 900) ∧ (-900 ≤ c 0 p * c 1 p ∧ c 0 p * c 1 p ≤ 900) ∧ (-900 ≤ c 1 p * c 1 p ∧ c 1 p * c 1 p ≤ 900) := by
    intro p hp
    have bp := b p hp
    have m1 := mulb (a := c 0 p) (b := c 0 p) 30 30 (by omega) (by omega) (by omega) (by omega)
    have m2 := mulb (a := c 0 p) (b := c 1 p) 30 30 (by omega) (by omega) (by omega) (by omega)
    have m3 := mulb (a := c 1 p) (b := c 1 p) 30 30 (by omega) (by omega) (by omega) (by omega)
    omega
  have n0 := m 0 (by decide)
  have n1 := m 1 (by decide)
  have n2 := m 2 (by decide)
  have n3 := m 3 (by decide)
  unfold S1 S2 S3 S4 S5
  omega
theorem pl_b {c : Nat → Nat → Int} (b : Bxy c) {w mx my : Int} (jb : JB w mx my) : (∀ p, p < 4 → -1000000000000000 ≤ sh4 c w mx my p ∧ sh4 c w mx my p ≤ 1000000000000000) ∧ (-400000000 ≤ detC c ∧ detC c ≤ 400000000) := by
  obtain ⟨u1, u2, u3, u4, u5⟩ := S_b b
  obtain ⟨j1, j2, j3⟩ := jb
  have a1 := mulb (a := S3 c) (b := S5 c) 3600 3600 (by omega) (by omega) (by omega) (by omega)
  have a2 := mulb (a := S4 c) (b := S4 c) 3600 3600 (by omega) (by omega) (by omega) (by omega)
  have a3 := mulb (a := S4 c) (b := S2 c) 3600 120 (by omega) (by omega) (by omega) (by omega)
  have a4 := mulb (a := S1 c) (b := S5 c) 120 3600 (by omega) (by omega) (by omega) (by omega)
  have a5 := mulb (a := S1 c) (b := S4 c) 120 3600 (by omega) (by omega) (by omega) (by omega)
  have a6 := mulb (a := S3 c) (b := S2 c) 3600 120 (by omega) (by omega) (by omega) (by omega)
  have a7 := mulb (a := S2 c) (b := S2 c) 120 120 (by omega) (by omega) (by omega) (by omega)
  have a8 := mulb (a := S1 c) (b := S2 c) 120 120 (by omega) (by omega) (by omega) (by omega)
  have a9 := mulb (a := S1 c) (b := S1 c) 120 120 (by omega) (by omega) (by omega) (by omega)
  have e1 := mulb (a := S3 c * S5 c - S4 c * S4 c) (b := w) 25920000 1300000 (by omega) (by omega) (by omega) (by omega)
  have e2 := mulb (a := S4 c * S2 c - S1 c * S5 c) (b := mx) 864000 110000000 (by omega) (by omega) (by omega) (by omega)
  have e3 := mulb (a := S1 c * S4 c - S3 c * S2 c) (b := my) 864000 110000000 (by omega) (by omega) (by omega) (by omega)
  have e4 := mulb (a := S4 c * S2 c - S1 c * S5 c) (b := w) 864000 1300000 (by omega) (by omega) (by omega) (by omega)
  have e5 := mulb (a := 4 * S5 c - S2 c * S2 c) (b := mx) 28800 110000000 (by omega) (by omega) (by omega) (by omega)
  have e6 := mulb (a := S1 c * S2 c - 4 * S4 c) (b := my) 28800 110000000 (by omega) (by omega) (by omega) (by omega)
  have e7 := mulb (a := S1 c * S4 c - S3 c * S2 c) (b := w) 864000 1300000 (by omega) (by omega) (by omega) (by omega)
  have e8 := mulb (a := S1 c * S2 c - 4 * S4 c) (b := mx) 28800 110000000 (by omega) (by omega) (by omega) (by omega)
  have e9 := mulb (a := 4 * S3 c - S1 c * S1 c) (b := my) 28800 110000000 (by omega) (by omega) (by omega) (by omega)
  refine ⟨fun p hp => ?_, ?_⟩
  · have bp := b p hp
    have f1 := mulb (a := plB c w mx my) (b := c 0 p) 10000000000000 30 (by unfold plB; omega) (by unfold plB; omega) (by omega) (by omega)
    have f2 := mulb (a := plC c w mx my) (b := c 1 p) 10000000000000 30 (by unfold plC; omega) (by unfold plC; omega) (by omega) (by omega)
    unfold sh4
    have : -300000000000000 ≤ plA c w mx my ∧ plA c w mx my ≤ 300000000000000 := by unfold plA; omega
    omega
  · have g1 := mulb (a := S1 c) (b := S4 c * S2 c - S1 c * S5 c) 120 864000 (by omega) (by omega) (by omega) (by omega)
    have g2 := mulb (a := S2 c) (b := S1 c * S4 c - S3 c * S2 c) 120 864000 (by omega) (by omega) (by omega) (by omega)
    unfold detC
    omega
theorem low_r (s : Nat → Int) : low s = -5 ∨ (0 ≤ low s ∧ low s ≤ 3) := by
  have : ∀ n, n ≤ 4 → (lowF s n).1 = -5 ∨ (0 ≤ (lowF s n).1 ∧ (lowF s n).1 ≤ 3) := by
    intro n
    induction n with
    | zero => intro _; exact Or.inl rfl
    | succ n ih =>
      intro hn
      unfold lowF
      by_cases e : (lowF s n).2 ≤ s n
      · rw [if_pos e]; exact ih (by omega)
      · rw [if_neg e]; right; show 0 ≤ (n : Int) ∧ (n : Int) ≤ 3; omega
  exact this 4 (Nat.le_refl _)

