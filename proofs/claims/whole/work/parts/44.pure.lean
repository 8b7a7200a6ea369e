def csL : List Int := [65, 60, 52, 39, 25, 0, -25, -39, -52, -60, -65, -60, -52, -39, -25, 0, 25, 39, 52, 60]
def snL : List Int := [0, 25, 39, 52, 60, 65, 60, 52, 39, 25, 0, -25, -39, -52, -60, -65, -60, -52, -39, -25]
def cs (d : Int) : Int := csL.getD d.toNat 0
def sn (d : Int) : Int := snL.getD d.toNat 0
theorem ofIn (z : Int) (h : 0 ≤ z) : Int32.ofInt z = Int32.ofNat z.toNat := by
  obtain ⟨n, rfl⟩ := Int.eq_ofNat_of_zero_le h
  rfl
theorem dirs (P : Int → Prop) (h : ∀ n, n < 20 → P (n : Nat)) (d : Int) (h0 : 0 ≤ d) (h1 : d ≤ 19) : P d := by
  obtain ⟨n, rfl⟩ := Int.eq_ofNat_of_zero_le h0
  exact h n (by omega)
theorem aT3 {d : Int} (h0 : 0 ≤ d) (h1 : d ≤ 19) : aT 3 (Int32.ofInt d) = some (Int32.ofInt (cs d)) := dirs (fun d => aT 3 (Int32.ofInt d) = some (Int32.ofInt (cs d))) (by decide +kernel) d h0 h1
theorem aT4 {d : Int} (h0 : 0 ≤ d) (h1 : d ≤ 19) : aT 4 (Int32.ofInt d) = some (Int32.ofInt (sn d)) := dirs (fun d => aT 4 (Int32.ofInt d) = some (Int32.ofInt (sn d))) (by decide +kernel) d h0 h1
theorem cs_b {d : Int} (h0 : 0 ≤ d) (h1 : d ≤ 19) : (-65 ≤ cs d ∧ cs d ≤ 65) ∧ (-65 ≤ sn d ∧ sn d ≤ 65) := dirs (fun d => (-65 ≤ cs d ∧ cs d ≤ 65) ∧ (-65 ≤ sn d ∧ sn d ≤ 65)) (by decide +kernel) d h0 h1
theorem sm_b {f : Nat → Int} {B : Nat} : ∀ n, (∀ i, i < n → -(B : Int) ≤ f i ∧ f i ≤ B) → -((n * B : Nat) : Int) ≤ sm f n ∧ sm f n ≤ ((n * B : Nat) : Int)
  | 0, _ => by simp [sm]
  | n + 1, h => by
    have h1 := sm_b n (fun i hi => h i (by omega))
    have h2 := h n (by omega)
    show -(((n + 1) * B : Nat) : Int) ≤ sm f n + f n ∧ sm f n + f n ≤ (((n + 1) * B : Nat) : Int)
    rw [Nat.add_mul, Nat.one_mul]
    omega
def hangs (c : Nat → Nat → Int) : Int := c 8 3 + c 8 2
def stA (c : Nat → Nat → Int) : Int := sm (fun i => if c 6 i = 0 then c 3 i * c 4 i else 0) (nP c)
def stB (c : Nat → Nat → Int) : Int := sm (fun i => if c 6 i = 0 then c 3 i * c 5 i else 0) (nP c)
def tuA (c : Nat → Nat → Int) : Int := sm (fun i => if c 6 i = 0 then 0 else c 3 i * c 4 i) (nP c)
def tuB (c : Nat → Nat → Int) : Int := sm (fun i => if c 6 i = 0 then 0 else c 3 i * c 5 i) (nP c)
def WW (c : Nat → Nat → Int) : Int := sm (c 3) (nP c) + hangs c
def MX (c : Nat → Nat → Int) : Int := 65 * stA c + cs (c 8 0) * (tuA c + hangs c * c 8 1) - sn (c 8 0) * tuB c
def MY (c : Nat → Nat → Int) : Int := 65 * stB c + sn (c 8 0) * (tuA c + hangs c * c 8 1) + cs (c 8 0) * tuB c
theorem BC.sums {c : Nat → Nat → Int} (b : BC c) : (0 ≤ hangs c ∧ hangs c ≤ 10998) ∧ (0 ≤ sm (c 3) (nP c) ∧ sm (c 3) (nP c) ≤ 7992) ∧ (-319680 ≤ stA c ∧ stA c ≤ 319680) ∧ (-319680 ≤ stB c ∧ stB c ≤ 319680) ∧ (-319680 ≤ tuA c ∧ tuA c ≤ 319680) ∧ (-319680 ≤ tuB c ∧ tuB c ≤ 319680) := by
  obtain ⟨-, -, b3, b4, -, b6⟩ := b
  have hn : nP c ≤ 8 := by unfold nP; omega
  have pr : ∀ i, i < nP c → (-39960 ≤ c 3 i * c 4 i ∧ c 3 i * c 4 i ≤ 39960) ∧ (-39960 ≤ c 3 i * c 5 i ∧ c 3 i * c 5 i ≤ 39960) := by
    intro i hi
    have b5 := b4 i (by omega)
    have m1 := mulb (a := c 3 i) (b := c 4 i) 999 40 (by omega) (by omega) (by omega) (by omega)
    have m2 := mulb (a := c 3 i) (b := c 5 i) 999 40 (by omega) (by omega) (by omega) (by omega)
    omega
  have mono : ∀ f : Nat → Int, (∀ i, i < nP c → -((39960 : Nat) : Int) ≤ f i ∧ f i ≤ (39960 : Nat)) → -319680 ≤ sm f (nP c) ∧ sm f (nP c) ≤ 319680 := by
    intro f hf
    have := sm_b (nP c) hf
    have : nP c * 39960 ≤ 8 * 39960 := Nat.mul_le_mul_right _ hn
    omega
  have pos : ∀ n, n ≤ nP c → 0 ≤ sm (c 3) n := by
    intro n
    induction n with
    | zero => intro _; exact Int.le_refl 0
    | succ n ih =>
      intro hn'
      have := ih (by omega)
      have := b4 n (by omega)
      show 0 ≤ sm (c 3) n + c 3 n
      omega
  have tot := sm_b (f := c 3) (B := 999) (nP c) (fun i hi => by have := b4 i (by omega); omega)
  have : nP c * 999 ≤ 8 * 999 := Nat.mul_le_mul_right _ hn
  have := pos (nP c) (Nat.le_refl _)
  refine ⟨by unfold hangs; omega, by omega, mono _ ?_, mono _ ?_, mono _ ?_, mono _ ?_⟩ <;>
  · intro i hi
    have := pr i hi
    by_cases e : c 6 i = 0
    · simp only [e, if_true]; omega
    · simp only [e, if_false]; omega
theorem hanging_at {k : Nat} (hk : CK k) {c : Nat → Nat → Int} {μ : Mem} (h : CC k c μ) : f_X2_hanging SX k μ = some (Int32.ofInt (hangs c), μ) := by
  obtain ⟨o1, r1, r2, r3, r4, r5⟩ := gR2 hk
  have h3 := h.2.2.2.2.2 3 (by decide)
  have h2 := h.2.2.2.2.2 2 (by decide)
  simp (decide := true) (implicitDefEqProofs := false) only [f_X2_hanging, o1, r4, r5, h2, h3, y32a, hangs, zO, zR, zA, zT, zu1, zu2, zu3, zu4, gI, gL, pI, pL, pZ, aI, aL, sI, sZ, sL, Option.bind_some, Option.map_some, if_true, if_false, ite_true, ite_false, true_and, and_true, false_and, and_false, or_true, true_or, or_false, false_or, and_self, not_true_eq_false, not_false_eq_true, ↓reduceIte, reduceIte, Nat.reduceAdd, Nat.reduceMul, Nat.reduceSub, Nat.reduceMod, Nat.reduceDiv, Nat.reduceEqDiff, Nat.reduceLT, Nat.reduceLeDiff, Int32.reduceAdd, Int32.reduceSub, Int32.reduceMul, Int32.reduceDiv, Int32.reduceMod, Int32.reduceOfNat, Int32.reduceOfInt, Int32.reduceLT, Int32.reduceLE, Int32.reduceToNatClampNeg, Int32.reduceToInt]
theorem wholeMass_at {k : Nat} (hk : CK k) {c : Nat → Nat → Int} {μ : Mem} (h : CC k c μ) : f_X2_wholeMass SX k μ = some (Int32.ofInt (WW c), μ) := by
  obtain ⟨o1, r1, r2, r3, r4, r5⟩ := gR2 hk
  obtain ⟨o5, -⟩ := gR5 hk
  have q5 := h.2.2.2.1.2.2.2.2.2.1
  simp (decide := true) (implicitDefEqProofs := false) only [f_X2_wholeMass, o1, o5, r2, hanging_at hk h, q5, y32a, WW, zO, zR, zA, zT, zu1, zu2, zu3, zu4, gI, gL, pI, pL, pZ, aI, aL, sI, sZ, sL, Option.bind_some, Option.map_some, if_true, if_false, ite_true, ite_false, true_and, and_true, false_and, and_false, or_true, true_or, or_false, false_or, and_self, not_true_eq_false, not_false_eq_true, ↓reduceIte, reduceIte, Nat.reduceAdd, Nat.reduceMul, Nat.reduceSub, Nat.reduceMod, Nat.reduceDiv, Nat.reduceEqDiff, Nat.reduceLT, Nat.reduceLeDiff, Int32.reduceAdd, Int32.reduceSub, Int32.reduceMul, Int32.reduceDiv, Int32.reduceMod, Int32.reduceOfNat, Int32.reduceOfInt, Int32.reduceLT, Int32.reduceLE, Int32.reduceToNatClampNeg, Int32.reduceToInt]
def gath (c : Nat → Nat → Int) (μ : Mem) : Mem := upL (upL (upL μ 55 0 (Int64.ofInt (65 * WW c))) 55 1 (Int64.ofInt (MX c))) 55 2 (Int64.ofInt (MY c))
theorem gather_at {k : Nat} (hk : CK k) {c : Nat → Nat → Int} {μ : Mem} (h : CC k c μ) (b : BC c) : f_X3_gather SX 55 k μ = some ((), gath c μ) := by
  obtain ⟨o1, r1, r2, r3, r4, r5⟩ := gR2 hk
  obtain ⟨o5, -⟩ := gR5 hk
  obtain ⟨s1, s2, s3, s4, s5, s6⟩ := b.sums
  have bd := b.2.2.2.2.2
  have h0 := h.2.2.2.2.2 0 (by decide)
  have h1 := h.2.2.2.2.2 1 (by decide)
  obtain ⟨q4, q5, q6, q7, q8, q9⟩ := h.2.2.2.1.2.2.2.2
  have q6' : μ.1 (k + 5) 6 = Int32.ofInt (stA c) := q6
  have q7' : μ.1 (k + 5) 7 = Int32.ofInt (stB c) := q7
  have q8' : μ.1 (k + 5) 8 = Int32.ofInt (tuA c) := q8
  have q9' : μ.1 (k + 5) 9 = Int32.ofInt (tuB c) := q9
  have cb := cs_b bd.1.1 bd.1.2
  have w1 : -2147483648 ≤ WW c ∧ WW c < 2147483648 := by unfold WW; omega
  simp (decide := true) (implicitDefEqProofs := false) only [f_X3_gather, o1, o5, r2, r4, r5, h0, h1, aT3 bd.1.1 bd.1.2, aT4 bd.1.1 bd.1.2, hanging_at hk h, wholeMass_at hk h, q6', q7', q8', q9', zO, zR, zA, zT, zu1, zu2, zu3, zu4, gI, gL, pI, pL, pZ, aI, aL, sI, sZ, sL, Option.bind_some, Option.map_some, if_true, if_false, ite_true, ite_false, true_and, and_true, false_and, and_false, or_true, true_or, or_false, false_or, and_self, not_true_eq_false, not_false_eq_true, ↓reduceIte, reduceIte, Nat.reduceAdd, Nat.reduceMul, Nat.reduceSub, Nat.reduceMod, Nat.reduceDiv, Nat.reduceEqDiff, Nat.reduceLT, Nat.reduceLeDiff, Int32.reduceAdd, Int32.reduceSub, Int32.reduceMul, Int32.reduceDiv, Int32.reduceMod, Int32.reduceOfNat, Int32.reduceOfInt, Int32.reduceLT, Int32.reduceLE, Int32.reduceToNatClampNeg, Int32.reduceToInt]
  have e1 : (Int32.ofInt (cs (c 8 0))).toInt64 = Int64.ofInt (cs (c 8 0)) := yw _ (by omega) (by omega)
  have e2 : (Int32.ofInt (sn (c 8 0))).toInt64 = Int64.ofInt (sn (c 8 0)) := yw _ (by omega) (by omega)
  have e3 : (Int32.ofInt (stA c)).toInt64 = Int64.ofInt (stA c) := yw _ (by omega) (by omega)
  have e4 : (Int32.ofInt (stB c)).toInt64 = Int64.ofInt (stB c) := yw _ (by omega) (by omega)
  have e5 : (Int32.ofInt (tuA c)).toInt64 = Int64.ofInt (tuA c) := yw _ (by omega) (by omega)
  have e6 : (Int32.ofInt (tuB c)).toInt64 = Int64.ofInt (tuB c) := yw _ (by omega) (by omega)
  have e7 : (Int32.ofInt (hangs c)).toInt64 = Int64.ofInt (hangs c) := yw _ (by omega) (by omega)
  have e8 : (Int32.ofInt (c 8 1)).toInt64 = Int64.ofInt (c 8 1) := yw _ (by omega) (by omega)
  have e9 : (Int32.ofInt (WW c)).toInt64 = Int64.ofInt (WW c) := yw _ (by omega) (by omega)
  rw [e1, e2, e3, e4, e5, e6, e7, e8, e9, y64_65]
  simp only [y64a, y64s, y64m]
  rfl

