theorem gR4 {k : Nat} (hk : CK k) : isO SX 4 (k + 1) = true ∧ gR SX 4 (k + 1) 0 = some (k + 2) ∧ gR SX 4 (k + 1) 1 = some (k + 3) ∧ gR SX 4 (k + 1) 2 = some (k + 4) ∧ isA SX .int (k + 2) = some 4 ∧ isA SX .int (k + 3) = some 4 ∧ isA SX .int (k + 4) = some 4 := by
  rcases hk with rfl | rfl | rfl <;> decide +kernel
theorem next_at {S : SH} {μ : Mem} : ∀ e, e < 4 → f_X11_next S (Int32.ofNat e) μ = some (Int32.ofNat ((e + 1) % 4), μ) := by
  intro e he
  have h : e = 0 ∨ e = 1 ∨ e = 2 ∨ e = 3 := by omega
  rcases h with rfl | rfl | rfl | rfl <;> simp (decide := true) (implicitDefEqProofs := false) only [f_X11_next, zO, zR, zA, zT, zu1, zu2, zu3, zu4, gI, gL, pI, pL, pZ, aI, aL, sI, sZ, sL, Option.bind_some, Option.map_some, if_true, if_false, ite_true, ite_false, true_and, and_true, false_and, and_false, or_true, true_or, or_false, false_or, and_self, not_true_eq_false, not_false_eq_true, ↓reduceIte, reduceIte, Nat.reduceAdd, Nat.reduceMul, Nat.reduceSub, Nat.reduceMod, Nat.reduceDiv, Nat.reduceEqDiff, Nat.reduceLT, Nat.reduceLeDiff, Int32.reduceAdd, Int32.reduceSub, Int32.reduceMul, Int32.reduceDiv, Int32.reduceMod, Int32.reduceOfNat, Int32.reduceOfInt, Int32.reduceLT, Int32.reduceLE, Int32.reduceToNatClampNeg, Int32.reduceToInt]
def abt (c : Nat → Nat → Int) (w mx my : Int) (e f : Nat) : Int := (c 0 f - c 0 e) * (my - c 1 e * w) - (c 1 f - c 1 e) * (mx - c 0 e * w)
/-- the judge holds these sums -/
def JD (w mx my : Int) (μ : Mem) : Prop := μ.2 55 0 = Int64.ofInt w ∧ μ.2 55 1 = Int64.ofInt mx ∧ μ.2 55 2 = Int64.ofInt my
theorem about_at {k : Nat} (hk : CK k) {c : Nat → Nat → Int} {μ : Mem} {w mx my : Int} (h : XY k c μ) (b : Bxy c) (j : JD w mx my μ) {e f : Nat} (he : e < 4) (hf : f < 4) : f_X3_about SX 55 (k + 1) (Int32.ofNat e) (Int32.ofNat f) μ = some (Int64.ofInt (abt c w mx my e f), μ) := by
  obtain ⟨o4, r1, r2, r3, a1, a2, a3⟩ := gR4 hk
  obtain ⟨h0, h1⟩ := h
  obtain ⟨j0, j1, j2⟩ := j
  have b1 := b e he
  have b2 := b f hf
  simp (decide := true) (implicitDefEqProofs := false) only [f_X3_about, r1, r2, a1, a2, zin e 4 he (by decide), zin f 4 hf (by decide), ztn e (by omega), ztn f (by omega), h0 e he, h0 f hf, h1 e he, h1 f hf, j0, j1, j2, zO, zR, zA, zT, zu1, zu2, zu3, zu4, gI, gL, pI, pL, pZ, aI, aL, sI, sZ, sL, Option.bind_some, Option.map_some, if_true, if_false, ite_true, ite_false, true_and, and_true, false_and, and_false, or_true, true_or, or_false, false_or, and_self, not_true_eq_false, not_false_eq_true, ↓reduceIte, reduceIte, Nat.reduceAdd, Nat.reduceMul, Nat.reduceSub, Nat.reduceMod, Nat.reduceDiv, Nat.reduceEqDiff, Nat.reduceLT, Nat.reduceLeDiff, Int32.reduceAdd, Int32.reduceSub, Int32.reduceMul, Int32.reduceDiv, Int32.reduceMod, Int32.reduceOfNat, Int32.reduceOfInt, Int32.reduceLT, Int32.reduceLE, Int32.reduceToNatClampNeg, Int32.reduceToInt]
  simp (implicitDefEqProofs := false) (disch := omega) only [y32s, yw, y64s, y64m, abt]
theorem y0le (a : Int) (h : -9223372036854775808 ≤ a) (g : a < 9223372036854775808) : (0 ≤ Int64.ofInt a) ↔ 0 ≤ a := by
  rw [Int64.le_iff_toInt_le, ytoL a h g]; rfl
theorem yle (a b : Int) (h : -9223372036854775808 ≤ a) (g : a < 9223372036854775808) (h' : -9223372036854775808 ≤ b) (g' : b < 9223372036854775808) : (Int64.ofInt a ≤ Int64.ofInt b) ↔ a ≤ b := by
  rw [Int64.le_iff_toInt_le, ytoL a h g, ytoL b h' g']
def tipN (c : Nat → Nat → Int) (w mx my : Int) : Int32 := if 0 ≤ abt c w mx my 0 1 ∧ 0 ≤ abt c w mx my 1 2 ∧ 0 ≤ abt c w mx my 2 3 ∧ 0 ≤ abt c w mx my 3 0 then 0 else 1
def JB (w mx my : Int) : Prop := (0 ≤ w ∧ w ≤ 1300000) ∧ (-110000000 ≤ mx ∧ mx ≤ 110000000) ∧ (-110000000 ≤ my ∧ my ≤ 110000000)
theorem abt_b {c : Nat → Nat → Int} (b : Bxy c) {w mx my : Int} (jb : JB w mx my) {e f : Nat} (he : e < 4) (hf : f < 4) : -18000000000 ≤ abt c w mx my e f ∧ abt c w mx my e f ≤ 18000000000 := by
  have b1 := b e he
  have b2 := b f hf
  obtain ⟨j1, j2, j3⟩ := jb
  have m1 := mulb (a := c 1 e) (b := w) 30 1300000 (by omega) (by omega) (by omega) (by omega)
  have m2 := mulb (a := c 0 e) (b := w) 30 1300000 (by omega) (by omega) (by omega) (by omega)
  have m3 := mulb (a := c 0 f - c 0 e) (b := my - c 1 e * w) 60 150000000 (by omega) (by omega) (by omega) (by omega)
  have m4 := mulb (a := c 1 f - c 1 e) (b := mx - c 0 e * w) 60 150000000 (by omega) (by omega) (by omega) (by omega)
  unfold abt
  omega
theorem tipsOver_at {k : Nat} (hk : CK k) {c : Nat → Nat → Int} {μ : Mem} {w mx my : Int} (h : XY k c μ) (b : Bxy c) (j : JD w mx my μ) (jb : JB w mx my) : f_X3_tipsOver SX 55 (k + 1) μ = some (tipN c w mx my, μ) := by
  have st : ∀ self, ∀ e, e < 4 → l_X3_tipsOver_2 SX 55 (k + 1) self (Int32.ofNat e, μ) = if 0 ≤ abt c w mx my e ((e + 1) % 4) then self (Int32.ofNat (e + 1), μ) else some (1, μ) := by
    intro self e he
    have hb := abt_b b jb he (Nat.mod_lt (e + 1) (by decide : 4 > 0))
    have hc : (4 ≤ Int32.ofNat e) = False := by
      have h : e = 0 ∨ e = 1 ∨ e = 2 ∨ e = 3 := by omega
      rcases h with rfl | rfl | rfl | rfl <;> decide
    have hn : Int32.ofNat e + 1 = Int32.ofNat (e + 1) := by
      have h : e = 0 ∨ e = 1 ∨ e = 2 ∨ e = 3 := by omega
      rcases h with rfl | rfl | rfl | rfl <;> decide
    simp (decide := true) (implicitDefEqProofs := false) only [l_X3_tipsOver_2, hc, hn, next_at e he, about_at hk h b j he (Nat.mod_lt (e + 1) (by decide : 4 > 0)), y0le _ (show -9223372036854775808 ≤ abt c w mx my e ((e + 1) % 4) by omega) (by omega), zO, zR, zA, zT, zu1, zu2, zu3, zu4, gI, gL, pI, pL, pZ, aI, aL, sI, sZ, sL, Option.bind_some, Option.map_some, if_true, if_false, ite_true, ite_false, true_and, and_true, false_and, and_false, or_true, true_or, or_false, false_or, and_self, not_true_eq_false, not_false_eq_true, ↓reduceIte, reduceIte, Nat.reduceAdd, Nat.reduceMul, Nat.reduceSub, Nat.reduceMod, Nat.reduceDiv, Nat.reduceEqDiff, Nat.reduceLT, Nat.reduceLeDiff, Int32.reduceAdd, Int32.reduceSub, Int32.reduceMul, Int32.reduceDiv, Int32.reduceMod, Int32.reduceOfNat, Int32.reduceOfInt, Int32.reduceLT, Int32.reduceLE, Int32.reduceToNatClampNeg, Int32.reduceToInt]
  have e0 : f_X3_tipsOver SX 55 (k + 1) μ = lpN (l_X3_tipsOver_2 SX 55 (k + 1)) 5000 (Int32.ofNat 0, μ) := by
    unfold f_X3_tipsOver; rw [if_pos (by decide +kernel)]; rfl
  have ex : ∀ self, l_X3_tipsOver_2 SX 55 (k + 1) self (Int32.ofNat 4, μ) = some (0, μ) := fun _ => rfl
  rw [e0, zlp, st _ 0 (by decide), zlp, st _ 1 (by decide), zlp, st _ 2 (by decide), zlp, st _ 3 (by decide), zlp, ex]
  unfold tipN
  simp only [Nat.reduceAdd, Nat.reduceMul, Nat.reduceMod, Int32.reduceOfNat]
  by_cases t0 : 0 ≤ abt c w mx my 0 1 <;> by_cases t1 : 0 ≤ abt c w mx my 1 2 <;> by_cases t2 : 0 ≤ abt c w mx my 2 3 <;> by_cases t3 : 0 ≤ abt c w mx my 3 0 <;> simp [t0, t1, t2, t3]
def plA (c : Nat → Nat → Int) (w mx my : Int) : Int := (S3 c * S5 c - S4 c * S4 c) * w + (S4 c * S2 c - S1 c * S5 c) * mx + (S1 c * S4 c - S3 c * S2 c) * my
def plB (c : Nat → Nat → Int) (w mx my : Int) : Int := (S4 c * S2 c - S1 c * S5 c) * w + (4 * S5 c - S2 c * S2 c) * mx + (S1 c * S2 c - 4 * S4 c) * my
def plC (c : Nat → Nat → Int) (w mx my : Int) : Int := (S1 c * S4 c - S3 c * S2 c) * w + (S1 c * S2 c - 4 * S4 c) * mx + (4 * S3 c - S1 c * S1 c) * my
def sh4 (c : Nat → Nat → Int) (w mx my : Int) (p : Nat) : Int := plA c w mx my + plB c w mx my * c 0 p + plC c w mx my * c 1 p
def shM (μ : Mem) (s : Nat → Int) (bl : Int) : Mem := upL (upL (upL (upL (upL μ 56 0 (Int64.ofInt (s 0))) 56 1 (Int64.ofInt (s 1))) 56 2 (Int64.ofInt (s 2))) 56 3 (Int64.ofInt (s 3))) 55 4 (Int64.ofInt bl)
theorem shareByPlane_at {k : Nat} (hk : CK k) {c : Nat → Nat → Int} {μ : Mem} {w mx my : Int} (h : XY k c μ) (p : PD k c μ) (b : Bxy c) (j : JD w mx my μ) : f_X3_shareByPlane SX 55 (k + 1) μ = some ((), shM μ (sh4 c w mx my) (65 * detC c)) := by
  obtain ⟨o4, r1, r2, r3, a1, a2, a3⟩ := gR4 hk
  obtain ⟨h0, h1⟩ := h
  obtain ⟨j0, j1, j2⟩ := j
  obtain ⟨p3, p4, p5, p6, p7, p8, p9, p10⟩ := p
  have b0 := b 0 (by decide)
  have b1 := b 1 (by decide)
  have b2 := b 2 (by decide)
  have b3 := b 3 (by decide)
  have kn : (k + 1 = 55) = False := by rcases hk with rfl | rfl | rfl <;> simp
  have e0 : f_X3_shareByPlane SX 55 (k + 1) μ = lpN (l_X3_shareByPlane_95 SX 55 (k + 1) (Int64.ofInt (plA c w mx my)) (Int64.ofInt (plB c w mx my)) (Int64.ofInt (plC c w mx my))) 5000 (0, μ) := by
    simp (decide := true) (implicitDefEqProofs := false) only [f_X3_shareByPlane, o4, p4, p5, p6, p7, p8, p9, j0, j1, j2, zO, zR, zA, zT, zu1, zu2, zu3, zu4, gI, gL, pI, pL, pZ, aI, aL, sI, sZ, sL, Option.bind_some, Option.map_some, if_true, if_false, ite_true, ite_false, true_and, and_true, false_and, and_false, or_true, true_or, or_false, false_or, and_self, not_true_eq_false, not_false_eq_true, ↓reduceIte, reduceIte, Nat.reduceAdd, Nat.reduceMul, Nat.reduceSub, Nat.reduceMod, Nat.reduceDiv, Nat.reduceEqDiff, Nat.reduceLT, Nat.reduceLeDiff, Int32.reduceAdd, Int32.reduceSub, Int32.reduceMul, Int32.reduceDiv, Int32.reduceMod, Int32.reduceOfNat, Int32.reduceOfInt, Int32.reduceLT, Int32.reduceLE, Int32.reduceToNatClampNeg, Int32.reduceToInt]
    simp only [y64a, y64m]
    rfl
  have kn2 : (k + 1 = 56) = False := by rcases hk with rfl | rfl | rfl <;> simp
  rw [e0, zlp]
  simp (decide := true) (implicitDefEqProofs := false) only [l_X3_shareByPlane_95, r1, r2, a1, a2, h0, h1, zO, zR, zA, zT, zu1, zu2, zu3, zu4, gI, gL, pI, pL, pZ, aI, aL, sI, sZ, sL, Option.bind_some, Option.map_some, if_true, if_false, ite_true, ite_false, true_and, and_true, false_and, and_false, or_true, true_or, or_false, false_or, and_self, not_true_eq_false, not_false_eq_true, ↓reduceIte, reduceIte, Nat.reduceAdd, Nat.reduceMul, Nat.reduceSub, Nat.reduceMod, Nat.reduceDiv, Nat.reduceEqDiff, Nat.reduceLT, Nat.reduceLeDiff, Int32.reduceAdd, Int32.reduceSub, Int32.reduceMul, Int32.reduceDiv, Int32.reduceMod, Int32.reduceOfNat, Int32.reduceOfInt, Int32.reduceLT, Int32.reduceLE, Int32.reduceToNatClampNeg, Int32.reduceToInt]
  rw [zlp]
  simp (decide := true) (implicitDefEqProofs := false) only [l_X3_shareByPlane_95, r1, r2, a1, a2, h0, h1, zO, zR, zA, zT, zu1, zu2, zu3, zu4, gI, gL, pI, pL, pZ, aI, aL, sI, sZ, sL, Option.bind_some, Option.map_some, if_true, if_false, ite_true, ite_false, true_and, and_true, false_and, and_false, or_true, true_or, or_false, false_or, and_self, not_true_eq_false, not_false_eq_true, ↓reduceIte, reduceIte, Nat.reduceAdd, Nat.reduceMul, Nat.reduceSub, Nat.reduceMod, Nat.reduceDiv, Nat.reduceEqDiff, Nat.reduceLT, Nat.reduceLeDiff, Int32.reduceAdd, Int32.reduceSub, Int32.reduceMul, Int32.reduceDiv, Int32.reduceMod, Int32.reduceOfNat, Int32.reduceOfInt, Int32.reduceLT, Int32.reduceLE, Int32.reduceToNatClampNeg, Int32.reduceToInt]
  rw [zlp]
  simp (decide := true) (implicitDefEqProofs := false) only [l_X3_shareByPlane_95, r1, r2, a1, a2, h0, h1, zO, zR, zA, zT, zu1, zu2, zu3, zu4, gI, gL, pI, pL, pZ, aI, aL, sI, sZ, sL, Option.bind_some, Option.map_some, if_true, if_false, ite_true, ite_false, true_and, and_true, false_and, and_false, or_true, true_or, or_false, false_or, and_self, not_true_eq_false, not_false_eq_true, ↓reduceIte, reduceIte, Nat.reduceAdd, Nat.reduceMul, Nat.reduceSub, Nat.reduceMod, Nat.reduceDiv, Nat.reduceEqDiff, Nat.reduceLT, Nat.reduceLeDiff, Int32.reduceAdd, Int32.reduceSub, Int32.reduceMul, Int32.reduceDiv, Int32.reduceMod, Int32.reduceOfNat, Int32.reduceOfInt, Int32.reduceLT, Int32.reduceLE, Int32.reduceToNatClampNeg, Int32.reduceToInt]
  rw [zlp]
  simp (decide := true) (implicitDefEqProofs := false) only [l_X3_shareByPlane_95, r1, r2, a1, a2, h0, h1, zO, zR, zA, zT, zu1, zu2, zu3, zu4, gI, gL, pI, pL, pZ, aI, aL, sI, sZ, sL, Option.bind_some, Option.map_some, if_true, if_false, ite_true, ite_false, true_and, and_true, false_and, and_false, or_true, true_or, or_false, false_or, and_self, not_true_eq_false, not_false_eq_true, ↓reduceIte, reduceIte, Nat.reduceAdd, Nat.reduceMul, Nat.reduceSub, Nat.reduceMod, Nat.reduceDiv, Nat.reduceEqDiff, Nat.reduceLT, Nat.reduceLeDiff, Int32.reduceAdd, Int32.reduceSub, Int32.reduceMul, Int32.reduceDiv, Int32.reduceMod, Int32.reduceOfNat, Int32.reduceOfInt, Int32.reduceLT, Int32.reduceLE, Int32.reduceToNatClampNeg, Int32.reduceToInt]
  rw [zlp]
  simp (decide := true) (implicitDefEqProofs := false) only [l_X3_shareByPlane_95, o4, p10, kn, kn2, zO, zR, zA, zT, zu1, zu2, zu3, zu4, gI, gL, pI, pL, pZ, aI, aL, sI, sZ, sL, Option.bind_some, Option.map_some, if_true, if_false, ite_true, ite_false, true_and, and_true, false_and, and_false, or_true, true_or, or_false, false_or, and_self, not_true_eq_false, not_false_eq_true, ↓reduceIte, reduceIte, Nat.reduceAdd, Nat.reduceMul, Nat.reduceSub, Nat.reduceMod, Nat.reduceDiv, Nat.reduceEqDiff, Nat.reduceLT, Nat.reduceLeDiff, Int32.reduceAdd, Int32.reduceSub, Int32.reduceMul, Int32.reduceDiv, Int32.reduceMod, Int32.reduceOfNat, Int32.reduceOfInt, Int32.reduceLT, Int32.reduceLE, Int32.reduceToNatClampNeg, Int32.reduceToInt]
  simp (implicitDefEqProofs := false) (disch := omega) only [yw, y64_65, y64a, y64m]
  rfl
def lowF (s : Nat → Int) : Nat → Int × Int
  | 0 => (-5, 0)
  | n + 1 => if (lowF s n).2 ≤ s n then lowF s n else ((n : Int), s n)
def low (s : Nat → Int) : Int := (lowF s 4).1
theorem lowF_b {s : Nat → Int} {B : Int} (hB : 0 ≤ B) : ∀ n, (∀ i, i < n → -B ≤ s i ∧ s i ≤ B) → -B ≤ (lowF s n).2 ∧ (lowF s n).2 ≤ B
  | 0, _ => by simp [lowF]; omega
  | n + 1, h => by
    have := lowF_b hB n (fun i hi => h i (by omega))
    have := h n (by omega)
    unfold lowF
    by_cases e : (lowF s n).2 ≤ s n
    · rw [if_pos e]; assumption
    · rw [if_neg e]; assumption
theorem lowest_at {μ : Mem} {s : Nat → Int} (h : ∀ i, i < 4 → μ.2 56 i = Int64.ofInt (s i)) (hb : ∀ i, i < 4 → -9000000000000000000 ≤ s i ∧ s i ≤ 9000000000000000000) : f_X3_lowestBelowNothing SX 55 μ = some (Int32.ofInt (low s), μ) := by
  have st : ∀ self, ∀ e, e < 4 → l_X3_lowestBelowNothing_8 SX 55 self (Int32.ofInt (lowF s e).1, Int64.ofInt (lowF s e).2, Int32.ofNat e, μ) = self (Int32.ofInt (lowF s (e + 1)).1, Int64.ofInt (lowF s (e + 1)).2, Int32.ofNat (e + 1), μ) := by
    intro self e he
    have h1 := lowF_b (s := s) (B := 9000000000000000000) (by decide) e (fun i hi => hb i (by omega))
    have h2 := hb e he
    have h3 := yle (lowF s e).2 (s e) (by omega) (by omega) (by omega) (by omega)
    have hc : (4 ≤ Int32.ofNat e) = False := by
      have h : e = 0 ∨ e = 1 ∨ e = 2 ∨ e = 3 := by omega
      rcases h with rfl | rfl | rfl | rfl <;> decide
    have hn : Int32.ofNat e + 1 = Int32.ofNat (e + 1) := by
      have h : e = 0 ∨ e = 1 ∨ e = 2 ∨ e = 3 := by omega
      rcases h with rfl | rfl | rfl | rfl <;> decide
    have hi : Int32.ofNat e = Int32.ofInt (e : Int) := rfl
    by_cases q : (lowF s e).2 ≤ s e
    · have e1 : lowF s (e + 1) = lowF s e := by show (if _ then _ else _) = _; rw [if_pos q]
      rw [e1]
      simp (decide := true) (implicitDefEqProofs := false) only [l_X3_lowestBelowNothing_8, hc, hn, zin e 4 he (by decide), ztn e (by omega), h e he, h3, q, zO, zR, zA, zT, zu1, zu2, zu3, zu4, gI, gL, pI, pL, pZ, aI, aL, sI, sZ, sL, Option.bind_some, Option.map_some, if_true, if_false, ite_true, ite_false, true_and, and_true, false_and, and_false, or_true, true_or, or_false, false_or, and_self, not_true_eq_false, not_false_eq_true, ↓reduceIte, reduceIte, Nat.reduceAdd, Nat.reduceMul, Nat.reduceSub, Nat.reduceMod, Nat.reduceDiv, Nat.reduceEqDiff, Nat.reduceLT, Nat.reduceLeDiff, Int32.reduceAdd, Int32.reduceSub, Int32.reduceMul, Int32.reduceDiv, Int32.reduceMod, Int32.reduceOfNat, Int32.reduceOfInt, Int32.reduceLT, Int32.reduceLE, Int32.reduceToNatClampNeg, Int32.reduceToInt]
    · have e1 : lowF s (e + 1) = ((e : Int), s e) := by show (if _ then _ else _) = _; rw [if_neg q]
      rw [e1]
      simp (decide := true) (implicitDefEqProofs := false) only [l_X3_lowestBelowNothing_8, hc, hn, zin e 4 he (by decide), ztn e (by omega), h e he, h3, q, zO, zR, zA, zT, zu1, zu2, zu3, zu4, gI, gL, pI, pL, pZ, aI, aL, sI, sZ, sL, Option.bind_some, Option.map_some, if_true, if_false, ite_true, ite_false, true_and, and_true, false_and, and_false, or_true, true_or, or_false, false_or, and_self, not_true_eq_false, not_false_eq_true, ↓reduceIte, reduceIte, Nat.reduceAdd, Nat.reduceMul, Nat.reduceSub, Nat.reduceMod, Nat.reduceDiv, Nat.reduceEqDiff, Nat.reduceLT, Nat.reduceLeDiff, Int32.reduceAdd, Int32.reduceSub, Int32.reduceMul, Int32.reduceDiv, Int32.reduceMod, Int32.reduceOfNat, Int32.reduceOfInt, Int32.reduceLT, Int32.reduceLE, Int32.reduceToNatClampNeg, Int32.reduceToInt]
      rfl
  have e0 : f_X3_lowestBelowNothing SX 55 μ = lpN (l_X3_lowestBelowNothing_8 SX 55) 5000 (Int32.ofInt (lowF s 0).1, Int64.ofInt (lowF s 0).2, Int32.ofNat 0, μ) := by
    unfold f_X3_lowestBelowNothing; rw [if_pos (by decide +kernel)]; rfl
  have ex : ∀ self a b, l_X3_lowestBelowNothing_8 SX 55 self (a, b, Int32.ofNat 4, μ) = some (a, μ) := fun _ _ _ => rfl
  rw [e0, zlp, st _ 0 (by decide), zlp, st _ 1 (by decide), zlp, st _ 2 (by decide), zlp, st _ 3 (by decide), zlp, ex]
  rfl
def sh3 (c : Nat → Nat → Int) (w mx my : Int) (u p : Nat) : Int := if p = u then 0 else if p = (u + 1) % 4 then abt c w mx my ((u + 2) % 4) ((u + 3) % 4) else if p = (u + 2) % 4 then abt c w mx my ((u + 3) % 4) ((u + 1) % 4) else abt c w mx my ((u + 1) % 4) ((u + 2) % 4)
/-- the judge's answer lies there -/
def JS (s : Nat → Int) (bl : Int) (μ ν : Mem) : Prop := Fr (fun q => q = 55 ∨ q = 56) μ ν ∧ ν.1 = μ.1 ∧ (∀ p, p < 4 → ν.2 56 p = Int64.ofInt (s p)) ∧ ν.2 55 4 = Int64.ofInt bl ∧ ∀ j, j ≠ 4 → ν.2 55 j = μ.2 55 j
theorem shM_JS (μ : Mem) (s : Nat → Int) (bl : Int) : JS s bl μ (shM μ s bl) := by
  refine ⟨?_, rfl, ?_, ?_, ?_⟩
  · intro q hq
    have hq' : ¬ (q = 55 ∨ q = 56) := hq
    refine ⟨rfl, ?_⟩
    funext i
    simp only [shM, zu4]
    repeat rw [if_neg (by omega)]
  · intro p hp
    have h : p = 0 ∨ p = 1 ∨ p = 2 ∨ p = 3 := by omega
    rcases h with rfl | rfl | rfl | rfl <;> simp (decide := true) (implicitDefEqProofs := false) only [shM, zO, zR, zA, zT, zu1, zu2, zu3, zu4, gI, gL, pI, pL, pZ, aI, aL, sI, sZ, sL, Option.bind_some, Option.map_some, if_true, if_false, ite_true, ite_false, true_and, and_true, false_and, and_false, or_true, true_or, or_false, false_or, and_self, not_true_eq_false, not_false_eq_true, ↓reduceIte, reduceIte, Nat.reduceAdd, Nat.reduceMul, Nat.reduceSub, Nat.reduceMod, Nat.reduceDiv, Nat.reduceEqDiff, Nat.reduceLT, Nat.reduceLeDiff, Int32.reduceAdd, Int32.reduceSub, Int32.reduceMul, Int32.reduceDiv, Int32.reduceMod, Int32.reduceOfNat, Int32.reduceOfInt, Int32.reduceLT, Int32.reduceLE, Int32.reduceToNatClampNeg, Int32.reduceToInt]
  · simp (decide := true) (implicitDefEqProofs := false) only [shM, zO, zR, zA, zT, zu1, zu2, zu3, zu4, gI, gL, pI, pL, pZ, aI, aL, sI, sZ, sL, Option.bind_some, Option.map_some, if_true, if_false, ite_true, ite_false, true_and, and_true, false_and, and_false, or_true, true_or, or_false, false_or, and_self, not_true_eq_false, not_false_eq_true, ↓reduceIte, reduceIte, Nat.reduceAdd, Nat.reduceMul, Nat.reduceSub, Nat.reduceMod, Nat.reduceDiv, Nat.reduceEqDiff, Nat.reduceLT, Nat.reduceLeDiff, Int32.reduceAdd, Int32.reduceSub, Int32.reduceMul, Int32.reduceDiv, Int32.reduceMod, Int32.reduceOfNat, Int32.reduceOfInt, Int32.reduceLT, Int32.reduceLE, Int32.reduceToNatClampNeg, Int32.reduceToInt]
  · intro j hj
    simp (decide := true) (implicitDefEqProofs := false) only [shM, hj, zO, zR, zA, zT, zu1, zu2, zu3, zu4, gI, gL, pI, pL, pZ, aI, aL, sI, sZ, sL, Option.bind_some, Option.map_some, if_true, if_false, ite_true, ite_false, true_and, and_true, false_and, and_false, or_true, true_or, or_false, false_or, and_self, not_true_eq_false, not_false_eq_true, ↓reduceIte, reduceIte, Nat.reduceAdd, Nat.reduceMul, Nat.reduceSub, Nat.reduceMod, Nat.reduceDiv, Nat.reduceEqDiff, Nat.reduceLT, Nat.reduceLeDiff, Int32.reduceAdd, Int32.reduceSub, Int32.reduceMul, Int32.reduceDiv, Int32.reduceMod, Int32.reduceOfNat, Int32.reduceOfInt, Int32.reduceLT, Int32.reduceLE, Int32.reduceToNatClampNeg, Int32.reduceToInt]
theorem XY.w {k : Nat} (hk : CK k) {c : Nat → Nat → Int} {μ ν : Mem} (h : XY k c μ) (e : ν.1 = μ.1) : XY k c ν := by
  unfold XY at *; rw [e]; exact h
theorem JD.w {w mx my : Int} {μ ν : Mem} (h : JD w mx my μ) (e : ∀ j, j ≠ 4 → ν.2 55 j = μ.2 55 j) : JD w mx my ν := by
  unfold JD at *; rw [e 0 (by decide), e 1 (by decide), e 2 (by decide)]; exact h
theorem ylt0' (a : Int) (h : -9223372036854775808 ≤ a) (g : a < 9223372036854775808) : (Int64.ofInt a < 0) = (a < 0) := propext (ylt0 a h g)
theorem shareByThree_at {k : Nat} (hk : CK k) {c : Nat → Nat → Int} {μ : Mem} {w mx my : Int} (h : XY k c μ) (b : Bxy c) (j : JD w mx my μ) (jb : JB w mx my) {u : Nat} (hu : u < 4) : ∃ ν, f_X3_shareByThree SX 55 (k + 1) (Int32.ofNat u) μ = some (if 0 ≤ sh3 c w mx my u ((u + 1) % 4) ∧ 0 ≤ sh3 c w mx my u ((u + 2) % 4) ∧ 0 ≤ sh3 c w mx my u ((u + 3) % 4) then 1 else 0, ν) ∧ JS (sh3 c w mx my u) (65 * tri c ((u + 1) % 4) ((u + 2) % 4) ((u + 3) % 4)) μ ν := by
  have m1 := Nat.mod_lt (u + 1) (by decide : 4 > 0)
  have m2 := Nat.mod_lt (u + 2) (by decide : 4 > 0)
  have m3 := Nat.mod_lt (u + 3) (by decide : 4 > 0)
  have d1 := abt_b b jb m2 m3
  have d2 := abt_b b jb m3 m1
  have d3 := abt_b b jb m1 m2
  have q1 := ylt0' (abt c w mx my ((u + 2) % 4) ((u + 3) % 4)) (by omega) (by omega)
  have q2 := ylt0' (abt c w mx my ((u + 3) % 4) ((u + 1) % 4)) (by omega) (by omega)
  have q3 := ylt0' (abt c w mx my ((u + 1) % 4) ((u + 2) % 4)) (by omega) (by omega)
  have ab : ∀ ν : Mem, ν.1 = μ.1 → (∀ j, ν.2 55 j = μ.2 55 j) → ∀ e f, e < 4 → f < 4 → f_X3_about SX 55 (k + 1) (Int32.ofNat e) (Int32.ofNat f) ν = some (Int64.ofInt (abt c w mx my e f), ν) := fun ν e1 e2 e f he hf => about_at hk (h.w hk e1) b (j.w (fun i _ => e2 i)) he hf
  have sp : ∀ ν : Mem, ν.1 = μ.1 → ∀ i, i < 4 → f_X4_span SX (k + 1) (Int32.ofNat i) ν = some (Int64.ofInt (tri c i ((i + 1) % 4) ((i + 2) % 4)), ν) := fun ν e1 i hi => span_at hk (h.w hk e1) b i hi
  obtain ⟨ν1, E1⟩ : ∃ m : Mem, m = upL μ 56 u 0 := ⟨_, rfl⟩
  obtain ⟨ν2, E2⟩ : ∃ m : Mem, m = upL ν1 56 ((u + 1) % 4) (Int64.ofInt (abt c w mx my ((u + 2) % 4) ((u + 3) % 4))) := ⟨_, rfl⟩
  obtain ⟨ν3, E3⟩ : ∃ m : Mem, m = upL ν2 56 ((u + 2) % 4) (Int64.ofInt (abt c w mx my ((u + 3) % 4) ((u + 1) % 4))) := ⟨_, rfl⟩
  obtain ⟨ν4, E4⟩ : ∃ m : Mem, m = upL ν3 56 ((u + 3) % 4) (Int64.ofInt (abt c w mx my ((u + 1) % 4) ((u + 2) % 4))) := ⟨_, rfl⟩
  obtain ⟨ν5, E5⟩ : ∃ m : Mem, m = upL ν4 55 4 (Int64.ofInt (65 * tri c ((u + 1) % 4) ((u + 2) % 4) ((u + 3) % 4))) := ⟨_, rfl⟩
  have g1 : ν1.1 = μ.1 ∧ ∀ j, ν1.2 55 j = μ.2 55 j := by rw [E1]; exact ⟨rfl, fun j => by simp (decide := true) (implicitDefEqProofs := false) only [zO, zR, zA, zT, zu1, zu2, zu3, zu4, gI, gL, pI, pL, pZ, aI, aL, sI, sZ, sL, Option.bind_some, Option.map_some, if_true, if_false, ite_true, ite_false, true_and, and_true, false_and, and_false, or_true, true_or, or_false, false_or, and_self, not_true_eq_false, not_false_eq_true, ↓reduceIte, reduceIte, Nat.reduceAdd, Nat.reduceMul, Nat.reduceSub, Nat.reduceMod, Nat.reduceDiv, Nat.reduceEqDiff, Nat.reduceLT, Nat.reduceLeDiff, Int32.reduceAdd, Int32.reduceSub, Int32.reduceMul, Int32.reduceDiv, Int32.reduceMod, Int32.reduceOfNat, Int32.reduceOfInt, Int32.reduceLT, Int32.reduceLE, Int32.reduceToNatClampNeg, Int32.reduceToInt]⟩
  have g2 : ν2.1 = μ.1 ∧ ∀ j, ν2.2 55 j = μ.2 55 j := by rw [E2]; exact ⟨g1.1, fun j => by simp (decide := true) (implicitDefEqProofs := false) only [g1.2, zO, zR, zA, zT, zu1, zu2, zu3, zu4, gI, gL, pI, pL, pZ, aI, aL, sI, sZ, sL, Option.bind_some, Option.map_some, if_true, if_false, ite_true, ite_false, true_and, and_true, false_and, and_false, or_true, true_or, or_false, false_or, and_self, not_true_eq_false, not_false_eq_true, ↓reduceIte, reduceIte, Nat.reduceAdd, Nat.reduceMul, Nat.reduceSub, Nat.reduceMod, Nat.reduceDiv, Nat.reduceEqDiff, Nat.reduceLT, Nat.reduceLeDiff, Int32.reduceAdd, Int32.reduceSub, Int32.reduceMul, Int32.reduceDiv, Int32.reduceMod, Int32.reduceOfNat, Int32.reduceOfInt, Int32.reduceLT, Int32.reduceLE, Int32.reduceToNatClampNeg, Int32.reduceToInt]⟩
  have g3 : ν3.1 = μ.1 ∧ ∀ j, ν3.2 55 j = μ.2 55 j := by rw [E3]; exact ⟨g2.1, fun j => by simp (decide := true) (implicitDefEqProofs := false) only [g2.2, zO, zR, zA, zT, zu1, zu2, zu3, zu4, gI, gL, pI, pL, pZ, aI, aL, sI, sZ, sL, Option.bind_some, Option.map_some, if_true, if_false, ite_true, ite_false, true_and, and_true, false_and, and_false, or_true, true_or, or_false, false_or, and_self, not_true_eq_false, not_false_eq_true, ↓reduceIte, reduceIte, Nat.reduceAdd, Nat.reduceMul, Nat.reduceSub, Nat.reduceMod, Nat.reduceDiv, Nat.reduceEqDiff, Nat.reduceLT, Nat.reduceLeDiff, Int32.reduceAdd, Int32.reduceSub, Int32.reduceMul, Int32.reduceDiv, Int32.reduceMod, Int32.reduceOfNat, Int32.reduceOfInt, Int32.reduceLT, Int32.reduceLE, Int32.reduceToNatClampNeg, Int32.reduceToInt]⟩
  have g4 : ν4.1 = μ.1 ∧ ∀ j, ν4.2 55 j = μ.2 55 j := by rw [E4]; exact ⟨g3.1, fun j => by simp (decide := true) (implicitDefEqProofs := false) only [g3.2, zO, zR, zA, zT, zu1, zu2, zu3, zu4, gI, gL, pI, pL, pZ, aI, aL, sI, sZ, sL, Option.bind_some, Option.map_some, if_true, if_false, ite_true, ite_false, true_and, and_true, false_and, and_false, or_true, true_or, or_false, false_or, and_self, not_true_eq_false, not_false_eq_true, ↓reduceIte, reduceIte, Nat.reduceAdd, Nat.reduceMul, Nat.reduceSub, Nat.reduceMod, Nat.reduceDiv, Nat.reduceEqDiff, Nat.reduceLT, Nat.reduceLeDiff, Int32.reduceAdd, Int32.reduceSub, Int32.reduceMul, Int32.reduceDiv, Int32.reduceMod, Int32.reduceOfNat, Int32.reduceOfInt, Int32.reduceLT, Int32.reduceLE, Int32.reduceToNatClampNeg, Int32.reduceToInt]⟩
  have a1 := ab ν1 g1.1 g1.2 _ _ m2 m3
  have a2 := ab ν2 g2.1 g2.2 _ _ m3 m1
  have a3 := ab ν3 g3.1 g3.2 _ _ m1 m2
  have s1 := sp ν4 g4.1 _ m1
  have e : u = 0 ∨ u = 1 ∨ u = 2 ∨ u = 3 := by omega
  refine ⟨ν5, ?_, ?_, ?_, ?_, ?_, ?_⟩
  · have z1 : (0 ≤ abt c w mx my ((u + 2) % 4) ((u + 3) % 4)) = ¬ (abt c w mx my ((u + 2) % 4) ((u + 3) % 4) < 0) := by simp
    have z2 : (0 ≤ abt c w mx my ((u + 3) % 4) ((u + 1) % 4)) = ¬ (abt c w mx my ((u + 3) % 4) ((u + 1) % 4) < 0) := by simp
    have z3 : (0 ≤ abt c w mx my ((u + 1) % 4) ((u + 2) % 4)) = ¬ (abt c w mx my ((u + 1) % 4) ((u + 2) % 4) < 0) := by simp
    by_cases t1 : abt c w mx my ((u + 2) % 4) ((u + 3) % 4) < 0 <;> by_cases t2 : abt c w mx my ((u + 3) % 4) ((u + 1) % 4) < 0 <;> by_cases t3 : abt c w mx my ((u + 1) % 4) ((u + 2) % 4) < 0 <;>
    rcases e with rfl | rfl | rfl | rfl <;> simp only [Nat.reduceAdd, Nat.reduceMul, Nat.reduceMod, Int32.reduceOfNat] at a1 a2 a3 s1 E1 E2 E3 E4 E5 q1 q2 q3 z1 z2 z3 t1 t2 t3 ⊢ <;>
    simp (decide := true) (implicitDefEqProofs := false) only [f_X3_shareByThree, f_X11_next, ← E1, a1, ← E2, a2, ← E3, a3, ← E4, s1, y64_65, y64m, ← E5, zO, zR, zA, zT, zu1, zu2, zu3, zu4, gI, gL, pI, pL, pZ, aI, aL, sI, sZ, sL, Option.bind_some, Option.map_some, if_true, if_false, ite_true, ite_false, true_and, and_true, false_and, and_false, or_true, true_or, or_false, false_or, and_self, not_true_eq_false, not_false_eq_true, ↓reduceIte, reduceIte, Nat.reduceAdd, Nat.reduceMul, Nat.reduceSub, Nat.reduceMod, Nat.reduceDiv, Nat.reduceEqDiff, Nat.reduceLT, Nat.reduceLeDiff, Int32.reduceAdd, Int32.reduceSub, Int32.reduceMul, Int32.reduceDiv, Int32.reduceMod, Int32.reduceOfNat, Int32.reduceOfInt, Int32.reduceLT, Int32.reduceLE, Int32.reduceToNatClampNeg, Int32.reduceToInt] <;>
    simp (decide := true) (implicitDefEqProofs := false) only [E5, E4, E3, E2, E1, sh3, q1, q2, q3, z1, z2, z3, t1, t2, t3, zO, zR, zA, zT, zu1, zu2, zu3, zu4, gI, gL, pI, pL, pZ, aI, aL, sI, sZ, sL, Option.bind_some, Option.map_some, if_true, if_false, ite_true, ite_false, true_and, and_true, false_and, and_false, or_true, true_or, or_false, false_or, and_self, not_true_eq_false, not_false_eq_true, ↓reduceIte, reduceIte, Nat.reduceAdd, Nat.reduceMul, Nat.reduceSub, Nat.reduceMod, Nat.reduceDiv, Nat.reduceEqDiff, Nat.reduceLT, Nat.reduceLeDiff, Int32.reduceAdd, Int32.reduceSub, Int32.reduceMul, Int32.reduceDiv, Int32.reduceMod, Int32.reduceOfNat, Int32.reduceOfInt, Int32.reduceLT, Int32.reduceLE, Int32.reduceToNatClampNeg, Int32.reduceToInt]
  · intro q hq
    have hq' : ¬ (q = 55 ∨ q = 56) := hq
    rw [E5, E4, E3, E2, E1]
    refine ⟨rfl, ?_⟩
    funext i
    simp only [zu4]
    repeat rw [if_neg (by omega)]
  · rw [E5, E4, E3, E2, E1]; rfl
  · intro p hp
    rw [E5, E4, E3, E2, E1]
    have e' : p = 0 ∨ p = 1 ∨ p = 2 ∨ p = 3 := by omega
    rcases e with rfl | rfl | rfl | rfl <;> rcases e' with rfl | rfl | rfl | rfl <;> simp (decide := true) (implicitDefEqProofs := false) only [sh3, zO, zR, zA, zT, zu1, zu2, zu3, zu4, gI, gL, pI, pL, pZ, aI, aL, sI, sZ, sL, Option.bind_some, Option.map_some, if_true, if_false, ite_true, ite_false, true_and, and_true, false_and, and_false, or_true, true_or, or_false, false_or, and_self, not_true_eq_false, not_false_eq_true, ↓reduceIte, reduceIte, Nat.reduceAdd, Nat.reduceMul, Nat.reduceSub, Nat.reduceMod, Nat.reduceDiv, Nat.reduceEqDiff, Nat.reduceLT, Nat.reduceLeDiff, Int32.reduceAdd, Int32.reduceSub, Int32.reduceMul, Int32.reduceDiv, Int32.reduceMod, Int32.reduceOfNat, Int32.reduceOfInt, Int32.reduceLT, Int32.reduceLE, Int32.reduceToNatClampNeg, Int32.reduceToInt] <;> rfl
  · rw [E5]; simp (decide := true) (implicitDefEqProofs := false) only [zO, zR, zA, zT, zu1, zu2, zu3, zu4, gI, gL, pI, pL, pZ, aI, aL, sI, sZ, sL, Option.bind_some, Option.map_some, if_true, if_false, ite_true, ite_false, true_and, and_true, false_and, and_false, or_true, true_or, or_false, false_or, and_self, not_true_eq_false, not_false_eq_true, ↓reduceIte, reduceIte, Nat.reduceAdd, Nat.reduceMul, Nat.reduceSub, Nat.reduceMod, Nat.reduceDiv, Nat.reduceEqDiff, Nat.reduceLT, Nat.reduceLeDiff, Int32.reduceAdd, Int32.reduceSub, Int32.reduceMul, Int32.reduceDiv, Int32.reduceMod, Int32.reduceOfNat, Int32.reduceOfInt, Int32.reduceLT, Int32.reduceLE, Int32.reduceToNatClampNeg, Int32.reduceToInt]
  · intro j hj
    rw [E5]
    simp (decide := true) (implicitDefEqProofs := false) only [hj, g4.2, zO, zR, zA, zT, zu1, zu2, zu3, zu4, gI, gL, pI, pL, pZ, aI, aL, sI, sZ, sL, Option.bind_some, Option.map_some, if_true, if_false, ite_true, ite_false, true_and, and_true, false_and, and_false, or_true, true_or, or_false, false_or, and_self, not_true_eq_false, not_false_eq_true, ↓reduceIte, reduceIte, Nat.reduceAdd, Nat.reduceMul, Nat.reduceSub, Nat.reduceMod, Nat.reduceDiv, Nat.reduceEqDiff, Nat.reduceLT, Nat.reduceLeDiff, Int32.reduceAdd, Int32.reduceSub, Int32.reduceMul, Int32.reduceDiv, Int32.reduceMod, Int32.reduceOfNat, Int32.reduceOfInt, Int32.reduceLT, Int32.reduceLE, Int32.reduceToNatClampNeg, Int32.reduceToInt]

