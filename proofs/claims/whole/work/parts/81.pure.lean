def spn (c : Nat → Nat → Int) (e : Nat) (x y : Int) : Int := (c 0 ((e + 1) % 4) - c 0 e) * (y - 65 * c 1 e) - (c 1 ((e + 1) % 4) - c 1 e) * (x - 65 * c 0 e)
theorem spn_b {c : Nat → Nat → Int} (b : Bxy c) {e : Nat} (he : e < 4) {x y : Int} (hx : -5200 ≤ x ∧ x ≤ 5200) (hy : -5200 ≤ y ∧ y ≤ 5200) : -1000000 ≤ spn c e x y ∧ spn c e x y ≤ 1000000 := by
  have b1 := b e he
  have b2 := b ((e + 1) % 4) (Nat.mod_lt _ (by decide))
  have m1 := mulb (a := c 0 ((e + 1) % 4) - c 0 e) (b := y - 65 * c 1 e) 60 7150 (by omega) (by omega) (by omega) (by omega)
  have m2 := mulb (a := c 1 ((e + 1) % 4) - c 1 e) (b := x - 65 * c 0 e) 60 7150 (by omega) (by omega) (by omega) (by omega)
  unfold spn
  omega
theorem moI_spn {c : Nat → Nat → Int} {e : Nat} (he : e < 4) (i : Nat) : moI c e i = thW c i * spn c e (thX c i) (thY c i) := by
  unfold moI spn; rw [Nat.mod_eq_of_lt he]
def HT (H T : Int) (μ0 μ : Mem) : Prop := μ.1 = μ0.1 ∧ (∀ q, q ≠ 55 → μ.2 q = μ0.2 q) ∧ μ.2 55 6 = Int64.ofInt H ∧ μ.2 55 7 = Int64.ofInt T
theorem addM_at {c : Nat → Nat → Int} {μ0 μ : Mem} (h : XY 1 c μ0) (b : Bxy c) {H T : Int} (ht : HT H T μ0 μ) {e : Nat} (he : e < 4) {M x y : Int} (hM : -100000 ≤ M ∧ M ≤ 100000) (hx : -5200 ≤ x ∧ x ≤ 5200) (hy : -5200 ≤ y ∧ y ≤ 5200) : ∃ ν, f_X3_addMoment SX 55 2 (Int32.ofNat e) (Int32.ofInt M) (Int64.ofInt x) (Int64.ofInt y) μ = some ((), ν) ∧ HT (H + (if 0 < spn c e x y then M * spn c e x y else 0)) (T + (if 0 < spn c e x y then 0 else -(M * spn c e x y))) μ0 ν := by
  obtain ⟨t1, t2, t3, t4⟩ := ht
  have hf : (e + 1) % 4 < 4 := Nat.mod_lt _ (by decide)
  have b1 := b e he
  have b2 := b ((e + 1) % 4) hf
  have x1 := h.1 e he
  have x2 := h.1 ((e + 1) % 4) hf
  have y1 := h.2 e he
  have y2 := h.2 ((e + 1) % 4) hf
  simp only [Nat.reduceAdd, Nat.reduceMul, Nat.reduceMod, Int32.reduceOfNat] at x1 x2 y1 y2
  have sb := spn_b b he hx hy
  have k1 : (Int32.ofInt (c 0 ((e + 1) % 4)) - Int32.ofInt (c 0 e)).toInt64 = Int64.ofInt (c 0 ((e + 1) % 4) - c 0 e) := by rw [y32s, yw _ (by omega) (by omega)]
  have k2 : (Int32.ofInt (c 1 ((e + 1) % 4)) - Int32.ofInt (c 1 e)).toInt64 = Int64.ofInt (c 1 ((e + 1) % 4) - c 1 e) := by rw [y32s, yw _ (by omega) (by omega)]
  have k3 : (65 * Int32.ofInt (c 1 e)).toInt64 = Int64.ofInt (65 * c 1 e) := by rw [show (65 : Int32) = Int32.ofInt 65 from rfl, y32m, yw _ (by omega) (by omega)]
  have k4 : (65 * Int32.ofInt (c 0 e)).toInt64 = Int64.ofInt (65 * c 0 e) := by rw [show (65 : Int32) = Int32.ofInt 65 from rfl, y32m, yw _ (by omega) (by omega)]
  have k5 : (Int32.ofInt M).toInt64 = Int64.ofInt M := yw _ (by omega) (by omega)
  have q := yle0 (spn c e x y) (by omega) (by omega)
  have q' : (Int64.ofInt ((c 0 ((e + 1) % 4) - c 0 e) * (y - 65 * c 1 e) - (c 1 ((e + 1) % 4) - c 1 e) * (x - 65 * c 0 e)) ≤ 0) = (spn c e x y ≤ 0) := propext q
  have nx := next_at (S := SX) (μ := μ) e he
  by_cases s : spn c e x y ≤ 0
  · rw [if_neg (by omega), if_neg (by omega)]
    refine ⟨upL μ 55 7 (Int64.ofInt (T + -(M * spn c e x y))), ?_, ⟨t1, fun q hq => ?_, ?_, ?_⟩⟩
    · simp (decide := true) (implicitDefEqProofs := false) only [f_X3_addMoment, nx, t1, x1, x2, y1, y2, zin e 4 he (by decide), ztn e (by omega), zin ((e + 1) % 4) 4 hf (by decide), ztn ((e + 1) % 4) (by omega), k1, k2, k3, k4, k5, y64s, y64m, q', s, t4, zO, zR, zA, zT, zu1, zu2, zu3, zu4, gI, gL, pI, pL, pZ, aI, aL, sI, sZ, sL, Option.bind_some, Option.map_some, if_true, if_false, ite_true, ite_false, true_and, and_true, false_and, and_false, or_true, true_or, or_false, false_or, and_self, not_true_eq_false, not_false_eq_true, ↓reduceIte, reduceIte, Nat.reduceAdd, Nat.reduceMul, Nat.reduceSub, Nat.reduceMod, Nat.reduceDiv, Nat.reduceEqDiff, Nat.reduceLT, Nat.reduceLeDiff, Int32.reduceAdd, Int32.reduceSub, Int32.reduceMul, Int32.reduceDiv, Int32.reduceMod, Int32.reduceOfNat, Int32.reduceOfInt, Int32.reduceLT, Int32.reduceLE, Int32.reduceToNatClampNeg, Int32.reduceToInt]
      rfl
    · funext i; rw [zu4, if_neg (fun w => hq w.1)]; exact congrFun (t2 q hq) i
    · rw [zu4, if_neg (by omega), t3, Int.add_zero]
    · rw [zu4, if_pos (by first | exact ⟨rfl, rfl⟩ | exact ⟨trivial, rfl⟩)]
  · rw [if_pos (by first | omega | exact ⟨trivial, by omega⟩ | exact ⟨trivial, trivial⟩), if_pos (by first | omega | exact ⟨trivial, by omega⟩ | exact ⟨trivial, trivial⟩)]
    refine ⟨upL μ 55 6 (Int64.ofInt (H + M * spn c e x y)), ?_, ⟨t1, fun q hq => ?_, ?_, ?_⟩⟩
    · simp (decide := true) (implicitDefEqProofs := false) only [f_X3_addMoment, nx, t1, x1, x2, y1, y2, zin e 4 he (by decide), ztn e (by omega), zin ((e + 1) % 4) 4 hf (by decide), ztn ((e + 1) % 4) (by omega), k1, k2, k3, k4, k5, y64s, y64m, y64a, q', s, t3, zO, zR, zA, zT, zu1, zu2, zu3, zu4, gI, gL, pI, pL, pZ, aI, aL, sI, sZ, sL, Option.bind_some, Option.map_some, if_true, if_false, ite_true, ite_false, true_and, and_true, false_and, and_false, or_true, true_or, or_false, false_or, and_self, not_true_eq_false, not_false_eq_true, ↓reduceIte, reduceIte, Nat.reduceAdd, Nat.reduceMul, Nat.reduceSub, Nat.reduceMod, Nat.reduceDiv, Nat.reduceEqDiff, Nat.reduceLT, Nat.reduceLeDiff, Int32.reduceAdd, Int32.reduceSub, Int32.reduceMul, Int32.reduceDiv, Int32.reduceMod, Int32.reduceOfNat, Int32.reduceOfInt, Int32.reduceLT, Int32.reduceLE, Int32.reduceToNatClampNeg, Int32.reduceToInt]
      rfl
    · funext i; rw [zu4, if_neg (fun w => hq w.1)]; exact congrFun (t2 q hq) i
    · rw [zu4, if_pos (by first | exact ⟨rfl, rfl⟩ | exact ⟨trivial, rfl⟩)]
    · rw [zu4, if_neg (by omega), t4, Int.add_zero]
def hI (c : Nat → Nat → Int) (e i : Nat) : Int := if 0 < moI c e i then moI c e i else 0
def tI (c : Nat → Nat → Int) (e i : Nat) : Int := if moI c e i < 0 then moI c e i else 0
theorem hI_sp {w s : Int} (hw : 0 ≤ w) : (if 0 < s then w * s else 0) = (if 0 < w * s then w * s else 0) ∧ (if 0 < s then 0 else -(w * s)) = -(if w * s < 0 then w * s else 0) := by
  by_cases w0 : w = 0
  · subst w0; simp
  · have wp : 0 < w := by omega
    by_cases s0 : 0 < s
    · have p := Int.mul_pos wp s0
      rw [if_pos s0, if_pos s0, if_pos p, if_neg (by omega)]; simp
    · have p : w * s ≤ 0 := by
        have := Int.mul_le_mul_of_nonneg_left (show s ≤ 0 by omega) (show 0 ≤ w by omega)
        simpa using this
      rw [if_neg s0, if_neg s0, if_neg (by omega)]
      by_cases q : w * s < 0
      · rw [if_pos q]; exact ⟨rfl, rfl⟩
      · rw [if_neg q]; exact ⟨rfl, by omega⟩
theorem splitX {c : Nat → Nat → Int} {μ0 : Mem} (h : CC 1 c μ0) (b : BC c) {e : Nat} (he : e < 4) : ∃ ν, f_X3_splitMoments SX 55 1 (Int32.ofNat e) μ0 = some ((), ν) ∧ HT (sm (hI c e) (nP c + 2)) (-(sm (tI c e) (nP c + 2))) μ0 ν := by
  have n8 := nP8 b
  have bd := b.2.2.2.2.2
  have sz := h.2.2.2.1.2.2.2.2.1
  have dl0 := h.2.2.2.2.2 0 (by decide)
  have dl1 := h.2.2.2.2.2 1 (by decide)
  have hn := hanging_at ck1 h
  have sums := b.sums
  simp only [Nat.reduceAdd, Nat.reduceMul, Nat.reduceMod, Int32.reduceOfNat] at sz dl0 dl1
  have szn : μ0.1 6 4 = Int32.ofNat (nP c) := by rw [sz]; exact ofIn (c 7 0) b.2.2.1.1
  have cb := cs_b bd.1.1 bd.1.2
  have a3 := aT3 bd.1.1 bd.1.2
  have a4 := aT4 bd.1.1 bd.1.2
  have a30 : aT 3 0 = some (Int32.ofInt 65) := by decide +kernel
  have a40 : aT 4 0 = some (Int32.ofInt 0) := by decide +kernel
  have w1 : (Int32.ofInt (cs (c 8 0))).toInt64 = Int64.ofInt (cs (c 8 0)) := yw _ (by omega) (by omega)
  have w2 : (Int32.ofInt (sn (c 8 0))).toInt64 = Int64.ofInt (sn (c 8 0)) := yw _ (by omega) (by omega)
  have w3 : (65 : Int32).toInt64 = Int64.ofInt 65 := yw 65 (by omega) (by omega)
  have w4 : (0 : Int32).toInt64 = Int64.ofInt 0 := yw 0 (by omega) (by omega)
  have w5 : (Int32.ofInt (c 8 1)).toInt64 = Int64.ofInt (c 8 1) := yw _ (by omega) (by omega)
  obtain ⟨ν, p, g⟩ := lpG (B := l_X3_splitMoments_18 SX 55 1 (Int32.ofNat e) 6) (fin := b_X3_splitMoments_143 SX 55 1 (Int32.ofNat e)) (N := nP c) (P := fun i ν => HT (sm (hI c e) i) (-(sm (tI c e) i)) μ0 ν) (μ := upL (upL μ0 55 6 0) 55 7 0) (by
    intro self i μ hi ht
    have hi8 : i < 8 := by omega
    have bi := b.2.2.2.1 i hi8
    have g3 := h.2.2.2.1.1 i hi8
    have g4 := h.2.2.2.1.2.1 i hi8
    have g5 := h.2.2.2.1.2.2.1 i hi8
    have g6 := h.2.2.2.1.2.2.2.1 i hi8
    simp only [Nat.reduceAdd, Nat.reduceMul, Nat.reduceMod, Int32.reduceOfNat] at g3 g4 g5 g6
    have v4 : (Int32.ofInt (c 4 i)).toInt64 = Int64.ofInt (c 4 i) := yw _ (by omega) (by omega)
    have v5 : (Int32.ofInt (c 5 i)).toInt64 = Int64.ofInt (c 5 i) := yw _ (by omega) (by omega)
    have tb := th_b b i
    have t1 := ht.1
    have lf := leF (n := nP c) (i := i) hi (by omega)
    have i1 := zin i 8 hi8 (by decide)
    have i2 := ztn i (by omega)
    have eW : thW c i = c 3 i := by unfold thW; rw [if_pos hi]
    obtain ⟨q1, q2⟩ := hI_sp (w := thW c i) (s := spn c e (thX c i) (thY c i)) tb.1.1
    rw [← moI_spn he i] at q1 q2
    have fin : ∀ (X Y : Int), X = thX c i → Y = thY c i → ∃ ν, f_X3_addMoment SX 55 2 (Int32.ofNat e) (Int32.ofInt (c 3 i)) (Int64.ofInt X) (Int64.ofInt Y) μ = some ((), ν) ∧ HT (sm (hI c e) (i + 1)) (-(sm (tI c e) (i + 1))) μ0 ν := by
      rintro X Y rfl rfl
      obtain ⟨ν, p, g⟩ := addM_at h.1 b.1 ht he (M := c 3 i) (x := thX c i) (y := thY c i) (by omega) tb.2.1 tb.2.2
      refine ⟨ν, p, ?_⟩
      rw [← eW, ← moI_spn he i, q1, q2] at g
      have s1 : sm (hI c e) (i + 1) = sm (hI c e) i + (if 0 < moI c e i then moI c e i else 0) := rfl
      have s2 : -(sm (tI c e) (i + 1)) = -(sm (tI c e) i) + -(if moI c e i < 0 then moI c e i else 0) := by
        show -(sm (tI c e) i + tI c e i) = _
        unfold tI; omega
      rw [s1, s2]; exact g
    by_cases t : c 6 i = 0
    · obtain ⟨ν, p, g⟩ := fin (65 * c 4 i - 0 * c 5 i) (0 * c 4 i + 65 * c 5 i) (by unfold thX; rw [if_pos hi, if_pos t]; omega) (by unfold thY; rw [if_pos hi, if_pos t]; omega)
      refine ⟨ν, ?_, g⟩
      have z6 : μ0.1 10 i = 0 := by rw [g6, t]; rfl
      simp (decide := true) (implicitDefEqProofs := false) only [l_X3_splitMoments_18, b_X3_splitMoments_47, t1, szn, lf, i1, i2, z6, a30, a40, g3, g4, g5, w3, w4, v4, v5, y64m, y64s, y64a, p, ofN1 i, zO, zR, zA, zT, zu1, zu2, zu3, zu4, gI, gL, pI, pL, pZ, aI, aL, sI, sZ, sL, Option.bind_some, Option.map_some, if_true, if_false, ite_true, ite_false, true_and, and_true, false_and, and_false, or_true, true_or, or_false, false_or, and_self, not_true_eq_false, not_false_eq_true, ↓reduceIte, reduceIte, Nat.reduceAdd, Nat.reduceMul, Nat.reduceSub, Nat.reduceMod, Nat.reduceDiv, Nat.reduceEqDiff, Nat.reduceLT, Nat.reduceLeDiff, Int32.reduceAdd, Int32.reduceSub, Int32.reduceMul, Int32.reduceDiv, Int32.reduceMod, Int32.reduceOfNat, Int32.reduceOfInt, Int32.reduceLT, Int32.reduceLE, Int32.reduceToNatClampNeg, Int32.reduceToInt]
    · obtain ⟨ν, p, g⟩ := fin (cs (c 8 0) * c 4 i - sn (c 8 0) * c 5 i) (sn (c 8 0) * c 4 i + cs (c 8 0) * c 5 i) (by unfold thX; rw [if_pos hi, if_neg t, Int.mul_comm (cs (c 8 0)), Int.mul_comm (sn (c 8 0))]) (by unfold thY; rw [if_pos hi, if_neg t, Int.mul_comm (cs (c 8 0)), Int.mul_comm (sn (c 8 0))])
      refine ⟨ν, ?_, g⟩
      have z6 : ¬ μ0.1 10 i = 0 := by
        rw [g6]
        rcases bi.2.2.2 with e | e
        · exact absurd e t
        · rw [e]; decide
      simp (decide := true) (implicitDefEqProofs := false) only [l_X3_splitMoments_18, b_X3_splitMoments_47, t1, szn, lf, i1, i2, z6, dl0, a3, a4, g3, g4, g5, w1, w2, v4, v5, y64m, y64s, y64a, p, ofN1 i, zO, zR, zA, zT, zu1, zu2, zu3, zu4, gI, gL, pI, pL, pZ, aI, aL, sI, sZ, sL, Option.bind_some, Option.map_some, if_true, if_false, ite_true, ite_false, true_and, and_true, false_and, and_false, or_true, true_or, or_false, false_or, and_self, not_true_eq_false, not_false_eq_true, ↓reduceIte, reduceIte, Nat.reduceAdd, Nat.reduceMul, Nat.reduceSub, Nat.reduceMod, Nat.reduceDiv, Nat.reduceEqDiff, Nat.reduceLT, Nat.reduceLeDiff, Int32.reduceAdd, Int32.reduceSub, Int32.reduceMul, Int32.reduceDiv, Int32.reduceMod, Int32.reduceOfNat, Int32.reduceOfInt, Int32.reduceLT, Int32.reduceLE, Int32.reduceToNatClampNeg, Int32.reduceToInt]) (by
    intro self μ ht
    have t1 := ht.1
    simp (decide := true) (implicitDefEqProofs := false) only [l_X3_splitMoments_18, t1, szn, leT, zO, zR, zA, zT, zu1, zu2, zu3, zu4, gI, gL, pI, pL, pZ, aI, aL, sI, sZ, sL, Option.bind_some, Option.map_some, if_true, if_false, ite_true, ite_false, true_and, and_true, false_and, and_false, or_true, true_or, or_false, false_or, and_self, not_true_eq_false, not_false_eq_true, ↓reduceIte, reduceIte, Nat.reduceAdd, Nat.reduceMul, Nat.reduceSub, Nat.reduceMod, Nat.reduceDiv, Nat.reduceEqDiff, Nat.reduceLT, Nat.reduceLeDiff, Int32.reduceAdd, Int32.reduceSub, Int32.reduceMul, Int32.reduceDiv, Int32.reduceMod, Int32.reduceOfNat, Int32.reduceOfInt, Int32.reduceLT, Int32.reduceLE, Int32.reduceToNatClampNeg, Int32.reduceToInt]) (by omega) ⟨rfl, fun q hq => by funext i; simp only [zu4]; rw [if_neg (by omega), if_neg (by omega)], by simp (decide := true) (implicitDefEqProofs := false) only [zO, zR, zA, zT, zu1, zu2, zu3, zu4, gI, gL, pI, pL, pZ, aI, aL, sI, sZ, sL, Option.bind_some, Option.map_some, if_true, if_false, ite_true, ite_false, true_and, and_true, false_and, and_false, or_true, true_or, or_false, false_or, and_self, not_true_eq_false, not_false_eq_true, ↓reduceIte, reduceIte, Nat.reduceAdd, Nat.reduceMul, Nat.reduceSub, Nat.reduceMod, Nat.reduceDiv, Nat.reduceEqDiff, Nat.reduceLT, Nat.reduceLeDiff, Int32.reduceAdd, Int32.reduceSub, Int32.reduceMul, Int32.reduceDiv, Int32.reduceMod, Int32.reduceOfNat, Int32.reduceOfInt, Int32.reduceLT, Int32.reduceLE, Int32.reduceToNatClampNeg, Int32.reduceToInt]; rfl, by simp (decide := true) (implicitDefEqProofs := false) only [zO, zR, zA, zT, zu1, zu2, zu3, zu4, gI, gL, pI, pL, pZ, aI, aL, sI, sZ, sL, Option.bind_some, Option.map_some, if_true, if_false, ite_true, ite_false, true_and, and_true, false_and, and_false, or_true, true_or, or_false, false_or, and_self, not_true_eq_false, not_false_eq_true, ↓reduceIte, reduceIte, Nat.reduceAdd, Nat.reduceMul, Nat.reduceSub, Nat.reduceMod, Nat.reduceDiv, Nat.reduceEqDiff, Nat.reduceLT, Nat.reduceLeDiff, Int32.reduceAdd, Int32.reduceSub, Int32.reduceMul, Int32.reduceDiv, Int32.reduceMod, Int32.reduceOfNat, Int32.reduceOfInt, Int32.reduceLT, Int32.reduceLE, Int32.reduceToNatClampNeg, Int32.reduceToInt]; rfl⟩
  have tb := th_b b (nP c)
  have eX : thX c (nP c) = c 8 1 * cs (c 8 0) := by unfold thX; rw [if_neg (by omega)]
  have eY : thY c (nP c) = c 8 1 * sn (c 8 0) := by unfold thY; rw [if_neg (by omega)]
  have eX' : thX c (nP c + 1) = c 8 1 * cs (c 8 0) := by unfold thX; rw [if_neg (by omega)]
  have eY' : thY c (nP c + 1) = c 8 1 * sn (c 8 0) := by unfold thY; rw [if_neg (by omega)]
  have eW : thW c (nP c) = c 8 3 := by unfold thW; rw [if_neg (by omega), if_pos rfl]
  have eW' : thW c (nP c + 1) = c 8 2 := by unfold thW; rw [if_neg (by omega), if_neg (by omega)]
  rw [eX, eY] at tb
  obtain ⟨ν2, p2, g2⟩ := addM_at h.1 b.1 g he (M := hangs c) (x := c 8 1 * cs (c 8 0)) (y := c 8 1 * sn (c 8 0)) (by omega) tb.2.1 tb.2.2
  have t1 := g.1
  have hn' : f_X2_hanging SX 1 ν = some (Int32.ofInt (hangs c), ν) := by
    have d3 := h.2.2.2.2.2 3 (by decide)
    have d2 := h.2.2.2.2.2 2 (by decide)
    simp only [Nat.reduceAdd, Nat.reduceMul, Nat.reduceMod, Int32.reduceOfNat] at d3 d2
    simp (decide := true) (implicitDefEqProofs := false) only [f_X2_hanging, t1, d3, d2, y32a, hangs, zO, zR, zA, zT, zu1, zu2, zu3, zu4, gI, gL, pI, pL, pZ, aI, aL, sI, sZ, sL, Option.bind_some, Option.map_some, if_true, if_false, ite_true, ite_false, true_and, and_true, false_and, and_false, or_true, true_or, or_false, false_or, and_self, not_true_eq_false, not_false_eq_true, ↓reduceIte, reduceIte, Nat.reduceAdd, Nat.reduceMul, Nat.reduceSub, Nat.reduceMod, Nat.reduceDiv, Nat.reduceEqDiff, Nat.reduceLT, Nat.reduceLeDiff, Int32.reduceAdd, Int32.reduceSub, Int32.reduceMul, Int32.reduceDiv, Int32.reduceMod, Int32.reduceOfNat, Int32.reduceOfInt, Int32.reduceLT, Int32.reduceLE, Int32.reduceToNatClampNeg, Int32.reduceToInt]
  refine ⟨ν2, ?_, ?_⟩
  · simp (decide := true) (implicitDefEqProofs := false) only [f_X3_splitMoments, zO, zR, zA, zT, zu1, zu2, zu3, zu4, gI, gL, pI, pL, pZ, aI, aL, sI, sZ, sL, Option.bind_some, Option.map_some, if_true, if_false, ite_true, ite_false, true_and, and_true, false_and, and_false, or_true, true_or, or_false, false_or, and_self, not_true_eq_false, not_false_eq_true, ↓reduceIte, reduceIte, Nat.reduceAdd, Nat.reduceMul, Nat.reduceSub, Nat.reduceMod, Nat.reduceDiv, Nat.reduceEqDiff, Nat.reduceLT, Nat.reduceLeDiff, Int32.reduceAdd, Int32.reduceSub, Int32.reduceMul, Int32.reduceDiv, Int32.reduceMod, Int32.reduceOfNat, Int32.reduceOfInt, Int32.reduceLT, Int32.reduceLE, Int32.reduceToNatClampNeg, Int32.reduceToInt]
    refine Eq.trans p ?_
    simp (decide := true) (implicitDefEqProofs := false) only [b_X3_splitMoments_143, t1, dl0, dl1, a3, a4, w1, w2, w5, y64m, hn', p2, zO, zR, zA, zT, zu1, zu2, zu3, zu4, gI, gL, pI, pL, pZ, aI, aL, sI, sZ, sL, Option.bind_some, Option.map_some, if_true, if_false, ite_true, ite_false, true_and, and_true, false_and, and_false, or_true, true_or, or_false, false_or, and_self, not_true_eq_false, not_false_eq_true, ↓reduceIte, reduceIte, Nat.reduceAdd, Nat.reduceMul, Nat.reduceSub, Nat.reduceMod, Nat.reduceDiv, Nat.reduceEqDiff, Nat.reduceLT, Nat.reduceLeDiff, Int32.reduceAdd, Int32.reduceSub, Int32.reduceMul, Int32.reduceDiv, Int32.reduceMod, Int32.reduceOfNat, Int32.reduceOfInt, Int32.reduceLT, Int32.reduceLE, Int32.reduceToNatClampNeg, Int32.reduceToInt]
  · have m1 := moI_spn (c := c) he (nP c)
    have m2 := moI_spn (c := c) he (nP c + 1)
    rw [eX, eY, eW] at m1
    rw [eX', eY', eW'] at m2
    obtain ⟨q1, q2⟩ := hI_sp (w := c 8 3) (s := spn c e (c 8 1 * cs (c 8 0)) (c 8 1 * sn (c 8 0))) (by omega)
    obtain ⟨r1, r2⟩ := hI_sp (w := c 8 2) (s := spn c e (c 8 1 * cs (c 8 0)) (c 8 1 * sn (c 8 0))) (by omega)
    rw [← m1] at q1 q2
    rw [← m2] at r1 r2
    have hm : hangs c * spn c e (c 8 1 * cs (c 8 0)) (c 8 1 * sn (c 8 0)) = moI c e (nP c) + moI c e (nP c + 1) := by
      rw [m1, m2]; unfold hangs; rw [Int.add_mul]
    rw [hm] at g2
    have s1 : sm (hI c e) (nP c + 2) = sm (hI c e) (nP c) + (if 0 < spn c e (c 8 1 * cs (c 8 0)) (c 8 1 * sn (c 8 0)) then moI c e (nP c) + moI c e (nP c + 1) else 0) := by
      show sm (hI c e) (nP c) + hI c e (nP c) + hI c e (nP c + 1) = _
      unfold hI
      rw [← q1, ← r1]
      split <;> omega
    have s2 : -(sm (tI c e) (nP c + 2)) = -(sm (tI c e) (nP c)) + (if 0 < spn c e (c 8 1 * cs (c 8 0)) (c 8 1 * sn (c 8 0)) then 0 else -(moI c e (nP c) + moI c e (nP c + 1))) := by
      show -(sm (tI c e) (nP c) + tI c e (nP c) + tI c e (nP c + 1)) = _
      have tA : tI c e (nP c) = -(if 0 < spn c e (c 8 1 * cs (c 8 0)) (c 8 1 * sn (c 8 0)) then 0 else -(moI c e (nP c))) := by rw [q2, Int.neg_neg]; rfl
      have tB : tI c e (nP c + 1) = -(if 0 < spn c e (c 8 1 * cs (c 8 0)) (c 8 1 * sn (c 8 0)) then 0 else -(moI c e (nP c + 1))) := by rw [r2, Int.neg_neg]; rfl
      rw [tA, tB]
      split <;> omega
    rw [s1, s2]; exact g2

