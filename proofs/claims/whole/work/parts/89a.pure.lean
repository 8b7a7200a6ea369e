/-! going through a PLAN -/
abbrev WS : Type := Nat × Int32 × Int32 × Int32 × Int32
def lsN (c : Nat → Nat → Int) (w : WS) : Int32 := if w.1 = 0 then roomV c else if roomV c < w.2.2.2.2 then roomV c else w.2.2.2.2
/-- a MOMENT: how many, the first bad, its step, why, the least spare -/
def mtF (s : Int32) (c : Nat → Nat → Int) (w : WS) : WS := if whyV c ≠ 0 ∧ w.2.2.2.1 = 0 then (w.1 + 1, Int32.ofNat w.1, s, whyV c, lsN c w) else (w.1 + 1, w.2.1, w.2.2.1, w.2.2.2.1, lsN c w)
theorem mtF_1 (s : Int32) (c : Nat → Nat → Int) (w : WS) : (mtF s c w).1 = w.1 + 1 := by
  unfold mtF; split <;> rfl
def WX (w : WS) (μ : Mem) : Prop := μ.1 69 0 = Int32.ofNat w.1 ∧ μ.1 69 1 = w.2.1 ∧ μ.1 69 2 = w.2.2.1 ∧ μ.1 69 3 = w.2.2.2.1 ∧ μ.1 69 4 = (if w.1 = 0 then 2147483647 else w.2.2.2.2)
def WM (b : Bool) (w : WS) (μ : Mem) : Prop := μ.1 81 30 = Int32.ofNat w.1 ∧ μ.1 81 31 = w.2.1 ∧ (b = true → μ.1 81 32 = w.2.2.1) ∧ μ.1 81 33 = w.2.2.2.1 ∧ (w.1 ≠ 0 → μ.1 81 34 = w.2.2.2.2)
def WOK (w : WS) : Prop := (w.2.1 = -5 ∧ w.2.2.2.1 = 0) ∨ (¬ w.2.1 = -5 ∧ ¬ w.2.2.2.1 = 0)
theorem ne5 {m : Nat} (h : m < 2147483648) : ¬ Int32.ofNat m = -5 := by
  rw [show (-5 : Int32) = Int32.ofInt (-5) by decide]
  exact fun g => by
    have := (yeq (m : Nat) (-5) (by omega) (by omega) (by omega) (by omega)).mp g
    omega
theorem WOK.m {w : WS} (h : WOK w) (hm : w.1 < 2147483648) (s : Int32) (c : Nat → Nat → Int) : WOK (mtF s c w) := by
  have n5 := ne5 hm
  by_cases t : whyV c ≠ 0 ∧ w.2.2.2.1 = 0
  · have e1 : (mtF s c w).2.1 = Int32.ofNat w.1 := by unfold mtF; rw [if_pos t]
    have e2 : (mtF s c w).2.2.2.1 = whyV c := by unfold mtF; rw [if_pos t]
    right
    rw [e1, e2]
    exact ⟨n5, t.1⟩
  · have e1 : (mtF s c w).2.1 = w.2.1 := by unfold mtF; rw [if_neg t]
    have e2 : (mtF s c w).2.2.2.1 = w.2.2.2.1 := by unfold mtF; rw [if_neg t]
    unfold WOK
    rw [e1, e2]
    exact h
theorem whyV_r (c : Nat → Nat → Int) : whyV c = 0 ∨ whyV c = 1 ∨ whyV c = 2 ∨ whyV c = 3 ∨ whyV c = 4 ∨ whyV c = 5 := by
  unfold whyV
  by_cases a : none3 c = 0
  · rw [if_pos a]
    by_cases b : ovN c (shF c) (blF c) = 0
    · rw [if_pos b]
      by_cases d : 0 ≤ roomV c
      · rw [if_pos d]; simp
      · rw [if_neg d]; simp
    · rw [if_neg b]; simp
  · rw [if_neg a]
    rcases none3_r c with g | g | g | g <;> rw [g] <;> simp
theorem whyV_le (c : Nat → Nat → Int) : (whyV c ≤ 0) = (whyV c = 0) := by
  rcases whyV_r c with g | g | g | g | g | g <;> rw [g] <;> decide
theorem minMax (v : Int32) : (if v < 2147483647 then v else 2147483647) = v := by
  by_cases t : v < 2147483647
  · rw [if_pos t]
  · rw [if_neg t]
    have b2 := Int32.toInt_lt v
    have h : (2147483647 : Int32) ≤ v := Int32.not_lt.mp t
    rw [Int32.le_iff_toInt_le] at h
    have e : (2147483647 : Int32).toInt = 2147483647 := by decide
    apply Int32.toInt_inj.mp
    omega
theorem meetX {c : Nat → Nat → Int} {μ : Mem} (h : CC 37 c μ) (b : BC c) {w : WS} (hw : WX w μ) (s : Int32) : ∃ ν, f_X10_meet SX 69 s 37 55 μ = some ((), ν) ∧ Fr (fun q => q = 55 ∨ q = 56 ∨ q = 69) μ ν ∧ CC 37 c ν ∧ WX (mtF s c w) ν := by
  obtain ⟨ν1, p1, f1, -⟩ := verdict_at ck37 h b
  have C1 := h.f37 f1
  have f1' : Fr (fun q => q = 55 ∨ q = 56 ∨ q = 69) μ ν1 := f1.mo (fun q hq => by omega)
  have e69 : ν1.1 69 = μ.1 69 := (f1 69 (by omega)).1
  obtain ⟨w0, w1, w2, w3, w4⟩ := hw
  rw [← e69] at w0 w1 w2 w3 w4
  have fin : ∀ (μ' : Mem) (fb bs bw : Int32), Fr (fun q => q = 69) ν1 μ' → μ'.1 69 0 = Int32.ofNat w.1 → μ'.1 69 1 = fb → μ'.1 69 2 = bs → μ'.1 69 3 = bw → μ'.1 69 4 = (if w.1 = 0 then 2147483647 else w.2.2.2.2) → ∃ ν, b_X10_meet_38 SX 69 37 μ' = some ((), ν) ∧ Fr (fun q => q = 55 ∨ q = 56 ∨ q = 69) μ ν ∧ CC 37 c ν ∧ WX (w.1 + 1, fb, bs, bw, lsN c w) ν := by
    intro μ' fb bs bw f' x0 x1 x2 x3 x4
    have C' : CC 37 c μ' := C1.w _ f' (fun q g1 g2 => by omega)
    have rm := room_at ck37 C' b
    have mn : (if roomV c < (if w.1 = 0 then (2147483647 : Int32) else w.2.2.2.2) then roomV c else (if w.1 = 0 then 2147483647 else w.2.2.2.2)) = lsN c w := by
      unfold lsN
      by_cases t : w.1 = 0
      · rw [if_pos t, if_pos t]; exact minMax _
      · rw [if_neg t, if_neg t]
    refine ⟨upI (upI μ' 69 4 (lsN c w)) 69 0 (Int32.ofNat (w.1 + 1)), ?_, (f1'.tr (f'.mo (fun q hq => by omega))).tr (Fr.tr (Fr.uI (by omega)) (Fr.uI (by omega))), (C'.w (fun q => q = 69) (Fr.tr (Fr.uI rfl) (Fr.uI rfl)) (fun q g1 g2 => by omega)), ?_, ?_, ?_, ?_, ?_⟩
    · simp (decide := true) (implicitDefEqProofs := false) only [b_X10_meet_38, x0, x4, rm, mn, ofN1, zO, zR, zA, zT, zu1, zu2, zu3, zu4, gI, gL, pI, pL, pZ, aI, aL, sI, sZ, sL, Option.bind_some, Option.map_some, if_true, if_false, ite_true, ite_false, true_and, and_true, false_and, and_false, or_true, true_or, or_false, false_or, and_self, not_true_eq_false, not_false_eq_true, ↓reduceIte, reduceIte, Nat.reduceAdd, Nat.reduceMul, Nat.reduceSub, Nat.reduceMod, Nat.reduceDiv, Nat.reduceEqDiff, Nat.reduceLT, Nat.reduceLeDiff, Int32.reduceAdd, Int32.reduceSub, Int32.reduceMul, Int32.reduceDiv, Int32.reduceMod, Int32.reduceOfNat, Int32.reduceOfInt, Int32.reduceLT, Int32.reduceLE, Int32.reduceToNatClampNeg, Int32.reduceToInt]
    · simp (decide := true) (implicitDefEqProofs := false) only [zO, zR, zA, zT, zu1, zu2, zu3, zu4, gI, gL, pI, pL, pZ, aI, aL, sI, sZ, sL, Option.bind_some, Option.map_some, if_true, if_false, ite_true, ite_false, true_and, and_true, false_and, and_false, or_true, true_or, or_false, false_or, and_self, not_true_eq_false, not_false_eq_true, ↓reduceIte, reduceIte, Nat.reduceAdd, Nat.reduceMul, Nat.reduceSub, Nat.reduceMod, Nat.reduceDiv, Nat.reduceEqDiff, Nat.reduceLT, Nat.reduceLeDiff, Int32.reduceAdd, Int32.reduceSub, Int32.reduceMul, Int32.reduceDiv, Int32.reduceMod, Int32.reduceOfNat, Int32.reduceOfInt, Int32.reduceLT, Int32.reduceLE, Int32.reduceToNatClampNeg, Int32.reduceToInt]
    · simp (decide := true) (implicitDefEqProofs := false) only [x1, zO, zR, zA, zT, zu1, zu2, zu3, zu4, gI, gL, pI, pL, pZ, aI, aL, sI, sZ, sL, Option.bind_some, Option.map_some, if_true, if_false, ite_true, ite_false, true_and, and_true, false_and, and_false, or_true, true_or, or_false, false_or, and_self, not_true_eq_false, not_false_eq_true, ↓reduceIte, reduceIte, Nat.reduceAdd, Nat.reduceMul, Nat.reduceSub, Nat.reduceMod, Nat.reduceDiv, Nat.reduceEqDiff, Nat.reduceLT, Nat.reduceLeDiff, Int32.reduceAdd, Int32.reduceSub, Int32.reduceMul, Int32.reduceDiv, Int32.reduceMod, Int32.reduceOfNat, Int32.reduceOfInt, Int32.reduceLT, Int32.reduceLE, Int32.reduceToNatClampNeg, Int32.reduceToInt]
    · simp (decide := true) (implicitDefEqProofs := false) only [x2, zO, zR, zA, zT, zu1, zu2, zu3, zu4, gI, gL, pI, pL, pZ, aI, aL, sI, sZ, sL, Option.bind_some, Option.map_some, if_true, if_false, ite_true, ite_false, true_and, and_true, false_and, and_false, or_true, true_or, or_false, false_or, and_self, not_true_eq_false, not_false_eq_true, ↓reduceIte, reduceIte, Nat.reduceAdd, Nat.reduceMul, Nat.reduceSub, Nat.reduceMod, Nat.reduceDiv, Nat.reduceEqDiff, Nat.reduceLT, Nat.reduceLeDiff, Int32.reduceAdd, Int32.reduceSub, Int32.reduceMul, Int32.reduceDiv, Int32.reduceMod, Int32.reduceOfNat, Int32.reduceOfInt, Int32.reduceLT, Int32.reduceLE, Int32.reduceToNatClampNeg, Int32.reduceToInt]
    · simp (decide := true) (implicitDefEqProofs := false) only [x3, zO, zR, zA, zT, zu1, zu2, zu3, zu4, gI, gL, pI, pL, pZ, aI, aL, sI, sZ, sL, Option.bind_some, Option.map_some, if_true, if_false, ite_true, ite_false, true_and, and_true, false_and, and_false, or_true, true_or, or_false, false_or, and_self, not_true_eq_false, not_false_eq_true, ↓reduceIte, reduceIte, Nat.reduceAdd, Nat.reduceMul, Nat.reduceSub, Nat.reduceMod, Nat.reduceDiv, Nat.reduceEqDiff, Nat.reduceLT, Nat.reduceLeDiff, Int32.reduceAdd, Int32.reduceSub, Int32.reduceMul, Int32.reduceDiv, Int32.reduceMod, Int32.reduceOfNat, Int32.reduceOfInt, Int32.reduceLT, Int32.reduceLE, Int32.reduceToNatClampNeg, Int32.reduceToInt]
    · rw [if_neg (show ¬ (w.1 + 1 = 0) by omega)]
      simp (decide := true) (implicitDefEqProofs := false) only [zO, zR, zA, zT, zu1, zu2, zu3, zu4, gI, gL, pI, pL, pZ, aI, aL, sI, sZ, sL, Option.bind_some, Option.map_some, if_true, if_false, ite_true, ite_false, true_and, and_true, false_and, and_false, or_true, true_or, or_false, false_or, and_self, not_true_eq_false, not_false_eq_true, ↓reduceIte, reduceIte, Nat.reduceAdd, Nat.reduceMul, Nat.reduceSub, Nat.reduceMod, Nat.reduceDiv, Nat.reduceEqDiff, Nat.reduceLT, Nat.reduceLeDiff, Int32.reduceAdd, Int32.reduceSub, Int32.reduceMul, Int32.reduceDiv, Int32.reduceMod, Int32.reduceOfNat, Int32.reduceOfInt, Int32.reduceLT, Int32.reduceLE, Int32.reduceToNatClampNeg, Int32.reduceToInt]
  unfold mtF
  by_cases t : whyV c = 0
  · rw [if_neg (fun g => g.1 t)]
    obtain ⟨ν, p, g⟩ := fin ν1 w.2.1 w.2.2.1 w.2.2.2.1 Fr.rf w0 w1 w2 w3 w4
    refine ⟨ν, ?_, g⟩
    simp (decide := true) (implicitDefEqProofs := false) only [f_X10_meet, p1, t, p, zO, zR, zA, zT, zu1, zu2, zu3, zu4, gI, gL, pI, pL, pZ, aI, aL, sI, sZ, sL, Option.bind_some, Option.map_some, if_true, if_false, ite_true, ite_false, true_and, and_true, false_and, and_false, or_true, true_or, or_false, false_or, and_self, not_true_eq_false, not_false_eq_true, ↓reduceIte, reduceIte, Nat.reduceAdd, Nat.reduceMul, Nat.reduceSub, Nat.reduceMod, Nat.reduceDiv, Nat.reduceEqDiff, Nat.reduceLT, Nat.reduceLeDiff, Int32.reduceAdd, Int32.reduceSub, Int32.reduceMul, Int32.reduceDiv, Int32.reduceMod, Int32.reduceOfNat, Int32.reduceOfInt, Int32.reduceLT, Int32.reduceLE, Int32.reduceToNatClampNeg, Int32.reduceToInt]
  · by_cases r : w.2.2.2.1 = 0
    · rw [if_pos ⟨t, r⟩]
      obtain ⟨ν, p, g⟩ := fin (upI (upI (upI ν1 69 1 (Int32.ofNat w.1)) 69 2 s) 69 3 (whyV c)) (Int32.ofNat w.1) s (whyV c) (Fr.tr (Fr.tr (Fr.uI rfl) (Fr.uI rfl)) (Fr.uI rfl)) (by simp (decide := true) (implicitDefEqProofs := false) only [w0, zO, zR, zA, zT, zu1, zu2, zu3, zu4, gI, gL, pI, pL, pZ, aI, aL, sI, sZ, sL, Option.bind_some, Option.map_some, if_true, if_false, ite_true, ite_false, true_and, and_true, false_and, and_false, or_true, true_or, or_false, false_or, and_self, not_true_eq_false, not_false_eq_true, ↓reduceIte, reduceIte, Nat.reduceAdd, Nat.reduceMul, Nat.reduceSub, Nat.reduceMod, Nat.reduceDiv, Nat.reduceEqDiff, Nat.reduceLT, Nat.reduceLeDiff, Int32.reduceAdd, Int32.reduceSub, Int32.reduceMul, Int32.reduceDiv, Int32.reduceMod, Int32.reduceOfNat, Int32.reduceOfInt, Int32.reduceLT, Int32.reduceLE, Int32.reduceToNatClampNeg, Int32.reduceToInt]) (by simp (decide := true) (implicitDefEqProofs := false) only [zO, zR, zA, zT, zu1, zu2, zu3, zu4, gI, gL, pI, pL, pZ, aI, aL, sI, sZ, sL, Option.bind_some, Option.map_some, if_true, if_false, ite_true, ite_false, true_and, and_true, false_and, and_false, or_true, true_or, or_false, false_or, and_self, not_true_eq_false, not_false_eq_true, ↓reduceIte, reduceIte, Nat.reduceAdd, Nat.reduceMul, Nat.reduceSub, Nat.reduceMod, Nat.reduceDiv, Nat.reduceEqDiff, Nat.reduceLT, Nat.reduceLeDiff, Int32.reduceAdd, Int32.reduceSub, Int32.reduceMul, Int32.reduceDiv, Int32.reduceMod, Int32.reduceOfNat, Int32.reduceOfInt, Int32.reduceLT, Int32.reduceLE, Int32.reduceToNatClampNeg, Int32.reduceToInt]) (by simp (decide := true) (implicitDefEqProofs := false) only [zO, zR, zA, zT, zu1, zu2, zu3, zu4, gI, gL, pI, pL, pZ, aI, aL, sI, sZ, sL, Option.bind_some, Option.map_some, if_true, if_false, ite_true, ite_false, true_and, and_true, false_and, and_false, or_true, true_or, or_false, false_or, and_self, not_true_eq_false, not_false_eq_true, ↓reduceIte, reduceIte, Nat.reduceAdd, Nat.reduceMul, Nat.reduceSub, Nat.reduceMod, Nat.reduceDiv, Nat.reduceEqDiff, Nat.reduceLT, Nat.reduceLeDiff, Int32.reduceAdd, Int32.reduceSub, Int32.reduceMul, Int32.reduceDiv, Int32.reduceMod, Int32.reduceOfNat, Int32.reduceOfInt, Int32.reduceLT, Int32.reduceLE, Int32.reduceToNatClampNeg, Int32.reduceToInt]) (by simp (decide := true) (implicitDefEqProofs := false) only [zO, zR, zA, zT, zu1, zu2, zu3, zu4, gI, gL, pI, pL, pZ, aI, aL, sI, sZ, sL, Option.bind_some, Option.map_some, if_true, if_false, ite_true, ite_false, true_and, and_true, false_and, and_false, or_true, true_or, or_false, false_or, and_self, not_true_eq_false, not_false_eq_true, ↓reduceIte, reduceIte, Nat.reduceAdd, Nat.reduceMul, Nat.reduceSub, Nat.reduceMod, Nat.reduceDiv, Nat.reduceEqDiff, Nat.reduceLT, Nat.reduceLeDiff, Int32.reduceAdd, Int32.reduceSub, Int32.reduceMul, Int32.reduceDiv, Int32.reduceMod, Int32.reduceOfNat, Int32.reduceOfInt, Int32.reduceLT, Int32.reduceLE, Int32.reduceToNatClampNeg, Int32.reduceToInt]) (by simp (decide := true) (implicitDefEqProofs := false) only [w4, zO, zR, zA, zT, zu1, zu2, zu3, zu4, gI, gL, pI, pL, pZ, aI, aL, sI, sZ, sL, Option.bind_some, Option.map_some, if_true, if_false, ite_true, ite_false, true_and, and_true, false_and, and_false, or_true, true_or, or_false, false_or, and_self, not_true_eq_false, not_false_eq_true, ↓reduceIte, reduceIte, Nat.reduceAdd, Nat.reduceMul, Nat.reduceSub, Nat.reduceMod, Nat.reduceDiv, Nat.reduceEqDiff, Nat.reduceLT, Nat.reduceLeDiff, Int32.reduceAdd, Int32.reduceSub, Int32.reduceMul, Int32.reduceDiv, Int32.reduceMod, Int32.reduceOfNat, Int32.reduceOfInt, Int32.reduceLT, Int32.reduceLE, Int32.reduceToNatClampNeg, Int32.reduceToInt])
      refine ⟨ν, ?_, g⟩
      simp (decide := true) (implicitDefEqProofs := false) only [f_X10_meet, p1, t, w3, r, w0, p, zO, zR, zA, zT, zu1, zu2, zu3, zu4, gI, gL, pI, pL, pZ, aI, aL, sI, sZ, sL, Option.bind_some, Option.map_some, if_true, if_false, ite_true, ite_false, true_and, and_true, false_and, and_false, or_true, true_or, or_false, false_or, and_self, not_true_eq_false, not_false_eq_true, ↓reduceIte, reduceIte, Nat.reduceAdd, Nat.reduceMul, Nat.reduceSub, Nat.reduceMod, Nat.reduceDiv, Nat.reduceEqDiff, Nat.reduceLT, Nat.reduceLeDiff, Int32.reduceAdd, Int32.reduceSub, Int32.reduceMul, Int32.reduceDiv, Int32.reduceMod, Int32.reduceOfNat, Int32.reduceOfInt, Int32.reduceLT, Int32.reduceLE, Int32.reduceToNatClampNeg, Int32.reduceToInt]
    · rw [if_neg (fun g => r g.2)]
      obtain ⟨ν, p, g⟩ := fin ν1 w.2.1 w.2.2.1 w.2.2.2.1 Fr.rf w0 w1 w2 w3 w4
      refine ⟨ν, ?_, g⟩
      simp (decide := true) (implicitDefEqProofs := false) only [f_X10_meet, p1, t, w3, r, p, zO, zR, zA, zT, zu1, zu2, zu3, zu4, gI, gL, pI, pL, pZ, aI, aL, sI, sZ, sL, Option.bind_some, Option.map_some, if_true, if_false, ite_true, ite_false, true_and, and_true, false_and, and_false, or_true, true_or, or_false, false_or, and_self, not_true_eq_false, not_false_eq_true, ↓reduceIte, reduceIte, Nat.reduceAdd, Nat.reduceMul, Nat.reduceSub, Nat.reduceMod, Nat.reduceDiv, Nat.reduceEqDiff, Nat.reduceLT, Nat.reduceLeDiff, Int32.reduceAdd, Int32.reduceSub, Int32.reduceMul, Int32.reduceDiv, Int32.reduceMod, Int32.reduceOfNat, Int32.reduceOfInt, Int32.reduceLT, Int32.reduceLE, Int32.reduceToNatClampNeg, Int32.reduceToInt]
def lkJ (j : Nat) : Prop := uJ j ∨ (30 ≤ j ∧ j ≤ 34)
theorem looksAtM {c : Nat → Nat → Int} {μ : Mem} (h : MM c μ) (b : BC c) {w : WS} {k : Bool} (hw : WM k w μ) (hk : WOK w) (hm : w.1 < 1000000) (s s' : Int32) (hs : k = true → s' = s) : ∃ ν, f_X12_looksAt SX 81 s μ = some ((), ν) ∧ FM uP lkJ μ ν ∧ MM c ν ∧ WM k (mtF s' c w) ν := by
  obtain ⟨ν1, p1, f1, -⟩ := whyNow_at h b
  have M1 := h.u f1
  have F1 : FM uP lkJ μ ν1 := f1.mo (fun q w => w) (fun j w => Or.inl w)
  obtain ⟨w0, w1, w2, w3, w4⟩ := hw
  rw [← (f1.2 30 (by unfold uJ; omega)).1] at w0
  rw [← (f1.2 31 (by unfold uJ; omega)).1] at w1
  rw [← (f1.2 32 (by unfold uJ; omega)).1] at w2
  rw [← (f1.2 33 (by unfold uJ; omega)).1] at w3
  rw [← (f1.2 34 (by unfold uJ; omega)).1] at w4
  have n0 : (Int32.ofNat w.1 = 0) = (w.1 = 0) := neN (b := 0) (by omega) (by decide)
  have fin : ∀ (μ' : Mem) (fb bs bw : Int32), FM (fun _ => False) lkJ ν1 μ' → MM c μ' → μ'.1 81 30 = Int32.ofNat w.1 → μ'.1 81 31 = fb → (k = true → μ'.1 81 32 = bs) → μ'.1 81 33 = bw → (w.1 ≠ 0 → μ'.1 81 34 = w.2.2.2.2) → ∃ ν, b_X12_looksAt_36 SX 81 μ' = some ((), ν) ∧ FM uP lkJ μ ν ∧ MM c ν ∧ WM k (w.1 + 1, fb, bs, bw, lsN c w) ν := by
    intro μ' fb bs bw f' M' x0 x1 x2 x3 x4
    have sp := spareNow_at M' b
    have fu1 : FM uP lkJ μ' (upI (upI μ' 81 34 (lsN c w)) 81 30 (Int32.ofNat (w.1 + 1))) := FM.tr (FM.uI (Or.inr ⟨rfl, Or.inr (by omega)⟩)) (FM.uI (Or.inr ⟨rfl, Or.inr (by omega)⟩))
    refine ⟨upI (upI μ' 81 34 (lsN c w)) 81 30 (Int32.ofNat (w.1 + 1)), ?_, (F1.tr (f'.mo (fun q w => w.elim) (fun j w => w))).tr fu1, M'.w fu1 (fun q g1 g2 => by unfold uP; omega) (by unfold lkJ uJ; omega), ?_, ?_, fun hk => ?_, ?_, fun _ => ?_⟩
    · unfold lsN
      by_cases t : w.1 = 0
      · rw [if_pos t]
        have x0' : μ'.1 81 30 = 0 := by rw [x0, t]; rfl
        simp (decide := true) (implicitDefEqProofs := false) only [b_X12_looksAt_36, b_X12_looksAt_62, x0', sp, t, zO, zR, zA, zT, zu1, zu2, zu3, zu4, gI, gL, pI, pL, pZ, aI, aL, sI, sZ, sL, Option.bind_some, Option.map_some, if_true, if_false, ite_true, ite_false, true_and, and_true, false_and, and_false, or_true, true_or, or_false, false_or, and_self, not_true_eq_false, not_false_eq_true, ↓reduceIte, reduceIte, Nat.reduceAdd, Nat.reduceMul, Nat.reduceSub, Nat.reduceMod, Nat.reduceDiv, Nat.reduceEqDiff, Nat.reduceLT, Nat.reduceLeDiff, Int32.reduceAdd, Int32.reduceSub, Int32.reduceMul, Int32.reduceDiv, Int32.reduceMod, Int32.reduceOfNat, Int32.reduceOfInt, Int32.reduceLT, Int32.reduceLE, Int32.reduceToNatClampNeg, Int32.reduceToInt]
      · rw [if_neg t]
        have x4' := x4 t
        have n1 : ¬ Int32.ofNat w.1 = 0 := by rw [n0]; exact t
        simp (decide := true) (implicitDefEqProofs := false) only [b_X12_looksAt_36, b_X12_looksAt_62, x0, n1, x4', sp, ofN1, zO, zR, zA, zT, zu1, zu2, zu3, zu4, gI, gL, pI, pL, pZ, aI, aL, sI, sZ, sL, Option.bind_some, Option.map_some, if_true, if_false, ite_true, ite_false, true_and, and_true, false_and, and_false, or_true, true_or, or_false, false_or, and_self, not_true_eq_false, not_false_eq_true, ↓reduceIte, reduceIte, Nat.reduceAdd, Nat.reduceMul, Nat.reduceSub, Nat.reduceMod, Nat.reduceDiv, Nat.reduceEqDiff, Nat.reduceLT, Nat.reduceLeDiff, Int32.reduceAdd, Int32.reduceSub, Int32.reduceMul, Int32.reduceDiv, Int32.reduceMod, Int32.reduceOfNat, Int32.reduceOfInt, Int32.reduceLT, Int32.reduceLE, Int32.reduceToNatClampNeg, Int32.reduceToInt]
    · simp (decide := true) (implicitDefEqProofs := false) only [zO, zR, zA, zT, zu1, zu2, zu3, zu4, gI, gL, pI, pL, pZ, aI, aL, sI, sZ, sL, Option.bind_some, Option.map_some, if_true, if_false, ite_true, ite_false, true_and, and_true, false_and, and_false, or_true, true_or, or_false, false_or, and_self, not_true_eq_false, not_false_eq_true, ↓reduceIte, reduceIte, Nat.reduceAdd, Nat.reduceMul, Nat.reduceSub, Nat.reduceMod, Nat.reduceDiv, Nat.reduceEqDiff, Nat.reduceLT, Nat.reduceLeDiff, Int32.reduceAdd, Int32.reduceSub, Int32.reduceMul, Int32.reduceDiv, Int32.reduceMod, Int32.reduceOfNat, Int32.reduceOfInt, Int32.reduceLT, Int32.reduceLE, Int32.reduceToNatClampNeg, Int32.reduceToInt]
    · simp (decide := true) (implicitDefEqProofs := false) only [x1, zO, zR, zA, zT, zu1, zu2, zu3, zu4, gI, gL, pI, pL, pZ, aI, aL, sI, sZ, sL, Option.bind_some, Option.map_some, if_true, if_false, ite_true, ite_false, true_and, and_true, false_and, and_false, or_true, true_or, or_false, false_or, and_self, not_true_eq_false, not_false_eq_true, ↓reduceIte, reduceIte, Nat.reduceAdd, Nat.reduceMul, Nat.reduceSub, Nat.reduceMod, Nat.reduceDiv, Nat.reduceEqDiff, Nat.reduceLT, Nat.reduceLeDiff, Int32.reduceAdd, Int32.reduceSub, Int32.reduceMul, Int32.reduceDiv, Int32.reduceMod, Int32.reduceOfNat, Int32.reduceOfInt, Int32.reduceLT, Int32.reduceLE, Int32.reduceToNatClampNeg, Int32.reduceToInt]
    · have := x2 hk
      simp (decide := true) (implicitDefEqProofs := false) only [this, zO, zR, zA, zT, zu1, zu2, zu3, zu4, gI, gL, pI, pL, pZ, aI, aL, sI, sZ, sL, Option.bind_some, Option.map_some, if_true, if_false, ite_true, ite_false, true_and, and_true, false_and, and_false, or_true, true_or, or_false, false_or, and_self, not_true_eq_false, not_false_eq_true, ↓reduceIte, reduceIte, Nat.reduceAdd, Nat.reduceMul, Nat.reduceSub, Nat.reduceMod, Nat.reduceDiv, Nat.reduceEqDiff, Nat.reduceLT, Nat.reduceLeDiff, Int32.reduceAdd, Int32.reduceSub, Int32.reduceMul, Int32.reduceDiv, Int32.reduceMod, Int32.reduceOfNat, Int32.reduceOfInt, Int32.reduceLT, Int32.reduceLE, Int32.reduceToNatClampNeg, Int32.reduceToInt]
    · simp (decide := true) (implicitDefEqProofs := false) only [x3, zO, zR, zA, zT, zu1, zu2, zu3, zu4, gI, gL, pI, pL, pZ, aI, aL, sI, sZ, sL, Option.bind_some, Option.map_some, if_true, if_false, ite_true, ite_false, true_and, and_true, false_and, and_false, or_true, true_or, or_false, false_or, and_self, not_true_eq_false, not_false_eq_true, ↓reduceIte, reduceIte, Nat.reduceAdd, Nat.reduceMul, Nat.reduceSub, Nat.reduceMod, Nat.reduceDiv, Nat.reduceEqDiff, Nat.reduceLT, Nat.reduceLeDiff, Int32.reduceAdd, Int32.reduceSub, Int32.reduceMul, Int32.reduceDiv, Int32.reduceMod, Int32.reduceOfNat, Int32.reduceOfInt, Int32.reduceLT, Int32.reduceLE, Int32.reduceToNatClampNeg, Int32.reduceToInt]
    · simp (decide := true) (implicitDefEqProofs := false) only [zO, zR, zA, zT, zu1, zu2, zu3, zu4, gI, gL, pI, pL, pZ, aI, aL, sI, sZ, sL, Option.bind_some, Option.map_some, if_true, if_false, ite_true, ite_false, true_and, and_true, false_and, and_false, or_true, true_or, or_false, false_or, and_self, not_true_eq_false, not_false_eq_true, ↓reduceIte, reduceIte, Nat.reduceAdd, Nat.reduceMul, Nat.reduceSub, Nat.reduceMod, Nat.reduceDiv, Nat.reduceEqDiff, Nat.reduceLT, Nat.reduceLeDiff, Int32.reduceAdd, Int32.reduceSub, Int32.reduceMul, Int32.reduceDiv, Int32.reduceMod, Int32.reduceOfNat, Int32.reduceOfInt, Int32.reduceLT, Int32.reduceLE, Int32.reduceToNatClampNeg, Int32.reduceToInt]
  have wl := whyV_le c
  unfold mtF
  by_cases t : whyV c = 0
  · rw [if_neg (fun g => g.1 t)]
    obtain ⟨ν, p, g⟩ := fin ν1 w.2.1 w.2.2.1 w.2.2.2.1 FM.rf M1 w0 w1 w2 w3 w4
    refine ⟨ν, ?_, g⟩
    simp (decide := true) (implicitDefEqProofs := false) only [f_X12_looksAt, p1, wl, t, p, zO, zR, zA, zT, zu1, zu2, zu3, zu4, gI, gL, pI, pL, pZ, aI, aL, sI, sZ, sL, Option.bind_some, Option.map_some, if_true, if_false, ite_true, ite_false, true_and, and_true, false_and, and_false, or_true, true_or, or_false, false_or, and_self, not_true_eq_false, not_false_eq_true, ↓reduceIte, reduceIte, Nat.reduceAdd, Nat.reduceMul, Nat.reduceSub, Nat.reduceMod, Nat.reduceDiv, Nat.reduceEqDiff, Nat.reduceLT, Nat.reduceLeDiff, Int32.reduceAdd, Int32.reduceSub, Int32.reduceMul, Int32.reduceDiv, Int32.reduceMod, Int32.reduceOfNat, Int32.reduceOfInt, Int32.reduceLT, Int32.reduceLE, Int32.reduceToNatClampNeg, Int32.reduceToInt]
  · by_cases r : w.2.2.2.1 = 0
    · rw [if_pos ⟨t, r⟩]
      have r5 : w.2.1 = -5 := by
        rcases hk with ⟨g, -⟩ | ⟨-, g⟩
        · exact g
        · exact absurd r g
      have f3 : FM (fun _ => False) lkJ ν1 (upI (upI (upI ν1 81 31 (Int32.ofNat w.1)) 81 32 s) 81 33 (whyV c)) := FM.tr (FM.tr (FM.uI (Or.inr ⟨rfl, Or.inr (by omega)⟩)) (FM.uI (Or.inr ⟨rfl, Or.inr (by omega)⟩))) (FM.uI (Or.inr ⟨rfl, Or.inr (by omega)⟩))
      obtain ⟨ν, p, g⟩ := fin (upI (upI (upI ν1 81 31 (Int32.ofNat w.1)) 81 32 s) 81 33 (whyV c)) (Int32.ofNat w.1) s' (whyV c) f3 (M1.w f3 (fun q g1 g2 => fun w => w) (by unfold lkJ uJ; omega)) (by simp (decide := true) (implicitDefEqProofs := false) only [w0, zO, zR, zA, zT, zu1, zu2, zu3, zu4, gI, gL, pI, pL, pZ, aI, aL, sI, sZ, sL, Option.bind_some, Option.map_some, if_true, if_false, ite_true, ite_false, true_and, and_true, false_and, and_false, or_true, true_or, or_false, false_or, and_self, not_true_eq_false, not_false_eq_true, ↓reduceIte, reduceIte, Nat.reduceAdd, Nat.reduceMul, Nat.reduceSub, Nat.reduceMod, Nat.reduceDiv, Nat.reduceEqDiff, Nat.reduceLT, Nat.reduceLeDiff, Int32.reduceAdd, Int32.reduceSub, Int32.reduceMul, Int32.reduceDiv, Int32.reduceMod, Int32.reduceOfNat, Int32.reduceOfInt, Int32.reduceLT, Int32.reduceLE, Int32.reduceToNatClampNeg, Int32.reduceToInt]) (by simp (decide := true) (implicitDefEqProofs := false) only [zO, zR, zA, zT, zu1, zu2, zu3, zu4, gI, gL, pI, pL, pZ, aI, aL, sI, sZ, sL, Option.bind_some, Option.map_some, if_true, if_false, ite_true, ite_false, true_and, and_true, false_and, and_false, or_true, true_or, or_false, false_or, and_self, not_true_eq_false, not_false_eq_true, ↓reduceIte, reduceIte, Nat.reduceAdd, Nat.reduceMul, Nat.reduceSub, Nat.reduceMod, Nat.reduceDiv, Nat.reduceEqDiff, Nat.reduceLT, Nat.reduceLeDiff, Int32.reduceAdd, Int32.reduceSub, Int32.reduceMul, Int32.reduceDiv, Int32.reduceMod, Int32.reduceOfNat, Int32.reduceOfInt, Int32.reduceLT, Int32.reduceLE, Int32.reduceToNatClampNeg, Int32.reduceToInt]) (fun hk => by rw [hs hk]; simp (decide := true) (implicitDefEqProofs := false) only [zO, zR, zA, zT, zu1, zu2, zu3, zu4, gI, gL, pI, pL, pZ, aI, aL, sI, sZ, sL, Option.bind_some, Option.map_some, if_true, if_false, ite_true, ite_false, true_and, and_true, false_and, and_false, or_true, true_or, or_false, false_or, and_self, not_true_eq_false, not_false_eq_true, ↓reduceIte, reduceIte, Nat.reduceAdd, Nat.reduceMul, Nat.reduceSub, Nat.reduceMod, Nat.reduceDiv, Nat.reduceEqDiff, Nat.reduceLT, Nat.reduceLeDiff, Int32.reduceAdd, Int32.reduceSub, Int32.reduceMul, Int32.reduceDiv, Int32.reduceMod, Int32.reduceOfNat, Int32.reduceOfInt, Int32.reduceLT, Int32.reduceLE, Int32.reduceToNatClampNeg, Int32.reduceToInt]) (by simp (decide := true) (implicitDefEqProofs := false) only [zO, zR, zA, zT, zu1, zu2, zu3, zu4, gI, gL, pI, pL, pZ, aI, aL, sI, sZ, sL, Option.bind_some, Option.map_some, if_true, if_false, ite_true, ite_false, true_and, and_true, false_and, and_false, or_true, true_or, or_false, false_or, and_self, not_true_eq_false, not_false_eq_true, ↓reduceIte, reduceIte, Nat.reduceAdd, Nat.reduceMul, Nat.reduceSub, Nat.reduceMod, Nat.reduceDiv, Nat.reduceEqDiff, Nat.reduceLT, Nat.reduceLeDiff, Int32.reduceAdd, Int32.reduceSub, Int32.reduceMul, Int32.reduceDiv, Int32.reduceMod, Int32.reduceOfNat, Int32.reduceOfInt, Int32.reduceLT, Int32.reduceLE, Int32.reduceToNatClampNeg, Int32.reduceToInt]) (fun g => by have := w4 g; simp (decide := true) (implicitDefEqProofs := false) only [this, zO, zR, zA, zT, zu1, zu2, zu3, zu4, gI, gL, pI, pL, pZ, aI, aL, sI, sZ, sL, Option.bind_some, Option.map_some, if_true, if_false, ite_true, ite_false, true_and, and_true, false_and, and_false, or_true, true_or, or_false, false_or, and_self, not_true_eq_false, not_false_eq_true, ↓reduceIte, reduceIte, Nat.reduceAdd, Nat.reduceMul, Nat.reduceSub, Nat.reduceMod, Nat.reduceDiv, Nat.reduceEqDiff, Nat.reduceLT, Nat.reduceLeDiff, Int32.reduceAdd, Int32.reduceSub, Int32.reduceMul, Int32.reduceDiv, Int32.reduceMod, Int32.reduceOfNat, Int32.reduceOfInt, Int32.reduceLT, Int32.reduceLE, Int32.reduceToNatClampNeg, Int32.reduceToInt])
      refine ⟨ν, ?_, g⟩
      simp (decide := true) (implicitDefEqProofs := false) only [f_X12_looksAt, p1, wl, t, w1, r5, w0, p, zO, zR, zA, zT, zu1, zu2, zu3, zu4, gI, gL, pI, pL, pZ, aI, aL, sI, sZ, sL, Option.bind_some, Option.map_some, if_true, if_false, ite_true, ite_false, true_and, and_true, false_and, and_false, or_true, true_or, or_false, false_or, and_self, not_true_eq_false, not_false_eq_true, ↓reduceIte, reduceIte, Nat.reduceAdd, Nat.reduceMul, Nat.reduceSub, Nat.reduceMod, Nat.reduceDiv, Nat.reduceEqDiff, Nat.reduceLT, Nat.reduceLeDiff, Int32.reduceAdd, Int32.reduceSub, Int32.reduceMul, Int32.reduceDiv, Int32.reduceMod, Int32.reduceOfNat, Int32.reduceOfInt, Int32.reduceLT, Int32.reduceLE, Int32.reduceToNatClampNeg, Int32.reduceToInt]
    · rw [if_neg (fun g => r g.2)]
      have r5 : ¬ w.2.1 = -5 := by
        rcases hk with ⟨-, g⟩ | ⟨g, -⟩
        · exact absurd g r
        · exact g
      obtain ⟨ν, p, g⟩ := fin ν1 w.2.1 w.2.2.1 w.2.2.2.1 FM.rf M1 w0 w1 w2 w3 w4
      refine ⟨ν, ?_, g⟩
      simp (decide := true) (implicitDefEqProofs := false) only [f_X12_looksAt, p1, wl, t, w1, r5, p, zO, zR, zA, zT, zu1, zu2, zu3, zu4, gI, gL, pI, pL, pZ, aI, aL, sI, sZ, sL, Option.bind_some, Option.map_some, if_true, if_false, ite_true, ite_false, true_and, and_true, false_and, and_false, or_true, true_or, or_false, false_or, and_self, not_true_eq_false, not_false_eq_true, ↓reduceIte, reduceIte, Nat.reduceAdd, Nat.reduceMul, Nat.reduceSub, Nat.reduceMod, Nat.reduceDiv, Nat.reduceEqDiff, Nat.reduceLT, Nat.reduceLeDiff, Int32.reduceAdd, Int32.reduceSub, Int32.reduceMul, Int32.reduceDiv, Int32.reduceMod, Int32.reduceOfNat, Int32.reduceOfInt, Int32.reduceLT, Int32.reduceLE, Int32.reduceToNatClampNeg, Int32.reduceToInt]

