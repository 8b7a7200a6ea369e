def loD (i : Nat) : Int := if i = 4 then 1 else 0
def hiD (i : Nat) : Int := ([19, 60, 999, 9999, 999, 2, 9, 2, 0, 0, 100, 100, 100, 100] : List Int).getD i 0
def dlV (a : Int32) : Int32 := if wb a 0 7 = 0 then (if wb a 10 13 = 0 then 0 else 1) else 1
theorem isDial_at (S : SH) (a : Int32) (μ : Mem) : f_X11_isDial S a μ = some (dlV a, μ) ∧ f_X12_isWhat S a μ = some (dlV a, μ) := by
  unfold f_X11_isDial f_X12_isWhat dlV
  simp only [within_at, in_at, Option.bind_some]
  by_cases t : wb a 0 7 = 0
  · by_cases s : wb a 10 13 = 0 <;> simp [t, s]
  · simp [t]
theorem dlV_r (a : Int32) : dlV a = 0 ∨ (dlV a = 1 ∧ ∃ i : Nat, i < 14 ∧ i ≠ 8 ∧ i ≠ 9 ∧ a = Int32.ofNat i) := by
  unfold dlV
  rcases wbN a 7 (by decide) with t | ⟨t, i, hi, e⟩
  · simp only [Nat.reduceAdd, Nat.reduceMul, Nat.reduceMod, Int32.reduceOfNat] at t
    rcases wbI a 10 13 (by decide) (by decide) (by decide) (by decide) with s | ⟨s, z, h1, h2, e⟩
    · have s' : wb a 10 13 = 0 := s
      left; rw [if_pos t, if_pos s']
    · have s' : wb a 10 13 = 1 := s
      right
      refine ⟨by rw [if_pos t, s']; rfl, z.toNat, by omega, by omega, by omega, ?_⟩
      rw [e]; exact ofIn z (by omega)
  · simp only [Nat.reduceAdd, Nat.reduceMul, Nat.reduceMod, Int32.reduceOfNat] at t
    right
    exact ⟨by rw [t]; rfl, i, by omega, by omega, by omega, e⟩
theorem fits_at (S : SH) (v : Int32) (μ : Mem) : ∀ i, i < 14 → i ≠ 8 → i ≠ 9 → f_X11_fitsDial S (Int32.ofNat i) v μ = some (wb v (Int32.ofInt (loD i)) (Int32.ofInt (hiD i)), μ) ∧ f_X12_isFor S (Int32.ofNat i) v μ = some (wb v (Int32.ofInt (loD i)) (Int32.ofInt (hiD i)), μ) := by
  intro i hi h8 h9
  have aT1 : ∀ i, i < 14 → aT 1 (Int32.ofNat i) = some (Int32.ofInt (loD i)) := by decide +kernel
  have aT2 : ∀ i, i < 14 → aT 2 (Int32.ofNat i) = some (Int32.ofInt (hiD i)) := by decide +kernel
  refine ⟨?_, ?_⟩
  · unfold f_X11_fitsDial
    rw [aT1 i hi, aT2 i hi]
    simp only [Option.bind_some, within_at, ozw]
  · have e : i = 0 ∨ i = 1 ∨ i = 2 ∨ i = 3 ∨ i = 4 ∨ i = 5 ∨ i = 6 ∨ i = 7 ∨ i = 10 ∨ i = 11 ∨ i = 12 ∨ i = 13 := by omega
    rcases e with rfl | rfl | rfl | rfl | rfl | rfl | rfl | rfl | rfl | rfl | rfl | rfl <;> (simp (decide := true) (implicitDefEqProofs := false) only [f_X12_isFor, f_X12_most, in_at, ozw, zO, zR, zA, zT, zu1, zu2, zu3, zu4, gI, gL, pI, pL, pZ, aI, aL, sI, sZ, sL, Option.bind_some, Option.map_some, if_true, if_false, ite_true, ite_false, true_and, and_true, false_and, and_false, or_true, true_or, or_false, false_or, and_self, not_true_eq_false, not_false_eq_true, ↓reduceIte, reduceIte, Nat.reduceAdd, Nat.reduceMul, Nat.reduceSub, Nat.reduceMod, Nat.reduceDiv, Nat.reduceEqDiff, Nat.reduceLT, Nat.reduceLeDiff, Int32.reduceAdd, Int32.reduceSub, Int32.reduceMul, Int32.reduceDiv, Int32.reduceMod, Int32.reduceOfNat, Int32.reduceOfInt, Int32.reduceLT, Int32.reduceLE, Int32.reduceToNatClampNeg, Int32.reduceToInt]) <;> rfl
def DOK (i : Nat) (z : Int) : Prop := i < 14 ∧ i ≠ 8 ∧ i ≠ 9 ∧ loD i ≤ z ∧ z ≤ hiD i
theorem BC.dial {c : Nat → Nat → Int} (b : BC c) {i : Nat} {z : Int} (h : DOK i z) : BC (up c 8 i z) := by
  obtain ⟨b1, b2, b3, b4, b5, c0, c1, c2, c3, c4, c5, c6, c7, c8⟩ := b
  obtain ⟨h1, h2, h3, h4, h5⟩ := h
  have hh : ∀ j, j < 14 → j ≠ 8 → j ≠ 9 → (loD j ≤ c 8 j ∧ c 8 j ≤ hiD j) → loD j ≤ up c 8 i z 8 j ∧ up c 8 i z 8 j ≤ hiD j := by
    intro j _ _ _ g
    by_cases e : j = i
    · subst e; rw [up_at]; exact ⟨h4, h5⟩
    · rw [up_of e]; exact g
  have g0 := hh 0 (by decide) (by decide) (by decide) c0
  have g1 := hh 1 (by decide) (by decide) (by decide) c1
  have g2 := hh 2 (by decide) (by decide) (by decide) c2
  have g3 := hh 3 (by decide) (by decide) (by decide) c3
  have g4 := hh 4 (by decide) (by decide) (by decide) c4
  have g5 := hh 5 (by decide) (by decide) (by decide) c5
  have g6 := hh 6 (by decide) (by decide) (by decide) c6
  have g7 := hh 7 (by decide) (by decide) (by decide) c7
  refine ⟨?_, ?_, ?_, ?_, ?_, g0, g1, g2, g3, g4, g5, g6, g7, fun j hj => ?_⟩
  · unfold Bxy; rw [up_ne (by decide), up_ne (by decide)]; exact b1
  · rw [up_ne (by decide)]; exact b2
  · rw [up_ne (by decide)]; exact b3
  · rw [up_ne (by decide), up_ne (by decide), up_ne (by decide), up_ne (by decide)]; exact b4
  · intro q hq
    rw [up_ne (by decide), up_ne (by omega)]; exact b5 q hq
  · have e : j = 0 ∨ j = 1 ∨ j = 2 ∨ j = 3 := by omega
    have cj := c8 j hj
    rcases e with rfl | rfl | rfl | rfl
    · exact hh 10 (by decide) (by decide) (by decide) cj
    · exact hh 11 (by decide) (by decide) (by decide) cj
    · exact hh 12 (by decide) (by decide) (by decide) cj
    · exact hh 13 (by decide) (by decide) (by decide) cj
theorem nP_dial (c : Nat → Nat → Int) (i : Nat) (z : Int) : nP (up c 8 i z) = nP c := by unfold nP; rw [up_ne (by decide)]
theorem CC.dial {k : Nat} {c : Nat → Nat → Int} {μ : Mem} (h : CC k c μ) {i : Nat} {z : Int} {v : Int32} (hv : v = Int32.ofInt z) : CC k (up c 8 i z) (upI μ (k + 17) i v) := by
  have f : Fr (fun q => q = k + 17) μ (upI μ (k + 17) i v) := Fr.uI rfl
  have e1 : ∀ q, q ≠ k + 17 → (upI μ (k + 17) i v).1 q = μ.1 q := fun q hq => (f q hq).1
  obtain ⟨⟨h1, h2⟩, h3, h4, ⟨h5, h6, h7, h8, h9⟩, h10, h11⟩ := h
  refine ⟨⟨fun j hj => ?_, fun j hj => ?_⟩, fun j hj => ?_, ?_, ⟨fun j hj => ?_, fun j hj => ?_, fun j hj => ?_, fun j hj => ?_, ?_⟩, fun q hq => ⟨fun j hj => ?_, ?_⟩, fun j hj => ?_⟩
  · rw [e1 _ (by omega), up_ne (by decide)]; exact h1 j hj
  · rw [e1 _ (by omega), up_ne (by decide)]; exact h2 j hj
  · rw [e1 _ (by omega), up_ne (by decide)]; exact h3 j hj
  · have : PD k (up c 8 i z) (upI μ (k + 17) i v) = PD k c μ := by
      unfold PD standB detC S1 S2 S3 S4 S5 stb tri
      rw [(f (k + 1) (by omega)).1, (f (k + 1) (by omega)).2, up_ne (by decide), up_ne (by decide)]
    rw [this]; exact h4
  · rw [e1 _ (by omega), up_ne (by decide)]; exact h5 j hj
  · rw [e1 _ (by omega), up_ne (by decide)]; exact h6 j hj
  · rw [e1 _ (by omega), up_ne (by decide)]; exact h7 j hj
  · rw [e1 _ (by omega), up_ne (by decide)]; exact h8 j hj
  · have : QD k (up c 8 i z) (upI μ (k + 17) i v) = QD k c μ := by
      unfold QD
      rw [nP_dial, e1 _ (by omega), up_ne (show 7 ≠ 8 by decide), up_ne (show 3 ≠ 8 by decide), up_ne (show 4 ≠ 8 by decide), up_ne (show 5 ≠ 8 by decide), up_ne (show 6 ≠ 8 by decide)]
    rw [this]; exact h9
  · rw [e1 _ (by omega), up_ne (by omega)]; exact (h10 q hq).1 j hj
  · rw [e1 _ (by omega), up_ne (by omega)]; exact (h10 q hq).2
  · rw [zu1]
    by_cases e : j = i
    · rw [if_pos ⟨rfl, e⟩, e, up_at, hv]
    · rw [if_neg (fun g => e g.2), up_of e]; exact h11 j hj
theorem MM.dial {c : Nat → Nat → Int} {μ : Mem} (h : MM c μ) {i : Nat} {z : Int} {v : Int32} (hv : v = Int32.ofInt z) : MM (up c 8 i z) (upI μ 90 i v) := by
  have e1 : ∀ q, q ≠ 90 → (upI μ 90 i v).1 q = μ.1 q := fun q hq => ((Fr.uI (P := fun q => q = 90) (μ := μ) (o := 90) (j := i) (v := v) rfl) q hq).1
  obtain ⟨h1, h2, h3, h4⟩ := h
  refine ⟨?_, ?_, ?_, fun j hj => ?_⟩
  · rw [e1 82 (by decide), up_ne (by decide), up_ne (by decide), up_ne (by decide)]; exact h1
  · unfold Rw; rw [e1 81 (by decide), e1 83 (by decide), e1 84 (by decide), e1 85 (by decide), e1 86 (by decide), up_ne (show 7 ≠ 8 by decide), up_ne (show 3 ≠ 8 by decide), up_ne (show 4 ≠ 8 by decide), up_ne (show 5 ≠ 8 by decide), up_ne (show 6 ≠ 8 by decide)]; exact h2
  · intro q hq
    rw [e1 87 (by decide), e1 88 (by decide), e1 89 (by decide), up_ne (show 12 ≠ 8 by decide), up_ne (show 9 + q ≠ 8 by omega)]; exact h3 q hq
  · rw [zu1]
    by_cases e : j = i
    · rw [if_pos ⟨rfl, e⟩, e, up_at, hv]
    · rw [if_neg (fun g => e g.2), up_of e]; exact h4 j hj
theorem ok_told {μ : Mem} (h : INV μ) (a1 : Int32) : OKop (f_X11_told SX 0 a1) (f_X12_told SX 81 a1) μ := by
  obtain ⟨c, b, h1, h2⟩ := h.1
  rcases dlV_r a1 with t | ⟨t, i, hi, h8, h9, rfl⟩
  · refine ⟨-1, μ, μ, ?_, ?_, h⟩
    · simp (decide := true) (implicitDefEqProofs := false) only [f_X11_told, isDial_at, t, zO, zR, zA, zT, zu1, zu2, zu3, zu4, gI, gL, pI, pL, pZ, aI, aL, sI, sZ, sL, Option.bind_some, Option.map_some, if_true, if_false, ite_true, ite_false, true_and, and_true, false_and, and_false, or_true, true_or, or_false, false_or, and_self, not_true_eq_false, not_false_eq_true, ↓reduceIte, reduceIte, Nat.reduceAdd, Nat.reduceMul, Nat.reduceSub, Nat.reduceMod, Nat.reduceDiv, Nat.reduceEqDiff, Nat.reduceLT, Nat.reduceLeDiff, Int32.reduceAdd, Int32.reduceSub, Int32.reduceMul, Int32.reduceDiv, Int32.reduceMod, Int32.reduceOfNat, Int32.reduceOfInt, Int32.reduceLT, Int32.reduceLE, Int32.reduceToNatClampNeg, Int32.reduceToInt]
    · simp (decide := true) (implicitDefEqProofs := false) only [f_X12_told, isDial_at, t, zO, zR, zA, zT, zu1, zu2, zu3, zu4, gI, gL, pI, pL, pZ, aI, aL, sI, sZ, sL, Option.bind_some, Option.map_some, if_true, if_false, ite_true, ite_false, true_and, and_true, false_and, and_false, or_true, true_or, or_false, false_or, and_self, not_true_eq_false, not_false_eq_true, ↓reduceIte, reduceIte, Nat.reduceAdd, Nat.reduceMul, Nat.reduceSub, Nat.reduceMod, Nat.reduceDiv, Nat.reduceEqDiff, Nat.reduceLT, Nat.reduceLeDiff, Int32.reduceAdd, Int32.reduceSub, Int32.reduceMul, Int32.reduceDiv, Int32.reduceMod, Int32.reduceOfNat, Int32.reduceOfInt, Int32.reduceLT, Int32.reduceLE, Int32.reduceToNatClampNeg, Int32.reduceToInt]
  · have g1 := h1.2.2.2.2.2 i hi
    have g2 := h2.2.2.2 i hi
    simp only [Nat.reduceAdd, Nat.reduceMul, Nat.reduceMod, Int32.reduceOfNat] at g1
    refine ⟨Int32.ofInt (c 8 i), μ, μ, ?_, ?_, h⟩
    · simp (decide := true) (implicitDefEqProofs := false) only [f_X11_told, isDial_at, t, zin i 14 hi (by decide), ztn i (by omega), g1, zO, zR, zA, zT, zu1, zu2, zu3, zu4, gI, gL, pI, pL, pZ, aI, aL, sI, sZ, sL, Option.bind_some, Option.map_some, if_true, if_false, ite_true, ite_false, true_and, and_true, false_and, and_false, or_true, true_or, or_false, false_or, and_self, not_true_eq_false, not_false_eq_true, ↓reduceIte, reduceIte, Nat.reduceAdd, Nat.reduceMul, Nat.reduceSub, Nat.reduceMod, Nat.reduceDiv, Nat.reduceEqDiff, Nat.reduceLT, Nat.reduceLeDiff, Int32.reduceAdd, Int32.reduceSub, Int32.reduceMul, Int32.reduceDiv, Int32.reduceMod, Int32.reduceOfNat, Int32.reduceOfInt, Int32.reduceLT, Int32.reduceLE, Int32.reduceToNatClampNeg, Int32.reduceToInt]
    · simp (decide := true) (implicitDefEqProofs := false) only [f_X12_told, isDial_at, t, zin i 14 hi (by decide), ztn i (by omega), g2, zO, zR, zA, zT, zu1, zu2, zu3, zu4, gI, gL, pI, pL, pZ, aI, aL, sI, sZ, sL, Option.bind_some, Option.map_some, if_true, if_false, ite_true, ite_false, true_and, and_true, false_and, and_false, or_true, true_or, or_false, false_or, and_self, not_true_eq_false, not_false_eq_true, ↓reduceIte, reduceIte, Nat.reduceAdd, Nat.reduceMul, Nat.reduceSub, Nat.reduceMod, Nat.reduceDiv, Nat.reduceEqDiff, Nat.reduceLT, Nat.reduceLeDiff, Int32.reduceAdd, Int32.reduceSub, Int32.reduceMul, Int32.reduceDiv, Int32.reduceMod, Int32.reduceOfNat, Int32.reduceOfInt, Int32.reduceLT, Int32.reduceLE, Int32.reduceToNatClampNeg, Int32.reduceToInt]

