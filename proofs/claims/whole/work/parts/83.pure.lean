/-- a push cut to a whole -/
def wsh (c : Nat → Nat → Int) (p : Nat) : Int := (shF c p).tdiv (blF c)
theorem wholeShare_at {c : Nat → Nat → Int} {μ : Mem} (b : BC c) (w : none3 c = 0) (j : JO c μ) {p : Nat} (hp : p < 4) : f_X3_wholeShare SX 55 (Int32.ofNat p) μ = some (Int64.ofInt (wsh c p), μ) := by
  obtain ⟨q1, q2, -⟩ := j
  have q1 := q1 p hp
  have bp := bl_pos w
  obtain ⟨-, B1, B2, -, -⟩ := F_b b
  have B1 := B1 p hp
  have z : (Int64.ofInt (blF c) ≤ 0) = False := eq_false (fun g => by have := (yle0 (blF c) (by omega) (by omega)).mp g; omega)
  have d := ldiv_at (shF c p) (blF c) (by omega) (by omega) (by omega) (by omega) (by omega)
  simp (decide := true) (implicitDefEqProofs := false) only [f_X3_wholeShare, q1, q2, z, zin p 4 hp (by decide), ztn p (by omega), d, zO, zR, zA, zT, zu1, zu2, zu3, zu4, gI, gL, pI, pL, pZ, aI, aL, sI, sZ, sL, Option.bind_some, Option.map_some, if_true, if_false, ite_true, ite_false, true_and, and_true, false_and, and_false, or_true, true_or, or_false, false_or, and_self, not_true_eq_false, not_false_eq_true, ↓reduceIte, reduceIte, Nat.reduceAdd, Nat.reduceMul, Nat.reduceSub, Nat.reduceMod, Nat.reduceDiv, Nat.reduceEqDiff, Nat.reduceLT, Nat.reduceLeDiff, Int32.reduceAdd, Int32.reduceSub, Int32.reduceMul, Int32.reduceDiv, Int32.reduceMod, Int32.reduceOfNat, Int32.reduceOfInt, Int32.reduceLT, Int32.reduceLE, Int32.reduceToNatClampNeg, Int32.reduceToInt]
  rfl
theorem push_div {c : Nat → Nat → Int} {μ : Mem} (b : BC c) (w : none3 c = 0) {p : Nat} (hp : p < 4) : o_ldiv (Int64.ofInt (DD c * shF c p)) (Int64.ofInt (DD c * blF c)) = some (Int64.ofInt (wsh c p)) := by
  have bp := bl_pos w
  have dp := (DD_pos w).1
  obtain ⟨-, -, -, B3, B4⟩ := F_b b
  have B3 := B3 p hp
  have dbp : 0 < DD c * blF c := Int.mul_pos dp bp
  rw [ldiv_at _ _ (by omega) (by omega) (by omega) (by omega) (by omega), Int.mul_tdiv_mul_of_pos _ _ dp]
  rfl
def eqS (c : Nat → Nat → Int) (row : Nat → Int64) : Prop := ((row 0 = Int64.ofInt (wsh c 0) ∧ row 1 = Int64.ofInt (wsh c 1)) ∧ row 2 = Int64.ofInt (wsh c 2)) ∧ row 3 = Int64.ofInt (wsh c 3)
theorem sharesAre_at {c : Nat → Nat → Int} {μ : Mem} (b : BC c) (w : none3 c = 0) (j : JO c μ) {l i : Nat} (hl : l < 4) (hi : i + 4 ≤ 30) {row : Nat → Int64} (hr : ∀ k, k < 4 → μ.2 (76 + l) (i + k) = row k) : ((eqS c row) ∧ f_X3_sharesAre SX 55 (76 + l) (Int32.ofNat i) μ = some (1, μ)) ∨ (¬ eqS c row ∧ f_X3_sharesAre SX 55 (76 + l) (Int32.ofNat i) μ = some (0, μ)) := by
  have r2 := (aRr l hl).2
  have st : ∀ self k, k < 4 → l_X3_sharesAre_2 SX 55 (76 + l) (Int32.ofNat i) self (Int32.ofNat k, μ) = if row k = Int64.ofInt (wsh c k) then self (Int32.ofNat (k + 1), μ) else some (0, μ) := by
    intro self k hk
    have ws := wholeShare_at b w j hk
    have ad : Int32.ofNat i + Int32.ofNat k = Int32.ofNat (i + k) := (Int32.ofNat_add i k).symm
    have g := hr k hk
    by_cases t : row k = Int64.ofInt (wsh c k)
    · simp (decide := true) (implicitDefEqProofs := false) only [l_X3_sharesAre_2, i4c k hk, r2, ad, zin (i + k) 30 (by omega) (by decide), ztn (i + k) (by omega), g, ws, t, ofN1 k, zO, zR, zA, zT, zu1, zu2, zu3, zu4, gI, gL, pI, pL, pZ, aI, aL, sI, sZ, sL, Option.bind_some, Option.map_some, if_true, if_false, ite_true, ite_false, true_and, and_true, false_and, and_false, or_true, true_or, or_false, false_or, and_self, not_true_eq_false, not_false_eq_true, ↓reduceIte, reduceIte, Nat.reduceAdd, Nat.reduceMul, Nat.reduceSub, Nat.reduceMod, Nat.reduceDiv, Nat.reduceEqDiff, Nat.reduceLT, Nat.reduceLeDiff, Int32.reduceAdd, Int32.reduceSub, Int32.reduceMul, Int32.reduceDiv, Int32.reduceMod, Int32.reduceOfNat, Int32.reduceOfInt, Int32.reduceLT, Int32.reduceLE, Int32.reduceToNatClampNeg, Int32.reduceToInt]
    · simp (decide := true) (implicitDefEqProofs := false) only [l_X3_sharesAre_2, i4c k hk, r2, ad, zin (i + k) 30 (by omega) (by decide), ztn (i + k) (by omega), g, ws, t, ofN1 k, zO, zR, zA, zT, zu1, zu2, zu3, zu4, gI, gL, pI, pL, pZ, aI, aL, sI, sZ, sL, Option.bind_some, Option.map_some, if_true, if_false, ite_true, ite_false, true_and, and_true, false_and, and_false, or_true, true_or, or_false, false_or, and_self, not_true_eq_false, not_false_eq_true, ↓reduceIte, reduceIte, Nat.reduceAdd, Nat.reduceMul, Nat.reduceSub, Nat.reduceMod, Nat.reduceDiv, Nat.reduceEqDiff, Nat.reduceLT, Nat.reduceLeDiff, Int32.reduceAdd, Int32.reduceSub, Int32.reduceMul, Int32.reduceDiv, Int32.reduceMod, Int32.reduceOfNat, Int32.reduceOfInt, Int32.reduceLT, Int32.reduceLE, Int32.reduceToNatClampNeg, Int32.reduceToInt]
  have e0 : f_X3_sharesAre SX 55 (76 + l) (Int32.ofNat i) μ = lpN (l_X3_sharesAre_2 SX 55 (76 + l) (Int32.ofNat i)) 5000 (Int32.ofNat 0, μ) := by
    unfold f_X3_sharesAre; rw [if_pos (by decide +kernel)]; rfl
  have ex : ∀ self, l_X3_sharesAre_2 SX 55 (76 + l) (Int32.ofNat i) self (Int32.ofNat 4, μ) = some (1, μ) := fun _ => rfl
  rw [e0, zlp, st _ 0 (by decide), zlp, st _ 1 (by decide), zlp, st _ 2 (by decide), zlp, st _ 3 (by decide), zlp, ex]
  unfold eqS
  by_cases h0 : row 0 = Int64.ofInt (wsh c 0) <;> by_cases h1 : row 1 = Int64.ofInt (wsh c 1) <;> by_cases h2 : row 2 = Int64.ofInt (wsh c 2) <;> by_cases h3 : row 3 = Int64.ofInt (wsh c 3) <;> simp [h0, h1, h2, h3]
theorem isSeen_at {c : Nat → Nat → Int} {μ : Mem} (h : MM c μ) (b : BC c) {l i : Nat} (hl : l < 4) (hi : i + 4 ≤ 30) {row : Nat → Int64} (hr : ∀ k, k < 4 → μ.2 106 (30 * l + i + k) = row k) : ∃ ν, FM uP uJ μ ν ∧ (((none3 c = 0 ∧ eqS c row) ∧ f_X12_isSeen SX 81 (Int32.ofNat (30 * l + i)) μ = some (1, ν)) ∨ (¬ (none3 c = 0 ∧ eqS c row) ∧ f_X12_isSeen SX 81 (Int32.ofNat (30 * l + i)) μ = some (0, ν))) := by
  obtain ⟨ν, p, f, j⟩ := pushes_at h b
  refine ⟨ν, f, ?_⟩
  by_cases w : none3 c = 0
  · obtain ⟨⟨q1, q2⟩, -⟩ := j w
    have e106 : ν.2 106 = μ.2 106 := (f.1 106 (by decide) (by unfold uP; omega)).2
    have st : ∀ self k, k < 4 → l_X12_isSeen_11 SX 81 (Int32.ofNat (30 * l + i)) self (Int32.ofNat k, ν) = if Int64.ofInt (wsh c k) = row k then self (Int32.ofNat (k + 1), ν) else some (0, ν) := by
      intro self k hk
      have pd := push_div (μ := μ) b w hk
      have q1 := q1 k hk
      have ad : Int32.ofNat (30 * l + i) + Int32.ofNat k = Int32.ofNat (30 * l + i + k) := (Int32.ofNat_add _ k).symm
      have g : ν.2 106 (30 * l + i + k) = row k := by rw [e106]; exact hr k hk
      by_cases t : Int64.ofInt (wsh c k) = row k
      · simp (decide := true) (implicitDefEqProofs := false) only [l_X12_isSeen_11, i4c k hk, zin k 4 hk (by decide), ztn k (by omega), q1, q2, pd, ad, zin (30 * l + i + k) 120 (by omega) (by decide), ztn (30 * l + i + k) (by omega), g, t, ofN1 k, zO, zR, zA, zT, zu1, zu2, zu3, zu4, gI, gL, pI, pL, pZ, aI, aL, sI, sZ, sL, Option.bind_some, Option.map_some, if_true, if_false, ite_true, ite_false, true_and, and_true, false_and, and_false, or_true, true_or, or_false, false_or, and_self, not_true_eq_false, not_false_eq_true, ↓reduceIte, reduceIte, Nat.reduceAdd, Nat.reduceMul, Nat.reduceSub, Nat.reduceMod, Nat.reduceDiv, Nat.reduceEqDiff, Nat.reduceLT, Nat.reduceLeDiff, Int32.reduceAdd, Int32.reduceSub, Int32.reduceMul, Int32.reduceDiv, Int32.reduceMod, Int32.reduceOfNat, Int32.reduceOfInt, Int32.reduceLT, Int32.reduceLE, Int32.reduceToNatClampNeg, Int32.reduceToInt]
      · simp (decide := true) (implicitDefEqProofs := false) only [l_X12_isSeen_11, i4c k hk, zin k 4 hk (by decide), ztn k (by omega), q1, q2, pd, ad, zin (30 * l + i + k) 120 (by omega) (by decide), ztn (30 * l + i + k) (by omega), g, t, ofN1 k, zO, zR, zA, zT, zu1, zu2, zu3, zu4, gI, gL, pI, pL, pZ, aI, aL, sI, sZ, sL, Option.bind_some, Option.map_some, if_true, if_false, ite_true, ite_false, true_and, and_true, false_and, and_false, or_true, true_or, or_false, false_or, and_self, not_true_eq_false, not_false_eq_true, ↓reduceIte, reduceIte, Nat.reduceAdd, Nat.reduceMul, Nat.reduceSub, Nat.reduceMod, Nat.reduceDiv, Nat.reduceEqDiff, Nat.reduceLT, Nat.reduceLeDiff, Int32.reduceAdd, Int32.reduceSub, Int32.reduceMul, Int32.reduceDiv, Int32.reduceMod, Int32.reduceOfNat, Int32.reduceOfInt, Int32.reduceLT, Int32.reduceLE, Int32.reduceToNatClampNeg, Int32.reduceToInt]
    have e0 : f_X12_isSeen SX 81 (Int32.ofNat (30 * l + i)) μ = lpN (l_X12_isSeen_11 SX 81 (Int32.ofNat (30 * l + i))) 5000 (Int32.ofNat 0, ν) := by
      simp (decide := true) (implicitDefEqProofs := false) only [f_X12_isSeen, p, none3_le, w, zO, zR, zA, zT, zu1, zu2, zu3, zu4, gI, gL, pI, pL, pZ, aI, aL, sI, sZ, sL, Option.bind_some, Option.map_some, if_true, if_false, ite_true, ite_false, true_and, and_true, false_and, and_false, or_true, true_or, or_false, false_or, and_self, not_true_eq_false, not_false_eq_true, ↓reduceIte, reduceIte, Nat.reduceAdd, Nat.reduceMul, Nat.reduceSub, Nat.reduceMod, Nat.reduceDiv, Nat.reduceEqDiff, Nat.reduceLT, Nat.reduceLeDiff, Int32.reduceAdd, Int32.reduceSub, Int32.reduceMul, Int32.reduceDiv, Int32.reduceMod, Int32.reduceOfNat, Int32.reduceOfInt, Int32.reduceLT, Int32.reduceLE, Int32.reduceToNatClampNeg, Int32.reduceToInt]
      rfl
    have ex : ∀ self, l_X12_isSeen_11 SX 81 (Int32.ofNat (30 * l + i)) self (Int32.ofNat 4, ν) = some (1, ν) := fun _ => rfl
    rw [e0, zlp, st _ 0 (by decide), zlp, st _ 1 (by decide), zlp, st _ 2 (by decide), zlp, st _ 3 (by decide), zlp, ex]
    unfold eqS
    by_cases h0 : row 0 = Int64.ofInt (wsh c 0) <;> by_cases h1 : row 1 = Int64.ofInt (wsh c 1) <;> by_cases h2 : row 2 = Int64.ofInt (wsh c 2) <;> by_cases h3 : row 3 = Int64.ofInt (wsh c 3) <;> simp [w, h0, h1, h2, h3, eq_comm]
  · right
    refine ⟨fun g => w g.1, ?_⟩
    simp (decide := true) (implicitDefEqProofs := false) only [f_X12_isSeen, p, none3_le, w, zO, zR, zA, zT, zu1, zu2, zu3, zu4, gI, gL, pI, pL, pZ, aI, aL, sI, sZ, sL, Option.bind_some, Option.map_some, if_true, if_false, ite_true, ite_false, true_and, and_true, false_and, and_false, or_true, true_or, or_false, false_or, and_self, not_true_eq_false, not_false_eq_true, ↓reduceIte, reduceIte, Nat.reduceAdd, Nat.reduceMul, Nat.reduceSub, Nat.reduceMod, Nat.reduceDiv, Nat.reduceEqDiff, Nat.reduceLT, Nat.reduceLeDiff, Int32.reduceAdd, Int32.reduceSub, Int32.reduceMul, Int32.reduceDiv, Int32.reduceMod, Int32.reduceOfNat, Int32.reduceOfInt, Int32.reduceLT, Int32.reduceLE, Int32.reduceToNatClampNeg, Int32.reduceToInt]
def cf (P : Nat → Bool) : Nat → Nat → Nat
  | 0, _ => 0
  | n + 1, i => (if P i = true then 1 else 0) + cf P n (i + 1)
theorem cf_b (P : Nat → Bool) : ∀ n i, cf P n i ≤ n
  | 0, _ => Nat.le_refl _
  | n + 1, i => by
    have := cf_b P n (i + 1)
    show (if P i = true then 1 else 0) + cf P n (i + 1) ≤ n + 1
    split <;> omega
theorem cf_t {P : Nat → Bool} {n i : Nat} (h : P i = true) : cf P (n + 1) i = cf P n (i + 1) + 1 ∧ leastV P (n + 1) i = (i : Int) := by
  refine ⟨?_, ?_⟩
  · show (if P i = true then 1 else 0) + cf P n (i + 1) = _
    rw [if_pos h]; omega
  · show (if P i = true then (i : Int) else leastV P n (i + 1)) = _
    rw [if_pos h]
theorem cf_f {P : Nat → Bool} {n i : Nat} (h : ¬ P i = true) : cf P (n + 1) i = cf P n (i + 1) ∧ leastV P (n + 1) i = leastV P n (i + 1) := by
  refine ⟨?_, ?_⟩
  · show (if P i = true then 1 else 0) + cf P n (i + 1) = _
    rw [if_neg h]; omega
  · show (if P i = true then (i : Int) else leastV P n (i + 1)) = _
    rw [if_neg h]
def snB (c : Nat → Nat → Int) (row : Nat → Int64) (v : Nat) : Bool := decide (none3 (up c 8 3 (v : Int)) = 0 ∧ ((row 0 = Int64.ofInt (wsh (up c 8 3 (v : Int)) 0) ∧ row 1 = Int64.ofInt (wsh (up c 8 3 (v : Int)) 1)) ∧ row 2 = Int64.ofInt (wsh (up c 8 3 (v : Int)) 2)) ∧ row 3 = Int64.ofInt (wsh (up c 8 3 (v : Int)) 3))
theorem snB_iff (c : Nat → Nat → Int) (row : Nat → Int64) (v : Nat) : snB c row v = true ↔ none3 (up c 8 3 (v : Int)) = 0 ∧ eqS (up c 8 3 (v : Int)) row := decide_eq_true_iff
theorem BC.ld {c : Nat → Nat → Int} (b : BC c) {v : Nat} (hv : v < 1000) : BC (up c 8 3 (v : Int)) := b.dial ⟨by decide, by decide, by decide, by show (0 : Int) ≤ _; omega, by show _ ≤ (9999 : Int); omega⟩
theorem seenX {c : Nat → Nat → Int} (b : BC c) {l i : Nat} (hl : l < 4) (hi : i + 4 ≤ 30) {row : Nat → Int64} (a3 : Int32) : ∀ m v, v + m = 1000 → ∀ u μ (f : Nat) (ls z0 : Int), f ≤ v → (f = 0 → ls = -5) → (∀ k, k < 4 → μ.2 (76 + l) (i + k) = row k) → CC 37 (up c 8 3 z0) μ → ∃ ν, lpN (l_X11_seen_75 SX 0 (Int32.ofNat l) (Int32.ofNat i) a3) (u + m + 1) (Int32.ofNat f, Int32.ofInt ls, Int32.ofNat v, μ) = some (if a3 = 0 then Int32.ofNat (f + cf (snB c row) m v) else Int32.ofInt (if f = 0 then leastV (snB c row) m v else ls), ν) ∧ FM scP scJ μ ν := by
  have r1 := (aRr l hl).1
  intro m
  induction m with
  | zero =>
    intro v hv u μ f ls z0 hf hls hr h
    have e : v = 1000 := by omega
    subst e
    refine ⟨μ, ?_, FM.rf⟩
    rw [zlp]
    have q : (if f = 0 then leastV (snB c row) 0 1000 else ls) = ls := by
      by_cases t : f = 0
      · rw [if_pos t, hls t]; rfl
      · rw [if_neg t]
    rw [q]
    by_cases t : a3 = 0
    · rw [if_pos t]; simp (decide := true) (implicitDefEqProofs := false) only [l_X11_seen_75, t, zO, zR, zA, zT, zu1, zu2, zu3, zu4, gI, gL, pI, pL, pZ, aI, aL, sI, sZ, sL, Option.bind_some, Option.map_some, if_true, if_false, ite_true, ite_false, true_and, and_true, false_and, and_false, or_true, true_or, or_false, false_or, and_self, not_true_eq_false, not_false_eq_true, ↓reduceIte, reduceIte, Nat.reduceAdd, Nat.reduceMul, Nat.reduceSub, Nat.reduceMod, Nat.reduceDiv, Nat.reduceEqDiff, Nat.reduceLT, Nat.reduceLeDiff, Int32.reduceAdd, Int32.reduceSub, Int32.reduceMul, Int32.reduceDiv, Int32.reduceMod, Int32.reduceOfNat, Int32.reduceOfInt, Int32.reduceLT, Int32.reduceLE, Int32.reduceToNatClampNeg, Int32.reduceToInt]; rfl
    · rw [if_neg t]; simp (decide := true) (implicitDefEqProofs := false) only [l_X11_seen_75, t, zO, zR, zA, zT, zu1, zu2, zu3, zu4, gI, gL, pI, pL, pZ, aI, aL, sI, sZ, sL, Option.bind_some, Option.map_some, if_true, if_false, ite_true, ite_false, true_and, and_true, false_and, and_false, or_true, true_or, or_false, false_or, and_self, not_true_eq_false, not_false_eq_true, ↓reduceIte, reduceIte, Nat.reduceAdd, Nat.reduceMul, Nat.reduceSub, Nat.reduceMod, Nat.reduceDiv, Nat.reduceEqDiff, Nat.reduceLT, Nat.reduceLeDiff, Int32.reduceAdd, Int32.reduceSub, Int32.reduceMul, Int32.reduceDiv, Int32.reduceMod, Int32.reduceOfNat, Int32.reduceOfInt, Int32.reduceLT, Int32.reduceLE, Int32.reduceToNatClampNeg, Int32.reduceToInt]
  | succ m ih =>
    intro v hv u μ f ls z0 hf hls hr h
    have D : CC 37 (up c 8 3 (v : Int)) (upI μ 54 3 (Int32.ofNat v)) := by
      have := h.dial (i := 3) (z := (v : Int)) (v := Int32.ofNat v) rfl
      rw [up_up] at this
      exact this
    have B := b.ld (v := v) (by omega)
    obtain ⟨ν1, p1, f1, j1⟩ := finds_at ck37 D B
    have F1 : FM scP scJ μ ν1 := sc54.tr (sc55 f1)
    have D1 := D.f37 f1
    have e76 : ν1.2 (76 + l) = μ.2 (76 + l) := (F1.1 _ (by omega) (by unfold scP; omega)).2
    have hr1 : ∀ k, k < 4 → ν1.2 (76 + l) (i + k) = row k := fun k hk => by rw [e76]; exact hr k hk
    have lf : ((1000 : Int32) ≤ Int32.ofNat v) = False := leF (n := 1000) (by omega) (by decide)
    have f0 : (Int32.ofNat f = 0) = (f = 0) := neN (b := 0) (by omega) (by decide)
    have miss : ¬ snB c row v = true → ∃ ν, lpN (l_X11_seen_75 SX 0 (Int32.ofNat l) (Int32.ofNat i) a3) (u + m + 1) (Int32.ofNat f, Int32.ofInt ls, Int32.ofNat (v + 1), ν1) = some (if a3 = 0 then Int32.ofNat (f + cf (snB c row) (m + 1) v) else Int32.ofInt (if f = 0 then leastV (snB c row) (m + 1) v else ls), ν) ∧ FM scP scJ μ ν := fun nb => by
      obtain ⟨ν, p, g⟩ := ih (v + 1) (by omega) u ν1 f ls (v : Int) (by omega) hls hr1 D1
      rw [(cf_f nb).1, (cf_f nb).2]
      exact ⟨ν, p, F1.tr g⟩
    rw [show u + (m + 1) + 1 = (u + m + 1) + 1 from rfl, zlp]
    by_cases w : none3 (up c 8 3 (v : Int)) = 0
    · rw [if_pos w] at p1
      rcases sharesAre_at B w (j1 w) hl hi hr1 with ⟨q, s⟩ | ⟨q, s⟩
      · have hb : snB c row v = true := (snB_iff c row v).mpr ⟨w, q⟩
        by_cases t : f = 0
        · obtain ⟨ν, p, g⟩ := ih (v + 1) (by omega) u ν1 (f + 1) (v : Int) (v : Int) (by omega) (by omega) hr1 D1
          rw [if_neg (show ¬ f + 1 = 0 by omega)] at p
          rw [(cf_t hb).1, (cf_t hb).2, if_pos t, show f + (cf (snB c row) m (v + 1) + 1) = f + 1 + cf (snB c row) m (v + 1) by omega]
          refine ⟨ν, ?_, F1.tr g⟩
          simp (decide := true) (implicitDefEqProofs := false) only [l_X11_seen_75, lf, p1, r1, s, f0, t, ofN1, zO, zR, zA, zT, zu1, zu2, zu3, zu4, gI, gL, pI, pL, pZ, aI, aL, sI, sZ, sL, Option.bind_some, Option.map_some, if_true, if_false, ite_true, ite_false, true_and, and_true, false_and, and_false, or_true, true_or, or_false, false_or, and_self, not_true_eq_false, not_false_eq_true, ↓reduceIte, reduceIte, Nat.reduceAdd, Nat.reduceMul, Nat.reduceSub, Nat.reduceMod, Nat.reduceDiv, Nat.reduceEqDiff, Nat.reduceLT, Nat.reduceLeDiff, Int32.reduceAdd, Int32.reduceSub, Int32.reduceMul, Int32.reduceDiv, Int32.reduceMod, Int32.reduceOfNat, Int32.reduceOfInt, Int32.reduceLT, Int32.reduceLE, Int32.reduceToNatClampNeg, Int32.reduceToInt]
          rw [t] at p
          exact p
        · obtain ⟨ν, p, g⟩ := ih (v + 1) (by omega) u ν1 (f + 1) ls (v : Int) (by omega) (by omega) hr1 D1
          rw [if_neg (show ¬ f + 1 = 0 by omega)] at p
          rw [(cf_t hb).1, (cf_t hb).2, if_neg t, show f + (cf (snB c row) m (v + 1) + 1) = f + 1 + cf (snB c row) m (v + 1) by omega]
          refine ⟨ν, ?_, F1.tr g⟩
          simp (decide := true) (implicitDefEqProofs := false) only [l_X11_seen_75, lf, p1, r1, s, f0, t, ofN1, zO, zR, zA, zT, zu1, zu2, zu3, zu4, gI, gL, pI, pL, pZ, aI, aL, sI, sZ, sL, Option.bind_some, Option.map_some, if_true, if_false, ite_true, ite_false, true_and, and_true, false_and, and_false, or_true, true_or, or_false, false_or, and_self, not_true_eq_false, not_false_eq_true, ↓reduceIte, reduceIte, Nat.reduceAdd, Nat.reduceMul, Nat.reduceSub, Nat.reduceMod, Nat.reduceDiv, Nat.reduceEqDiff, Nat.reduceLT, Nat.reduceLeDiff, Int32.reduceAdd, Int32.reduceSub, Int32.reduceMul, Int32.reduceDiv, Int32.reduceMod, Int32.reduceOfNat, Int32.reduceOfInt, Int32.reduceLT, Int32.reduceLE, Int32.reduceToNatClampNeg, Int32.reduceToInt]
          exact p
      · obtain ⟨ν, p, g⟩ := miss (fun hb => q ((snB_iff c row v).mp hb).2)
        refine ⟨ν, ?_, g⟩
        simp (decide := true) (implicitDefEqProofs := false) only [l_X11_seen_75, lf, p1, r1, s, ofN1, zO, zR, zA, zT, zu1, zu2, zu3, zu4, gI, gL, pI, pL, pZ, aI, aL, sI, sZ, sL, Option.bind_some, Option.map_some, if_true, if_false, ite_true, ite_false, true_and, and_true, false_and, and_false, or_true, true_or, or_false, false_or, and_self, not_true_eq_false, not_false_eq_true, ↓reduceIte, reduceIte, Nat.reduceAdd, Nat.reduceMul, Nat.reduceSub, Nat.reduceMod, Nat.reduceDiv, Nat.reduceEqDiff, Nat.reduceLT, Nat.reduceLeDiff, Int32.reduceAdd, Int32.reduceSub, Int32.reduceMul, Int32.reduceDiv, Int32.reduceMod, Int32.reduceOfNat, Int32.reduceOfInt, Int32.reduceLT, Int32.reduceLE, Int32.reduceToNatClampNeg, Int32.reduceToInt]
        exact p
    · rw [if_neg w] at p1
      obtain ⟨ν, p, g⟩ := miss (fun hb => w ((snB_iff c row v).mp hb).1)
      refine ⟨ν, ?_, g⟩
      simp (decide := true) (implicitDefEqProofs := false) only [l_X11_seen_75, lf, p1, ofN1, zO, zR, zA, zT, zu1, zu2, zu3, zu4, gI, gL, pI, pL, pZ, aI, aL, sI, sZ, sL, Option.bind_some, Option.map_some, if_true, if_false, ite_true, ite_false, true_and, and_true, false_and, and_false, or_true, true_or, or_false, false_or, and_self, not_true_eq_false, not_false_eq_true, ↓reduceIte, reduceIte, Nat.reduceAdd, Nat.reduceMul, Nat.reduceSub, Nat.reduceMod, Nat.reduceDiv, Nat.reduceEqDiff, Nat.reduceLT, Nat.reduceLeDiff, Int32.reduceAdd, Int32.reduceSub, Int32.reduceMul, Int32.reduceDiv, Int32.reduceMod, Int32.reduceOfNat, Int32.reduceOfInt, Int32.reduceLT, Int32.reduceLE, Int32.reduceToNatClampNeg, Int32.reduceToInt]
      exact p
theorem seenM {c : Nat → Nat → Int} (b : BC c) {l i : Nat} (hl : l < 4) (hi : i + 4 ≤ 30) {row : Nat → Int64} (a3 : Int32) : ∀ k, k ≤ 1000 → ∀ u μ (z0 : Int), (∀ k, k < 4 → μ.2 106 (30 * l + i + k) = row k) → MM (up c 8 3 z0) μ → ∃ ν, lpN (l_X12_seen_74 SX 81 (Int32.ofNat l) (Int32.ofNat i) a3 (Int32.ofInt (c 8 3))) (u + k + 1) (Int32.ofNat (cf (snB c row) (1000 - k) k), Int32.ofInt (leastV (snB c row) (1000 - k) k), Int32.ofInt ((k : Int) - 1), μ) = some (if a3 = 0 then Int32.ofNat (cf (snB c row) 1000 0) else Int32.ofInt (leastV (snB c row) 1000 0), ν) ∧ FM tmP uJ μ ν ∧ MM c ν := by
  have res : ∀ μ (l : Int), MM (up c 8 3 l) μ → MM c (upI μ 90 3 (Int32.ofInt (c 8 3))) := fun μ l h => by
    have := h.dial (i := 3) (z := c 8 3) (v := Int32.ofInt (c 8 3)) rfl
    rw [up_id] at this
    exact this
  intro k
  induction k with
  | zero =>
    intro hk u μ z0 hr h
    refine ⟨_, ?_, tm90, res _ _ h⟩
    rw [zlp]
    have e : ((0 : Nat) : Int) - 1 = -1 := by omega
    have c1 : (Int32.ofInt (-1) < 0) = True := eq_true (by decide)
    rw [e]
    by_cases t : a3 = 0
    · rw [if_pos t]; simp (decide := true) (implicitDefEqProofs := false) only [l_X12_seen_74, b_X12_seen_113, c1, t, zO, zR, zA, zT, zu1, zu2, zu3, zu4, gI, gL, pI, pL, pZ, aI, aL, sI, sZ, sL, Option.bind_some, Option.map_some, if_true, if_false, ite_true, ite_false, true_and, and_true, false_and, and_false, or_true, true_or, or_false, false_or, and_self, not_true_eq_false, not_false_eq_true, ↓reduceIte, reduceIte, Nat.reduceAdd, Nat.reduceMul, Nat.reduceSub, Nat.reduceMod, Nat.reduceDiv, Nat.reduceEqDiff, Nat.reduceLT, Nat.reduceLeDiff, Int32.reduceAdd, Int32.reduceSub, Int32.reduceMul, Int32.reduceDiv, Int32.reduceMod, Int32.reduceOfNat, Int32.reduceOfInt, Int32.reduceLT, Int32.reduceLE, Int32.reduceToNatClampNeg, Int32.reduceToInt]
    · rw [if_neg t]; simp (decide := true) (implicitDefEqProofs := false) only [l_X12_seen_74, b_X12_seen_113, c1, t, zO, zR, zA, zT, zu1, zu2, zu3, zu4, gI, gL, pI, pL, pZ, aI, aL, sI, sZ, sL, Option.bind_some, Option.map_some, if_true, if_false, ite_true, ite_false, true_and, and_true, false_and, and_false, or_true, true_or, or_false, false_or, and_self, not_true_eq_false, not_false_eq_true, ↓reduceIte, reduceIte, Nat.reduceAdd, Nat.reduceMul, Nat.reduceSub, Nat.reduceMod, Nat.reduceDiv, Nat.reduceEqDiff, Nat.reduceLT, Nat.reduceLeDiff, Int32.reduceAdd, Int32.reduceSub, Int32.reduceMul, Int32.reduceDiv, Int32.reduceMod, Int32.reduceOfNat, Int32.reduceOfInt, Int32.reduceLT, Int32.reduceLE, Int32.reduceToNatClampNeg, Int32.reduceToInt]
  | succ k ih =>
    intro hk u μ z0 hr h
    have e : ((k + 1 : Nat) : Int) - 1 = (k : Int) := by omega
    rw [e, show u + (k + 1) + 1 = (u + k + 1) + 1 from rfl, zlp]
    have c1 : (Int32.ofInt (k : Int) < 0) = False := eq_false (fun g => by
      have := (ylt32 (k : Int) 0 (by omega) (by omega) (by omega) (by omega)).mp g
      omega)
    have D : MM (up c 8 3 (k : Int)) (upI μ 90 3 (Int32.ofInt (k : Int))) := by
      have := h.dial (i := 3) (z := (k : Int)) (v := Int32.ofInt (k : Int)) rfl
      rw [up_up] at this
      exact this
    obtain ⟨ν1, f1, q⟩ := isSeen_at D (b.ld (v := k) (by omega)) hl hi (row := row) hr
    have F1 : FM tmP uJ μ ν1 := tm90.tr (tmU f1)
    have e106 : ν1.2 106 = μ.2 106 := (F1.1 106 (by decide) (by unfold tmP uP; omega)).2
    have n1 : Int32.ofInt (k : Int) + (-1) = Int32.ofInt ((k : Int) - 1) := by rw [ym1, y32a]; rfl
    obtain ⟨ν, p, g, m⟩ := ih (by omega) u ν1 (k : Int) (fun k hk => by rw [e106]; exact hr k hk) (D.u f1)
    refine ⟨ν, ?_, F1.tr g, m⟩
    rw [show 1000 - k = (1000 - (k + 1)) + 1 by omega] at p
    rcases q with ⟨q, s⟩ | ⟨q, s⟩
    · have hb : snB c row k = true := (snB_iff c row k).mpr q
      rw [(cf_t hb).1, (cf_t hb).2] at p
      simp (decide := true) (implicitDefEqProofs := false) only [l_X12_seen_74, c1, i30, s, n1, ofN1, zO, zR, zA, zT, zu1, zu2, zu3, zu4, gI, gL, pI, pL, pZ, aI, aL, sI, sZ, sL, Option.bind_some, Option.map_some, if_true, if_false, ite_true, ite_false, true_and, and_true, false_and, and_false, or_true, true_or, or_false, false_or, and_self, not_true_eq_false, not_false_eq_true, ↓reduceIte, reduceIte, Nat.reduceAdd, Nat.reduceMul, Nat.reduceSub, Nat.reduceMod, Nat.reduceDiv, Nat.reduceEqDiff, Nat.reduceLT, Nat.reduceLeDiff, Int32.reduceAdd, Int32.reduceSub, Int32.reduceMul, Int32.reduceDiv, Int32.reduceMod, Int32.reduceOfNat, Int32.reduceOfInt, Int32.reduceLT, Int32.reduceLE, Int32.reduceToNatClampNeg, Int32.reduceToInt]
      exact p
    · have hb : ¬ snB c row k = true := fun g => q ((snB_iff c row k).mp g)
      rw [(cf_f hb).1, (cf_f hb).2] at p
      simp (decide := true) (implicitDefEqProofs := false) only [l_X12_seen_74, c1, i30, s, n1, ofN1, zO, zR, zA, zT, zu1, zu2, zu3, zu4, gI, gL, pI, pL, pZ, aI, aL, sI, sZ, sL, Option.bind_some, Option.map_some, if_true, if_false, ite_true, ite_false, true_and, and_true, false_and, and_false, or_true, true_or, or_false, false_or, and_self, not_true_eq_false, not_false_eq_true, ↓reduceIte, reduceIte, Nat.reduceAdd, Nat.reduceMul, Nat.reduceSub, Nat.reduceMod, Nat.reduceDiv, Nat.reduceEqDiff, Nat.reduceLT, Nat.reduceLeDiff, Int32.reduceAdd, Int32.reduceSub, Int32.reduceMul, Int32.reduceDiv, Int32.reduceMod, Int32.reduceOfNat, Int32.reduceOfInt, Int32.reduceLT, Int32.reduceLE, Int32.reduceToNatClampNeg, Int32.reduceToInt]
      exact p
theorem ok_seen {μ : Mem} (h : INV μ) (a1 a2 a3 : Int32) : OKop (f_X11_seen SX 0 a1 a2 a3) (f_X12_seen SX 81 a1 a2 a3) μ := by
  obtain ⟨c, b, h1, h2⟩ := h.1
  have bd := b.2.2.2.2.2
  have hR := h.2.2.2.2.2
  rcases wbN a1 3 (by decide) with t | ⟨t, l, hl, rfl⟩
  · simp only [Nat.reduceAdd, Nat.reduceMul, Nat.reduceMod, Int32.reduceOfNat] at t
    refine ⟨-1, μ, μ, ?_, ?_, h⟩
    · simp (decide := true) (implicitDefEqProofs := false) only [f_X11_seen, isList_at, t, zO, zR, zA, zT, zu1, zu2, zu3, zu4, gI, gL, pI, pL, pZ, aI, aL, sI, sZ, sL, Option.bind_some, Option.map_some, if_true, if_false, ite_true, ite_false, true_and, and_true, false_and, and_false, or_true, true_or, or_false, false_or, and_self, not_true_eq_false, not_false_eq_true, ↓reduceIte, reduceIte, Nat.reduceAdd, Nat.reduceMul, Nat.reduceSub, Nat.reduceMod, Nat.reduceDiv, Nat.reduceEqDiff, Nat.reduceLT, Nat.reduceLeDiff, Int32.reduceAdd, Int32.reduceSub, Int32.reduceMul, Int32.reduceDiv, Int32.reduceMod, Int32.reduceOfNat, Int32.reduceOfInt, Int32.reduceLT, Int32.reduceLE, Int32.reduceToNatClampNeg, Int32.reduceToInt]
    · simp (decide := true) (implicitDefEqProofs := false) only [f_X12_seen, isList_at, t, zO, zR, zA, zT, zu1, zu2, zu3, zu4, gI, gL, pI, pL, pZ, aI, aL, sI, sZ, sL, Option.bind_some, Option.map_some, if_true, if_false, ite_true, ite_false, true_and, and_true, false_and, and_false, or_true, true_or, or_false, false_or, and_self, not_true_eq_false, not_false_eq_true, ↓reduceIte, reduceIte, Nat.reduceAdd, Nat.reduceMul, Nat.reduceSub, Nat.reduceMod, Nat.reduceDiv, Nat.reduceEqDiff, Nat.reduceLT, Nat.reduceLeDiff, Int32.reduceAdd, Int32.reduceSub, Int32.reduceMul, Int32.reduceDiv, Int32.reduceMod, Int32.reduceOfNat, Int32.reduceOfInt, Int32.reduceLT, Int32.reduceLE, Int32.reduceToNatClampNeg, Int32.reduceToInt]
  · simp only [Nat.reduceAdd, Nat.reduceMul, Nat.reduceMod, Int32.reduceOfNat] at t
    rcases wbN a3 1 (by decide) with s | ⟨s, k, hk, rfl⟩
    · simp only [Nat.reduceAdd, Nat.reduceMul, Nat.reduceMod, Int32.reduceOfNat] at s
      refine ⟨-1, μ, μ, ?_, ?_, h⟩
      · simp (decide := true) (implicitDefEqProofs := false) only [f_X11_seen, isList_at, within_at, t, s, zO, zR, zA, zT, zu1, zu2, zu3, zu4, gI, gL, pI, pL, pZ, aI, aL, sI, sZ, sL, Option.bind_some, Option.map_some, if_true, if_false, ite_true, ite_false, true_and, and_true, false_and, and_false, or_true, true_or, or_false, false_or, and_self, not_true_eq_false, not_false_eq_true, ↓reduceIte, reduceIte, Nat.reduceAdd, Nat.reduceMul, Nat.reduceSub, Nat.reduceMod, Nat.reduceDiv, Nat.reduceEqDiff, Nat.reduceLT, Nat.reduceLeDiff, Int32.reduceAdd, Int32.reduceSub, Int32.reduceMul, Int32.reduceDiv, Int32.reduceMod, Int32.reduceOfNat, Int32.reduceOfInt, Int32.reduceLT, Int32.reduceLE, Int32.reduceToNatClampNeg, Int32.reduceToInt]
      · simp (decide := true) (implicitDefEqProofs := false) only [f_X12_seen, isList_at, in_at, t, s, zO, zR, zA, zT, zu1, zu2, zu3, zu4, gI, gL, pI, pL, pZ, aI, aL, sI, sZ, sL, Option.bind_some, Option.map_some, if_true, if_false, ite_true, ite_false, true_and, and_true, false_and, and_false, or_true, true_or, or_false, false_or, and_self, not_true_eq_false, not_false_eq_true, ↓reduceIte, reduceIte, Nat.reduceAdd, Nat.reduceMul, Nat.reduceSub, Nat.reduceMod, Nat.reduceDiv, Nat.reduceEqDiff, Nat.reduceLT, Nat.reduceLeDiff, Int32.reduceAdd, Int32.reduceSub, Int32.reduceMul, Int32.reduceDiv, Int32.reduceMod, Int32.reduceOfNat, Int32.reduceOfInt, Int32.reduceLT, Int32.reduceLE, Int32.reduceToNatClampNeg, Int32.reduceToInt]
    · simp only [Nat.reduceAdd, Nat.reduceMul, Nat.reduceMod, Int32.reduceOfNat] at s
      have hl4 : l < 4 := by omega
      obtain ⟨z, z1, z2, e1, e2⟩ := hR.len hl4
      have i1 := zin l 4 hl4 (by decide)
      have i2 := ztn l (by omega)
      obtain ⟨ho, hz⟩ := holds_at hl4 z1 z2 e1
      by_cases w : z = -1
      · rw [if_pos w] at ho
        have hz' : (0 ≤ Int32.ofInt z) = False := by rw [hz]; exact eq_false (fun g => g w)
        refine ⟨-11, μ, μ, ?_, ?_, h⟩
        · simp (decide := true) (implicitDefEqProofs := false) only [f_X11_seen, isList_at, within_at, t, s, ho, zO, zR, zA, zT, zu1, zu2, zu3, zu4, gI, gL, pI, pL, pZ, aI, aL, sI, sZ, sL, Option.bind_some, Option.map_some, if_true, if_false, ite_true, ite_false, true_and, and_true, false_and, and_false, or_true, true_or, or_false, false_or, and_self, not_true_eq_false, not_false_eq_true, ↓reduceIte, reduceIte, Nat.reduceAdd, Nat.reduceMul, Nat.reduceSub, Nat.reduceMod, Nat.reduceDiv, Nat.reduceEqDiff, Nat.reduceLT, Nat.reduceLeDiff, Int32.reduceAdd, Int32.reduceSub, Int32.reduceMul, Int32.reduceDiv, Int32.reduceMod, Int32.reduceOfNat, Int32.reduceOfInt, Int32.reduceLT, Int32.reduceLE, Int32.reduceToNatClampNeg, Int32.reduceToInt]
        · simp (decide := true) (implicitDefEqProofs := false) only [f_X12_seen, isList_at, in_at, t, s, i1, i2, e2, hz', zO, zR, zA, zT, zu1, zu2, zu3, zu4, gI, gL, pI, pL, pZ, aI, aL, sI, sZ, sL, Option.bind_some, Option.map_some, if_true, if_false, ite_true, ite_false, true_and, and_true, false_and, and_false, or_true, true_or, or_false, false_or, and_self, not_true_eq_false, not_false_eq_true, ↓reduceIte, reduceIte, Nat.reduceAdd, Nat.reduceMul, Nat.reduceSub, Nat.reduceMod, Nat.reduceDiv, Nat.reduceEqDiff, Nat.reduceLT, Nat.reduceLeDiff, Int32.reduceAdd, Int32.reduceSub, Int32.reduceMul, Int32.reduceDiv, Int32.reduceMod, Int32.reduceOfNat, Int32.reduceOfInt, Int32.reduceLT, Int32.reduceLE, Int32.reduceToNatClampNeg, Int32.reduceToInt]
      · rw [if_neg w] at ho
        have hz' : (0 ≤ Int32.ofInt z) = True := by rw [hz]; exact eq_true w
        by_cases x : a2 < 0
        · refine ⟨-13, μ, μ, ?_, ?_, h⟩
          · simp (decide := true) (implicitDefEqProofs := false) only [f_X11_seen, isList_at, within_at, t, s, ho, x, zO, zR, zA, zT, zu1, zu2, zu3, zu4, gI, gL, pI, pL, pZ, aI, aL, sI, sZ, sL, Option.bind_some, Option.map_some, if_true, if_false, ite_true, ite_false, true_and, and_true, false_and, and_false, or_true, true_or, or_false, false_or, and_self, not_true_eq_false, not_false_eq_true, ↓reduceIte, reduceIte, Nat.reduceAdd, Nat.reduceMul, Nat.reduceSub, Nat.reduceMod, Nat.reduceDiv, Nat.reduceEqDiff, Nat.reduceLT, Nat.reduceLeDiff, Int32.reduceAdd, Int32.reduceSub, Int32.reduceMul, Int32.reduceDiv, Int32.reduceMod, Int32.reduceOfNat, Int32.reduceOfInt, Int32.reduceLT, Int32.reduceLE, Int32.reduceToNatClampNeg, Int32.reduceToInt]
          · simp (decide := true) (implicitDefEqProofs := false) only [f_X12_seen, isList_at, in_at, t, s, i1, i2, e2, hz', x, zO, zR, zA, zT, zu1, zu2, zu3, zu4, gI, gL, pI, pL, pZ, aI, aL, sI, sZ, sL, Option.bind_some, Option.map_some, if_true, if_false, ite_true, ite_false, true_and, and_true, false_and, and_false, or_true, true_or, or_false, false_or, and_self, not_true_eq_false, not_false_eq_true, ↓reduceIte, reduceIte, Nat.reduceAdd, Nat.reduceMul, Nat.reduceSub, Nat.reduceMod, Nat.reduceDiv, Nat.reduceEqDiff, Nat.reduceLT, Nat.reduceLeDiff, Int32.reduceAdd, Int32.reduceSub, Int32.reduceMul, Int32.reduceDiv, Int32.reduceMod, Int32.reduceOfNat, Int32.reduceOfInt, Int32.reduceLT, Int32.reduceLE, Int32.reduceToNatClampNeg, Int32.reduceToInt]
        · obtain ⟨i, hi, rfl⟩ : ∃ i : Nat, i < 2147483648 ∧ a2 = Int32.ofNat i := by
            have nn : 0 ≤ a2 := Int32.not_lt.mp x
            have b2 := Int32.toInt_lt a2
            exact ⟨a2.toNatClampNeg, by simp only [Int32.toNatClampNeg]; omega, zof a2 nn⟩
          have q1 : (Int32.ofNat i ≤ Int32.ofInt z - 4) = ((i : Int) + 4 ≤ z) := by
            rw [show Int32.ofInt z - 4 = Int32.ofInt (z - 4) from y32s z 4]
            have := yle32 (i : Int) (z - 4) (by omega) (by omega) (by omega) (by omega)
            exact propext ⟨fun g => by have := this.mp g; omega, fun g => this.mpr (by omega)⟩
          have q2 : ((Int32.ofNat i).toInt64 + 4 ≤ (Int32.ofInt z).toInt64) = ((i : Int) + 4 ≤ z) := by
            rw [tl32 i hi, yw z (by omega) (by omega), y64_4, y64a]
            exact propext (yle _ _ (by omega) (by omega) (by omega) (by omega))
          by_cases y : (i : Int) + 4 ≤ z
          · obtain ⟨μ1, p1, f1, d1⟩ := draft_at h1 b
            have e76 : μ1.2 (76 + l) = μ.2 (76 + l) := (f1.1 _ (by omega) (by unfold scP; omega)).2
            obtain ⟨μ2, p2, f2⟩ := seenX b hl4 (i := i) (by omega) (row := fun k => μ.2 106 (30 * l + i + k)) (Int32.ofNat k) 1000 0 (by omega) 3999 μ1 0 (-5) (c 8 3) (by omega) (fun _ => rfl) (fun k hk => by
              rw [e76, (hR l hl4).2.2 (i + k) (by omega), show 30 * l + (i + k) = 30 * l + i + k by omega]) (by rw [up_self]; exact d1)
            have F12 := f1.tr f2
            have M2 := h2.sc F12
            have e106 : μ2.2 106 = μ.2 106 := (F12.1 106 (by decide) (by unfold scP; omega)).2
            obtain ⟨μ3, p3, f3, m3⟩ := seenM b hl4 (i := i) (by omega) (row := fun k => μ.2 106 (30 * l + i + k)) (Int32.ofNat k) 1000 (Nat.le_refl _) 3999 μ2 (c 8 3) (fun k hk => by rw [e106]) (by rw [up_self]; exact M2)
            rw [if_pos rfl, Nat.zero_add] at p2
            have C2 := h1.sc F12
            have l3 := M2.2.2.2 3 (by decide)
            have e2' : μ2.1 105 l = Int32.ofInt z := by rw [(F12.1 105 (by decide) (by unfold scP; omega)).1]; exact e2
            refine ⟨(if Int32.ofNat k = 0 then Int32.ofNat (cf (snB c (fun k => μ.2 106 (30 * l + i + k))) 1000 0) else Int32.ofInt (leastV (snB c (fun k => μ.2 106 (30 * l + i + k))) 1000 0)), μ2, μ3, ?_, ?_, h.cr ((scCr F12).tr (tmCr f3)) ⟨c, b, C2.f f3 (fun q g1 g2 => ⟨by omega, by unfold tmP uP; omega⟩), m3⟩⟩
            · simp (decide := true) (implicitDefEqProofs := false) only [f_X11_seen, isList_at, within_at, t, s, ho, x, i1, i2, e1, q1, y, p1, zO, zR, zA, zT, zu1, zu2, zu3, zu4, gI, gL, pI, pL, pZ, aI, aL, sI, sZ, sL, Option.bind_some, Option.map_some, if_true, if_false, ite_true, ite_false, true_and, and_true, false_and, and_false, or_true, true_or, or_false, false_or, and_self, not_true_eq_false, not_false_eq_true, ↓reduceIte, reduceIte, Nat.reduceAdd, Nat.reduceMul, Nat.reduceSub, Nat.reduceMod, Nat.reduceDiv, Nat.reduceEqDiff, Nat.reduceLT, Nat.reduceLeDiff, Int32.reduceAdd, Int32.reduceSub, Int32.reduceMul, Int32.reduceDiv, Int32.reduceMod, Int32.reduceOfNat, Int32.reduceOfInt, Int32.reduceLT, Int32.reduceLE, Int32.reduceToNatClampNeg, Int32.reduceToInt]
              exact p2
            · simp (decide := true) (implicitDefEqProofs := false) only [f_X12_seen, isList_at, in_at, t, s, i1, i2, e2', hz', x, q2, y, l3, zO, zR, zA, zT, zu1, zu2, zu3, zu4, gI, gL, pI, pL, pZ, aI, aL, sI, sZ, sL, Option.bind_some, Option.map_some, if_true, if_false, ite_true, ite_false, true_and, and_true, false_and, and_false, or_true, true_or, or_false, false_or, and_self, not_true_eq_false, not_false_eq_true, ↓reduceIte, reduceIte, Nat.reduceAdd, Nat.reduceMul, Nat.reduceSub, Nat.reduceMod, Nat.reduceDiv, Nat.reduceEqDiff, Nat.reduceLT, Nat.reduceLeDiff, Int32.reduceAdd, Int32.reduceSub, Int32.reduceMul, Int32.reduceDiv, Int32.reduceMod, Int32.reduceOfNat, Int32.reduceOfInt, Int32.reduceLT, Int32.reduceLE, Int32.reduceToNatClampNeg, Int32.reduceToInt]
              exact p3
          · refine ⟨-13, μ, μ, ?_, ?_, h⟩
            · simp (decide := true) (implicitDefEqProofs := false) only [f_X11_seen, isList_at, within_at, t, s, ho, x, i1, i2, e1, q1, y, zO, zR, zA, zT, zu1, zu2, zu3, zu4, gI, gL, pI, pL, pZ, aI, aL, sI, sZ, sL, Option.bind_some, Option.map_some, if_true, if_false, ite_true, ite_false, true_and, and_true, false_and, and_false, or_true, true_or, or_false, false_or, and_self, not_true_eq_false, not_false_eq_true, ↓reduceIte, reduceIte, Nat.reduceAdd, Nat.reduceMul, Nat.reduceSub, Nat.reduceMod, Nat.reduceDiv, Nat.reduceEqDiff, Nat.reduceLT, Nat.reduceLeDiff, Int32.reduceAdd, Int32.reduceSub, Int32.reduceMul, Int32.reduceDiv, Int32.reduceMod, Int32.reduceOfNat, Int32.reduceOfInt, Int32.reduceLT, Int32.reduceLE, Int32.reduceToNatClampNeg, Int32.reduceToInt]
            · simp (decide := true) (implicitDefEqProofs := false) only [f_X12_seen, isList_at, in_at, t, s, i1, i2, e2, hz', x, q2, y, zO, zR, zA, zT, zu1, zu2, zu3, zu4, gI, gL, pI, pL, pZ, aI, aL, sI, sZ, sL, Option.bind_some, Option.map_some, if_true, if_false, ite_true, ite_false, true_and, and_true, false_and, and_false, or_true, true_or, or_false, false_or, and_self, not_true_eq_false, not_false_eq_true, ↓reduceIte, reduceIte, Nat.reduceAdd, Nat.reduceMul, Nat.reduceSub, Nat.reduceMod, Nat.reduceDiv, Nat.reduceEqDiff, Nat.reduceLT, Nat.reduceLeDiff, Int32.reduceAdd, Int32.reduceSub, Int32.reduceMul, Int32.reduceDiv, Int32.reduceMod, Int32.reduceOfNat, Int32.reduceOfInt, Int32.reduceLT, Int32.reduceLE, Int32.reduceToNatClampNeg, Int32.reduceToInt]
theorem JO.w {c : Nat → Nat → Int} {μ ν : Mem} (j : JO c μ) {o : Nat} (ho : o ≠ 55 ∧ o ≠ 56) (f : Fr (fun q => q = o) μ ν) : JO c ν := by
  unfold JO at *
  rw [(f 55 (by omega)).1, (f 55 (by omega)).2, (f 56 (by omega)).2]
  exact j
theorem layX {c : Nat → Nat → Int} (b : BC c) (w : none3 c = 0) {l m : Nat} (hl : l < 4) (hm : m < 2147483648) {z : Int} (hz : 0 ≤ z ∧ z ≤ 30) : ∀ n k, k + n = 4 → (k = 0 ∨ ((m + k : Nat) : Int) ≤ z) → ∀ u μ, JO c μ → μ.1 80 l = Int32.ofInt z → ∃ ν, lpN (l_X11_lay_49 SX 0 (Int32.ofNat l) (Int32.ofNat m)) (u + n + 1) (Int32.ofNat k, μ) = some (if (m : Int) + 4 ≤ z then 4 else -13, ν) ∧ Fr (fun q => q = 76 + l) μ ν ∧ ∀ j, ν.2 (76 + l) j = if m + k ≤ j ∧ j < m + 4 ∧ (j : Int) < z then Int64.ofInt (wsh c (j - m)) else μ.2 (76 + l) j := by
  obtain ⟨r1, r2⟩ := aRr l hl
  have l1 := zin l 4 hl (by decide)
  have l2 := ztn l (by omega)
  intro n
  induction n with
  | zero =>
    intro k hk hd u μ j e
    have e4 : k = 4 := by omega
    subst e4
    refine ⟨μ, ?_, Fr.rf, fun j => by rw [if_neg (by omega)]⟩
    rw [zlp, if_pos (by first | omega | exact ⟨trivial, by omega⟩ | exact ⟨trivial, trivial⟩)]
    simp (decide := true) (implicitDefEqProofs := false) only [l_X11_lay_49, zO, zR, zA, zT, zu1, zu2, zu3, zu4, gI, gL, pI, pL, pZ, aI, aL, sI, sZ, sL, Option.bind_some, Option.map_some, if_true, if_false, ite_true, ite_false, true_and, and_true, false_and, and_false, or_true, true_or, or_false, false_or, and_self, not_true_eq_false, not_false_eq_true, ↓reduceIte, reduceIte, Nat.reduceAdd, Nat.reduceMul, Nat.reduceSub, Nat.reduceMod, Nat.reduceDiv, Nat.reduceEqDiff, Nat.reduceLT, Nat.reduceLeDiff, Int32.reduceAdd, Int32.reduceSub, Int32.reduceMul, Int32.reduceDiv, Int32.reduceMod, Int32.reduceOfNat, Int32.reduceOfInt, Int32.reduceLT, Int32.reduceLE, Int32.reduceToNatClampNeg, Int32.reduceToInt]
  | succ n ih =>
    intro k hk hd u μ j e
    rw [zlp]
    have q : (Int32.ofNat m < Int32.ofInt z - Int32.ofNat k) = ((m : Int) + k < z) := by
      rw [show Int32.ofInt z - Int32.ofNat k = Int32.ofInt (z - k) from y32s z k]
      have := ylt32 (m : Int) (z - k) (by omega) (by omega) (by omega) (by omega)
      exact propext ⟨fun g => by have := this.mp g; omega, fun g => this.mpr (by omega)⟩
    by_cases t : (m : Int) + k < z
    · have ws := wholeShare_at b w j (p := k) (by omega)
      have ad : Int32.ofNat m + Int32.ofNat k = Int32.ofNat (m + k) := (Int32.ofNat_add m k).symm
      obtain ⟨ν, p, f, g⟩ := ih (k + 1) (by omega) (by omega) u (upL μ (76 + l) (m + k) (Int64.ofInt (wsh c k))) (j.w (o := 76 + l) (by omega) (Fr.uL rfl)) e
      refine ⟨ν, ?_, Fr.tr (Fr.uL rfl) f, fun x => ?_⟩
      · simp (decide := true) (implicitDefEqProofs := false) only [l_X11_lay_49, i4c k (by omega), l1, l2, e, q, t, r1, r2, ws, ad, zin (m + k) 30 (by omega) (by decide), ztn (m + k) (by omega), ofN1 k, zO, zR, zA, zT, zu1, zu2, zu3, zu4, gI, gL, pI, pL, pZ, aI, aL, sI, sZ, sL, Option.bind_some, Option.map_some, if_true, if_false, ite_true, ite_false, true_and, and_true, false_and, and_false, or_true, true_or, or_false, false_or, and_self, not_true_eq_false, not_false_eq_true, ↓reduceIte, reduceIte, Nat.reduceAdd, Nat.reduceMul, Nat.reduceSub, Nat.reduceMod, Nat.reduceDiv, Nat.reduceEqDiff, Nat.reduceLT, Nat.reduceLeDiff, Int32.reduceAdd, Int32.reduceSub, Int32.reduceMul, Int32.reduceDiv, Int32.reduceMod, Int32.reduceOfNat, Int32.reduceOfInt, Int32.reduceLT, Int32.reduceLE, Int32.reduceToNatClampNeg, Int32.reduceToInt]
        exact p
      · rw [g x, zu4]
        by_cases y : x = m + k
        · rw [if_neg (by omega), if_pos (by first | exact ⟨rfl, y⟩ | exact ⟨trivial, y⟩), if_pos (by first | omega | exact ⟨trivial, by omega⟩ | exact ⟨trivial, trivial⟩), y, show m + k - m = k by omega]
        · by_cases v : m + (k + 1) ≤ x ∧ x < m + 4 ∧ (x : Int) < z
          · rw [if_pos v, if_pos (by first | omega | exact ⟨trivial, by omega⟩ | exact ⟨trivial, trivial⟩)]
          · rw [if_neg v, if_neg (fun g => y g.2), if_neg (by omega)]
    · refine ⟨μ, ?_, Fr.rf, fun x => by rw [if_neg (by omega)]⟩
      rw [if_neg (by omega)]
      simp (decide := true) (implicitDefEqProofs := false) only [l_X11_lay_49, i4c k (by omega), l1, l2, e, q, t, zO, zR, zA, zT, zu1, zu2, zu3, zu4, gI, gL, pI, pL, pZ, aI, aL, sI, sZ, sL, Option.bind_some, Option.map_some, if_true, if_false, ite_true, ite_false, true_and, and_true, false_and, and_false, or_true, true_or, or_false, false_or, and_self, not_true_eq_false, not_false_eq_true, ↓reduceIte, reduceIte, Nat.reduceAdd, Nat.reduceMul, Nat.reduceSub, Nat.reduceMod, Nat.reduceDiv, Nat.reduceEqDiff, Nat.reduceLT, Nat.reduceLeDiff, Int32.reduceAdd, Int32.reduceSub, Int32.reduceMul, Int32.reduceDiv, Int32.reduceMod, Int32.reduceOfNat, Int32.reduceOfInt, Int32.reduceLT, Int32.reduceLE, Int32.reduceToNatClampNeg, Int32.reduceToInt]
theorem layM {c : Nat → Nat → Int} (b : BC c) (w : none3 c = 0) {l m : Nat} (hl : l < 4) (hm : m < 2147483648) {z : Int} (hz : 0 ≤ z ∧ z ≤ 30) : ∀ n k, k + n = 4 → (k = 0 ∨ ((m + k : Nat) : Int) ≤ z) → ∀ u μ, MPs (fun p => DD c * shF c p) (DD c * blF c) μ → μ.1 105 l = Int32.ofInt z → ∃ ν, lpN (l_X12_lay_40 SX 81 (Int32.ofNat l) (Int32.ofNat m)) (u + n + 1) (Int32.ofNat k, μ) = some (if (m : Int) + 4 ≤ z then 4 else -13, ν) ∧ FM (fun q => q = 106) (fun _ => False) μ ν ∧ ν.1 = μ.1 ∧ ∀ j, ν.2 106 j = if 30 * l + (m + k) ≤ j ∧ j < 30 * l + (m + 4) ∧ (j : Int) < 30 * l + z then Int64.ofInt (wsh c (j - 30 * l - m)) else μ.2 106 j := by
  have l1 := zin l 4 hl (by decide)
  have l2 := ztn l (by omega)
  intro n
  induction n with
  | zero =>
    intro k hk hd u μ j e
    have e4 : k = 4 := by omega
    subst e4
    refine ⟨μ, ?_, FM.rf, rfl, fun j => by rw [if_neg (by omega)]⟩
    rw [zlp, if_pos (by first | omega | exact ⟨trivial, by omega⟩ | exact ⟨trivial, trivial⟩)]
    simp (decide := true) (implicitDefEqProofs := false) only [l_X12_lay_40, zO, zR, zA, zT, zu1, zu2, zu3, zu4, gI, gL, pI, pL, pZ, aI, aL, sI, sZ, sL, Option.bind_some, Option.map_some, if_true, if_false, ite_true, ite_false, true_and, and_true, false_and, and_false, or_true, true_or, or_false, false_or, and_self, not_true_eq_false, not_false_eq_true, ↓reduceIte, reduceIte, Nat.reduceAdd, Nat.reduceMul, Nat.reduceSub, Nat.reduceMod, Nat.reduceDiv, Nat.reduceEqDiff, Nat.reduceLT, Nat.reduceLeDiff, Int32.reduceAdd, Int32.reduceSub, Int32.reduceMul, Int32.reduceDiv, Int32.reduceMod, Int32.reduceOfNat, Int32.reduceOfInt, Int32.reduceLT, Int32.reduceLE, Int32.reduceToNatClampNeg, Int32.reduceToInt]
  | succ n ih =>
    intro k hk hd u μ j e
    rw [zlp]
    have q : ((Int32.ofNat m).toInt64 + (Int32.ofNat k).toInt64 < (Int32.ofInt z).toInt64) = ((m : Int) + k < z) := by
      rw [tl32 m hm, tl32 k (by omega), yw z (by omega) (by omega), y64a]
      exact propext (ylt64 _ _ (by omega) (by omega) (by omega) (by omega))
    by_cases t : (m : Int) + k < z
    · have pd := push_div (μ := μ) b w (p := k) (by omega)
      obtain ⟨q1, q2⟩ := j
      have q1' := q1 k (by omega)
      have ad : Int32.ofNat (30 * l + m) + Int32.ofNat k = Int32.ofNat (30 * l + m + k) := (Int32.ofNat_add _ k).symm
      obtain ⟨ν, p, f, g0, g⟩ := ih (k + 1) (by omega) (by omega) u (upL μ 106 (30 * l + m + k) (Int64.ofInt (wsh c k))) ⟨fun p hp => by rw [zu4, if_neg (by omega)]; exact q1 p hp, by rw [zu4, if_neg (by omega)]; exact q2⟩ e
      refine ⟨ν, ?_, FM.tr (FM.uL (Or.inl ⟨by decide, rfl⟩)) f, g0, fun x => ?_⟩
      · simp (decide := true) (implicitDefEqProofs := false) only [l_X12_lay_40, i4c k (by omega), l1, l2, e, q, t, zin k 4 (by omega) (by decide), ztn k (by omega), q1', q2, pd, i30, ad, zin (30 * l + m + k) 120 (by omega) (by decide), ztn (30 * l + m + k) (by omega), ofN1 k, zO, zR, zA, zT, zu1, zu2, zu3, zu4, gI, gL, pI, pL, pZ, aI, aL, sI, sZ, sL, Option.bind_some, Option.map_some, if_true, if_false, ite_true, ite_false, true_and, and_true, false_and, and_false, or_true, true_or, or_false, false_or, and_self, not_true_eq_false, not_false_eq_true, ↓reduceIte, reduceIte, Nat.reduceAdd, Nat.reduceMul, Nat.reduceSub, Nat.reduceMod, Nat.reduceDiv, Nat.reduceEqDiff, Nat.reduceLT, Nat.reduceLeDiff, Int32.reduceAdd, Int32.reduceSub, Int32.reduceMul, Int32.reduceDiv, Int32.reduceMod, Int32.reduceOfNat, Int32.reduceOfInt, Int32.reduceLT, Int32.reduceLE, Int32.reduceToNatClampNeg, Int32.reduceToInt]
        exact p
      · rw [g x, zu4]
        by_cases y : x = 30 * l + m + k
        · rw [if_neg (by omega), if_pos (by first | exact ⟨rfl, y⟩ | exact ⟨trivial, y⟩), if_pos (by first | omega | exact ⟨trivial, by omega⟩ | exact ⟨trivial, trivial⟩), y, show 30 * l + m + k - 30 * l - m = k by omega]
        · by_cases v : 30 * l + (m + (k + 1)) ≤ x ∧ x < 30 * l + (m + 4) ∧ (x : Int) < 30 * l + z
          · rw [if_pos v, if_pos (by first | omega | exact ⟨trivial, by omega⟩ | exact ⟨trivial, trivial⟩)]
          · rw [if_neg v, if_neg (fun g => y g.2), if_neg (by omega)]
    · refine ⟨μ, ?_, FM.rf, rfl, fun x => by rw [if_neg (by omega)]⟩
      rw [if_neg (by omega)]
      simp (decide := true) (implicitDefEqProofs := false) only [l_X12_lay_40, i4c k (by omega), l1, l2, e, q, t, zO, zR, zA, zT, zu1, zu2, zu3, zu4, gI, gL, pI, pL, pZ, aI, aL, sI, sZ, sL, Option.bind_some, Option.map_some, if_true, if_false, ite_true, ite_false, true_and, and_true, false_and, and_false, or_true, true_or, or_false, false_or, and_self, not_true_eq_false, not_false_eq_true, ↓reduceIte, reduceIte, Nat.reduceAdd, Nat.reduceMul, Nat.reduceSub, Nat.reduceMod, Nat.reduceDiv, Nat.reduceEqDiff, Nat.reduceLT, Nat.reduceLeDiff, Int32.reduceAdd, Int32.reduceSub, Int32.reduceMul, Int32.reduceDiv, Int32.reduceMod, Int32.reduceOfNat, Int32.reduceOfInt, Int32.reduceLT, Int32.reduceLE, Int32.reduceToNatClampNeg, Int32.reduceToInt]
theorem ok_lay {μ : Mem} (h : INV μ) (a1 a2 : Int32) : OKop (f_X11_lay SX 0 a1 a2) (f_X12_lay SX 81 a1 a2) μ := by
  obtain ⟨c, b, h1, h2⟩ := h.1
  have hR := h.2.2.2.2.2
  rcases wbN a1 3 (by decide) with t | ⟨t, l, hl, rfl⟩
  · simp only [Nat.reduceAdd, Nat.reduceMul, Nat.reduceMod, Int32.reduceOfNat] at t
    refine ⟨-1, μ, μ, ?_, ?_, h⟩
    · simp (decide := true) (implicitDefEqProofs := false) only [f_X11_lay, isList_at, t, zO, zR, zA, zT, zu1, zu2, zu3, zu4, gI, gL, pI, pL, pZ, aI, aL, sI, sZ, sL, Option.bind_some, Option.map_some, if_true, if_false, ite_true, ite_false, true_and, and_true, false_and, and_false, or_true, true_or, or_false, false_or, and_self, not_true_eq_false, not_false_eq_true, ↓reduceIte, reduceIte, Nat.reduceAdd, Nat.reduceMul, Nat.reduceSub, Nat.reduceMod, Nat.reduceDiv, Nat.reduceEqDiff, Nat.reduceLT, Nat.reduceLeDiff, Int32.reduceAdd, Int32.reduceSub, Int32.reduceMul, Int32.reduceDiv, Int32.reduceMod, Int32.reduceOfNat, Int32.reduceOfInt, Int32.reduceLT, Int32.reduceLE, Int32.reduceToNatClampNeg, Int32.reduceToInt]
    · simp (decide := true) (implicitDefEqProofs := false) only [f_X12_lay, isList_at, t, zO, zR, zA, zT, zu1, zu2, zu3, zu4, gI, gL, pI, pL, pZ, aI, aL, sI, sZ, sL, Option.bind_some, Option.map_some, if_true, if_false, ite_true, ite_false, true_and, and_true, false_and, and_false, or_true, true_or, or_false, false_or, and_self, not_true_eq_false, not_false_eq_true, ↓reduceIte, reduceIte, Nat.reduceAdd, Nat.reduceMul, Nat.reduceSub, Nat.reduceMod, Nat.reduceDiv, Nat.reduceEqDiff, Nat.reduceLT, Nat.reduceLeDiff, Int32.reduceAdd, Int32.reduceSub, Int32.reduceMul, Int32.reduceDiv, Int32.reduceMod, Int32.reduceOfNat, Int32.reduceOfInt, Int32.reduceLT, Int32.reduceLE, Int32.reduceToNatClampNeg, Int32.reduceToInt]
  · simp only [Nat.reduceAdd, Nat.reduceMul, Nat.reduceMod, Int32.reduceOfNat] at t
    have hl4 : l < 4 := by omega
    obtain ⟨z, z1, z2, e1, e2⟩ := hR.len hl4
    have i1 := zin l 4 hl4 (by decide)
    have i2 := ztn l (by omega)
    obtain ⟨ho, hz⟩ := holds_at hl4 z1 z2 e1
    by_cases w : z = -1
    · rw [if_pos w] at ho
      have hz' : (0 ≤ Int32.ofInt z) = False := by rw [hz]; exact eq_false (fun g => g w)
      refine ⟨-11, μ, μ, ?_, ?_, h⟩
      · simp (decide := true) (implicitDefEqProofs := false) only [f_X11_lay, isList_at, t, ho, zO, zR, zA, zT, zu1, zu2, zu3, zu4, gI, gL, pI, pL, pZ, aI, aL, sI, sZ, sL, Option.bind_some, Option.map_some, if_true, if_false, ite_true, ite_false, true_and, and_true, false_and, and_false, or_true, true_or, or_false, false_or, and_self, not_true_eq_false, not_false_eq_true, ↓reduceIte, reduceIte, Nat.reduceAdd, Nat.reduceMul, Nat.reduceSub, Nat.reduceMod, Nat.reduceDiv, Nat.reduceEqDiff, Nat.reduceLT, Nat.reduceLeDiff, Int32.reduceAdd, Int32.reduceSub, Int32.reduceMul, Int32.reduceDiv, Int32.reduceMod, Int32.reduceOfNat, Int32.reduceOfInt, Int32.reduceLT, Int32.reduceLE, Int32.reduceToNatClampNeg, Int32.reduceToInt]
      · simp (decide := true) (implicitDefEqProofs := false) only [f_X12_lay, isList_at, t, i1, i2, e2, hz', zO, zR, zA, zT, zu1, zu2, zu3, zu4, gI, gL, pI, pL, pZ, aI, aL, sI, sZ, sL, Option.bind_some, Option.map_some, if_true, if_false, ite_true, ite_false, true_and, and_true, false_and, and_false, or_true, true_or, or_false, false_or, and_self, not_true_eq_false, not_false_eq_true, ↓reduceIte, reduceIte, Nat.reduceAdd, Nat.reduceMul, Nat.reduceSub, Nat.reduceMod, Nat.reduceDiv, Nat.reduceEqDiff, Nat.reduceLT, Nat.reduceLeDiff, Int32.reduceAdd, Int32.reduceSub, Int32.reduceMul, Int32.reduceDiv, Int32.reduceMod, Int32.reduceOfNat, Int32.reduceOfInt, Int32.reduceLT, Int32.reduceLE, Int32.reduceToNatClampNeg, Int32.reduceToInt]
    · rw [if_neg w] at ho
      have hz' : (0 ≤ Int32.ofInt z) = True := by rw [hz]; exact eq_true w
      obtain ⟨μ1, p1, f1, j1⟩ := finds_at ck1 h1 b
      have F1 := sc55 f1
      have M1 := h2.sc F1
      by_cases n0 : none3 c = 0
      · rw [if_pos n0] at p1
        by_cases x : 0 ≤ a2
        · obtain ⟨i, hi, rfl⟩ : ∃ i : Nat, i < 2147483648 ∧ a2 = Int32.ofNat i := by
            have b2 := Int32.toInt_lt a2
            exact ⟨a2.toNatClampNeg, by simp only [Int32.toNatClampNeg]; omega, zof a2 x⟩
          have e80 : μ1.1 80 l = Int32.ofInt z := by rw [(f1 80 (by omega)).1]; exact e1
          obtain ⟨μ2, p2, f2, g2⟩ := layX b n0 hl4 hi (z := z) (by omega) 4 0 (by omega) (Or.inl rfl) 4995 μ1 (j1 n0) e80
          have F2 : FM rwP scJ μ1 μ2 := (f2.fm (by omega)).mo (fun k q => by unfold rwP; omega) (fun k q => q.elim)
          have F12 : FM rwP scJ μ μ2 := (F1.mo (fun k q => Or.inr (Or.inr (Or.inr q))) (fun k q => q)).tr F2
          have M2 : MM c μ2 := M1.w (f2.fm (by omega)) (fun q g1 g2 => by omega) (fun q => q.elim)
          obtain ⟨μ3, p3, f3, j3⟩ := pushes_at M2 b
          have F3 : FM rwP scJ μ2 μ3 := (scu f3).mo (fun k q => Or.inr (Or.inr (Or.inr q))) (fun k q => q)
          have e105 : μ3.1 105 l = Int32.ofInt z := by rw [(f3.1 105 (by decide) (by unfold uP; omega)).1, (f2 105 (by omega)).1, (f1 105 (by omega)).1]; exact e2
          have e105' : μ2.1 105 l = Int32.ofInt z := by rw [(f2 105 (by omega)).1, (f1 105 (by omega)).1]; exact e2
          obtain ⟨μ4, p4, f4, s4, g4⟩ := layM b n0 hl4 hi (z := z) (by omega) 4 0 (by omega) (Or.inl rfl) 4995 μ3 (j3 n0).1 e105
          have F4 : FM rwP scJ μ3 μ4 := f4.mo (fun k q => by unfold rwP; omega) (fun k q => q.elim)
          refine ⟨(if (i : Int) + 4 ≤ z then 4 else -13), μ2, μ4, ?_, ?_, h.rw ((F12.tr F3).tr F4) ?_⟩
          · simp (decide := true) (implicitDefEqProofs := false) only [f_X11_lay, isList_at, t, ho, p1, x, zO, zR, zA, zT, zu1, zu2, zu3, zu4, gI, gL, pI, pL, pZ, aI, aL, sI, sZ, sL, Option.bind_some, Option.map_some, if_true, if_false, ite_true, ite_false, true_and, and_true, false_and, and_false, or_true, true_or, or_false, false_or, and_self, not_true_eq_false, not_false_eq_true, ↓reduceIte, reduceIte, Nat.reduceAdd, Nat.reduceMul, Nat.reduceSub, Nat.reduceMod, Nat.reduceDiv, Nat.reduceEqDiff, Nat.reduceLT, Nat.reduceLeDiff, Int32.reduceAdd, Int32.reduceSub, Int32.reduceMul, Int32.reduceDiv, Int32.reduceMod, Int32.reduceOfNat, Int32.reduceOfInt, Int32.reduceLT, Int32.reduceLE, Int32.reduceToNatClampNeg, Int32.reduceToInt]
            exact p2
          · simp (decide := true) (implicitDefEqProofs := false) only [f_X12_lay, isList_at, t, i1, i2, e105', hz', p3, none3_le, n0, x, zO, zR, zA, zT, zu1, zu2, zu3, zu4, gI, gL, pI, pL, pZ, aI, aL, sI, sZ, sL, Option.bind_some, Option.map_some, if_true, if_false, ite_true, ite_false, true_and, and_true, false_and, and_false, or_true, true_or, or_false, false_or, and_self, not_true_eq_false, not_false_eq_true, ↓reduceIte, reduceIte, Nat.reduceAdd, Nat.reduceMul, Nat.reduceSub, Nat.reduceMod, Nat.reduceDiv, Nat.reduceEqDiff, Nat.reduceLT, Nat.reduceLeDiff, Int32.reduceAdd, Int32.reduceSub, Int32.reduceMul, Int32.reduceDiv, Int32.reduceMod, Int32.reduceOfNat, Int32.reduceOfInt, Int32.reduceLT, Int32.reduceLE, Int32.reduceToNatClampNeg, Int32.reduceToInt]
            exact p4
          · intro l' hl'
            obtain ⟨q1, q2, q3⟩ := hR l' hl'
            have k80 : μ4.1 80 = μ.1 80 := by rw [s4, (f3.1 80 (by decide) (by unfold uP; omega)).1, (f2 80 (by omega)).1, (f1 80 (by omega)).1]
            have k105 : μ4.1 105 = μ.1 105 := by rw [s4, (f3.1 105 (by decide) (by unfold uP; omega)).1, (f2 105 (by omega)).1, (f1 105 (by omega)).1]
            have k76 : μ4.2 (76 + l') = μ2.2 (76 + l') := by rw [(f4.1 _ (by omega) (by omega)).2, (f3.1 _ (by omega) (by unfold uP; omega)).2]
            have k106 : μ3.2 106 = μ.2 106 := by rw [(f3.1 106 (by decide) (by unfold uP; omega)).2, (f2 106 (by omega)).2, (f1 106 (by omega)).2]
            rw [k80, k105, k76]
            refine ⟨q1, q2, fun j hj => ?_⟩
            rw [g4, k106]
            by_cases y : l' = l
            · subst y
              rw [g2, (f1 (76 + l') (by omega)).2]
              by_cases v : i + 0 ≤ j ∧ j < i + 4 ∧ (j : Int) < z
              · rw [if_pos v, if_pos (by first | omega | exact ⟨trivial, by omega⟩ | exact ⟨trivial, trivial⟩), show 30 * l' + j - 30 * l' - i = j - i by omega]
              · rw [if_neg v, if_neg (by omega)]; exact q3 j hj
            · rw [if_neg (by omega), (f2 (76 + l') (by omega)).2, (f1 (76 + l') (by omega)).2]; exact q3 j hj
        · obtain ⟨μ3, p3, f3, j3⟩ := pushes_at M1 b
          refine ⟨-13, μ1, μ3, ?_, ?_, h.q (F1.tr (scu f3))⟩
          · simp (decide := true) (implicitDefEqProofs := false) only [f_X11_lay, isList_at, t, ho, p1, x, zO, zR, zA, zT, zu1, zu2, zu3, zu4, gI, gL, pI, pL, pZ, aI, aL, sI, sZ, sL, Option.bind_some, Option.map_some, if_true, if_false, ite_true, ite_false, true_and, and_true, false_and, and_false, or_true, true_or, or_false, false_or, and_self, not_true_eq_false, not_false_eq_true, ↓reduceIte, reduceIte, Nat.reduceAdd, Nat.reduceMul, Nat.reduceSub, Nat.reduceMod, Nat.reduceDiv, Nat.reduceEqDiff, Nat.reduceLT, Nat.reduceLeDiff, Int32.reduceAdd, Int32.reduceSub, Int32.reduceMul, Int32.reduceDiv, Int32.reduceMod, Int32.reduceOfNat, Int32.reduceOfInt, Int32.reduceLT, Int32.reduceLE, Int32.reduceToNatClampNeg, Int32.reduceToInt]
          · have e105' : μ1.1 105 l = Int32.ofInt z := by rw [(f1 105 (by omega)).1]; exact e2
            simp (decide := true) (implicitDefEqProofs := false) only [f_X12_lay, isList_at, t, i1, i2, e105', hz', p3, none3_le, n0, x, zO, zR, zA, zT, zu1, zu2, zu3, zu4, gI, gL, pI, pL, pZ, aI, aL, sI, sZ, sL, Option.bind_some, Option.map_some, if_true, if_false, ite_true, ite_false, true_and, and_true, false_and, and_false, or_true, true_or, or_false, false_or, and_self, not_true_eq_false, not_false_eq_true, ↓reduceIte, reduceIte, Nat.reduceAdd, Nat.reduceMul, Nat.reduceSub, Nat.reduceMod, Nat.reduceDiv, Nat.reduceEqDiff, Nat.reduceLT, Nat.reduceLeDiff, Int32.reduceAdd, Int32.reduceSub, Int32.reduceMul, Int32.reduceDiv, Int32.reduceMod, Int32.reduceOfNat, Int32.reduceOfInt, Int32.reduceLT, Int32.reduceLE, Int32.reduceToNatClampNeg, Int32.reduceToInt]
      · rw [if_neg n0] at p1
        obtain ⟨μ3, p3, f3, j3⟩ := pushes_at M1 b
        refine ⟨-3, μ1, μ3, ?_, ?_, h.q (F1.tr (scu f3))⟩
        · simp (decide := true) (implicitDefEqProofs := false) only [f_X11_lay, isList_at, t, ho, p1, zO, zR, zA, zT, zu1, zu2, zu3, zu4, gI, gL, pI, pL, pZ, aI, aL, sI, sZ, sL, Option.bind_some, Option.map_some, if_true, if_false, ite_true, ite_false, true_and, and_true, false_and, and_false, or_true, true_or, or_false, false_or, and_self, not_true_eq_false, not_false_eq_true, ↓reduceIte, reduceIte, Nat.reduceAdd, Nat.reduceMul, Nat.reduceSub, Nat.reduceMod, Nat.reduceDiv, Nat.reduceEqDiff, Nat.reduceLT, Nat.reduceLeDiff, Int32.reduceAdd, Int32.reduceSub, Int32.reduceMul, Int32.reduceDiv, Int32.reduceMod, Int32.reduceOfNat, Int32.reduceOfInt, Int32.reduceLT, Int32.reduceLE, Int32.reduceToNatClampNeg, Int32.reduceToInt]
        · have e105' : μ1.1 105 l = Int32.ofInt z := by rw [(f1 105 (by omega)).1]; exact e2
          simp (decide := true) (implicitDefEqProofs := false) only [f_X12_lay, isList_at, t, i1, i2, e105', hz', p3, none3_le, n0, zO, zR, zA, zT, zu1, zu2, zu3, zu4, gI, gL, pI, pL, pZ, aI, aL, sI, sZ, sL, Option.bind_some, Option.map_some, if_true, if_false, ite_true, ite_false, true_and, and_true, false_and, and_false, or_true, true_or, or_false, false_or, and_self, not_true_eq_false, not_false_eq_true, ↓reduceIte, reduceIte, Nat.reduceAdd, Nat.reduceMul, Nat.reduceSub, Nat.reduceMod, Nat.reduceDiv, Nat.reduceEqDiff, Nat.reduceLT, Nat.reduceLeDiff, Int32.reduceAdd, Int32.reduceSub, Int32.reduceMul, Int32.reduceDiv, Int32.reduceMod, Int32.reduceOfNat, Int32.reduceOfInt, Int32.reduceLT, Int32.reduceLE, Int32.reduceToNatClampNeg, Int32.reduceToInt]

