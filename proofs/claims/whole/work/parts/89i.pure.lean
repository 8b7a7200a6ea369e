def lwP (q : Nat) : Prop := q = 54 ∨ q = 55 ∨ q = 56
theorem lawful2_at {c : Nat → Nat → Int} (b : BC c) {r : Nat} (hr : r < 61) {d0 r0 : Int} {μ : Mem} (h : CC 37 (up (up c 8 1 r0) 8 0 d0) μ) : ∃ ν d1, f_X3_lawfulDirections SX 55 37 (Int32.ofNat r) μ = some (whB (fun d => decide (whyV (atc c d r) = 0)) 20, ν) ∧ Fr lwP μ ν ∧ CC 37 (up (up c 8 1 (r : Int)) 8 0 d1) ν := by
  have h1 : CC 37 (up (up c 8 1 (r : Int)) 8 0 d0) (upI μ 54 1 (Int32.ofNat r)) := by
    have := h.dial (i := 1) (z := (r : Int)) (v := Int32.ofNat r) rfl
    rw [up_sw c d0 r0, up_up, ← up_sw] at this
    exact this
  have u54 : ∀ (m : Mem) (i : Nat) (v : Int32), Fr lwP m (upI m 54 i v) := fun m i v => Fr.uI (Or.inl rfl)
  have loop : ∀ m i, i + m = 20 → ∀ u μ' d, CC 37 (up (up c 8 1 (r : Int)) 8 0 d) μ' → ∃ ν d1, lpN (l_X3_lawfulDirections_12 SX 55 37) (u + m + 1) (whB (fun d => decide (whyV (atc c d r) = 0)) i, Int32.ofNat i, μ') = some (whB (fun d => decide (whyV (atc c d r) = 0)) 20, ν) ∧ Fr lwP μ' ν ∧ CC 37 (up (up c 8 1 (r : Int)) 8 0 d1) ν := by
    intro m
    induction m with
    | zero =>
      intro i hi u μ' d hd
      have e : i = 20 := by omega
      subst e
      refine ⟨μ', d, ?_, Fr.rf, hd⟩
      rw [zlp]
      simp (decide := true) (implicitDefEqProofs := false) only [l_X3_lawfulDirections_12, zO, zR, zA, zT, zu1, zu2, zu3, zu4, gI, gL, pI, pL, pZ, aI, aL, sI, sZ, sL, Option.bind_some, Option.map_some, if_true, if_false, ite_true, ite_false, true_and, and_true, false_and, and_false, or_true, true_or, or_false, false_or, and_self, not_true_eq_false, not_false_eq_true, ↓reduceIte, reduceIte, Nat.reduceAdd, Nat.reduceMul, Nat.reduceSub, Nat.reduceMod, Nat.reduceDiv, Nat.reduceEqDiff, Nat.reduceLT, Nat.reduceLeDiff, Int32.reduceAdd, Int32.reduceSub, Int32.reduceMul, Int32.reduceDiv, Int32.reduceMod, Int32.reduceOfNat, Int32.reduceOfInt, Int32.reduceLT, Int32.reduceLE, Int32.reduceToNatClampNeg, Int32.reduceToInt]
    | succ m ih =>
      intro i hi u μ' d hd
      have D : CC 37 (atc c i r) (upI μ' 54 0 (Int32.ofNat i)) := by
        have := hd.dial (i := 0) (z := (i : Int)) (v := Int32.ofNat i) rfl
        rw [up_up, up_sw] at this
        exact this
      obtain ⟨ν1, p1, f1, -⟩ := verdict_at ck37 D (b.atc (by omega) hr)
      have D1 : CC 37 (up (up c 8 1 (r : Int)) 8 0 (i : Int)) ν1 := by rw [up_sw]; exact D.f37 f1
      obtain ⟨ν, d1, p, f, g⟩ := ih (i + 1) (by omega) u ν1 (i : Int) D1
      refine ⟨ν, d1, ?_, ((u54 _ _ _).tr (f1.mo (fun q hq => by unfold lwP; omega))).tr f, g⟩
      rw [zlp]
      have lf : ((20 : Int32) ≤ Int32.ofNat i) = False := leF (n := 20) (by omega) (by decide)
      have n1 := ofN1 i
      by_cases t : whyV (atc c i r) = 0
      · have e : whB (fun d => decide (whyV (atc c d r) = 0)) (i + 1) = whB (fun d => decide (whyV (atc c d r) = 0)) i ||| (1 <<< (Int32.ofNat i &&& 31)) := by
          show (if _ then _ else _) = _
          rw [if_pos (by simpa using t)]
        rw [e] at p
        simp (decide := true) (implicitDefEqProofs := false) only [l_X3_lawfulDirections_12, lf, p1, t, n1, zO, zR, zA, zT, zu1, zu2, zu3, zu4, gI, gL, pI, pL, pZ, aI, aL, sI, sZ, sL, Option.bind_some, Option.map_some, if_true, if_false, ite_true, ite_false, true_and, and_true, false_and, and_false, or_true, true_or, or_false, false_or, and_self, not_true_eq_false, not_false_eq_true, ↓reduceIte, reduceIte, Nat.reduceAdd, Nat.reduceMul, Nat.reduceSub, Nat.reduceMod, Nat.reduceDiv, Nat.reduceEqDiff, Nat.reduceLT, Nat.reduceLeDiff, Int32.reduceAdd, Int32.reduceSub, Int32.reduceMul, Int32.reduceDiv, Int32.reduceMod, Int32.reduceOfNat, Int32.reduceOfInt, Int32.reduceLT, Int32.reduceLE, Int32.reduceToNatClampNeg, Int32.reduceToInt]
        exact p
      · have e : whB (fun d => decide (whyV (atc c d r) = 0)) (i + 1) = whB (fun d => decide (whyV (atc c d r) = 0)) i := by
          show (if _ then _ else _) = _
          rw [if_neg (by simpa using t)]
        rw [e] at p
        simp (decide := true) (implicitDefEqProofs := false) only [l_X3_lawfulDirections_12, lf, p1, t, n1, zO, zR, zA, zT, zu1, zu2, zu3, zu4, gI, gL, pI, pL, pZ, aI, aL, sI, sZ, sL, Option.bind_some, Option.map_some, if_true, if_false, ite_true, ite_false, true_and, and_true, false_and, and_false, or_true, true_or, or_false, false_or, and_self, not_true_eq_false, not_false_eq_true, ↓reduceIte, reduceIte, Nat.reduceAdd, Nat.reduceMul, Nat.reduceSub, Nat.reduceMod, Nat.reduceDiv, Nat.reduceEqDiff, Nat.reduceLT, Nat.reduceLeDiff, Int32.reduceAdd, Int32.reduceSub, Int32.reduceMul, Int32.reduceDiv, Int32.reduceMod, Int32.reduceOfNat, Int32.reduceOfInt, Int32.reduceLT, Int32.reduceLE, Int32.reduceToNatClampNeg, Int32.reduceToInt]
        exact p
  obtain ⟨ν, d1, p, f, g⟩ := loop 20 0 (by omega) 4979 _ d0 h1
  refine ⟨ν, d1, ?_, (u54 _ _ _).tr f, g⟩
  simp (decide := true) (implicitDefEqProofs := false) only [f_X3_lawfulDirections, zO, zR, zA, zT, zu1, zu2, zu3, zu4, gI, gL, pI, pL, pZ, aI, aL, sI, sZ, sL, Option.bind_some, Option.map_some, if_true, if_false, ite_true, ite_false, true_and, and_true, false_and, and_false, or_true, true_or, or_false, false_or, and_self, not_true_eq_false, not_false_eq_true, ↓reduceIte, reduceIte, Nat.reduceAdd, Nat.reduceMul, Nat.reduceSub, Nat.reduceMod, Nat.reduceDiv, Nat.reduceEqDiff, Nat.reduceLT, Nat.reduceLeDiff, Int32.reduceAdd, Int32.reduceSub, Int32.reduceMul, Int32.reduceDiv, Int32.reduceMod, Int32.reduceOfNat, Int32.reduceOfInt, Int32.reduceLT, Int32.reduceLE, Int32.reduceToNatClampNeg, Int32.reduceToInt]
  exact p
def wyP (q : Nat) : Prop := lwP q ∨ rtP q
theorem wy_sc {μ ν : Mem} (f : Fr wyP μ ν) : FM scP scJ μ ν := (f.fm (by unfold wyP lwP rtP; omega)).mo (fun k q => by unfold wyP lwP rtP at q; unfold scP; omega) (fun k q => q.elim)
theorem wayLaw {c : Nat → Nat → Int} (b : BC c) {μ0 : Mem} (h : CC 37 c μ0) (a1 a2 : Int32) : ∃ ν, lpN (l_X11_way_34 SX 0 a1 a2) fu (0, μ0) = b_X11_way_67 SX 0 a1 a2 ν ∧ Fr wyP μ0 ν ∧ RB (ν.1 58) (LW c) := by
  have h0 : CC 37 (up (up c 8 1 (c 8 1)) 8 0 (c 8 0)) μ0 := by rw [up_self, up_self]; exact h
  obtain ⟨ν, p, f, -, g⟩ := lpG (B := l_X11_way_34 SX 0 a1 a2) (fin := b_X11_way_67 SX 0 a1 a2) (N := 61) (P := fun i ν => Fr wyP μ0 ν ∧ (∃ r0 d0, CC 37 (up (up c 8 1 r0) 8 0 d0) ν) ∧ ∀ j, j < i → ν.1 58 j = whB (fun d => decide (whyV (atc c d j) = 0)) 20) (μ := μ0) (by
    rintro self i μ hi ⟨f, ⟨r0, d0, C⟩, g⟩
    obtain ⟨ν1, d1, p1, f1, C1⟩ := lawful2_at b (r := i) hi C
    have lf : ((61 : Int32) ≤ Int32.ofNat i) = False := leF (n := 61) hi (by decide)
    refine ⟨upI ν1 58 i (whB (fun d => decide (whyV (atc c d i) = 0)) 20), ?_, (f.tr (f1.mo (fun q hq => Or.inl hq))).tr (Fr.uI (Or.inr (Or.inl rfl))), ⟨_, _, C1.w (fun q => q = 58) (Fr.uI rfl) (fun q g1 g2 => by omega)⟩, fun j hj => ?_⟩
    · simp (decide := true) (implicitDefEqProofs := false) only [l_X11_way_34, lf, p1, zin i 61 hi (by decide), ztn i (by omega), ofN1 i, zO, zR, zA, zT, zu1, zu2, zu3, zu4, gI, gL, pI, pL, pZ, aI, aL, sI, sZ, sL, Option.bind_some, Option.map_some, if_true, if_false, ite_true, ite_false, true_and, and_true, false_and, and_false, or_true, true_or, or_false, false_or, and_self, not_true_eq_false, not_false_eq_true, ↓reduceIte, reduceIte, Nat.reduceAdd, Nat.reduceMul, Nat.reduceSub, Nat.reduceMod, Nat.reduceDiv, Nat.reduceEqDiff, Nat.reduceLT, Nat.reduceLeDiff, Int32.reduceAdd, Int32.reduceSub, Int32.reduceMul, Int32.reduceDiv, Int32.reduceMod, Int32.reduceOfNat, Int32.reduceOfInt, Int32.reduceLT, Int32.reduceLE, Int32.reduceToNatClampNeg, Int32.reduceToInt]
    · rw [zu1]
      by_cases e : j = i
      · rw [if_pos (by first | exact ⟨rfl, e⟩ | exact ⟨trivial, e⟩), e]
      · rw [if_neg (fun q => e q.2), (f1 58 (by unfold lwP; omega)).1]; exact g j (by omega)) (by
    rintro self μ -
    simp (decide := true) (implicitDefEqProofs := false) only [l_X11_way_34, zO, zR, zA, zT, zu1, zu2, zu3, zu4, gI, gL, pI, pL, pZ, aI, aL, sI, sZ, sL, Option.bind_some, Option.map_some, if_true, if_false, ite_true, ite_false, true_and, and_true, false_and, and_false, or_true, true_or, or_false, false_or, and_self, not_true_eq_false, not_false_eq_true, ↓reduceIte, reduceIte, Nat.reduceAdd, Nat.reduceMul, Nat.reduceSub, Nat.reduceMod, Nat.reduceDiv, Nat.reduceEqDiff, Nat.reduceLT, Nat.reduceLeDiff, Int32.reduceAdd, Int32.reduceSub, Int32.reduceMul, Int32.reduceDiv, Int32.reduceMod, Int32.reduceOfNat, Int32.reduceOfInt, Int32.reduceLT, Int32.reduceLE, Int32.reduceToNatClampNeg, Int32.reduceToInt]) (by decide) ⟨Fr.rf, ⟨_, _, h0⟩, fun j hj => by omega⟩
  refine ⟨ν, p, f, fun r hr i hi => ?_⟩
  rw [g r hr, bt_wh _ 20 (Nat.le_refl _) i hi]
  simp only [Bool.and_eq_true, decide_eq_true_eq]
  have e : LW c (61 * i + r) = (whyV (atc c i r) = 0) := by
    unfold LW
    rw [show (61 * i + r) / 61 = i by omega, show (61 * i + r) % 61 = r by omega]
  rw [e]
theorem fillI (μ0 : Mem) : ∃ ν, f_J7_fill_53178 SX 59 0 μ0 = some ((), ν) ∧ Fr (fun q => q = 59) μ0 ν ∧ ∀ j, j < 61 → ν.1 59 j = 0 := by
  obtain ⟨ν, p, f, g⟩ := lpG (B := l_J7_fill_53178_5 SX 59 0 61) (fin := fun m => some ((), m)) (N := 61) (P := fun i ν => Fr (fun q => q = 59) μ0 ν ∧ ∀ j, j < i → ν.1 59 j = 0) (μ := μ0) (by
    rintro self i μ hi ⟨f, g⟩
    have lf : ((61 : Int32) ≤ Int32.ofNat i) = False := leF (n := 61) hi (by decide)
    refine ⟨upI μ 59 i 0, by
      simp (decide := true) (implicitDefEqProofs := false) only [l_J7_fill_53178_5, lf, zin i 61 hi (by decide), ztn i (by omega), ofN1 i, zO, zR, zA, zT, zu1, zu2, zu3, zu4, gI, gL, pI, pL, pZ, aI, aL, sI, sZ, sL, Option.bind_some, Option.map_some, if_true, if_false, ite_true, ite_false, true_and, and_true, false_and, and_false, or_true, true_or, or_false, false_or, and_self, not_true_eq_false, not_false_eq_true, ↓reduceIte, reduceIte, Nat.reduceAdd, Nat.reduceMul, Nat.reduceSub, Nat.reduceMod, Nat.reduceDiv, Nat.reduceEqDiff, Nat.reduceLT, Nat.reduceLeDiff, Int32.reduceAdd, Int32.reduceSub, Int32.reduceMul, Int32.reduceDiv, Int32.reduceMod, Int32.reduceOfNat, Int32.reduceOfInt, Int32.reduceLT, Int32.reduceLE, Int32.reduceToNatClampNeg, Int32.reduceToInt], f.tr (Fr.uI rfl), fun j hj => ?_⟩
    rw [zu1]
    by_cases e : j = i
    · rw [if_pos (by first | exact ⟨rfl, e⟩ | exact ⟨trivial, e⟩)]
    · rw [if_neg (fun q => e q.2)]; exact g j (by omega)) (by
    rintro self μ -
    simp (decide := true) (implicitDefEqProofs := false) only [l_J7_fill_53178_5, zO, zR, zA, zT, zu1, zu2, zu3, zu4, gI, gL, pI, pL, pZ, aI, aL, sI, sZ, sL, Option.bind_some, Option.map_some, if_true, if_false, ite_true, ite_false, true_and, and_true, false_and, and_false, or_true, true_or, or_false, false_or, and_self, not_true_eq_false, not_false_eq_true, ↓reduceIte, reduceIte, Nat.reduceAdd, Nat.reduceMul, Nat.reduceSub, Nat.reduceMod, Nat.reduceDiv, Nat.reduceEqDiff, Nat.reduceLT, Nat.reduceLeDiff, Int32.reduceAdd, Int32.reduceSub, Int32.reduceMul, Int32.reduceDiv, Int32.reduceMod, Int32.reduceOfNat, Int32.reduceOfInt, Int32.reduceLT, Int32.reduceLE, Int32.reduceToNatClampNeg, Int32.reduceToInt]) (by decide) ⟨Fr.rf, fun j hj => by omega⟩
  refine ⟨ν, ?_, f, g⟩
  simp (decide := true) (implicitDefEqProofs := false) only [f_J7_fill_53178, aN, zO, zR, zA, zT, zu1, zu2, zu3, zu4, gI, gL, pI, pL, pZ, aI, aL, sI, sZ, sL, Option.bind_some, Option.map_some, if_true, if_false, ite_true, ite_false, true_and, and_true, false_and, and_false, or_true, true_or, or_false, false_or, and_self, not_true_eq_false, not_false_eq_true, ↓reduceIte, reduceIte, Nat.reduceAdd, Nat.reduceMul, Nat.reduceSub, Nat.reduceMod, Nat.reduceDiv, Nat.reduceEqDiff, Nat.reduceLT, Nat.reduceLeDiff, Int32.reduceAdd, Int32.reduceSub, Int32.reduceMul, Int32.reduceDiv, Int32.reduceMod, Int32.reduceOfNat, Int32.reduceOfInt, Int32.reduceLT, Int32.reduceLE, Int32.reduceToNatClampNeg, Int32.reduceToInt]
  exact p
theorem beginX {c : Nat → Nat → Int} {d0 r0 : Nat} (hd : d0 < 20) (hr : r0 < 61) {μ : Mem} (hl : RB (μ.1 58) (LW c)) : ∃ ν, f_X7_begin SX 57 (Int32.ofNat d0) (Int32.ofNat r0) μ = some ((), ν) ∧ Fr (fun q => q = 59) μ ν ∧ RB (ν.1 59) (RC c (61 * d0 + r0) 0) := by
  obtain ⟨ν1, p1, f1, g1⟩ := fillI μ
  have e58 : ν1.1 58 = μ.1 58 := (f1 58 (by omega)).1
  have i1 := zin r0 61 hr (by decide)
  have i2 := ztn r0 (by omega)
  refine ⟨upI ν1 59 r0 (μ.1 58 r0 &&& (1 <<< (Int32.ofNat d0 &&& 31))), ?_, f1.tr (Fr.uI rfl), fun r hr' i hi => ?_⟩
  · simp (decide := true) (implicitDefEqProofs := false) only [f_X7_begin, p1, e58, i1, i2, zO, zR, zA, zT, zu1, zu2, zu3, zu4, gI, gL, pI, pL, pZ, aI, aL, sI, sZ, sL, Option.bind_some, Option.map_some, if_true, if_false, ite_true, ite_false, true_and, and_true, false_and, and_false, or_true, true_or, or_false, false_or, and_self, not_true_eq_false, not_false_eq_true, ↓reduceIte, reduceIte, Nat.reduceAdd, Nat.reduceMul, Nat.reduceSub, Nat.reduceMod, Nat.reduceDiv, Nat.reduceEqDiff, Nat.reduceLT, Nat.reduceLeDiff, Int32.reduceAdd, Int32.reduceSub, Int32.reduceMul, Int32.reduceDiv, Int32.reduceMod, Int32.reduceOfNat, Int32.reduceOfInt, Int32.reduceLT, Int32.reduceLE, Int32.reduceToNatClampNeg, Int32.reduceToInt]
  · rw [zu1]
    by_cases e : r = r0
    · rw [if_pos (by first | exact ⟨rfl, e⟩ | exact ⟨trivial, e⟩), bt_and, bt_1d d0 hd i hi, Bool.and_eq_true, decide_eq_true_eq, hl r0 hr i hi, e]
      constructor
      · rintro ⟨⟨a1, a2⟩, a3⟩
        exact ⟨a1, by rw [a3], a2⟩
      · rintro ⟨a1, a2, a3⟩
        exact ⟨⟨a1, a3⟩, by omega⟩
    · rw [if_neg (fun q => e q.2), g1 r hr', bt_0]
      refine ⟨fun g => absurd g (by decide), ?_⟩
      rintro ⟨a1, a2, a3⟩
      omega
/-- what the class answers, once it is known what may be come to -/
theorem wayX {c : Nat → Nat → Int} (b : BC c) {μ : Mem} (h : CC 1 c μ) {d r : Nat} (hd : d < 20) (hr : r < 61) (t : f_X11_fitsDial SX 0 (Int32.ofNat d) μ = some (1, μ)) (t2 : f_X11_fitsDial SX 1 (Int32.ofNat r) μ = some (1, μ)) {v : Int32} (hv : (∃ k, v = Int32.ofNat k ∧ k ≤ 1219 ∧ RC c (61 * (c 8 0).toNat + (c 8 1).toNat) k (61 * d + r) ∧ ∀ j, j < k → ¬ RC c (61 * (c 8 0).toNat + (c 8 1).toNat) j (61 * d + r)) ∨ (v = -5 ∧ ∀ k, ¬ RC c (61 * (c 8 0).toNat + (c 8 1).toNat) k (61 * d + r))) : ∃ ν, f_X11_way SX 0 (Int32.ofNat d) (Int32.ofNat r) μ = some (v, ν) ∧ FM scP scJ μ ν := by
  have bd := b.2.2.2.2.2
  obtain ⟨μ1, p1, f1, d1⟩ := draft_at h b
  obtain ⟨μ2, p2, f2, l2⟩ := wayLaw b d1 (Int32.ofNat d) (Int32.ofNat r)
  have C2 : CC 1 c μ2 := h.sc (f1.tr (wy_sc f2))
  have m0 := C2.2.2.2.2.2 0 (by decide)
  have m1 := C2.2.2.2.2.2 1 (by decide)
  rw [ofIn (c 8 0) (by omega)] at m0
  rw [ofIn (c 8 1) (by omega)] at m1
  simp only [Nat.reduceAdd, Nat.reduceMul, Nat.reduceMod, Int32.reduceOfNat] at m0 m1
  obtain ⟨μ3, p3, f3, l3⟩ := beginX (d0 := (c 8 0).toNat) (r0 := (c 8 1).toNat) (by omega) (by omega) l2
  have l58 : RB (μ3.1 58) (LW c) := by rw [(f3 58 (by omega)).1]; exact l2
  have F3 : FM scP scJ μ2 μ3 := wy_sc (f3.mo (fun q hq => Or.inr (Or.inr (Or.inl hq))))
  have mv : ∃ ν, f_X7_movesTo SX 57 (Int32.ofNat d) (Int32.ofNat r) μ3 = some (v, ν) ∧ Fr rtP μ3 ν := by
    rcases hv with ⟨k, rfl, k1, k2, k3⟩ | ⟨rfl, k2⟩
    · obtain ⟨ν, q, f⟩ := movesA (s := 61 * (c 8 0).toNat + (c 8 1).toNat) (by omega) hd hr k1 k2 k3 k 0 (by omega) (4999 - k) μ3 l58 l3
      rw [show 4999 - k + k + 1 = fu by show _ = 5000; omega] at q
      refine ⟨ν, ?_, f⟩
      simp (decide := true) (implicitDefEqProofs := false) only [f_X7_movesTo, zO, zR, zA, zT, zu1, zu2, zu3, zu4, gI, gL, pI, pL, pZ, aI, aL, sI, sZ, sL, Option.bind_some, Option.map_some, if_true, if_false, ite_true, ite_false, true_and, and_true, false_and, and_false, or_true, true_or, or_false, false_or, and_self, not_true_eq_false, not_false_eq_true, ↓reduceIte, reduceIte, Nat.reduceAdd, Nat.reduceMul, Nat.reduceSub, Nat.reduceMod, Nat.reduceDiv, Nat.reduceEqDiff, Nat.reduceLT, Nat.reduceLeDiff, Int32.reduceAdd, Int32.reduceSub, Int32.reduceMul, Int32.reduceDiv, Int32.reduceMod, Int32.reduceOfNat, Int32.reduceOfInt, Int32.reduceLT, Int32.reduceLE, Int32.reduceToNatClampNeg, Int32.reduceToInt]
      exact q
    · obtain ⟨ν, q, f⟩ := movesB (s := 61 * (c 8 0).toNat + (c 8 1).toNat) hd hr k2 1221 0 (by omega) 3778 1 μ3 l58 l3
      refine ⟨ν, ?_, f⟩
      simp (decide := true) (implicitDefEqProofs := false) only [f_X7_movesTo, zO, zR, zA, zT, zu1, zu2, zu3, zu4, gI, gL, pI, pL, pZ, aI, aL, sI, sZ, sL, Option.bind_some, Option.map_some, if_true, if_false, ite_true, ite_false, true_and, and_true, false_and, and_false, or_true, true_or, or_false, false_or, and_self, not_true_eq_false, not_false_eq_true, ↓reduceIte, reduceIte, Nat.reduceAdd, Nat.reduceMul, Nat.reduceSub, Nat.reduceMod, Nat.reduceDiv, Nat.reduceEqDiff, Nat.reduceLT, Nat.reduceLeDiff, Int32.reduceAdd, Int32.reduceSub, Int32.reduceMul, Int32.reduceDiv, Int32.reduceMod, Int32.reduceOfNat, Int32.reduceOfInt, Int32.reduceLT, Int32.reduceLE, Int32.reduceToNatClampNeg, Int32.reduceToInt]
      exact q
  obtain ⟨ν, p4, f4⟩ := mv
  refine ⟨ν, ?_, ((f1.tr (wy_sc f2)).tr F3).tr (wy_sc (f4.mo (fun q hq => Or.inr hq)))⟩
  simp (decide := true) (implicitDefEqProofs := false) only [f_X11_way, t, t2, p1, zO, zR, zA, zT, zu1, zu2, zu3, zu4, gI, gL, pI, pL, pZ, aI, aL, sI, sZ, sL, Option.bind_some, Option.map_some, if_true, if_false, ite_true, ite_false, true_and, and_true, false_and, and_false, or_true, true_or, or_false, false_or, and_self, not_true_eq_false, not_false_eq_true, ↓reduceIte, reduceIte, Nat.reduceAdd, Nat.reduceMul, Nat.reduceSub, Nat.reduceMod, Nat.reduceDiv, Nat.reduceEqDiff, Nat.reduceLT, Nat.reduceLeDiff, Int32.reduceAdd, Int32.reduceSub, Int32.reduceMul, Int32.reduceDiv, Int32.reduceMod, Int32.reduceOfNat, Int32.reduceOfInt, Int32.reduceLT, Int32.reduceLE, Int32.reduceToNatClampNeg, Int32.reduceToInt]
  refine Eq.trans p2 ?_
  simp (decide := true) (implicitDefEqProofs := false) only [b_X11_way_67, m0, m1, p3, p4, zO, zR, zA, zT, zu1, zu2, zu3, zu4, gI, gL, pI, pL, pZ, aI, aL, sI, sZ, sL, Option.bind_some, Option.map_some, if_true, if_false, ite_true, ite_false, true_and, and_true, false_and, and_false, or_true, true_or, or_false, false_or, and_self, not_true_eq_false, not_false_eq_true, ↓reduceIte, reduceIte, Nat.reduceAdd, Nat.reduceMul, Nat.reduceSub, Nat.reduceMod, Nat.reduceDiv, Nat.reduceEqDiff, Nat.reduceLT, Nat.reduceLeDiff, Int32.reduceAdd, Int32.reduceSub, Int32.reduceMul, Int32.reduceDiv, Int32.reduceMod, Int32.reduceOfNat, Int32.reduceOfInt, Int32.reduceLT, Int32.reduceLE, Int32.reduceToNatClampNeg, Int32.reduceToInt]

