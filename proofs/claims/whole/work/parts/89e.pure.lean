theorem remM (μ0 : Mem) : ∃ ν, f_X12_remembers SX 81 μ0 = some ((), ν) ∧ FC (fun q => q = 103) μ0 ν ∧ ∀ j, j < 14 → ν.1 103 j = μ0.1 90 j := by
  obtain ⟨ν, p, f, g⟩ := lpG (B := l_X12_remembers_2 SX 81) (fin := fun m => some ((), m)) (N := 14) (P := fun i ν => FC (fun q => q = 103) μ0 ν ∧ ∀ j, j < i → ν.1 103 j = μ0.1 90 j) (μ := μ0) (by
    rintro self i μ hi ⟨f, g⟩
    have lf : ((14 : Int32) ≤ Int32.ofNat i) = False := leF (n := 14) (by omega) (by decide)
    refine ⟨upI μ 103 i (μ.1 90 i), by
      simp (decide := true) (implicitDefEqProofs := false) only [l_X12_remembers_2, lf, zin i 14 hi (by decide), ztn i (by omega), ofN1 i, zO, zR, zA, zT, zu1, zu2, zu3, zu4, gI, gL, pI, pL, pZ, aI, aL, sI, sZ, sL, Option.bind_some, Option.map_some, if_true, if_false, ite_true, ite_false, true_and, and_true, false_and, and_false, or_true, true_or, or_false, false_or, and_self, not_true_eq_false, not_false_eq_true, ↓reduceIte, reduceIte, Nat.reduceAdd, Nat.reduceMul, Nat.reduceSub, Nat.reduceMod, Nat.reduceDiv, Nat.reduceEqDiff, Nat.reduceLT, Nat.reduceLeDiff, Int32.reduceAdd, Int32.reduceSub, Int32.reduceMul, Int32.reduceDiv, Int32.reduceMod, Int32.reduceOfNat, Int32.reduceOfInt, Int32.reduceLT, Int32.reduceLE, Int32.reduceToNatClampNeg, Int32.reduceToInt], f.tr (FC.u (by decide) rfl), fun j hj => ?_⟩
    rw [zu1]
    by_cases e : j = i
    · rw [if_pos (by first | exact ⟨rfl, e⟩ | exact ⟨trivial, e⟩), f.e 90 (by decide) (by decide), e]
    · rw [if_neg (fun q => e q.2)]; exact g j (by omega)) (by
    rintro self μ -
    simp (decide := true) (implicitDefEqProofs := false) only [l_X12_remembers_2, zO, zR, zA, zT, zu1, zu2, zu3, zu4, gI, gL, pI, pL, pZ, aI, aL, sI, sZ, sL, Option.bind_some, Option.map_some, if_true, if_false, ite_true, ite_false, true_and, and_true, false_and, and_false, or_true, true_or, or_false, false_or, and_self, not_true_eq_false, not_false_eq_true, ↓reduceIte, reduceIte, Nat.reduceAdd, Nat.reduceMul, Nat.reduceSub, Nat.reduceMod, Nat.reduceDiv, Nat.reduceEqDiff, Nat.reduceLT, Nat.reduceLeDiff, Int32.reduceAdd, Int32.reduceSub, Int32.reduceMul, Int32.reduceDiv, Int32.reduceMod, Int32.reduceOfNat, Int32.reduceOfInt, Int32.reduceLT, Int32.reduceLE, Int32.reduceToNatClampNeg, Int32.reduceToInt]) (by decide) ⟨FM.rf, fun j hj => by omega⟩
  refine ⟨ν, ?_, f, g⟩
  simp (decide := true) (implicitDefEqProofs := false) only [f_X12_remembers, zO, zR, zA, zT, zu1, zu2, zu3, zu4, gI, gL, pI, pL, pZ, aI, aL, sI, sZ, sL, Option.bind_some, Option.map_some, if_true, if_false, ite_true, ite_false, true_and, and_true, false_and, and_false, or_true, true_or, or_false, false_or, and_self, not_true_eq_false, not_false_eq_true, ↓reduceIte, reduceIte, Nat.reduceAdd, Nat.reduceMul, Nat.reduceSub, Nat.reduceMod, Nat.reduceDiv, Nat.reduceEqDiff, Nat.reduceLT, Nat.reduceLeDiff, Int32.reduceAdd, Int32.reduceSub, Int32.reduceMul, Int32.reduceDiv, Int32.reduceMod, Int32.reduceOfNat, Int32.reduceOfInt, Int32.reduceLT, Int32.reduceLE, Int32.reduceToNatClampNeg, Int32.reduceToInt]
  exact p
theorem retM (μ0 : Mem) : ∃ ν, f_X12_returns SX 81 μ0 = some ((), ν) ∧ FC (fun q => q = 90) μ0 ν ∧ ∀ j, j < 14 → ν.1 90 j = μ0.1 103 j := by
  obtain ⟨ν, p, f, g⟩ := lpG (B := l_X12_returns_2 SX 81) (fin := fun m => some ((), m)) (N := 14) (P := fun i ν => FC (fun q => q = 90) μ0 ν ∧ ∀ j, j < i → ν.1 90 j = μ0.1 103 j) (μ := μ0) (by
    rintro self i μ hi ⟨f, g⟩
    have lf : ((14 : Int32) ≤ Int32.ofNat i) = False := leF (n := 14) (by omega) (by decide)
    refine ⟨upI μ 90 i (μ.1 103 i), by
      simp (decide := true) (implicitDefEqProofs := false) only [l_X12_returns_2, lf, zin i 14 hi (by decide), ztn i (by omega), ofN1 i, zO, zR, zA, zT, zu1, zu2, zu3, zu4, gI, gL, pI, pL, pZ, aI, aL, sI, sZ, sL, Option.bind_some, Option.map_some, if_true, if_false, ite_true, ite_false, true_and, and_true, false_and, and_false, or_true, true_or, or_false, false_or, and_self, not_true_eq_false, not_false_eq_true, ↓reduceIte, reduceIte, Nat.reduceAdd, Nat.reduceMul, Nat.reduceSub, Nat.reduceMod, Nat.reduceDiv, Nat.reduceEqDiff, Nat.reduceLT, Nat.reduceLeDiff, Int32.reduceAdd, Int32.reduceSub, Int32.reduceMul, Int32.reduceDiv, Int32.reduceMod, Int32.reduceOfNat, Int32.reduceOfInt, Int32.reduceLT, Int32.reduceLE, Int32.reduceToNatClampNeg, Int32.reduceToInt], f.tr (FC.u (by decide) rfl), fun j hj => ?_⟩
    rw [zu1]
    by_cases e : j = i
    · rw [if_pos (by first | exact ⟨rfl, e⟩ | exact ⟨trivial, e⟩), f.e 103 (by decide) (by decide), e]
    · rw [if_neg (fun q => e q.2)]; exact g j (by omega)) (by
    rintro self μ -
    simp (decide := true) (implicitDefEqProofs := false) only [l_X12_returns_2, zO, zR, zA, zT, zu1, zu2, zu3, zu4, gI, gL, pI, pL, pZ, aI, aL, sI, sZ, sL, Option.bind_some, Option.map_some, if_true, if_false, ite_true, ite_false, true_and, and_true, false_and, and_false, or_true, true_or, or_false, false_or, and_self, not_true_eq_false, not_false_eq_true, ↓reduceIte, reduceIte, Nat.reduceAdd, Nat.reduceMul, Nat.reduceSub, Nat.reduceMod, Nat.reduceDiv, Nat.reduceEqDiff, Nat.reduceLT, Nat.reduceLeDiff, Int32.reduceAdd, Int32.reduceSub, Int32.reduceMul, Int32.reduceDiv, Int32.reduceMod, Int32.reduceOfNat, Int32.reduceOfInt, Int32.reduceLT, Int32.reduceLE, Int32.reduceToNatClampNeg, Int32.reduceToInt]) (by decide) ⟨FM.rf, fun j hj => by omega⟩
  refine ⟨ν, ?_, f, g⟩
  simp (decide := true) (implicitDefEqProofs := false) only [f_X12_returns, zO, zR, zA, zT, zu1, zu2, zu3, zu4, gI, gL, pI, pL, pZ, aI, aL, sI, sZ, sL, Option.bind_some, Option.map_some, if_true, if_false, ite_true, ite_false, true_and, and_true, false_and, and_false, or_true, true_or, or_false, false_or, and_self, not_true_eq_false, not_false_eq_true, ↓reduceIte, reduceIte, Nat.reduceAdd, Nat.reduceMul, Nat.reduceSub, Nat.reduceMod, Nat.reduceDiv, Nat.reduceEqDiff, Nat.reduceLT, Nat.reduceLeDiff, Int32.reduceAdd, Int32.reduceSub, Int32.reduceMul, Int32.reduceDiv, Int32.reduceMod, Int32.reduceOfNat, Int32.reduceOfInt, Int32.reduceLT, Int32.reduceLE, Int32.reduceToNatClampNeg, Int32.reduceToInt]
  exact p
theorem MM.ret {c c' : Nat → Nat → Int} {μ ν : Mem} (h : MM c' μ) (s : S8 c c') (f : FC (fun q => q = 90) μ ν) (g : Rw ν 90 14 (c 8)) : MM c ν := by
  have e : ∀ q, q ≠ 81 → q ≠ 90 → ν.1 q = μ.1 q := fun q h1 h2 => f.e q h1 h2
  obtain ⟨h1, h2, h3, h4⟩ := h
  rw [s 0 (by decide), s 1 (by decide), s 2 (by decide)] at h1
  rw [s 7 (by decide), s 3 (by decide), s 4 (by decide), s 5 (by decide), s 6 (by decide)] at h2
  refine ⟨?_, ?_, fun q hq => ?_, g⟩
  · rw [e 82 (by decide) (by decide)]; exact h1
  · unfold Rw at *
    rw [(f.2 1 (fun q => q)).1, e 83 (by decide) (by decide), e 84 (by decide) (by decide), e 85 (by decide) (by decide), e 86 (by decide) (by decide)]; exact h2
  · have := h3 q hq
    rw [s 12 (by decide), s (9 + q) (by omega)] at this
    rw [e 87 (by decide) (by decide), e 88 (by decide) (by decide), e 89 (by decide) (by decide)]; exact this
theorem PL.fn {μ : Mem} (h : PL μ) : ∃ (n : Nat) (K V : Nat → Nat), n ≤ 25 ∧ μ.1 63 2 = Int32.ofNat n ∧ (∀ i, i < n → K i < 5 ∧ V i ≤ mOf (K i)) ∧ PLx 63 n (fun i => wOf (K i)) V μ ∧ PMx n K V μ := by
  obtain ⟨n, hn, t1, t2, t3⟩ := h
  refine ⟨n, fun i => (μ.1 99 i).toNatClampNeg, fun i => (μ.1 100 i).toNatClampNeg, hn, t1, fun i hi => ?_, ⟨t1, fun i hi => ?_⟩, ⟨t2, fun i hi => ?_⟩⟩
  · obtain ⟨k, v, h1, h2, h3, h4, h5, h6⟩ := t3 i hi
    have m4 : ∀ k, k < 5 → mOf k ≤ 9999 := by decide
    have := m4 k h1
    dsimp only
    rw [h5, h6, ztn k (by omega), ztn v (by omega)]
    exact ⟨h1, h2⟩
  · obtain ⟨k, v, h1, h2, h3, h4, h5, h6⟩ := t3 i hi
    have m4 : ∀ k, k < 5 → mOf k ≤ 9999 := by decide
    have := m4 k h1
    dsimp only
    rw [h5, h6, ztn k (by omega), ztn v (by omega)]
    exact ⟨h3, h4⟩
  · obtain ⟨k, v, h1, h2, h3, h4, h5, h6⟩ := t3 i hi
    have m4 : ∀ k, k < 5 → mOf k ≤ 9999 := by decide
    have := m4 k h1
    dsimp only
    rw [h5, h6, ztn k (by omega), ztn v (by omega)]
    exact ⟨rfl, rfl⟩
def g4P (q : Nat) : Prop := gM q ∨ q = 103 ∨ q = 104
theorem g4cr {μ ν : Mem} (f : FM g4P lkJ μ ν) : FM crP crJ μ ν := f.mo (fun k q => by unfold g4P gM uP at q; unfold crP scP; omega) (fun k q => by unfold lkJ uJ at q; unfold crJ scJ; omega)
theorem gXsc {μ ν : Mem} (f : Fr gX μ ν) : FM scP scJ μ ν := (f.fm (by unfold gX; omega)).mo (fun k q => by unfold gX at q; unfold scP; omega) (fun k q => q.elim)
theorem WM.w {b : Bool} {w : WS} {μ ν : Mem} {P : Nat → Prop} (h : WM b w μ) (f : FC P μ ν) : WM b w ν := by
  unfold WM at *
  rw [(f.2 30 (fun q => q)).1, (f.2 31 (fun q => q)).1, (f.2 32 (fun q => q)).1, (f.2 33 (fun q => q)).1, (f.2 34 (fun q => q)).1]
  exact h
theorem checksM {n : Nat} {K V : Nat → Nat} (hn : n ≤ 25) (ok : ∀ i, i < n → K i < 5 ∧ V i ≤ mOf (K i)) {c : Nat → Nat → Int} {μ : Mem} (b : BC c) (h : MM c μ) (hp : PMx n K V μ) : ∃ ν, f_X12_checks SX 81 μ = some ((), ν) ∧ FM g4P lkJ μ ν ∧ MM c ν ∧ WM true (goF (fun i => wOf (K i)) V n 0 c (W1 c)).2 ν := by
  obtain ⟨ν1, p1, f1, e1⟩ := remM μ
  have M1 : MM c ν1 := h.w f1 (fun q g1 g2 => by omega) (fun q => q)
  obtain ⟨ν2, p2, f2, M2, X2⟩ := goesAllM hn ok b M1 (hp.w f1 (fun q => q) (by omega) (by omega))
  obtain ⟨ν3, p3, f3, e3⟩ := retM ν2
  have go := goF_ok (D := fun i => wOf (K i)) (G := V) n 0 (fun j _ h2 => sokW (ok j (by omega)).1 (ok j (by omega)).2) c (W1 c) b
  have e103 : ν2.1 103 = ν1.1 103 := (f2.1 103 (by decide) (by unfold gM uP; omega)).1
  have F1 : FM g4P lkJ μ ν1 := f1.mo (fun q w => Or.inr (Or.inl w)) (fun j w => w.elim)
  have F2 : FM g4P lkJ ν1 ν2 := f2.mo (fun q w => Or.inl w) (fun j w => w)
  have F3 : FM g4P lkJ ν2 ν3 := f3.mo (fun q w => Or.inl (Or.inl w)) (fun j w => w.elim)
  refine ⟨ν3, ?_, (F1.tr F2).tr F3, M2.ret go.2.1 f3 (fun j hj => ?_), X2.w f3⟩
  · simp (decide := true) (implicitDefEqProofs := false) only [f_X12_checks, p1, p2, p3, zO, zR, zA, zT, zu1, zu2, zu3, zu4, gI, gL, pI, pL, pZ, aI, aL, sI, sZ, sL, Option.bind_some, Option.map_some, if_true, if_false, ite_true, ite_false, true_and, and_true, false_and, and_false, or_true, true_or, or_false, false_or, and_self, not_true_eq_false, not_false_eq_true, ↓reduceIte, reduceIte, Nat.reduceAdd, Nat.reduceMul, Nat.reduceSub, Nat.reduceMod, Nat.reduceDiv, Nat.reduceEqDiff, Nat.reduceLT, Nat.reduceLeDiff, Int32.reduceAdd, Int32.reduceSub, Int32.reduceMul, Int32.reduceDiv, Int32.reduceMod, Int32.reduceOfNat, Int32.reduceOfInt, Int32.reduceLT, Int32.reduceLE, Int32.reduceToNatClampNeg, Int32.reduceToInt]
  · rw [e3 j hj, e103, e1 j hj]; exact h.2.2.2 j hj
theorem ok_checked {μ : Mem} (h : INV μ) (a1 : Int32) : OKop (f_X11_checked SX 0 a1) (f_X12_checked SX 81 a1) μ := by
  obtain ⟨c, b, h1, h2⟩ := h.1
  obtain ⟨n, K, V, hn, t1, ok, px, pm⟩ := h.2.2.2.1.fn
  rcases wbN a1 3 (by decide) with t | ⟨t, j, hj, rfl⟩
  · simp only [Nat.reduceAdd, Nat.reduceMul, Nat.reduceMod, Int32.reduceOfNat] at t
    refine ⟨-1, μ, μ, ?_, ?_, h⟩
    · simp (decide := true) (implicitDefEqProofs := false) only [f_X11_checked, within_at, t, zO, zR, zA, zT, zu1, zu2, zu3, zu4, gI, gL, pI, pL, pZ, aI, aL, sI, sZ, sL, Option.bind_some, Option.map_some, if_true, if_false, ite_true, ite_false, true_and, and_true, false_and, and_false, or_true, true_or, or_false, false_or, and_self, not_true_eq_false, not_false_eq_true, ↓reduceIte, reduceIte, Nat.reduceAdd, Nat.reduceMul, Nat.reduceSub, Nat.reduceMod, Nat.reduceDiv, Nat.reduceEqDiff, Nat.reduceLT, Nat.reduceLeDiff, Int32.reduceAdd, Int32.reduceSub, Int32.reduceMul, Int32.reduceDiv, Int32.reduceMod, Int32.reduceOfNat, Int32.reduceOfInt, Int32.reduceLT, Int32.reduceLE, Int32.reduceToNatClampNeg, Int32.reduceToInt]
    · simp (decide := true) (implicitDefEqProofs := false) only [f_X12_checked, in_at, t, zO, zR, zA, zT, zu1, zu2, zu3, zu4, gI, gL, pI, pL, pZ, aI, aL, sI, sZ, sL, Option.bind_some, Option.map_some, if_true, if_false, ite_true, ite_false, true_and, and_true, false_and, and_false, or_true, true_or, or_false, false_or, and_self, not_true_eq_false, not_false_eq_true, ↓reduceIte, reduceIte, Nat.reduceAdd, Nat.reduceMul, Nat.reduceSub, Nat.reduceMod, Nat.reduceDiv, Nat.reduceEqDiff, Nat.reduceLT, Nat.reduceLeDiff, Int32.reduceAdd, Int32.reduceSub, Int32.reduceMul, Int32.reduceDiv, Int32.reduceMod, Int32.reduceOfNat, Int32.reduceOfInt, Int32.reduceLT, Int32.reduceLE, Int32.reduceToNatClampNeg, Int32.reduceToInt]
  · simp only [Nat.reduceAdd, Nat.reduceMul, Nat.reduceMod, Int32.reduceOfNat] at t
    have pm1 := pm.1
    have n0 : (Int32.ofNat n = 0) = (n = 0) := neN (b := 0) (by omega) (by decide)
    by_cases z : n = 0
    · refine ⟨-3, μ, μ, ?_, ?_, h⟩
      · simp (decide := true) (implicitDefEqProofs := false) only [f_X11_checked, within_at, t, t1, n0, z, zO, zR, zA, zT, zu1, zu2, zu3, zu4, gI, gL, pI, pL, pZ, aI, aL, sI, sZ, sL, Option.bind_some, Option.map_some, if_true, if_false, ite_true, ite_false, true_and, and_true, false_and, and_false, or_true, true_or, or_false, false_or, and_self, not_true_eq_false, not_false_eq_true, ↓reduceIte, reduceIte, Nat.reduceAdd, Nat.reduceMul, Nat.reduceSub, Nat.reduceMod, Nat.reduceDiv, Nat.reduceEqDiff, Nat.reduceLT, Nat.reduceLeDiff, Int32.reduceAdd, Int32.reduceSub, Int32.reduceMul, Int32.reduceDiv, Int32.reduceMod, Int32.reduceOfNat, Int32.reduceOfInt, Int32.reduceLT, Int32.reduceLE, Int32.reduceToNatClampNeg, Int32.reduceToInt]
      · simp (decide := true) (implicitDefEqProofs := false) only [f_X12_checked, in_at, t, pm1, n0, z, zO, zR, zA, zT, zu1, zu2, zu3, zu4, gI, gL, pI, pL, pZ, aI, aL, sI, sZ, sL, Option.bind_some, Option.map_some, if_true, if_false, ite_true, ite_false, true_and, and_true, false_and, and_false, or_true, true_or, or_false, false_or, and_self, not_true_eq_false, not_false_eq_true, ↓reduceIte, reduceIte, Nat.reduceAdd, Nat.reduceMul, Nat.reduceSub, Nat.reduceMod, Nat.reduceDiv, Nat.reduceEqDiff, Nat.reduceLT, Nat.reduceLeDiff, Int32.reduceAdd, Int32.reduceSub, Int32.reduceMul, Int32.reduceDiv, Int32.reduceMod, Int32.reduceOfNat, Int32.reduceOfInt, Int32.reduceLT, Int32.reduceLE, Int32.reduceToNatClampNeg, Int32.reduceToInt]
    · obtain ⟨μ1, p1, f1, d1⟩ := draft_at h1 b
      have px1 : PLx 63 n (fun i => wOf (K i)) V μ1 := by
        unfold PLx at *
        rw [(f1.1 63 (by decide) (by unfold scP; omega)).1, (f1.1 (63 + 1) (by decide) (by unfold scP; omega)).1, (f1.1 (63 + 2) (by decide) (by unfold scP; omega)).1]
        exact px
      have so : ∀ i, i < n → SOK (wOf (K i)) (V i) := fun i hi => sokW (ok i hi).1 (ok i hi).2
      obtain ⟨μ2, p2, f2, C2, X2⟩ := goX (P := 63) (Or.inl rfl) hn so b d1 px1
      have F12 := f1.tr (gXsc f2)
      have M2 := h2.sc F12
      have pm2 : PMx n K V μ2 := pm.w F12 (by unfold scJ; omega) (by unfold scP; omega) (by unfold scP; omega)
      obtain ⟨μ3, p3, f3, M3, X3⟩ := checksM hn ok b M2 pm2
      have pm2' := pm2.1
      have I3 : INV μ3 := h.cr ((scCr F12).tr (g4cr f3)) ⟨c, b, (h1.sc F12).f f3 (fun q g1 g2 => ⟨by omega, by unfold g4P gM uP; omega⟩), M3⟩
      obtain ⟨w, Ew⟩ : ∃ w, w = (goF (fun i => wOf (K i)) V n 0 c (W1 c)).2 := ⟨_, rfl⟩
      rw [← Ew] at X2 X3
      obtain ⟨x0, x1, x2, x3, x4⟩ := X2
      obtain ⟨y0, y1, y2, y3, y4⟩ := X3
      have y2 := y2 rfl
      have e : j = 0 ∨ j = 1 ∨ j = 2 ∨ j = 3 := by omega
      rcases e with rfl | rfl | rfl | rfl
      · simp only [Nat.reduceAdd, Nat.reduceMul, Nat.reduceMod, Int32.reduceOfNat] at t
        refine ⟨Int32.ofNat w.1, μ2, μ3, ?_, ?_, I3⟩
        · simp (decide := true) (implicitDefEqProofs := false) only [f_X11_checked, within_at, t, t1, n0, z, p1, p2, x0, zO, zR, zA, zT, zu1, zu2, zu3, zu4, gI, gL, pI, pL, pZ, aI, aL, sI, sZ, sL, Option.bind_some, Option.map_some, if_true, if_false, ite_true, ite_false, true_and, and_true, false_and, and_false, or_true, true_or, or_false, false_or, and_self, not_true_eq_false, not_false_eq_true, ↓reduceIte, reduceIte, Nat.reduceAdd, Nat.reduceMul, Nat.reduceSub, Nat.reduceMod, Nat.reduceDiv, Nat.reduceEqDiff, Nat.reduceLT, Nat.reduceLeDiff, Int32.reduceAdd, Int32.reduceSub, Int32.reduceMul, Int32.reduceDiv, Int32.reduceMod, Int32.reduceOfNat, Int32.reduceOfInt, Int32.reduceLT, Int32.reduceLE, Int32.reduceToNatClampNeg, Int32.reduceToInt]
        · simp (decide := true) (implicitDefEqProofs := false) only [f_X12_checked, in_at, t, pm2', n0, z, p3, y0, zO, zR, zA, zT, zu1, zu2, zu3, zu4, gI, gL, pI, pL, pZ, aI, aL, sI, sZ, sL, Option.bind_some, Option.map_some, if_true, if_false, ite_true, ite_false, true_and, and_true, false_and, and_false, or_true, true_or, or_false, false_or, and_self, not_true_eq_false, not_false_eq_true, ↓reduceIte, reduceIte, Nat.reduceAdd, Nat.reduceMul, Nat.reduceSub, Nat.reduceMod, Nat.reduceDiv, Nat.reduceEqDiff, Nat.reduceLT, Nat.reduceLeDiff, Int32.reduceAdd, Int32.reduceSub, Int32.reduceMul, Int32.reduceDiv, Int32.reduceMod, Int32.reduceOfNat, Int32.reduceOfInt, Int32.reduceLT, Int32.reduceLE, Int32.reduceToNatClampNeg, Int32.reduceToInt]
      · simp only [Nat.reduceAdd, Nat.reduceMul, Nat.reduceMod, Int32.reduceOfNat] at t
        refine ⟨w.2.1, μ2, μ3, ?_, ?_, I3⟩
        · simp (decide := true) (implicitDefEqProofs := false) only [f_X11_checked, within_at, t, t1, n0, z, p1, p2, x1, zO, zR, zA, zT, zu1, zu2, zu3, zu4, gI, gL, pI, pL, pZ, aI, aL, sI, sZ, sL, Option.bind_some, Option.map_some, if_true, if_false, ite_true, ite_false, true_and, and_true, false_and, and_false, or_true, true_or, or_false, false_or, and_self, not_true_eq_false, not_false_eq_true, ↓reduceIte, reduceIte, Nat.reduceAdd, Nat.reduceMul, Nat.reduceSub, Nat.reduceMod, Nat.reduceDiv, Nat.reduceEqDiff, Nat.reduceLT, Nat.reduceLeDiff, Int32.reduceAdd, Int32.reduceSub, Int32.reduceMul, Int32.reduceDiv, Int32.reduceMod, Int32.reduceOfNat, Int32.reduceOfInt, Int32.reduceLT, Int32.reduceLE, Int32.reduceToNatClampNeg, Int32.reduceToInt]
        · simp (decide := true) (implicitDefEqProofs := false) only [f_X12_checked, in_at, t, pm2', n0, z, p3, y1, zO, zR, zA, zT, zu1, zu2, zu3, zu4, gI, gL, pI, pL, pZ, aI, aL, sI, sZ, sL, Option.bind_some, Option.map_some, if_true, if_false, ite_true, ite_false, true_and, and_true, false_and, and_false, or_true, true_or, or_false, false_or, and_self, not_true_eq_false, not_false_eq_true, ↓reduceIte, reduceIte, Nat.reduceAdd, Nat.reduceMul, Nat.reduceSub, Nat.reduceMod, Nat.reduceDiv, Nat.reduceEqDiff, Nat.reduceLT, Nat.reduceLeDiff, Int32.reduceAdd, Int32.reduceSub, Int32.reduceMul, Int32.reduceDiv, Int32.reduceMod, Int32.reduceOfNat, Int32.reduceOfInt, Int32.reduceLT, Int32.reduceLE, Int32.reduceToNatClampNeg, Int32.reduceToInt]
      · simp only [Nat.reduceAdd, Nat.reduceMul, Nat.reduceMod, Int32.reduceOfNat] at t
        refine ⟨w.2.2.1, μ2, μ3, ?_, ?_, I3⟩
        · simp (decide := true) (implicitDefEqProofs := false) only [f_X11_checked, within_at, t, t1, n0, z, p1, p2, x2, zO, zR, zA, zT, zu1, zu2, zu3, zu4, gI, gL, pI, pL, pZ, aI, aL, sI, sZ, sL, Option.bind_some, Option.map_some, if_true, if_false, ite_true, ite_false, true_and, and_true, false_and, and_false, or_true, true_or, or_false, false_or, and_self, not_true_eq_false, not_false_eq_true, ↓reduceIte, reduceIte, Nat.reduceAdd, Nat.reduceMul, Nat.reduceSub, Nat.reduceMod, Nat.reduceDiv, Nat.reduceEqDiff, Nat.reduceLT, Nat.reduceLeDiff, Int32.reduceAdd, Int32.reduceSub, Int32.reduceMul, Int32.reduceDiv, Int32.reduceMod, Int32.reduceOfNat, Int32.reduceOfInt, Int32.reduceLT, Int32.reduceLE, Int32.reduceToNatClampNeg, Int32.reduceToInt]
        · simp (decide := true) (implicitDefEqProofs := false) only [f_X12_checked, in_at, t, pm2', n0, z, p3, y2, zO, zR, zA, zT, zu1, zu2, zu3, zu4, gI, gL, pI, pL, pZ, aI, aL, sI, sZ, sL, Option.bind_some, Option.map_some, if_true, if_false, ite_true, ite_false, true_and, and_true, false_and, and_false, or_true, true_or, or_false, false_or, and_self, not_true_eq_false, not_false_eq_true, ↓reduceIte, reduceIte, Nat.reduceAdd, Nat.reduceMul, Nat.reduceSub, Nat.reduceMod, Nat.reduceDiv, Nat.reduceEqDiff, Nat.reduceLT, Nat.reduceLeDiff, Int32.reduceAdd, Int32.reduceSub, Int32.reduceMul, Int32.reduceDiv, Int32.reduceMod, Int32.reduceOfNat, Int32.reduceOfInt, Int32.reduceLT, Int32.reduceLE, Int32.reduceToNatClampNeg, Int32.reduceToInt]
      · simp only [Nat.reduceAdd, Nat.reduceMul, Nat.reduceMod, Int32.reduceOfNat] at t
        refine ⟨w.2.2.2.1, μ2, μ3, ?_, ?_, I3⟩
        · simp (decide := true) (implicitDefEqProofs := false) only [f_X11_checked, within_at, t, t1, n0, z, p1, p2, x3, zO, zR, zA, zT, zu1, zu2, zu3, zu4, gI, gL, pI, pL, pZ, aI, aL, sI, sZ, sL, Option.bind_some, Option.map_some, if_true, if_false, ite_true, ite_false, true_and, and_true, false_and, and_false, or_true, true_or, or_false, false_or, and_self, not_true_eq_false, not_false_eq_true, ↓reduceIte, reduceIte, Nat.reduceAdd, Nat.reduceMul, Nat.reduceSub, Nat.reduceMod, Nat.reduceDiv, Nat.reduceEqDiff, Nat.reduceLT, Nat.reduceLeDiff, Int32.reduceAdd, Int32.reduceSub, Int32.reduceMul, Int32.reduceDiv, Int32.reduceMod, Int32.reduceOfNat, Int32.reduceOfInt, Int32.reduceLT, Int32.reduceLE, Int32.reduceToNatClampNeg, Int32.reduceToInt]
        · simp (decide := true) (implicitDefEqProofs := false) only [f_X12_checked, in_at, t, pm2', n0, z, p3, y3, zO, zR, zA, zT, zu1, zu2, zu3, zu4, gI, gL, pI, pL, pZ, aI, aL, sI, sZ, sL, Option.bind_some, Option.map_some, if_true, if_false, ite_true, ite_false, true_and, and_true, false_and, and_false, or_true, true_or, or_false, false_or, and_self, not_true_eq_false, not_false_eq_true, ↓reduceIte, reduceIte, Nat.reduceAdd, Nat.reduceMul, Nat.reduceSub, Nat.reduceMod, Nat.reduceDiv, Nat.reduceEqDiff, Nat.reduceLT, Nat.reduceLeDiff, Int32.reduceAdd, Int32.reduceSub, Int32.reduceMul, Int32.reduceDiv, Int32.reduceMod, Int32.reduceOfNat, Int32.reduceOfInt, Int32.reduceLT, Int32.reduceLE, Int32.reduceToNatClampNeg, Int32.reduceToInt]
theorem ok_spare {μ : Mem} (h : INV μ) : OKop (f_X11_spare SX 0) (f_X12_spare SX 81) μ := by
  obtain ⟨c, b, h1, h2⟩ := h.1
  obtain ⟨n, K, V, hn, t1, ok, px, pm⟩ := h.2.2.2.1.fn
  have pm1 := pm.1
  have n0 : (Int32.ofNat n = 0) = (n = 0) := neN (b := 0) (by omega) (by decide)
  by_cases z : n = 0
  · refine ⟨-9223372036854775808, μ, μ, ?_, ?_, h⟩
    · simp (decide := true) (implicitDefEqProofs := false) only [f_X11_spare, t1, n0, z, zO, zR, zA, zT, zu1, zu2, zu3, zu4, gI, gL, pI, pL, pZ, aI, aL, sI, sZ, sL, Option.bind_some, Option.map_some, if_true, if_false, ite_true, ite_false, true_and, and_true, false_and, and_false, or_true, true_or, or_false, false_or, and_self, not_true_eq_false, not_false_eq_true, ↓reduceIte, reduceIte, Nat.reduceAdd, Nat.reduceMul, Nat.reduceSub, Nat.reduceMod, Nat.reduceDiv, Nat.reduceEqDiff, Nat.reduceLT, Nat.reduceLeDiff, Int32.reduceAdd, Int32.reduceSub, Int32.reduceMul, Int32.reduceDiv, Int32.reduceMod, Int32.reduceOfNat, Int32.reduceOfInt, Int32.reduceLT, Int32.reduceLE, Int32.reduceToNatClampNeg, Int32.reduceToInt]
    · simp (decide := true) (implicitDefEqProofs := false) only [f_X12_spare, pm1, n0, z, zO, zR, zA, zT, zu1, zu2, zu3, zu4, gI, gL, pI, pL, pZ, aI, aL, sI, sZ, sL, Option.bind_some, Option.map_some, if_true, if_false, ite_true, ite_false, true_and, and_true, false_and, and_false, or_true, true_or, or_false, false_or, and_self, not_true_eq_false, not_false_eq_true, ↓reduceIte, reduceIte, Nat.reduceAdd, Nat.reduceMul, Nat.reduceSub, Nat.reduceMod, Nat.reduceDiv, Nat.reduceEqDiff, Nat.reduceLT, Nat.reduceLeDiff, Int32.reduceAdd, Int32.reduceSub, Int32.reduceMul, Int32.reduceDiv, Int32.reduceMod, Int32.reduceOfNat, Int32.reduceOfInt, Int32.reduceLT, Int32.reduceLE, Int32.reduceToNatClampNeg, Int32.reduceToInt]
  · obtain ⟨μ1, p1, f1, d1⟩ := draft_at h1 b
    have px1 : PLx 63 n (fun i => wOf (K i)) V μ1 := by
      unfold PLx at *
      rw [(f1.1 63 (by decide) (by unfold scP; omega)).1, (f1.1 (63 + 1) (by decide) (by unfold scP; omega)).1, (f1.1 (63 + 2) (by decide) (by unfold scP; omega)).1]
      exact px
    have so : ∀ i, i < n → SOK (wOf (K i)) (V i) := fun i hi => sokW (ok i hi).1 (ok i hi).2
    obtain ⟨μ2, p2, f2, C2, X2⟩ := goX (P := 63) (Or.inl rfl) hn so b d1 px1
    have F12 := f1.tr (gXsc f2)
    have M2 := h2.sc F12
    have pm2 : PMx n K V μ2 := pm.w F12 (by unfold scJ; omega) (by unfold scP; omega) (by unfold scP; omega)
    obtain ⟨μ3, p3, f3, M3, X3⟩ := checksM hn ok b M2 pm2
    have pm2' := pm2.1
    have I3 : INV μ3 := h.cr ((scCr F12).tr (g4cr f3)) ⟨c, b, (h1.sc F12).f f3 (fun q g1 g2 => ⟨by omega, by unfold g4P gM uP; omega⟩), M3⟩
    have mo := goF_mo (D := fun i => wOf (K i)) (G := V) n 0 c (W1 c)
    rw [W1_1] at mo
    obtain ⟨w, Ew⟩ : ∃ w, w = (goF (fun i => wOf (K i)) V n 0 c (W1 c)).2 := ⟨_, rfl⟩
    rw [← Ew] at X2 X3 mo
    obtain ⟨x0, x1, x2, x3, x4⟩ := X2
    obtain ⟨y0, y1, y2, y3, y4⟩ := X3
    rw [if_neg (by omega)] at x4
    have y4 := y4 (by omega)
    refine ⟨w.2.2.2.2.toInt64, μ2, μ3, ?_, ?_, I3⟩
    · simp (decide := true) (implicitDefEqProofs := false) only [f_X11_spare, t1, n0, z, p1, p2, x4, zO, zR, zA, zT, zu1, zu2, zu3, zu4, gI, gL, pI, pL, pZ, aI, aL, sI, sZ, sL, Option.bind_some, Option.map_some, if_true, if_false, ite_true, ite_false, true_and, and_true, false_and, and_false, or_true, true_or, or_false, false_or, and_self, not_true_eq_false, not_false_eq_true, ↓reduceIte, reduceIte, Nat.reduceAdd, Nat.reduceMul, Nat.reduceSub, Nat.reduceMod, Nat.reduceDiv, Nat.reduceEqDiff, Nat.reduceLT, Nat.reduceLeDiff, Int32.reduceAdd, Int32.reduceSub, Int32.reduceMul, Int32.reduceDiv, Int32.reduceMod, Int32.reduceOfNat, Int32.reduceOfInt, Int32.reduceLT, Int32.reduceLE, Int32.reduceToNatClampNeg, Int32.reduceToInt]
    · simp (decide := true) (implicitDefEqProofs := false) only [f_X12_spare, pm2', n0, z, p3, y4, zO, zR, zA, zT, zu1, zu2, zu3, zu4, gI, gL, pI, pL, pZ, aI, aL, sI, sZ, sL, Option.bind_some, Option.map_some, if_true, if_false, ite_true, ite_false, true_and, and_true, false_and, and_false, or_true, true_or, or_false, false_or, and_self, not_true_eq_false, not_false_eq_true, ↓reduceIte, reduceIte, Nat.reduceAdd, Nat.reduceMul, Nat.reduceSub, Nat.reduceMod, Nat.reduceDiv, Nat.reduceEqDiff, Nat.reduceLT, Nat.reduceLeDiff, Int32.reduceAdd, Int32.reduceSub, Int32.reduceMul, Int32.reduceDiv, Int32.reduceMod, Int32.reduceOfNat, Int32.reduceOfInt, Int32.reduceLT, Int32.reduceLE, Int32.reduceToNatClampNeg, Int32.reduceToInt]
theorem ok_done {μ : Mem} (h : INV μ) : OKop (f_X11_done SX 0) (f_X12_done SX 81) μ := by
  obtain ⟨c, b, h1, h2⟩ := h.1
  obtain ⟨n, K, V, hn, t1, ok, px, pm⟩ := h.2.2.2.1.fn
  have pm1 := pm.1
  have n0 : (Int32.ofNat n = 0) = (n = 0) := neN (b := 0) (by omega) (by decide)
  by_cases z : n = 0
  · refine ⟨-3, μ, μ, ?_, ?_, h⟩
    · simp (decide := true) (implicitDefEqProofs := false) only [f_X11_done, t1, n0, z, zO, zR, zA, zT, zu1, zu2, zu3, zu4, gI, gL, pI, pL, pZ, aI, aL, sI, sZ, sL, Option.bind_some, Option.map_some, if_true, if_false, ite_true, ite_false, true_and, and_true, false_and, and_false, or_true, true_or, or_false, false_or, and_self, not_true_eq_false, not_false_eq_true, ↓reduceIte, reduceIte, Nat.reduceAdd, Nat.reduceMul, Nat.reduceSub, Nat.reduceMod, Nat.reduceDiv, Nat.reduceEqDiff, Nat.reduceLT, Nat.reduceLeDiff, Int32.reduceAdd, Int32.reduceSub, Int32.reduceMul, Int32.reduceDiv, Int32.reduceMod, Int32.reduceOfNat, Int32.reduceOfInt, Int32.reduceLT, Int32.reduceLE, Int32.reduceToNatClampNeg, Int32.reduceToInt]
    · simp (decide := true) (implicitDefEqProofs := false) only [f_X12_done, pm1, n0, z, zO, zR, zA, zT, zu1, zu2, zu3, zu4, gI, gL, pI, pL, pZ, aI, aL, sI, sZ, sL, Option.bind_some, Option.map_some, if_true, if_false, ite_true, ite_false, true_and, and_true, false_and, and_false, or_true, true_or, or_false, false_or, and_self, not_true_eq_false, not_false_eq_true, ↓reduceIte, reduceIte, Nat.reduceAdd, Nat.reduceMul, Nat.reduceSub, Nat.reduceMod, Nat.reduceDiv, Nat.reduceEqDiff, Nat.reduceLT, Nat.reduceLeDiff, Int32.reduceAdd, Int32.reduceSub, Int32.reduceMul, Int32.reduceDiv, Int32.reduceMod, Int32.reduceOfNat, Int32.reduceOfInt, Int32.reduceLT, Int32.reduceLE, Int32.reduceToNatClampNeg, Int32.reduceToInt]
  · obtain ⟨μ1, p1, f1, d1⟩ := draft_at h1 b
    have px1 : PLx 63 n (fun i => wOf (K i)) V μ1 := by
      unfold PLx at *
      rw [(f1.1 63 (by decide) (by unfold scP; omega)).1, (f1.1 (63 + 1) (by decide) (by unfold scP; omega)).1, (f1.1 (63 + 2) (by decide) (by unfold scP; omega)).1]
      exact px
    have so : ∀ i, i < n → SOK (wOf (K i)) (V i) := fun i hi => sokW (ok i hi).1 (ok i hi).2
    obtain ⟨μ2, p2, f2, C2, X2⟩ := goX (P := 63) (Or.inl rfl) hn so b d1 px1
    have F12 := f1.tr (gXsc f2)
    have go := goF_ok (D := fun i => wOf (K i)) (G := V) n 0 (fun j _ h2 => so j (by omega)) c (W1 c) b
    have wo := go.2.2.2 (W1_ok c) (by rw [W1_1]; omega)
    obtain ⟨w, Ew⟩ : ∃ w, w = (goF (fun i => wOf (K i)) V n 0 c (W1 c)).2 := ⟨_, rfl⟩
    obtain ⟨c', Ec⟩ : ∃ c', c' = (goF (fun i => wOf (K i)) V n 0 c (W1 c)).1 := ⟨_, rfl⟩
    rw [← Ew] at X2 wo
    rw [← Ec] at C2
    obtain ⟨x0, x1, x2, x3, x4⟩ := X2
    have refs : ∀ m : Mem, MM c m → PMx n K V m → ∃ ν1 ν2, f_X12_remembers SX 81 m = some ((), ν1) ∧ f_X12_goesAll SX 81 ν1 = some ((), ν2) ∧ FM g4P lkJ m ν2 ∧ MM c' ν2 ∧ WM true w ν2 ∧ Rw ν2 103 14 (c 8) := by
      intro m hm hp
      obtain ⟨ν1, q1, g1, e1⟩ := remM m
      have M1 : MM c ν1 := hm.w g1 (fun q g1 g2 => by omega) (fun q => q)
      obtain ⟨ν2, q2, g2, M2, Y2⟩ := goesAllM hn ok b M1 (hp.w g1 (fun q => q) (by omega) (by omega))
      rw [← Ec] at M2
      rw [← Ew] at Y2
      refine ⟨ν1, ν2, q1, q2, FM.tr (g1.mo (fun q w => Or.inr (Or.inl w)) (fun j w => w.elim)) (g2.mo (fun q w => Or.inl w) (fun j w => w)), M2, Y2, fun j hj => ?_⟩
      rw [(g2.1 103 (by decide) (by unfold gM uP; omega)).1, e1 j hj]; exact hm.2.2.2 j hj
    by_cases r : w.2.2.2.1 = 0
    · have r5 : w.2.1 = -5 := by
        rcases wo with ⟨g, -⟩ | ⟨-, g⟩
        · exact g
        · exact absurd r g
      obtain ⟨μ3, p3, f3, C3⟩ := become_at (k := 1) (j := 37) (Or.inr (Or.inr (Or.inr ⟨rfl, rfl⟩))) C2 (by rw [Ec]; exact go.1)
      have f3' : FM crP crJ μ2 μ3 := crX f3 (fun q g => by omega)
      have M3 : MM c μ3 := (h2.sc F12).w (f3.fm (by omega)) (fun q g1 g2 => by omega) (fun q => q.elim)
      have pm3 : PMx n K V μ3 := pm.w ((scCr F12).tr f3') (by unfold crJ scJ; omega) (by unfold crP scP; omega) (by unfold crP scP; omega)
      obtain ⟨ν1, ν2, q1, q2, F, M, Y, -⟩ := refs μ3 M3 pm3
      obtain ⟨y0, y1, y2, y3, y4⟩ := Y
      have pm3' := pm3.1
      have x0' : μ3.1 69 0 = Int32.ofNat w.1 := by rw [(f3 69 (by omega)).1]; exact x0
      refine ⟨Int32.ofNat w.1, μ3, ν2, ?_, ?_, h.cr (((scCr F12).tr f3').tr (g4cr F)) ⟨c', by rw [Ec]; exact go.1, C3.f F (fun q g1 g2 => ⟨by omega, by unfold g4P gM uP; omega⟩), M⟩⟩
      · simp (decide := true) (implicitDefEqProofs := false) only [f_X11_done, t1, n0, z, p1, p2, x3, r, p3, x0', zO, zR, zA, zT, zu1, zu2, zu3, zu4, gI, gL, pI, pL, pZ, aI, aL, sI, sZ, sL, Option.bind_some, Option.map_some, if_true, if_false, ite_true, ite_false, true_and, and_true, false_and, and_false, or_true, true_or, or_false, false_or, and_self, not_true_eq_false, not_false_eq_true, ↓reduceIte, reduceIte, Nat.reduceAdd, Nat.reduceMul, Nat.reduceSub, Nat.reduceMod, Nat.reduceDiv, Nat.reduceEqDiff, Nat.reduceLT, Nat.reduceLeDiff, Int32.reduceAdd, Int32.reduceSub, Int32.reduceMul, Int32.reduceDiv, Int32.reduceMod, Int32.reduceOfNat, Int32.reduceOfInt, Int32.reduceLT, Int32.reduceLE, Int32.reduceToNatClampNeg, Int32.reduceToInt]
      · simp (decide := true) (implicitDefEqProofs := false) only [f_X12_done, pm3', n0, z, q1, q2, y1, r5, y0, zO, zR, zA, zT, zu1, zu2, zu3, zu4, gI, gL, pI, pL, pZ, aI, aL, sI, sZ, sL, Option.bind_some, Option.map_some, if_true, if_false, ite_true, ite_false, true_and, and_true, false_and, and_false, or_true, true_or, or_false, false_or, and_self, not_true_eq_false, not_false_eq_true, ↓reduceIte, reduceIte, Nat.reduceAdd, Nat.reduceMul, Nat.reduceSub, Nat.reduceMod, Nat.reduceDiv, Nat.reduceEqDiff, Nat.reduceLT, Nat.reduceLeDiff, Int32.reduceAdd, Int32.reduceSub, Int32.reduceMul, Int32.reduceDiv, Int32.reduceMod, Int32.reduceOfNat, Int32.reduceOfInt, Int32.reduceLT, Int32.reduceLE, Int32.reduceToNatClampNeg, Int32.reduceToInt]
    · have r5 : ¬ w.2.1 = -5 := by
        rcases wo with ⟨-, g⟩ | ⟨g, -⟩
        · exact absurd g r
        · exact g
      have M2 := h2.sc F12
      have pm2 : PMx n K V μ2 := pm.w F12 (by unfold scJ; omega) (by unfold scP; omega) (by unfold scP; omega)
      obtain ⟨ν1, ν2, q1, q2, F, M, Y, R⟩ := refs μ2 M2 pm2
      obtain ⟨y0, y1, y2, y3, y4⟩ := Y
      obtain ⟨ν3, q3, f3, e3⟩ := retM ν2
      have pm2' := pm2.1
      have F3 : FM g4P lkJ ν2 ν3 := f3.mo (fun q w => Or.inl (Or.inl w)) (fun j w => w.elim)
      have s8 := go.2.1
      rw [← Ec] at s8
      refine ⟨-3, μ2, ν3, ?_, ?_, h.cr ((scCr F12).tr (g4cr (F.tr F3))) ⟨c, b, (h1.sc F12).f (F.tr F3) (fun q g1 g2 => ⟨by omega, by unfold g4P gM uP; omega⟩), M.ret s8 f3 (fun j hj => by rw [e3 j hj]; exact R j hj)⟩⟩
      · simp (decide := true) (implicitDefEqProofs := false) only [f_X11_done, t1, n0, z, p1, p2, x3, r, zO, zR, zA, zT, zu1, zu2, zu3, zu4, gI, gL, pI, pL, pZ, aI, aL, sI, sZ, sL, Option.bind_some, Option.map_some, if_true, if_false, ite_true, ite_false, true_and, and_true, false_and, and_false, or_true, true_or, or_false, false_or, and_self, not_true_eq_false, not_false_eq_true, ↓reduceIte, reduceIte, Nat.reduceAdd, Nat.reduceMul, Nat.reduceSub, Nat.reduceMod, Nat.reduceDiv, Nat.reduceEqDiff, Nat.reduceLT, Nat.reduceLeDiff, Int32.reduceAdd, Int32.reduceSub, Int32.reduceMul, Int32.reduceDiv, Int32.reduceMod, Int32.reduceOfNat, Int32.reduceOfInt, Int32.reduceLT, Int32.reduceLE, Int32.reduceToNatClampNeg, Int32.reduceToInt]
      · simp (decide := true) (implicitDefEqProofs := false) only [f_X12_done, pm2', n0, z, q1, q2, y1, r5, q3, zO, zR, zA, zT, zu1, zu2, zu3, zu4, gI, gL, pI, pL, pZ, aI, aL, sI, sZ, sL, Option.bind_some, Option.map_some, if_true, if_false, ite_true, ite_false, true_and, and_true, false_and, and_false, or_true, true_or, or_false, false_or, and_self, not_true_eq_false, not_false_eq_true, ↓reduceIte, reduceIte, Nat.reduceAdd, Nat.reduceMul, Nat.reduceSub, Nat.reduceMod, Nat.reduceDiv, Nat.reduceEqDiff, Nat.reduceLT, Nat.reduceLeDiff, Int32.reduceAdd, Int32.reduceSub, Int32.reduceMul, Int32.reduceDiv, Int32.reduceMod, Int32.reduceOfNat, Int32.reduceOfInt, Int32.reduceLT, Int32.reduceLE, Int32.reduceToNatClampNeg, Int32.reduceToInt]

