theorem farI {c : Nat → Nat → Int} {μ0 : Mem} (h : MM c μ0) (a1 a2 : Int32) : ∃ ν, lpN (l_X12_way_21 SX 81 a1 a2) fu (0, μ0) = b_X12_way_41 SX 81 a1 a2 ν ∧ FC (fun q => q = 96) μ0 ν ∧ ∀ j, j < 1220 → ν.1 96 j = -1 := by
  refine lpG (B := l_X12_way_21 SX 81 a1 a2) (fin := b_X12_way_41 SX 81 a1 a2) (N := 1220) (P := fun i ν => FC (fun q => q = 96) μ0 ν ∧ ∀ j, j < i → ν.1 96 j = -1) (μ := μ0) ?_ ?_ (by decide) ⟨FM.rf, fun j hj => by omega⟩
  · rintro self i μ hi ⟨f, g⟩
    have lf : ((1220 : Int32) ≤ Int32.ofNat i) = False := leF (n := 1220) hi (by decide)
    refine ⟨upI μ 96 i (-1), by
      simp (decide := true) (implicitDefEqProofs := false) only [l_X12_way_21, lf, zin i 1220 hi (by decide), ztn i (by omega), ofN1 i, zO, zR, zA, zT, zu1, zu2, zu3, zu4, gI, gL, pI, pL, pZ, aI, aL, sI, sZ, sL, Option.bind_some, Option.map_some, if_true, if_false, ite_true, ite_false, true_and, and_true, false_and, and_false, or_true, true_or, or_false, false_or, and_self, not_true_eq_false, not_false_eq_true, ↓reduceIte, reduceIte, Nat.reduceAdd, Nat.reduceMul, Nat.reduceSub, Nat.reduceMod, Nat.reduceDiv, Nat.reduceEqDiff, Nat.reduceLT, Nat.reduceLeDiff, Int32.reduceAdd, Int32.reduceSub, Int32.reduceMul, Int32.reduceDiv, Int32.reduceMod, Int32.reduceOfNat, Int32.reduceOfInt, Int32.reduceLT, Int32.reduceLE, Int32.reduceToNatClampNeg, Int32.reduceToInt], f.tr (FC.u (by decide) rfl), fun j hj => ?_⟩
    rw [zu1]
    by_cases e : j = i
    · rw [if_pos (by first | exact ⟨rfl, e⟩ | exact ⟨trivial, e⟩)]
    · rw [if_neg (fun q => e q.2)]; exact g j (by omega)
  · rintro self μ -
    simp (decide := true) (implicitDefEqProofs := false) only [l_X12_way_21, zO, zR, zA, zT, zu1, zu2, zu3, zu4, gI, gL, pI, pL, pZ, aI, aL, sI, sZ, sL, Option.bind_some, Option.map_some, if_true, if_false, ite_true, ite_false, true_and, and_true, false_and, and_false, or_true, true_or, or_false, false_or, and_self, not_true_eq_false, not_false_eq_true, ↓reduceIte, reduceIte, Nat.reduceAdd, Nat.reduceMul, Nat.reduceSub, Nat.reduceMod, Nat.reduceDiv, Nat.reduceEqDiff, Nat.reduceLT, Nat.reduceLeDiff, Int32.reduceAdd, Int32.reduceSub, Int32.reduceMul, Int32.reduceDiv, Int32.reduceMod, Int32.reduceOfNat, Int32.reduceOfInt, Int32.reduceLT, Int32.reduceLE, Int32.reduceToNatClampNeg, Int32.reduceToInt]
theorem wayM {c : Nat → Nat → Int} (b : BC c) {μ : Mem} (h : MM c μ) {d r : Nat} (hd : d < 20) (hr : r < 61) (t : f_X12_isDirection SX (Int32.ofNat d) μ = some (1, μ)) (t2 : f_X12_isReach SX (Int32.ofNat r) μ = some (1, μ)) : ∃ ν v, f_X12_way SX 81 (Int32.ofNat d) (Int32.ofNat r) μ = some (v, ν) ∧ FM wyM wyJ μ ν ∧ MM c ν ∧ WA c (61 * (c 8 0).toNat + (c 8 1).toNat) (61 * d + r) v := by
  have bd := b.2.2.2.2.2
  obtain ⟨μ1, p1, f1, g1⟩ := farI h (Int32.ofNat d) (Int32.ofNat r)
  obtain ⟨μ2, E2⟩ : ∃ m : Mem, m = upI μ1 81 21 0 := ⟨_, rfl⟩
  have u2 : FM (fun _ => False) (fun j => j = 21) μ1 μ2 := by rw [E2]; exact FM.uI (Or.inr ⟨rfl, rfl⟩)
  have M1 : MM c μ1 := h.w f1 (fun q g1 g2 => by omega) (fun w => w)
  have M2 : MM c μ2 := M1.w u2 (fun q g1 g2 => fun w => w) (by omega)
  have F2 : FM wyM wyJ μ μ2 := (f1.mo (fun q w => Or.inr (Or.inl w)) (fun j w => w.elim)).tr (u2.mo (fun q w => w.elim) (fun j w => Or.inr w))
  obtain ⟨s, Es⟩ : ∃ s, s = 61 * (c 8 0).toNat + (c 8 1).toNat := ⟨_, rfl⟩
  have hs : s < 1220 := by omega
  have bm : BMm (fun _ => -1) (fun _ => 0) 0 μ2 := by
    refine ⟨fun x hx => ?_, fun i hi => by omega, ?_⟩
    · rw [(u2.1 96 (by decide) (fun w => w)).1, g1 x hx]; exact ym1
    · rw [E2]; simp (decide := true) (implicitDefEqProofs := false) only [zO, zR, zA, zT, zu1, zu2, zu3, zu4, gI, gL, pI, pL, pZ, aI, aL, sI, sZ, sL, Option.bind_some, Option.map_some, if_true, if_false, ite_true, ite_false, true_and, and_true, false_and, and_false, or_true, true_or, or_false, false_or, and_self, not_true_eq_false, not_false_eq_true, ↓reduceIte, reduceIte, Nat.reduceAdd, Nat.reduceMul, Nat.reduceSub, Nat.reduceMod, Nat.reduceDiv, Nat.reduceEqDiff, Nat.reduceLT, Nat.reduceLeDiff, Int32.reduceAdd, Int32.reduceSub, Int32.reduceMul, Int32.reduceDiv, Int32.reduceMod, Int32.reduceOfNat, Int32.reduceOfInt, Int32.reduceLT, Int32.reduceLE, Int32.reduceToNatClampNeg, Int32.reduceToInt]
  obtain ⟨ν3, p3, F3, M3, cs⟩ := comesToM b M2 (d := (c 8 0).toNat) (r := (c 8 1).toNat) (by omega) (by omega) (n := 0) (by omega) bm (by omega) (fun _ => by decide)
  rw [← Es] at cs ⊢
  have m0 := M2.2.2.2 0 (by decide)
  have m1 := M2.2.2.2 1 (by decide)
  rw [ofIn (c 8 0) (by omega)] at m0
  rw [ofIn (c 8 1) (by omega)] at m1
  have fin : ∀ f q Q, BMm f q Q ν3 → BF c s (61 * d + r) 0 f q Q → ∃ ν v, f_X12_way SX 81 (Int32.ofNat d) (Int32.ofNat r) μ = some (v, ν) ∧ FM wyM wyJ μ ν ∧ MM c ν ∧ WA c s (61 * d + r) v := by
    intro f q Q bm3 B
    obtain ⟨ν, v, p, F, M, wa⟩ := bfsL b hs hd hr 1221 0 (by omega) 3778 ν3 f q Q M3 bm3 B
    refine ⟨ν, v, ?_, (F2.tr F3).tr F, M, wa⟩
    have p3' : f_X12_comesTo SX 81 (Int32.ofNat (c 8 0).toNat) (Int32.ofNat (c 8 1).toNat) 0 μ2 = some ((), ν3) := p3
    simp (decide := true) (implicitDefEqProofs := false) only [f_X12_way, t, t2, zO, zR, zA, zT, zu1, zu2, zu3, zu4, gI, gL, pI, pL, pZ, aI, aL, sI, sZ, sL, Option.bind_some, Option.map_some, if_true, if_false, ite_true, ite_false, true_and, and_true, false_and, and_false, or_true, true_or, or_false, false_or, and_self, not_true_eq_false, not_false_eq_true, ↓reduceIte, reduceIte, Nat.reduceAdd, Nat.reduceMul, Nat.reduceSub, Nat.reduceMod, Nat.reduceDiv, Nat.reduceEqDiff, Nat.reduceLT, Nat.reduceLeDiff, Int32.reduceAdd, Int32.reduceSub, Int32.reduceMul, Int32.reduceDiv, Int32.reduceMod, Int32.reduceOfNat, Int32.reduceOfInt, Int32.reduceLT, Int32.reduceLE, Int32.reduceToNatClampNeg, Int32.reduceToInt]
    refine Eq.trans p1 ?_
    simp (decide := true) (implicitDefEqProofs := false) only [b_X12_way_41, ← E2, m0, m1, p3', zO, zR, zA, zT, zu1, zu2, zu3, zu4, gI, gL, pI, pL, pZ, aI, aL, sI, sZ, sL, Option.bind_some, Option.map_some, if_true, if_false, ite_true, ite_false, true_and, and_true, false_and, and_false, or_true, true_or, or_false, false_or, and_self, not_true_eq_false, not_false_eq_true, ↓reduceIte, reduceIte, Nat.reduceAdd, Nat.reduceMul, Nat.reduceSub, Nat.reduceMod, Nat.reduceDiv, Nat.reduceEqDiff, Nat.reduceLT, Nat.reduceLeDiff, Int32.reduceAdd, Int32.reduceSub, Int32.reduceMul, Int32.reduceDiv, Int32.reduceMod, Int32.reduceOfNat, Int32.reduceOfInt, Int32.reduceLT, Int32.reduceLE, Int32.reduceToNatClampNeg, Int32.reduceToInt]
    exact p
  have ca := cu_all 1220
  rcases cs with ⟨k, -⟩ | ⟨k, l, bm3⟩ | ⟨k, l, bm3⟩
  · exact absurd rfl k
  · refine fin _ _ _ bm3 ⟨Nat.le_refl _, fun i hi => by omega, fun i j _ hj => by omega, fun hh => by omega, fun x hx => ?_, ?_, fun ls => absurd ls l, fun i hi => by omega, fun i hi => by omega⟩
    · by_cases w : x = s
      · subst w; rw [ups_at]; exact Or.inr (Or.inl ⟨rfl, l⟩)
      · rw [ups_ne w]; exact Or.inl rfl
    · have := cu_up (f := fun _ => -1) (p := s) (v := -2) rfl (by decide) 1220 hs
      omega
  · have q0 : ups (fun _ => 0) 0 s 0 = s := ups_at
    have qi : ∀ i, i < 0 + 1 → ups (fun _ => 0) 0 s i = s := fun i hi => by rw [show i = 0 by omega]; exact q0
    have fs : ups (fun _ => (-1 : Int)) s 0 s = 0 := ups_at
    refine fin _ _ _ bm3 ⟨by omega, fun i hi => ?_, fun i j hij hj => ?_, fun hh j hj => ?_, fun x hx => ?_, ?_, fun ls => fs, fun i hi => by omega, fun i hi => by omega⟩
    · rw [qi i hi, fs]
      exact ⟨hs, l, by omega, by omega, rfl, l⟩
    · rw [qi i (by omega), qi j hj]; exact Int.le_refl _
    · rw [qi j hj, q0, fs]; omega
    · by_cases w : x = s
      · subst w; rw [fs]; exact Or.inr (Or.inr ⟨by omega, 0, by omega, q0⟩)
      · rw [ups_ne w]; exact Or.inl rfl
    · have := cu_up (f := fun _ => -1) (p := s) (v := 0) rfl (by decide) 1220 hs
      omega
theorem WA.uq {c : Nat → Nat → Int} {s g : Nat} {v w : Int32} (h1 : WA c s g v) (h2 : WA c s g w) : v = w := by
  rcases h1 with ⟨k, e1, -, k2, k3⟩ | ⟨e1, k2⟩
  · rcases h2 with ⟨j, e2, -, j2, j3⟩ | ⟨e2, j2⟩
    · have : k = j := by
        by_cases a : k < j
        · exact absurd k2 (j3 k a)
        · by_cases a' : j < k
          · exact absurd j2 (k3 j a')
          · omega
      rw [e1, e2, this]
    · exact absurd k2 (j2 k)
  · rcases h2 with ⟨j, e2, -, j2, j3⟩ | ⟨e2, j2⟩
    · exact absurd j2 (k2 j)
    · rw [e1, e2]
theorem ok_way {μ : Mem} (h : INV μ) (a1 a2 : Int32) : OKop (f_X11_way SX 0 a1 a2) (f_X12_way SX 81 a1 a2) μ := by
  obtain ⟨c, b, h1, h2⟩ := h.1
  rcases wbN a1 19 (by decide) with t | ⟨t, d, hd, rfl⟩
  · simp only [Nat.reduceAdd, Nat.reduceMul, Nat.reduceMod, Int32.reduceOfNat] at t
    refine ⟨-1, μ, μ, ?_, ?_, h⟩
    · simp (decide := true) (implicitDefEqProofs := false) only [f_X11_way, isDir_at, t, zO, zR, zA, zT, zu1, zu2, zu3, zu4, gI, gL, pI, pL, pZ, aI, aL, sI, sZ, sL, Option.bind_some, Option.map_some, if_true, if_false, ite_true, ite_false, true_and, and_true, false_and, and_false, or_true, true_or, or_false, false_or, and_self, not_true_eq_false, not_false_eq_true, ↓reduceIte, reduceIte, Nat.reduceAdd, Nat.reduceMul, Nat.reduceSub, Nat.reduceMod, Nat.reduceDiv, Nat.reduceEqDiff, Nat.reduceLT, Nat.reduceLeDiff, Int32.reduceAdd, Int32.reduceSub, Int32.reduceMul, Int32.reduceDiv, Int32.reduceMod, Int32.reduceOfNat, Int32.reduceOfInt, Int32.reduceLT, Int32.reduceLE, Int32.reduceToNatClampNeg, Int32.reduceToInt]
    · simp (decide := true) (implicitDefEqProofs := false) only [f_X12_way, isDir_at, t, zO, zR, zA, zT, zu1, zu2, zu3, zu4, gI, gL, pI, pL, pZ, aI, aL, sI, sZ, sL, Option.bind_some, Option.map_some, if_true, if_false, ite_true, ite_false, true_and, and_true, false_and, and_false, or_true, true_or, or_false, false_or, and_self, not_true_eq_false, not_false_eq_true, ↓reduceIte, reduceIte, Nat.reduceAdd, Nat.reduceMul, Nat.reduceSub, Nat.reduceMod, Nat.reduceDiv, Nat.reduceEqDiff, Nat.reduceLT, Nat.reduceLeDiff, Int32.reduceAdd, Int32.reduceSub, Int32.reduceMul, Int32.reduceDiv, Int32.reduceMod, Int32.reduceOfNat, Int32.reduceOfInt, Int32.reduceLT, Int32.reduceLE, Int32.reduceToNatClampNeg, Int32.reduceToInt]
  · simp only [Nat.reduceAdd, Nat.reduceMul, Nat.reduceMod, Int32.reduceOfNat] at t
    rcases wbN a2 60 (by decide) with s | ⟨s, r, hr, rfl⟩
    · simp only [Nat.reduceAdd, Nat.reduceMul, Nat.reduceMod, Int32.reduceOfNat] at s
      refine ⟨-2, μ, μ, ?_, ?_, h⟩
      · simp (decide := true) (implicitDefEqProofs := false) only [f_X11_way, isDir_at, isReach_at, t, s, zO, zR, zA, zT, zu1, zu2, zu3, zu4, gI, gL, pI, pL, pZ, aI, aL, sI, sZ, sL, Option.bind_some, Option.map_some, if_true, if_false, ite_true, ite_false, true_and, and_true, false_and, and_false, or_true, true_or, or_false, false_or, and_self, not_true_eq_false, not_false_eq_true, ↓reduceIte, reduceIte, Nat.reduceAdd, Nat.reduceMul, Nat.reduceSub, Nat.reduceMod, Nat.reduceDiv, Nat.reduceEqDiff, Nat.reduceLT, Nat.reduceLeDiff, Int32.reduceAdd, Int32.reduceSub, Int32.reduceMul, Int32.reduceDiv, Int32.reduceMod, Int32.reduceOfNat, Int32.reduceOfInt, Int32.reduceLT, Int32.reduceLE, Int32.reduceToNatClampNeg, Int32.reduceToInt]
      · simp (decide := true) (implicitDefEqProofs := false) only [f_X12_way, isDir_at, isReach_at, t, s, zO, zR, zA, zT, zu1, zu2, zu3, zu4, gI, gL, pI, pL, pZ, aI, aL, sI, sZ, sL, Option.bind_some, Option.map_some, if_true, if_false, ite_true, ite_false, true_and, and_true, false_and, and_false, or_true, true_or, or_false, false_or, and_self, not_true_eq_false, not_false_eq_true, ↓reduceIte, reduceIte, Nat.reduceAdd, Nat.reduceMul, Nat.reduceSub, Nat.reduceMod, Nat.reduceDiv, Nat.reduceEqDiff, Nat.reduceLT, Nat.reduceLeDiff, Int32.reduceAdd, Int32.reduceSub, Int32.reduceMul, Int32.reduceDiv, Int32.reduceMod, Int32.reduceOfNat, Int32.reduceOfInt, Int32.reduceLT, Int32.reduceLE, Int32.reduceToNatClampNeg, Int32.reduceToInt]
    · simp only [Nat.reduceAdd, Nat.reduceMul, Nat.reduceMod, Int32.reduceOfNat] at s
      have q1 : ∀ m : Mem, f_X11_fitsDial SX 0 (Int32.ofNat d) m = some (1, m) ∧ f_X12_isDirection SX (Int32.ofNat d) m = some (1, m) := fun m => by
        rw [(isDir_at SX (Int32.ofNat d) m).1, (isDir_at SX (Int32.ofNat d) m).2, t]; exact ⟨rfl, rfl⟩
      have q2 : ∀ m : Mem, f_X11_fitsDial SX 1 (Int32.ofNat r) m = some (1, m) ∧ f_X12_isReach SX (Int32.ofNat r) m = some (1, m) := fun m => by
        rw [(isReach_at SX (Int32.ofNat r) m).1, (isReach_at SX (Int32.ofNat r) m).2, s]; exact ⟨rfl, rfl⟩
      obtain ⟨-, v, -, -, -, wa⟩ := wayM b h2 (d := d) (r := r) (by omega) (by omega) (q1 μ).2 (q2 μ).2
      obtain ⟨μ2, p2, f2⟩ := wayX b h1 (d := d) (r := r) (by omega) (by omega) (q1 μ).1 (q2 μ).1 wa
      have M2 := h2.sc f2
      obtain ⟨μ3, v', p3, f3, m3, wa'⟩ := wayM b M2 (d := d) (r := r) (by omega) (by omega) (q1 μ2).2 (q2 μ2).2
      rw [WA.uq wa' wa] at p3
      refine ⟨v, μ2, μ3, p2, p3, h.cr ((scCr f2).tr (f3.mo (fun k q => by unfold wyM tmP uP at q; unfold crP scP; omega) (fun k q => by unfold wyJ uJ at q; unfold crJ scJ; omega))) ⟨c, b, (h1.sc f2).f f3 (fun q g1 g2 => ⟨by omega, by unfold wyM tmP uP; omega⟩), m3⟩⟩

