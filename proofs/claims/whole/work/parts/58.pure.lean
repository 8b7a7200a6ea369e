def wb (a lo hi : Int32) : Int32 := if a < lo then 0 else if hi < a then 0 else 1
theorem wb01 (a lo hi : Int32) : wb a lo hi = 0 ∨ wb a lo hi = 1 := by unfold wb; split <;> (try split) <;> simp
theorem ozw (a lo hi : Int32) : oz (wb a lo hi) = some (wb a lo hi) := by unfold oz; rw [if_pos (wb01 a lo hi)]
theorem within_at (S : SH) (a lo hi : Int32) (μ : Mem) : f_X11_within S a lo hi μ = some (wb a lo hi, μ) := by
  unfold f_X11_within wb; split <;> (try split) <;> rfl
theorem in_at (S : SH) (a lo hi : Int32) (μ : Mem) : f_X12_in S a lo hi μ = some (wb a lo hi, μ) := by
  unfold f_X12_in wb; split <;> (try split) <;> rfl
theorem isPad_at (S : SH) (a : Int32) (μ : Mem) : f_X11_isPad S a μ = some (wb a 0 3, μ) ∧ f_X12_isPad S a μ = some (wb a 0 3, μ) := by
  unfold f_X11_isPad f_X12_isPad; simp only [within_at, in_at, Option.bind_some, ozw]; exact ⟨trivial, trivial⟩
theorem isChart_at (S : SH) (a : Int32) (μ : Mem) : f_X11_isChart S a μ = some (wb a 0 2, μ) ∧ f_X12_isChart S a μ = some (wb a 0 2, μ) := by
  unfold f_X11_isChart f_X12_isChart; simp only [within_at, in_at, Option.bind_some, ozw]; exact ⟨trivial, trivial⟩
theorem isList_at (S : SH) (a : Int32) (μ : Mem) : f_X11_isList S a μ = some (wb a 0 3, μ) ∧ f_X12_isList S a μ = some (wb a 0 3, μ) := by
  unfold f_X11_isList f_X12_isList; simp only [within_at, in_at, Option.bind_some, ozw]; exact ⟨trivial, trivial⟩
theorem isSide_at (S : SH) (a : Int32) (μ : Mem) : f_X11_isSide S a μ = some (wb a 0 1, μ) ∧ f_X12_isPart S a μ = some (wb a 0 1, μ) := by
  unfold f_X11_isSide f_X12_isPart; simp only [within_at, in_at, Option.bind_some, ozw]; exact ⟨trivial, trivial⟩
theorem isReach_at (S : SH) (a : Int32) (μ : Mem) : f_X11_fitsDial S 1 a μ = some (wb a 0 60, μ) ∧ f_X12_isReach S a μ = some (wb a 0 60, μ) := by
  have h1 : aT 1 1 = some 0 := by decide +kernel
  have h2 : aT 2 1 = some 60 := by decide +kernel
  unfold f_X11_fitsDial f_X12_isReach; simp only [h1, h2, within_at, in_at, Option.bind_some, ozw]; exact ⟨trivial, trivial⟩
theorem isDir_at (S : SH) (a : Int32) (μ : Mem) : f_X11_fitsDial S 0 a μ = some (wb a 0 19, μ) ∧ f_X12_isDirection S a μ = some (wb a 0 19, μ) := by
  have h1 : aT 1 0 = some 0 := by decide +kernel
  have h2 : aT 2 0 = some 19 := by decide +kernel
  unfold f_X11_fitsDial f_X12_isDirection; simp only [h1, h2, within_at, in_at, Option.bind_some, ozw]; exact ⟨trivial, trivial⟩
theorem wbI (a : Int32) (lo hi : Int) (h1 : -2147483648 ≤ lo) (h2 : lo < 2147483648) (h3 : -2147483648 ≤ hi) (h4 : hi < 2147483648) : wb a (Int32.ofInt lo) (Int32.ofInt hi) = 0 ∨ (wb a (Int32.ofInt lo) (Int32.ofInt hi) = 1 ∧ ∃ z : Int, lo ≤ z ∧ z ≤ hi ∧ a = Int32.ofInt z) := by
  unfold wb
  have e : a = Int32.ofInt a.toInt := by simp
  have b1 := Int32.le_toInt a
  have b2 := Int32.toInt_lt a
  by_cases t1 : a < Int32.ofInt lo
  · left; rw [if_pos t1]
  · by_cases t2 : Int32.ofInt hi < a
    · left; rw [if_neg t1, if_pos t2]
    · right
      refine ⟨by rw [if_neg t1, if_neg t2], a.toInt, ?_, ?_, e⟩
      · rw [e] at t1
        have := ylt32 a.toInt lo (by omega) (by omega) h1 h2
        exact Int.not_lt.mp (fun g => t1 (this.mpr g))
      · rw [e] at t2
        have := ylt32 hi a.toInt h3 h4 (by omega) (by omega)
        exact Int.not_lt.mp (fun g => t2 (this.mpr g))
theorem wbN (a : Int32) (n : Nat) (hn : n < 2147483648) : wb a 0 (Int32.ofNat n) = 0 ∨ (wb a 0 (Int32.ofNat n) = 1 ∧ ∃ i : Nat, i ≤ n ∧ a = Int32.ofNat i) := by
  rcases wbI a 0 n (by omega) (by omega) (by omega) (by omega) with h | ⟨h, z, h1, h2, h3⟩
  · exact Or.inl h
  · refine Or.inr ⟨h, z.toNat, by omega, ?_⟩
    rw [h3]; exact ofIn z h1
theorem ck1 : CK 1 := Or.inl rfl
theorem ck37 : CK 37 := Or.inr (Or.inr rfl)
theorem sc55 {μ ν : Mem} (f : Fr (fun q => q = 55 ∨ q = 56) μ ν) : FM scP scJ μ ν := (f.fm (by omega)).mo (fun k q => by unfold scP; omega) (fun k q => q.elim)
theorem scu {μ ν : Mem} (f : FM uP uJ μ ν) : FM scP scJ μ ν := f.mo (fun k q => by unfold uP at q; unfold scP; omega) (fun k q => by unfold uJ at q; unfold scJ; omega)
theorem sck {μ ν : Mem} (f : FM kP kJ μ ν) : FM scP scJ μ ν := f.mo (fun k q => by unfold kP at q; unfold scP; omega) (fun k q => by unfold kJ at q; unfold scJ; omega)
theorem MM.sc {c : Nat → Nat → Int} {μ ν : Mem} (h : MM c μ) (f : FM scP scJ μ ν) : MM c ν := h.w f (fun q g1 g2 => by unfold scP; omega) (by unfold scJ; omega)
theorem CC.sc {c : Nat → Nat → Int} {μ ν : Mem} (h : CC 1 c μ) (f : FM scP scJ μ ν) : CC 1 c ν := h.f f (fun q g1 g2 => ⟨by omega, by unfold scP; omega⟩)
theorem ok_why {μ : Mem} (h : INV μ) : OKop (f_X11_why SX 0) (f_X12_why SX 81) μ := by
  obtain ⟨c, b, h1, h2⟩ := h.1
  obtain ⟨μ1, p1, f1, -⟩ := verdict_at ck1 h1 b
  obtain ⟨μ2, p2, f2, -⟩ := whyNow_at (h2.sc (sc55 f1)) b
  refine ⟨whyV c, μ1, μ2, ?_, ?_, h.q ((sc55 f1).tr (scu f2))⟩
  · simp (decide := true) (implicitDefEqProofs := false) only [f_X11_why, p1, zO, zR, zA, zT, zu1, zu2, zu3, zu4, gI, gL, pI, pL, pZ, aI, aL, sI, sZ, sL, Option.bind_some, Option.map_some, if_true, if_false, ite_true, ite_false, true_and, and_true, false_and, and_false, or_true, true_or, or_false, false_or, and_self, not_true_eq_false, not_false_eq_true, ↓reduceIte, reduceIte, Nat.reduceAdd, Nat.reduceMul, Nat.reduceSub, Nat.reduceMod, Nat.reduceDiv, Nat.reduceEqDiff, Nat.reduceLT, Nat.reduceLeDiff, Int32.reduceAdd, Int32.reduceSub, Int32.reduceMul, Int32.reduceDiv, Int32.reduceMod, Int32.reduceOfNat, Int32.reduceOfInt, Int32.reduceLT, Int32.reduceLE, Int32.reduceToNatClampNeg, Int32.reduceToInt]
  · simp (decide := true) (implicitDefEqProofs := false) only [f_X12_why, p2, zO, zR, zA, zT, zu1, zu2, zu3, zu4, gI, gL, pI, pL, pZ, aI, aL, sI, sZ, sL, Option.bind_some, Option.map_some, if_true, if_false, ite_true, ite_false, true_and, and_true, false_and, and_false, or_true, true_or, or_false, false_or, and_self, not_true_eq_false, not_false_eq_true, ↓reduceIte, reduceIte, Nat.reduceAdd, Nat.reduceMul, Nat.reduceSub, Nat.reduceMod, Nat.reduceDiv, Nat.reduceEqDiff, Nat.reduceLT, Nat.reduceLeDiff, Int32.reduceAdd, Int32.reduceSub, Int32.reduceMul, Int32.reduceDiv, Int32.reduceMod, Int32.reduceOfNat, Int32.reduceOfInt, Int32.reduceLT, Int32.reduceLE, Int32.reduceToNatClampNeg, Int32.reduceToInt]
theorem finds_at {k : Nat} (hk : CK k) {c : Nat → Nat → Int} {μ : Mem} (h : CC k c μ) (b : BC c) : ∃ ν, f_X3_finds SX 55 k μ = some (if none3 c = 0 then 1 else 0, ν) ∧ Fr (fun q => q = 55 ∨ q = 56) μ ν ∧ (none3 c = 0 → JO c ν) := by
  obtain ⟨ν, p, f, j⟩ := verdict_at hk h b
  refine ⟨ν, ?_, f, j⟩
  by_cases t : none3 c = 0
  · rw [if_pos t]
    unfold whyV at p
    rw [if_pos t] at p
    by_cases t1 : ovN c (shF c) (blF c) = 0
    · by_cases t2 : 0 ≤ roomV c
      · rw [if_pos t1, if_pos t2] at p; simp (decide := true) (implicitDefEqProofs := false) only [f_X3_finds, p, zO, zR, zA, zT, zu1, zu2, zu3, zu4, gI, gL, pI, pL, pZ, aI, aL, sI, sZ, sL, Option.bind_some, Option.map_some, if_true, if_false, ite_true, ite_false, true_and, and_true, false_and, and_false, or_true, true_or, or_false, false_or, and_self, not_true_eq_false, not_false_eq_true, ↓reduceIte, reduceIte, Nat.reduceAdd, Nat.reduceMul, Nat.reduceSub, Nat.reduceMod, Nat.reduceDiv, Nat.reduceEqDiff, Nat.reduceLT, Nat.reduceLeDiff, Int32.reduceAdd, Int32.reduceSub, Int32.reduceMul, Int32.reduceDiv, Int32.reduceMod, Int32.reduceOfNat, Int32.reduceOfInt, Int32.reduceLT, Int32.reduceLE, Int32.reduceToNatClampNeg, Int32.reduceToInt]
      · rw [if_pos t1, if_neg t2] at p; simp (decide := true) (implicitDefEqProofs := false) only [f_X3_finds, p, zO, zR, zA, zT, zu1, zu2, zu3, zu4, gI, gL, pI, pL, pZ, aI, aL, sI, sZ, sL, Option.bind_some, Option.map_some, if_true, if_false, ite_true, ite_false, true_and, and_true, false_and, and_false, or_true, true_or, or_false, false_or, and_self, not_true_eq_false, not_false_eq_true, ↓reduceIte, reduceIte, Nat.reduceAdd, Nat.reduceMul, Nat.reduceSub, Nat.reduceMod, Nat.reduceDiv, Nat.reduceEqDiff, Nat.reduceLT, Nat.reduceLeDiff, Int32.reduceAdd, Int32.reduceSub, Int32.reduceMul, Int32.reduceDiv, Int32.reduceMod, Int32.reduceOfNat, Int32.reduceOfInt, Int32.reduceLT, Int32.reduceLE, Int32.reduceToNatClampNeg, Int32.reduceToInt]
    · rw [if_neg t1] at p; simp (decide := true) (implicitDefEqProofs := false) only [f_X3_finds, p, zO, zR, zA, zT, zu1, zu2, zu3, zu4, gI, gL, pI, pL, pZ, aI, aL, sI, sZ, sL, Option.bind_some, Option.map_some, if_true, if_false, ite_true, ite_false, true_and, and_true, false_and, and_false, or_true, true_or, or_false, false_or, and_self, not_true_eq_false, not_false_eq_true, ↓reduceIte, reduceIte, Nat.reduceAdd, Nat.reduceMul, Nat.reduceSub, Nat.reduceMod, Nat.reduceDiv, Nat.reduceEqDiff, Nat.reduceLT, Nat.reduceLeDiff, Int32.reduceAdd, Int32.reduceSub, Int32.reduceMul, Int32.reduceDiv, Int32.reduceMod, Int32.reduceOfNat, Int32.reduceOfInt, Int32.reduceLT, Int32.reduceLE, Int32.reduceToNatClampNeg, Int32.reduceToInt]
  · rw [if_neg t]
    unfold whyV at p
    rw [if_neg t] at p
    rcases none3_r c with g | g | g | g
    · exact absurd g t
    · rw [g] at p; simp (decide := true) (implicitDefEqProofs := false) only [f_X3_finds, p, zO, zR, zA, zT, zu1, zu2, zu3, zu4, gI, gL, pI, pL, pZ, aI, aL, sI, sZ, sL, Option.bind_some, Option.map_some, if_true, if_false, ite_true, ite_false, true_and, and_true, false_and, and_false, or_true, true_or, or_false, false_or, and_self, not_true_eq_false, not_false_eq_true, ↓reduceIte, reduceIte, Nat.reduceAdd, Nat.reduceMul, Nat.reduceSub, Nat.reduceMod, Nat.reduceDiv, Nat.reduceEqDiff, Nat.reduceLT, Nat.reduceLeDiff, Int32.reduceAdd, Int32.reduceSub, Int32.reduceMul, Int32.reduceDiv, Int32.reduceMod, Int32.reduceOfNat, Int32.reduceOfInt, Int32.reduceLT, Int32.reduceLE, Int32.reduceToNatClampNeg, Int32.reduceToInt]
    · rw [g] at p; simp (decide := true) (implicitDefEqProofs := false) only [f_X3_finds, p, zO, zR, zA, zT, zu1, zu2, zu3, zu4, gI, gL, pI, pL, pZ, aI, aL, sI, sZ, sL, Option.bind_some, Option.map_some, if_true, if_false, ite_true, ite_false, true_and, and_true, false_and, and_false, or_true, true_or, or_false, false_or, and_self, not_true_eq_false, not_false_eq_true, ↓reduceIte, reduceIte, Nat.reduceAdd, Nat.reduceMul, Nat.reduceSub, Nat.reduceMod, Nat.reduceDiv, Nat.reduceEqDiff, Nat.reduceLT, Nat.reduceLeDiff, Int32.reduceAdd, Int32.reduceSub, Int32.reduceMul, Int32.reduceDiv, Int32.reduceMod, Int32.reduceOfNat, Int32.reduceOfInt, Int32.reduceLT, Int32.reduceLE, Int32.reduceToNatClampNeg, Int32.reduceToInt]
    · rw [g] at p; simp (decide := true) (implicitDefEqProofs := false) only [f_X3_finds, p, zO, zR, zA, zT, zu1, zu2, zu3, zu4, gI, gL, pI, pL, pZ, aI, aL, sI, sZ, sL, Option.bind_some, Option.map_some, if_true, if_false, ite_true, ite_false, true_and, and_true, false_and, and_false, or_true, true_or, or_false, false_or, and_self, not_true_eq_false, not_false_eq_true, ↓reduceIte, reduceIte, Nat.reduceAdd, Nat.reduceMul, Nat.reduceSub, Nat.reduceMod, Nat.reduceDiv, Nat.reduceEqDiff, Nat.reduceLT, Nat.reduceLeDiff, Int32.reduceAdd, Int32.reduceSub, Int32.reduceMul, Int32.reduceDiv, Int32.reduceMod, Int32.reduceOfNat, Int32.reduceOfInt, Int32.reduceLT, Int32.reduceLE, Int32.reduceToNatClampNeg, Int32.reduceToInt]
theorem none3_le {c : Nat → Nat → Int} : (none3 c ≤ 0) = (none3 c = 0) := by
  rcases none3_r c with g | g | g | g <;> rw [g] <;> decide
theorem ok_lifted {μ : Mem} (h : INV μ) : OKop (f_X11_lifted SX 0) (f_X12_lifted SX 81) μ := by
  obtain ⟨c, b, h1, h2⟩ := h.1
  obtain ⟨μ1, p1, f1, j1⟩ := finds_at ck1 h1 b
  obtain ⟨μ2, p2, f2, j2⟩ := pushes_at (h2.sc (sc55 f1)) b
  have hI := h.q ((sc55 f1).tr (scu f2))
  by_cases t : none3 c = 0
  · rw [if_pos t] at p1
    refine ⟨Int32.ofInt (air c), μ1, μ2, ?_, ?_, hI⟩
    · simp (decide := true) (implicitDefEqProofs := false) only [f_X11_lifted, p1, (j1 t).2.2, zO, zR, zA, zT, zu1, zu2, zu3, zu4, gI, gL, pI, pL, pZ, aI, aL, sI, sZ, sL, Option.bind_some, Option.map_some, if_true, if_false, ite_true, ite_false, true_and, and_true, false_and, and_false, or_true, true_or, or_false, false_or, and_self, not_true_eq_false, not_false_eq_true, ↓reduceIte, reduceIte, Nat.reduceAdd, Nat.reduceMul, Nat.reduceSub, Nat.reduceMod, Nat.reduceDiv, Nat.reduceEqDiff, Nat.reduceLT, Nat.reduceLeDiff, Int32.reduceAdd, Int32.reduceSub, Int32.reduceMul, Int32.reduceDiv, Int32.reduceMod, Int32.reduceOfNat, Int32.reduceOfInt, Int32.reduceLT, Int32.reduceLE, Int32.reduceToNatClampNeg, Int32.reduceToInt]
    · simp (decide := true) (implicitDefEqProofs := false) only [f_X12_lifted, p2, none3_le, t, (j2 t).2, zO, zR, zA, zT, zu1, zu2, zu3, zu4, gI, gL, pI, pL, pZ, aI, aL, sI, sZ, sL, Option.bind_some, Option.map_some, if_true, if_false, ite_true, ite_false, true_and, and_true, false_and, and_false, or_true, true_or, or_false, false_or, and_self, not_true_eq_false, not_false_eq_true, ↓reduceIte, reduceIte, Nat.reduceAdd, Nat.reduceMul, Nat.reduceSub, Nat.reduceMod, Nat.reduceDiv, Nat.reduceEqDiff, Nat.reduceLT, Nat.reduceLeDiff, Int32.reduceAdd, Int32.reduceSub, Int32.reduceMul, Int32.reduceDiv, Int32.reduceMod, Int32.reduceOfNat, Int32.reduceOfInt, Int32.reduceLT, Int32.reduceLE, Int32.reduceToNatClampNeg, Int32.reduceToInt]
  · rw [if_neg t] at p1
    refine ⟨-3, μ1, μ2, ?_, ?_, hI⟩
    · simp (decide := true) (implicitDefEqProofs := false) only [f_X11_lifted, p1, zO, zR, zA, zT, zu1, zu2, zu3, zu4, gI, gL, pI, pL, pZ, aI, aL, sI, sZ, sL, Option.bind_some, Option.map_some, if_true, if_false, ite_true, ite_false, true_and, and_true, false_and, and_false, or_true, true_or, or_false, false_or, and_self, not_true_eq_false, not_false_eq_true, ↓reduceIte, reduceIte, Nat.reduceAdd, Nat.reduceMul, Nat.reduceSub, Nat.reduceMod, Nat.reduceDiv, Nat.reduceEqDiff, Nat.reduceLT, Nat.reduceLeDiff, Int32.reduceAdd, Int32.reduceSub, Int32.reduceMul, Int32.reduceDiv, Int32.reduceMod, Int32.reduceOfNat, Int32.reduceOfInt, Int32.reduceLT, Int32.reduceLE, Int32.reduceToNatClampNeg, Int32.reduceToInt]
    · simp (decide := true) (implicitDefEqProofs := false) only [f_X12_lifted, p2, none3_le, t, zO, zR, zA, zT, zu1, zu2, zu3, zu4, gI, gL, pI, pL, pZ, aI, aL, sI, sZ, sL, Option.bind_some, Option.map_some, if_true, if_false, ite_true, ite_false, true_and, and_true, false_and, and_false, or_true, true_or, or_false, false_or, and_self, not_true_eq_false, not_false_eq_true, ↓reduceIte, reduceIte, Nat.reduceAdd, Nat.reduceMul, Nat.reduceSub, Nat.reduceMod, Nat.reduceDiv, Nat.reduceEqDiff, Nat.reduceLT, Nat.reduceLeDiff, Int32.reduceAdd, Int32.reduceSub, Int32.reduceMul, Int32.reduceDiv, Int32.reduceMod, Int32.reduceOfNat, Int32.reduceOfInt, Int32.reduceLT, Int32.reduceLE, Int32.reduceToNatClampNeg, Int32.reduceToInt]
theorem ok_weight {μ : Mem} (h : INV μ) : OKop (f_X11_weight SX 0) (f_X12_weight SX 81) μ := by
  obtain ⟨c, b, h1, h2⟩ := h.1
  have hn8 : nP c ≤ 8 := by have := b.2.2.1; unfold nP; omega
  have jb := b.jb.1
  obtain ⟨μ2, p2, f2, l2⟩ := looks_at h2 b
  have su := sum_at b l2 (by omega) (a := 0) (by decide)
  rw [show sm (thF c 0) (nP c + 2) = WW c from sm_W] at su
  simp only [Nat.reduceAdd, Nat.reduceMul, Nat.reduceMod, Int32.reduceOfNat] at su
  refine ⟨Int32.ofInt (WW c), μ, μ2, ?_, ?_, h.q (sck f2)⟩
  · simp (decide := true) (implicitDefEqProofs := false) only [f_X11_weight, wholeMass_at ck1 h1, zO, zR, zA, zT, zu1, zu2, zu3, zu4, gI, gL, pI, pL, pZ, aI, aL, sI, sZ, sL, Option.bind_some, Option.map_some, if_true, if_false, ite_true, ite_false, true_and, and_true, false_and, and_false, or_true, true_or, or_false, false_or, and_self, not_true_eq_false, not_false_eq_true, ↓reduceIte, reduceIte, Nat.reduceAdd, Nat.reduceMul, Nat.reduceSub, Nat.reduceMod, Nat.reduceDiv, Nat.reduceEqDiff, Nat.reduceLT, Nat.reduceLeDiff, Int32.reduceAdd, Int32.reduceSub, Int32.reduceMul, Int32.reduceDiv, Int32.reduceMod, Int32.reduceOfNat, Int32.reduceOfInt, Int32.reduceLT, Int32.reduceLE, Int32.reduceToNatClampNeg, Int32.reduceToInt]
  · simp (decide := true) (implicitDefEqProofs := false) only [f_X12_weight, p2, su, Int64.toInt32_ofInt, zO, zR, zA, zT, zu1, zu2, zu3, zu4, gI, gL, pI, pL, pZ, aI, aL, sI, sZ, sL, Option.bind_some, Option.map_some, if_true, if_false, ite_true, ite_false, true_and, and_true, false_and, and_false, or_true, true_or, or_false, false_or, and_self, not_true_eq_false, not_false_eq_true, ↓reduceIte, reduceIte, Nat.reduceAdd, Nat.reduceMul, Nat.reduceSub, Nat.reduceMod, Nat.reduceDiv, Nat.reduceEqDiff, Nat.reduceLT, Nat.reduceLeDiff, Int32.reduceAdd, Int32.reduceSub, Int32.reduceMul, Int32.reduceDiv, Int32.reduceMod, Int32.reduceOfNat, Int32.reduceOfInt, Int32.reduceLT, Int32.reduceLE, Int32.reduceToNatClampNeg, Int32.reduceToInt]
theorem ok_allowed {μ : Mem} (h : INV μ) (a1 a2 : Int32) : OKop (f_X11_allowed SX 0 a1 a2) (f_X12_allowed SX 81 a1 a2) μ := by
  obtain ⟨c, b, h1, h2⟩ := h.1
  rcases wbN a1 19 (by decide) with t | ⟨t, d, hd, rfl⟩
  · simp only [Nat.reduceAdd, Nat.reduceMul, Nat.reduceMod, Int32.reduceOfNat] at t
    refine ⟨-1, μ, μ, ?_, ?_, h⟩
    · simp (decide := true) (implicitDefEqProofs := false) only [f_X11_allowed, isDir_at, t, zO, zR, zA, zT, zu1, zu2, zu3, zu4, gI, gL, pI, pL, pZ, aI, aL, sI, sZ, sL, Option.bind_some, Option.map_some, if_true, if_false, ite_true, ite_false, true_and, and_true, false_and, and_false, or_true, true_or, or_false, false_or, and_self, not_true_eq_false, not_false_eq_true, ↓reduceIte, reduceIte, Nat.reduceAdd, Nat.reduceMul, Nat.reduceSub, Nat.reduceMod, Nat.reduceDiv, Nat.reduceEqDiff, Nat.reduceLT, Nat.reduceLeDiff, Int32.reduceAdd, Int32.reduceSub, Int32.reduceMul, Int32.reduceDiv, Int32.reduceMod, Int32.reduceOfNat, Int32.reduceOfInt, Int32.reduceLT, Int32.reduceLE, Int32.reduceToNatClampNeg, Int32.reduceToInt]
    · simp (decide := true) (implicitDefEqProofs := false) only [f_X12_allowed, isDir_at, t, zO, zR, zA, zT, zu1, zu2, zu3, zu4, gI, gL, pI, pL, pZ, aI, aL, sI, sZ, sL, Option.bind_some, Option.map_some, if_true, if_false, ite_true, ite_false, true_and, and_true, false_and, and_false, or_true, true_or, or_false, false_or, and_self, not_true_eq_false, not_false_eq_true, ↓reduceIte, reduceIte, Nat.reduceAdd, Nat.reduceMul, Nat.reduceSub, Nat.reduceMod, Nat.reduceDiv, Nat.reduceEqDiff, Nat.reduceLT, Nat.reduceLeDiff, Int32.reduceAdd, Int32.reduceSub, Int32.reduceMul, Int32.reduceDiv, Int32.reduceMod, Int32.reduceOfNat, Int32.reduceOfInt, Int32.reduceLT, Int32.reduceLE, Int32.reduceToNatClampNeg, Int32.reduceToInt]
  · rcases wbN a2 60 (by decide) with s | ⟨s, r, hr, rfl⟩
    · simp only [Nat.reduceAdd, Nat.reduceMul, Nat.reduceMod, Int32.reduceOfNat] at t s
      refine ⟨-2, μ, μ, ?_, ?_, h⟩
      · simp (decide := true) (implicitDefEqProofs := false) only [f_X11_allowed, isDir_at, isReach_at, t, s, zO, zR, zA, zT, zu1, zu2, zu3, zu4, gI, gL, pI, pL, pZ, aI, aL, sI, sZ, sL, Option.bind_some, Option.map_some, if_true, if_false, ite_true, ite_false, true_and, and_true, false_and, and_false, or_true, true_or, or_false, false_or, and_self, not_true_eq_false, not_false_eq_true, ↓reduceIte, reduceIte, Nat.reduceAdd, Nat.reduceMul, Nat.reduceSub, Nat.reduceMod, Nat.reduceDiv, Nat.reduceEqDiff, Nat.reduceLT, Nat.reduceLeDiff, Int32.reduceAdd, Int32.reduceSub, Int32.reduceMul, Int32.reduceDiv, Int32.reduceMod, Int32.reduceOfNat, Int32.reduceOfInt, Int32.reduceLT, Int32.reduceLE, Int32.reduceToNatClampNeg, Int32.reduceToInt]
      · simp (decide := true) (implicitDefEqProofs := false) only [f_X12_allowed, isDir_at, isReach_at, t, s, zO, zR, zA, zT, zu1, zu2, zu3, zu4, gI, gL, pI, pL, pZ, aI, aL, sI, sZ, sL, Option.bind_some, Option.map_some, if_true, if_false, ite_true, ite_false, true_and, and_true, false_and, and_false, or_true, true_or, or_false, false_or, and_self, not_true_eq_false, not_false_eq_true, ↓reduceIte, reduceIte, Nat.reduceAdd, Nat.reduceMul, Nat.reduceSub, Nat.reduceMod, Nat.reduceDiv, Nat.reduceEqDiff, Nat.reduceLT, Nat.reduceLeDiff, Int32.reduceAdd, Int32.reduceSub, Int32.reduceMul, Int32.reduceDiv, Int32.reduceMod, Int32.reduceOfNat, Int32.reduceOfInt, Int32.reduceLT, Int32.reduceLE, Int32.reduceToNatClampNeg, Int32.reduceToInt]
    · simp only [Nat.reduceAdd, Nat.reduceMul, Nat.reduceMod, Int32.reduceOfNat] at t s
      refine ⟨mayV c d r, μ, μ, ?_, ?_, h⟩
      · simp (decide := true) (implicitDefEqProofs := false) only [f_X11_allowed, isDir_at, isReach_at, t, s, mayHang_at ck1 h1 b (show d < 20 by omega) (show r < 61 by omega), zO, zR, zA, zT, zu1, zu2, zu3, zu4, gI, gL, pI, pL, pZ, aI, aL, sI, sZ, sL, Option.bind_some, Option.map_some, if_true, if_false, ite_true, ite_false, true_and, and_true, false_and, and_false, or_true, true_or, or_false, false_or, and_self, not_true_eq_false, not_false_eq_true, ↓reduceIte, reduceIte, Nat.reduceAdd, Nat.reduceMul, Nat.reduceSub, Nat.reduceMod, Nat.reduceDiv, Nat.reduceEqDiff, Nat.reduceLT, Nat.reduceLeDiff, Int32.reduceAdd, Int32.reduceSub, Int32.reduceMul, Int32.reduceDiv, Int32.reduceMod, Int32.reduceOfNat, Int32.reduceOfInt, Int32.reduceLT, Int32.reduceLE, Int32.reduceToNatClampNeg, Int32.reduceToInt]
      · simp (decide := true) (implicitDefEqProofs := false) only [f_X12_allowed, isDir_at, isReach_at, t, s, allowedAt_at h2 b (show d < 20 by omega) (show r < 61 by omega), zO, zR, zA, zT, zu1, zu2, zu3, zu4, gI, gL, pI, pL, pZ, aI, aL, sI, sZ, sL, Option.bind_some, Option.map_some, if_true, if_false, ite_true, ite_false, true_and, and_true, false_and, and_false, or_true, true_or, or_false, false_or, and_self, not_true_eq_false, not_false_eq_true, ↓reduceIte, reduceIte, Nat.reduceAdd, Nat.reduceMul, Nat.reduceSub, Nat.reduceMod, Nat.reduceDiv, Nat.reduceEqDiff, Nat.reduceLT, Nat.reduceLeDiff, Int32.reduceAdd, Int32.reduceSub, Int32.reduceMul, Int32.reduceDiv, Int32.reduceMod, Int32.reduceOfNat, Int32.reduceOfInt, Int32.reduceLT, Int32.reduceLE, Int32.reduceToNatClampNeg, Int32.reduceToInt]
theorem ok_read {μ : Mem} (h : INV μ) (a1 a2 : Int32) : OKop (f_X11_read SX 0 a1 a2) (f_X12_read SX 81 a1 a2) μ := by
  obtain ⟨c, b, h1, h2⟩ := h.1
  rcases wbN a1 2 (by decide) with t | ⟨t, q, hq, rfl⟩
  · simp only [Nat.reduceAdd, Nat.reduceMul, Nat.reduceMod, Int32.reduceOfNat] at t
    refine ⟨-1, μ, μ, ?_, ?_, h⟩
    · simp (decide := true) (implicitDefEqProofs := false) only [f_X11_read, isChart_at, t, zO, zR, zA, zT, zu1, zu2, zu3, zu4, gI, gL, pI, pL, pZ, aI, aL, sI, sZ, sL, Option.bind_some, Option.map_some, if_true, if_false, ite_true, ite_false, true_and, and_true, false_and, and_false, or_true, true_or, or_false, false_or, and_self, not_true_eq_false, not_false_eq_true, ↓reduceIte, reduceIte, Nat.reduceAdd, Nat.reduceMul, Nat.reduceSub, Nat.reduceMod, Nat.reduceDiv, Nat.reduceEqDiff, Nat.reduceLT, Nat.reduceLeDiff, Int32.reduceAdd, Int32.reduceSub, Int32.reduceMul, Int32.reduceDiv, Int32.reduceMod, Int32.reduceOfNat, Int32.reduceOfInt, Int32.reduceLT, Int32.reduceLE, Int32.reduceToNatClampNeg, Int32.reduceToInt]
    · simp (decide := true) (implicitDefEqProofs := false) only [f_X12_read, isChart_at, t, zO, zR, zA, zT, zu1, zu2, zu3, zu4, gI, gL, pI, pL, pZ, aI, aL, sI, sZ, sL, Option.bind_some, Option.map_some, if_true, if_false, ite_true, ite_false, true_and, and_true, false_and, and_false, or_true, true_or, or_false, false_or, and_self, not_true_eq_false, not_false_eq_true, ↓reduceIte, reduceIte, Nat.reduceAdd, Nat.reduceMul, Nat.reduceSub, Nat.reduceMod, Nat.reduceDiv, Nat.reduceEqDiff, Nat.reduceLT, Nat.reduceLeDiff, Int32.reduceAdd, Int32.reduceSub, Int32.reduceMul, Int32.reduceDiv, Int32.reduceMod, Int32.reduceOfNat, Int32.reduceOfInt, Int32.reduceLT, Int32.reduceLE, Int32.reduceToNatClampNeg, Int32.reduceToInt]
  · rcases wbN a2 60 (by decide) with s | ⟨s, r, hr, rfl⟩
    · simp only [Nat.reduceAdd, Nat.reduceMul, Nat.reduceMod, Int32.reduceOfNat] at t s
      refine ⟨-2, μ, μ, ?_, ?_, h⟩
      · simp (decide := true) (implicitDefEqProofs := false) only [f_X11_read, isChart_at, isReach_at, t, s, zO, zR, zA, zT, zu1, zu2, zu3, zu4, gI, gL, pI, pL, pZ, aI, aL, sI, sZ, sL, Option.bind_some, Option.map_some, if_true, if_false, ite_true, ite_false, true_and, and_true, false_and, and_false, or_true, true_or, or_false, false_or, and_self, not_true_eq_false, not_false_eq_true, ↓reduceIte, reduceIte, Nat.reduceAdd, Nat.reduceMul, Nat.reduceSub, Nat.reduceMod, Nat.reduceDiv, Nat.reduceEqDiff, Nat.reduceLT, Nat.reduceLeDiff, Int32.reduceAdd, Int32.reduceSub, Int32.reduceMul, Int32.reduceDiv, Int32.reduceMod, Int32.reduceOfNat, Int32.reduceOfInt, Int32.reduceLT, Int32.reduceLE, Int32.reduceToNatClampNeg, Int32.reduceToInt]
      · simp (decide := true) (implicitDefEqProofs := false) only [f_X12_read, isChart_at, isReach_at, t, s, zO, zR, zA, zT, zu1, zu2, zu3, zu4, gI, gL, pI, pL, pZ, aI, aL, sI, sZ, sL, Option.bind_some, Option.map_some, if_true, if_false, ite_true, ite_false, true_and, and_true, false_and, and_false, or_true, true_or, or_false, false_or, and_self, not_true_eq_false, not_false_eq_true, ↓reduceIte, reduceIte, Nat.reduceAdd, Nat.reduceMul, Nat.reduceSub, Nat.reduceMod, Nat.reduceDiv, Nat.reduceEqDiff, Nat.reduceLT, Nat.reduceLeDiff, Int32.reduceAdd, Int32.reduceSub, Int32.reduceMul, Int32.reduceDiv, Int32.reduceMod, Int32.reduceOfNat, Int32.reduceOfInt, Int32.reduceLT, Int32.reduceLE, Int32.reduceToNatClampNeg, Int32.reduceToInt]
    · simp only [Nat.reduceAdd, Nat.reduceMul, Nat.reduceMod, Int32.reduceOfNat] at t s
      have ar := aRc ck1 q (by omega)
      have aa := at_at ck1 (show q < 3 by omega) (h1.2.2.2.2.1 q (by omega)).1 (b.2.2.2.2.1 q (by omega)).2 (show r < 61 by omega)
      simp only [Nat.reduceAdd, Nat.reduceMul, Nat.reduceMod, Int32.reduceOfNat] at ar aa
      refine ⟨readV (c (9 + q)) r, μ, μ, ?_, ?_, h⟩
      · simp (decide := true) (implicitDefEqProofs := false) only [f_X11_read, isChart_at, isReach_at, t, s, ar, aa, zO, zR, zA, zT, zu1, zu2, zu3, zu4, gI, gL, pI, pL, pZ, aI, aL, sI, sZ, sL, Option.bind_some, Option.map_some, if_true, if_false, ite_true, ite_false, true_and, and_true, false_and, and_false, or_true, true_or, or_false, false_or, and_self, not_true_eq_false, not_false_eq_true, ↓reduceIte, reduceIte, Nat.reduceAdd, Nat.reduceMul, Nat.reduceSub, Nat.reduceMod, Nat.reduceDiv, Nat.reduceEqDiff, Nat.reduceLT, Nat.reduceLeDiff, Int32.reduceAdd, Int32.reduceSub, Int32.reduceMul, Int32.reduceDiv, Int32.reduceMod, Int32.reduceOfNat, Int32.reduceOfInt, Int32.reduceLT, Int32.reduceLE, Int32.reduceToNatClampNeg, Int32.reduceToInt]
      · simp (decide := true) (implicitDefEqProofs := false) only [f_X12_read, isChart_at, isReach_at, t, s, readOf_at h2 b (show q < 3 by omega) (show r < 61 by omega), zO, zR, zA, zT, zu1, zu2, zu3, zu4, gI, gL, pI, pL, pZ, aI, aL, sI, sZ, sL, Option.bind_some, Option.map_some, if_true, if_false, ite_true, ite_false, true_and, and_true, false_and, and_false, or_true, true_or, or_false, false_or, and_self, not_true_eq_false, not_false_eq_true, ↓reduceIte, reduceIte, Nat.reduceAdd, Nat.reduceMul, Nat.reduceSub, Nat.reduceMod, Nat.reduceDiv, Nat.reduceEqDiff, Nat.reduceLT, Nat.reduceLeDiff, Int32.reduceAdd, Int32.reduceSub, Int32.reduceMul, Int32.reduceDiv, Int32.reduceMod, Int32.reduceOfNat, Int32.reduceOfInt, Int32.reduceLT, Int32.reduceLE, Int32.reduceToNatClampNeg, Int32.reduceToInt]

