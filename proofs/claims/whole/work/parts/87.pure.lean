/-- the reference's tape, and where it reads -/
def TM (n : Nat) (t : Nat → Int32) (p : Nat) (μ : Mem) : Prop := μ.1 81 23 = Int32.ofNat n ∧ μ.1 81 29 = Int32.ofNat p ∧ ∀ i, i < n → μ.1 98 i = t i
def q2P (q : Nat) : Prop := q = 101 ∨ q = 102
def q2J (j : Nat) : Prop := j = 29
theorem TM.at {n p q : Nat} {t : Nat → Int32} {μ : Mem} (h : TM n t p μ) : TM n t q (upI μ 81 29 (Int32.ofNat q)) := by
  obtain ⟨h1, h2, h3⟩ := h
  exact ⟨by rw [zu1, if_neg (by omega)]; exact h1, by rw [zu1, if_pos (by first | exact ⟨rfl, rfl⟩ | exact ⟨trivial, rfl⟩)], fun i hi => by rw [zu1, if_neg (by omega)]; exact h3 i hi⟩
theorem F29 {P : Nat → Prop} {μ : Mem} {v : Int32} : FM P q2J μ (upI μ 81 29 v) := FM.uI (Or.inr ⟨rfl, rfl⟩)
theorem here_at {n p : Nat} {t : Nat → Int32} (hn : n ≤ 100) (hp : p ≤ n) {μ : Mem} (h : TM n t p μ) : f_X12_here SX 81 μ = some (if p = n then -1 else t p, μ) := by
  obtain ⟨h1, h2, h3⟩ := h
  by_cases e : p = n
  · rw [if_pos e]
    rw [e] at h2
    simp (decide := true) (implicitDefEqProofs := false) only [f_X12_here, h1, h2, leT, zO, zR, zA, zT, zu1, zu2, zu3, zu4, gI, gL, pI, pL, pZ, aI, aL, sI, sZ, sL, Option.bind_some, Option.map_some, if_true, if_false, ite_true, ite_false, true_and, and_true, false_and, and_false, or_true, true_or, or_false, false_or, and_self, not_true_eq_false, not_false_eq_true, ↓reduceIte, reduceIte, Nat.reduceAdd, Nat.reduceMul, Nat.reduceSub, Nat.reduceMod, Nat.reduceDiv, Nat.reduceEqDiff, Nat.reduceLT, Nat.reduceLeDiff, Int32.reduceAdd, Int32.reduceSub, Int32.reduceMul, Int32.reduceDiv, Int32.reduceMod, Int32.reduceOfNat, Int32.reduceOfInt, Int32.reduceLT, Int32.reduceLE, Int32.reduceToNatClampNeg, Int32.reduceToInt]
  · rw [if_neg e]
    have lf := leF (n := n) (i := p) (by omega) (by omega)
    have g := h3 p (by omega)
    simp (decide := true) (implicitDefEqProofs := false) only [f_X12_here, h1, h2, lf, zin p 100 (by omega) (by decide), ztn p (by omega), g, zO, zR, zA, zT, zu1, zu2, zu3, zu4, gI, gL, pI, pL, pZ, aI, aL, sI, sZ, sL, Option.bind_some, Option.map_some, if_true, if_false, ite_true, ite_false, true_and, and_true, false_and, and_false, or_true, true_or, or_false, false_or, and_self, not_true_eq_false, not_false_eq_true, ↓reduceIte, reduceIte, Nat.reduceAdd, Nat.reduceMul, Nat.reduceSub, Nat.reduceMod, Nat.reduceDiv, Nat.reduceEqDiff, Nat.reduceLT, Nat.reduceLeDiff, Int32.reduceAdd, Int32.reduceSub, Int32.reduceMul, Int32.reduceDiv, Int32.reduceMod, Int32.reduceOfNat, Int32.reduceOfInt, Int32.reduceLT, Int32.reduceLE, Int32.reduceToNatClampNeg, Int32.reduceToInt]
theorem wordM {n : Nat} {t : Nat → Int32} (hn : n ≤ 100) (s a : Int32) : ∀ m p, p + m = n → ∀ u μ, TM n t p μ → ∃ ν, lpN (l_X12_readStep_5 SX 81 s a) (u + m + 1) μ = b_X12_readStep_32 SX 81 s a ν ∧ FM (fun _ => False) q2J μ ν ∧ TM n t (wE t m p) ν := by
  intro m
  induction m with
  | zero =>
    intro p hp u μ h
    have hh := here_at hn (by omega) h
    have e : p = n := by omega
    subst e
    rw [if_pos rfl] at hh
    have w : wb (-1) 97 122 = 0 := by decide
    refine ⟨μ, ?_, FM.rf, h⟩
    rw [zlp]
    simp (decide := true) (implicitDefEqProofs := false) only [l_X12_readStep_5, hh, in_at, w, zO, zR, zA, zT, zu1, zu2, zu3, zu4, gI, gL, pI, pL, pZ, aI, aL, sI, sZ, sL, Option.bind_some, Option.map_some, if_true, if_false, ite_true, ite_false, true_and, and_true, false_and, and_false, or_true, true_or, or_false, false_or, and_self, not_true_eq_false, not_false_eq_true, ↓reduceIte, reduceIte, Nat.reduceAdd, Nat.reduceMul, Nat.reduceSub, Nat.reduceMod, Nat.reduceDiv, Nat.reduceEqDiff, Nat.reduceLT, Nat.reduceLeDiff, Int32.reduceAdd, Int32.reduceSub, Int32.reduceMul, Int32.reduceDiv, Int32.reduceMod, Int32.reduceOfNat, Int32.reduceOfInt, Int32.reduceLT, Int32.reduceLE, Int32.reduceToNatClampNeg, Int32.reduceToInt]
  | succ m ih =>
    intro p hp u μ h
    have hh := here_at hn (by omega) h
    rw [if_neg (by omega)] at hh
    rw [show u + (m + 1) + 1 = (u + m + 1) + 1 from rfl, zlp]
    by_cases w : wb (t p) 97 122 = 1
    · obtain ⟨ν, q, f, g'⟩ := ih (p + 1) (by omega) u _ (h.at (q := p + 1))
      have h2 := h.2.1
      have e : wE t (m + 1) p = wE t m (p + 1) := by show (if _ then _ else _) = _; rw [if_pos w]
      rw [e]
      refine ⟨ν, ?_, F29.tr f, g'⟩
      simp (decide := true) (implicitDefEqProofs := false) only [l_X12_readStep_5, hh, in_at, w, h2, ofN1 p, zO, zR, zA, zT, zu1, zu2, zu3, zu4, gI, gL, pI, pL, pZ, aI, aL, sI, sZ, sL, Option.bind_some, Option.map_some, if_true, if_false, ite_true, ite_false, true_and, and_true, false_and, and_false, or_true, true_or, or_false, false_or, and_self, not_true_eq_false, not_false_eq_true, ↓reduceIte, reduceIte, Nat.reduceAdd, Nat.reduceMul, Nat.reduceSub, Nat.reduceMod, Nat.reduceDiv, Nat.reduceEqDiff, Nat.reduceLT, Nat.reduceLeDiff, Int32.reduceAdd, Int32.reduceSub, Int32.reduceMul, Int32.reduceDiv, Int32.reduceMod, Int32.reduceOfNat, Int32.reduceOfInt, Int32.reduceLT, Int32.reduceLE, Int32.reduceToNatClampNeg, Int32.reduceToInt]
      exact q
    · have e : wE t (m + 1) p = p := by show (if _ then _ else _) = _; rw [if_neg w]
      rw [e]
      refine ⟨μ, ?_, FM.rf, h⟩
      have w0 := (wb_n w).1
      simp (decide := true) (implicitDefEqProofs := false) only [l_X12_readStep_5, hh, in_at, w0, zO, zR, zA, zT, zu1, zu2, zu3, zu4, gI, gL, pI, pL, pZ, aI, aL, sI, sZ, sL, Option.bind_some, Option.map_some, if_true, if_false, ite_true, ite_false, true_and, and_true, false_and, and_false, or_true, true_or, or_false, false_or, and_self, not_true_eq_false, not_false_eq_true, ↓reduceIte, reduceIte, Nat.reduceAdd, Nat.reduceMul, Nat.reduceSub, Nat.reduceMod, Nat.reduceDiv, Nat.reduceEqDiff, Nat.reduceLT, Nat.reduceLeDiff, Int32.reduceAdd, Int32.reduceSub, Int32.reduceMul, Int32.reduceDiv, Int32.reduceMod, Int32.reduceOfNat, Int32.reduceOfInt, Int32.reduceLT, Int32.reduceLE, Int32.reduceToNatClampNeg, Int32.reduceToInt]
theorem isWordM {n p e : Nat} {t : Nat → Int32} (hn : n ≤ 100) (hp : p ≤ e) (he : e ≤ n) {w : Nat} (hw : w < 10) {μ : Mem} (h : TM n t e μ) : f_X12_isWord SX 81 (Int32.ofNat p) w μ = some (if spB t p e w = true then 1 else 0, μ) := by
  obtain ⟨k1, k2, k3⟩ := tks w hw
  obtain ⟨h1, h2, h3⟩ := h
  have ne : (Int32.ofNat (e - p) = Int32.ofNat (ksB w).length) = (e - p = (ksB w).length) := neN (by omega) (by omega)
  have lp : e - p = (ksB w).length → ∀ m i, i + m = (ksB w).length → ∀ u, lpN (l_X12_isWord_17 SX 81 (Int32.ofNat p) w) (u + m + 1) (Int32.ofNat i, μ) = some (if (∀ j, j < (ksB w).length → i ≤ j → t (p + j) = (ksB w).getD j 0) then 1 else 0, μ) := by
    intro el m
    induction m with
    | zero =>
      intro i hi u
      have e : i = (ksB w).length := by omega
      subst e
      rw [zlp, if_pos (fun j h1 h2 => by omega)]
      simp (decide := true) (implicitDefEqProofs := false) only [l_X12_isWord_17, k1, leT, zO, zR, zA, zT, zu1, zu2, zu3, zu4, gI, gL, pI, pL, pZ, aI, aL, sI, sZ, sL, Option.bind_some, Option.map_some, if_true, if_false, ite_true, ite_false, true_and, and_true, false_and, and_false, or_true, true_or, or_false, false_or, and_self, not_true_eq_false, not_false_eq_true, ↓reduceIte, reduceIte, Nat.reduceAdd, Nat.reduceMul, Nat.reduceSub, Nat.reduceMod, Nat.reduceDiv, Nat.reduceEqDiff, Nat.reduceLT, Nat.reduceLeDiff, Int32.reduceAdd, Int32.reduceSub, Int32.reduceMul, Int32.reduceDiv, Int32.reduceMod, Int32.reduceOfNat, Int32.reduceOfInt, Int32.reduceLT, Int32.reduceLE, Int32.reduceToNatClampNeg, Int32.reduceToInt]
    | succ m ih =>
      intro i hi u
      have q := ih (i + 1) (by omega) u
      have lf := leF (n := (ksB w).length) (i := i) (by omega) (by omega)
      have ad : Int32.ofNat p + Int32.ofNat i = Int32.ofNat (p + i) := (Int32.ofNat_add p i).symm
      have ka := k3 i (by omega)
      have g := h3 (p + i) (by omega)
      rw [show u + (m + 1) + 1 = (u + m + 1) + 1 from rfl, zlp]
      by_cases c : t (p + i) = (ksB w).getD i 0
      · have eq : (∀ j, j < (ksB w).length → i ≤ j → t (p + j) = (ksB w).getD j 0) = (∀ j, j < (ksB w).length → i + 1 ≤ j → t (p + j) = (ksB w).getD j 0) := propext ⟨fun a j h1 h2 => a j h1 (by omega), fun a j h1 h2 => by
          by_cases x : j = i
          · rw [x]; exact c
          · exact a j h1 (by omega)⟩
        simp only [eq]
        simp (decide := true) (implicitDefEqProofs := false) only [l_X12_isWord_17, k1, lf, ad, zin (p + i) 100 (by omega) (by decide), ztn (p + i) (by omega), g, ka, c, ofN1 i, zO, zR, zA, zT, zu1, zu2, zu3, zu4, gI, gL, pI, pL, pZ, aI, aL, sI, sZ, sL, Option.bind_some, Option.map_some, if_true, if_false, ite_true, ite_false, true_and, and_true, false_and, and_false, or_true, true_or, or_false, false_or, and_self, not_true_eq_false, not_false_eq_true, ↓reduceIte, reduceIte, Nat.reduceAdd, Nat.reduceMul, Nat.reduceSub, Nat.reduceMod, Nat.reduceDiv, Nat.reduceEqDiff, Nat.reduceLT, Nat.reduceLeDiff, Int32.reduceAdd, Int32.reduceSub, Int32.reduceMul, Int32.reduceDiv, Int32.reduceMod, Int32.reduceOfNat, Int32.reduceOfInt, Int32.reduceLT, Int32.reduceLE, Int32.reduceToNatClampNeg, Int32.reduceToInt]
        exact q
      · rw [if_neg (fun a => c (a i (by omega) (Nat.le_refl _)))]
        simp (decide := true) (implicitDefEqProofs := false) only [l_X12_isWord_17, k1, lf, ad, zin (p + i) 100 (by omega) (by decide), ztn (p + i) (by omega), g, ka, c, zO, zR, zA, zT, zu1, zu2, zu3, zu4, gI, gL, pI, pL, pZ, aI, aL, sI, sZ, sL, Option.bind_some, Option.map_some, if_true, if_false, ite_true, ite_false, true_and, and_true, false_and, and_false, or_true, true_or, or_false, false_or, and_self, not_true_eq_false, not_false_eq_true, ↓reduceIte, reduceIte, Nat.reduceAdd, Nat.reduceMul, Nat.reduceSub, Nat.reduceMod, Nat.reduceDiv, Nat.reduceEqDiff, Nat.reduceLT, Nat.reduceLeDiff, Int32.reduceAdd, Int32.reduceSub, Int32.reduceMul, Int32.reduceDiv, Int32.reduceMod, Int32.reduceOfNat, Int32.reduceOfInt, Int32.reduceLT, Int32.reduceLE, Int32.reduceToNatClampNeg, Int32.reduceToInt]
  have sd : spB t p e w = true ↔ (e - p = (ksB w).length ∧ ∀ i, i < (ksB w).length → t (p + i) = (ksB w).getD i 0) := decide_eq_true_iff
  by_cases el : e - p = (ksB w).length
  · have q := lp el (ksB w).length 0 (by omega) (4999 - (ksB w).length)
    rw [show 4999 - (ksB w).length + (ksB w).length + 1 = fu by show _ = 5000; omega] at q
    have eq : (if spB t p e w = true then (1 : Int32) else 0) = (if (∀ j, j < (ksB w).length → 0 ≤ j → t (p + j) = (ksB w).getD j 0) then 1 else 0) := by
      by_cases x : spB t p e w = true
      · rw [if_pos x, if_pos (fun j h1 _ => (sd.mp x).2 j h1)]
      · rw [if_neg x, if_neg (fun a => x (sd.mpr ⟨el, fun i hi => a i hi (Nat.zero_le _)⟩))]
    rw [eq]
    simp (decide := true) (implicitDefEqProofs := false) only [f_X12_isWord, h2, k1, sbN e p hp, ne, el, zO, zR, zA, zT, zu1, zu2, zu3, zu4, gI, gL, pI, pL, pZ, aI, aL, sI, sZ, sL, Option.bind_some, Option.map_some, if_true, if_false, ite_true, ite_false, true_and, and_true, false_and, and_false, or_true, true_or, or_false, false_or, and_self, not_true_eq_false, not_false_eq_true, ↓reduceIte, reduceIte, Nat.reduceAdd, Nat.reduceMul, Nat.reduceSub, Nat.reduceMod, Nat.reduceDiv, Nat.reduceEqDiff, Nat.reduceLT, Nat.reduceLeDiff, Int32.reduceAdd, Int32.reduceSub, Int32.reduceMul, Int32.reduceDiv, Int32.reduceMod, Int32.reduceOfNat, Int32.reduceOfInt, Int32.reduceLT, Int32.reduceLE, Int32.reduceToNatClampNeg, Int32.reduceToInt]
    exact q
  · rw [if_neg (fun x => el (sd.mp x).1)]
    simp (decide := true) (implicitDefEqProofs := false) only [f_X12_isWord, h2, k1, sbN e p hp, ne, el, zO, zR, zA, zT, zu1, zu2, zu3, zu4, gI, gL, pI, pL, pZ, aI, aL, sI, sZ, sL, Option.bind_some, Option.map_some, if_true, if_false, ite_true, ite_false, true_and, and_true, false_and, and_false, or_true, true_or, or_false, false_or, and_self, not_true_eq_false, not_false_eq_true, ↓reduceIte, reduceIte, Nat.reduceAdd, Nat.reduceMul, Nat.reduceSub, Nat.reduceMod, Nat.reduceDiv, Nat.reduceEqDiff, Nat.reduceLT, Nat.reduceLeDiff, Int32.reduceAdd, Int32.reduceSub, Int32.reduceMul, Int32.reduceDiv, Int32.reduceMod, Int32.reduceOfNat, Int32.reduceOfInt, Int32.reduceLT, Int32.reduceLE, Int32.reduceToNatClampNeg, Int32.reduceToInt]
def wkF (t : Nat → Int32) (p e : Nat) : Nat → Int
  | 0 => -1
  | k + 1 => if spB t p e (5 + k) = true then (k : Int) else wkF t p e k
theorem wordLM {n p e : Nat} {t : Nat → Int32} (hn : n ≤ 100) (hp : p ≤ e) (he : e ≤ n) (s : Int32) {μ : Mem} (h : TM n t e μ) : b_X12_readStep_32 SX 81 s (Int32.ofNat p) μ = b_X12_readStep_69 SX 81 s (Int32.ofNat p) (Int32.ofInt (wkF t p e 5)) μ := by
  have st : ∀ self k, k < 5 → l_X12_readStep_37 SX 81 s (Int32.ofNat p) self (Int32.ofInt (wkF t p e k), Int32.ofNat k, μ) = self (Int32.ofInt (wkF t p e (k + 1)), Int32.ofNat (k + 1), μ) := by
    intro self k hk
    have iw := isWordM (p := p) hn hp he (w := 5 + k) (by omega) h
    have wd : ∀ k, k < 5 → f_X12_word SX (Int32.ofNat k) μ = some (5 + k, μ) := by
      intro k hk
      have e : k = 0 ∨ k = 1 ∨ k = 2 ∨ k = 3 ∨ k = 4 := by omega
      rcases e with rfl | rfl | rfl | rfl | rfl <;> rfl
    have wd := wd k hk
    have lf : ((5 : Int32) ≤ Int32.ofNat k) = False := leF (n := 5) hk (by decide)
    by_cases c : spB t p e (5 + k) = true
    · rw [if_pos c] at iw
      have e1 : wkF t p e (k + 1) = (k : Int) := by show (if _ then _ else _) = _; rw [if_pos c]
      rw [e1]
      simp (decide := true) (implicitDefEqProofs := false) only [l_X12_readStep_37, lf, wd, iw, ofN1 k, zO, zR, zA, zT, zu1, zu2, zu3, zu4, gI, gL, pI, pL, pZ, aI, aL, sI, sZ, sL, Option.bind_some, Option.map_some, if_true, if_false, ite_true, ite_false, true_and, and_true, false_and, and_false, or_true, true_or, or_false, false_or, and_self, not_true_eq_false, not_false_eq_true, ↓reduceIte, reduceIte, Nat.reduceAdd, Nat.reduceMul, Nat.reduceSub, Nat.reduceMod, Nat.reduceDiv, Nat.reduceEqDiff, Nat.reduceLT, Nat.reduceLeDiff, Int32.reduceAdd, Int32.reduceSub, Int32.reduceMul, Int32.reduceDiv, Int32.reduceMod, Int32.reduceOfNat, Int32.reduceOfInt, Int32.reduceLT, Int32.reduceLE, Int32.reduceToNatClampNeg, Int32.reduceToInt]
      rfl
    · rw [if_neg c] at iw
      have e1 : wkF t p e (k + 1) = wkF t p e k := by show (if _ then _ else _) = _; rw [if_neg c]
      rw [e1]
      simp (decide := true) (implicitDefEqProofs := false) only [l_X12_readStep_37, lf, wd, iw, ofN1 k, zO, zR, zA, zT, zu1, zu2, zu3, zu4, gI, gL, pI, pL, pZ, aI, aL, sI, sZ, sL, Option.bind_some, Option.map_some, if_true, if_false, ite_true, ite_false, true_and, and_true, false_and, and_false, or_true, true_or, or_false, false_or, and_self, not_true_eq_false, not_false_eq_true, ↓reduceIte, reduceIte, Nat.reduceAdd, Nat.reduceMul, Nat.reduceSub, Nat.reduceMod, Nat.reduceDiv, Nat.reduceEqDiff, Nat.reduceLT, Nat.reduceLeDiff, Int32.reduceAdd, Int32.reduceSub, Int32.reduceMul, Int32.reduceDiv, Int32.reduceMod, Int32.reduceOfNat, Int32.reduceOfInt, Int32.reduceLT, Int32.reduceLE, Int32.reduceToNatClampNeg, Int32.reduceToInt]
  have ex : ∀ self x, l_X12_readStep_37 SX 81 s (Int32.ofNat p) self (x, Int32.ofNat 5, μ) = b_X12_readStep_69 SX 81 s (Int32.ofNat p) x μ := fun _ _ => rfl
  have e0 : b_X12_readStep_32 SX 81 s (Int32.ofNat p) μ = lpN (l_X12_readStep_37 SX 81 s (Int32.ofNat p)) 5000 (Int32.ofInt (wkF t p e 0), Int32.ofNat 0, μ) := rfl
  rw [e0, zlp, st _ 0 (by decide), zlp, st _ 1 (by decide), zlp, st _ 2 (by decide), zlp, st _ 3 (by decide), zlp, st _ 4 (by decide), zlp, ex]
theorem spB_x {t : Nat → Int32} {p e : Nat} : ∀ a b, a < 5 → b < 5 → a ≠ b → spB t p e a = true → ¬ spB t p e b = true := by
  have D : ∀ a, a < 5 → ∀ b, b < 5 → a ≠ b → (ksB a).length ≠ (ksB b).length ∨ (ksB a).getD 0 0 ≠ (ksB b).getD 0 0 := by decide
  have L : ∀ a, a < 5 → 0 < (ksB a).length := by decide
  intro a b ha hb hab h1 h2
  obtain ⟨a1, a2⟩ := decide_eq_true_iff.mp h1
  obtain ⟨b1, b2⟩ := decide_eq_true_iff.mp h2
  rcases D a ha b hb hab with d | d
  · exact d (a1.symm.trans b1)
  · exact d ((a2 0 (L a ha)).symm.trans (b2 0 (L b hb)))
theorem wk_wd (t : Nat → Int32) (p e : Nat) : (wdK t p e = 5 ∧ wkF t p e 5 = -1) ∨ (wdK t p e < 5 ∧ wkF t p e 5 = (wdK t p e : Nat)) := by
  have e5 : spB t p e 5 = spB t p e 1 := rfl
  have e6 : spB t p e 6 = spB t p e 2 := rfl
  have e7 : spB t p e 7 = spB t p e 3 := rfl
  have e8 : spB t p e 8 = spB t p e 0 := rfl
  have e9 : spB t p e 9 = spB t p e 4 := rfl
  have w : wkF t p e 5 = if spB t p e 4 = true then 4 else if spB t p e 0 = true then 3 else if spB t p e 3 = true then 2 else if spB t p e 2 = true then 1 else if spB t p e 1 = true then 0 else -1 := rfl
  rw [w]
  unfold wdK
  have X := @spB_x t p e
  by_cases h0 : spB t p e 0 = true
  · have n4 := X 0 4 (by decide) (by decide) (by decide) h0
    simp [h0, n4]
  · by_cases h1 : spB t p e 1 = true
    · have n4 := X 1 4 (by decide) (by decide) (by decide) h1
      have n3 := X 1 3 (by decide) (by decide) (by decide) h1
      have n2 := X 1 2 (by decide) (by decide) (by decide) h1
      simp [h0, h1, n2, n3, n4]
    · by_cases h2 : spB t p e 2 = true
      · have n4 := X 2 4 (by decide) (by decide) (by decide) h2
        have n3 := X 2 3 (by decide) (by decide) (by decide) h2
        simp [h0, h1, h2, n3, n4]
      · by_cases h3 : spB t p e 3 = true
        · have n4 := X 3 4 (by decide) (by decide) (by decide) h3
          simp [h0, h1, h2, h3, n4]
        · by_cases h4 : spB t p e 4 = true
          · simp [h0, h1, h2, h3, h4]
          · simp [h0, h1, h2, h3, h4]

