/-! reading THE TAPE -/
theorem wb_1 {v lo hi : Int32} (h : wb v lo hi = 1) : ¬ v < lo ∧ ¬ hi < v := by
  unfold wb at h
  by_cases a : v < lo
  · rw [if_pos a] at h; cases h
  · rw [if_neg a] at h
    by_cases b : hi < v
    · rw [if_pos b] at h; cases h
    · exact ⟨a, b⟩
theorem wb_n {v lo hi : Int32} (h : ¬ wb v lo hi = 1) : wb v lo hi = 0 ∧ (v < lo ∨ (¬ v < lo ∧ hi < v)) := by
  refine ⟨(wb01 v lo hi).resolve_right h, ?_⟩
  unfold wb at h
  by_cases a : v < lo
  · exact Or.inl a
  · right
    rw [if_neg a] at h
    by_cases b : hi < v
    · exact ⟨a, b⟩
    · rw [if_neg b] at h; exact absurd rfl h
/-- where a word ends -/
def wE (t : Nat → Int32) : Nat → Nat → Nat
  | 0, p => p
  | m + 1, p => if wb (t p) 97 122 = 1 then wE t m (p + 1) else p
theorem wE_b (t : Nat → Int32) : ∀ m p, p ≤ wE t m p ∧ wE t m p ≤ p + m
  | 0, p => by show p ≤ p ∧ p ≤ p + 0; omega
  | m + 1, p => by
    show p ≤ (if wb (t p) 97 122 = 1 then wE t m (p + 1) else p) ∧ (if wb (t p) 97 122 = 1 then wE t m (p + 1) else p) ≤ p + (m + 1)
    have := wE_b t m (p + 1)
    split <;> omega
/-- figures from p on -/
def dE (t : Nat → Int32) : Nat → Nat → Int32 → Nat × Int32
  | 0, p, v => (p, v)
  | m + 1, p, v => if wb (t p) 48 57 = 1 then dE t m (p + 1) (v * 10 + t p - 48) else (p, v)
theorem dE_b (t : Nat → Int32) : ∀ m p v, p ≤ (dE t m p v).1 ∧ (dE t m p v).1 ≤ p + m
  | 0, p, v => by show p ≤ p ∧ p ≤ p + 0; omega
  | m + 1, p, v => by
    have := dE_b t m (p + 1) (v * 10 + t p - 48)
    by_cases h : wb (t p) 48 57 = 1
    · have e : dE t (m + 1) p v = dE t m (p + 1) (v * 10 + t p - 48) := by show (if _ then _ else _) = _; rw [if_pos h]
      rw [e]; omega
    · have e : dE t (m + 1) p v = (p, v) := by show (if _ then _ else _) = _; rw [if_neg h]
      rw [e]; show p ≤ p ∧ p ≤ p + (m + 1); omega
/-- whether what stands there is this word -/
def spB (t : Nat → Int32) (p e w : Nat) : Bool := decide (e - p = (ksB w).length ∧ ∀ i, i < (ksB w).length → t (p + i) = (ksB w).getD i 0)
def wdK (t : Nat → Int32) (p e : Nat) : Nat := if spB t p e 0 = true then 3 else if spB t p e 1 = true then 0 else if spB t p e 2 = true then 1 else if spB t p e 3 = true then 2 else if spB t p e 4 = true then 4 else 5
def nuE (n b : Nat) : Nat := if b + 4 < n then b + 4 else n
/-- the number behind a word -/
def tsN (t : Nat → Int32) (n b k : Nat) : Int × Nat × Int32 × Nat := if (dE t (nuE n b - b) b 0).1 = b then ((b : Int), 5, 0, 0) else if wb (dE t (nuE n b - b) b 0).2 0 (Int32.ofNat (mOf k)) = 0 then ((b : Int), 5, 0, 0) else (-1, k, (dE t (nuE n b - b) b 0).2, (dE t (nuE n b - b) b 0).1)
def tsG (t : Nat → Int32) (n p e k : Nat) : Int × Nat × Int32 × Nat := if k = 5 then ((p : Int), 5, 0, 0) else if k = 3 then (-1, 3, 0, e) else if e = n then ((e : Int), 5, 0, 0) else if t e = 32 then tsN t n (e + 1) k else ((e : Int), 5, 0, 0)
/-- a STEP from p on: the fault or -1, which, its number, where it ends -/
def tsF (t : Nat → Int32) (n p : Nat) : Int × Nat × Int32 × Nat := tsG t n p (wE t (n - p) p) (wdK t p (wE t (n - p) p))
theorem wdK_r (t : Nat → Int32) (p e : Nat) : wdK t p e = 5 ∨ (wdK t p e < 5 ∧ p + 3 ≤ e) := by
  have L : ∀ w, w < 5 → 3 ≤ (ksB w).length := by decide
  have S : ∀ w, w < 5 → spB t p e w = true → p + 3 ≤ e := fun w hw h => by
    have := L w hw
    have := (decide_eq_true_iff.mp h).1
    omega
  unfold wdK
  by_cases h0 : spB t p e 0 = true
  · rw [if_pos h0]; exact Or.inr ⟨by decide, S 0 (by decide) h0⟩
  · rw [if_neg h0]
    by_cases h1 : spB t p e 1 = true
    · rw [if_pos h1]; exact Or.inr ⟨by decide, S 1 (by decide) h1⟩
    · rw [if_neg h1]
      by_cases h2 : spB t p e 2 = true
      · rw [if_pos h2]; exact Or.inr ⟨by decide, S 2 (by decide) h2⟩
      · rw [if_neg h2]
        by_cases h3 : spB t p e 3 = true
        · rw [if_pos h3]; exact Or.inr ⟨by decide, S 3 (by decide) h3⟩
        · rw [if_neg h3]
          by_cases h4 : spB t p e 4 = true
          · rw [if_pos h4]; exact Or.inr ⟨by decide, S 4 (by decide) h4⟩
          · rw [if_neg h4]; exact Or.inl rfl
theorem nuE_b {n b : Nat} (h : b ≤ n) : b ≤ nuE n b ∧ nuE n b ≤ n ∧ nuE n b ≤ b + 4 := by
  unfold nuE; split <;> omega
/-- what a STEP's reading may be -/
theorem tsF_r (t : Nat → Int32) {n p : Nat} (hp : p ≤ n) : (0 ≤ (tsF t n p).1 ∧ (tsF t n p).1 ≤ n) ∨ ((tsF t n p).1 = -1 ∧ (tsF t n p).2.1 < 5 ∧ (∃ z : Nat, z ≤ mOf (tsF t n p).2.1 ∧ (tsF t n p).2.2.1 = Int32.ofNat z) ∧ p + 3 ≤ (tsF t n p).2.2.2 ∧ (tsF t n p).2.2.2 ≤ n) := by
  unfold tsF
  have eb := wE_b t (n - p) p
  have kr := wdK_r t p (wE t (n - p) p)
  generalize wE t (n - p) p = e at eb kr ⊢
  generalize wdK t p e = k at kr ⊢
  unfold tsG
  by_cases k5 : k = 5
  · rw [if_pos k5]; left; show (0 : Int) ≤ (p : Int) ∧ (p : Int) ≤ n; omega
  · rw [if_neg k5]
    by_cases k3 : k = 3
    · rw [if_pos k3]; right; exact ⟨rfl, by show 3 < 5; decide, ⟨0, by omega, rfl⟩, by show p + 3 ≤ e; omega, by show e ≤ n; omega⟩
    · rw [if_neg k3]
      by_cases en : e = n
      · rw [if_pos en]; left; show (0 : Int) ≤ (e : Int) ∧ (e : Int) ≤ n; omega
      · rw [if_neg en]
        by_cases t32 : t e = 32
        · rw [if_pos t32]
          unfold tsN
          have nb := nuE_b (n := n) (b := e + 1) (by omega)
          have db := dE_b t (nuE n (e + 1) - (e + 1)) (e + 1) 0
          generalize dE t (nuE n (e + 1) - (e + 1)) (e + 1) 0 = r at db ⊢
          by_cases q1 : r.1 = e + 1
          · rw [if_pos q1]; left; show (0 : Int) ≤ ((e + 1 : Nat) : Int) ∧ ((e + 1 : Nat) : Int) ≤ n; omega
          · rw [if_neg q1]
            have mb : ∀ k, k < 5 → mOf k < 2147483648 := by decide
            rcases wbN r.2 (mOf k) (mb k (by omega)) with q2 | ⟨q2, z, hz, ez⟩
            · rw [if_pos q2]; left; show (0 : Int) ≤ ((e + 1 : Nat) : Int) ∧ ((e + 1 : Nat) : Int) ≤ n; omega
            · rw [if_neg (by rw [q2]; decide)]; right
              exact ⟨rfl, by show k < 5; omega, ⟨z, hz, ez⟩, by show p + 3 ≤ r.1; omega, by show r.1 ≤ n; omega⟩
        · rw [if_neg t32]; left; show (0 : Int) ≤ (e : Int) ∧ (e : Int) ≤ n; omega
/-- the class's tape, and where it reads -/
def TX (n : Nat) (t : Nat → Int32) (p : Nat) (μ : Mem) : Prop := μ.1 61 1 = Int32.ofNat n ∧ μ.1 61 2 = Int32.ofNat p ∧ ∀ i, i < n → μ.1 62 i = t i
def FT (P : Nat → Prop) (μ ν : Mem) : Prop := (∀ q, q ≠ 61 → ¬ P q → ν.1 q = μ.1 q ∧ ν.2 q = μ.2 q) ∧ ν.1 61 1 = μ.1 61 1
theorem FT.rf {P : Nat → Prop} {μ : Mem} : FT P μ μ := ⟨fun _ _ _ => ⟨rfl, rfl⟩, rfl⟩
theorem FT.tr {P : Nat → Prop} {a b c : Mem} (h : FT P a b) (g : FT P b c) : FT P a c := ⟨fun q h1 h2 => ⟨(g.1 q h1 h2).1.trans (h.1 q h1 h2).1, (g.1 q h1 h2).2.trans (h.1 q h1 h2).2⟩, g.2.trans h.2⟩
theorem FT.mo {P Q : Nat → Prop} {a b : Mem} (h : FT P a b) (g : ∀ q, P q → Q q) : FT Q a b := ⟨fun q h1 h2 => h.1 q h1 (fun w => h2 (g q w)), h.2⟩
theorem FT.u {P : Nat → Prop} {μ : Mem} {v : Int32} : FT P μ (upI μ 61 2 v) := ⟨fun q h1 h2 => ⟨by funext i; rw [zu1, if_neg (fun w => h1 w.1)], rfl⟩, by rw [zu1, if_neg (by omega)]⟩
theorem TX.at {n p q : Nat} {t : Nat → Int32} {μ : Mem} (h : TX n t p μ) : TX n t q (upI μ 61 2 (Int32.ofNat q)) := by
  obtain ⟨h1, h2, h3⟩ := h
  exact ⟨by rw [zu1, if_neg (by omega)]; exact h1, by rw [zu1, if_pos (by first | exact ⟨rfl, rfl⟩ | exact ⟨trivial, rfl⟩)], fun i hi => by rw [zu1, if_neg (by omega)]; exact h3 i hi⟩
theorem wordX {n : Nat} {t : Nat → Int32} (hn : n ≤ 100) (a : Int32) : ∀ m p, p + m = n → ∀ u μ, TX n t p μ → ∃ ν, lpN (l_X9_readStep_5 SX 61 66 a) (u + m + 1) μ = b_X9_readStep_57 SX 61 66 a ν ∧ FT (fun _ => False) μ ν ∧ TX n t (wE t m p) ν := by
  intro m
  induction m with
  | zero =>
    intro p hp u μ h
    have e : p = n := by omega
    subst e
    refine ⟨μ, ?_, FT.rf, h⟩
    obtain ⟨h1, h2, h3⟩ := h
    rw [zlp]
    simp (decide := true) (implicitDefEqProofs := false) only [l_X9_readStep_5, h1, h2, leT, zO, zR, zA, zT, zu1, zu2, zu3, zu4, gI, gL, pI, pL, pZ, aI, aL, sI, sZ, sL, Option.bind_some, Option.map_some, if_true, if_false, ite_true, ite_false, true_and, and_true, false_and, and_false, or_true, true_or, or_false, false_or, and_self, not_true_eq_false, not_false_eq_true, ↓reduceIte, reduceIte, Nat.reduceAdd, Nat.reduceMul, Nat.reduceSub, Nat.reduceMod, Nat.reduceDiv, Nat.reduceEqDiff, Nat.reduceLT, Nat.reduceLeDiff, Int32.reduceAdd, Int32.reduceSub, Int32.reduceMul, Int32.reduceDiv, Int32.reduceMod, Int32.reduceOfNat, Int32.reduceOfInt, Int32.reduceLT, Int32.reduceLE, Int32.reduceToNatClampNeg, Int32.reduceToInt]
  | succ m ih =>
    intro p hp u μ h
    have lf := leF (n := n) (i := p) (by omega) (by omega)
    have i1 := zin p 100 (by omega) (by decide)
    have i2 := ztn p (by omega)
    obtain ⟨h1, h2, h3⟩ := id h
    have g := h3 p (by omega)
    rw [show u + (m + 1) + 1 = (u + m + 1) + 1 from rfl, zlp]
    by_cases w : wb (t p) 97 122 = 1
    · obtain ⟨w1, w2⟩ := wb_1 w
      obtain ⟨ν, q, f, g'⟩ := ih (p + 1) (by omega) u _ (h.at (q := p + 1))
      have e : wE t (m + 1) p = wE t m (p + 1) := by show (if _ then _ else _) = _; rw [if_pos w]
      rw [e]
      refine ⟨ν, ?_, FT.u.tr f, g'⟩
      simp (decide := true) (implicitDefEqProofs := false) only [l_X9_readStep_5, h1, h2, lf, i1, i2, g, w1, w2, ofN1 p, zO, zR, zA, zT, zu1, zu2, zu3, zu4, gI, gL, pI, pL, pZ, aI, aL, sI, sZ, sL, Option.bind_some, Option.map_some, if_true, if_false, ite_true, ite_false, true_and, and_true, false_and, and_false, or_true, true_or, or_false, false_or, and_self, not_true_eq_false, not_false_eq_true, ↓reduceIte, reduceIte, Nat.reduceAdd, Nat.reduceMul, Nat.reduceSub, Nat.reduceMod, Nat.reduceDiv, Nat.reduceEqDiff, Nat.reduceLT, Nat.reduceLeDiff, Int32.reduceAdd, Int32.reduceSub, Int32.reduceMul, Int32.reduceDiv, Int32.reduceMod, Int32.reduceOfNat, Int32.reduceOfInt, Int32.reduceLT, Int32.reduceLE, Int32.reduceToNatClampNeg, Int32.reduceToInt]
      exact q
    · have e : wE t (m + 1) p = p := by show (if _ then _ else _) = _; rw [if_neg w]
      rw [e]
      refine ⟨μ, ?_, FT.rf, h⟩
      rcases (wb_n w).2 with w1 | ⟨w1, w2⟩
      · simp (decide := true) (implicitDefEqProofs := false) only [l_X9_readStep_5, h1, h2, lf, i1, i2, g, w1, zO, zR, zA, zT, zu1, zu2, zu3, zu4, gI, gL, pI, pL, pZ, aI, aL, sI, sZ, sL, Option.bind_some, Option.map_some, if_true, if_false, ite_true, ite_false, true_and, and_true, false_and, and_false, or_true, true_or, or_false, false_or, and_self, not_true_eq_false, not_false_eq_true, ↓reduceIte, reduceIte, Nat.reduceAdd, Nat.reduceMul, Nat.reduceSub, Nat.reduceMod, Nat.reduceDiv, Nat.reduceEqDiff, Nat.reduceLT, Nat.reduceLeDiff, Int32.reduceAdd, Int32.reduceSub, Int32.reduceMul, Int32.reduceDiv, Int32.reduceMod, Int32.reduceOfNat, Int32.reduceOfInt, Int32.reduceLT, Int32.reduceLE, Int32.reduceToNatClampNeg, Int32.reduceToInt]
      · simp (decide := true) (implicitDefEqProofs := false) only [l_X9_readStep_5, h1, h2, lf, i1, i2, g, w1, w2, zO, zR, zA, zT, zu1, zu2, zu3, zu4, gI, gL, pI, pL, pZ, aI, aL, sI, sZ, sL, Option.bind_some, Option.map_some, if_true, if_false, ite_true, ite_false, true_and, and_true, false_and, and_false, or_true, true_or, or_false, false_or, and_self, not_true_eq_false, not_false_eq_true, ↓reduceIte, reduceIte, Nat.reduceAdd, Nat.reduceMul, Nat.reduceSub, Nat.reduceMod, Nat.reduceDiv, Nat.reduceEqDiff, Nat.reduceLT, Nat.reduceLeDiff, Int32.reduceAdd, Int32.reduceSub, Int32.reduceMul, Int32.reduceDiv, Int32.reduceMod, Int32.reduceOfNat, Int32.reduceOfInt, Int32.reduceLT, Int32.reduceLE, Int32.reduceToNatClampNeg, Int32.reduceToInt]
theorem sbN (a b : Nat) (h : b ≤ a) : Int32.ofNat a - Int32.ofNat b = Int32.ofNat (a - b) := (Int32.ofNat_sub a b h).symm
theorem tks : ∀ w, w < 10 → tLen w = some (Int32.ofNat (ksB w).length) ∧ (ksB w).length ≤ 5 ∧ ∀ i, i < (ksB w).length → tAt w (Int32.ofNat i) = some ((ksB w).getD i 0) := by decide +kernel
theorem spellsX {n p e : Nat} {t : Nat → Int32} (hn : n ≤ 100) (hp : p ≤ e) (he : e ≤ n) {w : Nat} (hw : w < 10) {μ : Mem} (h : TX n t e μ) : f_X9_spells SX 61 (Int32.ofNat p) w μ = some (if spB t p e w = true then 1 else 0, μ) := by
  obtain ⟨k1, k2, k3⟩ := tks w hw
  obtain ⟨h1, h2, h3⟩ := h
  have ne : (Int32.ofNat (e - p) = Int32.ofNat (ksB w).length) = (e - p = (ksB w).length) := neN (by omega) (by omega)
  have lp : e - p = (ksB w).length → ∀ m i, i + m = (ksB w).length → ∀ u, lpN (l_X9_spells_17 SX 61 (Int32.ofNat p) w) (u + m + 1) (Int32.ofNat i, μ) = some (if (∀ j, j < (ksB w).length → i ≤ j → t (p + j) = (ksB w).getD j 0) then 1 else 0, μ) := by
    intro el m
    induction m with
    | zero =>
      intro i hi u
      have e : i = (ksB w).length := by omega
      subst e
      rw [zlp, if_pos (fun j h1 h2 => by omega)]
      simp (decide := true) (implicitDefEqProofs := false) only [l_X9_spells_17, k1, leT, zO, zR, zA, zT, zu1, zu2, zu3, zu4, gI, gL, pI, pL, pZ, aI, aL, sI, sZ, sL, Option.bind_some, Option.map_some, if_true, if_false, ite_true, ite_false, true_and, and_true, false_and, and_false, or_true, true_or, or_false, false_or, and_self, not_true_eq_false, not_false_eq_true, ↓reduceIte, reduceIte, Nat.reduceAdd, Nat.reduceMul, Nat.reduceSub, Nat.reduceMod, Nat.reduceDiv, Nat.reduceEqDiff, Nat.reduceLT, Nat.reduceLeDiff, Int32.reduceAdd, Int32.reduceSub, Int32.reduceMul, Int32.reduceDiv, Int32.reduceMod, Int32.reduceOfNat, Int32.reduceOfInt, Int32.reduceLT, Int32.reduceLE, Int32.reduceToNatClampNeg, Int32.reduceToInt]
    | succ m ih =>
      intro i hi u
      have q := ih (i + 1) (by omega) u
      have lf := leF (n := (ksB w).length) (i := i) (by omega) (by omega)
      have ad : Int32.ofNat p + Int32.ofNat i = Int32.ofNat (p + i) := (Int32.ofNat_add p i).symm
      have ka := k3 i (by omega)
      have g := h3 (p + i) (by omega)
      rw [show u + (m + 1) + 1 = (u + m + 1) + 1 from rfl, zlp]
      by_cases c : t (p + i) = (ksB w).getD i 0
      · have eq : (∀ j, j < (ksB w).length → i ≤ j → t (p + j) = (ksB w).getD j 0) = (∀ j, j < (ksB w).length → i + 1 ≤ j → t (p + j) = (ksB w).getD j 0) := propext ⟨fun a j h1 h2 => a j h1 (by omega), fun a j h1 h2 => by
          by_cases x : j = i
          · rw [x]; exact c
          · exact a j h1 (by omega)⟩
        simp only [eq]
        simp (decide := true) (implicitDefEqProofs := false) only [l_X9_spells_17, k1, lf, ad, zin (p + i) 100 (by omega) (by decide), ztn (p + i) (by omega), g, ka, c, ofN1 i, zO, zR, zA, zT, zu1, zu2, zu3, zu4, gI, gL, pI, pL, pZ, aI, aL, sI, sZ, sL, Option.bind_some, Option.map_some, if_true, if_false, ite_true, ite_false, true_and, and_true, false_and, and_false, or_true, true_or, or_false, false_or, and_self, not_true_eq_false, not_false_eq_true, ↓reduceIte, reduceIte, Nat.reduceAdd, Nat.reduceMul, Nat.reduceSub, Nat.reduceMod, Nat.reduceDiv, Nat.reduceEqDiff, Nat.reduceLT, Nat.reduceLeDiff, Int32.reduceAdd, Int32.reduceSub, Int32.reduceMul, Int32.reduceDiv, Int32.reduceMod, Int32.reduceOfNat, Int32.reduceOfInt, Int32.reduceLT, Int32.reduceLE, Int32.reduceToNatClampNeg, Int32.reduceToInt]
        exact q
      · rw [if_neg (fun a => c (a i (by omega) (Nat.le_refl _)))]
        simp (decide := true) (implicitDefEqProofs := false) only [l_X9_spells_17, k1, lf, ad, zin (p + i) 100 (by omega) (by decide), ztn (p + i) (by omega), g, ka, c, zO, zR, zA, zT, zu1, zu2, zu3, zu4, gI, gL, pI, pL, pZ, aI, aL, sI, sZ, sL, Option.bind_some, Option.map_some, if_true, if_false, ite_true, ite_false, true_and, and_true, false_and, and_false, or_true, true_or, or_false, false_or, and_self, not_true_eq_false, not_false_eq_true, ↓reduceIte, reduceIte, Nat.reduceAdd, Nat.reduceMul, Nat.reduceSub, Nat.reduceMod, Nat.reduceDiv, Nat.reduceEqDiff, Nat.reduceLT, Nat.reduceLeDiff, Int32.reduceAdd, Int32.reduceSub, Int32.reduceMul, Int32.reduceDiv, Int32.reduceMod, Int32.reduceOfNat, Int32.reduceOfInt, Int32.reduceLT, Int32.reduceLE, Int32.reduceToNatClampNeg, Int32.reduceToInt]
  have sd : spB t p e w = true ↔ (e - p = (ksB w).length ∧ ∀ i, i < (ksB w).length → t (p + i) = (ksB w).getD i 0) := decide_eq_true_iff
  by_cases el : e - p = (ksB w).length
  · have q := lp el (ksB w).length 0 (by omega) (4999 - (ksB w).length)
    rw [show 4999 - (ksB w).length + (ksB w).length + 1 = fu by show _ = 5000; omega] at q
    have eq : (if spB t p e w = true then (1 : Int32) else 0) = (if (∀ j, j < (ksB w).length → 0 ≤ j → t (p + j) = (ksB w).getD j 0) then 1 else 0) := by
      by_cases x : spB t p e w = true
      · rw [if_pos x, if_pos (fun j h1 _ => (sd.mp x).2 j h1)]
      · rw [if_neg x, if_neg (fun a => x (sd.mpr ⟨el, fun i hi => a i hi (Nat.zero_le _)⟩))]
    rw [eq]
    simp (decide := true) (implicitDefEqProofs := false) only [f_X9_spells, h2, k1, sbN e p hp, ne, el, zO, zR, zA, zT, zu1, zu2, zu3, zu4, gI, gL, pI, pL, pZ, aI, aL, sI, sZ, sL, Option.bind_some, Option.map_some, if_true, if_false, ite_true, ite_false, true_and, and_true, false_and, and_false, or_true, true_or, or_false, false_or, and_self, not_true_eq_false, not_false_eq_true, ↓reduceIte, reduceIte, Nat.reduceAdd, Nat.reduceMul, Nat.reduceSub, Nat.reduceMod, Nat.reduceDiv, Nat.reduceEqDiff, Nat.reduceLT, Nat.reduceLeDiff, Int32.reduceAdd, Int32.reduceSub, Int32.reduceMul, Int32.reduceDiv, Int32.reduceMod, Int32.reduceOfNat, Int32.reduceOfInt, Int32.reduceLT, Int32.reduceLE, Int32.reduceToNatClampNeg, Int32.reduceToInt]
    exact q
  · rw [if_neg (fun x => el (sd.mp x).1)]
    simp (decide := true) (implicitDefEqProofs := false) only [f_X9_spells, h2, k1, sbN e p hp, ne, el, zO, zR, zA, zT, zu1, zu2, zu3, zu4, gI, gL, pI, pL, pZ, aI, aL, sI, sZ, sL, Option.bind_some, Option.map_some, if_true, if_false, ite_true, ite_false, true_and, and_true, false_and, and_false, or_true, true_or, or_false, false_or, and_self, not_true_eq_false, not_false_eq_true, ↓reduceIte, reduceIte, Nat.reduceAdd, Nat.reduceMul, Nat.reduceSub, Nat.reduceMod, Nat.reduceDiv, Nat.reduceEqDiff, Nat.reduceLT, Nat.reduceLeDiff, Int32.reduceAdd, Int32.reduceSub, Int32.reduceMul, Int32.reduceDiv, Int32.reduceMod, Int32.reduceOfNat, Int32.reduceOfInt, Int32.reduceLT, Int32.reduceLE, Int32.reduceToNatClampNeg, Int32.reduceToInt]

