def PM (s : Nat) (K : Nat → Nat) (V : Nat → Int32) (μ : Mem) : Prop := ∀ i, i < s → μ.1 101 i = Int32.ofNat (K i) ∧ μ.1 102 i = V i
theorem PM.w {s : Nat} {K : Nat → Nat} {V : Nat → Int32} {μ ν : Mem} {P J : Nat → Prop} (h : PM s K V μ) (f : FM P J μ ν) (h1 : ¬ P 101) (h2 : ¬ P 102) : PM s K V ν := by
  unfold PM at *
  rw [(f.1 101 (by decide) h1).1, (f.1 102 (by decide) h2).1]
  exact h
theorem TM.w {n p : Nat} {t : Nat → Int32} {μ ν : Mem} {P J : Nat → Prop} (h : TM n t p μ) (f : FM P J μ ν) (h1 : ¬ P 98) (h2 : ¬ J 23) (h3 : ¬ J 29) : TM n t p ν := by
  unfold TM at *
  rw [(f.1 98 (by decide) h1).1, (f.2 23 h2).1, (f.2 29 h3).1]
  exact h
theorem whatOf_at (μ : Mem) : ∀ k, k < 5 → f_X12_whatOf SX (Int32.ofNat k) μ = some (Int32.ofNat (wOf k), μ) := by
  intro k hk
  have e : k = 0 ∨ k = 1 ∨ k = 2 ∨ k = 3 ∨ k = 4 := by omega
  rcases e with rfl | rfl | rfl | rfl | rfl <;> rfl
theorem numLM {n b : Nat} {t : Nat → Int32} (hn : n ≤ 100) (hb : b ≤ n) (s k : Int32) : ∀ m p, p + m = nuE n b → b ≤ p → ∀ v u μ, TM n t p μ → ∃ ν, lpN (l_X12_readStep_129 SX 81 s k (Int32.ofNat b)) (u + m + 1) (v, μ) = b_X12_readStep_182 SX 81 s k (Int32.ofNat b) (dE t m p v).2 ν ∧ FM (fun _ => False) q2J μ ν ∧ TM n t (dE t m p v).1 ν := by
  have nb := nuE_b hb
  have ad : Int32.ofNat b + 4 = Int32.ofNat (b + 4) := (Int32.ofNat_add b 4).symm
  intro m
  induction m with
  | zero =>
    intro p hp hbp v u μ h
    refine ⟨μ, ?_, FM.rf, h⟩
    have hh := here_at hn (p := p) (by omega) h
    have h2 := h.2.1
    have le : (Int32.ofNat (b + 4) ≤ Int32.ofNat p) = (b + 4 ≤ p) := leN (by omega) (by omega)
    rw [zlp]
    by_cases c : b + 4 ≤ p
    · simp (decide := true) (implicitDefEqProofs := false) only [l_X12_readStep_129, h2, ad, le, c, zO, zR, zA, zT, zu1, zu2, zu3, zu4, gI, gL, pI, pL, pZ, aI, aL, sI, sZ, sL, Option.bind_some, Option.map_some, if_true, if_false, ite_true, ite_false, true_and, and_true, false_and, and_false, or_true, true_or, or_false, false_or, and_self, not_true_eq_false, not_false_eq_true, ↓reduceIte, reduceIte, Nat.reduceAdd, Nat.reduceMul, Nat.reduceSub, Nat.reduceMod, Nat.reduceDiv, Nat.reduceEqDiff, Nat.reduceLT, Nat.reduceLeDiff, Int32.reduceAdd, Int32.reduceSub, Int32.reduceMul, Int32.reduceDiv, Int32.reduceMod, Int32.reduceOfNat, Int32.reduceOfInt, Int32.reduceLT, Int32.reduceLE, Int32.reduceToNatClampNeg, Int32.reduceToInt]
      rfl
    · have e : p = n := by
        have : nuE n b = if b + 4 < n then b + 4 else n := rfl
        split at this <;> omega
      rw [if_pos e] at hh
      have w : wb (-1) 48 57 = 0 := by decide
      simp (decide := true) (implicitDefEqProofs := false) only [l_X12_readStep_129, h2, ad, le, c, hh, in_at, w, zO, zR, zA, zT, zu1, zu2, zu3, zu4, gI, gL, pI, pL, pZ, aI, aL, sI, sZ, sL, Option.bind_some, Option.map_some, if_true, if_false, ite_true, ite_false, true_and, and_true, false_and, and_false, or_true, true_or, or_false, false_or, and_self, not_true_eq_false, not_false_eq_true, ↓reduceIte, reduceIte, Nat.reduceAdd, Nat.reduceMul, Nat.reduceSub, Nat.reduceMod, Nat.reduceDiv, Nat.reduceEqDiff, Nat.reduceLT, Nat.reduceLeDiff, Int32.reduceAdd, Int32.reduceSub, Int32.reduceMul, Int32.reduceDiv, Int32.reduceMod, Int32.reduceOfNat, Int32.reduceOfInt, Int32.reduceLT, Int32.reduceLE, Int32.reduceToNatClampNeg, Int32.reduceToInt]
      rfl
  | succ m ih =>
    intro p hp hbp v u μ h
    have hh := here_at hn (p := p) (by omega) h
    rw [if_neg (by omega)] at hh
    have h2 := h.2.1
    have le : (Int32.ofNat (b + 4) ≤ Int32.ofNat p) = False := (leN (by omega) (by omega)).trans (eq_false (by omega))
    rw [show u + (m + 1) + 1 = (u + m + 1) + 1 from rfl, zlp]
    by_cases w : wb (t p) 48 57 = 1
    · obtain ⟨ν, q, f, g'⟩ := ih (p + 1) (by omega) (by omega) (v * 10 + t p - 48) u _ (h.at (q := p + 1))
      have e : dE t (m + 1) p v = dE t m (p + 1) (v * 10 + t p - 48) := by show (if _ then _ else _) = _; rw [if_pos w]
      rw [e]
      refine ⟨ν, ?_, F29.tr f, g'⟩
      rw [Int32.mul_comm v 10] at q ⊢
      simp (decide := true) (implicitDefEqProofs := false) only [l_X12_readStep_129, h2, ad, le, hh, in_at, w, ofN1 p, zO, zR, zA, zT, zu1, zu2, zu3, zu4, gI, gL, pI, pL, pZ, aI, aL, sI, sZ, sL, Option.bind_some, Option.map_some, if_true, if_false, ite_true, ite_false, true_and, and_true, false_and, and_false, or_true, true_or, or_false, false_or, and_self, not_true_eq_false, not_false_eq_true, ↓reduceIte, reduceIte, Nat.reduceAdd, Nat.reduceMul, Nat.reduceSub, Nat.reduceMod, Nat.reduceDiv, Nat.reduceEqDiff, Nat.reduceLT, Nat.reduceLeDiff, Int32.reduceAdd, Int32.reduceSub, Int32.reduceMul, Int32.reduceDiv, Int32.reduceMod, Int32.reduceOfNat, Int32.reduceOfInt, Int32.reduceLT, Int32.reduceLE, Int32.reduceToNatClampNeg, Int32.reduceToInt]
      exact q
    · have e : dE t (m + 1) p v = (p, v) := by show (if _ then _ else _) = _; rw [if_neg w]
      rw [e]
      refine ⟨μ, ?_, FM.rf, h⟩
      have w0 := (wb_n w).1
      simp (decide := true) (implicitDefEqProofs := false) only [l_X12_readStep_129, h2, ad, le, hh, in_at, w0, zO, zR, zA, zT, zu1, zu2, zu3, zu4, gI, gL, pI, pL, pZ, aI, aL, sI, sZ, sL, Option.bind_some, Option.map_some, if_true, if_false, ite_true, ite_false, true_and, and_true, false_and, and_false, or_true, true_or, or_false, false_or, and_self, not_true_eq_false, not_false_eq_true, ↓reduceIte, reduceIte, Nat.reduceAdd, Nat.reduceMul, Nat.reduceSub, Nat.reduceMod, Nat.reduceDiv, Nat.reduceEqDiff, Nat.reduceLT, Nat.reduceLeDiff, Int32.reduceAdd, Int32.reduceSub, Int32.reduceMul, Int32.reduceDiv, Int32.reduceMod, Int32.reduceOfNat, Int32.reduceOfInt, Int32.reduceLT, Int32.reduceLE, Int32.reduceToNatClampNeg, Int32.reduceToInt]
theorem stepM {n p s : Nat} {t : Nat → Int32} {K : Nat → Nat} {V : Nat → Int32} (hn : n ≤ 100) (hp : p ≤ n) (hs : 4 * s ≤ p) {μ : Mem} (h : TM n t p μ) (hx : PM s K V μ) : ∃ ν, f_X12_readStep SX 81 (Int32.ofNat s) μ = some (Int32.ofInt (tsF t n p).1, ν) ∧ FM q2P q2J μ ν ∧ ((tsF t n p).1 = -1 → TM n t (tsF t n p).2.2.2 ν ∧ PM (s + 1) (ups K s (tsF t n p).2.1) (ups V s (tsF t n p).2.2.1) ν) := by
  have eb := wE_b t (n - p) p
  obtain ⟨ν, q, f, g⟩ := wordM hn (Int32.ofNat s) (Int32.ofNat p) (n - p) p (by omega) (4999 - (n - p)) μ h
  rw [show 4999 - (n - p) + (n - p) + 1 = fu by show _ = 5000; omega] at q
  have F := f.mo (P' := q2P) (J' := q2J) (fun q w => w.elim) (fun j w => w)
  have hx' := hx.w f (fun w => w) (fun w => w)
  have st : f_X12_readStep SX 81 (Int32.ofNat s) μ = b_X12_readStep_32 SX 81 (Int32.ofNat s) (Int32.ofNat p) ν := by
    rw [← q]
    have h2 := h.2.1
    simp (decide := true) (implicitDefEqProofs := false) only [f_X12_readStep, h2, zO, zR, zA, zT, zu1, zu2, zu3, zu4, gI, gL, pI, pL, pZ, aI, aL, sI, sZ, sL, Option.bind_some, Option.map_some, if_true, if_false, ite_true, ite_false, true_and, and_true, false_and, and_false, or_true, true_or, or_false, false_or, and_self, not_true_eq_false, not_false_eq_true, ↓reduceIte, reduceIte, Nat.reduceAdd, Nat.reduceMul, Nat.reduceSub, Nat.reduceMod, Nat.reduceDiv, Nat.reduceEqDiff, Nat.reduceLT, Nat.reduceLeDiff, Int32.reduceAdd, Int32.reduceSub, Int32.reduceMul, Int32.reduceDiv, Int32.reduceMod, Int32.reduceOfNat, Int32.reduceOfInt, Int32.reduceLT, Int32.reduceLE, Int32.reduceToNatClampNeg, Int32.reduceToInt]
  have kr := wdK_r t p (wE t (n - p) p)
  have kw := wk_wd t p (wE t (n - p) p)
  unfold tsF
  generalize wE t (n - p) p = e at eb g kr kw ⊢
  rw [st, wordLM hn (by omega) (by omega) (Int32.ofNat s) g]
  rcases kw with ⟨d1, d2⟩ | ⟨d1, d2⟩
  · rw [d1, d2]
    refine ⟨ν, ?_, F, fun x => by exfalso; have x' : ((p : Int)) = -1 := x; omega⟩
    have c0 : (0 ≤ Int32.ofInt (-1)) = False := eq_false (by decide)
    simp (decide := true) (implicitDefEqProofs := false) only [b_X12_readStep_69, c0, zO, zR, zA, zT, zu1, zu2, zu3, zu4, gI, gL, pI, pL, pZ, aI, aL, sI, sZ, sL, Option.bind_some, Option.map_some, if_true, if_false, ite_true, ite_false, true_and, and_true, false_and, and_false, or_true, true_or, or_false, false_or, and_self, not_true_eq_false, not_false_eq_true, ↓reduceIte, reduceIte, Nat.reduceAdd, Nat.reduceMul, Nat.reduceSub, Nat.reduceMod, Nat.reduceDiv, Nat.reduceEqDiff, Nat.reduceLT, Nat.reduceLeDiff, Int32.reduceAdd, Int32.reduceSub, Int32.reduceMul, Int32.reduceDiv, Int32.reduceMod, Int32.reduceOfNat, Int32.reduceOfInt, Int32.reduceLT, Int32.reduceLE, Int32.reduceToNatClampNeg, Int32.reduceToInt]
    rfl
  · obtain ⟨k, Ek⟩ : ∃ k, k = wdK t p e := ⟨_, rfl⟩
    rw [← Ek] at d1 d2 kr ⊢
    rw [d2, show Int32.ofInt ((k : Nat) : Int) = Int32.ofNat k from rfl]
    have kr' : p + 3 ≤ e := by omega
    have s40 := zin s 40 (by omega) (by decide)
    have s2 := ztn s (by omega)
    have c0 : (0 ≤ Int32.ofNat k) = True := eq_true (by
      have := (yle32 0 (k : Int) (by omega) (by omega) (by omega) (by omega)).mpr (by omega)
      exact this)
    have c3 : (Int32.ofNat k = 3) = (k = 3) := neN (b := 3) (by omega) (by decide)
    obtain ⟨ν7, E7⟩ : ∃ m : Mem, m = upI (upI ν 101 s (Int32.ofNat k)) 102 s 0 := ⟨_, rfl⟩
    have f7 : FM q2P (fun _ => False) ν ν7 := by rw [E7]; exact FM.tr (FM.uI (Or.inl ⟨by decide, Or.inl rfl⟩)) (FM.uI (Or.inl ⟨by decide, Or.inr rfl⟩))
    have g7 : TM n t e ν7 := g.w f7 (by unfold q2P; omega) (fun w => w) (fun w => w)
    have F7 : FM q2P q2J μ ν7 := F.tr (f7.mo (fun q w => w) (fun j w => w.elim))
    have P7 : ∀ (ν' : Mem) (v : Int32), ν'.1 101 = ν7.1 101 → (∀ i, ν'.1 102 i = if i = s then v else ν7.1 102 i) → PM (s + 1) (ups K s k) (ups V s v) ν' := by
      intro ν' v e1 e2 i hi
      rw [e1, e2, E7]
      unfold ups
      by_cases x : i = s
      · rw [if_pos x, if_pos x, if_pos x, x]
        refine ⟨?_, rfl⟩
        simp (decide := true) (implicitDefEqProofs := false) only [zO, zR, zA, zT, zu1, zu2, zu3, zu4, gI, gL, pI, pL, pZ, aI, aL, sI, sZ, sL, Option.bind_some, Option.map_some, if_true, if_false, ite_true, ite_false, true_and, and_true, false_and, and_false, or_true, true_or, or_false, false_or, and_self, not_true_eq_false, not_false_eq_true, ↓reduceIte, reduceIte, Nat.reduceAdd, Nat.reduceMul, Nat.reduceSub, Nat.reduceMod, Nat.reduceDiv, Nat.reduceEqDiff, Nat.reduceLT, Nat.reduceLeDiff, Int32.reduceAdd, Int32.reduceSub, Int32.reduceMul, Int32.reduceDiv, Int32.reduceMod, Int32.reduceOfNat, Int32.reduceOfInt, Int32.reduceLT, Int32.reduceLE, Int32.reduceToNatClampNeg, Int32.reduceToInt]
      · rw [if_neg x, if_neg x, if_neg x]
        obtain ⟨y1, y2⟩ := hx' i (by omega)
        refine ⟨?_, ?_⟩
        · simp (decide := true) (implicitDefEqProofs := false) only [x, y1, zO, zR, zA, zT, zu1, zu2, zu3, zu4, gI, gL, pI, pL, pZ, aI, aL, sI, sZ, sL, Option.bind_some, Option.map_some, if_true, if_false, ite_true, ite_false, true_and, and_true, false_and, and_false, or_true, true_or, or_false, false_or, and_self, not_true_eq_false, not_false_eq_true, ↓reduceIte, reduceIte, Nat.reduceAdd, Nat.reduceMul, Nat.reduceSub, Nat.reduceMod, Nat.reduceDiv, Nat.reduceEqDiff, Nat.reduceLT, Nat.reduceLeDiff, Int32.reduceAdd, Int32.reduceSub, Int32.reduceMul, Int32.reduceDiv, Int32.reduceMod, Int32.reduceOfNat, Int32.reduceOfInt, Int32.reduceLT, Int32.reduceLE, Int32.reduceToNatClampNeg, Int32.reduceToInt]
        · simp (decide := true) (implicitDefEqProofs := false) only [x, y2, zO, zR, zA, zT, zu1, zu2, zu3, zu4, gI, gL, pI, pL, pZ, aI, aL, sI, sZ, sL, Option.bind_some, Option.map_some, if_true, if_false, ite_true, ite_false, true_and, and_true, false_and, and_false, or_true, true_or, or_false, false_or, and_self, not_true_eq_false, not_false_eq_true, ↓reduceIte, reduceIte, Nat.reduceAdd, Nat.reduceMul, Nat.reduceSub, Nat.reduceMod, Nat.reduceDiv, Nat.reduceEqDiff, Nat.reduceLT, Nat.reduceLeDiff, Int32.reduceAdd, Int32.reduceSub, Int32.reduceMul, Int32.reduceDiv, Int32.reduceMod, Int32.reduceOfNat, Int32.reduceOfInt, Int32.reduceLT, Int32.reduceLE, Int32.reduceToNatClampNeg, Int32.reduceToInt]
    unfold tsG
    rw [if_neg (by omega)]
    by_cases k3 : k = 3
    · rw [if_pos k3]
      refine ⟨ν7, ?_, F7, fun _ => ⟨g7, ?_⟩⟩
      · have c3t : (Int32.ofNat k = 3) = True := by rw [c3]; exact eq_true k3
        simp (decide := true) (implicitDefEqProofs := false) only [b_X12_readStep_69, c0, s40, s2, ← E7, c3t, zO, zR, zA, zT, zu1, zu2, zu3, zu4, gI, gL, pI, pL, pZ, aI, aL, sI, sZ, sL, Option.bind_some, Option.map_some, if_true, if_false, ite_true, ite_false, true_and, and_true, false_and, and_false, or_true, true_or, or_false, false_or, and_self, not_true_eq_false, not_false_eq_true, ↓reduceIte, reduceIte, Nat.reduceAdd, Nat.reduceMul, Nat.reduceSub, Nat.reduceMod, Nat.reduceDiv, Nat.reduceEqDiff, Nat.reduceLT, Nat.reduceLeDiff, Int32.reduceAdd, Int32.reduceSub, Int32.reduceMul, Int32.reduceDiv, Int32.reduceMod, Int32.reduceOfNat, Int32.reduceOfInt, Int32.reduceLT, Int32.reduceLE, Int32.reduceToNatClampNeg, Int32.reduceToInt]
      · have := P7 ν7 0 rfl (fun i => by
          by_cases x : i = s
          · rw [if_pos x, E7, zu1, if_pos (by first | exact ⟨rfl, x⟩ | exact ⟨trivial, x⟩)]
          · rw [if_neg x])
        rw [k3] at this
        exact this
    · rw [if_neg k3]
      have hh := here_at hn (p := e) (by omega) g7
      have h2 := g7.2.1
      by_cases en : e = n
      · rw [if_pos en] at hh ⊢
        refine ⟨ν7, ?_, F7, fun x => by exfalso; have x' : ((e : Int)) = -1 := x; omega⟩
        simp (decide := true) (implicitDefEqProofs := false) only [b_X12_readStep_69, c0, s40, s2, ← E7, c3, k3, hh, h2, zO, zR, zA, zT, zu1, zu2, zu3, zu4, gI, gL, pI, pL, pZ, aI, aL, sI, sZ, sL, Option.bind_some, Option.map_some, if_true, if_false, ite_true, ite_false, true_and, and_true, false_and, and_false, or_true, true_or, or_false, false_or, and_self, not_true_eq_false, not_false_eq_true, ↓reduceIte, reduceIte, Nat.reduceAdd, Nat.reduceMul, Nat.reduceSub, Nat.reduceMod, Nat.reduceDiv, Nat.reduceEqDiff, Nat.reduceLT, Nat.reduceLeDiff, Int32.reduceAdd, Int32.reduceSub, Int32.reduceMul, Int32.reduceDiv, Int32.reduceMod, Int32.reduceOfNat, Int32.reduceOfInt, Int32.reduceLT, Int32.reduceLE, Int32.reduceToNatClampNeg, Int32.reduceToInt]
        rfl
      · rw [if_neg en] at hh ⊢
        by_cases t32 : t e = 32
        · rw [if_pos t32]
          have nb := nuE_b (n := n) (b := e + 1) (by omega)
          have db := dE_b t (nuE n (e + 1) - (e + 1)) (e + 1) 0
          obtain ⟨ν8, p8, f8, g8⟩ := numLM (b := e + 1) hn (by omega) (Int32.ofNat s) (Int32.ofNat k) (nuE n (e + 1) - (e + 1)) (e + 1) (by omega) (by omega) 0 (4999 - (nuE n (e + 1) - (e + 1))) _ (g7.at (q := e + 1))
          rw [show 4999 - (nuE n (e + 1) - (e + 1)) + (nuE n (e + 1) - (e + 1)) + 1 = fu by show _ = 5000; omega] at p8
          have F8 : FM q2P q2J μ ν8 := (F7.tr F29).tr (f8.mo (fun q w => w.elim) (fun j w => w))
          have st2 : b_X12_readStep_69 SX 81 (Int32.ofNat s) (Int32.ofNat p) (Int32.ofNat k) ν = b_X12_readStep_182 SX 81 (Int32.ofNat s) (Int32.ofNat k) (Int32.ofNat (e + 1)) (dE t (nuE n (e + 1) - (e + 1)) (e + 1) 0).2 ν8 := by
            rw [← p8]
            simp (decide := true) (implicitDefEqProofs := false) only [b_X12_readStep_69, c0, s40, s2, ← E7, c3, k3, hh, t32, h2, ofN1 e, zO, zR, zA, zT, zu1, zu2, zu3, zu4, gI, gL, pI, pL, pZ, aI, aL, sI, sZ, sL, Option.bind_some, Option.map_some, if_true, if_false, ite_true, ite_false, true_and, and_true, false_and, and_false, or_true, true_or, or_false, false_or, and_self, not_true_eq_false, not_false_eq_true, ↓reduceIte, reduceIte, Nat.reduceAdd, Nat.reduceMul, Nat.reduceSub, Nat.reduceMod, Nat.reduceDiv, Nat.reduceEqDiff, Nat.reduceLT, Nat.reduceLeDiff, Int32.reduceAdd, Int32.reduceSub, Int32.reduceMul, Int32.reduceDiv, Int32.reduceMod, Int32.reduceOfNat, Int32.reduceOfInt, Int32.reduceLT, Int32.reduceLE, Int32.reduceToNatClampNeg, Int32.reduceToInt]
          rw [st2]
          unfold tsN
          generalize dE t (nuE n (e + 1) - (e + 1)) (e + 1) 0 = r at db g8 ⊢
          have ne : (Int32.ofNat r.1 = Int32.ofNat (e + 1)) = (r.1 = e + 1) := neN (by omega) (by omega)
          have r2 := g8.2.1
          by_cases q1 : r.1 = e + 1
          · rw [if_pos q1]
            refine ⟨ν8, ?_, F8, fun x => by exfalso; have x' : (((e + 1 : Nat)) : Int) = -1 := x; omega⟩
            rw [q1] at r2
            simp (decide := true) (implicitDefEqProofs := false) only [b_X12_readStep_182, r2, zO, zR, zA, zT, zu1, zu2, zu3, zu4, gI, gL, pI, pL, pZ, aI, aL, sI, sZ, sL, Option.bind_some, Option.map_some, if_true, if_false, ite_true, ite_false, true_and, and_true, false_and, and_false, or_true, true_or, or_false, false_or, and_self, not_true_eq_false, not_false_eq_true, ↓reduceIte, reduceIte, Nat.reduceAdd, Nat.reduceMul, Nat.reduceSub, Nat.reduceMod, Nat.reduceDiv, Nat.reduceEqDiff, Nat.reduceLT, Nat.reduceLeDiff, Int32.reduceAdd, Int32.reduceSub, Int32.reduceMul, Int32.reduceDiv, Int32.reduceMod, Int32.reduceOfNat, Int32.reduceOfInt, Int32.reduceLT, Int32.reduceLE, Int32.reduceToNatClampNeg, Int32.reduceToInt]
            rfl
          · rw [if_neg q1]
            obtain ⟨ν9, E9⟩ : ∃ m : Mem, m = upI ν8 102 s r.2 := ⟨_, rfl⟩
            have f9 : FM q2P (fun _ => False) ν8 ν9 := by rw [E9]; exact FM.uI (Or.inl ⟨by decide, Or.inr rfl⟩)
            have F9 : FM q2P q2J μ ν9 := F8.tr (f9.mo (fun q w => w) (fun j w => w.elim))
            have ft := (fitW r.2 ν9 k d1).2
            have wo := whatOf_at ν9 k d1
            rcases wb01 r.2 0 (Int32.ofNat (mOf k)) with q2 | q2
            · rw [if_pos q2]
              refine ⟨ν9, ?_, F9, fun x => by exfalso; have x' : (((e + 1 : Nat)) : Int) = -1 := x; omega⟩
              simp (decide := true) (implicitDefEqProofs := false) only [b_X12_readStep_182, r2, ne, q1, s40, s2, ← E9, wo, ft, q2, zO, zR, zA, zT, zu1, zu2, zu3, zu4, gI, gL, pI, pL, pZ, aI, aL, sI, sZ, sL, Option.bind_some, Option.map_some, if_true, if_false, ite_true, ite_false, true_and, and_true, false_and, and_false, or_true, true_or, or_false, false_or, and_self, not_true_eq_false, not_false_eq_true, ↓reduceIte, reduceIte, Nat.reduceAdd, Nat.reduceMul, Nat.reduceSub, Nat.reduceMod, Nat.reduceDiv, Nat.reduceEqDiff, Nat.reduceLT, Nat.reduceLeDiff, Int32.reduceAdd, Int32.reduceSub, Int32.reduceMul, Int32.reduceDiv, Int32.reduceMod, Int32.reduceOfNat, Int32.reduceOfInt, Int32.reduceLT, Int32.reduceLE, Int32.reduceToNatClampNeg, Int32.reduceToInt]
              rfl
            · rw [if_neg (by rw [q2]; decide)]
              refine ⟨ν9, ?_, F9, fun _ => ⟨g8.w f9 (by unfold q2P; omega) (fun w => w) (fun w => w), P7 ν9 r.2 ?_ (fun i => ?_)⟩⟩
              · simp (decide := true) (implicitDefEqProofs := false) only [b_X12_readStep_182, r2, ne, q1, s40, s2, ← E9, wo, ft, q2, zO, zR, zA, zT, zu1, zu2, zu3, zu4, gI, gL, pI, pL, pZ, aI, aL, sI, sZ, sL, Option.bind_some, Option.map_some, if_true, if_false, ite_true, ite_false, true_and, and_true, false_and, and_false, or_true, true_or, or_false, false_or, and_self, not_true_eq_false, not_false_eq_true, ↓reduceIte, reduceIte, Nat.reduceAdd, Nat.reduceMul, Nat.reduceSub, Nat.reduceMod, Nat.reduceDiv, Nat.reduceEqDiff, Nat.reduceLT, Nat.reduceLeDiff, Int32.reduceAdd, Int32.reduceSub, Int32.reduceMul, Int32.reduceDiv, Int32.reduceMod, Int32.reduceOfNat, Int32.reduceOfInt, Int32.reduceLT, Int32.reduceLE, Int32.reduceToNatClampNeg, Int32.reduceToInt]
              · rw [E9]; funext i; rw [zu1, if_neg (by omega), (f8.1 101 (by decide) (fun w => w)).1, zu1, if_neg (by omega)]
              · rw [E9, zu1]
                by_cases x : i = s
                · rw [if_pos (by first | exact ⟨rfl, x⟩ | exact ⟨trivial, x⟩), if_pos x]
                · rw [if_neg (fun w => x w.2), if_neg x, (f8.1 102 (by decide) (fun w => w)).1, zu1, if_neg (by omega)]
        · rw [if_neg t32]
          refine ⟨ν7, ?_, F7, fun x => by exfalso; have x' : ((e : Int)) = -1 := x; omega⟩
          simp (decide := true) (implicitDefEqProofs := false) only [b_X12_readStep_69, c0, s40, s2, ← E7, c3, k3, hh, t32, h2, zO, zR, zA, zT, zu1, zu2, zu3, zu4, gI, gL, pI, pL, pZ, aI, aL, sI, sZ, sL, Option.bind_some, Option.map_some, if_true, if_false, ite_true, ite_false, true_and, and_true, false_and, and_false, or_true, true_or, or_false, false_or, and_self, not_true_eq_false, not_false_eq_true, ↓reduceIte, reduceIte, Nat.reduceAdd, Nat.reduceMul, Nat.reduceSub, Nat.reduceMod, Nat.reduceDiv, Nat.reduceEqDiff, Nat.reduceLT, Nat.reduceLeDiff, Int32.reduceAdd, Int32.reduceSub, Int32.reduceMul, Int32.reduceDiv, Int32.reduceMod, Int32.reduceOfNat, Int32.reduceOfInt, Int32.reduceLT, Int32.reduceLE, Int32.reduceToNatClampNeg, Int32.reduceToInt]
          rfl
theorem ym100 : (-100 : Int32) = Int32.ofInt (-100) := by decide
theorem rdM {n : Nat} {t : Nat → Int32} (hn : n ≤ 100) : ∀ m s, s + m = 26 → ∀ p K V u μ, p ≤ n → 4 * s ≤ p → TM n t p μ → PM s K V μ → ∃ ν, FM q2P q2J μ ν ∧ (((prF t n m s p K V).1 = -1 ∧ lpN (l_X12_reads_9 SX 81) (u + m + 1) (Int32.ofNat s, 1, μ) = b_X12_reads_67 SX 81 (Int32.ofNat (prF t n m s p K V).2.1) ν ∧ TM n t n ν ∧ PM (prF t n m s p K V).2.1 (prF t n m s p K V).2.2.1 (prF t n m s p K V).2.2.2 ν) ∨ (0 ≤ (prF t n m s p K V).1 ∧ lpN (l_X12_reads_9 SX 81) (u + m + 1) (Int32.ofNat s, 1, μ) = some (Int32.ofInt (-100 - (prF t n m s p K V).1), ν))) := by
  intro m
  induction m with
  | zero => intro s hs p K V u μ hp h4; omega
  | succ m ih =>
    intro s hs p K V u μ hp h4 h hx
    obtain ⟨ν, q, f, g⟩ := stepM hn hp h4 h hx
    have sr := tsF_r t hp
    rw [show u + (m + 1) + 1 = (u + m + 1) + 1 from rfl, zlp]
    unfold prF
    generalize tsF t n p = r at sr q g ⊢
    have rm : (Int32.ofInt r.1 < 0) = (r.1 < 0) := propext (ylt32 r.1 0 (by omega) (by omega) (by omega) (by omega))
    have ms : ∀ z : Int, -100 - Int32.ofInt z = Int32.ofInt (-100 - z) := fun z => by rw [ym100, y32s]
    rcases sr with ⟨r1, r2⟩ | ⟨r1, r2, r3, r4, r5⟩
    · have n1 : ¬ r.1 = -1 := by omega
      have n0 : ¬ r.1 < 0 := by omega
      rw [if_neg n1]
      refine ⟨ν, f, Or.inr ⟨r1, ?_⟩⟩
      simp (decide := true) (implicitDefEqProofs := false) only [l_X12_reads_9, q, rm, n0, ms, zO, zR, zA, zT, zu1, zu2, zu3, zu4, gI, gL, pI, pL, pZ, aI, aL, sI, sZ, sL, Option.bind_some, Option.map_some, if_true, if_false, ite_true, ite_false, true_and, and_true, false_and, and_false, or_true, true_or, or_false, false_or, and_self, not_true_eq_false, not_false_eq_true, ↓reduceIte, reduceIte, Nat.reduceAdd, Nat.reduceMul, Nat.reduceSub, Nat.reduceMod, Nat.reduceDiv, Nat.reduceEqDiff, Nat.reduceLT, Nat.reduceLeDiff, Int32.reduceAdd, Int32.reduceSub, Int32.reduceMul, Int32.reduceDiv, Int32.reduceMod, Int32.reduceOfNat, Int32.reduceOfInt, Int32.reduceLT, Int32.reduceLE, Int32.reduceToNatClampNeg, Int32.reduceToInt]
    · rw [if_pos r1]
      obtain ⟨gt, gp⟩ := g r1
      have n0 : (Int32.ofInt r.1 < 0) = True := by rw [rm]; exact eq_true (by omega)
      have hh := here_at hn r5 gt
      have h2 := gt.2.1
      by_cases e : r.2.2.2 = n
      · rw [if_pos e] at hh ⊢
        refine ⟨upI ν 81 29 (Int32.ofNat n), f.tr F29, Or.inl ⟨rfl, ?_, gt.at, gp.w (P := fun _ => False) (F29 (v := Int32.ofNat n)) (fun w => w) (fun w => w)⟩⟩
        rw [e] at h2
        simp (decide := true) (implicitDefEqProofs := false) only [l_X12_reads_9, q, n0, hh, b_X12_reads_45, h2, ofN0, ofN1, zO, zR, zA, zT, zu1, zu2, zu3, zu4, gI, gL, pI, pL, pZ, aI, aL, sI, sZ, sL, Option.bind_some, Option.map_some, if_true, if_false, ite_true, ite_false, true_and, and_true, false_and, and_false, or_true, true_or, or_false, false_or, and_self, not_true_eq_false, not_false_eq_true, ↓reduceIte, reduceIte, Nat.reduceAdd, Nat.reduceMul, Nat.reduceSub, Nat.reduceMod, Nat.reduceDiv, Nat.reduceEqDiff, Nat.reduceLT, Nat.reduceLeDiff, Int32.reduceAdd, Int32.reduceSub, Int32.reduceMul, Int32.reduceDiv, Int32.reduceMod, Int32.reduceOfNat, Int32.reduceOfInt, Int32.reduceLT, Int32.reduceLE, Int32.reduceToNatClampNeg, Int32.reduceToInt]
        rw [show u + m + 1 = (u + m) + 1 from rfl, zlp]
        simp (decide := true) (implicitDefEqProofs := false) only [l_X12_reads_9, zO, zR, zA, zT, zu1, zu2, zu3, zu4, gI, gL, pI, pL, pZ, aI, aL, sI, sZ, sL, Option.bind_some, Option.map_some, if_true, if_false, ite_true, ite_false, true_and, and_true, false_and, and_false, or_true, true_or, or_false, false_or, and_self, not_true_eq_false, not_false_eq_true, ↓reduceIte, reduceIte, Nat.reduceAdd, Nat.reduceMul, Nat.reduceSub, Nat.reduceMod, Nat.reduceDiv, Nat.reduceEqDiff, Nat.reduceLT, Nat.reduceLeDiff, Int32.reduceAdd, Int32.reduceSub, Int32.reduceMul, Int32.reduceDiv, Int32.reduceMod, Int32.reduceOfNat, Int32.reduceOfInt, Int32.reduceLT, Int32.reduceLE, Int32.reduceToNatClampNeg, Int32.reduceToInt]
      · rw [if_neg e] at hh ⊢
        by_cases w : t r.2.2.2 = 59
        · rw [if_pos w]
          obtain ⟨ν2, f2, g2⟩ := ih (s + 1) (by omega) (r.2.2.2 + 1) (ups K s r.2.1) (ups V s r.2.2.1) u _ (by omega) (by omega) (gt.at (q := r.2.2.2 + 1)) (gp.w (P := fun _ => False) (F29 (v := Int32.ofNat (r.2.2.2 + 1))) (fun w => w) (fun w => w))
          refine ⟨ν2, (f.tr F29).tr f2, ?_⟩
          have st : l_X12_reads_9 SX 81 (lpN (l_X12_reads_9 SX 81) (u + m + 1)) (Int32.ofNat s, 1, μ) = lpN (l_X12_reads_9 SX 81) (u + m + 1) (Int32.ofNat (s + 1), 1, upI ν 81 29 (Int32.ofNat (r.2.2.2 + 1))) := by
            simp (decide := true) (implicitDefEqProofs := false) only [l_X12_reads_9, q, n0, hh, w, b_X12_reads_45, h2, ofN1, zO, zR, zA, zT, zu1, zu2, zu3, zu4, gI, gL, pI, pL, pZ, aI, aL, sI, sZ, sL, Option.bind_some, Option.map_some, if_true, if_false, ite_true, ite_false, true_and, and_true, false_and, and_false, or_true, true_or, or_false, false_or, and_self, not_true_eq_false, not_false_eq_true, ↓reduceIte, reduceIte, Nat.reduceAdd, Nat.reduceMul, Nat.reduceSub, Nat.reduceMod, Nat.reduceDiv, Nat.reduceEqDiff, Nat.reduceLT, Nat.reduceLeDiff, Int32.reduceAdd, Int32.reduceSub, Int32.reduceMul, Int32.reduceDiv, Int32.reduceMod, Int32.reduceOfNat, Int32.reduceOfInt, Int32.reduceLT, Int32.reduceLE, Int32.reduceToNatClampNeg, Int32.reduceToInt]
          rw [st]
          exact g2
        · rw [if_neg w]
          refine ⟨upI ν 81 29 (Int32.ofNat r.2.2.2), f.tr F29, Or.inr ⟨by show (0 : Int) ≤ ((r.2.2.2 : Nat) : Int); omega, ?_⟩⟩
          have h1 := gt.1
          have lf := leF (n := n) (i := r.2.2.2) (by omega) (by omega)
          have ms' : (-100 : Int32) - Int32.ofNat r.2.2.2 = Int32.ofInt (-100 - ((r.2.2.2 : Nat) : Int)) := ms ((r.2.2.2 : Nat) : Int)
          simp (decide := true) (implicitDefEqProofs := false) only [l_X12_reads_9, q, n0, hh, w, b_X12_reads_45, h2, ofN0, ofN1, zO, zR, zA, zT, zu1, zu2, zu3, zu4, gI, gL, pI, pL, pZ, aI, aL, sI, sZ, sL, Option.bind_some, Option.map_some, if_true, if_false, ite_true, ite_false, true_and, and_true, false_and, and_false, or_true, true_or, or_false, false_or, and_self, not_true_eq_false, not_false_eq_true, ↓reduceIte, reduceIte, Nat.reduceAdd, Nat.reduceMul, Nat.reduceSub, Nat.reduceMod, Nat.reduceDiv, Nat.reduceEqDiff, Nat.reduceLT, Nat.reduceLeDiff, Int32.reduceAdd, Int32.reduceSub, Int32.reduceMul, Int32.reduceDiv, Int32.reduceMod, Int32.reduceOfNat, Int32.reduceOfInt, Int32.reduceLT, Int32.reduceLE, Int32.reduceToNatClampNeg, Int32.reduceToInt]
          rw [show u + m + 1 = (u + m) + 1 from rfl, zlp]
          simp (decide := true) (implicitDefEqProofs := false) only [l_X12_reads_9, b_X12_reads_67, h1, lf, ms', zO, zR, zA, zT, zu1, zu2, zu3, zu4, gI, gL, pI, pL, pZ, aI, aL, sI, sZ, sL, Option.bind_some, Option.map_some, if_true, if_false, ite_true, ite_false, true_and, and_true, false_and, and_false, or_true, true_or, or_false, false_or, and_self, not_true_eq_false, not_false_eq_true, ↓reduceIte, reduceIte, Nat.reduceAdd, Nat.reduceMul, Nat.reduceSub, Nat.reduceMod, Nat.reduceDiv, Nat.reduceEqDiff, Nat.reduceLT, Nat.reduceLeDiff, Int32.reduceAdd, Int32.reduceSub, Int32.reduceMul, Int32.reduceDiv, Int32.reduceMod, Int32.reduceOfNat, Int32.reduceOfInt, Int32.reduceLT, Int32.reduceLE, Int32.reduceToNatClampNeg, Int32.reduceToInt]

