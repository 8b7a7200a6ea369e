/-! ways: bits -/
def bt (v : Int32) (i : Nat) : Bool := v.toBitVec.getLsbD i
theorem bt_or (a b : Int32) (i : Nat) : bt (a ||| b) i = (bt a i || bt b i) := by
  unfold bt; rw [Int32.toBitVec_or, BitVec.getLsbD_or]
theorem bt_and (a b : Int32) (i : Nat) : bt (a &&& b) i = (bt a i && bt b i) := by
  unfold bt; rw [Int32.toBitVec_and, BitVec.getLsbD_and]
theorem bt_ext {a b : Int32} (h : ∀ i, i < 32 → bt a i = bt b i) : a = b :=
  Int32.toBitVec_inj.mp (BitVec.eq_of_getLsbD_eq h)
theorem bt_0 (i : Nat) : bt 0 i = false := by
  show (0#32).getLsbD i = false
  exact BitVec.getLsbD_zero
theorem bt_ge (a : Int32) (i : Nat) (h : 32 ≤ i) : bt a i = false := BitVec.getLsbD_of_ge _ _ h
theorem bt_l1 (a : Int32) (i : Nat) (h : i < 20) : bt (a <<< (1 &&& 31)) i = (decide (1 ≤ i) && bt a (i - 1)) := by
  show (a.toBitVec <<< (1 : Nat)).getLsbD i = _
  rw [BitVec.getLsbD_shiftLeft]
  by_cases t : 1 ≤ i
  · have t1 : ¬ i < 1 := by omega
    have t2 : i < 32 := by omega
    simp [t, t1, t2, bt]
  · have t1 : i < 1 := by omega
    simp [t, t1]
theorem bt_l19 (a : Int32) (i : Nat) (h : i < 20) : bt (a <<< (19 &&& 31)) i = (decide (19 ≤ i) && bt a (i - 19)) := by
  show (a.toBitVec <<< (19 : Nat)).getLsbD i = _
  rw [BitVec.getLsbD_shiftLeft]
  by_cases t : 19 ≤ i
  · have t1 : ¬ i < 19 := by omega
    have t2 : i < 32 := by omega
    simp [t, t1, t2, bt]
  · have t1 : i < 19 := by omega
    simp [t, t1]
theorem bt_r1 (a : Int32) (i : Nat) (h : i < 20) : bt (a >>> (1 &&& 31)) i = bt a (1 + i) := by
  show (a.toBitVec.sshiftRight 1).getLsbD i = _
  rw [BitVec.getLsbD_sshiftRight]
  have t1 : ¬ 32 ≤ i := by omega
  have t2 : 1 + i < 32 := by omega
  simp [t1, t2, bt]
theorem bt_r19 (a : Int32) (i : Nat) (h : i < 20) (z : bt a 31 = false) : bt (a >>> (19 &&& 31)) i = bt a (19 + i) := by
  show (a.toBitVec.sshiftRight 19).getLsbD i = _
  rw [BitVec.getLsbD_sshiftRight]
  have t1 : ¬ 32 ≤ i := by omega
  by_cases t2 : 19 + i < 32
  · simp [t1, t2, bt]
  · have z' : a.toBitVec.msb = false := by rw [BitVec.msb_eq_getLsbD_last]; exact z
    rw [bt_ge a (19 + i) (by omega)]
    simp only [t2, if_false, z', Bool.and_false]
theorem bt_1d : ∀ d, d < 20 → ∀ i, i < 32 → bt (1 <<< (Int32.ofNat d &&& 31)) i = decide (i = d) := by decide +kernel
theorem and0 {a : Int32} {d : Nat} (hd : d < 20) : (a &&& (1 <<< (Int32.ofNat d &&& 31)) = 0) = (bt a d = false) := by
  refine propext ⟨fun h => ?_, fun h => ?_⟩
  · have : bt (a &&& (1 <<< (Int32.ofNat d &&& 31))) d = false := by rw [h]; exact bt_0 d
    rw [bt_and, bt_1d d hd d (by omega)] at this
    simpa using this
  · apply bt_ext
    intro i hi
    rw [bt_and, bt_1d d hd i hi, bt_0]
    by_cases t : i = d
    · rw [t, h]; rfl
    · simp [t]
theorem bt_wh (P : Nat → Bool) : ∀ n, n ≤ 20 → ∀ i, i < 32 → bt (whB P n) i = (decide (i < n) && P i) := by
  intro n
  induction n with
  | zero => intro _ i hi; show bt 0 i = _; rw [bt_0]; simp
  | succ n ih =>
    intro hn i hi
    have q := ih (by omega) i hi
    show bt (if P n = true then whB P n ||| (1 <<< (Int32.ofNat n &&& 31)) else whB P n) i = _
    by_cases t : P n = true
    · rw [if_pos t, bt_or, q, bt_1d n (by omega) i hi]
      by_cases e : i = n
      · subst e; simp [t]
      · by_cases l : i < n
        · have l2 : i < n + 1 := by omega
          simp [e, l, l2]
        · have l2 : ¬ i < n + 1 := by omega
          simp [e, l, l2]
    · rw [if_neg t, q]
      by_cases e : i = n
      · subst e; simp [t]
      · by_cases l : i < n
        · have l2 : i < n + 1 := by omega
          simp [l, l2]
        · have l2 : ¬ i < n + 1 := by omega
          simp [l, l2]
/-- one MOVE from x -/
def NB (x y : Nat) : Prop := y = 61 * ((x / 61 + 1) % 20) + x % 61 ∨ y = 61 * ((x / 61 + 19) % 20) + x % 61 ∨ (x % 61 < 60 ∧ y = x + 1) ∨ (0 < x % 61 ∧ y = x - 1)
/-- where it may be at a place -/
def LW (c : Nat → Nat → Int) (x : Nat) : Prop := whyV (atc c (x / 61) (x % 61)) = 0
/-- what may be come to by so many MOVES or fewer -/
def RC (c : Nat → Nat → Int) (s : Nat) : Nat → Nat → Prop
  | 0, x => x = s ∧ LW c x
  | k + 1, x => x < 1220 ∧ LW c x ∧ (RC c s k x ∨ ∃ y, y < 1220 ∧ RC c s k y ∧ NB y x)
theorem NB_lt {x y : Nat} (hx : x < 1220) (h : NB x y) : y < 1220 := by unfold NB at h; omega
theorem RC_lt {c : Nat → Nat → Int} {s : Nat} (hs : s < 1220) : ∀ k x, RC c s k x → x < 1220 ∧ LW c x
  | 0, x, h => by obtain ⟨h1, h2⟩ := h; exact ⟨by omega, h2⟩
  | k + 1, x, h => ⟨h.1, h.2.1⟩
theorem RC_up {c : Nat → Nat → Int} {s : Nat} (hs : s < 1220) {k x : Nat} (h : RC c s k x) : RC c s (k + 1) x := ⟨(RC_lt hs k x h).1, (RC_lt hs k x h).2, Or.inl h⟩
theorem RC_st {c : Nat → Nat → Int} {s k : Nat} (hs : s < 1220) (h : ∀ x, x < 1220 → (RC c s (k + 1) x ↔ RC c s k x)) : ∀ j x, RC c s (k + j) x → RC c s k x := by
  intro j
  induction j with
  | zero => intro x g; exact g
  | succ j ih =>
    intro x g
    have g' : RC c s ((k + j) + 1) x := g
    obtain ⟨g1, g2, g3⟩ := g'
    apply (h x g1).mp
    refine ⟨g1, g2, ?_⟩
    rcases g3 with g3 | ⟨y, y1, y2, y3⟩
    · exact Or.inl (ih x g3)
    · exact Or.inr ⟨y, y1, ih y y2, y3⟩
/-- rows of bits -/
def RB (v : Nat → Int32) (P : Nat → Prop) : Prop := ∀ r, r < 61 → ∀ i, i < 32 → (bt (v r) i = true ↔ (i < 20 ∧ P (61 * i + r)))
theorem NB_in {i r y : Nat} (hi : i < 20) (hr : r < 61) (hy : y < 1220) : NB y (61 * i + r) ↔ (y = 61 * ((i + 19) % 20) + r ∨ y = 61 * ((i + 1) % 20) + r ∨ (0 < r ∧ y = 61 * i + (r - 1)) ∨ (r < 60 ∧ y = 61 * i + (r + 1))) := by
  unfold NB
  omega
theorem grow_at {c : Nat → Nat → Int} {s k : Nat} {lw v : Nat → Int32} (hl : RB lw (LW c)) (hv : RB v (RC c s k)) {r : Nat} (hr : r < 61) (a b : Int32) (ha : if 0 < r then a = v (r - 1) else a = 0) (hb : if r < 60 then b = v (r + 1) else b = 0) : ∀ i, i < 32 → (bt ((((v r ||| ((v r <<< (1 &&& 31)) ||| (v r >>> (19 &&& 31)))) ||| ((v r >>> (1 &&& 31)) ||| (v r <<< (19 &&& 31)))) ||| (a ||| b)) &&& lw r) i = true ↔ (i < 20 ∧ RC c s (k + 1) (61 * i + r))) := by
  intro i hi
  by_cases i20 : i < 20
  · have z31 : bt (v r) 31 = false := by
      cases e : bt (v r) 31 with
      | false => rfl
      | true => have := ((hv r hr 31 (by decide)).mp e).1; omega
    have hi1 : ∀ j, j < 32 → (bt (v r) j = true ↔ (j < 20 ∧ RC c s k (61 * j + r))) := hv r hr
    rw [bt_and, bt_or, bt_or, bt_or, bt_or, bt_or, bt_or, bt_l1 _ i i20, bt_l19 _ i i20, bt_r1 _ i i20, bt_r19 _ i i20 z31]
    simp only [Bool.and_eq_true, Bool.or_eq_true, decide_eq_true_eq]
    have c0 := hi1 i hi
    have cl := (hl r hr i hi)
    have c1 : (1 ≤ i ∧ bt (v r) (i - 1) = true) ∨ bt (v r) (19 + i) = true ↔ RC c s k (61 * ((i + 19) % 20) + r) := by
      by_cases t : 1 ≤ i
      · have q := hi1 (i - 1) (by omega)
        have q2 : ¬ bt (v r) (19 + i) = true := by
          by_cases l : 19 + i < 32
          · intro g; have := ((hi1 (19 + i) l).mp g).1; omega
          · rw [bt_ge _ _ (by omega)]; simp
        rw [show (i + 19) % 20 = i - 1 by omega]
        constructor
        · rintro (g | g)
          · exact (q.mp g.2).2
          · exact absurd g q2
        · intro g; exact Or.inl ⟨t, q.mpr ⟨by omega, g⟩⟩
      · have e : i = 0 := by omega
        subst e
        have q := hi1 19 (by decide)
        constructor
        · rintro (g | g)
          · omega
          · exact (q.mp g).2
        · intro g; exact Or.inr (q.mpr ⟨by decide, g⟩)
    have c2 : bt (v r) (1 + i) = true ∨ (19 ≤ i ∧ bt (v r) (i - 19) = true) ↔ RC c s k (61 * ((i + 1) % 20) + r) := by
      by_cases t : 19 ≤ i
      · have e : i = 19 := by omega
        subst e
        have q := hi1 0 (by decide)
        have q2 := hi1 20 (by decide)
        constructor
        · rintro (g | g)
          · have := (q2.mp g).1; omega
          · exact (q.mp g.2).2
        · intro g; exact Or.inr ⟨by omega, q.mpr ⟨by decide, g⟩⟩
      · have q := hi1 (1 + i) (by omega)
        rw [show (i + 1) % 20 = 1 + i by omega]
        constructor
        · rintro (g | g)
          · exact (q.mp g).2
          · omega
        · intro g; exact Or.inl (q.mpr ⟨by omega, g⟩)
    have c3 : bt a i = true ↔ (0 < r ∧ RC c s k (61 * i + (r - 1))) := by
      by_cases t : 0 < r
      · rw [if_pos t] at ha
        rw [ha, hv (r - 1) (by omega) i hi]
        exact ⟨fun g => ⟨t, g.2⟩, fun g => ⟨i20, g.2⟩⟩
      · rw [if_neg t] at ha
        rw [ha, bt_0]
        exact ⟨fun g => absurd g (by decide), fun g => absurd g.1 t⟩
    have c4 : bt b i = true ↔ (r < 60 ∧ RC c s k (61 * i + (r + 1))) := by
      by_cases t : r < 60
      · rw [if_pos t] at hb
        rw [hb, hv (r + 1) (by omega) i hi]
        exact ⟨fun g => ⟨t, g.2⟩, fun g => ⟨i20, g.2⟩⟩
      · rw [if_neg t] at hb
        rw [hb, bt_0]
        exact ⟨fun g => absurd g (by decide), fun g => absurd g.1 t⟩
    constructor
    · rintro ⟨g, gl⟩
      have lw1 := (cl.mp gl).2
      refine ⟨i20, by omega, lw1, ?_⟩
      rcases g with ((g | g) | g) | g
      · exact Or.inl (c0.mp g).2
      · exact Or.inr ⟨61 * ((i + 19) % 20) + r, by omega, c1.mp g, (NB_in i20 hr (by omega)).mpr (Or.inl rfl)⟩
      · exact Or.inr ⟨61 * ((i + 1) % 20) + r, by omega, c2.mp g, (NB_in i20 hr (by omega)).mpr (Or.inr (Or.inl rfl))⟩
      · rcases g with g | g
        · obtain ⟨g1, g2⟩ := c3.mp g
          exact Or.inr ⟨61 * i + (r - 1), by omega, g2, (NB_in i20 hr (by omega)).mpr (Or.inr (Or.inr (Or.inl ⟨g1, rfl⟩)))⟩
        · obtain ⟨g1, g2⟩ := c4.mp g
          exact Or.inr ⟨61 * i + (r + 1), by omega, g2, (NB_in i20 hr (by omega)).mpr (Or.inr (Or.inr (Or.inr ⟨g1, rfl⟩)))⟩
    · rintro ⟨-, g1, g2, g3⟩
      refine ⟨?_, cl.mpr ⟨i20, g2⟩⟩
      rcases g3 with g3 | ⟨y, y1, y2, y3⟩
      · exact Or.inl (Or.inl (Or.inl (c0.mpr ⟨i20, g3⟩)))
      · rcases (NB_in i20 hr y1).mp y3 with e | e | ⟨e1, e⟩ | ⟨e1, e⟩
        · rw [e] at y2; exact Or.inl (Or.inl (Or.inr (c1.mpr y2)))
        · rw [e] at y2; exact Or.inl (Or.inr (c2.mpr y2))
        · rw [e] at y2; exact Or.inr (Or.inl (c3.mpr ⟨e1, y2⟩))
        · rw [e] at y2; exact Or.inr (Or.inr (c4.mpr ⟨e1, y2⟩))
  · refine ⟨fun g => ?_, fun g => absurd g.1 i20⟩
    rw [bt_and, Bool.and_eq_true] at g
    exact absurd ((hl r hr i hi).mp g.2).1 i20

