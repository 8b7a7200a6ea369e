theorem yeq64 (a b : Int) (h : -9223372036854775808 ≤ a) (g : a < 9223372036854775808) (h' : -9223372036854775808 ≤ b) (g' : b < 9223372036854775808) : (Int64.ofInt a = Int64.ofInt b) ↔ a = b :=
  ⟨fun e => by have := congrArg Int64.toInt e; rwa [ytoL a h g, ytoL b h' g'] at this, fun e => by rw [e]⟩
theorem mn64 : Int64.minValue.toInt = -9223372036854775808 := by decide
theorem mx64 : Int64.maxValue.toInt = 9223372036854775807 := by decide
theorem ydiv (a b : Int) (h : -9223372036854775808 ≤ a) (g : a < 9223372036854775808) (h' : -9223372036854775808 ≤ b) (g' : b < 9223372036854775808) : Int64.ofInt a / Int64.ofInt b = Int64.ofInt (a.tdiv b) :=
  (Int64.ofInt_tdiv (by rw [mn64]; omega) (by rw [mx64]; omega) (by rw [mn64]; omega) (by rw [mx64]; omega)).symm
theorem ldiv_at (a b : Int) (h : -9223372036854775808 ≤ a) (g : a < 9223372036854775808) (h' : -9223372036854775808 ≤ b) (g' : b < 9223372036854775808) (h0 : b ≠ 0) : o_ldiv (Int64.ofInt a) (Int64.ofInt b) = some (Int64.ofInt (a.tdiv b)) := by
  have n0 : ¬ Int64.ofInt b = 0 := fun e => h0 ((yeq64 b 0 h' g' (by omega) (by omega)).mp e)
  unfold o_ldiv
  rw [if_neg n0, ydiv a b h g h' g']
theorem lrem_at (x y : Nat) (hx : x < 9223372036854775808) (hy : y < 9223372036854775808) (h0 : y ≠ 0) : o_lrem (Int64.ofInt (x : Int)) (Int64.ofInt (y : Int)) = some (Int64.ofInt ((x % y : Nat) : Int)) := by
  have n0 : ¬ Int64.ofInt (y : Int) = 0 := fun e => by have := (yeq64 (y : Int) 0 (by omega) (by omega) (by omega) (by omega)).mp e; omega
  unfold o_lrem
  rw [if_neg n0, ydiv (x : Int) (y : Int) (by omega) (by omega) (by omega) (by omega), y64m, y64s]
  have e1 : (x : Int).tdiv (y : Int) = ((x / y : Nat) : Int) := rfl
  have e2 : y * (x / y) + x % y = x := Nat.div_add_mod x y
  rw [e1]
  have e3 : (x : Int) - ((x / y : Nat) : Int) * (y : Int) = ((x % y : Nat) : Int) := by
    generalize x / y = d at e2 ⊢
    generalize x % y = r at e2 ⊢
    have e4 : (x : Int) = (y : Int) * (d : Int) + (r : Int) := by exact_mod_cast e2.symm
    rw [e4, Int.mul_comm (d : Int)]
    omega
  rw [e3]
theorem half {x y : Nat} (hr : x % y ≠ 0) (hy : y ≠ 0) : 2 * (y % (x % y)) < y := by
  have h1 : x % y < y := Nat.mod_lt x (by omega)
  generalize x % y = r at hr h1 ⊢
  have h2 : y % r < r := Nat.mod_lt y (by omega)
  have h3 : r * (y / r) + y % r = y := Nat.div_add_mod y r
  have h4 : 1 ≤ y / r := Nat.div_pos (by omega) (by omega)
  have h5 : r ≤ r * (y / r) := Nat.le_mul_of_pos_right r h4
  omega
theorem gcd_st (x y : Nat) : Nat.gcd x y = Nat.gcd y (x % y) := by
  rw [Nat.gcd_comm x y, Nat.gcd_rec y x, Nat.gcd_comm]
theorem dv0 (self : (Int64 × Int64 × Mem) → Option (Int64 × Mem)) (x : Int64) (μ : Mem) : l_X12_divisor_17 SX self (x, Int64.ofInt ((0 : Nat) : Int), μ) = some (x, μ) := by
  unfold l_X12_divisor_17
  exact if_pos rfl
theorem dv1 (self : (Int64 × Int64 × Mem) → Option (Int64 × Mem)) (x y : Nat) (μ : Mem) (hx : x < 9223372036854775808) (hy : y < 9223372036854775808) (h0 : y ≠ 0) : l_X12_divisor_17 SX self (Int64.ofInt (x : Int), Int64.ofInt (y : Int), μ) = self (Int64.ofInt (y : Int), Int64.ofInt ((x % y : Nat) : Int), μ) := by
  have n0 : ¬ Int64.ofInt (y : Int) = 0 := fun e => by have := (yeq64 (y : Int) 0 (by omega) (by omega) (by omega) (by omega)).mp e; omega
  unfold l_X12_divisor_17
  simp only [if_neg n0, lrem_at x y hx hy h0, Option.bind_some]
theorem gcdM : ∀ k x y, y < 2 ^ k → x < 9223372036854775808 → y < 9223372036854775808 → ∀ u μ, lpN (l_X12_divisor_17 SX) (u + 2 * k + 1) (Int64.ofInt ((x : Nat) : Int), Int64.ofInt ((y : Nat) : Int), μ) = some (Int64.ofInt ((Nat.gcd x y : Nat) : Int), μ) := by
  intro k
  induction k with
  | zero =>
    intro x y h hx hy u μ
    have e : y = 0 := by omega
    subst e
    rw [zlp, dv0, Nat.gcd_zero_right]
  | succ k ih =>
    intro x y h hx hy u μ
    rw [show u + 2 * (k + 1) + 1 = (u + 2 * k + 1 + 1) + 1 by omega, zlp]
    by_cases e : y = 0
    · subst e; rw [dv0, Nat.gcd_zero_right]
    · have hr : x % y < y := Nat.mod_lt x (by omega)
      rw [dv1 _ x y μ hx hy e, zlp]
      by_cases e2 : x % y = 0
      · rw [e2, dv0, gcd_st x y, e2, Nat.gcd_zero_right]
      · have hh := half e2 e
        have hp : 2 ^ (k + 1) = 2 * 2 ^ k := by rw [Nat.pow_succ]; omega
        have hr2 : y % (x % y) < x % y := Nat.mod_lt y (by omega)
        rw [dv1 _ y (x % y) μ hy (by omega) e2, ih (x % y) (y % (x % y)) (by omega) (by omega) (by omega), gcd_st x y, gcd_st y (x % y)]
theorem cd0 (self : (Int64 × Int64 × Int32 × Mem) → Option (Int64 × Mem)) (x : Int64) (t : Int32) (μ : Mem) : l_X11_commonDivisor_9 SX self (x, Int64.ofInt ((0 : Nat) : Int), t, μ) = some (x, μ) := by
  unfold l_X11_commonDivisor_9
  by_cases e : (200 : Int32) ≤ t
  · exact if_pos e
  · exact (if_neg e).trans (if_pos rfl)
theorem cd1 (self : (Int64 × Int64 × Int32 × Mem) → Option (Int64 × Mem)) (x y t : Nat) (μ : Mem) (hx : x < 9223372036854775808) (hy : y < 9223372036854775808) (h0 : y ≠ 0) (ht : t < 200) : l_X11_commonDivisor_9 SX self (Int64.ofInt (x : Int), Int64.ofInt (y : Int), Int32.ofNat t, μ) = self (Int64.ofInt (y : Int), Int64.ofInt ((x % y : Nat) : Int), Int32.ofNat (t + 1), μ) := by
  have n0 : ¬ Int64.ofInt (y : Int) = 0 := fun e => by have := (yeq64 (y : Int) 0 (by omega) (by omega) (by omega) (by omega)).mp e; omega
  have lf : ((200 : Int32) ≤ Int32.ofNat t) = False := leF (n := 200) ht (by decide)
  unfold l_X11_commonDivisor_9
  simp only [lf, if_false, if_neg n0, lrem_at x y hx hy h0, Option.bind_some, ofN1]
theorem gcdX : ∀ k x y t, y < 2 ^ k → x < 9223372036854775808 → y < 9223372036854775808 → t + 2 * k ≤ 200 → ∀ u μ, lpN (l_X11_commonDivisor_9 SX) (u + 2 * k + 1) (Int64.ofInt ((x : Nat) : Int), Int64.ofInt ((y : Nat) : Int), Int32.ofNat t, μ) = some (Int64.ofInt ((Nat.gcd x y : Nat) : Int), μ) := by
  intro k
  induction k with
  | zero =>
    intro x y t h hx hy ht u μ
    have e : y = 0 := by omega
    subst e
    rw [zlp, cd0, Nat.gcd_zero_right]
  | succ k ih =>
    intro x y t h hx hy ht u μ
    rw [show u + 2 * (k + 1) + 1 = (u + 2 * k + 1 + 1) + 1 by omega, zlp]
    by_cases e : y = 0
    · subst e; rw [cd0, Nat.gcd_zero_right]
    · have hr : x % y < y := Nat.mod_lt x (by omega)
      rw [cd1 _ x y t μ hx hy e (by omega), zlp]
      by_cases e2 : x % y = 0
      · rw [e2, cd0, gcd_st x y, e2, Nat.gcd_zero_right]
      · have hh := half e2 e
        have hp : 2 ^ (k + 1) = 2 * 2 ^ k := by rw [Nat.pow_succ]; omega
        have hr2 : y % (x % y) < x % y := Nat.mod_lt y (by omega)
        rw [cd1 _ y (x % y) (t + 1) μ hy (by omega) e2 (by omega), ih (x % y) (y % (x % y)) (t + 1 + 1) (by omega) (by omega) (by omega) (by omega), gcd_st x y, gcd_st y (x % y)]
/-- a part of a fraction in lowest terms -/
def lowV (a b : Int) (s : Int32) : Int := if s = 0 then a.tdiv ((Nat.gcd a.natAbs b.natAbs : Nat) : Int) else b.tdiv ((Nat.gcd a.natAbs b.natAbs : Nat) : Int)
theorem gcd_bd (a b : Nat) (hb : 0 < b) : 0 < Nat.gcd a b ∧ Nat.gcd a b ≤ b := ⟨Nat.gcd_pos_of_pos_right a hb, Nat.gcd_le_right a hb⟩
theorem y64n (a : Int) : -Int64.ofInt a = Int64.ofInt (-a) := (Int64.ofInt_neg a).symm
theorem lowX (a b : Int) (s : Int32) (μ : Mem) (ha : -2000000000000000 ≤ a ∧ a ≤ 2000000000000000) (hb : 0 < b ∧ b ≤ 1000000000000000) : f_X11_inLowestTerms SX (Int64.ofInt a) (Int64.ofInt b) s μ = some (Int64.ofInt (lowV a b s), μ) := by
  have e1 : (if 0 < Int64.ofInt a then Int64.ofInt a else -Int64.ofInt a) = Int64.ofInt ((a.natAbs : Nat) : Int) := by
    have q : (0 < Int64.ofInt a) ↔ 0 < a := by rw [Int64.lt_iff_toInt_lt, ytoL a (by omega) (by omega)]; rfl
    by_cases t : 0 < a
    · rw [if_pos (q.mpr t)]; congr 1; omega
    · rw [if_neg (fun g => t (q.mp g)), y64n]; congr 1; omega
  have e2 : Int64.ofInt b = Int64.ofInt ((b.natAbs : Nat) : Int) := by congr 1; omega
  obtain ⟨g1, g2⟩ := gcd_bd a.natAbs b.natAbs (by omega)
  have p := gcdX 50 a.natAbs b.natAbs 0 (by have : (2 : Nat) ^ 50 = 1125899906842624 := by decide
                                            omega) (by omega) (by omega) (by decide) 4899 μ
  have p' : f_X11_commonDivisor SX (Int64.ofInt ((a.natAbs : Nat) : Int)) (Int64.ofInt b) μ = some (Int64.ofInt ((Nat.gcd a.natAbs b.natAbs : Nat) : Int), μ) := by
    rw [e2]; exact p
  have n0 : ¬ Int64.ofInt ((Nat.gcd a.natAbs b.natAbs : Nat) : Int) = 0 := fun e => by
    have := (yeq64 ((Nat.gcd a.natAbs b.natAbs : Nat) : Int) 0 (by omega) (by omega) (by omega) (by omega)).mp e
    omega
  unfold f_X11_inLowestTerms lowV
  rw [e1, p']
  simp only [Option.bind_some, if_neg n0]
  by_cases t : s = 0
  · rw [if_pos t, if_pos t, ldiv_at a _ (by omega) (by omega) (by omega) (by omega) (by omega)]; rfl
  · rw [if_neg t, if_neg t, ldiv_at b _ (by omega) (by omega) (by omega) (by omega) (by omega)]; rfl
theorem lowM (a b : Int) (s : Int32) (μ : Mem) (ha : -2000000000000000 ≤ a ∧ a ≤ 2000000000000000) (hb : 0 < b ∧ b ≤ 1000000000000000) : f_X12_part SX (Int64.ofInt a) (Int64.ofInt b) s μ = some (Int64.ofInt (lowV a b s), μ) := by
  have e2 : Int64.ofInt b = Int64.ofInt ((b.natAbs : Nat) : Int) := by congr 1; omega
  obtain ⟨g1, g2⟩ := gcd_bd a.natAbs b.natAbs (by omega)
  have p := gcdM 50 a.natAbs b.natAbs (by have : (2 : Nat) ^ 50 = 1125899906842624 := by decide
                                          omega) (by omega) (by omega) 4899 μ
  have p' : f_X12_divisor SX (Int64.ofInt a) (Int64.ofInt b) μ = some (Int64.ofInt ((Nat.gcd a.natAbs b.natAbs : Nat) : Int), μ) := by
    have q := y0le a (by omega) (by omega)
    unfold f_X12_divisor b_X12_divisor_12
    by_cases t : 0 ≤ a
    · rw [if_pos (q.mpr t), e2, show Int64.ofInt a = Int64.ofInt ((a.natAbs : Nat) : Int) by congr 1; omega]; exact p
    · rw [if_neg (fun g => t (q.mp g)), y64n, e2, show Int64.ofInt (-a) = Int64.ofInt ((a.natAbs : Nat) : Int) by congr 1; omega]; exact p
  unfold f_X12_part lowV
  rw [p']
  simp only [Option.bind_some]
  by_cases t : s = 0
  · rw [if_pos t, if_pos t, ldiv_at a _ (by omega) (by omega) (by omega) (by omega) (by omega)]; rfl
  · rw [if_neg t, if_neg t, ldiv_at b _ (by omega) (by omega) (by omega) (by omega) (by omega)]; rfl
theorem lowV_mul (d a b : Int) (s : Int32) (hd : 0 < d) : lowV (d * a) (d * b) s = lowV a b s := by
  unfold lowV
  have e : ((Nat.gcd (d * a).natAbs (d * b).natAbs : Nat) : Int) = d * ((Nat.gcd a.natAbs b.natAbs : Nat) : Int) := by
    rw [Int.natAbs_mul, Int.natAbs_mul, Nat.gcd_mul_left]
    rw [Int.natCast_mul]
    congr 1
    omega
  rw [e, Int.mul_tdiv_mul_of_pos _ _ hd, Int.mul_tdiv_mul_of_pos _ _ hd]

