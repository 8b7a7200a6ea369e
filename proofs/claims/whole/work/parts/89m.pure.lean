theorem xiN {L i j : Nat} {xs : Nat → Int32} (hL : L ≤ 2560) (h : i + j < L) : xI L xs (Int32.ofNat (i + j)) = some (xs (i + j)) := by
  unfold xI
  rw [zin (i + j) L h (by omega), if_pos rfl, ztn (i + j) (by omega)]
theorem xi4 {L i : Nat} {xs : Nat → Int32} (hL : L ≤ 2560) (h : i + 5 ≤ L) : xI L xs (Int32.ofNat i + 1) = some (xs (i + 1)) ∧ xI L xs (Int32.ofNat i + 2) = some (xs (i + 2)) ∧ xI L xs (Int32.ofNat i + 3) = some (xs (i + 3)) ∧ xI L xs (Int32.ofNat i + 4) = some (xs (i + 4)) := by
  have a : ∀ j, Int32.ofNat i + Int32.ofNat j = Int32.ofNat (i + j) := fun j => (Int32.ofNat_add i j).symm
  have a1 : Int32.ofNat i + 1 = Int32.ofNat (i + 1) := a 1
  have a2 : Int32.ofNat i + 2 = Int32.ofNat (i + 2) := a 2
  have a3 : Int32.ofNat i + 3 = Int32.ofNat (i + 3) := a 3
  have a4 : Int32.ofNat i + 4 = Int32.ofNat (i + 4) := a 4
  rw [a1, a2, a3, a4]
  exact ⟨xiN hL (by omega), xiN hL (by omega), xiN hL (by omega), xiN hL (by omega)⟩
theorem ofN5 (r : Nat) : Int32.ofNat r + 5 = Int32.ofNat (r + 5) := (Int32.ofNat_add r 5).symm
theorem lc_0 {L i : Nat} {xs : Nat → Int32} (hL : L ≤ 2560) (hi : i + 5 ≤ L) {μ : Mem} (h : INV μ) (self : (Int32 × Mem) → Option (Int32 × Mem)) : ∃ ν, b_L_law_208 SX L xs self 0 81 (Int32.ofNat i) μ = self (Int32.ofNat (i + 5), ν) ∧ INV ν := by
  obtain ⟨x1, x2, x3, x4⟩ := xi4 (xs := xs) hL hi
  obtain ⟨r, m1, m2, p1, p2, g⟩ := ok_pad h (xs (i + 1)) (xs (i + 2)) (xs (i + 3)) (xs (i + 4))
  refine ⟨m2, ?_, g⟩
  simp only [b_L_law_208, x1, x2, x3, x4, p1, p2, Option.bind_some, if_true, ofN5]
theorem lc_1 {L i : Nat} {xs : Nat → Int32} (hL : L ≤ 2560) (hi : i + 5 ≤ L) {μ : Mem} (h : INV μ) (self : (Int32 × Mem) → Option (Int32 × Mem)) : ∃ ν, b_L_law_261 SX L xs self 0 81 (Int32.ofNat i) μ = self (Int32.ofNat (i + 5), ν) ∧ INV ν := by
  obtain ⟨x1, x2, x3, x4⟩ := xi4 (xs := xs) hL hi
  by_cases t : xs (i + 4) = 0
  · obtain ⟨r, m1, m2, p1, p2, g⟩ := ok_part h (xs (i + 1)) (xs (i + 2)) (xs (i + 3)) 0 (Or.inl rfl)
    refine ⟨m2, ?_, g⟩
    simp only [b_L_law_261, b_L_law_290, x1, x2, x3, x4, t, p1, p2, Option.bind_some, if_true, ofN5]
  · obtain ⟨r, m1, m2, p1, p2, g⟩ := ok_part h (xs (i + 1)) (xs (i + 2)) (xs (i + 3)) 1 (Or.inr rfl)
    refine ⟨m2, ?_, g⟩
    simp only [b_L_law_261, b_L_law_290, x1, x2, x3, x4, t, p1, p2, Option.bind_some, if_true, if_false, ofN5]
theorem lc_2 {L i : Nat} {xs : Nat → Int32} (hL : L ≤ 2560) (hi : i + 5 ≤ L) {μ : Mem} (h : INV μ) (self : (Int32 × Mem) → Option (Int32 × Mem)) : ∃ ν, b_L_law_330 SX L xs self 0 81 (Int32.ofNat i) μ = self (Int32.ofNat (i + 5), ν) ∧ INV ν := by
  obtain ⟨x1, x2, x3, x4⟩ := xi4 (xs := xs) hL hi
  obtain ⟨r, m1, m2, p1, p2, g⟩ := ok_mass h (xs (i + 1)) (xs (i + 2))
  refine ⟨m2, ?_, g⟩
  simp only [b_L_law_330, x1, x2, x3, x4, p1, p2, Option.bind_some, if_true, ofN5]
theorem lc_3 {L i : Nat} {xs : Nat → Int32} (hL : L ≤ 2560) (hi : i + 5 ≤ L) {μ : Mem} (h : INV μ) (self : (Int32 × Mem) → Option (Int32 × Mem)) : ∃ ν, b_L_law_363 SX L xs self 0 81 (Int32.ofNat i) μ = self (Int32.ofNat (i + 5), ν) ∧ INV ν := by
  obtain ⟨x1, x2, x3, x4⟩ := xi4 (xs := xs) hL hi
  obtain ⟨r, m1, m2, p1, p2, g⟩ := ok_put h (xs (i + 1)) (xs (i + 2))
  refine ⟨m2, ?_, g⟩
  simp only [b_L_law_363, x1, x2, x3, x4, p1, p2, Option.bind_some, if_true, ofN5]
theorem lc_4 {L i : Nat} {xs : Nat → Int32} (hL : L ≤ 2560) (hi : i + 5 ≤ L) {μ : Mem} (h : INV μ) (self : (Int32 × Mem) → Option (Int32 × Mem)) : ∃ ν, b_L_law_396 SX L xs self 0 81 (Int32.ofNat i) μ = self (Int32.ofNat (i + 5), ν) ∧ INV ν := by
  obtain ⟨x1, x2, x3, x4⟩ := xi4 (xs := xs) hL hi
  obtain ⟨r, m1, m2, p1, p2, g⟩ := ok_told h (xs (i + 1))
  refine ⟨m2, ?_, g⟩
  simp only [b_L_law_396, x1, x2, x3, x4, p1, p2, Option.bind_some, if_true, ofN5]
theorem lc_5 {L i : Nat} {xs : Nat → Int32} (hL : L ≤ 2560) (hi : i + 5 ≤ L) {μ : Mem} (h : INV μ) (self : (Int32 × Mem) → Option (Int32 × Mem)) : ∃ ν, b_L_law_419 SX L xs self 0 81 (Int32.ofNat i) μ = self (Int32.ofNat (i + 5), ν) ∧ INV ν := by
  obtain ⟨x1, x2, x3, x4⟩ := xi4 (xs := xs) hL hi
  obtain ⟨r, m1, m2, p1, p2, g⟩ := ok_padOf h (xs (i + 1)) (xs (i + 2))
  refine ⟨m2, ?_, g⟩
  simp only [b_L_law_419, x1, x2, x3, x4, p1, p2, Option.bind_some, if_true, ofN5]
theorem lc_6 {L i : Nat} {xs : Nat → Int32} (hL : L ≤ 2560) (hi : i + 5 ≤ L) {μ : Mem} (h : INV μ) (self : (Int32 × Mem) → Option (Int32 × Mem)) : ∃ ν, b_L_law_453 SX L xs self 0 81 (Int32.ofNat i) μ = self (Int32.ofNat (i + 5), ν) ∧ INV ν := by
  obtain ⟨x1, x2, x3, x4⟩ := xi4 (xs := xs) hL hi
  obtain ⟨r, m1, m2, p1, p2, g⟩ := ok_entry h (xs (i + 1)) (xs (i + 2)) (xs (i + 3))
  refine ⟨m2, ?_, g⟩
  simp only [b_L_law_453, x1, x2, x3, x4, p1, p2, Option.bind_some, if_true, ofN5]
theorem lc_7 {L i : Nat} {xs : Nat → Int32} (hL : L ≤ 2560) (hi : i + 5 ≤ L) {μ : Mem} (h : INV μ) (self : (Int32 × Mem) → Option (Int32 × Mem)) : ∃ ν, b_L_law_496 SX L xs self 0 81 (Int32.ofNat i) μ = self (Int32.ofNat (i + 5), ν) ∧ INV ν := by
  obtain ⟨x1, x2, x3, x4⟩ := xi4 (xs := xs) hL hi
  obtain ⟨r, m1, m2, p1, p2, g⟩ := ok_read h (xs (i + 1)) (xs (i + 2))
  refine ⟨m2, ?_, g⟩
  simp only [b_L_law_496, x1, x2, x3, x4, p1, p2, Option.bind_some, if_true, ofN5]
theorem lc_8 {L i : Nat} {xs : Nat → Int32} (hL : L ≤ 2560) (hi : i + 5 ≤ L) {μ : Mem} (h : INV μ) (self : (Int32 × Mem) → Option (Int32 × Mem)) : ∃ ν, b_L_law_529 SX L xs self 0 81 (Int32.ofNat i) μ = self (Int32.ofNat (i + 5), ν) ∧ INV ν := by
  obtain ⟨x1, x2, x3, x4⟩ := xi4 (xs := xs) hL hi
  obtain ⟨r, m1, m2, p1, p2, g⟩ := ok_allowed h (xs (i + 1)) (xs (i + 2))
  refine ⟨m2, ?_, g⟩
  simp only [b_L_law_529, x1, x2, x3, x4, p1, p2, Option.bind_some, if_true, ofN5]
theorem lc_9 {L i : Nat} {xs : Nat → Int32} (hL : L ≤ 2560) (hi : i + 5 ≤ L) {μ : Mem} (h : INV μ) (self : (Int32 × Mem) → Option (Int32 × Mem)) : ∃ ν, b_L_law_562 SX L xs self 0 81 (Int32.ofNat i) μ = self (Int32.ofNat (i + 5), ν) ∧ INV ν := by
  obtain ⟨x1, x2, x3, x4⟩ := xi4 (xs := xs) hL hi
  obtain ⟨r, m1, m2, p1, p2, g⟩ := ok_weight h 
  refine ⟨m2, ?_, g⟩
  simp only [b_L_law_562, x1, x2, x3, x4, p1, p2, Option.bind_some, if_true, ofN5]
theorem lc_10 {L i : Nat} {xs : Nat → Int32} (hL : L ≤ 2560) (hi : i + 5 ≤ L) {μ : Mem} (h : INV μ) (self : (Int32 × Mem) → Option (Int32 × Mem)) : ∃ ν, b_L_law_575 SX L xs self 0 81 (Int32.ofNat i) μ = self (Int32.ofNat (i + 5), ν) ∧ INV ν := by
  obtain ⟨x1, x2, x3, x4⟩ := xi4 (xs := xs) hL hi
  obtain ⟨r, m1, m2, p1, p2, g⟩ := ok_centre h (xs (i + 1)) (xs (i + 2))
  refine ⟨m2, ?_, g⟩
  simp only [b_L_law_575, x1, x2, x3, x4, p1, p2, Option.bind_some, if_true, ofN5]
theorem lc_11 {L i : Nat} {xs : Nat → Int32} (hL : L ≤ 2560) (hi : i + 5 ≤ L) {μ : Mem} (h : INV μ) (self : (Int32 × Mem) → Option (Int32 × Mem)) : ∃ ν, b_L_law_609 SX L xs self 0 81 (Int32.ofNat i) μ = self (Int32.ofNat (i + 5), ν) ∧ INV ν := by
  obtain ⟨x1, x2, x3, x4⟩ := xi4 (xs := xs) hL hi
  obtain ⟨r, m1, m2, p1, p2, g⟩ := ok_moment h (xs (i + 1)) (xs (i + 2))
  refine ⟨m2, ?_, g⟩
  simp only [b_L_law_609, x1, x2, x3, x4, p1, p2, Option.bind_some, if_true, ofN5]
theorem lc_12 {L i : Nat} {xs : Nat → Int32} (hL : L ≤ 2560) (hi : i + 5 ≤ L) {μ : Mem} (h : INV μ) (self : (Int32 × Mem) → Option (Int32 × Mem)) : ∃ ν, b_L_law_643 SX L xs self 0 81 (Int32.ofNat i) μ = self (Int32.ofNat (i + 5), ν) ∧ INV ν := by
  obtain ⟨x1, x2, x3, x4⟩ := xi4 (xs := xs) hL hi
  obtain ⟨r, m1, m2, p1, p2, g⟩ := ok_factor h (xs (i + 1)) (xs (i + 2))
  refine ⟨m2, ?_, g⟩
  simp only [b_L_law_643, x1, x2, x3, x4, p1, p2, Option.bind_some, if_true, ofN5]
theorem lc_13 {L i : Nat} {xs : Nat → Int32} (hL : L ≤ 2560) (hi : i + 5 ≤ L) {μ : Mem} (h : INV μ) (self : (Int32 × Mem) → Option (Int32 × Mem)) : ∃ ν, b_L_law_677 SX L xs self 0 81 (Int32.ofNat i) μ = self (Int32.ofNat (i + 5), ν) ∧ INV ν := by
  obtain ⟨x1, x2, x3, x4⟩ := xi4 (xs := xs) hL hi
  obtain ⟨r, m1, m2, p1, p2, g⟩ := ok_push h (xs (i + 1)) (xs (i + 2))
  refine ⟨m2, ?_, g⟩
  simp only [b_L_law_677, x1, x2, x3, x4, p1, p2, Option.bind_some, if_true, ofN5]
theorem lc_14 {L i : Nat} {xs : Nat → Int32} (hL : L ≤ 2560) (hi : i + 5 ≤ L) {μ : Mem} (h : INV μ) (self : (Int32 × Mem) → Option (Int32 × Mem)) : ∃ ν, b_L_law_711 SX L xs self 0 81 (Int32.ofNat i) μ = self (Int32.ofNat (i + 5), ν) ∧ INV ν := by
  obtain ⟨x1, x2, x3, x4⟩ := xi4 (xs := xs) hL hi
  obtain ⟨r, m1, m2, p1, p2, g⟩ := ok_lifted h 
  refine ⟨m2, ?_, g⟩
  simp only [b_L_law_711, x1, x2, x3, x4, p1, p2, Option.bind_some, if_true, ofN5]
theorem lc_15 {L i : Nat} {xs : Nat → Int32} (hL : L ≤ 2560) (hi : i + 5 ≤ L) {μ : Mem} (h : INV μ) (self : (Int32 × Mem) → Option (Int32 × Mem)) : ∃ ν, b_L_law_724 SX L xs self 0 81 (Int32.ofNat i) μ = self (Int32.ofNat (i + 5), ν) ∧ INV ν := by
  obtain ⟨x1, x2, x3, x4⟩ := xi4 (xs := xs) hL hi
  obtain ⟨r, m1, m2, p1, p2, g⟩ := ok_mat h (xs (i + 1))
  refine ⟨m2, ?_, g⟩
  simp only [b_L_law_724, x1, x2, x3, x4, p1, p2, Option.bind_some, if_true, ofN5]
theorem lc_16 {L i : Nat} {xs : Nat → Int32} (hL : L ≤ 2560) (hi : i + 5 ≤ L) {μ : Mem} (h : INV μ) (self : (Int32 × Mem) → Option (Int32 × Mem)) : ∃ ν, b_L_law_747 SX L xs self 0 81 (Int32.ofNat i) μ = self (Int32.ofNat (i + 5), ν) ∧ INV ν := by
  obtain ⟨x1, x2, x3, x4⟩ := xi4 (xs := xs) hL hi
  obtain ⟨r, m1, m2, p1, p2, g⟩ := ok_why h 
  refine ⟨m2, ?_, g⟩
  simp only [b_L_law_747, x1, x2, x3, x4, p1, p2, Option.bind_some, if_true, ofN5]
theorem lc_17 {L i : Nat} {xs : Nat → Int32} (hL : L ≤ 2560) (hi : i + 5 ≤ L) {μ : Mem} (h : INV μ) (self : (Int32 × Mem) → Option (Int32 × Mem)) : ∃ ν, b_L_law_760 SX L xs self 0 81 (Int32.ofNat i) μ = self (Int32.ofNat (i + 5), ν) ∧ INV ν := by
  obtain ⟨x1, x2, x3, x4⟩ := xi4 (xs := xs) hL hi
  obtain ⟨r, m1, m2, p1, p2, g⟩ := ok_most h 
  refine ⟨m2, ?_, g⟩
  simp only [b_L_law_760, x1, x2, x3, x4, p1, p2, Option.bind_some, if_true, ofN5]
theorem lc_18 {L i : Nat} {xs : Nat → Int32} (hL : L ≤ 2560) (hi : i + 5 ≤ L) {μ : Mem} (h : INV μ) (self : (Int32 × Mem) → Option (Int32 × Mem)) : ∃ ν, b_L_law_773 SX L xs self 0 81 (Int32.ofNat i) μ = self (Int32.ofNat (i + 5), ν) ∧ INV ν := by
  obtain ⟨x1, x2, x3, x4⟩ := xi4 (xs := xs) hL hi
  obtain ⟨r, m1, m2, p1, p2, g⟩ := ok_where h (xs (i + 1))
  refine ⟨m2, ?_, g⟩
  simp only [b_L_law_773, x1, x2, x3, x4, p1, p2, Option.bind_some, if_true, ofN5]
theorem lc_19 {L i : Nat} {xs : Nat → Int32} (hL : L ≤ 2560) (hi : i + 5 ≤ L) {μ : Mem} (h : INV μ) (self : (Int32 × Mem) → Option (Int32 × Mem)) : ∃ ν, b_L_law_796 SX L xs self 0 81 (Int32.ofNat i) μ = self (Int32.ofNat (i + 5), ν) ∧ INV ν := by
  obtain ⟨x1, x2, x3, x4⟩ := xi4 (xs := xs) hL hi
  obtain ⟨r, m1, m2, p1, p2, g⟩ := ok_farthest h (xs (i + 1))
  refine ⟨m2, ?_, g⟩
  simp only [b_L_law_796, x1, x2, x3, x4, p1, p2, Option.bind_some, if_true, ofN5]
theorem lc_20 {L i : Nat} {xs : Nat → Int32} (hL : L ≤ 2560) (hi : i + 5 ≤ L) {μ : Mem} (h : INV μ) (self : (Int32 × Mem) → Option (Int32 × Mem)) : ∃ ν, b_L_law_819 SX L xs self 0 81 (Int32.ofNat i) μ = self (Int32.ofNat (i + 5), ν) ∧ INV ν := by
  obtain ⟨x1, x2, x3, x4⟩ := xi4 (xs := xs) hL hi
  obtain ⟨r, m1, m2, p1, p2, g⟩ := ok_way h (xs (i + 1)) (xs (i + 2))
  refine ⟨m2, ?_, g⟩
  simp only [b_L_law_819, x1, x2, x3, x4, p1, p2, Option.bind_some, if_true, ofN5]
theorem lc_21 {L i : Nat} {xs : Nat → Int32} (hL : L ≤ 2560) (hi : i + 5 ≤ L) {μ : Mem} (h : INV μ) (self : (Int32 × Mem) → Option (Int32 × Mem)) : ∃ ν, b_L_law_852 SX L xs self 0 81 (Int32.ofNat i) μ = self (Int32.ofNat (i + 5), ν) ∧ INV ν := by
  obtain ⟨x1, x2, x3, x4⟩ := xi4 (xs := xs) hL hi
  obtain ⟨r, m1, m2, p1, p2, g⟩ := ok_ballast h (xs (i + 1))
  refine ⟨m2, ?_, g⟩
  simp only [b_L_law_852, x1, x2, x3, x4, p1, p2, Option.bind_some, if_true, ofN5]
theorem lc_22 {L i : Nat} {xs : Nat → Int32} (hL : L ≤ 2560) (hi : i + 5 ≤ L) {μ : Mem} (h : INV μ) (self : (Int32 × Mem) → Option (Int32 × Mem)) : ∃ ν, b_L_law_875 SX L xs self 0 81 (Int32.ofNat i) μ = self (Int32.ofNat (i + 5), ν) ∧ INV ν := by
  obtain ⟨x1, x2, x3, x4⟩ := xi4 (xs := xs) hL hi
  obtain ⟨r, m1, m2, p1, p2, g⟩ := ok_feed h (xs (i + 1))
  refine ⟨m2, ?_, g⟩
  simp only [b_L_law_875, x1, x2, x3, x4, p1, p2, Option.bind_some, if_true, ofN5]
theorem lc_23 {L i : Nat} {xs : Nat → Int32} (hL : L ≤ 2560) (hi : i + 5 ≤ L) {μ : Mem} (h : INV μ) (self : (Int32 × Mem) → Option (Int32 × Mem)) : ∃ ν, b_L_law_898 SX L xs self 0 81 (Int32.ofNat i) μ = self (Int32.ofNat (i + 5), ν) ∧ INV ν := by
  obtain ⟨x1, x2, x3, x4⟩ := xi4 (xs := xs) hL hi
  obtain ⟨r, m1, m2, p1, p2, g⟩ := ok_clear h 
  refine ⟨m2, ?_, g⟩
  simp only [b_L_law_898, x1, x2, x3, x4, p1, p2, Option.bind_some, if_true, ofN5]
theorem lc_24 {L i : Nat} {xs : Nat → Int32} (hL : L ≤ 2560) (hi : i + 5 ≤ L) {μ : Mem} (h : INV μ) (self : (Int32 × Mem) → Option (Int32 × Mem)) : ∃ ν, b_L_law_911 SX L xs self 0 81 (Int32.ofNat i) μ = self (Int32.ofNat (i + 5), ν) ∧ INV ν := by
  obtain ⟨x1, x2, x3, x4⟩ := xi4 (xs := xs) hL hi
  obtain ⟨r, m1, m2, p1, p2, g⟩ := ok_plan h 
  refine ⟨m2, ?_, g⟩
  simp only [b_L_law_911, x1, x2, x3, x4, p1, p2, Option.bind_some, if_true, ofN5]
theorem lc_25 {L i : Nat} {xs : Nat → Int32} (hL : L ≤ 2560) (hi : i + 5 ≤ L) {μ : Mem} (h : INV μ) (self : (Int32 × Mem) → Option (Int32 × Mem)) : ∃ ν, b_L_law_924 SX L xs self 0 81 (Int32.ofNat i) μ = self (Int32.ofNat (i + 5), ν) ∧ INV ν := by
  obtain ⟨x1, x2, x3, x4⟩ := xi4 (xs := xs) hL hi
  obtain ⟨r, m1, m2, p1, p2, g⟩ := ok_checked h (xs (i + 1))
  refine ⟨m2, ?_, g⟩
  simp only [b_L_law_924, x1, x2, x3, x4, p1, p2, Option.bind_some, if_true, ofN5]
theorem lc_26 {L i : Nat} {xs : Nat → Int32} (hL : L ≤ 2560) (hi : i + 5 ≤ L) {μ : Mem} (h : INV μ) (self : (Int32 × Mem) → Option (Int32 × Mem)) : ∃ ν, b_L_law_947 SX L xs self 0 81 (Int32.ofNat i) μ = self (Int32.ofNat (i + 5), ν) ∧ INV ν := by
  obtain ⟨x1, x2, x3, x4⟩ := xi4 (xs := xs) hL hi
  obtain ⟨r, m1, m2, p1, p2, g⟩ := ok_spare h 
  refine ⟨m2, ?_, g⟩
  simp only [b_L_law_947, x1, x2, x3, x4, p1, p2, Option.bind_some, if_true, ofN5]
theorem lc_27 {L i : Nat} {xs : Nat → Int32} (hL : L ≤ 2560) (hi : i + 5 ≤ L) {μ : Mem} (h : INV μ) (self : (Int32 × Mem) → Option (Int32 × Mem)) : ∃ ν, b_L_law_961 SX L xs self 0 81 (Int32.ofNat i) μ = self (Int32.ofNat (i + 5), ν) ∧ INV ν := by
  obtain ⟨x1, x2, x3, x4⟩ := xi4 (xs := xs) hL hi
  obtain ⟨r, m1, m2, p1, p2, g⟩ := ok_done h 
  refine ⟨m2, ?_, g⟩
  simp only [b_L_law_961, x1, x2, x3, x4, p1, p2, Option.bind_some, if_true, ofN5]
theorem lc_28 {L i : Nat} {xs : Nat → Int32} (hL : L ≤ 2560) (hi : i + 5 ≤ L) {μ : Mem} (h : INV μ) (self : (Int32 × Mem) → Option (Int32 × Mem)) : ∃ ν, b_L_law_974 SX L xs self 0 81 (Int32.ofNat i) μ = self (Int32.ofNat (i + 5), ν) ∧ INV ν := by
  obtain ⟨x1, x2, x3, x4⟩ := xi4 (xs := xs) hL hi
  obtain ⟨r, m1, m2, p1, p2, g⟩ := ok_backward h 
  refine ⟨m2, ?_, g⟩
  simp only [b_L_law_974, x1, x2, x3, x4, p1, p2, Option.bind_some, if_true, ofN5]
theorem lc_29 {L i : Nat} {xs : Nat → Int32} (hL : L ≤ 2560) (hi : i + 5 ≤ L) {μ : Mem} (h : INV μ) (self : (Int32 × Mem) → Option (Int32 × Mem)) : ∃ ν, b_L_law_987 SX L xs self 0 81 (Int32.ofNat i) μ = self (Int32.ofNat (i + 5), ν) ∧ INV ν := by
  obtain ⟨x1, x2, x3, x4⟩ := xi4 (xs := xs) hL hi
  obtain ⟨r, m1, m2, p1, p2, g⟩ := ok_seen h (xs (i + 1)) (xs (i + 2)) (xs (i + 3))
  refine ⟨m2, ?_, g⟩
  simp only [b_L_law_987, x1, x2, x3, x4, p1, p2, Option.bind_some, if_true, ofN5]
theorem lc_30 {L i : Nat} {xs : Nat → Int32} (hL : L ≤ 2560) (hi : i + 5 ≤ L) {μ : Mem} (h : INV μ) (self : (Int32 × Mem) → Option (Int32 × Mem)) : ∃ ν, b_L_law_1030 SX L xs self 0 81 (Int32.ofNat i) μ = self (Int32.ofNat (i + 5), ν) ∧ INV ν := by
  obtain ⟨x1, x2, x3, x4⟩ := xi4 (xs := xs) hL hi
  obtain ⟨r, m1, m2, p1, p2, g⟩ := ok_lay h (xs (i + 1)) (xs (i + 2))
  refine ⟨m2, ?_, g⟩
  simp only [b_L_law_1030, x1, x2, x3, x4, p1, p2, Option.bind_some, if_true, ofN5]
theorem lc_31 {L i : Nat} {xs : Nat → Int32} (hL : L ≤ 2560) (hi : i + 5 ≤ L) {μ : Mem} (h : INV μ) (self : (Int32 × Mem) → Option (Int32 × Mem)) : ∃ ν, b_L_law_1063 SX L xs self 0 81 (Int32.ofNat i) μ = self (Int32.ofNat (i + 5), ν) ∧ INV ν := by
  obtain ⟨x1, x2, x3, x4⟩ := xi4 (xs := xs) hL hi
  obtain ⟨r, m1, m2, p1, p2, g⟩ := ok_book h 
  refine ⟨m2, ?_, g⟩
  simp only [b_L_law_1063, x1, x2, x3, x4, p1, p2, Option.bind_some, if_true, ofN5]
theorem lc_32 {L i : Nat} {xs : Nat → Int32} (hL : L ≤ 2560) (hi : i + 5 ≤ L) {μ : Mem} (h : INV μ) (self : (Int32 × Mem) → Option (Int32 × Mem)) : ∃ ν, b_L_law_1076 SX L xs self 0 81 (Int32.ofNat i) μ = self (Int32.ofNat (i + 5), ν) ∧ INV ν := by
  obtain ⟨x1, x2, x3, x4⟩ := xi4 (xs := xs) hL hi
  obtain ⟨r, m1, m2, p1, p2, g⟩ := ok_booked h (xs (i + 1)) (xs (i + 2))
  refine ⟨m2, ?_, g⟩
  simp only [b_L_law_1076, x1, x2, x3, x4, p1, p2, Option.bind_some, if_true, ofN5]
theorem lc_33 {L i : Nat} {xs : Nat → Int32} (hL : L ≤ 2560) (hi : i + 5 ≤ L) {μ : Mem} (h : INV μ) (self : (Int32 × Mem) → Option (Int32 × Mem)) : ∃ ν, b_L_law_1109 SX L xs self 0 81 (Int32.ofNat i) μ = self (Int32.ofNat (i + 5), ν) ∧ INV ν := by
  obtain ⟨x1, x2, x3, x4⟩ := xi4 (xs := xs) hL hi
  obtain ⟨r, m1, m2, p1, p2, g⟩ := ok_heaviest h 
  refine ⟨m2, ?_, g⟩
  simp only [b_L_law_1109, x1, x2, x3, x4, p1, p2, Option.bind_some, if_true, ofN5]
theorem lc_34 {L i : Nat} {xs : Nat → Int32} (hL : L ≤ 2560) (hi : i + 5 ≤ L) {μ : Mem} (h : INV μ) (self : (Int32 × Mem) → Option (Int32 × Mem)) : ∃ ν, b_L_law_1122 SX L xs self 0 81 (Int32.ofNat i) μ = self (Int32.ofNat (i + 5), ν) ∧ INV ν := by
  obtain ⟨x1, x2, x3, x4⟩ := xi4 (xs := xs) hL hi
  obtain ⟨r, m1, m2, p1, p2, g⟩ := ok_list h (xs (i + 1)) (xs (i + 2))
  refine ⟨m2, ?_, g⟩
  simp only [b_L_law_1122, x1, x2, x3, x4, p1, p2, Option.bind_some, if_true, ofN5]
theorem lc_35 {L i : Nat} {xs : Nat → Int32} (hL : L ≤ 2560) (hi : i + 5 ≤ L) {μ : Mem} (h : INV μ) (self : (Int32 × Mem) → Option (Int32 × Mem)) : ∃ ν, b_L_law_1155 SX L xs self 0 81 (Int32.ofNat i) μ = self (Int32.ofNat (i + 5), ν) ∧ INV ν := by
  obtain ⟨x1, x2, x3, x4⟩ := xi4 (xs := xs) hL hi
  obtain ⟨r, m1, m2, p1, p2, g⟩ := ok_set h (xs (i + 1)) (xs (i + 2)) (((xs (i + 3)).toInt64 <<< ((32 : Int32).toInt64 &&& 63)) ||| ((xs (i + 4)).toInt64 &&& 4294967295))
  refine ⟨m2, ?_, g⟩
  simp only [b_L_law_1155, x1, x2, x3, x4, p1, p2, Option.bind_some, if_true, ofN5]
theorem lc_36 {L i : Nat} {xs : Nat → Int32} (hL : L ≤ 2560) (hi : i + 5 ≤ L) {μ : Mem} (h : INV μ) (self : (Int32 × Mem) → Option (Int32 × Mem)) : ∃ ν, b_L_law_1228 SX L xs self 0 81 (Int32.ofNat i) μ = self (Int32.ofNat (i + 5), ν) ∧ INV ν := by
  obtain ⟨x1, x2, x3, x4⟩ := xi4 (xs := xs) hL hi
  obtain ⟨r, m1, m2, p1, p2, g⟩ := ok_get h (xs (i + 1)) (xs (i + 2))
  refine ⟨m2, ?_, g⟩
  simp only [b_L_law_1228, x1, x2, x3, x4, p1, p2, Option.bind_some, if_true, ofN5]
theorem lc_37 {L i : Nat} {xs : Nat → Int32} (hL : L ≤ 2560) (hi : i + 5 ≤ L) {μ : Mem} (h : INV μ) (self : (Int32 × Mem) → Option (Int32 × Mem)) : ∃ ν, b_L_law_1262 SX L xs self 0 81 (Int32.ofNat i) μ = self (Int32.ofNat (i + 5), ν) ∧ INV ν := by
  obtain ⟨x1, x2, x3, x4⟩ := xi4 (xs := xs) hL hi
  obtain ⟨r, m1, m2, p1, p2, g⟩ := ok_count h (xs (i + 1))
  refine ⟨m2, ?_, g⟩
  simp only [b_L_law_1262, x1, x2, x3, x4, p1, p2, Option.bind_some, if_true, ofN5]
theorem lc_38 {L i : Nat} {xs : Nat → Int32} (hL : L ≤ 2560) (hi : i + 5 ≤ L) {μ : Mem} (h : INV μ) (self : (Int32 × Mem) → Option (Int32 × Mem)) : ∃ ν, b_L_law_1285 SX L xs self 0 81 (Int32.ofNat i) μ = self (Int32.ofNat (i + 5), ν) ∧ INV ν := by
  obtain ⟨x1, x2, x3, x4⟩ := xi4 (xs := xs) hL hi
  obtain ⟨r, m1, m2, p1, p2, g⟩ := ok_image h 
  refine ⟨m2, ?_, g⟩
  simp only [b_L_law_1285, x1, x2, x3, x4, p1, p2, Option.bind_some, if_true, ofN5]
theorem lc_39 {L i : Nat} {xs : Nat → Int32} (hL : L ≤ 2560) (hi : i + 5 ≤ L) {μ : Mem} (h : INV μ) (self : (Int32 × Mem) → Option (Int32 × Mem)) : ∃ ν, b_L_law_1298 SX L xs self 0 81 (Int32.ofNat i) μ = self (Int32.ofNat (i + 5), ν) ∧ INV ν := by
  obtain ⟨x1, x2, x3, x4⟩ := xi4 (xs := xs) hL hi
  obtain ⟨r, m1, m2, p1, p2, g⟩ := ok_undo h 
  refine ⟨m2, ?_, g⟩
  simp only [b_L_law_1298, x1, x2, x3, x4, p1, p2, Option.bind_some, if_true, ofN5]
theorem law_st {L i : Nat} {xs : Nat → Int32} (hL : L ≤ 2560) (hi : i + 5 ≤ L) {μ : Mem} (h : INV μ) (self : (Int32 × Mem) → Option (Int32 × Mem)) : ∃ ν, l_L_law_18 SX L xs 0 81 self (Int32.ofNat i, μ) = self (Int32.ofNat (i + 5), ν) ∧ INV ν := by
  have x0 : xI L xs (Int32.ofNat i) = some (xs i) := xiN (j := 0) hL (by omega)
  have lt : (Int32.ofNat L - 5 < Int32.ofNat i) = False := eq_false (fun g => by
    have e : Int32.ofNat L - 5 = Int32.ofInt ((L : Int) - 5) := y32s L 5
    rw [e] at g
    have := (ylt32 ((L : Int) - 5) (i : Int) (by omega) (by omega) (by omega) (by omega)).mp g
    omega)
  unfold l_L_law_18
  simp only [lt, if_false, x0, Option.bind_some]
  generalize xs i &&& 63 = y
  by_cases e0 : y = 0
  · simp only [if_pos e0]; exact lc_0 hL hi h self
  simp only [if_neg e0]
  by_cases e1 : y = 1
  · simp only [if_pos e1]; exact lc_1 hL hi h self
  simp only [if_neg e1]
  by_cases e2 : y = 2
  · simp only [if_pos e2]; exact lc_2 hL hi h self
  simp only [if_neg e2]
  by_cases e3 : y = 3
  · simp only [if_pos e3]; exact lc_3 hL hi h self
  simp only [if_neg e3]
  by_cases e4 : y = 4
  · simp only [if_pos e4]; exact lc_4 hL hi h self
  simp only [if_neg e4]
  by_cases e5 : y = 5
  · simp only [if_pos e5]; exact lc_5 hL hi h self
  simp only [if_neg e5]
  by_cases e6 : y = 6
  · simp only [if_pos e6]; exact lc_6 hL hi h self
  simp only [if_neg e6]
  by_cases e7 : y = 7
  · simp only [if_pos e7]; exact lc_7 hL hi h self
  simp only [if_neg e7]
  by_cases e8 : y = 8
  · simp only [if_pos e8]; exact lc_8 hL hi h self
  simp only [if_neg e8]
  by_cases e9 : y = 9
  · simp only [if_pos e9]; exact lc_9 hL hi h self
  simp only [if_neg e9]
  by_cases e10 : y = 10
  · simp only [if_pos e10]; exact lc_10 hL hi h self
  simp only [if_neg e10]
  by_cases e11 : y = 11
  · simp only [if_pos e11]; exact lc_11 hL hi h self
  simp only [if_neg e11]
  by_cases e12 : y = 12
  · simp only [if_pos e12]; exact lc_12 hL hi h self
  simp only [if_neg e12]
  by_cases e13 : y = 13
  · simp only [if_pos e13]; exact lc_13 hL hi h self
  simp only [if_neg e13]
  by_cases e14 : y = 14
  · simp only [if_pos e14]; exact lc_14 hL hi h self
  simp only [if_neg e14]
  by_cases e15 : y = 15
  · simp only [if_pos e15]; exact lc_15 hL hi h self
  simp only [if_neg e15]
  by_cases e16 : y = 16
  · simp only [if_pos e16]; exact lc_16 hL hi h self
  simp only [if_neg e16]
  by_cases e17 : y = 17
  · simp only [if_pos e17]; exact lc_17 hL hi h self
  simp only [if_neg e17]
  by_cases e18 : y = 18
  · simp only [if_pos e18]; exact lc_18 hL hi h self
  simp only [if_neg e18]
  by_cases e19 : y = 19
  · simp only [if_pos e19]; exact lc_19 hL hi h self
  simp only [if_neg e19]
  by_cases e20 : y = 20
  · simp only [if_pos e20]; exact lc_20 hL hi h self
  simp only [if_neg e20]
  by_cases e21 : y = 21
  · simp only [if_pos e21]; exact lc_21 hL hi h self
  simp only [if_neg e21]
  by_cases e22 : y = 22
  · simp only [if_pos e22]; exact lc_22 hL hi h self
  simp only [if_neg e22]
  by_cases e23 : y = 23
  · simp only [if_pos e23]; exact lc_23 hL hi h self
  simp only [if_neg e23]
  by_cases e24 : y = 24
  · simp only [if_pos e24]; exact lc_24 hL hi h self
  simp only [if_neg e24]
  by_cases e25 : y = 25
  · simp only [if_pos e25]; exact lc_25 hL hi h self
  simp only [if_neg e25]
  by_cases e26 : y = 26
  · simp only [if_pos e26]; exact lc_26 hL hi h self
  simp only [if_neg e26]
  by_cases e27 : y = 27
  · simp only [if_pos e27]; exact lc_27 hL hi h self
  simp only [if_neg e27]
  by_cases e28 : y = 28
  · simp only [if_pos e28]; exact lc_28 hL hi h self
  simp only [if_neg e28]
  by_cases e29 : y = 29
  · simp only [if_pos e29]; exact lc_29 hL hi h self
  simp only [if_neg e29]
  by_cases e30 : y = 30
  · simp only [if_pos e30]; exact lc_30 hL hi h self
  simp only [if_neg e30]
  by_cases e31 : y = 31
  · simp only [if_pos e31]; exact lc_31 hL hi h self
  simp only [if_neg e31]
  by_cases e32 : y = 32
  · simp only [if_pos e32]; exact lc_32 hL hi h self
  simp only [if_neg e32]
  by_cases e33 : y = 33
  · simp only [if_pos e33]; exact lc_33 hL hi h self
  simp only [if_neg e33]
  by_cases e34 : y = 34
  · simp only [if_pos e34]; exact lc_34 hL hi h self
  simp only [if_neg e34]
  by_cases e35 : y = 35
  · simp only [if_pos e35]; exact lc_35 hL hi h self
  simp only [if_neg e35]
  by_cases e36 : y = 36
  · simp only [if_pos e36]; exact lc_36 hL hi h self
  simp only [if_neg e36]
  by_cases e37 : y = 37
  · simp only [if_pos e37]; exact lc_37 hL hi h self
  simp only [if_neg e37]
  by_cases e38 : y = 38
  · simp only [if_pos e38]; exact lc_38 hL hi h self
  simp only [if_neg e38]
  by_cases e39 : y = 39
  · simp only [if_pos e39]; exact lc_39 hL hi h self
  simp only [if_neg e39]
  exact ⟨μ, by rw [ofN5], h⟩
theorem law_lp {L : Nat} {xs : Nat → Int32} (hL : L ≤ 2560) : ∀ m i, L < i + 5 * m + 5 → i ≤ L → ∀ u μ, INV μ → ∃ ν, lpN (l_L_law_18 SX L xs 0 81) (u + m + 1) (Int32.ofNat i, μ) = some (1, ν) := by
  have ex : ∀ i, L < i + 5 → i ≤ L → ∀ self μ, l_L_law_18 SX L xs 0 81 self (Int32.ofNat i, μ) = some (1, μ) := by
    intro i h1 h2 self μ
    have lt : (Int32.ofNat L - 5 < Int32.ofNat i) = True := eq_true (by
      have e : Int32.ofNat L - 5 = Int32.ofInt ((L : Int) - 5) := y32s L 5
      rw [e]
      exact (ylt32 ((L : Int) - 5) (i : Int) (by omega) (by omega) (by omega) (by omega)).mpr (by omega))
    unfold l_L_law_18
    simp only [lt, if_true]
  intro m
  induction m with
  | zero =>
    intro i h1 h2 u μ h
    exact ⟨μ, by rw [zlp]; exact ex i (by omega) h2 _ _⟩
  | succ m ih =>
    intro i h1 h2 u μ h
    rw [show u + (m + 1) + 1 = (u + m + 1) + 1 from rfl, zlp]
    by_cases t : L < i + 5
    · exact ⟨μ, ex i t h2 _ _⟩
    · obtain ⟨ν1, p1, h1'⟩ := law_st (xs := xs) (i := i) hL (by omega) h (lpN (l_L_law_18 SX L xs 0 81) (u + m + 1))
      rw [p1]
      exact ih (i + 5) (by omega) (by omega) u ν1 h1'
def c00 (g i : Nat) : Int := if g = 0 then ([10, -10, -10, 10] : List Int).getD i 0 else if g = 1 then ([10, 10, -10, -10] : List Int).getD i 0 else if g = 2 then 9999 else if g = 8 then ([0, 5, 0, 0, 50, 0, 0, 0, 0, 0, 100, 100, 100, 100] : List Int).getD i 0 else if g = 9 ∨ g = 10 ∨ g = 11 then -1 else 0
theorem bc00 : BC c00 := by
  refine ⟨?_, ?_, ?_, ?_, fun q hq => ?_, ?_⟩
  · unfold Bxy; decide
  · decide
  · decide
  · decide
  · have e : q = 0 ∨ q = 1 ∨ q = 2 := by omega
    rcases e with rfl | rfl | rfl <;> exact ⟨by decide, fun i _ => by show (-1 : Int) ≤ -1 ∧ (-1 : Int) ≤ 9999; decide⟩
  · decide
theorem cc00 : CC 1 c00 μX := by
  refine ⟨⟨?_, ?_⟩, ?_, ?_, ⟨?_, ?_, ?_, ?_, ?_⟩, fun q hq => ?_, ?_⟩
  · decide +kernel
  · decide +kernel
  · unfold Rw; decide +kernel
  · unfold PD; decide +kernel
  · unfold Rw; decide +kernel
  · unfold Rw; decide +kernel
  · unfold Rw; decide +kernel
  · unfold Rw; decide +kernel
  · unfold QD; decide +kernel
  · have e : q = 0 ∨ q = 1 ∨ q = 2 := by omega
    unfold Rw
    rcases e with rfl | rfl | rfl <;> exact ⟨by decide +kernel, by decide +kernel⟩
  · unfold Rw; decide +kernel
theorem mm00 : MM c00 μX := by
  refine ⟨?_, ⟨?_, ?_, ?_, ?_, ?_⟩, fun q hq => ?_, ?_⟩
  · decide +kernel
  · decide +kernel
  · unfold Rw; decide +kernel
  · unfold Rw; decide +kernel
  · unfold Rw; decide +kernel
  · unfold Rw; decide +kernel
  · have e : q = 0 ∨ q = 1 ∨ q = 2 := by omega
    rcases e with rfl | rfl | rfl
    · exact ⟨by decide +kernel, fun _ => 0, fun i hi => absurd hi (Nat.not_lt_zero _), fun i j _ hj => absurd hj (Nat.not_lt_zero _), fun r _ h => absurd rfl h⟩
    · exact ⟨by decide +kernel, fun _ => 0, fun i hi => absurd hi (Nat.not_lt_zero _), fun i j _ hj => absurd hj (Nat.not_lt_zero _), fun r _ h => absurd rfl h⟩
    · exact ⟨by decide +kernel, fun _ => 0, fun i hi => absurd hi (Nat.not_lt_zero _), fun i j _ hj => absurd hj (Nat.not_lt_zero _), fun r _ h => absurd rfl h⟩
  · unfold Rw; decide +kernel
theorem inv00 : INV μX := by
  refine ⟨⟨c00, bc00, cc00, mm00⟩, Or.inl ⟨by decide +kernel, by decide +kernel⟩, ⟨0, by decide, by decide +kernel, by decide +kernel, fun i hi => by omega⟩, ⟨0, by decide, by decide +kernel, by decide +kernel, fun i hi => by omega⟩, ⟨0, by decide, by decide +kernel, by decide +kernel, fun i hi => by omega⟩, ?_⟩
  intro l hl
  have e : l = 0 ∨ l = 1 ∨ l = 2 ∨ l = 3 := by omega
  rcases e with rfl | rfl | rfl | rfl <;> exact ⟨by decide +kernel, Or.inl (by decide +kernel), fun i _ => rfl⟩
theorem pure_main (L : Nat) (hL : L ≤ 2560) (xs : Nat → Int32) : ∃ X : Int32 × Mem, k_Z L xs = some X ∧ X.1 = 1 := by
  obtain ⟨ν, p⟩ := law_lp (xs := xs) hL 512 0 (by omega) (by omega) 4487 μX inv00
  exact ⟨(1, ν), p, rfl⟩

