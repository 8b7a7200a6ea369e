/-- the reference's image -/
def MIm (c : Nat → Nat → Int) (μ : Mem) : Prop := (∀ i, i < 4 → μ.1 91 (3 * i) = Int32.ofInt (c 0 i) ∧ μ.1 91 (3 * i + 1) = Int32.ofInt (c 1 i) ∧ μ.1 91 (3 * i + 2) = Int32.ofInt (c 2 i)) ∧ (μ.1 91 121 = Int32.ofInt (c 7 0) ∧ ∀ i, i < 8 → μ.1 91 (12 + i) = Int32.ofInt (c 3 i) ∧ μ.1 91 (20 + i) = Int32.ofInt (c 4 i) ∧ μ.1 91 (28 + i) = Int32.ofInt (c 5 i) ∧ μ.1 91 (36 + i) = Int32.ofInt (c 6 i)) ∧ (∀ q, q < 3 → μ.1 91 (118 + q) = Int32.ofInt (c 12 q) ∧ Ch (c (9 + q)) (c 12 q).toNat (fun i => μ.1 91 (44 + (10 * q + i))) (fun i => μ.1 91 (74 + (10 * q + i)))) ∧ (∀ i, i < 14 → μ.1 91 (104 + i) = Int32.ofInt (c 8 i))
def IM (μ : Mem) : Prop := (μ.1 0 11 = 0 ∧ μ.1 81 11 = 0) ∨ (μ.1 0 11 = 1 ∧ μ.1 81 11 = 1 ∧ ∃ c, BC c ∧ CC 19 c μ ∧ MIm c μ)
/-- THE TAPE -/
def TP (μ : Mem) : Prop := ∃ n : Nat, n ≤ 100 ∧ μ.1 61 1 = Int32.ofNat n ∧ μ.1 81 23 = Int32.ofNat n ∧ ∀ i, i < n → ∃ v : Nat, 1 ≤ v ∧ v ≤ 127 ∧ μ.1 62 i = Int32.ofNat v ∧ μ.1 98 i = Int32.ofNat v
/-- which dial a step turns, and the most that it may be put to -/
def wOf (k : Nat) : Nat := if k = 0 ∨ k = 3 then 3 else if k = 1 then 0 else if k = 2 then 1 else 6
def mOf (k : Nat) : Nat := if k = 0 ∨ k = 3 then 9999 else if k = 1 then 19 else if k = 2 then 60 else 9
/-- the PLAN -/
def PL (μ : Mem) : Prop := ∃ n : Nat, n ≤ 25 ∧ μ.1 63 2 = Int32.ofNat n ∧ μ.1 81 24 = Int32.ofNat n ∧ ∀ i, i < n → ∃ k v : Nat, k < 5 ∧ v ≤ mOf k ∧ μ.1 64 i = Int32.ofNat (wOf k) ∧ μ.1 65 i = Int32.ofNat v ∧ μ.1 99 i = Int32.ofNat k ∧ μ.1 100 i = Int32.ofNat v
/-- the BOOK -/
def BK (μ : Mem) : Prop := ∃ n : Nat, n ≤ 8 ∧ μ.1 70 3 = Int32.ofNat n ∧ μ.1 81 39 = Int32.ofNat n ∧ ∀ i, i < n → ∃ l d r : Nat, l ≤ 9999 ∧ d ≤ 19 ∧ r ≤ 60 ∧ μ.1 71 i = Int32.ofNat l ∧ μ.1 72 i = Int32.ofNat d ∧ μ.1 73 i = Int32.ofNat r ∧ μ.1 107 (3 * i) = Int32.ofNat l ∧ μ.1 107 (3 * i + 1) = Int32.ofNat d ∧ μ.1 107 (3 * i + 2) = Int32.ofNat r
/-- the LISTS -/
def RW (μ : Mem) : Prop := ∀ l, l < 4 → μ.1 80 l = μ.1 105 l ∧ (μ.1 80 l = -1 ∨ ∃ n : Nat, n ≤ 30 ∧ μ.1 80 l = Int32.ofNat n) ∧ ∀ i, i < 30 → μ.2 (76 + l) i = μ.2 106 (30 * l + i)
def INV (μ : Mem) : Prop := (∃ c, BC c ∧ CC 1 c μ ∧ MM c μ) ∧ IM μ ∧ TP μ ∧ PL μ ∧ BK μ ∧ RW μ
theorem CC.f {k : Nat} {c : Nat → Nat → Int} {μ ν : Mem} {P J : Nat → Prop} (h : CC k c μ) (f : FM P J μ ν) (hP : ∀ q, k ≤ q → q ≤ k + 17 → q ≠ 81 ∧ ¬ P q) : CC k c ν :=
  h.w (fun q => q = 81 ∨ P q) (fun q hq => f.1 q (fun e => hq (Or.inl e)) (fun e => hq (Or.inr e))) (fun q h1 h2 e => by
    rcases e with e | e
    · exact (hP q h1 h2).1 e
    · exact (hP q h1 h2).2 e)
theorem Fr.fm {P : Nat → Prop} {μ ν : Mem} (h : Fr P μ ν) (h81 : ¬ P 81) : FM P (fun _ => False) μ ν := ⟨fun k _ hk => h k hk, fun j _ => ⟨by rw [(h 81 h81).1], by rw [(h 81 h81).2]⟩⟩
theorem MIm.f {c : Nat → Nat → Int} {μ ν : Mem} {P J : Nat → Prop} (h : MIm c μ) (f : FM P J μ ν) (hP : ¬ P 91) : MIm c ν := by
  unfold MIm at *; rw [(f.1 91 (by decide) hP).1]; exact h
theorem IM.f {μ ν : Mem} {P J : Nat → Prop} (h : IM μ) (f : FM P J μ ν) (h0 : ¬ P 0) (hP : ∀ q, 19 ≤ q → q ≤ 36 → ¬ P q) (h91 : ¬ P 91) (hJ : ¬ J 11) : IM ν := by
  unfold IM at *
  rw [(f.1 0 (by decide) h0).1, (f.2 11 hJ).1]
  rcases h with h | ⟨a, b, c, d, e, g⟩
  · exact Or.inl h
  · exact Or.inr ⟨a, b, c, d, e.f f (fun q h1 h2 => ⟨by omega, hP q h1 (by omega)⟩), g.f f h91⟩
theorem TP.f {μ ν : Mem} {P J : Nat → Prop} (h : TP μ) (f : FM P J μ ν) (h1 : ¬ P 61) (h2 : ¬ P 62) (h3 : ¬ P 98) (hJ : ¬ J 23) : TP ν := by
  unfold TP at *
  rw [(f.1 61 (by decide) h1).1, (f.1 62 (by decide) h2).1, (f.1 98 (by decide) h3).1, (f.2 23 hJ).1]
  exact h
theorem PL.f {μ ν : Mem} {P J : Nat → Prop} (h : PL μ) (f : FM P J μ ν) (h1 : ¬ P 63) (h2 : ¬ P 64) (h3 : ¬ P 65) (h4 : ¬ P 99) (h5 : ¬ P 100) (hJ : ¬ J 24) : PL ν := by
  unfold PL at *
  rw [(f.1 63 (by decide) h1).1, (f.1 64 (by decide) h2).1, (f.1 65 (by decide) h3).1, (f.1 99 (by decide) h4).1, (f.1 100 (by decide) h5).1, (f.2 24 hJ).1]
  exact h
theorem BK.f {μ ν : Mem} {P J : Nat → Prop} (h : BK μ) (f : FM P J μ ν) (hP : ∀ q, 70 ≤ q → q ≤ 73 → ¬ P q) (h5 : ¬ P 107) (hJ : ¬ J 39) : BK ν := by
  unfold BK at *
  rw [(f.1 70 (by decide) (hP _ (by decide) (by decide))).1, (f.1 71 (by decide) (hP _ (by decide) (by decide))).1, (f.1 72 (by decide) (hP _ (by decide) (by decide))).1, (f.1 73 (by decide) (hP _ (by decide) (by decide))).1, (f.1 107 (by decide) h5).1, (f.2 39 hJ).1]
  exact h
theorem RW.f {μ ν : Mem} {P J : Nat → Prop} (h : RW μ) (f : FM P J μ ν) (hP : ∀ q, 76 ≤ q → q ≤ 80 → ¬ P q) (h1 : ¬ P 105) (h2 : ¬ P 106) : RW ν := by
  intro l hl
  have := h l hl
  rw [(f.1 80 (by decide) (hP _ (by decide) (by decide))).1, (f.1 105 (by decide) h1).1, (f.1 106 (by decide) h2).2, (f.1 (76 + l) (by omega) (hP _ (by omega) (by omega))).2]
  exact this
/-- cells and slots that nobody keeps -/
def scP (q : Nat) : Prop := (37 ≤ q ∧ q ≤ 60) ∨ (66 ≤ q ∧ q ≤ 69) ∨ (92 ≤ q ∧ q ≤ 97) ∨ (101 ≤ q ∧ q ≤ 104)
def scJ (j : Nat) : Prop := j = 12 ∨ j = 17 ∨ j = 18 ∨ j = 21 ∨ (29 ≤ j ∧ j ≤ 34)
theorem INV.q {μ ν : Mem} (h : INV μ) (f : FM scP scJ μ ν) : INV ν := by
  obtain ⟨⟨c, b, h1, h2⟩, h3, h4, h5, h6, h7⟩ := h
  refine ⟨⟨c, b, h1.f f (fun q g1 g2 => ⟨by omega, by unfold scP; omega⟩), h2.w f (fun q g1 g2 => by unfold scP; omega) (by unfold scJ; omega)⟩, h3.f f ?_ ?_ ?_ ?_, h4.f f ?_ ?_ ?_ ?_, h5.f f ?_ ?_ ?_ ?_ ?_ ?_, h6.f f ?_ ?_ ?_, h7.f f ?_ ?_ ?_⟩ <;> first | (unfold scP; omega) | (unfold scJ; omega) | (intro q g1 g2; unfold scP; omega)
/-- what both answer is one, and all stays as told -/
def OKop {ρ : Type} (fx fm : Mem → Option (ρ × Mem)) (μ : Mem) : Prop := ∃ r μ1 μ2, fx μ = some (r, μ1) ∧ fm μ1 = some (r, μ2) ∧ INV μ2

