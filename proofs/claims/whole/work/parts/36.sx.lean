def shXL : List Shp := [.inl (11, fun j => ([some 1, some 19, some 37, some 55, some 57, some 61, some 63, some 66, some 69, some 70, some 74, none] : List (Option Nat)).getD j none),
  .inl (2, fun j => ([some 2, some 6, some 11, some 18] : List (Option Nat)).getD j none),
  .inl (4, fun j => ([some 3, some 4, some 5, none, none, none, none, none, none, none, none] : List (Option Nat)).getD j none),
  .inr (.int, 4, fun j => ([] : List (Option Nat)).getD j none),
  .inr (.int, 4, fun j => ([] : List (Option Nat)).getD j none),
  .inr (.int, 4, fun j => ([] : List (Option Nat)).getD j none),
  .inl (5, fun j => ([some 7, some 8, some 9, some 10, none, none, none, none, none, none] : List (Option Nat)).getD j none),
  .inr (.int, 8, fun j => ([] : List (Option Nat)).getD j none),
  .inr (.int, 8, fun j => ([] : List (Option Nat)).getD j none),
  .inr (.int, 8, fun j => ([] : List (Option Nat)).getD j none),
  .inr (.boolean, 8, fun j => ([] : List (Option Nat)).getD j none),
  .inr ((.object "CranePads$Chart"), 3, fun j => ([some 12, some 14, some 16] : List (Option Nat)).getD j none),
  .inl (1, fun j => ([some 13, none] : List (Option Nat)).getD j none),
  .inr (.int, 61, fun j => ([] : List (Option Nat)).getD j none),
  .inl (1, fun j => ([some 15, none] : List (Option Nat)).getD j none),
  .inr (.int, 61, fun j => ([] : List (Option Nat)).getD j none),
  .inl (1, fun j => ([some 17, none] : List (Option Nat)).getD j none),
  .inr (.int, 61, fun j => ([] : List (Option Nat)).getD j none),
  .inr (.int, 14, fun j => ([] : List (Option Nat)).getD j none),
  .inl (2, fun j => ([some 20, some 24, some 29, some 36] : List (Option Nat)).getD j none),
  .inl (4, fun j => ([some 21, some 22, some 23, none, none, none, none, none, none, none, none] : List (Option Nat)).getD j none),
  .inr (.int, 4, fun j => ([] : List (Option Nat)).getD j none),
  .inr (.int, 4, fun j => ([] : List (Option Nat)).getD j none),
  .inr (.int, 4, fun j => ([] : List (Option Nat)).getD j none),
  .inl (5, fun j => ([some 25, some 26, some 27, some 28, none, none, none, none, none, none] : List (Option Nat)).getD j none),
  .inr (.int, 8, fun j => ([] : List (Option Nat)).getD j none),
  .inr (.int, 8, fun j => ([] : List (Option Nat)).getD j none),
  .inr (.int, 8, fun j => ([] : List (Option Nat)).getD j none),
  .inr (.boolean, 8, fun j => ([] : List (Option Nat)).getD j none),
  .inr ((.object "CranePads$Chart"), 3, fun j => ([some 30, some 32, some 34] : List (Option Nat)).getD j none),
  .inl (1, fun j => ([some 31, none] : List (Option Nat)).getD j none),
  .inr (.int, 61, fun j => ([] : List (Option Nat)).getD j none),
  .inl (1, fun j => ([some 33, none] : List (Option Nat)).getD j none),
  .inr (.int, 61, fun j => ([] : List (Option Nat)).getD j none),
  .inl (1, fun j => ([some 35, none] : List (Option Nat)).getD j none),
  .inr (.int, 61, fun j => ([] : List (Option Nat)).getD j none),
  .inr (.int, 14, fun j => ([] : List (Option Nat)).getD j none),
  .inl (2, fun j => ([some 38, some 42, some 47, some 54] : List (Option Nat)).getD j none),
  .inl (4, fun j => ([some 39, some 40, some 41, none, none, none, none, none, none, none, none] : List (Option Nat)).getD j none),
  .inr (.int, 4, fun j => ([] : List (Option Nat)).getD j none),
  .inr (.int, 4, fun j => ([] : List (Option Nat)).getD j none),
  .inr (.int, 4, fun j => ([] : List (Option Nat)).getD j none),
  .inl (5, fun j => ([some 43, some 44, some 45, some 46, none, none, none, none, none, none] : List (Option Nat)).getD j none),
  .inr (.int, 8, fun j => ([] : List (Option Nat)).getD j none),
  .inr (.int, 8, fun j => ([] : List (Option Nat)).getD j none),
  .inr (.int, 8, fun j => ([] : List (Option Nat)).getD j none),
  .inr (.boolean, 8, fun j => ([] : List (Option Nat)).getD j none),
  .inr ((.object "CranePads$Chart"), 3, fun j => ([some 48, some 50, some 52] : List (Option Nat)).getD j none),
  .inl (1, fun j => ([some 49, none] : List (Option Nat)).getD j none),
  .inr (.int, 61, fun j => ([] : List (Option Nat)).getD j none),
  .inl (1, fun j => ([some 51, none] : List (Option Nat)).getD j none),
  .inr (.int, 61, fun j => ([] : List (Option Nat)).getD j none),
  .inl (1, fun j => ([some 53, none] : List (Option Nat)).getD j none),
  .inr (.int, 61, fun j => ([] : List (Option Nat)).getD j none),
  .inr (.int, 14, fun j => ([] : List (Option Nat)).getD j none),
  .inl (3, fun j => ([none, none, none, some 56, none, none, none, none] : List (Option Nat)).getD j none),
  .inr (.long, 4, fun j => ([] : List (Option Nat)).getD j none),
  .inl (7, fun j => ([some 58, some 59, some 60] : List (Option Nat)).getD j none),
  .inr (.int, 61, fun j => ([] : List (Option Nat)).getD j none),
  .inr (.int, 61, fun j => ([] : List (Option Nat)).getD j none),
  .inr (.int, 61, fun j => ([] : List (Option Nat)).getD j none),
  .inl (9, fun j => ([some 62, none, none] : List (Option Nat)).getD j none),
  .inr (.byte, 100, fun j => ([] : List (Option Nat)).getD j none),
  .inl (6, fun j => ([some 64, some 65, none] : List (Option Nat)).getD j none),
  .inr (.int, 25, fun j => ([] : List (Option Nat)).getD j none),
  .inr (.int, 25, fun j => ([] : List (Option Nat)).getD j none),
  .inl (6, fun j => ([some 67, some 68, none] : List (Option Nat)).getD j none),
  .inr (.int, 25, fun j => ([] : List (Option Nat)).getD j none),
  .inr (.int, 25, fun j => ([] : List (Option Nat)).getD j none),
  .inl (10, fun j => ([none, none, none, none, none] : List (Option Nat)).getD j none),
  .inl (0, fun j => ([some 71, some 72, some 73, none] : List (Option Nat)).getD j none),
  .inr (.int, 8, fun j => ([] : List (Option Nat)).getD j none),
  .inr (.int, 8, fun j => ([] : List (Option Nat)).getD j none),
  .inr (.int, 8, fun j => ([] : List (Option Nat)).getD j none),
  .inl (8, fun j => ([some 75, some 80] : List (Option Nat)).getD j none),
  .inr ((.array .long), 4, fun j => ([some 76, some 77, some 78, some 79] : List (Option Nat)).getD j none),
  .inr (.long, 30, fun j => ([] : List (Option Nat)).getD j none),
  .inr (.long, 30, fun j => ([] : List (Option Nat)).getD j none),
  .inr (.long, 30, fun j => ([] : List (Option Nat)).getD j none),
  .inr (.long, 30, fun j => ([] : List (Option Nat)).getD j none),
  .inr (.int, 4, fun j => ([] : List (Option Nat)).getD j none),
  .inl (12, fun j => ([some 82, none, some 83, some 84, some 85, some 86, some 87, some 88, some 89, some 90, some 91, none, none, some 92, some 93, some 94, some 95, none, none, some 96, some 97, none, some 98, none, none, some 99, some 100, some 101, some 102, none, none, none, none, none, none, some 103, some 104, some 105, some 106, none, some 107] : List (Option Nat)).getD j none),
  .inr (.int, 12, fun j => ([] : List (Option Nat)).getD j none),
  .inr (.int, 8, fun j => ([] : List (Option Nat)).getD j none),
  .inr (.int, 8, fun j => ([] : List (Option Nat)).getD j none),
  .inr (.int, 8, fun j => ([] : List (Option Nat)).getD j none),
  .inr (.int, 8, fun j => ([] : List (Option Nat)).getD j none),
  .inr (.int, 3, fun j => ([] : List (Option Nat)).getD j none),
  .inr (.int, 30, fun j => ([] : List (Option Nat)).getD j none),
  .inr (.int, 30, fun j => ([] : List (Option Nat)).getD j none),
  .inr (.int, 14, fun j => ([] : List (Option Nat)).getD j none),
  .inr (.int, 130, fun j => ([] : List (Option Nat)).getD j none),
  .inr (.int, 10, fun j => ([] : List (Option Nat)).getD j none),
  .inr (.long, 10, fun j => ([] : List (Option Nat)).getD j none),
  .inr (.long, 10, fun j => ([] : List (Option Nat)).getD j none),
  .inr (.long, 4, fun j => ([] : List (Option Nat)).getD j none),
  .inr (.int, 1220, fun j => ([] : List (Option Nat)).getD j none),
  .inr (.int, 1220, fun j => ([] : List (Option Nat)).getD j none),
  .inr (.int, 100, fun j => ([] : List (Option Nat)).getD j none),
  .inr (.int, 40, fun j => ([] : List (Option Nat)).getD j none),
  .inr (.int, 40, fun j => ([] : List (Option Nat)).getD j none),
  .inr (.int, 40, fun j => ([] : List (Option Nat)).getD j none),
  .inr (.int, 40, fun j => ([] : List (Option Nat)).getD j none),
  .inr (.int, 14, fun j => ([] : List (Option Nat)).getD j none),
  .inr (.int, 40, fun j => ([] : List (Option Nat)).getD j none),
  .inr (.int, 4, fun j => ([] : List (Option Nat)).getD j none),
  .inr (.long, 120, fun j => ([] : List (Option Nat)).getD j none),
  .inr (.int, 24, fun j => ([] : List (Option Nat)).getD j none)]
def SX : SH := (108, fun k => shXL.getD k (.inl (0, fun _ => none)))
def mxI (k : Nat) : List Int32 := match k with
  | 2 => [0, 0, 0, 1]
  | 3 => [10, (-10), (-10), 10]
  | 4 => [10, 10, (-10), (-10)]
  | 5 => [9999, 9999, 9999, 9999]
  | 13 => List.replicate 61 (-1)
  | 15 => List.replicate 61 (-1)
  | 17 => List.replicate 61 (-1)
  | 18 => [0, 5, 0, 0, 50, 0, 0, 0, 0, 0, 100, 100, 100, 100]
  | 20 => [0, 0, 0, 1]
  | 21 => [10, (-10), (-10), 10]
  | 22 => [10, 10, (-10), (-10)]
  | 23 => [9999, 9999, 9999, 9999]
  | 31 => List.replicate 61 (-1)
  | 33 => List.replicate 61 (-1)
  | 35 => List.replicate 61 (-1)
  | 36 => [0, 5, 0, 0, 50, 0, 0, 0, 0, 0, 100, 100, 100, 100]
  | 38 => [0, 0, 0, 1]
  | 39 => [10, (-10), (-10), 10]
  | 40 => [10, 10, (-10), (-10)]
  | 41 => [9999, 9999, 9999, 9999]
  | 49 => List.replicate 61 (-1)
  | 51 => List.replicate 61 (-1)
  | 53 => List.replicate 61 (-1)
  | 54 => [0, 5, 0, 0, 50, 0, 0, 0, 0, 0, 100, 100, 100, 100]
  | 80 => [(-1), (-1), (-1), (-1)]
  | 82 => [10, 10, 9999, (-10), 10, 9999, (-10), (-10), 9999, 10, (-10), 9999]
  | 90 => [0, 5, 0, 0, 50, 0, 0, 0, 0, 0, 100, 100, 100, 100]
  | 105 => [(-1), (-1), (-1), (-1)]
  | _ => []
def mxL (k : Nat) : List Int64 := match k with
  | 2 => [0, 0, 0, 0, 160000, 0, 0, 1600, 0, 1600, 640000]
  | 20 => [0, 0, 0, 0, 160000, 0, 0, 1600, 0, 1600, 640000]
  | 38 => [0, 0, 0, 0, 160000, 0, 0, 1600, 0, 1600, 640000]
  | _ => []
def μX : Mem := (fun k j => (mxI k).getD j 0, fun k j => (mxL k).getD j 0)
/-- two cells are one -/
def cellSame (a b : Shp) (μ ν : Mem) (k : Nat) : Bool := match a, b with
  | .inl (c, rs), .inl (d, rt) => decide (c = d) && (List.range (nf c)).all fun j => if kR (tyf c j) = true then decide (rs j = rt j) else if tyf c j = .long then decide (μ.2 k j = ν.2 k j) else decide (μ.1 k j = ν.1 k j)
  | .inr (t, n, rs), .inr (u, m, rt) => decide (t = u) && decide (n = m) && (List.range n).all fun j => if kR t = true then decide (rs j = rt j) else if t = .long then decide (μ.2 k j = ν.2 k j) else decide (μ.1 k j = ν.1 k j)
  | _, _ => false
def stOK (σ : STT) : Bool := decide (σ.1.1 = 108) && (List.range 108).all fun k => cellSame (σ.1.2 k) (SX.2 k) σ.2 μX k
theorem at_same {γ : GE} {a b : Shp} {μ ν : Mem} {k : Nat} {H : Heap} (h : cellSame a b μ ν k = true) (hA : va_at (gD γ) vwCl (gb γ + k, celE γ μ k a) H) (hk : ∀ c rs, a = .inl (c, rs) → ∃ C T N, CP c C T N) : va_at (gD γ) vwCl (gb γ + k, celE γ ν k b) H := by
  obtain ⟨c, rs⟩ | ⟨t, n, rs⟩ := a <;> obtain ⟨d, rt⟩ | ⟨u, m, rt⟩ := b
  · simp only [cellSame, Bool.and_eq_true, decide_eq_true_eq] at h
    obtain ⟨rfl, h⟩ := h
    have key : ∀ j, j < nf c → fvl γ μ k c rs j = fvl γ ν k c rt j := by
      intro j hj
      have h1 := List.all_eq_true.mp h j (List.mem_range.mpr hj)
      unfold fvl
      revert h1
      cases tyf c j <;> intro h1 <;> simp [kR] at h1 <;> simp [h1]
    have e : (List.range (nf c)).map (fvl γ μ k c rs) = (List.range (nf c)).map (fvl γ ν k c rt) := List.map_congr_left (fun j hj => key j (List.mem_range.mp hj))
    show va_at (gD γ) vwCl (gb γ + k, .inr (c, (List.range (nf c)).map (fvl γ ν k c rt))) H
    rw [← e]
    exact hA
  · cases h
  · cases h
  · simp only [cellSame, Bool.and_eq_true, decide_eq_true_eq] at h
    obtain ⟨⟨rfl, rfl⟩, h⟩ := h
    have hA' : H[gb γ + k]? = some (vp_cell (gA γ t) (celA γ μ k t n rs)) := hA
    show H[gb γ + k]? = some (vp_cell (gA γ t) (celA γ ν k t n rt))
    rw [hA']
    congr 1
    have arr : ∀ (f g : Nat → Value), (∀ j, j < n → f j = g j) → arrV (gA γ t) n f = arrV (gA γ t) n g := by
      intro f g hfg
      unfold arrV
      congr 1
      apply Array.ext
      · simp
      · intro i h1 h2
        simp only [Array.getElem_ofFn]
        exact hfg i (by simpa using h1)
    have h1 : ∀ j, j < n → _ := fun j hj => List.all_eq_true.mp h j (List.mem_range.mpr hj)
    revert h1
    cases t <;> intro h1 <;> (simp only [celA, vp_cell_i, vp_cell_l, vp_cell_q]; refine arr _ _ (fun j hj => ?_); have h2 := h1 j hj; simp [kR] at h2; simp [h2])
theorem Wd.same {γ : GE} {σ : STT} {H : Heap} (hs : stOK σ = true) (h : Wd γ σ.1 σ.2 H) : Wd γ SX μX H := by
  simp only [stOK, Bool.and_eq_true, decide_eq_true_eq] at hs
  refine ⟨by rw [h.1, hs.1]; rfl, fun k hk => ?_⟩
  have hk' : k < 108 := hk
  have h2 := h.2 k (by rw [hs.1]; exact hk')
  refine at_same (List.all_eq_true.mp hs.2 k (List.mem_range.mpr hk')) h2 (fun c rs e => ?_)
  rw [e] at h2
  obtain ⟨r, h3, -⟩ := h2
  have hl := (List.getElem?_eq_some_iff.mp h3).1
  have hlen : vwCl.length = 13 := rfl
  have hc : c < 13 := by rw [← hlen]; exact hl
  match c, hc with
  | 0, _ => exact ⟨_, _, _, cp0⟩
  | 1, _ => exact ⟨_, _, _, cp1⟩
  | 2, _ => exact ⟨_, _, _, cp2⟩
  | 3, _ => exact ⟨_, _, _, cp3⟩
  | 4, _ => exact ⟨_, _, _, cp4⟩
  | 5, _ => exact ⟨_, _, _, cp5⟩
  | 6, _ => exact ⟨_, _, _, cp6⟩
  | 7, _ => exact ⟨_, _, _, cp7⟩
  | 8, _ => exact ⟨_, _, _, cp8⟩
  | 9, _ => exact ⟨_, _, _, cp9⟩
  | 10, _ => exact ⟨_, _, _, cp10⟩
  | 11, _ => exact ⟨_, _, _, cp11⟩
  | 12, _ => exact ⟨_, _, _, cp12⟩
def S00 : SH := (0, fun _ => .inl (0, fun _ => none))
def μ00 : Mem := (fun _ _ => 0, fun _ _ => 0)
/-- the two constructors, one behind the other -/
def k_start : Option (Nat × STT) :=
  (some (nwO 11 S00 μ00)).bind fun σ1 =>
  (k_X11_init σ1.1 S00.1 σ1.2).bind fun σ2 =>
  (some (nwO 12 σ2.1 σ2.2)).bind fun σ3 =>
  (k_X12_init σ3.1 σ2.1.1 σ3.2).bind fun σ4 =>
  if σ2.1.1 = 81 ∧ stOK σ4 = true then some (σ2.1.1, σ4) else none
theorem k_start_ok : k_start.isSome = true := by decide +kernel
