theorem comesBF {c : Nat → Nat → Int} (b : BC c) {μ : Mem} (h : MM c μ) {s g hh Q : Nat} {f : Nat → Int} {q : Nat → Nat} (B : BF c s g hh f q Q) (hlt : hh < Q) (bm : BMm f q Q μ) {d r : Nat} (hd : d < 20) (hr : r < 61) (nb : NB (q hh) (61 * d + r)) {F : Int} (hF : f (q hh) = F) : ∃ ν f' q' Q', f_X12_comesTo SX 81 (Int32.ofNat d) (Int32.ofNat r) (Int32.ofInt (F + 1)) μ = some ((), ν) ∧ FM wyM wyJ μ ν ∧ MM c ν ∧ BMm f' q' Q' ν ∧ BF c s g hh f' q' Q' ∧ (LW c (61 * d + r) → 0 ≤ f' (61 * d + r) ∧ f' (61 * d + r) ≤ F + 1) ∧ (∀ z, 0 ≤ f z → f' z = f z) ∧ q' hh = q hh ∧ hh < Q' := by
  have b6 := B.2.2.2.2.2.1
  have bh := B.2.1 hh hlt
  have hy : 61 * d + r < 1220 := by omega
  obtain ⟨ν, p, fr, M, cs⟩ := comesToM b h hd hr (n := F + 1) (by omega) bm (B.rg hy) (fun e => by have := cu_pos e 1220 hy; omega)
  rcases cs with ⟨t, bm'⟩ | ⟨t, l, bm'⟩ | ⟨t, l, bm'⟩
  · refine ⟨ν, f, q, Q, p, fr, M, bm', B, fun l => ?_, fun z _ => rfl, rfl, hlt⟩
    rcases B.2.2.2.2.1 _ hy with k | ⟨-, k⟩ | ⟨k, i, hi, ki⟩
    · exact absurd k t
    · exact absurd l k
    · refine ⟨k, ?_⟩
      rw [← ki, ← hF]; exact B.2.2.2.1 hlt i hi
  · exact ⟨ν, _, q, Q, p, fr, M, bm', B.unl hy t l, fun l' => absurd l' l, fun z hz => ups_ne (fun w => by rw [w] at hz; omega), rfl, hlt⟩
  · have BB := B.add hlt hy t l nb
    rw [hF] at BB
    exact ⟨ν, _, _, Q + 1, p, fr, M, bm', BB, fun _ => by rw [ups_at]; omega, fun z hz => ups_ne (fun w => by rw [w] at hz; omega), ups_ne (by omega), by omega⟩
theorem comesNo {μ : Mem} {a n rr : Int32} (h : wb rr 0 60 = 0) : f_X12_comesTo SX 81 a rr n μ = some ((), μ) := by
  have isr := (isReach_at SX rr μ).2
  rw [h] at isr
  simp (decide := true) (implicitDefEqProofs := false) only [f_X12_comesTo, isr, zO, zR, zA, zT, zu1, zu2, zu3, zu4, gI, gL, pI, pL, pZ, aI, aL, sI, sZ, sL, Option.bind_some, Option.map_some, if_true, if_false, ite_true, ite_false, true_and, and_true, false_and, and_false, or_true, true_or, or_false, false_or, and_self, not_true_eq_false, not_false_eq_true, ↓reduceIte, reduceIte, Nat.reduceAdd, Nat.reduceMul, Nat.reduceSub, Nat.reduceMod, Nat.reduceDiv, Nat.reduceEqDiff, Nat.reduceLT, Nat.reduceLeDiff, Int32.reduceAdd, Int32.reduceSub, Int32.reduceMul, Int32.reduceDiv, Int32.reduceMod, Int32.reduceOfNat, Int32.reduceOfInt, Int32.reduceLT, Int32.reduceLE, Int32.reduceToNatClampNeg, Int32.reduceToInt]
theorem BF.min {c : Nat → Nat → Int} {s g hh Q : Nat} {f : Nat → Int} {q : Nat → Nat} (hs : s < 1220) (B : BF c s g hh f q Q) (hlt : hh < Q) : ∀ (k x : Nat), ((k : Nat) : Int) ≤ f (q hh) → RC c s k x → 0 ≤ f x ∧ f x ≤ ((k : Nat) : Int) := by
  obtain ⟨b1, b2, b3, b4, b5, b6, b7, b8, b9⟩ := B
  intro k
  induction k with
  | zero =>
    intro x hk hx
    obtain ⟨rfl, l⟩ := hx
    have := b7 l
    omega
  | succ k ih =>
    intro x hk hx
    obtain ⟨x1, x2, x3⟩ := hx
    rcases x3 with x3 | ⟨y, y1, y2, y3⟩
    · have := ih x (by omega) x3; omega
    · obtain ⟨y4, y5⟩ := ih y (by omega) y2
      rcases b5 y y1 with e | ⟨e, -⟩ | ⟨-, i, hi, rfl⟩
      · omega
      · omega
      · have ih' : i < hh := by
          by_cases t : i < hh
          · exact t
          · have := b3 hh i (by omega) hi; omega
        have := b8 i ih' x y3 x2
        omega
theorem BF.all {c : Nat → Nat → Int} {s g hh Q : Nat} {f : Nat → Int} {q : Nat → Nat} (B : BF c s g hh f q Q) (he : hh = Q) : ∀ k x, RC c s k x → 0 ≤ f x := by
  obtain ⟨b1, b2, b3, b4, b5, b6, b7, b8, b9⟩ := B
  intro k
  induction k with
  | zero =>
    intro x hx
    obtain ⟨rfl, l⟩ := hx
    have := b7 l
    omega
  | succ k ih =>
    intro x hx
    obtain ⟨x1, x2, x3⟩ := hx
    rcases x3 with x3 | ⟨y, y1, y2, y3⟩
    · exact ih x x3
    · have y4 := ih y y2
      rcases b5 y y1 with e | ⟨e, -⟩ | ⟨-, i, hi, rfl⟩
      · omega
      · omega
      · exact (b8 i (by omega) x y3 x2).1
theorem mn32 : Int32.minValue.toInt = -2147483648 := by decide
theorem mx32 : Int32.maxValue.toInt = 2147483647 := by decide
theorem dv61 (x : Nat) (hx : x < 1220) : Int32.ofNat x / 61 = Int32.ofNat (x / 61) ∧ Int32.ofNat x - Int32.ofNat (x / 61) * 61 = Int32.ofNat (x % 61) := by
  refine ⟨?_, ?_⟩
  · have := Int32.ofInt_tdiv (a := (x : Int)) (b := 61) (by rw [mn32]; omega) (by rw [mx32]; omega) (by rw [mn32]; omega) (by rw [mx32]; omega)
    exact this.symm
  · have e : Int32.ofNat (x / 61) * 61 = Int32.ofNat (x / 61 * 61) := (Int32.ofNat_mul (x / 61) 61).symm
    rw [e, sbN x (x / 61 * 61) (by omega)]
    congr 1
    omega
/-- what a search's answer says -/
def WA (c : Nat → Nat → Int) (s g : Nat) (v : Int32) : Prop := (∃ k, v = Int32.ofNat k ∧ k ≤ 1219 ∧ RC c s k g ∧ ∀ j, j < k → ¬ RC c s j g) ∨ (v = -5 ∧ ∀ k, ¬ RC c s k g)
theorem bfsL {c : Nat → Nat → Int} (b : BC c) {s gd gr : Nat} (hs : s < 1220) (hgd : gd < 20) (hgr : gr < 61) : ∀ m hh, hh + m = 1221 → ∀ u μ f q Q, MM c μ → BMm f q Q μ → BF c s (61 * gd + gr) hh f q Q → ∃ ν v, lpN (l_X12_way_65 SX 81 (Int32.ofNat gd) (Int32.ofNat gr)) (u + m + 1) (Int32.ofNat hh, μ) = some (v, ν) ∧ FM wyM wyJ μ ν ∧ MM c ν ∧ WA c s (61 * gd + gr) v := by
  intro m
  induction m with
  | zero =>
    intro hh hm u μ f q Q h bm B
    have := B.1
    have := B.2.2.2.2.2.1
    omega
  | succ m ih =>
    intro hh hm u μ f q Q h bm B
    have bq := B.2.2.2.2.2.1
    have b1 := B.1
    obtain ⟨m1, m2, m3⟩ := id bm
    rw [show u + (m + 1) + 1 = (u + m + 1) + 1 from rfl, zlp]
    by_cases t : Q ≤ hh
    · have e : hh = Q := by omega
      refine ⟨μ, -5, ?_, FM.rf, h, Or.inr ⟨rfl, fun k hk => ?_⟩⟩
      · have le : (Int32.ofNat Q ≤ Int32.ofNat hh) = True := by rw [e]; exact leT Q
        simp (decide := true) (implicitDefEqProofs := false) only [l_X12_way_65, m3, le, zO, zR, zA, zT, zu1, zu2, zu3, zu4, gI, gL, pI, pL, pZ, aI, aL, sI, sZ, sL, Option.bind_some, Option.map_some, if_true, if_false, ite_true, ite_false, true_and, and_true, false_and, and_false, or_true, true_or, or_false, false_or, and_self, not_true_eq_false, not_false_eq_true, ↓reduceIte, reduceIte, Nat.reduceAdd, Nat.reduceMul, Nat.reduceSub, Nat.reduceMod, Nat.reduceDiv, Nat.reduceEqDiff, Nat.reduceLT, Nat.reduceLeDiff, Int32.reduceAdd, Int32.reduceSub, Int32.reduceMul, Int32.reduceDiv, Int32.reduceMod, Int32.reduceOfNat, Int32.reduceOfInt, Int32.reduceLT, Int32.reduceLE, Int32.reduceToNatClampNeg, Int32.reduceToInt]
      · have f0 := B.all e k _ hk
        have gl := (RC_lt hs k _ hk).1
        rcases B.2.2.2.2.1 _ gl with k1 | ⟨k1, -⟩ | ⟨-, i, hi, ki⟩
        · omega
        · omega
        · exact B.2.2.2.2.2.2.2.2 i (by omega) ki
    · have hlt : hh < Q := by omega
      have le : (Int32.ofNat Q ≤ Int32.ofNat hh) = False := leF hlt (by omega)
      obtain ⟨x, Ex⟩ : ∃ x, x = q hh := ⟨_, rfl⟩
      obtain ⟨F, EF⟩ : ∃ F, F = f x := ⟨_, rfl⟩
      obtain ⟨x1, x2, x3, x4, x5⟩ := B.2.1 hh hlt
      rw [← Ex, ← EF] at x3 x4
      rw [← Ex] at x1 x2
      have x5' : RC c s F.toNat x := by rw [EF, Ex]; exact x5
      have qx := m2 hh hlt
      rw [← Ex] at qx
      have fx := m1 x x1
      rw [← EF] at fx
      obtain ⟨dv1, dv2⟩ := dv61 x x1
      have hz := zin hh 1220 (by omega) (by decide)
      have ht := ztn hh (by omega)
      have xz := zin x 1220 x1 (by decide)
      have xt := ztn x (by omega)
      have e1 : (Int32.ofNat (x / 61) = Int32.ofNat gd) = (x / 61 = gd) := neN (by omega) (by omega)
      have e2 : (Int32.ofNat (x % 61) = Int32.ofNat gr) = (x % 61 = gr) := neN (by omega) (by omega)
      by_cases tg : x / 61 = gd ∧ x % 61 = gr
      · have xg : x = 61 * gd + gr := by omega
        refine ⟨μ, Int32.ofInt F, ?_, FM.rf, h, Or.inl ⟨F.toNat, ofIn F x3, by omega, by rw [← xg]; exact x5', fun j hj hr => ?_⟩⟩
        · obtain ⟨tg1, tg2⟩ := tg
          have e1t : (Int32.ofNat (x / 61) = Int32.ofNat gd) = True := by rw [e1]; exact eq_true tg1
          have e2t : (Int32.ofNat (x % 61) = Int32.ofNat gr) = True := by rw [e2]; exact eq_true tg2
          simp (decide := true) (implicitDefEqProofs := false) only [l_X12_way_65, m3, le, hz, ht, qx, dv1, dv2, e1t, e2t, xz, xt, fx, zO, zR, zA, zT, zu1, zu2, zu3, zu4, gI, gL, pI, pL, pZ, aI, aL, sI, sZ, sL, Option.bind_some, Option.map_some, if_true, if_false, ite_true, ite_false, true_and, and_true, false_and, and_false, or_true, true_or, or_false, false_or, and_self, not_true_eq_false, not_false_eq_true, ↓reduceIte, reduceIte, Nat.reduceAdd, Nat.reduceMul, Nat.reduceSub, Nat.reduceMod, Nat.reduceDiv, Nat.reduceEqDiff, Nat.reduceLT, Nat.reduceLeDiff, Int32.reduceAdd, Int32.reduceSub, Int32.reduceMul, Int32.reduceDiv, Int32.reduceMod, Int32.reduceOfNat, Int32.reduceOfInt, Int32.reduceLT, Int32.reduceLE, Int32.reduceToNatClampNeg, Int32.reduceToInt]
        · have := B.min hs hlt j (61 * gd + gr) (by rw [← Ex, ← EF]; omega) hr
          rw [← xg, ← EF] at this
          omega
      · have ne : x ≠ 61 * gd + gr := by omega
        obtain ⟨d, Ed⟩ : ∃ d, d = x / 61 := ⟨_, rfl⟩
        obtain ⟨r, Er⟩ : ∃ r, r = x % 61 := ⟨_, rfl⟩
        have hd : d < 20 := by omega
        have hr : r < 61 := by omega
        obtain ⟨by1, by2⟩ := byD d hd
        -- the four places beside
        obtain ⟨ν1, f1, q1, Q1, p1, F1, M1, bm1, B1, l1, k1, h1, lt1⟩ := comesBF (F := F) b h B hlt bm (d := (d + 1) % 20) (r := r) (by omega) hr (Or.inl (by rw [← Ex, ← Ed, ← Er])) (by rw [← Ex, ← EF])
        have g1 : f1 x = F := by rw [EF]; exact k1 x (by rw [← EF]; exact x3)
        rw [← Ex] at h1
        obtain ⟨ν2, f2, q2, Q2, p2, F2, M2, bm2, B2, l2, k2, h2, lt2⟩ := comesBF (F := F) b M1 B1 lt1 bm1 (d := (d + 19) % 20) (r := r) (by omega) hr (Or.inr (Or.inl (by rw [h1, ← Ed, ← Er]))) (by rw [h1]; exact g1)
        have g2 : f2 x = F := by rw [k2 x (by rw [g1]; exact x3)]; exact g1
        rw [h1] at h2
        have third : ∃ ν3 f3 q3 Q3, f_X12_comesTo SX 81 (Int32.ofNat d) (Int32.ofNat (r + 1)) (Int32.ofInt (F + 1)) ν2 = some ((), ν3) ∧ FM wyM wyJ ν2 ν3 ∧ MM c ν3 ∧ BMm f3 q3 Q3 ν3 ∧ BF c s (61 * gd + gr) hh f3 q3 Q3 ∧ (x % 61 < 60 → LW c (x + 1) → 0 ≤ f3 (x + 1) ∧ f3 (x + 1) ≤ F + 1) ∧ (∀ z, 0 ≤ f2 z → f3 z = f2 z) ∧ q3 hh = x ∧ hh < Q3 := by
          by_cases w : r < 60
          · have ey : 61 * d + (r + 1) = x + 1 := by omega
            obtain ⟨ν3, f3, q3, Q3, p3, F3, M3, bm3, B3, l3, k3, h3, lt3⟩ := comesBF (F := F) b M2 B2 lt2 bm2 (d := d) (r := r + 1) hd (by omega) (Or.inr (Or.inr (Or.inl ⟨by rw [h2]; omega, by rw [h2]; exact ey⟩))) (by rw [h2]; exact g2)
            rw [ey] at l3
            rw [h2] at h3
            exact ⟨ν3, f3, q3, Q3, p3, F3, M3, bm3, B3, fun _ => l3, k3, h3, lt3⟩
          · have r60 : r = 60 := by omega
            refine ⟨ν2, f2, q2, Q2, comesNo (by rw [r60]; decide), FM.rf, M2, bm2, B2, fun w' => by omega, fun z _ => rfl, h2, lt2⟩
        obtain ⟨ν3, f3, q3, Q3, p3, F3, M3, bm3, B3, l3, k3, h3, lt3⟩ := third
        have g3 : f3 x = F := by rw [k3 x (by rw [g2]; exact x3)]; exact g2
        have fourth : ∃ ν4 f4 q4 Q4, f_X12_comesTo SX 81 (Int32.ofNat d) (Int32.ofNat r - 1) (Int32.ofInt (F + 1)) ν3 = some ((), ν4) ∧ FM wyM wyJ ν3 ν4 ∧ MM c ν4 ∧ BMm f4 q4 Q4 ν4 ∧ BF c s (61 * gd + gr) hh f4 q4 Q4 ∧ (0 < x % 61 → LW c (x - 1) → 0 ≤ f4 (x - 1) ∧ f4 (x - 1) ≤ F + 1) ∧ (∀ z, 0 ≤ f3 z → f4 z = f3 z) ∧ q4 hh = x ∧ hh < Q4 := by
          by_cases w : 0 < r
          · have ey : 61 * d + (r - 1) = x - 1 := by omega
            obtain ⟨ν4, f4, q4, Q4, p4, F4, M4, bm4, B4, l4, k4, h4, lt4⟩ := comesBF (F := F) b M3 B3 lt3 bm3 (d := d) (r := r - 1) hd (by omega) (Or.inr (Or.inr (Or.inr ⟨by rw [h3]; omega, by rw [h3]; exact ey⟩))) (by rw [h3]; exact g3)
            rw [ey] at l4
            rw [h3] at h4
            rw [sb1 r (by omega)]
            exact ⟨ν4, f4, q4, Q4, p4, F4, M4, bm4, B4, fun _ => l4, k4, h4, lt4⟩
          · have r0 : r = 0 := by omega
            refine ⟨ν3, f3, q3, Q3, comesNo (by rw [r0]; decide), FM.rf, M3, bm3, B3, fun w' => by omega, fun z _ => rfl, h3, lt3⟩
        obtain ⟨ν4, f4, q4, Q4, p4, F4, M4, bm4, B4, l4, k4, h4, lt4⟩ := fourth
        have g4 : f4 x = F := by rw [k4 x (by rw [g3]; exact x3)]; exact g3
        have BN : BF c s (61 * gd + gr) (hh + 1) f4 q4 Q4 := by
          obtain ⟨c1, c2, c3, c4, c5, c6, c7, c8, c9⟩ := B4
          refine ⟨by omega, c2, c3, fun w j hj => ?_, c5, c6, c7, fun i hi y hy ly => ?_, fun i hi => ?_⟩
          · have a1 := c4 lt4 j hj
            have a2 := c3 hh (hh + 1) (by omega) w
            omega
          · by_cases w : i = hh
            · subst w
              rw [h4] at hy ⊢
              rw [g4]
              have up4 : ∀ z, 0 ≤ f1 z → f4 z = f1 z := fun z hz => by
                have z2 := k2 z hz
                have z3 := k3 z (by omega)
                have z4 := k4 z (by omega)
                omega
              rcases hy with e | e | ⟨ee, e⟩ | ⟨ee, e⟩
              · rw [← Ed, ← Er] at e
                rw [e] at ly ⊢
                obtain ⟨a1, a2⟩ := l1 ly
                rw [up4 _ a1]; exact ⟨a1, a2⟩
              · rw [← Ed, ← Er] at e
                rw [e] at ly ⊢
                obtain ⟨a1, a2⟩ := l2 ly
                have z3 := k3 _ a1
                have z4 := k4 _ (by rw [z3]; exact a1)
                rw [z4, z3]; exact ⟨a1, a2⟩
              · rw [e] at ly ⊢
                obtain ⟨a1, a2⟩ := l3 ee ly
                rw [k4 _ a1]; exact ⟨a1, a2⟩
              · rw [e] at ly ⊢
                exact l4 ee ly
            · exact c8 i (by omega) y hy ly
          · by_cases w : i = hh
            · rw [w, h4]; exact ne
            · exact c9 i (by omega)
        obtain ⟨ν, v, p, Fr', M, wa⟩ := ih (hh + 1) (by omega) u ν4 f4 q4 Q4 M4 bm4 BN
        refine ⟨ν, v, ?_, (((F1.tr F2).tr F3).tr F4).tr Fr', M, wa⟩
        have a1 : ν1.1 96 x = Int32.ofInt F := by rw [bm1.1 x x1, g1]
        have a2 : ν2.1 96 x = Int32.ofInt F := by rw [bm2.1 x x1, g2]
        have a3 : ν3.1 96 x = Int32.ofInt F := by rw [bm3.1 x x1, g3]
        have aF : Int32.ofInt F + 1 = Int32.ofInt (F + 1) := y32a F 1
        have st : b_X12_way_115 SX (lpN (l_X12_way_65 SX 81 (Int32.ofNat gd) (Int32.ofNat gr)) (u + m + 1)) 81 (Int32.ofNat gd) (Int32.ofNat gr) (Int32.ofNat hh) (Int32.ofNat x) (Int32.ofNat (x / 61)) (Int32.ofNat (x % 61)) μ = some (v, ν) := by
          rw [← Ed, ← Er]
          simp (decide := true) (implicitDefEqProofs := false) only [b_X12_way_115, xz, xt, fx, aF, by1, p1, a1, by2, p2, a2, ofN1 r, ofN1 hh, p3, a3, p4, zO, zR, zA, zT, zu1, zu2, zu3, zu4, gI, gL, pI, pL, pZ, aI, aL, sI, sZ, sL, Option.bind_some, Option.map_some, if_true, if_false, ite_true, ite_false, true_and, and_true, false_and, and_false, or_true, true_or, or_false, false_or, and_self, not_true_eq_false, not_false_eq_true, ↓reduceIte, reduceIte, Nat.reduceAdd, Nat.reduceMul, Nat.reduceSub, Nat.reduceMod, Nat.reduceDiv, Nat.reduceEqDiff, Nat.reduceLT, Nat.reduceLeDiff, Int32.reduceAdd, Int32.reduceSub, Int32.reduceMul, Int32.reduceDiv, Int32.reduceMod, Int32.reduceOfNat, Int32.reduceOfInt, Int32.reduceLT, Int32.reduceLE, Int32.reduceToNatClampNeg, Int32.reduceToInt]
          exact p
        by_cases t1 : x / 61 = gd
        · have t2 : ¬ x % 61 = gr := fun w => tg ⟨t1, w⟩
          have e1t : (Int32.ofNat (x / 61) = Int32.ofNat gd) = True := by rw [e1]; exact eq_true t1
          simp (decide := true) (implicitDefEqProofs := false) only [l_X12_way_65, m3, le, hz, ht, qx, dv1, dv2, e1t, e2, t2, zO, zR, zA, zT, zu1, zu2, zu3, zu4, gI, gL, pI, pL, pZ, aI, aL, sI, sZ, sL, Option.bind_some, Option.map_some, if_true, if_false, ite_true, ite_false, true_and, and_true, false_and, and_false, or_true, true_or, or_false, false_or, and_self, not_true_eq_false, not_false_eq_true, ↓reduceIte, reduceIte, Nat.reduceAdd, Nat.reduceMul, Nat.reduceSub, Nat.reduceMod, Nat.reduceDiv, Nat.reduceEqDiff, Nat.reduceLT, Nat.reduceLeDiff, Int32.reduceAdd, Int32.reduceSub, Int32.reduceMul, Int32.reduceDiv, Int32.reduceMod, Int32.reduceOfNat, Int32.reduceOfInt, Int32.reduceLT, Int32.reduceLE, Int32.reduceToNatClampNeg, Int32.reduceToInt]
          exact st
        · simp (decide := true) (implicitDefEqProofs := false) only [l_X12_way_65, m3, le, hz, ht, qx, dv1, dv2, e1, t1, zO, zR, zA, zT, zu1, zu2, zu3, zu4, gI, gL, pI, pL, pZ, aI, aL, sI, sZ, sL, Option.bind_some, Option.map_some, if_true, if_false, ite_true, ite_false, true_and, and_true, false_and, and_false, or_true, true_or, or_false, false_or, and_self, not_true_eq_false, not_false_eq_true, ↓reduceIte, reduceIte, Nat.reduceAdd, Nat.reduceMul, Nat.reduceSub, Nat.reduceMod, Nat.reduceDiv, Nat.reduceEqDiff, Nat.reduceLT, Nat.reduceLeDiff, Int32.reduceAdd, Int32.reduceSub, Int32.reduceMul, Int32.reduceDiv, Int32.reduceMod, Int32.reduceOfNat, Int32.reduceOfInt, Int32.reduceLT, Int32.reduceLE, Int32.reduceToNatClampNeg, Int32.reduceToInt]
          exact st

