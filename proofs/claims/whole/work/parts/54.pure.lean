set_option maxHeartbeats 1000000 in
theorem pushes_at {c : Nat → Nat → Int} {μ : Mem} (h : MM c μ) (b : BC c) : ∃ ν, f_X12_pushes SX 81 μ = some (none3 c, ν) ∧ FM uP uJ μ ν ∧ (none3 c = 0 → MO c ν) := by
  have hn8 : nP c ≤ 8 := by have := b.2.2.1; unfold nP; omega
  have jb := b.jb
  have keep : ∀ μ', FM uP uJ μ μ' → MM c μ' := fun μ' f => h.w f (fun q h1 h2 => by unfold uP; omega) (by unfold uJ; omega)
  have kk : ∀ {a d : Mem}, FM kP kJ a d → FM uP uJ a d := fun f => f.mo (fun k q => by unfold kP at q; unfold uP; omega) (fun k q => by unfold kJ at q; unfold uJ; omega)
  have pp : ∀ {a d : Mem}, FM pP pJ a d → FM uP uJ a d := fun f => f.mo (fun k q => by unfold pP at q; unfold uP; omega) (fun k q => by unfold pJ at q; unfold uJ; omega)
  obtain ⟨ν1, p1, f1, l1⟩ := looks_at h b
  obtain ⟨ν2, E2⟩ : ∃ m : Mem, m = upI ν1 81 18 (-5) := ⟨_, rfl⟩
  have g2 : FM (fun _ => False) (fun j => j = 18) ν1 ν2 := by rw [E2]; exact FM.uI (Or.inr ⟨rfl, rfl⟩)
  have f2 : FM uP uJ μ ν2 := (kk f1).tr (g2.mo (fun k q => q.elim) (fun k q => by unfold uJ; omega))
  have l2 : LK c (nP c + 2) ν2 := l1.w g2 (fun q => q) (fun q => q) (fun q => q) (by decide)
  have h2 := keep _ f2
  have sa := stands_at h2 b.1
  have ta := tips_at h2 b l2
  have su := sum_at b l2 (by omega) (a := 0) (by decide)
  rw [show sm (thF c 0) (nP c + 2) = WW c from sm_W] at su
  simp only [Nat.reduceAdd, Nat.reduceMul, Nat.reduceMod, Int32.reduceOfNat] at su
  have w0' : (Int64.ofInt (WW c) = 0) = (WW c = 0) := by
    have := jb.1
    unfold sw at this
    refine propext ⟨fun e => ?_, fun e => by rw [e]; rfl⟩
    have e2 : (Int64.ofInt (WW c)).toInt = (0 : Int64).toInt := by rw [e]
    rw [ytoL _ (by omega) (by omega)] at e2
    exact e2
  have v18 : ν2.1 81 18 = -5 := by rw [E2]; simp (decide := true) (implicitDefEqProofs := false) only [zO, zR, zA, zT, zu1, zu2, zu3, zu4, gI, gL, pI, pL, pZ, aI, aL, sI, sZ, sL, Option.bind_some, Option.map_some, if_true, if_false, ite_true, ite_false, true_and, and_true, false_and, and_false, or_true, true_or, or_false, false_or, and_self, not_true_eq_false, not_false_eq_true, ↓reduceIte, reduceIte, Nat.reduceAdd, Nat.reduceMul, Nat.reduceSub, Nat.reduceMod, Nat.reduceDiv, Nat.reduceEqDiff, Nat.reduceLT, Nat.reduceLeDiff, Int32.reduceAdd, Int32.reduceSub, Int32.reduceMul, Int32.reduceDiv, Int32.reduceMod, Int32.reduceOfNat, Int32.reduceOfInt, Int32.reduceLT, Int32.reduceLE, Int32.reduceToNatClampNeg, Int32.reduceToInt]
  by_cases t1 : standB c = 0
  · have n0 : none3 c = 1 := by unfold none3; rw [if_pos t1]
    rw [n0]
    refine ⟨ν2, ?_, f2, fun e => by cases e⟩
    simp (decide := true) (implicitDefEqProofs := false) only [f_X12_pushes, p1, ← E2, sa, t1, zO, zR, zA, zT, zu1, zu2, zu3, zu4, gI, gL, pI, pL, pZ, aI, aL, sI, sZ, sL, Option.bind_some, Option.map_some, if_true, if_false, ite_true, ite_false, true_and, and_true, false_and, and_false, or_true, true_or, or_false, false_or, and_self, not_true_eq_false, not_false_eq_true, ↓reduceIte, reduceIte, Nat.reduceAdd, Nat.reduceMul, Nat.reduceSub, Nat.reduceMod, Nat.reduceDiv, Nat.reduceEqDiff, Nat.reduceLT, Nat.reduceLeDiff, Int32.reduceAdd, Int32.reduceSub, Int32.reduceMul, Int32.reduceDiv, Int32.reduceMod, Int32.reduceOfNat, Int32.reduceOfInt, Int32.reduceLT, Int32.reduceLE, Int32.reduceToNatClampNeg, Int32.reduceToInt]
  by_cases t3 : ¬ tipN c (sw c) (MX c) (MY c) = 0
  · have n0 : none3 c = 2 := by
      unfold none3; rw [if_neg t1]
      by_cases t2 : WW c = 0
      · rw [if_pos t2]
      · rw [if_neg t2, if_neg t3]
    rw [n0]
    refine ⟨ν2, ?_, f2, fun e => by cases e⟩
    simp (decide := true) (implicitDefEqProofs := false) only [f_X12_pushes, p1, ← E2, sa, t1, ta, t3, zO, zR, zA, zT, zu1, zu2, zu3, zu4, gI, gL, pI, pL, pZ, aI, aL, sI, sZ, sL, Option.bind_some, Option.map_some, if_true, if_false, ite_true, ite_false, true_and, and_true, false_and, and_false, or_true, true_or, or_false, false_or, and_self, not_true_eq_false, not_false_eq_true, ↓reduceIte, reduceIte, Nat.reduceAdd, Nat.reduceMul, Nat.reduceSub, Nat.reduceMod, Nat.reduceDiv, Nat.reduceEqDiff, Nat.reduceLT, Nat.reduceLeDiff, Int32.reduceAdd, Int32.reduceSub, Int32.reduceMul, Int32.reduceDiv, Int32.reduceMod, Int32.reduceOfNat, Int32.reduceOfInt, Int32.reduceLT, Int32.reduceLE, Int32.reduceToNatClampNeg, Int32.reduceToInt]
  replace t3 := Decidable.not_not.mp t3
  by_cases t2 : WW c = 0
  · have n0 : none3 c = 2 := by unfold none3; rw [if_neg t1, if_pos t2]
    rw [n0]
    refine ⟨ν2, ?_, f2, fun e => by cases e⟩
    simp (decide := true) (implicitDefEqProofs := false) only [f_X12_pushes, p1, ← E2, sa, t1, ta, t3, su, w0', t2, zO, zR, zA, zT, zu1, zu2, zu3, zu4, gI, gL, pI, pL, pZ, aI, aL, sI, sZ, sL, Option.bind_some, Option.map_some, if_true, if_false, ite_true, ite_false, true_and, and_true, false_and, and_false, or_true, true_or, or_false, false_or, and_self, not_true_eq_false, not_false_eq_true, ↓reduceIte, reduceIte, Nat.reduceAdd, Nat.reduceMul, Nat.reduceSub, Nat.reduceMod, Nat.reduceDiv, Nat.reduceEqDiff, Nat.reduceLT, Nat.reduceLeDiff, Int32.reduceAdd, Int32.reduceSub, Int32.reduceMul, Int32.reduceDiv, Int32.reduceMod, Int32.reduceOfNat, Int32.reduceOfInt, Int32.reduceLT, Int32.reduceLE, Int32.reduceToNatClampNeg, Int32.reduceToInt]
  obtain ⟨ν3, p3, f3, m3⟩ := plane_at h2 b l2 (u := -1) (by omega)
  rw [← ym1] at p3
  obtain ⟨m3a, m3b⟩ := m3
  have m3a' : ∀ p, p < 4 → ν3.2 95 p = Int64.ofInt (s4 c p) := fun p hp => by rw [m3a p hp, pPush4]
  rw [pAll4] at m3b
  obtain ⟨bs, bdt⟩ := pl_b b.1 jb
  have bs' : ∀ i, i < 4 → -9000000000000000000 ≤ s4 c i ∧ s4 c i ≤ 9000000000000000000 := fun i hi => by have := bs i hi; unfold s4; omega
  have le := least_at m3a' bs'
  have ll := (lmF_s (s4 c) 3).1
  have i1 := zin (lmF (s4 c) 3) 4 (by omega) (by decide)
  have i2 := ztn (lmF (s4 c) 3) (by omega)
  have v9 := m3a' (lmF (s4 c) 3) (by omega)
  have bl := bs' (lmF (s4 c) 3) (by omega)
  have q9 : (0 ≤ Int64.ofInt (s4 c (lmF (s4 c) 3))) = (0 ≤ s4 c (lmF (s4 c) 3)) := propext (y0le _ (by omega) (by omega))
  have F3 : FM uP uJ μ ν3 := f2.tr (pp f3)
  have v18' : ν3.1 81 18 = -5 := by rw [(f3.2 18 (by unfold pJ; omega)).1]; exact v18
  rcases low_lst (s4 c) with ⟨t4, t5⟩ | ⟨t4, t5⟩
  · have ta5 : air c = -5 := t5
    have n0 : none3 c = 0 := by unfold none3; rw [if_neg t1, if_neg t2, if_pos t3, if_pos ta5]
    rw [n0]
    refine ⟨ν3, ?_, F3, fun _ => ⟨⟨fun p hp => ?_, ?_⟩, ?_⟩⟩
    · simp (decide := true) (implicitDefEqProofs := false) only [f_X12_pushes, p1, ← E2, sa, t1, ta, t3, su, w0', t2, p3, le, i1, i2, v9, q9, t4, zO, zR, zA, zT, zu1, zu2, zu3, zu4, gI, gL, pI, pL, pZ, aI, aL, sI, sZ, sL, Option.bind_some, Option.map_some, if_true, if_false, ite_true, ite_false, true_and, and_true, false_and, and_false, or_true, true_or, or_false, false_or, and_self, not_true_eq_false, not_false_eq_true, ↓reduceIte, reduceIte, Nat.reduceAdd, Nat.reduceMul, Nat.reduceSub, Nat.reduceMod, Nat.reduceDiv, Nat.reduceEqDiff, Nat.reduceLT, Nat.reduceLeDiff, Int32.reduceAdd, Int32.reduceSub, Int32.reduceMul, Int32.reduceDiv, Int32.reduceMod, Int32.reduceOfNat, Int32.reduceOfInt, Int32.reduceLT, Int32.reduceLE, Int32.reduceToNatClampNeg, Int32.reduceToInt]
    · show ν3.2 95 p = Int64.ofInt (DD c * shF c p)
      unfold DD shF; rw [if_pos ta5, if_pos ta5, Int.one_mul]; exact m3a' p hp
    · unfold DD blF; rw [if_pos ta5, if_pos ta5, Int.one_mul]; exact m3b
    · rw [v18', ta5]; decide
  · have ta5 : air c = (lmF (s4 c) 3 : Nat) := t5
    have nt : ¬ air c = -5 := by omega
    have nt4 : ¬ 0 ≤ s4 c (lmF (s4 c) 3) := by omega
    have eu : (air c).toNat = lmF (s4 c) 3 := by omega
    obtain ⟨u, Eu⟩ : ∃ u, u = lmF (s4 c) 3 := ⟨_, rfl⟩
    rw [← Eu] at ll i1 i2 v9 bl q9 t4 ta5 nt4 eu le
    have hu : u < 4 := by omega
    obtain ⟨ν4, E4⟩ : ∃ m : Mem, m = upI ν3 81 18 (Int32.ofNat u) := ⟨_, rfl⟩
    have g4 : FM (fun _ => False) (fun j => j = 18) ν3 ν4 := by rw [E4]; exact FM.uI (Or.inr ⟨rfl, rfl⟩)
    have F4 : FM uP uJ μ ν4 := F3.tr (g4.mo (fun k q => q.elim) (fun k q => by unfold uJ; omega))
    have l3 : LK c (nP c + 2) ν3 := l2.w f3 (by unfold pP; decide) (by unfold pP; decide) (by unfold pP; decide) (by unfold pJ; decide)
    have l4 : LK c (nP c + 2) ν4 := l3.w g4 (fun q => q) (fun q => q) (fun q => q) (by decide)
    have h4 := keep _ F4
    have v12 : ν4.1 81 18 = Int32.ofNat u := by rw [E4]; simp (decide := true) (implicitDefEqProofs := false) only [zO, zR, zA, zT, zu1, zu2, zu3, zu4, gI, gL, pI, pL, pZ, aI, aL, sI, sZ, sL, Option.bind_some, Option.map_some, if_true, if_false, ite_true, ite_false, true_and, and_true, false_and, and_false, or_true, true_or, or_false, false_or, and_self, not_true_eq_false, not_false_eq_true, ↓reduceIte, reduceIte, Nat.reduceAdd, Nat.reduceMul, Nat.reduceSub, Nat.reduceMod, Nat.reduceDiv, Nat.reduceEqDiff, Nat.reduceLT, Nat.reduceLeDiff, Int32.reduceAdd, Int32.reduceSub, Int32.reduceMul, Int32.reduceDiv, Int32.reduceMod, Int32.reduceOfNat, Int32.reduceOfInt, Int32.reduceLT, Int32.reduceLE, Int32.reduceToNatClampNeg, Int32.reduceToInt]
    obtain ⟨ν5, p5, f5, m5⟩ := plane_at h4 b l4 (u := (u : Nat)) (by omega)
    obtain ⟨m5a, m5b⟩ := m5
    have p5' : f_X12_plane SX 81 (Int32.ofNat u) ν4 = some ((), ν5) := p5
    have m5a' : ∀ p, p < 4 → ν5.2 95 p = Int64.ofInt (tr3 c u * s3 c u p) := fun p hp => by rw [m5a p hp, pPush3 c hu hp]
    rw [pAll3 c hu] at m5b
    have tb := tri_b b.1 (Nat.mod_lt (u + 1) (by decide : 4 > 0)) (Nat.mod_lt (u + 2) (by decide : 4 > 0)) (Nat.mod_lt (u + 3) (by decide : 4 > 0))
    have tb' : -7200 ≤ tr3 c u ∧ tr3 c u ≤ 7200 := tb
    have tp := tr3_pos t1 u hu
    have b3 : ∀ i, i < 4 → -9000000000000000000 ≤ tr3 c u * s3 c u i ∧ tr3 c u * s3 c u i ≤ 9000000000000000000 := fun i hi => by
      have := s3_b b u i
      have := mulb (a := tr3 c u) (b := s3 c u i) 7200 18000000000 (by omega) (by omega) (by omega) (by omega)
      omega
    have le5 := least_at m5a' b3
    obtain ⟨k0, k1, -⟩ := lmF_s (fun p => tr3 c u * s3 c u p) 3
    obtain ⟨v, Ev⟩ : ∃ v, v = lmF (fun p => tr3 c u * s3 c u p) 3 := ⟨_, rfl⟩
    have le5' : f_X12_least SX 81 ν5 = some (Int32.ofNat v, ν5) := by rw [Ev]; exact le5
    rw [← Ev] at k0 k1
    have j1 := zin v 4 (by omega) (by decide)
    have j2 := ztn v (by omega)
    have v16 := m5a' v (by omega)
    have b16 := b3 v (by omega)
    have q16 : (0 ≤ Int64.ofInt (tr3 c u * s3 c u v)) = (0 ≤ tr3 c u * s3 c u v) := propext (y0le _ (by omega) (by omega))
    have F5 : FM uP uJ μ ν5 := F4.tr (pp f5)
    have v18'' : ν5.1 81 18 = Int32.ofNat u := by rw [(f5.2 18 (by unfold pJ; omega)).1]; exact v12
    by_cases t6 : 0 ≤ tr3 c u * s3 c u v
    · have all : ∀ i, i < 4 → 0 ≤ s3 c u i := fun i hi => by
        have : 0 ≤ tr3 c u * s3 c u i := Int.le_trans t6 (k1 i (by omega))
        exact Int.nonneg_of_mul_nonneg_right this tp
      have n0 : none3 c = 0 := by
        unfold none3; rw [if_neg t1, if_neg t2, if_pos t3, if_neg nt, eu, if_pos]
        exact ⟨all _ (Nat.mod_lt _ (by decide)), all _ (Nat.mod_lt _ (by decide)), all _ (Nat.mod_lt _ (by decide))⟩
      rw [n0]
      refine ⟨ν5, ?_, F5, fun _ => ⟨⟨fun p hp => ?_, ?_⟩, ?_⟩⟩
      · simp (decide := true) (implicitDefEqProofs := false) only [f_X12_pushes, p1, ← E2, sa, t1, ta, t3, su, w0', t2, p3, le, i1, i2, v9, q9, nt4, ← E4, v12, p5', le5', j1, j2, v16, q16, t6, zO, zR, zA, zT, zu1, zu2, zu3, zu4, gI, gL, pI, pL, pZ, aI, aL, sI, sZ, sL, Option.bind_some, Option.map_some, if_true, if_false, ite_true, ite_false, true_and, and_true, false_and, and_false, or_true, true_or, or_false, false_or, and_self, not_true_eq_false, not_false_eq_true, ↓reduceIte, reduceIte, Nat.reduceAdd, Nat.reduceMul, Nat.reduceSub, Nat.reduceMod, Nat.reduceDiv, Nat.reduceEqDiff, Nat.reduceLT, Nat.reduceLeDiff, Int32.reduceAdd, Int32.reduceSub, Int32.reduceMul, Int32.reduceDiv, Int32.reduceMod, Int32.reduceOfNat, Int32.reduceOfInt, Int32.reduceLT, Int32.reduceLE, Int32.reduceToNatClampNeg, Int32.reduceToInt]
      · show ν5.2 95 p = Int64.ofInt (DD c * shF c p)
        unfold DD shF; rw [if_neg nt, if_neg nt, eu]; exact m5a' p hp
      · unfold DD blF; rw [if_neg nt, if_neg nt, eu, m5b]
        have z : ∀ z : Int, 65 * (z * z) = z * (65 * z) := fun z => by grind
        rw [z]
        rfl
      · rw [v18'', ta5]; rfl
    · have n0 : none3 c = 3 := by
        unfold none3; rw [if_neg t1, if_neg t2, if_pos t3, if_neg nt, eu, if_neg]
        rintro ⟨r1, r2, r3⟩
        apply t6
        have nn : 0 ≤ s3 c u v := by
          by_cases q0 : v = u
          · have : s3 c u v = 0 := by unfold s3 sh3; rw [if_pos q0]
            omega
          · by_cases q1 : v = (u + 1) % 4
            · rw [q1]; exact r1
            · by_cases q2 : v = (u + 2) % 4
              · rw [q2]; exact r2
              · have q3 : v = (u + 3) % 4 := by omega
                rw [q3]; exact r3
        exact Int.mul_nonneg (by omega) nn
      rw [n0]
      refine ⟨ν5, ?_, F5, fun e => by cases e⟩
      simp (decide := true) (implicitDefEqProofs := false) only [f_X12_pushes, p1, ← E2, sa, t1, ta, t3, su, w0', t2, p3, le, i1, i2, v9, q9, nt4, ← E4, v12, p5', le5', j1, j2, v16, q16, t6, zO, zR, zA, zT, zu1, zu2, zu3, zu4, gI, gL, pI, pL, pZ, aI, aL, sI, sZ, sL, Option.bind_some, Option.map_some, if_true, if_false, ite_true, ite_false, true_and, and_true, false_and, and_false, or_true, true_or, or_false, false_or, and_self, not_true_eq_false, not_false_eq_true, ↓reduceIte, reduceIte, Nat.reduceAdd, Nat.reduceMul, Nat.reduceSub, Nat.reduceMod, Nat.reduceDiv, Nat.reduceEqDiff, Nat.reduceLT, Nat.reduceLeDiff, Int32.reduceAdd, Int32.reduceSub, Int32.reduceMul, Int32.reduceDiv, Int32.reduceMod, Int32.reduceOfNat, Int32.reduceOfInt, Int32.reduceLT, Int32.reduceLE, Int32.reduceToNatClampNeg, Int32.reduceToInt]

