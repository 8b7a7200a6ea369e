/-- what the judge has found -/
def JO (c : Nat → Nat → Int) (ν : Mem) : Prop := (∀ p, p < 4 → ν.2 56 p = Int64.ofInt (shF c p)) ∧ ν.2 55 4 = Int64.ofInt (blF c) ∧ ν.1 55 5 = Int32.ofInt (air c)
theorem gath_JD (c : Nat → Nat → Int) (μ : Mem) : JD (sw c) (MX c) (MY c) (gath c μ) := by
  refine ⟨?_, ?_, ?_⟩ <;> simp (decide := true) (implicitDefEqProofs := false) only [gath, sw, zO, zR, zA, zT, zu1, zu2, zu3, zu4, gI, gL, pI, pL, pZ, aI, aL, sI, sZ, sL, Option.bind_some, Option.map_some, if_true, if_false, ite_true, ite_false, true_and, and_true, false_and, and_false, or_true, true_or, or_false, false_or, and_self, not_true_eq_false, not_false_eq_true, ↓reduceIte, reduceIte, Nat.reduceAdd, Nat.reduceMul, Nat.reduceSub, Nat.reduceMod, Nat.reduceDiv, Nat.reduceEqDiff, Nat.reduceLT, Nat.reduceLeDiff, Int32.reduceAdd, Int32.reduceSub, Int32.reduceMul, Int32.reduceDiv, Int32.reduceMod, Int32.reduceOfNat, Int32.reduceOfInt, Int32.reduceLT, Int32.reduceLE, Int32.reduceToNatClampNeg, Int32.reduceToInt]
theorem gath_Fr (c : Nat → Nat → Int) (μ : Mem) : Fr (fun q => q = 55 ∨ q = 56) μ (gath c μ) := ((Fr.uL (Or.inl rfl)).tr (Fr.uL (Or.inl rfl))).tr (Fr.uL (Or.inl rfl))
theorem verdict_fin {k : Nat} (hk : CK k) {c : Nat → Nat → Int} {μ : Mem} (h : CC k c μ) (b : BC c) (j : JO c μ) (hs : ∀ i, i < 4 → -9000000000000000000 ≤ shF c i ∧ shF c i ≤ 9000000000000000000) (hb : -100000000000000 ≤ blF c ∧ blF c ≤ 100000000000000) : b_X3_verdict_81 SX 55 k μ = some (if ovN c (shF c) (blF c) = 0 then (if 0 ≤ roomV c then 0 else 5) else 4, μ) := by
  obtain ⟨o1, r1, r2, r3, r4, r5⟩ := gR2 hk
  have e1 := isOver_at hk h.2.1 b.2.1 j.1 j.2.1 hs hb
  by_cases t1 : ovN c (shF c) (blF c) = 0
  · by_cases t2 : 0 ≤ roomV c
    · simp (decide := true) (implicitDefEqProofs := false) only [b_X3_verdict_81, r1, e1, room_at hk h b, t1, t2, zO, zR, zA, zT, zu1, zu2, zu3, zu4, gI, gL, pI, pL, pZ, aI, aL, sI, sZ, sL, Option.bind_some, Option.map_some, if_true, if_false, ite_true, ite_false, true_and, and_true, false_and, and_false, or_true, true_or, or_false, false_or, and_self, not_true_eq_false, not_false_eq_true, ↓reduceIte, reduceIte, Nat.reduceAdd, Nat.reduceMul, Nat.reduceSub, Nat.reduceMod, Nat.reduceDiv, Nat.reduceEqDiff, Nat.reduceLT, Nat.reduceLeDiff, Int32.reduceAdd, Int32.reduceSub, Int32.reduceMul, Int32.reduceDiv, Int32.reduceMod, Int32.reduceOfNat, Int32.reduceOfInt, Int32.reduceLT, Int32.reduceLE, Int32.reduceToNatClampNeg, Int32.reduceToInt]
    · simp (decide := true) (implicitDefEqProofs := false) only [b_X3_verdict_81, r1, e1, room_at hk h b, t1, t2, zO, zR, zA, zT, zu1, zu2, zu3, zu4, gI, gL, pI, pL, pZ, aI, aL, sI, sZ, sL, Option.bind_some, Option.map_some, if_true, if_false, ite_true, ite_false, true_and, and_true, false_and, and_false, or_true, true_or, or_false, false_or, and_self, not_true_eq_false, not_false_eq_true, ↓reduceIte, reduceIte, Nat.reduceAdd, Nat.reduceMul, Nat.reduceSub, Nat.reduceMod, Nat.reduceDiv, Nat.reduceEqDiff, Nat.reduceLT, Nat.reduceLeDiff, Int32.reduceAdd, Int32.reduceSub, Int32.reduceMul, Int32.reduceDiv, Int32.reduceMod, Int32.reduceOfNat, Int32.reduceOfInt, Int32.reduceLT, Int32.reduceLE, Int32.reduceToNatClampNeg, Int32.reduceToInt]
  · simp (decide := true) (implicitDefEqProofs := false) only [b_X3_verdict_81, r1, e1, t1, zO, zR, zA, zT, zu1, zu2, zu3, zu4, gI, gL, pI, pL, pZ, aI, aL, sI, sZ, sL, Option.bind_some, Option.map_some, if_true, if_false, ite_true, ite_false, true_and, and_true, false_and, and_false, or_true, true_or, or_false, false_or, and_self, not_true_eq_false, not_false_eq_true, ↓reduceIte, reduceIte, Nat.reduceAdd, Nat.reduceMul, Nat.reduceSub, Nat.reduceMod, Nat.reduceDiv, Nat.reduceEqDiff, Nat.reduceLT, Nat.reduceLeDiff, Int32.reduceAdd, Int32.reduceSub, Int32.reduceMul, Int32.reduceDiv, Int32.reduceMod, Int32.reduceOfNat, Int32.reduceOfInt, Int32.reduceLT, Int32.reduceLE, Int32.reduceToNatClampNeg, Int32.reduceToInt]
theorem verdict_at {k : Nat} (hk : CK k) {c : Nat → Nat → Int} {μ : Mem} (h : CC k c μ) (b : BC c) : ∃ ν, f_X3_verdict SX 55 k μ = some (whyV c, ν) ∧ Fr (fun q => q = 55 ∨ q = 56) μ ν ∧ (none3 c = 0 → JO c ν) := by
  obtain ⟨o1, r1, r2, r3, r4, r5⟩ := gR2 hk
  obtain ⟨o4, -⟩ := gR4 hk
  have hkb : k + 17 < 55 := by rcases hk with rfl | rfl | rfl <;> decide
  have hw : ∀ ν, Fr (fun q => q = 55 ∨ q = 56) μ ν → CC k c ν := fun ν f => h.w _ f (fun q h1 h2 => by omega)
  have st := h.2.2.1.1
  have jb := b.jb
  have ga := gather_at hk h b
  have jd := gath_JD c μ
  have f1 := gath_Fr c μ
  have J1 := hw _ f1
  have w0 : (gath c μ).2 55 0 = Int64.ofInt (sw c) := jd.1
  have w0' : (Int64.ofInt (sw c) = 0) = (WW c = 0) := by
    have := jb.1
    refine propext ⟨fun e => ?_, fun e => by unfold sw; rw [e]; rfl⟩
    have e2 : (Int64.ofInt (sw c)).toInt = (0 : Int64).toInt := by rw [e]
    rw [ytoL _ (by omega) (by omega)] at e2
    have e3 : sw c = 0 := e2
    unfold sw at e3
    omega
  by_cases t1 : standB c = 0
  · have n0 : none3 c = 1 := by unfold none3; rw [if_pos t1]
    have y0 : whyV c = 1 := by unfold whyV; rw [n0]; rfl
    rw [y0, n0]
    refine ⟨μ, ?_, Fr.rf, fun e => by cases e⟩
    simp (decide := true) (implicitDefEqProofs := false) only [f_X3_verdict, r1, o4, st, t1, zO, zR, zA, zT, zu1, zu2, zu3, zu4, gI, gL, pI, pL, pZ, aI, aL, sI, sZ, sL, Option.bind_some, Option.map_some, if_true, if_false, ite_true, ite_false, true_and, and_true, false_and, and_false, or_true, true_or, or_false, false_or, and_self, not_true_eq_false, not_false_eq_true, ↓reduceIte, reduceIte, Nat.reduceAdd, Nat.reduceMul, Nat.reduceSub, Nat.reduceMod, Nat.reduceDiv, Nat.reduceEqDiff, Nat.reduceLT, Nat.reduceLeDiff, Int32.reduceAdd, Int32.reduceSub, Int32.reduceMul, Int32.reduceDiv, Int32.reduceMod, Int32.reduceOfNat, Int32.reduceOfInt, Int32.reduceLT, Int32.reduceLE, Int32.reduceToNatClampNeg, Int32.reduceToInt]
  by_cases t2 : WW c = 0
  · have n0 : none3 c = 2 := by unfold none3; rw [if_neg t1, if_pos t2]
    have y0 : whyV c = 2 := by unfold whyV; rw [n0]; rfl
    rw [y0, n0]
    refine ⟨gath c μ, ?_, f1, fun e => by cases e⟩
    simp (decide := true) (implicitDefEqProofs := false) only [f_X3_verdict, r1, o4, st, t1, ga, w0, w0', t2, zO, zR, zA, zT, zu1, zu2, zu3, zu4, gI, gL, pI, pL, pZ, aI, aL, sI, sZ, sL, Option.bind_some, Option.map_some, if_true, if_false, ite_true, ite_false, true_and, and_true, false_and, and_false, or_true, true_or, or_false, false_or, and_self, not_true_eq_false, not_false_eq_true, ↓reduceIte, reduceIte, Nat.reduceAdd, Nat.reduceMul, Nat.reduceSub, Nat.reduceMod, Nat.reduceDiv, Nat.reduceEqDiff, Nat.reduceLT, Nat.reduceLeDiff, Int32.reduceAdd, Int32.reduceSub, Int32.reduceMul, Int32.reduceDiv, Int32.reduceMod, Int32.reduceOfNat, Int32.reduceOfInt, Int32.reduceLT, Int32.reduceLE, Int32.reduceToNatClampNeg, Int32.reduceToInt]
  have tp := tipsOver_at hk J1.1 b.1 jd jb
  by_cases t3 : ¬ tipN c (sw c) (MX c) (MY c) = 0
  · have n0 : none3 c = 2 := by unfold none3; rw [if_neg t1, if_neg t2, if_neg t3]
    have y0 : whyV c = 2 := by unfold whyV; rw [n0]; rfl
    rw [y0, n0]
    refine ⟨gath c μ, ?_, f1, fun e => by cases e⟩
    simp (decide := true) (implicitDefEqProofs := false) only [f_X3_verdict, r1, o4, st, t1, ga, w0, w0', t2, tp, t3, zO, zR, zA, zT, zu1, zu2, zu3, zu4, gI, gL, pI, pL, pZ, aI, aL, sI, sZ, sL, Option.bind_some, Option.map_some, if_true, if_false, ite_true, ite_false, true_and, and_true, false_and, and_false, or_true, true_or, or_false, false_or, and_self, not_true_eq_false, not_false_eq_true, ↓reduceIte, reduceIte, Nat.reduceAdd, Nat.reduceMul, Nat.reduceSub, Nat.reduceMod, Nat.reduceDiv, Nat.reduceEqDiff, Nat.reduceLT, Nat.reduceLeDiff, Int32.reduceAdd, Int32.reduceSub, Int32.reduceMul, Int32.reduceDiv, Int32.reduceMod, Int32.reduceOfNat, Int32.reduceOfInt, Int32.reduceLT, Int32.reduceLE, Int32.reduceToNatClampNeg, Int32.reduceToInt]
  replace t3 := Decidable.not_not.mp t3
  have sp := shareByPlane_at hk J1.1 J1.2.2.1 b.1 jd
  obtain ⟨g1, g2, g3, g4, g5⟩ := shM_JS (gath c μ) (sh4 c (sw c) (MX c) (MY c)) (65 * detC c)
  obtain ⟨bs, bdt⟩ := pl_b b.1 jb
  have lo := lowest_at g3 (fun i hi => by have := bs i hi; omega)
  obtain ⟨μ2, E2⟩ : ∃ m : Mem, m = shM (gath c μ) (sh4 c (sw c) (MX c) (MY c)) (65 * detC c) := ⟨_, rfl⟩
  rw [← E2] at sp lo g1 g2 g3 g4 g5
  have lo' : f_X3_lowestBelowNothing SX 55 μ2 = some (Int32.ofInt (air c), μ2) := lo
  obtain ⟨μ3, E3⟩ : ∃ m : Mem, m = upI μ2 55 5 (Int32.ofInt (air c)) := ⟨_, rfl⟩
  have f3 : Fr (fun q => q = 55 ∨ q = 56) μ μ3 := by rw [E3]; exact (f1.tr g1).tr (Fr.uI (Or.inl rfl))
  have J3 := hw _ f3
  have v5 : μ3.1 55 5 = Int32.ofInt (air c) := by rw [E3]; simp (decide := true) (implicitDefEqProofs := false) only [zO, zR, zA, zT, zu1, zu2, zu3, zu4, gI, gL, pI, pL, pZ, aI, aL, sI, sZ, sL, Option.bind_some, Option.map_some, if_true, if_false, ite_true, ite_false, true_and, and_true, false_and, and_false, or_true, true_or, or_false, false_or, and_self, not_true_eq_false, not_false_eq_true, ↓reduceIte, reduceIte, Nat.reduceAdd, Nat.reduceMul, Nat.reduceSub, Nat.reduceMod, Nat.reduceDiv, Nat.reduceEqDiff, Nat.reduceLT, Nat.reduceLeDiff, Int32.reduceAdd, Int32.reduceSub, Int32.reduceMul, Int32.reduceDiv, Int32.reduceMod, Int32.reduceOfNat, Int32.reduceOfInt, Int32.reduceLT, Int32.reduceLE, Int32.reduceToNatClampNeg, Int32.reduceToInt]
  have l2 : μ3.2 = μ2.2 := by rw [E3]; rfl
  rcases low_r (s4 c) with t4 | t4
  · have t4' : air c = -5 := t4
    have n0 : none3 c = 0 := by unfold none3; rw [if_neg t1, if_neg t2, if_pos t3, if_pos t4']
    have jo : JO c μ3 := by
      refine ⟨fun p hp => ?_, ?_, v5⟩
      · unfold shF; rw [if_pos t4', l2]; exact g3 p hp
      · unfold blF; rw [if_pos t4', l2]; exact g4
    have fin := verdict_fin hk J3 b jo (fun i hi => by unfold shF; rw [if_pos t4']; have := bs i hi; unfold s4; omega) (by unfold blF; rw [if_pos t4']; omega)
    refine ⟨μ3, ?_, f3, fun _ => jo⟩
    have v5' : (Int32.ofInt (air c) = -5) = True := eq_true (by rw [t4']; decide)
    unfold whyV
    rw [n0, if_pos rfl]
    simp (decide := true) (implicitDefEqProofs := false) only [f_X3_verdict, r1, o4, st, t1, ga, w0, w0', t2, tp, t3, sp, lo', ← E3, v5, v5', fin, zO, zR, zA, zT, zu1, zu2, zu3, zu4, gI, gL, pI, pL, pZ, aI, aL, sI, sZ, sL, Option.bind_some, Option.map_some, if_true, if_false, ite_true, ite_false, true_and, and_true, false_and, and_false, or_true, true_or, or_false, false_or, and_self, not_true_eq_false, not_false_eq_true, ↓reduceIte, reduceIte, Nat.reduceAdd, Nat.reduceMul, Nat.reduceSub, Nat.reduceMod, Nat.reduceDiv, Nat.reduceEqDiff, Nat.reduceLT, Nat.reduceLeDiff, Int32.reduceAdd, Int32.reduceSub, Int32.reduceMul, Int32.reduceDiv, Int32.reduceMod, Int32.reduceOfNat, Int32.reduceOfInt, Int32.reduceLT, Int32.reduceLE, Int32.reduceToNatClampNeg, Int32.reduceToInt]
  · have t4' : 0 ≤ air c ∧ air c ≤ 3 := t4
    have nt : ¬ air c = -5 := by omega
    have hu : (air c).toNat < 4 := by omega
    have jd3 : JD (sw c) (MX c) (MY c) μ3 := jd.w (fun j hj => by rw [l2]; exact g5 j hj)
    obtain ⟨μ4, p4, k1, k2, k3, k4, k5⟩ := shareByThree_at hk J3.1 b.1 jd3 jb hu
    rw [← ofIn _ t4'.1] at p4
    have f4 : Fr (fun q => q = 55 ∨ q = 56) μ μ4 := f3.tr k1
    have J4 := hw _ f4
    have c5 : ¬ (Int32.ofInt (air c) = -5) := by
      rw [show (-5 : Int32) = Int32.ofInt (-5) by decide]
      intro e
      have := (yeq (air c) (-5) (by omega) (by omega) (by omega) (by omega)).mp e
      omega
    by_cases t5 : 0 ≤ sh3 c (sw c) (MX c) (MY c) (air c).toNat (((air c).toNat + 1) % 4) ∧ 0 ≤ sh3 c (sw c) (MX c) (MY c) (air c).toNat (((air c).toNat + 2) % 4) ∧ 0 ≤ sh3 c (sw c) (MX c) (MY c) (air c).toNat (((air c).toNat + 3) % 4)
    · rw [if_pos t5] at p4
      have n0 : none3 c = 0 := by unfold none3 s3; rw [if_neg t1, if_neg t2, if_pos t3, if_neg nt, if_pos t5]
      have jo : JO c μ4 := by
        refine ⟨fun p hp => ?_, ?_, by rw [k2]; exact v5⟩
        · unfold shF; rw [if_neg nt]; exact k3 p hp
        · unfold blF; rw [if_neg nt]; exact k4
      have tb := tri_b b.1 (Nat.mod_lt ((air c).toNat + 1) (by decide : 4 > 0)) (Nat.mod_lt ((air c).toNat + 2) (by decide : 4 > 0)) (Nat.mod_lt ((air c).toNat + 3) (by decide : 4 > 0))
      have fin := verdict_fin hk J4 b jo (fun i hi => by
        unfold shF; rw [if_neg nt]; unfold s3 sh3
        have d1 := abt_b b.1 jb (Nat.mod_lt ((air c).toNat + 2) (by decide : 4 > 0)) (Nat.mod_lt ((air c).toNat + 3) (by decide : 4 > 0))
        have d2 := abt_b b.1 jb (Nat.mod_lt ((air c).toNat + 3) (by decide : 4 > 0)) (Nat.mod_lt ((air c).toNat + 1) (by decide : 4 > 0))
        have d3 := abt_b b.1 jb (Nat.mod_lt ((air c).toNat + 1) (by decide : 4 > 0)) (Nat.mod_lt ((air c).toNat + 2) (by decide : 4 > 0))
        split
        · omega
        · split
          · omega
          · split <;> omega) (by unfold blF; rw [if_neg nt]; omega)
      refine ⟨μ4, ?_, f4, fun _ => jo⟩
      unfold whyV
      rw [n0, if_pos rfl]
      simp (decide := true) (implicitDefEqProofs := false) only [f_X3_verdict, r1, o4, st, t1, ga, w0, w0', t2, tp, t3, sp, lo', ← E3, v5, c5, p4, fin, zO, zR, zA, zT, zu1, zu2, zu3, zu4, gI, gL, pI, pL, pZ, aI, aL, sI, sZ, sL, Option.bind_some, Option.map_some, if_true, if_false, ite_true, ite_false, true_and, and_true, false_and, and_false, or_true, true_or, or_false, false_or, and_self, not_true_eq_false, not_false_eq_true, ↓reduceIte, reduceIte, Nat.reduceAdd, Nat.reduceMul, Nat.reduceSub, Nat.reduceMod, Nat.reduceDiv, Nat.reduceEqDiff, Nat.reduceLT, Nat.reduceLeDiff, Int32.reduceAdd, Int32.reduceSub, Int32.reduceMul, Int32.reduceDiv, Int32.reduceMod, Int32.reduceOfNat, Int32.reduceOfInt, Int32.reduceLT, Int32.reduceLE, Int32.reduceToNatClampNeg, Int32.reduceToInt]
    · rw [if_neg t5] at p4
      have n0 : none3 c = 3 := by unfold none3 s3; rw [if_neg t1, if_neg t2, if_pos t3, if_neg nt, if_neg t5]
      have y0 : whyV c = 3 := by unfold whyV; rw [n0]; rfl
      rw [y0, n0]
      refine ⟨μ4, ?_, f4, fun e => by cases e⟩
      simp (decide := true) (implicitDefEqProofs := false) only [f_X3_verdict, r1, o4, st, t1, ga, w0, w0', t2, tp, t3, sp, lo', ← E3, v5, c5, p4, zO, zR, zA, zT, zu1, zu2, zu3, zu4, gI, gL, pI, pL, pZ, aI, aL, sI, sZ, sL, Option.bind_some, Option.map_some, if_true, if_false, ite_true, ite_false, true_and, and_true, false_and, and_false, or_true, true_or, or_false, false_or, and_self, not_true_eq_false, not_false_eq_true, ↓reduceIte, reduceIte, Nat.reduceAdd, Nat.reduceMul, Nat.reduceSub, Nat.reduceMod, Nat.reduceDiv, Nat.reduceEqDiff, Nat.reduceLT, Nat.reduceLeDiff, Int32.reduceAdd, Int32.reduceSub, Int32.reduceMul, Int32.reduceDiv, Int32.reduceMod, Int32.reduceOfNat, Int32.reduceOfInt, Int32.reduceLT, Int32.reduceLE, Int32.reduceToNatClampNeg, Int32.reduceToInt]

