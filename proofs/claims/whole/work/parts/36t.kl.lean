theorem w_76 : (Jvm.Cond.classLink "CranePadsLaw" (7 : Nat) "CranePads") ∈ GG := gg_mem 76 (by decide +kernel) rfl
theorem w_967 : (Jvm.Cond.classLink "CranePadsLaw" (10 : Nat) "CranePadsModel") ∈ GG := gg_mem 967 (by decide +kernel) rfl
theorem w_77 : (Jvm.Cond.instantiable "CranePads" (12 : Nat)) ∈ GG := gg_mem 77 (by decide +kernel) rfl
theorem w_968 : (Jvm.Cond.instantiable "CranePadsModel" (41 : Nat)) ∈ GG := gg_mem 968 (by decide +kernel) rfl
theorem w_78 : (Jvm.Cond.methodLink "CranePadsLaw" (9 : Nat) ({ cls := "CranePads", name := "<init>", desc := "()V" } : Jvm.MethodName)) ∈ GG := gg_mem 78 (by decide +kernel) rfl
theorem w_969 : (Jvm.Cond.methodLink "CranePadsLaw" (12 : Nat) ({ cls := "CranePadsModel", name := "<init>", desc := "()V" } : Jvm.MethodName)) ∈ GG := gg_mem 969 (by decide +kernel) rfl
/-- the law, pure -/
def k_L (L : Nat) (xs : Nat → Int32) : Option (Int32 × Mem) :=
  (some (nwO 11 S00 μ00)).bind fun σ1 =>
  (k_X11_init σ1.1 S00.1 σ1.2).bind fun σ2 =>
  (some (nwO 12 σ2.1 σ2.2)).bind fun σ3 =>
  (k_X12_init σ3.1 σ2.1.1 σ3.2).bind fun σ4 =>
  if σ2.1.1 = 81 ∧ stOK σ4 = true then lpN (l_L_law_18 SX L xs 0 81) fu (0, μX) else none
/-- the law's loop, from the explicit start -/
def k_Z (L : Nat) (xs : Nat → Int32) : Option (Int32 × Mem) := lpN (l_L_law_18 SX L xs 0 81) fu (0, μX)
theorem k_L_Z (L : Nat) (xs : Nat → Int32) : k_L L xs = k_Z L xs := by
  have h := k_start_ok
  unfold k_start at h
  unfold k_L k_Z
  revert h
  cases (some (nwO 11 S00 μ00)) with
  | none => intro h; cases h
  | some σ1 =>
    simp only [Option.bind_some]
    cases k_X11_init σ1.1 S00.1 σ1.2 with
    | none => intro h; cases h
    | some σ2 =>
      simp only [Option.bind_some]
      cases k_X12_init (nwO 12 σ2.1 σ2.2).1 σ2.1.1 (nwO 12 σ2.1 σ2.2).2 with
      | none => intro h; cases h
      | some σ4 =>
        simp only [Option.bind_some]
        by_cases hc : σ2.1.1 = 81 ∧ stOK σ4 = true
        · intro _; rw [if_pos hc]
        · rw [if_neg hc]; intro h; cases h
