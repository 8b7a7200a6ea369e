theorem w_76 : (Jvm.Cond.classLink "CranePadsLaw" (7 : Nat) "CranePads") ∈ GG := gg_mem 76 (by decide +kernel) rfl
theorem w_967 : (Jvm.Cond.classLink "CranePadsLaw" (10 : Nat) "CranePadsModel") ∈ GG := gg_mem 967 (by decide +kernel) rfl
theorem w_77 : (Jvm.Cond.instantiable "CranePads" (12 : Nat)) ∈ GG := gg_mem 77 (by decide +kernel) rfl
theorem w_968 : (Jvm.Cond.instantiable "CranePadsModel" (41 : Nat)) ∈ GG := gg_mem 968 (by decide +kernel) rfl
theorem w_78 : (Jvm.Cond.methodLink "CranePadsLaw" (9 : Nat) ({ cls := "CranePads", name := "<init>", desc := "()V" } : Jvm.MethodName)) ∈ GG := gg_mem 78 (by decide +kernel) rfl
theorem w_969 : (Jvm.Cond.methodLink "CranePadsLaw" (12 : Nat) ({ cls := "CranePadsModel", name := "<init>", desc := "()V" } : Jvm.MethodName)) ∈ GG := gg_mem 969 (by decide +kernel) rfl
def S00 : SH := (0, fun _ => .inl (0, fun _ => none))
def μ00 : Mem := (fun _ _ => 0, fun _ _ => 0)
/-- the law, pure -/
def k_L (L : Nat) (xs : Nat → Int32) : Option (Int32 × Mem) :=
  (some (nwO 11 S00 μ00)).bind fun σ1 =>
  (k_X11_init σ1.1 S00.1 σ1.2).bind fun σ2 =>
  (some (nwO 12 σ2.1 σ2.2)).bind fun σ3 =>
  (k_X12_init σ3.1 σ2.1.1 σ3.2).bind fun σ4 =>
  lpN (l_L_law_18 σ4.1 L xs S00.1 σ2.1.1) fu (0, σ4.2)
