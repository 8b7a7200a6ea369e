/-! ===== what the Statement gives of the start, as Ken wants it ===== -/
abbrev gvC : List Cond := flatC (Jvm.Cond.and given_1 narrow_1)
theorem sq_1 : ∀ i, i < 10 → Cond.exactly (.string (ksO i) (ksI i)) "java/lang/String" ∈ gvC := by decide +kernel
theorem sq_2 : ∀ i, i < 10 → Cond.eq (.field (.string (ksO i) (ksI i)) "java/lang/String" "coder" "B") (.int 0) ∈ gvC := by decide +kernel
theorem sq_3 : ∀ i, i < 10 → Cond.arrayOf (.field (.string (ksO i) (ksI i)) "java/lang/String" "value" "[B") .byte ∈ gvC := by decide +kernel
theorem sq_4 : ∀ i, i < 10 → Cond.eq (.length (.field (.string (ksO i) (ksI i)) "java/lang/String" "value" "[B")) (.int (Int32.ofNat (ksB i).length)) ∈ gvC := by decide +kernel
theorem sq_5 : ∀ i, i < 10 → ∀ j, j < (ksB i).length → Cond.eq (.elem (.field (.string (ksO i) (ksI i)) "java/lang/String" "value" "[B") (.int (Int32.ofNat j))) (.int ((ksB i).getD j 0)) ∈ gvC := by decide +kernel
theorem sq_6 : ∀ i, i < 10 → Cond.stringRef (ksO i) (ksI i) (ksT i) ∈ lw_tbl := by decide +kernel
theorem st_1 : ∀ t, t < 5 → Cond.arrayOf (.static "CranePads" (stN t) "[I") .int ∈ gvC := by decide +kernel
theorem st_2 : ∀ t, t < 5 → Cond.eq (.length (.static "CranePads" (stN t) "[I")) (.int (Int32.ofNat (stT t).length)) ∈ gvC := by decide +kernel
theorem st_3 : ∀ t, t < 5 → ∀ j, j < (stT t).length → Cond.eq (.elem (.static "CranePads" (stN t) "[I") (.int (Int32.ofNat j))) (.int ((stT t).getD j 0)) ∈ gvC := by decide +kernel
theorem st_4 : ∀ t, t < 5 → Cond.laysStatic "CranePads" (stN t) "[I" ∈ lw_tbl := by decide +kernel
theorem st_5 : Cond.exactly (.static "CranePads" (stN 0) "[I") "[I" ∈ gvC := by decide +kernel
theorem st_6 : Cond.eq (.static "java/lang/String" "COMPACT_STRINGS" "Z") (.int 1) ∈ gvC := by decide +kernel
theorem st_7 : Cond.laysStatic "java/lang/String" "COMPACT_STRINGS" "Z" ∈ lw_tbl := by decide +kernel
theorem st_8 : Cond.initialized "java/lang/String" ∈ lw_tbl := by decide +kernel
theorem st_9 : Cond.isRef (.static "jdk/internal/util/Preconditions" "SIOOBE_FORMATTER" "Ljava/util/function/BiFunction;") ∈ gvC := by decide +kernel
theorem st_10 : Cond.laysStatic "jdk/internal/util/Preconditions" "SIOOBE_FORMATTER" "Ljava/util/function/BiFunction;" ∈ lw_tbl := by decide +kernel
theorem st_11 : Cond.initialized "jdk/internal/util/Preconditions" ∈ lw_tbl := by decide +kernel
theorem st_12 : Cond.initialized "CranePads" ∈ lw_tbl := by decide +kernel
theorem st_13 : ∀ w ∈ nestF, w ∈ lw_tbl ∧ w.onTables = true := by decide +kernel
theorem st_14 : ∀ w ∈ nestM, w ∈ lw_tbl ∧ w.onTables = true := by decide +kernel
theorem st_15 : Cond.arrayOver (.object "CranePads$Chart") ∈ lw_tbl := by decide +kernel
theorem st_16 : Cond.arrayOver (.array .long) ∈ lw_tbl := by decide +kernel
theorem st_17 : Cond.castable "[I" "java/lang/Cloneable" ∈ lw_tbl := by decide +kernel
theorem st_18 : Cond.arrayClass .int ∈ lw_tbl ∧ Cond.arrayClass .long ∈ lw_tbl ∧ Cond.arrayClass .byte ∈ lw_tbl ∧ Cond.arrayClass .boolean ∈ lw_tbl := ⟨by decide +kernel, by decide +kernel, by decide +kernel, by decide +kernel⟩
theorem st_19 : ∀ k, k < 13 → Cond.instantiable (vwCl.getD k ("", TX0, 0)).1 (vwCl.getD k ("", TX0, 0)).2.2 ∈ lw_tbl := by decide +kernel
theorem stT_len : ∀ t, t < 5 → (stT t).length < 2 ^ 31 := by decide
theorem ksB_len : ∀ i, i < 10 → (ksB i).length < 2 ^ 31 := by decide
/-- arrays of arrays -/
theorem ao_spec {args : Array Value} {s : State} (h : (Cond.arrayOver (.array .long)).before args s = true) : ∃ comp c k, s.vm.findClass "[J" = some comp ∧ s.vm.classes[c]? = some k ∧ k.kind = .array comp (.array .long) ∧ s.vm.findClass "[[J" = some c := by
  have e1 : (FieldType.array .long).toString = "[J" := by decide
  have e2 : "[" ++ (FieldType.array .long).toString = "[[J" := by decide
  simp only [Cond.before, Cond.holds, Cond.value, beq_iff_eq] at h
  rw [e1] at h
  cases hc : s.vm.findClass "[J" with
  | none => simp [hc] at h
  | some comp =>
    simp only [hc, Option.bind_some, Option.bind_eq_some_iff, Option.map_eq_some_iff] at h
    obtain ⟨c, hi, k, hk, hb⟩ := h
    obtain ⟨hlt, hp, -⟩ := Array.findIdx?_eq_some_iff_getElem.mp hi
    have hkk : s.vm.classes[c] = k := (Array.getElem?_eq_some_iff.mp hk).2
    rw [hkk] at hp
    cases hkind : k.kind with
    | array component ty =>
      rw [hkind] at hb hp
      simp at hb hp
      refine ⟨comp, c, k, rfl, hk, by rw [hkind, hp, hb.1], ?_⟩
      have := hb.2
      first | exact this | (rw [show "[" ++ "[J" = "[[J" by decide] at this; exact this)
    | _ => rw [hkind] at hb; simp at hb
section KenAt
variable {p : Program} {s : State} {m : MethodId} {meth : Method} {c : Code} {b L : Nat} {xs : Nat → Int32}
theorem ken_str (C0 : lw_At p s m meth c b L xs) (i : Nat) (hi : i < 10) : ∃ q : Nat × Nat, va_O "java/lang/String" q.1 (fun a => s.heap.size ≤ a) s s.heap ∧ va_OF "java/lang/String" "coder" "B" (.int 0) q.1 (fun a => s.heap.size ≤ a) s s.heap ∧ va_OF "java/lang/String" "value" "[B" (.ref q.2) q.1 (fun a => s.heap.size ≤ a) s s.heap ∧ va_T .byte q.2 (ksB i).length (fun j => .int ((ksB i).getD j 0)) (fun a => s.heap.size ≤ a) s s.heap ∧ vk_R (ksO i) (ksI i) (ksT i) q.1 s := by
  obtain ⟨-, -, -, -, -, hts, -, -, -, hgv⟩ := C0
  have hs := flat_of_before _ hgv
  have hA : ∀ a : Nat, a < s.heap.size → ¬ (fun a : Nat => s.heap.size ≤ a) a := fun a h => Nat.not_le.mpr h
  obtain ⟨a, c0, cA, kA, q1, q2, q3, q4, q5, q6, -⟩ := Cond.exactly_spec (args := #[Value.ref b]) (first := s) (o := none) (s := s) (idx := []) (t := .string (ksO i) (ksI i)) (cls := "java/lang/String") (hs _ (sq_1 i hi))
  obtain ⟨t, ht, hT⟩ := va_Tof (f := fun j => .int ((ksB i).getD j 0)) (A := fun a => s.heap.size ≤ a) (ksB_len i hi) (hs _ (sq_3 i hi)) (va_eqt (hs _ (sq_4 i hi))) (fun j hj => va_eqt (hs _ (sq_5 i hi j hj))) hA
  refine ⟨(a, t), ⟨cA, q3, q5, by rw [q6]; exact q2, hA a (Array.getElem?_eq_some_iff.mp q3).1⟩, vk_OFof q1 (va_eqt (hs _ (sq_2 i hi))) hA, vk_OFof q1 ht hA, hT, ?_⟩
  exact vk_R.of (hts _ (sq_6 i hi)) q1
theorem ken_st (C0 : lw_At p s m meth c b L xs) (t : Nat) (ht : t < 5) : ∃ a : Nat, va_Z "CranePads" (stN t) "[I" (.ref a) (fun a => s.heap.size ≤ a) s s.heap ∧ va_T .int a (stT t).length (fun j => .int ((stT t).getD j 0)) (fun a => s.heap.size ≤ a) s s.heap := by
  obtain ⟨-, -, -, -, -, hts, -, -, -, hgv⟩ := C0
  have hs := flat_of_before _ hgv
  have hA : ∀ a : Nat, a < s.heap.size → ¬ (fun a : Nat => s.heap.size ≤ a) a := fun a h => Nat.not_le.mpr h
  obtain ⟨a, ha, hT⟩ := va_Tof (tm := .static "CranePads" (stN t) "[I") (f := fun j => .int ((stT t).getD j 0)) (A := fun a => s.heap.size ≤ a) (stT_len t ht) (hs _ (st_1 t ht)) (va_eqt (hs _ (st_2 t ht))) (fun j hj => va_eqt (hs _ (st_3 t ht j hj))) hA
  exact ⟨a, va_Zref (hts _ (st_4 t ht)) (hts _ st_12) ha hA, hT⟩
/-- the first static array's cell, whole -/
theorem ken_c (C0 : lw_At p s m meth c b L xs) {a : Nat} (hZ : va_Z "CranePads" (stN 0) "[I" (.ref a) (fun a => s.heap.size ≤ a) s s.heap) (hT : va_T .int a (stT 0).length (fun j => .int ((stT 0).getD j 0)) (fun a => s.heap.size ≤ a) s s.heap) {cI : ClassId} (hcI : s.vm.findClass "[I" = some cI) : ∃ cell : Cell, s.heap[a]? = some cell ∧ cell.cls = cI ∧ cell.vm.isStatics = false ∧ cell.vm ≠ .unknown ∧ cell.slots.size = 14 ∧ (∀ j : Nat, j < 14 → cell.slots[j]? = some (.int ((stT 0).getD j 0))) := by
  obtain ⟨-, -, -, -, -, hts, -, -, -, hgv⟩ := C0
  have hs := flat_of_before _ hgv
  obtain ⟨a2, c0, cell, kA, q1, q2, q3, q4, q5, q6, -⟩ := Cond.exactly_spec (args := #[Value.ref b]) (first := s) (o := none) (s := s) (idx := []) (t := .static "CranePads" (stN 0) "[I") (cls := "[I") (hs _ st_5)
  have hl := va_eqt (hs _ (st_2 0 (by decide)))
  obtain ⟨a3, cell3, ht3, harr, hv3⟩ := Term.length_spec hl
  cases q1.symm.trans ht3
  obtain ⟨hc3, hkn, -, -⟩ := State.arrayAt?_spec harr
  cases q3.symm.trans hc3
  have hsz : cell.slots.size < 2 ^ 31 := by
    simp only [Term.eval, Option.bind_eq_bind] at hl
    have ht3' := ht3
    simp only [Term.eval, Option.bind_eq_bind] at ht3'
    rw [ht3'] at hl
    simp only [Option.bind_some, harr] at hl
    by_cases hlt : cell.slots.size < 2147483648
    · exact hlt
    · simp [hlt] at hl
  have h14 : cell.slots.size = 14 := by
    have e := Value.int.inj hv3
    have e2 : Int32.ofNat (stT 0).length = Int32.ofNat cell.slots.size := e
    have := congrArg Int32.toInt e2
    rw [Int32.toInt_ofNat_small (by decide), Int32.toInt_ofNat_small hsz] at this
    have e3 : (stT 0).length = 14 := rfl
    omega
  have ha : a = a2 := by
    obtain ⟨cf, kf, fi, f, a9, cell9, g1, g2, g3, g4, g5, g6, g7, -⟩ := hZ
    obtain ⟨hst', a', cell', ha', hcell', -, hslot⟩ := Term.static_spec g1 q1
    cases g4.symm.trans ha'
    cases g5.symm.trans hcell'
    have := g7.symm.trans hslot
    exact Value.ref.inj (Option.some.inj this)
  subst ha
  obtain ⟨cell2, h1, h2, h3, h4, h5, h6, h7⟩ := hT
  cases q3.symm.trans h1
  exact ⟨cell, q3, by rw [q6]; exact Option.some.inj (q2.symm.trans hcI), q5, hkn, h14, h6⟩
theorem ken_at (C0 : lw_At p s m meth c b L xs) : ∃ γ : GE, gb γ = s.heap.size ∧ Ken γ s s.heap := by
  have C1 := C0
  obtain ⟨-, -, -, -, -, hts, -, -, -, hgv⟩ := C0
  have hs := flat_of_before _ hgv
  have hA : ∀ a : Nat, a < s.heap.size → ¬ (fun a : Nat => s.heap.size ≤ a) a := fun a h => Nat.not_le.mpr h
  -- classes
  have hcl : ∀ k : Nat, ∃ x : ClassId × (Nat → Nat), ∀ q : vw_C, vwCl[k]? = some q → u_Kn s q.1 q.2.1 q.2.2 x.1 x.2 := by
    intro k
    by_cases hk : k < 13
    · have key : ∀ (C : String) (T : u_T) (N : Nat), CP k C T N → Cond.instantiable C N ∈ lw_tbl → ∃ x : ClassId × (Nat → Nat), ∀ q : vw_C, vwCl[k]? = some q → u_Kn s q.1 q.2.1 q.2.2 x.1 x.2 := by
        intro C T N hcp hi
        obtain ⟨cC, iS, h⟩ := u_known (C := C) (T := T) (N := N) (n := N) hts (fun w hw => gg_tbl w (hcp.2.2.1 w hw)) (hts _ hi)
        refine ⟨(cC, iS), fun q hq => ?_⟩
        have e : q = (C, T, N) := Option.some.inj (hq.symm.trans hcp.1)
        subst e
        exact h
      have hin := st_19 k hk
      match k, hk, hin, key with
      | 0, _, hin, key => exact key _ _ _ cp0 hin
      | 1, _, hin, key => exact key _ _ _ cp1 hin
      | 2, _, hin, key => exact key _ _ _ cp2 hin
      | 3, _, hin, key => exact key _ _ _ cp3 hin
      | 4, _, hin, key => exact key _ _ _ cp4 hin
      | 5, _, hin, key => exact key _ _ _ cp5 hin
      | 6, _, hin, key => exact key _ _ _ cp6 hin
      | 7, _, hin, key => exact key _ _ _ cp7 hin
      | 8, _, hin, key => exact key _ _ _ cp8 hin
      | 9, _, hin, key => exact key _ _ _ cp9 hin
      | 10, _, hin, key => exact key _ _ _ cp10 hin
      | 11, _, hin, key => exact key _ _ _ cp11 hin
      | 12, _, hin, key => exact key _ _ _ cp12 hin
    · refine ⟨(0, fun _ => 0), fun q hq => ?_⟩
      have hl := (List.getElem?_eq_some_iff.mp hq).1
      have : vwCl.length = 13 := rfl
      omega
  obtain ⟨D, hD⟩ := Classical.axiomOfChoice hcl
  -- array classes
  obtain ⟨cI, kI', cmI, i1, i2, i3⟩ := Cond.arrayClass_spec (hts _ st_18.1)
  obtain ⟨cJ, kJ', cmJ, j1, j2, j3⟩ := Cond.arrayClass_spec (hts _ st_18.2.1)
  obtain ⟨cB, kB', cmB, b1, b2, b3⟩ := Cond.arrayClass_spec (hts _ st_18.2.2.1)
  obtain ⟨cZ, kZ', cmZ, z1, z2, z3⟩ := Cond.arrayClass_spec (hts _ st_18.2.2.2)
  obtain ⟨cmC, cC, kC', o1, -, o3, o4, o5⟩ := Cond.arrayOver_spec (hts _ st_15)
  obtain ⟨cmA, cA, kA', a1, a2, a3, a4⟩ := ao_spec (hts _ st_16)
  have eJ : cmA = cJ := Option.some.inj (a1.symm.trans j1)
  subst eJ
  -- strings, statics
  obtain ⟨K, hK⟩ := Classical.axiomOfChoice (r := fun (i : Nat) (q : Nat × Nat) => i < 10 → va_O "java/lang/String" q.1 (fun a => s.heap.size ≤ a) s s.heap ∧ va_OF "java/lang/String" "coder" "B" (.int 0) q.1 (fun a => s.heap.size ≤ a) s s.heap ∧ va_OF "java/lang/String" "value" "[B" (.ref q.2) q.1 (fun a => s.heap.size ≤ a) s s.heap ∧ va_T .byte q.2 (ksB i).length (fun j => .int ((ksB i).getD j 0)) (fun a => s.heap.size ≤ a) s s.heap ∧ vk_R (ksO i) (ksI i) (ksT i) q.1 s) (fun i => by
    by_cases hi : i < 10
    · obtain ⟨q, h⟩ := ken_str C1 i hi
      exact ⟨q, fun _ => h⟩
    · exact ⟨(0, 0), fun h => absurd h hi⟩)
  obtain ⟨sa, hsa⟩ := Classical.axiomOfChoice (r := fun (t : Nat) (a : Nat) => t < 5 → va_Z "CranePads" (stN t) "[I" (.ref a) (fun a => s.heap.size ≤ a) s s.heap ∧ va_T .int a (stT t).length (fun j => .int ((stT t).getD j 0)) (fun a => s.heap.size ≤ a) s s.heap) (fun t => by
    by_cases ht : t < 5
    · obtain ⟨a, h⟩ := ken_st C1 t ht
      exact ⟨a, fun _ => h⟩
    · exact ⟨0, fun h => absurd h ht⟩)
  obtain ⟨cell0, d1, d2, d3, d4, d5, d6⟩ := ken_c C1 (hsa 0 (by decide)).1 (hsa 0 (by decide)).2 (cI := cI) i1
  let gAf : FieldType → ClassId := fun ty => if ty = .int then cI else if ty = .long then cmA else if ty = .byte then cB else if ty = .boolean then cZ else if ty = .object "CranePads$Chart" then cC else cA
  refine ⟨((fun k => (D k).1, fun k => (D k).2), gAf, s.heap.size, sa, fun i => (K i).1, fun i => (K i).2), rfl, ⟨fun k q hq => hD k q hq, ?_⟩, fun w hw => va_Nw.of (st_13 w hw).2 (hts _ (st_13 w hw).1), fun w hw => va_Nw.of (st_14 w hw).2 (hts _ (st_14 w hw).1), fun t ht => hsa t ht, fun i hi => ⟨(hK i hi).1, (hK i hi).2.1, (hK i hi).2.2.1, (hK i hi).2.2.2.1⟩, fun i hi => (hK i hi).2.2.2.2, va_Zof (hts _ st_7) (hts _ st_8) (va_eqi (hs _ st_6)) hA, va_Zqof (hts _ st_10) (hts _ st_11) (hs _ st_9) hA, ⟨va_AO.of (hts _ st_15), va_Nw.of rfl (hts _ st_17), kA', kJ', cmJ, a4, a2, a3, j1, j2, j3⟩, cell0, d1, d2, d3, d4, d5, d6, hA _ (Array.getElem?_eq_some_iff.mp d1).1⟩
  intro k q hk
  have hk6 : k < 6 := (List.getElem?_eq_some_iff.mp hk).1
  match k, hk6, hk with
  | 0, _, hk => cases hk; exact ⟨fun n z => ⟨fun k h => (by cases h), kI', i2, cmI, i3⟩, i1⟩
  | 1, _, hk => cases hk; exact ⟨fun n z => ⟨fun k h => (by cases h), kJ', j2, cmJ, j3⟩, j1⟩
  | 2, _, hk => cases hk; exact ⟨fun n z => ⟨fun k h => (by cases h), kB', b2, cmB, b3⟩, b1⟩
  | 3, _, hk => cases hk; exact ⟨fun n z => ⟨fun k h => (by cases h), kZ', z2, cmZ, z3⟩, z1⟩
  | 4, _, hk => cases hk; exact ⟨fun n z => ⟨fun k h => (by cases h), kC', o3, cmC, o4⟩, kC', cmC, o3, o4, o1, o5⟩
  | 5, _, hk => cases hk; exact ⟨fun n z => ⟨fun k h => (by cases h), kA', a2, _, a3⟩, a4⟩
end KenAt
