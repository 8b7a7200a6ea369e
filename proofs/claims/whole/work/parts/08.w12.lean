section W12
variable {γ : GE} {p : Program} {l : Launch} {e : Env} {R : Room} {s : State} {m : MethodId} {args : Array Value} {below : List Frame} {meth : Method} {c : Code} {cc : ByteArray} {own : String} {nL : Nat} {cells slots : Nat} {Q : State → Prop} {S : SH} {μ : Mem} {pc : Nat} {lv : List (Nat × Value)} {st : List Value} {ρ : Type} {X : ρ}
variable {y : MethodName} {cc' : ByteArray} {nL' : Nat} {ret : Option FieldType} {n ci o idx : Nat} {As rest : List Value}
/-- a call over a deeper stack: up to 12 words below the arguments -/
theorem j_cVI12 (F : FX γ p s m args meth c cc own nL) {rm : Room} {K : Int32 × Mem → Option ρ} {t : Option (Int32 × Mem)} (hM : MI y cc' nL' ret n ci) (hlk : Cond.methodLink own idx y ∈ GG) (h : t.bind K = some X) (hct : ∀ q, t = some q → isO S ci o = true ∧ Ct l γ y cc' nL' ret rm (.ref (gb γ + o) :: As) S μ S q.2 (some (.int q.1))) (hst : st = As.reverse ++ .ref (gb γ + o) :: rest) (hn : As.length = n) (hr : (rest.map fun v => v.category).sum ≤ 12) (hR : rm.frames + 1 ≤ R.frames ∧ 12 + (nL' + 11) + rm.locals ≤ R.locals) (hc : cells ≤ R.cells ∧ slots ≤ R.slots) (hd : decode cc pc = .ok (.invokevirtual idx, 3)) (k : ∀ q, K q = some X → JJ γ p l e R s m args below meth c nL cells slots Q S q.2 (pc + 3) lv (.int q.1 :: rest)) (hz : rm.cells = 0 ∧ rm.slots = 0 := by exact ⟨rfl, rfl⟩) : JJ γ p l e R s m args below meth c nL cells slots Q S μ pc lv st := by
  obtain ⟨q, g, h⟩ := bd_some h
  obtain ⟨hi, hct⟩ := hct q g
  obtain ⟨z1, z2⟩ := hz
  have k := k q h
  have hc' : cells + rm.cells ≤ R.cells ∧ slots + rm.slots ≤ R.slots := by rw [z1, z2]; exact hc
  obtain ⟨⟨T0, N, hcp⟩, m1, m2, m3, m4, m5⟩ := hM
  obtain ⟨ho, rs, hs⟩ := isO_spec hi
  have hts := F.2.2.2.2.1
  refine j_cont (mc := rm.cells) (ms := rm.slots) (r := some (.int q.1)) (rest := rest) (a := (Value.ref (gb γ + o) :: As).toArray) (fun H locs ls hW hS hl => ?_) (by rw [z1, z2]; exact k)
  obtain ⟨cellB, hcB, hoB, hclB⟩ := va_recv F.2.2.2.2.2.1.1 (hW.ob ho hs) hcp.1 (q0 := 0) rfl
  have cb := callB_of (R := { R with locals := 8 + (nL' + 11) + rm.locals }) (own := own) (index := idx) (mc := rm.cells) (ms := rm.slots) n hts (gg_call m4) rfl rfl rfl (hts _ m3) (hts _ hlk) m5 ⟨hR.1, Nat.le_refl _⟩
  obtain ⟨-, -, -, -, hws, hcw, hcode, hini, hy, hlen, hlk2⟩ := cb
  have hK : Back l R p e below s args y 3 12 (PreOf R rm.cells rm.slots (Pm γ S μ (.ref (gb γ + o) :: As))) (PostOf (Qm γ S q.2 (some (.int q.1))) rm.cells rm.slots (AA γ)) := back_of (bytes := cc') (maxL := nL') (ret := ret) hct Pm.blind rfl rfl hR.1 hR.2 hws hcw (fun a' U hW => word_at hW (Or.inl (by first | rfl | simp [Cond.onTables, Cond.keeps, Cond.steady])) hini)
  intro T hT X9
  obtain ⟨v, vm₁, ⟨U', l2, c2, s2⟩, hW₁, X', ⟨g', mk, t9, L, e1, e2, hq, h1, hL, h2, h3⟩, st9⟩ := callV X9 F.1 (C := y.cls) (bytes := cc') (maxL := nL') (ret := ret) F.2.2.2.1 hlk2 (hts _ m1) (hts _ m2) hcode hy hK (by rw [hT]; exact hcB) hoB hclB (g := F0 m pc ls st) rfl (hl.1.trans F.2.2.1.symm) (argsL := As) (rest := rest) (fun sig h => hn.trans (hlen sig h)) hst (by show 2 * 0 + _ ≤ 12; omega) (by rw [F.2.1]; exact hd)
    (fun vm₁ hW₁ => ⟨hc'.1, hc'.2, j_pre F hW hS (U := T.setVm vm₁) hT hW₁⟩)
  dsimp only [Pt.U, Pt.locs, Pt.cells, Pt.slots] at X' e1 e2 h1 h2 h3 st9
  subst h1; subst h2; subst h3
  exact ⟨v, (T.setVm vm₁).calling g' mk (Value.ref (gb γ + o) :: As).toArray, t9, U', L, hT, X', hL, e1, e2, hq, st9⟩
end W12
