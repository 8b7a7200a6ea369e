theorem if_some {c : Prop} {ρ : Type} {a : Option ρ} {X : ρ} {dc : Decidable c} (h : (if c then a else none) = some X) : c ∧ a = some X := by
  by_cases hc : c
  · rw [if_pos hc] at h; exact ⟨hc, h⟩
  · rw [if_neg hc] at h; cases h
section Rows2
variable {γ : GE} {p : Program} {l : Launch} {e : Env} {R : Room} {s : State} {m : MethodId} {args : Array Value} {below : List Frame} {meth : Method} {c : Code} {cc : ByteArray} {own : String} {nL : Nat} {cells slots : Nat} {Q : State → Prop} {S : SH} {μ : Mem} {pc : Nat} {lv : List (Nat × Value)} {st : List Value} {ρ : Type} {X : ρ}
theorem j_nmI {e0 : Int32} {K : Int32 → Option ρ} (h : (some e0).bind K = some X) (k : ∀ v, K v = some X → JJ γ p l e R s m args below meth c nL cells slots Q S μ (pc) (lv) (.int v :: st)) : JJ γ p l e R s m args below meth c nL cells slots Q S μ (pc) (lv) (.int e0 :: st) := k e0 h
theorem j_nmL {e0 : Int64} {K : Int64 → Option ρ} (h : (some e0).bind K = some X) (k : ∀ v, K v = some X → JJ γ p l e R s m args below meth c nL cells slots Q S μ (pc) (lv) (.long v :: st)) : JJ γ p l e R s m args below meth c nL cells slots Q S μ (pc) (lv) (.long e0 :: st) := k e0 h
theorem j_ixor (F : FX γ p s m args meth c cc own nL) {x y : Int32} (hd : decode cc pc = .ok (.ixor, 1)) (k : JJ γ p l e R s m args below meth c nL cells slots Q S μ (pc + 1) (lv) (.int (x ^^^ y) :: st)) : JJ γ p l e R s m args below meth c nL cells slots Q S μ (pc) (lv) (.int y :: .int x :: st) :=
  fun H locs ls hW hS hl => lv_ixor F.1 F.2.1 hd (k H locs ls hW hS hl)
theorem j_tin (F : FX γ p s m args meth c cc own nL) {dflt lo hi off : Int} {offs : Array Int} {len : Nat} {x : Int32} (tgt : Nat) (hd : decode cc pc = .ok (.tableswitch dflt lo hi offs, len)) (h1 : ¬ x.toInt < lo) (h2 : ¬ hi < x.toInt) (ho : offs[(x.toInt - lo).toNat]? = some off) (ht : (pc : Int) + off = (tgt : Int)) (k : JJ γ p l e R s m args below meth c nL cells slots Q S μ (tgt) (lv) (st)) : JJ γ p l e R s m args below meth c nL cells slots Q S μ (pc) (lv) (.int x :: st) :=
  fun H locs ls hW hS hl => lv_tableIn F.1 F.2.1 hd h1 h2 ho ht (k H locs ls hW hS hl)
theorem j_tout (F : FX γ p s m args meth c cc own nL) {dflt lo hi : Int} {offs : Array Int} {len : Nat} {x : Int32} (tgt : Nat) (hd : decode cc pc = .ok (.tableswitch dflt lo hi offs, len)) (h1 : x.toInt < lo ∨ hi < x.toInt) (ht : (pc : Int) + dflt = (tgt : Int)) (k : JJ γ p l e R s m args below meth c nL cells slots Q S μ (tgt) (lv) (st)) : JJ γ p l e R s m args below meth c nL cells slots Q S μ (pc) (lv) (.int x :: st) :=
  fun H locs ls hW hS hl => lv_tableOut F.1 F.2.1 hd h1 ht (k H locs ls hW hS hl)
variable {y : MethodName} {cc' : ByteArray} {nL' : Nat} {ret : Option FieldType} {f0 l0 : Nat} {n ci o idx : Nat} {As rest : List Value}
theorem j_cVI (F : FX γ p s m args meth c cc own nL) {rm : Room} {K : Int32 × Mem → Option ρ} {t : Option (Int32 × Mem)} (hM : MI y cc' nL' ret n ci) (hlk : Cond.methodLink own idx y ∈ GG) (h : t.bind K = some X) (hct : ∀ q, t = some q → isO S ci o = true ∧ Ct l γ y cc' nL' ret rm (.ref (gb γ + o) :: As) S μ S q.2 (some (.int q.1))) (hst : st = As.reverse ++ .ref (gb γ + o) :: rest) (hn : As.length = n) (hr : (rest.map fun v => v.category).sum ≤ 8) (hR : rm.frames + 1 ≤ R.frames ∧ 8 + (nL' + 11) + rm.locals ≤ R.locals) (hc : cells ≤ R.cells ∧ slots ≤ R.slots) (hd : decode cc pc = .ok (.invokevirtual idx, 3)) (k : ∀ q, K q = some X → JJ γ p l e R s m args below meth c nL cells slots Q S q.2 (pc + 3) (lv) (.int q.1 :: rest)) (hz : rm.cells = 0 ∧ rm.slots = 0 := by exact ⟨rfl, rfl⟩) : JJ γ p l e R s m args below meth c nL cells slots Q S μ (pc) (lv) (st) := by
  obtain ⟨q, g, h⟩ := bd_some h
  have hct := hct q g
  obtain ⟨z1, z2⟩ := hz
  have k := k q h
  have hc' : cells + rm.cells ≤ R.cells ∧ slots + rm.slots ≤ R.slots := by rw [z1, z2]; exact hc
  exact j_callV F hM hlk hct st hst hn hr hR hc' hd (by rw [z1, z2]; exact k)
theorem j_cSI (F : FX γ p s m args meth c cc own nL) {rm : Room} {K : Int32 × Mem → Option ρ} {t : Option (Int32 × Mem)} (hM : MS y cc' nL' ret n) (hlk : Cond.methodLink own idx y ∈ GG) (h : t.bind K = some X) (hct : ∀ q, t = some q → Ct l γ y cc' nL' ret rm As S μ S q.2 (some (.int q.1))) (hst : st = As.reverse ++ rest) (hn : As.length = n) (hr : (rest.map fun v => v.category).sum ≤ 8) (hR : rm.frames + 1 ≤ R.frames ∧ 8 + (nL' + 11) + rm.locals ≤ R.locals) (hc : cells ≤ R.cells ∧ slots ≤ R.slots) (hd : decode cc pc = .ok (.invokestatic idx, 3)) (k : ∀ q, K q = some X → JJ γ p l e R s m args below meth c nL cells slots Q S q.2 (pc + 3) (lv) (.int q.1 :: rest)) (hz : rm.cells = 0 ∧ rm.slots = 0 := by exact ⟨rfl, rfl⟩) : JJ γ p l e R s m args below meth c nL cells slots Q S μ (pc) (lv) (st) := by
  obtain ⟨q, g, h⟩ := bd_some h
  have hct := hct q g
  obtain ⟨z1, z2⟩ := hz
  have k := k q h
  have hc' : cells + rm.cells ≤ R.cells ∧ slots + rm.slots ≤ R.slots := by rw [z1, z2]; exact hc
  exact j_callS F hM hlk hct st hst hn hr hR hc' hd (by rw [z1, z2]; exact k)
theorem j_cNI (F : FX γ p s m args meth c cc own nL) {rm : Room} {K : Int32 × Mem → Option ρ} {t : Option (Int32 × Mem)} (hM : MS y cc' nL' ret n) (hlk : Cond.methodLinkNest own idx y "CranePads" ∈ nestM) (h : t.bind K = some X) (hct : ∀ q, t = some q → Ct l γ y cc' nL' ret rm As S μ S q.2 (some (.int q.1))) (hst : st = As.reverse ++ rest) (hn : As.length = n) (hr : (rest.map fun v => v.category).sum ≤ 8) (hR : rm.frames + 1 ≤ R.frames ∧ 8 + (nL' + 11) + rm.locals ≤ R.locals) (hc : cells ≤ R.cells ∧ slots ≤ R.slots) (hd : decode cc pc = .ok (.invokestatic idx, 3)) (k : ∀ q, K q = some X → JJ γ p l e R s m args below meth c nL cells slots Q S q.2 (pc + 3) (lv) (.int q.1 :: rest)) (hz : rm.cells = 0 ∧ rm.slots = 0 := by exact ⟨rfl, rfl⟩) : JJ γ p l e R s m args below meth c nL cells slots Q S μ (pc) (lv) (st) := by
  obtain ⟨q, g, h⟩ := bd_some h
  have hct := hct q g
  obtain ⟨z1, z2⟩ := hz
  have k := k q h
  have hc' : cells + rm.cells ≤ R.cells ∧ slots + rm.slots ≤ R.slots := by rw [z1, z2]; exact hc
  exact j_callSN F hM hlk hct st hst hn hr hR hc' hd (by rw [z1, z2]; exact k)
theorem j_cVJ (F : FX γ p s m args meth c cc own nL) {rm : Room} {K : Int64 × Mem → Option ρ} {t : Option (Int64 × Mem)} (hM : MI y cc' nL' ret n ci) (hlk : Cond.methodLink own idx y ∈ GG) (h : t.bind K = some X) (hct : ∀ q, t = some q → isO S ci o = true ∧ Ct l γ y cc' nL' ret rm (.ref (gb γ + o) :: As) S μ S q.2 (some (.long q.1))) (hst : st = As.reverse ++ .ref (gb γ + o) :: rest) (hn : As.length = n) (hr : (rest.map fun v => v.category).sum ≤ 8) (hR : rm.frames + 1 ≤ R.frames ∧ 8 + (nL' + 11) + rm.locals ≤ R.locals) (hc : cells ≤ R.cells ∧ slots ≤ R.slots) (hd : decode cc pc = .ok (.invokevirtual idx, 3)) (k : ∀ q, K q = some X → JJ γ p l e R s m args below meth c nL cells slots Q S q.2 (pc + 3) (lv) (.long q.1 :: rest)) (hz : rm.cells = 0 ∧ rm.slots = 0 := by exact ⟨rfl, rfl⟩) : JJ γ p l e R s m args below meth c nL cells slots Q S μ (pc) (lv) (st) := by
  obtain ⟨q, g, h⟩ := bd_some h
  have hct := hct q g
  obtain ⟨z1, z2⟩ := hz
  have k := k q h
  have hc' : cells + rm.cells ≤ R.cells ∧ slots + rm.slots ≤ R.slots := by rw [z1, z2]; exact hc
  exact j_callV F hM hlk hct st hst hn hr hR hc' hd (by rw [z1, z2]; exact k)
theorem j_cSJ (F : FX γ p s m args meth c cc own nL) {rm : Room} {K : Int64 × Mem → Option ρ} {t : Option (Int64 × Mem)} (hM : MS y cc' nL' ret n) (hlk : Cond.methodLink own idx y ∈ GG) (h : t.bind K = some X) (hct : ∀ q, t = some q → Ct l γ y cc' nL' ret rm As S μ S q.2 (some (.long q.1))) (hst : st = As.reverse ++ rest) (hn : As.length = n) (hr : (rest.map fun v => v.category).sum ≤ 8) (hR : rm.frames + 1 ≤ R.frames ∧ 8 + (nL' + 11) + rm.locals ≤ R.locals) (hc : cells ≤ R.cells ∧ slots ≤ R.slots) (hd : decode cc pc = .ok (.invokestatic idx, 3)) (k : ∀ q, K q = some X → JJ γ p l e R s m args below meth c nL cells slots Q S q.2 (pc + 3) (lv) (.long q.1 :: rest)) (hz : rm.cells = 0 ∧ rm.slots = 0 := by exact ⟨rfl, rfl⟩) : JJ γ p l e R s m args below meth c nL cells slots Q S μ (pc) (lv) (st) := by
  obtain ⟨q, g, h⟩ := bd_some h
  have hct := hct q g
  obtain ⟨z1, z2⟩ := hz
  have k := k q h
  have hc' : cells + rm.cells ≤ R.cells ∧ slots + rm.slots ≤ R.slots := by rw [z1, z2]; exact hc
  exact j_callS F hM hlk hct st hst hn hr hR hc' hd (by rw [z1, z2]; exact k)
theorem j_cNJ (F : FX γ p s m args meth c cc own nL) {rm : Room} {K : Int64 × Mem → Option ρ} {t : Option (Int64 × Mem)} (hM : MS y cc' nL' ret n) (hlk : Cond.methodLinkNest own idx y "CranePads" ∈ nestM) (h : t.bind K = some X) (hct : ∀ q, t = some q → Ct l γ y cc' nL' ret rm As S μ S q.2 (some (.long q.1))) (hst : st = As.reverse ++ rest) (hn : As.length = n) (hr : (rest.map fun v => v.category).sum ≤ 8) (hR : rm.frames + 1 ≤ R.frames ∧ 8 + (nL' + 11) + rm.locals ≤ R.locals) (hc : cells ≤ R.cells ∧ slots ≤ R.slots) (hd : decode cc pc = .ok (.invokestatic idx, 3)) (k : ∀ q, K q = some X → JJ γ p l e R s m args below meth c nL cells slots Q S q.2 (pc + 3) (lv) (.long q.1 :: rest)) (hz : rm.cells = 0 ∧ rm.slots = 0 := by exact ⟨rfl, rfl⟩) : JJ γ p l e R s m args below meth c nL cells slots Q S μ (pc) (lv) (st) := by
  obtain ⟨q, g, h⟩ := bd_some h
  have hct := hct q g
  obtain ⟨z1, z2⟩ := hz
  have k := k q h
  have hc' : cells + rm.cells ≤ R.cells ∧ slots + rm.slots ≤ R.slots := by rw [z1, z2]; exact hc
  exact j_callSN F hM hlk hct st hst hn hr hR hc' hd (by rw [z1, z2]; exact k)
theorem j_cVV (F : FX γ p s m args meth c cc own nL) {rm : Room} {K : Unit × Mem → Option ρ} {t : Option (Unit × Mem)} (hM : MI y cc' nL' ret n ci) (hlk : Cond.methodLink own idx y ∈ GG) (h : t.bind K = some X) (hct : ∀ q, t = some q → isO S ci o = true ∧ Ct l γ y cc' nL' ret rm (.ref (gb γ + o) :: As) S μ S q.2 none) (hst : st = As.reverse ++ .ref (gb γ + o) :: rest) (hn : As.length = n) (hr : (rest.map fun v => v.category).sum ≤ 8) (hR : rm.frames + 1 ≤ R.frames ∧ 8 + (nL' + 11) + rm.locals ≤ R.locals) (hc : cells ≤ R.cells ∧ slots ≤ R.slots) (hd : decode cc pc = .ok (.invokevirtual idx, 3)) (k : ∀ q, K q = some X → JJ γ p l e R s m args below meth c nL cells slots Q S q.2 (pc + 3) (lv) (rest)) (hz : rm.cells = 0 ∧ rm.slots = 0 := by exact ⟨rfl, rfl⟩) : JJ γ p l e R s m args below meth c nL cells slots Q S μ (pc) (lv) (st) := by
  obtain ⟨q, g, h⟩ := bd_some h
  have hct := hct q g
  obtain ⟨z1, z2⟩ := hz
  have k := k q h
  have hc' : cells + rm.cells ≤ R.cells ∧ slots + rm.slots ≤ R.slots := by rw [z1, z2]; exact hc
  exact j_callV F hM hlk hct st hst hn hr hR hc' hd (by rw [z1, z2]; exact k)
theorem j_cSV (F : FX γ p s m args meth c cc own nL) {rm : Room} {K : Unit × Mem → Option ρ} {t : Option (Unit × Mem)} (hM : MS y cc' nL' ret n) (hlk : Cond.methodLink own idx y ∈ GG) (h : t.bind K = some X) (hct : ∀ q, t = some q → Ct l γ y cc' nL' ret rm As S μ S q.2 none) (hst : st = As.reverse ++ rest) (hn : As.length = n) (hr : (rest.map fun v => v.category).sum ≤ 8) (hR : rm.frames + 1 ≤ R.frames ∧ 8 + (nL' + 11) + rm.locals ≤ R.locals) (hc : cells ≤ R.cells ∧ slots ≤ R.slots) (hd : decode cc pc = .ok (.invokestatic idx, 3)) (k : ∀ q, K q = some X → JJ γ p l e R s m args below meth c nL cells slots Q S q.2 (pc + 3) (lv) (rest)) (hz : rm.cells = 0 ∧ rm.slots = 0 := by exact ⟨rfl, rfl⟩) : JJ γ p l e R s m args below meth c nL cells slots Q S μ (pc) (lv) (st) := by
  obtain ⟨q, g, h⟩ := bd_some h
  have hct := hct q g
  obtain ⟨z1, z2⟩ := hz
  have k := k q h
  have hc' : cells + rm.cells ≤ R.cells ∧ slots + rm.slots ≤ R.slots := by rw [z1, z2]; exact hc
  exact j_callS F hM hlk hct st hst hn hr hR hc' hd (by rw [z1, z2]; exact k)
theorem j_cNV (F : FX γ p s m args meth c cc own nL) {rm : Room} {K : Unit × Mem → Option ρ} {t : Option (Unit × Mem)} (hM : MS y cc' nL' ret n) (hlk : Cond.methodLinkNest own idx y "CranePads" ∈ nestM) (h : t.bind K = some X) (hct : ∀ q, t = some q → Ct l γ y cc' nL' ret rm As S μ S q.2 none) (hst : st = As.reverse ++ rest) (hn : As.length = n) (hr : (rest.map fun v => v.category).sum ≤ 8) (hR : rm.frames + 1 ≤ R.frames ∧ 8 + (nL' + 11) + rm.locals ≤ R.locals) (hc : cells ≤ R.cells ∧ slots ≤ R.slots) (hd : decode cc pc = .ok (.invokestatic idx, 3)) (k : ∀ q, K q = some X → JJ γ p l e R s m args below meth c nL cells slots Q S q.2 (pc + 3) (lv) (rest)) (hz : rm.cells = 0 ∧ rm.slots = 0 := by exact ⟨rfl, rfl⟩) : JJ γ p l e R s m args below meth c nL cells slots Q S μ (pc) (lv) (st) := by
  obtain ⟨q, g, h⟩ := bd_some h
  have hct := hct q g
  obtain ⟨z1, z2⟩ := hz
  have k := k q h
  have hc' : cells + rm.cells ≤ R.cells ∧ slots + rm.slots ≤ R.slots := by rw [z1, z2]; exact hc
  exact j_callSN F hM hlk hct st hst hn hr hR hc' hd (by rw [z1, z2]; exact k)
theorem j_cVS (F : FX γ p s m args meth c cc own nL) {rm : Room} {K : Nat × Mem → Option ρ} {t : Option (Nat × Mem)} (hM : MI y cc' nL' ret n ci) (hlk : Cond.methodLink own idx y ∈ GG) (h : t.bind K = some X) (hct : ∀ q, t = some q → isO S ci o = true ∧ Ct l γ y cc' nL' ret rm (.ref (gb γ + o) :: As) S μ S q.2 (some (.ref (gK γ q.1)))) (hst : st = As.reverse ++ .ref (gb γ + o) :: rest) (hn : As.length = n) (hr : (rest.map fun v => v.category).sum ≤ 8) (hR : rm.frames + 1 ≤ R.frames ∧ 8 + (nL' + 11) + rm.locals ≤ R.locals) (hc : cells ≤ R.cells ∧ slots ≤ R.slots) (hd : decode cc pc = .ok (.invokevirtual idx, 3)) (k : ∀ q, K q = some X → JJ γ p l e R s m args below meth c nL cells slots Q S q.2 (pc + 3) (lv) (.ref (gK γ q.1) :: rest)) (hz : rm.cells = 0 ∧ rm.slots = 0 := by exact ⟨rfl, rfl⟩) : JJ γ p l e R s m args below meth c nL cells slots Q S μ (pc) (lv) (st) := by
  obtain ⟨q, g, h⟩ := bd_some h
  have hct := hct q g
  obtain ⟨z1, z2⟩ := hz
  have k := k q h
  have hc' : cells + rm.cells ≤ R.cells ∧ slots + rm.slots ≤ R.slots := by rw [z1, z2]; exact hc
  exact j_callV F hM hlk hct st hst hn hr hR hc' hd (by rw [z1, z2]; exact k)
theorem j_cSS (F : FX γ p s m args meth c cc own nL) {rm : Room} {K : Nat × Mem → Option ρ} {t : Option (Nat × Mem)} (hM : MS y cc' nL' ret n) (hlk : Cond.methodLink own idx y ∈ GG) (h : t.bind K = some X) (hct : ∀ q, t = some q → Ct l γ y cc' nL' ret rm As S μ S q.2 (some (.ref (gK γ q.1)))) (hst : st = As.reverse ++ rest) (hn : As.length = n) (hr : (rest.map fun v => v.category).sum ≤ 8) (hR : rm.frames + 1 ≤ R.frames ∧ 8 + (nL' + 11) + rm.locals ≤ R.locals) (hc : cells ≤ R.cells ∧ slots ≤ R.slots) (hd : decode cc pc = .ok (.invokestatic idx, 3)) (k : ∀ q, K q = some X → JJ γ p l e R s m args below meth c nL cells slots Q S q.2 (pc + 3) (lv) (.ref (gK γ q.1) :: rest)) (hz : rm.cells = 0 ∧ rm.slots = 0 := by exact ⟨rfl, rfl⟩) : JJ γ p l e R s m args below meth c nL cells slots Q S μ (pc) (lv) (st) := by
  obtain ⟨q, g, h⟩ := bd_some h
  have hct := hct q g
  obtain ⟨z1, z2⟩ := hz
  have k := k q h
  have hc' : cells + rm.cells ≤ R.cells ∧ slots + rm.slots ≤ R.slots := by rw [z1, z2]; exact hc
  exact j_callS F hM hlk hct st hst hn hr hR hc' hd (by rw [z1, z2]; exact k)
theorem j_cNS (F : FX γ p s m args meth c cc own nL) {rm : Room} {K : Nat × Mem → Option ρ} {t : Option (Nat × Mem)} (hM : MS y cc' nL' ret n) (hlk : Cond.methodLinkNest own idx y "CranePads" ∈ nestM) (h : t.bind K = some X) (hct : ∀ q, t = some q → Ct l γ y cc' nL' ret rm As S μ S q.2 (some (.ref (gK γ q.1)))) (hst : st = As.reverse ++ rest) (hn : As.length = n) (hr : (rest.map fun v => v.category).sum ≤ 8) (hR : rm.frames + 1 ≤ R.frames ∧ 8 + (nL' + 11) + rm.locals ≤ R.locals) (hc : cells ≤ R.cells ∧ slots ≤ R.slots) (hd : decode cc pc = .ok (.invokestatic idx, 3)) (k : ∀ q, K q = some X → JJ γ p l e R s m args below meth c nL cells slots Q S q.2 (pc + 3) (lv) (.ref (gK γ q.1) :: rest)) (hz : rm.cells = 0 ∧ rm.slots = 0 := by exact ⟨rfl, rfl⟩) : JJ γ p l e R s m args below meth c nL cells slots Q S μ (pc) (lv) (st) := by
  obtain ⟨q, g, h⟩ := bd_some h
  have hct := hct q g
  obtain ⟨z1, z2⟩ := hz
  have k := k q h
  have hc' : cells + rm.cells ≤ R.cells ∧ slots + rm.slots ≤ R.slots := by rw [z1, z2]; exact hc
  exact j_callSN F hM hlk hct st hst hn hr hR hc' hd (by rw [z1, z2]; exact k)
theorem cp_at {μ : Mem} {o o2 sp dp cnt n1 : Nat} {ty : FieldType} {rs : Nat → Option Nat} (hty : kI ty = true) (ho : o2 < S.1) (hs : S.2 o2 = .inr (ty, n1, rs)) {H H1 : Heap} (hW : Wd γ S μ H) (e : H1[gb γ + o2]? = some (vp_cell (gA γ ty) (n1, .inl (va_cpy (μ.1 o) (μ.1 o2) sp dp cnt)))) (z : H1.size = H.size) (oq : ∀ q, q ≠ gb γ + o2 → H1[q]? = H[q]?) : Wd γ S (fun k q => if k = o2 then va_cpy (μ.1 o) (μ.1 o2) sp dp cnt q else μ.1 k q, μ.2) H1 := by
  refine hW.set z oq ?_ (fun k hk => ⟨by funext i; simp [hk], rfl⟩)
  rw [hs]
  show H1[gb γ + o2]? = some (vp_cell (gA γ ty) (celA γ _ o2 ty n1 rs))
  rw [celA_I hty, e]
  simp
theorem j_cp (F : FX γ p s m args meth c cc own nL) {o o2 : Nat} {i j cnt : Int32} {ty : FieldType} (t0 : Nat) {K : Mem → Option ρ} (hty : kI ty = true) (ht : (tysG γ)[t0]? = some (gA γ ty, ty)) (hprim : refKind ty = false) (hlk : Cond.methodLink own idx arraycopyName ∈ GG) (hg : Cond.native arraycopyName ∈ GG ∧ Cond.static arraycopyName ∈ GG ∧ Cond.initialized "java/lang/System" ∈ GG) (hR : 1 ≤ R.frames ∧ (st.map fun v => v.category).sum + (nativeFrameWords "java/lang/System" "arraycopy" 5 + 11) ≤ R.locals) (hfit : ∀ q, q < cnt.toNatClampNeg → fits ty (.int (μ.1 o (i.toNatClampNeg + q))) = true) (hd : decode cc pc = .ok (.invokestatic idx, 3)) (h : (cpI S ty o i o2 j cnt μ).bind K = some X) (k : ∀ ν, K ν = some X → JJ γ p l e R s m args below meth c nL cells slots Q S ν (pc + 3) lv st) : JJ γ p l e R s m args below meth c nL cells slots Q S μ pc lv (.int cnt :: .int j :: .ref (gb γ + o2) :: .int i :: .ref (gb γ + o) :: st) := by
  obtain ⟨ν, hv, h⟩ := bd_some h
  obtain ⟨n0, hn0, hv⟩ := bd_some hv
  obtain ⟨n1, hn1, hv⟩ := bd_some hv
  obtain ⟨⟨h1, h2, h3, h4, h5⟩, hv⟩ := if_some hv
  cases hv
  obtain ⟨ho, rs, hs⟩ := isA_spec hn0
  obtain ⟨ho2, rs2, hs2⟩ := isA_spec hn1
  intro H locs ls hW hS hl T hT XX
  have hts := F.2.2.2.2.1
  have hK := F.2.2.2.2.2.1.1
  have nn : ∀ z : Int32, ¬ z < 0 → z.toInt = (z.toNatClampNeg : Int) := by
    intro z hz
    have hz0 : (0 : Int) ≤ z.toInt := by
      have := Int32.not_lt.mp hz
      simpa using Int32.le_iff_toInt_le.mp this
    show z.toInt = ((z.toInt.toNat : Nat) : Int)
    omega
  have hP0 := hW.ar ho hs
  rw [celA_I hty] at hP0
  have hP1 := hW.ar ho2 hs2
  rw [celA_I hty] at hP1
  have hc0 : H[gb γ + o]? = some (vp_cell (gA γ ty) (n0, .inl (μ.1 o))) := hP0 0 _ rfl
  have hc1 : H[gb γ + o2]? = some (vp_cell (gA γ ty) (n1, .inl (μ.1 o2))) := hP1 0 _ rfl
  obtain ⟨-, k0, hk0, cm0, hkk0⟩ := (hK.2 t0 _ ht).1 n0 (fun j => .int (μ.1 o j))
  obtain ⟨-, k1, hk1, cm1, hkk1⟩ := (hK.2 t0 _ ht).1 n1 (fun j => .int (μ.1 o2 j))
  obtain ⟨vm', X', step⟩ := XX.arraycopy F.1 F.2.2.2.1 (hts _ hlk) (hts _ hg.1) (hts _ hg.2.1) (hts _ hg.2.2) (src := gb γ + o) (dst := gb γ + o2) (cs := vp_cell (gA γ ty) (n0, .inl (μ.1 o))) (cd := vp_cell (gA γ ty) (n1, .inl (μ.1 o2))) (srcPos := i) (destPos := j) (n := cnt) (by rw [hT]; exact hc0) (by rw [hT]; exact hc1)
    (fun _ h => by cases h) (fun _ h => by cases h) (fun h => by cases h) (fun h => by cases h) hk0 hk1 hkk0 hkk1 (by simp [hprim]) h1 h2 h3
    (by rw [nn i h1, nn cnt h3]; show ¬ _ > ((arrV (gA γ ty) n0 (fun j => .int (μ.1 o j))).slots.size : Int); rw [arrV_size]; omega)
    (by rw [nn j h2, nn cnt h3]; show ¬ _ > ((arrV (gA γ ty) n1 (fun j => .int (μ.1 o2 j))).slots.size : Int); rw [arrV_size]; omega)
    (fun vm₁ _ q hq => by
      have e : (vp_cell (gA γ ty) (n0, .inl (μ.1 o))).slots.getD (i.toNatClampNeg + q) .null = .int (μ.1 o (i.toNatClampNeg + q)) := by
        show (arrV (gA γ ty) n0 (fun j => .int (μ.1 o j))).slots.getD _ _ = _
        rw [Array.getD_eq_getD_getElem?, arrV_read _ _ (by omega)]
        rfl
      refine ⟨?_, ?_⟩
      · rw [e]
        exact hfit _ hq
      · rw [e]
        exact trivial)
    (g := F0 m pc ls (.int cnt :: .int j :: .ref (gb γ + o2) :: .int i :: .ref (gb γ + o) :: st)) rfl (by rw [hl.1]; exact F.2.2.1.symm) (rest := st) rfl (by rw [F.2.1]; exact hd) hR.1 (by show 2 * 0 + _ + _ ≤ _; omega)
  have e1 : copied (vp_cell (gA γ ty) (n0, .inl (μ.1 o))) (vp_cell (gA γ ty) (n1, .inl (μ.1 o2))) i j cnt = vp_cell (gA γ ty) (n1, .inl (va_cpy (μ.1 o) (μ.1 o2) i.toNatClampNeg j.toNatClampNeg cnt.toNatClampNeg)) := va_copied (fun z => .int z) (gA γ ty) (gA γ ty) (μ.1 o) (μ.1 o2) h4
  rw [e1] at X' step
  have hlt : gb γ + o2 < H.size := (Array.getElem?_eq_some_iff.mp hc1).1
  have hheap : ((T.setVm vm').setCell (gb γ + o2) (vp_cell (gA γ ty) (n1, .inl (va_cpy (μ.1 o) (μ.1 o2) i.toNatClampNeg j.toNatClampNeg cnt.toNatClampNeg)))).heap = H.setIfInBounds (gb γ + o2) (vp_cell (gA γ ty) (n1, .inl (va_cpy (μ.1 o) (μ.1 o2) i.toNatClampNeg j.toNatClampNeg cnt.toNatClampNeg))) := by rw [← hT]; rfl
  have oq : ∀ q : Nat, q ≠ gb γ + o2 → (H.setIfInBounds (gb γ + o2) (vp_cell (gA γ ty) (n1, .inl (va_cpy (μ.1 o) (μ.1 o2) i.toNatClampNeg j.toNatClampNeg cnt.toNatClampNeg))))[q]? = H[q]? := fun q hq => by simp [Array.getElem?_setIfInBounds, Ne.symm hq]
  obtain ⟨t, a1, b1⟩ := k _ h _ _ ls (cp_at hty ho2 hs2 hW (show (H.setIfInBounds (gb γ + o2) _)[gb γ + o2]? = some _ by simp [Array.getElem?_setIfInBounds, hlt]) (by simp) oq) ⟨by simp; exact hS.1, fun q g1 g2 => by
      rw [oq q (fun e => g2 (by rw [e]; exact Nat.le_add_right _ _))]
      exact hS.2.1 q g1 g2, fun q hq => by
      rcases List.mem_append.mp hq with h | h
      · exact hS.2.2 q h
      · obtain ⟨z, -, hz⟩ := List.mem_map.mp h
        rw [← hz]
        exact Nat.le_add_right _ _⟩ hl _ hheap X'
  exact ⟨t, step t a1, b1⟩

end Rows2
