/-- a contract out of the judgement at the entry, of a class that has natives -/
theorem ct_ofF {l : Launch} {γ : GE} {y : MethodName} {cc : ByteArray} {nL : Nat} {ret : Option FieldType} {rm : Room} {av : List Value} {S : SH} {μ : Mem} {S' : SH} {μ' : Mem} {r : Option Value} (hy : plainFor y = true) (hlen : (lg_sl av).length ≤ nL)
    (body : ∀ (p : Program) (e : Env) (s : State) (m : MethodId) (args : Array Value) (below : List Frame) (meth : Method) (c : Code), FX γ p s m args meth c cc y.cls nL → meth.sig.returnType = ret → meth.name = y.name → JJ γ p l e rm s m args below meth c nL 0 0 (MQ below (Qm γ S' μ' r) args s rm.cells rm.slots (AA γ)) S μ 0 (lv_args 0 av) []) : Ct l γ y cc nL ret rm av S μ S' μ' r := by
  refine va_MetF (cc := cc) (maxL := nL) (ret := ret) hy rfl ?_
  intro p e s m args below meth c s₁ B hml hv
  obtain ⟨rfl, hK, hW⟩ := hv
  have hts := atoms_spec (ws := Cond.code y cc nL ret :: GG) B.pre
  have hin : meth.name = y.name := (name_of_methodNamed B.named B.method).1
  have hl := lv_entry av (n := nL) hlen
  rw [lg_entry_eq]
  exact body p e s m av.toArray below meth c ⟨B.exec, B.bytes, hml, findClass_of_methodNamed B.named, fun w hw => hts w (List.mem_cons_of_mem _ hw), hK, B.notSynchronized⟩ B.returns hin s.heap [] _ hW va_S.rf hl
