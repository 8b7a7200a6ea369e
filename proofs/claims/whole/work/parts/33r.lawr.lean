/-! THE CLAIM OUT OF ONE WALK OF THE LAW'S BODY. Your part is whole_start (and what it stands on); all else here is the same for every law, but numbers. -/
def R_law : String := "CranePadsLaw"
def lw_P (b : Addr) (xs : List Int32) (args : Array Value) (s : State) : Prop := args = #[.ref b] ∧ s.IntsAt b xs ∧ xs.length ≤ 2560 ∧ (Jvm.Cond.and given_1 narrow_1).before args s = true
def lw_Q (_ : Array Value) (s : State) (o : Outcome) (t : State) : Prop := o = .returned (some (.int 1)) ∧ Framed s o t [] 600000 7302250
def lw_Z (below : List Frame) (a : Array Value) (s : State) : State → Prop := fun t => ∃ o, t.status = .running ∧ Ended t below o ∧ lw_Q a s o t
/-- the law's own end, with 1 on the stack, nothing written that was there before, its room as the claim has it -/
theorem lw_ret {p : Program} {l : Launch} {e : Env} {s : State} {m : MethodId} {below : List Frame} {meth : Method} {c : Code} {b : Nat} (hx : p.tables.exec = Jvm.exec) (hb : c.code = code) (hr : meth.sig.returnType = ret) (hlocks : meth.locks = false) {pc : Nat} {H : Heap} {ls : Array Slot} (hdg : decode code pc = .ok (.ireturn, 1)) : W p l e room_1 s m #[Value.ref b] below meth c H [] 600000 7302250 (lw_Z below #[Value.ref b] s) (F0 m pc ls [.int 1]) := by
  intro T hT X
  obtain ⟨fs, hret, hrun, hended, hW, hframe⟩ := X.leave (v := some (.int 1)) (hlocks := hlocks) (fun h => by rw [hr] at h; cases h)
  have hmeth' : T.vm.method? m = some meth := X.method'
  refine ⟨T.setFrames fs, ?_, .returned (some (.int 1)), hrun, hended, rfl, ⟨_, rfl⟩, hW, hframe⟩
  jvm_step X.here [X.here.top, hx, hb, hdg, hmeth', hr, ret, narrow_b1]
  (try refine ⟨rfl, ?_⟩); (try refine ⟨rfl, ?_⟩)
  first | (intro acts; rw [hret _ acts rfl rfl rfl]) | rw [hret _ _ rfl rfl rfl]
  exact Steps.refl _
/-- what holds at the law's entry: the machine, the code, the tables' words (any of lw_tbl by 'hts w (by decide +kernel)'), the script of L ints xs at the cell b, what the Statement gives of the start (any of its parts by flat_of_before) -/
def lw_At (p : Program) (s : State) (m : MethodId) (meth : Method) (c : Code) (b L : Nat) (xs : Nat → Int32) : Prop :=
  p.tables.exec = Jvm.exec ∧ c.code = code ∧ meth.sig.returnType = ret ∧ c.maxLocals = 4 ∧ s.vm.findClass R_law = some m.cls ∧ (∀ w ∈ lw_tbl, w.before #[Value.ref b] s = true) ∧ va_X b L xs s s.heap ∧ b < s.heap.size ∧ meth.locks = false ∧ (Jvm.Cond.and given_1 narrow_1).before #[Value.ref b] s = true
/-! ===== the law's own rows ===== -/
def xI (L : Nat) (xs : Nat → Int32) (i : Int32) : Option Int32 := if inb i L = true then some (xs i.toNatClampNeg) else none
def LWX (γ : GE) (s : State) (meth : Method) (b L : Nat) (xs : Nat → Int32) (X : Int32 × Mem) : Prop := (va_X b L xs s s.heap ∧ b < s.heap.size ∧ ¬ AA γ b) ∧ X.1 = 1 ∧ gb γ = s.heap.size ∧ meth.sig.returnType = ret
theorem law_no {X : Int32 × Mem} {μ : Mem} (h : some ((0 : Int32), μ) = some X) (h1 : X.1 = 1) : False := by
  cases h
  exact absurd (show (0 : Int32) = 1 from h1) (by decide)
section LawRows
variable {γ : GE} {p : Program} {l : Launch} {e : Env} {R : Room} {s : State} {m : MethodId} {args : Array Value} {below : List Frame} {meth : Method} {c : Code} {cc : ByteArray} {own : String} {nL : Nat} {cells slots : Nat} {Q : State → Prop} {S : SH} {μ : Mem} {pc : Nat} {lv : List (Nat × Value)} {st : List Value} {ρ : Type} {X : ρ} {b L : Nat} {xs : Nat → Int32}
theorem j_xld (F : FX γ p s m args meth c cc own nL) {i : Int32} {K : Int32 → Option ρ} (hX : va_X b L xs s s.heap ∧ b < s.heap.size ∧ ¬ AA γ b) (hd : decode cc pc = .ok (.iaload, 1)) (h : (xI L xs i).bind K = some X) (k : ∀ v, K v = some X → JJ γ p l e R s m args below meth c nL cells slots Q S μ (pc + 1) lv (.int v :: st)) : JJ γ p l e R s m args below meth c nL cells slots Q S μ pc lv (.int i :: .ref b :: st) := by
  obtain ⟨v, hv, h⟩ := bd_some h
  obtain ⟨hi, rfl⟩ := ofB hv
  exact fun H locs ls hW hS hl => va_sld F.1 F.2.1 hX.1 hX.2.1 hX.2.2 hS (inb_in hi) hd (k _ h H locs ls hW hS hl)
theorem j_xlen (F : FX γ p s m args meth c cc own nL) (hX : va_X b L xs s s.heap ∧ b < s.heap.size ∧ ¬ AA γ b) (hd : decode cc pc = .ok (.arraylength, 1)) (k : JJ γ p l e R s m args below meth c nL cells slots Q S μ (pc + 1) lv (.int (Int32.ofNat L) :: st)) : JJ γ p l e R s m args below meth c nL cells slots Q S μ pc lv (.ref b :: st) :=
  fun H locs ls hW hS hl => va_slen F.1 F.2.1 hX.1 hX.2.1 hX.2.2 hS hd (k H locs ls hW hS hl)
theorem j_lawT {X : Int32 × Mem} (F : FX γ p s m #[Value.ref b] meth c cL_law own nL) (hr : LWX γ s meth b L xs X) (hd : decode cL_law pc = .ok (.ireturn, 1)) : JJ γ p l e room_1 s m #[Value.ref b] below meth c nL 108 4635 (lw_Z below #[Value.ref b] s) S μ pc lv [.int 1] := by
  intro H locs ls hW hS hl
  refine va_forget (fun q hq => by have := hS.2.2 q hq; rw [← hr.2.2.1]; exact this) ?_
  refine W.widen (k := 600000) (n := 7302250) (Nat.le_of_ble_eq_true rfl) (Nat.le_of_ble_eq_true rfl) ?_
  exact lw_ret F.1 F.2.1 hr.2.2.2 F.2.2.2.2.2.2 hd
end LawRows
