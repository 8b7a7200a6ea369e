/-! ===== new long[4][30] ===== -/
def mfI (γ : GE) : Cell := arrV (gA γ .long) 30 (fun _ => .long 0)
def mfO (γ : GE) (h0 i : Nat) : Cell := arrV (gA γ (.array .long)) 4 (fun j => if j < i then .ref (h0 + 1 + j) else .null)
def mfS (γ : GE) (T : State) : Nat → State
  | 0 => T.pushCell (mfO γ T.heap.size 0)
  | i + 1 => ((mfS γ T i).pushCell (mfI γ)).setCell T.heap.size (mfO γ T.heap.size (i + 1))
theorem mfO_set (γ : GE) (h0 i : Nat) : (mfO γ h0 i).setSlot i (.ref (h0 + 1 + i)) = mfO γ h0 (i + 1) := by
  unfold mfO
  rw [arrV_store]
  congr 1
  funext j
  by_cases h : j = i
  · subst h; simp [updV]
  · by_cases h2 : j < i
    · simp [updV, h, h2, Nat.lt_succ_of_lt h2]
    · have h3 : ¬ j < i + 1 := by omega
      simp [updV, h, h2, h3]
theorem mfS_facts (γ : GE) (T : State) : ∀ i, (mfS γ T i).heap.size = T.heap.size + 1 + i ∧ (mfS γ T i).heap[T.heap.size]? = some (mfO γ T.heap.size i) ∧ (mfS γ T i).vm = T.vm ∧ (mfS γ T i).slotsUsed = T.slotsUsed + 4 + i * 30 ∧ (∀ q, q < T.heap.size → (mfS γ T i).heap[q]? = T.heap[q]?) ∧ ∀ j, j < i → (mfS γ T i).heap[T.heap.size + 1 + j]? = some (mfI γ)
  | 0 => by
    refine ⟨size_pushCell _ _, State.heap_pushCell_size _ _, rfl, ?_, fun q hq => State.heap_pushCell_of_lt _ _ hq, fun j hj => absurd hj (Nat.not_lt_zero _)⟩
    show T.slotsUsed + (mfO γ T.heap.size 0).slots.size = _
    rw [show (mfO γ T.heap.size 0).slots.size = 4 from arrV_size _ _ _]
  | i + 1 => by
    obtain ⟨h1, h2, h3, h4, h5, h6⟩ := mfS_facts γ T i
    have hlt : T.heap.size < ((mfS γ T i).pushCell (mfI γ)).heap.size := by rw [size_pushCell, h1]; omega
    refine ⟨?_, heapAt_setCell_self _ hlt, h3, ?_, fun q hq => ?_, fun j hj => ?_⟩
    · show (((mfS γ T i).pushCell (mfI γ)).setCell _ _).heap.size = _
      rw [size_setCell, size_pushCell, h1]; omega
    · show (mfS γ T i).slotsUsed + (mfI γ).slots.size = _
      rw [show (mfI γ).slots.size = 30 from arrV_size _ _ _, h4]; omega
    · show (((mfS γ T i).pushCell (mfI γ)).setCell _ _).heap[q]? = _
      have hne : T.heap.size ≠ q := by omega
      have hq2 : q < (mfS γ T i).heap.size := by rw [h1]; omega
      rw [heapAt_setCell_ne _ hne, State.heap_pushCell_of_lt _ _ hq2]
      exact h5 q hq
    · show (((mfS γ T i).pushCell (mfI γ)).setCell _ _).heap[_]? = _
      have hne : T.heap.size ≠ T.heap.size + 1 + j := by omega
      rw [heapAt_setCell_ne _ hne]
      by_cases e : j < i
      · have hq2 : T.heap.size + 1 + j < (mfS γ T i).heap.size := by rw [h1]; omega
        rw [State.heap_pushCell_of_lt _ _ hq2]
        exact h6 j e
      · have : j = i := by omega
        subst this
        rw [← h1]
        exact State.heap_pushCell_size _ _
theorem mfS_top (γ : GE) (T : State) (f : JFrame) : ∀ i, mfS γ (T.setTop f) i = (mfS γ T i).setTop f
  | 0 => rfl
  | i + 1 => by
    show ((mfS γ (T.setTop f) i).pushCell (mfI γ)).setCell _ _ = _
    rw [mfS_top γ T f i]
    rfl
theorem mfS_stand {γ : GE} {p : Program} {l : Launch} {e : Env} {R : Room} {s : State} {m : MethodId} {args : Array Value} {below : List Frame} {meth : Method} {c : Code} {T : State} {locs : List Loc} {cells slots : Nat} (X : Stand p l e R s m args below meth c T locs cells slots) : ∀ i, Stand p l e R s m args below meth c (mfS γ T i) (locs ++ (List.range i).map fun j => (⟨T.heap.size, j⟩ : Loc)) (cells + 1 + i) (slots + 4 + i * 30)
  | 0 => by
    have h := X.pushed (mfO γ T.heap.size 0)
    rw [show (mfO γ T.heap.size 0).slots.size = 4 from arrV_size _ _ _] at h
    simpa [mfS] using h
  | i + 1 => by
    have Xi := mfS_stand (γ := γ) X i
    obtain ⟨h1, h2, -⟩ := mfS_facts γ T i
    have hc : ((mfS γ T i).pushCell (mfI γ)).heap[T.heap.size]? = some (mfO γ T.heap.size i) := by
      have hq2 : T.heap.size < (mfS γ T i).heap.size := by rw [h1]; omega
      rw [State.heap_pushCell_of_lt _ _ hq2]; exact h2
    have h := (Xi.pushed (mfI γ)).stored hc i (.ref (T.heap.size + 1 + i))
    rw [show (mfI γ).slots.size = 30 from arrV_size _ _ _, mfO_set] at h
    have e2 : (locs ++ (List.range (i + 1)).map fun j => (⟨T.heap.size, j⟩ : Loc)) = (locs ++ (List.range i).map fun j => (⟨T.heap.size, j⟩ : Loc)) ++ [⟨T.heap.size, i⟩] := by simp [List.range_succ, List.append_assoc]
    have e3 : slots + 4 + (i + 1) * 30 = slots + 4 + i * 30 + 30 := by omega
    rw [e2, e3]
    exact h
section MultiWp
variable {E : CtlPost} {e : Env} {d : Bool} {acts : List Action} {s : State}
theorem mf_alloc {c comp : ClassId} {k : Class} {type : FieldType} {len : Nat} {init : Value} (hk : s.vm.classes[c]? = some k) (hkind : k.kind = .array comp type)
    (hlimit : ¬ len > e.platform.arrayLengthLimit) (hheap : ¬ len * componentBytes type > e.platform.maxHeapBytes) (hfit : fits type init = true) (hdef : init.isDefault = true) {Q : Addr → Pre}
    (h1 : s.heap.size < e.platform.maxCells) (h2 : s.slotsUsed + len ≤ e.platform.maxSlots)
    (hq : Q s.heap.size d acts (s.pushCell (arrV c len (fun _ => init)))) : wp (Jvm.newArray c len init) Q E e d acts s := by
  rw [← arrV_new] at hq
  have hfits : ∀ i v, (Array.replicate len init)[i]? = some v → s.fitsSlot c .none i v = true := by
    intro i v hv
    simp only [Array.getElem?_replicate] at hv
    split at hv
    · cases hv; simp [State.fitsSlot, State.slotType?, hk, hkind, hfit]
    · cases hv
  have hda : allocActs (Array.replicate len init) s.heap.size acts = acts := by
    have hall : ((Array.replicate len init).all (·.isDefault)) = true := by
      rw [Array.all_replicate]; split <;> simp [hdef]
    unfold allocActs; rw [if_pos hall]
  simp only [Jvm.newArray, Jvm.arrayFits, wp_bind', Jvm.W.ask, Jvm.W.ite, hlimit, if_false, wp_pure', Jvm.W.theClass, hk, hkind, hheap, Jvm.W.alloc, Jvm.W.stop, Option.some.injEq, exists_eq_left', Array.size_replicate, hda]
  rw [if_neg (by omega)]
  exact ⟨h1, h2, hfits, hq⟩
end MultiWp
section MultiMake
variable {E : CtlPost} {e : Env} {d : Bool} {acts : List Action} {s : State} {γ : GE} {kA kC : Class} {cc : ClassId}
theorem mf_inner (hkc : s.vm.classes[gA γ .long]? = some kC) (hkindc : kC.kind = .array cc .long) (hl2 : ¬ 30 > e.platform.arrayLengthLimit) (hh2 : ¬ 30 * componentBytes .long > e.platform.maxHeapBytes)
    (h1 : s.heap.size < e.platform.maxCells) (h2 : s.slotsUsed + 30 ≤ e.platform.maxSlots) {Q : Addr → Pre} (hq : Q s.heap.size d acts (s.pushCell (mfI γ))) : wp (Op.multianewarray.make (gA γ .long) [(30 : Int32)]) Q E e d acts s := by
  rw [Op.multianewarray.make]
  simp only [wp_bind', Jvm.W.ite, show ¬ (30 : Int32) < 0 by decide, if_false, wp_pure', Jvm.W.theClass, hkc, hkindc, Option.some.injEq, exists_eq_left']
  exact mf_alloc (len := 30) hkc hkindc hl2 hh2 rfl rfl h1 h2 hq
theorem mf_make (hk : s.vm.classes[gA γ (.array .long)]? = some kA) (hkind : kA.kind = .array (gA γ .long) (.array .long)) (hkc : s.vm.classes[gA γ .long]? = some kC) (hkindc : kC.kind = .array cc .long)
    (hl1 : ¬ 4 > e.platform.arrayLengthLimit) (hh1 : ¬ 4 * componentBytes (.array .long) > e.platform.maxHeapBytes) (hl2 : ¬ 30 > e.platform.arrayLengthLimit) (hh2 : ¬ 30 * componentBytes .long > e.platform.maxHeapBytes)
    (hc : s.heap.size + 5 ≤ e.platform.maxCells) (hs : s.slotsUsed + 124 ≤ e.platform.maxSlots) {Q : Addr → Pre} (hq : ∀ d' acts', Q s.heap.size d' acts' (mfS γ s 4)) : wp (Op.multianewarray.make (gA γ (.array .long)) [(4 : Int32), 30]) Q E e d acts s := by
  rw [Op.multianewarray.make]
  simp only [wp_bind', Jvm.W.ite, show ¬ (4 : Int32) < 0 by decide, if_false, wp_pure', Jvm.W.theClass, hk, hkind, Option.some.injEq, exists_eq_left']
  refine mf_alloc (len := 4) hk hkind hl1 hh1 rfl rfl (by omega) (by omega) ?_
  have e0 : s.pushCell (arrV (gA γ (.array .long)) 4 (fun _ => .null)) = mfS γ s 0 := by
    show _ = s.pushCell (mfO γ s.heap.size 0)
    unfold mfO
    congr 2
  rw [e0]
  simp only [show ((4 : Int32) == 0) = false by decide, Bool.false_eq_true, if_false]
  rw [wp_bind', Std.Legacy.Range.forIn_eq_forIn_range']
  have hsz : ([:(4 : Int32).toNatClampNeg] : Std.Legacy.Range).size = 4 := by decide
  rw [hsz]
  show wp (forIn (List.range' 0 4 1) PUnit.unit _) _ E e d acts _
  refine wp_forIn_inv (fun rest s' => ∃ i, i ≤ 4 ∧ rest = List.range' i (4 - i) ∧ s' = mfS γ s i) _ _ ⟨0, Nat.zero_le _, rfl, rfl⟩ ?_ ?_
  · rintro x rest s' d' acts' Q' ⟨i, hi, hl, rfl⟩ hnext
    have hlt : i < 4 := by
      rcases Nat.lt_or_ge i 4 with h | h
      · exact h
      · rw [show 4 - i = 0 from by omega] at hl; simp at hl
    obtain ⟨rfl, hrest⟩ : x = i ∧ rest = List.range' (i + 1) (4 - (i + 1)) := by
      rw [show 4 - i = (4 - (i + 1)) + 1 from by omega, List.range'_succ] at hl
      exact ⟨(List.cons.inj hl).1, (List.cons.inj hl).2⟩
    obtain ⟨f1, f2, f3, f4, -⟩ := mfS_facts γ s x
    simp only [wp_bind']
    refine mf_inner (by rw [f3]; exact hkc) hkindc hl2 hh2 (by rw [f1]; omega) (by rw [f4]; omega) ?_
    have hlt0 : s.heap.size < (mfS γ s x).heap.size := by rw [f1]; omega
    simp only [wp_bind', Jvm.W.writeLoc, wp_pure']
    refine ⟨mfO γ s.heap.size x, by rw [State.heap_pushCell_of_lt (h := hlt0)]; exact f2, (fun h => by cases h), by show x < (arrV _ _ _).slots.size; rw [arrV_size]; exact hlt, ?_, hnext _ _ _ ⟨x + 1, hlt, hrest, ?_⟩⟩
    · show ((mfS γ s x).pushCell (mfI γ)).fitsSlot (gA γ (.array .long)) .none x _ = true
      simp [State.fitsSlot, State.slotType?, f3, hk, hkind, fits]
    · rw [f1, mfO_set]; rfl
  · rintro s' d' acts' ⟨i, hi, hl, rfl⟩
    have hiN : i = 4 := by
      rcases Nat.lt_or_ge i 4 with h | h
      · rw [show 4 - i = (4 - (i + 1)) + 1 from by omega, List.range'_succ] at hl; cases hl
      · omega
    subst hiN
    simp only [wp_pure']
    exact hq _ _
end MultiMake
theorem mfO_cell (γ : GE) (b0 N : Nat) (hb : b0 = gb γ + N) : mfO γ b0 4 = vp_cell (gA γ (.array .long)) (4, .inr (.inr (.inr (.inr (fun j => (if j < 4 then some (N + 1 + j) else none : Option Nat).map (gb γ + ·)))))) := by
  rw [vp_cell_q]
  unfold mfO
  have e : (fun j => if j < 4 then Value.ref (b0 + 1 + j) else .null) = fun j => va_rf ((if j < 4 then some (N + 1 + j) else none : Option Nat).map (gb γ + ·)) := by
    funext j
    by_cases hj : j < 4
    · rw [if_pos hj, if_pos hj]
      subst hb
      show Value.ref (gb γ + N + 1 + j) = Value.ref (gb γ + (N + 1 + j))
      rw [Nat.add_assoc, Nat.add_assoc, ← Nat.add_assoc N]
    · rw [if_neg hj, if_neg hj]; rfl
  rw [e]
theorem mfI_cell (γ : GE) : mfI γ = vp_cell (gA γ .long) (30, .inr (.inl (fun _ => 0))) := by rw [vp_cell_l]; rfl
def nwM (S : SH) (μ : Mem) : STT := ((S.1 + 5, fun k => if k = S.1 then .inr (.array .long, 4, fun j => if j < 4 then some (S.1 + 1 + j) else none) else if S.1 < k ∧ k < S.1 + 5 then .inr (.long, 30, fun _ => none) else S.2 k), (fun k i => if S.1 ≤ k ∧ k < S.1 + 5 then 0 else μ.1 k i, fun k i => if S.1 ≤ k ∧ k < S.1 + 5 then 0 else μ.2 k i))
section MultiRow
variable {γ : GE} {p : Program} {l : Launch} {e : Env} {R : Room} {s : State} {m : MethodId} {args : Array Value} {below : List Frame} {meth : Method} {c : Code} {cc : ByteArray} {own : String} {nL : Nat} {cells slots : Nat} {Q : State → Prop} {S : SH} {μ : Mem} {pc : Nat} {lv : List (Nat × Value)} {st : List Value} {ρ : Type} {X : ρ} {idx : Nat}
theorem j_mna (F : FX γ p s m args meth c cc own nL) {K : STT → Option ρ} (hcl : Cond.classLink own idx "[[J" ∈ GG) (hcells : cells + 5 ≤ R.cells) (hslots : slots + 124 ≤ R.slots) (hd : decode cc pc = .ok (.multianewarray idx 2, 4)) (h : (some (nwM S μ)).bind K = some X) (k : ∀ σ : STT, K σ = some X → JJ γ p l e R s m args below meth c nL (cells + 5) (slots + 124) Q σ.1 σ.2 (pc + 4) lv (.ref (gb γ + S.1) :: st)) : JJ γ p l e R s m args below meth c nL cells slots Q S μ pc lv (.int 30 :: .int 4 :: st) := by
  have k := k _ h
  have hts := F.2.2.2.2.1
  have hX := F.2.2.2.2.2.1.2.2.2.2.2.2.2.2.1
  obtain ⟨-, -, kA, kC, ccl, hnA, hkA, hkindA, hnC, hkC, hkindC⟩ := hX
  intro H locs ls hW hS hl T hT XX
  have hpl : e.platform.magicAccessors = ({} : Platform).magicAccessors := by rw [XX.admits.platform]
  obtain ⟨c0, hfc0, hcl0⟩ := Cond.classLink_spec F.2.2.2.1 (hts _ hcl) e.platform hpl
  cases hnA.symm.trans hfc0
  obtain ⟨hg₁, hwarm₁, hready₁⟩ := State.classEntry (e := e) XX.warmed hcl0
  generalize T.vm.noted m.cls idx (.cls (gA γ (.array .long))) = vm₁ at hg₁ hwarm₁ hready₁
  have hal : s.vm.Alike vm₁ := hwarm₁.alike
  obtain ⟨kA₁, hkA₁, heA⟩ := hal.2.2 _ _ hkA
  obtain ⟨kC₁, hkC₁, heC⟩ := hal.2.2 _ _ hkC
  have hkindA₁ : kA₁.kind = .array (gA γ .long) (.array .long) := by rw [heA]; exact hkindA
  have hkindC₁ : kC₁.kind = .array ccl .long := by rw [heC]; exact hkindC
  have X₁ := XX.noted hwarm₁
  obtain ⟨hr1, hr2⟩ := XX.roomAbove hcells hslots
  have XF := mfS_stand (γ := γ) X₁ 4
  have XF2 := XF.dropFresh (fun x hx => by
    obtain ⟨j, -, rfl⟩ := List.mem_map.mp hx
    exact XX.heapGrown)
  obtain ⟨f1, f2, f3, f4, f5, f6⟩ := mfS_facts γ (T.setVm vm₁) 4
  have hTh : (T.setVm vm₁).heap = H := hT
  rw [hTh] at f1 f2 f5 f6
  have hwd : Wd γ (nwM S μ).1 (nwM S μ).2 (mfS γ (T.setVm vm₁) 4).heap := by
    refine ⟨by rw [f1, hW.1]; show _ = gb γ + (S.1 + 5); omega, fun q hq => ?_⟩
    have hq' : q < S.1 + 5 := hq
    by_cases e1 : q = S.1
    · subst e1
      show va_at (gD γ) vwCl (gb γ + S.1, celE γ (nwM S μ).2 S.1 (if S.1 = S.1 then _ else _)) _
      rw [if_pos rfl]
      show (mfS γ (T.setVm vm₁) 4).heap[gb γ + S.1]? = some (vp_cell (gA γ (.array .long)) (celA γ (nwM S μ).2 S.1 (.array .long) 4 _))
      rw [celA_R rfl, ← hW.1, f2]
      exact congrArg some (mfO_cell γ _ _ hW.1)
    · by_cases e2 : S.1 < q
      · show va_at (gD γ) vwCl (gb γ + q, celE γ (nwM S μ).2 q (if q = S.1 then _ else if S.1 < q ∧ q < S.1 + 5 then _ else _)) _
        rw [if_neg e1, if_pos ⟨e2, hq'⟩]
        show (mfS γ (T.setVm vm₁) 4).heap[gb γ + q]? = some (vp_cell (gA γ .long) (30, .inr (.inl ((nwM S μ).2.2 q))))
        have := f6 (q - (S.1 + 1)) (by omega)
        rw [hW.1, show gb γ + S.1 + 1 + (q - (S.1 + 1)) = gb γ + q by omega] at this
        rw [this, mfI_cell]
        have e3 : (nwM S μ).2.2 q = fun _ => 0 := by
          funext j
          show (if S.1 ≤ q ∧ q < S.1 + 5 then (0 : Int64) else _) = 0
          rw [if_pos ⟨Nat.le_of_lt e2, hq'⟩]
        rw [e3]
      · have hlt : q < S.1 := by omega
        show va_at (gD γ) vwCl (gb γ + q, celE γ (nwM S μ).2 q (if q = S.1 then _ else if S.1 < q ∧ q < S.1 + 5 then _ else S.2 q)) _
        rw [if_neg e1, if_neg (fun z => e2 z.1), celE_congr (μ := μ) (by funext i; show (if S.1 ≤ q ∧ q < S.1 + 5 then _ else _) = _; rw [if_neg (by omega)]) (by funext i; show (if S.1 ≤ q ∧ q < S.1 + 5 then _ else _) = _; rw [if_neg (by omega)])]
        exact (hW.2 q hlt).kept (f5 _ (by show gb γ + q < H.size; rw [hW.1]; omega))
  obtain ⟨t, a1, b1⟩ := k _ locs ls hwd ⟨Nat.le_trans hS.1 (by rw [f1]; omega), fun q h1 h2 => (f5 q (Nat.lt_of_lt_of_le h1 hS.1)).trans (hS.2.1 q h1 h2), hS.2.2⟩ hl _ rfl XF2
  refine ⟨t, ?_, b1⟩
  have hl1 : ¬ 4 > e.platform.arrayLengthLimit := by rw [Launch.admits_arrayLengthLimit XX.admits]; omega
  have hh1 : ¬ 4 * componentBytes (.array .long) > e.platform.maxHeapBytes := by
    rw [Launch.admits_maxHeapBytes XX.admits]; show ¬ 4 * 4 > 536870912; omega
  have hl2 : ¬ 30 > e.platform.arrayLengthLimit := by rw [Launch.admits_arrayLengthLimit XX.admits]; omega
  have hh2 : ¬ 30 * componentBytes .long > e.platform.maxHeapBytes := by rw [Launch.admits_maxHeapBytes XX.admits]; show ¬ 30 * 8 > 536870912; omega
  have hd' : decode c.code pc = .ok (.multianewarray idx 2, 4) := by rw [F.2.1]; exact hd
  jvm_step XX.here [F.1, hd']
  simp only [Op.multianewarray.sem, wp_bind', Jvm.W.resolveClassAt_links (State.method?_setTop (F0 m pc ls (.int 30 :: .int 4 :: st)) XX.here.top) hg₁]
  rw [Jvm.W.popN, if_neg (by decide)]
  refine ⟨F0 m pc ls (.int 30 :: .int 4 :: st), State.topJava?_setTop' (s := T.setVm vm₁) (F0 m pc ls (.int 30 :: .int 4 :: st)) XX.here.top, [.int 4, .int 30], st, rfl, rfl, ?_⟩
  simp only [List.mapM_cons, List.mapM_nil, wp_bind', wp_pure']
  refine mf_make (kA := kA₁) (kC := kC₁) (cc := ccl) hkA₁ hkindA₁ hkC₁ hkindC₁ hl1 hh1 hl2 hh2 (by show T.heap.size + 5 ≤ _; omega) (by show T.slotsUsed + _ ≤ _; omega) (fun d' acts' => ?_)
  have eS : ((T.setTop (F0 m pc ls (.int 30 :: .int 4 :: st))).setVm vm₁).setTop (F0 m pc ls st) = (T.setVm vm₁).setTop (F0 m pc ls st) := by
    show ((T.setVm vm₁).setTop _).setTop _ = _
    rw [State.setTop_setTop]
  have eS' : ((T.setTop (F0 m pc ls (.int 30 :: .int 4 :: st))).setVm vm₁).setTop { F0 m pc ls (.int 30 :: .int 4 :: st) with stack := st } = (T.setVm vm₁).setTop (F0 m pc ls st) := eS
  rw [eS', mfS_top]
  simp only [wp_bind', Jvm.W.mark, Jvm.W.pushRef, State.topJava?_setTop' _ XF.here.top, Option.some.injEq, exists_eq_left', State.setTop_setTop, State.heap_setTop]
  intro acts
  simp [jvm, XF.here.top]
  have hsz : T.heap.size = gb γ + S.1 := by rw [hT]; exact hW.1
  rw [hsz]
  exact a1
end MultiRow
