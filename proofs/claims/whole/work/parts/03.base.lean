/-! ===== the words that every method carries: all good words of the tables ===== -/
def GG : List Cond := lw_tbl.filter goodWord
theorem gg_mem (i : Nat) {w : Cond} (h : lw_tbl[i]? = some w) (hg : goodWord w = true) : w ∈ GG := List.mem_filter.mpr ⟨List.mem_of_getElem? h, hg⟩
theorem gg_good : ∀ w ∈ GG, (w.onTables && w.keeps) = true ∨ ∃ ty, w = .arrayClass ty := fun w h => good_of_word (List.mem_filter.mp h).2
theorem gg_tbl : ∀ w ∈ GG, w ∈ lw_tbl := fun _ h => (List.mem_filter.mp h).1
theorem gg_call {w : Cond} (hw : w ∈ GG) : GoodIn GG (w :: GG) := fun v hv => (List.mem_cons.mp hv).elim (fun e => by rw [e]; exact ⟨hw, gg_good _ hw⟩) (fun h => ⟨h, gg_good _ h⟩)
theorem gg_ps {ws : List Cond} (ps : List Nat) (hp : ws = ps.filterMap (fun i => lw_tbl[i]?)) (hg : ws.all goodWord = true) : ∀ w ∈ ws, w ∈ GG := by
  intro w hw
  have h1 := List.all_eq_true.mp hg w hw
  rw [hp] at hw
  obtain ⟨i, -, hi⟩ := List.mem_filterMap.mp hw
  exact gg_mem i hi h1
/-! ===== binds ===== -/
theorem bd_some {α β : Type} {x : Option α} {K : α → Option β} {y : β} (h : x.bind K = some y) : ∃ v, x = some v ∧ K v = some y := by
  cases x with
  | none => cases h
  | some v => exact ⟨v, rfl, h⟩
theorem lc_eq {x y : Int64} : lg_cmp x y = 0 ↔ x = y := by
  unfold lg_cmp
  by_cases h1 : x > y
  · rw [if_pos h1]
    exact ⟨fun h => absurd h (by decide), fun h => by subst h; exact absurd h1 Int64.lt_irrefl⟩
  · rw [if_neg h1]
    by_cases h2 : x = y
    · rw [if_pos h2]; exact ⟨fun _ => h2, fun _ => rfl⟩
    · rw [if_neg h2]; exact ⟨fun h => absurd h (by decide), fun h => absurd h h2⟩
theorem lc_tri (x y : Int64) : x < y ∨ x = y ∨ y < x := by
  have h := Int.lt_trichotomy x.toInt y.toInt
  rcases h with h | h | h
  · exact Or.inl (Int64.lt_iff_toInt_lt.mpr h)
  · exact Or.inr (Or.inl (Int64.toInt_inj.mp h))
  · exact Or.inr (Or.inr (Int64.lt_iff_toInt_lt.mpr h))
theorem lc_lt {x y : Int64} : lg_cmp x y < 0 ↔ x < y := by
  unfold lg_cmp
  rcases lc_tri x y with h | h | h
  · have h1 : ¬ x > y := fun z => absurd (Int64.lt_iff_toInt_lt.mp z) (by have := Int64.lt_iff_toInt_lt.mp h; omega)
    have h2 : ¬ x = y := fun z => by subst z; exact absurd h Int64.lt_irrefl
    rw [if_neg h1, if_neg h2]; exact ⟨fun _ => h, fun _ => by decide⟩
  · subst h
    rw [if_neg Int64.lt_irrefl, if_pos rfl]; exact ⟨fun h => absurd h (by decide), fun h => absurd h Int64.lt_irrefl⟩
  · have h1 : x > y := h
    rw [if_pos h1]; exact ⟨fun h => absurd h (by decide), fun z => absurd (Int64.lt_iff_toInt_lt.mp z) (by have := Int64.lt_iff_toInt_lt.mp h; omega)⟩
theorem lc_gt {x y : Int64} : 0 < lg_cmp x y ↔ y < x := by
  unfold lg_cmp
  by_cases h1 : x > y
  · rw [if_pos h1]; exact ⟨fun _ => h1, fun _ => by decide⟩
  · rw [if_neg h1]
    by_cases h2 : x = y
    · rw [if_pos h2]; exact ⟨fun h => absurd h (by decide), fun h => absurd h h1⟩
    · rw [if_neg h2]; exact ⟨fun h => absurd h (by decide), fun h => absurd h h1⟩
theorem lc_nlt {x y : Int64} : ¬ x < y ↔ y ≤ x := Int64.not_lt
theorem lc_ge {x y : Int64} : 0 ≤ lg_cmp x y ↔ y ≤ x := by
  rw [← lc_nlt, ← lc_lt]; exact Int32.not_lt.symm
theorem lc_le {x y : Int64} : lg_cmp x y ≤ 0 ↔ x ≤ y := by
  rw [← lc_nlt, ← lc_gt]; exact Int32.not_lt.symm
def o_idiv (x y : Int32) : Option Int32 := if y = 0 then none else some (x / y)
def o_irem (x y : Int32) : Option Int32 := if y = 0 then none else some (x - x / y * y)
def o_ldiv (x y : Int64) : Option Int64 := if y = 0 then none else some (x / y)
def o_lrem (x y : Int64) : Option Int64 := if y = 0 then none else some (x - x / y * y)
/-! ===== loops: a body over its own continuation, with fuel ===== -/
def lpN {σ ρ : Type} (body : (σ → Option ρ) → σ → Option ρ) : Nat → σ → Option ρ
  | 0, _ => none
  | n + 1, x => body (lpN body n) x
theorem lpN_sound {σ ρ : Type} {body : (σ → Option ρ) → σ → Option ρ} {X : ρ} (P : σ → Prop) (hb : ∀ self, (∀ x, self x = some X → P x) → ∀ x, body self x = some X → P x) : ∀ n x, lpN body n x = some X → P x
  | 0, _, h => by cases h
  | n + 1, x, h => hb (lpN body n) (lpN_sound P hb n) x h
theorem lpN_succ {σ ρ : Type} (body : (σ → Option ρ) → σ → Option ρ) (n : Nat) (x : σ) : lpN body (n + 1) x = body (lpN body n) x := rfl
def fu : Nat := 5000
/-! ===== classes ===== -/
def tyf (ci : Nat) : Nat → FieldType := match ci with
  | 0 => tyX0 | 1 => tyX1 | 2 => tyX2 | 3 => tyX3 | 4 => tyX4 | 5 => tyX5 | 6 => tyX6 | 7 => tyX7 | 8 => tyX8 | 9 => tyX9 | 10 => tyX10 | 11 => tyX11 | _ => tyX12
def nf (ci : Nat) : Nat := match ci with
  | 0 => 4 | 1 => 2 | 2 => 4 | 3 => 8 | 4 => 11 | 5 => 10 | 6 => 3 | 7 => 3 | 8 => 2 | 9 => 3 | 10 => 5 | 11 => 12 | _ => 41
/-- what is known of class ci -/
def CP (ci : Nat) (C : String) (T : u_T) (N : Nat) : Prop := vwCl[ci]? = some (C, T, N) ∧ nf ci = N ∧ (∀ w ∈ u_ws C T N, w ∈ GG) ∧ (∀ k, k < N → parseFieldDescriptor (T k).2.2.1 = some (tyf ci k)) ∧ ∀ a, a < N → ∀ b, b < N → a ≠ b → (T a).2.1 ≠ (T b).2.1
/-- a field's link: own class, pool index, class and field -/
def FL (own : String) (idx ci j : Nat) : Prop := ∃ C T N, CP ci C T N ∧ j < N ∧ Cond.fieldLink own idx C (T j).2.1 (T j).2.2.1 ∈ GG ∧ (T j).1 = C
/-- one that may be written -/
def FW (own : String) (idx ci j : Nat) : Prop := ∃ C T N, CP ci C T N ∧ j < N ∧ Cond.fieldLink own idx C (T j).2.1 (T j).2.2.1 ∈ GG ∧ (T j).1 = C ∧ (T j).2.2.2 = false
theorem FW.l {own : String} {idx ci j : Nat} (h : FW own idx ci j) : FL own idx ci j := by
  obtain ⟨C, T, N, h1, h2, h3, h4, -⟩ := h
  exact ⟨C, T, N, h1, h2, h3, h4⟩
def kI (t : FieldType) : Bool := match t with
  | .int => true | .boolean => true | .byte => true | .short => true | .char => true | _ => false
def kR (t : FieldType) : Bool := match t with
  | .object _ => true | .array _ => true | _ => false
/-! ===== the pure state ===== -/
abbrev Mem : Type := (Nat → Nat → Int32) × (Nat → Nat → Int64)
abbrev Shp : Type := (Nat × (Nat → Option Nat)) ⊕ (FieldType × Nat × (Nat → Option Nat))
abbrev SH : Type := Nat × (Nat → Shp)
/-- classes and slots; array classes; base; static arrays; String constants and their bytes -/
abbrev GE : Type := va_G × (FieldType → ClassId) × Nat × (Nat → Nat) × (Nat → Nat) × (Nat → Nat)
def gD (γ : GE) : va_G := γ.1
def gA (γ : GE) : FieldType → ClassId := γ.2.1
def gb (γ : GE) : Nat := γ.2.2.1
def gs (γ : GE) : Nat → Nat := γ.2.2.2.1
def gK (γ : GE) : Nat → Nat := γ.2.2.2.2.1
def gV (γ : GE) : Nat → Nat := γ.2.2.2.2.2
def AA (γ : GE) : Nat → Prop := fun q => gb γ ≤ q
def upI (μ : Mem) (o j : Nat) (v : Int32) : Mem := (fun k i => if k = o ∧ i = j then v else μ.1 k i, μ.2)
def upL (μ : Mem) (o j : Nat) (v : Int64) : Mem := (μ.1, fun k i => if k = o ∧ i = j then v else μ.2 k i)
def inb (i : Int32) (n : Nat) : Bool := !decide (i < 0) && decide (i.toNatClampNeg < n)
theorem inb_in {i : Int32} {n : Nat} (h : inb i n = true) : vp_in i n := by
  simp only [inb, Bool.and_eq_true, Bool.not_eq_true', decide_eq_false_iff_not, decide_eq_true_eq] at h
  rintro (q | q)
  · exact h.1 q
  · omega
/-- is there an object of class ci at o -/
def isO (S : SH) (ci o : Nat) : Bool := match S.2 o with
  | .inl (c, _) => decide (c = ci) && decide (o < S.1)
  | _ => false
/-- is there an array of ty at o, and its length -/
def isA (S : SH) (ty : FieldType) (o : Nat) : Option Nat := match S.2 o with
  | .inr (t, n, _) => if t = ty ∧ o < S.1 then some n else none
  | _ => none
def gR (S : SH) (ci o j : Nat) : Option Nat := match S.2 o with
  | .inl (c, rs) => if c = ci ∧ o < S.1 then rs j else none
  | _ => none
def gI (S : SH) (ci o j : Nat) (μ : Mem) : Option Int32 := if isO S ci o = true then some (μ.1 o j) else none
def gL (S : SH) (ci o j : Nat) (μ : Mem) : Option Int64 := if isO S ci o = true then some (μ.2 o j) else none
def pI (S : SH) (ci o j : Nat) (v : Int32) (μ : Mem) : Option Mem := if isO S ci o = true then some (upI μ o j v) else none
def pZ (S : SH) (ci o j : Nat) (v : Int32) (μ : Mem) : Option Mem := if isO S ci o = true ∧ (v = 0 ∨ v = 1) then some (upI μ o j v) else none
def pL (S : SH) (ci o j : Nat) (v : Int64) (μ : Mem) : Option Mem := if isO S ci o = true then some (upL μ o j v) else none
def aI (S : SH) (ty : FieldType) (o : Nat) (i : Int32) (μ : Mem) : Option Int32 := (isA S ty o).bind fun n => if inb i n = true then some (μ.1 o i.toNatClampNeg) else none
def aL (S : SH) (o : Nat) (i : Int32) (μ : Mem) : Option Int64 := (isA S .long o).bind fun n => if inb i n = true then some (μ.2 o i.toNatClampNeg) else none
def sI (S : SH) (o : Nat) (i v : Int32) (μ : Mem) : Option Mem := (isA S .int o).bind fun n => if inb i n = true then some (upI μ o i.toNatClampNeg v) else none
def sB (S : SH) (o : Nat) (i v : Int32) (μ : Mem) : Option Mem := (isA S .byte o).bind fun n => if inb i n = true then some (upI μ o i.toNatClampNeg (vp_nar .byte v)) else none
def sZ (S : SH) (o : Nat) (i v : Int32) (μ : Mem) : Option Mem := (isA S .boolean o).bind fun n => if inb i n = true then some (upI μ o i.toNatClampNeg (vp_nar .boolean v)) else none
def sL (S : SH) (o : Nat) (i : Int32) (v : Int64) (μ : Mem) : Option Mem := (isA S .long o).bind fun n => if inb i n = true then some (upL μ o i.toNatClampNeg v) else none
def aR (S : SH) (ty : FieldType) (o : Nat) (i : Int32) : Option Nat := match S.2 o with
  | .inr (t, n, rs) => if t = ty ∧ o < S.1 ∧ inb i n = true then rs i.toNatClampNeg else none
  | _ => none
def aN (S : SH) (ty : FieldType) (o : Nat) : Option Int32 := (isA S ty o).map Int32.ofNat
/-- n ints from place i of o on are laid into o2 from place j on -/
def cpI (S : SH) (ty : FieldType) (o : Nat) (i : Int32) (o2 : Nat) (j n : Int32) (μ : Mem) : Option Mem := (isA S ty o).bind fun n0 => (isA S ty o2).bind fun n1 =>
  if ¬ i < 0 ∧ ¬ j < 0 ∧ ¬ n < 0 ∧ i.toNatClampNeg + n.toNatClampNeg ≤ n0 ∧ j.toNatClampNeg + n.toNatClampNeg ≤ n1 then some (fun k q => if k = o2 then va_cpy (μ.1 o) (μ.1 o2) i.toNatClampNeg j.toNatClampNeg n.toNatClampNeg q else μ.1 k q, μ.2) else none
/-! static arrays -/
def stN (i : Nat) : String := match i with
  | 0 => "FIRST_OF_DIAL" | 1 => "LEAST_OF_DIAL" | 2 => "MOST_OF_DIAL" | 3 => "ALONG_X" | _ => "ALONG_Y"
def stT (i : Nat) : List Int32 := match i with
  | 0 => [0, 5, 0, 0, 50, 0, 0, 0, 0, 0, 100, 100, 100, 100]
  | 1 => [0, 0, 0, 0, 1, 0, 0, 0, 0, 0, 0, 0, 0, 0]
  | 2 => [19, 60, 999, 9999, 999, 2, 9, 2, 0, 0, 100, 100, 100, 100]
  | 3 => [65, 60, 52, 39, 25, 0, -25, -39, -52, -60, -65, -60, -52, -39, -25, 0, 25, 39, 52, 60]
  | _ => [0, 25, 39, 52, 60, 65, 60, 52, 39, 25, 0, -25, -39, -52, -60, -65, -60, -52, -39, -25]
def aT (t : Nat) (i : Int32) : Option Int32 := if inb i (stT t).length = true then some ((stT t).getD i.toNatClampNeg 0) else none
/-! String constants: place i -/
def ksO (i : Nat) : String := if i < 5 then "CranePads$Tape" else "CranePadsModel"
def ksI (i : Nat) : Nat := match i with
  | 0 => 29 | 1 => 57 | 2 => 59 | 3 => 61 | 4 => 63 | 5 => 262 | 6 => 264 | 7 => 266 | 8 => 268 | _ => 270
def ksT (i : Nat) : String := match i with
  | 0 => "set" | 1 => "take" | 2 => "slew" | 3 => "reach" | 4 => "wind" | 5 => "take" | 6 => "slew" | 7 => "reach" | 8 => "set" | _ => "wind"
def ksB (i : Nat) : List Int32 := match i with
  | 0 => [115, 101, 116] | 1 => [116, 97, 107, 101] | 2 => [115, 108, 101, 119] | 3 => [114, 101, 97, 99, 104] | 4 => [119, 105, 110, 100]
  | 5 => [116, 97, 107, 101] | 6 => [115, 108, 101, 119] | 7 => [114, 101, 97, 99, 104] | 8 => [115, 101, 116] | _ => [119, 105, 110, 100]
/-- of a String constant: length and the char at a place -/
def tLen (i : Nat) : Option Int32 := if i < 10 then some (Int32.ofNat (ksB i).length) else none
def tAt (i : Nat) (k : Int32) : Option Int32 := if i < 10 ∧ inb k (ksB i).length = true then some ((ksB i).getD k.toNatClampNeg 0) else none
/-! ===== what is known of the machine's tables and of what nobody writes ===== -/
def tysG (γ : GE) : List (ClassId × FieldType) := [(gA γ .int, .int), (gA γ .long, .long), (gA γ .byte, .byte), (gA γ .boolean, .boolean), (gA γ (.object "CranePads$Chart"), .object "CranePads$Chart"), (gA γ (.array .long), .array .long)]
def nestF : List Cond := [(Jvm.Cond.fieldLinkNest "CranePads$Crane" (32 : Nat) "CranePads" "FIRST_OF_DIAL" "[I" "CranePads"), (Jvm.Cond.fieldLinkNest "CranePads$Judge" (73 : Nat) "CranePads" "ALONG_X" "[I" "CranePads"), (Jvm.Cond.fieldLinkNest "CranePads$Judge" (76 : Nat) "CranePads" "ALONG_Y" "[I" "CranePads")]
def nestM : List Cond := [(Jvm.Cond.methodLinkNest "CranePads$Pads" (56 : Nat) ({ cls := "CranePads", name := "next", desc := "(I)I" } : Jvm.MethodName) "CranePads"), (Jvm.Cond.methodLinkNest "CranePads$Crane" (20 : Nat) ({ cls := "CranePads$Parts", name := "<init>", desc := "()V" } : Jvm.MethodName) "CranePads"), (Jvm.Cond.methodLinkNest "CranePads" (26 : Nat) ({ cls := "CranePads$Judge", name := "<init>", desc := "()V" } : Jvm.MethodName) "CranePads"), (Jvm.Cond.methodLinkNest "CranePads" (33 : Nat) ({ cls := "CranePads$Route", name := "<init>", desc := "()V" } : Jvm.MethodName) "CranePads"), (Jvm.Cond.methodLinkNest "CranePads" (40 : Nat) ({ cls := "CranePads$Tape", name := "<init>", desc := "()V" } : Jvm.MethodName) "CranePads"), (Jvm.Cond.methodLinkNest "CranePads" (47 : Nat) ({ cls := "CranePads$Plan", name := "<init>", desc := "()V" } : Jvm.MethodName) "CranePads"), (Jvm.Cond.methodLinkNest "CranePads" (57 : Nat) ({ cls := "CranePads$Walk", name := "<init>", desc := "()V" } : Jvm.MethodName) "CranePads"), (Jvm.Cond.methodLinkNest "CranePads" (64 : Nat) ({ cls := "CranePads$Book", name := "<init>", desc := "()V" } : Jvm.MethodName) "CranePads"), (Jvm.Cond.methodLinkNest "CranePads" (71 : Nat) ({ cls := "CranePads$Rows", name := "<init>", desc := "()V" } : Jvm.MethodName) "CranePads"), (Jvm.Cond.methodLinkNest "CranePads$Judge" (146 : Nat) ({ cls := "CranePads", name := "next", desc := "(I)I" } : Jvm.MethodName) "CranePads"), (Jvm.Cond.methodLinkNest "CranePads$Tape" (53 : Nat) ({ cls := "CranePads", name := "fitsDial", desc := "(II)Z" } : Jvm.MethodName) "CranePads")]
/-- what making arrays of arrays and of charts, and cloning, wants -/
def KX (γ : GE) (U : State) : Prop := va_AO "CranePads$Chart" U ∧ va_Nw (.castable "[I" "java/lang/Cloneable") U ∧ ∃ (kA kC : Class) (cc : ClassId), U.vm.findClass "[[J" = some (gA γ (.array .long)) ∧ U.vm.classes[gA γ (.array .long)]? = some kA ∧ kA.kind = .array (gA γ .long) (.array .long) ∧ U.vm.findClass "[J" = some (gA γ .long) ∧ U.vm.classes[gA γ .long]? = some kC ∧ kC.kind = .array cc .long
theorem KX.moved {γ : GE} {u U : State} (hW : u.WarmedH U.vm) (h : KX γ u) : KX γ U := by
  obtain ⟨h1, h2, kA, kC, cc, a1, a2, a3, a4, a5, a6⟩ := h
  have hvm := hW.alike
  obtain ⟨kA', hkA', eA⟩ := hvm.2.2 _ _ a2
  obtain ⟨kC', hkC', eC⟩ := hvm.2.2 _ _ a5
  exact ⟨h1.moved hvm, va_Nw.warmC hW h2, kA', kC', cc, by rw [hvm.findClass]; exact a1, hkA', by rw [eA]; exact a3, by rw [hvm.findClass]; exact a4, hkC', by rw [eC]; exact a6⟩
theorem KX.same {γ : GE} {u U : State} (hv : U.vm = u.vm) (h : KX γ u) : KX γ U := by
  obtain ⟨h1, h2, kA, kC, cc, a⟩ := h
  exact ⟨h1.moved (by rw [hv]; exact Vm.Alike.refl _), va_Nw.same rfl hv.symm h2, kA, kC, cc, by rw [hv]; exact a⟩
/-- the first static array, whole: it is cloned -/
def KC (γ : GE) (H : Heap) : Prop := ∃ cell : Cell, H[gs γ 0]? = some cell ∧ cell.cls = gA γ .int ∧ cell.vm.isStatics = false ∧ cell.vm ≠ .unknown ∧ cell.slots.size = 14 ∧ (∀ j : Nat, j < 14 → cell.slots[j]? = some (.int ((stT 0).getD j 0))) ∧ ¬ AA γ (gs γ 0)
theorem KC.kept {γ : GE} {H H1 : Heap} (h : KC γ H) (hq : ∀ a : Nat, a < H.size → ¬ AA γ a → H1[a]? = H[a]?) : KC γ H1 := by
  obtain ⟨cell, h1, h2, h3, h4, h5, h6, h7⟩ := h
  exact ⟨cell, by rw [hq _ (Array.getElem?_eq_some_iff.mp h1).1 h7]; exact h1, h2, h3, h4, h5, h6, h7⟩
def strOK (γ : GE) (U : State) (H : Heap) : Prop := (∀ i, i < 10 → va_O "java/lang/String" (gK γ i) (AA γ) U H ∧ va_OF "java/lang/String" "coder" "B" (.int 0) (gK γ i) (AA γ) U H ∧ va_OF "java/lang/String" "value" "[B" (.ref (gV γ i)) (gK γ i) (AA γ) U H ∧ va_T .byte (gV γ i) (ksB i).length (fun j => .int ((ksB i).getD j 0)) (AA γ) U H) ∧ (∀ i, i < 10 → vk_R (ksO i) (ksI i) (ksT i) (gK γ i) U) ∧ va_Z "java/lang/String" "COMPACT_STRINGS" "Z" (.int 1) (AA γ) U H ∧ va_Zq "jdk/internal/util/Preconditions" "SIOOBE_FORMATTER" "Ljava/util/function/BiFunction;" (AA γ) U H ∧ KX γ U ∧ KC γ H
def Ken (γ : GE) (U : State) (H : Heap) : Prop := va_K (gD γ) vwCl (tysG γ) U ∧ (∀ w ∈ nestF, va_Nw w U) ∧ (∀ w ∈ nestM, va_Nw w U) ∧ (∀ i, i < 5 → va_Z "CranePads" (stN i) "[I" (.ref (gs γ i)) (AA γ) U H ∧ va_T .int (gs γ i) (stT i).length (fun j => .int ((stT i).getD j 0)) (AA γ) U H) ∧ strOK γ U H
/-! ===== the world: the cells from the base on ===== -/
def fvl (γ : GE) (μ : Mem) (k ci : Nat) (rs : Nat → Option Nat) (j : Nat) : Value := match tyf ci j with
  | .long => .long (μ.2 k j)
  | .array _ => va_rf ((rs j).map (gb γ + ·))
  | .object _ => va_rf ((rs j).map (gb γ + ·))
  | _ => .int (μ.1 k j)
def celA (γ : GE) (μ : Mem) (k : Nat) (ty : FieldType) (n : Nat) (rs : Nat → Option Nat) : vp_A := match ty with
  | .long => (n, .inr (.inl (μ.2 k)))
  | .array _ => (n, .inr (.inr (.inr (.inr (fun j => (rs j).map (gb γ + ·))))))
  | .object _ => (n, .inr (.inr (.inr (.inr (fun j => (rs j).map (gb γ + ·))))))
  | _ => (n, .inl (μ.1 k))
def celE (γ : GE) (μ : Mem) (k : Nat) (sh : Shp) : va_E := match sh with
  | .inl (ci, rs) => .inr (ci, (List.range (nf ci)).map (fvl γ μ k ci rs))
  | .inr (ty, n, rs) => .inl (gA γ ty, celA γ μ k ty n rs)
def Wd (γ : GE) (S : SH) (μ : Mem) (H : Heap) : Prop := H.size = gb γ + S.1 ∧ ∀ k, k < S.1 → va_at (gD γ) vwCl (gb γ + k, celE γ μ k (S.2 k)) H
theorem fvl_len {γ : GE} {μ : Mem} {k ci : Nat} {rs : Nat → Option Nat} : ((List.range (nf ci)).map (fvl γ μ k ci rs)).length = nf ci := by simp
theorem fvl_get {γ : GE} {μ : Mem} {k ci : Nat} {rs : Nat → Option Nat} {j : Nat} (hj : j < nf ci) : ((List.range (nf ci)).map (fvl γ μ k ci rs))[j]? = some (fvl γ μ k ci rs j) := by
  rw [List.getElem?_map, List.getElem?_range hj]; rfl
theorem celE_congr {γ : GE} {μ μ' : Mem} {k : Nat} {sh : Shp} (h1 : μ'.1 k = μ.1 k) (h2 : μ'.2 k = μ.2 k) : celE γ μ' k sh = celE γ μ k sh := by
  obtain ⟨ci, rs⟩ | ⟨ty, n, rs⟩ := sh
  · show Sum.inr (ci, _) = Sum.inr (ci, _)
    have : fvl γ μ' k ci rs = fvl γ μ k ci rs := by funext j; unfold fvl; rw [h1, h2]
    rw [this]
  · show Sum.inl (_, _) = Sum.inl (_, _)
    have : celA γ μ' k ty n rs = celA γ μ k ty n rs := by unfold celA; rw [h1, h2]
    rw [this]
/-- one cell is written -/
theorem Wd.set {γ : GE} {S : SH} {μ μ' : Mem} {H H1 : Heap} {o : Nat} (h : Wd γ S μ H) (hz : H1.size = H.size) (hq : ∀ q : Nat, q ≠ gb γ + o → H1[q]? = H[q]?) (ho : va_at (gD γ) vwCl (gb γ + o, celE γ μ' o (S.2 o)) H1) (hm : ∀ k, k ≠ o → μ'.1 k = μ.1 k ∧ μ'.2 k = μ.2 k) : Wd γ S μ' H1 := by
  refine ⟨hz.trans h.1, fun k hk => ?_⟩
  by_cases hko : k = o
  · subst hko; exact ho
  · rw [celE_congr (hm k hko).1 (hm k hko).2]
    exact (h.2 k hk).kept (hq _ (by show gb γ + k ≠ gb γ + o; omega))
theorem isO_spec {S : SH} {ci o : Nat} (h : isO S ci o = true) : o < S.1 ∧ ∃ rs, S.2 o = .inl (ci, rs) := by
  unfold isO at h
  split at h
  · rename_i c rs he
    simp only [Bool.and_eq_true, decide_eq_true_eq] at h
    obtain ⟨h1, h2⟩ := h
    subst h1
    exact ⟨h2, rs, he⟩
  · cases h
theorem isA_spec {S : SH} {ty : FieldType} {o n : Nat} (h : isA S ty o = some n) : o < S.1 ∧ ∃ rs, S.2 o = .inr (ty, n, rs) := by
  unfold isA at h
  split at h
  · rename_i t n' rs he
    split at h
    · rename_i hh
      cases h
      obtain ⟨h1, h2⟩ := hh
      subst h1
      exact ⟨h2, rs, he⟩
    · cases h
  · cases h
theorem gR_spec {S : SH} {ci o j k : Nat} (h : gR S ci o j = some k) : o < S.1 ∧ ∃ rs, S.2 o = .inl (ci, rs) ∧ rs j = some k := by
  unfold gR at h
  split at h
  · rename_i c rs he
    split at h
    · rename_i hh
      obtain ⟨h1, h2⟩ := hh
      subst h1
      exact ⟨h2, rs, he, h⟩
    · cases h
  · cases h
theorem aR_spec {S : SH} {ty : FieldType} {o k : Nat} {i : Int32} (h : aR S ty o i = some k) : o < S.1 ∧ ∃ n rs, S.2 o = .inr (ty, n, rs) ∧ inb i n = true ∧ rs i.toNatClampNeg = some k := by
  unfold aR at h
  split at h
  · rename_i t n rs he
    split at h
    · rename_i hh
      obtain ⟨h1, h2, h3⟩ := hh
      subst h1
      exact ⟨h2, n, rs, he, h3, h⟩
    · cases h
  · cases h
theorem Wd.ob {γ : GE} {S : SH} {μ : Mem} {H : Heap} {ci o : Nat} {rs : Nat → Option Nat} (h : Wd γ S μ H) (ho : o < S.1) (hs : S.2 o = .inl (ci, rs)) : va_P (gD γ) vwCl [(gb γ + o, .inr (ci, (List.range (nf ci)).map (fvl γ μ o ci rs)))] H := by
  intro k q hk
  have hz : k < 1 := (List.getElem?_eq_some_iff.mp hk).1
  rw [show k = 0 by omega] at hk
  cases hk
  have h1 := h.2 o ho
  rw [hs] at h1
  exact h1
theorem Wd.ar {γ : GE} {S : SH} {μ : Mem} {H : Heap} {ty : FieldType} {o n : Nat} {rs : Nat → Option Nat} (h : Wd γ S μ H) (ho : o < S.1) (hs : S.2 o = .inr (ty, n, rs)) : va_P (gD γ) vwCl [(gb γ + o, .inl (gA γ ty, celA γ μ o ty n rs))] H := by
  intro k q hk
  have hz : k < 1 := (List.getElem?_eq_some_iff.mp hk).1
  rw [show k = 0 by omega] at hk
  cases hk
  have h1 := h.2 o ho
  rw [hs] at h1
  exact h1
theorem fvl_I {γ : GE} {μ : Mem} {k ci : Nat} {rs : Nat → Option Nat} {j : Nat} (h : kI (tyf ci j) = true) : fvl γ μ k ci rs j = .int (μ.1 k j) := by
  unfold fvl; revert h; cases tyf ci j <;> intro h <;> first | rfl | cases h
theorem fvl_L {γ : GE} {μ : Mem} {k ci : Nat} {rs : Nat → Option Nat} {j : Nat} (h : tyf ci j = .long) : fvl γ μ k ci rs j = .long (μ.2 k j) := by
  unfold fvl; rw [h]
theorem fvl_R {γ : GE} {μ : Mem} {k ci : Nat} {rs : Nat → Option Nat} {j : Nat} (h : kR (tyf ci j) = true) : fvl γ μ k ci rs j = va_rf ((rs j).map (gb γ + ·)) := by
  unfold fvl; revert h; cases tyf ci j <;> intro h <;> first | rfl | cases h
theorem celA_I {γ : GE} {μ : Mem} {k : Nat} {ty : FieldType} {n : Nat} {rs : Nat → Option Nat} (h : kI ty = true) : celA γ μ k ty n rs = (n, .inl (μ.1 k)) := by
  unfold celA; revert h; cases ty <;> intro h <;> first | rfl | cases h
theorem celA_R {γ : GE} {μ : Mem} {k : Nat} {ty : FieldType} {n : Nat} {rs : Nat → Option Nat} (h : kR ty = true) : celA γ μ k ty n rs = (n, .inr (.inr (.inr (.inr (fun j => (rs j).map (gb γ + ·)))))) := by
  unfold celA; revert h; cases ty <;> intro h <;> first | rfl | cases h
/-! ===== the context of a method, and the judgement ===== -/
def FX (γ : GE) (p : Program) (s : State) (m : MethodId) (args : Array Value) (meth : Method) (c : Code) (cc : ByteArray) (own : String) (nL : Nat) : Prop :=
  p.tables.exec = Jvm.exec ∧ c.code = cc ∧ c.maxLocals = nL ∧ s.vm.findClass own = some m.cls ∧ (∀ w ∈ GG, w.before args s = true) ∧ Ken γ s s.heap ∧ meth.locks = false
def JJ (γ : GE) (p : Program) (l : Launch) (e : Env) (R : Room) (s : State) (m : MethodId) (args : Array Value) (below : List Frame) (meth : Method) (c : Code) (nL : Nat) (cells slots : Nat) (Q : State → Prop) (S : SH) (μ : Mem) (pc : Nat) (lv : List (Nat × Value)) (st : List Value) : Prop :=
  ∀ (H : Heap) (locs : List Loc) (ls : Array Slot), Wd γ S μ H → va_S (AA γ) s.heap H locs → lv_has ls nL lv → W p l e R s m args below meth c H locs cells slots Q (F0 m pc ls st)

section Rows
variable {γ : GE} {p : Program} {l : Launch} {e : Env} {R : Room} {s : State} {m : MethodId} {args : Array Value} {below : List Frame} {meth : Method} {c : Code} {cc : ByteArray} {own : String} {nL : Nat} {cells slots : Nat} {Q : State → Prop} {S : SH} {μ : Mem} {pc : Nat} {lv : List (Nat × Value)} {st : List Value} {ρ : Type} {X : ρ}
theorem j_iadd (F : FX γ p s m args meth c cc own nL) {x y : Int32} (hd : decode cc pc = .ok (.iadd, 1))  (k : JJ γ p l e R s m args below meth c nL cells slots Q S μ (pc + 1) (lv) (.int (x + y) :: st)) : JJ γ p l e R s m args below meth c nL cells slots Q S μ (pc) (lv) (.int y :: .int x :: st) :=
  fun H locs ls hW hS hl => lv_iadd F.1 F.2.1 hd (k H locs ls hW hS hl)
theorem j_isub (F : FX γ p s m args meth c cc own nL) {x y : Int32} (hd : decode cc pc = .ok (.isub, 1))  (k : JJ γ p l e R s m args below meth c nL cells slots Q S μ (pc + 1) (lv) (.int (x - y) :: st)) : JJ γ p l e R s m args below meth c nL cells slots Q S μ (pc) (lv) (.int y :: .int x :: st) :=
  fun H locs ls hW hS hl => lv_isub F.1 F.2.1 hd (k H locs ls hW hS hl)
theorem j_imul (F : FX γ p s m args meth c cc own nL) {x y : Int32} (hd : decode cc pc = .ok (.imul, 1))  (k : JJ γ p l e R s m args below meth c nL cells slots Q S μ (pc + 1) (lv) (.int (x * y) :: st)) : JJ γ p l e R s m args below meth c nL cells slots Q S μ (pc) (lv) (.int y :: .int x :: st) :=
  fun H locs ls hW hS hl => lv_imul F.1 F.2.1 hd (k H locs ls hW hS hl)
theorem j_iand (F : FX γ p s m args meth c cc own nL) {x y : Int32} (hd : decode cc pc = .ok (.iand, 1))  (k : JJ γ p l e R s m args below meth c nL cells slots Q S μ (pc + 1) (lv) (.int (x &&& y) :: st)) : JJ γ p l e R s m args below meth c nL cells slots Q S μ (pc) (lv) (.int y :: .int x :: st) :=
  fun H locs ls hW hS hl => lv_iand F.1 F.2.1 hd (k H locs ls hW hS hl)
theorem j_ior (F : FX γ p s m args meth c cc own nL) {x y : Int32} (hd : decode cc pc = .ok (.ior, 1))  (k : JJ γ p l e R s m args below meth c nL cells slots Q S μ (pc + 1) (lv) (.int (x ||| y) :: st)) : JJ γ p l e R s m args below meth c nL cells slots Q S μ (pc) (lv) (.int y :: .int x :: st) :=
  fun H locs ls hW hS hl => lv_ior F.1 F.2.1 hd (k H locs ls hW hS hl)
theorem j_ladd (F : FX γ p s m args meth c cc own nL) {x y : Int64} (hd : decode cc pc = .ok (.ladd, 1))  (k : JJ γ p l e R s m args below meth c nL cells slots Q S μ (pc + 1) (lv) (.long (x + y) :: st)) : JJ γ p l e R s m args below meth c nL cells slots Q S μ (pc) (lv) (.long y :: .long x :: st) :=
  fun H locs ls hW hS hl => lv_ladd F.1 F.2.1 hd (k H locs ls hW hS hl)
theorem j_lsub (F : FX γ p s m args meth c cc own nL) {x y : Int64} (hd : decode cc pc = .ok (.lsub, 1))  (k : JJ γ p l e R s m args below meth c nL cells slots Q S μ (pc + 1) (lv) (.long (x - y) :: st)) : JJ γ p l e R s m args below meth c nL cells slots Q S μ (pc) (lv) (.long y :: .long x :: st) :=
  fun H locs ls hW hS hl => lv_lsub F.1 F.2.1 hd (k H locs ls hW hS hl)
theorem j_lmul (F : FX γ p s m args meth c cc own nL) {x y : Int64} (hd : decode cc pc = .ok (.lmul, 1))  (k : JJ γ p l e R s m args below meth c nL cells slots Q S μ (pc + 1) (lv) (.long (x * y) :: st)) : JJ γ p l e R s m args below meth c nL cells slots Q S μ (pc) (lv) (.long y :: .long x :: st) :=
  fun H locs ls hW hS hl => lv_lmul F.1 F.2.1 hd (k H locs ls hW hS hl)
theorem j_land (F : FX γ p s m args meth c cc own nL) {x y : Int64} (hd : decode cc pc = .ok (.land, 1))  (k : JJ γ p l e R s m args below meth c nL cells slots Q S μ (pc + 1) (lv) (.long (x &&& y) :: st)) : JJ γ p l e R s m args below meth c nL cells slots Q S μ (pc) (lv) (.long y :: .long x :: st) :=
  fun H locs ls hW hS hl => lv_land F.1 F.2.1 hd (k H locs ls hW hS hl)
theorem j_lor (F : FX γ p s m args meth c cc own nL) {x y : Int64} (hd : decode cc pc = .ok (.lor, 1))  (k : JJ γ p l e R s m args below meth c nL cells slots Q S μ (pc + 1) (lv) (.long (x ||| y) :: st)) : JJ γ p l e R s m args below meth c nL cells slots Q S μ (pc) (lv) (.long y :: .long x :: st) :=
  fun H locs ls hW hS hl => lv_lor F.1 F.2.1 hd (k H locs ls hW hS hl)
theorem j_ineg (F : FX γ p s m args meth c cc own nL) {x : Int32} (hd : decode cc pc = .ok (.ineg, 1))  (k : JJ γ p l e R s m args below meth c nL cells slots Q S μ (pc + 1) (lv) (.int (-x) :: st)) : JJ γ p l e R s m args below meth c nL cells slots Q S μ (pc) (lv) (.int x :: st) :=
  fun H locs ls hW hS hl => lv_ineg F.1 F.2.1 hd (k H locs ls hW hS hl)
theorem j_lneg (F : FX γ p s m args meth c cc own nL) {x : Int64} (hd : decode cc pc = .ok (.lneg, 1))  (k : JJ γ p l e R s m args below meth c nL cells slots Q S μ (pc + 1) (lv) (.long (-x) :: st)) : JJ γ p l e R s m args below meth c nL cells slots Q S μ (pc) (lv) (.long x :: st) :=
  fun H locs ls hW hS hl => lv_lneg F.1 F.2.1 hd (k H locs ls hW hS hl)
theorem j_ishl (F : FX γ p s m args meth c cc own nL) {x y : Int32} (hd : decode cc pc = .ok (.ishl, 1))  (k : JJ γ p l e R s m args below meth c nL cells slots Q S μ (pc + 1) (lv) (.int (x <<< (y &&& 31)) :: st)) : JJ γ p l e R s m args below meth c nL cells slots Q S μ (pc) (lv) (.int y :: .int x :: st) :=
  fun H locs ls hW hS hl => lv_ishl F.1 F.2.1 hd (k H locs ls hW hS hl)
theorem j_ishr (F : FX γ p s m args meth c cc own nL) {x y : Int32} (hd : decode cc pc = .ok (.ishr, 1))  (k : JJ γ p l e R s m args below meth c nL cells slots Q S μ (pc + 1) (lv) (.int (x >>> (y &&& 31)) :: st)) : JJ γ p l e R s m args below meth c nL cells slots Q S μ (pc) (lv) (.int y :: .int x :: st) :=
  fun H locs ls hW hS hl => lv_ishr F.1 F.2.1 hd (k H locs ls hW hS hl)
theorem j_lshl (F : FX γ p s m args meth c cc own nL) {x : Int64} {y : Int32} (hd : decode cc pc = .ok (.lshl, 1))  (k : JJ γ p l e R s m args below meth c nL cells slots Q S μ (pc + 1) (lv) (.long (x <<< (y.toInt64 &&& 63)) :: st)) : JJ γ p l e R s m args below meth c nL cells slots Q S μ (pc) (lv) (.int y :: .long x :: st) :=
  fun H locs ls hW hS hl => lv_lshl F.1 F.2.1 hd rfl (k H locs ls hW hS hl)
theorem j_i2l (F : FX γ p s m args meth c cc own nL) {x : Int32} (hd : decode cc pc = .ok (.i2l, 1))  (k : JJ γ p l e R s m args below meth c nL cells slots Q S μ (pc + 1) (lv) (.long x.toInt64 :: st)) : JJ γ p l e R s m args below meth c nL cells slots Q S μ (pc) (lv) (.int x :: st) :=
  fun H locs ls hW hS hl => lv_i2l F.1 F.2.1 hd rfl (k H locs ls hW hS hl)
theorem j_l2i (F : FX γ p s m args meth c cc own nL) {x : Int64} (hd : decode cc pc = .ok (.l2i, 1))  (k : JJ γ p l e R s m args below meth c nL cells slots Q S μ (pc + 1) (lv) (.int x.toInt32 :: st)) : JJ γ p l e R s m args below meth c nL cells slots Q S μ (pc) (lv) (.long x :: st) :=
  fun H locs ls hW hS hl => lv_l2i F.1 F.2.1 hd rfl (k H locs ls hW hS hl)
theorem j_i2b (F : FX γ p s m args meth c cc own nL) {x : Int32} (hd : decode cc pc = .ok (.i2b, 1))  (k : JJ γ p l e R s m args below meth c nL cells slots Q S μ (pc + 1) (lv) (.int x.toInt8.toInt32 :: st)) : JJ γ p l e R s m args below meth c nL cells slots Q S μ (pc) (lv) (.int x :: st) :=
  fun H locs ls hW hS hl => lv_i2b F.1 F.2.1 hd rfl (k H locs ls hW hS hl)
theorem j_iconst (F : FX γ p s m args meth c cc own nL) {n : Int} (v : Int32) (hd : decode cc pc = .ok (.iconst n, 1)) (hv : Int32.ofInt n = v) (k : JJ γ p l e R s m args below meth c nL cells slots Q S μ (pc + 1) (lv) (.int v :: st)) : JJ γ p l e R s m args below meth c nL cells slots Q S μ (pc) (lv) (st) :=
  fun H locs ls hW hS hl => lv_iconst F.1 F.2.1 hd hv (k H locs ls hW hS hl)
theorem j_bipush (F : FX γ p s m args meth c cc own nL) {n : Int} (v : Int32) (hd : decode cc pc = .ok (.bipush n, 2)) (hv : (Int8.ofInt n).toInt32 = v) (k : JJ γ p l e R s m args below meth c nL cells slots Q S μ (pc + 2) (lv) (.int v :: st)) : JJ γ p l e R s m args below meth c nL cells slots Q S μ (pc) (lv) (st) :=
  fun H locs ls hW hS hl => lv_bipush F.1 F.2.1 hd hv (k H locs ls hW hS hl)
theorem j_sipush (F : FX γ p s m args meth c cc own nL) {n : Int} (v : Int32) (hd : decode cc pc = .ok (.sipush n, 3)) (hv : (Int16.ofInt n).toInt32 = v) (k : JJ γ p l e R s m args below meth c nL cells slots Q S μ (pc + 3) (lv) (.int v :: st)) : JJ γ p l e R s m args below meth c nL cells slots Q S μ (pc) (lv) (st) :=
  fun H locs ls hW hS hl => lv_sipush F.1 F.2.1 hd hv (k H locs ls hW hS hl)
theorem j_lconst (F : FX γ p s m args meth c cc own nL) {n : Fin 2} (v : Int64) (hd : decode cc pc = .ok (.lconst n, 1)) (hv : Int64.ofNat (n : Nat) = v) (k : JJ γ p l e R s m args below meth c nL cells slots Q S μ (pc + 1) (lv) (.long v :: st)) : JJ γ p l e R s m args below meth c nL cells slots Q S μ (pc) (lv) (st) :=
  fun H locs ls hW hS hl => lv_lconst F.1 F.2.1 hd hv (k H locs ls hW hS hl)
theorem j_dup (F : FX γ p s m args meth c cc own nL) {x : Value} (hd : decode cc pc = .ok (.dup, 1)) (hc : x.category = 1) (k : JJ γ p l e R s m args below meth c nL cells slots Q S μ (pc + 1) (lv) (x :: x :: st)) : JJ γ p l e R s m args below meth c nL cells slots Q S μ (pc) (lv) (x :: st) :=
  fun H locs ls hW hS hl => lv_dup F.1 F.2.1 hd hc (k H locs ls hW hS hl)
theorem j_dup2 (F : FX γ p s m args meth c cc own nL) {x y : Value} (hd : decode cc pc = .ok (.dup2, 1)) (hc : x.category = 1) (hc2 : y.category = 1) (k : JJ γ p l e R s m args below meth c nL cells slots Q S μ (pc + 1) (lv) (x :: y :: x :: y :: st)) : JJ γ p l e R s m args below meth c nL cells slots Q S μ (pc) (lv) (x :: y :: st) :=
  fun H locs ls hW hS hl => lv_dup2_11 F.1 F.2.1 hd hc hc2 (k H locs ls hW hS hl)
theorem j_ldc2 (F : FX γ p s m args meth c cc own nL) {idx : Nat} (v : Int64) (hd : decode cc pc = .ok (.ldc2_w idx, 3)) (hw : Cond.constantLong own idx v ∈ GG) (k : JJ γ p l e R s m args below meth c nL cells slots Q S μ (pc + 3) (lv) (.long v :: st)) : JJ γ p l e R s m args below meth c nL cells slots Q S μ (pc) (lv) (st) :=
  fun H locs ls hW hS hl => lv_ldc2 F.1 F.2.1 F.2.2.2.1 (F.2.2.2.2.1 _ hw) hd (k H locs ls hW hS hl)
theorem j_ldci (F : FX γ p s m args meth c cc own nL) {idx : Nat} (v : Int32) (hd : decode cc pc = .ok (.ldc idx, 2)) (hw : Cond.constant own idx v ∈ GG) (k : JJ γ p l e R s m args below meth c nL cells slots Q S μ (pc + 2) (lv) (.int v :: st)) : JJ γ p l e R s m args below meth c nL cells slots Q S μ (pc) (lv) (st) :=
  fun H locs ls hW hS hl => lv_ldc F.1 F.2.1 F.2.2.2.1 (F.2.2.2.2.1 _ hw) hd (k H locs ls hW hS hl)
theorem j_iload_n (F : FX γ p s m args meth c cc own nL) {k : Fin 4} {x : Int32} (q : Nat) (hd : decode cc pc = .ok (.iload_n k, 1)) (hq : lv[q]? = some ((k : Nat), .int x)) (kk : JJ γ p l e R s m args below meth c nL cells slots Q S μ (pc + 1) (lv) (.int x :: st)) : JJ γ p l e R s m args below meth c nL cells slots Q S μ (pc) (lv) (st) :=
  fun H locs ls hW hS hl => lv_iload_n F.1 F.2.1 hd rfl (lv_at hl q hq) (kk H locs ls hW hS hl)
theorem j_iload (F : FX γ p s m args meth c cc own nL) {i : Nat} {x : Int32} (q : Nat) (hd : decode cc pc = .ok (.iload i, 2)) (hq : lv[q]? = some (i, .int x)) (kk : JJ γ p l e R s m args below meth c nL cells slots Q S μ (pc + 2) (lv) (.int x :: st)) : JJ γ p l e R s m args below meth c nL cells slots Q S μ (pc) (lv) (st) :=
  fun H locs ls hW hS hl => lv_iload F.1 F.2.1 hd (lv_at hl q hq) (kk H locs ls hW hS hl)
theorem j_istore_n (F : FX γ p s m args meth c cc own nL) {k : Fin 4} {i : Nat} {x : Int32} (lv' : List (Nat × Value)) (hd : decode cc pc = .ok (.istore_n k, 1)) (hi : (k : Nat) = i) (hn : i < nL) (hl' : (i, Value.int x) :: lv.filter (fun q => !(q.1 == i) && !(q.1 + 1 == i && q.2.category == 2)) = lv') (kk : JJ γ p l e R s m args below meth c nL cells slots Q S μ (pc + 1) (lv') (st)) : JJ γ p l e R s m args below meth c nL cells slots Q S μ (pc) (lv) (.int x :: st) :=
  fun H locs ls hW hS hl => lv_istore_n F.1 F.2.1 hd hi hl hn hl' (fun ls' hl2 => kk H locs ls' hW hS hl2)
theorem j_istore (F : FX γ p s m args meth c cc own nL) {i : Nat} {x : Int32} (lv' : List (Nat × Value)) (hd : decode cc pc = .ok (.istore i, 2)) (hn : i < nL) (hl' : (i, Value.int x) :: lv.filter (fun q => !(q.1 == i) && !(q.1 + 1 == i && q.2.category == 2)) = lv') (kk : JJ γ p l e R s m args below meth c nL cells slots Q S μ (pc + 2) (lv') (st)) : JJ γ p l e R s m args below meth c nL cells slots Q S μ (pc) (lv) (.int x :: st) :=
  fun H locs ls hW hS hl => lv_istore F.1 F.2.1 hd hl hn hl' (fun ls' hl2 => kk H locs ls' hW hS hl2)
theorem j_lload_n (F : FX γ p s m args meth c cc own nL) {k : Fin 4} {x : Int64} (q : Nat) (hd : decode cc pc = .ok (.lload_n k, 1)) (hq : lv[q]? = some ((k : Nat), .long x)) (kk : JJ γ p l e R s m args below meth c nL cells slots Q S μ (pc + 1) (lv) (.long x :: st)) : JJ γ p l e R s m args below meth c nL cells slots Q S μ (pc) (lv) (st) :=
  fun H locs ls hW hS hl => lv_lload_n F.1 F.2.1 hd rfl (lv_at hl q hq) (kk H locs ls hW hS hl)
theorem j_lload (F : FX γ p s m args meth c cc own nL) {i : Nat} {x : Int64} (q : Nat) (hd : decode cc pc = .ok (.lload i, 2)) (hq : lv[q]? = some (i, .long x)) (kk : JJ γ p l e R s m args below meth c nL cells slots Q S μ (pc + 2) (lv) (.long x :: st)) : JJ γ p l e R s m args below meth c nL cells slots Q S μ (pc) (lv) (st) :=
  fun H locs ls hW hS hl => lv_lload F.1 F.2.1 hd (lv_at hl q hq) (kk H locs ls hW hS hl)
theorem j_lstore_n (F : FX γ p s m args meth c cc own nL) {k : Fin 4} {i : Nat} {x : Int64} (lv' : List (Nat × Value)) (hd : decode cc pc = .ok (.lstore_n k, 1)) (hi : (k : Nat) = i) (hn : i + 1 < nL) (hl' : (i, Value.long x) :: lv.filter (fun q => !(q.1 == i) && (!(q.1 == i + 1) && !(q.1 + 1 == i && q.2.category == 2))) = lv') (kk : JJ γ p l e R s m args below meth c nL cells slots Q S μ (pc + 1) (lv') (st)) : JJ γ p l e R s m args below meth c nL cells slots Q S μ (pc) (lv) (.long x :: st) :=
  fun H locs ls hW hS hl => lv_lstore_n F.1 F.2.1 hd hi hl hn hl' (fun ls' hl2 => kk H locs ls' hW hS hl2)
theorem j_lstore (F : FX γ p s m args meth c cc own nL) {i : Nat} {x : Int64} (lv' : List (Nat × Value)) (hd : decode cc pc = .ok (.lstore i, 2)) (hn : i + 1 < nL) (hl' : (i, Value.long x) :: lv.filter (fun q => !(q.1 == i) && (!(q.1 == i + 1) && !(q.1 + 1 == i && q.2.category == 2))) = lv') (kk : JJ γ p l e R s m args below meth c nL cells slots Q S μ (pc + 2) (lv') (st)) : JJ γ p l e R s m args below meth c nL cells slots Q S μ (pc) (lv) (.long x :: st) :=
  fun H locs ls hW hS hl => lv_lstore F.1 F.2.1 hd hl hn hl' (fun ls' hl2 => kk H locs ls' hW hS hl2)
theorem j_aload_n (F : FX γ p s m args meth c cc own nL) {k : Fin 4} {x : Nat} (q : Nat) (hd : decode cc pc = .ok (.aload_n k, 1)) (hq : lv[q]? = some ((k : Nat), .ref x)) (kk : JJ γ p l e R s m args below meth c nL cells slots Q S μ (pc + 1) (lv) (.ref x :: st)) : JJ γ p l e R s m args below meth c nL cells slots Q S μ (pc) (lv) (st) :=
  fun H locs ls hW hS hl => lv_aload_n F.1 F.2.1 hd rfl (lv_at hl q hq) (kk H locs ls hW hS hl)
theorem j_aload (F : FX γ p s m args meth c cc own nL) {i : Nat} {x : Nat} (q : Nat) (hd : decode cc pc = .ok (.aload i, 2)) (hq : lv[q]? = some (i, .ref x)) (kk : JJ γ p l e R s m args below meth c nL cells slots Q S μ (pc + 2) (lv) (.ref x :: st)) : JJ γ p l e R s m args below meth c nL cells slots Q S μ (pc) (lv) (st) :=
  fun H locs ls hW hS hl => lv_aload F.1 F.2.1 hd (lv_at hl q hq) (kk H locs ls hW hS hl)
theorem j_astore_n (F : FX γ p s m args meth c cc own nL) {k : Fin 4} {i : Nat} {x : Nat} (lv' : List (Nat × Value)) (hd : decode cc pc = .ok (.astore_n k, 1)) (hi : (k : Nat) = i) (hn : i < nL) (hl' : (i, Value.ref x) :: lv.filter (fun q => !(q.1 == i) && !(q.1 + 1 == i && q.2.category == 2)) = lv') (kk : JJ γ p l e R s m args below meth c nL cells slots Q S μ (pc + 1) (lv') (st)) : JJ γ p l e R s m args below meth c nL cells slots Q S μ (pc) (lv) (.ref x :: st) :=
  fun H locs ls hW hS hl => lv_astore_n F.1 F.2.1 hd hi hl hn hl' (fun ls' hl2 => kk H locs ls' hW hS hl2)
theorem j_astore (F : FX γ p s m args meth c cc own nL) {i : Nat} {x : Nat} (lv' : List (Nat × Value)) (hd : decode cc pc = .ok (.astore i, 2)) (hn : i < nL) (hl' : (i, Value.ref x) :: lv.filter (fun q => !(q.1 == i) && !(q.1 + 1 == i && q.2.category == 2)) = lv') (kk : JJ γ p l e R s m args below meth c nL cells slots Q S μ (pc + 2) (lv') (st)) : JJ γ p l e R s m args below meth c nL cells slots Q S μ (pc) (lv) (.ref x :: st) :=
  fun H locs ls hW hS hl => lv_astore F.1 F.2.1 hd hl hn hl' (fun ls' hl2 => kk H locs ls' hW hS hl2)
theorem j_iinc (F : FX γ p s m args meth c cc own nL) {i : Nat} {n : Int} {x : Int32} (v : Int32) (q : Nat) (lv' : List (Nat × Value)) (hd : decode cc pc = .ok (.iinc i n, 3)) (hq : lv[q]? = some (i, .int x)) (hv : Int32.ofInt n = v) (hn : i < nL) (hl' : (i, Value.int (x + v)) :: lv.filter (fun q => !(q.1 == i) && !(q.1 + 1 == i && q.2.category == 2)) = lv') (kk : JJ γ p l e R s m args below meth c nL cells slots Q S μ (pc + 3) (lv') (st)) : JJ γ p l e R s m args below meth c nL cells slots Q S μ (pc) (lv) (st) :=
  fun H locs ls hW hS hl => lv_iinc F.1 F.2.1 hd hl hq (by rw [hv]) hn hl' (fun ls' hl2 => kk H locs ls' hW hS hl2)
theorem j_ifeq (F : FX γ p s m args meth c cc own nL) {x : Int32} {off : Int} (tgt : Nat) {a b : Option ρ} (hd : decode cc pc = .ok (.ifCond .eq off, 3)) (ht : (pc : Int) + off = (tgt : Int)) (h : (if x = 0 then a else b) = some X) (kt : x = 0 → a = some X → JJ γ p l e R s m args below meth c nL cells slots Q S μ (tgt) (lv) (st)) (kf : ¬ (x = 0) → b = some X → JJ γ p l e R s m args below meth c nL cells slots Q S μ (pc + 3) (lv) (st)) : JJ γ p l e R s m args below meth c nL cells slots Q S μ (pc) (lv) (.int x :: st) :=
  fun H locs ls hW hS hl => lv_if_eq F.1 F.2.1 hd ht (fun q => kt q (by rw [if_pos q] at h; exact h) H locs ls hW hS hl) (fun q => kf q (by rw [if_neg q] at h; exact h) H locs ls hW hS hl)
theorem j_icmpeq (F : FX γ p s m args meth c cc own nL) {x y : Int32} {off : Int} (tgt : Nat) {a b : Option ρ} (hd : decode cc pc = .ok (.if_icmp .eq off, 3)) (ht : (pc : Int) + off = (tgt : Int)) (h : (if x = y then a else b) = some X) (kt : x = y → a = some X → JJ γ p l e R s m args below meth c nL cells slots Q S μ (tgt) (lv) (st)) (kf : ¬ (x = y) → b = some X → JJ γ p l e R s m args below meth c nL cells slots Q S μ (pc + 3) (lv) (st)) : JJ γ p l e R s m args below meth c nL cells slots Q S μ (pc) (lv) (.int y :: .int x :: st) :=
  fun H locs ls hW hS hl => lv_icmp_eq F.1 F.2.1 hd ht (fun q => kt q (by rw [if_pos q] at h; exact h) H locs ls hW hS hl) (fun q => kf q (by rw [if_neg q] at h; exact h) H locs ls hW hS hl)
theorem j_iflt (F : FX γ p s m args meth c cc own nL) {x : Int32} {off : Int} (tgt : Nat) {a b : Option ρ} (hd : decode cc pc = .ok (.ifCond .lt off, 3)) (ht : (pc : Int) + off = (tgt : Int)) (h : (if x < 0 then a else b) = some X) (kt : x < 0 → a = some X → JJ γ p l e R s m args below meth c nL cells slots Q S μ (tgt) (lv) (st)) (kf : ¬ (x < 0) → b = some X → JJ γ p l e R s m args below meth c nL cells slots Q S μ (pc + 3) (lv) (st)) : JJ γ p l e R s m args below meth c nL cells slots Q S μ (pc) (lv) (.int x :: st) :=
  fun H locs ls hW hS hl => lv_if_lt F.1 F.2.1 hd ht (fun q => kt q (by rw [if_pos q] at h; exact h) H locs ls hW hS hl) (fun q => kf q (by rw [if_neg q] at h; exact h) H locs ls hW hS hl)
theorem j_icmplt (F : FX γ p s m args meth c cc own nL) {x y : Int32} {off : Int} (tgt : Nat) {a b : Option ρ} (hd : decode cc pc = .ok (.if_icmp .lt off, 3)) (ht : (pc : Int) + off = (tgt : Int)) (h : (if x < y then a else b) = some X) (kt : x < y → a = some X → JJ γ p l e R s m args below meth c nL cells slots Q S μ (tgt) (lv) (st)) (kf : ¬ (x < y) → b = some X → JJ γ p l e R s m args below meth c nL cells slots Q S μ (pc + 3) (lv) (st)) : JJ γ p l e R s m args below meth c nL cells slots Q S μ (pc) (lv) (.int y :: .int x :: st) :=
  fun H locs ls hW hS hl => lv_icmp_lt F.1 F.2.1 hd ht (fun q => kt q (by rw [if_pos q] at h; exact h) H locs ls hW hS hl) (fun q => kf q (by rw [if_neg q] at h; exact h) H locs ls hW hS hl)
theorem j_ifge (F : FX γ p s m args meth c cc own nL) {x : Int32} {off : Int} (tgt : Nat) {a b : Option ρ} (hd : decode cc pc = .ok (.ifCond .ge off, 3)) (ht : (pc : Int) + off = (tgt : Int)) (h : (if 0 ≤ x then a else b) = some X) (kt : 0 ≤ x → a = some X → JJ γ p l e R s m args below meth c nL cells slots Q S μ (tgt) (lv) (st)) (kf : ¬ (0 ≤ x) → b = some X → JJ γ p l e R s m args below meth c nL cells slots Q S μ (pc + 3) (lv) (st)) : JJ γ p l e R s m args below meth c nL cells slots Q S μ (pc) (lv) (.int x :: st) :=
  fun H locs ls hW hS hl => lv_if_ge F.1 F.2.1 hd ht (fun q => kt q (by rw [if_pos q] at h; exact h) H locs ls hW hS hl) (fun q => kf q (by rw [if_neg q] at h; exact h) H locs ls hW hS hl)
theorem j_icmpge (F : FX γ p s m args meth c cc own nL) {x y : Int32} {off : Int} (tgt : Nat) {a b : Option ρ} (hd : decode cc pc = .ok (.if_icmp .ge off, 3)) (ht : (pc : Int) + off = (tgt : Int)) (h : (if y ≤ x then a else b) = some X) (kt : y ≤ x → a = some X → JJ γ p l e R s m args below meth c nL cells slots Q S μ (tgt) (lv) (st)) (kf : ¬ (y ≤ x) → b = some X → JJ γ p l e R s m args below meth c nL cells slots Q S μ (pc + 3) (lv) (st)) : JJ γ p l e R s m args below meth c nL cells slots Q S μ (pc) (lv) (.int y :: .int x :: st) :=
  fun H locs ls hW hS hl => lv_icmp_ge F.1 F.2.1 hd ht (fun q => kt q (by rw [if_pos q] at h; exact h) H locs ls hW hS hl) (fun q => kf q (by rw [if_neg q] at h; exact h) H locs ls hW hS hl)
theorem j_ifgt (F : FX γ p s m args meth c cc own nL) {x : Int32} {off : Int} (tgt : Nat) {a b : Option ρ} (hd : decode cc pc = .ok (.ifCond .gt off, 3)) (ht : (pc : Int) + off = (tgt : Int)) (h : (if 0 < x then a else b) = some X) (kt : 0 < x → a = some X → JJ γ p l e R s m args below meth c nL cells slots Q S μ (tgt) (lv) (st)) (kf : ¬ (0 < x) → b = some X → JJ γ p l e R s m args below meth c nL cells slots Q S μ (pc + 3) (lv) (st)) : JJ γ p l e R s m args below meth c nL cells slots Q S μ (pc) (lv) (.int x :: st) :=
  fun H locs ls hW hS hl => lv_if_gt F.1 F.2.1 hd ht (fun q => kt q (by rw [if_pos q] at h; exact h) H locs ls hW hS hl) (fun q => kf q (by rw [if_neg q] at h; exact h) H locs ls hW hS hl)
theorem j_icmpgt (F : FX γ p s m args meth c cc own nL) {x y : Int32} {off : Int} (tgt : Nat) {a b : Option ρ} (hd : decode cc pc = .ok (.if_icmp .gt off, 3)) (ht : (pc : Int) + off = (tgt : Int)) (h : (if y < x then a else b) = some X) (kt : y < x → a = some X → JJ γ p l e R s m args below meth c nL cells slots Q S μ (tgt) (lv) (st)) (kf : ¬ (y < x) → b = some X → JJ γ p l e R s m args below meth c nL cells slots Q S μ (pc + 3) (lv) (st)) : JJ γ p l e R s m args below meth c nL cells slots Q S μ (pc) (lv) (.int y :: .int x :: st) :=
  fun H locs ls hW hS hl => lv_icmp_gt F.1 F.2.1 hd ht (fun q => kt q (by rw [if_pos q] at h; exact h) H locs ls hW hS hl) (fun q => kf q (by rw [if_neg q] at h; exact h) H locs ls hW hS hl)
theorem j_ifle (F : FX γ p s m args meth c cc own nL) {x : Int32} {off : Int} (tgt : Nat) {a b : Option ρ} (hd : decode cc pc = .ok (.ifCond .le off, 3)) (ht : (pc : Int) + off = (tgt : Int)) (h : (if x ≤ 0 then a else b) = some X) (kt : x ≤ 0 → a = some X → JJ γ p l e R s m args below meth c nL cells slots Q S μ (tgt) (lv) (st)) (kf : ¬ (x ≤ 0) → b = some X → JJ γ p l e R s m args below meth c nL cells slots Q S μ (pc + 3) (lv) (st)) : JJ γ p l e R s m args below meth c nL cells slots Q S μ (pc) (lv) (.int x :: st) :=
  fun H locs ls hW hS hl => lv_if_le F.1 F.2.1 hd ht (fun q => kt q (by rw [if_pos q] at h; exact h) H locs ls hW hS hl) (fun q => kf q (by rw [if_neg q] at h; exact h) H locs ls hW hS hl)
theorem j_icmple (F : FX γ p s m args meth c cc own nL) {x y : Int32} {off : Int} (tgt : Nat) {a b : Option ρ} (hd : decode cc pc = .ok (.if_icmp .le off, 3)) (ht : (pc : Int) + off = (tgt : Int)) (h : (if x ≤ y then a else b) = some X) (kt : x ≤ y → a = some X → JJ γ p l e R s m args below meth c nL cells slots Q S μ (tgt) (lv) (st)) (kf : ¬ (x ≤ y) → b = some X → JJ γ p l e R s m args below meth c nL cells slots Q S μ (pc + 3) (lv) (st)) : JJ γ p l e R s m args below meth c nL cells slots Q S μ (pc) (lv) (.int y :: .int x :: st) :=
  fun H locs ls hW hS hl => lv_icmp_le F.1 F.2.1 hd ht (fun q => kt q (by rw [if_pos q] at h; exact h) H locs ls hW hS hl) (fun q => kf q (by rw [if_neg q] at h; exact h) H locs ls hW hS hl)
theorem j_ifne (F : FX γ p s m args meth c cc own nL) {x : Int32} {off : Int} (tgt : Nat) {a b : Option ρ} (hd : decode cc pc = .ok (.ifCond .ne off, 3)) (ht : (pc : Int) + off = (tgt : Int)) (h : (if x = 0 then a else b) = some X) (kt : ¬ (x = 0) → b = some X → JJ γ p l e R s m args below meth c nL cells slots Q S μ (tgt) (lv) (st)) (kf : x = 0 → a = some X → JJ γ p l e R s m args below meth c nL cells slots Q S μ (pc + 3) (lv) (st)) : JJ γ p l e R s m args below meth c nL cells slots Q S μ (pc) (lv) (.int x :: st) :=
  fun H locs ls hW hS hl => lv_if_ne F.1 F.2.1 hd ht (fun q => kt q (by rw [if_neg q] at h; exact h) H locs ls hW hS hl) (fun q => kf q (by rw [if_pos q] at h; exact h) H locs ls hW hS hl)
theorem j_icmpne (F : FX γ p s m args meth c cc own nL) {x y : Int32} {off : Int} (tgt : Nat) {a b : Option ρ} (hd : decode cc pc = .ok (.if_icmp .ne off, 3)) (ht : (pc : Int) + off = (tgt : Int)) (h : (if x = y then a else b) = some X) (kt : ¬ (x = y) → b = some X → JJ γ p l e R s m args below meth c nL cells slots Q S μ (tgt) (lv) (st)) (kf : x = y → a = some X → JJ γ p l e R s m args below meth c nL cells slots Q S μ (pc + 3) (lv) (st)) : JJ γ p l e R s m args below meth c nL cells slots Q S μ (pc) (lv) (.int y :: .int x :: st) :=
  fun H locs ls hW hS hl => lv_icmp_ne F.1 F.2.1 hd ht (fun q => kt q (by rw [if_neg q] at h; exact h) H locs ls hW hS hl) (fun q => kf q (by rw [if_pos q] at h; exact h) H locs ls hW hS hl)
theorem j_lcmpeq (F : FX γ p s m args meth c cc own nL) {x y : Int64} {off : Int} (tgt : Nat) {a b : Option ρ} (hd : decode cc pc = .ok (.lcmp, 1)) (hd2 : decode cc (pc + 1) = .ok (.ifCond .eq off, 3)) (ht : ((pc + 1 : Nat) : Int) + off = (tgt : Int)) (h : (if x = y then a else b) = some X) (kt : x = y → a = some X → JJ γ p l e R s m args below meth c nL cells slots Q S μ (tgt) (lv) (st)) (kf : ¬ (x = y) → b = some X → JJ γ p l e R s m args below meth c nL cells slots Q S μ (pc + 1 + 3) (lv) (st)) : JJ γ p l e R s m args below meth c nL cells slots Q S μ (pc) (lv) (.long y :: .long x :: st) :=
  fun H locs ls hW hS hl => W.lcmp F.1 F.2.1 hd (lv_if_eq F.1 F.2.1 hd2 ht (fun q => kt (lc_eq.mp q) (by rw [if_pos (lc_eq.mp q)] at h; exact h) H locs ls hW hS hl) (fun q => kf (fun z => q (lc_eq.mpr z)) (by rw [if_neg (fun z => q (lc_eq.mpr z))] at h; exact h) H locs ls hW hS hl))
theorem j_lcmplt (F : FX γ p s m args meth c cc own nL) {x y : Int64} {off : Int} (tgt : Nat) {a b : Option ρ} (hd : decode cc pc = .ok (.lcmp, 1)) (hd2 : decode cc (pc + 1) = .ok (.ifCond .lt off, 3)) (ht : ((pc + 1 : Nat) : Int) + off = (tgt : Int)) (h : (if x < y then a else b) = some X) (kt : x < y → a = some X → JJ γ p l e R s m args below meth c nL cells slots Q S μ (tgt) (lv) (st)) (kf : ¬ (x < y) → b = some X → JJ γ p l e R s m args below meth c nL cells slots Q S μ (pc + 1 + 3) (lv) (st)) : JJ γ p l e R s m args below meth c nL cells slots Q S μ (pc) (lv) (.long y :: .long x :: st) :=
  fun H locs ls hW hS hl => W.lcmp F.1 F.2.1 hd (lv_if_lt F.1 F.2.1 hd2 ht (fun q => kt (lc_lt.mp q) (by rw [if_pos (lc_lt.mp q)] at h; exact h) H locs ls hW hS hl) (fun q => kf (fun z => q (lc_lt.mpr z)) (by rw [if_neg (fun z => q (lc_lt.mpr z))] at h; exact h) H locs ls hW hS hl))
theorem j_lcmpge (F : FX γ p s m args meth c cc own nL) {x y : Int64} {off : Int} (tgt : Nat) {a b : Option ρ} (hd : decode cc pc = .ok (.lcmp, 1)) (hd2 : decode cc (pc + 1) = .ok (.ifCond .ge off, 3)) (ht : ((pc + 1 : Nat) : Int) + off = (tgt : Int)) (h : (if y ≤ x then a else b) = some X) (kt : y ≤ x → a = some X → JJ γ p l e R s m args below meth c nL cells slots Q S μ (tgt) (lv) (st)) (kf : ¬ (y ≤ x) → b = some X → JJ γ p l e R s m args below meth c nL cells slots Q S μ (pc + 1 + 3) (lv) (st)) : JJ γ p l e R s m args below meth c nL cells slots Q S μ (pc) (lv) (.long y :: .long x :: st) :=
  fun H locs ls hW hS hl => W.lcmp F.1 F.2.1 hd (lv_if_ge F.1 F.2.1 hd2 ht (fun q => kt (lc_ge.mp q) (by rw [if_pos (lc_ge.mp q)] at h; exact h) H locs ls hW hS hl) (fun q => kf (fun z => q (lc_ge.mpr z)) (by rw [if_neg (fun z => q (lc_ge.mpr z))] at h; exact h) H locs ls hW hS hl))
theorem j_lcmpgt (F : FX γ p s m args meth c cc own nL) {x y : Int64} {off : Int} (tgt : Nat) {a b : Option ρ} (hd : decode cc pc = .ok (.lcmp, 1)) (hd2 : decode cc (pc + 1) = .ok (.ifCond .gt off, 3)) (ht : ((pc + 1 : Nat) : Int) + off = (tgt : Int)) (h : (if y < x then a else b) = some X) (kt : y < x → a = some X → JJ γ p l e R s m args below meth c nL cells slots Q S μ (tgt) (lv) (st)) (kf : ¬ (y < x) → b = some X → JJ γ p l e R s m args below meth c nL cells slots Q S μ (pc + 1 + 3) (lv) (st)) : JJ γ p l e R s m args below meth c nL cells slots Q S μ (pc) (lv) (.long y :: .long x :: st) :=
  fun H locs ls hW hS hl => W.lcmp F.1 F.2.1 hd (lv_if_gt F.1 F.2.1 hd2 ht (fun q => kt (lc_gt.mp q) (by rw [if_pos (lc_gt.mp q)] at h; exact h) H locs ls hW hS hl) (fun q => kf (fun z => q (lc_gt.mpr z)) (by rw [if_neg (fun z => q (lc_gt.mpr z))] at h; exact h) H locs ls hW hS hl))
theorem j_lcmple (F : FX γ p s m args meth c cc own nL) {x y : Int64} {off : Int} (tgt : Nat) {a b : Option ρ} (hd : decode cc pc = .ok (.lcmp, 1)) (hd2 : decode cc (pc + 1) = .ok (.ifCond .le off, 3)) (ht : ((pc + 1 : Nat) : Int) + off = (tgt : Int)) (h : (if x ≤ y then a else b) = some X) (kt : x ≤ y → a = some X → JJ γ p l e R s m args below meth c nL cells slots Q S μ (tgt) (lv) (st)) (kf : ¬ (x ≤ y) → b = some X → JJ γ p l e R s m args below meth c nL cells slots Q S μ (pc + 1 + 3) (lv) (st)) : JJ γ p l e R s m args below meth c nL cells slots Q S μ (pc) (lv) (.long y :: .long x :: st) :=
  fun H locs ls hW hS hl => W.lcmp F.1 F.2.1 hd (lv_if_le F.1 F.2.1 hd2 ht (fun q => kt (lc_le.mp q) (by rw [if_pos (lc_le.mp q)] at h; exact h) H locs ls hW hS hl) (fun q => kf (fun z => q (lc_le.mpr z)) (by rw [if_neg (fun z => q (lc_le.mpr z))] at h; exact h) H locs ls hW hS hl))
theorem j_lcmpne (F : FX γ p s m args meth c cc own nL) {x y : Int64} {off : Int} (tgt : Nat) {a b : Option ρ} (hd : decode cc pc = .ok (.lcmp, 1)) (hd2 : decode cc (pc + 1) = .ok (.ifCond .ne off, 3)) (ht : ((pc + 1 : Nat) : Int) + off = (tgt : Int)) (h : (if x = y then a else b) = some X) (kt : ¬ (x = y) → b = some X → JJ γ p l e R s m args below meth c nL cells slots Q S μ (tgt) (lv) (st)) (kf : x = y → a = some X → JJ γ p l e R s m args below meth c nL cells slots Q S μ (pc + 1 + 3) (lv) (st)) : JJ γ p l e R s m args below meth c nL cells slots Q S μ (pc) (lv) (.long y :: .long x :: st) :=
  fun H locs ls hW hS hl => W.lcmp F.1 F.2.1 hd (lv_if_ne F.1 F.2.1 hd2 ht (fun q => kt (fun z => q (lc_eq.mpr z)) (by rw [if_neg (fun z => q (lc_eq.mpr z))] at h; exact h) H locs ls hW hS hl) (fun q => kf (lc_eq.mp q) (by rw [if_pos (lc_eq.mp q)] at h; exact h) H locs ls hW hS hl))
theorem j_goto (F : FX γ p s m args meth c cc own nL) {off : Int} (tgt : Nat) (hd : decode cc pc = .ok (.goto off, 3)) (ht : (pc : Int) + off = (tgt : Int)) (k : JJ γ p l e R s m args below meth c nL cells slots Q S μ (tgt) (lv) (st)) : JJ γ p l e R s m args below meth c nL cells slots Q S μ (pc) (lv) (st) :=
  fun H locs ls hW hS hl => lv_goto F.1 F.2.1 hd ht (k H locs ls hW hS hl)
theorem j_idiv (F : FX γ p s m args meth c cc own nL) {x y : Int32} {K : Int32 → Option ρ} (hd : decode cc pc = .ok (.idiv, 1)) (h : (o_idiv x y).bind K = some X) (k : ∀ v, K v = some X → JJ γ p l e R s m args below meth c nL cells slots Q S μ (pc + 1) (lv) (.int v :: st)) : JJ γ p l e R s m args below meth c nL cells slots Q S μ (pc) (lv) (.int y :: .int x :: st) := by
  obtain ⟨v, hv, h⟩ := bd_some h
  unfold o_idiv at hv
  split at hv
  · cases hv
  · cases hv
    exact fun H locs ls hW hS hl => lv_idiv F.1 F.2.1 hd (by assumption) (k _ h H locs ls hW hS hl)
theorem j_idivc (F : FX γ p s m args meth c cc own nL) {x y : Int32} (hd : decode cc pc = .ok (.idiv, 1)) (hy : ¬ y = 0) (k : JJ γ p l e R s m args below meth c nL cells slots Q S μ (pc + 1) (lv) (.int (x / y) :: st)) : JJ γ p l e R s m args below meth c nL cells slots Q S μ (pc) (lv) (.int y :: .int x :: st) :=
  fun H locs ls hW hS hl => lv_idiv F.1 F.2.1 hd hy (k H locs ls hW hS hl)
theorem j_irem (F : FX γ p s m args meth c cc own nL) {x y : Int32} {K : Int32 → Option ρ} (hd : decode cc pc = .ok (.irem, 1)) (h : (o_irem x y).bind K = some X) (k : ∀ v, K v = some X → JJ γ p l e R s m args below meth c nL cells slots Q S μ (pc + 1) (lv) (.int v :: st)) : JJ γ p l e R s m args below meth c nL cells slots Q S μ (pc) (lv) (.int y :: .int x :: st) := by
  obtain ⟨v, hv, h⟩ := bd_some h
  unfold o_irem at hv
  split at hv
  · cases hv
  · cases hv
    exact fun H locs ls hW hS hl => lv_irem F.1 F.2.1 hd (by assumption) (k _ h H locs ls hW hS hl)
theorem j_iremc (F : FX γ p s m args meth c cc own nL) {x y : Int32} (hd : decode cc pc = .ok (.irem, 1)) (hy : ¬ y = 0) (k : JJ γ p l e R s m args below meth c nL cells slots Q S μ (pc + 1) (lv) (.int (x - x / y * y) :: st)) : JJ γ p l e R s m args below meth c nL cells slots Q S μ (pc) (lv) (.int y :: .int x :: st) :=
  fun H locs ls hW hS hl => lv_irem F.1 F.2.1 hd hy (k H locs ls hW hS hl)
theorem j_ldiv (F : FX γ p s m args meth c cc own nL) {x y : Int64} {K : Int64 → Option ρ} (hd : decode cc pc = .ok (.ldiv, 1)) (h : (o_ldiv x y).bind K = some X) (k : ∀ v, K v = some X → JJ γ p l e R s m args below meth c nL cells slots Q S μ (pc + 1) (lv) (.long v :: st)) : JJ γ p l e R s m args below meth c nL cells slots Q S μ (pc) (lv) (.long y :: .long x :: st) := by
  obtain ⟨v, hv, h⟩ := bd_some h
  unfold o_ldiv at hv
  split at hv
  · cases hv
  · cases hv
    exact fun H locs ls hW hS hl => lv_ldiv F.1 F.2.1 hd (by assumption) (k _ h H locs ls hW hS hl)
theorem j_ldivc (F : FX γ p s m args meth c cc own nL) {x y : Int64} (hd : decode cc pc = .ok (.ldiv, 1)) (hy : ¬ y = 0) (k : JJ γ p l e R s m args below meth c nL cells slots Q S μ (pc + 1) (lv) (.long (x / y) :: st)) : JJ γ p l e R s m args below meth c nL cells slots Q S μ (pc) (lv) (.long y :: .long x :: st) :=
  fun H locs ls hW hS hl => lv_ldiv F.1 F.2.1 hd hy (k H locs ls hW hS hl)
theorem j_lrem (F : FX γ p s m args meth c cc own nL) {x y : Int64} {K : Int64 → Option ρ} (hd : decode cc pc = .ok (.lrem, 1)) (h : (o_lrem x y).bind K = some X) (k : ∀ v, K v = some X → JJ γ p l e R s m args below meth c nL cells slots Q S μ (pc + 1) (lv) (.long v :: st)) : JJ γ p l e R s m args below meth c nL cells slots Q S μ (pc) (lv) (.long y :: .long x :: st) := by
  obtain ⟨v, hv, h⟩ := bd_some h
  unfold o_lrem at hv
  split at hv
  · cases hv
  · cases hv
    exact fun H locs ls hW hS hl => lv_lrem F.1 F.2.1 hd (by assumption) (k _ h H locs ls hW hS hl)
theorem j_lremc (F : FX γ p s m args meth c cc own nL) {x y : Int64} (hd : decode cc pc = .ok (.lrem, 1)) (hy : ¬ y = 0) (k : JJ γ p l e R s m args below meth c nL cells slots Q S μ (pc + 1) (lv) (.long (x - x / y * y) :: st)) : JJ γ p l e R s m args below meth c nL cells slots Q S μ (pc) (lv) (.long y :: .long x :: st) :=
  fun H locs ls hW hS hl => lv_lrem F.1 F.2.1 hd hy (k H locs ls hW hS hl)
theorem ofB {x : Int32} {n : Nat} {ρ : Type} {a : ρ} {X : ρ} (h : (if inb x n = true then some a else none) = some X) : inb x n = true ∧ a = X := by
  by_cases hi : inb x n = true
  · rw [if_pos hi] at h; exact ⟨hi, Option.some.inj h⟩
  · rw [if_neg hi] at h; cases h
theorem j_gI (F : FX γ p s m args meth c cc own nL) {idx ci o j : Nat} {K : Int32 → Option ρ} (hf : FL own idx ci j) (ht : kI (tyf ci j) = true) (hd : decode cc pc = .ok (.getfield idx, 3)) (h : (gI S ci o j μ).bind K = some X) (k : ∀ v, K v = some X → JJ γ p l e R s m args below meth c nL cells slots Q S μ (pc + 3) lv (.int v :: st)) : JJ γ p l e R s m args below meth c nL cells slots Q S μ pc lv (.ref (gb γ + o) :: st) := by
  obtain ⟨v, hv, h⟩ := bd_some h
  unfold gI at hv
  by_cases hi : isO S ci o = true
  · rw [if_pos hi] at hv
    cases hv
    obtain ⟨ho, rs, hs⟩ := isO_spec hi
    obtain ⟨C, T, N, ⟨c1, c2, c3, c4, c5⟩, hj, hw, hC⟩ := hf
    intro H locs ls hW hS hl
    refine va_get (D := gD γ) (ci := ci) (v := .int (μ.1 o j)) (C := C) (T := T) (N := N) F.1 F.2.1 F.2.2.2.2.1 c3 F.2.2.2.1 F.2.2.2.2.2.1.1 (hW.ob ho hs) 0 rfl c1 j hj (F.2.2.2.2.1 _ hw) (by rw [hC]; exact fun _ h9 => h9) ?_ hd (k _ h H locs ls hW hS hl)
    rw [fvl_get (by rw [c2]; exact hj), fvl_I ht]
  · rw [if_neg hi] at hv; cases hv
theorem j_gL (F : FX γ p s m args meth c cc own nL) {idx ci o j : Nat} {K : Int64 → Option ρ} (hf : FL own idx ci j) (ht : tyf ci j = .long) (hd : decode cc pc = .ok (.getfield idx, 3)) (h : (gL S ci o j μ).bind K = some X) (k : ∀ v, K v = some X → JJ γ p l e R s m args below meth c nL cells slots Q S μ (pc + 3) lv (.long v :: st)) : JJ γ p l e R s m args below meth c nL cells slots Q S μ pc lv (.ref (gb γ + o) :: st) := by
  obtain ⟨v, hv, h⟩ := bd_some h
  unfold gL at hv
  by_cases hi : isO S ci o = true
  · rw [if_pos hi] at hv
    cases hv
    obtain ⟨ho, rs, hs⟩ := isO_spec hi
    obtain ⟨C, T, N, ⟨c1, c2, c3, c4, c5⟩, hj, hw, hC⟩ := hf
    intro H locs ls hW hS hl
    refine va_get (D := gD γ) (ci := ci) (v := .long (μ.2 o j)) (C := C) (T := T) (N := N) F.1 F.2.1 F.2.2.2.2.1 c3 F.2.2.2.1 F.2.2.2.2.2.1.1 (hW.ob ho hs) 0 rfl c1 j hj (F.2.2.2.2.1 _ hw) (by rw [hC]; exact fun _ h9 => h9) ?_ hd (k _ h H locs ls hW hS hl)
    rw [fvl_get (by rw [c2]; exact hj), fvl_L ht]
  · rw [if_neg hi] at hv; cases hv
theorem j_gR (F : FX γ p s m args meth c cc own nL) {idx ci o j : Nat} {K : Nat → Option ρ} (hf : FL own idx ci j) (ht : kR (tyf ci j) = true) (hd : decode cc pc = .ok (.getfield idx, 3)) (h : (gR S ci o j).bind K = some X) (k : ∀ v, K v = some X → JJ γ p l e R s m args below meth c nL cells slots Q S μ (pc + 3) lv (.ref (gb γ + v) :: st)) : JJ γ p l e R s m args below meth c nL cells slots Q S μ pc lv (.ref (gb γ + o) :: st) := by
  obtain ⟨v, hv, h⟩ := bd_some h
  obtain ⟨ho, rs, hs, hr⟩ := gR_spec hv
  obtain ⟨C, T, N, ⟨c1, c2, c3, c4, c5⟩, hj, hw, hC⟩ := hf
  intro H locs ls hW hS hl
  refine va_get (D := gD γ) (ci := ci) (v := .ref (gb γ + v)) (C := C) (T := T) (N := N) F.1 F.2.1 F.2.2.2.2.1 c3 F.2.2.2.1 F.2.2.2.2.2.1.1 (hW.ob ho hs) 0 rfl c1 j hj (F.2.2.2.2.1 _ hw) (by rw [hC]; exact fun _ h9 => h9) ?_ hd (k _ h H locs ls hW hS hl)
  rw [fvl_get (by rw [c2]; exact hj), fvl_R ht, hr]
  rfl
/-- a field is written: any value that fits, the memory changes at o alone -/
theorem j_put (F : FX γ p s m args meth c cc own nL) {idx ci o j : Nat} {v : Value} {μ' : Mem} {ty : FieldType} (hf : FW own idx ci j) (hty : tyf ci j = ty) (hn : narrow ty v = v) (hfit : fits ty v = true) (hi : isO S ci o = true) (hd : decode cc pc = .ok (.putfield idx, 3)) (hm : ∀ k, k ≠ o → μ'.1 k = μ.1 k ∧ μ'.2 k = μ.2 k) (hv : ∀ rs i, fvl γ μ' o ci rs i = if i = j then v else fvl γ μ o ci rs i)
    (k : JJ γ p l e R s m args below meth c nL cells slots Q S μ' (pc + 3) lv st) : JJ γ p l e R s m args below meth c nL cells slots Q S μ pc lv (v :: .ref (gb γ + o) :: st) := by
  obtain ⟨ho, rs, hs⟩ := isO_spec hi
  obtain ⟨C, T, N, ⟨c1, c2, c3, c4, c5⟩, hj, hw, hC, hfin⟩ := hf
  intro H locs ls hW hS hl
  have hK := F.2.2.2.2.2.1.1
  have hts := F.2.2.2.2.1
  have hap := va_apart (own := own) hts c3 (tyf ci) c4 c5 hK c1
  obtain ⟨r, h1, cell, q1, q2, q3, q4⟩ := hW.ob ho hs 0 _ rfl
  have hr : r = (C, T, N) := Option.some.inj (h1.symm.trans c1)
  subst hr
  obtain ⟨hSl, hfc, kC, hkC, hkind⟩ := hK.1 ci _ c1
  obtain ⟨cf, kf, fi, f, hif, hsl⟩ := hSl j hj
  have hlay := hts _ (c3 _ (u_in_lay hj))
  unfold u_lay at hlay
  rw [if_neg (by rw [hfin]; decide)] at hlay
  have hst := (u_facts hfc hkC (u_lays hts c3 hj) hif).1
  have h6 := u_store hfc hkC hkind hlay hif (by rw [c4 j hj, hty]) hn hfit
  refine W.putK F.1 F.2.1 (f := f) ⟨F.2.2.2.1, hts _ hw, ⟨_, _, _, by rw [hC] at hif; exact hif⟩, hst⟩ (by rw [q2]; exact h6) q1 q3 (by rw [hsl]; exact k2_hasslot (q4 j hj)) rfl rfl hd fun H' e1 e2 e3 => ?_
  rw [hsl] at e1 ⊢
  refine k H' _ ls (hW.set e2 e3 ?_ hm) (hS.put e2 e3 (Nat.le_add_right _ _)) hl
  rw [hs]
  refine ⟨_, c1, t_OB.to (V := updV (vp_V ((List.range (nf ci)).map (fvl γ μ o ci rs))) j v) ⟨_, e1, q2, q3, t_set q4 hap hj v⟩ (fun i hi => ?_)⟩
  have hi' : i < nf ci := by rw [c2]; exact hi
  show updV (vp_V ((List.range (nf ci)).map (fvl γ μ o ci rs))) j v i = vp_V ((List.range (nf ci)).map (fvl γ μ' o ci rs)) i
  have e : ∀ ν : Mem, vp_V ((List.range (nf ci)).map (fvl γ ν o ci rs)) i = fvl γ ν o ci rs i := fun ν => by
    unfold vp_V
    rw [List.getD_eq_getElem?_getD, fvl_get hi']; rfl
  rw [e μ', hv rs i]
  unfold updV
  by_cases q : i = j
  · rw [if_pos q, if_pos q]
  · rw [if_neg q, if_neg q, e μ]
theorem upI_off {μ : Mem} {o j : Nat} {v : Int32} : ∀ k, k ≠ o → (upI μ o j v).1 k = μ.1 k ∧ (upI μ o j v).2 k = μ.2 k := fun k hk => ⟨by funext i; simp [upI, hk], rfl⟩
theorem upL_off {μ : Mem} {o j : Nat} {v : Int64} : ∀ k, k ≠ o → (upL μ o j v).1 k = μ.1 k ∧ (upL μ o j v).2 k = μ.2 k := fun k hk => ⟨rfl, by funext i; simp [upL, hk]⟩
theorem fvl_upI {μ : Mem} {o j ci : Nat} {v : Int32} (ht : kI (tyf ci j) = true) (rs : Nat → Option Nat) (i : Nat) : fvl γ (upI μ o j v) o ci rs i = if i = j then .int v else fvl γ μ o ci rs i := by
  by_cases q : i = j
  · subst q
    rw [if_pos rfl, fvl_I ht]
    simp [upI]
  · rw [if_neg q]
    unfold fvl
    have e : (upI μ o j v).1 o i = μ.1 o i := by simp [upI, q]
    rw [e]
    rfl
theorem fvl_upL {μ : Mem} {o j ci : Nat} {v : Int64} (ht : tyf ci j = .long) (rs : Nat → Option Nat) (i : Nat) : fvl γ (upL μ o j v) o ci rs i = if i = j then .long v else fvl γ μ o ci rs i := by
  by_cases q : i = j
  · subst q
    rw [if_pos rfl, fvl_L ht]
    simp [upL]
  · rw [if_neg q]
    unfold fvl
    have e : (upL μ o j v).2 o i = μ.2 o i := by simp [upL, q]
    rw [e]
    rfl
theorem j_pI (F : FX γ p s m args meth c cc own nL) {idx ci o j : Nat} {v : Int32} {K : Mem → Option ρ} (hf : FW own idx ci j) (ht : tyf ci j = .int) (hd : decode cc pc = .ok (.putfield idx, 3)) (h : (pI S ci o j v μ).bind K = some X) (k : ∀ ν, K ν = some X → JJ γ p l e R s m args below meth c nL cells slots Q S ν (pc + 3) lv st) : JJ γ p l e R s m args below meth c nL cells slots Q S μ pc lv (.int v :: .ref (gb γ + o) :: st) := by
  obtain ⟨ν, hv, h⟩ := bd_some h
  unfold pI at hv
  by_cases hi : isO S ci o = true
  · rw [if_pos hi] at hv
    cases hv
    exact j_put F hf ht rfl rfl hi hd upI_off (fun rs i => fvl_upI (by rw [ht]; rfl) rs i) (k _ h)
  · rw [if_neg hi] at hv; cases hv
theorem j_pZ (F : FX γ p s m args meth c cc own nL) {idx ci o j : Nat} {v : Int32} {K : Mem → Option ρ} (hf : FW own idx ci j) (ht : tyf ci j = .boolean) (hd : decode cc pc = .ok (.putfield idx, 3)) (h : (pZ S ci o j v μ).bind K = some X) (k : ∀ ν, K ν = some X → JJ γ p l e R s m args below meth c nL cells slots Q S ν (pc + 3) lv st) : JJ γ p l e R s m args below meth c nL cells slots Q S μ pc lv (.int v :: .ref (gb γ + o) :: st) := by
  obtain ⟨ν, hv, h⟩ := bd_some h
  unfold pZ at hv
  by_cases hi : isO S ci o = true ∧ (v = 0 ∨ v = 1)
  · rw [if_pos hi] at hv
    cases hv
    refine j_put F hf ht ?_ ?_ hi.1 hd upI_off (fun rs i => fvl_upI (by rw [ht]; rfl) rs i) (k _ h)
    · rcases hi.2 with q | q <;> subst q <;> rfl
    · rcases hi.2 with q | q <;> subst q <;> rfl
  · rw [if_neg hi] at hv; cases hv
theorem j_pL (F : FX γ p s m args meth c cc own nL) {idx ci o j : Nat} {v : Int64} {K : Mem → Option ρ} (hf : FW own idx ci j) (ht : tyf ci j = .long) (hd : decode cc pc = .ok (.putfield idx, 3)) (h : (pL S ci o j v μ).bind K = some X) (k : ∀ ν, K ν = some X → JJ γ p l e R s m args below meth c nL cells slots Q S ν (pc + 3) lv st) : JJ γ p l e R s m args below meth c nL cells slots Q S μ pc lv (.long v :: .ref (gb γ + o) :: st) := by
  obtain ⟨ν, hv, h⟩ := bd_some h
  unfold pL at hv
  by_cases hi : isO S ci o = true
  · rw [if_pos hi] at hv
    cases hv
    exact j_put F hf ht rfl rfl hi hd upL_off (fun rs i => fvl_upL ht rs i) (k _ h)
  · rw [if_neg hi] at hv; cases hv
/-! arrays -/
theorem j_iald (F : FX γ p s m args meth c cc own nL) {o : Nat} {i : Int32} {K : Int32 → Option ρ} (hd : decode cc pc = .ok (.iaload, 1)) (h : (aI S .int o i μ).bind K = some X) (k : ∀ v, K v = some X → JJ γ p l e R s m args below meth c nL cells slots Q S μ (pc + 1) lv (.int v :: st)) : JJ γ p l e R s m args below meth c nL cells slots Q S μ pc lv (.int i :: .ref (gb γ + o) :: st) := by
  obtain ⟨v, hv, h⟩ := bd_some h
  obtain ⟨n, hn, hv⟩ := bd_some hv
  obtain ⟨hi, rfl⟩ := ofB hv
  obtain ⟨ho, rs, hs⟩ := isA_spec hn
  intro H locs ls hW hS hl
  have hP := hW.ar ho hs
  rw [celA_I rfl] at hP
  exact va_iald F.1 F.2.1 F.2.2.2.2.2.1.1 hP 0 0 rfl rfl (inb_in hi) hd (k _ h H locs ls hW hS hl)
theorem j_bald (F : FX γ p s m args meth c cc own nL) {o : Nat} {i : Int32} {K : Int32 → Option ρ} (hd : decode cc pc = .ok (.baload, 1)) (h : (aI S .byte o i μ).bind K = some X) (k : ∀ v, K v = some X → JJ γ p l e R s m args below meth c nL cells slots Q S μ (pc + 1) lv (.int v :: st)) : JJ γ p l e R s m args below meth c nL cells slots Q S μ pc lv (.int i :: .ref (gb γ + o) :: st) := by
  obtain ⟨v, hv, h⟩ := bd_some h
  obtain ⟨n, hn, hv⟩ := bd_some hv
  obtain ⟨hi, rfl⟩ := ofB hv
  obtain ⟨ho, rs, hs⟩ := isA_spec hn
  intro H locs ls hW hS hl
  have hP := hW.ar ho hs
  rw [celA_I rfl] at hP
  exact va_bald F.1 F.2.1 F.2.2.2.2.2.1.1 hP 0 2 rfl rfl (inb_in hi) hd (k _ h H locs ls hW hS hl)
theorem j_zald (F : FX γ p s m args meth c cc own nL) {o : Nat} {i : Int32} {K : Int32 → Option ρ} (hd : decode cc pc = .ok (.baload, 1)) (h : (aI S .boolean o i μ).bind K = some X) (k : ∀ v, K v = some X → JJ γ p l e R s m args below meth c nL cells slots Q S μ (pc + 1) lv (.int v :: st)) : JJ γ p l e R s m args below meth c nL cells slots Q S μ pc lv (.int i :: .ref (gb γ + o) :: st) := by
  obtain ⟨v, hv, h⟩ := bd_some h
  obtain ⟨n, hn, hv⟩ := bd_some hv
  obtain ⟨hi, rfl⟩ := ofB hv
  obtain ⟨ho, rs, hs⟩ := isA_spec hn
  intro H locs ls hW hS hl
  have hP := hW.ar ho hs
  rw [celA_I rfl] at hP
  exact va_zald F.1 F.2.1 F.2.2.2.2.2.1.1 hP 0 3 rfl rfl (inb_in hi) hd (k _ h H locs ls hW hS hl)
theorem j_lald (F : FX γ p s m args meth c cc own nL) {o : Nat} {i : Int32} {K : Int64 → Option ρ} (hd : decode cc pc = .ok (.laload, 1)) (h : (aL S o i μ).bind K = some X) (k : ∀ v, K v = some X → JJ γ p l e R s m args below meth c nL cells slots Q S μ (pc + 1) lv (.long v :: st)) : JJ γ p l e R s m args below meth c nL cells slots Q S μ pc lv (.int i :: .ref (gb γ + o) :: st) := by
  obtain ⟨v, hv, h⟩ := bd_some h
  obtain ⟨n, hn, hv⟩ := bd_some hv
  obtain ⟨hi, rfl⟩ := ofB hv
  obtain ⟨ho, rs, hs⟩ := isA_spec hn
  intro H locs ls hW hS hl
  have hP := hW.ar ho hs
  exact va_lald F.1 F.2.1 F.2.2.2.2.2.1.1 hP 0 1 rfl rfl (inb_in hi) hd (k _ h H locs ls hW hS hl)
theorem j_aald (F : FX γ p s m args meth c cc own nL) {o : Nat} {i : Int32} {ty : FieldType} (t0 : Nat) {K : Nat → Option ρ} (hty : kR ty = true) (hr : ty.isReference = true) (ht : (tysG γ)[t0]? = some (gA γ ty, ty)) (hd : decode cc pc = .ok (.aaload, 1)) (h : (aR S ty o i).bind K = some X) (k : ∀ v, K v = some X → JJ γ p l e R s m args below meth c nL cells slots Q S μ (pc + 1) lv (.ref (gb γ + v) :: st)) : JJ γ p l e R s m args below meth c nL cells slots Q S μ pc lv (.int i :: .ref (gb γ + o) :: st) := by
  obtain ⟨v, hv, h⟩ := bd_some h
  obtain ⟨ho, n, rs, hs, hi, hrs⟩ := aR_spec hv
  intro H locs ls hW hS hl
  have hP := hW.ar ho hs
  rw [celA_R hty] at hP
  have hin := inb_in hi
  have hlt : i.toNatClampNeg < n := Nat.not_le.mp fun q => hin (Or.inr q)
  have hK := F.2.2.2.2.2.1.1
  exact W.aald (v := .ref (gb γ + v)) (ty := ty) F.1 F.2.1 (hP 0 _ rfl) ((hK.2 t0 _ ht).1 n (fun j => va_rf ((rs j).map (gb γ + ·)))) hr (fun q => by cases q) (by show ¬ (i < 0 ∨ (arrV _ _ _).slots.size ≤ _); rw [arrV_size]; exact hin) (by show (arrV _ _ _).slots[_]? = _; rw [arrV_read _ _ hlt]; show some (va_rf ((rs i.toNatClampNeg).map (gb γ + ·))) = _; rw [hrs]; rfl) rfl rfl hd (k _ h H locs ls hW hS hl)
theorem j_alen (F : FX γ p s m args meth c cc own nL) {o : Nat} {ty : FieldType} (t0 : Nat) {K : Int32 → Option ρ} (ht : (tysG γ)[t0]? = some (gA γ ty, ty)) (hd : decode cc pc = .ok (.arraylength, 1)) (h : (aN S ty o).bind K = some X) (k : ∀ v, K v = some X → JJ γ p l e R s m args below meth c nL cells slots Q S μ (pc + 1) lv (.int v :: st)) : JJ γ p l e R s m args below meth c nL cells slots Q S μ pc lv (.ref (gb γ + o) :: st) := by
  obtain ⟨v, hv, h⟩ := bd_some h
  unfold aN at hv
  cases hA : isA S ty o with
  | none => rw [hA] at hv; cases hv
  | some n =>
    rw [hA] at hv
    cases hv
    obtain ⟨ho, rs, hs⟩ := isA_spec hA
    intro H locs ls hW hS hl
    have hP := hW.ar ho hs
    refine va_alen F.1 F.2.1 F.2.2.2.2.2.1.1 hP 0 t0 rfl ht (v := Int32.ofNat n) ?_ hd (k _ h H locs ls hW hS hl)
    unfold celA; cases ty <;> rfl
/-- an int-like array's place is written -/
theorem j_ast {o n : Nat} {ty : FieldType} {rs : Nat → Option Nat} {i v : Int32} (hty : kI ty = true) (ho : o < S.1) (hs : S.2 o = .inr (ty, n, rs)) {H H1 : Heap} (hW : Wd γ S μ H) (e : H1[gb γ + o]? = some ((vp_cell (gA γ ty) (n, .inl (μ.1 o))).setSlot i.toNatClampNeg (.int v))) (z : H1.size = H.size) (oq : ∀ q, q ≠ gb γ + o → H1[q]? = H[q]?) : Wd γ S (upI μ o i.toNatClampNeg v) H1 := by
  refine hW.set z oq ?_ upI_off
  rw [hs]
  show H1[gb γ + o]? = some (vp_cell (gA γ ty) (celA γ (upI μ o i.toNatClampNeg v) o ty n rs))
  rw [celA_I hty, e, vp_cell_i, vp_cell_i, arrV_store]
  congr 2
  funext q
  by_cases hq : q = i.toNatClampNeg
  · simp [updV, upI, hq]
  · simp [updV, upI, hq]
theorem j_iast (F : FX γ p s m args meth c cc own nL) {o : Nat} {i v : Int32} {K : Mem → Option ρ} (hd : decode cc pc = .ok (.iastore, 1)) (h : (sI S o i v μ).bind K = some X) (k : ∀ ν, K ν = some X → JJ γ p l e R s m args below meth c nL cells slots Q S ν (pc + 1) lv st) : JJ γ p l e R s m args below meth c nL cells slots Q S μ pc lv (.int v :: .int i :: .ref (gb γ + o) :: st) := by
  obtain ⟨ν, hv, h⟩ := bd_some h
  obtain ⟨n, hn, hv⟩ := bd_some hv
  obtain ⟨hi, rfl⟩ := ofB hv
  obtain ⟨ho, rs, hs⟩ := isA_spec hn
  intro H locs ls hW hS hl
  have hP := hW.ar ho hs
  refine W.iast F.1 F.2.1 (hP 0 _ rfl) ((F.2.2.2.2.2.1.1.2 0 _ rfl).1 n (fun j => .int (μ.1 o j))) (fun q => by cases q) (by show ¬ (i < 0 ∨ (arrV _ _ _).slots.size ≤ _); rw [arrV_size]; exact inb_in hi) rfl rfl hd fun H1 e z oq => ?_
  exact k _ h H1 _ ls (j_ast rfl ho hs hW e z oq) (hS.put z oq (Nat.le_add_right _ _)) hl
theorem j_bast (F : FX γ p s m args meth c cc own nL) {o : Nat} {i v : Int32} {K : Mem → Option ρ} (hd : decode cc pc = .ok (.bastore, 1)) (h : (sB S o i v μ).bind K = some X) (k : ∀ ν, K ν = some X → JJ γ p l e R s m args below meth c nL cells slots Q S ν (pc + 1) lv st) : JJ γ p l e R s m args below meth c nL cells slots Q S μ pc lv (.int v :: .int i :: .ref (gb γ + o) :: st) := by
  obtain ⟨ν, hv, h⟩ := bd_some h
  obtain ⟨n, hn, hv⟩ := bd_some hv
  obtain ⟨hi, rfl⟩ := ofB hv
  obtain ⟨ho, rs, hs⟩ := isA_spec hn
  intro H locs ls hW hS hl
  have hP := hW.ar ho hs
  refine W.bast F.1 F.2.1 (hP 0 _ rfl) ((F.2.2.2.2.2.1.1.2 2 _ rfl).1 n (fun j => .int (μ.1 o j))) (fun q => by cases q) (by show ¬ (i < 0 ∨ (arrV _ _ _).slots.size ≤ _); rw [arrV_size]; exact inb_in hi) rfl rfl hd fun H1 e z oq => ?_
  exact k _ h H1 _ ls (j_ast rfl ho hs hW e z oq) (hS.put z oq (Nat.le_add_right _ _)) hl
theorem j_zast (F : FX γ p s m args meth c cc own nL) {o : Nat} {i v : Int32} {K : Mem → Option ρ} (hd : decode cc pc = .ok (.bastore, 1)) (h : (sZ S o i v μ).bind K = some X) (k : ∀ ν, K ν = some X → JJ γ p l e R s m args below meth c nL cells slots Q S ν (pc + 1) lv st) : JJ γ p l e R s m args below meth c nL cells slots Q S μ pc lv (.int v :: .int i :: .ref (gb γ + o) :: st) := by
  obtain ⟨ν, hv, h⟩ := bd_some h
  obtain ⟨n, hn, hv⟩ := bd_some hv
  obtain ⟨hi, rfl⟩ := ofB hv
  obtain ⟨ho, rs, hs⟩ := isA_spec hn
  intro H locs ls hW hS hl
  have hP := hW.ar ho hs
  refine W.zast F.1 F.2.1 (hP 0 _ rfl) ((F.2.2.2.2.2.1.1.2 3 _ rfl).1 n (fun j => .int (μ.1 o j))) (fun q => by cases q) (by show ¬ (i < 0 ∨ (arrV _ _ _).slots.size ≤ _); rw [arrV_size]; exact inb_in hi) rfl rfl hd fun H1 e z oq => ?_
  exact k _ h H1 _ ls (j_ast rfl ho hs hW e z oq) (hS.put z oq (Nat.le_add_right _ _)) hl
theorem j_last (F : FX γ p s m args meth c cc own nL) {o : Nat} {i : Int32} {v : Int64} {K : Mem → Option ρ} (hd : decode cc pc = .ok (.lastore, 1)) (h : (sL S o i v μ).bind K = some X) (k : ∀ ν, K ν = some X → JJ γ p l e R s m args below meth c nL cells slots Q S ν (pc + 1) lv st) : JJ γ p l e R s m args below meth c nL cells slots Q S μ pc lv (.long v :: .int i :: .ref (gb γ + o) :: st) := by
  obtain ⟨ν, hv, h⟩ := bd_some h
  obtain ⟨n, hn, hv⟩ := bd_some hv
  obtain ⟨hi, rfl⟩ := ofB hv
  obtain ⟨ho, rs, hs⟩ := isA_spec hn
  intro H locs ls hW hS hl
  have hP := hW.ar ho hs
  refine W.last F.1 F.2.1 (hP 0 _ rfl) ((F.2.2.2.2.2.1.1.2 1 _ rfl).1 n (fun j => .long (μ.2 o j))) (fun q => by cases q) (by show ¬ (i < 0 ∨ (arrV _ _ _).slots.size ≤ _); rw [arrV_size]; exact inb_in hi) rfl rfl hd fun H1 e z oq => ?_
  refine k _ h H1 _ ls (hW.set z oq ?_ upL_off) (hS.put z oq (Nat.le_add_right _ _)) hl
  rw [hs]
  show H1[gb γ + o]? = some (vp_cell (gA γ .long) (celA γ (upL μ o i.toNatClampNeg v) o .long n rs))
  rw [e]
  show some ((vp_cell (gA γ .long) (n, .inr (.inl (μ.2 o)))).setSlot i.toNatClampNeg (.long v)) = some (vp_cell (gA γ .long) (n, .inr (.inl ((upL μ o i.toNatClampNeg v).2 o))))
  rw [vp_cell_l, vp_cell_l, arrV_store]
  congr 2
  funext q
  by_cases hq : q = i.toNatClampNeg
  · simp [updV, upL, hq]
  · simp [updV, upL, hq]
/-! static arrays, String constants -/
theorem j_gets (F : FX γ p s m args meth c cc own nL) {idx : Nat} (t : Nat) (ht : t < 5) (hw : Cond.fieldLink own idx "CranePads" (stN t) "[I" ∈ GG) (hd : decode cc pc = .ok (.getstatic idx, 3)) (k : JJ γ p l e R s m args below meth c nL cells slots Q S μ (pc + 3) lv (.ref (gs γ t) :: st)) : JJ γ p l e R s m args below meth c nL cells slots Q S μ pc lv st :=
  fun H locs ls hW hS hl => va_gets F.1 F.2.1 (F.2.2.2.2.2.1.2.2.2.1 t ht).1 hS F.2.2.2.1 (F.2.2.2.2.1 _ hw) (fun _ h9 => h9) hd (k H locs ls hW hS hl)
theorem j_getsN (F : FX γ p s m args meth c cc own nL) {idx : Nat} (t : Nat) (ht : t < 5) (hw : Cond.fieldLinkNest own idx "CranePads" (stN t) "[I" "CranePads" ∈ nestF) (hd : decode cc pc = .ok (.getstatic idx, 3)) (k : JJ γ p l e R s m args below meth c nL cells slots Q S μ (pc + 3) lv (.ref (gs γ t) :: st)) : JJ γ p l e R s m args below meth c nL cells slots Q S μ pc lv st :=
  fun H locs ls hW hS hl => va_getsN F.1 F.2.1 (F.2.2.2.2.2.1.2.2.2.1 t ht).1 hS F.2.2.2.1 (va_Nw.use rfl (F.2.2.2.2.2.1.2.1 _ hw)) (fun _ h9 => h9) hd (k H locs ls hW hS hl)
theorem j_tald (F : FX γ p s m args meth c cc own nL) {t : Nat} {i : Int32} {K : Int32 → Option ρ} (ht : t < 5) (hd : decode cc pc = .ok (.iaload, 1)) (h : (aT t i).bind K = some X) (k : ∀ v, K v = some X → JJ γ p l e R s m args below meth c nL cells slots Q S μ (pc + 1) lv (.int v :: st)) : JJ γ p l e R s m args below meth c nL cells slots Q S μ pc lv (.int i :: .ref (gs γ t) :: st) := by
  obtain ⟨v, hv, h⟩ := bd_some h
  obtain ⟨hi, rfl⟩ := ofB hv
  exact fun H locs ls hW hS hl => va_ti F.1 F.2.1 (F.2.2.2.2.2.1.2.2.2.1 t ht).2 hS (inb_in hi) rfl hd (k _ h H locs ls hW hS hl)
theorem j_ldcS (F : FX γ p s m args meth c cc own nL) {idx : Nat} (t : Nat) (ht : t < 10) (h1 : ksO t = own) (h2 : ksI t = idx) (hd : decode cc pc = .ok (.ldc idx, 2)) (k : JJ γ p l e R s m args below meth c nL cells slots Q S μ (pc + 2) lv (.ref (gK γ t) :: st)) : JJ γ p l e R s m args below meth c nL cells slots Q S μ pc lv st := by
  subst h1; subst h2
  exact fun H locs ls hW hS hl => va_ldcS F.1 F.2.1 F.2.2.2.1 (F.2.2.2.2.2.1.2.2.2.2.2.1 t ht) hd (k H locs ls hW hS hl)
theorem j_ldcSw (F : FX γ p s m args meth c cc own nL) {idx : Nat} (t : Nat) (ht : t < 10) (h1 : ksO t = own) (h2 : ksI t = idx) (hd : decode cc pc = .ok (.ldc_w idx, 3)) (k : JJ γ p l e R s m args below meth c nL cells slots Q S μ (pc + 3) lv (.ref (gK γ t) :: st)) : JJ γ p l e R s m args below meth c nL cells slots Q S μ pc lv st := by
  subst h1; subst h2
  intro H locs ls hW hS hl T hT XX
  obtain ⟨t9, a1, b1⟩ := k H locs ls hW hS hl T hT XX
  have hZ := F.2.2.2.2.2.1.2.2.2.2.2.1 t ht
  exact ⟨t9, XX.ldcStringW F.1 F.2.2.2.1 (text := ksT t) (a := gK γ t) hZ.1 hZ.2 (g := F0 m pc ls st) rfl (by rw [F.2.1]; exact hd) t9 a1, b1⟩
/-! Math -/
theorem j_mmax (F : FX γ p s m args meth c cc own nL) {idx : Nat} {x y : Int32} (hl : Cond.methodLink own idx Lib.Math.max.name ∈ GG) (hR : 1 ≤ R.frames ∧ (st.map fun v => v.category).sum + 13 ≤ R.locals ∧ cells ≤ R.cells ∧ slots ≤ R.slots) (hd : decode cc pc = .ok (.invokestatic idx, 3)) (hg : Cond.static Lib.Math.max.name ∈ GG ∧ Cond.initialized "java/lang/Math" ∈ GG ∧ Cond.code Lib.Math.max.name Lib.Math.max.code 2 (some .int) ∈ GG) (k : JJ γ p l e R s m args below meth c nL cells slots Q S μ (pc + 3) lv (.int (if x < y then y else x) :: st)) : JJ γ p l e R s m args below meth c nL cells slots Q S μ pc lv (.int y :: .int x :: st) :=
  fun H locs ls hW hS hlv => va_mmax F.1 F.2.1 (F.2.2.1.trans hlv.1.symm) F.2.2.2.1 (F.2.2.2.2.1 _ hl) (F.2.2.2.2.1 _ hg.1) (F.2.2.2.2.1 _ hg.2.1) (F.2.2.2.2.1 _ hg.2.2) hR.1 hR.2.1 hR.2.2.1 hR.2.2.2 hd (k H locs ls hW hS hlv)
theorem j_mmin (F : FX γ p s m args meth c cc own nL) {idx : Nat} {x y : Int32} (hl : Cond.methodLink own idx Lib.Math.min.name ∈ GG) (hR : 1 ≤ R.frames ∧ (st.map fun v => v.category).sum + 13 ≤ R.locals ∧ cells ≤ R.cells ∧ slots ≤ R.slots) (hd : decode cc pc = .ok (.invokestatic idx, 3)) (hg : Cond.static Lib.Math.min.name ∈ GG ∧ Cond.initialized "java/lang/Math" ∈ GG ∧ Cond.code Lib.Math.min.name Lib.Math.min.code 2 (some .int) ∈ GG) (k : JJ γ p l e R s m args below meth c nL cells slots Q S μ (pc + 3) lv (.int (if y < x then y else x) :: st)) : JJ γ p l e R s m args below meth c nL cells slots Q S μ pc lv (.int y :: .int x :: st) :=
  fun H locs ls hW hS hlv => va_mmin F.1 F.2.1 (F.2.2.1.trans hlv.1.symm) F.2.2.2.1 (F.2.2.2.2.1 _ hl) (F.2.2.2.2.1 _ hg.1) (F.2.2.2.2.1 _ hg.2.1) (F.2.2.2.2.1 _ hg.2.2) hR.1 hR.2.1 hR.2.2.1 hR.2.2.2 hd (k H locs ls hW hS hlv)
theorem j_mabs (F : FX γ p s m args meth c cc own nL) {idx : Nat} {x : Int64} (hl : Cond.methodLink own idx Lib.MathLoose.abs_long.x ∈ GG) (hR : 1 ≤ R.frames ∧ (st.map fun v => v.category).sum + 13 ≤ R.locals ∧ cells ≤ R.cells ∧ slots ≤ R.slots) (hd : decode cc pc = .ok (.invokestatic idx, 3)) (hg : Cond.static Lib.MathLoose.abs_long.x ∈ GG ∧ Cond.initialized "java/lang/Math" ∈ GG ∧ Cond.code Lib.MathLoose.abs_long.x Lib.MathLoose.abs_long.code 2 (some .long) ∈ GG) (k : JJ γ p l e R s m args below meth c nL cells slots Q S μ (pc + 3) lv (.long (if 0 < x then x else -x) :: st)) : JJ γ p l e R s m args below meth c nL cells slots Q S μ pc lv (.long x :: st) :=
  fun H locs ls hW hS hlv => va_mabs_long F.1 F.2.1 (F.2.2.1.trans hlv.1.symm) F.2.2.2.1 (F.2.2.2.2.1 _ hl) (F.2.2.2.2.1 _ hg.1) (F.2.2.2.2.1 _ hg.2.1) (F.2.2.2.2.1 _ hg.2.2) hR.1 hR.2.1 hR.2.2.1 hR.2.2.2 hd (k H locs ls hW hS hlv)
/-! locals -/
theorem j_lv (lv' : List (Nat × Value)) (ks : List Nat) (hl : lv_pick lv ks = lv') (k : JJ γ p l e R s m args below meth c nL cells slots Q S μ pc lv' st) : JJ γ p l e R s m args below meth c nL cells slots Q S μ pc lv st :=
  fun H locs ls hW hS h => k H locs ls hW hS (lv_sub h ks hl)

end Rows
/-! ===== contracts ===== -/
def Qm (γ : GE) (S : SH) (μ : Mem) (r : Option Value) : Array Value → State → Outcome → State → Prop := fun _ st o t => o = .returned r ∧ Wd γ S μ t.heap ∧ va_F (AA γ) st t
def Pm (γ : GE) (S : SH) (μ : Mem) (av : List Value) : Array Value → State → Prop := fun v U => v = av.toArray ∧ Ken γ U U.heap ∧ Wd γ S μ U.heap
def Ct (l : Launch) (γ : GE) (y : MethodName) (cc : ByteArray) (nL : Nat) (ret : Option FieldType) (rm : Room) (av : List Value) (S : SH) (μ : Mem) (S' : SH) (μ' : Mem) (r : Option Value) : Prop :=
  Met l y (Cond.code y cc nL ret :: GG) rm (Pm γ S μ av) (Qm γ S' μ' r) rm.cells rm.slots (AA γ)
def QI (below : List Frame) (γ : GE) (S : SH) (X : Int32 × Mem) (args : Array Value) (s : State) (mc ms : Nat) : State → Prop := MQ below (Qm γ S X.2 (some (.int X.1))) args s mc ms (AA γ)
def QL (below : List Frame) (γ : GE) (S : SH) (X : Int64 × Mem) (args : Array Value) (s : State) (mc ms : Nat) : State → Prop := MQ below (Qm γ S X.2 (some (.long X.1))) args s mc ms (AA γ)
def QV (below : List Frame) (γ : GE) (S : SH) (X : Unit × Mem) (args : Array Value) (s : State) (mc ms : Nat) : State → Prop := MQ below (Qm γ S X.2 none) args s mc ms (AA γ)
def QT (below : List Frame) (γ : GE) (S : SH) (X : Nat × Mem) (args : Array Value) (s : State) (mc ms : Nat) : State → Prop := MQ below (Qm γ S X.2 (some (.ref (gK γ X.1)))) args s mc ms (AA γ)
section Ret
variable {γ : GE} {p : Program} {l : Launch} {e : Env} {R : Room} {s : State} {m : MethodId} {args : Array Value} {below : List Frame} {meth : Method} {c : Code} {cc : ByteArray} {own : String} {nL : Nat} {cells slots : Nat} {Q : State → Prop} {S S' : SH} {μ μ' : Mem} {pc : Nat} {lv : List (Nat × Value)} {st : List Value}
theorem j_iret (F : FX γ p s m args meth c cc own nL) {v : Int32} {X : Int32 × Mem} (hr : meth.sig.returnType = some .int) (hd : decode cc pc = .ok (.ireturn, 1)) (h : some (v, μ) = some X) : JJ γ p l e R s m args below meth c nL cells slots (QI below γ S X args s cells slots) S μ pc lv [.int v] := by
  cases h
  exact fun H locs ls hW hS hl => W.iret F.1 F.2.1 hr (fun t ht hw => ⟨rfl, by rw [ht]; exact hW, hS.F ht⟩) hS.2.2 hd F.2.2.2.2.2.2
theorem j_zret (F : FX γ p s m args meth c cc own nL) {v : Int32} {X : Int32 × Mem} (hr : meth.sig.returnType = some .boolean) (hz : v = 0 ∨ v = 1) (hd : decode cc pc = .ok (.ireturn, 1)) (h : some (v, μ) = some X) : JJ γ p l e R s m args below meth c nL cells slots (QI below γ S X args s cells slots) S μ pc lv [.int v] := by
  cases h
  exact fun H locs ls hW hS hl => W.zret (ty := .boolean) F.1 F.2.1 hr (by rcases hz with q | q <;> subst q <;> rfl) (fun t ht hw => ⟨rfl, by rw [ht]; exact hW, hS.F ht⟩) hS.2.2 hd F.2.2.2.2.2.2
/-- a boolean that was made elsewhere -/
def oz (v : Int32) : Option Int32 := if v = 0 ∨ v = 1 then some v else none
theorem j_zretG (F : FX γ p s m args meth c cc own nL) {v : Int32} {X : Int32 × Mem} (hr : meth.sig.returnType = some .boolean) (hd : decode cc pc = .ok (.ireturn, 1)) (h : ((oz v).bind fun q => some (q, μ)) = some X) : JJ γ p l e R s m args below meth c nL cells slots (QI below γ S X args s cells slots) S μ pc lv [.int v] := by
  obtain ⟨q, hq, h⟩ := bd_some h
  unfold oz at hq
  by_cases hz : v = 0 ∨ v = 1
  · rw [if_pos hz] at hq
    cases hq
    exact j_zret F hr hz hd h
  · rw [if_neg hz] at hq; cases hq
theorem j_lret (F : FX γ p s m args meth c cc own nL) {v : Int64} {X : Int64 × Mem} (hr : meth.sig.returnType = some .long) (hd : decode cc pc = .ok (.lreturn, 1)) (h : some (v, μ) = some X) : JJ γ p l e R s m args below meth c nL cells slots (QL below γ S X args s cells slots) S μ pc lv [.long v] := by
  cases h
  exact fun H locs ls hW hS hl => W.lret F.1 F.2.1 hr (fun t ht hw => ⟨rfl, by rw [ht]; exact hW, hS.F ht⟩) hS.2.2 hd F.2.2.2.2.2.2
theorem j_vret (F : FX γ p s m args meth c cc own nL) {X : Unit × Mem} (hr : meth.sig.returnType = none) (hd : decode cc pc = .ok (.return_, 1)) (h : some ((), μ) = some X) : JJ γ p l e R s m args below meth c nL cells slots (QV below γ S X args s cells slots) S μ pc lv [] := by
  cases h
  exact fun H locs ls hW hS hl => W.vret F.1 F.2.1 hr (fun t ht hw => ⟨rfl, by rw [ht]; exact hW, hS.F ht⟩) hS.2.2 hd F.2.2.2.2.2.2
theorem j_tret (F : FX γ p s m args meth c cc own nL) {v : Nat} {X : Nat × Mem} {n : String} (hr : meth.sig.returnType = some (.object n)) (hd : decode cc pc = .ok (.areturn, 1)) (h : some (v, μ) = some X) : JJ γ p l e R s m args below meth c nL cells slots (QT below γ S X args s cells slots) S μ pc lv [.ref (gK γ v)] := by
  cases h
  exact fun H locs ls hW hS hl => W.aret (rt := .object n) F.1 F.2.1 hr (Or.inl ⟨n, rfl⟩) (Or.inr ⟨_, rfl⟩) (fun t ht hw => ⟨rfl, by rw [ht]; exact hW, hS.F ht⟩) hS.2.2 hd F.2.2.2.2.2.2
/-! what is known, moved to a callee's start -/
theorem Ken.moved {U V : State} {H H1 : Heap} (h : Ken γ U H) (hW : U.WarmedH V.vm) (hq : ∀ a : Nat, a < H.size → ¬ AA γ a → H1[a]? = H[a]?) : Ken γ V H1 := by
  obtain ⟨h1, h2, h3, h4, h5, h6, h7, h8, h9, h10⟩ := h
  refine ⟨va_K.moved hW.alike h1, fun w hw => ?_, fun w hw => ?_, fun i hi => ⟨(va_Z.moved hW.alike (h4 i hi).1).kept hq, (va_T.moved hW.alike (h4 i hi).2).kept hq⟩, fun i hi => ⟨(va_O.moved hW.alike (h5 i hi).1).kept hq, (va_OF.moved hW.alike (h5 i hi).2.1).kept hq, (va_OF.moved hW.alike (h5 i hi).2.2.1).kept hq, (va_T.moved hW.alike (h5 i hi).2.2.2).kept hq⟩, fun i hi => (h6 i hi).warm hW, (va_Z.moved hW.alike h7).kept hq, (va_Zq.moved hW.alike h8).kept hq, h9.moved hW, h10.kept hq⟩
  · have := h2 w hw
    revert this
    revert w
    simp only [nestF, List.forall_mem_cons, List.not_mem_nil, false_implies, implies_true, and_true]
    refine ⟨?_, ?_, ?_⟩ <;> exact fun h => va_Nw.warmF hW h
  · have := h3 w hw
    revert this
    revert w
    simp only [nestM, List.forall_mem_cons, List.not_mem_nil, false_implies, implies_true, and_true]
    refine ⟨?_, ?_, ?_, ?_, ?_, ?_, ?_, ?_, ?_, ?_, ?_⟩ <;> exact fun h => va_Nw.warmM hW h
theorem vk_R.sameVm {own tx : String} {k a : Nat} {u U : State} (hv : U.vm = u.vm) (h : vk_R own k tx a u) : vk_R own k tx a U := vk_R.same hv h
theorem Ken.call {U : State} {g : JFrame} {mk : MethodId} {a : Array Value} (h : Ken γ U U.heap) : Ken γ (U.calling g mk a) (U.calling g mk a).heap := by
  obtain ⟨h1, h2, h3, h4, h5, h6, h7, h8, h9, h10⟩ := h
  have e : (U.calling g mk a).vm = U.vm := rfl
  have hA : U.vm.Alike (U.calling g mk a).vm := Vm.Alike.refl U.vm
  exact ⟨va_K.moved (u := U) hA h1, fun w hw => va_Nw.same (by revert w; decide +kernel) e.symm (h2 w hw), fun w hw => va_Nw.same (by revert w; decide +kernel) e.symm (h3 w hw), fun i hi => ⟨va_Z.moved (u := U) hA (h4 i hi).1, va_T.moved (u := U) hA (h4 i hi).2⟩, fun i hi => ⟨va_O.moved (u := U) hA (h5 i hi).1, va_OF.moved (u := U) hA (h5 i hi).2.1, va_OF.moved (u := U) hA (h5 i hi).2.2.1, va_T.moved (u := U) hA (h5 i hi).2.2.2⟩, fun i hi => vk_R.same e (h6 i hi), va_Z.moved (u := U) hA h7, va_Zq.moved (u := U) hA h8, h9.same e, h10⟩
theorem Pm.blind {av : List Value} : FrameBlind (Pm γ S μ av) := fun _ _ _ _ h => ⟨h.1, h.2.1.call, h.2.2⟩
/-- behind a call -/
theorem j_cont {mc ms : Nat} {r : Option Value} {st0 rest : List Value} {a : Array Value} (hr : ∀ (H : Heap) (locs : List Loc) (ls : Array Slot), Wd γ S μ H → va_S (AA γ) s.heap H locs → lv_has ls nL lv → va_Run p l e R s m args below meth c H locs cells slots mc ms (F0 m pc ls st0) rest (Qm γ S' μ' r a) (AA γ)) (k : JJ γ p l e R s m args below meth c nL (cells + mc) (slots + ms) Q S' μ' (pc + 3) lv (r.toList ++ rest)) : JJ γ p l e R s m args below meth c nL cells slots Q S μ pc lv st0 := by
  intro H locs ls hW hS hl T hT X
  obtain ⟨v, st₀, t, T', L, h0, X', hL, e1, e2, ⟨ho, hw, hz, hk⟩, st⟩ := hr H locs ls hW hS hl T hT X
  cases ho
  rw [h0] at hz hk
  obtain ⟨t2, a1, b1⟩ := k T'.heap (locs ++ L) ls (by rw [e1]; exact hw) ⟨Nat.le_trans hS.1 (by rw [e1]; exact hz), fun q h1 h2 => by rw [e1, hk q (Nat.lt_of_lt_of_le h1 hS.1) h2]; exact hS.2.1 q h1 h2, fun q hq => by
      rcases List.mem_append.mp hq with h | h
      · exact hS.2.2 q h
      · exact hL q h⟩ hl T' rfl X'
  exact ⟨t2, st t2 a1, b1⟩
/-- a method of an object: what the tables say -/
def MI (y : MethodName) (cc : ByteArray) (nL : Nat) (ret : Option FieldType) (n ci : Nat) : Prop := (∃ T N, CP ci y.cls T N) ∧ Cond.instanceMethod y ∈ GG ∧ Cond.selects y.cls y y ∈ GG ∧ Cond.initialized y.cls ∈ GG ∧ Cond.code y cc nL ret ∈ GG ∧ y.cls ≠ "java/lang/invoke/MethodHandle" ∧ y.cls ≠ "java/lang/invoke/VarHandle" ∧ (parseMethodDescriptor y.desc).map (fun d => d.parameters.length) = some n
/-- a static method -/
def MS (y : MethodName) (cc : ByteArray) (nL : Nat) (ret : Option FieldType) (n : Nat) : Prop := Cond.static y ∈ GG ∧ Cond.initialized y.cls ∈ GG ∧ Cond.code y cc nL ret ∈ GG ∧ y.cls ≠ "java/lang/invoke/MethodHandle" ∧ y.cls ≠ "java/lang/invoke/VarHandle" ∧ (parseMethodDescriptor y.desc).map (fun d => d.parameters.length) = some n
variable {y : MethodName} {cc' : ByteArray} {nL' : Nat} {ret : Option FieldType} {rm : Room} {n ci o idx : Nat} {As rest : List Value} {r : Option Value}
theorem j_pre (F : FX γ p s m args meth c cc own nL) {H : Heap} {locs : List Loc} (hW : Wd γ S μ H) (hS : va_S (AA γ) s.heap H locs) {U : State} (hU : U.heap = H) (hw : s.WarmedH U.vm) {av : List Value} : Pm γ S μ av av.toArray U := ⟨rfl, F.2.2.2.2.2.1.moved hw (fun a h1 h2 => by rw [hU]; exact hS.2.1 a h1 h2), by rw [hU]; exact hW⟩
theorem j_callV (F : FX γ p s m args meth c cc own nL) (hM : MI y cc' nL' ret n ci) (hlk : Cond.methodLink own idx y ∈ GG) (hct : isO S ci o = true ∧ Ct l γ y cc' nL' ret rm (.ref (gb γ + o) :: As) S μ S' μ' r) (st0 : List Value) (hst : st0 = As.reverse ++ .ref (gb γ + o) :: rest) (hn : As.length = n) (hr : (rest.map fun v => v.category).sum ≤ 8) (hR : rm.frames + 1 ≤ R.frames ∧ 8 + (nL' + 11) + rm.locals ≤ R.locals) (hc : cells + rm.cells ≤ R.cells ∧ slots + rm.slots ≤ R.slots) (hd : decode cc pc = .ok (.invokevirtual idx, 3)) (k : JJ γ p l e R s m args below meth c nL (cells + rm.cells) (slots + rm.slots) Q S' μ' (pc + 3) lv (r.toList ++ rest)) : JJ γ p l e R s m args below meth c nL cells slots Q S μ pc lv st0 := by
  obtain ⟨⟨T, N, hcp⟩, m1, m2, m3, m4, m5⟩ := hM
  obtain ⟨ho, rs, hs⟩ := isO_spec hct.1
  have hts := F.2.2.2.2.1
  refine j_cont (a := (Value.ref (gb γ + o) :: As).toArray) (fun H locs ls hW hS hl => ?_) k
  exact va_runV (As := As) (rest := rest) ⟨F.1, F.2.1, F.2.2.1, F.2.2.2.1, hts⟩ hct.2 ⟨callB_of n hts (gg_call m4) rfl rfl rfl (hts _ m3) (hts _ hlk) m5 hR, hts _ m1, hts _ m2⟩ ⟨Pm.blind, va_recv F.2.2.2.2.2.1.1 (hW.ob ho hs) hcp.1 (q0 := 0) rfl, fun U hU hw => j_pre F hW hS hU hw⟩ rfl hn hl.1 hst (lv_room hr) hd hc
theorem j_callS (F : FX γ p s m args meth c cc own nL) (hM : MS y cc' nL' ret n) (hlk : Cond.methodLink own idx y ∈ GG) (hct : Ct l γ y cc' nL' ret rm As S μ S' μ' r) (st0 : List Value) (hst : st0 = As.reverse ++ rest) (hn : As.length = n) (hr : (rest.map fun v => v.category).sum ≤ 8) (hR : rm.frames + 1 ≤ R.frames ∧ 8 + (nL' + 11) + rm.locals ≤ R.locals) (hc : cells + rm.cells ≤ R.cells ∧ slots + rm.slots ≤ R.slots) (hd : decode cc pc = .ok (.invokestatic idx, 3)) (k : JJ γ p l e R s m args below meth c nL (cells + rm.cells) (slots + rm.slots) Q S' μ' (pc + 3) lv (r.toList ++ rest)) : JJ γ p l e R s m args below meth c nL cells slots Q S μ pc lv st0 := by
  obtain ⟨m1, m3, m4, m5⟩ := hM
  have hts := F.2.2.2.2.1
  refine j_cont (a := As.toArray) (fun H locs ls hW hS hl => ?_) k
  exact va_runS (As := As) (rest := rest) ⟨F.1, F.2.1, F.2.2.1, F.2.2.2.1, hts⟩ hct ⟨callB_of n hts (gg_call m4) rfl rfl rfl (hts _ m3) (hts _ hlk) m5 hR, hts _ m1⟩ ⟨Pm.blind, fun U hU hw => j_pre F hW hS hU hw⟩ rfl hn hl.1 hst (lv_room hr) hd hc
theorem j_callSN (F : FX γ p s m args meth c cc own nL) (hM : MS y cc' nL' ret n) (hlk : Cond.methodLinkNest own idx y "CranePads" ∈ nestM) (hct : Ct l γ y cc' nL' ret rm As S μ S' μ' r) (st0 : List Value) (hst : st0 = As.reverse ++ rest) (hn : As.length = n) (hr : (rest.map fun v => v.category).sum ≤ 8) (hR : rm.frames + 1 ≤ R.frames ∧ 8 + (nL' + 11) + rm.locals ≤ R.locals) (hc : cells + rm.cells ≤ R.cells ∧ slots + rm.slots ≤ R.slots) (hd : decode cc pc = .ok (.invokestatic idx, 3)) (k : JJ γ p l e R s m args below meth c nL (cells + rm.cells) (slots + rm.slots) Q S' μ' (pc + 3) lv (r.toList ++ rest)) : JJ γ p l e R s m args below meth c nL cells slots Q S μ pc lv st0 := by
  obtain ⟨m1, m3, m4, m5⟩ := hM
  have hts := F.2.2.2.2.1
  refine j_cont (a := As.toArray) (fun H locs ls hW hS hl => ?_) k
  exact va_runSN (As := As) (rest := rest) ⟨F.1, F.2.1, F.2.2.1, F.2.2.2.1, hts⟩ hct ⟨va_cnB n hts (gg_call m4) rfl rfl rfl (F.2.2.2.2.2.1.2.2.1 _ hlk) (hts _ m3) m5 hR, hts _ m1, trivial⟩ ⟨Pm.blind, fun U hU hw => j_pre F hW hS hU hw⟩ rfl hn hl.1 hst (lv_room hr) hd hc
end Ret
/-- a contract out of the judgement at the entry -/
theorem ct_of {l : Launch} {γ : GE} {y : MethodName} {cc : ByteArray} {nL : Nat} {ret : Option FieldType} {rm : Room} {av : List Value} {S : SH} {μ : Mem} {S' : SH} {μ' : Mem} {r : Option Value} (hy : plainName y.cls = true) (hlen : (lg_sl av).length ≤ nL)
    (body : ∀ (p : Program) (e : Env) (s : State) (m : MethodId) (args : Array Value) (below : List Frame) (meth : Method) (c : Code), FX γ p s m args meth c cc y.cls nL → meth.sig.returnType = ret → meth.name = y.name → JJ γ p l e rm s m args below meth c nL 0 0 (MQ below (Qm γ S' μ' r) args s rm.cells rm.slots (AA γ)) S μ 0 (lv_args 0 av) []) : Ct l γ y cc nL ret rm av S μ S' μ' r := by
  refine Met.ofW (cc := cc) (maxL := nL) (ret := ret) hy rfl ?_
  intro p e s m args below meth c s₁ B hml hv
  obtain ⟨rfl, hK, hW⟩ := hv
  have hts := atoms_spec (ws := Cond.code y cc nL ret :: GG) B.pre
  have hin : meth.name = y.name := (name_of_methodNamed B.named B.method).1
  have hl := lv_entry av (n := nL) hlen
  rw [lg_entry_eq]
  exact body p e s m av.toArray below meth c ⟨B.exec, B.bytes, hml, findClass_of_methodNamed B.named, fun w hw => hts w (List.mem_cons_of_mem _ hw), hK, B.notSynchronized⟩ B.returns hin s.heap [] _ hW va_S.rf hl

