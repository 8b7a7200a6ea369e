/-! ===== making cells ===== -/
def zrM (μ : Mem) (o : Nat) : Mem := (fun k i => if k = o then 0 else μ.1 k i, fun k i => if k = o then 0 else μ.2 k i)
def nwS (S : SH) (sh : Shp) : SH := (S.1 + 1, fun k => if k = S.1 then sh else S.2 k)
abbrev STT : Type := SH × Mem
def nwO (ci : Nat) (S : SH) (μ : Mem) : STT := (nwS S (.inl (ci, fun _ => none)), zrM μ S.1)
def nwA (ty : FieldType) (n : Nat) (S : SH) (μ : Mem) : STT := (nwS S (.inr (ty, n, fun _ => none)), zrM μ S.1)
def pR (S : SH) (ci o j k : Nat) : Option SH := match S.2 o with
  | .inl (c, rs) => if c = ci ∧ o < S.1 then some (S.1, fun q => if q = o then .inl (ci, fun i => if i = j then some k else rs i) else S.2 q) else none
  | _ => none
def sR (S : SH) (ty : FieldType) (o : Nat) (i : Int32) (ci k : Nat) : Option SH := match S.2 o with
  | .inr (t, n, rs) => if t = ty ∧ o < S.1 ∧ inb i n = true ∧ isO S ci k = true then some (S.1, fun q => if q = o then .inr (ty, n, fun x => if x = i.toNatClampNeg then some k else rs x) else S.2 q) else none
  | _ => none
/-- a clone of static array t -/
def nwT (t : Nat) (S : SH) (μ : Mem) : STT := (nwS S (.inr (.int, (stT t).length, fun _ => none)), (fun k i => if k = S.1 then (stT t).getD i 0 else μ.1 k i, fun k i => if k = S.1 then 0 else μ.2 k i))
theorem pR_spec {S S' : SH} {ci o j k : Nat} (h : pR S ci o j k = some S') : o < S.1 ∧ ∃ rs, S.2 o = .inl (ci, rs) ∧ S' = (S.1, fun q => if q = o then .inl (ci, fun i => if i = j then some k else rs i) else S.2 q) := by
  unfold pR at h
  split at h
  · rename_i c rs he
    split at h
    · rename_i hh
      obtain ⟨h1, h2⟩ := hh
      subst h1
      cases h
      exact ⟨h2, rs, he, rfl⟩
    · cases h
  · cases h
theorem sR_spec {S S' : SH} {ty : FieldType} {o ci k : Nat} {i : Int32} (h : sR S ty o i ci k = some S') : o < S.1 ∧ inb i (match S.2 o with | .inr (_, n, _) => n | _ => 0) = true ∧ isO S ci k = true ∧ ∃ n rs, S.2 o = .inr (ty, n, rs) ∧ S' = (S.1, fun q => if q = o then .inr (ty, n, fun x => if x = i.toNatClampNeg then some k else rs x) else S.2 q) := by
  unfold sR at h
  split at h
  · rename_i t n rs he
    split at h
    · rename_i hh
      obtain ⟨h1, h2, h3, h4⟩ := hh
      subst h1
      cases h
      rw [he]
      exact ⟨h2, h3, h4, n, rs, rfl, rfl⟩
    · cases h
  · cases h
theorem Wd.push {γ : GE} {S : SH} {μ μ' : Mem} {H H1 : Heap} {sh : Shp} (h : Wd γ S μ H) (hz : H1.size = H.size + 1) (hq : ∀ q : Nat, q < H.size → H1[q]? = H[q]?) (hn : va_at (gD γ) vwCl (gb γ + S.1, celE γ μ' S.1 sh) H1) (hm : ∀ k, k ≠ S.1 → μ'.1 k = μ.1 k ∧ μ'.2 k = μ.2 k) : Wd γ (nwS S sh) μ' H1 := by
  refine ⟨by rw [hz, h.1]; rfl, fun k hk => ?_⟩
  have hk' : k < S.1 + 1 := hk
  by_cases e : k = S.1
  · subst e
    show va_at (gD γ) vwCl (gb γ + S.1, celE γ μ' S.1 (if S.1 = S.1 then sh else S.2 S.1)) H1
    rw [if_pos rfl]
    exact hn
  · have hlt : k < S.1 := by omega
    show va_at (gD γ) vwCl (gb γ + k, celE γ μ' k (if k = S.1 then sh else S.2 k)) H1
    rw [if_neg e, celE_congr (hm k e).1 (hm k e).2]
    exact (h.2 k hlt).kept (hq _ (by show gb γ + k < H.size; rw [h.1]; omega))
/-- the shape of one cell changes, and the heap with it -/
theorem Wd.shape {γ : GE} {S : SH} {μ : Mem} {H H1 : Heap} {o : Nat} {sh : Shp} (h : Wd γ S μ H) (hz : H1.size = H.size) (hq : ∀ q : Nat, q ≠ gb γ + o → H1[q]? = H[q]?) (ho : va_at (gD γ) vwCl (gb γ + o, celE γ μ o sh) H1) : Wd γ (S.1, fun q => if q = o then sh else S.2 q) μ H1 := by
  refine ⟨hz.trans h.1, fun k hk => ?_⟩
  show va_at (gD γ) vwCl (gb γ + k, celE γ μ k (if k = o then sh else S.2 k)) H1
  by_cases e : k = o
  · subst e; rw [if_pos rfl]; exact ho
  · rw [if_neg e]
    exact (h.2 k hk).kept (hq _ (by show gb γ + k ≠ gb γ + o; omega))
theorem zrM_off {μ : Mem} {o : Nat} : ∀ k, k ≠ o → (zrM μ o).1 k = μ.1 k ∧ (zrM μ o).2 k = μ.2 k := fun k hk => ⟨by funext i; simp [zrM, hk], by funext i; simp [zrM, hk]⟩
def kD (t : FieldType) : Bool := match t with
  | .float => false | .double => false | _ => true
theorem fvl_new {γ : GE} {μ : Mem} {o ci j : Nat} (h : kD (tyf ci j) = true) : defaultValue (tyf ci j) = fvl γ (zrM μ o) o ci (fun _ => none) j := by
  unfold fvl
  revert h
  cases tyf ci j <;> intro h <;> first | (simp [zrM, defaultValue, va_rf]; done) | cases h
section Cons
variable {γ : GE} {p : Program} {l : Launch} {e : Env} {R : Room} {s : State} {m : MethodId} {args : Array Value} {below : List Frame} {meth : Method} {c : Code} {cc : ByteArray} {own : String} {nL : Nat} {cells slots : Nat} {Q : State → Prop} {S : SH} {μ : Mem} {pc : Nat} {lv : List (Nat × Value)} {st : List Value} {ρ : Type} {X : ρ} {idx : Nat}
theorem j_new (F : FX γ p s m args meth c cc own nL) {ci N : Nat} {C : String} {T : u_T} {K : STT → Option ρ} (hc : CP ci C T N) (hg : Cond.classLink own idx C ∈ GG ∧ Cond.instantiable C N ∈ GG ∧ Cond.initialized C ∈ GG) (hD : ∀ j, j < N → kD (tyf ci j) = true) (hcells : cells + 1 ≤ R.cells) (hslots : slots + N ≤ R.slots) (hd : decode cc pc = .ok (.new idx, 3)) (h : (some (nwO ci S μ)).bind K = some X) (k : ∀ σ : STT, K σ = some X → JJ γ p l e R s m args below meth c nL (cells + 1) (slots + N) Q σ.1 σ.2 (pc + 3) lv (.ref (gb γ + S.1) :: st)) : JJ γ p l e R s m args below meth c nL cells slots Q S μ pc lv st := by
  have k := k _ h
  obtain ⟨c1, c2, c3, c4, c5⟩ := hc
  have hts := F.2.2.2.2.1
  have hK := F.2.2.2.2.2.1.1
  have hKn := hK.1 ci _ c1
  intro H locs ls hW hS hl
  refine W.newcK F.1 F.2.1 F.2.2.2.1 (hts _ hg.1) (hts _ hg.2.1) (hts _ hg.2.2) rfl hd hcells hslots hKn.2.1 hW.1 fun H1 kC hkC e1 z1 o1 => ?_
  refine k H1 locs ls (hW.push (by rw [z1, hW.1]) (fun q hq => o1 q (by rw [← hW.1]; exact hq)) ?_ zrM_off) ⟨Nat.le_trans hS.1 (by rw [z1, ← hW.1]; omega), fun q h1 h2 => (o1 q (by rw [← hW.1]; exact Nat.lt_of_lt_of_le h1 hS.1)).trans (hS.2.1 q h1 h2), hS.2.2⟩ hl
  refine ⟨_, c1, (u_born (tyf ci) hts c3 hKn hkC e1 c4).to (fun j hj => ?_)⟩
  show defaultValue (tyf ci j) = vp_V ((List.range (nf ci)).map (fvl γ (zrM μ S.1) S.1 ci (fun _ => none))) j
  unfold vp_V
  rw [List.getD_eq_getElem?_getD, fvl_get (by rw [c2]; exact hj)]
  exact fvl_new (hD j hj)
theorem j_newa (F : FX γ p s m args meth c cc own nL) {atype : ArrayType} {ty : FieldType} {x : Int32} (n t0 : Nat) {K : STT → Option ρ} (hty : newarray.typeOf atype = ty) (hk : (kI ty || decide (ty = .long)) = true) (ht : (tysG γ)[t0]? = some (gA γ ty, ty)) (hw : Cond.arrayClass ty ∈ GG) (hx : ¬ x < 0) (hn : x.toNatClampNeg = n) (hb : n * componentBytes ty ≤ 536870912) (hcells : cells + 1 ≤ R.cells) (hslots : slots + n ≤ R.slots) (hd : decode cc pc = .ok (.newarray atype, 2)) (h : (some (nwA ty n S μ)).bind K = some X) (k : ∀ σ : STT, K σ = some X → JJ γ p l e R s m args below meth c nL (cells + 1) (slots + n) Q σ.1 σ.2 (pc + 2) lv (.ref (gb γ + S.1) :: st)) : JJ γ p l e R s m args below meth c nL cells slots Q S μ pc lv (.int x :: st) := by
  have k := k _ h
  subst hty
  have hts := F.2.2.2.2.1
  have hK := F.2.2.2.2.2.1.1
  intro H locs ls hW hS hl
  refine va_newaK F.1 F.2.1 (hts _ hw) rfl hd rfl hx hn hb hcells hslots hW.1 fun H1 cA e1 z1 o1 hAr hNm => ?_
  have hcA : cA = gA γ (newarray.typeOf atype) := by
    have h1 := (hK.2 t0 _ ht).2
    have h2 : s.vm.findClass ("[" ++ (newarray.typeOf atype).toString) = some (gA γ (newarray.typeOf atype)) := by cases atype <;> exact h1
    exact Option.some.inj (hNm.symm.trans h2)
  subst hcA
  refine k H1 locs ls (hW.push (by rw [z1, hW.1]) (fun q hq => o1 q (by rw [← hW.1]; exact hq)) ?_ zrM_off) ⟨Nat.le_trans hS.1 (by rw [z1, ← hW.1]; omega), fun q h1 h2 => (o1 q (by rw [← hW.1]; exact Nat.lt_of_lt_of_le h1 hS.1)).trans (hS.2.1 q h1 h2), hS.2.2⟩ hl
  show H1[gb γ + S.1]? = some (vp_cell (gA γ (newarray.typeOf atype)) (celA γ (zrM μ S.1) S.1 (newarray.typeOf atype) n (fun _ => none)))
  rw [e1]
  congr 1
  cases atype <;> first | (simp [newarray.typeOf, kI] at hk; done) | (simp only [newarray.typeOf, celA, vp_cell, defaultValue]; congr 1; funext q; simp [zrM])
/-- a reference is laid into a field (final, in a constructor, or not) -/
theorem j_pR (F : FX γ p s m args meth c cc own nL) {ci o j k0 : Nat} {K : SH → Option ρ} {C : String} {T : u_T} {N : Nat} (hcp : CP ci C T N) (hj : j < N) (hw : Cond.fieldLink own idx C (T j).2.1 (T j).2.2.1 ∈ GG) (hC : (T j).1 = C) (hownC : own = C) (hfin : (T j).2.2.2 = true) (hin : meth.name = "<init>") (hty : kR (tyf ci j) = true) (hd : decode cc pc = .ok (.putfield idx, 3)) (h : (pR S ci o j k0).bind K = some X) (k : ∀ S', K S' = some X → JJ γ p l e R s m args below meth c nL cells slots Q S' μ (pc + 3) lv st) : JJ γ p l e R s m args below meth c nL cells slots Q S μ pc lv (.ref (gb γ + k0) :: .ref (gb γ + o) :: st) := by
  obtain ⟨S', hv, h⟩ := bd_some h
  have k := k _ h
  obtain ⟨ho, rs, hs, rfl⟩ := pR_spec hv
  obtain ⟨c1, c2, c3, c4, c5⟩ := hcp
  intro H locs ls hW hS hl
  have hK := F.2.2.2.2.2.1.1
  have hts := F.2.2.2.2.1
  have hap := va_apart (own := own) hts c3 (tyf ci) c4 c5 hK c1
  obtain ⟨r, h1, cell, q1, q2, q3, q4⟩ := hW.ob ho hs 0 _ rfl
  have hr : r = (C, T, N) := Option.some.inj (h1.symm.trans c1)
  subst hr
  obtain ⟨hSl, hfc, kC, hkC, hkind⟩ := hK.1 ci _ c1
  obtain ⟨cf, kf, fi, f, hif, hsl⟩ := hSl j hj
  have hlay := hts _ (c3 _ (u_in_lay hj))
  unfold u_lay at hlay
  rw [if_pos hfin] at hlay
  have hst := (u_facts hfc hkC (u_lays hts c3 hj) hif).1
  have hcf : m.cls = cf := by
    obtain ⟨_, _, c', _, _, _, -, -, hf', -, -, -, hown2, -⟩ := Cond.laysFinal_spec hlay
    have e1 : c' = cf := by have := hif.symm.trans hf'; simp at this; exact this.1.symm
    rw [hC, ← hownC] at hown2
    rw [← e1]; exact Option.some.inj (F.2.2.2.1.symm.trans hown2)
  have hnar : narrow (tyf ci j) (.ref (gb γ + k0)) = .ref (gb γ + k0) ∧ fits (tyf ci j) (.ref (gb γ + k0)) = true := by
    revert hty
    cases tyf ci j <;> intro hty <;> first | exact ⟨rfl, rfl⟩ | cases hty
  have h6 := u_fits hfc hkC hkind (Or.inr hlay) hif (c4 j hj) hnar.1 hnar.2
  refine W.putFinK F.1 F.2.1 F.2.2.2.1 (hts _ hw) (by rw [hC] at hif; exact hif) hst hcf hin (by rw [q2]; exact h6) q1 q3 (by rw [hsl]; exact k2_hasslot (q4 j hj)) rfl rfl hd fun H' e1 e2 e3 => ?_
  rw [hsl] at e1 ⊢
  refine k H' _ ls (hW.shape e2 e3 ?_) (hS.put e2 e3 (Nat.le_add_right _ _)) hl
  refine ⟨_, c1, t_OB.to (V := updV (vp_V ((List.range (nf ci)).map (fvl γ μ o ci rs))) j (.ref (gb γ + k0))) ⟨_, e1, q2, q3, t_set q4 hap hj _⟩ (fun i hi => ?_)⟩
  have hi' : i < nf ci := by rw [c2]; exact hi
  have e : ∀ rs' : Nat → Option Nat, vp_V ((List.range (nf ci)).map (fvl γ μ o ci rs')) i = fvl γ μ o ci rs' i := fun rs' => by
    unfold vp_V
    rw [List.getD_eq_getElem?_getD, fvl_get hi']; rfl
  show updV _ j _ i = vp_V ((List.range (nf ci)).map (fvl γ μ o ci (fun i => if i = j then some k0 else rs i))) i
  rw [e]
  unfold updV
  by_cases q : i = j
  · subst q
    rw [if_pos rfl, fvl_R hty, if_pos rfl]; rfl
  · rw [if_neg q, e]
    unfold fvl
    simp only [if_neg q]
theorem j_objI (F : FX γ p s m args meth c cc own nL) {o : Nat} (hlk : Cond.methodLink own idx objectInit ∈ GG) (hg : Cond.instanceMethod objectInit ∈ GG ∧ Cond.code objectInit ⟨#[0xb1]⟩ 1 none ∈ GG) (hR : 1 ≤ R.frames ∧ (st.map fun v => v.category).sum + 12 ≤ R.locals) (hd : decode cc pc = .ok (.invokespecial idx, 3)) (k : JJ γ p l e R s m args below meth c nL cells slots Q S μ (pc + 3) lv st) : JJ γ p l e R s m args below meth c nL cells slots Q S μ pc lv (.ref (gb γ + o) :: st) := by
  have hts := F.2.2.2.2.1
  exact fun H locs ls hW hS hl => W.objInit F.1 F.2.1 F.2.2.2.1 (hts _ hlk) (hts _ hg.1) (hts _ hg.2) rfl (hl.1.trans F.2.2.1.symm) rfl hd hR.1 (by show 2 * 0 + _ + 12 ≤ _; have := hR.2; omega) (k H locs ls hW hS hl)
theorem j_newq (F : FX γ p s m args meth c cc own nL) {x : Int32} (n : Nat) {K : STT → Option ρ} (hcl : Cond.classLink own idx "CranePads$Chart" ∈ GG) (hx : ¬ x < 0) (hn : x.toNatClampNeg = n) (hb : n * 4 ≤ 536870912) (hcells : cells + 1 ≤ R.cells) (hslots : slots + n ≤ R.slots) (hd : decode cc pc = .ok (.anewarray idx, 3)) (h : (some (nwA (.object "CranePads$Chart") n S μ)).bind K = some X) (k : ∀ σ : STT, K σ = some X → JJ γ p l e R s m args below meth c nL (cells + 1) (slots + n) Q σ.1 σ.2 (pc + 3) lv (.ref (gb γ + S.1) :: st)) : JJ γ p l e R s m args below meth c nL cells slots Q S μ pc lv (.int x :: st) := by
  have k := k _ h
  subst hn
  have hts := F.2.2.2.2.1
  have hK := F.2.2.2.2.2.1.1
  have hX := F.2.2.2.2.2.1.2.2.2.2.2.2.2.2.1
  intro H locs ls hW hS hl
  refine W.anew F.1 F.2.1 F.2.2.2.1 (hts _ hcl) (va_AO.use hX.1) rfl hd rfl hx hb hcells hslots fun cA kA comp f1 f2 f3 f4 => ?_
  have hcA : cA = gA γ (.object "CranePads$Chart") := by
    obtain ⟨kA', comp', -, -, -, g4⟩ := (hK.2 4 (gA γ (.object "CranePads$Chart"), .object "CranePads$Chart") rfl).2
    exact Option.some.inj (f1.symm.trans g4)
  subst hcA
  generalize hH1 : H.push ({ cls := gA γ (.object "CranePads$Chart"), slots := Array.replicate x.toNatClampNeg .null, vm := .none } : Cell) = H1
  have z1 : H1.size = H.size + 1 := by rw [← hH1, Array.size_push]
  have e1 : H1[H.size]? = some (arrV (gA γ (.object "CranePads$Chart")) x.toNatClampNeg (fun _ => .null)) := by rw [← hH1, Array.getElem?_push_size, ← arrV_new]
  have o1 : ∀ q : Nat, q < H.size → H1[q]? = H[q]? := fun q hq => by rw [← hH1, Array.getElem?_push, if_neg (Nat.ne_of_lt hq)]
  have k := k H1 locs ls (hW.push z1 o1 (by
    show H1[gb γ + S.1]? = some (vp_cell _ (celA γ (zrM μ S.1) S.1 (.object "CranePads$Chart") x.toNatClampNeg (fun _ => none)))
    rw [← hW.1, e1]
    rfl) zrM_off) ⟨Nat.le_trans hS.1 (by omega), fun q h1 h2 => (o1 q (Nat.lt_of_lt_of_le h1 hS.1)).trans (hS.2.1 q h1 h2), hS.2.2⟩ hl
  rw [← hW.1] at k
  exact k
theorem j_aast (F : FX γ p s m args meth c cc own nL) {o k0 : Nat} {i : Int32} {K : SH → Option ρ} (hc1 : CP 1 "CranePads$Chart" TX1 2) (hd : decode cc pc = .ok (.aastore, 1)) (h : (sR S (.object "CranePads$Chart") o i 1 k0).bind K = some X) (k : ∀ S', K S' = some X → JJ γ p l e R s m args below meth c nL cells slots Q S' μ (pc + 1) lv st) : JJ γ p l e R s m args below meth c nL cells slots Q S μ pc lv (.ref (gb γ + k0) :: .int i :: .ref (gb γ + o) :: st) := by
  obtain ⟨S', hv, h⟩ := bd_some h
  have k := k _ h
  obtain ⟨ho, hi, hob, n, rs, hs, rfl⟩ := sR_spec hv
  rw [hs] at hi
  obtain ⟨hk0, rs0, hs0⟩ := isO_spec hob
  have hin := inb_in hi
  have hK := F.2.2.2.2.2.1.1
  intro H locs ls hW hS hl
  have hP := hW.ar ho hs
  rw [celA_R rfl] at hP
  have hlt : i.toNatClampNeg < n := Nat.not_le.mp fun q => hin (Or.inr q)
  have h0 : ¬ i < 0 := fun q => hin (Or.inl q)
  obtain ⟨r', hr', cellV, g1, g2, g3, -⟩ := hW.ob hk0 hs0 0 _ rfl
  have hcls := (hK.1 1 _ hc1.1).2
  obtain ⟨kA, comp, k1, k2, k3, -⟩ := (hK.2 4 (gA γ (.object "CranePads$Chart"), .object "CranePads$Chart") rfl).2
  have hcomp : comp = (gD γ).1 1 := Option.some.inj (k3.symm.trans hcls.1)
  subst hcomp
  have hcls0 := hcls
  obtain ⟨kC, hkC, -⟩ := hcls.2
  refine W.aast F.1 F.2.1 (hP 0 _ rfl) (fun q h => by cases h) (fun h => by cases h) k1 k2 rfl hkC ⟨h0, by show _ < (arrV _ _ _).slots.size; rw [arrV_size]; exact hlt⟩ g1 (fun q h => by rw [g3] at h; cases h) (by rw [g2]; exact hkC) (by rw [g2]; exact va_assign hcls0) rfl rfl hd fun H1 e z oq => ?_
  refine k H1 _ ls (hW.shape z oq ?_) (hS.put z oq (Nat.le_add_right _ _)) hl
  show H1[gb γ + o]? = some (vp_cell (gA γ (.object "CranePads$Chart")) (celA γ μ o (.object "CranePads$Chart") n (fun x => if x = i.toNatClampNeg then some k0 else rs x)))
  rw [celA_R rfl, e, vp_cell_q, vp_cell_q, arrV_store]
  congr 2
  funext q
  by_cases hq : q = i.toNatClampNeg
  · simp [updV, hq, va_rf]
  · simp [updV, hq]
theorem j_castI (F : FX γ p s m args meth c cc own nL) {o : Nat} {K : Nat → Option ρ} (hcl : Cond.classLink own idx "[I" ∈ GG) (hd : decode cc pc = .ok (.checkcast idx, 3)) (h : (isA S .int o).bind K = some X) (k : ∀ n, K n = some X → JJ γ p l e R s m args below meth c nL cells slots Q S μ (pc + 3) lv (.ref (gb γ + o) :: st)) : JJ γ p l e R s m args below meth c nL cells slots Q S μ pc lv (.ref (gb γ + o) :: st) := by
  obtain ⟨n, hn, h⟩ := bd_some h
  obtain ⟨ho, rs, hs⟩ := isA_spec hn
  exact fun H locs ls hW hS hl => va_castA F.1 F.2.1 F.2.2.2.1 (F.2.2.2.2.1 _ hcl) (hW.ar ho hs) 0 rfl (F.2.2.2.2.2.1.1.2 0 (gA γ .int, .int) rfl).2 hd (k n h H locs ls hW hS hl)
end Cons
section Cons2
variable {γ : GE} {p : Program} {l : Launch} {e : Env} {R : Room} {s : State} {m : MethodId} {args : Array Value} {below : List Frame} {meth : Method} {c : Code} {cc : ByteArray} {own : String} {nL : Nat} {cells slots : Nat} {Q : State → Prop} {S : SH} {μ : Mem} {pc : Nat} {lv : List (Nat × Value)} {st : List Value} {ρ : Type} {X : ρ} {idx : Nat}
/-- words for the clone of an int array -/
def CLW (own : String) (idx : Nat) : Prop := Cond.methodLink own idx ⟨"[I", "clone", "()Ljava/lang/Object;"⟩ ∈ GG ∧ Cond.sameMethod "[I" "java/lang/Object" "clone" "()Ljava/lang/Object;" ∈ GG ∧ Cond.native ⟨"java/lang/Object", "clone", "()Ljava/lang/Object;"⟩ ∈ GG ∧ Cond.instanceMethod ⟨"java/lang/Object", "clone", "()Ljava/lang/Object;"⟩ ∈ GG ∧ Cond.selects "[I" ⟨"[I", "clone", "()Ljava/lang/Object;"⟩ ⟨"java/lang/Object", "clone", "()Ljava/lang/Object;"⟩ ∈ GG
theorem j_clone (F : FX γ p s m args meth c cc own nL) {K : STT → Option ρ} (hg : CLW own idx) (hR : 1 ≤ R.frames ∧ (st.map fun v => v.category).sum + 14 ≤ R.locals) (hcells : cells + 1 ≤ R.cells) (hslots : slots + 14 ≤ R.slots) (hd : decode cc pc = .ok (.invokevirtual idx, 3)) (h : (some (nwT 0 S μ)).bind K = some X) (k : ∀ σ : STT, K σ = some X → JJ γ p l e R s m args below meth c nL (cells + 1) (slots + 14) Q σ.1 σ.2 (pc + 3) lv (.ref (gb γ + S.1) :: st)) : JJ γ p l e R s m args below meth c nL cells slots Q S μ pc lv (.ref (gs γ 0) :: st) := by
  have k := k _ h
  have hts := F.2.2.2.2.1
  have hK := F.2.2.2.2.2.1.1
  have hX := F.2.2.2.2.2.1.2.2.2.2.2.2.2.2.1
  have hC := F.2.2.2.2.2.1.2.2.2.2.2.2.2.2.2
  intro H locs ls hW hS hl T hT XX
  obtain ⟨cell, h1, h2, h3, h4, h5, h6, h7⟩ := hC.kept hS.2.1
  obtain ⟨c0, t0', f1, f2, f3⟩ := Cond.castable_spec (va_Nw.use (A := args) rfl hX.2.1)
  have hn : s.vm.findClass "[I" = some (gA γ .int) := (hK.2 0 (gA γ .int, .int) rfl).2
  cases hn.symm.trans f1
  obtain ⟨-, kA, hkA, comp, hkind⟩ := State.isArrayOf_alike XX.warmed.alike ((hK.2 0 (gA γ .int, .int) rfl).1 0 (fun _ => .null))
  obtain ⟨-, kS, hkS, compS, hkindS⟩ := (hK.2 0 (gA γ .int, .int) rfl).1 0 (fun _ => .null)
  obtain ⟨vm', X', st'⟩ := XX.cloneArray F.1 F.2.2.2.1 (hts _ hg.1) (hts _ hg.2.1) (hts _ hg.2.2.1) (hts _ hg.2.2.2.1) (hts _ hg.2.2.2.2) (a := gs γ 0) (cell := cell) (by rw [hT]; exact h1) (fun k h => by rw [h] at h3; cases h3) h4 (by rw [h2]; exact hn) f2 (by rw [h2]; exact f3)
    (fun i v hv => by
      rw [h2]
      have hk' : T.vm.classes[gA γ .int]? = some kA := hkA
      have hi : i < 14 := by rw [← h5]; exact (Array.getElem?_eq_some_iff.mp hv).1
      rw [h6 i hi] at hv
      cases hv
      simp [State.fitsSlot, State.slotType?, hk', hkind, fits])
    (g := F0 m pc ls (.ref (gs γ 0) :: st)) rfl (hl.1.trans F.2.2.1.symm) rfl (by rw [F.2.1]; exact hd) hR.1 (by show 2 * 0 + _ + 14 ≤ _; have := hR.2; omega) hcells (by rw [h5]; exact hslots) (hloader := by rw [h2]; exact Vm.clonesLoader_of_array hkS hkindS)
  rw [h5] at X'
  have ec : ({ cls := cell.cls, slots := cell.slots } : Cell) = vp_cell (gA γ .int) (14, .inl fun i => (stT 0).getD i 0) := by
    rw [vp_cell_i, h2]
    unfold arrV
    congr 1
    apply Array.ext
    · rw [h5]; simp
    · intro i hi1 hi2
      have := h6 i (by rw [← h5]; exact hi1)
      rw [Array.getElem?_eq_getElem hi1] at this
      rw [Option.some.inj this]
      simp
  rw [ec] at X' st'
  generalize hH1 : H.push (vp_cell (gA γ .int) (14, .inl fun i => (stT 0).getD i 0)) = H1
  have z1 : H1.size = H.size + 1 := by rw [← hH1, Array.size_push]
  have e1 : H1[H.size]? = some (vp_cell (gA γ .int) (14, .inl fun i => (stT 0).getD i 0)) := by rw [← hH1, Array.getElem?_push_size]
  have o1 : ∀ q : Nat, q < H.size → H1[q]? = H[q]? := fun q hq => by rw [← hH1, Array.getElem?_push, if_neg (Nat.ne_of_lt hq)]
  have kk := k H1 locs ls (hW.push (μ' := (nwT 0 S μ).2) z1 o1 (by
    show H1[gb γ + S.1]? = some (vp_cell (gA γ .int) (14, .inl ((nwT 0 S μ).2.1 S.1)))
    rw [← hW.1, e1]
    congr 4
    funext q
    simp [nwT]) (fun q hq => ⟨by funext i; simp [nwT, hq], by funext i; simp [nwT, hq]⟩)) ⟨Nat.le_trans hS.1 (by omega), fun q h1 h2 => (o1 q (Nat.lt_of_lt_of_le h1 hS.1)).trans (hS.2.1 q h1 h2), hS.2.2⟩ hl
  obtain ⟨t, b1, b2⟩ := kk ((T.setVm vm').pushCell (vp_cell (gA γ .int) (14, .inl fun i => (stT 0).getD i 0))) (by rw [← hH1, ← hT]; rfl) X'
  refine ⟨t, st' t ?_, b2⟩
  rw [hT, hW.1]
  exact b1
/-- a constructor: what the tables say -/
def MC (y : MethodName) (cc : ByteArray) (nL : Nat) (n : Nat) : Prop := y.name = "<init>" ∧ Cond.instanceMethod y ∈ GG ∧ Cond.initialized y.cls ∈ GG ∧ Cond.code y cc nL none ∈ GG ∧ y.cls ≠ "java/lang/invoke/MethodHandle" ∧ y.cls ≠ "java/lang/invoke/VarHandle" ∧ (parseMethodDescriptor y.desc).map (fun d => d.parameters.length) = some n
variable {y : MethodName} {cc' : ByteArray} {nL' : Nat} {rm : Room} {o : Nat} {rest : List Value}
theorem j_cI (F : FX γ p s m args meth c cc own nL) {K : STT → Option ρ} {t : Option STT} (hM : MC y cc' nL' 0) (hlk : Cond.methodLink own idx y ∈ GG) (h : t.bind K = some X) (hct : ∀ σ, t = some σ → Ct l γ y cc' nL' none rm [.ref (gb γ + o)] S μ σ.1 σ.2 none) (hr : (st.map fun v => v.category).sum ≤ 8) (hR : rm.frames + 1 ≤ R.frames ∧ 8 + (nL' + 11) + rm.locals ≤ R.locals) (hc : cells + rm.cells ≤ R.cells ∧ slots + rm.slots ≤ R.slots) (hd : decode cc pc = .ok (.invokespecial idx, 3)) (k : ∀ σ : STT, K σ = some X → JJ γ p l e R s m args below meth c nL (cells + rm.cells) (slots + rm.slots) Q σ.1 σ.2 (pc + 3) lv st) : JJ γ p l e R s m args below meth c nL cells slots Q S μ pc lv (.ref (gb γ + o) :: st) := by
  obtain ⟨σ, g, h⟩ := bd_some h
  obtain ⟨m0, m1, m3, m4, m5⟩ := hM
  have hts := F.2.2.2.2.1
  refine j_cont (a := [Value.ref (gb γ + o)].toArray) (r := none) (rest := st) (fun H locs ls hW hS hl => ?_) (k σ h)
  exact va_runI (As := []) (rest := st) ⟨F.1, F.2.1, F.2.2.1, F.2.2.2.1, hts⟩ (hct σ g) ⟨callB_of 0 hts (gg_call m4) rfl rfl rfl (hts _ m3) (hts _ hlk) m5 hR, m0, hts _ m1⟩ ⟨Pm.blind, fun U hU hw => j_pre F hW hS hU hw⟩ rfl rfl hl.1 rfl (lv_room hr) hd hc
theorem j_cIN (F : FX γ p s m args meth c cc own nL) {K : STT → Option ρ} {t : Option STT} (hM : MC y cc' nL' 0) (hlk : Cond.methodLinkNest own idx y "CranePads" ∈ nestM) (h : t.bind K = some X) (hct : ∀ σ, t = some σ → Ct l γ y cc' nL' none rm [.ref (gb γ + o)] S μ σ.1 σ.2 none) (hr : (st.map fun v => v.category).sum ≤ 8) (hR : rm.frames + 1 ≤ R.frames ∧ 8 + (nL' + 11) + rm.locals ≤ R.locals) (hc : cells + rm.cells ≤ R.cells ∧ slots + rm.slots ≤ R.slots) (hd : decode cc pc = .ok (.invokespecial idx, 3)) (k : ∀ σ : STT, K σ = some X → JJ γ p l e R s m args below meth c nL (cells + rm.cells) (slots + rm.slots) Q σ.1 σ.2 (pc + 3) lv st) : JJ γ p l e R s m args below meth c nL cells slots Q S μ pc lv (.ref (gb γ + o) :: st) := by
  obtain ⟨σ, g, h⟩ := bd_some h
  obtain ⟨m0, m1, m3, m4, m5⟩ := hM
  have hts := F.2.2.2.2.1
  refine j_cont (a := [Value.ref (gb γ + o)].toArray) (r := none) (rest := st) (fun H locs ls hW hS hl => ?_) (k σ h)
  exact va_runIN (As := []) (rest := st) ⟨F.1, F.2.1, F.2.2.1, F.2.2.2.1, hts⟩ (hct σ g) ⟨va_cnB 0 hts (gg_call m4) rfl rfl rfl (F.2.2.2.2.2.1.2.2.1 _ hlk) (hts _ m3) m5 hR, m0, hts _ m1⟩ ⟨Pm.blind, fun U hU hw => j_pre F hW hS hU hw⟩ rfl rfl hl.1 rfl (lv_room hr) hd hc
theorem j_cret (F : FX γ p s m args meth c cc own nL) {X : STT} (hr : meth.sig.returnType = none) (hd : decode cc pc = .ok (.return_, 1)) (h : some (S, μ) = some X) : JJ γ p l e R s m args below meth c nL cells slots (MQ below (Qm γ X.1 X.2 none) args s cells slots (AA γ)) S μ pc lv [] := by
  cases h
  exact fun H locs ls hW hS hl => W.vret F.1 F.2.1 hr (fun t ht hw => ⟨rfl, by rw [ht]; exact hW, hS.F ht⟩) hS.2.2 hd F.2.2.2.2.2.2
end Cons2
