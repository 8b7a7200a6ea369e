theorem dJ0_length_8abf5_0 : decode cJ0_length_8abf5 0 = .ok (.aload_n 0, 1) := by decide +kernel
theorem dJ0_length_8abf5_1 : decode cJ0_length_8abf5 1 = .ok (.getfield 9, 3) := by decide +kernel
theorem dJ0_length_8abf5_4 : decode cJ0_length_8abf5 4 = .ok (.arraylength, 1) := by decide +kernel
theorem dJ0_length_8abf5_5 : decode cJ0_length_8abf5 5 = .ok (.aload_n 0, 1) := by decide +kernel
theorem dJ0_length_8abf5_6 : decode cJ0_length_8abf5 6 = .ok (.invokevirtual 335, 3) := by decide +kernel
theorem dJ0_length_8abf5_9 : decode cJ0_length_8abf5 9 = .ok (.ishr, 1) := by decide +kernel
theorem dJ0_length_8abf5_10 : decode cJ0_length_8abf5 10 = .ok (.ireturn, 1) := by decide +kernel
theorem dJ0_coder_7d493_0 : decode cJ0_coder_7d493 0 = .ok (.getstatic 38, 3) := by decide +kernel
theorem dJ0_coder_7d493_3 : decode cJ0_coder_7d493 3 = .ok (.ifCond .eq 10, 3) := by decide +kernel
theorem dJ0_coder_7d493_6 : decode cJ0_coder_7d493 6 = .ok (.aload_n 0, 1) := by decide +kernel
theorem dJ0_coder_7d493_7 : decode cJ0_coder_7d493 7 = .ok (.getfield 15, 3) := by decide +kernel
theorem dJ0_coder_7d493_10 : decode cJ0_coder_7d493 10 = .ok (.goto 4, 3) := by decide +kernel
theorem dJ0_coder_7d493_13 : decode cJ0_coder_7d493 13 = .ok (.iconst 1, 1) := by decide +kernel
theorem dJ0_coder_7d493_14 : decode cJ0_coder_7d493 14 = .ok (.ireturn, 1) := by decide +kernel
theorem dJ0_charAt_5068e_0 : decode cJ0_charAt_5068e 0 = .ok (.aload_n 0, 1) := by decide +kernel
theorem dJ0_charAt_5068e_1 : decode cJ0_charAt_5068e 1 = .ok (.invokevirtual 492, 3) := by decide +kernel
theorem dJ0_charAt_5068e_4 : decode cJ0_charAt_5068e 4 = .ok (.ifCond .eq 12, 3) := by decide +kernel
theorem dJ0_charAt_5068e_7 : decode cJ0_charAt_5068e 7 = .ok (.aload_n 0, 1) := by decide +kernel
theorem dJ0_charAt_5068e_8 : decode cJ0_charAt_5068e 8 = .ok (.getfield 9, 3) := by decide +kernel
theorem dJ0_charAt_5068e_11 : decode cJ0_charAt_5068e 11 = .ok (.iload_n 1, 1) := by decide +kernel
theorem dJ0_charAt_5068e_12 : decode cJ0_charAt_5068e 12 = .ok (.invokestatic 495, 3) := by decide +kernel
theorem dJ0_charAt_5068e_15 : decode cJ0_charAt_5068e 15 = .ok (.ireturn, 1) := by decide +kernel
theorem dJ0_charAt_5068e_16 : decode cJ0_charAt_5068e 16 = .ok (.aload_n 0, 1) := by decide +kernel
theorem dJ0_charAt_5068e_17 : decode cJ0_charAt_5068e 17 = .ok (.getfield 9, 3) := by decide +kernel
theorem dJ0_charAt_5068e_20 : decode cJ0_charAt_5068e 20 = .ok (.iload_n 1, 1) := by decide +kernel
theorem dJ0_charAt_5068e_21 : decode cJ0_charAt_5068e 21 = .ok (.invokestatic 498, 3) := by decide +kernel
theorem dJ0_charAt_5068e_24 : decode cJ0_charAt_5068e 24 = .ok (.ireturn, 1) := by decide +kernel
theorem dJ0_isLatin1_aae02_0 : decode cJ0_isLatin1_aae02 0 = .ok (.getstatic 38, 3) := by decide +kernel
theorem dJ0_isLatin1_aae02_3 : decode cJ0_isLatin1_aae02 3 = .ok (.ifCond .eq 14, 3) := by decide +kernel
theorem dJ0_isLatin1_aae02_6 : decode cJ0_isLatin1_aae02 6 = .ok (.aload_n 0, 1) := by decide +kernel
theorem dJ0_isLatin1_aae02_7 : decode cJ0_isLatin1_aae02 7 = .ok (.getfield 15, 3) := by decide +kernel
theorem dJ0_isLatin1_aae02_10 : decode cJ0_isLatin1_aae02 10 = .ok (.ifCond .ne 7, 3) := by decide +kernel
theorem dJ0_isLatin1_aae02_13 : decode cJ0_isLatin1_aae02 13 = .ok (.iconst 1, 1) := by decide +kernel
theorem dJ0_isLatin1_aae02_14 : decode cJ0_isLatin1_aae02 14 = .ok (.goto 4, 3) := by decide +kernel
theorem dJ0_isLatin1_aae02_17 : decode cJ0_isLatin1_aae02 17 = .ok (.iconst 0, 1) := by decide +kernel
theorem dJ0_isLatin1_aae02_18 : decode cJ0_isLatin1_aae02 18 = .ok (.ireturn, 1) := by decide +kernel
theorem dJ1_charAt_3b067_0 : decode cJ1_charAt_3b067 0 = .ok (.iload_n 1, 1) := by decide +kernel
theorem dJ1_charAt_3b067_1 : decode cJ1_charAt_3b067 1 = .ok (.aload_n 0, 1) := by decide +kernel
theorem dJ1_charAt_3b067_2 : decode cJ1_charAt_3b067 2 = .ok (.arraylength, 1) := by decide +kernel
theorem dJ1_charAt_3b067_3 : decode cJ1_charAt_3b067 3 = .ok (.invokestatic 9, 3) := by decide +kernel
theorem dJ1_charAt_3b067_6 : decode cJ1_charAt_3b067 6 = .ok (.aload_n 0, 1) := by decide +kernel
theorem dJ1_charAt_3b067_7 : decode cJ1_charAt_3b067 7 = .ok (.iload_n 1, 1) := by decide +kernel
theorem dJ1_charAt_3b067_8 : decode cJ1_charAt_3b067 8 = .ok (.baload, 1) := by decide +kernel
theorem dJ1_charAt_3b067_9 : decode cJ1_charAt_3b067 9 = .ok (.sipush 255, 3) := by decide +kernel
theorem dJ1_charAt_3b067_12 : decode cJ1_charAt_3b067 12 = .ok (.iand, 1) := by decide +kernel
theorem dJ1_charAt_3b067_13 : decode cJ1_charAt_3b067 13 = .ok (.i2c, 1) := by decide +kernel
theorem dJ1_charAt_3b067_14 : decode cJ1_charAt_3b067 14 = .ok (.ireturn, 1) := by decide +kernel
theorem dJ0_checkIndex_df160_0 : decode cJ0_checkIndex_df160 0 = .ok (.iload_n 0, 1) := by decide +kernel
theorem dJ0_checkIndex_df160_1 : decode cJ0_checkIndex_df160 1 = .ok (.iload_n 1, 1) := by decide +kernel
theorem dJ0_checkIndex_df160_2 : decode cJ0_checkIndex_df160 2 = .ok (.getstatic 1053, 3) := by decide +kernel
theorem dJ0_checkIndex_df160_5 : decode cJ0_checkIndex_df160 5 = .ok (.invokestatic 1059, 3) := by decide +kernel
theorem dJ0_checkIndex_df160_8 : decode cJ0_checkIndex_df160 8 = .ok (.pop, 1) := by decide +kernel
theorem dJ0_checkIndex_df160_9 : decode cJ0_checkIndex_df160 9 = .ok (.return_, 1) := by decide +kernel
theorem dJ3_checkIndex_8e157_0 : decode cJ3_checkIndex_8e157 0 = .ok (.iload_n 0, 1) := by decide +kernel
theorem dJ3_checkIndex_8e157_1 : decode cJ3_checkIndex_8e157 1 = .ok (.ifCond .lt 8, 3) := by decide +kernel
theorem dJ3_checkIndex_8e157_4 : decode cJ3_checkIndex_8e157 4 = .ok (.iload_n 0, 1) := by decide +kernel
theorem dJ3_checkIndex_8e157_5 : decode cJ3_checkIndex_8e157 5 = .ok (.iload_n 1, 1) := by decide +kernel
theorem dJ3_checkIndex_8e157_6 : decode cJ3_checkIndex_8e157 6 = .ok (.if_icmp .lt 10, 3) := by decide +kernel
theorem dJ3_checkIndex_8e157_9 : decode cJ3_checkIndex_8e157 9 = .ok (.aload_n 2, 1) := by decide +kernel
theorem dJ3_checkIndex_8e157_10 : decode cJ3_checkIndex_8e157 10 = .ok (.iload_n 0, 1) := by decide +kernel
theorem dJ3_checkIndex_8e157_11 : decode cJ3_checkIndex_8e157 11 = .ok (.iload_n 1, 1) := by decide +kernel
theorem dJ3_checkIndex_8e157_12 : decode cJ3_checkIndex_8e157 12 = .ok (.invokestatic 95, 3) := by decide +kernel
theorem dJ3_checkIndex_8e157_15 : decode cJ3_checkIndex_8e157 15 = .ok (.athrow, 1) := by decide +kernel
theorem dJ3_checkIndex_8e157_16 : decode cJ3_checkIndex_8e157 16 = .ok (.iload_n 0, 1) := by decide +kernel
theorem dJ3_checkIndex_8e157_17 : decode cJ3_checkIndex_8e157 17 = .ok (.ireturn, 1) := by decide +kernel
theorem acw : Cond.native arraycopyName ∈ GG ∧ Cond.static arraycopyName ∈ GG ∧ Cond.initialized "java/lang/System" ∈ GG := ⟨w_683, w_682, w_71⟩
def cpZ (S : SH) (o : Nat) (i : Int32) (o2 : Nat) (j n : Int32) (μ : Mem) : Option Mem := if (List.range n.toNatClampNeg).all (fun q => decide (μ.1 o (i.toNatClampNeg + q) = 0) || decide (μ.1 o (i.toNatClampNeg + q) = 1)) = true then cpI S .boolean o i o2 j n μ else none
section Rows3
variable {γ : GE} {p : Program} {l : Launch} {e : Env} {R : Room} {s : State} {m : MethodId} {args : Array Value} {below : List Frame} {meth : Method} {c : Code} {cc : ByteArray} {own : String} {nL : Nat} {cells slots : Nat} {Q : State → Prop} {S : SH} {μ : Mem} {pc : Nat} {lv : List (Nat × Value)} {st : List Value} {ρ : Type} {X : ρ} {idx : Nat}
theorem j_cpI (F : FX γ p s m args meth c cc own nL) {o o2 : Nat} {i j cnt : Int32} {K : Mem → Option ρ} (hlk : Cond.methodLink own idx arraycopyName ∈ GG) (hR : 1 ≤ R.frames ∧ (st.map fun v => v.category).sum + (nativeFrameWords "java/lang/System" "arraycopy" 5 + 11) ≤ R.locals) (hd : decode cc pc = .ok (.invokestatic idx, 3)) (h : (cpI S .int o i o2 j cnt μ).bind K = some X) (k : ∀ ν, K ν = some X → JJ γ p l e R s m args below meth c nL cells slots Q S ν (pc + 3) lv st) : JJ γ p l e R s m args below meth c nL cells slots Q S μ pc lv (.int cnt :: .int j :: .ref (gb γ + o2) :: .int i :: .ref (gb γ + o) :: st) :=
  j_cp F 0 rfl rfl rfl hlk acw hR (fun _ _ => rfl) hd h k
theorem j_cpZ (F : FX γ p s m args meth c cc own nL) {o o2 : Nat} {i j cnt : Int32} {K : Mem → Option ρ} (hlk : Cond.methodLink own idx arraycopyName ∈ GG) (hR : 1 ≤ R.frames ∧ (st.map fun v => v.category).sum + (nativeFrameWords "java/lang/System" "arraycopy" 5 + 11) ≤ R.locals) (hd : decode cc pc = .ok (.invokestatic idx, 3)) (h : (cpZ S o i o2 j cnt μ).bind K = some X) (k : ∀ ν, K ν = some X → JJ γ p l e R s m args below meth c nL cells slots Q S ν (pc + 3) lv st) : JJ γ p l e R s m args below meth c nL cells slots Q S μ pc lv (.int cnt :: .int j :: .ref (gb γ + o2) :: .int i :: .ref (gb γ + o) :: st) := by
  obtain ⟨ν, hv, h⟩ := bd_some h
  obtain ⟨hb, hv⟩ := if_some hv
  refine j_cp F 3 rfl rfl rfl hlk acw hR (fun q hq => ?_) hd (K := K) (by rw [hv]; exact h) k
  have := List.all_eq_true.mp hb q (List.mem_range.mpr hq)
  simp only [Bool.or_eq_true, decide_eq_true_eq] at this
  rcases this with z | z <;> rw [z] <;> rfl
/-! ===== String.length(), String.charAt(k) of the constants ===== -/
theorem j_sV (F : FX γ p s m args meth c cc own nL) {i : Nat} (hi : i < 10) (hw : Cond.fieldLink own idx "java/lang/String" "value" "[B" ∈ GG) (hd : decode cc pc = .ok (.getfield idx, 3)) (k : JJ γ p l e R s m args below meth c nL cells slots Q S μ (pc + 3) lv (.ref (gV γ i) :: st)) : JJ γ p l e R s m args below meth c nL cells slots Q S μ pc lv (.ref (gK γ i) :: st) :=
  fun H locs ls hW hS hl => vk_getf F.1 F.2.1 (F.2.2.2.2.2.1.2.2.2.2.1 i hi).2.2.1 hS F.2.2.2.1 (F.2.2.2.2.1 _ hw) (fun _ h9 => h9) hd (k H locs ls hW hS hl)
theorem j_sC (F : FX γ p s m args meth c cc own nL) {i : Nat} (hi : i < 10) (hw : Cond.fieldLink own idx "java/lang/String" "coder" "B" ∈ GG) (hd : decode cc pc = .ok (.getfield idx, 3)) (k : JJ γ p l e R s m args below meth c nL cells slots Q S μ (pc + 3) lv (.int 0 :: st)) : JJ γ p l e R s m args below meth c nL cells slots Q S μ pc lv (.ref (gK γ i) :: st) :=
  fun H locs ls hW hS hl => vk_getf F.1 F.2.1 (F.2.2.2.2.2.1.2.2.2.2.1 i hi).2.1 hS F.2.2.2.1 (F.2.2.2.2.1 _ hw) (fun _ h9 => h9) hd (k H locs ls hW hS hl)
theorem j_sZ (F : FX γ p s m args meth c cc own nL) (hw : Cond.fieldLink own idx "java/lang/String" "COMPACT_STRINGS" "Z" ∈ GG) (hd : decode cc pc = .ok (.getstatic idx, 3)) (k : JJ γ p l e R s m args below meth c nL cells slots Q S μ (pc + 3) lv (.int 1 :: st)) : JJ γ p l e R s m args below meth c nL cells slots Q S μ pc lv st :=
  fun H locs ls hW hS hl => va_gets F.1 F.2.1 F.2.2.2.2.2.1.2.2.2.2.2.2.1 hS F.2.2.2.1 (F.2.2.2.2.1 _ hw) (fun _ h9 => h9) hd (k H locs ls hW hS hl)
theorem j_sF (F : FX γ p s m args meth c cc own nL) (hw : Cond.fieldLink own idx "jdk/internal/util/Preconditions" "SIOOBE_FORMATTER" "Ljava/util/function/BiFunction;" ∈ GG) (hd : decode cc pc = .ok (.getstatic idx, 3)) (k : ∀ v : Value, (v = .null ∨ ∃ t, v = .ref t) → JJ γ p l e R s m args below meth c nL cells slots Q S μ (pc + 3) lv (v :: st)) : JJ γ p l e R s m args below meth c nL cells slots Q S μ pc lv st := by
  intro H locs ls hW hS hl
  rcases F.2.2.2.2.2.1.2.2.2.2.2.2.2.1 with hz | ⟨t, hz⟩
  · exact va_gets F.1 F.2.1 hz hS F.2.2.2.1 (F.2.2.2.2.1 _ hw) (fun _ h9 => h9) hd (k _ (Or.inl rfl) H locs ls hW hS hl)
  · exact va_gets F.1 F.2.1 hz hS F.2.2.2.1 (F.2.2.2.2.1 _ hw) (fun _ h9 => h9) hd (k _ (Or.inr ⟨t, rfl⟩) H locs ls hW hS hl)
theorem j_sN (F : FX γ p s m args meth c cc own nL) {i : Nat} (hi : i < 10) (hd : decode cc pc = .ok (.arraylength, 1)) (k : JJ γ p l e R s m args below meth c nL cells slots Q S μ (pc + 1) lv (.int (Int32.ofNat (ksB i).length) :: st)) : JJ γ p l e R s m args below meth c nL cells slots Q S μ pc lv (.ref (gV γ i) :: st) :=
  fun H locs ls hW hS hl => va_tlen F.1 F.2.1 (F.2.2.2.2.2.1.2.2.2.2.1 i hi).2.2.2 hS rfl hd (k H locs ls hW hS hl)
theorem j_sB (F : FX γ p s m args meth c cc own nL) {i : Nat} {x : Int32} (hi : i < 10) (hx : inb x (ksB i).length = true) (hd : decode cc pc = .ok (.baload, 1)) (k : JJ γ p l e R s m args below meth c nL cells slots Q S μ (pc + 1) lv (.int ((ksB i).getD x.toNatClampNeg 0) :: st)) : JJ γ p l e R s m args below meth c nL cells slots Q S μ pc lv (.int x :: .ref (gV γ i) :: st) :=
  fun H locs ls hW hS hl => va_tb F.1 F.2.1 (F.2.2.2.2.2.1.2.2.2.2.1 i hi).2.2.2 hS (inb_in hx) rfl hd (k H locs ls hW hS hl)
theorem j_i2c (F : FX γ p s m args meth c cc own nL) {x : Int32} (hd : decode cc pc = .ok (.i2c, 1)) (k : JJ γ p l e R s m args below meth c nL cells slots Q S μ (pc + 1) lv (.int (x.toUInt32 % 65536).toInt32 :: st)) : JJ γ p l e R s m args below meth c nL cells slots Q S μ pc lv (.int x :: st) :=
  fun H locs ls hW hS hl => lv_i2c F.1 F.2.1 hd rfl (k H locs ls hW hS hl)
theorem j_pop (F : FX γ p s m args meth c cc own nL) {v : Value} (hc : v.category = 1) (hd : decode cc pc = .ok (.pop, 1)) (k : JJ γ p l e R s m args below meth c nL cells slots Q S μ (pc + 1) lv st) : JJ γ p l e R s m args below meth c nL cells slots Q S μ pc lv (v :: st) :=
  fun H locs ls hW hS hl => lv_pop F.1 F.2.1 hd hc (k H locs ls hW hS hl)
theorem j_xret (F : FX γ p s m args meth c cc own nL) {v : Int32} (ty : FieldType) (hr : meth.sig.returnType = some ty) (hn : narrow ty (.int v) = .int v) (hd : decode cc pc = .ok (.ireturn, 1)) : JJ γ p l e R s m args below meth c nL cells slots (MQ below (Qm γ S μ (some (.int v))) args s cells slots (AA γ)) S μ pc lv [.int v] :=
  fun H locs ls hW hS hl => W.zret (ty := ty) F.1 F.2.1 hr hn (fun t ht hw => ⟨rfl, by rw [ht]; exact hW, hS.F ht⟩) hS.2.2 hd F.2.2.2.2.2.2
theorem j_vret0 (F : FX γ p s m args meth c cc own nL) (hr : meth.sig.returnType = none) (hd : decode cc pc = .ok (.return_, 1)) : JJ γ p l e R s m args below meth c nL cells slots (MQ below (Qm γ S μ none) args s cells slots (AA γ)) S μ pc lv [] :=
  fun H locs ls hW hS hl => W.vret F.1 F.2.1 hr (fun t ht hw => ⟨rfl, by rw [ht]; exact hW, hS.F ht⟩) hS.2.2 hd F.2.2.2.2.2.2
/-- a method of String -/
def MT (y : MethodName) (cc : ByteArray) (nL : Nat) (ret : Option FieldType) (n : Nat) : Prop := y.cls = "java/lang/String" ∧ Cond.instanceMethod y ∈ GG ∧ Cond.selects "java/lang/String" y y ∈ GG ∧ Cond.initialized y.cls ∈ GG ∧ Cond.code y cc nL ret ∈ GG ∧ y.cls ≠ "java/lang/invoke/MethodHandle" ∧ y.cls ≠ "java/lang/invoke/VarHandle" ∧ (parseMethodDescriptor y.desc).map (fun d => d.parameters.length) = some n
theorem j_callT (F : FX γ p s m args meth c cc own nL) {y : MethodName} {cc' : ByteArray} {nL' : Nat} {ret : Option FieldType} {rm : Room} {n i : Nat} {As rest : List Value} {r : Option Value} (hi : i < 10) (hM : MT y cc' nL' ret n) (hlk : Cond.methodLink own idx y ∈ GG) (hct : Ct l γ y cc' nL' ret rm (.ref (gK γ i) :: As) S μ S μ r) (st0 : List Value) (hst : st0 = As.reverse ++ .ref (gK γ i) :: rest) (hn : As.length = n) (hr : (rest.map fun v => v.category).sum ≤ 8) (hR : rm.frames + 1 ≤ R.frames ∧ 8 + (nL' + 11) + rm.locals ≤ R.locals) (hc : cells ≤ R.cells ∧ slots ≤ R.slots) (hz : rm.cells = 0 ∧ rm.slots = 0) (hd : decode cc pc = .ok (.invokevirtual idx, 3)) (k : JJ γ p l e R s m args below meth c nL cells slots Q S μ (pc + 3) lv (r.toList ++ rest)) : JJ γ p l e R s m args below meth c nL cells slots Q S μ pc lv st0 := by
  obtain ⟨m0, m1, m2, m3, m4, m5⟩ := hM
  have hts := F.2.2.2.2.1
  refine j_cont (mc := rm.cells) (ms := rm.slots) (a := (Value.ref (gK γ i) :: As).toArray) (fun H locs ls hW hS hl => ?_) (by rw [hz.1, hz.2]; exact k)
  exact va_runV (As := As) (rest := rest) (C := "java/lang/String") ⟨F.1, F.2.1, F.2.2.1, F.2.2.2.1, hts⟩ hct ⟨callB_of n hts (gg_call m4) rfl rfl rfl (hts _ m3) (hts _ hlk) m5 hR, hts _ m1, hts _ m2⟩ ⟨Pm.blind, (by
    obtain ⟨cell, h1, h2, h3, -⟩ := (F.2.2.2.2.2.1.2.2.2.2.1 i hi).1.kept hS.2.1
    exact ⟨cell, h1, h2, h3⟩), fun U hU hw => j_pre F hW hS hU hw⟩ rfl hn hl.1 hst (lv_room hr) hd (by rw [hz.1, hz.2]; exact hc)
end Rows3
theorem mt_coder : MT yJ0_coder_7d493 cJ0_coder_7d493 1 (some .byte) 0 := ⟨rfl, w_763, w_764, w_72, w_765, by decide, by decide, by decide +kernel⟩
theorem mt_isLatin1 : MT yJ0_isLatin1_aae02 cJ0_isLatin1_aae02 1 (some .boolean) 0 := ⟨rfl, w_773, w_774, w_72, w_775, by decide, by decide, by decide +kernel⟩
theorem mt_slen : MT yJ0_length_8abf5 cJ0_length_8abf5 1 (some .int) 0 := ⟨rfl, w_759, w_760, w_72, w_761, by decide, by decide, by decide +kernel⟩
theorem mt_sat : MT yJ0_charAt_5068e cJ0_charAt_5068e 2 (some .char) 1 := ⟨rfl, w_769, w_770, w_72, w_771, by decide, by decide, by decide +kernel⟩
def rmS (f n : Nat) : Room := { frames := f, cells := 0, slots := 0, locals := n }
theorem c_coder {l : Launch} {γ : GE} {S : SH} {μ : Mem} {i : Nat} (hi : i < 10) : Ct l γ yJ0_coder_7d493 cJ0_coder_7d493 1 (some .byte) (rmS 0 0) [.ref (gK γ i)] S μ S μ (some (.int 0)) :=
  ct_of (by decide +kernel) (Nat.le_of_ble_eq_true rfl) (fun p e s m args below meth c F hr _ => by
    show JJ γ p l e (rmS 0 0) s m args below meth c 1 0 0 _ S μ 0 [(0, .ref (gK γ i))] []
    refine j_sZ F w_766 dJ0_coder_7d493_0 ?_
    refine j_ifeq (ρ := Unit) (X := ()) F 13 dJ0_coder_7d493_3 (by decide) (a := none) (b := some ()) (by rw [if_neg (by decide)]) (fun q _ => absurd q (by decide)) (fun _ _ => ?_)
    refine j_aload_n F 0 dJ0_coder_7d493_6 rfl ?_
    refine j_sC F hi w_1488 dJ0_coder_7d493_7 ?_
    refine j_goto F 14 dJ0_coder_7d493_10 (by decide) ?_
    exact j_xret F .byte hr rfl dJ0_coder_7d493_14)
theorem c_isLatin1 {l : Launch} {γ : GE} {S : SH} {μ : Mem} {i : Nat} (hi : i < 10) : Ct l γ yJ0_isLatin1_aae02 cJ0_isLatin1_aae02 1 (some .boolean) (rmS 0 0) [.ref (gK γ i)] S μ S μ (some (.int 1)) :=
  ct_of (by decide +kernel) (Nat.le_of_ble_eq_true rfl) (fun p e s m args below meth c F hr _ => by
    show JJ γ p l e (rmS 0 0) s m args below meth c 1 0 0 _ S μ 0 [(0, .ref (gK γ i))] []
    refine j_sZ F w_766 dJ0_isLatin1_aae02_0 ?_
    refine j_ifeq (ρ := Unit) (X := ()) F 17 dJ0_isLatin1_aae02_3 (by decide) (a := none) (b := some ()) (by rw [if_neg (by decide)]) (fun q _ => absurd q (by decide)) (fun _ _ => ?_)
    refine j_aload_n F 0 dJ0_isLatin1_aae02_6 rfl ?_
    refine j_sC F hi w_1488 dJ0_isLatin1_aae02_7 ?_
    refine j_ifne (ρ := Unit) (X := ()) F 17 dJ0_isLatin1_aae02_10 (by decide) (a := some ()) (b := none) (by rw [if_pos rfl]) (fun q _ => absurd rfl q) (fun _ _ => ?_)
    refine j_iconst F 1 dJ0_isLatin1_aae02_13 (by decide) ?_
    refine j_goto F 18 dJ0_isLatin1_aae02_14 (by decide) ?_
    exact j_xret F .boolean hr rfl dJ0_isLatin1_aae02_18)
theorem ks_shr : ∀ i, i < 10 → Int32.ofNat (ksB i).length >>> ((0 : Int32) &&& 31) = Int32.ofNat (ksB i).length := by decide +kernel
theorem c_slen {l : Launch} {γ : GE} {S : SH} {μ : Mem} {i : Nat} (hi : i < 10) : Ct l γ yJ0_length_8abf5 cJ0_length_8abf5 1 (some .int) (rmS 1 40) [.ref (gK γ i)] S μ S μ (some (.int (Int32.ofNat (ksB i).length))) :=
  ct_of (by decide +kernel) (Nat.le_of_ble_eq_true rfl) (fun p e s m args below meth c F hr _ => by
    show JJ γ p l e (rmS 1 40) s m args below meth c 1 0 0 _ S μ 0 [(0, .ref (gK γ i))] []
    refine j_aload_n F 0 dJ0_length_8abf5_0 rfl ?_
    refine j_sV F hi w_1487 dJ0_length_8abf5_1 ?_
    refine j_sN F hi dJ0_length_8abf5_4 ?_
    refine j_aload_n F 0 dJ0_length_8abf5_5 rfl ?_
    refine j_callT F hi mt_coder w_762 (c_coder hi) (rest := [.int (Int32.ofNat (ksB i).length)]) _ rfl rfl (Nat.le_of_ble_eq_true rfl) ⟨Nat.le_of_ble_eq_true rfl, Nat.le_of_ble_eq_true rfl⟩ ⟨Nat.le_of_ble_eq_true rfl, Nat.le_of_ble_eq_true rfl⟩ ⟨rfl, rfl⟩ dJ0_length_8abf5_6 ?_
    refine j_ishr F dJ0_length_8abf5_9 ?_
    rw [ks_shr i hi]
    exact j_xret F .int hr rfl dJ0_length_8abf5_10)
theorem c_check3 {l : Launch} {γ : GE} {S : SH} {μ : Mem} {x n : Int32} {v : Value} (hv : v = .null ∨ ∃ t, v = .ref t) (h0 : ¬ x < 0) (h1 : x < n) : Ct l γ yJ3_checkIndex_8e157 cJ3_checkIndex_8e157 3 (some .int) (rmS 0 0) [.int x, .int n, v] S μ S μ (some (.int x)) :=
  ct_of (by decide +kernel) (by rcases hv with rfl | ⟨t, rfl⟩ <;> exact Nat.le_of_ble_eq_true rfl) (fun p e s m args below meth c F hr _ => by
    show JJ γ p l e (rmS 0 0) s m args below meth c 3 0 0 _ S μ 0 [(0, .int x), (1, .int n), (2, v)] []
    refine j_iload_n F 0 dJ3_checkIndex_8e157_0 rfl ?_
    refine j_iflt (ρ := Unit) (X := ()) F 9 dJ3_checkIndex_8e157_1 (by decide) (a := none) (b := some ()) (by rw [if_neg h0]) (fun q _ => absurd q h0) (fun _ _ => ?_)
    refine j_iload_n F 0 dJ3_checkIndex_8e157_4 rfl ?_
    refine j_iload_n F 1 dJ3_checkIndex_8e157_5 rfl ?_
    refine j_icmplt (ρ := Unit) (X := ()) F 16 dJ3_checkIndex_8e157_6 (by decide) (a := some ()) (b := none) (by rw [if_pos h1]) (fun _ _ => ?_) (fun q _ => absurd h1 q)
    refine j_iload_n F 0 dJ3_checkIndex_8e157_16 rfl ?_
    exact j_xret F .int hr rfl dJ3_checkIndex_8e157_17)
theorem c_check0 {l : Launch} {γ : GE} {S : SH} {μ : Mem} {x n : Int32} (h0 : ¬ x < 0) (h1 : x < n) : Ct l γ yJ0_checkIndex_df160 cJ0_checkIndex_df160 2 none (rmS 1 40) [.int x, .int n] S μ S μ none :=
  ct_of (by decide +kernel) (Nat.le_of_ble_eq_true rfl) (fun p e s m args below meth c F hr _ => by
    show JJ γ p l e (rmS 1 40) s m args below meth c 2 0 0 _ S μ 0 [(0, .int x), (1, .int n)] []
    refine j_iload_n F 0 dJ0_checkIndex_df160_0 rfl ?_
    refine j_iload_n F 1 dJ0_checkIndex_df160_1 rfl ?_
    refine j_sF F w_782 dJ0_checkIndex_df160_2 (fun v hv => ?_)
    refine j_callS F mi_check3 w_784 (c_check3 hv h0 h1) (rest := []) _ rfl rfl (Nat.le_of_ble_eq_true rfl) ⟨Nat.le_of_ble_eq_true rfl, Nat.le_of_ble_eq_true rfl⟩ ⟨Nat.le_of_ble_eq_true rfl, Nat.le_of_ble_eq_true rfl⟩ dJ0_checkIndex_df160_5 ?_
    refine j_pop F rfl dJ0_checkIndex_df160_8 ?_
    exact j_vret0 F hr dJ0_checkIndex_df160_9)
theorem ks_chr : ∀ i, i < 10 → ∀ j, j < (ksB i).length → ((((ksB i).getD j 0) &&& 255).toUInt32 % 65536).toInt32 = (ksB i).getD j 0 ∧ narrow .char (.int ((ksB i).getD j 0)) = .int ((ksB i).getD j 0) := by decide +kernel
theorem ks_len : ∀ i, i < 10 → (ksB i).length < 10 := by decide +kernel
theorem ks_in {i : Nat} {x : Int32} (hi : i < 10) (hx : inb x (ksB i).length = true) : ¬ x < 0 ∧ x < Int32.ofNat (ksB i).length ∧ x.toNatClampNeg < (ksB i).length := by
  have h := inb_in hx
  have hl := ks_len i hi
  have h0 : ¬ x < 0 := fun q => h (Or.inl q)
  have h1 : x.toNatClampNeg < (ksB i).length := Nat.not_le.mp fun q => h (Or.inr q)
  obtain ⟨j, hj, rfl⟩ := nI_of h0
  rw [nI_clamp hj] at h1
  exact ⟨h0, nI_lt h1 (by omega), by rw [nI_clamp hj]; exact h1⟩
theorem c_lat {l : Launch} {γ : GE} {S : SH} {μ : Mem} {i : Nat} {x : Int32} (hi : i < 10) (hx : inb x (ksB i).length = true) : Ct l γ yJ1_charAt_3b067 cJ1_charAt_3b067 2 (some .char) (rmS 2 80) [.ref (gV γ i), .int x] S μ S μ (some (.int ((ksB i).getD x.toNatClampNeg 0))) :=
  ct_of (by decide +kernel) (Nat.le_of_ble_eq_true rfl) (fun p e s m args below meth c F hr _ => by
    show JJ γ p l e (rmS 2 80) s m args below meth c 2 0 0 _ S μ 0 [(0, .ref (gV γ i)), (1, .int x)] []
    obtain ⟨h0, h1, h2⟩ := ks_in hi hx
    refine j_iload_n F 1 dJ1_charAt_3b067_0 rfl ?_
    refine j_aload_n F 0 dJ1_charAt_3b067_1 rfl ?_
    refine j_sN F hi dJ1_charAt_3b067_2 ?_
    refine j_callS F mi_check0 w_779 (c_check0 h0 h1) (rest := []) _ rfl rfl (Nat.le_of_ble_eq_true rfl) ⟨Nat.le_of_ble_eq_true rfl, Nat.le_of_ble_eq_true rfl⟩ ⟨Nat.le_of_ble_eq_true rfl, Nat.le_of_ble_eq_true rfl⟩ dJ1_charAt_3b067_3 ?_
    refine j_aload_n F 0 dJ1_charAt_3b067_6 rfl ?_
    refine j_iload_n F 1 dJ1_charAt_3b067_7 rfl ?_
    refine j_sB F hi hx dJ1_charAt_3b067_8 ?_
    refine j_sipush F 255 dJ1_charAt_3b067_9 (by decide) ?_
    refine j_iand F dJ1_charAt_3b067_12 ?_
    refine j_i2c F dJ1_charAt_3b067_13 ?_
    rw [(ks_chr i hi _ h2).1]
    exact j_xret F .char hr (ks_chr i hi _ h2).2 dJ1_charAt_3b067_14)
theorem c_sat {l : Launch} {γ : GE} {S : SH} {μ : Mem} {i : Nat} {x : Int32} (hi : i < 10) (hx : inb x (ksB i).length = true) : Ct l γ yJ0_charAt_5068e cJ0_charAt_5068e 2 (some .char) (rmS 3 110) [.ref (gK γ i), .int x] S μ S μ (some (.int ((ksB i).getD x.toNatClampNeg 0))) :=
  ct_of (by decide +kernel) (Nat.le_of_ble_eq_true rfl) (fun p e s m args below meth c F hr _ => by
    show JJ γ p l e (rmS 3 110) s m args below meth c 2 0 0 _ S μ 0 [(0, .ref (gK γ i)), (1, .int x)] []
    obtain ⟨h0, h1, h2⟩ := ks_in hi hx
    refine j_aload_n F 0 dJ0_charAt_5068e_0 rfl ?_
    refine j_callT F hi mt_isLatin1 w_772 (c_isLatin1 hi) (rest := []) _ rfl rfl (Nat.le_of_ble_eq_true rfl) ⟨Nat.le_of_ble_eq_true rfl, Nat.le_of_ble_eq_true rfl⟩ ⟨Nat.le_of_ble_eq_true rfl, Nat.le_of_ble_eq_true rfl⟩ ⟨rfl, rfl⟩ dJ0_charAt_5068e_1 ?_
    refine j_ifeq (ρ := Unit) (X := ()) F 16 dJ0_charAt_5068e_4 (by decide) (a := none) (b := some ()) (by rw [if_neg (by decide)]) (fun q _ => absurd q (by decide)) (fun _ _ => ?_)
    refine j_aload_n F 0 dJ0_charAt_5068e_7 rfl ?_
    refine j_sV F hi w_1487 dJ0_charAt_5068e_8 ?_
    refine j_iload_n F 1 dJ0_charAt_5068e_11 rfl ?_
    refine j_callS F mi_lat w_776 (c_lat hi hx) (rest := []) _ rfl rfl (Nat.le_of_ble_eq_true rfl) ⟨Nat.le_of_ble_eq_true rfl, Nat.le_of_ble_eq_true rfl⟩ ⟨Nat.le_of_ble_eq_true rfl, Nat.le_of_ble_eq_true rfl⟩ dJ0_charAt_5068e_12 ?_
    exact j_xret F .char hr (ks_chr i hi _ h2).2 dJ0_charAt_5068e_15)
section Rows4
variable {γ : GE} {p : Program} {l : Launch} {e : Env} {R : Room} {s : State} {m : MethodId} {args : Array Value} {below : List Frame} {meth : Method} {c : Code} {cc : ByteArray} {own : String} {nL : Nat} {cells slots : Nat} {Q : State → Prop} {S : SH} {μ : Mem} {pc : Nat} {lv : List (Nat × Value)} {st rest : List Value} {ρ : Type} {X : ρ} {idx : Nat}
theorem j_slen (F : FX γ p s m args meth c cc own nL) {i : Nat} {K : Int32 → Option ρ} (hlk : Cond.methodLink own idx yJ0_length_8abf5 ∈ GG) (hr : (rest.map fun v => v.category).sum ≤ 8) (hR : (rmS 1 40).frames + 1 ≤ R.frames ∧ 8 + (1 + 11) + (rmS 1 40).locals ≤ R.locals) (hc : cells ≤ R.cells ∧ slots ≤ R.slots) (hd : decode cc pc = .ok (.invokevirtual idx, 3)) (h : (tLen i).bind K = some X) (k : ∀ v, K v = some X → JJ γ p l e R s m args below meth c nL cells slots Q S μ (pc + 3) lv (.int v :: rest)) : JJ γ p l e R s m args below meth c nL cells slots Q S μ pc lv (.ref (gK γ i) :: rest) := by
  obtain ⟨v, hv, h⟩ := bd_some h
  obtain ⟨hi, hv⟩ := if_some hv
  cases hv
  exact j_callT F hi mt_slen hlk (c_slen hi) (As := []) _ rfl rfl hr hR hc ⟨rfl, rfl⟩ hd (k _ h)
theorem j_sat (F : FX γ p s m args meth c cc own nL) {i : Nat} {x : Int32} {K : Int32 → Option ρ} (hlk : Cond.methodLink own idx yJ0_charAt_5068e ∈ GG) (hr : (rest.map fun v => v.category).sum ≤ 8) (hR : (rmS 3 110).frames + 1 ≤ R.frames ∧ 8 + (2 + 11) + (rmS 3 110).locals ≤ R.locals) (hc : cells ≤ R.cells ∧ slots ≤ R.slots) (hd : decode cc pc = .ok (.invokevirtual idx, 3)) (h : (tAt i x).bind K = some X) (k : ∀ v, K v = some X → JJ γ p l e R s m args below meth c nL cells slots Q S μ (pc + 3) lv (.int v :: rest)) : JJ γ p l e R s m args below meth c nL cells slots Q S μ pc lv (.int x :: .ref (gK γ i) :: rest) := by
  obtain ⟨v, hv, h⟩ := bd_some h
  obtain ⟨⟨hi, hx⟩, hv⟩ := if_some hv
  cases hv
  exact j_callT F hi mt_sat hlk (c_sat hi hx) (As := [.int x]) _ rfl rfl hr hR hc ⟨rfl, rfl⟩ hd (k _ h)
end Rows4
