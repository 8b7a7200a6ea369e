theorem w_385 : (Jvm.Cond.methodLink "CranePads$Book" (3 : Nat) ({ cls := "java/lang/Object", name := "<init>", desc := "()V" } : Jvm.MethodName)) ∈ GG := gg_mem 385 (by decide +kernel) rfl
theorem w_157 : (Jvm.Cond.arrayClass Jvm.ClassFile.FieldType.int) ∈ GG := gg_mem 157 (by decide +kernel) rfl
theorem w_383 : (Jvm.Cond.instanceMethod ({ cls := "CranePads$Book", name := "<init>", desc := "()V" } : Jvm.MethodName)) ∈ GG := gg_mem 383 (by decide +kernel) rfl
theorem w_384 : (Jvm.Cond.code ({ cls := "CranePads$Book", name := "<init>", desc := "()V" } : Jvm.MethodName) prog_2_method_1_code (1 : Nat) (Option.none : Option Jvm.ClassFile.FieldType)) ∈ GG := gg_mem 384 (by decide +kernel) rfl
theorem w_214 : (Jvm.Cond.methodLink "CranePads$Chart" (3 : Nat) ({ cls := "java/lang/Object", name := "<init>", desc := "()V" } : Jvm.MethodName)) ∈ GG := gg_mem 214 (by decide +kernel) rfl
theorem w_215 : (Jvm.Cond.methodLink "CranePads$Chart" (15 : Nat) ({ cls := "java/util/Arrays", name := "fill", desc := "([II)V" } : Jvm.MethodName)) ∈ GG := gg_mem 215 (by decide +kernel) rfl
theorem w_212 : (Jvm.Cond.instanceMethod ({ cls := "CranePads$Chart", name := "<init>", desc := "()V" } : Jvm.MethodName)) ∈ GG := gg_mem 212 (by decide +kernel) rfl
theorem w_213 : (Jvm.Cond.code ({ cls := "CranePads$Chart", name := "<init>", desc := "()V" } : Jvm.MethodName) prog_3_method_1_code (1 : Nat) (Option.none : Option Jvm.ClassFile.FieldType)) ∈ GG := gg_mem 213 (by decide +kernel) rfl
theorem w_95 : (Jvm.Cond.methodLink "CranePads$Pads" (3 : Nat) ({ cls := "java/lang/Object", name := "<init>", desc := "()V" } : Jvm.MethodName)) ∈ GG := gg_mem 95 (by decide +kernel) rfl
theorem w_93 : (Jvm.Cond.instanceMethod ({ cls := "CranePads$Pads", name := "<init>", desc := "()V" } : Jvm.MethodName)) ∈ GG := gg_mem 93 (by decide +kernel) rfl
theorem w_94 : (Jvm.Cond.code ({ cls := "CranePads$Pads", name := "<init>", desc := "()V" } : Jvm.MethodName) prog_6_method_1_code (1 : Nat) (Option.none : Option Jvm.ClassFile.FieldType)) ∈ GG := gg_mem 94 (by decide +kernel) rfl
theorem w_163 : (Jvm.Cond.methodLink "CranePads$Parts" (3 : Nat) ({ cls := "java/lang/Object", name := "<init>", desc := "()V" } : Jvm.MethodName)) ∈ GG := gg_mem 163 (by decide +kernel) rfl
theorem w_207 : (Jvm.Cond.arrayClass Jvm.ClassFile.FieldType.boolean) ∈ GG := gg_mem 207 (by decide +kernel) rfl
theorem w_161 : (Jvm.Cond.instanceMethod ({ cls := "CranePads$Parts", name := "<init>", desc := "()V" } : Jvm.MethodName)) ∈ GG := gg_mem 161 (by decide +kernel) rfl
theorem w_162 : (Jvm.Cond.code ({ cls := "CranePads$Parts", name := "<init>", desc := "()V" } : Jvm.MethodName) prog_7_method_1_code (1 : Nat) (Option.none : Option Jvm.ClassFile.FieldType)) ∈ GG := gg_mem 162 (by decide +kernel) rfl
theorem w_337 : (Jvm.Cond.methodLink "CranePads$Plan" (3 : Nat) ({ cls := "java/lang/Object", name := "<init>", desc := "()V" } : Jvm.MethodName)) ∈ GG := gg_mem 337 (by decide +kernel) rfl
theorem w_335 : (Jvm.Cond.instanceMethod ({ cls := "CranePads$Plan", name := "<init>", desc := "()V" } : Jvm.MethodName)) ∈ GG := gg_mem 335 (by decide +kernel) rfl
theorem w_336 : (Jvm.Cond.code ({ cls := "CranePads$Plan", name := "<init>", desc := "()V" } : Jvm.MethodName) prog_8_method_1_code (1 : Nat) (Option.none : Option Jvm.ClassFile.FieldType)) ∈ GG := gg_mem 336 (by decide +kernel) rfl
theorem w_302 : (Jvm.Cond.methodLink "CranePads$Route" (3 : Nat) ({ cls := "java/lang/Object", name := "<init>", desc := "()V" } : Jvm.MethodName)) ∈ GG := gg_mem 302 (by decide +kernel) rfl
theorem w_300 : (Jvm.Cond.instanceMethod ({ cls := "CranePads$Route", name := "<init>", desc := "()V" } : Jvm.MethodName)) ∈ GG := gg_mem 300 (by decide +kernel) rfl
theorem w_301 : (Jvm.Cond.code ({ cls := "CranePads$Route", name := "<init>", desc := "()V" } : Jvm.MethodName) prog_9_method_1_code (1 : Nat) (Option.none : Option Jvm.ClassFile.FieldType)) ∈ GG := gg_mem 301 (by decide +kernel) rfl
theorem w_408 : (Jvm.Cond.methodLink "CranePads$Rows" (3 : Nat) ({ cls := "java/lang/Object", name := "<init>", desc := "()V" } : Jvm.MethodName)) ∈ GG := gg_mem 408 (by decide +kernel) rfl
theorem w_409 : (Jvm.Cond.classLink "CranePads$Rows" (9 : Nat) "[[J") ∈ GG := gg_mem 409 (by decide +kernel) rfl
theorem w_406 : (Jvm.Cond.instanceMethod ({ cls := "CranePads$Rows", name := "<init>", desc := "()V" } : Jvm.MethodName)) ∈ GG := gg_mem 406 (by decide +kernel) rfl
theorem w_407 : (Jvm.Cond.code ({ cls := "CranePads$Rows", name := "<init>", desc := "()V" } : Jvm.MethodName) prog_10_method_1_code (1 : Nat) (Option.none : Option Jvm.ClassFile.FieldType)) ∈ GG := gg_mem 407 (by decide +kernel) rfl
theorem w_319 : (Jvm.Cond.methodLink "CranePads$Tape" (3 : Nat) ({ cls := "java/lang/Object", name := "<init>", desc := "()V" } : Jvm.MethodName)) ∈ GG := gg_mem 319 (by decide +kernel) rfl
theorem w_331 : (Jvm.Cond.arrayClass Jvm.ClassFile.FieldType.byte) ∈ GG := gg_mem 331 (by decide +kernel) rfl
theorem w_317 : (Jvm.Cond.instanceMethod ({ cls := "CranePads$Tape", name := "<init>", desc := "()V" } : Jvm.MethodName)) ∈ GG := gg_mem 317 (by decide +kernel) rfl
theorem w_318 : (Jvm.Cond.code ({ cls := "CranePads$Tape", name := "<init>", desc := "()V" } : Jvm.MethodName) prog_11_method_1_code (1 : Nat) (Option.none : Option Jvm.ClassFile.FieldType)) ∈ GG := gg_mem 318 (by decide +kernel) rfl
theorem w_358 : (Jvm.Cond.methodLink "CranePads$Walk" (3 : Nat) ({ cls := "java/lang/Object", name := "<init>", desc := "()V" } : Jvm.MethodName)) ∈ GG := gg_mem 358 (by decide +kernel) rfl
theorem w_356 : (Jvm.Cond.instanceMethod ({ cls := "CranePads$Walk", name := "<init>", desc := "()V" } : Jvm.MethodName)) ∈ GG := gg_mem 356 (by decide +kernel) rfl
theorem w_357 : (Jvm.Cond.code ({ cls := "CranePads$Walk", name := "<init>", desc := "()V" } : Jvm.MethodName) prog_12_method_1_code (1 : Nat) (Option.none : Option Jvm.ClassFile.FieldType)) ∈ GG := gg_mem 357 (by decide +kernel) rfl
theorem w_262 : (Jvm.Cond.methodLink "CranePads$Judge" (3 : Nat) ({ cls := "java/lang/Object", name := "<init>", desc := "()V" } : Jvm.MethodName)) ∈ GG := gg_mem 262 (by decide +kernel) rfl
theorem w_296 : (Jvm.Cond.arrayClass Jvm.ClassFile.FieldType.long) ∈ GG := gg_mem 296 (by decide +kernel) rfl
theorem w_260 : (Jvm.Cond.instanceMethod ({ cls := "CranePads$Judge", name := "<init>", desc := "()V" } : Jvm.MethodName)) ∈ GG := gg_mem 260 (by decide +kernel) rfl
theorem w_261 : (Jvm.Cond.code ({ cls := "CranePads$Judge", name := "<init>", desc := "()V" } : Jvm.MethodName) prog_5_method_1_code (1 : Nat) (Option.none : Option Jvm.ClassFile.FieldType)) ∈ GG := gg_mem 261 (by decide +kernel) rfl
theorem w_89 : (Jvm.Cond.methodLink "CranePads$Crane" (3 : Nat) ({ cls := "java/lang/Object", name := "<init>", desc := "()V" } : Jvm.MethodName)) ∈ GG := gg_mem 89 (by decide +kernel) rfl
theorem w_90 : (Jvm.Cond.classLink "CranePads$Crane" (9 : Nat) "CranePads$Pads") ∈ GG := gg_mem 90 (by decide +kernel) rfl
theorem w_91 : (Jvm.Cond.instantiable "CranePads$Pads" (11 : Nat)) ∈ GG := gg_mem 91 (by decide +kernel) rfl
theorem w_92 : (Jvm.Cond.methodLink "CranePads$Crane" (11 : Nat) ({ cls := "CranePads$Pads", name := "<init>", desc := "()V" } : Jvm.MethodName)) ∈ GG := gg_mem 92 (by decide +kernel) rfl
theorem w_158 : (Jvm.Cond.classLink "CranePads$Crane" (18 : Nat) "CranePads$Parts") ∈ GG := gg_mem 158 (by decide +kernel) rfl
theorem w_159 : (Jvm.Cond.instantiable "CranePads$Parts" (10 : Nat)) ∈ GG := gg_mem 159 (by decide +kernel) rfl
theorem w_208 : (Jvm.Cond.classLink "CranePads$Crane" (25 : Nat) "CranePads$Chart") ∈ GG := gg_mem 208 (by decide +kernel) rfl
theorem w_210 : (Jvm.Cond.instantiable "CranePads$Chart" (2 : Nat)) ∈ GG := gg_mem 210 (by decide +kernel) rfl
theorem w_211 : (Jvm.Cond.methodLink "CranePads$Crane" (31 : Nat) ({ cls := "CranePads$Chart", name := "<init>", desc := "()V" } : Jvm.MethodName)) ∈ GG := gg_mem 211 (by decide +kernel) rfl
theorem w_228 : (Jvm.Cond.methodLink "CranePads$Crane" (36 : Nat) ({ cls := "[I", name := "clone", desc := "()Ljava/lang/Object;" } : Jvm.MethodName)) ∈ GG := gg_mem 228 (by decide +kernel) rfl
theorem w_229 : (Jvm.Cond.sameMethod "[I" "java/lang/Object" "clone" "()Ljava/lang/Object;") ∈ GG := gg_mem 229 (by decide +kernel) rfl
theorem w_230 : (Jvm.Cond.native ({ cls := "java/lang/Object", name := "clone", desc := "()Ljava/lang/Object;" } : Jvm.MethodName)) ∈ GG := gg_mem 230 (by decide +kernel) rfl
theorem w_231 : (Jvm.Cond.instanceMethod ({ cls := "java/lang/Object", name := "clone", desc := "()Ljava/lang/Object;" } : Jvm.MethodName)) ∈ GG := gg_mem 231 (by decide +kernel) rfl
theorem w_232 : (Jvm.Cond.selects "[I" ({ cls := "[I", name := "clone", desc := "()Ljava/lang/Object;" } : Jvm.MethodName) ({ cls := "java/lang/Object", name := "clone", desc := "()Ljava/lang/Object;" } : Jvm.MethodName)) ∈ GG := gg_mem 232 (by decide +kernel) rfl
theorem w_234 : (Jvm.Cond.classLink "CranePads$Crane" (37 : Nat) "[I") ∈ GG := gg_mem 234 (by decide +kernel) rfl
theorem w_87 : (Jvm.Cond.instanceMethod ({ cls := "CranePads$Crane", name := "<init>", desc := "()V" } : Jvm.MethodName)) ∈ GG := gg_mem 87 (by decide +kernel) rfl
theorem w_88 : (Jvm.Cond.code ({ cls := "CranePads$Crane", name := "<init>", desc := "()V" } : Jvm.MethodName) prog_4_method_1_code (2 : Nat) (Option.none : Option Jvm.ClassFile.FieldType)) ∈ GG := gg_mem 88 (by decide +kernel) rfl
theorem w_81 : (Jvm.Cond.methodLink "CranePads" (3 : Nat) ({ cls := "java/lang/Object", name := "<init>", desc := "()V" } : Jvm.MethodName)) ∈ GG := gg_mem 81 (by decide +kernel) rfl
theorem w_84 : (Jvm.Cond.classLink "CranePads" (9 : Nat) "CranePads$Crane") ∈ GG := gg_mem 84 (by decide +kernel) rfl
theorem w_85 : (Jvm.Cond.instantiable "CranePads$Crane" (4 : Nat)) ∈ GG := gg_mem 85 (by decide +kernel) rfl
theorem w_86 : (Jvm.Cond.methodLink "CranePads" (11 : Nat) ({ cls := "CranePads$Crane", name := "<init>", desc := "()V" } : Jvm.MethodName)) ∈ GG := gg_mem 86 (by decide +kernel) rfl
theorem w_257 : (Jvm.Cond.classLink "CranePads" (24 : Nat) "CranePads$Judge") ∈ GG := gg_mem 257 (by decide +kernel) rfl
theorem w_258 : (Jvm.Cond.instantiable "CranePads$Judge" (8 : Nat)) ∈ GG := gg_mem 258 (by decide +kernel) rfl
theorem w_297 : (Jvm.Cond.classLink "CranePads" (31 : Nat) "CranePads$Route") ∈ GG := gg_mem 297 (by decide +kernel) rfl
theorem w_298 : (Jvm.Cond.instantiable "CranePads$Route" (3 : Nat)) ∈ GG := gg_mem 298 (by decide +kernel) rfl
theorem w_314 : (Jvm.Cond.classLink "CranePads" (38 : Nat) "CranePads$Tape") ∈ GG := gg_mem 314 (by decide +kernel) rfl
theorem w_315 : (Jvm.Cond.instantiable "CranePads$Tape" (3 : Nat)) ∈ GG := gg_mem 315 (by decide +kernel) rfl
theorem w_332 : (Jvm.Cond.classLink "CranePads" (45 : Nat) "CranePads$Plan") ∈ GG := gg_mem 332 (by decide +kernel) rfl
theorem w_333 : (Jvm.Cond.instantiable "CranePads$Plan" (3 : Nat)) ∈ GG := gg_mem 333 (by decide +kernel) rfl
theorem w_353 : (Jvm.Cond.classLink "CranePads" (55 : Nat) "CranePads$Walk") ∈ GG := gg_mem 353 (by decide +kernel) rfl
theorem w_354 : (Jvm.Cond.instantiable "CranePads$Walk" (5 : Nat)) ∈ GG := gg_mem 354 (by decide +kernel) rfl
theorem w_380 : (Jvm.Cond.classLink "CranePads" (62 : Nat) "CranePads$Book") ∈ GG := gg_mem 380 (by decide +kernel) rfl
theorem w_381 : (Jvm.Cond.instantiable "CranePads$Book" (4 : Nat)) ∈ GG := gg_mem 381 (by decide +kernel) rfl
theorem w_403 : (Jvm.Cond.classLink "CranePads" (69 : Nat) "CranePads$Rows") ∈ GG := gg_mem 403 (by decide +kernel) rfl
theorem w_404 : (Jvm.Cond.instantiable "CranePads$Rows" (2 : Nat)) ∈ GG := gg_mem 404 (by decide +kernel) rfl
theorem w_79 : (Jvm.Cond.instanceMethod ({ cls := "CranePads", name := "<init>", desc := "()V" } : Jvm.MethodName)) ∈ GG := gg_mem 79 (by decide +kernel) rfl
theorem w_80 : (Jvm.Cond.code ({ cls := "CranePads", name := "<init>", desc := "()V" } : Jvm.MethodName) prog_1_method_1_code (1 : Nat) (Option.none : Option Jvm.ClassFile.FieldType)) ∈ GG := gg_mem 80 (by decide +kernel) rfl
theorem w_972 : (Jvm.Cond.methodLink "CranePadsModel" (3 : Nat) ({ cls := "java/lang/Object", name := "<init>", desc := "()V" } : Jvm.MethodName)) ∈ GG := gg_mem 972 (by decide +kernel) rfl
theorem w_970 : (Jvm.Cond.instanceMethod ({ cls := "CranePadsModel", name := "<init>", desc := "()V" } : Jvm.MethodName)) ∈ GG := gg_mem 970 (by decide +kernel) rfl
theorem w_971 : (Jvm.Cond.code ({ cls := "CranePadsModel", name := "<init>", desc := "()V" } : Jvm.MethodName) prog_14_method_1_code (1 : Nat) (Option.none : Option Jvm.ClassFile.FieldType)) ∈ GG := gg_mem 971 (by decide +kernel) rfl
theorem w_82 : (Jvm.Cond.instanceMethod ({ cls := "java/lang/Object", name := "<init>", desc := "()V" } : Jvm.MethodName)) ∈ GG := gg_mem 82 (by decide +kernel) rfl
theorem w_83 : (Jvm.Cond.code ({ cls := "java/lang/Object", name := "<init>", desc := "()V" } : Jvm.MethodName) object_method_1_code (1 : Nat) (Option.none : Option Jvm.ClassFile.FieldType)) ∈ GG := gg_mem 83 (by decide +kernel) rfl
theorem oiw : Cond.instanceMethod objectInit ∈ GG ∧ Cond.code objectInit ⟨#[0xb1]⟩ 1 none ∈ GG := ⟨w_82, w_83⟩
def rm_X0_init : Room := { frames := 1, cells := 3, slots := 24, locals := 30 }
theorem dX0_init_0 : decode cX0_init 0 = .ok (.aload_n 0, 1) := by decide +kernel
theorem dX0_init_1 : decode cX0_init 1 = .ok (.invokespecial 3, 3) := by decide +kernel
theorem dX0_init_4 : decode cX0_init 4 = .ok (.aload_n 0, 1) := by decide +kernel
theorem dX0_init_5 : decode cX0_init 5 = .ok (.bipush 8, 2) := by decide +kernel
theorem dX0_init_7 : decode cX0_init 7 = .ok (.newarray .int, 2) := by decide +kernel
theorem dX0_init_9 : decode cX0_init 9 = .ok (.putfield 9, 3) := by decide +kernel
theorem dX0_init_12 : decode cX0_init 12 = .ok (.aload_n 0, 1) := by decide +kernel
theorem dX0_init_13 : decode cX0_init 13 = .ok (.bipush 8, 2) := by decide +kernel
theorem dX0_init_15 : decode cX0_init 15 = .ok (.newarray .int, 2) := by decide +kernel
theorem dX0_init_17 : decode cX0_init 17 = .ok (.putfield 15, 3) := by decide +kernel
theorem dX0_init_20 : decode cX0_init 20 = .ok (.aload_n 0, 1) := by decide +kernel
theorem dX0_init_21 : decode cX0_init 21 = .ok (.bipush 8, 2) := by decide +kernel
theorem dX0_init_23 : decode cX0_init 23 = .ok (.newarray .int, 2) := by decide +kernel
theorem dX0_init_25 : decode cX0_init 25 = .ok (.putfield 18, 3) := by decide +kernel
theorem dX0_init_28 : decode cX0_init 28 = .ok (.return_, 1) := by decide +kernel
theorem mc_X0_init : MC yX0_init cX0_init 1 0 := ⟨rfl, w_383, w_67, w_384, by decide, by decide, by decide +kernel⟩
def k_X0_init (S : SH) (a0 : Nat) (μ : Mem) : Option STT :=
  (some (nwA .int 8 S μ)).bind fun σ1 =>
  (pR (σ1.1) 0 a0 0 S.1).bind fun T2 =>
  (some (nwA .int 8 T2 (σ1.2))).bind fun σ3 =>
  (pR (σ3.1) 0 a0 1 T2.1).bind fun T4 =>
  (some (nwA .int 8 T4 (σ3.2))).bind fun σ5 =>
  (pR (σ5.1) 0 a0 2 T4.1).bind fun T6 =>
  some (T6, σ5.2)
set_option maxRecDepth 100000 in
set_option maxHeartbeats 4000000 in
theorem ck_X0_init {l : Launch} {γ : GE} {S : SH} {a0 : Nat} {μ : Mem} {X : STT} (h : k_X0_init S a0 μ = some X) : Ct l γ yX0_init cX0_init 1 none rm_X0_init [.ref (gb γ + a0)] S μ X.1 X.2 none := by
  unfold k_X0_init at h
  have hJ : ∀ (p : Program) (e : Env) (s : State) (m : MethodId) (args : Array Value) (below : List Frame) (meth : Method) (c : Code), FX γ p s m args meth c cX0_init RX0 1 → meth.sig.returnType = none → meth.name = "<init>" → JJ γ p l e rm_X0_init s m args below meth c 1 0 0 (MQ below (Qm γ X.1 X.2 none) args s 3 24 (AA γ)) S μ 0 [(0, .ref (gb γ + a0))] [] := by
    intro p e s m args below meth c F hr hin
    refine j_aload_n F 0 dX0_init_0 rfl ?_
    refine j_objI F w_385 oiw ⟨(Nat.le_of_ble_eq_true rfl), (Nat.le_of_ble_eq_true rfl)⟩ dX0_init_1 ?_
    refine j_aload_n F 0 dX0_init_4 rfl ?_
    refine j_bipush F 8 dX0_init_5 (by decide) ?_
    refine j_newa (atype := .int) (ty := .int) F 8 0 rfl (by decide) rfl w_157 (by decide) (by decide) (Nat.le_of_ble_eq_true rfl) (Nat.le_of_ble_eq_true rfl) (Nat.le_of_ble_eq_true rfl) dX0_init_7 h (fun σ1 h => ?_)
    refine j_pR (j := 0) F cp0 (Nat.le_of_ble_eq_true rfl) w_386 rfl rfl rfl hin rfl dX0_init_9 h (fun T2 h => ?_)
    refine j_aload_n F 0 dX0_init_12 rfl ?_
    refine j_bipush F 8 dX0_init_13 (by decide) ?_
    refine j_newa (atype := .int) (ty := .int) F 8 0 rfl (by decide) rfl w_157 (by decide) (by decide) (Nat.le_of_ble_eq_true rfl) (Nat.le_of_ble_eq_true rfl) (Nat.le_of_ble_eq_true rfl) dX0_init_15 h (fun σ3 h => ?_)
    refine j_pR (j := 1) F cp0 (Nat.le_of_ble_eq_true rfl) w_388 rfl rfl rfl hin rfl dX0_init_17 h (fun T4 h => ?_)
    refine j_aload_n F 0 dX0_init_20 rfl ?_
    refine j_bipush F 8 dX0_init_21 (by decide) ?_
    refine j_newa (atype := .int) (ty := .int) F 8 0 rfl (by decide) rfl w_157 (by decide) (by decide) (Nat.le_of_ble_eq_true rfl) (Nat.le_of_ble_eq_true rfl) (Nat.le_of_ble_eq_true rfl) dX0_init_23 h (fun σ5 h => ?_)
    refine j_pR (j := 2) F cp0 (Nat.le_of_ble_eq_true rfl) w_390 rfl rfl rfl hin rfl dX0_init_25 h (fun T6 h => ?_)
    exact j_cret F hr dX0_init_28 h
  exact ct_of (by decide +kernel) (Nat.le_of_ble_eq_true rfl) (fun p e s m args below meth c F hr hin => hJ p e s m args below meth c F hr hin)
def rm_X1_init : Room := { frames := 1, cells := 1, slots := 61, locals := 30 }
theorem dX1_init_0 : decode cX1_init 0 = .ok (.aload_n 0, 1) := by decide +kernel
theorem dX1_init_1 : decode cX1_init 1 = .ok (.invokespecial 3, 3) := by decide +kernel
theorem dX1_init_4 : decode cX1_init 4 = .ok (.aload_n 0, 1) := by decide +kernel
theorem dX1_init_5 : decode cX1_init 5 = .ok (.bipush 61, 2) := by decide +kernel
theorem dX1_init_7 : decode cX1_init 7 = .ok (.newarray .int, 2) := by decide +kernel
theorem dX1_init_9 : decode cX1_init 9 = .ok (.putfield 9, 3) := by decide +kernel
theorem dX1_init_12 : decode cX1_init 12 = .ok (.aload_n 0, 1) := by decide +kernel
theorem dX1_init_13 : decode cX1_init 13 = .ok (.getfield 9, 3) := by decide +kernel
theorem dX1_init_16 : decode cX1_init 16 = .ok (.iconst (-1), 1) := by decide +kernel
theorem dX1_init_17 : decode cX1_init 17 = .ok (.invokestatic 15, 3) := by decide +kernel
theorem dX1_init_20 : decode cX1_init 20 = .ok (.return_, 1) := by decide +kernel
theorem mc_X1_init : MC yX1_init cX1_init 1 0 := ⟨rfl, w_212, w_60, w_213, by decide, by decide, by decide +kernel⟩
def k_X1_init (S : SH) (a0 : Nat) (μ : Mem) : Option STT :=
  (some (nwA .int 61 S μ)).bind fun σ1 =>
  (pR (σ1.1) 1 a0 0 S.1).bind fun T2 =>
  (gR T2 1 a0 0).bind fun v3 =>
  (f_J7_fill_53178 T2 v3 (-1) (σ1.2)).bind fun q4 =>
  some (T2, q4.2)
set_option maxRecDepth 100000 in
set_option maxHeartbeats 4000000 in
theorem ck_X1_init {l : Launch} {γ : GE} {S : SH} {a0 : Nat} {μ : Mem} {X : STT} (h : k_X1_init S a0 μ = some X) : Ct l γ yX1_init cX1_init 1 none rm_X1_init [.ref (gb γ + a0)] S μ X.1 X.2 none := by
  unfold k_X1_init at h
  have hJ : ∀ (p : Program) (e : Env) (s : State) (m : MethodId) (args : Array Value) (below : List Frame) (meth : Method) (c : Code), FX γ p s m args meth c cX1_init RX1 1 → meth.sig.returnType = none → meth.name = "<init>" → JJ γ p l e rm_X1_init s m args below meth c 1 0 0 (MQ below (Qm γ X.1 X.2 none) args s 1 61 (AA γ)) S μ 0 [(0, .ref (gb γ + a0))] [] := by
    intro p e s m args below meth c F hr hin
    refine j_aload_n F 0 dX1_init_0 rfl ?_
    refine j_objI F w_214 oiw ⟨(Nat.le_of_ble_eq_true rfl), (Nat.le_of_ble_eq_true rfl)⟩ dX1_init_1 ?_
    refine j_aload_n F 0 dX1_init_4 rfl ?_
    refine j_bipush F 61 dX1_init_5 (by decide) ?_
    refine j_newa (atype := .int) (ty := .int) F 61 0 rfl (by decide) rfl w_157 (by decide) (by decide) (Nat.le_of_ble_eq_true rfl) (Nat.le_of_ble_eq_true rfl) (Nat.le_of_ble_eq_true rfl) dX1_init_7 h (fun σ1 h => ?_)
    refine j_pR (j := 0) F cp1 (Nat.le_of_ble_eq_true rfl) w_218 rfl rfl rfl hin rfl dX1_init_9 h (fun T2 h => ?_)
    refine j_aload_n F 0 dX1_init_12 rfl ?_
    refine j_gR F fl_RX1_9 rfl dX1_init_13 h (fun v3 h => ?_)
    refine j_iconst F (-1) dX1_init_16 (by decide) ?_
    refine j_cSV F mi_J7_fill_53178 w_215 (rest := []) h (fun _ g => c_J7_fill_53178 g) rfl rfl (Nat.le_of_ble_eq_true rfl) ⟨(Nat.le_of_ble_eq_true rfl), (Nat.le_of_ble_eq_true rfl)⟩ ⟨(Nat.le_of_ble_eq_true rfl), (Nat.le_of_ble_eq_true rfl)⟩ dX1_init_17 (fun q4 h => ?_)
    exact j_cret F hr dX1_init_20 h
  exact ct_of (by decide +kernel) (Nat.le_of_ble_eq_true rfl) (fun p e s m args below meth c F hr hin => hJ p e s m args below meth c F hr hin)
def rm_X4_init : Room := { frames := 3, cells := 3, slots := 12, locals := 74 }
theorem dX4_init_0 : decode cX4_init 0 = .ok (.aload_n 0, 1) := by decide +kernel
theorem dX4_init_1 : decode cX4_init 1 = .ok (.invokespecial 3, 3) := by decide +kernel
theorem dX4_init_4 : decode cX4_init 4 = .ok (.aload_n 0, 1) := by decide +kernel
theorem dX4_init_5 : decode cX4_init 5 = .ok (.iconst 4, 1) := by decide +kernel
theorem dX4_init_6 : decode cX4_init 6 = .ok (.newarray .int, 2) := by decide +kernel
theorem dX4_init_8 : decode cX4_init 8 = .ok (.dup, 1) := by decide +kernel
theorem dX4_init_9 : decode cX4_init 9 = .ok (.iconst 0, 1) := by decide +kernel
theorem dX4_init_10 : decode cX4_init 10 = .ok (.bipush 10, 2) := by decide +kernel
theorem dX4_init_12 : decode cX4_init 12 = .ok (.iastore, 1) := by decide +kernel
theorem dX4_init_13 : decode cX4_init 13 = .ok (.dup, 1) := by decide +kernel
theorem dX4_init_14 : decode cX4_init 14 = .ok (.iconst 1, 1) := by decide +kernel
theorem dX4_init_15 : decode cX4_init 15 = .ok (.bipush (-10), 2) := by decide +kernel
theorem dX4_init_17 : decode cX4_init 17 = .ok (.iastore, 1) := by decide +kernel
theorem dX4_init_18 : decode cX4_init 18 = .ok (.dup, 1) := by decide +kernel
theorem dX4_init_19 : decode cX4_init 19 = .ok (.iconst 2, 1) := by decide +kernel
theorem dX4_init_20 : decode cX4_init 20 = .ok (.bipush (-10), 2) := by decide +kernel
theorem dX4_init_22 : decode cX4_init 22 = .ok (.iastore, 1) := by decide +kernel
theorem dX4_init_23 : decode cX4_init 23 = .ok (.dup, 1) := by decide +kernel
theorem dX4_init_24 : decode cX4_init 24 = .ok (.iconst 3, 1) := by decide +kernel
theorem dX4_init_25 : decode cX4_init 25 = .ok (.bipush 10, 2) := by decide +kernel
theorem dX4_init_27 : decode cX4_init 27 = .ok (.iastore, 1) := by decide +kernel
theorem dX4_init_28 : decode cX4_init 28 = .ok (.putfield 9, 3) := by decide +kernel
theorem dX4_init_31 : decode cX4_init 31 = .ok (.aload_n 0, 1) := by decide +kernel
theorem dX4_init_32 : decode cX4_init 32 = .ok (.iconst 4, 1) := by decide +kernel
theorem dX4_init_33 : decode cX4_init 33 = .ok (.newarray .int, 2) := by decide +kernel
theorem dX4_init_35 : decode cX4_init 35 = .ok (.dup, 1) := by decide +kernel
theorem dX4_init_36 : decode cX4_init 36 = .ok (.iconst 0, 1) := by decide +kernel
theorem dX4_init_37 : decode cX4_init 37 = .ok (.bipush 10, 2) := by decide +kernel
theorem dX4_init_39 : decode cX4_init 39 = .ok (.iastore, 1) := by decide +kernel
theorem dX4_init_40 : decode cX4_init 40 = .ok (.dup, 1) := by decide +kernel
theorem dX4_init_41 : decode cX4_init 41 = .ok (.iconst 1, 1) := by decide +kernel
theorem dX4_init_42 : decode cX4_init 42 = .ok (.bipush 10, 2) := by decide +kernel
theorem dX4_init_44 : decode cX4_init 44 = .ok (.iastore, 1) := by decide +kernel
theorem dX4_init_45 : decode cX4_init 45 = .ok (.dup, 1) := by decide +kernel
theorem dX4_init_46 : decode cX4_init 46 = .ok (.iconst 2, 1) := by decide +kernel
theorem dX4_init_47 : decode cX4_init 47 = .ok (.bipush (-10), 2) := by decide +kernel
theorem dX4_init_49 : decode cX4_init 49 = .ok (.iastore, 1) := by decide +kernel
theorem dX4_init_50 : decode cX4_init 50 = .ok (.dup, 1) := by decide +kernel
theorem dX4_init_51 : decode cX4_init 51 = .ok (.iconst 3, 1) := by decide +kernel
theorem dX4_init_52 : decode cX4_init 52 = .ok (.bipush (-10), 2) := by decide +kernel
theorem dX4_init_54 : decode cX4_init 54 = .ok (.iastore, 1) := by decide +kernel
theorem dX4_init_55 : decode cX4_init 55 = .ok (.putfield 15, 3) := by decide +kernel
theorem dX4_init_58 : decode cX4_init 58 = .ok (.aload_n 0, 1) := by decide +kernel
theorem dX4_init_59 : decode cX4_init 59 = .ok (.iconst 4, 1) := by decide +kernel
theorem dX4_init_60 : decode cX4_init 60 = .ok (.newarray .int, 2) := by decide +kernel
theorem dX4_init_62 : decode cX4_init 62 = .ok (.dup, 1) := by decide +kernel
theorem dX4_init_63 : decode cX4_init 63 = .ok (.iconst 0, 1) := by decide +kernel
theorem dX4_init_64 : decode cX4_init 64 = .ok (.sipush 9999, 3) := by decide +kernel
theorem dX4_init_67 : decode cX4_init 67 = .ok (.iastore, 1) := by decide +kernel
theorem dX4_init_68 : decode cX4_init 68 = .ok (.dup, 1) := by decide +kernel
theorem dX4_init_69 : decode cX4_init 69 = .ok (.iconst 1, 1) := by decide +kernel
theorem dX4_init_70 : decode cX4_init 70 = .ok (.sipush 9999, 3) := by decide +kernel
theorem dX4_init_73 : decode cX4_init 73 = .ok (.iastore, 1) := by decide +kernel
theorem dX4_init_74 : decode cX4_init 74 = .ok (.dup, 1) := by decide +kernel
theorem dX4_init_75 : decode cX4_init 75 = .ok (.iconst 2, 1) := by decide +kernel
theorem dX4_init_76 : decode cX4_init 76 = .ok (.sipush 9999, 3) := by decide +kernel
theorem dX4_init_79 : decode cX4_init 79 = .ok (.iastore, 1) := by decide +kernel
theorem dX4_init_80 : decode cX4_init 80 = .ok (.dup, 1) := by decide +kernel
theorem dX4_init_81 : decode cX4_init 81 = .ok (.iconst 3, 1) := by decide +kernel
theorem dX4_init_82 : decode cX4_init 82 = .ok (.sipush 9999, 3) := by decide +kernel
theorem dX4_init_85 : decode cX4_init 85 = .ok (.iastore, 1) := by decide +kernel
theorem dX4_init_86 : decode cX4_init 86 = .ok (.putfield 18, 3) := by decide +kernel
theorem dX4_init_89 : decode cX4_init 89 = .ok (.aload_n 0, 1) := by decide +kernel
theorem dX4_init_90 : decode cX4_init 90 = .ok (.invokevirtual 21, 3) := by decide +kernel
theorem dX4_init_93 : decode cX4_init 93 = .ok (.return_, 1) := by decide +kernel
theorem mc_X4_init : MC yX4_init cX4_init 1 0 := ⟨rfl, w_93, w_58, w_94, by decide, by decide, by decide +kernel⟩
def k_X4_init (S : SH) (a0 : Nat) (μ : Mem) : Option STT :=
  (some (nwA .int 4 S μ)).bind fun σ1 =>
  (sI (σ1.1) S.1 0 10 (σ1.2)).bind fun ν2 =>
  (sI (σ1.1) S.1 1 (-10) ν2).bind fun ν3 =>
  (sI (σ1.1) S.1 2 (-10) ν3).bind fun ν4 =>
  (sI (σ1.1) S.1 3 10 ν4).bind fun ν5 =>
  (pR (σ1.1) 4 a0 0 S.1).bind fun T6 =>
  (some (nwA .int 4 T6 ν5)).bind fun σ7 =>
  (sI (σ7.1) T6.1 0 10 (σ7.2)).bind fun ν8 =>
  (sI (σ7.1) T6.1 1 10 ν8).bind fun ν9 =>
  (sI (σ7.1) T6.1 2 (-10) ν9).bind fun ν10 =>
  (sI (σ7.1) T6.1 3 (-10) ν10).bind fun ν11 =>
  (pR (σ7.1) 4 a0 1 T6.1).bind fun T12 =>
  (some (nwA .int 4 T12 ν11)).bind fun σ13 =>
  (sI (σ13.1) T12.1 0 9999 (σ13.2)).bind fun ν14 =>
  (sI (σ13.1) T12.1 1 9999 ν14).bind fun ν15 =>
  (sI (σ13.1) T12.1 2 9999 ν15).bind fun ν16 =>
  (sI (σ13.1) T12.1 3 9999 ν16).bind fun ν17 =>
  (pR (σ13.1) 4 a0 2 T12.1).bind fun T18 =>
  (f_X4_measure T18 a0 ν17).bind fun q19 =>
  some (T18, q19.2)
set_option maxRecDepth 100000 in
set_option maxHeartbeats 4000000 in
theorem ck_X4_init {l : Launch} {γ : GE} {S : SH} {a0 : Nat} {μ : Mem} {X : STT} (h : k_X4_init S a0 μ = some X) : Ct l γ yX4_init cX4_init 1 none rm_X4_init [.ref (gb γ + a0)] S μ X.1 X.2 none := by
  unfold k_X4_init at h
  have hJ : ∀ (p : Program) (e : Env) (s : State) (m : MethodId) (args : Array Value) (below : List Frame) (meth : Method) (c : Code), FX γ p s m args meth c cX4_init RX4 1 → meth.sig.returnType = none → meth.name = "<init>" → JJ γ p l e rm_X4_init s m args below meth c 1 0 0 (MQ below (Qm γ X.1 X.2 none) args s 3 12 (AA γ)) S μ 0 [(0, .ref (gb γ + a0))] [] := by
    intro p e s m args below meth c F hr hin
    refine j_aload_n F 0 dX4_init_0 rfl ?_
    refine j_objI F w_95 oiw ⟨(Nat.le_of_ble_eq_true rfl), (Nat.le_of_ble_eq_true rfl)⟩ dX4_init_1 ?_
    refine j_aload_n F 0 dX4_init_4 rfl ?_
    refine j_iconst F 4 dX4_init_5 (by decide) ?_
    refine j_newa (atype := .int) (ty := .int) F 4 0 rfl (by decide) rfl w_157 (by decide) (by decide) (Nat.le_of_ble_eq_true rfl) (Nat.le_of_ble_eq_true rfl) (Nat.le_of_ble_eq_true rfl) dX4_init_6 h (fun σ1 h => ?_)
    refine j_dup F dX4_init_8 rfl ?_
    refine j_iconst F 0 dX4_init_9 (by decide) ?_
    refine j_bipush F 10 dX4_init_10 (by decide) ?_
    refine j_iast F dX4_init_12 h (fun ν2 h => ?_)
    refine j_dup F dX4_init_13 rfl ?_
    refine j_iconst F 1 dX4_init_14 (by decide) ?_
    refine j_bipush F (-10) dX4_init_15 (by decide) ?_
    refine j_iast F dX4_init_17 h (fun ν3 h => ?_)
    refine j_dup F dX4_init_18 rfl ?_
    refine j_iconst F 2 dX4_init_19 (by decide) ?_
    refine j_bipush F (-10) dX4_init_20 (by decide) ?_
    refine j_iast F dX4_init_22 h (fun ν4 h => ?_)
    refine j_dup F dX4_init_23 rfl ?_
    refine j_iconst F 3 dX4_init_24 (by decide) ?_
    refine j_bipush F 10 dX4_init_25 (by decide) ?_
    refine j_iast F dX4_init_27 h (fun ν5 h => ?_)
    refine j_pR (j := 0) F cp4 (Nat.le_of_ble_eq_true rfl) w_108 rfl rfl rfl hin rfl dX4_init_28 h (fun T6 h => ?_)
    refine j_aload_n F 0 dX4_init_31 rfl ?_
    refine j_iconst F 4 dX4_init_32 (by decide) ?_
    refine j_newa (atype := .int) (ty := .int) F 4 0 rfl (by decide) rfl w_157 (by decide) (by decide) (Nat.le_of_ble_eq_true rfl) (Nat.le_of_ble_eq_true rfl) (Nat.le_of_ble_eq_true rfl) dX4_init_33 h (fun σ7 h => ?_)
    refine j_dup F dX4_init_35 rfl ?_
    refine j_iconst F 0 dX4_init_36 (by decide) ?_
    refine j_bipush F 10 dX4_init_37 (by decide) ?_
    refine j_iast F dX4_init_39 h (fun ν8 h => ?_)
    refine j_dup F dX4_init_40 rfl ?_
    refine j_iconst F 1 dX4_init_41 (by decide) ?_
    refine j_bipush F 10 dX4_init_42 (by decide) ?_
    refine j_iast F dX4_init_44 h (fun ν9 h => ?_)
    refine j_dup F dX4_init_45 rfl ?_
    refine j_iconst F 2 dX4_init_46 (by decide) ?_
    refine j_bipush F (-10) dX4_init_47 (by decide) ?_
    refine j_iast F dX4_init_49 h (fun ν10 h => ?_)
    refine j_dup F dX4_init_50 rfl ?_
    refine j_iconst F 3 dX4_init_51 (by decide) ?_
    refine j_bipush F (-10) dX4_init_52 (by decide) ?_
    refine j_iast F dX4_init_54 h (fun ν11 h => ?_)
    refine j_pR (j := 1) F cp4 (Nat.le_of_ble_eq_true rfl) w_111 rfl rfl rfl hin rfl dX4_init_55 h (fun T12 h => ?_)
    refine j_aload_n F 0 dX4_init_58 rfl ?_
    refine j_iconst F 4 dX4_init_59 (by decide) ?_
    refine j_newa (atype := .int) (ty := .int) F 4 0 rfl (by decide) rfl w_157 (by decide) (by decide) (Nat.le_of_ble_eq_true rfl) (Nat.le_of_ble_eq_true rfl) (Nat.le_of_ble_eq_true rfl) dX4_init_60 h (fun σ13 h => ?_)
    refine j_dup F dX4_init_62 rfl ?_
    refine j_iconst F 0 dX4_init_63 (by decide) ?_
    refine j_sipush F 9999 dX4_init_64 (by decide) ?_
    refine j_iast F dX4_init_67 h (fun ν14 h => ?_)
    refine j_dup F dX4_init_68 rfl ?_
    refine j_iconst F 1 dX4_init_69 (by decide) ?_
    refine j_sipush F 9999 dX4_init_70 (by decide) ?_
    refine j_iast F dX4_init_73 h (fun ν15 h => ?_)
    refine j_dup F dX4_init_74 rfl ?_
    refine j_iconst F 2 dX4_init_75 (by decide) ?_
    refine j_sipush F 9999 dX4_init_76 (by decide) ?_
    refine j_iast F dX4_init_79 h (fun ν16 h => ?_)
    refine j_dup F dX4_init_80 rfl ?_
    refine j_iconst F 3 dX4_init_81 (by decide) ?_
    refine j_sipush F 9999 dX4_init_82 (by decide) ?_
    refine j_iast F dX4_init_85 h (fun ν17 h => ?_)
    refine j_pR (j := 2) F cp4 (Nat.le_of_ble_eq_true rfl) w_114 rfl rfl rfl hin rfl dX4_init_86 h (fun T18 h => ?_)
    refine j_aload_n F 0 dX4_init_89 rfl ?_
    refine j_cVV F mi_X4_measure w_96 (rest := []) h (fun _ g => c_X4_measure g) rfl rfl (Nat.le_of_ble_eq_true rfl) ⟨(Nat.le_of_ble_eq_true rfl), (Nat.le_of_ble_eq_true rfl)⟩ ⟨(Nat.le_of_ble_eq_true rfl), (Nat.le_of_ble_eq_true rfl)⟩ dX4_init_90 (fun q19 h => ?_)
    exact j_cret F hr dX4_init_93 h
  exact ct_of (by decide +kernel) (Nat.le_of_ble_eq_true rfl) (fun p e s m args below meth c F hr hin => hJ p e s m args below meth c F hr hin)
def rm_X5_init : Room := { frames := 1, cells := 4, slots := 32, locals := 30 }
theorem dX5_init_0 : decode cX5_init 0 = .ok (.aload_n 0, 1) := by decide +kernel
theorem dX5_init_1 : decode cX5_init 1 = .ok (.invokespecial 3, 3) := by decide +kernel
theorem dX5_init_4 : decode cX5_init 4 = .ok (.aload_n 0, 1) := by decide +kernel
theorem dX5_init_5 : decode cX5_init 5 = .ok (.bipush 8, 2) := by decide +kernel
theorem dX5_init_7 : decode cX5_init 7 = .ok (.newarray .int, 2) := by decide +kernel
theorem dX5_init_9 : decode cX5_init 9 = .ok (.putfield 9, 3) := by decide +kernel
theorem dX5_init_12 : decode cX5_init 12 = .ok (.aload_n 0, 1) := by decide +kernel
theorem dX5_init_13 : decode cX5_init 13 = .ok (.bipush 8, 2) := by decide +kernel
theorem dX5_init_15 : decode cX5_init 15 = .ok (.newarray .int, 2) := by decide +kernel
theorem dX5_init_17 : decode cX5_init 17 = .ok (.putfield 15, 3) := by decide +kernel
theorem dX5_init_20 : decode cX5_init 20 = .ok (.aload_n 0, 1) := by decide +kernel
theorem dX5_init_21 : decode cX5_init 21 = .ok (.bipush 8, 2) := by decide +kernel
theorem dX5_init_23 : decode cX5_init 23 = .ok (.newarray .int, 2) := by decide +kernel
theorem dX5_init_25 : decode cX5_init 25 = .ok (.putfield 18, 3) := by decide +kernel
theorem dX5_init_28 : decode cX5_init 28 = .ok (.aload_n 0, 1) := by decide +kernel
theorem dX5_init_29 : decode cX5_init 29 = .ok (.bipush 8, 2) := by decide +kernel
theorem dX5_init_31 : decode cX5_init 31 = .ok (.newarray .boolean, 2) := by decide +kernel
theorem dX5_init_33 : decode cX5_init 33 = .ok (.putfield 21, 3) := by decide +kernel
theorem dX5_init_36 : decode cX5_init 36 = .ok (.return_, 1) := by decide +kernel
theorem mc_X5_init : MC yX5_init cX5_init 1 0 := ⟨rfl, w_161, w_59, w_162, by decide, by decide, by decide +kernel⟩
def k_X5_init (S : SH) (a0 : Nat) (μ : Mem) : Option STT :=
  (some (nwA .int 8 S μ)).bind fun σ1 =>
  (pR (σ1.1) 5 a0 0 S.1).bind fun T2 =>
  (some (nwA .int 8 T2 (σ1.2))).bind fun σ3 =>
  (pR (σ3.1) 5 a0 1 T2.1).bind fun T4 =>
  (some (nwA .int 8 T4 (σ3.2))).bind fun σ5 =>
  (pR (σ5.1) 5 a0 2 T4.1).bind fun T6 =>
  (some (nwA .boolean 8 T6 (σ5.2))).bind fun σ7 =>
  (pR (σ7.1) 5 a0 3 T6.1).bind fun T8 =>
  some (T8, σ7.2)
set_option maxRecDepth 100000 in
set_option maxHeartbeats 4000000 in
theorem ck_X5_init {l : Launch} {γ : GE} {S : SH} {a0 : Nat} {μ : Mem} {X : STT} (h : k_X5_init S a0 μ = some X) : Ct l γ yX5_init cX5_init 1 none rm_X5_init [.ref (gb γ + a0)] S μ X.1 X.2 none := by
  unfold k_X5_init at h
  have hJ : ∀ (p : Program) (e : Env) (s : State) (m : MethodId) (args : Array Value) (below : List Frame) (meth : Method) (c : Code), FX γ p s m args meth c cX5_init RX5 1 → meth.sig.returnType = none → meth.name = "<init>" → JJ γ p l e rm_X5_init s m args below meth c 1 0 0 (MQ below (Qm γ X.1 X.2 none) args s 4 32 (AA γ)) S μ 0 [(0, .ref (gb γ + a0))] [] := by
    intro p e s m args below meth c F hr hin
    refine j_aload_n F 0 dX5_init_0 rfl ?_
    refine j_objI F w_163 oiw ⟨(Nat.le_of_ble_eq_true rfl), (Nat.le_of_ble_eq_true rfl)⟩ dX5_init_1 ?_
    refine j_aload_n F 0 dX5_init_4 rfl ?_
    refine j_bipush F 8 dX5_init_5 (by decide) ?_
    refine j_newa (atype := .int) (ty := .int) F 8 0 rfl (by decide) rfl w_157 (by decide) (by decide) (Nat.le_of_ble_eq_true rfl) (Nat.le_of_ble_eq_true rfl) (Nat.le_of_ble_eq_true rfl) dX5_init_7 h (fun σ1 h => ?_)
    refine j_pR (j := 0) F cp5 (Nat.le_of_ble_eq_true rfl) w_164 rfl rfl rfl hin rfl dX5_init_9 h (fun T2 h => ?_)
    refine j_aload_n F 0 dX5_init_12 rfl ?_
    refine j_bipush F 8 dX5_init_13 (by decide) ?_
    refine j_newa (atype := .int) (ty := .int) F 8 0 rfl (by decide) rfl w_157 (by decide) (by decide) (Nat.le_of_ble_eq_true rfl) (Nat.le_of_ble_eq_true rfl) (Nat.le_of_ble_eq_true rfl) dX5_init_15 h (fun σ3 h => ?_)
    refine j_pR (j := 1) F cp5 (Nat.le_of_ble_eq_true rfl) w_167 rfl rfl rfl hin rfl dX5_init_17 h (fun T4 h => ?_)
    refine j_aload_n F 0 dX5_init_20 rfl ?_
    refine j_bipush F 8 dX5_init_21 (by decide) ?_
    refine j_newa (atype := .int) (ty := .int) F 8 0 rfl (by decide) rfl w_157 (by decide) (by decide) (Nat.le_of_ble_eq_true rfl) (Nat.le_of_ble_eq_true rfl) (Nat.le_of_ble_eq_true rfl) dX5_init_23 h (fun σ5 h => ?_)
    refine j_pR (j := 2) F cp5 (Nat.le_of_ble_eq_true rfl) w_169 rfl rfl rfl hin rfl dX5_init_25 h (fun T6 h => ?_)
    refine j_aload_n F 0 dX5_init_28 rfl ?_
    refine j_bipush F 8 dX5_init_29 (by decide) ?_
    refine j_newa (atype := .boolean) (ty := .boolean) F 8 3 rfl (by decide) rfl w_207 (by decide) (by decide) (Nat.le_of_ble_eq_true rfl) (Nat.le_of_ble_eq_true rfl) (Nat.le_of_ble_eq_true rfl) dX5_init_31 h (fun σ7 h => ?_)
    refine j_pR (j := 3) F cp5 (Nat.le_of_ble_eq_true rfl) w_171 rfl rfl rfl hin rfl dX5_init_33 h (fun T8 h => ?_)
    exact j_cret F hr dX5_init_36 h
  exact ct_of (by decide +kernel) (Nat.le_of_ble_eq_true rfl) (fun p e s m args below meth c F hr hin => hJ p e s m args below meth c F hr hin)
def rm_X6_init : Room := { frames := 1, cells := 2, slots := 50, locals := 30 }
theorem dX6_init_0 : decode cX6_init 0 = .ok (.aload_n 0, 1) := by decide +kernel
theorem dX6_init_1 : decode cX6_init 1 = .ok (.invokespecial 3, 3) := by decide +kernel
theorem dX6_init_4 : decode cX6_init 4 = .ok (.aload_n 0, 1) := by decide +kernel
theorem dX6_init_5 : decode cX6_init 5 = .ok (.bipush 25, 2) := by decide +kernel
theorem dX6_init_7 : decode cX6_init 7 = .ok (.newarray .int, 2) := by decide +kernel
theorem dX6_init_9 : decode cX6_init 9 = .ok (.putfield 9, 3) := by decide +kernel
theorem dX6_init_12 : decode cX6_init 12 = .ok (.aload_n 0, 1) := by decide +kernel
theorem dX6_init_13 : decode cX6_init 13 = .ok (.bipush 25, 2) := by decide +kernel
theorem dX6_init_15 : decode cX6_init 15 = .ok (.newarray .int, 2) := by decide +kernel
theorem dX6_init_17 : decode cX6_init 17 = .ok (.putfield 15, 3) := by decide +kernel
theorem dX6_init_20 : decode cX6_init 20 = .ok (.return_, 1) := by decide +kernel
theorem mc_X6_init : MC yX6_init cX6_init 1 0 := ⟨rfl, w_335, w_65, w_336, by decide, by decide, by decide +kernel⟩
def k_X6_init (S : SH) (a0 : Nat) (μ : Mem) : Option STT :=
  (some (nwA .int 25 S μ)).bind fun σ1 =>
  (pR (σ1.1) 6 a0 0 S.1).bind fun T2 =>
  (some (nwA .int 25 T2 (σ1.2))).bind fun σ3 =>
  (pR (σ3.1) 6 a0 1 T2.1).bind fun T4 =>
  some (T4, σ3.2)
set_option maxRecDepth 100000 in
set_option maxHeartbeats 4000000 in
theorem ck_X6_init {l : Launch} {γ : GE} {S : SH} {a0 : Nat} {μ : Mem} {X : STT} (h : k_X6_init S a0 μ = some X) : Ct l γ yX6_init cX6_init 1 none rm_X6_init [.ref (gb γ + a0)] S μ X.1 X.2 none := by
  unfold k_X6_init at h
  have hJ : ∀ (p : Program) (e : Env) (s : State) (m : MethodId) (args : Array Value) (below : List Frame) (meth : Method) (c : Code), FX γ p s m args meth c cX6_init RX6 1 → meth.sig.returnType = none → meth.name = "<init>" → JJ γ p l e rm_X6_init s m args below meth c 1 0 0 (MQ below (Qm γ X.1 X.2 none) args s 2 50 (AA γ)) S μ 0 [(0, .ref (gb γ + a0))] [] := by
    intro p e s m args below meth c F hr hin
    refine j_aload_n F 0 dX6_init_0 rfl ?_
    refine j_objI F w_337 oiw ⟨(Nat.le_of_ble_eq_true rfl), (Nat.le_of_ble_eq_true rfl)⟩ dX6_init_1 ?_
    refine j_aload_n F 0 dX6_init_4 rfl ?_
    refine j_bipush F 25 dX6_init_5 (by decide) ?_
    refine j_newa (atype := .int) (ty := .int) F 25 0 rfl (by decide) rfl w_157 (by decide) (by decide) (Nat.le_of_ble_eq_true rfl) (Nat.le_of_ble_eq_true rfl) (Nat.le_of_ble_eq_true rfl) dX6_init_7 h (fun σ1 h => ?_)
    refine j_pR (j := 0) F cp6 (Nat.le_of_ble_eq_true rfl) w_338 rfl rfl rfl hin rfl dX6_init_9 h (fun T2 h => ?_)
    refine j_aload_n F 0 dX6_init_12 rfl ?_
    refine j_bipush F 25 dX6_init_13 (by decide) ?_
    refine j_newa (atype := .int) (ty := .int) F 25 0 rfl (by decide) rfl w_157 (by decide) (by decide) (Nat.le_of_ble_eq_true rfl) (Nat.le_of_ble_eq_true rfl) (Nat.le_of_ble_eq_true rfl) dX6_init_15 h (fun σ3 h => ?_)
    refine j_pR (j := 1) F cp6 (Nat.le_of_ble_eq_true rfl) w_340 rfl rfl rfl hin rfl dX6_init_17 h (fun T4 h => ?_)
    exact j_cret F hr dX6_init_20 h
  exact ct_of (by decide +kernel) (Nat.le_of_ble_eq_true rfl) (fun p e s m args below meth c F hr hin => hJ p e s m args below meth c F hr hin)
def rm_X7_init : Room := { frames := 1, cells := 3, slots := 183, locals := 30 }
theorem dX7_init_0 : decode cX7_init 0 = .ok (.aload_n 0, 1) := by decide +kernel
theorem dX7_init_1 : decode cX7_init 1 = .ok (.invokespecial 3, 3) := by decide +kernel
theorem dX7_init_4 : decode cX7_init 4 = .ok (.aload_n 0, 1) := by decide +kernel
theorem dX7_init_5 : decode cX7_init 5 = .ok (.bipush 61, 2) := by decide +kernel
theorem dX7_init_7 : decode cX7_init 7 = .ok (.newarray .int, 2) := by decide +kernel
theorem dX7_init_9 : decode cX7_init 9 = .ok (.putfield 9, 3) := by decide +kernel
theorem dX7_init_12 : decode cX7_init 12 = .ok (.aload_n 0, 1) := by decide +kernel
theorem dX7_init_13 : decode cX7_init 13 = .ok (.bipush 61, 2) := by decide +kernel
theorem dX7_init_15 : decode cX7_init 15 = .ok (.newarray .int, 2) := by decide +kernel
theorem dX7_init_17 : decode cX7_init 17 = .ok (.putfield 15, 3) := by decide +kernel
theorem dX7_init_20 : decode cX7_init 20 = .ok (.aload_n 0, 1) := by decide +kernel
theorem dX7_init_21 : decode cX7_init 21 = .ok (.bipush 61, 2) := by decide +kernel
theorem dX7_init_23 : decode cX7_init 23 = .ok (.newarray .int, 2) := by decide +kernel
theorem dX7_init_25 : decode cX7_init 25 = .ok (.putfield 18, 3) := by decide +kernel
theorem dX7_init_28 : decode cX7_init 28 = .ok (.return_, 1) := by decide +kernel
theorem mc_X7_init : MC yX7_init cX7_init 1 0 := ⟨rfl, w_300, w_63, w_301, by decide, by decide, by decide +kernel⟩
def k_X7_init (S : SH) (a0 : Nat) (μ : Mem) : Option STT :=
  (some (nwA .int 61 S μ)).bind fun σ1 =>
  (pR (σ1.1) 7 a0 0 S.1).bind fun T2 =>
  (some (nwA .int 61 T2 (σ1.2))).bind fun σ3 =>
  (pR (σ3.1) 7 a0 1 T2.1).bind fun T4 =>
  (some (nwA .int 61 T4 (σ3.2))).bind fun σ5 =>
  (pR (σ5.1) 7 a0 2 T4.1).bind fun T6 =>
  some (T6, σ5.2)
set_option maxRecDepth 100000 in
set_option maxHeartbeats 4000000 in
theorem ck_X7_init {l : Launch} {γ : GE} {S : SH} {a0 : Nat} {μ : Mem} {X : STT} (h : k_X7_init S a0 μ = some X) : Ct l γ yX7_init cX7_init 1 none rm_X7_init [.ref (gb γ + a0)] S μ X.1 X.2 none := by
  unfold k_X7_init at h
  have hJ : ∀ (p : Program) (e : Env) (s : State) (m : MethodId) (args : Array Value) (below : List Frame) (meth : Method) (c : Code), FX γ p s m args meth c cX7_init RX7 1 → meth.sig.returnType = none → meth.name = "<init>" → JJ γ p l e rm_X7_init s m args below meth c 1 0 0 (MQ below (Qm γ X.1 X.2 none) args s 3 183 (AA γ)) S μ 0 [(0, .ref (gb γ + a0))] [] := by
    intro p e s m args below meth c F hr hin
    refine j_aload_n F 0 dX7_init_0 rfl ?_
    refine j_objI F w_302 oiw ⟨(Nat.le_of_ble_eq_true rfl), (Nat.le_of_ble_eq_true rfl)⟩ dX7_init_1 ?_
    refine j_aload_n F 0 dX7_init_4 rfl ?_
    refine j_bipush F 61 dX7_init_5 (by decide) ?_
    refine j_newa (atype := .int) (ty := .int) F 61 0 rfl (by decide) rfl w_157 (by decide) (by decide) (Nat.le_of_ble_eq_true rfl) (Nat.le_of_ble_eq_true rfl) (Nat.le_of_ble_eq_true rfl) dX7_init_7 h (fun σ1 h => ?_)
    refine j_pR (j := 0) F cp7 (Nat.le_of_ble_eq_true rfl) w_303 rfl rfl rfl hin rfl dX7_init_9 h (fun T2 h => ?_)
    refine j_aload_n F 0 dX7_init_12 rfl ?_
    refine j_bipush F 61 dX7_init_13 (by decide) ?_
    refine j_newa (atype := .int) (ty := .int) F 61 0 rfl (by decide) rfl w_157 (by decide) (by decide) (Nat.le_of_ble_eq_true rfl) (Nat.le_of_ble_eq_true rfl) (Nat.le_of_ble_eq_true rfl) dX7_init_15 h (fun σ3 h => ?_)
    refine j_pR (j := 1) F cp7 (Nat.le_of_ble_eq_true rfl) w_305 rfl rfl rfl hin rfl dX7_init_17 h (fun T4 h => ?_)
    refine j_aload_n F 0 dX7_init_20 rfl ?_
    refine j_bipush F 61 dX7_init_21 (by decide) ?_
    refine j_newa (atype := .int) (ty := .int) F 61 0 rfl (by decide) rfl w_157 (by decide) (by decide) (Nat.le_of_ble_eq_true rfl) (Nat.le_of_ble_eq_true rfl) (Nat.le_of_ble_eq_true rfl) dX7_init_23 h (fun σ5 h => ?_)
    refine j_pR (j := 2) F cp7 (Nat.le_of_ble_eq_true rfl) w_306 rfl rfl rfl hin rfl dX7_init_25 h (fun T6 h => ?_)
    exact j_cret F hr dX7_init_28 h
  exact ct_of (by decide +kernel) (Nat.le_of_ble_eq_true rfl) (fun p e s m args below meth c F hr hin => hJ p e s m args below meth c F hr hin)
def rm_X8_init : Room := { frames := 1, cells := 6, slots := 128, locals := 30 }
theorem dX8_init_0 : decode cX8_init 0 = .ok (.aload_n 0, 1) := by decide +kernel
theorem dX8_init_1 : decode cX8_init 1 = .ok (.invokespecial 3, 3) := by decide +kernel
theorem dX8_init_4 : decode cX8_init 4 = .ok (.aload_n 0, 1) := by decide +kernel
theorem dX8_init_5 : decode cX8_init 5 = .ok (.iconst 4, 1) := by decide +kernel
theorem dX8_init_6 : decode cX8_init 6 = .ok (.bipush 30, 2) := by decide +kernel
theorem dX8_init_8 : decode cX8_init 8 = .ok (.multianewarray 9 2, 4) := by decide +kernel
theorem dX8_init_12 : decode cX8_init 12 = .ok (.putfield 11, 3) := by decide +kernel
theorem dX8_init_15 : decode cX8_init 15 = .ok (.aload_n 0, 1) := by decide +kernel
theorem dX8_init_16 : decode cX8_init 16 = .ok (.iconst 4, 1) := by decide +kernel
theorem dX8_init_17 : decode cX8_init 17 = .ok (.newarray .int, 2) := by decide +kernel
theorem dX8_init_19 : decode cX8_init 19 = .ok (.dup, 1) := by decide +kernel
theorem dX8_init_20 : decode cX8_init 20 = .ok (.iconst 0, 1) := by decide +kernel
theorem dX8_init_21 : decode cX8_init 21 = .ok (.iconst (-1), 1) := by decide +kernel
theorem dX8_init_22 : decode cX8_init 22 = .ok (.iastore, 1) := by decide +kernel
theorem dX8_init_23 : decode cX8_init 23 = .ok (.dup, 1) := by decide +kernel
theorem dX8_init_24 : decode cX8_init 24 = .ok (.iconst 1, 1) := by decide +kernel
theorem dX8_init_25 : decode cX8_init 25 = .ok (.iconst (-1), 1) := by decide +kernel
theorem dX8_init_26 : decode cX8_init 26 = .ok (.iastore, 1) := by decide +kernel
theorem dX8_init_27 : decode cX8_init 27 = .ok (.dup, 1) := by decide +kernel
theorem dX8_init_28 : decode cX8_init 28 = .ok (.iconst 2, 1) := by decide +kernel
theorem dX8_init_29 : decode cX8_init 29 = .ok (.iconst (-1), 1) := by decide +kernel
theorem dX8_init_30 : decode cX8_init 30 = .ok (.iastore, 1) := by decide +kernel
theorem dX8_init_31 : decode cX8_init 31 = .ok (.dup, 1) := by decide +kernel
theorem dX8_init_32 : decode cX8_init 32 = .ok (.iconst 3, 1) := by decide +kernel
theorem dX8_init_33 : decode cX8_init 33 = .ok (.iconst (-1), 1) := by decide +kernel
theorem dX8_init_34 : decode cX8_init 34 = .ok (.iastore, 1) := by decide +kernel
theorem dX8_init_35 : decode cX8_init 35 = .ok (.putfield 16, 3) := by decide +kernel
theorem dX8_init_38 : decode cX8_init 38 = .ok (.return_, 1) := by decide +kernel
theorem mc_X8_init : MC yX8_init cX8_init 1 0 := ⟨rfl, w_406, w_68, w_407, by decide, by decide, by decide +kernel⟩
def k_X8_init (S : SH) (a0 : Nat) (μ : Mem) : Option STT :=
  (some (nwM S μ)).bind fun σ1 =>
  (pR (σ1.1) 8 a0 0 S.1).bind fun T2 =>
  (some (nwA .int 4 T2 (σ1.2))).bind fun σ3 =>
  (sI (σ3.1) T2.1 0 (-1) (σ3.2)).bind fun ν4 =>
  (sI (σ3.1) T2.1 1 (-1) ν4).bind fun ν5 =>
  (sI (σ3.1) T2.1 2 (-1) ν5).bind fun ν6 =>
  (sI (σ3.1) T2.1 3 (-1) ν6).bind fun ν7 =>
  (pR (σ3.1) 8 a0 1 T2.1).bind fun T8 =>
  some (T8, ν7)
set_option maxRecDepth 100000 in
set_option maxHeartbeats 4000000 in
theorem ck_X8_init {l : Launch} {γ : GE} {S : SH} {a0 : Nat} {μ : Mem} {X : STT} (h : k_X8_init S a0 μ = some X) : Ct l γ yX8_init cX8_init 1 none rm_X8_init [.ref (gb γ + a0)] S μ X.1 X.2 none := by
  unfold k_X8_init at h
  have hJ : ∀ (p : Program) (e : Env) (s : State) (m : MethodId) (args : Array Value) (below : List Frame) (meth : Method) (c : Code), FX γ p s m args meth c cX8_init RX8 1 → meth.sig.returnType = none → meth.name = "<init>" → JJ γ p l e rm_X8_init s m args below meth c 1 0 0 (MQ below (Qm γ X.1 X.2 none) args s 6 128 (AA γ)) S μ 0 [(0, .ref (gb γ + a0))] [] := by
    intro p e s m args below meth c F hr hin
    refine j_aload_n F 0 dX8_init_0 rfl ?_
    refine j_objI F w_408 oiw ⟨(Nat.le_of_ble_eq_true rfl), (Nat.le_of_ble_eq_true rfl)⟩ dX8_init_1 ?_
    refine j_aload_n F 0 dX8_init_4 rfl ?_
    refine j_iconst F 4 dX8_init_5 (by decide) ?_
    refine j_bipush F 30 dX8_init_6 (by decide) ?_
    refine j_mna F w_409 (Nat.le_of_ble_eq_true rfl) (Nat.le_of_ble_eq_true rfl) dX8_init_8 h (fun σ1 h => ?_)
    refine j_pR (j := 0) F cp8 (Nat.le_of_ble_eq_true rfl) w_411 rfl rfl rfl hin rfl dX8_init_12 h (fun T2 h => ?_)
    refine j_aload_n F 0 dX8_init_15 rfl ?_
    refine j_iconst F 4 dX8_init_16 (by decide) ?_
    refine j_newa (atype := .int) (ty := .int) F 4 0 rfl (by decide) rfl w_157 (by decide) (by decide) (Nat.le_of_ble_eq_true rfl) (Nat.le_of_ble_eq_true rfl) (Nat.le_of_ble_eq_true rfl) dX8_init_17 h (fun σ3 h => ?_)
    refine j_dup F dX8_init_19 rfl ?_
    refine j_iconst F 0 dX8_init_20 (by decide) ?_
    refine j_iconst F (-1) dX8_init_21 (by decide) ?_
    refine j_iast F dX8_init_22 h (fun ν4 h => ?_)
    refine j_dup F dX8_init_23 rfl ?_
    refine j_iconst F 1 dX8_init_24 (by decide) ?_
    refine j_iconst F (-1) dX8_init_25 (by decide) ?_
    refine j_iast F dX8_init_26 h (fun ν5 h => ?_)
    refine j_dup F dX8_init_27 rfl ?_
    refine j_iconst F 2 dX8_init_28 (by decide) ?_
    refine j_iconst F (-1) dX8_init_29 (by decide) ?_
    refine j_iast F dX8_init_30 h (fun ν6 h => ?_)
    refine j_dup F dX8_init_31 rfl ?_
    refine j_iconst F 3 dX8_init_32 (by decide) ?_
    refine j_iconst F (-1) dX8_init_33 (by decide) ?_
    refine j_iast F dX8_init_34 h (fun ν7 h => ?_)
    refine j_pR (j := 1) F cp8 (Nat.le_of_ble_eq_true rfl) w_413 rfl rfl rfl hin rfl dX8_init_35 h (fun T8 h => ?_)
    exact j_cret F hr dX8_init_38 h
  exact ct_of (by decide +kernel) (Nat.le_of_ble_eq_true rfl) (fun p e s m args below meth c F hr hin => hJ p e s m args below meth c F hr hin)
def rm_X9_init : Room := { frames := 1, cells := 1, slots := 100, locals := 30 }
theorem dX9_init_0 : decode cX9_init 0 = .ok (.aload_n 0, 1) := by decide +kernel
theorem dX9_init_1 : decode cX9_init 1 = .ok (.invokespecial 3, 3) := by decide +kernel
theorem dX9_init_4 : decode cX9_init 4 = .ok (.aload_n 0, 1) := by decide +kernel
theorem dX9_init_5 : decode cX9_init 5 = .ok (.bipush 100, 2) := by decide +kernel
theorem dX9_init_7 : decode cX9_init 7 = .ok (.newarray .byte, 2) := by decide +kernel
theorem dX9_init_9 : decode cX9_init 9 = .ok (.putfield 9, 3) := by decide +kernel
theorem dX9_init_12 : decode cX9_init 12 = .ok (.return_, 1) := by decide +kernel
theorem mc_X9_init : MC yX9_init cX9_init 1 0 := ⟨rfl, w_317, w_64, w_318, by decide, by decide, by decide +kernel⟩
def k_X9_init (S : SH) (a0 : Nat) (μ : Mem) : Option STT :=
  (some (nwA .byte 100 S μ)).bind fun σ1 =>
  (pR (σ1.1) 9 a0 0 S.1).bind fun T2 =>
  some (T2, σ1.2)
set_option maxRecDepth 100000 in
set_option maxHeartbeats 4000000 in
theorem ck_X9_init {l : Launch} {γ : GE} {S : SH} {a0 : Nat} {μ : Mem} {X : STT} (h : k_X9_init S a0 μ = some X) : Ct l γ yX9_init cX9_init 1 none rm_X9_init [.ref (gb γ + a0)] S μ X.1 X.2 none := by
  unfold k_X9_init at h
  have hJ : ∀ (p : Program) (e : Env) (s : State) (m : MethodId) (args : Array Value) (below : List Frame) (meth : Method) (c : Code), FX γ p s m args meth c cX9_init RX9 1 → meth.sig.returnType = none → meth.name = "<init>" → JJ γ p l e rm_X9_init s m args below meth c 1 0 0 (MQ below (Qm γ X.1 X.2 none) args s 1 100 (AA γ)) S μ 0 [(0, .ref (gb γ + a0))] [] := by
    intro p e s m args below meth c F hr hin
    refine j_aload_n F 0 dX9_init_0 rfl ?_
    refine j_objI F w_319 oiw ⟨(Nat.le_of_ble_eq_true rfl), (Nat.le_of_ble_eq_true rfl)⟩ dX9_init_1 ?_
    refine j_aload_n F 0 dX9_init_4 rfl ?_
    refine j_bipush F 100 dX9_init_5 (by decide) ?_
    refine j_newa (atype := .byte) (ty := .byte) F 100 2 rfl (by decide) rfl w_331 (by decide) (by decide) (Nat.le_of_ble_eq_true rfl) (Nat.le_of_ble_eq_true rfl) (Nat.le_of_ble_eq_true rfl) dX9_init_7 h (fun σ1 h => ?_)
    refine j_pR (j := 0) F cp9 (Nat.le_of_ble_eq_true rfl) w_320 rfl rfl rfl hin rfl dX9_init_9 h (fun T2 h => ?_)
    exact j_cret F hr dX9_init_12 h
  exact ct_of (by decide +kernel) (Nat.le_of_ble_eq_true rfl) (fun p e s m args below meth c F hr hin => hJ p e s m args below meth c F hr hin)
def rm_X10_init : Room := { frames := 1, cells := 0, slots := 0, locals := 30 }
theorem dX10_init_0 : decode cX10_init 0 = .ok (.aload_n 0, 1) := by decide +kernel
theorem dX10_init_1 : decode cX10_init 1 = .ok (.invokespecial 3, 3) := by decide +kernel
theorem dX10_init_4 : decode cX10_init 4 = .ok (.return_, 1) := by decide +kernel
theorem mc_X10_init : MC yX10_init cX10_init 1 0 := ⟨rfl, w_356, w_66, w_357, by decide, by decide, by decide +kernel⟩
def k_X10_init (S : SH) (a0 : Nat) (μ : Mem) : Option STT :=
  some (S, μ)
set_option maxRecDepth 100000 in
set_option maxHeartbeats 4000000 in
theorem ck_X10_init {l : Launch} {γ : GE} {S : SH} {a0 : Nat} {μ : Mem} {X : STT} (h : k_X10_init S a0 μ = some X) : Ct l γ yX10_init cX10_init 1 none rm_X10_init [.ref (gb γ + a0)] S μ X.1 X.2 none := by
  unfold k_X10_init at h
  have hJ : ∀ (p : Program) (e : Env) (s : State) (m : MethodId) (args : Array Value) (below : List Frame) (meth : Method) (c : Code), FX γ p s m args meth c cX10_init RX10 1 → meth.sig.returnType = none → meth.name = "<init>" → JJ γ p l e rm_X10_init s m args below meth c 1 0 0 (MQ below (Qm γ X.1 X.2 none) args s 0 0 (AA γ)) S μ 0 [(0, .ref (gb γ + a0))] [] := by
    intro p e s m args below meth c F hr hin
    refine j_aload_n F 0 dX10_init_0 rfl ?_
    refine j_objI F w_358 oiw ⟨(Nat.le_of_ble_eq_true rfl), (Nat.le_of_ble_eq_true rfl)⟩ dX10_init_1 ?_
    exact j_cret F hr dX10_init_4 h
  exact ct_of (by decide +kernel) (Nat.le_of_ble_eq_true rfl) (fun p e s m args below meth c F hr hin => hJ p e s m args below meth c F hr hin)
def rm_X3_init : Room := { frames := 1, cells := 1, slots := 4, locals := 30 }
theorem dX3_init_0 : decode cX3_init 0 = .ok (.aload_n 0, 1) := by decide +kernel
theorem dX3_init_1 : decode cX3_init 1 = .ok (.invokespecial 3, 3) := by decide +kernel
theorem dX3_init_4 : decode cX3_init 4 = .ok (.aload_n 0, 1) := by decide +kernel
theorem dX3_init_5 : decode cX3_init 5 = .ok (.iconst 4, 1) := by decide +kernel
theorem dX3_init_6 : decode cX3_init 6 = .ok (.newarray .long, 2) := by decide +kernel
theorem dX3_init_8 : decode cX3_init 8 = .ok (.putfield 9, 3) := by decide +kernel
theorem dX3_init_11 : decode cX3_init 11 = .ok (.return_, 1) := by decide +kernel
theorem mc_X3_init : MC yX3_init cX3_init 1 0 := ⟨rfl, w_260, w_62, w_261, by decide, by decide, by decide +kernel⟩
def k_X3_init (S : SH) (a0 : Nat) (μ : Mem) : Option STT :=
  (some (nwA .long 4 S μ)).bind fun σ1 =>
  (pR (σ1.1) 3 a0 3 S.1).bind fun T2 =>
  some (T2, σ1.2)
set_option maxRecDepth 100000 in
set_option maxHeartbeats 4000000 in
theorem ck_X3_init {l : Launch} {γ : GE} {S : SH} {a0 : Nat} {μ : Mem} {X : STT} (h : k_X3_init S a0 μ = some X) : Ct l γ yX3_init cX3_init 1 none rm_X3_init [.ref (gb γ + a0)] S μ X.1 X.2 none := by
  unfold k_X3_init at h
  have hJ : ∀ (p : Program) (e : Env) (s : State) (m : MethodId) (args : Array Value) (below : List Frame) (meth : Method) (c : Code), FX γ p s m args meth c cX3_init RX3 1 → meth.sig.returnType = none → meth.name = "<init>" → JJ γ p l e rm_X3_init s m args below meth c 1 0 0 (MQ below (Qm γ X.1 X.2 none) args s 1 4 (AA γ)) S μ 0 [(0, .ref (gb γ + a0))] [] := by
    intro p e s m args below meth c F hr hin
    refine j_aload_n F 0 dX3_init_0 rfl ?_
    refine j_objI F w_262 oiw ⟨(Nat.le_of_ble_eq_true rfl), (Nat.le_of_ble_eq_true rfl)⟩ dX3_init_1 ?_
    refine j_aload_n F 0 dX3_init_4 rfl ?_
    refine j_iconst F 4 dX3_init_5 (by decide) ?_
    refine j_newa (atype := .long) (ty := .long) F 4 1 rfl (by decide) rfl w_296 (by decide) (by decide) (Nat.le_of_ble_eq_true rfl) (Nat.le_of_ble_eq_true rfl) (Nat.le_of_ble_eq_true rfl) dX3_init_6 h (fun σ1 h => ?_)
    refine j_pR (j := 3) F cp3 (Nat.le_of_ble_eq_true rfl) w_269 rfl rfl rfl hin rfl dX3_init_8 h (fun T2 h => ?_)
    exact j_cret F hr dX3_init_11 h
  exact ct_of (by decide +kernel) (Nat.le_of_ble_eq_true rfl) (fun p e s m args below meth c F hr hin => hJ p e s m args below meth c F hr hin)
def rm_X2_init : Room := { frames := 4, cells := 17, slots := 271, locals := 94 }
theorem dX2_init_0 : decode cX2_init 0 = .ok (.aload_n 0, 1) := by decide +kernel
theorem dX2_init_1 : decode cX2_init 1 = .ok (.invokespecial 3, 3) := by decide +kernel
theorem dX2_init_4 : decode cX2_init 4 = .ok (.aload_n 0, 1) := by decide +kernel
theorem dX2_init_5 : decode cX2_init 5 = .ok (.new 9, 3) := by decide +kernel
theorem dX2_init_8 : decode cX2_init 8 = .ok (.dup, 1) := by decide +kernel
theorem dX2_init_9 : decode cX2_init 9 = .ok (.invokespecial 11, 3) := by decide +kernel
theorem dX2_init_12 : decode cX2_init 12 = .ok (.putfield 12, 3) := by decide +kernel
theorem dX2_init_15 : decode cX2_init 15 = .ok (.aload_n 0, 1) := by decide +kernel
theorem dX2_init_16 : decode cX2_init 16 = .ok (.new 18, 3) := by decide +kernel
theorem dX2_init_19 : decode cX2_init 19 = .ok (.dup, 1) := by decide +kernel
theorem dX2_init_20 : decode cX2_init 20 = .ok (.invokespecial 20, 3) := by decide +kernel
theorem dX2_init_23 : decode cX2_init 23 = .ok (.putfield 21, 3) := by decide +kernel
theorem dX2_init_26 : decode cX2_init 26 = .ok (.aload_n 0, 1) := by decide +kernel
theorem dX2_init_27 : decode cX2_init 27 = .ok (.iconst 3, 1) := by decide +kernel
theorem dX2_init_28 : decode cX2_init 28 = .ok (.anewarray 25, 3) := by decide +kernel
theorem dX2_init_31 : decode cX2_init 31 = .ok (.putfield 27, 3) := by decide +kernel
theorem dX2_init_34 : decode cX2_init 34 = .ok (.iconst 0, 1) := by decide +kernel
theorem dX2_init_35 : decode cX2_init 35 = .ok (.istore_n 1, 1) := by decide +kernel
theorem dX2_init_36 : decode cX2_init 36 = .ok (.iload_n 1, 1) := by decide +kernel
theorem dX2_init_37 : decode cX2_init 37 = .ok (.iconst 3, 1) := by decide +kernel
theorem dX2_init_38 : decode cX2_init 38 = .ok (.if_icmp .ge 22, 3) := by decide +kernel
theorem dX2_init_41 : decode cX2_init 41 = .ok (.aload_n 0, 1) := by decide +kernel
theorem dX2_init_42 : decode cX2_init 42 = .ok (.getfield 27, 3) := by decide +kernel
theorem dX2_init_45 : decode cX2_init 45 = .ok (.iload_n 1, 1) := by decide +kernel
theorem dX2_init_46 : decode cX2_init 46 = .ok (.new 25, 3) := by decide +kernel
theorem dX2_init_49 : decode cX2_init 49 = .ok (.dup, 1) := by decide +kernel
theorem dX2_init_50 : decode cX2_init 50 = .ok (.invokespecial 31, 3) := by decide +kernel
theorem dX2_init_53 : decode cX2_init 53 = .ok (.aastore, 1) := by decide +kernel
theorem dX2_init_54 : decode cX2_init 54 = .ok (.iinc 1 1, 3) := by decide +kernel
theorem dX2_init_57 : decode cX2_init 57 = .ok (.goto (-21), 3) := by decide +kernel
theorem dX2_init_60 : decode cX2_init 60 = .ok (.aload_n 0, 1) := by decide +kernel
theorem dX2_init_61 : decode cX2_init 61 = .ok (.getstatic 32, 3) := by decide +kernel
theorem dX2_init_64 : decode cX2_init 64 = .ok (.invokevirtual 36, 3) := by decide +kernel
theorem dX2_init_67 : decode cX2_init 67 = .ok (.checkcast 37, 3) := by decide +kernel
theorem dX2_init_70 : decode cX2_init 70 = .ok (.putfield 41, 3) := by decide +kernel
theorem dX2_init_73 : decode cX2_init 73 = .ok (.return_, 1) := by decide +kernel
theorem mc_X2_init : MC yX2_init cX2_init 2 0 := ⟨rfl, w_87, w_57, w_88, by decide, by decide, by decide +kernel⟩
def k_X2_init (S : SH) (a0 : Nat) (μ : Mem) : Option STT :=
  (some (nwO 4 S μ)).bind fun σ1 =>
  (k_X4_init (σ1.1) S.1 (σ1.2)).bind fun σ2 =>
  (pR (σ2.1) 2 a0 0 S.1).bind fun T3 =>
  (some (nwO 5 T3 (σ2.2))).bind fun σ4 =>
  (k_X5_init (σ4.1) T3.1 (σ4.2)).bind fun σ5 =>
  (pR (σ5.1) 2 a0 1 T3.1).bind fun T6 =>
  (some (nwA (.object "CranePads$Chart") 3 T6 (σ5.2))).bind fun σ7 =>
  (pR (σ7.1) 2 a0 2 T6.1).bind fun T8 =>
  (gR T8 2 a0 2).bind fun v9 =>
  (some (nwO 1 T8 (σ7.2))).bind fun σ10 =>
  (k_X1_init (σ10.1) T8.1 (σ10.2)).bind fun σ11 =>
  (sR (σ11.1) (.object "CranePads$Chart") v9 0 1 T8.1).bind fun T12 =>
  (gR T12 2 a0 2).bind fun v13 =>
  (some (nwO 1 T12 (σ11.2))).bind fun σ14 =>
  (k_X1_init (σ14.1) T12.1 (σ14.2)).bind fun σ15 =>
  (sR (σ15.1) (.object "CranePads$Chart") v13 1 1 T12.1).bind fun T16 =>
  (gR T16 2 a0 2).bind fun v17 =>
  (some (nwO 1 T16 (σ15.2))).bind fun σ18 =>
  (k_X1_init (σ18.1) T16.1 (σ18.2)).bind fun σ19 =>
  (sR (σ19.1) (.object "CranePads$Chart") v17 2 1 T16.1).bind fun T20 =>
  (some (nwT 0 T20 (σ19.2))).bind fun σ21 =>
  (isA (σ21.1) .int T20.1).bind fun v22 =>
  (pR (σ21.1) 2 a0 3 T20.1).bind fun T23 =>
  some (T23, σ21.2)
set_option maxRecDepth 100000 in
set_option maxHeartbeats 4000000 in
theorem ck_X2_init {l : Launch} {γ : GE} {S : SH} {a0 : Nat} {μ : Mem} {X : STT} (h : k_X2_init S a0 μ = some X) : Ct l γ yX2_init cX2_init 2 none rm_X2_init [.ref (gb γ + a0)] S μ X.1 X.2 none := by
  unfold k_X2_init at h
  have hJ : ∀ (p : Program) (e : Env) (s : State) (m : MethodId) (args : Array Value) (below : List Frame) (meth : Method) (c : Code), FX γ p s m args meth c cX2_init RX2 2 → meth.sig.returnType = none → meth.name = "<init>" → JJ γ p l e rm_X2_init s m args below meth c 2 0 0 (MQ below (Qm γ X.1 X.2 none) args s 17 271 (AA γ)) S μ 0 [(0, .ref (gb γ + a0))] [] := by
    intro p e s m args below meth c F hr hin
    refine j_aload_n F 0 dX2_init_0 rfl ?_
    refine j_objI F w_89 oiw ⟨(Nat.le_of_ble_eq_true rfl), (Nat.le_of_ble_eq_true rfl)⟩ dX2_init_1 ?_
    refine j_aload_n F 0 dX2_init_4 rfl ?_
    refine j_new F cp4 ⟨w_90, w_91, w_58⟩ (by decide) (Nat.le_of_ble_eq_true rfl) (Nat.le_of_ble_eq_true rfl) dX2_init_5 h (fun σ1 h => ?_)
    refine j_dup F dX2_init_8 rfl ?_
    refine j_cI F mc_X4_init w_92 h (fun _ g => ck_X4_init g) (Nat.le_of_ble_eq_true rfl) ⟨(Nat.le_of_ble_eq_true rfl), (Nat.le_of_ble_eq_true rfl)⟩ ⟨(Nat.le_of_ble_eq_true rfl), (Nat.le_of_ble_eq_true rfl)⟩ dX2_init_9 (fun σ2 h => ?_)
    refine j_pR (j := 0) F cp2 (Nat.le_of_ble_eq_true rfl) w_235 rfl rfl rfl hin rfl dX2_init_12 h (fun T3 h => ?_)
    refine j_aload_n F 0 dX2_init_15 rfl ?_
    refine j_new F cp5 ⟨w_158, w_159, w_59⟩ (by decide) (Nat.le_of_ble_eq_true rfl) (Nat.le_of_ble_eq_true rfl) dX2_init_16 h (fun σ4 h => ?_)
    refine j_dup F dX2_init_19 rfl ?_
    refine j_cIN F mc_X5_init (by decide +kernel) h (fun _ g => ck_X5_init g) (Nat.le_of_ble_eq_true rfl) ⟨(Nat.le_of_ble_eq_true rfl), (Nat.le_of_ble_eq_true rfl)⟩ ⟨(Nat.le_of_ble_eq_true rfl), (Nat.le_of_ble_eq_true rfl)⟩ dX2_init_20 (fun σ5 h => ?_)
    refine j_pR (j := 1) F cp2 (Nat.le_of_ble_eq_true rfl) w_238 rfl rfl rfl hin rfl dX2_init_23 h (fun T6 h => ?_)
    refine j_aload_n F 0 dX2_init_26 rfl ?_
    refine j_iconst F 3 dX2_init_27 (by decide) ?_
    refine j_newq F 3 w_208 (by decide) (by decide) (Nat.le_of_ble_eq_true rfl) (Nat.le_of_ble_eq_true rfl) (Nat.le_of_ble_eq_true rfl) dX2_init_28 h (fun σ7 h => ?_)
    refine j_pR (j := 2) F cp2 (Nat.le_of_ble_eq_true rfl) w_241 rfl rfl rfl hin rfl dX2_init_31 h (fun T8 h => ?_)
    refine j_iconst F 0 dX2_init_34 (by decide) ?_
    refine j_istore_n F [(1, .int 0), (0, .ref (gb γ + a0))] dX2_init_35 rfl (by decide) rfl ?_
    refine j_iload_n F 0 dX2_init_36 rfl ?_
    refine j_iconst F 3 dX2_init_37 (by decide) ?_
    refine j_icmpge (ρ := Unit) (X := ()) F 60 dX2_init_38 (by decide) (a := none) (b := some ()) (by decide) (fun q _ => absurd q (by decide)) (fun _ _ => ?_)
    refine j_aload_n F 1 dX2_init_41 rfl ?_
    refine j_gR F fl_RX2_27 rfl dX2_init_42 h (fun v9 h => ?_)
    refine j_iload_n F 0 dX2_init_45 rfl ?_
    refine j_new F cp1 ⟨w_208, w_210, w_60⟩ (by decide) (Nat.le_of_ble_eq_true rfl) (Nat.le_of_ble_eq_true rfl) dX2_init_46 h (fun σ10 h => ?_)
    refine j_dup F dX2_init_49 rfl ?_
    refine j_cI F mc_X1_init w_211 h (fun _ g => ck_X1_init g) (Nat.le_of_ble_eq_true rfl) ⟨(Nat.le_of_ble_eq_true rfl), (Nat.le_of_ble_eq_true rfl)⟩ ⟨(Nat.le_of_ble_eq_true rfl), (Nat.le_of_ble_eq_true rfl)⟩ dX2_init_50 (fun σ11 h => ?_)
    refine j_aast F cp1 dX2_init_53 h (fun T12 h => ?_)
    refine j_iinc F 1 0 [(1, .int 1), (0, .ref (gb γ + a0))] dX2_init_54 rfl (by decide) (by decide) rfl ?_
    refine j_goto F 36 dX2_init_57 (by decide) ?_
    refine j_iload_n F 0 dX2_init_36 rfl ?_
    refine j_iconst F 3 dX2_init_37 (by decide) ?_
    refine j_icmpge (ρ := Unit) (X := ()) F 60 dX2_init_38 (by decide) (a := none) (b := some ()) (by decide) (fun q _ => absurd q (by decide)) (fun _ _ => ?_)
    refine j_aload_n F 1 dX2_init_41 rfl ?_
    refine j_gR F fl_RX2_27 rfl dX2_init_42 h (fun v13 h => ?_)
    refine j_iload_n F 0 dX2_init_45 rfl ?_
    refine j_new F cp1 ⟨w_208, w_210, w_60⟩ (by decide) (Nat.le_of_ble_eq_true rfl) (Nat.le_of_ble_eq_true rfl) dX2_init_46 h (fun σ14 h => ?_)
    refine j_dup F dX2_init_49 rfl ?_
    refine j_cI F mc_X1_init w_211 h (fun _ g => ck_X1_init g) (Nat.le_of_ble_eq_true rfl) ⟨(Nat.le_of_ble_eq_true rfl), (Nat.le_of_ble_eq_true rfl)⟩ ⟨(Nat.le_of_ble_eq_true rfl), (Nat.le_of_ble_eq_true rfl)⟩ dX2_init_50 (fun σ15 h => ?_)
    refine j_aast F cp1 dX2_init_53 h (fun T16 h => ?_)
    refine j_iinc F 1 0 [(1, .int 2), (0, .ref (gb γ + a0))] dX2_init_54 rfl (by decide) (by decide) rfl ?_
    refine j_goto F 36 dX2_init_57 (by decide) ?_
    refine j_iload_n F 0 dX2_init_36 rfl ?_
    refine j_iconst F 3 dX2_init_37 (by decide) ?_
    refine j_icmpge (ρ := Unit) (X := ()) F 60 dX2_init_38 (by decide) (a := none) (b := some ()) (by decide) (fun q _ => absurd q (by decide)) (fun _ _ => ?_)
    refine j_aload_n F 1 dX2_init_41 rfl ?_
    refine j_gR F fl_RX2_27 rfl dX2_init_42 h (fun v17 h => ?_)
    refine j_iload_n F 0 dX2_init_45 rfl ?_
    refine j_new F cp1 ⟨w_208, w_210, w_60⟩ (by decide) (Nat.le_of_ble_eq_true rfl) (Nat.le_of_ble_eq_true rfl) dX2_init_46 h (fun σ18 h => ?_)
    refine j_dup F dX2_init_49 rfl ?_
    refine j_cI F mc_X1_init w_211 h (fun _ g => ck_X1_init g) (Nat.le_of_ble_eq_true rfl) ⟨(Nat.le_of_ble_eq_true rfl), (Nat.le_of_ble_eq_true rfl)⟩ ⟨(Nat.le_of_ble_eq_true rfl), (Nat.le_of_ble_eq_true rfl)⟩ dX2_init_50 (fun σ19 h => ?_)
    refine j_aast F cp1 dX2_init_53 h (fun T20 h => ?_)
    refine j_iinc F 1 0 [(1, .int 3), (0, .ref (gb γ + a0))] dX2_init_54 rfl (by decide) (by decide) rfl ?_
    refine j_goto F 36 dX2_init_57 (by decide) ?_
    refine j_iload_n F 0 dX2_init_36 rfl ?_
    refine j_iconst F 3 dX2_init_37 (by decide) ?_
    refine j_icmpge (ρ := Unit) (X := ()) F 60 dX2_init_38 (by decide) (a := some ()) (b := none) (by decide) (fun _ _ => ?_) (fun q _ => absurd (by decide) q)
    refine j_aload_n F 1 dX2_init_60 rfl ?_
    refine j_getsN F 0 (by decide) (by decide +kernel) dX2_init_61 ?_
    refine j_clone F ⟨w_228, w_229, w_230, w_231, w_232⟩ ⟨(Nat.le_of_ble_eq_true rfl), (Nat.le_of_ble_eq_true rfl)⟩ (Nat.le_of_ble_eq_true rfl) (Nat.le_of_ble_eq_true rfl) dX2_init_64 h (fun σ21 h => ?_)
    refine j_castI F w_234 dX2_init_67 h (fun v22 h => ?_)
    refine j_pR (j := 3) F cp2 (Nat.le_of_ble_eq_true rfl) w_243 rfl rfl rfl hin rfl dX2_init_70 h (fun T23 h => ?_)
    exact j_cret F hr dX2_init_73 h
  exact ct_of (by decide +kernel) (Nat.le_of_ble_eq_true rfl) (fun p e s m args below meth c F hr hin => hJ p e s m args below meth c F hr hin)
def rm_X11_init : Room := { frames := 5, cells := 80, slots := 1395, locals := 115 }
theorem dX11_init_0 : decode cX11_init 0 = .ok (.aload_n 0, 1) := by decide +kernel
theorem dX11_init_1 : decode cX11_init 1 = .ok (.invokespecial 3, 3) := by decide +kernel
theorem dX11_init_4 : decode cX11_init 4 = .ok (.aload_n 0, 1) := by decide +kernel
theorem dX11_init_5 : decode cX11_init 5 = .ok (.new 9, 3) := by decide +kernel
theorem dX11_init_8 : decode cX11_init 8 = .ok (.dup, 1) := by decide +kernel
theorem dX11_init_9 : decode cX11_init 9 = .ok (.invokespecial 11, 3) := by decide +kernel
theorem dX11_init_12 : decode cX11_init 12 = .ok (.putfield 12, 3) := by decide +kernel
theorem dX11_init_15 : decode cX11_init 15 = .ok (.aload_n 0, 1) := by decide +kernel
theorem dX11_init_16 : decode cX11_init 16 = .ok (.new 9, 3) := by decide +kernel
theorem dX11_init_19 : decode cX11_init 19 = .ok (.dup, 1) := by decide +kernel
theorem dX11_init_20 : decode cX11_init 20 = .ok (.invokespecial 11, 3) := by decide +kernel
theorem dX11_init_23 : decode cX11_init 23 = .ok (.putfield 18, 3) := by decide +kernel
theorem dX11_init_26 : decode cX11_init 26 = .ok (.aload_n 0, 1) := by decide +kernel
theorem dX11_init_27 : decode cX11_init 27 = .ok (.new 9, 3) := by decide +kernel
theorem dX11_init_30 : decode cX11_init 30 = .ok (.dup, 1) := by decide +kernel
theorem dX11_init_31 : decode cX11_init 31 = .ok (.invokespecial 11, 3) := by decide +kernel
theorem dX11_init_34 : decode cX11_init 34 = .ok (.putfield 21, 3) := by decide +kernel
theorem dX11_init_37 : decode cX11_init 37 = .ok (.aload_n 0, 1) := by decide +kernel
theorem dX11_init_38 : decode cX11_init 38 = .ok (.new 24, 3) := by decide +kernel
theorem dX11_init_41 : decode cX11_init 41 = .ok (.dup, 1) := by decide +kernel
theorem dX11_init_42 : decode cX11_init 42 = .ok (.invokespecial 26, 3) := by decide +kernel
theorem dX11_init_45 : decode cX11_init 45 = .ok (.putfield 27, 3) := by decide +kernel
theorem dX11_init_48 : decode cX11_init 48 = .ok (.aload_n 0, 1) := by decide +kernel
theorem dX11_init_49 : decode cX11_init 49 = .ok (.new 31, 3) := by decide +kernel
theorem dX11_init_52 : decode cX11_init 52 = .ok (.dup, 1) := by decide +kernel
theorem dX11_init_53 : decode cX11_init 53 = .ok (.invokespecial 33, 3) := by decide +kernel
theorem dX11_init_56 : decode cX11_init 56 = .ok (.putfield 34, 3) := by decide +kernel
theorem dX11_init_59 : decode cX11_init 59 = .ok (.aload_n 0, 1) := by decide +kernel
theorem dX11_init_60 : decode cX11_init 60 = .ok (.new 38, 3) := by decide +kernel
theorem dX11_init_63 : decode cX11_init 63 = .ok (.dup, 1) := by decide +kernel
theorem dX11_init_64 : decode cX11_init 64 = .ok (.invokespecial 40, 3) := by decide +kernel
theorem dX11_init_67 : decode cX11_init 67 = .ok (.putfield 41, 3) := by decide +kernel
theorem dX11_init_70 : decode cX11_init 70 = .ok (.aload_n 0, 1) := by decide +kernel
theorem dX11_init_71 : decode cX11_init 71 = .ok (.new 45, 3) := by decide +kernel
theorem dX11_init_74 : decode cX11_init 74 = .ok (.dup, 1) := by decide +kernel
theorem dX11_init_75 : decode cX11_init 75 = .ok (.invokespecial 47, 3) := by decide +kernel
theorem dX11_init_78 : decode cX11_init 78 = .ok (.putfield 48, 3) := by decide +kernel
theorem dX11_init_81 : decode cX11_init 81 = .ok (.aload_n 0, 1) := by decide +kernel
theorem dX11_init_82 : decode cX11_init 82 = .ok (.new 45, 3) := by decide +kernel
theorem dX11_init_85 : decode cX11_init 85 = .ok (.dup, 1) := by decide +kernel
theorem dX11_init_86 : decode cX11_init 86 = .ok (.invokespecial 47, 3) := by decide +kernel
theorem dX11_init_89 : decode cX11_init 89 = .ok (.putfield 52, 3) := by decide +kernel
theorem dX11_init_92 : decode cX11_init 92 = .ok (.aload_n 0, 1) := by decide +kernel
theorem dX11_init_93 : decode cX11_init 93 = .ok (.new 55, 3) := by decide +kernel
theorem dX11_init_96 : decode cX11_init 96 = .ok (.dup, 1) := by decide +kernel
theorem dX11_init_97 : decode cX11_init 97 = .ok (.invokespecial 57, 3) := by decide +kernel
theorem dX11_init_100 : decode cX11_init 100 = .ok (.putfield 58, 3) := by decide +kernel
theorem dX11_init_103 : decode cX11_init 103 = .ok (.aload_n 0, 1) := by decide +kernel
theorem dX11_init_104 : decode cX11_init 104 = .ok (.new 62, 3) := by decide +kernel
theorem dX11_init_107 : decode cX11_init 107 = .ok (.dup, 1) := by decide +kernel
theorem dX11_init_108 : decode cX11_init 108 = .ok (.invokespecial 64, 3) := by decide +kernel
theorem dX11_init_111 : decode cX11_init 111 = .ok (.putfield 65, 3) := by decide +kernel
theorem dX11_init_114 : decode cX11_init 114 = .ok (.aload_n 0, 1) := by decide +kernel
theorem dX11_init_115 : decode cX11_init 115 = .ok (.new 69, 3) := by decide +kernel
theorem dX11_init_118 : decode cX11_init 118 = .ok (.dup, 1) := by decide +kernel
theorem dX11_init_119 : decode cX11_init 119 = .ok (.invokespecial 71, 3) := by decide +kernel
theorem dX11_init_122 : decode cX11_init 122 = .ok (.putfield 72, 3) := by decide +kernel
theorem dX11_init_125 : decode cX11_init 125 = .ok (.aload_n 0, 1) := by decide +kernel
theorem dX11_init_126 : decode cX11_init 126 = .ok (.iconst 0, 1) := by decide +kernel
theorem dX11_init_127 : decode cX11_init 127 = .ok (.putfield 76, 3) := by decide +kernel
theorem dX11_init_130 : decode cX11_init 130 = .ok (.return_, 1) := by decide +kernel
theorem mc_X11_init : MC yX11_init cX11_init 1 0 := ⟨rfl, w_79, w_56, w_80, by decide, by decide, by decide +kernel⟩
def k_X11_init (S : SH) (a0 : Nat) (μ : Mem) : Option STT :=
  (some (nwO 2 S μ)).bind fun σ1 =>
  (k_X2_init (σ1.1) S.1 (σ1.2)).bind fun σ2 =>
  (pR (σ2.1) 11 a0 0 S.1).bind fun T3 =>
  (some (nwO 2 T3 (σ2.2))).bind fun σ4 =>
  (k_X2_init (σ4.1) T3.1 (σ4.2)).bind fun σ5 =>
  (pR (σ5.1) 11 a0 1 T3.1).bind fun T6 =>
  (some (nwO 2 T6 (σ5.2))).bind fun σ7 =>
  (k_X2_init (σ7.1) T6.1 (σ7.2)).bind fun σ8 =>
  (pR (σ8.1) 11 a0 2 T6.1).bind fun T9 =>
  (some (nwO 3 T9 (σ8.2))).bind fun σ10 =>
  (k_X3_init (σ10.1) T9.1 (σ10.2)).bind fun σ11 =>
  (pR (σ11.1) 11 a0 3 T9.1).bind fun T12 =>
  (some (nwO 7 T12 (σ11.2))).bind fun σ13 =>
  (k_X7_init (σ13.1) T12.1 (σ13.2)).bind fun σ14 =>
  (pR (σ14.1) 11 a0 4 T12.1).bind fun T15 =>
  (some (nwO 9 T15 (σ14.2))).bind fun σ16 =>
  (k_X9_init (σ16.1) T15.1 (σ16.2)).bind fun σ17 =>
  (pR (σ17.1) 11 a0 5 T15.1).bind fun T18 =>
  (some (nwO 6 T18 (σ17.2))).bind fun σ19 =>
  (k_X6_init (σ19.1) T18.1 (σ19.2)).bind fun σ20 =>
  (pR (σ20.1) 11 a0 6 T18.1).bind fun T21 =>
  (some (nwO 6 T21 (σ20.2))).bind fun σ22 =>
  (k_X6_init (σ22.1) T21.1 (σ22.2)).bind fun σ23 =>
  (pR (σ23.1) 11 a0 7 T21.1).bind fun T24 =>
  (some (nwO 10 T24 (σ23.2))).bind fun σ25 =>
  (k_X10_init (σ25.1) T24.1 (σ25.2)).bind fun σ26 =>
  (pR (σ26.1) 11 a0 8 T24.1).bind fun T27 =>
  (some (nwO 0 T27 (σ26.2))).bind fun σ28 =>
  (k_X0_init (σ28.1) T27.1 (σ28.2)).bind fun σ29 =>
  (pR (σ29.1) 11 a0 9 T27.1).bind fun T30 =>
  (some (nwO 8 T30 (σ29.2))).bind fun σ31 =>
  (k_X8_init (σ31.1) T30.1 (σ31.2)).bind fun σ32 =>
  (pR (σ32.1) 11 a0 10 T30.1).bind fun T33 =>
  (pZ T33 11 a0 11 0 (σ32.2)).bind fun ν34 =>
  some (T33, ν34)
set_option maxRecDepth 100000 in
set_option maxHeartbeats 4000000 in
theorem ck_X11_init {l : Launch} {γ : GE} {S : SH} {a0 : Nat} {μ : Mem} {X : STT} (h : k_X11_init S a0 μ = some X) : Ct l γ yX11_init cX11_init 1 none rm_X11_init [.ref (gb γ + a0)] S μ X.1 X.2 none := by
  unfold k_X11_init at h
  have hJ : ∀ (p : Program) (e : Env) (s : State) (m : MethodId) (args : Array Value) (below : List Frame) (meth : Method) (c : Code), FX γ p s m args meth c cX11_init RX11 1 → meth.sig.returnType = none → meth.name = "<init>" → JJ γ p l e rm_X11_init s m args below meth c 1 0 0 (MQ below (Qm γ X.1 X.2 none) args s 80 1395 (AA γ)) S μ 0 [(0, .ref (gb γ + a0))] [] := by
    intro p e s m args below meth c F hr hin
    refine j_aload_n F 0 dX11_init_0 rfl ?_
    refine j_objI F w_81 oiw ⟨(Nat.le_of_ble_eq_true rfl), (Nat.le_of_ble_eq_true rfl)⟩ dX11_init_1 ?_
    refine j_aload_n F 0 dX11_init_4 rfl ?_
    refine j_new F cp2 ⟨w_84, w_85, w_57⟩ (by decide) (Nat.le_of_ble_eq_true rfl) (Nat.le_of_ble_eq_true rfl) dX11_init_5 h (fun σ1 h => ?_)
    refine j_dup F dX11_init_8 rfl ?_
    refine j_cI F mc_X2_init w_86 h (fun _ g => ck_X2_init g) (Nat.le_of_ble_eq_true rfl) ⟨(Nat.le_of_ble_eq_true rfl), (Nat.le_of_ble_eq_true rfl)⟩ ⟨(Nat.le_of_ble_eq_true rfl), (Nat.le_of_ble_eq_true rfl)⟩ dX11_init_9 (fun σ2 h => ?_)
    refine j_pR (j := 0) F cp11 (Nat.le_of_ble_eq_true rfl) w_420 rfl rfl rfl hin rfl dX11_init_12 h (fun T3 h => ?_)
    refine j_aload_n F 0 dX11_init_15 rfl ?_
    refine j_new F cp2 ⟨w_84, w_85, w_57⟩ (by decide) (Nat.le_of_ble_eq_true rfl) (Nat.le_of_ble_eq_true rfl) dX11_init_16 h (fun σ4 h => ?_)
    refine j_dup F dX11_init_19 rfl ?_
    refine j_cI F mc_X2_init w_86 h (fun _ g => ck_X2_init g) (Nat.le_of_ble_eq_true rfl) ⟨(Nat.le_of_ble_eq_true rfl), (Nat.le_of_ble_eq_true rfl)⟩ ⟨(Nat.le_of_ble_eq_true rfl), (Nat.le_of_ble_eq_true rfl)⟩ dX11_init_20 (fun σ5 h => ?_)
    refine j_pR (j := 1) F cp11 (Nat.le_of_ble_eq_true rfl) w_421 rfl rfl rfl hin rfl dX11_init_23 h (fun T6 h => ?_)
    refine j_aload_n F 0 dX11_init_26 rfl ?_
    refine j_new F cp2 ⟨w_84, w_85, w_57⟩ (by decide) (Nat.le_of_ble_eq_true rfl) (Nat.le_of_ble_eq_true rfl) dX11_init_27 h (fun σ7 h => ?_)
    refine j_dup F dX11_init_30 rfl ?_
    refine j_cI F mc_X2_init w_86 h (fun _ g => ck_X2_init g) (Nat.le_of_ble_eq_true rfl) ⟨(Nat.le_of_ble_eq_true rfl), (Nat.le_of_ble_eq_true rfl)⟩ ⟨(Nat.le_of_ble_eq_true rfl), (Nat.le_of_ble_eq_true rfl)⟩ dX11_init_31 (fun σ8 h => ?_)
    refine j_pR (j := 2) F cp11 (Nat.le_of_ble_eq_true rfl) w_422 rfl rfl rfl hin rfl dX11_init_34 h (fun T9 h => ?_)
    refine j_aload_n F 0 dX11_init_37 rfl ?_
    refine j_new F cp3 ⟨w_257, w_258, w_62⟩ (by decide) (Nat.le_of_ble_eq_true rfl) (Nat.le_of_ble_eq_true rfl) dX11_init_38 h (fun σ10 h => ?_)
    refine j_dup F dX11_init_41 rfl ?_
    refine j_cIN F mc_X3_init (by decide +kernel) h (fun _ g => ck_X3_init g) (Nat.le_of_ble_eq_true rfl) ⟨(Nat.le_of_ble_eq_true rfl), (Nat.le_of_ble_eq_true rfl)⟩ ⟨(Nat.le_of_ble_eq_true rfl), (Nat.le_of_ble_eq_true rfl)⟩ dX11_init_42 (fun σ11 h => ?_)
    refine j_pR (j := 3) F cp11 (Nat.le_of_ble_eq_true rfl) w_423 rfl rfl rfl hin rfl dX11_init_45 h (fun T12 h => ?_)
    refine j_aload_n F 0 dX11_init_48 rfl ?_
    refine j_new F cp7 ⟨w_297, w_298, w_63⟩ (by decide) (Nat.le_of_ble_eq_true rfl) (Nat.le_of_ble_eq_true rfl) dX11_init_49 h (fun σ13 h => ?_)
    refine j_dup F dX11_init_52 rfl ?_
    refine j_cIN F mc_X7_init (by decide +kernel) h (fun _ g => ck_X7_init g) (Nat.le_of_ble_eq_true rfl) ⟨(Nat.le_of_ble_eq_true rfl), (Nat.le_of_ble_eq_true rfl)⟩ ⟨(Nat.le_of_ble_eq_true rfl), (Nat.le_of_ble_eq_true rfl)⟩ dX11_init_53 (fun σ14 h => ?_)
    refine j_pR (j := 4) F cp11 (Nat.le_of_ble_eq_true rfl) w_424 rfl rfl rfl hin rfl dX11_init_56 h (fun T15 h => ?_)
    refine j_aload_n F 0 dX11_init_59 rfl ?_
    refine j_new F cp9 ⟨w_314, w_315, w_64⟩ (by decide) (Nat.le_of_ble_eq_true rfl) (Nat.le_of_ble_eq_true rfl) dX11_init_60 h (fun σ16 h => ?_)
    refine j_dup F dX11_init_63 rfl ?_
    refine j_cIN F mc_X9_init (by decide +kernel) h (fun _ g => ck_X9_init g) (Nat.le_of_ble_eq_true rfl) ⟨(Nat.le_of_ble_eq_true rfl), (Nat.le_of_ble_eq_true rfl)⟩ ⟨(Nat.le_of_ble_eq_true rfl), (Nat.le_of_ble_eq_true rfl)⟩ dX11_init_64 (fun σ17 h => ?_)
    refine j_pR (j := 5) F cp11 (Nat.le_of_ble_eq_true rfl) w_425 rfl rfl rfl hin rfl dX11_init_67 h (fun T18 h => ?_)
    refine j_aload_n F 0 dX11_init_70 rfl ?_
    refine j_new F cp6 ⟨w_332, w_333, w_65⟩ (by decide) (Nat.le_of_ble_eq_true rfl) (Nat.le_of_ble_eq_true rfl) dX11_init_71 h (fun σ19 h => ?_)
    refine j_dup F dX11_init_74 rfl ?_
    refine j_cIN F mc_X6_init (by decide +kernel) h (fun _ g => ck_X6_init g) (Nat.le_of_ble_eq_true rfl) ⟨(Nat.le_of_ble_eq_true rfl), (Nat.le_of_ble_eq_true rfl)⟩ ⟨(Nat.le_of_ble_eq_true rfl), (Nat.le_of_ble_eq_true rfl)⟩ dX11_init_75 (fun σ20 h => ?_)
    refine j_pR (j := 6) F cp11 (Nat.le_of_ble_eq_true rfl) w_426 rfl rfl rfl hin rfl dX11_init_78 h (fun T21 h => ?_)
    refine j_aload_n F 0 dX11_init_81 rfl ?_
    refine j_new F cp6 ⟨w_332, w_333, w_65⟩ (by decide) (Nat.le_of_ble_eq_true rfl) (Nat.le_of_ble_eq_true rfl) dX11_init_82 h (fun σ22 h => ?_)
    refine j_dup F dX11_init_85 rfl ?_
    refine j_cIN F mc_X6_init (by decide +kernel) h (fun _ g => ck_X6_init g) (Nat.le_of_ble_eq_true rfl) ⟨(Nat.le_of_ble_eq_true rfl), (Nat.le_of_ble_eq_true rfl)⟩ ⟨(Nat.le_of_ble_eq_true rfl), (Nat.le_of_ble_eq_true rfl)⟩ dX11_init_86 (fun σ23 h => ?_)
    refine j_pR (j := 7) F cp11 (Nat.le_of_ble_eq_true rfl) w_427 rfl rfl rfl hin rfl dX11_init_89 h (fun T24 h => ?_)
    refine j_aload_n F 0 dX11_init_92 rfl ?_
    refine j_new F cp10 ⟨w_353, w_354, w_66⟩ (by decide) (Nat.le_of_ble_eq_true rfl) (Nat.le_of_ble_eq_true rfl) dX11_init_93 h (fun σ25 h => ?_)
    refine j_dup F dX11_init_96 rfl ?_
    refine j_cIN F mc_X10_init (by decide +kernel) h (fun _ g => ck_X10_init g) (Nat.le_of_ble_eq_true rfl) ⟨(Nat.le_of_ble_eq_true rfl), (Nat.le_of_ble_eq_true rfl)⟩ ⟨(Nat.le_of_ble_eq_true rfl), (Nat.le_of_ble_eq_true rfl)⟩ dX11_init_97 (fun σ26 h => ?_)
    refine j_pR (j := 8) F cp11 (Nat.le_of_ble_eq_true rfl) w_428 rfl rfl rfl hin rfl dX11_init_100 h (fun T27 h => ?_)
    refine j_aload_n F 0 dX11_init_103 rfl ?_
    refine j_new F cp0 ⟨w_380, w_381, w_67⟩ (by decide) (Nat.le_of_ble_eq_true rfl) (Nat.le_of_ble_eq_true rfl) dX11_init_104 h (fun σ28 h => ?_)
    refine j_dup F dX11_init_107 rfl ?_
    refine j_cIN F mc_X0_init (by decide +kernel) h (fun _ g => ck_X0_init g) (Nat.le_of_ble_eq_true rfl) ⟨(Nat.le_of_ble_eq_true rfl), (Nat.le_of_ble_eq_true rfl)⟩ ⟨(Nat.le_of_ble_eq_true rfl), (Nat.le_of_ble_eq_true rfl)⟩ dX11_init_108 (fun σ29 h => ?_)
    refine j_pR (j := 9) F cp11 (Nat.le_of_ble_eq_true rfl) w_429 rfl rfl rfl hin rfl dX11_init_111 h (fun T30 h => ?_)
    refine j_aload_n F 0 dX11_init_114 rfl ?_
    refine j_new F cp8 ⟨w_403, w_404, w_68⟩ (by decide) (Nat.le_of_ble_eq_true rfl) (Nat.le_of_ble_eq_true rfl) dX11_init_115 h (fun σ31 h => ?_)
    refine j_dup F dX11_init_118 rfl ?_
    refine j_cIN F mc_X8_init (by decide +kernel) h (fun _ g => ck_X8_init g) (Nat.le_of_ble_eq_true rfl) ⟨(Nat.le_of_ble_eq_true rfl), (Nat.le_of_ble_eq_true rfl)⟩ ⟨(Nat.le_of_ble_eq_true rfl), (Nat.le_of_ble_eq_true rfl)⟩ dX11_init_119 (fun σ32 h => ?_)
    refine j_pR (j := 10) F cp11 (Nat.le_of_ble_eq_true rfl) w_430 rfl rfl rfl hin rfl dX11_init_122 h (fun T33 h => ?_)
    refine j_aload_n F 0 dX11_init_125 rfl ?_
    refine j_iconst F 0 dX11_init_126 (by decide) ?_
    refine j_pZ F fl_RX11_76 rfl dX11_init_127 h (fun ν34 h => ?_)
    exact j_cret F hr dX11_init_130 h
  exact ct_of (by decide +kernel) (Nat.le_of_ble_eq_true rfl) (fun p e s m args below meth c F hr hin => hJ p e s m args below meth c F hr hin)
def rm_X12_init : Room := { frames := 1, cells := 26, slots := 3187, locals := 30 }
theorem dX12_init_0 : decode cX12_init 0 = .ok (.aload_n 0, 1) := by decide +kernel
theorem dX12_init_1 : decode cX12_init 1 = .ok (.invokespecial 3, 3) := by decide +kernel
theorem dX12_init_4 : decode cX12_init 4 = .ok (.aload_n 0, 1) := by decide +kernel
theorem dX12_init_5 : decode cX12_init 5 = .ok (.bipush 12, 2) := by decide +kernel
theorem dX12_init_7 : decode cX12_init 7 = .ok (.newarray .int, 2) := by decide +kernel
theorem dX12_init_9 : decode cX12_init 9 = .ok (.dup, 1) := by decide +kernel
theorem dX12_init_10 : decode cX12_init 10 = .ok (.iconst 0, 1) := by decide +kernel
theorem dX12_init_11 : decode cX12_init 11 = .ok (.bipush 10, 2) := by decide +kernel
theorem dX12_init_13 : decode cX12_init 13 = .ok (.iastore, 1) := by decide +kernel
theorem dX12_init_14 : decode cX12_init 14 = .ok (.dup, 1) := by decide +kernel
theorem dX12_init_15 : decode cX12_init 15 = .ok (.iconst 1, 1) := by decide +kernel
theorem dX12_init_16 : decode cX12_init 16 = .ok (.bipush 10, 2) := by decide +kernel
theorem dX12_init_18 : decode cX12_init 18 = .ok (.iastore, 1) := by decide +kernel
theorem dX12_init_19 : decode cX12_init 19 = .ok (.dup, 1) := by decide +kernel
theorem dX12_init_20 : decode cX12_init 20 = .ok (.iconst 2, 1) := by decide +kernel
theorem dX12_init_21 : decode cX12_init 21 = .ok (.sipush 9999, 3) := by decide +kernel
theorem dX12_init_24 : decode cX12_init 24 = .ok (.iastore, 1) := by decide +kernel
theorem dX12_init_25 : decode cX12_init 25 = .ok (.dup, 1) := by decide +kernel
theorem dX12_init_26 : decode cX12_init 26 = .ok (.iconst 3, 1) := by decide +kernel
theorem dX12_init_27 : decode cX12_init 27 = .ok (.bipush (-10), 2) := by decide +kernel
theorem dX12_init_29 : decode cX12_init 29 = .ok (.iastore, 1) := by decide +kernel
theorem dX12_init_30 : decode cX12_init 30 = .ok (.dup, 1) := by decide +kernel
theorem dX12_init_31 : decode cX12_init 31 = .ok (.iconst 4, 1) := by decide +kernel
theorem dX12_init_32 : decode cX12_init 32 = .ok (.bipush 10, 2) := by decide +kernel
theorem dX12_init_34 : decode cX12_init 34 = .ok (.iastore, 1) := by decide +kernel
theorem dX12_init_35 : decode cX12_init 35 = .ok (.dup, 1) := by decide +kernel
theorem dX12_init_36 : decode cX12_init 36 = .ok (.iconst 5, 1) := by decide +kernel
theorem dX12_init_37 : decode cX12_init 37 = .ok (.sipush 9999, 3) := by decide +kernel
theorem dX12_init_40 : decode cX12_init 40 = .ok (.iastore, 1) := by decide +kernel
theorem dX12_init_41 : decode cX12_init 41 = .ok (.dup, 1) := by decide +kernel
theorem dX12_init_42 : decode cX12_init 42 = .ok (.bipush 6, 2) := by decide +kernel
theorem dX12_init_44 : decode cX12_init 44 = .ok (.bipush (-10), 2) := by decide +kernel
theorem dX12_init_46 : decode cX12_init 46 = .ok (.iastore, 1) := by decide +kernel
theorem dX12_init_47 : decode cX12_init 47 = .ok (.dup, 1) := by decide +kernel
theorem dX12_init_48 : decode cX12_init 48 = .ok (.bipush 7, 2) := by decide +kernel
theorem dX12_init_50 : decode cX12_init 50 = .ok (.bipush (-10), 2) := by decide +kernel
theorem dX12_init_52 : decode cX12_init 52 = .ok (.iastore, 1) := by decide +kernel
theorem dX12_init_53 : decode cX12_init 53 = .ok (.dup, 1) := by decide +kernel
theorem dX12_init_54 : decode cX12_init 54 = .ok (.bipush 8, 2) := by decide +kernel
theorem dX12_init_56 : decode cX12_init 56 = .ok (.sipush 9999, 3) := by decide +kernel
theorem dX12_init_59 : decode cX12_init 59 = .ok (.iastore, 1) := by decide +kernel
theorem dX12_init_60 : decode cX12_init 60 = .ok (.dup, 1) := by decide +kernel
theorem dX12_init_61 : decode cX12_init 61 = .ok (.bipush 9, 2) := by decide +kernel
theorem dX12_init_63 : decode cX12_init 63 = .ok (.bipush 10, 2) := by decide +kernel
theorem dX12_init_65 : decode cX12_init 65 = .ok (.iastore, 1) := by decide +kernel
theorem dX12_init_66 : decode cX12_init 66 = .ok (.dup, 1) := by decide +kernel
theorem dX12_init_67 : decode cX12_init 67 = .ok (.bipush 10, 2) := by decide +kernel
theorem dX12_init_69 : decode cX12_init 69 = .ok (.bipush (-10), 2) := by decide +kernel
theorem dX12_init_71 : decode cX12_init 71 = .ok (.iastore, 1) := by decide +kernel
theorem dX12_init_72 : decode cX12_init 72 = .ok (.dup, 1) := by decide +kernel
theorem dX12_init_73 : decode cX12_init 73 = .ok (.bipush 11, 2) := by decide +kernel
theorem dX12_init_75 : decode cX12_init 75 = .ok (.sipush 9999, 3) := by decide +kernel
theorem dX12_init_78 : decode cX12_init 78 = .ok (.iastore, 1) := by decide +kernel
theorem dX12_init_79 : decode cX12_init 79 = .ok (.putfield 9, 3) := by decide +kernel
theorem dX12_init_82 : decode cX12_init 82 = .ok (.aload_n 0, 1) := by decide +kernel
theorem dX12_init_83 : decode cX12_init 83 = .ok (.bipush 8, 2) := by decide +kernel
theorem dX12_init_85 : decode cX12_init 85 = .ok (.newarray .int, 2) := by decide +kernel
theorem dX12_init_87 : decode cX12_init 87 = .ok (.putfield 15, 3) := by decide +kernel
theorem dX12_init_90 : decode cX12_init 90 = .ok (.aload_n 0, 1) := by decide +kernel
theorem dX12_init_91 : decode cX12_init 91 = .ok (.bipush 8, 2) := by decide +kernel
theorem dX12_init_93 : decode cX12_init 93 = .ok (.newarray .int, 2) := by decide +kernel
theorem dX12_init_95 : decode cX12_init 95 = .ok (.putfield 18, 3) := by decide +kernel
theorem dX12_init_98 : decode cX12_init 98 = .ok (.aload_n 0, 1) := by decide +kernel
theorem dX12_init_99 : decode cX12_init 99 = .ok (.bipush 8, 2) := by decide +kernel
theorem dX12_init_101 : decode cX12_init 101 = .ok (.newarray .int, 2) := by decide +kernel
theorem dX12_init_103 : decode cX12_init 103 = .ok (.putfield 21, 3) := by decide +kernel
theorem dX12_init_106 : decode cX12_init 106 = .ok (.aload_n 0, 1) := by decide +kernel
theorem dX12_init_107 : decode cX12_init 107 = .ok (.bipush 8, 2) := by decide +kernel
theorem dX12_init_109 : decode cX12_init 109 = .ok (.newarray .int, 2) := by decide +kernel
theorem dX12_init_111 : decode cX12_init 111 = .ok (.putfield 24, 3) := by decide +kernel
theorem dX12_init_114 : decode cX12_init 114 = .ok (.aload_n 0, 1) := by decide +kernel
theorem dX12_init_115 : decode cX12_init 115 = .ok (.iconst 3, 1) := by decide +kernel
theorem dX12_init_116 : decode cX12_init 116 = .ok (.newarray .int, 2) := by decide +kernel
theorem dX12_init_118 : decode cX12_init 118 = .ok (.putfield 27, 3) := by decide +kernel
theorem dX12_init_121 : decode cX12_init 121 = .ok (.aload_n 0, 1) := by decide +kernel
theorem dX12_init_122 : decode cX12_init 122 = .ok (.bipush 30, 2) := by decide +kernel
theorem dX12_init_124 : decode cX12_init 124 = .ok (.newarray .int, 2) := by decide +kernel
theorem dX12_init_126 : decode cX12_init 126 = .ok (.putfield 30, 3) := by decide +kernel
theorem dX12_init_129 : decode cX12_init 129 = .ok (.aload_n 0, 1) := by decide +kernel
theorem dX12_init_130 : decode cX12_init 130 = .ok (.bipush 30, 2) := by decide +kernel
theorem dX12_init_132 : decode cX12_init 132 = .ok (.newarray .int, 2) := by decide +kernel
theorem dX12_init_134 : decode cX12_init 134 = .ok (.putfield 33, 3) := by decide +kernel
theorem dX12_init_137 : decode cX12_init 137 = .ok (.aload_n 0, 1) := by decide +kernel
theorem dX12_init_138 : decode cX12_init 138 = .ok (.bipush 14, 2) := by decide +kernel
theorem dX12_init_140 : decode cX12_init 140 = .ok (.newarray .int, 2) := by decide +kernel
theorem dX12_init_142 : decode cX12_init 142 = .ok (.dup, 1) := by decide +kernel
theorem dX12_init_143 : decode cX12_init 143 = .ok (.iconst 0, 1) := by decide +kernel
theorem dX12_init_144 : decode cX12_init 144 = .ok (.iconst 0, 1) := by decide +kernel
theorem dX12_init_145 : decode cX12_init 145 = .ok (.iastore, 1) := by decide +kernel
theorem dX12_init_146 : decode cX12_init 146 = .ok (.dup, 1) := by decide +kernel
theorem dX12_init_147 : decode cX12_init 147 = .ok (.iconst 1, 1) := by decide +kernel
theorem dX12_init_148 : decode cX12_init 148 = .ok (.iconst 5, 1) := by decide +kernel
theorem dX12_init_149 : decode cX12_init 149 = .ok (.iastore, 1) := by decide +kernel
theorem dX12_init_150 : decode cX12_init 150 = .ok (.dup, 1) := by decide +kernel
theorem dX12_init_151 : decode cX12_init 151 = .ok (.iconst 2, 1) := by decide +kernel
theorem dX12_init_152 : decode cX12_init 152 = .ok (.iconst 0, 1) := by decide +kernel
theorem dX12_init_153 : decode cX12_init 153 = .ok (.iastore, 1) := by decide +kernel
theorem dX12_init_154 : decode cX12_init 154 = .ok (.dup, 1) := by decide +kernel
theorem dX12_init_155 : decode cX12_init 155 = .ok (.iconst 3, 1) := by decide +kernel
theorem dX12_init_156 : decode cX12_init 156 = .ok (.iconst 0, 1) := by decide +kernel
theorem dX12_init_157 : decode cX12_init 157 = .ok (.iastore, 1) := by decide +kernel
theorem dX12_init_158 : decode cX12_init 158 = .ok (.dup, 1) := by decide +kernel
theorem dX12_init_159 : decode cX12_init 159 = .ok (.iconst 4, 1) := by decide +kernel
theorem dX12_init_160 : decode cX12_init 160 = .ok (.bipush 50, 2) := by decide +kernel
theorem dX12_init_162 : decode cX12_init 162 = .ok (.iastore, 1) := by decide +kernel
theorem dX12_init_163 : decode cX12_init 163 = .ok (.dup, 1) := by decide +kernel
theorem dX12_init_164 : decode cX12_init 164 = .ok (.iconst 5, 1) := by decide +kernel
theorem dX12_init_165 : decode cX12_init 165 = .ok (.iconst 0, 1) := by decide +kernel
theorem dX12_init_166 : decode cX12_init 166 = .ok (.iastore, 1) := by decide +kernel
theorem dX12_init_167 : decode cX12_init 167 = .ok (.dup, 1) := by decide +kernel
theorem dX12_init_168 : decode cX12_init 168 = .ok (.bipush 6, 2) := by decide +kernel
theorem dX12_init_170 : decode cX12_init 170 = .ok (.iconst 0, 1) := by decide +kernel
theorem dX12_init_171 : decode cX12_init 171 = .ok (.iastore, 1) := by decide +kernel
theorem dX12_init_172 : decode cX12_init 172 = .ok (.dup, 1) := by decide +kernel
theorem dX12_init_173 : decode cX12_init 173 = .ok (.bipush 7, 2) := by decide +kernel
theorem dX12_init_175 : decode cX12_init 175 = .ok (.iconst 0, 1) := by decide +kernel
theorem dX12_init_176 : decode cX12_init 176 = .ok (.iastore, 1) := by decide +kernel
theorem dX12_init_177 : decode cX12_init 177 = .ok (.dup, 1) := by decide +kernel
theorem dX12_init_178 : decode cX12_init 178 = .ok (.bipush 8, 2) := by decide +kernel
theorem dX12_init_180 : decode cX12_init 180 = .ok (.iconst 0, 1) := by decide +kernel
theorem dX12_init_181 : decode cX12_init 181 = .ok (.iastore, 1) := by decide +kernel
theorem dX12_init_182 : decode cX12_init 182 = .ok (.dup, 1) := by decide +kernel
theorem dX12_init_183 : decode cX12_init 183 = .ok (.bipush 9, 2) := by decide +kernel
theorem dX12_init_185 : decode cX12_init 185 = .ok (.iconst 0, 1) := by decide +kernel
theorem dX12_init_186 : decode cX12_init 186 = .ok (.iastore, 1) := by decide +kernel
theorem dX12_init_187 : decode cX12_init 187 = .ok (.dup, 1) := by decide +kernel
theorem dX12_init_188 : decode cX12_init 188 = .ok (.bipush 10, 2) := by decide +kernel
theorem dX12_init_190 : decode cX12_init 190 = .ok (.bipush 100, 2) := by decide +kernel
theorem dX12_init_192 : decode cX12_init 192 = .ok (.iastore, 1) := by decide +kernel
theorem dX12_init_193 : decode cX12_init 193 = .ok (.dup, 1) := by decide +kernel
theorem dX12_init_194 : decode cX12_init 194 = .ok (.bipush 11, 2) := by decide +kernel
theorem dX12_init_196 : decode cX12_init 196 = .ok (.bipush 100, 2) := by decide +kernel
theorem dX12_init_198 : decode cX12_init 198 = .ok (.iastore, 1) := by decide +kernel
theorem dX12_init_199 : decode cX12_init 199 = .ok (.dup, 1) := by decide +kernel
theorem dX12_init_200 : decode cX12_init 200 = .ok (.bipush 12, 2) := by decide +kernel
theorem dX12_init_202 : decode cX12_init 202 = .ok (.bipush 100, 2) := by decide +kernel
theorem dX12_init_204 : decode cX12_init 204 = .ok (.iastore, 1) := by decide +kernel
theorem dX12_init_205 : decode cX12_init 205 = .ok (.dup, 1) := by decide +kernel
theorem dX12_init_206 : decode cX12_init 206 = .ok (.bipush 13, 2) := by decide +kernel
theorem dX12_init_208 : decode cX12_init 208 = .ok (.bipush 100, 2) := by decide +kernel
theorem dX12_init_210 : decode cX12_init 210 = .ok (.iastore, 1) := by decide +kernel
theorem dX12_init_211 : decode cX12_init 211 = .ok (.putfield 36, 3) := by decide +kernel
theorem dX12_init_214 : decode cX12_init 214 = .ok (.aload_n 0, 1) := by decide +kernel
theorem dX12_init_215 : decode cX12_init 215 = .ok (.sipush 130, 3) := by decide +kernel
theorem dX12_init_218 : decode cX12_init 218 = .ok (.newarray .int, 2) := by decide +kernel
theorem dX12_init_220 : decode cX12_init 220 = .ok (.putfield 39, 3) := by decide +kernel
theorem dX12_init_223 : decode cX12_init 223 = .ok (.aload_n 0, 1) := by decide +kernel
theorem dX12_init_224 : decode cX12_init 224 = .ok (.bipush 10, 2) := by decide +kernel
theorem dX12_init_226 : decode cX12_init 226 = .ok (.newarray .int, 2) := by decide +kernel
theorem dX12_init_228 : decode cX12_init 228 = .ok (.putfield 42, 3) := by decide +kernel
theorem dX12_init_231 : decode cX12_init 231 = .ok (.aload_n 0, 1) := by decide +kernel
theorem dX12_init_232 : decode cX12_init 232 = .ok (.bipush 10, 2) := by decide +kernel
theorem dX12_init_234 : decode cX12_init 234 = .ok (.newarray .long, 2) := by decide +kernel
theorem dX12_init_236 : decode cX12_init 236 = .ok (.putfield 45, 3) := by decide +kernel
theorem dX12_init_239 : decode cX12_init 239 = .ok (.aload_n 0, 1) := by decide +kernel
theorem dX12_init_240 : decode cX12_init 240 = .ok (.bipush 10, 2) := by decide +kernel
theorem dX12_init_242 : decode cX12_init 242 = .ok (.newarray .long, 2) := by decide +kernel
theorem dX12_init_244 : decode cX12_init 244 = .ok (.putfield 49, 3) := by decide +kernel
theorem dX12_init_247 : decode cX12_init 247 = .ok (.aload_n 0, 1) := by decide +kernel
theorem dX12_init_248 : decode cX12_init 248 = .ok (.iconst 4, 1) := by decide +kernel
theorem dX12_init_249 : decode cX12_init 249 = .ok (.newarray .long, 2) := by decide +kernel
theorem dX12_init_251 : decode cX12_init 251 = .ok (.putfield 52, 3) := by decide +kernel
theorem dX12_init_254 : decode cX12_init 254 = .ok (.aload_n 0, 1) := by decide +kernel
theorem dX12_init_255 : decode cX12_init 255 = .ok (.sipush 1220, 3) := by decide +kernel
theorem dX12_init_258 : decode cX12_init 258 = .ok (.newarray .int, 2) := by decide +kernel
theorem dX12_init_260 : decode cX12_init 260 = .ok (.putfield 55, 3) := by decide +kernel
theorem dX12_init_263 : decode cX12_init 263 = .ok (.aload_n 0, 1) := by decide +kernel
theorem dX12_init_264 : decode cX12_init 264 = .ok (.sipush 1220, 3) := by decide +kernel
theorem dX12_init_267 : decode cX12_init 267 = .ok (.newarray .int, 2) := by decide +kernel
theorem dX12_init_269 : decode cX12_init 269 = .ok (.putfield 58, 3) := by decide +kernel
theorem dX12_init_272 : decode cX12_init 272 = .ok (.aload_n 0, 1) := by decide +kernel
theorem dX12_init_273 : decode cX12_init 273 = .ok (.bipush 100, 2) := by decide +kernel
theorem dX12_init_275 : decode cX12_init 275 = .ok (.newarray .int, 2) := by decide +kernel
theorem dX12_init_277 : decode cX12_init 277 = .ok (.putfield 61, 3) := by decide +kernel
theorem dX12_init_280 : decode cX12_init 280 = .ok (.aload_n 0, 1) := by decide +kernel
theorem dX12_init_281 : decode cX12_init 281 = .ok (.bipush 40, 2) := by decide +kernel
theorem dX12_init_283 : decode cX12_init 283 = .ok (.newarray .int, 2) := by decide +kernel
theorem dX12_init_285 : decode cX12_init 285 = .ok (.putfield 64, 3) := by decide +kernel
theorem dX12_init_288 : decode cX12_init 288 = .ok (.aload_n 0, 1) := by decide +kernel
theorem dX12_init_289 : decode cX12_init 289 = .ok (.bipush 40, 2) := by decide +kernel
theorem dX12_init_291 : decode cX12_init 291 = .ok (.newarray .int, 2) := by decide +kernel
theorem dX12_init_293 : decode cX12_init 293 = .ok (.putfield 67, 3) := by decide +kernel
theorem dX12_init_296 : decode cX12_init 296 = .ok (.aload_n 0, 1) := by decide +kernel
theorem dX12_init_297 : decode cX12_init 297 = .ok (.bipush 40, 2) := by decide +kernel
theorem dX12_init_299 : decode cX12_init 299 = .ok (.newarray .int, 2) := by decide +kernel
theorem dX12_init_301 : decode cX12_init 301 = .ok (.putfield 70, 3) := by decide +kernel
theorem dX12_init_304 : decode cX12_init 304 = .ok (.aload_n 0, 1) := by decide +kernel
theorem dX12_init_305 : decode cX12_init 305 = .ok (.bipush 40, 2) := by decide +kernel
theorem dX12_init_307 : decode cX12_init 307 = .ok (.newarray .int, 2) := by decide +kernel
theorem dX12_init_309 : decode cX12_init 309 = .ok (.putfield 73, 3) := by decide +kernel
theorem dX12_init_312 : decode cX12_init 312 = .ok (.aload_n 0, 1) := by decide +kernel
theorem dX12_init_313 : decode cX12_init 313 = .ok (.bipush 14, 2) := by decide +kernel
theorem dX12_init_315 : decode cX12_init 315 = .ok (.newarray .int, 2) := by decide +kernel
theorem dX12_init_317 : decode cX12_init 317 = .ok (.putfield 76, 3) := by decide +kernel
theorem dX12_init_320 : decode cX12_init 320 = .ok (.aload_n 0, 1) := by decide +kernel
theorem dX12_init_321 : decode cX12_init 321 = .ok (.bipush 40, 2) := by decide +kernel
theorem dX12_init_323 : decode cX12_init 323 = .ok (.newarray .int, 2) := by decide +kernel
theorem dX12_init_325 : decode cX12_init 325 = .ok (.putfield 79, 3) := by decide +kernel
theorem dX12_init_328 : decode cX12_init 328 = .ok (.aload_n 0, 1) := by decide +kernel
theorem dX12_init_329 : decode cX12_init 329 = .ok (.iconst 4, 1) := by decide +kernel
theorem dX12_init_330 : decode cX12_init 330 = .ok (.newarray .int, 2) := by decide +kernel
theorem dX12_init_332 : decode cX12_init 332 = .ok (.dup, 1) := by decide +kernel
theorem dX12_init_333 : decode cX12_init 333 = .ok (.iconst 0, 1) := by decide +kernel
theorem dX12_init_334 : decode cX12_init 334 = .ok (.iconst (-1), 1) := by decide +kernel
theorem dX12_init_335 : decode cX12_init 335 = .ok (.iastore, 1) := by decide +kernel
theorem dX12_init_336 : decode cX12_init 336 = .ok (.dup, 1) := by decide +kernel
theorem dX12_init_337 : decode cX12_init 337 = .ok (.iconst 1, 1) := by decide +kernel
theorem dX12_init_338 : decode cX12_init 338 = .ok (.iconst (-1), 1) := by decide +kernel
theorem dX12_init_339 : decode cX12_init 339 = .ok (.iastore, 1) := by decide +kernel
theorem dX12_init_340 : decode cX12_init 340 = .ok (.dup, 1) := by decide +kernel
theorem dX12_init_341 : decode cX12_init 341 = .ok (.iconst 2, 1) := by decide +kernel
theorem dX12_init_342 : decode cX12_init 342 = .ok (.iconst (-1), 1) := by decide +kernel
theorem dX12_init_343 : decode cX12_init 343 = .ok (.iastore, 1) := by decide +kernel
theorem dX12_init_344 : decode cX12_init 344 = .ok (.dup, 1) := by decide +kernel
theorem dX12_init_345 : decode cX12_init 345 = .ok (.iconst 3, 1) := by decide +kernel
theorem dX12_init_346 : decode cX12_init 346 = .ok (.iconst (-1), 1) := by decide +kernel
theorem dX12_init_347 : decode cX12_init 347 = .ok (.iastore, 1) := by decide +kernel
theorem dX12_init_348 : decode cX12_init 348 = .ok (.putfield 82, 3) := by decide +kernel
theorem dX12_init_351 : decode cX12_init 351 = .ok (.aload_n 0, 1) := by decide +kernel
theorem dX12_init_352 : decode cX12_init 352 = .ok (.bipush 120, 2) := by decide +kernel
theorem dX12_init_354 : decode cX12_init 354 = .ok (.newarray .long, 2) := by decide +kernel
theorem dX12_init_356 : decode cX12_init 356 = .ok (.putfield 85, 3) := by decide +kernel
theorem dX12_init_359 : decode cX12_init 359 = .ok (.aload_n 0, 1) := by decide +kernel
theorem dX12_init_360 : decode cX12_init 360 = .ok (.bipush 24, 2) := by decide +kernel
theorem dX12_init_362 : decode cX12_init 362 = .ok (.newarray .int, 2) := by decide +kernel
theorem dX12_init_364 : decode cX12_init 364 = .ok (.putfield 88, 3) := by decide +kernel
theorem dX12_init_367 : decode cX12_init 367 = .ok (.return_, 1) := by decide +kernel
theorem mc_X12_init : MC yX12_init cX12_init 1 0 := ⟨rfl, w_970, w_69, w_971, by decide, by decide, by decide +kernel⟩
def k_X12_init (S : SH) (a0 : Nat) (μ : Mem) : Option STT :=
  (some (nwA .int 12 S μ)).bind fun σ1 =>
  (sI (σ1.1) S.1 0 10 (σ1.2)).bind fun ν2 =>
  (sI (σ1.1) S.1 1 10 ν2).bind fun ν3 =>
  (sI (σ1.1) S.1 2 9999 ν3).bind fun ν4 =>
  (sI (σ1.1) S.1 3 (-10) ν4).bind fun ν5 =>
  (sI (σ1.1) S.1 4 10 ν5).bind fun ν6 =>
  (sI (σ1.1) S.1 5 9999 ν6).bind fun ν7 =>
  (sI (σ1.1) S.1 6 (-10) ν7).bind fun ν8 =>
  (sI (σ1.1) S.1 7 (-10) ν8).bind fun ν9 =>
  (sI (σ1.1) S.1 8 9999 ν9).bind fun ν10 =>
  (sI (σ1.1) S.1 9 10 ν10).bind fun ν11 =>
  (sI (σ1.1) S.1 10 (-10) ν11).bind fun ν12 =>
  (sI (σ1.1) S.1 11 9999 ν12).bind fun ν13 =>
  (pR (σ1.1) 12 a0 0 S.1).bind fun T14 =>
  (some (nwA .int 8 T14 ν13)).bind fun σ15 =>
  (pR (σ15.1) 12 a0 2 T14.1).bind fun T16 =>
  (some (nwA .int 8 T16 (σ15.2))).bind fun σ17 =>
  (pR (σ17.1) 12 a0 3 T16.1).bind fun T18 =>
  (some (nwA .int 8 T18 (σ17.2))).bind fun σ19 =>
  (pR (σ19.1) 12 a0 4 T18.1).bind fun T20 =>
  (some (nwA .int 8 T20 (σ19.2))).bind fun σ21 =>
  (pR (σ21.1) 12 a0 5 T20.1).bind fun T22 =>
  (some (nwA .int 3 T22 (σ21.2))).bind fun σ23 =>
  (pR (σ23.1) 12 a0 6 T22.1).bind fun T24 =>
  (some (nwA .int 30 T24 (σ23.2))).bind fun σ25 =>
  (pR (σ25.1) 12 a0 7 T24.1).bind fun T26 =>
  (some (nwA .int 30 T26 (σ25.2))).bind fun σ27 =>
  (pR (σ27.1) 12 a0 8 T26.1).bind fun T28 =>
  (some (nwA .int 14 T28 (σ27.2))).bind fun σ29 =>
  (sI (σ29.1) T28.1 0 0 (σ29.2)).bind fun ν30 =>
  (sI (σ29.1) T28.1 1 5 ν30).bind fun ν31 =>
  (sI (σ29.1) T28.1 2 0 ν31).bind fun ν32 =>
  (sI (σ29.1) T28.1 3 0 ν32).bind fun ν33 =>
  (sI (σ29.1) T28.1 4 50 ν33).bind fun ν34 =>
  (sI (σ29.1) T28.1 5 0 ν34).bind fun ν35 =>
  (sI (σ29.1) T28.1 6 0 ν35).bind fun ν36 =>
  (sI (σ29.1) T28.1 7 0 ν36).bind fun ν37 =>
  (sI (σ29.1) T28.1 8 0 ν37).bind fun ν38 =>
  (sI (σ29.1) T28.1 9 0 ν38).bind fun ν39 =>
  (sI (σ29.1) T28.1 10 100 ν39).bind fun ν40 =>
  (sI (σ29.1) T28.1 11 100 ν40).bind fun ν41 =>
  (sI (σ29.1) T28.1 12 100 ν41).bind fun ν42 =>
  (sI (σ29.1) T28.1 13 100 ν42).bind fun ν43 =>
  (pR (σ29.1) 12 a0 9 T28.1).bind fun T44 =>
  (some (nwA .int 130 T44 ν43)).bind fun σ45 =>
  (pR (σ45.1) 12 a0 10 T44.1).bind fun T46 =>
  (some (nwA .int 10 T46 (σ45.2))).bind fun σ47 =>
  (pR (σ47.1) 12 a0 13 T46.1).bind fun T48 =>
  (some (nwA .long 10 T48 (σ47.2))).bind fun σ49 =>
  (pR (σ49.1) 12 a0 14 T48.1).bind fun T50 =>
  (some (nwA .long 10 T50 (σ49.2))).bind fun σ51 =>
  (pR (σ51.1) 12 a0 15 T50.1).bind fun T52 =>
  (some (nwA .long 4 T52 (σ51.2))).bind fun σ53 =>
  (pR (σ53.1) 12 a0 16 T52.1).bind fun T54 =>
  (some (nwA .int 1220 T54 (σ53.2))).bind fun σ55 =>
  (pR (σ55.1) 12 a0 19 T54.1).bind fun T56 =>
  (some (nwA .int 1220 T56 (σ55.2))).bind fun σ57 =>
  (pR (σ57.1) 12 a0 20 T56.1).bind fun T58 =>
  (some (nwA .int 100 T58 (σ57.2))).bind fun σ59 =>
  (pR (σ59.1) 12 a0 22 T58.1).bind fun T60 =>
  (some (nwA .int 40 T60 (σ59.2))).bind fun σ61 =>
  (pR (σ61.1) 12 a0 25 T60.1).bind fun T62 =>
  (some (nwA .int 40 T62 (σ61.2))).bind fun σ63 =>
  (pR (σ63.1) 12 a0 26 T62.1).bind fun T64 =>
  (some (nwA .int 40 T64 (σ63.2))).bind fun σ65 =>
  (pR (σ65.1) 12 a0 27 T64.1).bind fun T66 =>
  (some (nwA .int 40 T66 (σ65.2))).bind fun σ67 =>
  (pR (σ67.1) 12 a0 28 T66.1).bind fun T68 =>
  (some (nwA .int 14 T68 (σ67.2))).bind fun σ69 =>
  (pR (σ69.1) 12 a0 35 T68.1).bind fun T70 =>
  (some (nwA .int 40 T70 (σ69.2))).bind fun σ71 =>
  (pR (σ71.1) 12 a0 36 T70.1).bind fun T72 =>
  (some (nwA .int 4 T72 (σ71.2))).bind fun σ73 =>
  (sI (σ73.1) T72.1 0 (-1) (σ73.2)).bind fun ν74 =>
  (sI (σ73.1) T72.1 1 (-1) ν74).bind fun ν75 =>
  (sI (σ73.1) T72.1 2 (-1) ν75).bind fun ν76 =>
  (sI (σ73.1) T72.1 3 (-1) ν76).bind fun ν77 =>
  (pR (σ73.1) 12 a0 37 T72.1).bind fun T78 =>
  (some (nwA .long 120 T78 ν77)).bind fun σ79 =>
  (pR (σ79.1) 12 a0 38 T78.1).bind fun T80 =>
  (some (nwA .int 24 T80 (σ79.2))).bind fun σ81 =>
  (pR (σ81.1) 12 a0 40 T80.1).bind fun T82 =>
  some (T82, σ81.2)
set_option maxRecDepth 100000 in
set_option maxHeartbeats 4000000 in
theorem ck_X12_init {l : Launch} {γ : GE} {S : SH} {a0 : Nat} {μ : Mem} {X : STT} (h : k_X12_init S a0 μ = some X) : Ct l γ yX12_init cX12_init 1 none rm_X12_init [.ref (gb γ + a0)] S μ X.1 X.2 none := by
  unfold k_X12_init at h
  have hJ : ∀ (p : Program) (e : Env) (s : State) (m : MethodId) (args : Array Value) (below : List Frame) (meth : Method) (c : Code), FX γ p s m args meth c cX12_init RX12 1 → meth.sig.returnType = none → meth.name = "<init>" → JJ γ p l e rm_X12_init s m args below meth c 1 0 0 (MQ below (Qm γ X.1 X.2 none) args s 26 3187 (AA γ)) S μ 0 [(0, .ref (gb γ + a0))] [] := by
    intro p e s m args below meth c F hr hin
    refine j_aload_n F 0 dX12_init_0 rfl ?_
    refine j_objI F w_972 oiw ⟨(Nat.le_of_ble_eq_true rfl), (Nat.le_of_ble_eq_true rfl)⟩ dX12_init_1 ?_
    refine j_aload_n F 0 dX12_init_4 rfl ?_
    refine j_bipush F 12 dX12_init_5 (by decide) ?_
    refine j_newa (atype := .int) (ty := .int) F 12 0 rfl (by decide) rfl w_157 (by decide) (by decide) (Nat.le_of_ble_eq_true rfl) (Nat.le_of_ble_eq_true rfl) (Nat.le_of_ble_eq_true rfl) dX12_init_7 h (fun σ1 h => ?_)
    refine j_dup F dX12_init_9 rfl ?_
    refine j_iconst F 0 dX12_init_10 (by decide) ?_
    refine j_bipush F 10 dX12_init_11 (by decide) ?_
    refine j_iast F dX12_init_13 h (fun ν2 h => ?_)
    refine j_dup F dX12_init_14 rfl ?_
    refine j_iconst F 1 dX12_init_15 (by decide) ?_
    refine j_bipush F 10 dX12_init_16 (by decide) ?_
    refine j_iast F dX12_init_18 h (fun ν3 h => ?_)
    refine j_dup F dX12_init_19 rfl ?_
    refine j_iconst F 2 dX12_init_20 (by decide) ?_
    refine j_sipush F 9999 dX12_init_21 (by decide) ?_
    refine j_iast F dX12_init_24 h (fun ν4 h => ?_)
    refine j_dup F dX12_init_25 rfl ?_
    refine j_iconst F 3 dX12_init_26 (by decide) ?_
    refine j_bipush F (-10) dX12_init_27 (by decide) ?_
    refine j_iast F dX12_init_29 h (fun ν5 h => ?_)
    refine j_dup F dX12_init_30 rfl ?_
    refine j_iconst F 4 dX12_init_31 (by decide) ?_
    refine j_bipush F 10 dX12_init_32 (by decide) ?_
    refine j_iast F dX12_init_34 h (fun ν6 h => ?_)
    refine j_dup F dX12_init_35 rfl ?_
    refine j_iconst F 5 dX12_init_36 (by decide) ?_
    refine j_sipush F 9999 dX12_init_37 (by decide) ?_
    refine j_iast F dX12_init_40 h (fun ν7 h => ?_)
    refine j_dup F dX12_init_41 rfl ?_
    refine j_bipush F 6 dX12_init_42 (by decide) ?_
    refine j_bipush F (-10) dX12_init_44 (by decide) ?_
    refine j_iast F dX12_init_46 h (fun ν8 h => ?_)
    refine j_dup F dX12_init_47 rfl ?_
    refine j_bipush F 7 dX12_init_48 (by decide) ?_
    refine j_bipush F (-10) dX12_init_50 (by decide) ?_
    refine j_iast F dX12_init_52 h (fun ν9 h => ?_)
    refine j_dup F dX12_init_53 rfl ?_
    refine j_bipush F 8 dX12_init_54 (by decide) ?_
    refine j_sipush F 9999 dX12_init_56 (by decide) ?_
    refine j_iast F dX12_init_59 h (fun ν10 h => ?_)
    refine j_dup F dX12_init_60 rfl ?_
    refine j_bipush F 9 dX12_init_61 (by decide) ?_
    refine j_bipush F 10 dX12_init_63 (by decide) ?_
    refine j_iast F dX12_init_65 h (fun ν11 h => ?_)
    refine j_dup F dX12_init_66 rfl ?_
    refine j_bipush F 10 dX12_init_67 (by decide) ?_
    refine j_bipush F (-10) dX12_init_69 (by decide) ?_
    refine j_iast F dX12_init_71 h (fun ν12 h => ?_)
    refine j_dup F dX12_init_72 rfl ?_
    refine j_bipush F 11 dX12_init_73 (by decide) ?_
    refine j_sipush F 9999 dX12_init_75 (by decide) ?_
    refine j_iast F dX12_init_78 h (fun ν13 h => ?_)
    refine j_pR (j := 0) F cp12 (Nat.le_of_ble_eq_true rfl) w_973 rfl rfl rfl hin rfl dX12_init_79 h (fun T14 h => ?_)
    refine j_aload_n F 0 dX12_init_82 rfl ?_
    refine j_bipush F 8 dX12_init_83 (by decide) ?_
    refine j_newa (atype := .int) (ty := .int) F 8 0 rfl (by decide) rfl w_157 (by decide) (by decide) (Nat.le_of_ble_eq_true rfl) (Nat.le_of_ble_eq_true rfl) (Nat.le_of_ble_eq_true rfl) dX12_init_85 h (fun σ15 h => ?_)
    refine j_pR (j := 2) F cp12 (Nat.le_of_ble_eq_true rfl) w_975 rfl rfl rfl hin rfl dX12_init_87 h (fun T16 h => ?_)
    refine j_aload_n F 0 dX12_init_90 rfl ?_
    refine j_bipush F 8 dX12_init_91 (by decide) ?_
    refine j_newa (atype := .int) (ty := .int) F 8 0 rfl (by decide) rfl w_157 (by decide) (by decide) (Nat.le_of_ble_eq_true rfl) (Nat.le_of_ble_eq_true rfl) (Nat.le_of_ble_eq_true rfl) dX12_init_93 h (fun σ17 h => ?_)
    refine j_pR (j := 3) F cp12 (Nat.le_of_ble_eq_true rfl) w_976 rfl rfl rfl hin rfl dX12_init_95 h (fun T18 h => ?_)
    refine j_aload_n F 0 dX12_init_98 rfl ?_
    refine j_bipush F 8 dX12_init_99 (by decide) ?_
    refine j_newa (atype := .int) (ty := .int) F 8 0 rfl (by decide) rfl w_157 (by decide) (by decide) (Nat.le_of_ble_eq_true rfl) (Nat.le_of_ble_eq_true rfl) (Nat.le_of_ble_eq_true rfl) dX12_init_101 h (fun σ19 h => ?_)
    refine j_pR (j := 4) F cp12 (Nat.le_of_ble_eq_true rfl) w_977 rfl rfl rfl hin rfl dX12_init_103 h (fun T20 h => ?_)
    refine j_aload_n F 0 dX12_init_106 rfl ?_
    refine j_bipush F 8 dX12_init_107 (by decide) ?_
    refine j_newa (atype := .int) (ty := .int) F 8 0 rfl (by decide) rfl w_157 (by decide) (by decide) (Nat.le_of_ble_eq_true rfl) (Nat.le_of_ble_eq_true rfl) (Nat.le_of_ble_eq_true rfl) dX12_init_109 h (fun σ21 h => ?_)
    refine j_pR (j := 5) F cp12 (Nat.le_of_ble_eq_true rfl) w_978 rfl rfl rfl hin rfl dX12_init_111 h (fun T22 h => ?_)
    refine j_aload_n F 0 dX12_init_114 rfl ?_
    refine j_iconst F 3 dX12_init_115 (by decide) ?_
    refine j_newa (atype := .int) (ty := .int) F 3 0 rfl (by decide) rfl w_157 (by decide) (by decide) (Nat.le_of_ble_eq_true rfl) (Nat.le_of_ble_eq_true rfl) (Nat.le_of_ble_eq_true rfl) dX12_init_116 h (fun σ23 h => ?_)
    refine j_pR (j := 6) F cp12 (Nat.le_of_ble_eq_true rfl) w_979 rfl rfl rfl hin rfl dX12_init_118 h (fun T24 h => ?_)
    refine j_aload_n F 0 dX12_init_121 rfl ?_
    refine j_bipush F 30 dX12_init_122 (by decide) ?_
    refine j_newa (atype := .int) (ty := .int) F 30 0 rfl (by decide) rfl w_157 (by decide) (by decide) (Nat.le_of_ble_eq_true rfl) (Nat.le_of_ble_eq_true rfl) (Nat.le_of_ble_eq_true rfl) dX12_init_124 h (fun σ25 h => ?_)
    refine j_pR (j := 7) F cp12 (Nat.le_of_ble_eq_true rfl) w_980 rfl rfl rfl hin rfl dX12_init_126 h (fun T26 h => ?_)
    refine j_aload_n F 0 dX12_init_129 rfl ?_
    refine j_bipush F 30 dX12_init_130 (by decide) ?_
    refine j_newa (atype := .int) (ty := .int) F 30 0 rfl (by decide) rfl w_157 (by decide) (by decide) (Nat.le_of_ble_eq_true rfl) (Nat.le_of_ble_eq_true rfl) (Nat.le_of_ble_eq_true rfl) dX12_init_132 h (fun σ27 h => ?_)
    refine j_pR (j := 8) F cp12 (Nat.le_of_ble_eq_true rfl) w_981 rfl rfl rfl hin rfl dX12_init_134 h (fun T28 h => ?_)
    refine j_aload_n F 0 dX12_init_137 rfl ?_
    refine j_bipush F 14 dX12_init_138 (by decide) ?_
    refine j_newa (atype := .int) (ty := .int) F 14 0 rfl (by decide) rfl w_157 (by decide) (by decide) (Nat.le_of_ble_eq_true rfl) (Nat.le_of_ble_eq_true rfl) (Nat.le_of_ble_eq_true rfl) dX12_init_140 h (fun σ29 h => ?_)
    refine j_dup F dX12_init_142 rfl ?_
    refine j_iconst F 0 dX12_init_143 (by decide) ?_
    refine j_iconst F 0 dX12_init_144 (by decide) ?_
    refine j_iast F dX12_init_145 h (fun ν30 h => ?_)
    refine j_dup F dX12_init_146 rfl ?_
    refine j_iconst F 1 dX12_init_147 (by decide) ?_
    refine j_iconst F 5 dX12_init_148 (by decide) ?_
    refine j_iast F dX12_init_149 h (fun ν31 h => ?_)
    refine j_dup F dX12_init_150 rfl ?_
    refine j_iconst F 2 dX12_init_151 (by decide) ?_
    refine j_iconst F 0 dX12_init_152 (by decide) ?_
    refine j_iast F dX12_init_153 h (fun ν32 h => ?_)
    refine j_dup F dX12_init_154 rfl ?_
    refine j_iconst F 3 dX12_init_155 (by decide) ?_
    refine j_iconst F 0 dX12_init_156 (by decide) ?_
    refine j_iast F dX12_init_157 h (fun ν33 h => ?_)
    refine j_dup F dX12_init_158 rfl ?_
    refine j_iconst F 4 dX12_init_159 (by decide) ?_
    refine j_bipush F 50 dX12_init_160 (by decide) ?_
    refine j_iast F dX12_init_162 h (fun ν34 h => ?_)
    refine j_dup F dX12_init_163 rfl ?_
    refine j_iconst F 5 dX12_init_164 (by decide) ?_
    refine j_iconst F 0 dX12_init_165 (by decide) ?_
    refine j_iast F dX12_init_166 h (fun ν35 h => ?_)
    refine j_dup F dX12_init_167 rfl ?_
    refine j_bipush F 6 dX12_init_168 (by decide) ?_
    refine j_iconst F 0 dX12_init_170 (by decide) ?_
    refine j_iast F dX12_init_171 h (fun ν36 h => ?_)
    refine j_dup F dX12_init_172 rfl ?_
    refine j_bipush F 7 dX12_init_173 (by decide) ?_
    refine j_iconst F 0 dX12_init_175 (by decide) ?_
    refine j_iast F dX12_init_176 h (fun ν37 h => ?_)
    refine j_dup F dX12_init_177 rfl ?_
    refine j_bipush F 8 dX12_init_178 (by decide) ?_
    refine j_iconst F 0 dX12_init_180 (by decide) ?_
    refine j_iast F dX12_init_181 h (fun ν38 h => ?_)
    refine j_dup F dX12_init_182 rfl ?_
    refine j_bipush F 9 dX12_init_183 (by decide) ?_
    refine j_iconst F 0 dX12_init_185 (by decide) ?_
    refine j_iast F dX12_init_186 h (fun ν39 h => ?_)
    refine j_dup F dX12_init_187 rfl ?_
    refine j_bipush F 10 dX12_init_188 (by decide) ?_
    refine j_bipush F 100 dX12_init_190 (by decide) ?_
    refine j_iast F dX12_init_192 h (fun ν40 h => ?_)
    refine j_dup F dX12_init_193 rfl ?_
    refine j_bipush F 11 dX12_init_194 (by decide) ?_
    refine j_bipush F 100 dX12_init_196 (by decide) ?_
    refine j_iast F dX12_init_198 h (fun ν41 h => ?_)
    refine j_dup F dX12_init_199 rfl ?_
    refine j_bipush F 12 dX12_init_200 (by decide) ?_
    refine j_bipush F 100 dX12_init_202 (by decide) ?_
    refine j_iast F dX12_init_204 h (fun ν42 h => ?_)
    refine j_dup F dX12_init_205 rfl ?_
    refine j_bipush F 13 dX12_init_206 (by decide) ?_
    refine j_bipush F 100 dX12_init_208 (by decide) ?_
    refine j_iast F dX12_init_210 h (fun ν43 h => ?_)
    refine j_pR (j := 9) F cp12 (Nat.le_of_ble_eq_true rfl) w_982 rfl rfl rfl hin rfl dX12_init_211 h (fun T44 h => ?_)
    refine j_aload_n F 0 dX12_init_214 rfl ?_
    refine j_sipush F 130 dX12_init_215 (by decide) ?_
    refine j_newa (atype := .int) (ty := .int) F 130 0 rfl (by decide) rfl w_157 (by decide) (by decide) (Nat.le_of_ble_eq_true rfl) (Nat.le_of_ble_eq_true rfl) (Nat.le_of_ble_eq_true rfl) dX12_init_218 h (fun σ45 h => ?_)
    refine j_pR (j := 10) F cp12 (Nat.le_of_ble_eq_true rfl) w_983 rfl rfl rfl hin rfl dX12_init_220 h (fun T46 h => ?_)
    refine j_aload_n F 0 dX12_init_223 rfl ?_
    refine j_bipush F 10 dX12_init_224 (by decide) ?_
    refine j_newa (atype := .int) (ty := .int) F 10 0 rfl (by decide) rfl w_157 (by decide) (by decide) (Nat.le_of_ble_eq_true rfl) (Nat.le_of_ble_eq_true rfl) (Nat.le_of_ble_eq_true rfl) dX12_init_226 h (fun σ47 h => ?_)
    refine j_pR (j := 13) F cp12 (Nat.le_of_ble_eq_true rfl) w_986 rfl rfl rfl hin rfl dX12_init_228 h (fun T48 h => ?_)
    refine j_aload_n F 0 dX12_init_231 rfl ?_
    refine j_bipush F 10 dX12_init_232 (by decide) ?_
    refine j_newa (atype := .long) (ty := .long) F 10 1 rfl (by decide) rfl w_296 (by decide) (by decide) (Nat.le_of_ble_eq_true rfl) (Nat.le_of_ble_eq_true rfl) (Nat.le_of_ble_eq_true rfl) dX12_init_234 h (fun σ49 h => ?_)
    refine j_pR (j := 14) F cp12 (Nat.le_of_ble_eq_true rfl) w_987 rfl rfl rfl hin rfl dX12_init_236 h (fun T50 h => ?_)
    refine j_aload_n F 0 dX12_init_239 rfl ?_
    refine j_bipush F 10 dX12_init_240 (by decide) ?_
    refine j_newa (atype := .long) (ty := .long) F 10 1 rfl (by decide) rfl w_296 (by decide) (by decide) (Nat.le_of_ble_eq_true rfl) (Nat.le_of_ble_eq_true rfl) (Nat.le_of_ble_eq_true rfl) dX12_init_242 h (fun σ51 h => ?_)
    refine j_pR (j := 15) F cp12 (Nat.le_of_ble_eq_true rfl) w_988 rfl rfl rfl hin rfl dX12_init_244 h (fun T52 h => ?_)
    refine j_aload_n F 0 dX12_init_247 rfl ?_
    refine j_iconst F 4 dX12_init_248 (by decide) ?_
    refine j_newa (atype := .long) (ty := .long) F 4 1 rfl (by decide) rfl w_296 (by decide) (by decide) (Nat.le_of_ble_eq_true rfl) (Nat.le_of_ble_eq_true rfl) (Nat.le_of_ble_eq_true rfl) dX12_init_249 h (fun σ53 h => ?_)
    refine j_pR (j := 16) F cp12 (Nat.le_of_ble_eq_true rfl) w_989 rfl rfl rfl hin rfl dX12_init_251 h (fun T54 h => ?_)
    refine j_aload_n F 0 dX12_init_254 rfl ?_
    refine j_sipush F 1220 dX12_init_255 (by decide) ?_
    refine j_newa (atype := .int) (ty := .int) F 1220 0 rfl (by decide) rfl w_157 (by decide) (by decide) (Nat.le_of_ble_eq_true rfl) (Nat.le_of_ble_eq_true rfl) (Nat.le_of_ble_eq_true rfl) dX12_init_258 h (fun σ55 h => ?_)
    refine j_pR (j := 19) F cp12 (Nat.le_of_ble_eq_true rfl) w_992 rfl rfl rfl hin rfl dX12_init_260 h (fun T56 h => ?_)
    refine j_aload_n F 0 dX12_init_263 rfl ?_
    refine j_sipush F 1220 dX12_init_264 (by decide) ?_
    refine j_newa (atype := .int) (ty := .int) F 1220 0 rfl (by decide) rfl w_157 (by decide) (by decide) (Nat.le_of_ble_eq_true rfl) (Nat.le_of_ble_eq_true rfl) (Nat.le_of_ble_eq_true rfl) dX12_init_267 h (fun σ57 h => ?_)
    refine j_pR (j := 20) F cp12 (Nat.le_of_ble_eq_true rfl) w_993 rfl rfl rfl hin rfl dX12_init_269 h (fun T58 h => ?_)
    refine j_aload_n F 0 dX12_init_272 rfl ?_
    refine j_bipush F 100 dX12_init_273 (by decide) ?_
    refine j_newa (atype := .int) (ty := .int) F 100 0 rfl (by decide) rfl w_157 (by decide) (by decide) (Nat.le_of_ble_eq_true rfl) (Nat.le_of_ble_eq_true rfl) (Nat.le_of_ble_eq_true rfl) dX12_init_275 h (fun σ59 h => ?_)
    refine j_pR (j := 22) F cp12 (Nat.le_of_ble_eq_true rfl) w_995 rfl rfl rfl hin rfl dX12_init_277 h (fun T60 h => ?_)
    refine j_aload_n F 0 dX12_init_280 rfl ?_
    refine j_bipush F 40 dX12_init_281 (by decide) ?_
    refine j_newa (atype := .int) (ty := .int) F 40 0 rfl (by decide) rfl w_157 (by decide) (by decide) (Nat.le_of_ble_eq_true rfl) (Nat.le_of_ble_eq_true rfl) (Nat.le_of_ble_eq_true rfl) dX12_init_283 h (fun σ61 h => ?_)
    refine j_pR (j := 25) F cp12 (Nat.le_of_ble_eq_true rfl) w_998 rfl rfl rfl hin rfl dX12_init_285 h (fun T62 h => ?_)
    refine j_aload_n F 0 dX12_init_288 rfl ?_
    refine j_bipush F 40 dX12_init_289 (by decide) ?_
    refine j_newa (atype := .int) (ty := .int) F 40 0 rfl (by decide) rfl w_157 (by decide) (by decide) (Nat.le_of_ble_eq_true rfl) (Nat.le_of_ble_eq_true rfl) (Nat.le_of_ble_eq_true rfl) dX12_init_291 h (fun σ63 h => ?_)
    refine j_pR (j := 26) F cp12 (Nat.le_of_ble_eq_true rfl) w_999 rfl rfl rfl hin rfl dX12_init_293 h (fun T64 h => ?_)
    refine j_aload_n F 0 dX12_init_296 rfl ?_
    refine j_bipush F 40 dX12_init_297 (by decide) ?_
    refine j_newa (atype := .int) (ty := .int) F 40 0 rfl (by decide) rfl w_157 (by decide) (by decide) (Nat.le_of_ble_eq_true rfl) (Nat.le_of_ble_eq_true rfl) (Nat.le_of_ble_eq_true rfl) dX12_init_299 h (fun σ65 h => ?_)
    refine j_pR (j := 27) F cp12 (Nat.le_of_ble_eq_true rfl) w_1000 rfl rfl rfl hin rfl dX12_init_301 h (fun T66 h => ?_)
    refine j_aload_n F 0 dX12_init_304 rfl ?_
    refine j_bipush F 40 dX12_init_305 (by decide) ?_
    refine j_newa (atype := .int) (ty := .int) F 40 0 rfl (by decide) rfl w_157 (by decide) (by decide) (Nat.le_of_ble_eq_true rfl) (Nat.le_of_ble_eq_true rfl) (Nat.le_of_ble_eq_true rfl) dX12_init_307 h (fun σ67 h => ?_)
    refine j_pR (j := 28) F cp12 (Nat.le_of_ble_eq_true rfl) w_1001 rfl rfl rfl hin rfl dX12_init_309 h (fun T68 h => ?_)
    refine j_aload_n F 0 dX12_init_312 rfl ?_
    refine j_bipush F 14 dX12_init_313 (by decide) ?_
    refine j_newa (atype := .int) (ty := .int) F 14 0 rfl (by decide) rfl w_157 (by decide) (by decide) (Nat.le_of_ble_eq_true rfl) (Nat.le_of_ble_eq_true rfl) (Nat.le_of_ble_eq_true rfl) dX12_init_315 h (fun σ69 h => ?_)
    refine j_pR (j := 35) F cp12 (Nat.le_of_ble_eq_true rfl) w_1008 rfl rfl rfl hin rfl dX12_init_317 h (fun T70 h => ?_)
    refine j_aload_n F 0 dX12_init_320 rfl ?_
    refine j_bipush F 40 dX12_init_321 (by decide) ?_
    refine j_newa (atype := .int) (ty := .int) F 40 0 rfl (by decide) rfl w_157 (by decide) (by decide) (Nat.le_of_ble_eq_true rfl) (Nat.le_of_ble_eq_true rfl) (Nat.le_of_ble_eq_true rfl) dX12_init_323 h (fun σ71 h => ?_)
    refine j_pR (j := 36) F cp12 (Nat.le_of_ble_eq_true rfl) w_1009 rfl rfl rfl hin rfl dX12_init_325 h (fun T72 h => ?_)
    refine j_aload_n F 0 dX12_init_328 rfl ?_
    refine j_iconst F 4 dX12_init_329 (by decide) ?_
    refine j_newa (atype := .int) (ty := .int) F 4 0 rfl (by decide) rfl w_157 (by decide) (by decide) (Nat.le_of_ble_eq_true rfl) (Nat.le_of_ble_eq_true rfl) (Nat.le_of_ble_eq_true rfl) dX12_init_330 h (fun σ73 h => ?_)
    refine j_dup F dX12_init_332 rfl ?_
    refine j_iconst F 0 dX12_init_333 (by decide) ?_
    refine j_iconst F (-1) dX12_init_334 (by decide) ?_
    refine j_iast F dX12_init_335 h (fun ν74 h => ?_)
    refine j_dup F dX12_init_336 rfl ?_
    refine j_iconst F 1 dX12_init_337 (by decide) ?_
    refine j_iconst F (-1) dX12_init_338 (by decide) ?_
    refine j_iast F dX12_init_339 h (fun ν75 h => ?_)
    refine j_dup F dX12_init_340 rfl ?_
    refine j_iconst F 2 dX12_init_341 (by decide) ?_
    refine j_iconst F (-1) dX12_init_342 (by decide) ?_
    refine j_iast F dX12_init_343 h (fun ν76 h => ?_)
    refine j_dup F dX12_init_344 rfl ?_
    refine j_iconst F 3 dX12_init_345 (by decide) ?_
    refine j_iconst F (-1) dX12_init_346 (by decide) ?_
    refine j_iast F dX12_init_347 h (fun ν77 h => ?_)
    refine j_pR (j := 37) F cp12 (Nat.le_of_ble_eq_true rfl) w_1010 rfl rfl rfl hin rfl dX12_init_348 h (fun T78 h => ?_)
    refine j_aload_n F 0 dX12_init_351 rfl ?_
    refine j_bipush F 120 dX12_init_352 (by decide) ?_
    refine j_newa (atype := .long) (ty := .long) F 120 1 rfl (by decide) rfl w_296 (by decide) (by decide) (Nat.le_of_ble_eq_true rfl) (Nat.le_of_ble_eq_true rfl) (Nat.le_of_ble_eq_true rfl) dX12_init_354 h (fun σ79 h => ?_)
    refine j_pR (j := 38) F cp12 (Nat.le_of_ble_eq_true rfl) w_1011 rfl rfl rfl hin rfl dX12_init_356 h (fun T80 h => ?_)
    refine j_aload_n F 0 dX12_init_359 rfl ?_
    refine j_bipush F 24 dX12_init_360 (by decide) ?_
    refine j_newa (atype := .int) (ty := .int) F 24 0 rfl (by decide) rfl w_157 (by decide) (by decide) (Nat.le_of_ble_eq_true rfl) (Nat.le_of_ble_eq_true rfl) (Nat.le_of_ble_eq_true rfl) dX12_init_362 h (fun σ81 h => ?_)
    refine j_pR (j := 40) F cp12 (Nat.le_of_ble_eq_true rfl) w_1013 rfl rfl rfl hin rfl dX12_init_364 h (fun T82 h => ?_)
    exact j_cret F hr dX12_init_367 h
  exact ct_of (by decide +kernel) (Nat.le_of_ble_eq_true rfl) (fun p e s m args below meth c F hr hin => hJ p e s m args below meth c F hr hin)
