def rm_X3_splitMoments : Room := { frames := 2, cells := 0, slots := 0, locals := 54 }
theorem dX3_splitMoments_0 : decode cX3_splitMoments 0 = .ok (.aload_n 0, 1) := by decide +kernel
theorem dX3_splitMoments_1 : decode cX3_splitMoments 1 = .ok (.lconst 0, 1) := by decide +kernel
theorem dX3_splitMoments_2 : decode cX3_splitMoments 2 = .ok (.putfield 120, 3) := by decide +kernel
theorem dX3_splitMoments_5 : decode cX3_splitMoments 5 = .ok (.aload_n 0, 1) := by decide +kernel
theorem dX3_splitMoments_6 : decode cX3_splitMoments 6 = .ok (.lconst 0, 1) := by decide +kernel
theorem dX3_splitMoments_7 : decode cX3_splitMoments 7 = .ok (.putfield 123, 3) := by decide +kernel
theorem dX3_splitMoments_10 : decode cX3_splitMoments 10 = .ok (.aload_n 1, 1) := by decide +kernel
theorem dX3_splitMoments_11 : decode cX3_splitMoments 11 = .ok (.getfield 69, 3) := by decide +kernel
theorem dX3_splitMoments_14 : decode cX3_splitMoments 14 = .ok (.astore_n 3, 1) := by decide +kernel
theorem dX3_splitMoments_15 : decode cX3_splitMoments 15 = .ok (.iconst 0, 1) := by decide +kernel
theorem dX3_splitMoments_16 : decode cX3_splitMoments 16 = .ok (.istore 4, 2) := by decide +kernel
theorem dX3_splitMoments_18 : decode cX3_splitMoments 18 = .ok (.iload 4, 2) := by decide +kernel
theorem dX3_splitMoments_20 : decode cX3_splitMoments 20 = .ok (.aload_n 3, 1) := by decide +kernel
theorem dX3_splitMoments_21 : decode cX3_splitMoments 21 = .ok (.getfield 126, 3) := by decide +kernel
theorem dX3_splitMoments_24 : decode cX3_splitMoments 24 = .ok (.if_icmp .ge 119, 3) := by decide +kernel
theorem dX3_splitMoments_27 : decode cX3_splitMoments 27 = .ok (.aload_n 3, 1) := by decide +kernel
theorem dX3_splitMoments_28 : decode cX3_splitMoments 28 = .ok (.getfield 129, 3) := by decide +kernel
theorem dX3_splitMoments_31 : decode cX3_splitMoments 31 = .ok (.iload 4, 2) := by decide +kernel
theorem dX3_splitMoments_33 : decode cX3_splitMoments 33 = .ok (.baload, 1) := by decide +kernel
theorem dX3_splitMoments_34 : decode cX3_splitMoments 34 = .ok (.ifCond .eq 12, 3) := by decide +kernel
theorem dX3_splitMoments_37 : decode cX3_splitMoments 37 = .ok (.aload_n 1, 1) := by decide +kernel
theorem dX3_splitMoments_38 : decode cX3_splitMoments 38 = .ok (.getfield 65, 3) := by decide +kernel
theorem dX3_splitMoments_41 : decode cX3_splitMoments 41 = .ok (.iconst 0, 1) := by decide +kernel
theorem dX3_splitMoments_42 : decode cX3_splitMoments 42 = .ok (.iaload, 1) := by decide +kernel
theorem dX3_splitMoments_43 : decode cX3_splitMoments 43 = .ok (.goto 4, 3) := by decide +kernel
theorem dX3_splitMoments_46 : decode cX3_splitMoments 46 = .ok (.iconst 0, 1) := by decide +kernel
theorem dX3_splitMoments_47 : decode cX3_splitMoments 47 = .ok (.istore 5, 2) := by decide +kernel
theorem dX3_splitMoments_49 : decode cX3_splitMoments 49 = .ok (.getstatic 73, 3) := by decide +kernel
theorem dX3_splitMoments_52 : decode cX3_splitMoments 52 = .ok (.iload 5, 2) := by decide +kernel
theorem dX3_splitMoments_54 : decode cX3_splitMoments 54 = .ok (.iaload, 1) := by decide +kernel
theorem dX3_splitMoments_55 : decode cX3_splitMoments 55 = .ok (.i2l, 1) := by decide +kernel
theorem dX3_splitMoments_56 : decode cX3_splitMoments 56 = .ok (.lstore 6, 2) := by decide +kernel
theorem dX3_splitMoments_58 : decode cX3_splitMoments 58 = .ok (.getstatic 76, 3) := by decide +kernel
theorem dX3_splitMoments_61 : decode cX3_splitMoments 61 = .ok (.iload 5, 2) := by decide +kernel
theorem dX3_splitMoments_63 : decode cX3_splitMoments 63 = .ok (.iaload, 1) := by decide +kernel
theorem dX3_splitMoments_64 : decode cX3_splitMoments 64 = .ok (.i2l, 1) := by decide +kernel
theorem dX3_splitMoments_65 : decode cX3_splitMoments 65 = .ok (.lstore 8, 2) := by decide +kernel
theorem dX3_splitMoments_67 : decode cX3_splitMoments 67 = .ok (.lload 6, 2) := by decide +kernel
theorem dX3_splitMoments_69 : decode cX3_splitMoments 69 = .ok (.aload_n 3, 1) := by decide +kernel
theorem dX3_splitMoments_70 : decode cX3_splitMoments 70 = .ok (.getfield 133, 3) := by decide +kernel
theorem dX3_splitMoments_73 : decode cX3_splitMoments 73 = .ok (.iload 4, 2) := by decide +kernel
theorem dX3_splitMoments_75 : decode cX3_splitMoments 75 = .ok (.iaload, 1) := by decide +kernel
theorem dX3_splitMoments_76 : decode cX3_splitMoments 76 = .ok (.i2l, 1) := by decide +kernel
theorem dX3_splitMoments_77 : decode cX3_splitMoments 77 = .ok (.lmul, 1) := by decide +kernel
theorem dX3_splitMoments_78 : decode cX3_splitMoments 78 = .ok (.lload 8, 2) := by decide +kernel
theorem dX3_splitMoments_80 : decode cX3_splitMoments 80 = .ok (.aload_n 3, 1) := by decide +kernel
theorem dX3_splitMoments_81 : decode cX3_splitMoments 81 = .ok (.getfield 136, 3) := by decide +kernel
theorem dX3_splitMoments_84 : decode cX3_splitMoments 84 = .ok (.iload 4, 2) := by decide +kernel
theorem dX3_splitMoments_86 : decode cX3_splitMoments 86 = .ok (.iaload, 1) := by decide +kernel
theorem dX3_splitMoments_87 : decode cX3_splitMoments 87 = .ok (.i2l, 1) := by decide +kernel
theorem dX3_splitMoments_88 : decode cX3_splitMoments 88 = .ok (.lmul, 1) := by decide +kernel
theorem dX3_splitMoments_89 : decode cX3_splitMoments 89 = .ok (.lsub, 1) := by decide +kernel
theorem dX3_splitMoments_90 : decode cX3_splitMoments 90 = .ok (.lstore 10, 2) := by decide +kernel
theorem dX3_splitMoments_92 : decode cX3_splitMoments 92 = .ok (.lload 8, 2) := by decide +kernel
theorem dX3_splitMoments_94 : decode cX3_splitMoments 94 = .ok (.aload_n 3, 1) := by decide +kernel
theorem dX3_splitMoments_95 : decode cX3_splitMoments 95 = .ok (.getfield 133, 3) := by decide +kernel
theorem dX3_splitMoments_98 : decode cX3_splitMoments 98 = .ok (.iload 4, 2) := by decide +kernel
theorem dX3_splitMoments_100 : decode cX3_splitMoments 100 = .ok (.iaload, 1) := by decide +kernel
theorem dX3_splitMoments_101 : decode cX3_splitMoments 101 = .ok (.i2l, 1) := by decide +kernel
theorem dX3_splitMoments_102 : decode cX3_splitMoments 102 = .ok (.lmul, 1) := by decide +kernel
theorem dX3_splitMoments_103 : decode cX3_splitMoments 103 = .ok (.lload 6, 2) := by decide +kernel
theorem dX3_splitMoments_105 : decode cX3_splitMoments 105 = .ok (.aload_n 3, 1) := by decide +kernel
theorem dX3_splitMoments_106 : decode cX3_splitMoments 106 = .ok (.getfield 136, 3) := by decide +kernel
theorem dX3_splitMoments_109 : decode cX3_splitMoments 109 = .ok (.iload 4, 2) := by decide +kernel
theorem dX3_splitMoments_111 : decode cX3_splitMoments 111 = .ok (.iaload, 1) := by decide +kernel
theorem dX3_splitMoments_112 : decode cX3_splitMoments 112 = .ok (.i2l, 1) := by decide +kernel
theorem dX3_splitMoments_113 : decode cX3_splitMoments 113 = .ok (.lmul, 1) := by decide +kernel
theorem dX3_splitMoments_114 : decode cX3_splitMoments 114 = .ok (.ladd, 1) := by decide +kernel
theorem dX3_splitMoments_115 : decode cX3_splitMoments 115 = .ok (.lstore 12, 2) := by decide +kernel
theorem dX3_splitMoments_117 : decode cX3_splitMoments 117 = .ok (.aload_n 0, 1) := by decide +kernel
theorem dX3_splitMoments_118 : decode cX3_splitMoments 118 = .ok (.aload_n 1, 1) := by decide +kernel
theorem dX3_splitMoments_119 : decode cX3_splitMoments 119 = .ok (.getfield 15, 3) := by decide +kernel
theorem dX3_splitMoments_122 : decode cX3_splitMoments 122 = .ok (.iload_n 2, 1) := by decide +kernel
theorem dX3_splitMoments_123 : decode cX3_splitMoments 123 = .ok (.aload_n 3, 1) := by decide +kernel
theorem dX3_splitMoments_124 : decode cX3_splitMoments 124 = .ok (.getfield 139, 3) := by decide +kernel
theorem dX3_splitMoments_127 : decode cX3_splitMoments 127 = .ok (.iload 4, 2) := by decide +kernel
theorem dX3_splitMoments_129 : decode cX3_splitMoments 129 = .ok (.iaload, 1) := by decide +kernel
theorem dX3_splitMoments_130 : decode cX3_splitMoments 130 = .ok (.lload 10, 2) := by decide +kernel
theorem dX3_splitMoments_132 : decode cX3_splitMoments 132 = .ok (.lload 12, 2) := by decide +kernel
theorem dX3_splitMoments_134 : decode cX3_splitMoments 134 = .ok (.invokevirtual 142, 3) := by decide +kernel
theorem dX3_splitMoments_137 : decode cX3_splitMoments 137 = .ok (.iinc 4 1, 3) := by decide +kernel
theorem dX3_splitMoments_140 : decode cX3_splitMoments 140 = .ok (.goto (-122), 3) := by decide +kernel
theorem dX3_splitMoments_143 : decode cX3_splitMoments 143 = .ok (.aload_n 1, 1) := by decide +kernel
theorem dX3_splitMoments_144 : decode cX3_splitMoments 144 = .ok (.getfield 65, 3) := by decide +kernel
theorem dX3_splitMoments_147 : decode cX3_splitMoments 147 = .ok (.iconst 1, 1) := by decide +kernel
theorem dX3_splitMoments_148 : decode cX3_splitMoments 148 = .ok (.iaload, 1) := by decide +kernel
theorem dX3_splitMoments_149 : decode cX3_splitMoments 149 = .ok (.i2l, 1) := by decide +kernel
theorem dX3_splitMoments_150 : decode cX3_splitMoments 150 = .ok (.lstore 4, 2) := by decide +kernel
theorem dX3_splitMoments_152 : decode cX3_splitMoments 152 = .ok (.lload 4, 2) := by decide +kernel
theorem dX3_splitMoments_154 : decode cX3_splitMoments 154 = .ok (.getstatic 73, 3) := by decide +kernel
theorem dX3_splitMoments_157 : decode cX3_splitMoments 157 = .ok (.aload_n 1, 1) := by decide +kernel
theorem dX3_splitMoments_158 : decode cX3_splitMoments 158 = .ok (.getfield 65, 3) := by decide +kernel
theorem dX3_splitMoments_161 : decode cX3_splitMoments 161 = .ok (.iconst 0, 1) := by decide +kernel
theorem dX3_splitMoments_162 : decode cX3_splitMoments 162 = .ok (.iaload, 1) := by decide +kernel
theorem dX3_splitMoments_163 : decode cX3_splitMoments 163 = .ok (.iaload, 1) := by decide +kernel
theorem dX3_splitMoments_164 : decode cX3_splitMoments 164 = .ok (.i2l, 1) := by decide +kernel
theorem dX3_splitMoments_165 : decode cX3_splitMoments 165 = .ok (.lmul, 1) := by decide +kernel
theorem dX3_splitMoments_166 : decode cX3_splitMoments 166 = .ok (.lstore 6, 2) := by decide +kernel
theorem dX3_splitMoments_168 : decode cX3_splitMoments 168 = .ok (.lload 4, 2) := by decide +kernel
theorem dX3_splitMoments_170 : decode cX3_splitMoments 170 = .ok (.getstatic 76, 3) := by decide +kernel
theorem dX3_splitMoments_173 : decode cX3_splitMoments 173 = .ok (.aload_n 1, 1) := by decide +kernel
theorem dX3_splitMoments_174 : decode cX3_splitMoments 174 = .ok (.getfield 65, 3) := by decide +kernel
theorem dX3_splitMoments_177 : decode cX3_splitMoments 177 = .ok (.iconst 0, 1) := by decide +kernel
theorem dX3_splitMoments_178 : decode cX3_splitMoments 178 = .ok (.iaload, 1) := by decide +kernel
theorem dX3_splitMoments_179 : decode cX3_splitMoments 179 = .ok (.iaload, 1) := by decide +kernel
theorem dX3_splitMoments_180 : decode cX3_splitMoments 180 = .ok (.i2l, 1) := by decide +kernel
theorem dX3_splitMoments_181 : decode cX3_splitMoments 181 = .ok (.lmul, 1) := by decide +kernel
theorem dX3_splitMoments_182 : decode cX3_splitMoments 182 = .ok (.lstore 8, 2) := by decide +kernel
theorem dX3_splitMoments_184 : decode cX3_splitMoments 184 = .ok (.aload_n 0, 1) := by decide +kernel
theorem dX3_splitMoments_185 : decode cX3_splitMoments 185 = .ok (.aload_n 1, 1) := by decide +kernel
theorem dX3_splitMoments_186 : decode cX3_splitMoments 186 = .ok (.getfield 15, 3) := by decide +kernel
theorem dX3_splitMoments_189 : decode cX3_splitMoments 189 = .ok (.iload_n 2, 1) := by decide +kernel
theorem dX3_splitMoments_190 : decode cX3_splitMoments 190 = .ok (.aload_n 1, 1) := by decide +kernel
theorem dX3_splitMoments_191 : decode cX3_splitMoments 191 = .ok (.invokevirtual 84, 3) := by decide +kernel
theorem dX3_splitMoments_194 : decode cX3_splitMoments 194 = .ok (.lload 6, 2) := by decide +kernel
theorem dX3_splitMoments_196 : decode cX3_splitMoments 196 = .ok (.lload 8, 2) := by decide +kernel
theorem dX3_splitMoments_198 : decode cX3_splitMoments 198 = .ok (.invokevirtual 142, 3) := by decide +kernel
theorem dX3_splitMoments_201 : decode cX3_splitMoments 201 = .ok (.return_, 1) := by decide +kernel
def b_X3_splitMoments_143 (S : SH) (a0 : Nat) (a1 : Nat) (a2 : Int32) (μ : Mem) : Option (Unit × Mem) :=
 (gR S 2 a1 3).bind fun v5 =>
 (aI S .int v5 1 μ).bind fun v6 =>
 (gR S 2 a1 3).bind fun v7 =>
 (aI S .int v7 0 μ).bind fun v8 =>
 (aT 3 v8).bind fun v9 =>
 (some (v6.toInt64 * v9.toInt64)).bind fun y10 =>
 (gR S 2 a1 3).bind fun v11 =>
 (aI S .int v11 0 μ).bind fun v12 =>
 (aT 4 v12).bind fun v13 =>
 (some (v6.toInt64 * v13.toInt64)).bind fun y14 =>
 (gR S 2 a1 0).bind fun v15 =>
 (f_X2_hanging S a1 μ).bind fun q16 =>
 (f_X3_addMoment S a0 v15 a2 q16.1 y10 y14 q16.2).bind fun q17 =>
 some ((), q17.2)
set_option maxRecDepth 100000 in
set_option maxHeartbeats 4000000 in
theorem s_X3_splitMoments_143 {γ : GE} {p : Program} {l : Launch} {e : Env} {s : State} {m : MethodId} {args : Array Value} {below : List Frame} {meth : Method} {c : Code} {S : SH} {X : (Unit × Mem)} (F : FX γ p s m args meth c cX3_splitMoments RX3 14) (hr : meth.sig.returnType = (none)) (a0 : Nat) (a1 : Nat) (a2 : Int32)    (μ : Mem) (h : b_X3_splitMoments_143 S a0 a1 a2 μ = some X) : JJ γ p l e rm_X3_splitMoments s m args below meth c 14 0 0 (QV below γ S X args s 0 0) S μ 143 [(0, .ref (gb γ + a0)), (1, .ref (gb γ + a1)), (2, .int a2)] [] := by
  unfold b_X3_splitMoments_143 at h
  refine j_aload_n F 1 dX3_splitMoments_143 rfl ?_
  refine j_gR F fl_RX3_65 rfl dX3_splitMoments_144 h (fun v5 h => ?_)
  refine j_iconst F 1 dX3_splitMoments_147 (by decide) ?_
  refine j_iald F dX3_splitMoments_148 h (fun v6 h => ?_)
  refine j_i2l F dX3_splitMoments_149 ?_
  refine j_lstore F [(4, .long v6.toInt64), (0, .ref (gb γ + a0)), (1, .ref (gb γ + a1)), (2, .int a2)] dX3_splitMoments_150 (by decide) rfl ?_
  refine j_lload F 0 dX3_splitMoments_152 rfl ?_
  refine j_getsN F 3 (by decide) (by decide +kernel) dX3_splitMoments_154 ?_
  refine j_aload_n F 2 dX3_splitMoments_157 rfl ?_
  refine j_gR F fl_RX3_65 rfl dX3_splitMoments_158 h (fun v7 h => ?_)
  refine j_iconst F 0 dX3_splitMoments_161 (by decide) ?_
  refine j_iald F dX3_splitMoments_162 h (fun v8 h => ?_)
  refine j_tald F (by decide) dX3_splitMoments_163 h (fun v9 h => ?_)
  refine j_i2l F dX3_splitMoments_164 ?_
  refine j_lmul F dX3_splitMoments_165 ?_
  refine j_nmL h (fun y10 h => ?_)
  refine j_lstore F [(6, .long y10), (4, .long v6.toInt64), (0, .ref (gb γ + a0)), (1, .ref (gb γ + a1)), (2, .int a2)] dX3_splitMoments_166 (by decide) rfl ?_
  refine j_lload F 1 dX3_splitMoments_168 rfl ?_
  refine j_getsN F 4 (by decide) (by decide +kernel) dX3_splitMoments_170 ?_
  refine j_aload_n F 3 dX3_splitMoments_173 rfl ?_
  refine j_gR F fl_RX3_65 rfl dX3_splitMoments_174 h (fun v11 h => ?_)
  refine j_iconst F 0 dX3_splitMoments_177 (by decide) ?_
  refine j_iald F dX3_splitMoments_178 h (fun v12 h => ?_)
  refine j_tald F (by decide) dX3_splitMoments_179 h (fun v13 h => ?_)
  refine j_i2l F dX3_splitMoments_180 ?_
  refine j_lmul F dX3_splitMoments_181 ?_
  refine j_nmL h (fun y14 h => ?_)
  refine j_lstore F [(8, .long y14), (6, .long y10), (4, .long v6.toInt64), (0, .ref (gb γ + a0)), (1, .ref (gb γ + a1)), (2, .int a2)] dX3_splitMoments_182 (by decide) rfl ?_
  refine j_aload_n F 3 dX3_splitMoments_184 rfl ?_
  refine j_aload_n F 4 dX3_splitMoments_185 rfl ?_
  refine j_gR F fl_RX3_15 rfl dX3_splitMoments_186 h (fun v15 h => ?_)
  refine j_iload_n F 5 dX3_splitMoments_189 rfl ?_
  refine j_aload_n F 4 dX3_splitMoments_190 rfl ?_
  refine j_cVI F mi_X2_hanging w_578 (rest := [.int a2, .ref (gb γ + v15), .ref (gb γ + a0)]) h (fun _ g => c_X2_hanging g) rfl rfl (Nat.le_of_ble_eq_true rfl) ⟨Nat.le_of_ble_eq_true rfl, Nat.le_of_ble_eq_true rfl⟩ ⟨Nat.le_of_ble_eq_true rfl, Nat.le_of_ble_eq_true rfl⟩ dX3_splitMoments_191 (fun q16 h => ?_)
  refine j_lload F 1 dX3_splitMoments_194 rfl ?_
  refine j_lload F 0 dX3_splitMoments_196 rfl ?_
  refine j_cVV F mi_X3_addMoment w_611 (rest := []) h (fun _ g => c_X3_addMoment g) rfl rfl (Nat.le_of_ble_eq_true rfl) ⟨Nat.le_of_ble_eq_true rfl, Nat.le_of_ble_eq_true rfl⟩ ⟨Nat.le_of_ble_eq_true rfl, Nat.le_of_ble_eq_true rfl⟩ dX3_splitMoments_198 (fun q17 h => ?_)
  exact j_vret F hr dX3_splitMoments_201 h
def b_X3_splitMoments_47 (S : SH) (k18 : (Int32 × Mem) → Option (Unit × Mem)) (a0 : Nat) (a1 : Nat) (a2 : Int32) (a3 : Nat) (a4 : Int32) (t0 : Int32) (μ : Mem) : Option (Unit × Mem) :=
 (aT 3 t0).bind fun v20 =>
 (aT 4 t0).bind fun v21 =>
 (gR S 5 a3 1).bind fun v22 =>
 (aI S .int v22 a4 μ).bind fun v23 =>
 (gR S 5 a3 2).bind fun v24 =>
 (aI S .int v24 a4 μ).bind fun v25 =>
 (some ((v20.toInt64 * v23.toInt64) - (v21.toInt64 * v25.toInt64))).bind fun y26 =>
 (gR S 5 a3 1).bind fun v27 =>
 (aI S .int v27 a4 μ).bind fun v28 =>
 (gR S 5 a3 2).bind fun v29 =>
 (aI S .int v29 a4 μ).bind fun v30 =>
 (some ((v21.toInt64 * v28.toInt64) + (v20.toInt64 * v30.toInt64))).bind fun y31 =>
 (gR S 2 a1 0).bind fun v32 =>
 (gR S 5 a3 0).bind fun v33 =>
 (aI S .int v33 a4 μ).bind fun v34 =>
 (f_X3_addMoment S a0 v32 a2 v34 y26 y31 μ).bind fun q35 =>
 k18 (a4 + 1, q35.2)
set_option maxRecDepth 100000 in
set_option maxHeartbeats 4000000 in
theorem s_X3_splitMoments_47 {γ : GE} {p : Program} {l : Launch} {e : Env} {s : State} {m : MethodId} {args : Array Value} {below : List Frame} {meth : Method} {c : Code} {S : SH} {X : (Unit × Mem)} (F : FX γ p s m args meth c cX3_splitMoments RX3 14) (hr : meth.sig.returnType = (none)) (a0 : Nat) (a1 : Nat) (a2 : Int32) (a3 : Nat) (a4 : Int32)  (k18 : (Int32 × Mem) → Option (Unit × Mem)) (hk18 : ∀ (x18_4 : Int32) (ν : Mem), k18 (x18_4, ν) = some X → JJ γ p l e rm_X3_splitMoments s m args below meth c 14 0 0 (QV below γ S X args s 0 0) S ν 18 [(0, .ref (gb γ + a0)), (1, .ref (gb γ + a1)), (2, .int a2), (3, .ref (gb γ + a3)), (4, .int x18_4)] []) (t0 : Int32) (μ : Mem) (h : b_X3_splitMoments_47 S k18 a0 a1 a2 a3 a4 t0 μ = some X) : JJ γ p l e rm_X3_splitMoments s m args below meth c 14 0 0 (QV below γ S X args s 0 0) S μ 47 [(0, .ref (gb γ + a0)), (1, .ref (gb γ + a1)), (2, .int a2), (3, .ref (gb γ + a3)), (4, .int a4)] [.int t0] := by
  unfold b_X3_splitMoments_47 at h
  refine j_istore F [(5, .int t0), (0, .ref (gb γ + a0)), (1, .ref (gb γ + a1)), (2, .int a2), (3, .ref (gb γ + a3)), (4, .int a4)] dX3_splitMoments_47 (by decide) rfl ?_
  refine j_getsN F 3 (by decide) (by decide +kernel) dX3_splitMoments_49 ?_
  refine j_iload F 0 dX3_splitMoments_52 rfl ?_
  refine j_tald F (by decide) dX3_splitMoments_54 h (fun v20 h => ?_)
  refine j_i2l F dX3_splitMoments_55 ?_
  refine j_lstore F [(6, .long v20.toInt64), (5, .int t0), (0, .ref (gb γ + a0)), (1, .ref (gb γ + a1)), (2, .int a2), (3, .ref (gb γ + a3)), (4, .int a4)] dX3_splitMoments_56 (by decide) rfl ?_
  refine j_getsN F 4 (by decide) (by decide +kernel) dX3_splitMoments_58 ?_
  refine j_iload F 1 dX3_splitMoments_61 rfl ?_
  refine j_tald F (by decide) dX3_splitMoments_63 h (fun v21 h => ?_)
  refine j_i2l F dX3_splitMoments_64 ?_
  refine j_lstore F [(8, .long v21.toInt64), (6, .long v20.toInt64), (5, .int t0), (0, .ref (gb γ + a0)), (1, .ref (gb γ + a1)), (2, .int a2), (3, .ref (gb γ + a3)), (4, .int a4)] dX3_splitMoments_65 (by decide) rfl ?_
  refine j_lload F 1 dX3_splitMoments_67 rfl ?_
  refine j_aload_n F 6 dX3_splitMoments_69 rfl ?_
  refine j_gR F fl_RX3_133 rfl dX3_splitMoments_70 h (fun v22 h => ?_)
  refine j_iload F 7 dX3_splitMoments_73 rfl ?_
  refine j_iald F dX3_splitMoments_75 h (fun v23 h => ?_)
  refine j_i2l F dX3_splitMoments_76 ?_
  refine j_lmul F dX3_splitMoments_77 ?_
  refine j_lload F 0 dX3_splitMoments_78 rfl ?_
  refine j_aload_n F 6 dX3_splitMoments_80 rfl ?_
  refine j_gR F fl_RX3_136 rfl dX3_splitMoments_81 h (fun v24 h => ?_)
  refine j_iload F 7 dX3_splitMoments_84 rfl ?_
  refine j_iald F dX3_splitMoments_86 h (fun v25 h => ?_)
  refine j_i2l F dX3_splitMoments_87 ?_
  refine j_lmul F dX3_splitMoments_88 ?_
  refine j_lsub F dX3_splitMoments_89 ?_
  refine j_nmL h (fun y26 h => ?_)
  refine j_lstore F [(10, .long y26), (8, .long v21.toInt64), (6, .long v20.toInt64), (5, .int t0), (0, .ref (gb γ + a0)), (1, .ref (gb γ + a1)), (2, .int a2), (3, .ref (gb γ + a3)), (4, .int a4)] dX3_splitMoments_90 (by decide) rfl ?_
  refine j_lload F 1 dX3_splitMoments_92 rfl ?_
  refine j_aload_n F 7 dX3_splitMoments_94 rfl ?_
  refine j_gR F fl_RX3_133 rfl dX3_splitMoments_95 h (fun v27 h => ?_)
  refine j_iload F 8 dX3_splitMoments_98 rfl ?_
  refine j_iald F dX3_splitMoments_100 h (fun v28 h => ?_)
  refine j_i2l F dX3_splitMoments_101 ?_
  refine j_lmul F dX3_splitMoments_102 ?_
  refine j_lload F 2 dX3_splitMoments_103 rfl ?_
  refine j_aload_n F 7 dX3_splitMoments_105 rfl ?_
  refine j_gR F fl_RX3_136 rfl dX3_splitMoments_106 h (fun v29 h => ?_)
  refine j_iload F 8 dX3_splitMoments_109 rfl ?_
  refine j_iald F dX3_splitMoments_111 h (fun v30 h => ?_)
  refine j_i2l F dX3_splitMoments_112 ?_
  refine j_lmul F dX3_splitMoments_113 ?_
  refine j_ladd F dX3_splitMoments_114 ?_
  refine j_nmL h (fun y31 h => ?_)
  refine j_lstore F [(12, .long y31), (10, .long y26), (8, .long v21.toInt64), (6, .long v20.toInt64), (5, .int t0), (0, .ref (gb γ + a0)), (1, .ref (gb γ + a1)), (2, .int a2), (3, .ref (gb γ + a3)), (4, .int a4)] dX3_splitMoments_115 (by decide) rfl ?_
  refine j_aload_n F 5 dX3_splitMoments_117 rfl ?_
  refine j_aload_n F 6 dX3_splitMoments_118 rfl ?_
  refine j_gR F fl_RX3_15 rfl dX3_splitMoments_119 h (fun v32 h => ?_)
  refine j_iload_n F 7 dX3_splitMoments_122 rfl ?_
  refine j_aload_n F 8 dX3_splitMoments_123 rfl ?_
  refine j_gR F fl_RX3_139 rfl dX3_splitMoments_124 h (fun v33 h => ?_)
  refine j_iload F 9 dX3_splitMoments_127 rfl ?_
  refine j_iald F dX3_splitMoments_129 h (fun v34 h => ?_)
  refine j_lload F 1 dX3_splitMoments_130 rfl ?_
  refine j_lload F 0 dX3_splitMoments_132 rfl ?_
  refine j_cVV F mi_X3_addMoment w_611 (rest := []) h (fun _ g => c_X3_addMoment g) rfl rfl (Nat.le_of_ble_eq_true rfl) ⟨Nat.le_of_ble_eq_true rfl, Nat.le_of_ble_eq_true rfl⟩ ⟨Nat.le_of_ble_eq_true rfl, Nat.le_of_ble_eq_true rfl⟩ dX3_splitMoments_134 (fun q35 h => ?_)
  refine j_iinc F 1 9 [(4, .int (a4 + 1)), (12, .long y31), (10, .long y26), (8, .long v21.toInt64), (6, .long v20.toInt64), (5, .int t0), (0, .ref (gb γ + a0)), (1, .ref (gb γ + a1)), (2, .int a2), (3, .ref (gb γ + a3))] dX3_splitMoments_137 rfl (by decide) (by decide) rfl ?_
  refine j_goto F 18 dX3_splitMoments_140 (by decide) ?_
  refine j_lv [(0, .ref (gb γ + a0)), (1, .ref (gb γ + a1)), (2, .int a2), (3, .ref (gb γ + a3)), (4, .int (a4 + 1))] [6, 7, 8, 9, 0] rfl ?_
  exact hk18 _ _ h
def l_X3_splitMoments_18 (S : SH) (a0 : Nat) (a1 : Nat) (a2 : Int32) (a3 : Nat) (k18 : (Int32 × Mem) → Option (Unit × Mem)) (x : (Int32 × Mem)) : Option (Unit × Mem) :=
 (gI S 5 a3 4 x.2).bind fun v4 =>
 (if v4 ≤ x.1 then
 b_X3_splitMoments_143 S a0 a1 a2 x.2
 else
 (gR S 5 a3 3).bind fun v18 =>
 (aI S .boolean v18 x.1 x.2).bind fun v19 =>
 (if v19 = 0 then
 b_X3_splitMoments_47 S k18 a0 a1 a2 a3 x.1 0 x.2
 else
 (gR S 2 a1 3).bind fun v36 =>
 (aI S .int v36 0 x.2).bind fun v37 =>
 b_X3_splitMoments_47 S k18 a0 a1 a2 a3 x.1 v37 x.2))
set_option maxRecDepth 100000 in
set_option maxHeartbeats 4000000 in
theorem t_X3_splitMoments_18 {γ : GE} {p : Program} {l : Launch} {e : Env} {s : State} {m : MethodId} {args : Array Value} {below : List Frame} {meth : Method} {c : Code} {S : SH} {X : (Unit × Mem)} (F : FX γ p s m args meth c cX3_splitMoments RX3 14) (hr : meth.sig.returnType = (none)) (a0 : Nat) (a1 : Nat) (a2 : Int32) (a3 : Nat) (k18 : (Int32 × Mem) → Option (Unit × Mem)) (hk18 : ∀ (x18_4 : Int32) (ν : Mem), k18 (x18_4, ν) = some X → JJ γ p l e rm_X3_splitMoments s m args below meth c 14 0 0 (QV below γ S X args s 0 0) S ν 18 [(0, .ref (gb γ + a0)), (1, .ref (gb γ + a1)), (2, .int a2), (3, .ref (gb γ + a3)), (4, .int x18_4)] []) (x : (Int32 × Mem)) (h : l_X3_splitMoments_18 S a0 a1 a2 a3 k18 x = some X) : JJ γ p l e rm_X3_splitMoments s m args below meth c 14 0 0 (QV below γ S X args s 0 0) S x.2 18 [(0, .ref (gb γ + a0)), (1, .ref (gb γ + a1)), (2, .int a2), (3, .ref (gb γ + a3)), (4, .int x.1)] [] := by
  unfold l_X3_splitMoments_18 at h
  refine j_iload F 4 dX3_splitMoments_18 rfl ?_
  refine j_aload_n F 3 dX3_splitMoments_20 rfl ?_
  refine j_gI F fl_RX3_126.l rfl dX3_splitMoments_21 h (fun v4 h => ?_)
  refine j_icmpge F 143 dX3_splitMoments_24 (by decide) h (fun _ h => ?_) (fun _ h => ?_)
  · refine j_lv [(0, .ref (gb γ + a0)), (1, .ref (gb γ + a1)), (2, .int a2)] [0, 1, 2] rfl ?_
    exact s_X3_splitMoments_143 F hr _ _ _ _ h
  · refine j_aload_n F 3 dX3_splitMoments_27 rfl ?_
    refine j_gR F fl_RX3_129 rfl dX3_splitMoments_28 h (fun v18 h => ?_)
    refine j_iload F 4 dX3_splitMoments_31 rfl ?_
    refine j_zald F dX3_splitMoments_33 h (fun v19 h => ?_)
    refine j_ifeq F 46 dX3_splitMoments_34 (by decide) h (fun _ h => ?_) (fun _ h => ?_)
    · refine j_iconst F 0 dX3_splitMoments_46 (by decide) ?_
      exact s_X3_splitMoments_47 F hr _ _ _ _ _ _ hk18 _ _ h
    · refine j_aload_n F 1 dX3_splitMoments_37 rfl ?_
      refine j_gR F fl_RX3_65 rfl dX3_splitMoments_38 h (fun v36 h => ?_)
      refine j_iconst F 0 dX3_splitMoments_41 (by decide) ?_
      refine j_iald F dX3_splitMoments_42 h (fun v37 h => ?_)
      refine j_goto F 47 dX3_splitMoments_43 (by decide) ?_
      exact s_X3_splitMoments_47 F hr _ _ _ _ _ _ hk18 _ _ h
theorem s_X3_splitMoments_18 {γ : GE} {p : Program} {l : Launch} {e : Env} {s : State} {m : MethodId} {args : Array Value} {below : List Frame} {meth : Method} {c : Code} {S : SH} {X : (Unit × Mem)} (F : FX γ p s m args meth c cX3_splitMoments RX3 14) (hr : meth.sig.returnType = (none)) (a0 : Nat) (a1 : Nat) (a2 : Int32) (a3 : Nat) (x18_4 : Int32) (ν : Mem) (h : lpN (l_X3_splitMoments_18 S a0 a1 a2 a3) fu (x18_4, ν) = some X) : JJ γ p l e rm_X3_splitMoments s m args below meth c 14 0 0 (QV below γ S X args s 0 0) S ν 18 [(0, .ref (gb γ + a0)), (1, .ref (gb γ + a1)), (2, .int a2), (3, .ref (gb γ + a3)), (4, .int x18_4)] [] :=
 lpN_sound (fun x => JJ γ p l e rm_X3_splitMoments s m args below meth c 14 0 0 (QV below γ S X args s 0 0) S x.2 18 [(0, .ref (gb γ + a0)), (1, .ref (gb γ + a1)), (2, .int a2), (3, .ref (gb γ + a3)), (4, .int x.1)] []) (fun k18 hk18 x h => t_X3_splitMoments_18 F hr a0 a1 a2 a3 k18 (fun x18_4 ν h => hk18 (x18_4, ν) h) x h) fu (x18_4, ν) h
def f_X3_splitMoments (S : SH) (a0 : Nat) (a1 : Nat) (a2 : Int32) (μ : Mem) : Option (Unit × Mem) :=
  if isO S 3 a0 = true then
  (pL S 3 a0 6 0 μ).bind fun ν1 =>
  (pL S 3 a0 7 0 ν1).bind fun ν2 =>
  (gR S 2 a1 1).bind fun v3 =>
  lpN (l_X3_splitMoments_18 S  a0 a1 a2 v3) fu (0, ν2)
  else none
set_option maxRecDepth 100000 in
set_option maxHeartbeats 4000000 in
theorem c_X3_splitMoments {l : Launch} {γ : GE} {S : SH} {a0 : Nat} {a1 : Nat} {a2 : Int32} {μ : Mem} {X : (Unit × Mem)} (h : f_X3_splitMoments S a0 a1 a2 μ = some X) : isO S 3 a0 = true ∧ Ct l γ yX3_splitMoments cX3_splitMoments 14 (none) rm_X3_splitMoments [.ref (gb γ + a0), .ref (gb γ + a1), .int a2] S μ S X.2 none := by
  unfold f_X3_splitMoments at h
  obtain ⟨h0, h⟩ := if_some h
  refine ⟨h0, ?_⟩
  have hJ : ∀ (p : Program) (e : Env) (s : State) (m : MethodId) (args : Array Value) (below : List Frame) (meth : Method) (c : Code), FX γ p s m args meth c cX3_splitMoments RX3 14 → meth.sig.returnType = (none) → JJ γ p l e rm_X3_splitMoments s m args below meth c 14 0 0 (QV below γ S X args s 0 0) S μ 0 [(0, .ref (gb γ + a0)), (1, .ref (gb γ + a1)), (2, .int a2)] [] := by
    intro p e s m args below meth c F hr
    refine j_aload_n F 0 dX3_splitMoments_0 rfl ?_
    refine j_lconst F 0 dX3_splitMoments_1 (by decide) ?_
    refine j_pL F fl_RX3_120 rfl dX3_splitMoments_2 h (fun ν1 h => ?_)
    refine j_aload_n F 0 dX3_splitMoments_5 rfl ?_
    refine j_lconst F 0 dX3_splitMoments_6 (by decide) ?_
    refine j_pL F fl_RX3_123 rfl dX3_splitMoments_7 h (fun ν2 h => ?_)
    refine j_aload_n F 1 dX3_splitMoments_10 rfl ?_
    refine j_gR F fl_RX3_69 rfl dX3_splitMoments_11 h (fun v3 h => ?_)
    refine j_astore_n F [(3, .ref (gb γ + v3)), (0, .ref (gb γ + a0)), (1, .ref (gb γ + a1)), (2, .int a2)] dX3_splitMoments_14 rfl (by decide) rfl ?_
    refine j_iconst F 0 dX3_splitMoments_15 (by decide) ?_
    refine j_istore F [(4, .int 0), (3, .ref (gb γ + v3)), (0, .ref (gb γ + a0)), (1, .ref (gb γ + a1)), (2, .int a2)] dX3_splitMoments_16 (by decide) rfl ?_
    refine j_lv [(0, .ref (gb γ + a0)), (1, .ref (gb γ + a1)), (2, .int a2), (3, .ref (gb γ + v3)), (4, .int 0)] [2, 3, 4, 1, 0] rfl ?_
    exact s_X3_splitMoments_18 F hr _ _ _ _ _ _ h
  exact ct_of (by decide +kernel) (Nat.le_of_ble_eq_true rfl) (fun p e s m args below meth c F hr _ => hJ p e s m args below meth c F hr)
def rm_X4_measure : Room := { frames := 2, cells := 0, slots := 0, locals := 43 }
theorem dX4_measure_0 : decode cX4_measure 0 = .ok (.aload_n 0, 1) := by decide +kernel
theorem dX4_measure_1 : decode cX4_measure 1 = .ok (.iconst 1, 1) := by decide +kernel
theorem dX4_measure_2 : decode cX4_measure 2 = .ok (.putfield 30, 3) := by decide +kernel
theorem dX4_measure_5 : decode cX4_measure 5 = .ok (.lconst 0, 1) := by decide +kernel
theorem dX4_measure_6 : decode cX4_measure 6 = .ok (.lstore_n 1, 1) := by decide +kernel
theorem dX4_measure_7 : decode cX4_measure 7 = .ok (.lconst 0, 1) := by decide +kernel
theorem dX4_measure_8 : decode cX4_measure 8 = .ok (.lstore_n 3, 1) := by decide +kernel
theorem dX4_measure_9 : decode cX4_measure 9 = .ok (.lconst 0, 1) := by decide +kernel
theorem dX4_measure_10 : decode cX4_measure 10 = .ok (.lstore 5, 2) := by decide +kernel
theorem dX4_measure_12 : decode cX4_measure 12 = .ok (.lconst 0, 1) := by decide +kernel
theorem dX4_measure_13 : decode cX4_measure 13 = .ok (.lstore 7, 2) := by decide +kernel
theorem dX4_measure_15 : decode cX4_measure 15 = .ok (.lconst 0, 1) := by decide +kernel
theorem dX4_measure_16 : decode cX4_measure 16 = .ok (.lstore 9, 2) := by decide +kernel
theorem dX4_measure_18 : decode cX4_measure 18 = .ok (.iconst 0, 1) := by decide +kernel
theorem dX4_measure_19 : decode cX4_measure 19 = .ok (.istore 11, 2) := by decide +kernel
theorem dX4_measure_21 : decode cX4_measure 21 = .ok (.iload 11, 2) := by decide +kernel
theorem dX4_measure_23 : decode cX4_measure 23 = .ok (.iconst 4, 1) := by decide +kernel
theorem dX4_measure_24 : decode cX4_measure 24 = .ok (.if_icmp .ge 124, 3) := by decide +kernel
theorem dX4_measure_27 : decode cX4_measure 27 = .ok (.aload_n 0, 1) := by decide +kernel
theorem dX4_measure_28 : decode cX4_measure 28 = .ok (.aload_n 0, 1) := by decide +kernel
theorem dX4_measure_29 : decode cX4_measure 29 = .ok (.getfield 30, 3) := by decide +kernel
theorem dX4_measure_32 : decode cX4_measure 32 = .ok (.ifCond .eq 18, 3) := by decide +kernel
theorem dX4_measure_35 : decode cX4_measure 35 = .ok (.aload_n 0, 1) := by decide +kernel
theorem dX4_measure_36 : decode cX4_measure 36 = .ok (.iload 11, 2) := by decide +kernel
theorem dX4_measure_38 : decode cX4_measure 38 = .ok (.invokevirtual 60, 3) := by decide +kernel
theorem dX4_measure_41 : decode cX4_measure 41 = .ok (.lconst 0, 1) := by decide +kernel
theorem dX4_measure_42 : decode cX4_measure 42 = .ok (.lcmp, 1) := by decide +kernel
theorem dX4_measure_43 : decode cX4_measure 43 = .ok (.ifCond .le 7, 3) := by decide +kernel
theorem dX4_measure_46 : decode cX4_measure 46 = .ok (.iconst 1, 1) := by decide +kernel
theorem dX4_measure_47 : decode cX4_measure 47 = .ok (.goto 4, 3) := by decide +kernel
theorem dX4_measure_50 : decode cX4_measure 50 = .ok (.iconst 0, 1) := by decide +kernel
theorem dX4_measure_51 : decode cX4_measure 51 = .ok (.putfield 30, 3) := by decide +kernel
theorem dX4_measure_54 : decode cX4_measure 54 = .ok (.lload_n 1, 1) := by decide +kernel
theorem dX4_measure_55 : decode cX4_measure 55 = .ok (.aload_n 0, 1) := by decide +kernel
theorem dX4_measure_56 : decode cX4_measure 56 = .ok (.getfield 9, 3) := by decide +kernel
theorem dX4_measure_59 : decode cX4_measure 59 = .ok (.iload 11, 2) := by decide +kernel
theorem dX4_measure_61 : decode cX4_measure 61 = .ok (.iaload, 1) := by decide +kernel
theorem dX4_measure_62 : decode cX4_measure 62 = .ok (.i2l, 1) := by decide +kernel
theorem dX4_measure_63 : decode cX4_measure 63 = .ok (.ladd, 1) := by decide +kernel
theorem dX4_measure_64 : decode cX4_measure 64 = .ok (.lstore_n 1, 1) := by decide +kernel
theorem dX4_measure_65 : decode cX4_measure 65 = .ok (.lload_n 3, 1) := by decide +kernel
theorem dX4_measure_66 : decode cX4_measure 66 = .ok (.aload_n 0, 1) := by decide +kernel
theorem dX4_measure_67 : decode cX4_measure 67 = .ok (.getfield 15, 3) := by decide +kernel
theorem dX4_measure_70 : decode cX4_measure 70 = .ok (.iload 11, 2) := by decide +kernel
theorem dX4_measure_72 : decode cX4_measure 72 = .ok (.iaload, 1) := by decide +kernel
theorem dX4_measure_73 : decode cX4_measure 73 = .ok (.i2l, 1) := by decide +kernel
theorem dX4_measure_74 : decode cX4_measure 74 = .ok (.ladd, 1) := by decide +kernel
theorem dX4_measure_75 : decode cX4_measure 75 = .ok (.lstore_n 3, 1) := by decide +kernel
theorem dX4_measure_76 : decode cX4_measure 76 = .ok (.lload 5, 2) := by decide +kernel
theorem dX4_measure_78 : decode cX4_measure 78 = .ok (.aload_n 0, 1) := by decide +kernel
theorem dX4_measure_79 : decode cX4_measure 79 = .ok (.getfield 9, 3) := by decide +kernel
theorem dX4_measure_82 : decode cX4_measure 82 = .ok (.iload 11, 2) := by decide +kernel
theorem dX4_measure_84 : decode cX4_measure 84 = .ok (.iaload, 1) := by decide +kernel
theorem dX4_measure_85 : decode cX4_measure 85 = .ok (.i2l, 1) := by decide +kernel
theorem dX4_measure_86 : decode cX4_measure 86 = .ok (.aload_n 0, 1) := by decide +kernel
theorem dX4_measure_87 : decode cX4_measure 87 = .ok (.getfield 9, 3) := by decide +kernel
theorem dX4_measure_90 : decode cX4_measure 90 = .ok (.iload 11, 2) := by decide +kernel
theorem dX4_measure_92 : decode cX4_measure 92 = .ok (.iaload, 1) := by decide +kernel
theorem dX4_measure_93 : decode cX4_measure 93 = .ok (.i2l, 1) := by decide +kernel
theorem dX4_measure_94 : decode cX4_measure 94 = .ok (.lmul, 1) := by decide +kernel
theorem dX4_measure_95 : decode cX4_measure 95 = .ok (.ladd, 1) := by decide +kernel
theorem dX4_measure_96 : decode cX4_measure 96 = .ok (.lstore 5, 2) := by decide +kernel
theorem dX4_measure_98 : decode cX4_measure 98 = .ok (.lload 7, 2) := by decide +kernel
theorem dX4_measure_100 : decode cX4_measure 100 = .ok (.aload_n 0, 1) := by decide +kernel
theorem dX4_measure_101 : decode cX4_measure 101 = .ok (.getfield 9, 3) := by decide +kernel
theorem dX4_measure_104 : decode cX4_measure 104 = .ok (.iload 11, 2) := by decide +kernel
theorem dX4_measure_106 : decode cX4_measure 106 = .ok (.iaload, 1) := by decide +kernel
theorem dX4_measure_107 : decode cX4_measure 107 = .ok (.i2l, 1) := by decide +kernel
theorem dX4_measure_108 : decode cX4_measure 108 = .ok (.aload_n 0, 1) := by decide +kernel
theorem dX4_measure_109 : decode cX4_measure 109 = .ok (.getfield 15, 3) := by decide +kernel
theorem dX4_measure_112 : decode cX4_measure 112 = .ok (.iload 11, 2) := by decide +kernel
theorem dX4_measure_114 : decode cX4_measure 114 = .ok (.iaload, 1) := by decide +kernel
theorem dX4_measure_115 : decode cX4_measure 115 = .ok (.i2l, 1) := by decide +kernel
theorem dX4_measure_116 : decode cX4_measure 116 = .ok (.lmul, 1) := by decide +kernel
theorem dX4_measure_117 : decode cX4_measure 117 = .ok (.ladd, 1) := by decide +kernel
theorem dX4_measure_118 : decode cX4_measure 118 = .ok (.lstore 7, 2) := by decide +kernel
theorem dX4_measure_120 : decode cX4_measure 120 = .ok (.lload 9, 2) := by decide +kernel
theorem dX4_measure_122 : decode cX4_measure 122 = .ok (.aload_n 0, 1) := by decide +kernel
theorem dX4_measure_123 : decode cX4_measure 123 = .ok (.getfield 15, 3) := by decide +kernel
theorem dX4_measure_126 : decode cX4_measure 126 = .ok (.iload 11, 2) := by decide +kernel
theorem dX4_measure_128 : decode cX4_measure 128 = .ok (.iaload, 1) := by decide +kernel
theorem dX4_measure_129 : decode cX4_measure 129 = .ok (.i2l, 1) := by decide +kernel
theorem dX4_measure_130 : decode cX4_measure 130 = .ok (.aload_n 0, 1) := by decide +kernel
theorem dX4_measure_131 : decode cX4_measure 131 = .ok (.getfield 15, 3) := by decide +kernel
theorem dX4_measure_134 : decode cX4_measure 134 = .ok (.iload 11, 2) := by decide +kernel
theorem dX4_measure_136 : decode cX4_measure 136 = .ok (.iaload, 1) := by decide +kernel
theorem dX4_measure_137 : decode cX4_measure 137 = .ok (.i2l, 1) := by decide +kernel
theorem dX4_measure_138 : decode cX4_measure 138 = .ok (.lmul, 1) := by decide +kernel
theorem dX4_measure_139 : decode cX4_measure 139 = .ok (.ladd, 1) := by decide +kernel
theorem dX4_measure_140 : decode cX4_measure 140 = .ok (.lstore 9, 2) := by decide +kernel
theorem dX4_measure_142 : decode cX4_measure 142 = .ok (.iinc 11 1, 3) := by decide +kernel
theorem dX4_measure_145 : decode cX4_measure 145 = .ok (.goto (-124), 3) := by decide +kernel
theorem dX4_measure_148 : decode cX4_measure 148 = .ok (.aload_n 0, 1) := by decide +kernel
theorem dX4_measure_149 : decode cX4_measure 149 = .ok (.lload 5, 2) := by decide +kernel
theorem dX4_measure_151 : decode cX4_measure 151 = .ok (.lload 9, 2) := by decide +kernel
theorem dX4_measure_153 : decode cX4_measure 153 = .ok (.lmul, 1) := by decide +kernel
theorem dX4_measure_154 : decode cX4_measure 154 = .ok (.lload 7, 2) := by decide +kernel
theorem dX4_measure_156 : decode cX4_measure 156 = .ok (.lload 7, 2) := by decide +kernel
theorem dX4_measure_158 : decode cX4_measure 158 = .ok (.lmul, 1) := by decide +kernel
theorem dX4_measure_159 : decode cX4_measure 159 = .ok (.lsub, 1) := by decide +kernel
theorem dX4_measure_160 : decode cX4_measure 160 = .ok (.putfield 34, 3) := by decide +kernel
theorem dX4_measure_163 : decode cX4_measure 163 = .ok (.aload_n 0, 1) := by decide +kernel
theorem dX4_measure_164 : decode cX4_measure 164 = .ok (.lload 7, 2) := by decide +kernel
theorem dX4_measure_166 : decode cX4_measure 166 = .ok (.lload_n 3, 1) := by decide +kernel
theorem dX4_measure_167 : decode cX4_measure 167 = .ok (.lmul, 1) := by decide +kernel
theorem dX4_measure_168 : decode cX4_measure 168 = .ok (.lload_n 1, 1) := by decide +kernel
theorem dX4_measure_169 : decode cX4_measure 169 = .ok (.lload 9, 2) := by decide +kernel
theorem dX4_measure_171 : decode cX4_measure 171 = .ok (.lmul, 1) := by decide +kernel
theorem dX4_measure_172 : decode cX4_measure 172 = .ok (.lsub, 1) := by decide +kernel
theorem dX4_measure_173 : decode cX4_measure 173 = .ok (.putfield 38, 3) := by decide +kernel
theorem dX4_measure_176 : decode cX4_measure 176 = .ok (.aload_n 0, 1) := by decide +kernel
theorem dX4_measure_177 : decode cX4_measure 177 = .ok (.lload_n 1, 1) := by decide +kernel
theorem dX4_measure_178 : decode cX4_measure 178 = .ok (.lload 7, 2) := by decide +kernel
theorem dX4_measure_180 : decode cX4_measure 180 = .ok (.lmul, 1) := by decide +kernel
theorem dX4_measure_181 : decode cX4_measure 181 = .ok (.lload 5, 2) := by decide +kernel
theorem dX4_measure_183 : decode cX4_measure 183 = .ok (.lload_n 3, 1) := by decide +kernel
theorem dX4_measure_184 : decode cX4_measure 184 = .ok (.lmul, 1) := by decide +kernel
theorem dX4_measure_185 : decode cX4_measure 185 = .ok (.lsub, 1) := by decide +kernel
theorem dX4_measure_186 : decode cX4_measure 186 = .ok (.putfield 41, 3) := by decide +kernel
theorem dX4_measure_189 : decode cX4_measure 189 = .ok (.aload_n 0, 1) := by decide +kernel
theorem dX4_measure_190 : decode cX4_measure 190 = .ok (.ldc2_w 64, 3) := by decide +kernel
theorem dX4_measure_193 : decode cX4_measure 193 = .ok (.lload 9, 2) := by decide +kernel
theorem dX4_measure_195 : decode cX4_measure 195 = .ok (.lmul, 1) := by decide +kernel
theorem dX4_measure_196 : decode cX4_measure 196 = .ok (.lload_n 3, 1) := by decide +kernel
theorem dX4_measure_197 : decode cX4_measure 197 = .ok (.lload_n 3, 1) := by decide +kernel
theorem dX4_measure_198 : decode cX4_measure 198 = .ok (.lmul, 1) := by decide +kernel
theorem dX4_measure_199 : decode cX4_measure 199 = .ok (.lsub, 1) := by decide +kernel
theorem dX4_measure_200 : decode cX4_measure 200 = .ok (.putfield 44, 3) := by decide +kernel
theorem dX4_measure_203 : decode cX4_measure 203 = .ok (.aload_n 0, 1) := by decide +kernel
theorem dX4_measure_204 : decode cX4_measure 204 = .ok (.lload_n 1, 1) := by decide +kernel
theorem dX4_measure_205 : decode cX4_measure 205 = .ok (.lload_n 3, 1) := by decide +kernel
theorem dX4_measure_206 : decode cX4_measure 206 = .ok (.lmul, 1) := by decide +kernel
theorem dX4_measure_207 : decode cX4_measure 207 = .ok (.ldc2_w 64, 3) := by decide +kernel
theorem dX4_measure_210 : decode cX4_measure 210 = .ok (.lload 7, 2) := by decide +kernel
theorem dX4_measure_212 : decode cX4_measure 212 = .ok (.lmul, 1) := by decide +kernel
theorem dX4_measure_213 : decode cX4_measure 213 = .ok (.lsub, 1) := by decide +kernel
theorem dX4_measure_214 : decode cX4_measure 214 = .ok (.putfield 47, 3) := by decide +kernel
theorem dX4_measure_217 : decode cX4_measure 217 = .ok (.aload_n 0, 1) := by decide +kernel
theorem dX4_measure_218 : decode cX4_measure 218 = .ok (.ldc2_w 64, 3) := by decide +kernel
theorem dX4_measure_221 : decode cX4_measure 221 = .ok (.lload 5, 2) := by decide +kernel
theorem dX4_measure_223 : decode cX4_measure 223 = .ok (.lmul, 1) := by decide +kernel
theorem dX4_measure_224 : decode cX4_measure 224 = .ok (.lload_n 1, 1) := by decide +kernel
theorem dX4_measure_225 : decode cX4_measure 225 = .ok (.lload_n 1, 1) := by decide +kernel
theorem dX4_measure_226 : decode cX4_measure 226 = .ok (.lmul, 1) := by decide +kernel
theorem dX4_measure_227 : decode cX4_measure 227 = .ok (.lsub, 1) := by decide +kernel
theorem dX4_measure_228 : decode cX4_measure 228 = .ok (.putfield 50, 3) := by decide +kernel
theorem dX4_measure_231 : decode cX4_measure 231 = .ok (.aload_n 0, 1) := by decide +kernel
theorem dX4_measure_232 : decode cX4_measure 232 = .ok (.ldc2_w 64, 3) := by decide +kernel
theorem dX4_measure_235 : decode cX4_measure 235 = .ok (.aload_n 0, 1) := by decide +kernel
theorem dX4_measure_236 : decode cX4_measure 236 = .ok (.getfield 34, 3) := by decide +kernel
theorem dX4_measure_239 : decode cX4_measure 239 = .ok (.lmul, 1) := by decide +kernel
theorem dX4_measure_240 : decode cX4_measure 240 = .ok (.lload_n 1, 1) := by decide +kernel
theorem dX4_measure_241 : decode cX4_measure 241 = .ok (.aload_n 0, 1) := by decide +kernel
theorem dX4_measure_242 : decode cX4_measure 242 = .ok (.getfield 38, 3) := by decide +kernel
theorem dX4_measure_245 : decode cX4_measure 245 = .ok (.lmul, 1) := by decide +kernel
theorem dX4_measure_246 : decode cX4_measure 246 = .ok (.ladd, 1) := by decide +kernel
theorem dX4_measure_247 : decode cX4_measure 247 = .ok (.lload_n 3, 1) := by decide +kernel
theorem dX4_measure_248 : decode cX4_measure 248 = .ok (.aload_n 0, 1) := by decide +kernel
theorem dX4_measure_249 : decode cX4_measure 249 = .ok (.getfield 41, 3) := by decide +kernel
theorem dX4_measure_252 : decode cX4_measure 252 = .ok (.lmul, 1) := by decide +kernel
theorem dX4_measure_253 : decode cX4_measure 253 = .ok (.ladd, 1) := by decide +kernel
theorem dX4_measure_254 : decode cX4_measure 254 = .ok (.putfield 53, 3) := by decide +kernel
theorem dX4_measure_257 : decode cX4_measure 257 = .ok (.return_, 1) := by decide +kernel
def b_X4_measure_148 (S : SH) (a0 : Nat) (a1 : Int64) (a3 : Int64) (a5 : Int64) (a7 : Int64) (a9 : Int64) (μ : Mem) : Option (Unit × Mem) :=
 (pL S 4 a0 4 ((a5 * a9) - (a7 * a7)) μ).bind fun ν2 =>
 (pL S 4 a0 5 ((a7 * a3) - (a1 * a9)) ν2).bind fun ν3 =>
 (pL S 4 a0 6 ((a1 * a7) - (a5 * a3)) ν3).bind fun ν4 =>
 (pL S 4 a0 7 ((4 * a9) - (a3 * a3)) ν4).bind fun ν5 =>
 (pL S 4 a0 8 ((a1 * a3) - (4 * a7)) ν5).bind fun ν6 =>
 (pL S 4 a0 9 ((4 * a5) - (a1 * a1)) ν6).bind fun ν7 =>
 (gL S 4 a0 4 ν7).bind fun v8 =>
 (gL S 4 a0 5 ν7).bind fun v9 =>
 (gL S 4 a0 6 ν7).bind fun v10 =>
 (pL S 4 a0 10 (((4 * v8) + (a1 * v9)) + (a3 * v10)) ν7).bind fun ν11 =>
 some ((), ν11)
set_option maxRecDepth 100000 in
set_option maxHeartbeats 4000000 in
theorem s_X4_measure_148 {γ : GE} {p : Program} {l : Launch} {e : Env} {s : State} {m : MethodId} {args : Array Value} {below : List Frame} {meth : Method} {c : Code} {S : SH} {X : (Unit × Mem)} (F : FX γ p s m args meth c cX4_measure RX4 12) (hr : meth.sig.returnType = (none)) (a0 : Nat) (a1 : Int64) (a3 : Int64) (a5 : Int64) (a7 : Int64) (a9 : Int64)    (μ : Mem) (h : b_X4_measure_148 S a0 a1 a3 a5 a7 a9 μ = some X) : JJ γ p l e rm_X4_measure s m args below meth c 12 0 0 (QV below γ S X args s 0 0) S μ 148 [(0, .ref (gb γ + a0)), (1, .long a1), (3, .long a3), (5, .long a5), (7, .long a7), (9, .long a9)] [] := by
  unfold b_X4_measure_148 at h
  refine j_aload_n F 0 dX4_measure_148 rfl ?_
  refine j_lload F 3 dX4_measure_149 rfl ?_
  refine j_lload F 5 dX4_measure_151 rfl ?_
  refine j_lmul F dX4_measure_153 ?_
  refine j_lload F 4 dX4_measure_154 rfl ?_
  refine j_lload F 4 dX4_measure_156 rfl ?_
  refine j_lmul F dX4_measure_158 ?_
  refine j_lsub F dX4_measure_159 ?_
  refine j_pL F fl_RX4_34 rfl dX4_measure_160 h (fun ν2 h => ?_)
  refine j_aload_n F 0 dX4_measure_163 rfl ?_
  refine j_lload F 4 dX4_measure_164 rfl ?_
  refine j_lload_n F 2 dX4_measure_166 rfl ?_
  refine j_lmul F dX4_measure_167 ?_
  refine j_lload_n F 1 dX4_measure_168 rfl ?_
  refine j_lload F 5 dX4_measure_169 rfl ?_
  refine j_lmul F dX4_measure_171 ?_
  refine j_lsub F dX4_measure_172 ?_
  refine j_pL F fl_RX4_38 rfl dX4_measure_173 h (fun ν3 h => ?_)
  refine j_aload_n F 0 dX4_measure_176 rfl ?_
  refine j_lload_n F 1 dX4_measure_177 rfl ?_
  refine j_lload F 4 dX4_measure_178 rfl ?_
  refine j_lmul F dX4_measure_180 ?_
  refine j_lload F 3 dX4_measure_181 rfl ?_
  refine j_lload_n F 2 dX4_measure_183 rfl ?_
  refine j_lmul F dX4_measure_184 ?_
  refine j_lsub F dX4_measure_185 ?_
  refine j_pL F fl_RX4_41 rfl dX4_measure_186 h (fun ν4 h => ?_)
  refine j_aload_n F 0 dX4_measure_189 rfl ?_
  refine j_ldc2 F 4 dX4_measure_190 w_107 ?_
  refine j_lload F 5 dX4_measure_193 rfl ?_
  refine j_lmul F dX4_measure_195 ?_
  refine j_lload_n F 2 dX4_measure_196 rfl ?_
  refine j_lload_n F 2 dX4_measure_197 rfl ?_
  refine j_lmul F dX4_measure_198 ?_
  refine j_lsub F dX4_measure_199 ?_
  refine j_pL F fl_RX4_44 rfl dX4_measure_200 h (fun ν5 h => ?_)
  refine j_aload_n F 0 dX4_measure_203 rfl ?_
  refine j_lload_n F 1 dX4_measure_204 rfl ?_
  refine j_lload_n F 2 dX4_measure_205 rfl ?_
  refine j_lmul F dX4_measure_206 ?_
  refine j_ldc2 F 4 dX4_measure_207 w_107 ?_
  refine j_lload F 4 dX4_measure_210 rfl ?_
  refine j_lmul F dX4_measure_212 ?_
  refine j_lsub F dX4_measure_213 ?_
  refine j_pL F fl_RX4_47 rfl dX4_measure_214 h (fun ν6 h => ?_)
  refine j_aload_n F 0 dX4_measure_217 rfl ?_
  refine j_ldc2 F 4 dX4_measure_218 w_107 ?_
  refine j_lload F 3 dX4_measure_221 rfl ?_
  refine j_lmul F dX4_measure_223 ?_
  refine j_lload_n F 1 dX4_measure_224 rfl ?_
  refine j_lload_n F 1 dX4_measure_225 rfl ?_
  refine j_lmul F dX4_measure_226 ?_
  refine j_lsub F dX4_measure_227 ?_
  refine j_pL F fl_RX4_50 rfl dX4_measure_228 h (fun ν7 h => ?_)
  refine j_aload_n F 0 dX4_measure_231 rfl ?_
  refine j_ldc2 F 4 dX4_measure_232 w_107 ?_
  refine j_aload_n F 0 dX4_measure_235 rfl ?_
  refine j_gL F fl_RX4_34.l rfl dX4_measure_236 h (fun v8 h => ?_)
  refine j_lmul F dX4_measure_239 ?_
  refine j_lload_n F 1 dX4_measure_240 rfl ?_
  refine j_aload_n F 0 dX4_measure_241 rfl ?_
  refine j_gL F fl_RX4_38.l rfl dX4_measure_242 h (fun v9 h => ?_)
  refine j_lmul F dX4_measure_245 ?_
  refine j_ladd F dX4_measure_246 ?_
  refine j_lload_n F 2 dX4_measure_247 rfl ?_
  refine j_aload_n F 0 dX4_measure_248 rfl ?_
  refine j_gL F fl_RX4_41.l rfl dX4_measure_249 h (fun v10 h => ?_)
  refine j_lmul F dX4_measure_252 ?_
  refine j_ladd F dX4_measure_253 ?_
  refine j_pL F fl_RX4_53 rfl dX4_measure_254 h (fun ν11 h => ?_)
  exact j_vret F hr dX4_measure_257 h
def b_X4_measure_51 (S : SH) (k21 : (Int64 × Int64 × Int64 × Int64 × Int64 × Int32 × Mem) → Option (Unit × Mem)) (a0 : Nat) (a1 : Int64) (a3 : Int64) (a5 : Int64) (a7 : Int64) (a9 : Int64) (a11 : Int32) (t0 : Int32) (t1 : Nat) (μ : Mem) : Option (Unit × Mem) :=
 (pZ S 4 t1 3 t0 μ).bind fun ν13 =>
 (gR S 4 a0 0).bind fun v14 =>
 (aI S .int v14 a11 ν13).bind fun v15 =>
 (some (a1 + v15.toInt64)).bind fun y16 =>
 (gR S 4 a0 1).bind fun v17 =>
 (aI S .int v17 a11 ν13).bind fun v18 =>
 (some (a3 + v18.toInt64)).bind fun y19 =>
 (gR S 4 a0 0).bind fun v20 =>
 (aI S .int v20 a11 ν13).bind fun v21 =>
 (gR S 4 a0 0).bind fun v22 =>
 (aI S .int v22 a11 ν13).bind fun v23 =>
 (some (a5 + (v21.toInt64 * v23.toInt64))).bind fun y24 =>
 (gR S 4 a0 0).bind fun v25 =>
 (aI S .int v25 a11 ν13).bind fun v26 =>
 (gR S 4 a0 1).bind fun v27 =>
 (aI S .int v27 a11 ν13).bind fun v28 =>
 (some (a7 + (v26.toInt64 * v28.toInt64))).bind fun y29 =>
 (gR S 4 a0 1).bind fun v30 =>
 (aI S .int v30 a11 ν13).bind fun v31 =>
 (gR S 4 a0 1).bind fun v32 =>
 (aI S .int v32 a11 ν13).bind fun v33 =>
 (some (a9 + (v31.toInt64 * v33.toInt64))).bind fun y34 =>
 k21 (y16, y19, y24, y29, y34, a11 + 1, ν13)
set_option maxRecDepth 100000 in
set_option maxHeartbeats 4000000 in
theorem s_X4_measure_51 {γ : GE} {p : Program} {l : Launch} {e : Env} {s : State} {m : MethodId} {args : Array Value} {below : List Frame} {meth : Method} {c : Code} {S : SH} {X : (Unit × Mem)} (F : FX γ p s m args meth c cX4_measure RX4 12) (hr : meth.sig.returnType = (none)) (a0 : Nat) (a1 : Int64) (a3 : Int64) (a5 : Int64) (a7 : Int64) (a9 : Int64) (a11 : Int32)  (k21 : (Int64 × Int64 × Int64 × Int64 × Int64 × Int32 × Mem) → Option (Unit × Mem)) (hk21 : ∀ (x21_1 : Int64) (x21_3 : Int64) (x21_5 : Int64) (x21_7 : Int64) (x21_9 : Int64) (x21_11 : Int32) (ν : Mem), k21 (x21_1, x21_3, x21_5, x21_7, x21_9, x21_11, ν) = some X → JJ γ p l e rm_X4_measure s m args below meth c 12 0 0 (QV below γ S X args s 0 0) S ν 21 [(0, .ref (gb γ + a0)), (1, .long x21_1), (3, .long x21_3), (5, .long x21_5), (7, .long x21_7), (9, .long x21_9), (11, .int x21_11)] []) (t0 : Int32) (t1 : Nat) (μ : Mem) (h : b_X4_measure_51 S k21 a0 a1 a3 a5 a7 a9 a11 t0 t1 μ = some X) : JJ γ p l e rm_X4_measure s m args below meth c 12 0 0 (QV below γ S X args s 0 0) S μ 51 [(0, .ref (gb γ + a0)), (1, .long a1), (3, .long a3), (5, .long a5), (7, .long a7), (9, .long a9), (11, .int a11)] [.int t0, .ref (gb γ + t1)] := by
  unfold b_X4_measure_51 at h
  refine j_pZ F fl_RX4_30 rfl dX4_measure_51 h (fun ν13 h => ?_)
  refine j_lload_n F 1 dX4_measure_54 rfl ?_
  refine j_aload_n F 0 dX4_measure_55 rfl ?_
  refine j_gR F fl_RX4_9 rfl dX4_measure_56 h (fun v14 h => ?_)
  refine j_iload F 6 dX4_measure_59 rfl ?_
  refine j_iald F dX4_measure_61 h (fun v15 h => ?_)
  refine j_i2l F dX4_measure_62 ?_
  refine j_ladd F dX4_measure_63 ?_
  refine j_nmL h (fun y16 h => ?_)
  refine j_lstore_n F [(1, .long y16), (0, .ref (gb γ + a0)), (3, .long a3), (5, .long a5), (7, .long a7), (9, .long a9), (11, .int a11)] dX4_measure_64 rfl (by decide) rfl ?_
  refine j_lload_n F 2 dX4_measure_65 rfl ?_
  refine j_aload_n F 1 dX4_measure_66 rfl ?_
  refine j_gR F fl_RX4_15 rfl dX4_measure_67 h (fun v17 h => ?_)
  refine j_iload F 6 dX4_measure_70 rfl ?_
  refine j_iald F dX4_measure_72 h (fun v18 h => ?_)
  refine j_i2l F dX4_measure_73 ?_
  refine j_ladd F dX4_measure_74 ?_
  refine j_nmL h (fun y19 h => ?_)
  refine j_lstore_n F [(3, .long y19), (1, .long y16), (0, .ref (gb γ + a0)), (5, .long a5), (7, .long a7), (9, .long a9), (11, .int a11)] dX4_measure_75 rfl (by decide) rfl ?_
  refine j_lload F 3 dX4_measure_76 rfl ?_
  refine j_aload_n F 2 dX4_measure_78 rfl ?_
  refine j_gR F fl_RX4_9 rfl dX4_measure_79 h (fun v20 h => ?_)
  refine j_iload F 6 dX4_measure_82 rfl ?_
  refine j_iald F dX4_measure_84 h (fun v21 h => ?_)
  refine j_i2l F dX4_measure_85 ?_
  refine j_aload_n F 2 dX4_measure_86 rfl ?_
  refine j_gR F fl_RX4_9 rfl dX4_measure_87 h (fun v22 h => ?_)
  refine j_iload F 6 dX4_measure_90 rfl ?_
  refine j_iald F dX4_measure_92 h (fun v23 h => ?_)
  refine j_i2l F dX4_measure_93 ?_
  refine j_lmul F dX4_measure_94 ?_
  refine j_ladd F dX4_measure_95 ?_
  refine j_nmL h (fun y24 h => ?_)
  refine j_lstore F [(5, .long y24), (3, .long y19), (1, .long y16), (0, .ref (gb γ + a0)), (7, .long a7), (9, .long a9), (11, .int a11)] dX4_measure_96 (by decide) rfl ?_
  refine j_lload F 4 dX4_measure_98 rfl ?_
  refine j_aload_n F 3 dX4_measure_100 rfl ?_
  refine j_gR F fl_RX4_9 rfl dX4_measure_101 h (fun v25 h => ?_)
  refine j_iload F 6 dX4_measure_104 rfl ?_
  refine j_iald F dX4_measure_106 h (fun v26 h => ?_)
  refine j_i2l F dX4_measure_107 ?_
  refine j_aload_n F 3 dX4_measure_108 rfl ?_
  refine j_gR F fl_RX4_15 rfl dX4_measure_109 h (fun v27 h => ?_)
  refine j_iload F 6 dX4_measure_112 rfl ?_
  refine j_iald F dX4_measure_114 h (fun v28 h => ?_)
  refine j_i2l F dX4_measure_115 ?_
  refine j_lmul F dX4_measure_116 ?_
  refine j_ladd F dX4_measure_117 ?_
  refine j_nmL h (fun y29 h => ?_)
  refine j_lstore F [(7, .long y29), (5, .long y24), (3, .long y19), (1, .long y16), (0, .ref (gb γ + a0)), (9, .long a9), (11, .int a11)] dX4_measure_118 (by decide) rfl ?_
  refine j_lload F 5 dX4_measure_120 rfl ?_
  refine j_aload_n F 4 dX4_measure_122 rfl ?_
  refine j_gR F fl_RX4_15 rfl dX4_measure_123 h (fun v30 h => ?_)
  refine j_iload F 6 dX4_measure_126 rfl ?_
  refine j_iald F dX4_measure_128 h (fun v31 h => ?_)
  refine j_i2l F dX4_measure_129 ?_
  refine j_aload_n F 4 dX4_measure_130 rfl ?_
  refine j_gR F fl_RX4_15 rfl dX4_measure_131 h (fun v32 h => ?_)
  refine j_iload F 6 dX4_measure_134 rfl ?_
  refine j_iald F dX4_measure_136 h (fun v33 h => ?_)
  refine j_i2l F dX4_measure_137 ?_
  refine j_lmul F dX4_measure_138 ?_
  refine j_ladd F dX4_measure_139 ?_
  refine j_nmL h (fun y34 h => ?_)
  refine j_lstore F [(9, .long y34), (7, .long y29), (5, .long y24), (3, .long y19), (1, .long y16), (0, .ref (gb γ + a0)), (11, .int a11)] dX4_measure_140 (by decide) rfl ?_
  refine j_iinc F 1 6 [(11, .int (a11 + 1)), (9, .long y34), (7, .long y29), (5, .long y24), (3, .long y19), (1, .long y16), (0, .ref (gb γ + a0))] dX4_measure_142 rfl (by decide) (by decide) rfl ?_
  refine j_goto F 21 dX4_measure_145 (by decide) ?_
  refine j_lv [(0, .ref (gb γ + a0)), (1, .long y16), (3, .long y19), (5, .long y24), (7, .long y29), (9, .long y34), (11, .int (a11 + 1))] [6, 5, 4, 3, 2, 1, 0] rfl ?_
  exact hk21 _ _ _ _ _ _ _ h
def b_X4_measure_50 (S : SH) (k21 : (Int64 × Int64 × Int64 × Int64 × Int64 × Int32 × Mem) → Option (Unit × Mem)) (a0 : Nat) (a1 : Int64) (a3 : Int64) (a5 : Int64) (a7 : Int64) (a9 : Int64) (a11 : Int32) (t0 : Nat) (μ : Mem) : Option (Unit × Mem) :=
 b_X4_measure_51 S k21 a0 a1 a3 a5 a7 a9 a11 0 t0 μ
set_option maxRecDepth 100000 in
set_option maxHeartbeats 4000000 in
theorem s_X4_measure_50 {γ : GE} {p : Program} {l : Launch} {e : Env} {s : State} {m : MethodId} {args : Array Value} {below : List Frame} {meth : Method} {c : Code} {S : SH} {X : (Unit × Mem)} (F : FX γ p s m args meth c cX4_measure RX4 12) (hr : meth.sig.returnType = (none)) (a0 : Nat) (a1 : Int64) (a3 : Int64) (a5 : Int64) (a7 : Int64) (a9 : Int64) (a11 : Int32)  (k21 : (Int64 × Int64 × Int64 × Int64 × Int64 × Int32 × Mem) → Option (Unit × Mem)) (hk21 : ∀ (x21_1 : Int64) (x21_3 : Int64) (x21_5 : Int64) (x21_7 : Int64) (x21_9 : Int64) (x21_11 : Int32) (ν : Mem), k21 (x21_1, x21_3, x21_5, x21_7, x21_9, x21_11, ν) = some X → JJ γ p l e rm_X4_measure s m args below meth c 12 0 0 (QV below γ S X args s 0 0) S ν 21 [(0, .ref (gb γ + a0)), (1, .long x21_1), (3, .long x21_3), (5, .long x21_5), (7, .long x21_7), (9, .long x21_9), (11, .int x21_11)] []) (t0 : Nat) (μ : Mem) (h : b_X4_measure_50 S k21 a0 a1 a3 a5 a7 a9 a11 t0 μ = some X) : JJ γ p l e rm_X4_measure s m args below meth c 12 0 0 (QV below γ S X args s 0 0) S μ 50 [(0, .ref (gb γ + a0)), (1, .long a1), (3, .long a3), (5, .long a5), (7, .long a7), (9, .long a9), (11, .int a11)] [.ref (gb γ + t0)] := by
  unfold b_X4_measure_50 at h
  refine j_iconst F 0 dX4_measure_50 (by decide) ?_
  exact s_X4_measure_51 F hr _ _ _ _ _ _ _ _ hk21 _ _ _ h
def l_X4_measure_21 (S : SH) (a0 : Nat) (k21 : (Int64 × Int64 × Int64 × Int64 × Int64 × Int32 × Mem) → Option (Unit × Mem)) (x : (Int64 × Int64 × Int64 × Int64 × Int64 × Int32 × Mem)) : Option (Unit × Mem) :=
 (if 4 ≤ x.2.2.2.2.2.1 then
 b_X4_measure_148 S a0 x.1 x.2.1 x.2.2.1 x.2.2.2.1 x.2.2.2.2.1 x.2.2.2.2.2.2
 else
 (gI S 4 a0 3 x.2.2.2.2.2.2).bind fun v12 =>
 (if v12 = 0 then
 b_X4_measure_50 S k21 a0 x.1 x.2.1 x.2.2.1 x.2.2.2.1 x.2.2.2.2.1 x.2.2.2.2.2.1 a0 x.2.2.2.2.2.2
 else
 (f_X4_span S a0 x.2.2.2.2.2.1 x.2.2.2.2.2.2).bind fun q35 =>
 (if q35.1 ≤ 0 then
 b_X4_measure_50 S k21 a0 x.1 x.2.1 x.2.2.1 x.2.2.2.1 x.2.2.2.2.1 x.2.2.2.2.2.1 a0 q35.2
 else
 b_X4_measure_51 S k21 a0 x.1 x.2.1 x.2.2.1 x.2.2.2.1 x.2.2.2.2.1 x.2.2.2.2.2.1 1 a0 q35.2)))
set_option maxRecDepth 100000 in
set_option maxHeartbeats 4000000 in
theorem t_X4_measure_21 {γ : GE} {p : Program} {l : Launch} {e : Env} {s : State} {m : MethodId} {args : Array Value} {below : List Frame} {meth : Method} {c : Code} {S : SH} {X : (Unit × Mem)} (F : FX γ p s m args meth c cX4_measure RX4 12) (hr : meth.sig.returnType = (none)) (a0 : Nat) (k21 : (Int64 × Int64 × Int64 × Int64 × Int64 × Int32 × Mem) → Option (Unit × Mem)) (hk21 : ∀ (x21_1 : Int64) (x21_3 : Int64) (x21_5 : Int64) (x21_7 : Int64) (x21_9 : Int64) (x21_11 : Int32) (ν : Mem), k21 (x21_1, x21_3, x21_5, x21_7, x21_9, x21_11, ν) = some X → JJ γ p l e rm_X4_measure s m args below meth c 12 0 0 (QV below γ S X args s 0 0) S ν 21 [(0, .ref (gb γ + a0)), (1, .long x21_1), (3, .long x21_3), (5, .long x21_5), (7, .long x21_7), (9, .long x21_9), (11, .int x21_11)] []) (x : (Int64 × Int64 × Int64 × Int64 × Int64 × Int32 × Mem)) (h : l_X4_measure_21 S a0 k21 x = some X) : JJ γ p l e rm_X4_measure s m args below meth c 12 0 0 (QV below γ S X args s 0 0) S x.2.2.2.2.2.2 21 [(0, .ref (gb γ + a0)), (1, .long x.1), (3, .long x.2.1), (5, .long x.2.2.1), (7, .long x.2.2.2.1), (9, .long x.2.2.2.2.1), (11, .int x.2.2.2.2.2.1)] [] := by
  unfold l_X4_measure_21 at h
  refine j_iload F 6 dX4_measure_21 rfl ?_
  refine j_iconst F 4 dX4_measure_23 (by decide) ?_
  refine j_icmpge F 148 dX4_measure_24 (by decide) h (fun _ h => ?_) (fun _ h => ?_)
  · refine j_lv [(0, .ref (gb γ + a0)), (1, .long x.1), (3, .long x.2.1), (5, .long x.2.2.1), (7, .long x.2.2.2.1), (9, .long x.2.2.2.2.1)] [0, 1, 2, 3, 4, 5] rfl ?_
    exact s_X4_measure_148 F hr _ _ _ _ _ _ _ h
  · refine j_aload_n F 0 dX4_measure_27 rfl ?_
    refine j_aload_n F 0 dX4_measure_28 rfl ?_
    refine j_gI F fl_RX4_30.l rfl dX4_measure_29 h (fun v12 h => ?_)
    refine j_ifeq F 50 dX4_measure_32 (by decide) h (fun _ h => ?_) (fun _ h => ?_)
    · exact s_X4_measure_50 F hr _ _ _ _ _ _ _ _ hk21 _ _ h
    · refine j_aload_n F 0 dX4_measure_35 rfl ?_
      refine j_iload F 6 dX4_measure_36 rfl ?_
      refine j_cVJ F mi_X4_span w_100 (rest := [.ref (gb γ + a0)]) h (fun _ g => c_X4_span g) rfl rfl (Nat.le_of_ble_eq_true rfl) ⟨Nat.le_of_ble_eq_true rfl, Nat.le_of_ble_eq_true rfl⟩ ⟨Nat.le_of_ble_eq_true rfl, Nat.le_of_ble_eq_true rfl⟩ dX4_measure_38 (fun q35 h => ?_)
      refine j_lconst F 0 dX4_measure_41 (by decide) ?_
      refine j_lcmple F 50 dX4_measure_42 dX4_measure_43 (by decide) h (fun _ h => ?_) (fun _ h => ?_)
      · exact s_X4_measure_50 F hr _ _ _ _ _ _ _ _ hk21 _ _ h
      · refine j_iconst F 1 dX4_measure_46 (by decide) ?_
        refine j_goto F 51 dX4_measure_47 (by decide) ?_
        exact s_X4_measure_51 F hr _ _ _ _ _ _ _ _ hk21 _ _ _ h
theorem s_X4_measure_21 {γ : GE} {p : Program} {l : Launch} {e : Env} {s : State} {m : MethodId} {args : Array Value} {below : List Frame} {meth : Method} {c : Code} {S : SH} {X : (Unit × Mem)} (F : FX γ p s m args meth c cX4_measure RX4 12) (hr : meth.sig.returnType = (none)) (a0 : Nat) (x21_1 : Int64) (x21_3 : Int64) (x21_5 : Int64) (x21_7 : Int64) (x21_9 : Int64) (x21_11 : Int32) (ν : Mem) (h : lpN (l_X4_measure_21 S a0) fu (x21_1, x21_3, x21_5, x21_7, x21_9, x21_11, ν) = some X) : JJ γ p l e rm_X4_measure s m args below meth c 12 0 0 (QV below γ S X args s 0 0) S ν 21 [(0, .ref (gb γ + a0)), (1, .long x21_1), (3, .long x21_3), (5, .long x21_5), (7, .long x21_7), (9, .long x21_9), (11, .int x21_11)] [] :=
 lpN_sound (fun x => JJ γ p l e rm_X4_measure s m args below meth c 12 0 0 (QV below γ S X args s 0 0) S x.2.2.2.2.2.2 21 [(0, .ref (gb γ + a0)), (1, .long x.1), (3, .long x.2.1), (5, .long x.2.2.1), (7, .long x.2.2.2.1), (9, .long x.2.2.2.2.1), (11, .int x.2.2.2.2.2.1)] []) (fun k21 hk21 x h => t_X4_measure_21 F hr a0 k21 (fun x21_1 x21_3 x21_5 x21_7 x21_9 x21_11 ν h => hk21 (x21_1, x21_3, x21_5, x21_7, x21_9, x21_11, ν) h) x h) fu (x21_1, x21_3, x21_5, x21_7, x21_9, x21_11, ν) h
def f_X4_measure (S : SH) (a0 : Nat) (μ : Mem) : Option (Unit × Mem) :=
  if isO S 4 a0 = true then
  (pZ S 4 a0 3 1 μ).bind fun ν1 =>
  lpN (l_X4_measure_21 S  a0) fu (0, 0, 0, 0, 0, 0, ν1)
  else none
set_option maxRecDepth 100000 in
set_option maxHeartbeats 4000000 in
theorem c_X4_measure {l : Launch} {γ : GE} {S : SH} {a0 : Nat} {μ : Mem} {X : (Unit × Mem)} (h : f_X4_measure S a0 μ = some X) : isO S 4 a0 = true ∧ Ct l γ yX4_measure cX4_measure 12 (none) rm_X4_measure [.ref (gb γ + a0)] S μ S X.2 none := by
  unfold f_X4_measure at h
  obtain ⟨h0, h⟩ := if_some h
  refine ⟨h0, ?_⟩
  have hJ : ∀ (p : Program) (e : Env) (s : State) (m : MethodId) (args : Array Value) (below : List Frame) (meth : Method) (c : Code), FX γ p s m args meth c cX4_measure RX4 12 → meth.sig.returnType = (none) → JJ γ p l e rm_X4_measure s m args below meth c 12 0 0 (QV below γ S X args s 0 0) S μ 0 [(0, .ref (gb γ + a0))] [] := by
    intro p e s m args below meth c F hr
    refine j_aload_n F 0 dX4_measure_0 rfl ?_
    refine j_iconst F 1 dX4_measure_1 (by decide) ?_
    refine j_pZ F fl_RX4_30 rfl dX4_measure_2 h (fun ν1 h => ?_)
    refine j_lconst F 0 dX4_measure_5 (by decide) ?_
    refine j_lstore_n F [(1, .long 0), (0, .ref (gb γ + a0))] dX4_measure_6 rfl (by decide) rfl ?_
    refine j_lconst F 0 dX4_measure_7 (by decide) ?_
    refine j_lstore_n F [(3, .long 0), (1, .long 0), (0, .ref (gb γ + a0))] dX4_measure_8 rfl (by decide) rfl ?_
    refine j_lconst F 0 dX4_measure_9 (by decide) ?_
    refine j_lstore F [(5, .long 0), (3, .long 0), (1, .long 0), (0, .ref (gb γ + a0))] dX4_measure_10 (by decide) rfl ?_
    refine j_lconst F 0 dX4_measure_12 (by decide) ?_
    refine j_lstore F [(7, .long 0), (5, .long 0), (3, .long 0), (1, .long 0), (0, .ref (gb γ + a0))] dX4_measure_13 (by decide) rfl ?_
    refine j_lconst F 0 dX4_measure_15 (by decide) ?_
    refine j_lstore F [(9, .long 0), (7, .long 0), (5, .long 0), (3, .long 0), (1, .long 0), (0, .ref (gb γ + a0))] dX4_measure_16 (by decide) rfl ?_
    refine j_iconst F 0 dX4_measure_18 (by decide) ?_
    refine j_istore F [(11, .int 0), (9, .long 0), (7, .long 0), (5, .long 0), (3, .long 0), (1, .long 0), (0, .ref (gb γ + a0))] dX4_measure_19 (by decide) rfl ?_
    refine j_lv [(0, .ref (gb γ + a0)), (1, .long 0), (3, .long 0), (5, .long 0), (7, .long 0), (9, .long 0), (11, .int 0)] [6, 5, 4, 3, 2, 1, 0] rfl ?_
    exact s_X4_measure_21 F hr _ _ _ _ _ _ _ _ h
  exact ct_of (by decide +kernel) (Nat.le_of_ble_eq_true rfl) (fun p e s m args below meth c F hr _ => hJ p e s m args below meth c F hr)
def rm_X4_place : Room := { frames := 3, cells := 0, slots := 0, locals := 74 }
theorem dX4_place_0 : decode cX4_place 0 = .ok (.aload_n 0, 1) := by decide +kernel
theorem dX4_place_1 : decode cX4_place 1 = .ok (.getfield 9, 3) := by decide +kernel
theorem dX4_place_4 : decode cX4_place 4 = .ok (.iload_n 1, 1) := by decide +kernel
theorem dX4_place_5 : decode cX4_place 5 = .ok (.iload_n 2, 1) := by decide +kernel
theorem dX4_place_6 : decode cX4_place 6 = .ok (.iastore, 1) := by decide +kernel
theorem dX4_place_7 : decode cX4_place 7 = .ok (.aload_n 0, 1) := by decide +kernel
theorem dX4_place_8 : decode cX4_place 8 = .ok (.getfield 15, 3) := by decide +kernel
theorem dX4_place_11 : decode cX4_place 11 = .ok (.iload_n 1, 1) := by decide +kernel
theorem dX4_place_12 : decode cX4_place 12 = .ok (.iload_n 3, 1) := by decide +kernel
theorem dX4_place_13 : decode cX4_place 13 = .ok (.iastore, 1) := by decide +kernel
theorem dX4_place_14 : decode cX4_place 14 = .ok (.aload_n 0, 1) := by decide +kernel
theorem dX4_place_15 : decode cX4_place 15 = .ok (.getfield 18, 3) := by decide +kernel
theorem dX4_place_18 : decode cX4_place 18 = .ok (.iload_n 1, 1) := by decide +kernel
theorem dX4_place_19 : decode cX4_place 19 = .ok (.iload 4, 2) := by decide +kernel
theorem dX4_place_21 : decode cX4_place 21 = .ok (.iastore, 1) := by decide +kernel
theorem dX4_place_22 : decode cX4_place 22 = .ok (.aload_n 0, 1) := by decide +kernel
theorem dX4_place_23 : decode cX4_place 23 = .ok (.invokevirtual 21, 3) := by decide +kernel
theorem dX4_place_26 : decode cX4_place 26 = .ok (.return_, 1) := by decide +kernel
def f_X4_place (S : SH) (a0 : Nat) (a1 : Int32) (a2 : Int32) (a3 : Int32) (a4 : Int32) (μ : Mem) : Option (Unit × Mem) :=
  if isO S 4 a0 = true then
  (gR S 4 a0 0).bind fun v1 =>
  (sI S v1 a1 a2 μ).bind fun ν2 =>
  (gR S 4 a0 1).bind fun v3 =>
  (sI S v3 a1 a3 ν2).bind fun ν4 =>
  (gR S 4 a0 2).bind fun v5 =>
  (sI S v5 a1 a4 ν4).bind fun ν6 =>
  (f_X4_measure S a0 ν6).bind fun q7 =>
  some ((), q7.2)
  else none
set_option maxRecDepth 100000 in
set_option maxHeartbeats 4000000 in
theorem c_X4_place {l : Launch} {γ : GE} {S : SH} {a0 : Nat} {a1 : Int32} {a2 : Int32} {a3 : Int32} {a4 : Int32} {μ : Mem} {X : (Unit × Mem)} (h : f_X4_place S a0 a1 a2 a3 a4 μ = some X) : isO S 4 a0 = true ∧ Ct l γ yX4_place cX4_place 5 (none) rm_X4_place [.ref (gb γ + a0), .int a1, .int a2, .int a3, .int a4] S μ S X.2 none := by
  unfold f_X4_place at h
  obtain ⟨h0, h⟩ := if_some h
  refine ⟨h0, ?_⟩
  have hJ : ∀ (p : Program) (e : Env) (s : State) (m : MethodId) (args : Array Value) (below : List Frame) (meth : Method) (c : Code), FX γ p s m args meth c cX4_place RX4 5 → meth.sig.returnType = (none) → JJ γ p l e rm_X4_place s m args below meth c 5 0 0 (QV below γ S X args s 0 0) S μ 0 [(0, .ref (gb γ + a0)), (1, .int a1), (2, .int a2), (3, .int a3), (4, .int a4)] [] := by
    intro p e s m args below meth c F hr
    refine j_aload_n F 0 dX4_place_0 rfl ?_
    refine j_gR F fl_RX4_9 rfl dX4_place_1 h (fun v1 h => ?_)
    refine j_iload_n F 1 dX4_place_4 rfl ?_
    refine j_iload_n F 2 dX4_place_5 rfl ?_
    refine j_iast F dX4_place_6 h (fun ν2 h => ?_)
    refine j_aload_n F 0 dX4_place_7 rfl ?_
    refine j_gR F fl_RX4_15 rfl dX4_place_8 h (fun v3 h => ?_)
    refine j_iload_n F 1 dX4_place_11 rfl ?_
    refine j_iload_n F 3 dX4_place_12 rfl ?_
    refine j_iast F dX4_place_13 h (fun ν4 h => ?_)
    refine j_aload_n F 0 dX4_place_14 rfl ?_
    refine j_gR F fl_RX4_18 rfl dX4_place_15 h (fun v5 h => ?_)
    refine j_iload_n F 1 dX4_place_18 rfl ?_
    refine j_iload F 4 dX4_place_19 rfl ?_
    refine j_iast F dX4_place_21 h (fun ν6 h => ?_)
    refine j_aload_n F 0 dX4_place_22 rfl ?_
    refine j_cVV F mi_X4_measure w_96 (rest := []) h (fun _ g => c_X4_measure g) rfl rfl (Nat.le_of_ble_eq_true rfl) ⟨Nat.le_of_ble_eq_true rfl, Nat.le_of_ble_eq_true rfl⟩ ⟨Nat.le_of_ble_eq_true rfl, Nat.le_of_ble_eq_true rfl⟩ dX4_place_23 (fun q7 h => ?_)
    exact j_vret F hr dX4_place_26 h
  exact ct_of (by decide +kernel) (Nat.le_of_ble_eq_true rfl) (fun p e s m args below meth c F hr _ => hJ p e s m args below meth c F hr)
def rm_X5_has : Room := { frames := 0, cells := 0, slots := 0, locals := 0 }
theorem dX5_has_0 : decode cX5_has 0 = .ok (.iload_n 1, 1) := by decide +kernel
theorem dX5_has_1 : decode cX5_has 1 = .ok (.ifCond .lt 15, 3) := by decide +kernel
theorem dX5_has_4 : decode cX5_has 4 = .ok (.iload_n 1, 1) := by decide +kernel
theorem dX5_has_5 : decode cX5_has 5 = .ok (.aload_n 0, 1) := by decide +kernel
theorem dX5_has_6 : decode cX5_has 6 = .ok (.getfield 25, 3) := by decide +kernel
theorem dX5_has_9 : decode cX5_has 9 = .ok (.if_icmp .ge 7, 3) := by decide +kernel
theorem dX5_has_12 : decode cX5_has 12 = .ok (.iconst 1, 1) := by decide +kernel
theorem dX5_has_13 : decode cX5_has 13 = .ok (.goto 4, 3) := by decide +kernel
theorem dX5_has_16 : decode cX5_has 16 = .ok (.iconst 0, 1) := by decide +kernel
theorem dX5_has_17 : decode cX5_has 17 = .ok (.ireturn, 1) := by decide +kernel
def f_X5_has (S : SH) (a0 : Nat) (a1 : Int32) (μ : Mem) : Option (Int32 × Mem) :=
  if isO S 5 a0 = true then
  (if a1 < 0 then
  some (0, μ)
  else
  (gI S 5 a0 4 μ).bind fun v1 =>
  (if v1 ≤ a1 then
  some (0, μ)
  else
  some (1, μ)))
  else none
set_option maxRecDepth 100000 in
set_option maxHeartbeats 4000000 in
theorem c_X5_has {l : Launch} {γ : GE} {S : SH} {a0 : Nat} {a1 : Int32} {μ : Mem} {X : (Int32 × Mem)} (h : f_X5_has S a0 a1 μ = some X) : isO S 5 a0 = true ∧ Ct l γ yX5_has cX5_has 2 (some .boolean) rm_X5_has [.ref (gb γ + a0), .int a1] S μ S X.2 (some (.int X.1)) := by
  unfold f_X5_has at h
  obtain ⟨h0, h⟩ := if_some h
  refine ⟨h0, ?_⟩
  have hJ : ∀ (p : Program) (e : Env) (s : State) (m : MethodId) (args : Array Value) (below : List Frame) (meth : Method) (c : Code), FX γ p s m args meth c cX5_has RX5 2 → meth.sig.returnType = (some .boolean) → JJ γ p l e rm_X5_has s m args below meth c 2 0 0 (QI below γ S X args s 0 0) S μ 0 [(0, .ref (gb γ + a0)), (1, .int a1)] [] := by
    intro p e s m args below meth c F hr
    refine j_iload_n F 1 dX5_has_0 rfl ?_
    refine j_iflt F 16 dX5_has_1 (by decide) h (fun _ h => ?_) (fun _ h => ?_)
    · refine j_iconst F 0 dX5_has_16 (by decide) ?_
      exact j_zret F hr (Or.inl rfl) dX5_has_17 h
    · refine j_iload_n F 1 dX5_has_4 rfl ?_
      refine j_aload_n F 0 dX5_has_5 rfl ?_
      refine j_gI F fl_RX5_25.l rfl dX5_has_6 h (fun v1 h => ?_)
      refine j_icmpge F 16 dX5_has_9 (by decide) h (fun _ h => ?_) (fun _ h => ?_)
      · refine j_iconst F 0 dX5_has_16 (by decide) ?_
        exact j_zret F hr (Or.inl rfl) dX5_has_17 h
      · refine j_iconst F 1 dX5_has_12 (by decide) ?_
        refine j_goto F 17 dX5_has_13 (by decide) ?_
        exact j_zret F hr (Or.inr rfl) dX5_has_17 h
  exact ct_of (by decide +kernel) (Nat.le_of_ble_eq_true rfl) (fun p e s m args below meth c F hr _ => hJ p e s m args below meth c F hr)
def rm_X5_reweigh : Room := { frames := 0, cells := 0, slots := 0, locals := 0 }
theorem dX5_reweigh_0 : decode cX5_reweigh 0 = .ok (.iload_n 2, 1) := by decide +kernel
theorem dX5_reweigh_1 : decode cX5_reweigh 1 = .ok (.aload_n 0, 1) := by decide +kernel
theorem dX5_reweigh_2 : decode cX5_reweigh 2 = .ok (.getfield 9, 3) := by decide +kernel
theorem dX5_reweigh_5 : decode cX5_reweigh 5 = .ok (.iload_n 1, 1) := by decide +kernel
theorem dX5_reweigh_6 : decode cX5_reweigh 6 = .ok (.iaload, 1) := by decide +kernel
theorem dX5_reweigh_7 : decode cX5_reweigh 7 = .ok (.isub, 1) := by decide +kernel
theorem dX5_reweigh_8 : decode cX5_reweigh 8 = .ok (.istore_n 3, 1) := by decide +kernel
theorem dX5_reweigh_9 : decode cX5_reweigh 9 = .ok (.aload_n 0, 1) := by decide +kernel
theorem dX5_reweigh_10 : decode cX5_reweigh 10 = .ok (.getfield 9, 3) := by decide +kernel
theorem dX5_reweigh_13 : decode cX5_reweigh 13 = .ok (.iload_n 1, 1) := by decide +kernel
theorem dX5_reweigh_14 : decode cX5_reweigh 14 = .ok (.iload_n 2, 1) := by decide +kernel
theorem dX5_reweigh_15 : decode cX5_reweigh 15 = .ok (.iastore, 1) := by decide +kernel
theorem dX5_reweigh_16 : decode cX5_reweigh 16 = .ok (.aload_n 0, 1) := by decide +kernel
theorem dX5_reweigh_17 : decode cX5_reweigh 17 = .ok (.dup, 1) := by decide +kernel
theorem dX5_reweigh_18 : decode cX5_reweigh 18 = .ok (.getfield 33, 3) := by decide +kernel
theorem dX5_reweigh_21 : decode cX5_reweigh 21 = .ok (.iload_n 3, 1) := by decide +kernel
theorem dX5_reweigh_22 : decode cX5_reweigh 22 = .ok (.iadd, 1) := by decide +kernel
theorem dX5_reweigh_23 : decode cX5_reweigh 23 = .ok (.putfield 33, 3) := by decide +kernel
theorem dX5_reweigh_26 : decode cX5_reweigh 26 = .ok (.aload_n 0, 1) := by decide +kernel
theorem dX5_reweigh_27 : decode cX5_reweigh 27 = .ok (.getfield 21, 3) := by decide +kernel
theorem dX5_reweigh_30 : decode cX5_reweigh 30 = .ok (.iload_n 1, 1) := by decide +kernel
theorem dX5_reweigh_31 : decode cX5_reweigh 31 = .ok (.baload, 1) := by decide +kernel
theorem dX5_reweigh_32 : decode cX5_reweigh 32 = .ok (.ifCond .eq 40, 3) := by decide +kernel
theorem dX5_reweigh_35 : decode cX5_reweigh 35 = .ok (.aload_n 0, 1) := by decide +kernel
theorem dX5_reweigh_36 : decode cX5_reweigh 36 = .ok (.dup, 1) := by decide +kernel
theorem dX5_reweigh_37 : decode cX5_reweigh 37 = .ok (.getfield 36, 3) := by decide +kernel
theorem dX5_reweigh_40 : decode cX5_reweigh 40 = .ok (.iload_n 3, 1) := by decide +kernel
theorem dX5_reweigh_41 : decode cX5_reweigh 41 = .ok (.aload_n 0, 1) := by decide +kernel
theorem dX5_reweigh_42 : decode cX5_reweigh 42 = .ok (.getfield 15, 3) := by decide +kernel
theorem dX5_reweigh_45 : decode cX5_reweigh 45 = .ok (.iload_n 1, 1) := by decide +kernel
theorem dX5_reweigh_46 : decode cX5_reweigh 46 = .ok (.iaload, 1) := by decide +kernel
theorem dX5_reweigh_47 : decode cX5_reweigh 47 = .ok (.imul, 1) := by decide +kernel
theorem dX5_reweigh_48 : decode cX5_reweigh 48 = .ok (.iadd, 1) := by decide +kernel
theorem dX5_reweigh_49 : decode cX5_reweigh 49 = .ok (.putfield 36, 3) := by decide +kernel
theorem dX5_reweigh_52 : decode cX5_reweigh 52 = .ok (.aload_n 0, 1) := by decide +kernel
theorem dX5_reweigh_53 : decode cX5_reweigh 53 = .ok (.dup, 1) := by decide +kernel
theorem dX5_reweigh_54 : decode cX5_reweigh 54 = .ok (.getfield 39, 3) := by decide +kernel
theorem dX5_reweigh_57 : decode cX5_reweigh 57 = .ok (.iload_n 3, 1) := by decide +kernel
theorem dX5_reweigh_58 : decode cX5_reweigh 58 = .ok (.aload_n 0, 1) := by decide +kernel
theorem dX5_reweigh_59 : decode cX5_reweigh 59 = .ok (.getfield 18, 3) := by decide +kernel
theorem dX5_reweigh_62 : decode cX5_reweigh 62 = .ok (.iload_n 1, 1) := by decide +kernel
theorem dX5_reweigh_63 : decode cX5_reweigh 63 = .ok (.iaload, 1) := by decide +kernel
theorem dX5_reweigh_64 : decode cX5_reweigh 64 = .ok (.imul, 1) := by decide +kernel
theorem dX5_reweigh_65 : decode cX5_reweigh 65 = .ok (.iadd, 1) := by decide +kernel
theorem dX5_reweigh_66 : decode cX5_reweigh 66 = .ok (.putfield 39, 3) := by decide +kernel
theorem dX5_reweigh_69 : decode cX5_reweigh 69 = .ok (.goto 37, 3) := by decide +kernel
theorem dX5_reweigh_72 : decode cX5_reweigh 72 = .ok (.aload_n 0, 1) := by decide +kernel
theorem dX5_reweigh_73 : decode cX5_reweigh 73 = .ok (.dup, 1) := by decide +kernel
theorem dX5_reweigh_74 : decode cX5_reweigh 74 = .ok (.getfield 42, 3) := by decide +kernel
theorem dX5_reweigh_77 : decode cX5_reweigh 77 = .ok (.iload_n 3, 1) := by decide +kernel
theorem dX5_reweigh_78 : decode cX5_reweigh 78 = .ok (.aload_n 0, 1) := by decide +kernel
theorem dX5_reweigh_79 : decode cX5_reweigh 79 = .ok (.getfield 15, 3) := by decide +kernel
theorem dX5_reweigh_82 : decode cX5_reweigh 82 = .ok (.iload_n 1, 1) := by decide +kernel
theorem dX5_reweigh_83 : decode cX5_reweigh 83 = .ok (.iaload, 1) := by decide +kernel
theorem dX5_reweigh_84 : decode cX5_reweigh 84 = .ok (.imul, 1) := by decide +kernel
theorem dX5_reweigh_85 : decode cX5_reweigh 85 = .ok (.iadd, 1) := by decide +kernel
theorem dX5_reweigh_86 : decode cX5_reweigh 86 = .ok (.putfield 42, 3) := by decide +kernel
theorem dX5_reweigh_89 : decode cX5_reweigh 89 = .ok (.aload_n 0, 1) := by decide +kernel
theorem dX5_reweigh_90 : decode cX5_reweigh 90 = .ok (.dup, 1) := by decide +kernel
theorem dX5_reweigh_91 : decode cX5_reweigh 91 = .ok (.getfield 45, 3) := by decide +kernel
theorem dX5_reweigh_94 : decode cX5_reweigh 94 = .ok (.iload_n 3, 1) := by decide +kernel
theorem dX5_reweigh_95 : decode cX5_reweigh 95 = .ok (.aload_n 0, 1) := by decide +kernel
theorem dX5_reweigh_96 : decode cX5_reweigh 96 = .ok (.getfield 18, 3) := by decide +kernel
theorem dX5_reweigh_99 : decode cX5_reweigh 99 = .ok (.iload_n 1, 1) := by decide +kernel
theorem dX5_reweigh_100 : decode cX5_reweigh 100 = .ok (.iaload, 1) := by decide +kernel
theorem dX5_reweigh_101 : decode cX5_reweigh 101 = .ok (.imul, 1) := by decide +kernel
theorem dX5_reweigh_102 : decode cX5_reweigh 102 = .ok (.iadd, 1) := by decide +kernel
theorem dX5_reweigh_103 : decode cX5_reweigh 103 = .ok (.putfield 45, 3) := by decide +kernel
theorem dX5_reweigh_106 : decode cX5_reweigh 106 = .ok (.return_, 1) := by decide +kernel
def f_X5_reweigh (S : SH) (a0 : Nat) (a1 : Int32) (a2 : Int32) (μ : Mem) : Option (Unit × Mem) :=
  if isO S 5 a0 = true then
  (gR S 5 a0 0).bind fun v1 =>
  (aI S .int v1 a1 μ).bind fun v2 =>
  (some (a2 - v2)).bind fun y3 =>
  (gR S 5 a0 0).bind fun v4 =>
  (sI S v4 a1 a2 μ).bind fun ν5 =>
  (gI S 5 a0 5 ν5).bind fun v6 =>
  (pI S 5 a0 5 (v6 + y3) ν5).bind fun ν7 =>
  (gR S 5 a0 3).bind fun v8 =>
  (aI S .boolean v8 a1 ν7).bind fun v9 =>
  (if v9 = 0 then
  (gI S 5 a0 6 ν7).bind fun v10 =>
  (gR S 5 a0 1).bind fun v11 =>
  (aI S .int v11 a1 ν7).bind fun v12 =>
  (pI S 5 a0 6 (v10 + (y3 * v12)) ν7).bind fun ν13 =>
  (gI S 5 a0 7 ν13).bind fun v14 =>
  (gR S 5 a0 2).bind fun v15 =>
  (aI S .int v15 a1 ν13).bind fun v16 =>
  (pI S 5 a0 7 (v14 + (y3 * v16)) ν13).bind fun ν17 =>
  some ((), ν17)
  else
  (gI S 5 a0 8 ν7).bind fun v18 =>
  (gR S 5 a0 1).bind fun v19 =>
  (aI S .int v19 a1 ν7).bind fun v20 =>
  (pI S 5 a0 8 (v18 + (y3 * v20)) ν7).bind fun ν21 =>
  (gI S 5 a0 9 ν21).bind fun v22 =>
  (gR S 5 a0 2).bind fun v23 =>
  (aI S .int v23 a1 ν21).bind fun v24 =>
  (pI S 5 a0 9 (v22 + (y3 * v24)) ν21).bind fun ν25 =>
  some ((), ν25))
  else none
set_option maxRecDepth 100000 in
set_option maxHeartbeats 4000000 in
theorem c_X5_reweigh {l : Launch} {γ : GE} {S : SH} {a0 : Nat} {a1 : Int32} {a2 : Int32} {μ : Mem} {X : (Unit × Mem)} (h : f_X5_reweigh S a0 a1 a2 μ = some X) : isO S 5 a0 = true ∧ Ct l γ yX5_reweigh cX5_reweigh 4 (none) rm_X5_reweigh [.ref (gb γ + a0), .int a1, .int a2] S μ S X.2 none := by
  unfold f_X5_reweigh at h
  obtain ⟨h0, h⟩ := if_some h
  refine ⟨h0, ?_⟩
  have hJ : ∀ (p : Program) (e : Env) (s : State) (m : MethodId) (args : Array Value) (below : List Frame) (meth : Method) (c : Code), FX γ p s m args meth c cX5_reweigh RX5 4 → meth.sig.returnType = (none) → JJ γ p l e rm_X5_reweigh s m args below meth c 4 0 0 (QV below γ S X args s 0 0) S μ 0 [(0, .ref (gb γ + a0)), (1, .int a1), (2, .int a2)] [] := by
    intro p e s m args below meth c F hr
    refine j_iload_n F 2 dX5_reweigh_0 rfl ?_
    refine j_aload_n F 0 dX5_reweigh_1 rfl ?_
    refine j_gR F fl_RX5_9 rfl dX5_reweigh_2 h (fun v1 h => ?_)
    refine j_iload_n F 1 dX5_reweigh_5 rfl ?_
    refine j_iald F dX5_reweigh_6 h (fun v2 h => ?_)
    refine j_isub F dX5_reweigh_7 ?_
    refine j_nmI h (fun y3 h => ?_)
    refine j_istore_n F [(3, .int y3), (0, .ref (gb γ + a0)), (1, .int a1), (2, .int a2)] dX5_reweigh_8 rfl (by decide) rfl ?_
    refine j_aload_n F 1 dX5_reweigh_9 rfl ?_
    refine j_gR F fl_RX5_9 rfl dX5_reweigh_10 h (fun v4 h => ?_)
    refine j_iload_n F 2 dX5_reweigh_13 rfl ?_
    refine j_iload_n F 3 dX5_reweigh_14 rfl ?_
    refine j_iast F dX5_reweigh_15 h (fun ν5 h => ?_)
    refine j_aload_n F 1 dX5_reweigh_16 rfl ?_
    refine j_dup F dX5_reweigh_17 rfl ?_
    refine j_gI F fl_RX5_33.l rfl dX5_reweigh_18 h (fun v6 h => ?_)
    refine j_iload_n F 0 dX5_reweigh_21 rfl ?_
    refine j_iadd F dX5_reweigh_22 ?_
    refine j_pI F fl_RX5_33 rfl dX5_reweigh_23 h (fun ν7 h => ?_)
    refine j_aload_n F 1 dX5_reweigh_26 rfl ?_
    refine j_gR F fl_RX5_21 rfl dX5_reweigh_27 h (fun v8 h => ?_)
    refine j_iload_n F 2 dX5_reweigh_30 rfl ?_
    refine j_zald F dX5_reweigh_31 h (fun v9 h => ?_)
    refine j_ifeq F 72 dX5_reweigh_32 (by decide) h (fun _ h => ?_) (fun _ h => ?_)
    · refine j_aload_n F 1 dX5_reweigh_72 rfl ?_
      refine j_dup F dX5_reweigh_73 rfl ?_
      refine j_gI F fl_RX5_42.l rfl dX5_reweigh_74 h (fun v10 h => ?_)
      refine j_iload_n F 0 dX5_reweigh_77 rfl ?_
      refine j_aload_n F 1 dX5_reweigh_78 rfl ?_
      refine j_gR F fl_RX5_15 rfl dX5_reweigh_79 h (fun v11 h => ?_)
      refine j_iload_n F 2 dX5_reweigh_82 rfl ?_
      refine j_iald F dX5_reweigh_83 h (fun v12 h => ?_)
      refine j_imul F dX5_reweigh_84 ?_
      refine j_iadd F dX5_reweigh_85 ?_
      refine j_pI F fl_RX5_42 rfl dX5_reweigh_86 h (fun ν13 h => ?_)
      refine j_aload_n F 1 dX5_reweigh_89 rfl ?_
      refine j_dup F dX5_reweigh_90 rfl ?_
      refine j_gI F fl_RX5_45.l rfl dX5_reweigh_91 h (fun v14 h => ?_)
      refine j_iload_n F 0 dX5_reweigh_94 rfl ?_
      refine j_aload_n F 1 dX5_reweigh_95 rfl ?_
      refine j_gR F fl_RX5_18 rfl dX5_reweigh_96 h (fun v15 h => ?_)
      refine j_iload_n F 2 dX5_reweigh_99 rfl ?_
      refine j_iald F dX5_reweigh_100 h (fun v16 h => ?_)
      refine j_imul F dX5_reweigh_101 ?_
      refine j_iadd F dX5_reweigh_102 ?_
      refine j_pI F fl_RX5_45 rfl dX5_reweigh_103 h (fun ν17 h => ?_)
      exact j_vret F hr dX5_reweigh_106 h
    · refine j_aload_n F 1 dX5_reweigh_35 rfl ?_
      refine j_dup F dX5_reweigh_36 rfl ?_
      refine j_gI F fl_RX5_36.l rfl dX5_reweigh_37 h (fun v18 h => ?_)
      refine j_iload_n F 0 dX5_reweigh_40 rfl ?_
      refine j_aload_n F 1 dX5_reweigh_41 rfl ?_
      refine j_gR F fl_RX5_15 rfl dX5_reweigh_42 h (fun v19 h => ?_)
      refine j_iload_n F 2 dX5_reweigh_45 rfl ?_
      refine j_iald F dX5_reweigh_46 h (fun v20 h => ?_)
      refine j_imul F dX5_reweigh_47 ?_
      refine j_iadd F dX5_reweigh_48 ?_
      refine j_pI F fl_RX5_36 rfl dX5_reweigh_49 h (fun ν21 h => ?_)
      refine j_aload_n F 1 dX5_reweigh_52 rfl ?_
      refine j_dup F dX5_reweigh_53 rfl ?_
      refine j_gI F fl_RX5_39.l rfl dX5_reweigh_54 h (fun v22 h => ?_)
      refine j_iload_n F 0 dX5_reweigh_57 rfl ?_
      refine j_aload_n F 1 dX5_reweigh_58 rfl ?_
      refine j_gR F fl_RX5_18 rfl dX5_reweigh_59 h (fun v23 h => ?_)
      refine j_iload_n F 2 dX5_reweigh_62 rfl ?_
      refine j_iald F dX5_reweigh_63 h (fun v24 h => ?_)
      refine j_imul F dX5_reweigh_64 ?_
      refine j_iadd F dX5_reweigh_65 ?_
      refine j_pI F fl_RX5_39 rfl dX5_reweigh_66 h (fun ν25 h => ?_)
      refine j_goto F 106 dX5_reweigh_69 (by decide) ?_
      exact j_vret F hr dX5_reweigh_106 h
  exact ct_of (by decide +kernel) (Nat.le_of_ble_eq_true rfl) (fun p e s m args below meth c F hr _ => hJ p e s m args below meth c F hr)
def rm_X5_append : Room := { frames := 1, cells := 0, slots := 0, locals := 23 }
theorem dX5_append_0 : decode cX5_append 0 = .ok (.aload_n 0, 1) := by decide +kernel
theorem dX5_append_1 : decode cX5_append 1 = .ok (.getfield 25, 3) := by decide +kernel
theorem dX5_append_4 : decode cX5_append 4 = .ok (.istore 5, 2) := by decide +kernel
theorem dX5_append_6 : decode cX5_append 6 = .ok (.aload_n 0, 1) := by decide +kernel
theorem dX5_append_7 : decode cX5_append 7 = .ok (.getfield 9, 3) := by decide +kernel
theorem dX5_append_10 : decode cX5_append 10 = .ok (.iload 5, 2) := by decide +kernel
theorem dX5_append_12 : decode cX5_append 12 = .ok (.iconst 0, 1) := by decide +kernel
theorem dX5_append_13 : decode cX5_append 13 = .ok (.iastore, 1) := by decide +kernel
theorem dX5_append_14 : decode cX5_append 14 = .ok (.aload_n 0, 1) := by decide +kernel
theorem dX5_append_15 : decode cX5_append 15 = .ok (.getfield 15, 3) := by decide +kernel
theorem dX5_append_18 : decode cX5_append 18 = .ok (.iload 5, 2) := by decide +kernel
theorem dX5_append_20 : decode cX5_append 20 = .ok (.iload_n 2, 1) := by decide +kernel
theorem dX5_append_21 : decode cX5_append 21 = .ok (.iastore, 1) := by decide +kernel
theorem dX5_append_22 : decode cX5_append 22 = .ok (.aload_n 0, 1) := by decide +kernel
theorem dX5_append_23 : decode cX5_append 23 = .ok (.getfield 18, 3) := by decide +kernel
theorem dX5_append_26 : decode cX5_append 26 = .ok (.iload 5, 2) := by decide +kernel
theorem dX5_append_28 : decode cX5_append 28 = .ok (.iload_n 3, 1) := by decide +kernel
theorem dX5_append_29 : decode cX5_append 29 = .ok (.iastore, 1) := by decide +kernel
theorem dX5_append_30 : decode cX5_append 30 = .ok (.aload_n 0, 1) := by decide +kernel
theorem dX5_append_31 : decode cX5_append 31 = .ok (.getfield 21, 3) := by decide +kernel
theorem dX5_append_34 : decode cX5_append 34 = .ok (.iload 5, 2) := by decide +kernel
theorem dX5_append_36 : decode cX5_append 36 = .ok (.iload 4, 2) := by decide +kernel
theorem dX5_append_38 : decode cX5_append 38 = .ok (.bastore, 1) := by decide +kernel
theorem dX5_append_39 : decode cX5_append 39 = .ok (.aload_n 0, 1) := by decide +kernel
theorem dX5_append_40 : decode cX5_append 40 = .ok (.dup, 1) := by decide +kernel
theorem dX5_append_41 : decode cX5_append 41 = .ok (.getfield 25, 3) := by decide +kernel
theorem dX5_append_44 : decode cX5_append 44 = .ok (.iconst 1, 1) := by decide +kernel
theorem dX5_append_45 : decode cX5_append 45 = .ok (.iadd, 1) := by decide +kernel
theorem dX5_append_46 : decode cX5_append 46 = .ok (.putfield 25, 3) := by decide +kernel
theorem dX5_append_49 : decode cX5_append 49 = .ok (.aload_n 0, 1) := by decide +kernel
theorem dX5_append_50 : decode cX5_append 50 = .ok (.iload 5, 2) := by decide +kernel
theorem dX5_append_52 : decode cX5_append 52 = .ok (.iload_n 1, 1) := by decide +kernel
theorem dX5_append_53 : decode cX5_append 53 = .ok (.invokevirtual 29, 3) := by decide +kernel
theorem dX5_append_56 : decode cX5_append 56 = .ok (.iload 5, 2) := by decide +kernel
theorem dX5_append_58 : decode cX5_append 58 = .ok (.ireturn, 1) := by decide +kernel
def f_X5_append (S : SH) (a0 : Nat) (a1 : Int32) (a2 : Int32) (a3 : Int32) (a4 : Int32) (μ : Mem) : Option (Int32 × Mem) :=
  if isO S 5 a0 = true then
  (gI S 5 a0 4 μ).bind fun v1 =>
  (gR S 5 a0 0).bind fun v2 =>
  (sI S v2 v1 0 μ).bind fun ν3 =>
  (gR S 5 a0 1).bind fun v4 =>
  (sI S v4 v1 a2 ν3).bind fun ν5 =>
  (gR S 5 a0 2).bind fun v6 =>
  (sI S v6 v1 a3 ν5).bind fun ν7 =>
  (gR S 5 a0 3).bind fun v8 =>
  (sZ S v8 v1 a4 ν7).bind fun ν9 =>
  (gI S 5 a0 4 ν9).bind fun v10 =>
  (pI S 5 a0 4 (v10 + 1) ν9).bind fun ν11 =>
  (f_X5_reweigh S a0 v1 a1 ν11).bind fun q12 =>
  some (v1, q12.2)
  else none
set_option maxRecDepth 100000 in
set_option maxHeartbeats 4000000 in
theorem c_X5_append {l : Launch} {γ : GE} {S : SH} {a0 : Nat} {a1 : Int32} {a2 : Int32} {a3 : Int32} {a4 : Int32} {μ : Mem} {X : (Int32 × Mem)} (h : f_X5_append S a0 a1 a2 a3 a4 μ = some X) : isO S 5 a0 = true ∧ Ct l γ yX5_append cX5_append 6 (some .int) rm_X5_append [.ref (gb γ + a0), .int a1, .int a2, .int a3, .int a4] S μ S X.2 (some (.int X.1)) := by
  unfold f_X5_append at h
  obtain ⟨h0, h⟩ := if_some h
  refine ⟨h0, ?_⟩
  have hJ : ∀ (p : Program) (e : Env) (s : State) (m : MethodId) (args : Array Value) (below : List Frame) (meth : Method) (c : Code), FX γ p s m args meth c cX5_append RX5 6 → meth.sig.returnType = (some .int) → JJ γ p l e rm_X5_append s m args below meth c 6 0 0 (QI below γ S X args s 0 0) S μ 0 [(0, .ref (gb γ + a0)), (1, .int a1), (2, .int a2), (3, .int a3), (4, .int a4)] [] := by
    intro p e s m args below meth c F hr
    refine j_aload_n F 0 dX5_append_0 rfl ?_
    refine j_gI F fl_RX5_25.l rfl dX5_append_1 h (fun v1 h => ?_)
    refine j_istore F [(5, .int v1), (0, .ref (gb γ + a0)), (1, .int a1), (2, .int a2), (3, .int a3), (4, .int a4)] dX5_append_4 (by decide) rfl ?_
    refine j_aload_n F 1 dX5_append_6 rfl ?_
    refine j_gR F fl_RX5_9 rfl dX5_append_7 h (fun v2 h => ?_)
    refine j_iload F 0 dX5_append_10 rfl ?_
    refine j_iconst F 0 dX5_append_12 (by decide) ?_
    refine j_iast F dX5_append_13 h (fun ν3 h => ?_)
    refine j_aload_n F 1 dX5_append_14 rfl ?_
    refine j_gR F fl_RX5_15 rfl dX5_append_15 h (fun v4 h => ?_)
    refine j_iload F 0 dX5_append_18 rfl ?_
    refine j_iload_n F 3 dX5_append_20 rfl ?_
    refine j_iast F dX5_append_21 h (fun ν5 h => ?_)
    refine j_aload_n F 1 dX5_append_22 rfl ?_
    refine j_gR F fl_RX5_18 rfl dX5_append_23 h (fun v6 h => ?_)
    refine j_iload F 0 dX5_append_26 rfl ?_
    refine j_iload_n F 4 dX5_append_28 rfl ?_
    refine j_iast F dX5_append_29 h (fun ν7 h => ?_)
    refine j_aload_n F 1 dX5_append_30 rfl ?_
    refine j_gR F fl_RX5_21 rfl dX5_append_31 h (fun v8 h => ?_)
    refine j_iload F 0 dX5_append_34 rfl ?_
    refine j_iload F 5 dX5_append_36 rfl ?_
    refine j_zast F dX5_append_38 h (fun ν9 h => ?_)
    refine j_aload_n F 1 dX5_append_39 rfl ?_
    refine j_dup F dX5_append_40 rfl ?_
    refine j_gI F fl_RX5_25.l rfl dX5_append_41 h (fun v10 h => ?_)
    refine j_iconst F 1 dX5_append_44 (by decide) ?_
    refine j_iadd F dX5_append_45 ?_
    refine j_pI F fl_RX5_25 rfl dX5_append_46 h (fun ν11 h => ?_)
    refine j_aload_n F 1 dX5_append_49 rfl ?_
    refine j_iload F 0 dX5_append_50 rfl ?_
    refine j_iload_n F 2 dX5_append_52 rfl ?_
    refine j_cVV F mi_X5_reweigh w_482 (rest := []) h (fun _ g => c_X5_reweigh g) rfl rfl (Nat.le_of_ble_eq_true rfl) ⟨Nat.le_of_ble_eq_true rfl, Nat.le_of_ble_eq_true rfl⟩ ⟨Nat.le_of_ble_eq_true rfl, Nat.le_of_ble_eq_true rfl⟩ dX5_append_53 (fun q12 h => ?_)
    refine j_iload F 0 dX5_append_56 rfl ?_
    exact j_iret F hr dX5_append_58 h
  exact ct_of (by decide +kernel) (Nat.le_of_ble_eq_true rfl) (fun p e s m args below meth c F hr _ => hJ p e s m args below meth c F hr)
