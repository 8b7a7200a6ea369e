def rm_X12_plane : Room := { frames := 1, cells := 0, slots := 0, locals := 37 }
theorem dX12_plane_0 : decode cX12_plane 0 = .ok (.lconst 0, 1) := by decide +kernel
theorem dX12_plane_1 : decode cX12_plane 1 = .ok (.lstore_n 2, 1) := by decide +kernel
theorem dX12_plane_2 : decode cX12_plane 2 = .ok (.lconst 0, 1) := by decide +kernel
theorem dX12_plane_3 : decode cX12_plane 3 = .ok (.lstore 4, 2) := by decide +kernel
theorem dX12_plane_5 : decode cX12_plane 5 = .ok (.lconst 0, 1) := by decide +kernel
theorem dX12_plane_6 : decode cX12_plane 6 = .ok (.lstore 6, 2) := by decide +kernel
theorem dX12_plane_8 : decode cX12_plane 8 = .ok (.lconst 0, 1) := by decide +kernel
theorem dX12_plane_9 : decode cX12_plane 9 = .ok (.lstore 8, 2) := by decide +kernel
theorem dX12_plane_11 : decode cX12_plane 11 = .ok (.lconst 0, 1) := by decide +kernel
theorem dX12_plane_12 : decode cX12_plane 12 = .ok (.lstore 10, 2) := by decide +kernel
theorem dX12_plane_14 : decode cX12_plane 14 = .ok (.lconst 0, 1) := by decide +kernel
theorem dX12_plane_15 : decode cX12_plane 15 = .ok (.lstore 12, 2) := by decide +kernel
theorem dX12_plane_17 : decode cX12_plane 17 = .ok (.iconst 0, 1) := by decide +kernel
theorem dX12_plane_18 : decode cX12_plane 18 = .ok (.istore 14, 2) := by decide +kernel
theorem dX12_plane_20 : decode cX12_plane 20 = .ok (.iload 14, 2) := by decide +kernel
theorem dX12_plane_22 : decode cX12_plane 22 = .ok (.iconst 4, 1) := by decide +kernel
theorem dX12_plane_23 : decode cX12_plane 23 = .ok (.if_icmp .ge 103, 3) := by decide +kernel
theorem dX12_plane_26 : decode cX12_plane 26 = .ok (.iload 14, 2) := by decide +kernel
theorem dX12_plane_28 : decode cX12_plane 28 = .ok (.iload_n 1, 1) := by decide +kernel
theorem dX12_plane_29 : decode cX12_plane 29 = .ok (.if_icmp .ne 6, 3) := by decide +kernel
theorem dX12_plane_32 : decode cX12_plane 32 = .ok (.goto 88, 3) := by decide +kernel
theorem dX12_plane_35 : decode cX12_plane 35 = .ok (.lload_n 2, 1) := by decide +kernel
theorem dX12_plane_36 : decode cX12_plane 36 = .ok (.lconst 1, 1) := by decide +kernel
theorem dX12_plane_37 : decode cX12_plane 37 = .ok (.ladd, 1) := by decide +kernel
theorem dX12_plane_38 : decode cX12_plane 38 = .ok (.lstore_n 2, 1) := by decide +kernel
theorem dX12_plane_39 : decode cX12_plane 39 = .ok (.lload 4, 2) := by decide +kernel
theorem dX12_plane_41 : decode cX12_plane 41 = .ok (.aload_n 0, 1) := by decide +kernel
theorem dX12_plane_42 : decode cX12_plane 42 = .ok (.iload 14, 2) := by decide +kernel
theorem dX12_plane_44 : decode cX12_plane 44 = .ok (.invokevirtual 99, 3) := by decide +kernel
theorem dX12_plane_47 : decode cX12_plane 47 = .ok (.i2l, 1) := by decide +kernel
theorem dX12_plane_48 : decode cX12_plane 48 = .ok (.ladd, 1) := by decide +kernel
theorem dX12_plane_49 : decode cX12_plane 49 = .ok (.lstore 4, 2) := by decide +kernel
theorem dX12_plane_51 : decode cX12_plane 51 = .ok (.lload 6, 2) := by decide +kernel
theorem dX12_plane_53 : decode cX12_plane 53 = .ok (.aload_n 0, 1) := by decide +kernel
theorem dX12_plane_54 : decode cX12_plane 54 = .ok (.iload 14, 2) := by decide +kernel
theorem dX12_plane_56 : decode cX12_plane 56 = .ok (.invokevirtual 103, 3) := by decide +kernel
theorem dX12_plane_59 : decode cX12_plane 59 = .ok (.i2l, 1) := by decide +kernel
theorem dX12_plane_60 : decode cX12_plane 60 = .ok (.ladd, 1) := by decide +kernel
theorem dX12_plane_61 : decode cX12_plane 61 = .ok (.lstore 6, 2) := by decide +kernel
theorem dX12_plane_63 : decode cX12_plane 63 = .ok (.lload 8, 2) := by decide +kernel
theorem dX12_plane_65 : decode cX12_plane 65 = .ok (.aload_n 0, 1) := by decide +kernel
theorem dX12_plane_66 : decode cX12_plane 66 = .ok (.iload 14, 2) := by decide +kernel
theorem dX12_plane_68 : decode cX12_plane 68 = .ok (.invokevirtual 99, 3) := by decide +kernel
theorem dX12_plane_71 : decode cX12_plane 71 = .ok (.aload_n 0, 1) := by decide +kernel
theorem dX12_plane_72 : decode cX12_plane 72 = .ok (.iload 14, 2) := by decide +kernel
theorem dX12_plane_74 : decode cX12_plane 74 = .ok (.invokevirtual 99, 3) := by decide +kernel
theorem dX12_plane_77 : decode cX12_plane 77 = .ok (.imul, 1) := by decide +kernel
theorem dX12_plane_78 : decode cX12_plane 78 = .ok (.i2l, 1) := by decide +kernel
theorem dX12_plane_79 : decode cX12_plane 79 = .ok (.ladd, 1) := by decide +kernel
theorem dX12_plane_80 : decode cX12_plane 80 = .ok (.lstore 8, 2) := by decide +kernel
theorem dX12_plane_82 : decode cX12_plane 82 = .ok (.lload 10, 2) := by decide +kernel
theorem dX12_plane_84 : decode cX12_plane 84 = .ok (.aload_n 0, 1) := by decide +kernel
theorem dX12_plane_85 : decode cX12_plane 85 = .ok (.iload 14, 2) := by decide +kernel
theorem dX12_plane_87 : decode cX12_plane 87 = .ok (.invokevirtual 99, 3) := by decide +kernel
theorem dX12_plane_90 : decode cX12_plane 90 = .ok (.aload_n 0, 1) := by decide +kernel
theorem dX12_plane_91 : decode cX12_plane 91 = .ok (.iload 14, 2) := by decide +kernel
theorem dX12_plane_93 : decode cX12_plane 93 = .ok (.invokevirtual 103, 3) := by decide +kernel
theorem dX12_plane_96 : decode cX12_plane 96 = .ok (.imul, 1) := by decide +kernel
theorem dX12_plane_97 : decode cX12_plane 97 = .ok (.i2l, 1) := by decide +kernel
theorem dX12_plane_98 : decode cX12_plane 98 = .ok (.ladd, 1) := by decide +kernel
theorem dX12_plane_99 : decode cX12_plane 99 = .ok (.lstore 10, 2) := by decide +kernel
theorem dX12_plane_101 : decode cX12_plane 101 = .ok (.lload 12, 2) := by decide +kernel
theorem dX12_plane_103 : decode cX12_plane 103 = .ok (.aload_n 0, 1) := by decide +kernel
theorem dX12_plane_104 : decode cX12_plane 104 = .ok (.iload 14, 2) := by decide +kernel
theorem dX12_plane_106 : decode cX12_plane 106 = .ok (.invokevirtual 103, 3) := by decide +kernel
theorem dX12_plane_109 : decode cX12_plane 109 = .ok (.aload_n 0, 1) := by decide +kernel
theorem dX12_plane_110 : decode cX12_plane 110 = .ok (.iload 14, 2) := by decide +kernel
theorem dX12_plane_112 : decode cX12_plane 112 = .ok (.invokevirtual 103, 3) := by decide +kernel
theorem dX12_plane_115 : decode cX12_plane 115 = .ok (.imul, 1) := by decide +kernel
theorem dX12_plane_116 : decode cX12_plane 116 = .ok (.i2l, 1) := by decide +kernel
theorem dX12_plane_117 : decode cX12_plane 117 = .ok (.ladd, 1) := by decide +kernel
theorem dX12_plane_118 : decode cX12_plane 118 = .ok (.lstore 12, 2) := by decide +kernel
theorem dX12_plane_120 : decode cX12_plane 120 = .ok (.iinc 14 1, 3) := by decide +kernel
theorem dX12_plane_123 : decode cX12_plane 123 = .ok (.goto (-103), 3) := by decide +kernel
theorem dX12_plane_126 : decode cX12_plane 126 = .ok (.ldc2_w 187, 3) := by decide +kernel
theorem dX12_plane_129 : decode cX12_plane 129 = .ok (.aload_n 0, 1) := by decide +kernel
theorem dX12_plane_130 : decode cX12_plane 130 = .ok (.iconst 0, 1) := by decide +kernel
theorem dX12_plane_131 : decode cX12_plane 131 = .ok (.invokevirtual 196, 3) := by decide +kernel
theorem dX12_plane_134 : decode cX12_plane 134 = .ok (.lmul, 1) := by decide +kernel
theorem dX12_plane_135 : decode cX12_plane 135 = .ok (.lstore 14, 2) := by decide +kernel
theorem dX12_plane_137 : decode cX12_plane 137 = .ok (.aload_n 0, 1) := by decide +kernel
theorem dX12_plane_138 : decode cX12_plane 138 = .ok (.iconst 1, 1) := by decide +kernel
theorem dX12_plane_139 : decode cX12_plane 139 = .ok (.invokevirtual 196, 3) := by decide +kernel
theorem dX12_plane_142 : decode cX12_plane 142 = .ok (.lstore 16, 2) := by decide +kernel
theorem dX12_plane_144 : decode cX12_plane 144 = .ok (.aload_n 0, 1) := by decide +kernel
theorem dX12_plane_145 : decode cX12_plane 145 = .ok (.iconst 2, 1) := by decide +kernel
theorem dX12_plane_146 : decode cX12_plane 146 = .ok (.invokevirtual 196, 3) := by decide +kernel
theorem dX12_plane_149 : decode cX12_plane 149 = .ok (.lstore 18, 2) := by decide +kernel
theorem dX12_plane_151 : decode cX12_plane 151 = .ok (.lload_n 2, 1) := by decide +kernel
theorem dX12_plane_152 : decode cX12_plane 152 = .ok (.lload 4, 2) := by decide +kernel
theorem dX12_plane_154 : decode cX12_plane 154 = .ok (.lload 6, 2) := by decide +kernel
theorem dX12_plane_156 : decode cX12_plane 156 = .ok (.lload 4, 2) := by decide +kernel
theorem dX12_plane_158 : decode cX12_plane 158 = .ok (.lload 8, 2) := by decide +kernel
theorem dX12_plane_160 : decode cX12_plane 160 = .ok (.lload 10, 2) := by decide +kernel
theorem dX12_plane_162 : decode cX12_plane 162 = .ok (.lload 6, 2) := by decide +kernel
theorem dX12_plane_164 : decode cX12_plane 164 = .ok (.lload 10, 2) := by decide +kernel
theorem dX12_plane_166 : decode cX12_plane 166 = .ok (.lload 12, 2) := by decide +kernel
theorem dX12_plane_168 : decode cX12_plane 168 = .ok (.invokestatic 210, 3) := by decide +kernel
theorem dX12_plane_171 : decode cX12_plane 171 = .ok (.lstore 20, 2) := by decide +kernel
theorem dX12_plane_173 : decode cX12_plane 173 = .ok (.lload 14, 2) := by decide +kernel
theorem dX12_plane_175 : decode cX12_plane 175 = .ok (.lload 4, 2) := by decide +kernel
theorem dX12_plane_177 : decode cX12_plane 177 = .ok (.lload 6, 2) := by decide +kernel
theorem dX12_plane_179 : decode cX12_plane 179 = .ok (.lload 16, 2) := by decide +kernel
theorem dX12_plane_181 : decode cX12_plane 181 = .ok (.lload 8, 2) := by decide +kernel
theorem dX12_plane_183 : decode cX12_plane 183 = .ok (.lload 10, 2) := by decide +kernel
theorem dX12_plane_185 : decode cX12_plane 185 = .ok (.lload 18, 2) := by decide +kernel
theorem dX12_plane_187 : decode cX12_plane 187 = .ok (.lload 10, 2) := by decide +kernel
theorem dX12_plane_189 : decode cX12_plane 189 = .ok (.lload 12, 2) := by decide +kernel
theorem dX12_plane_191 : decode cX12_plane 191 = .ok (.invokestatic 210, 3) := by decide +kernel
theorem dX12_plane_194 : decode cX12_plane 194 = .ok (.lstore 22, 2) := by decide +kernel
theorem dX12_plane_196 : decode cX12_plane 196 = .ok (.lload_n 2, 1) := by decide +kernel
theorem dX12_plane_197 : decode cX12_plane 197 = .ok (.lload 14, 2) := by decide +kernel
theorem dX12_plane_199 : decode cX12_plane 199 = .ok (.lload 6, 2) := by decide +kernel
theorem dX12_plane_201 : decode cX12_plane 201 = .ok (.lload 4, 2) := by decide +kernel
theorem dX12_plane_203 : decode cX12_plane 203 = .ok (.lload 16, 2) := by decide +kernel
theorem dX12_plane_205 : decode cX12_plane 205 = .ok (.lload 10, 2) := by decide +kernel
theorem dX12_plane_207 : decode cX12_plane 207 = .ok (.lload 6, 2) := by decide +kernel
theorem dX12_plane_209 : decode cX12_plane 209 = .ok (.lload 18, 2) := by decide +kernel
theorem dX12_plane_211 : decode cX12_plane 211 = .ok (.lload 12, 2) := by decide +kernel
theorem dX12_plane_213 : decode cX12_plane 213 = .ok (.invokestatic 210, 3) := by decide +kernel
theorem dX12_plane_216 : decode cX12_plane 216 = .ok (.lstore 24, 2) := by decide +kernel
theorem dX12_plane_218 : decode cX12_plane 218 = .ok (.lload_n 2, 1) := by decide +kernel
theorem dX12_plane_219 : decode cX12_plane 219 = .ok (.lload 4, 2) := by decide +kernel
theorem dX12_plane_221 : decode cX12_plane 221 = .ok (.lload 14, 2) := by decide +kernel
theorem dX12_plane_223 : decode cX12_plane 223 = .ok (.lload 4, 2) := by decide +kernel
theorem dX12_plane_225 : decode cX12_plane 225 = .ok (.lload 8, 2) := by decide +kernel
theorem dX12_plane_227 : decode cX12_plane 227 = .ok (.lload 16, 2) := by decide +kernel
theorem dX12_plane_229 : decode cX12_plane 229 = .ok (.lload 6, 2) := by decide +kernel
theorem dX12_plane_231 : decode cX12_plane 231 = .ok (.lload 10, 2) := by decide +kernel
theorem dX12_plane_233 : decode cX12_plane 233 = .ok (.lload 18, 2) := by decide +kernel
theorem dX12_plane_235 : decode cX12_plane 235 = .ok (.invokestatic 210, 3) := by decide +kernel
theorem dX12_plane_238 : decode cX12_plane 238 = .ok (.lstore 26, 2) := by decide +kernel
theorem dX12_plane_240 : decode cX12_plane 240 = .ok (.aload_n 0, 1) := by decide +kernel
theorem dX12_plane_241 : decode cX12_plane 241 = .ok (.ldc2_w 187, 3) := by decide +kernel
theorem dX12_plane_244 : decode cX12_plane 244 = .ok (.lload 20, 2) := by decide +kernel
theorem dX12_plane_246 : decode cX12_plane 246 = .ok (.lmul, 1) := by decide +kernel
theorem dX12_plane_247 : decode cX12_plane 247 = .ok (.putfield 214, 3) := by decide +kernel
theorem dX12_plane_250 : decode cX12_plane 250 = .ok (.iconst 0, 1) := by decide +kernel
theorem dX12_plane_251 : decode cX12_plane 251 = .ok (.istore 28, 2) := by decide +kernel
theorem dX12_plane_253 : decode cX12_plane 253 = .ok (.iload 28, 2) := by decide +kernel
theorem dX12_plane_255 : decode cX12_plane 255 = .ok (.iconst 4, 1) := by decide +kernel
theorem dX12_plane_256 : decode cX12_plane 256 = .ok (.if_icmp .ge 50, 3) := by decide +kernel
theorem dX12_plane_259 : decode cX12_plane 259 = .ok (.aload_n 0, 1) := by decide +kernel
theorem dX12_plane_260 : decode cX12_plane 260 = .ok (.getfield 52, 3) := by decide +kernel
theorem dX12_plane_263 : decode cX12_plane 263 = .ok (.iload 28, 2) := by decide +kernel
theorem dX12_plane_265 : decode cX12_plane 265 = .ok (.iload 28, 2) := by decide +kernel
theorem dX12_plane_267 : decode cX12_plane 267 = .ok (.iload_n 1, 1) := by decide +kernel
theorem dX12_plane_268 : decode cX12_plane 268 = .ok (.if_icmp .ne 7, 3) := by decide +kernel
theorem dX12_plane_271 : decode cX12_plane 271 = .ok (.lconst 0, 1) := by decide +kernel
theorem dX12_plane_272 : decode cX12_plane 272 = .ok (.goto 27, 3) := by decide +kernel
theorem dX12_plane_275 : decode cX12_plane 275 = .ok (.lload 22, 2) := by decide +kernel
theorem dX12_plane_277 : decode cX12_plane 277 = .ok (.lload 24, 2) := by decide +kernel
theorem dX12_plane_279 : decode cX12_plane 279 = .ok (.aload_n 0, 1) := by decide +kernel
theorem dX12_plane_280 : decode cX12_plane 280 = .ok (.iload 28, 2) := by decide +kernel
theorem dX12_plane_282 : decode cX12_plane 282 = .ok (.invokevirtual 99, 3) := by decide +kernel
theorem dX12_plane_285 : decode cX12_plane 285 = .ok (.i2l, 1) := by decide +kernel
theorem dX12_plane_286 : decode cX12_plane 286 = .ok (.lmul, 1) := by decide +kernel
theorem dX12_plane_287 : decode cX12_plane 287 = .ok (.ladd, 1) := by decide +kernel
theorem dX12_plane_288 : decode cX12_plane 288 = .ok (.lload 26, 2) := by decide +kernel
theorem dX12_plane_290 : decode cX12_plane 290 = .ok (.aload_n 0, 1) := by decide +kernel
theorem dX12_plane_291 : decode cX12_plane 291 = .ok (.iload 28, 2) := by decide +kernel
theorem dX12_plane_293 : decode cX12_plane 293 = .ok (.invokevirtual 103, 3) := by decide +kernel
theorem dX12_plane_296 : decode cX12_plane 296 = .ok (.i2l, 1) := by decide +kernel
theorem dX12_plane_297 : decode cX12_plane 297 = .ok (.lmul, 1) := by decide +kernel
theorem dX12_plane_298 : decode cX12_plane 298 = .ok (.ladd, 1) := by decide +kernel
theorem dX12_plane_299 : decode cX12_plane 299 = .ok (.lastore, 1) := by decide +kernel
theorem dX12_plane_300 : decode cX12_plane 300 = .ok (.iinc 28 1, 3) := by decide +kernel
theorem dX12_plane_303 : decode cX12_plane 303 = .ok (.goto (-50), 3) := by decide +kernel
theorem dX12_plane_306 : decode cX12_plane 306 = .ok (.return_, 1) := by decide +kernel
def l_X12_plane_253 (S : SH) (a0 : Nat) (a1 : Int32) (a22 : Int64) (a24 : Int64) (a26 : Int64) (k253 : (Int32 × Mem) → Option (Unit × Mem)) (x : (Int32 × Mem)) : Option (Unit × Mem) :=
 (if 4 ≤ x.1 then
 some ((), x.2)
 else
 (gR S 12 a0 16).bind fun v10 =>
 (if x.1 = a1 then
 (sL S v10 x.1 0 x.2).bind fun ν14 =>
 k253 (x.1 + 1, ν14)
 else
 (f_X12_x S a0 x.1 x.2).bind fun q11 =>
 (f_X12_y S a0 x.1 q11.2).bind fun q12 =>
 (sL S v10 x.1 ((a22 + (a24 * q11.1.toInt64)) + (a26 * q12.1.toInt64)) q12.2).bind fun ν13 =>
 k253 (x.1 + 1, ν13)))
set_option maxRecDepth 100000 in
set_option maxHeartbeats 4000000 in
theorem t_X12_plane_253 {γ : GE} {p : Program} {l : Launch} {e : Env} {s : State} {m : MethodId} {args : Array Value} {below : List Frame} {meth : Method} {c : Code} {S : SH} {X : (Unit × Mem)} (F : FX γ p s m args meth c cX12_plane RX12 29) (hr : meth.sig.returnType = (none)) (a0 : Nat) (a1 : Int32) (a22 : Int64) (a24 : Int64) (a26 : Int64) (k253 : (Int32 × Mem) → Option (Unit × Mem)) (hk253 : ∀ x : (Int32 × Mem), k253 x = some X → JJ γ p l e rm_X12_plane s m args below meth c 29 0 0 (QV below γ S X args s 0 0) S x.2 253 [(0, .ref (gb γ + a0)), (1, .int a1), (22, .long a22), (24, .long a24), (26, .long a26), (28, .int x.1)] []) (x : (Int32 × Mem)) (h : l_X12_plane_253 S a0 a1 a22 a24 a26 k253 x = some X) : JJ γ p l e rm_X12_plane s m args below meth c 29 0 0 (QV below γ S X args s 0 0) S x.2 253 [(0, .ref (gb γ + a0)), (1, .int a1), (22, .long a22), (24, .long a24), (26, .long a26), (28, .int x.1)] [] := by
  unfold l_X12_plane_253 at h
  refine j_iload F 5 dX12_plane_253 rfl ?_
  refine j_iconst F 4 dX12_plane_255 (by decide) ?_
  refine j_icmpge F 306 dX12_plane_256 (by decide) h (fun _ h => ?_) (fun _ h => ?_)
  · exact j_vret F hr dX12_plane_306 h
  · refine j_aload_n F 0 dX12_plane_259 rfl ?_
    refine j_gR F fl_RX12_52 rfl dX12_plane_260 h (fun v10 h => ?_)
    refine j_iload F 5 dX12_plane_263 rfl ?_
    refine j_iload F 5 dX12_plane_265 rfl ?_
    refine j_iload_n F 1 dX12_plane_267 rfl ?_
    refine j_icmpne F 275 dX12_plane_268 (by decide) h (fun _ h => ?_) (fun _ h => ?_)
    · refine j_lload F 2 dX12_plane_275 rfl ?_
      refine j_lload F 3 dX12_plane_277 rfl ?_
      refine j_aload_n F 0 dX12_plane_279 rfl ?_
      refine j_iload F 5 dX12_plane_280 rfl ?_
      refine j_cVI F mi_X12_x w_1111 (rest := [.long a24, .long a22, .int x.1, .ref (gb γ + v10)]) h (fun _ g => c_X12_x g) rfl rfl (Nat.le_of_ble_eq_true rfl) ⟨Nat.le_of_ble_eq_true rfl, Nat.le_of_ble_eq_true rfl⟩ ⟨Nat.le_of_ble_eq_true rfl, Nat.le_of_ble_eq_true rfl⟩ dX12_plane_282 (fun q11 h => ?_)
      refine j_i2l F dX12_plane_285 ?_
      refine j_lmul F dX12_plane_286 ?_
      refine j_ladd F dX12_plane_287 ?_
      refine j_lload F 4 dX12_plane_288 rfl ?_
      refine j_aload_n F 0 dX12_plane_290 rfl ?_
      refine j_iload F 5 dX12_plane_291 rfl ?_
      refine j_cVI F mi_X12_y w_1115 (rest := [.long a26, .long (a22 + (a24 * q11.1.toInt64)), .int x.1, .ref (gb γ + v10)]) h (fun _ g => c_X12_y g) rfl rfl (Nat.le_of_ble_eq_true rfl) ⟨Nat.le_of_ble_eq_true rfl, Nat.le_of_ble_eq_true rfl⟩ ⟨Nat.le_of_ble_eq_true rfl, Nat.le_of_ble_eq_true rfl⟩ dX12_plane_293 (fun q12 h => ?_)
      refine j_i2l F dX12_plane_296 ?_
      refine j_lmul F dX12_plane_297 ?_
      refine j_ladd F dX12_plane_298 ?_
      refine j_last F dX12_plane_299 h (fun ν13 h => ?_)
      refine j_iinc F 1 5 [(28, .int (x.1 + 1)), (0, .ref (gb γ + a0)), (1, .int a1), (22, .long a22), (24, .long a24), (26, .long a26)] dX12_plane_300 rfl (by decide) (by decide) rfl ?_
      refine j_goto F 253 dX12_plane_303 (by decide) ?_
      refine j_lv [(0, .ref (gb γ + a0)), (1, .int a1), (22, .long a22), (24, .long a24), (26, .long a26), (28, .int (x.1 + 1))] [1, 2, 3, 4, 5, 0] rfl ?_
      have h9 := hk253 _ h
      exact h9
    · refine j_lconst F 0 dX12_plane_271 (by decide) ?_
      refine j_goto F 299 dX12_plane_272 (by decide) ?_
      refine j_last F dX12_plane_299 h (fun ν14 h => ?_)
      refine j_iinc F 1 5 [(28, .int (x.1 + 1)), (0, .ref (gb γ + a0)), (1, .int a1), (22, .long a22), (24, .long a24), (26, .long a26)] dX12_plane_300 rfl (by decide) (by decide) rfl ?_
      refine j_goto F 253 dX12_plane_303 (by decide) ?_
      refine j_lv [(0, .ref (gb γ + a0)), (1, .int a1), (22, .long a22), (24, .long a24), (26, .long a26), (28, .int (x.1 + 1))] [1, 2, 3, 4, 5, 0] rfl ?_
      have h9 := hk253 _ h
      exact h9
theorem s_X12_plane_253 {γ : GE} {p : Program} {l : Launch} {e : Env} {s : State} {m : MethodId} {args : Array Value} {below : List Frame} {meth : Method} {c : Code} {S : SH} {X : (Unit × Mem)} (F : FX γ p s m args meth c cX12_plane RX12 29) (hr : meth.sig.returnType = (none)) (a0 : Nat) (a1 : Int32) (a22 : Int64) (a24 : Int64) (a26 : Int64) (x : (Int32 × Mem)) (h : lpN (l_X12_plane_253 S a0 a1 a22 a24 a26) fu x = some X) : JJ γ p l e rm_X12_plane s m args below meth c 29 0 0 (QV below γ S X args s 0 0) S x.2 253 [(0, .ref (gb γ + a0)), (1, .int a1), (22, .long a22), (24, .long a24), (26, .long a26), (28, .int x.1)] [] :=
 lpN_sound (fun x => JJ γ p l e rm_X12_plane s m args below meth c 29 0 0 (QV below γ S X args s 0 0) S x.2 253 [(0, .ref (gb γ + a0)), (1, .int a1), (22, .long a22), (24, .long a24), (26, .long a26), (28, .int x.1)] []) (fun k253 hk253 x h => t_X12_plane_253 F hr a0 a1 a22 a24 a26 k253 hk253 x h) fu x h
def b_X12_plane_126 (S : SH) (a0 : Nat) (a1 : Int32) (a2 : Int64) (a4 : Int64) (a6 : Int64) (a8 : Int64) (a10 : Int64) (a12 : Int64) (μ : Mem) : Option (Unit × Mem) :=
 (f_X12_sum S a0 0 μ).bind fun q1 =>
 (some (65 * q1.1)).bind fun y2 =>
 (f_X12_sum S a0 1 q1.2).bind fun q3 =>
 (f_X12_sum S a0 2 q3.2).bind fun q4 =>
 (f_X12_determinant S a2 a4 a6 a4 a8 a10 a6 a10 a12 q4.2).bind fun q5 =>
 (f_X12_determinant S y2 a4 a6 q3.1 a8 a10 q4.1 a10 a12 q5.2).bind fun q6 =>
 (f_X12_determinant S a2 y2 a6 a4 q3.1 a10 a6 q4.1 a12 q6.2).bind fun q7 =>
 (f_X12_determinant S a2 a4 y2 a4 a8 q3.1 a6 a10 q4.1 q7.2).bind fun q8 =>
 (pL S 12 a0 17 (65 * q5.1) q8.2).bind fun ν9 =>
 lpN (l_X12_plane_253 S a0 a1 q6.1 q7.1 q8.1) fu (0, ν9)
set_option maxRecDepth 100000 in
set_option maxHeartbeats 4000000 in
theorem s_X12_plane_126 {γ : GE} {p : Program} {l : Launch} {e : Env} {s : State} {m : MethodId} {args : Array Value} {below : List Frame} {meth : Method} {c : Code} {S : SH} {X : (Unit × Mem)} (F : FX γ p s m args meth c cX12_plane RX12 29) (hr : meth.sig.returnType = (none))  (a0 : Nat) (a1 : Int32) (a2 : Int64) (a4 : Int64) (a6 : Int64) (a8 : Int64) (a10 : Int64) (a12 : Int64)  (μ : Mem) (h : b_X12_plane_126 S a0 a1 a2 a4 a6 a8 a10 a12 μ = some X) : JJ γ p l e rm_X12_plane s m args below meth c 29 0 0 (QV below γ S X args s 0 0) S μ 126 [(0, .ref (gb γ + a0)), (1, .int a1), (2, .long a2), (4, .long a4), (6, .long a6), (8, .long a8), (10, .long a10), (12, .long a12)] [] := by
  unfold b_X12_plane_126 at h
  refine j_ldc2 F 65 dX12_plane_126 w_1234 ?_
  refine j_aload_n F 0 dX12_plane_129 rfl ?_
  refine j_iconst F 0 dX12_plane_130 (by decide) ?_
  refine j_cVJ F mi_X12_sum w_1223 (rest := [.long 65]) h (fun _ g => c_X12_sum g) rfl rfl (Nat.le_of_ble_eq_true rfl) ⟨Nat.le_of_ble_eq_true rfl, Nat.le_of_ble_eq_true rfl⟩ ⟨Nat.le_of_ble_eq_true rfl, Nat.le_of_ble_eq_true rfl⟩ dX12_plane_131 (fun q1 h => ?_)
  refine j_lmul F dX12_plane_134 ?_
  refine j_nmL h (fun y2 h => ?_)
  refine j_lstore F [(14, .long y2), (0, .ref (gb γ + a0)), (1, .int a1), (2, .long a2), (4, .long a4), (6, .long a6), (8, .long a8), (10, .long a10), (12, .long a12)] dX12_plane_135 (by decide) rfl ?_
  refine j_aload_n F 1 dX12_plane_137 rfl ?_
  refine j_iconst F 1 dX12_plane_138 (by decide) ?_
  refine j_cVJ F mi_X12_sum w_1223 (rest := []) h (fun _ g => c_X12_sum g) rfl rfl (Nat.le_of_ble_eq_true rfl) ⟨Nat.le_of_ble_eq_true rfl, Nat.le_of_ble_eq_true rfl⟩ ⟨Nat.le_of_ble_eq_true rfl, Nat.le_of_ble_eq_true rfl⟩ dX12_plane_139 (fun q3 h => ?_)
  refine j_lstore F [(16, .long q3.1), (14, .long y2), (0, .ref (gb γ + a0)), (1, .int a1), (2, .long a2), (4, .long a4), (6, .long a6), (8, .long a8), (10, .long a10), (12, .long a12)] dX12_plane_142 (by decide) rfl ?_
  refine j_aload_n F 2 dX12_plane_144 rfl ?_
  refine j_iconst F 2 dX12_plane_145 (by decide) ?_
  refine j_cVJ F mi_X12_sum w_1223 (rest := []) h (fun _ g => c_X12_sum g) rfl rfl (Nat.le_of_ble_eq_true rfl) ⟨Nat.le_of_ble_eq_true rfl, Nat.le_of_ble_eq_true rfl⟩ ⟨Nat.le_of_ble_eq_true rfl, Nat.le_of_ble_eq_true rfl⟩ dX12_plane_146 (fun q4 h => ?_)
  refine j_lstore F [(18, .long q4.1), (16, .long q3.1), (14, .long y2), (0, .ref (gb γ + a0)), (1, .int a1), (2, .long a2), (4, .long a4), (6, .long a6), (8, .long a8), (10, .long a10), (12, .long a12)] dX12_plane_149 (by decide) rfl ?_
  refine j_lload_n F 5 dX12_plane_151 rfl ?_
  refine j_lload F 6 dX12_plane_152 rfl ?_
  refine j_lload F 7 dX12_plane_154 rfl ?_
  refine j_lload F 6 dX12_plane_156 rfl ?_
  refine j_lload F 8 dX12_plane_158 rfl ?_
  refine j_lload F 9 dX12_plane_160 rfl ?_
  refine j_lload F 7 dX12_plane_162 rfl ?_
  refine j_lload F 9 dX12_plane_164 rfl ?_
  refine j_lload F 10 dX12_plane_166 rfl ?_
  refine j_cSJ F mi_X12_determinant w_1273 (rest := []) h (fun _ g => c_X12_determinant g) rfl rfl (Nat.le_of_ble_eq_true rfl) ⟨Nat.le_of_ble_eq_true rfl, Nat.le_of_ble_eq_true rfl⟩ ⟨Nat.le_of_ble_eq_true rfl, Nat.le_of_ble_eq_true rfl⟩ dX12_plane_168 (fun q5 h => ?_)
  refine j_lstore F [(20, .long q5.1), (18, .long q4.1), (16, .long q3.1), (14, .long y2), (0, .ref (gb γ + a0)), (1, .int a1), (2, .long a2), (4, .long a4), (6, .long a6), (8, .long a8), (10, .long a10), (12, .long a12)] dX12_plane_171 (by decide) rfl ?_
  refine j_lload F 3 dX12_plane_173 rfl ?_
  refine j_lload F 7 dX12_plane_175 rfl ?_
  refine j_lload F 8 dX12_plane_177 rfl ?_
  refine j_lload F 2 dX12_plane_179 rfl ?_
  refine j_lload F 9 dX12_plane_181 rfl ?_
  refine j_lload F 10 dX12_plane_183 rfl ?_
  refine j_lload F 1 dX12_plane_185 rfl ?_
  refine j_lload F 10 dX12_plane_187 rfl ?_
  refine j_lload F 11 dX12_plane_189 rfl ?_
  refine j_cSJ F mi_X12_determinant w_1273 (rest := []) h (fun _ g => c_X12_determinant g) rfl rfl (Nat.le_of_ble_eq_true rfl) ⟨Nat.le_of_ble_eq_true rfl, Nat.le_of_ble_eq_true rfl⟩ ⟨Nat.le_of_ble_eq_true rfl, Nat.le_of_ble_eq_true rfl⟩ dX12_plane_191 (fun q6 h => ?_)
  refine j_lstore F [(22, .long q6.1), (20, .long q5.1), (18, .long q4.1), (16, .long q3.1), (14, .long y2), (0, .ref (gb γ + a0)), (1, .int a1), (2, .long a2), (4, .long a4), (6, .long a6), (8, .long a8), (10, .long a10), (12, .long a12)] dX12_plane_194 (by decide) rfl ?_
  refine j_lload_n F 7 dX12_plane_196 rfl ?_
  refine j_lload F 4 dX12_plane_197 rfl ?_
  refine j_lload F 9 dX12_plane_199 rfl ?_
  refine j_lload F 8 dX12_plane_201 rfl ?_
  refine j_lload F 3 dX12_plane_203 rfl ?_
  refine j_lload F 11 dX12_plane_205 rfl ?_
  refine j_lload F 9 dX12_plane_207 rfl ?_
  refine j_lload F 2 dX12_plane_209 rfl ?_
  refine j_lload F 12 dX12_plane_211 rfl ?_
  refine j_cSJ F mi_X12_determinant w_1273 (rest := []) h (fun _ g => c_X12_determinant g) rfl rfl (Nat.le_of_ble_eq_true rfl) ⟨Nat.le_of_ble_eq_true rfl, Nat.le_of_ble_eq_true rfl⟩ ⟨Nat.le_of_ble_eq_true rfl, Nat.le_of_ble_eq_true rfl⟩ dX12_plane_213 (fun q7 h => ?_)
  refine j_lstore F [(24, .long q7.1), (22, .long q6.1), (20, .long q5.1), (18, .long q4.1), (16, .long q3.1), (14, .long y2), (0, .ref (gb γ + a0)), (1, .int a1), (2, .long a2), (4, .long a4), (6, .long a6), (8, .long a8), (10, .long a10), (12, .long a12)] dX12_plane_216 (by decide) rfl ?_
  refine j_lload_n F 8 dX12_plane_218 rfl ?_
  refine j_lload F 9 dX12_plane_219 rfl ?_
  refine j_lload F 5 dX12_plane_221 rfl ?_
  refine j_lload F 9 dX12_plane_223 rfl ?_
  refine j_lload F 11 dX12_plane_225 rfl ?_
  refine j_lload F 4 dX12_plane_227 rfl ?_
  refine j_lload F 10 dX12_plane_229 rfl ?_
  refine j_lload F 12 dX12_plane_231 rfl ?_
  refine j_lload F 3 dX12_plane_233 rfl ?_
  refine j_cSJ F mi_X12_determinant w_1273 (rest := []) h (fun _ g => c_X12_determinant g) rfl rfl (Nat.le_of_ble_eq_true rfl) ⟨Nat.le_of_ble_eq_true rfl, Nat.le_of_ble_eq_true rfl⟩ ⟨Nat.le_of_ble_eq_true rfl, Nat.le_of_ble_eq_true rfl⟩ dX12_plane_235 (fun q8 h => ?_)
  refine j_lstore F [(26, .long q8.1), (24, .long q7.1), (22, .long q6.1), (20, .long q5.1), (18, .long q4.1), (16, .long q3.1), (14, .long y2), (0, .ref (gb γ + a0)), (1, .int a1), (2, .long a2), (4, .long a4), (6, .long a6), (8, .long a8), (10, .long a10), (12, .long a12)] dX12_plane_238 (by decide) rfl ?_
  refine j_aload_n F 7 dX12_plane_240 rfl ?_
  refine j_ldc2 F 65 dX12_plane_241 w_1234 ?_
  refine j_lload F 3 dX12_plane_244 rfl ?_
  refine j_lmul F dX12_plane_246 ?_
  refine j_pL F fl_RX12_214 rfl dX12_plane_247 h (fun ν9 h => ?_)
  refine j_iconst F 0 dX12_plane_250 (by decide) ?_
  refine j_istore F [(28, .int 0), (26, .long q8.1), (24, .long q7.1), (22, .long q6.1), (20, .long q5.1), (18, .long q4.1), (16, .long q3.1), (14, .long y2), (0, .ref (gb γ + a0)), (1, .int a1), (2, .long a2), (4, .long a4), (6, .long a6), (8, .long a8), (10, .long a10), (12, .long a12)] dX12_plane_251 (by decide) rfl ?_
  refine j_lv [(0, .ref (gb γ + a0)), (1, .int a1), (22, .long q6.1), (24, .long q7.1), (26, .long q8.1), (28, .int 0)] [8, 9, 3, 2, 1, 0] rfl ?_
  exact s_X12_plane_253 F hr _ _ _ _ _ _ h
def l_X12_plane_20 (S : SH) (a0 : Nat) (a1 : Int32) (k20 : (Int64 × Int64 × Int64 × Int64 × Int64 × Int64 × Int32 × Mem) → Option (Unit × Mem)) (x : (Int64 × Int64 × Int64 × Int64 × Int64 × Int64 × Int32 × Mem)) : Option (Unit × Mem) :=
 (if 4 ≤ x.2.2.2.2.2.2.1 then
 b_X12_plane_126 S a0 a1 x.1 x.2.1 x.2.2.1 x.2.2.2.1 x.2.2.2.2.1 x.2.2.2.2.2.1 x.2.2.2.2.2.2.2
 else
 (if x.2.2.2.2.2.2.1 = a1 then
 k20 (x.1, x.2.1, x.2.2.1, x.2.2.2.1, x.2.2.2.2.1, x.2.2.2.2.2.1, x.2.2.2.2.2.2.1 + 1, x.2.2.2.2.2.2.2)
 else
 (some (x.1 + 1)).bind fun y15 =>
 (f_X12_x S a0 x.2.2.2.2.2.2.1 x.2.2.2.2.2.2.2).bind fun q16 =>
 (some (x.2.1 + q16.1.toInt64)).bind fun y17 =>
 (f_X12_y S a0 x.2.2.2.2.2.2.1 q16.2).bind fun q18 =>
 (some (x.2.2.1 + q18.1.toInt64)).bind fun y19 =>
 (f_X12_x S a0 x.2.2.2.2.2.2.1 q18.2).bind fun q20 =>
 (f_X12_x S a0 x.2.2.2.2.2.2.1 q20.2).bind fun q21 =>
 (some (x.2.2.2.1 + ((q20.1 * q21.1).toInt64))).bind fun y22 =>
 (f_X12_x S a0 x.2.2.2.2.2.2.1 q21.2).bind fun q23 =>
 (f_X12_y S a0 x.2.2.2.2.2.2.1 q23.2).bind fun q24 =>
 (some (x.2.2.2.2.1 + ((q23.1 * q24.1).toInt64))).bind fun y25 =>
 (f_X12_y S a0 x.2.2.2.2.2.2.1 q24.2).bind fun q26 =>
 (f_X12_y S a0 x.2.2.2.2.2.2.1 q26.2).bind fun q27 =>
 (some (x.2.2.2.2.2.1 + ((q26.1 * q27.1).toInt64))).bind fun y28 =>
 k20 (y15, y17, y19, y22, y25, y28, x.2.2.2.2.2.2.1 + 1, q27.2)))
set_option maxRecDepth 100000 in
set_option maxHeartbeats 4000000 in
theorem t_X12_plane_20 {γ : GE} {p : Program} {l : Launch} {e : Env} {s : State} {m : MethodId} {args : Array Value} {below : List Frame} {meth : Method} {c : Code} {S : SH} {X : (Unit × Mem)} (F : FX γ p s m args meth c cX12_plane RX12 29) (hr : meth.sig.returnType = (none)) (a0 : Nat) (a1 : Int32) (k20 : (Int64 × Int64 × Int64 × Int64 × Int64 × Int64 × Int32 × Mem) → Option (Unit × Mem)) (hk20 : ∀ x : (Int64 × Int64 × Int64 × Int64 × Int64 × Int64 × Int32 × Mem), k20 x = some X → JJ γ p l e rm_X12_plane s m args below meth c 29 0 0 (QV below γ S X args s 0 0) S x.2.2.2.2.2.2.2 20 [(0, .ref (gb γ + a0)), (1, .int a1), (2, .long x.1), (4, .long x.2.1), (6, .long x.2.2.1), (8, .long x.2.2.2.1), (10, .long x.2.2.2.2.1), (12, .long x.2.2.2.2.2.1), (14, .int x.2.2.2.2.2.2.1)] []) (x : (Int64 × Int64 × Int64 × Int64 × Int64 × Int64 × Int32 × Mem)) (h : l_X12_plane_20 S a0 a1 k20 x = some X) : JJ γ p l e rm_X12_plane s m args below meth c 29 0 0 (QV below γ S X args s 0 0) S x.2.2.2.2.2.2.2 20 [(0, .ref (gb γ + a0)), (1, .int a1), (2, .long x.1), (4, .long x.2.1), (6, .long x.2.2.1), (8, .long x.2.2.2.1), (10, .long x.2.2.2.2.1), (12, .long x.2.2.2.2.2.1), (14, .int x.2.2.2.2.2.2.1)] [] := by
  unfold l_X12_plane_20 at h
  refine j_iload F 8 dX12_plane_20 rfl ?_
  refine j_iconst F 4 dX12_plane_22 (by decide) ?_
  refine j_icmpge F 126 dX12_plane_23 (by decide) h (fun _ h => ?_) (fun _ h => ?_)
  · refine j_lv [(0, .ref (gb γ + a0)), (1, .int a1), (2, .long x.1), (4, .long x.2.1), (6, .long x.2.2.1), (8, .long x.2.2.2.1), (10, .long x.2.2.2.2.1), (12, .long x.2.2.2.2.2.1)] [0, 1, 2, 3, 4, 5, 6, 7] rfl ?_
    exact s_X12_plane_126 F hr _ _ _ _ _ _ _ _ _ h
  · refine j_iload F 8 dX12_plane_26 rfl ?_
    refine j_iload_n F 1 dX12_plane_28 rfl ?_
    refine j_icmpne F 35 dX12_plane_29 (by decide) h (fun _ h => ?_) (fun _ h => ?_)
    · refine j_lload_n F 2 dX12_plane_35 rfl ?_
      refine j_lconst F 1 dX12_plane_36 (by decide) ?_
      refine j_ladd F dX12_plane_37 ?_
      refine j_nmL h (fun y15 h => ?_)
      refine j_lstore_n F [(2, .long y15), (0, .ref (gb γ + a0)), (1, .int a1), (4, .long x.2.1), (6, .long x.2.2.1), (8, .long x.2.2.2.1), (10, .long x.2.2.2.2.1), (12, .long x.2.2.2.2.2.1), (14, .int x.2.2.2.2.2.2.1)] dX12_plane_38 rfl (by decide) rfl ?_
      refine j_lload F 3 dX12_plane_39 rfl ?_
      refine j_aload_n F 1 dX12_plane_41 rfl ?_
      refine j_iload F 8 dX12_plane_42 rfl ?_
      refine j_cVI F mi_X12_x w_1111 (rest := [.long x.2.1]) h (fun _ g => c_X12_x g) rfl rfl (Nat.le_of_ble_eq_true rfl) ⟨Nat.le_of_ble_eq_true rfl, Nat.le_of_ble_eq_true rfl⟩ ⟨Nat.le_of_ble_eq_true rfl, Nat.le_of_ble_eq_true rfl⟩ dX12_plane_44 (fun q16 h => ?_)
      refine j_i2l F dX12_plane_47 ?_
      refine j_ladd F dX12_plane_48 ?_
      refine j_nmL h (fun y17 h => ?_)
      refine j_lstore F [(4, .long y17), (2, .long y15), (0, .ref (gb γ + a0)), (1, .int a1), (6, .long x.2.2.1), (8, .long x.2.2.2.1), (10, .long x.2.2.2.2.1), (12, .long x.2.2.2.2.2.1), (14, .int x.2.2.2.2.2.2.1)] dX12_plane_49 (by decide) rfl ?_
      refine j_lload F 4 dX12_plane_51 rfl ?_
      refine j_aload_n F 2 dX12_plane_53 rfl ?_
      refine j_iload F 8 dX12_plane_54 rfl ?_
      refine j_cVI F mi_X12_y w_1115 (rest := [.long x.2.2.1]) h (fun _ g => c_X12_y g) rfl rfl (Nat.le_of_ble_eq_true rfl) ⟨Nat.le_of_ble_eq_true rfl, Nat.le_of_ble_eq_true rfl⟩ ⟨Nat.le_of_ble_eq_true rfl, Nat.le_of_ble_eq_true rfl⟩ dX12_plane_56 (fun q18 h => ?_)
      refine j_i2l F dX12_plane_59 ?_
      refine j_ladd F dX12_plane_60 ?_
      refine j_nmL h (fun y19 h => ?_)
      refine j_lstore F [(6, .long y19), (4, .long y17), (2, .long y15), (0, .ref (gb γ + a0)), (1, .int a1), (8, .long x.2.2.2.1), (10, .long x.2.2.2.2.1), (12, .long x.2.2.2.2.2.1), (14, .int x.2.2.2.2.2.2.1)] dX12_plane_61 (by decide) rfl ?_
      refine j_lload F 5 dX12_plane_63 rfl ?_
      refine j_aload_n F 3 dX12_plane_65 rfl ?_
      refine j_iload F 8 dX12_plane_66 rfl ?_
      refine j_cVI F mi_X12_x w_1111 (rest := [.long x.2.2.2.1]) h (fun _ g => c_X12_x g) rfl rfl (Nat.le_of_ble_eq_true rfl) ⟨Nat.le_of_ble_eq_true rfl, Nat.le_of_ble_eq_true rfl⟩ ⟨Nat.le_of_ble_eq_true rfl, Nat.le_of_ble_eq_true rfl⟩ dX12_plane_68 (fun q20 h => ?_)
      refine j_aload_n F 3 dX12_plane_71 rfl ?_
      refine j_iload F 8 dX12_plane_72 rfl ?_
      refine j_cVI F mi_X12_x w_1111 (rest := [.int q20.1, .long x.2.2.2.1]) h (fun _ g => c_X12_x g) rfl rfl (Nat.le_of_ble_eq_true rfl) ⟨Nat.le_of_ble_eq_true rfl, Nat.le_of_ble_eq_true rfl⟩ ⟨Nat.le_of_ble_eq_true rfl, Nat.le_of_ble_eq_true rfl⟩ dX12_plane_74 (fun q21 h => ?_)
      refine j_imul F dX12_plane_77 ?_
      refine j_i2l F dX12_plane_78 ?_
      refine j_ladd F dX12_plane_79 ?_
      refine j_nmL h (fun y22 h => ?_)
      refine j_lstore F [(8, .long y22), (6, .long y19), (4, .long y17), (2, .long y15), (0, .ref (gb γ + a0)), (1, .int a1), (10, .long x.2.2.2.2.1), (12, .long x.2.2.2.2.2.1), (14, .int x.2.2.2.2.2.2.1)] dX12_plane_80 (by decide) rfl ?_
      refine j_lload F 6 dX12_plane_82 rfl ?_
      refine j_aload_n F 4 dX12_plane_84 rfl ?_
      refine j_iload F 8 dX12_plane_85 rfl ?_
      refine j_cVI F mi_X12_x w_1111 (rest := [.long x.2.2.2.2.1]) h (fun _ g => c_X12_x g) rfl rfl (Nat.le_of_ble_eq_true rfl) ⟨Nat.le_of_ble_eq_true rfl, Nat.le_of_ble_eq_true rfl⟩ ⟨Nat.le_of_ble_eq_true rfl, Nat.le_of_ble_eq_true rfl⟩ dX12_plane_87 (fun q23 h => ?_)
      refine j_aload_n F 4 dX12_plane_90 rfl ?_
      refine j_iload F 8 dX12_plane_91 rfl ?_
      refine j_cVI F mi_X12_y w_1115 (rest := [.int q23.1, .long x.2.2.2.2.1]) h (fun _ g => c_X12_y g) rfl rfl (Nat.le_of_ble_eq_true rfl) ⟨Nat.le_of_ble_eq_true rfl, Nat.le_of_ble_eq_true rfl⟩ ⟨Nat.le_of_ble_eq_true rfl, Nat.le_of_ble_eq_true rfl⟩ dX12_plane_93 (fun q24 h => ?_)
      refine j_imul F dX12_plane_96 ?_
      refine j_i2l F dX12_plane_97 ?_
      refine j_ladd F dX12_plane_98 ?_
      refine j_nmL h (fun y25 h => ?_)
      refine j_lstore F [(10, .long y25), (8, .long y22), (6, .long y19), (4, .long y17), (2, .long y15), (0, .ref (gb γ + a0)), (1, .int a1), (12, .long x.2.2.2.2.2.1), (14, .int x.2.2.2.2.2.2.1)] dX12_plane_99 (by decide) rfl ?_
      refine j_lload F 7 dX12_plane_101 rfl ?_
      refine j_aload_n F 5 dX12_plane_103 rfl ?_
      refine j_iload F 8 dX12_plane_104 rfl ?_
      refine j_cVI F mi_X12_y w_1115 (rest := [.long x.2.2.2.2.2.1]) h (fun _ g => c_X12_y g) rfl rfl (Nat.le_of_ble_eq_true rfl) ⟨Nat.le_of_ble_eq_true rfl, Nat.le_of_ble_eq_true rfl⟩ ⟨Nat.le_of_ble_eq_true rfl, Nat.le_of_ble_eq_true rfl⟩ dX12_plane_106 (fun q26 h => ?_)
      refine j_aload_n F 5 dX12_plane_109 rfl ?_
      refine j_iload F 8 dX12_plane_110 rfl ?_
      refine j_cVI F mi_X12_y w_1115 (rest := [.int q26.1, .long x.2.2.2.2.2.1]) h (fun _ g => c_X12_y g) rfl rfl (Nat.le_of_ble_eq_true rfl) ⟨Nat.le_of_ble_eq_true rfl, Nat.le_of_ble_eq_true rfl⟩ ⟨Nat.le_of_ble_eq_true rfl, Nat.le_of_ble_eq_true rfl⟩ dX12_plane_112 (fun q27 h => ?_)
      refine j_imul F dX12_plane_115 ?_
      refine j_i2l F dX12_plane_116 ?_
      refine j_ladd F dX12_plane_117 ?_
      refine j_nmL h (fun y28 h => ?_)
      refine j_lstore F [(12, .long y28), (10, .long y25), (8, .long y22), (6, .long y19), (4, .long y17), (2, .long y15), (0, .ref (gb γ + a0)), (1, .int a1), (14, .int x.2.2.2.2.2.2.1)] dX12_plane_118 (by decide) rfl ?_
      refine j_iinc F 1 8 [(14, .int (x.2.2.2.2.2.2.1 + 1)), (12, .long y28), (10, .long y25), (8, .long y22), (6, .long y19), (4, .long y17), (2, .long y15), (0, .ref (gb γ + a0)), (1, .int a1)] dX12_plane_120 rfl (by decide) (by decide) rfl ?_
      refine j_goto F 20 dX12_plane_123 (by decide) ?_
      refine j_lv [(0, .ref (gb γ + a0)), (1, .int a1), (2, .long y15), (4, .long y17), (6, .long y19), (8, .long y22), (10, .long y25), (12, .long y28), (14, .int (x.2.2.2.2.2.2.1 + 1))] [7, 8, 6, 5, 4, 3, 2, 1, 0] rfl ?_
      have h9 := hk20 _ h
      exact h9
    · refine j_goto F 120 dX12_plane_32 (by decide) ?_
      refine j_iinc F 1 8 [(14, .int (x.2.2.2.2.2.2.1 + 1)), (0, .ref (gb γ + a0)), (1, .int a1), (2, .long x.1), (4, .long x.2.1), (6, .long x.2.2.1), (8, .long x.2.2.2.1), (10, .long x.2.2.2.2.1), (12, .long x.2.2.2.2.2.1)] dX12_plane_120 rfl (by decide) (by decide) rfl ?_
      refine j_goto F 20 dX12_plane_123 (by decide) ?_
      refine j_lv [(0, .ref (gb γ + a0)), (1, .int a1), (2, .long x.1), (4, .long x.2.1), (6, .long x.2.2.1), (8, .long x.2.2.2.1), (10, .long x.2.2.2.2.1), (12, .long x.2.2.2.2.2.1), (14, .int (x.2.2.2.2.2.2.1 + 1))] [1, 2, 3, 4, 5, 6, 7, 8, 0] rfl ?_
      have h9 := hk20 _ h
      exact h9
theorem s_X12_plane_20 {γ : GE} {p : Program} {l : Launch} {e : Env} {s : State} {m : MethodId} {args : Array Value} {below : List Frame} {meth : Method} {c : Code} {S : SH} {X : (Unit × Mem)} (F : FX γ p s m args meth c cX12_plane RX12 29) (hr : meth.sig.returnType = (none)) (a0 : Nat) (a1 : Int32) (x : (Int64 × Int64 × Int64 × Int64 × Int64 × Int64 × Int32 × Mem)) (h : lpN (l_X12_plane_20 S a0 a1) fu x = some X) : JJ γ p l e rm_X12_plane s m args below meth c 29 0 0 (QV below γ S X args s 0 0) S x.2.2.2.2.2.2.2 20 [(0, .ref (gb γ + a0)), (1, .int a1), (2, .long x.1), (4, .long x.2.1), (6, .long x.2.2.1), (8, .long x.2.2.2.1), (10, .long x.2.2.2.2.1), (12, .long x.2.2.2.2.2.1), (14, .int x.2.2.2.2.2.2.1)] [] :=
 lpN_sound (fun x => JJ γ p l e rm_X12_plane s m args below meth c 29 0 0 (QV below γ S X args s 0 0) S x.2.2.2.2.2.2.2 20 [(0, .ref (gb γ + a0)), (1, .int a1), (2, .long x.1), (4, .long x.2.1), (6, .long x.2.2.1), (8, .long x.2.2.2.1), (10, .long x.2.2.2.2.1), (12, .long x.2.2.2.2.2.1), (14, .int x.2.2.2.2.2.2.1)] []) (fun k20 hk20 x h => t_X12_plane_20 F hr a0 a1 k20 hk20 x h) fu x h
def f_X12_plane (S : SH) (a0 : Nat) (a1 : Int32) (μ : Mem) : Option (Unit × Mem) :=
  if isO S 12 a0 = true then
  lpN (l_X12_plane_20 S  a0 a1) fu (0, 0, 0, 0, 0, 0, 0, μ)
  else none
set_option maxRecDepth 100000 in
set_option maxHeartbeats 4000000 in
theorem c_X12_plane {l : Launch} {γ : GE} {S : SH} {a0 : Nat} {a1 : Int32} {μ : Mem} {X : (Unit × Mem)} (h : f_X12_plane S a0 a1 μ = some X) : isO S 12 a0 = true ∧ Ct l γ yX12_plane cX12_plane 29 (none) rm_X12_plane [.ref (gb γ + a0), .int a1] S μ S X.2 none := by
  unfold f_X12_plane at h
  obtain ⟨h0, h⟩ := if_some h
  refine ⟨h0, ?_⟩
  have hJ : ∀ (p : Program) (e : Env) (s : State) (m : MethodId) (args : Array Value) (below : List Frame) (meth : Method) (c : Code), FX γ p s m args meth c cX12_plane RX12 29 → meth.sig.returnType = (none) → JJ γ p l e rm_X12_plane s m args below meth c 29 0 0 (QV below γ S X args s 0 0) S μ 0 [(0, .ref (gb γ + a0)), (1, .int a1)] [] := by
    intro p e s m args below meth c F hr
    refine j_lconst F 0 dX12_plane_0 (by decide) ?_
    refine j_lstore_n F [(2, .long 0), (0, .ref (gb γ + a0)), (1, .int a1)] dX12_plane_1 rfl (by decide) rfl ?_
    refine j_lconst F 0 dX12_plane_2 (by decide) ?_
    refine j_lstore F [(4, .long 0), (2, .long 0), (0, .ref (gb γ + a0)), (1, .int a1)] dX12_plane_3 (by decide) rfl ?_
    refine j_lconst F 0 dX12_plane_5 (by decide) ?_
    refine j_lstore F [(6, .long 0), (4, .long 0), (2, .long 0), (0, .ref (gb γ + a0)), (1, .int a1)] dX12_plane_6 (by decide) rfl ?_
    refine j_lconst F 0 dX12_plane_8 (by decide) ?_
    refine j_lstore F [(8, .long 0), (6, .long 0), (4, .long 0), (2, .long 0), (0, .ref (gb γ + a0)), (1, .int a1)] dX12_plane_9 (by decide) rfl ?_
    refine j_lconst F 0 dX12_plane_11 (by decide) ?_
    refine j_lstore F [(10, .long 0), (8, .long 0), (6, .long 0), (4, .long 0), (2, .long 0), (0, .ref (gb γ + a0)), (1, .int a1)] dX12_plane_12 (by decide) rfl ?_
    refine j_lconst F 0 dX12_plane_14 (by decide) ?_
    refine j_lstore F [(12, .long 0), (10, .long 0), (8, .long 0), (6, .long 0), (4, .long 0), (2, .long 0), (0, .ref (gb γ + a0)), (1, .int a1)] dX12_plane_15 (by decide) rfl ?_
    refine j_iconst F 0 dX12_plane_17 (by decide) ?_
    refine j_istore F [(14, .int 0), (12, .long 0), (10, .long 0), (8, .long 0), (6, .long 0), (4, .long 0), (2, .long 0), (0, .ref (gb γ + a0)), (1, .int a1)] dX12_plane_18 (by decide) rfl ?_
    refine j_lv [(0, .ref (gb γ + a0)), (1, .int a1), (2, .long 0), (4, .long 0), (6, .long 0), (8, .long 0), (10, .long 0), (12, .long 0), (14, .int 0)] [7, 8, 6, 5, 4, 3, 2, 1, 0] rfl ?_
    exact s_X12_plane_20 F hr _ _ _ h
  exact ct_of (by decide +kernel) (Nat.le_of_ble_eq_true rfl) (fun p e s m args below meth c F hr _ => hJ p e s m args below meth c F hr)
def rm_X12_least : Room := { frames := 0, cells := 0, slots := 0, locals := 0 }
theorem dX12_least_0 : decode cX12_least 0 = .ok (.iconst 0, 1) := by decide +kernel
theorem dX12_least_1 : decode cX12_least 1 = .ok (.istore_n 1, 1) := by decide +kernel
theorem dX12_least_2 : decode cX12_least 2 = .ok (.iconst 1, 1) := by decide +kernel
theorem dX12_least_3 : decode cX12_least 3 = .ok (.istore_n 2, 1) := by decide +kernel
theorem dX12_least_4 : decode cX12_least 4 = .ok (.iload_n 2, 1) := by decide +kernel
theorem dX12_least_5 : decode cX12_least 5 = .ok (.iconst 4, 1) := by decide +kernel
theorem dX12_least_6 : decode cX12_least 6 = .ok (.if_icmp .ge 31, 3) := by decide +kernel
theorem dX12_least_9 : decode cX12_least 9 = .ok (.aload_n 0, 1) := by decide +kernel
theorem dX12_least_10 : decode cX12_least 10 = .ok (.getfield 52, 3) := by decide +kernel
theorem dX12_least_13 : decode cX12_least 13 = .ok (.iload_n 2, 1) := by decide +kernel
theorem dX12_least_14 : decode cX12_least 14 = .ok (.laload, 1) := by decide +kernel
theorem dX12_least_15 : decode cX12_least 15 = .ok (.aload_n 0, 1) := by decide +kernel
theorem dX12_least_16 : decode cX12_least 16 = .ok (.getfield 52, 3) := by decide +kernel
theorem dX12_least_19 : decode cX12_least 19 = .ok (.iload_n 1, 1) := by decide +kernel
theorem dX12_least_20 : decode cX12_least 20 = .ok (.laload, 1) := by decide +kernel
theorem dX12_least_21 : decode cX12_least 21 = .ok (.lcmp, 1) := by decide +kernel
theorem dX12_least_22 : decode cX12_least 22 = .ok (.ifCond .ge 7, 3) := by decide +kernel
theorem dX12_least_25 : decode cX12_least 25 = .ok (.iload_n 2, 1) := by decide +kernel
theorem dX12_least_26 : decode cX12_least 26 = .ok (.goto 4, 3) := by decide +kernel
theorem dX12_least_29 : decode cX12_least 29 = .ok (.iload_n 1, 1) := by decide +kernel
theorem dX12_least_30 : decode cX12_least 30 = .ok (.istore_n 1, 1) := by decide +kernel
theorem dX12_least_31 : decode cX12_least 31 = .ok (.iinc 2 1, 3) := by decide +kernel
theorem dX12_least_34 : decode cX12_least 34 = .ok (.goto (-30), 3) := by decide +kernel
theorem dX12_least_37 : decode cX12_least 37 = .ok (.iload_n 1, 1) := by decide +kernel
theorem dX12_least_38 : decode cX12_least 38 = .ok (.ireturn, 1) := by decide +kernel
def l_X12_least_4 (S : SH) (a0 : Nat) (k4 : (Int32 × Int32 × Mem) → Option (Int32 × Mem)) (x : (Int32 × Int32 × Mem)) : Option (Int32 × Mem) :=
 (if 4 ≤ x.2.1 then
 some (x.1, x.2.2)
 else
 (gR S 12 a0 16).bind fun v1 =>
 (aL S v1 x.2.1 x.2.2).bind fun v2 =>
 (gR S 12 a0 16).bind fun v3 =>
 (aL S v3 x.1 x.2.2).bind fun v4 =>
 (if v4 ≤ v2 then
 k4 (x.1, x.2.1 + 1, x.2.2)
 else
 k4 (x.2.1, x.2.1 + 1, x.2.2)))
set_option maxRecDepth 100000 in
set_option maxHeartbeats 4000000 in
theorem t_X12_least_4 {γ : GE} {p : Program} {l : Launch} {e : Env} {s : State} {m : MethodId} {args : Array Value} {below : List Frame} {meth : Method} {c : Code} {S : SH} {X : (Int32 × Mem)} (F : FX γ p s m args meth c cX12_least RX12 3) (hr : meth.sig.returnType = (some .int)) (a0 : Nat) (k4 : (Int32 × Int32 × Mem) → Option (Int32 × Mem)) (hk4 : ∀ x : (Int32 × Int32 × Mem), k4 x = some X → JJ γ p l e rm_X12_least s m args below meth c 3 0 0 (QI below γ S X args s 0 0) S x.2.2 4 [(0, .ref (gb γ + a0)), (1, .int x.1), (2, .int x.2.1)] []) (x : (Int32 × Int32 × Mem)) (h : l_X12_least_4 S a0 k4 x = some X) : JJ γ p l e rm_X12_least s m args below meth c 3 0 0 (QI below γ S X args s 0 0) S x.2.2 4 [(0, .ref (gb γ + a0)), (1, .int x.1), (2, .int x.2.1)] [] := by
  unfold l_X12_least_4 at h
  refine j_iload_n F 2 dX12_least_4 rfl ?_
  refine j_iconst F 4 dX12_least_5 (by decide) ?_
  refine j_icmpge F 37 dX12_least_6 (by decide) h (fun _ h => ?_) (fun _ h => ?_)
  · refine j_iload_n F 1 dX12_least_37 rfl ?_
    exact j_iret F hr dX12_least_38 h
  · refine j_aload_n F 0 dX12_least_9 rfl ?_
    refine j_gR F fl_RX12_52 rfl dX12_least_10 h (fun v1 h => ?_)
    refine j_iload_n F 2 dX12_least_13 rfl ?_
    refine j_lald F dX12_least_14 h (fun v2 h => ?_)
    refine j_aload_n F 0 dX12_least_15 rfl ?_
    refine j_gR F fl_RX12_52 rfl dX12_least_16 h (fun v3 h => ?_)
    refine j_iload_n F 1 dX12_least_19 rfl ?_
    refine j_lald F dX12_least_20 h (fun v4 h => ?_)
    refine j_lcmpge F 29 dX12_least_21 dX12_least_22 (by decide) h (fun _ h => ?_) (fun _ h => ?_)
    · refine j_iload_n F 1 dX12_least_29 rfl ?_
      refine j_istore_n F [(1, .int x.1), (0, .ref (gb γ + a0)), (2, .int x.2.1)] dX12_least_30 rfl (by decide) rfl ?_
      refine j_iinc F 1 2 [(2, .int (x.2.1 + 1)), (1, .int x.1), (0, .ref (gb γ + a0))] dX12_least_31 rfl (by decide) (by decide) rfl ?_
      refine j_goto F 4 dX12_least_34 (by decide) ?_
      refine j_lv [(0, .ref (gb γ + a0)), (1, .int x.1), (2, .int (x.2.1 + 1))] [2, 1, 0] rfl ?_
      have h9 := hk4 _ h
      exact h9
    · refine j_iload_n F 2 dX12_least_25 rfl ?_
      refine j_goto F 30 dX12_least_26 (by decide) ?_
      refine j_istore_n F [(1, .int x.2.1), (0, .ref (gb γ + a0)), (2, .int x.2.1)] dX12_least_30 rfl (by decide) rfl ?_
      refine j_iinc F 1 2 [(2, .int (x.2.1 + 1)), (1, .int x.2.1), (0, .ref (gb γ + a0))] dX12_least_31 rfl (by decide) (by decide) rfl ?_
      refine j_goto F 4 dX12_least_34 (by decide) ?_
      refine j_lv [(0, .ref (gb γ + a0)), (1, .int x.2.1), (2, .int (x.2.1 + 1))] [2, 1, 0] rfl ?_
      have h9 := hk4 _ h
      exact h9
theorem s_X12_least_4 {γ : GE} {p : Program} {l : Launch} {e : Env} {s : State} {m : MethodId} {args : Array Value} {below : List Frame} {meth : Method} {c : Code} {S : SH} {X : (Int32 × Mem)} (F : FX γ p s m args meth c cX12_least RX12 3) (hr : meth.sig.returnType = (some .int)) (a0 : Nat) (x : (Int32 × Int32 × Mem)) (h : lpN (l_X12_least_4 S a0) fu x = some X) : JJ γ p l e rm_X12_least s m args below meth c 3 0 0 (QI below γ S X args s 0 0) S x.2.2 4 [(0, .ref (gb γ + a0)), (1, .int x.1), (2, .int x.2.1)] [] :=
 lpN_sound (fun x => JJ γ p l e rm_X12_least s m args below meth c 3 0 0 (QI below γ S X args s 0 0) S x.2.2 4 [(0, .ref (gb γ + a0)), (1, .int x.1), (2, .int x.2.1)] []) (fun k4 hk4 x h => t_X12_least_4 F hr a0 k4 hk4 x h) fu x h
def f_X12_least (S : SH) (a0 : Nat) (μ : Mem) : Option (Int32 × Mem) :=
  if isO S 12 a0 = true then
  lpN (l_X12_least_4 S  a0) fu (0, 1, μ)
  else none
set_option maxRecDepth 100000 in
set_option maxHeartbeats 4000000 in
theorem c_X12_least {l : Launch} {γ : GE} {S : SH} {a0 : Nat} {μ : Mem} {X : (Int32 × Mem)} (h : f_X12_least S a0 μ = some X) : isO S 12 a0 = true ∧ Ct l γ yX12_least cX12_least 3 (some .int) rm_X12_least [.ref (gb γ + a0)] S μ S X.2 (some (.int X.1)) := by
  unfold f_X12_least at h
  obtain ⟨h0, h⟩ := if_some h
  refine ⟨h0, ?_⟩
  have hJ : ∀ (p : Program) (e : Env) (s : State) (m : MethodId) (args : Array Value) (below : List Frame) (meth : Method) (c : Code), FX γ p s m args meth c cX12_least RX12 3 → meth.sig.returnType = (some .int) → JJ γ p l e rm_X12_least s m args below meth c 3 0 0 (QI below γ S X args s 0 0) S μ 0 [(0, .ref (gb γ + a0))] [] := by
    intro p e s m args below meth c F hr
    refine j_iconst F 0 dX12_least_0 (by decide) ?_
    refine j_istore_n F [(1, .int 0), (0, .ref (gb γ + a0))] dX12_least_1 rfl (by decide) rfl ?_
    refine j_iconst F 1 dX12_least_2 (by decide) ?_
    refine j_istore_n F [(2, .int 1), (1, .int 0), (0, .ref (gb γ + a0))] dX12_least_3 rfl (by decide) rfl ?_
    refine j_lv [(0, .ref (gb γ + a0)), (1, .int 0), (2, .int 1)] [2, 1, 0] rfl ?_
    exact s_X12_least_4 F hr _ _ h
  exact ct_of (by decide +kernel) (Nat.le_of_ble_eq_true rfl) (fun p e s m args below meth c F hr _ => hJ p e s m args below meth c F hr)
def rm_X12_pushes : Room := { frames := 5, cells := 0, slots := 0, locals := 103 }
theorem dX12_pushes_0 : decode cX12_pushes 0 = .ok (.aload_n 0, 1) := by decide +kernel
theorem dX12_pushes_1 : decode cX12_pushes 1 = .ok (.invokevirtual 193, 3) := by decide +kernel
theorem dX12_pushes_4 : decode cX12_pushes 4 = .ok (.aload_n 0, 1) := by decide +kernel
theorem dX12_pushes_5 : decode cX12_pushes 5 = .ok (.bipush (-5), 2) := by decide +kernel
theorem dX12_pushes_7 : decode cX12_pushes 7 = .ok (.putfield 218, 3) := by decide +kernel
theorem dX12_pushes_10 : decode cX12_pushes 10 = .ok (.aload_n 0, 1) := by decide +kernel
theorem dX12_pushes_11 : decode cX12_pushes 11 = .ok (.invokevirtual 110, 3) := by decide +kernel
theorem dX12_pushes_14 : decode cX12_pushes 14 = .ok (.ifCond .ne 5, 3) := by decide +kernel
theorem dX12_pushes_17 : decode cX12_pushes 17 = .ok (.iconst 1, 1) := by decide +kernel
theorem dX12_pushes_18 : decode cX12_pushes 18 = .ok (.ireturn, 1) := by decide +kernel
theorem dX12_pushes_19 : decode cX12_pushes 19 = .ok (.aload_n 0, 1) := by decide +kernel
theorem dX12_pushes_20 : decode cX12_pushes 20 = .ok (.invokevirtual 221, 3) := by decide +kernel
theorem dX12_pushes_23 : decode cX12_pushes 23 = .ok (.ifCond .ne 13, 3) := by decide +kernel
theorem dX12_pushes_26 : decode cX12_pushes 26 = .ok (.aload_n 0, 1) := by decide +kernel
theorem dX12_pushes_27 : decode cX12_pushes 27 = .ok (.iconst 0, 1) := by decide +kernel
theorem dX12_pushes_28 : decode cX12_pushes 28 = .ok (.invokevirtual 196, 3) := by decide +kernel
theorem dX12_pushes_31 : decode cX12_pushes 31 = .ok (.lconst 0, 1) := by decide +kernel
theorem dX12_pushes_32 : decode cX12_pushes 32 = .ok (.lcmp, 1) := by decide +kernel
theorem dX12_pushes_33 : decode cX12_pushes 33 = .ok (.ifCond .ne 5, 3) := by decide +kernel
theorem dX12_pushes_36 : decode cX12_pushes 36 = .ok (.iconst 2, 1) := by decide +kernel
theorem dX12_pushes_37 : decode cX12_pushes 37 = .ok (.ireturn, 1) := by decide +kernel
theorem dX12_pushes_38 : decode cX12_pushes 38 = .ok (.aload_n 0, 1) := by decide +kernel
theorem dX12_pushes_39 : decode cX12_pushes 39 = .ok (.iconst (-1), 1) := by decide +kernel
theorem dX12_pushes_40 : decode cX12_pushes 40 = .ok (.invokevirtual 224, 3) := by decide +kernel
theorem dX12_pushes_43 : decode cX12_pushes 43 = .ok (.aload_n 0, 1) := by decide +kernel
theorem dX12_pushes_44 : decode cX12_pushes 44 = .ok (.getfield 52, 3) := by decide +kernel
theorem dX12_pushes_47 : decode cX12_pushes 47 = .ok (.aload_n 0, 1) := by decide +kernel
theorem dX12_pushes_48 : decode cX12_pushes 48 = .ok (.invokevirtual 228, 3) := by decide +kernel
theorem dX12_pushes_51 : decode cX12_pushes 51 = .ok (.laload, 1) := by decide +kernel
theorem dX12_pushes_52 : decode cX12_pushes 52 = .ok (.lconst 0, 1) := by decide +kernel
theorem dX12_pushes_53 : decode cX12_pushes 53 = .ok (.lcmp, 1) := by decide +kernel
theorem dX12_pushes_54 : decode cX12_pushes 54 = .ok (.ifCond .ge 35, 3) := by decide +kernel
theorem dX12_pushes_57 : decode cX12_pushes 57 = .ok (.aload_n 0, 1) := by decide +kernel
theorem dX12_pushes_58 : decode cX12_pushes 58 = .ok (.aload_n 0, 1) := by decide +kernel
theorem dX12_pushes_59 : decode cX12_pushes 59 = .ok (.invokevirtual 228, 3) := by decide +kernel
theorem dX12_pushes_62 : decode cX12_pushes 62 = .ok (.putfield 218, 3) := by decide +kernel
theorem dX12_pushes_65 : decode cX12_pushes 65 = .ok (.aload_n 0, 1) := by decide +kernel
theorem dX12_pushes_66 : decode cX12_pushes 66 = .ok (.aload_n 0, 1) := by decide +kernel
theorem dX12_pushes_67 : decode cX12_pushes 67 = .ok (.getfield 218, 3) := by decide +kernel
theorem dX12_pushes_70 : decode cX12_pushes 70 = .ok (.invokevirtual 224, 3) := by decide +kernel
theorem dX12_pushes_73 : decode cX12_pushes 73 = .ok (.aload_n 0, 1) := by decide +kernel
theorem dX12_pushes_74 : decode cX12_pushes 74 = .ok (.getfield 52, 3) := by decide +kernel
theorem dX12_pushes_77 : decode cX12_pushes 77 = .ok (.aload_n 0, 1) := by decide +kernel
theorem dX12_pushes_78 : decode cX12_pushes 78 = .ok (.invokevirtual 228, 3) := by decide +kernel
theorem dX12_pushes_81 : decode cX12_pushes 81 = .ok (.laload, 1) := by decide +kernel
theorem dX12_pushes_82 : decode cX12_pushes 82 = .ok (.lconst 0, 1) := by decide +kernel
theorem dX12_pushes_83 : decode cX12_pushes 83 = .ok (.lcmp, 1) := by decide +kernel
theorem dX12_pushes_84 : decode cX12_pushes 84 = .ok (.ifCond .ge 5, 3) := by decide +kernel
theorem dX12_pushes_87 : decode cX12_pushes 87 = .ok (.iconst 3, 1) := by decide +kernel
theorem dX12_pushes_88 : decode cX12_pushes 88 = .ok (.ireturn, 1) := by decide +kernel
theorem dX12_pushes_89 : decode cX12_pushes 89 = .ok (.iconst 0, 1) := by decide +kernel
theorem dX12_pushes_90 : decode cX12_pushes 90 = .ok (.ireturn, 1) := by decide +kernel
def f_X12_pushes (S : SH) (a0 : Nat) (μ : Mem) : Option (Int32 × Mem) :=
  if isO S 12 a0 = true then
  (f_X12_looks S a0 μ).bind fun q1 =>
  (pI S 12 a0 18 (-5) q1.2).bind fun ν2 =>
  (f_X12_stands S a0 ν2).bind fun q3 =>
  (if q3.1 = 0 then
  some (1, q3.2)
  else
  (f_X12_tips S a0 q3.2).bind fun q4 =>
  (if q4.1 = 0 then
  (f_X12_sum S a0 0 q4.2).bind fun q5 =>
  (if q5.1 = 0 then
  some (2, q5.2)
  else
  (f_X12_plane S a0 (-1) q5.2).bind fun q6 =>
  (gR S 12 a0 16).bind fun v7 =>
  (f_X12_least S a0 q6.2).bind fun q8 =>
  (aL S v7 q8.1 q8.2).bind fun v9 =>
  (if 0 ≤ v9 then
  some (0, q8.2)
  else
  (f_X12_least S a0 q8.2).bind fun q10 =>
  (pI S 12 a0 18 q10.1 q10.2).bind fun ν11 =>
  (gI S 12 a0 18 ν11).bind fun v12 =>
  (f_X12_plane S a0 v12 ν11).bind fun q13 =>
  (gR S 12 a0 16).bind fun v14 =>
  (f_X12_least S a0 q13.2).bind fun q15 =>
  (aL S v14 q15.1 q15.2).bind fun v16 =>
  (if 0 ≤ v16 then
  some (0, q15.2)
  else
  some (3, q15.2))))
  else
  some (2, q4.2)))
  else none
set_option maxRecDepth 100000 in
set_option maxHeartbeats 4000000 in
theorem c_X12_pushes {l : Launch} {γ : GE} {S : SH} {a0 : Nat} {μ : Mem} {X : (Int32 × Mem)} (h : f_X12_pushes S a0 μ = some X) : isO S 12 a0 = true ∧ Ct l γ yX12_pushes cX12_pushes 1 (some .int) rm_X12_pushes [.ref (gb γ + a0)] S μ S X.2 (some (.int X.1)) := by
  unfold f_X12_pushes at h
  obtain ⟨h0, h⟩ := if_some h
  refine ⟨h0, ?_⟩
  have hJ : ∀ (p : Program) (e : Env) (s : State) (m : MethodId) (args : Array Value) (below : List Frame) (meth : Method) (c : Code), FX γ p s m args meth c cX12_pushes RX12 1 → meth.sig.returnType = (some .int) → JJ γ p l e rm_X12_pushes s m args below meth c 1 0 0 (QI below γ S X args s 0 0) S μ 0 [(0, .ref (gb γ + a0))] [] := by
    intro p e s m args below meth c F hr
    refine j_aload_n F 0 dX12_pushes_0 rfl ?_
    refine j_cVV F mi_X12_looks w_1203 (rest := []) h (fun _ g => c_X12_looks g) rfl rfl (Nat.le_of_ble_eq_true rfl) ⟨Nat.le_of_ble_eq_true rfl, Nat.le_of_ble_eq_true rfl⟩ ⟨Nat.le_of_ble_eq_true rfl, Nat.le_of_ble_eq_true rfl⟩ dX12_pushes_1 (fun q1 h => ?_)
    refine j_aload_n F 0 dX12_pushes_4 rfl ?_
    refine j_bipush F (-5) dX12_pushes_5 (by decide) ?_
    refine j_pI F fl_RX12_218 rfl dX12_pushes_7 h (fun ν2 h => ?_)
    refine j_aload_n F 0 dX12_pushes_10 rfl ?_
    refine j_cVI F mi_X12_stands w_1107 (rest := []) h (fun _ g => c_X12_stands g) rfl rfl (Nat.le_of_ble_eq_true rfl) ⟨Nat.le_of_ble_eq_true rfl, Nat.le_of_ble_eq_true rfl⟩ ⟨Nat.le_of_ble_eq_true rfl, Nat.le_of_ble_eq_true rfl⟩ dX12_pushes_11 (fun q3 h => ?_)
    refine j_ifne F 19 dX12_pushes_14 (by decide) h (fun _ h => ?_) (fun _ h => ?_)
    · refine j_aload_n F 0 dX12_pushes_19 rfl ?_
      refine j_cVI F mi_X12_tips w_1265 (rest := []) h (fun _ g => c_X12_tips g) rfl rfl (Nat.le_of_ble_eq_true rfl) ⟨Nat.le_of_ble_eq_true rfl, Nat.le_of_ble_eq_true rfl⟩ ⟨Nat.le_of_ble_eq_true rfl, Nat.le_of_ble_eq_true rfl⟩ dX12_pushes_20 (fun q4 h => ?_)
      refine j_ifne F 36 dX12_pushes_23 (by decide) h (fun _ h => ?_) (fun _ h => ?_)
      · refine j_iconst F 2 dX12_pushes_36 (by decide) ?_
        exact j_iret F hr dX12_pushes_37 h
      · refine j_aload_n F 0 dX12_pushes_26 rfl ?_
        refine j_iconst F 0 dX12_pushes_27 (by decide) ?_
        refine j_cVJ F mi_X12_sum w_1223 (rest := []) h (fun _ g => c_X12_sum g) rfl rfl (Nat.le_of_ble_eq_true rfl) ⟨Nat.le_of_ble_eq_true rfl, Nat.le_of_ble_eq_true rfl⟩ ⟨Nat.le_of_ble_eq_true rfl, Nat.le_of_ble_eq_true rfl⟩ dX12_pushes_28 (fun q5 h => ?_)
        refine j_lconst F 0 dX12_pushes_31 (by decide) ?_
        refine j_lcmpne F 38 dX12_pushes_32 dX12_pushes_33 (by decide) h (fun _ h => ?_) (fun _ h => ?_)
        · refine j_aload_n F 0 dX12_pushes_38 rfl ?_
          refine j_iconst F (-1) dX12_pushes_39 (by decide) ?_
          refine j_cVV F mi_X12_plane w_1269 (rest := []) h (fun _ g => c_X12_plane g) rfl rfl (Nat.le_of_ble_eq_true rfl) ⟨Nat.le_of_ble_eq_true rfl, Nat.le_of_ble_eq_true rfl⟩ ⟨Nat.le_of_ble_eq_true rfl, Nat.le_of_ble_eq_true rfl⟩ dX12_pushes_40 (fun q6 h => ?_)
          refine j_aload_n F 0 dX12_pushes_43 rfl ?_
          refine j_gR F fl_RX12_52 rfl dX12_pushes_44 h (fun v7 h => ?_)
          refine j_aload_n F 0 dX12_pushes_47 rfl ?_
          refine j_cVI F mi_X12_least w_1276 (rest := [.ref (gb γ + v7)]) h (fun _ g => c_X12_least g) rfl rfl (Nat.le_of_ble_eq_true rfl) ⟨Nat.le_of_ble_eq_true rfl, Nat.le_of_ble_eq_true rfl⟩ ⟨Nat.le_of_ble_eq_true rfl, Nat.le_of_ble_eq_true rfl⟩ dX12_pushes_48 (fun q8 h => ?_)
          refine j_lald F dX12_pushes_51 h (fun v9 h => ?_)
          refine j_lconst F 0 dX12_pushes_52 (by decide) ?_
          refine j_lcmpge F 89 dX12_pushes_53 dX12_pushes_54 (by decide) h (fun _ h => ?_) (fun _ h => ?_)
          · refine j_iconst F 0 dX12_pushes_89 (by decide) ?_
            exact j_iret F hr dX12_pushes_90 h
          · refine j_aload_n F 0 dX12_pushes_57 rfl ?_
            refine j_aload_n F 0 dX12_pushes_58 rfl ?_
            refine j_cVI F mi_X12_least w_1276 (rest := [.ref (gb γ + a0)]) h (fun _ g => c_X12_least g) rfl rfl (Nat.le_of_ble_eq_true rfl) ⟨Nat.le_of_ble_eq_true rfl, Nat.le_of_ble_eq_true rfl⟩ ⟨Nat.le_of_ble_eq_true rfl, Nat.le_of_ble_eq_true rfl⟩ dX12_pushes_59 (fun q10 h => ?_)
            refine j_pI F fl_RX12_218 rfl dX12_pushes_62 h (fun ν11 h => ?_)
            refine j_aload_n F 0 dX12_pushes_65 rfl ?_
            refine j_aload_n F 0 dX12_pushes_66 rfl ?_
            refine j_gI F fl_RX12_218.l rfl dX12_pushes_67 h (fun v12 h => ?_)
            refine j_cVV F mi_X12_plane w_1269 (rest := []) h (fun _ g => c_X12_plane g) rfl rfl (Nat.le_of_ble_eq_true rfl) ⟨Nat.le_of_ble_eq_true rfl, Nat.le_of_ble_eq_true rfl⟩ ⟨Nat.le_of_ble_eq_true rfl, Nat.le_of_ble_eq_true rfl⟩ dX12_pushes_70 (fun q13 h => ?_)
            refine j_aload_n F 0 dX12_pushes_73 rfl ?_
            refine j_gR F fl_RX12_52 rfl dX12_pushes_74 h (fun v14 h => ?_)
            refine j_aload_n F 0 dX12_pushes_77 rfl ?_
            refine j_cVI F mi_X12_least w_1276 (rest := [.ref (gb γ + v14)]) h (fun _ g => c_X12_least g) rfl rfl (Nat.le_of_ble_eq_true rfl) ⟨Nat.le_of_ble_eq_true rfl, Nat.le_of_ble_eq_true rfl⟩ ⟨Nat.le_of_ble_eq_true rfl, Nat.le_of_ble_eq_true rfl⟩ dX12_pushes_78 (fun q15 h => ?_)
            refine j_lald F dX12_pushes_81 h (fun v16 h => ?_)
            refine j_lconst F 0 dX12_pushes_82 (by decide) ?_
            refine j_lcmpge F 89 dX12_pushes_83 dX12_pushes_84 (by decide) h (fun _ h => ?_) (fun _ h => ?_)
            · refine j_iconst F 0 dX12_pushes_89 (by decide) ?_
              exact j_iret F hr dX12_pushes_90 h
            · refine j_iconst F 3 dX12_pushes_87 (by decide) ?_
              exact j_iret F hr dX12_pushes_88 h
        · refine j_iconst F 2 dX12_pushes_36 (by decide) ?_
          exact j_iret F hr dX12_pushes_37 h
    · refine j_iconst F 1 dX12_pushes_17 (by decide) ?_
      exact j_iret F hr dX12_pushes_18 h
  exact ct_of (by decide +kernel) (Nat.le_of_ble_eq_true rfl) (fun p e s m args below meth c F hr _ => hJ p e s m args below meth c F hr)
def rm_X12_isAboveLimit : Room := { frames := 0, cells := 0, slots := 0, locals := 0 }
theorem dX12_isAboveLimit_0 : decode cX12_isAboveLimit 0 = .ok (.iconst 0, 1) := by decide +kernel
theorem dX12_isAboveLimit_1 : decode cX12_isAboveLimit 1 = .ok (.istore_n 1, 1) := by decide +kernel
theorem dX12_isAboveLimit_2 : decode cX12_isAboveLimit 2 = .ok (.iload_n 1, 1) := by decide +kernel
theorem dX12_isAboveLimit_3 : decode cX12_isAboveLimit 3 = .ok (.iconst 4, 1) := by decide +kernel
theorem dX12_isAboveLimit_4 : decode cX12_isAboveLimit 4 = .ok (.if_icmp .ge 37, 3) := by decide +kernel
theorem dX12_isAboveLimit_7 : decode cX12_isAboveLimit 7 = .ok (.aload_n 0, 1) := by decide +kernel
theorem dX12_isAboveLimit_8 : decode cX12_isAboveLimit 8 = .ok (.getfield 52, 3) := by decide +kernel
theorem dX12_isAboveLimit_11 : decode cX12_isAboveLimit 11 = .ok (.iload_n 1, 1) := by decide +kernel
theorem dX12_isAboveLimit_12 : decode cX12_isAboveLimit 12 = .ok (.laload, 1) := by decide +kernel
theorem dX12_isAboveLimit_13 : decode cX12_isAboveLimit 13 = .ok (.aload_n 0, 1) := by decide +kernel
theorem dX12_isAboveLimit_14 : decode cX12_isAboveLimit 14 = .ok (.getfield 9, 3) := by decide +kernel
theorem dX12_isAboveLimit_17 : decode cX12_isAboveLimit 17 = .ok (.iconst 3, 1) := by decide +kernel
theorem dX12_isAboveLimit_18 : decode cX12_isAboveLimit 18 = .ok (.iload_n 1, 1) := by decide +kernel
theorem dX12_isAboveLimit_19 : decode cX12_isAboveLimit 19 = .ok (.imul, 1) := by decide +kernel
theorem dX12_isAboveLimit_20 : decode cX12_isAboveLimit 20 = .ok (.iconst 2, 1) := by decide +kernel
theorem dX12_isAboveLimit_21 : decode cX12_isAboveLimit 21 = .ok (.iadd, 1) := by decide +kernel
theorem dX12_isAboveLimit_22 : decode cX12_isAboveLimit 22 = .ok (.iaload, 1) := by decide +kernel
theorem dX12_isAboveLimit_23 : decode cX12_isAboveLimit 23 = .ok (.i2l, 1) := by decide +kernel
theorem dX12_isAboveLimit_24 : decode cX12_isAboveLimit 24 = .ok (.aload_n 0, 1) := by decide +kernel
theorem dX12_isAboveLimit_25 : decode cX12_isAboveLimit 25 = .ok (.getfield 214, 3) := by decide +kernel
theorem dX12_isAboveLimit_28 : decode cX12_isAboveLimit 28 = .ok (.lmul, 1) := by decide +kernel
theorem dX12_isAboveLimit_29 : decode cX12_isAboveLimit 29 = .ok (.lcmp, 1) := by decide +kernel
theorem dX12_isAboveLimit_30 : decode cX12_isAboveLimit 30 = .ok (.ifCond .le 5, 3) := by decide +kernel
theorem dX12_isAboveLimit_33 : decode cX12_isAboveLimit 33 = .ok (.iconst 1, 1) := by decide +kernel
theorem dX12_isAboveLimit_34 : decode cX12_isAboveLimit 34 = .ok (.ireturn, 1) := by decide +kernel
theorem dX12_isAboveLimit_35 : decode cX12_isAboveLimit 35 = .ok (.iinc 1 1, 3) := by decide +kernel
theorem dX12_isAboveLimit_38 : decode cX12_isAboveLimit 38 = .ok (.goto (-36), 3) := by decide +kernel
theorem dX12_isAboveLimit_41 : decode cX12_isAboveLimit 41 = .ok (.iconst 0, 1) := by decide +kernel
theorem dX12_isAboveLimit_42 : decode cX12_isAboveLimit 42 = .ok (.ireturn, 1) := by decide +kernel
def l_X12_isAboveLimit_2 (S : SH) (a0 : Nat) (k2 : (Int32 × Mem) → Option (Int32 × Mem)) (x : (Int32 × Mem)) : Option (Int32 × Mem) :=
 (if 4 ≤ x.1 then
 some (0, x.2)
 else
 (gR S 12 a0 16).bind fun v1 =>
 (aL S v1 x.1 x.2).bind fun v2 =>
 (gR S 12 a0 0).bind fun v3 =>
 (aI S .int v3 ((3 * x.1) + 2) x.2).bind fun v4 =>
 (gL S 12 a0 17 x.2).bind fun v5 =>
 (if v2 ≤ (v4.toInt64 * v5) then
 k2 (x.1 + 1, x.2)
 else
 some (1, x.2)))
set_option maxRecDepth 100000 in
set_option maxHeartbeats 4000000 in
theorem t_X12_isAboveLimit_2 {γ : GE} {p : Program} {l : Launch} {e : Env} {s : State} {m : MethodId} {args : Array Value} {below : List Frame} {meth : Method} {c : Code} {S : SH} {X : (Int32 × Mem)} (F : FX γ p s m args meth c cX12_isAboveLimit RX12 2) (hr : meth.sig.returnType = (some .boolean)) (a0 : Nat) (k2 : (Int32 × Mem) → Option (Int32 × Mem)) (hk2 : ∀ x : (Int32 × Mem), k2 x = some X → JJ γ p l e rm_X12_isAboveLimit s m args below meth c 2 0 0 (QI below γ S X args s 0 0) S x.2 2 [(0, .ref (gb γ + a0)), (1, .int x.1)] []) (x : (Int32 × Mem)) (h : l_X12_isAboveLimit_2 S a0 k2 x = some X) : JJ γ p l e rm_X12_isAboveLimit s m args below meth c 2 0 0 (QI below γ S X args s 0 0) S x.2 2 [(0, .ref (gb γ + a0)), (1, .int x.1)] [] := by
  unfold l_X12_isAboveLimit_2 at h
  refine j_iload_n F 1 dX12_isAboveLimit_2 rfl ?_
  refine j_iconst F 4 dX12_isAboveLimit_3 (by decide) ?_
  refine j_icmpge F 41 dX12_isAboveLimit_4 (by decide) h (fun _ h => ?_) (fun _ h => ?_)
  · refine j_iconst F 0 dX12_isAboveLimit_41 (by decide) ?_
    exact j_zret F hr (Or.inl rfl) dX12_isAboveLimit_42 h
  · refine j_aload_n F 0 dX12_isAboveLimit_7 rfl ?_
    refine j_gR F fl_RX12_52 rfl dX12_isAboveLimit_8 h (fun v1 h => ?_)
    refine j_iload_n F 1 dX12_isAboveLimit_11 rfl ?_
    refine j_lald F dX12_isAboveLimit_12 h (fun v2 h => ?_)
    refine j_aload_n F 0 dX12_isAboveLimit_13 rfl ?_
    refine j_gR F fl_RX12_9 rfl dX12_isAboveLimit_14 h (fun v3 h => ?_)
    refine j_iconst F 3 dX12_isAboveLimit_17 (by decide) ?_
    refine j_iload_n F 1 dX12_isAboveLimit_18 rfl ?_
    refine j_imul F dX12_isAboveLimit_19 ?_
    refine j_iconst F 2 dX12_isAboveLimit_20 (by decide) ?_
    refine j_iadd F dX12_isAboveLimit_21 ?_
    refine j_iald F dX12_isAboveLimit_22 h (fun v4 h => ?_)
    refine j_i2l F dX12_isAboveLimit_23 ?_
    refine j_aload_n F 0 dX12_isAboveLimit_24 rfl ?_
    refine j_gL F fl_RX12_214.l rfl dX12_isAboveLimit_25 h (fun v5 h => ?_)
    refine j_lmul F dX12_isAboveLimit_28 ?_
    refine j_lcmple F 35 dX12_isAboveLimit_29 dX12_isAboveLimit_30 (by decide) h (fun _ h => ?_) (fun _ h => ?_)
    · refine j_iinc F 1 1 [(1, .int (x.1 + 1)), (0, .ref (gb γ + a0))] dX12_isAboveLimit_35 rfl (by decide) (by decide) rfl ?_
      refine j_goto F 2 dX12_isAboveLimit_38 (by decide) ?_
      refine j_lv [(0, .ref (gb γ + a0)), (1, .int (x.1 + 1))] [1, 0] rfl ?_
      have h9 := hk2 _ h
      exact h9
    · refine j_iconst F 1 dX12_isAboveLimit_33 (by decide) ?_
      exact j_zret F hr (Or.inr rfl) dX12_isAboveLimit_34 h
theorem s_X12_isAboveLimit_2 {γ : GE} {p : Program} {l : Launch} {e : Env} {s : State} {m : MethodId} {args : Array Value} {below : List Frame} {meth : Method} {c : Code} {S : SH} {X : (Int32 × Mem)} (F : FX γ p s m args meth c cX12_isAboveLimit RX12 2) (hr : meth.sig.returnType = (some .boolean)) (a0 : Nat) (x : (Int32 × Mem)) (h : lpN (l_X12_isAboveLimit_2 S a0) fu x = some X) : JJ γ p l e rm_X12_isAboveLimit s m args below meth c 2 0 0 (QI below γ S X args s 0 0) S x.2 2 [(0, .ref (gb γ + a0)), (1, .int x.1)] [] :=
 lpN_sound (fun x => JJ γ p l e rm_X12_isAboveLimit s m args below meth c 2 0 0 (QI below γ S X args s 0 0) S x.2 2 [(0, .ref (gb γ + a0)), (1, .int x.1)] []) (fun k2 hk2 x h => t_X12_isAboveLimit_2 F hr a0 k2 hk2 x h) fu x h
def f_X12_isAboveLimit (S : SH) (a0 : Nat) (μ : Mem) : Option (Int32 × Mem) :=
  if isO S 12 a0 = true then
  lpN (l_X12_isAboveLimit_2 S  a0) fu (0, μ)
  else none
set_option maxRecDepth 100000 in
set_option maxHeartbeats 4000000 in
theorem c_X12_isAboveLimit {l : Launch} {γ : GE} {S : SH} {a0 : Nat} {μ : Mem} {X : (Int32 × Mem)} (h : f_X12_isAboveLimit S a0 μ = some X) : isO S 12 a0 = true ∧ Ct l γ yX12_isAboveLimit cX12_isAboveLimit 2 (some .boolean) rm_X12_isAboveLimit [.ref (gb γ + a0)] S μ S X.2 (some (.int X.1)) := by
  unfold f_X12_isAboveLimit at h
  obtain ⟨h0, h⟩ := if_some h
  refine ⟨h0, ?_⟩
  have hJ : ∀ (p : Program) (e : Env) (s : State) (m : MethodId) (args : Array Value) (below : List Frame) (meth : Method) (c : Code), FX γ p s m args meth c cX12_isAboveLimit RX12 2 → meth.sig.returnType = (some .boolean) → JJ γ p l e rm_X12_isAboveLimit s m args below meth c 2 0 0 (QI below γ S X args s 0 0) S μ 0 [(0, .ref (gb γ + a0))] [] := by
    intro p e s m args below meth c F hr
    refine j_iconst F 0 dX12_isAboveLimit_0 (by decide) ?_
    refine j_istore_n F [(1, .int 0), (0, .ref (gb γ + a0))] dX12_isAboveLimit_1 rfl (by decide) rfl ?_
    refine j_lv [(0, .ref (gb γ + a0)), (1, .int 0)] [1, 0] rfl ?_
    exact s_X12_isAboveLimit_2 F hr _ _ h
  exact ct_of (by decide +kernel) (Nat.le_of_ble_eq_true rfl) (fun p e s m args below meth c F hr _ => hJ p e s m args below meth c F hr)
def rm_X12_spareNow : Room := { frames := 3, cells := 0, slots := 0, locals := 70 }
theorem dX12_spareNow_0 : decode cX12_spareNow 0 = .ok (.aload_n 0, 1) := by decide +kernel
theorem dX12_spareNow_1 : decode cX12_spareNow 1 = .ok (.aload_n 0, 1) := by decide +kernel
theorem dX12_spareNow_2 : decode cX12_spareNow 2 = .ok (.getfield 36, 3) := by decide +kernel
theorem dX12_spareNow_5 : decode cX12_spareNow 5 = .ok (.iconst 0, 1) := by decide +kernel
theorem dX12_spareNow_6 : decode cX12_spareNow 6 = .ok (.iaload, 1) := by decide +kernel
theorem dX12_spareNow_7 : decode cX12_spareNow 7 = .ok (.aload_n 0, 1) := by decide +kernel
theorem dX12_spareNow_8 : decode cX12_spareNow 8 = .ok (.getfield 36, 3) := by decide +kernel
theorem dX12_spareNow_11 : decode cX12_spareNow 11 = .ok (.iconst 1, 1) := by decide +kernel
theorem dX12_spareNow_12 : decode cX12_spareNow 12 = .ok (.iaload, 1) := by decide +kernel
theorem dX12_spareNow_13 : decode cX12_spareNow 13 = .ok (.invokevirtual 165, 3) := by decide +kernel
theorem dX12_spareNow_16 : decode cX12_spareNow 16 = .ok (.aload_n 0, 1) := by decide +kernel
theorem dX12_spareNow_17 : decode cX12_spareNow 17 = .ok (.getfield 36, 3) := by decide +kernel
theorem dX12_spareNow_20 : decode cX12_spareNow 20 = .ok (.iconst 3, 1) := by decide +kernel
theorem dX12_spareNow_21 : decode cX12_spareNow 21 = .ok (.iaload, 1) := by decide +kernel
theorem dX12_spareNow_22 : decode cX12_spareNow 22 = .ok (.isub, 1) := by decide +kernel
theorem dX12_spareNow_23 : decode cX12_spareNow 23 = .ok (.aload_n 0, 1) := by decide +kernel
theorem dX12_spareNow_24 : decode cX12_spareNow 24 = .ok (.getfield 36, 3) := by decide +kernel
theorem dX12_spareNow_27 : decode cX12_spareNow 27 = .ok (.iconst 2, 1) := by decide +kernel
theorem dX12_spareNow_28 : decode cX12_spareNow 28 = .ok (.iaload, 1) := by decide +kernel
theorem dX12_spareNow_29 : decode cX12_spareNow 29 = .ok (.isub, 1) := by decide +kernel
theorem dX12_spareNow_30 : decode cX12_spareNow 30 = .ok (.ireturn, 1) := by decide +kernel
def f_X12_spareNow (S : SH) (a0 : Nat) (μ : Mem) : Option (Int32 × Mem) :=
  if isO S 12 a0 = true then
  (gR S 12 a0 9).bind fun v1 =>
  (aI S .int v1 0 μ).bind fun v2 =>
  (gR S 12 a0 9).bind fun v3 =>
  (aI S .int v3 1 μ).bind fun v4 =>
  (f_X12_allowedAt S a0 v2 v4 μ).bind fun q5 =>
  (gR S 12 a0 9).bind fun v6 =>
  (aI S .int v6 3 q5.2).bind fun v7 =>
  (gR S 12 a0 9).bind fun v8 =>
  (aI S .int v8 2 q5.2).bind fun v9 =>
  some ((q5.1 - v7) - v9, q5.2)
  else none
set_option maxRecDepth 100000 in
set_option maxHeartbeats 4000000 in
theorem c_X12_spareNow {l : Launch} {γ : GE} {S : SH} {a0 : Nat} {μ : Mem} {X : (Int32 × Mem)} (h : f_X12_spareNow S a0 μ = some X) : isO S 12 a0 = true ∧ Ct l γ yX12_spareNow cX12_spareNow 1 (some .int) rm_X12_spareNow [.ref (gb γ + a0)] S μ S X.2 (some (.int X.1)) := by
  unfold f_X12_spareNow at h
  obtain ⟨h0, h⟩ := if_some h
  refine ⟨h0, ?_⟩
  have hJ : ∀ (p : Program) (e : Env) (s : State) (m : MethodId) (args : Array Value) (below : List Frame) (meth : Method) (c : Code), FX γ p s m args meth c cX12_spareNow RX12 1 → meth.sig.returnType = (some .int) → JJ γ p l e rm_X12_spareNow s m args below meth c 1 0 0 (QI below γ S X args s 0 0) S μ 0 [(0, .ref (gb γ + a0))] [] := by
    intro p e s m args below meth c F hr
    refine j_aload_n F 0 dX12_spareNow_0 rfl ?_
    refine j_aload_n F 0 dX12_spareNow_1 rfl ?_
    refine j_gR F fl_RX12_36 rfl dX12_spareNow_2 h (fun v1 h => ?_)
    refine j_iconst F 0 dX12_spareNow_5 (by decide) ?_
    refine j_iald F dX12_spareNow_6 h (fun v2 h => ?_)
    refine j_aload_n F 0 dX12_spareNow_7 rfl ?_
    refine j_gR F fl_RX12_36 rfl dX12_spareNow_8 h (fun v3 h => ?_)
    refine j_iconst F 1 dX12_spareNow_11 (by decide) ?_
    refine j_iald F dX12_spareNow_12 h (fun v4 h => ?_)
    refine j_cVI F mi_X12_allowedAt w_1194 (rest := []) h (fun _ g => c_X12_allowedAt g) rfl rfl (Nat.le_of_ble_eq_true rfl) ⟨Nat.le_of_ble_eq_true rfl, Nat.le_of_ble_eq_true rfl⟩ ⟨Nat.le_of_ble_eq_true rfl, Nat.le_of_ble_eq_true rfl⟩ dX12_spareNow_13 (fun q5 h => ?_)
    refine j_aload_n F 0 dX12_spareNow_16 rfl ?_
    refine j_gR F fl_RX12_36 rfl dX12_spareNow_17 h (fun v6 h => ?_)
    refine j_iconst F 3 dX12_spareNow_20 (by decide) ?_
    refine j_iald F dX12_spareNow_21 h (fun v7 h => ?_)
    refine j_isub F dX12_spareNow_22 ?_
    refine j_aload_n F 0 dX12_spareNow_23 rfl ?_
    refine j_gR F fl_RX12_36 rfl dX12_spareNow_24 h (fun v8 h => ?_)
    refine j_iconst F 2 dX12_spareNow_27 (by decide) ?_
    refine j_iald F dX12_spareNow_28 h (fun v9 h => ?_)
    refine j_isub F dX12_spareNow_29 ?_
    exact j_iret F hr dX12_spareNow_30 h
  exact ct_of (by decide +kernel) (Nat.le_of_ble_eq_true rfl) (fun p e s m args below meth c F hr _ => hJ p e s m args below meth c F hr)
def rm_X12_whyNow : Room := { frames := 6, cells := 0, slots := 0, locals := 123 }
theorem dX12_whyNow_0 : decode cX12_whyNow 0 = .ok (.aload_n 0, 1) := by decide +kernel
theorem dX12_whyNow_1 : decode cX12_whyNow 1 = .ok (.invokevirtual 232, 3) := by decide +kernel
theorem dX12_whyNow_4 : decode cX12_whyNow 4 = .ok (.istore_n 1, 1) := by decide +kernel
theorem dX12_whyNow_5 : decode cX12_whyNow 5 = .ok (.iload_n 1, 1) := by decide +kernel
theorem dX12_whyNow_6 : decode cX12_whyNow 6 = .ok (.ifCond .le 5, 3) := by decide +kernel
theorem dX12_whyNow_9 : decode cX12_whyNow 9 = .ok (.iload_n 1, 1) := by decide +kernel
theorem dX12_whyNow_10 : decode cX12_whyNow 10 = .ok (.ireturn, 1) := by decide +kernel
theorem dX12_whyNow_11 : decode cX12_whyNow 11 = .ok (.aload_n 0, 1) := by decide +kernel
theorem dX12_whyNow_12 : decode cX12_whyNow 12 = .ok (.invokevirtual 235, 3) := by decide +kernel
theorem dX12_whyNow_15 : decode cX12_whyNow 15 = .ok (.ifCond .eq 7, 3) := by decide +kernel
theorem dX12_whyNow_18 : decode cX12_whyNow 18 = .ok (.iconst 4, 1) := by decide +kernel
theorem dX12_whyNow_19 : decode cX12_whyNow 19 = .ok (.goto 15, 3) := by decide +kernel
theorem dX12_whyNow_22 : decode cX12_whyNow 22 = .ok (.aload_n 0, 1) := by decide +kernel
theorem dX12_whyNow_23 : decode cX12_whyNow 23 = .ok (.invokevirtual 238, 3) := by decide +kernel
theorem dX12_whyNow_26 : decode cX12_whyNow 26 = .ok (.ifCond .ge 7, 3) := by decide +kernel
theorem dX12_whyNow_29 : decode cX12_whyNow 29 = .ok (.iconst 5, 1) := by decide +kernel
theorem dX12_whyNow_30 : decode cX12_whyNow 30 = .ok (.goto 4, 3) := by decide +kernel
theorem dX12_whyNow_33 : decode cX12_whyNow 33 = .ok (.iconst 0, 1) := by decide +kernel
theorem dX12_whyNow_34 : decode cX12_whyNow 34 = .ok (.ireturn, 1) := by decide +kernel
def f_X12_whyNow (S : SH) (a0 : Nat) (μ : Mem) : Option (Int32 × Mem) :=
  if isO S 12 a0 = true then
  (f_X12_pushes S a0 μ).bind fun q1 =>
  (if q1.1 ≤ 0 then
  (f_X12_isAboveLimit S a0 q1.2).bind fun q2 =>
  (if q2.1 = 0 then
  (f_X12_spareNow S a0 q2.2).bind fun q3 =>
  (if 0 ≤ q3.1 then
  some (0, q3.2)
  else
  some (5, q3.2))
  else
  some (4, q2.2))
  else
  some (q1.1, q1.2))
  else none
set_option maxRecDepth 100000 in
set_option maxHeartbeats 4000000 in
theorem c_X12_whyNow {l : Launch} {γ : GE} {S : SH} {a0 : Nat} {μ : Mem} {X : (Int32 × Mem)} (h : f_X12_whyNow S a0 μ = some X) : isO S 12 a0 = true ∧ Ct l γ yX12_whyNow cX12_whyNow 2 (some .int) rm_X12_whyNow [.ref (gb γ + a0)] S μ S X.2 (some (.int X.1)) := by
  unfold f_X12_whyNow at h
  obtain ⟨h0, h⟩ := if_some h
  refine ⟨h0, ?_⟩
  have hJ : ∀ (p : Program) (e : Env) (s : State) (m : MethodId) (args : Array Value) (below : List Frame) (meth : Method) (c : Code), FX γ p s m args meth c cX12_whyNow RX12 2 → meth.sig.returnType = (some .int) → JJ γ p l e rm_X12_whyNow s m args below meth c 2 0 0 (QI below γ S X args s 0 0) S μ 0 [(0, .ref (gb γ + a0))] [] := by
    intro p e s m args below meth c F hr
    refine j_aload_n F 0 dX12_whyNow_0 rfl ?_
    refine j_cVI F mi_X12_pushes w_1261 (rest := []) h (fun _ g => c_X12_pushes g) rfl rfl (Nat.le_of_ble_eq_true rfl) ⟨Nat.le_of_ble_eq_true rfl, Nat.le_of_ble_eq_true rfl⟩ ⟨Nat.le_of_ble_eq_true rfl, Nat.le_of_ble_eq_true rfl⟩ dX12_whyNow_1 (fun q1 h => ?_)
    refine j_istore_n F [(1, .int q1.1), (0, .ref (gb γ + a0))] dX12_whyNow_4 rfl (by decide) rfl ?_
    refine j_iload_n F 0 dX12_whyNow_5 rfl ?_
    refine j_ifle F 11 dX12_whyNow_6 (by decide) h (fun _ h => ?_) (fun _ h => ?_)
    · refine j_aload_n F 1 dX12_whyNow_11 rfl ?_
      refine j_cVI F mi_X12_isAboveLimit w_1296 (rest := []) h (fun _ g => c_X12_isAboveLimit g) rfl rfl (Nat.le_of_ble_eq_true rfl) ⟨Nat.le_of_ble_eq_true rfl, Nat.le_of_ble_eq_true rfl⟩ ⟨Nat.le_of_ble_eq_true rfl, Nat.le_of_ble_eq_true rfl⟩ dX12_whyNow_12 (fun q2 h => ?_)
      refine j_ifeq F 22 dX12_whyNow_15 (by decide) h (fun _ h => ?_) (fun _ h => ?_)
      · refine j_aload_n F 1 dX12_whyNow_22 rfl ?_
        refine j_cVI F mi_X12_spareNow w_1300 (rest := []) h (fun _ g => c_X12_spareNow g) rfl rfl (Nat.le_of_ble_eq_true rfl) ⟨Nat.le_of_ble_eq_true rfl, Nat.le_of_ble_eq_true rfl⟩ ⟨Nat.le_of_ble_eq_true rfl, Nat.le_of_ble_eq_true rfl⟩ dX12_whyNow_23 (fun q3 h => ?_)
        refine j_ifge F 33 dX12_whyNow_26 (by decide) h (fun _ h => ?_) (fun _ h => ?_)
        · refine j_iconst F 0 dX12_whyNow_33 (by decide) ?_
          exact j_iret F hr dX12_whyNow_34 h
        · refine j_iconst F 5 dX12_whyNow_29 (by decide) ?_
          refine j_goto F 34 dX12_whyNow_30 (by decide) ?_
          exact j_iret F hr dX12_whyNow_34 h
      · refine j_iconst F 4 dX12_whyNow_18 (by decide) ?_
        refine j_goto F 34 dX12_whyNow_19 (by decide) ?_
        exact j_iret F hr dX12_whyNow_34 h
    · refine j_iload_n F 0 dX12_whyNow_9 rfl ?_
      exact j_iret F hr dX12_whyNow_10 h
  exact ct_of (by decide +kernel) (Nat.le_of_ble_eq_true rfl) (fun p e s m args below meth c F hr _ => hJ p e s m args below meth c F hr)
def rm_X12_may : Room := { frames := 7, cells := 0, slots := 0, locals := 144 }
theorem dX12_may_0 : decode cX12_may 0 = .ok (.aload_n 0, 1) := by decide +kernel
theorem dX12_may_1 : decode cX12_may 1 = .ok (.invokevirtual 241, 3) := by decide +kernel
theorem dX12_may_4 : decode cX12_may 4 = .ok (.ifCond .ne 7, 3) := by decide +kernel
theorem dX12_may_7 : decode cX12_may 7 = .ok (.iconst 1, 1) := by decide +kernel
theorem dX12_may_8 : decode cX12_may 8 = .ok (.goto 4, 3) := by decide +kernel
theorem dX12_may_11 : decode cX12_may 11 = .ok (.iconst 0, 1) := by decide +kernel
theorem dX12_may_12 : decode cX12_may 12 = .ok (.ireturn, 1) := by decide +kernel
def f_X12_may (S : SH) (a0 : Nat) (μ : Mem) : Option (Int32 × Mem) :=
  if isO S 12 a0 = true then
  (f_X12_whyNow S a0 μ).bind fun q1 =>
  (if q1.1 = 0 then
  some (1, q1.2)
  else
  some (0, q1.2))
  else none
set_option maxRecDepth 100000 in
set_option maxHeartbeats 4000000 in
theorem c_X12_may {l : Launch} {γ : GE} {S : SH} {a0 : Nat} {μ : Mem} {X : (Int32 × Mem)} (h : f_X12_may S a0 μ = some X) : isO S 12 a0 = true ∧ Ct l γ yX12_may cX12_may 1 (some .boolean) rm_X12_may [.ref (gb γ + a0)] S μ S X.2 (some (.int X.1)) := by
  unfold f_X12_may at h
  obtain ⟨h0, h⟩ := if_some h
  refine ⟨h0, ?_⟩
  have hJ : ∀ (p : Program) (e : Env) (s : State) (m : MethodId) (args : Array Value) (below : List Frame) (meth : Method) (c : Code), FX γ p s m args meth c cX12_may RX12 1 → meth.sig.returnType = (some .boolean) → JJ γ p l e rm_X12_may s m args below meth c 1 0 0 (QI below γ S X args s 0 0) S μ 0 [(0, .ref (gb γ + a0))] [] := by
    intro p e s m args below meth c F hr
    refine j_aload_n F 0 dX12_may_0 rfl ?_
    refine j_cVI F mi_X12_whyNow w_1292 (rest := []) h (fun _ g => c_X12_whyNow g) rfl rfl (Nat.le_of_ble_eq_true rfl) ⟨Nat.le_of_ble_eq_true rfl, Nat.le_of_ble_eq_true rfl⟩ ⟨Nat.le_of_ble_eq_true rfl, Nat.le_of_ble_eq_true rfl⟩ dX12_may_1 (fun q1 h => ?_)
    refine j_ifne F 11 dX12_may_4 (by decide) h (fun _ h => ?_) (fun _ h => ?_)
    · refine j_iconst F 0 dX12_may_11 (by decide) ?_
      exact j_zret F hr (Or.inl rfl) dX12_may_12 h
    · refine j_iconst F 1 dX12_may_7 (by decide) ?_
      refine j_goto F 12 dX12_may_8 (by decide) ?_
      exact j_zret F hr (Or.inr rfl) dX12_may_12 h
  exact ct_of (by decide +kernel) (Nat.le_of_ble_eq_true rfl) (fun p e s m args below meth c F hr _ => hJ p e s m args below meth c F hr)
def rm_X12_push : Room := { frames := 6, cells := 0, slots := 0, locals := 123 }
theorem dX12_push_0 : decode cX12_push 0 = .ok (.iload_n 1, 1) := by decide +kernel
theorem dX12_push_1 : decode cX12_push 1 = .ok (.invokestatic 106, 3) := by decide +kernel
theorem dX12_push_4 : decode cX12_push 4 = .ok (.ifCond .eq 17, 3) := by decide +kernel
theorem dX12_push_7 : decode cX12_push 7 = .ok (.iload_n 2, 1) := by decide +kernel
theorem dX12_push_8 : decode cX12_push 8 = .ok (.invokestatic 200, 3) := by decide +kernel
theorem dX12_push_11 : decode cX12_push 11 = .ok (.ifCond .eq 10, 3) := by decide +kernel
theorem dX12_push_14 : decode cX12_push 14 = .ok (.aload_n 0, 1) := by decide +kernel
theorem dX12_push_15 : decode cX12_push 15 = .ok (.invokevirtual 232, 3) := by decide +kernel
theorem dX12_push_18 : decode cX12_push 18 = .ok (.ifCond .le 7, 3) := by decide +kernel
theorem dX12_push_21 : decode cX12_push 21 = .ok (.ldc2_w 131, 3) := by decide +kernel
theorem dX12_push_24 : decode cX12_push 24 = .ok (.lreturn, 1) := by decide +kernel
theorem dX12_push_25 : decode cX12_push 25 = .ok (.aload_n 0, 1) := by decide +kernel
theorem dX12_push_26 : decode cX12_push 26 = .ok (.getfield 52, 3) := by decide +kernel
theorem dX12_push_29 : decode cX12_push 29 = .ok (.iload_n 1, 1) := by decide +kernel
theorem dX12_push_30 : decode cX12_push 30 = .ok (.laload, 1) := by decide +kernel
theorem dX12_push_31 : decode cX12_push 31 = .ok (.aload_n 0, 1) := by decide +kernel
theorem dX12_push_32 : decode cX12_push 32 = .ok (.getfield 214, 3) := by decide +kernel
theorem dX12_push_35 : decode cX12_push 35 = .ok (.iload_n 2, 1) := by decide +kernel
theorem dX12_push_36 : decode cX12_push 36 = .ok (.invokestatic 203, 3) := by decide +kernel
theorem dX12_push_39 : decode cX12_push 39 = .ok (.lreturn, 1) := by decide +kernel
def f_X12_push (S : SH) (a0 : Nat) (a1 : Int32) (a2 : Int32) (μ : Mem) : Option (Int64 × Mem) :=
  if isO S 12 a0 = true then
  (f_X12_isPad S a1 μ).bind fun q1 =>
  (if q1.1 = 0 then
  some ((-9223372036854775808), q1.2)
  else
  (f_X12_isPart S a2 q1.2).bind fun q2 =>
  (if q2.1 = 0 then
  some ((-9223372036854775808), q2.2)
  else
  (f_X12_pushes S a0 q2.2).bind fun q3 =>
  (if q3.1 ≤ 0 then
  (gR S 12 a0 16).bind fun v4 =>
  (aL S v4 a1 q3.2).bind fun v5 =>
  (gL S 12 a0 17 q3.2).bind fun v6 =>
  (f_X12_part S v5 v6 a2 q3.2).bind fun q7 =>
  some (q7.1, q7.2)
  else
  some ((-9223372036854775808), q3.2))))
  else none
set_option maxRecDepth 100000 in
set_option maxHeartbeats 4000000 in
theorem c_X12_push {l : Launch} {γ : GE} {S : SH} {a0 : Nat} {a1 : Int32} {a2 : Int32} {μ : Mem} {X : (Int64 × Mem)} (h : f_X12_push S a0 a1 a2 μ = some X) : isO S 12 a0 = true ∧ Ct l γ yX12_push cX12_push 3 (some .long) rm_X12_push [.ref (gb γ + a0), .int a1, .int a2] S μ S X.2 (some (.long X.1)) := by
  unfold f_X12_push at h
  obtain ⟨h0, h⟩ := if_some h
  refine ⟨h0, ?_⟩
  have hJ : ∀ (p : Program) (e : Env) (s : State) (m : MethodId) (args : Array Value) (below : List Frame) (meth : Method) (c : Code), FX γ p s m args meth c cX12_push RX12 3 → meth.sig.returnType = (some .long) → JJ γ p l e rm_X12_push s m args below meth c 3 0 0 (QL below γ S X args s 0 0) S μ 0 [(0, .ref (gb γ + a0)), (1, .int a1), (2, .int a2)] [] := by
    intro p e s m args below meth c F hr
    refine j_iload_n F 1 dX12_push_0 rfl ?_
    refine j_cSI F mi_X12_isPad w_1101 (rest := []) h (fun _ g => c_X12_isPad g) rfl rfl (Nat.le_of_ble_eq_true rfl) ⟨Nat.le_of_ble_eq_true rfl, Nat.le_of_ble_eq_true rfl⟩ ⟨Nat.le_of_ble_eq_true rfl, Nat.le_of_ble_eq_true rfl⟩ dX12_push_1 (fun q1 h => ?_)
    refine j_ifeq F 21 dX12_push_4 (by decide) h (fun _ h => ?_) (fun _ h => ?_)
    · refine j_ldc2 F (-9223372036854775808) dX12_push_21 w_1152 ?_
      exact j_lret F hr dX12_push_24 h
    · refine j_iload_n F 2 dX12_push_7 rfl ?_
      refine j_cSI F mi_X12_isPart w_1231 (rest := []) h (fun _ g => c_X12_isPart g) rfl rfl (Nat.le_of_ble_eq_true rfl) ⟨Nat.le_of_ble_eq_true rfl, Nat.le_of_ble_eq_true rfl⟩ ⟨Nat.le_of_ble_eq_true rfl, Nat.le_of_ble_eq_true rfl⟩ dX12_push_8 (fun q2 h => ?_)
      refine j_ifeq F 21 dX12_push_11 (by decide) h (fun _ h => ?_) (fun _ h => ?_)
      · refine j_ldc2 F (-9223372036854775808) dX12_push_21 w_1152 ?_
        exact j_lret F hr dX12_push_24 h
      · refine j_aload_n F 0 dX12_push_14 rfl ?_
        refine j_cVI F mi_X12_pushes w_1261 (rest := []) h (fun _ g => c_X12_pushes g) rfl rfl (Nat.le_of_ble_eq_true rfl) ⟨Nat.le_of_ble_eq_true rfl, Nat.le_of_ble_eq_true rfl⟩ ⟨Nat.le_of_ble_eq_true rfl, Nat.le_of_ble_eq_true rfl⟩ dX12_push_15 (fun q3 h => ?_)
        refine j_ifle F 25 dX12_push_18 (by decide) h (fun _ h => ?_) (fun _ h => ?_)
        · refine j_aload_n F 0 dX12_push_25 rfl ?_
          refine j_gR F fl_RX12_52 rfl dX12_push_26 h (fun v4 h => ?_)
          refine j_iload_n F 1 dX12_push_29 rfl ?_
          refine j_lald F dX12_push_30 h (fun v5 h => ?_)
          refine j_aload_n F 0 dX12_push_31 rfl ?_
          refine j_gL F fl_RX12_214.l rfl dX12_push_32 h (fun v6 h => ?_)
          refine j_iload_n F 2 dX12_push_35 rfl ?_
          refine j_cSJ F mi_X12_part w_1235 (rest := []) h (fun _ g => c_X12_part g) rfl rfl (Nat.le_of_ble_eq_true rfl) ⟨Nat.le_of_ble_eq_true rfl, Nat.le_of_ble_eq_true rfl⟩ ⟨Nat.le_of_ble_eq_true rfl, Nat.le_of_ble_eq_true rfl⟩ dX12_push_36 (fun q7 h => ?_)
          exact j_lret F hr dX12_push_39 h
        · refine j_ldc2 F (-9223372036854775808) dX12_push_21 w_1152 ?_
          exact j_lret F hr dX12_push_24 h
  exact ct_of (by decide +kernel) (Nat.le_of_ble_eq_true rfl) (fun p e s m args below meth c F hr _ => hJ p e s m args below meth c F hr)
def rm_X12_lifted : Room := { frames := 6, cells := 0, slots := 0, locals := 123 }
theorem dX12_lifted_0 : decode cX12_lifted 0 = .ok (.aload_n 0, 1) := by decide +kernel
theorem dX12_lifted_1 : decode cX12_lifted 1 = .ok (.invokevirtual 232, 3) := by decide +kernel
theorem dX12_lifted_4 : decode cX12_lifted 4 = .ok (.ifCond .le 8, 3) := by decide +kernel
theorem dX12_lifted_7 : decode cX12_lifted 7 = .ok (.bipush (-3), 2) := by decide +kernel
theorem dX12_lifted_9 : decode cX12_lifted 9 = .ok (.goto 7, 3) := by decide +kernel
theorem dX12_lifted_12 : decode cX12_lifted 12 = .ok (.aload_n 0, 1) := by decide +kernel
theorem dX12_lifted_13 : decode cX12_lifted 13 = .ok (.getfield 218, 3) := by decide +kernel
theorem dX12_lifted_16 : decode cX12_lifted 16 = .ok (.ireturn, 1) := by decide +kernel
def f_X12_lifted (S : SH) (a0 : Nat) (μ : Mem) : Option (Int32 × Mem) :=
  if isO S 12 a0 = true then
  (f_X12_pushes S a0 μ).bind fun q1 =>
  (if q1.1 ≤ 0 then
  (gI S 12 a0 18 q1.2).bind fun v2 =>
  some (v2, q1.2)
  else
  some ((-3), q1.2))
  else none
set_option maxRecDepth 100000 in
set_option maxHeartbeats 4000000 in
theorem c_X12_lifted {l : Launch} {γ : GE} {S : SH} {a0 : Nat} {μ : Mem} {X : (Int32 × Mem)} (h : f_X12_lifted S a0 μ = some X) : isO S 12 a0 = true ∧ Ct l γ yX12_lifted cX12_lifted 1 (some .int) rm_X12_lifted [.ref (gb γ + a0)] S μ S X.2 (some (.int X.1)) := by
  unfold f_X12_lifted at h
  obtain ⟨h0, h⟩ := if_some h
  refine ⟨h0, ?_⟩
  have hJ : ∀ (p : Program) (e : Env) (s : State) (m : MethodId) (args : Array Value) (below : List Frame) (meth : Method) (c : Code), FX γ p s m args meth c cX12_lifted RX12 1 → meth.sig.returnType = (some .int) → JJ γ p l e rm_X12_lifted s m args below meth c 1 0 0 (QI below γ S X args s 0 0) S μ 0 [(0, .ref (gb γ + a0))] [] := by
    intro p e s m args below meth c F hr
    refine j_aload_n F 0 dX12_lifted_0 rfl ?_
    refine j_cVI F mi_X12_pushes w_1261 (rest := []) h (fun _ g => c_X12_pushes g) rfl rfl (Nat.le_of_ble_eq_true rfl) ⟨Nat.le_of_ble_eq_true rfl, Nat.le_of_ble_eq_true rfl⟩ ⟨Nat.le_of_ble_eq_true rfl, Nat.le_of_ble_eq_true rfl⟩ dX12_lifted_1 (fun q1 h => ?_)
    refine j_ifle F 12 dX12_lifted_4 (by decide) h (fun _ h => ?_) (fun _ h => ?_)
    · refine j_aload_n F 0 dX12_lifted_12 rfl ?_
      refine j_gI F fl_RX12_218.l rfl dX12_lifted_13 h (fun v2 h => ?_)
      exact j_iret F hr dX12_lifted_16 h
    · refine j_bipush F (-3) dX12_lifted_7 (by decide) ?_
      refine j_goto F 16 dX12_lifted_9 (by decide) ?_
      exact j_iret F hr dX12_lifted_16 h
  exact ct_of (by decide +kernel) (Nat.le_of_ble_eq_true rfl) (fun p e s m args below meth c F hr _ => hJ p e s m args below meth c F hr)
def rm_X12_mat : Room := { frames := 6, cells := 0, slots := 0, locals := 123 }
theorem dX12_mat_0 : decode cX12_mat 0 = .ok (.iload_n 1, 1) := by decide +kernel
theorem dX12_mat_1 : decode cX12_mat 1 = .ok (.invokestatic 106, 3) := by decide +kernel
theorem dX12_mat_4 : decode cX12_mat 4 = .ok (.ifCond .ne 5, 3) := by decide +kernel
theorem dX12_mat_7 : decode cX12_mat 7 = .ok (.iconst (-1), 1) := by decide +kernel
theorem dX12_mat_8 : decode cX12_mat 8 = .ok (.ireturn, 1) := by decide +kernel
theorem dX12_mat_9 : decode cX12_mat 9 = .ok (.aload_n 0, 1) := by decide +kernel
theorem dX12_mat_10 : decode cX12_mat 10 = .ok (.invokevirtual 232, 3) := by decide +kernel
theorem dX12_mat_13 : decode cX12_mat 13 = .ok (.ifCond .le 6, 3) := by decide +kernel
theorem dX12_mat_16 : decode cX12_mat 16 = .ok (.bipush (-3), 2) := by decide +kernel
theorem dX12_mat_18 : decode cX12_mat 18 = .ok (.ireturn, 1) := by decide +kernel
theorem dX12_mat_19 : decode cX12_mat 19 = .ok (.iconst 1, 1) := by decide +kernel
theorem dX12_mat_20 : decode cX12_mat 20 = .ok (.istore_n 2, 1) := by decide +kernel
theorem dX12_mat_21 : decode cX12_mat 21 = .ok (.iload_n 2, 1) := by decide +kernel
theorem dX12_mat_22 : decode cX12_mat 22 = .ok (.bipush 61, 2) := by decide +kernel
theorem dX12_mat_24 : decode cX12_mat 24 = .ok (.if_icmp .ge 38, 3) := by decide +kernel
theorem dX12_mat_27 : decode cX12_mat 27 = .ok (.iload_n 2, 1) := by decide +kernel
theorem dX12_mat_28 : decode cX12_mat 28 = .ok (.iload_n 2, 1) := by decide +kernel
theorem dX12_mat_29 : decode cX12_mat 29 = .ok (.imul, 1) := by decide +kernel
theorem dX12_mat_30 : decode cX12_mat 30 = .ok (.i2l, 1) := by decide +kernel
theorem dX12_mat_31 : decode cX12_mat 31 = .ok (.aload_n 0, 1) := by decide +kernel
theorem dX12_mat_32 : decode cX12_mat 32 = .ok (.getfield 36, 3) := by decide +kernel
theorem dX12_mat_35 : decode cX12_mat 35 = .ok (.iconst 4, 1) := by decide +kernel
theorem dX12_mat_36 : decode cX12_mat 36 = .ok (.iaload, 1) := by decide +kernel
theorem dX12_mat_37 : decode cX12_mat 37 = .ok (.i2l, 1) := by decide +kernel
theorem dX12_mat_38 : decode cX12_mat 38 = .ok (.lmul, 1) := by decide +kernel
theorem dX12_mat_39 : decode cX12_mat 39 = .ok (.aload_n 0, 1) := by decide +kernel
theorem dX12_mat_40 : decode cX12_mat 40 = .ok (.getfield 214, 3) := by decide +kernel
theorem dX12_mat_43 : decode cX12_mat 43 = .ok (.lmul, 1) := by decide +kernel
theorem dX12_mat_44 : decode cX12_mat 44 = .ok (.aload_n 0, 1) := by decide +kernel
theorem dX12_mat_45 : decode cX12_mat 45 = .ok (.getfield 52, 3) := by decide +kernel
theorem dX12_mat_48 : decode cX12_mat 48 = .ok (.iload_n 1, 1) := by decide +kernel
theorem dX12_mat_49 : decode cX12_mat 49 = .ok (.laload, 1) := by decide +kernel
theorem dX12_mat_50 : decode cX12_mat 50 = .ok (.lcmp, 1) := by decide +kernel
theorem dX12_mat_51 : decode cX12_mat 51 = .ok (.ifCond .lt 5, 3) := by decide +kernel
theorem dX12_mat_54 : decode cX12_mat 54 = .ok (.iload_n 2, 1) := by decide +kernel
theorem dX12_mat_55 : decode cX12_mat 55 = .ok (.ireturn, 1) := by decide +kernel
theorem dX12_mat_56 : decode cX12_mat 56 = .ok (.iinc 2 1, 3) := by decide +kernel
theorem dX12_mat_59 : decode cX12_mat 59 = .ok (.goto (-38), 3) := by decide +kernel
theorem dX12_mat_62 : decode cX12_mat 62 = .ok (.bipush (-5), 2) := by decide +kernel
theorem dX12_mat_64 : decode cX12_mat 64 = .ok (.ireturn, 1) := by decide +kernel
def l_X12_mat_21 (S : SH) (a0 : Nat) (a1 : Int32) (k21 : (Int32 × Mem) → Option (Int32 × Mem)) (x : (Int32 × Mem)) : Option (Int32 × Mem) :=
 (if 61 ≤ x.1 then
 some ((-5), x.2)
 else
 (gR S 12 a0 9).bind fun v3 =>
 (aI S .int v3 4 x.2).bind fun v4 =>
 (gL S 12 a0 17 x.2).bind fun v5 =>
 (gR S 12 a0 16).bind fun v6 =>
 (aL S v6 a1 x.2).bind fun v7 =>
 (if ((((x.1 * x.1).toInt64) * v4.toInt64) * v5) < v7 then
 k21 (x.1 + 1, x.2)
 else
 some (x.1, x.2)))
set_option maxRecDepth 100000 in
set_option maxHeartbeats 4000000 in
theorem t_X12_mat_21 {γ : GE} {p : Program} {l : Launch} {e : Env} {s : State} {m : MethodId} {args : Array Value} {below : List Frame} {meth : Method} {c : Code} {S : SH} {X : (Int32 × Mem)} (F : FX γ p s m args meth c cX12_mat RX12 3) (hr : meth.sig.returnType = (some .int)) (a0 : Nat) (a1 : Int32) (k21 : (Int32 × Mem) → Option (Int32 × Mem)) (hk21 : ∀ x : (Int32 × Mem), k21 x = some X → JJ γ p l e rm_X12_mat s m args below meth c 3 0 0 (QI below γ S X args s 0 0) S x.2 21 [(0, .ref (gb γ + a0)), (1, .int a1), (2, .int x.1)] []) (x : (Int32 × Mem)) (h : l_X12_mat_21 S a0 a1 k21 x = some X) : JJ γ p l e rm_X12_mat s m args below meth c 3 0 0 (QI below γ S X args s 0 0) S x.2 21 [(0, .ref (gb γ + a0)), (1, .int a1), (2, .int x.1)] [] := by
  unfold l_X12_mat_21 at h
  refine j_iload_n F 2 dX12_mat_21 rfl ?_
  refine j_bipush F 61 dX12_mat_22 (by decide) ?_
  refine j_icmpge F 62 dX12_mat_24 (by decide) h (fun _ h => ?_) (fun _ h => ?_)
  · refine j_bipush F (-5) dX12_mat_62 (by decide) ?_
    exact j_iret F hr dX12_mat_64 h
  · refine j_iload_n F 2 dX12_mat_27 rfl ?_
    refine j_iload_n F 2 dX12_mat_28 rfl ?_
    refine j_imul F dX12_mat_29 ?_
    refine j_i2l F dX12_mat_30 ?_
    refine j_aload_n F 0 dX12_mat_31 rfl ?_
    refine j_gR F fl_RX12_36 rfl dX12_mat_32 h (fun v3 h => ?_)
    refine j_iconst F 4 dX12_mat_35 (by decide) ?_
    refine j_iald F dX12_mat_36 h (fun v4 h => ?_)
    refine j_i2l F dX12_mat_37 ?_
    refine j_lmul F dX12_mat_38 ?_
    refine j_aload_n F 0 dX12_mat_39 rfl ?_
    refine j_gL F fl_RX12_214.l rfl dX12_mat_40 h (fun v5 h => ?_)
    refine j_lmul F dX12_mat_43 ?_
    refine j_aload_n F 0 dX12_mat_44 rfl ?_
    refine j_gR F fl_RX12_52 rfl dX12_mat_45 h (fun v6 h => ?_)
    refine j_iload_n F 1 dX12_mat_48 rfl ?_
    refine j_lald F dX12_mat_49 h (fun v7 h => ?_)
    refine j_lcmplt F 56 dX12_mat_50 dX12_mat_51 (by decide) h (fun _ h => ?_) (fun _ h => ?_)
    · refine j_iinc F 1 2 [(2, .int (x.1 + 1)), (0, .ref (gb γ + a0)), (1, .int a1)] dX12_mat_56 rfl (by decide) (by decide) rfl ?_
      refine j_goto F 21 dX12_mat_59 (by decide) ?_
      refine j_lv [(0, .ref (gb γ + a0)), (1, .int a1), (2, .int (x.1 + 1))] [1, 2, 0] rfl ?_
      have h9 := hk21 _ h
      exact h9
    · refine j_iload_n F 2 dX12_mat_54 rfl ?_
      exact j_iret F hr dX12_mat_55 h
theorem s_X12_mat_21 {γ : GE} {p : Program} {l : Launch} {e : Env} {s : State} {m : MethodId} {args : Array Value} {below : List Frame} {meth : Method} {c : Code} {S : SH} {X : (Int32 × Mem)} (F : FX γ p s m args meth c cX12_mat RX12 3) (hr : meth.sig.returnType = (some .int)) (a0 : Nat) (a1 : Int32) (x : (Int32 × Mem)) (h : lpN (l_X12_mat_21 S a0 a1) fu x = some X) : JJ γ p l e rm_X12_mat s m args below meth c 3 0 0 (QI below γ S X args s 0 0) S x.2 21 [(0, .ref (gb γ + a0)), (1, .int a1), (2, .int x.1)] [] :=
 lpN_sound (fun x => JJ γ p l e rm_X12_mat s m args below meth c 3 0 0 (QI below γ S X args s 0 0) S x.2 21 [(0, .ref (gb γ + a0)), (1, .int a1), (2, .int x.1)] []) (fun k21 hk21 x h => t_X12_mat_21 F hr a0 a1 k21 hk21 x h) fu x h
def f_X12_mat (S : SH) (a0 : Nat) (a1 : Int32) (μ : Mem) : Option (Int32 × Mem) :=
  if isO S 12 a0 = true then
  (f_X12_isPad S a1 μ).bind fun q1 =>
  (if q1.1 = 0 then
  some ((-1), q1.2)
  else
  (f_X12_pushes S a0 q1.2).bind fun q2 =>
  (if q2.1 ≤ 0 then
  lpN (l_X12_mat_21 S  a0 a1) fu (1, q2.2)
  else
  some ((-3), q2.2)))
  else none
set_option maxRecDepth 100000 in
set_option maxHeartbeats 4000000 in
theorem c_X12_mat {l : Launch} {γ : GE} {S : SH} {a0 : Nat} {a1 : Int32} {μ : Mem} {X : (Int32 × Mem)} (h : f_X12_mat S a0 a1 μ = some X) : isO S 12 a0 = true ∧ Ct l γ yX12_mat cX12_mat 3 (some .int) rm_X12_mat [.ref (gb γ + a0), .int a1] S μ S X.2 (some (.int X.1)) := by
  unfold f_X12_mat at h
  obtain ⟨h0, h⟩ := if_some h
  refine ⟨h0, ?_⟩
  have hJ : ∀ (p : Program) (e : Env) (s : State) (m : MethodId) (args : Array Value) (below : List Frame) (meth : Method) (c : Code), FX γ p s m args meth c cX12_mat RX12 3 → meth.sig.returnType = (some .int) → JJ γ p l e rm_X12_mat s m args below meth c 3 0 0 (QI below γ S X args s 0 0) S μ 0 [(0, .ref (gb γ + a0)), (1, .int a1)] [] := by
    intro p e s m args below meth c F hr
    refine j_iload_n F 1 dX12_mat_0 rfl ?_
    refine j_cSI F mi_X12_isPad w_1101 (rest := []) h (fun _ g => c_X12_isPad g) rfl rfl (Nat.le_of_ble_eq_true rfl) ⟨Nat.le_of_ble_eq_true rfl, Nat.le_of_ble_eq_true rfl⟩ ⟨Nat.le_of_ble_eq_true rfl, Nat.le_of_ble_eq_true rfl⟩ dX12_mat_1 (fun q1 h => ?_)
    refine j_ifne F 9 dX12_mat_4 (by decide) h (fun _ h => ?_) (fun _ h => ?_)
    · refine j_aload_n F 0 dX12_mat_9 rfl ?_
      refine j_cVI F mi_X12_pushes w_1261 (rest := []) h (fun _ g => c_X12_pushes g) rfl rfl (Nat.le_of_ble_eq_true rfl) ⟨Nat.le_of_ble_eq_true rfl, Nat.le_of_ble_eq_true rfl⟩ ⟨Nat.le_of_ble_eq_true rfl, Nat.le_of_ble_eq_true rfl⟩ dX12_mat_10 (fun q2 h => ?_)
      refine j_ifle F 19 dX12_mat_13 (by decide) h (fun _ h => ?_) (fun _ h => ?_)
      · refine j_iconst F 1 dX12_mat_19 (by decide) ?_
        refine j_istore_n F [(2, .int 1), (0, .ref (gb γ + a0)), (1, .int a1)] dX12_mat_20 rfl (by decide) rfl ?_
        refine j_lv [(0, .ref (gb γ + a0)), (1, .int a1), (2, .int 1)] [1, 2, 0] rfl ?_
        exact s_X12_mat_21 F hr _ _ _ h
      · refine j_bipush F (-3) dX12_mat_16 (by decide) ?_
        exact j_iret F hr dX12_mat_18 h
    · refine j_iconst F (-1) dX12_mat_7 (by decide) ?_
      exact j_iret F hr dX12_mat_8 h
  exact ct_of (by decide +kernel) (Nat.le_of_ble_eq_true rfl) (fun p e s m args below meth c F hr _ => hJ p e s m args below meth c F hr)
def rm_X12_why : Room := { frames := 7, cells := 0, slots := 0, locals := 144 }
theorem dX12_why_0 : decode cX12_why 0 = .ok (.aload_n 0, 1) := by decide +kernel
theorem dX12_why_1 : decode cX12_why 1 = .ok (.invokevirtual 241, 3) := by decide +kernel
theorem dX12_why_4 : decode cX12_why 4 = .ok (.ireturn, 1) := by decide +kernel
def f_X12_why (S : SH) (a0 : Nat) (μ : Mem) : Option (Int32 × Mem) :=
  if isO S 12 a0 = true then
  (f_X12_whyNow S a0 μ).bind fun q1 =>
  some (q1.1, q1.2)
  else none
set_option maxRecDepth 100000 in
set_option maxHeartbeats 4000000 in
theorem c_X12_why {l : Launch} {γ : GE} {S : SH} {a0 : Nat} {μ : Mem} {X : (Int32 × Mem)} (h : f_X12_why S a0 μ = some X) : isO S 12 a0 = true ∧ Ct l γ yX12_why cX12_why 1 (some .int) rm_X12_why [.ref (gb γ + a0)] S μ S X.2 (some (.int X.1)) := by
  unfold f_X12_why at h
  obtain ⟨h0, h⟩ := if_some h
  refine ⟨h0, ?_⟩
  have hJ : ∀ (p : Program) (e : Env) (s : State) (m : MethodId) (args : Array Value) (below : List Frame) (meth : Method) (c : Code), FX γ p s m args meth c cX12_why RX12 1 → meth.sig.returnType = (some .int) → JJ γ p l e rm_X12_why s m args below meth c 1 0 0 (QI below γ S X args s 0 0) S μ 0 [(0, .ref (gb γ + a0))] [] := by
    intro p e s m args below meth c F hr
    refine j_aload_n F 0 dX12_why_0 rfl ?_
    refine j_cVI F mi_X12_whyNow w_1292 (rest := []) h (fun _ g => c_X12_whyNow g) rfl rfl (Nat.le_of_ble_eq_true rfl) ⟨Nat.le_of_ble_eq_true rfl, Nat.le_of_ble_eq_true rfl⟩ ⟨Nat.le_of_ble_eq_true rfl, Nat.le_of_ble_eq_true rfl⟩ dX12_why_1 (fun q1 h => ?_)
    exact j_iret F hr dX12_why_4 h
  exact ct_of (by decide +kernel) (Nat.le_of_ble_eq_true rfl) (fun p e s m args below meth c F hr _ => hJ p e s m args below meth c F hr)
def rm_X12_most_ : Room := { frames := 8, cells := 0, slots := 0, locals := 164 }
theorem dX12_most__0 : decode cX12_most_ 0 = .ok (.aload_n 0, 1) := by decide +kernel
theorem dX12_most__1 : decode cX12_most_ 1 = .ok (.getfield 36, 3) := by decide +kernel
theorem dX12_most__4 : decode cX12_most_ 4 = .ok (.iconst 3, 1) := by decide +kernel
theorem dX12_most__5 : decode cX12_most_ 5 = .ok (.iaload, 1) := by decide +kernel
theorem dX12_most__6 : decode cX12_most_ 6 = .ok (.istore_n 1, 1) := by decide +kernel
theorem dX12_most__7 : decode cX12_most_ 7 = .ok (.bipush (-5), 2) := by decide +kernel
theorem dX12_most__9 : decode cX12_most_ 9 = .ok (.istore_n 2, 1) := by decide +kernel
theorem dX12_most__10 : decode cX12_most_ 10 = .ok (.sipush 999, 3) := by decide +kernel
theorem dX12_most__13 : decode cX12_most_ 13 = .ok (.istore_n 3, 1) := by decide +kernel
theorem dX12_most__14 : decode cX12_most_ 14 = .ok (.iload_n 3, 1) := by decide +kernel
theorem dX12_most__15 : decode cX12_most_ 15 = .ok (.ifCond .lt 36, 3) := by decide +kernel
theorem dX12_most__18 : decode cX12_most_ 18 = .ok (.iload_n 2, 1) := by decide +kernel
theorem dX12_most__19 : decode cX12_most_ 19 = .ok (.bipush (-5), 2) := by decide +kernel
theorem dX12_most__21 : decode cX12_most_ 21 = .ok (.if_icmp .ne 30, 3) := by decide +kernel
theorem dX12_most__24 : decode cX12_most_ 24 = .ok (.aload_n 0, 1) := by decide +kernel
theorem dX12_most__25 : decode cX12_most_ 25 = .ok (.getfield 36, 3) := by decide +kernel
theorem dX12_most__28 : decode cX12_most_ 28 = .ok (.iconst 3, 1) := by decide +kernel
theorem dX12_most__29 : decode cX12_most_ 29 = .ok (.iload_n 3, 1) := by decide +kernel
theorem dX12_most__30 : decode cX12_most_ 30 = .ok (.iastore, 1) := by decide +kernel
theorem dX12_most__31 : decode cX12_most_ 31 = .ok (.aload_n 0, 1) := by decide +kernel
theorem dX12_most__32 : decode cX12_most_ 32 = .ok (.invokevirtual 244, 3) := by decide +kernel
theorem dX12_most__35 : decode cX12_most_ 35 = .ok (.ifCond .eq 7, 3) := by decide +kernel
theorem dX12_most__38 : decode cX12_most_ 38 = .ok (.iload_n 3, 1) := by decide +kernel
theorem dX12_most__39 : decode cX12_most_ 39 = .ok (.goto 5, 3) := by decide +kernel
theorem dX12_most__42 : decode cX12_most_ 42 = .ok (.bipush (-5), 2) := by decide +kernel
theorem dX12_most__44 : decode cX12_most_ 44 = .ok (.istore_n 2, 1) := by decide +kernel
theorem dX12_most__45 : decode cX12_most_ 45 = .ok (.iinc 3 (-1), 3) := by decide +kernel
theorem dX12_most__48 : decode cX12_most_ 48 = .ok (.goto (-34), 3) := by decide +kernel
theorem dX12_most__51 : decode cX12_most_ 51 = .ok (.aload_n 0, 1) := by decide +kernel
theorem dX12_most__52 : decode cX12_most_ 52 = .ok (.getfield 36, 3) := by decide +kernel
theorem dX12_most__55 : decode cX12_most_ 55 = .ok (.iconst 3, 1) := by decide +kernel
theorem dX12_most__56 : decode cX12_most_ 56 = .ok (.iload_n 1, 1) := by decide +kernel
theorem dX12_most__57 : decode cX12_most_ 57 = .ok (.iastore, 1) := by decide +kernel
theorem dX12_most__58 : decode cX12_most_ 58 = .ok (.iload_n 2, 1) := by decide +kernel
theorem dX12_most__59 : decode cX12_most_ 59 = .ok (.ireturn, 1) := by decide +kernel
def l_X12_most__14 (S : SH) (a0 : Nat) (a1 : Int32) (k14 : (Int32 × Int32 × Mem) → Option (Int32 × Mem)) (x : (Int32 × Int32 × Mem)) : Option (Int32 × Mem) :=
 (if x.2.1 < 0 then
 (gR S 12 a0 9).bind fun v3 =>
 (sI S v3 3 a1 x.2.2).bind fun ν4 =>
 some (x.1, ν4)
 else
 (if x.1 = (-5) then
 (gR S 12 a0 9).bind fun v7 =>
 (sI S v7 3 x.2.1 x.2.2).bind fun ν8 =>
 (f_X12_may S a0 ν8).bind fun q9 =>
 (if q9.1 = 0 then
 k14 ((-5), x.2.1 + (-1), q9.2)
 else
 k14 (x.2.1, x.2.1 + (-1), q9.2))
 else
 (gR S 12 a0 9).bind fun v5 =>
 (sI S v5 3 a1 x.2.2).bind fun ν6 =>
 some (x.1, ν6)))
set_option maxRecDepth 100000 in
set_option maxHeartbeats 4000000 in
theorem t_X12_most__14 {γ : GE} {p : Program} {l : Launch} {e : Env} {s : State} {m : MethodId} {args : Array Value} {below : List Frame} {meth : Method} {c : Code} {S : SH} {X : (Int32 × Mem)} (F : FX γ p s m args meth c cX12_most_ RX12 4) (hr : meth.sig.returnType = (some .int)) (a0 : Nat) (a1 : Int32) (k14 : (Int32 × Int32 × Mem) → Option (Int32 × Mem)) (hk14 : ∀ x : (Int32 × Int32 × Mem), k14 x = some X → JJ γ p l e rm_X12_most_ s m args below meth c 4 0 0 (QI below γ S X args s 0 0) S x.2.2 14 [(0, .ref (gb γ + a0)), (1, .int a1), (2, .int x.1), (3, .int x.2.1)] []) (x : (Int32 × Int32 × Mem)) (h : l_X12_most__14 S a0 a1 k14 x = some X) : JJ γ p l e rm_X12_most_ s m args below meth c 4 0 0 (QI below γ S X args s 0 0) S x.2.2 14 [(0, .ref (gb γ + a0)), (1, .int a1), (2, .int x.1), (3, .int x.2.1)] [] := by
  unfold l_X12_most__14 at h
  refine j_iload_n F 3 dX12_most__14 rfl ?_
  refine j_iflt F 51 dX12_most__15 (by decide) h (fun _ h => ?_) (fun _ h => ?_)
  · refine j_aload_n F 0 dX12_most__51 rfl ?_
    refine j_gR F fl_RX12_36 rfl dX12_most__52 h (fun v3 h => ?_)
    refine j_iconst F 3 dX12_most__55 (by decide) ?_
    refine j_iload_n F 1 dX12_most__56 rfl ?_
    refine j_iast F dX12_most__57 h (fun ν4 h => ?_)
    refine j_iload_n F 2 dX12_most__58 rfl ?_
    exact j_iret F hr dX12_most__59 h
  · refine j_iload_n F 2 dX12_most__18 rfl ?_
    refine j_bipush F (-5) dX12_most__19 (by decide) ?_
    refine j_icmpne F 51 dX12_most__21 (by decide) h (fun _ h => ?_) (fun _ h => ?_)
    · refine j_aload_n F 0 dX12_most__51 rfl ?_
      refine j_gR F fl_RX12_36 rfl dX12_most__52 h (fun v5 h => ?_)
      refine j_iconst F 3 dX12_most__55 (by decide) ?_
      refine j_iload_n F 1 dX12_most__56 rfl ?_
      refine j_iast F dX12_most__57 h (fun ν6 h => ?_)
      refine j_iload_n F 2 dX12_most__58 rfl ?_
      exact j_iret F hr dX12_most__59 h
    · refine j_aload_n F 0 dX12_most__24 rfl ?_
      refine j_gR F fl_RX12_36 rfl dX12_most__25 h (fun v7 h => ?_)
      refine j_iconst F 3 dX12_most__28 (by decide) ?_
      refine j_iload_n F 3 dX12_most__29 rfl ?_
      refine j_iast F dX12_most__30 h (fun ν8 h => ?_)
      refine j_aload_n F 0 dX12_most__31 rfl ?_
      refine j_cVI F mi_X12_may w_1308 (rest := []) h (fun _ g => c_X12_may g) rfl rfl (Nat.le_of_ble_eq_true rfl) ⟨Nat.le_of_ble_eq_true rfl, Nat.le_of_ble_eq_true rfl⟩ ⟨Nat.le_of_ble_eq_true rfl, Nat.le_of_ble_eq_true rfl⟩ dX12_most__32 (fun q9 h => ?_)
      refine j_ifeq F 42 dX12_most__35 (by decide) h (fun _ h => ?_) (fun _ h => ?_)
      · refine j_bipush F (-5) dX12_most__42 (by decide) ?_
        refine j_istore_n F [(2, .int (-5)), (0, .ref (gb γ + a0)), (1, .int a1), (3, .int x.2.1)] dX12_most__44 rfl (by decide) rfl ?_
        refine j_iinc F (-1) 3 [(3, .int (x.2.1 + (-1))), (2, .int (-5)), (0, .ref (gb γ + a0)), (1, .int a1)] dX12_most__45 rfl (by decide) (by decide) rfl ?_
        refine j_goto F 14 dX12_most__48 (by decide) ?_
        refine j_lv [(0, .ref (gb γ + a0)), (1, .int a1), (2, .int (-5)), (3, .int (x.2.1 + (-1)))] [2, 3, 1, 0] rfl ?_
        have h9 := hk14 _ h
        exact h9
      · refine j_iload_n F 3 dX12_most__38 rfl ?_
        refine j_goto F 44 dX12_most__39 (by decide) ?_
        refine j_istore_n F [(2, .int x.2.1), (0, .ref (gb γ + a0)), (1, .int a1), (3, .int x.2.1)] dX12_most__44 rfl (by decide) rfl ?_
        refine j_iinc F (-1) 3 [(3, .int (x.2.1 + (-1))), (2, .int x.2.1), (0, .ref (gb γ + a0)), (1, .int a1)] dX12_most__45 rfl (by decide) (by decide) rfl ?_
        refine j_goto F 14 dX12_most__48 (by decide) ?_
        refine j_lv [(0, .ref (gb γ + a0)), (1, .int a1), (2, .int x.2.1), (3, .int (x.2.1 + (-1)))] [2, 3, 1, 0] rfl ?_
        have h9 := hk14 _ h
        exact h9
theorem s_X12_most__14 {γ : GE} {p : Program} {l : Launch} {e : Env} {s : State} {m : MethodId} {args : Array Value} {below : List Frame} {meth : Method} {c : Code} {S : SH} {X : (Int32 × Mem)} (F : FX γ p s m args meth c cX12_most_ RX12 4) (hr : meth.sig.returnType = (some .int)) (a0 : Nat) (a1 : Int32) (x : (Int32 × Int32 × Mem)) (h : lpN (l_X12_most__14 S a0 a1) fu x = some X) : JJ γ p l e rm_X12_most_ s m args below meth c 4 0 0 (QI below γ S X args s 0 0) S x.2.2 14 [(0, .ref (gb γ + a0)), (1, .int a1), (2, .int x.1), (3, .int x.2.1)] [] :=
 lpN_sound (fun x => JJ γ p l e rm_X12_most_ s m args below meth c 4 0 0 (QI below γ S X args s 0 0) S x.2.2 14 [(0, .ref (gb γ + a0)), (1, .int a1), (2, .int x.1), (3, .int x.2.1)] []) (fun k14 hk14 x h => t_X12_most__14 F hr a0 a1 k14 hk14 x h) fu x h
def f_X12_most_ (S : SH) (a0 : Nat) (μ : Mem) : Option (Int32 × Mem) :=
  if isO S 12 a0 = true then
  (gR S 12 a0 9).bind fun v1 =>
  (aI S .int v1 3 μ).bind fun v2 =>
  lpN (l_X12_most__14 S  a0 v2) fu ((-5), 999, μ)
  else none
set_option maxRecDepth 100000 in
set_option maxHeartbeats 4000000 in
theorem c_X12_most_ {l : Launch} {γ : GE} {S : SH} {a0 : Nat} {μ : Mem} {X : (Int32 × Mem)} (h : f_X12_most_ S a0 μ = some X) : isO S 12 a0 = true ∧ Ct l γ yX12_most_ cX12_most_ 4 (some .int) rm_X12_most_ [.ref (gb γ + a0)] S μ S X.2 (some (.int X.1)) := by
  unfold f_X12_most_ at h
  obtain ⟨h0, h⟩ := if_some h
  refine ⟨h0, ?_⟩
  have hJ : ∀ (p : Program) (e : Env) (s : State) (m : MethodId) (args : Array Value) (below : List Frame) (meth : Method) (c : Code), FX γ p s m args meth c cX12_most_ RX12 4 → meth.sig.returnType = (some .int) → JJ γ p l e rm_X12_most_ s m args below meth c 4 0 0 (QI below γ S X args s 0 0) S μ 0 [(0, .ref (gb γ + a0))] [] := by
    intro p e s m args below meth c F hr
    refine j_aload_n F 0 dX12_most__0 rfl ?_
    refine j_gR F fl_RX12_36 rfl dX12_most__1 h (fun v1 h => ?_)
    refine j_iconst F 3 dX12_most__4 (by decide) ?_
    refine j_iald F dX12_most__5 h (fun v2 h => ?_)
    refine j_istore_n F [(1, .int v2), (0, .ref (gb γ + a0))] dX12_most__6 rfl (by decide) rfl ?_
    refine j_bipush F (-5) dX12_most__7 (by decide) ?_
    refine j_istore_n F [(2, .int (-5)), (1, .int v2), (0, .ref (gb γ + a0))] dX12_most__9 rfl (by decide) rfl ?_
    refine j_sipush F 999 dX12_most__10 (by decide) ?_
    refine j_istore_n F [(3, .int 999), (2, .int (-5)), (1, .int v2), (0, .ref (gb γ + a0))] dX12_most__13 rfl (by decide) rfl ?_
    refine j_lv [(0, .ref (gb γ + a0)), (1, .int v2), (2, .int (-5)), (3, .int 999)] [3, 2, 1, 0] rfl ?_
    exact s_X12_most__14 F hr _ _ _ h
  exact ct_of (by decide +kernel) (Nat.le_of_ble_eq_true rfl) (fun p e s m args below meth c F hr _ => hJ p e s m args below meth c F hr)
def rm_X12_mayAt : Room := { frames := 8, cells := 0, slots := 0, locals := 164 }
theorem dX12_mayAt_0 : decode cX12_mayAt 0 = .ok (.aload_n 0, 1) := by decide +kernel
theorem dX12_mayAt_1 : decode cX12_mayAt 1 = .ok (.getfield 36, 3) := by decide +kernel
theorem dX12_mayAt_4 : decode cX12_mayAt 4 = .ok (.iconst 0, 1) := by decide +kernel
theorem dX12_mayAt_5 : decode cX12_mayAt 5 = .ok (.iaload, 1) := by decide +kernel
theorem dX12_mayAt_6 : decode cX12_mayAt 6 = .ok (.istore_n 3, 1) := by decide +kernel
theorem dX12_mayAt_7 : decode cX12_mayAt 7 = .ok (.aload_n 0, 1) := by decide +kernel
theorem dX12_mayAt_8 : decode cX12_mayAt 8 = .ok (.getfield 36, 3) := by decide +kernel
theorem dX12_mayAt_11 : decode cX12_mayAt 11 = .ok (.iconst 1, 1) := by decide +kernel
theorem dX12_mayAt_12 : decode cX12_mayAt 12 = .ok (.iaload, 1) := by decide +kernel
theorem dX12_mayAt_13 : decode cX12_mayAt 13 = .ok (.istore 4, 2) := by decide +kernel
theorem dX12_mayAt_15 : decode cX12_mayAt 15 = .ok (.aload_n 0, 1) := by decide +kernel
theorem dX12_mayAt_16 : decode cX12_mayAt 16 = .ok (.getfield 36, 3) := by decide +kernel
theorem dX12_mayAt_19 : decode cX12_mayAt 19 = .ok (.iconst 0, 1) := by decide +kernel
theorem dX12_mayAt_20 : decode cX12_mayAt 20 = .ok (.iload_n 1, 1) := by decide +kernel
theorem dX12_mayAt_21 : decode cX12_mayAt 21 = .ok (.iastore, 1) := by decide +kernel
theorem dX12_mayAt_22 : decode cX12_mayAt 22 = .ok (.aload_n 0, 1) := by decide +kernel
theorem dX12_mayAt_23 : decode cX12_mayAt 23 = .ok (.getfield 36, 3) := by decide +kernel
theorem dX12_mayAt_26 : decode cX12_mayAt 26 = .ok (.iconst 1, 1) := by decide +kernel
theorem dX12_mayAt_27 : decode cX12_mayAt 27 = .ok (.iload_n 2, 1) := by decide +kernel
theorem dX12_mayAt_28 : decode cX12_mayAt 28 = .ok (.iastore, 1) := by decide +kernel
theorem dX12_mayAt_29 : decode cX12_mayAt 29 = .ok (.aload_n 0, 1) := by decide +kernel
theorem dX12_mayAt_30 : decode cX12_mayAt 30 = .ok (.invokevirtual 244, 3) := by decide +kernel
theorem dX12_mayAt_33 : decode cX12_mayAt 33 = .ok (.istore 5, 2) := by decide +kernel
theorem dX12_mayAt_35 : decode cX12_mayAt 35 = .ok (.aload_n 0, 1) := by decide +kernel
theorem dX12_mayAt_36 : decode cX12_mayAt 36 = .ok (.getfield 36, 3) := by decide +kernel
theorem dX12_mayAt_39 : decode cX12_mayAt 39 = .ok (.iconst 0, 1) := by decide +kernel
theorem dX12_mayAt_40 : decode cX12_mayAt 40 = .ok (.iload_n 3, 1) := by decide +kernel
theorem dX12_mayAt_41 : decode cX12_mayAt 41 = .ok (.iastore, 1) := by decide +kernel
theorem dX12_mayAt_42 : decode cX12_mayAt 42 = .ok (.aload_n 0, 1) := by decide +kernel
theorem dX12_mayAt_43 : decode cX12_mayAt 43 = .ok (.getfield 36, 3) := by decide +kernel
theorem dX12_mayAt_46 : decode cX12_mayAt 46 = .ok (.iconst 1, 1) := by decide +kernel
theorem dX12_mayAt_47 : decode cX12_mayAt 47 = .ok (.iload 4, 2) := by decide +kernel
theorem dX12_mayAt_49 : decode cX12_mayAt 49 = .ok (.iastore, 1) := by decide +kernel
theorem dX12_mayAt_50 : decode cX12_mayAt 50 = .ok (.iload 5, 2) := by decide +kernel
theorem dX12_mayAt_52 : decode cX12_mayAt 52 = .ok (.ireturn, 1) := by decide +kernel
def f_X12_mayAt (S : SH) (a0 : Nat) (a1 : Int32) (a2 : Int32) (μ : Mem) : Option (Int32 × Mem) :=
  if isO S 12 a0 = true then
  (gR S 12 a0 9).bind fun v1 =>
  (aI S .int v1 0 μ).bind fun v2 =>
  (gR S 12 a0 9).bind fun v3 =>
  (aI S .int v3 1 μ).bind fun v4 =>
  (gR S 12 a0 9).bind fun v5 =>
  (sI S v5 0 a1 μ).bind fun ν6 =>
  (gR S 12 a0 9).bind fun v7 =>
  (sI S v7 1 a2 ν6).bind fun ν8 =>
  (f_X12_may S a0 ν8).bind fun q9 =>
  (gR S 12 a0 9).bind fun v10 =>
  (sI S v10 0 v2 q9.2).bind fun ν11 =>
  (gR S 12 a0 9).bind fun v12 =>
  (sI S v12 1 v4 ν11).bind fun ν13 =>
  (oz q9.1).bind fun z14 => some (z14, ν13)
  else none
set_option maxRecDepth 100000 in
set_option maxHeartbeats 4000000 in
theorem c_X12_mayAt {l : Launch} {γ : GE} {S : SH} {a0 : Nat} {a1 : Int32} {a2 : Int32} {μ : Mem} {X : (Int32 × Mem)} (h : f_X12_mayAt S a0 a1 a2 μ = some X) : isO S 12 a0 = true ∧ Ct l γ yX12_mayAt cX12_mayAt 6 (some .boolean) rm_X12_mayAt [.ref (gb γ + a0), .int a1, .int a2] S μ S X.2 (some (.int X.1)) := by
  unfold f_X12_mayAt at h
  obtain ⟨h0, h⟩ := if_some h
  refine ⟨h0, ?_⟩
  have hJ : ∀ (p : Program) (e : Env) (s : State) (m : MethodId) (args : Array Value) (below : List Frame) (meth : Method) (c : Code), FX γ p s m args meth c cX12_mayAt RX12 6 → meth.sig.returnType = (some .boolean) → JJ γ p l e rm_X12_mayAt s m args below meth c 6 0 0 (QI below γ S X args s 0 0) S μ 0 [(0, .ref (gb γ + a0)), (1, .int a1), (2, .int a2)] [] := by
    intro p e s m args below meth c F hr
    refine j_aload_n F 0 dX12_mayAt_0 rfl ?_
    refine j_gR F fl_RX12_36 rfl dX12_mayAt_1 h (fun v1 h => ?_)
    refine j_iconst F 0 dX12_mayAt_4 (by decide) ?_
    refine j_iald F dX12_mayAt_5 h (fun v2 h => ?_)
    refine j_istore_n F [(3, .int v2), (0, .ref (gb γ + a0)), (1, .int a1), (2, .int a2)] dX12_mayAt_6 rfl (by decide) rfl ?_
    refine j_aload_n F 1 dX12_mayAt_7 rfl ?_
    refine j_gR F fl_RX12_36 rfl dX12_mayAt_8 h (fun v3 h => ?_)
    refine j_iconst F 1 dX12_mayAt_11 (by decide) ?_
    refine j_iald F dX12_mayAt_12 h (fun v4 h => ?_)
    refine j_istore F [(4, .int v4), (3, .int v2), (0, .ref (gb γ + a0)), (1, .int a1), (2, .int a2)] dX12_mayAt_13 (by decide) rfl ?_
    refine j_aload_n F 2 dX12_mayAt_15 rfl ?_
    refine j_gR F fl_RX12_36 rfl dX12_mayAt_16 h (fun v5 h => ?_)
    refine j_iconst F 0 dX12_mayAt_19 (by decide) ?_
    refine j_iload_n F 3 dX12_mayAt_20 rfl ?_
    refine j_iast F dX12_mayAt_21 h (fun ν6 h => ?_)
    refine j_aload_n F 2 dX12_mayAt_22 rfl ?_
    refine j_gR F fl_RX12_36 rfl dX12_mayAt_23 h (fun v7 h => ?_)
    refine j_iconst F 1 dX12_mayAt_26 (by decide) ?_
    refine j_iload_n F 4 dX12_mayAt_27 rfl ?_
    refine j_iast F dX12_mayAt_28 h (fun ν8 h => ?_)
    refine j_aload_n F 2 dX12_mayAt_29 rfl ?_
    refine j_cVI F mi_X12_may w_1308 (rest := []) h (fun _ g => c_X12_may g) rfl rfl (Nat.le_of_ble_eq_true rfl) ⟨Nat.le_of_ble_eq_true rfl, Nat.le_of_ble_eq_true rfl⟩ ⟨Nat.le_of_ble_eq_true rfl, Nat.le_of_ble_eq_true rfl⟩ dX12_mayAt_30 (fun q9 h => ?_)
    refine j_istore F [(5, .int q9.1), (4, .int v4), (3, .int v2), (0, .ref (gb γ + a0)), (1, .int a1), (2, .int a2)] dX12_mayAt_33 (by decide) rfl ?_
    refine j_aload_n F 3 dX12_mayAt_35 rfl ?_
    refine j_gR F fl_RX12_36 rfl dX12_mayAt_36 h (fun v10 h => ?_)
    refine j_iconst F 0 dX12_mayAt_39 (by decide) ?_
    refine j_iload_n F 2 dX12_mayAt_40 rfl ?_
    refine j_iast F dX12_mayAt_41 h (fun ν11 h => ?_)
    refine j_aload_n F 3 dX12_mayAt_42 rfl ?_
    refine j_gR F fl_RX12_36 rfl dX12_mayAt_43 h (fun v12 h => ?_)
    refine j_iconst F 1 dX12_mayAt_46 (by decide) ?_
    refine j_iload F 1 dX12_mayAt_47 rfl ?_
    refine j_iast F dX12_mayAt_49 h (fun ν13 h => ?_)
    refine j_iload F 0 dX12_mayAt_50 rfl ?_
    exact j_zretG F hr dX12_mayAt_52 h
  exact ct_of (by decide +kernel) (Nat.le_of_ble_eq_true rfl) (fun p e s m args below meth c F hr _ => hJ p e s m args below meth c F hr)
def rm_X12_where : Room := { frames := 9, cells := 0, slots := 0, locals := 189 }
theorem dX12_where_0 : decode cX12_where 0 = .ok (.iload_n 1, 1) := by decide +kernel
theorem dX12_where_1 : decode cX12_where 1 = .ok (.invokestatic 136, 3) := by decide +kernel
theorem dX12_where_4 : decode cX12_where 4 = .ok (.ifCond .ne 6, 3) := by decide +kernel
theorem dX12_where_7 : decode cX12_where 7 = .ok (.bipush (-2), 2) := by decide +kernel
theorem dX12_where_9 : decode cX12_where 9 = .ok (.ireturn, 1) := by decide +kernel
theorem dX12_where_10 : decode cX12_where 10 = .ok (.iconst 0, 1) := by decide +kernel
theorem dX12_where_11 : decode cX12_where 11 = .ok (.istore_n 2, 1) := by decide +kernel
theorem dX12_where_12 : decode cX12_where 12 = .ok (.iconst 0, 1) := by decide +kernel
theorem dX12_where_13 : decode cX12_where 13 = .ok (.istore_n 3, 1) := by decide +kernel
theorem dX12_where_14 : decode cX12_where 14 = .ok (.iload_n 3, 1) := by decide +kernel
theorem dX12_where_15 : decode cX12_where 15 = .ok (.bipush 20, 2) := by decide +kernel
theorem dX12_where_17 : decode cX12_where 17 = .ok (.if_icmp .ge 28, 3) := by decide +kernel
theorem dX12_where_20 : decode cX12_where 20 = .ok (.iload_n 2, 1) := by decide +kernel
theorem dX12_where_21 : decode cX12_where 21 = .ok (.aload_n 0, 1) := by decide +kernel
theorem dX12_where_22 : decode cX12_where 22 = .ok (.iload_n 3, 1) := by decide +kernel
theorem dX12_where_23 : decode cX12_where 23 = .ok (.iload_n 1, 1) := by decide +kernel
theorem dX12_where_24 : decode cX12_where 24 = .ok (.invokevirtual 247, 3) := by decide +kernel
theorem dX12_where_27 : decode cX12_where 27 = .ok (.ifCond .eq 9, 3) := by decide +kernel
theorem dX12_where_30 : decode cX12_where 30 = .ok (.iconst 1, 1) := by decide +kernel
theorem dX12_where_31 : decode cX12_where 31 = .ok (.iload_n 3, 1) := by decide +kernel
theorem dX12_where_32 : decode cX12_where 32 = .ok (.ishl, 1) := by decide +kernel
theorem dX12_where_33 : decode cX12_where 33 = .ok (.goto 4, 3) := by decide +kernel
theorem dX12_where_36 : decode cX12_where 36 = .ok (.iconst 0, 1) := by decide +kernel
theorem dX12_where_37 : decode cX12_where 37 = .ok (.ior, 1) := by decide +kernel
theorem dX12_where_38 : decode cX12_where 38 = .ok (.istore_n 2, 1) := by decide +kernel
theorem dX12_where_39 : decode cX12_where 39 = .ok (.iinc 3 1, 3) := by decide +kernel
theorem dX12_where_42 : decode cX12_where 42 = .ok (.goto (-28), 3) := by decide +kernel
theorem dX12_where_45 : decode cX12_where 45 = .ok (.iload_n 2, 1) := by decide +kernel
theorem dX12_where_46 : decode cX12_where 46 = .ok (.ireturn, 1) := by decide +kernel
def l_X12_where_14 (S : SH) (a0 : Nat) (a1 : Int32) (k14 : (Int32 × Int32 × Mem) → Option (Int32 × Mem)) (x : (Int32 × Int32 × Mem)) : Option (Int32 × Mem) :=
 (if 20 ≤ x.2.1 then
 some (x.1, x.2.2)
 else
 (f_X12_mayAt S a0 x.2.1 a1 x.2.2).bind fun q2 =>
 (if q2.1 = 0 then
 (some (x.1 ||| 0)).bind fun y3 =>
 k14 (y3, x.2.1 + 1, q2.2)
 else
 (some (x.1 ||| (1 <<< (x.2.1 &&& 31)))).bind fun y4 =>
 k14 (y4, x.2.1 + 1, q2.2)))
set_option maxRecDepth 100000 in
set_option maxHeartbeats 4000000 in
theorem t_X12_where_14 {γ : GE} {p : Program} {l : Launch} {e : Env} {s : State} {m : MethodId} {args : Array Value} {below : List Frame} {meth : Method} {c : Code} {S : SH} {X : (Int32 × Mem)} (F : FX γ p s m args meth c cX12_where RX12 4) (hr : meth.sig.returnType = (some .int)) (a0 : Nat) (a1 : Int32) (k14 : (Int32 × Int32 × Mem) → Option (Int32 × Mem)) (hk14 : ∀ x : (Int32 × Int32 × Mem), k14 x = some X → JJ γ p l e rm_X12_where s m args below meth c 4 0 0 (QI below γ S X args s 0 0) S x.2.2 14 [(0, .ref (gb γ + a0)), (1, .int a1), (2, .int x.1), (3, .int x.2.1)] []) (x : (Int32 × Int32 × Mem)) (h : l_X12_where_14 S a0 a1 k14 x = some X) : JJ γ p l e rm_X12_where s m args below meth c 4 0 0 (QI below γ S X args s 0 0) S x.2.2 14 [(0, .ref (gb γ + a0)), (1, .int a1), (2, .int x.1), (3, .int x.2.1)] [] := by
  unfold l_X12_where_14 at h
  refine j_iload_n F 3 dX12_where_14 rfl ?_
  refine j_bipush F 20 dX12_where_15 (by decide) ?_
  refine j_icmpge F 45 dX12_where_17 (by decide) h (fun _ h => ?_) (fun _ h => ?_)
  · refine j_iload_n F 2 dX12_where_45 rfl ?_
    exact j_iret F hr dX12_where_46 h
  · refine j_iload_n F 2 dX12_where_20 rfl ?_
    refine j_aload_n F 0 dX12_where_21 rfl ?_
    refine j_iload_n F 3 dX12_where_22 rfl ?_
    refine j_iload_n F 1 dX12_where_23 rfl ?_
    refine j_cVI F mi_X12_mayAt w_1316 (rest := [.int x.1]) h (fun _ g => c_X12_mayAt g) rfl rfl (Nat.le_of_ble_eq_true rfl) ⟨Nat.le_of_ble_eq_true rfl, Nat.le_of_ble_eq_true rfl⟩ ⟨Nat.le_of_ble_eq_true rfl, Nat.le_of_ble_eq_true rfl⟩ dX12_where_24 (fun q2 h => ?_)
    refine j_ifeq F 36 dX12_where_27 (by decide) h (fun _ h => ?_) (fun _ h => ?_)
    · refine j_iconst F 0 dX12_where_36 (by decide) ?_
      refine j_ior F dX12_where_37 ?_
      refine j_nmI h (fun y3 h => ?_)
      refine j_istore_n F [(2, .int y3), (0, .ref (gb γ + a0)), (1, .int a1), (3, .int x.2.1)] dX12_where_38 rfl (by decide) rfl ?_
      refine j_iinc F 1 3 [(3, .int (x.2.1 + 1)), (2, .int y3), (0, .ref (gb γ + a0)), (1, .int a1)] dX12_where_39 rfl (by decide) (by decide) rfl ?_
      refine j_goto F 14 dX12_where_42 (by decide) ?_
      refine j_lv [(0, .ref (gb γ + a0)), (1, .int a1), (2, .int y3), (3, .int (x.2.1 + 1))] [2, 3, 1, 0] rfl ?_
      have h9 := hk14 _ h
      exact h9
    · refine j_iconst F 1 dX12_where_30 (by decide) ?_
      refine j_iload_n F 3 dX12_where_31 rfl ?_
      refine j_ishl F dX12_where_32 ?_
      refine j_goto F 37 dX12_where_33 (by decide) ?_
      refine j_ior F dX12_where_37 ?_
      refine j_nmI h (fun y4 h => ?_)
      refine j_istore_n F [(2, .int y4), (0, .ref (gb γ + a0)), (1, .int a1), (3, .int x.2.1)] dX12_where_38 rfl (by decide) rfl ?_
      refine j_iinc F 1 3 [(3, .int (x.2.1 + 1)), (2, .int y4), (0, .ref (gb γ + a0)), (1, .int a1)] dX12_where_39 rfl (by decide) (by decide) rfl ?_
      refine j_goto F 14 dX12_where_42 (by decide) ?_
      refine j_lv [(0, .ref (gb γ + a0)), (1, .int a1), (2, .int y4), (3, .int (x.2.1 + 1))] [2, 3, 1, 0] rfl ?_
      have h9 := hk14 _ h
      exact h9
theorem s_X12_where_14 {γ : GE} {p : Program} {l : Launch} {e : Env} {s : State} {m : MethodId} {args : Array Value} {below : List Frame} {meth : Method} {c : Code} {S : SH} {X : (Int32 × Mem)} (F : FX γ p s m args meth c cX12_where RX12 4) (hr : meth.sig.returnType = (some .int)) (a0 : Nat) (a1 : Int32) (x : (Int32 × Int32 × Mem)) (h : lpN (l_X12_where_14 S a0 a1) fu x = some X) : JJ γ p l e rm_X12_where s m args below meth c 4 0 0 (QI below γ S X args s 0 0) S x.2.2 14 [(0, .ref (gb γ + a0)), (1, .int a1), (2, .int x.1), (3, .int x.2.1)] [] :=
 lpN_sound (fun x => JJ γ p l e rm_X12_where s m args below meth c 4 0 0 (QI below γ S X args s 0 0) S x.2.2 14 [(0, .ref (gb γ + a0)), (1, .int a1), (2, .int x.1), (3, .int x.2.1)] []) (fun k14 hk14 x h => t_X12_where_14 F hr a0 a1 k14 hk14 x h) fu x h
def f_X12_where (S : SH) (a0 : Nat) (a1 : Int32) (μ : Mem) : Option (Int32 × Mem) :=
  if isO S 12 a0 = true then
  (f_X12_isReach S a1 μ).bind fun q1 =>
  (if q1.1 = 0 then
  some ((-2), q1.2)
  else
  lpN (l_X12_where_14 S  a0 a1) fu (0, 0, q1.2))
  else none
set_option maxRecDepth 100000 in
set_option maxHeartbeats 4000000 in
theorem c_X12_where {l : Launch} {γ : GE} {S : SH} {a0 : Nat} {a1 : Int32} {μ : Mem} {X : (Int32 × Mem)} (h : f_X12_where S a0 a1 μ = some X) : isO S 12 a0 = true ∧ Ct l γ yX12_where cX12_where 4 (some .int) rm_X12_where [.ref (gb γ + a0), .int a1] S μ S X.2 (some (.int X.1)) := by
  unfold f_X12_where at h
  obtain ⟨h0, h⟩ := if_some h
  refine ⟨h0, ?_⟩
  have hJ : ∀ (p : Program) (e : Env) (s : State) (m : MethodId) (args : Array Value) (below : List Frame) (meth : Method) (c : Code), FX γ p s m args meth c cX12_where RX12 4 → meth.sig.returnType = (some .int) → JJ γ p l e rm_X12_where s m args below meth c 4 0 0 (QI below γ S X args s 0 0) S μ 0 [(0, .ref (gb γ + a0)), (1, .int a1)] [] := by
    intro p e s m args below meth c F hr
    refine j_iload_n F 1 dX12_where_0 rfl ?_
    refine j_cSI F mi_X12_isReach w_1160 (rest := []) h (fun _ g => c_X12_isReach g) rfl rfl (Nat.le_of_ble_eq_true rfl) ⟨Nat.le_of_ble_eq_true rfl, Nat.le_of_ble_eq_true rfl⟩ ⟨Nat.le_of_ble_eq_true rfl, Nat.le_of_ble_eq_true rfl⟩ dX12_where_1 (fun q1 h => ?_)
    refine j_ifne F 10 dX12_where_4 (by decide) h (fun _ h => ?_) (fun _ h => ?_)
    · refine j_iconst F 0 dX12_where_10 (by decide) ?_
      refine j_istore_n F [(2, .int 0), (0, .ref (gb γ + a0)), (1, .int a1)] dX12_where_11 rfl (by decide) rfl ?_
      refine j_iconst F 0 dX12_where_12 (by decide) ?_
      refine j_istore_n F [(3, .int 0), (2, .int 0), (0, .ref (gb γ + a0)), (1, .int a1)] dX12_where_13 rfl (by decide) rfl ?_
      refine j_lv [(0, .ref (gb γ + a0)), (1, .int a1), (2, .int 0), (3, .int 0)] [2, 3, 1, 0] rfl ?_
      exact s_X12_where_14 F hr _ _ _ h
    · refine j_bipush F (-2) dX12_where_7 (by decide) ?_
      exact j_iret F hr dX12_where_9 h
  exact ct_of (by decide +kernel) (Nat.le_of_ble_eq_true rfl) (fun p e s m args below meth c F hr _ => hJ p e s m args below meth c F hr)
def rm_X12_farthest : Room := { frames := 9, cells := 0, slots := 0, locals := 189 }
theorem dX12_farthest_0 : decode cX12_farthest 0 = .ok (.iload_n 1, 1) := by decide +kernel
theorem dX12_farthest_1 : decode cX12_farthest 1 = .ok (.invokestatic 162, 3) := by decide +kernel
theorem dX12_farthest_4 : decode cX12_farthest 4 = .ok (.ifCond .ne 5, 3) := by decide +kernel
theorem dX12_farthest_7 : decode cX12_farthest 7 = .ok (.iconst (-1), 1) := by decide +kernel
theorem dX12_farthest_8 : decode cX12_farthest 8 = .ok (.ireturn, 1) := by decide +kernel
theorem dX12_farthest_9 : decode cX12_farthest 9 = .ok (.bipush 60, 2) := by decide +kernel
theorem dX12_farthest_11 : decode cX12_farthest 11 = .ok (.istore_n 2, 1) := by decide +kernel
theorem dX12_farthest_12 : decode cX12_farthest 12 = .ok (.iload_n 2, 1) := by decide +kernel
theorem dX12_farthest_13 : decode cX12_farthest 13 = .ok (.ifCond .lt 20, 3) := by decide +kernel
theorem dX12_farthest_16 : decode cX12_farthest 16 = .ok (.aload_n 0, 1) := by decide +kernel
theorem dX12_farthest_17 : decode cX12_farthest 17 = .ok (.iload_n 1, 1) := by decide +kernel
theorem dX12_farthest_18 : decode cX12_farthest 18 = .ok (.iload_n 2, 1) := by decide +kernel
theorem dX12_farthest_19 : decode cX12_farthest 19 = .ok (.invokevirtual 247, 3) := by decide +kernel
theorem dX12_farthest_22 : decode cX12_farthest 22 = .ok (.ifCond .eq 5, 3) := by decide +kernel
theorem dX12_farthest_25 : decode cX12_farthest 25 = .ok (.iload_n 2, 1) := by decide +kernel
theorem dX12_farthest_26 : decode cX12_farthest 26 = .ok (.ireturn, 1) := by decide +kernel
theorem dX12_farthest_27 : decode cX12_farthest 27 = .ok (.iinc 2 (-1), 3) := by decide +kernel
theorem dX12_farthest_30 : decode cX12_farthest 30 = .ok (.goto (-18), 3) := by decide +kernel
theorem dX12_farthest_33 : decode cX12_farthest 33 = .ok (.bipush (-5), 2) := by decide +kernel
theorem dX12_farthest_35 : decode cX12_farthest 35 = .ok (.ireturn, 1) := by decide +kernel
def l_X12_farthest_12 (S : SH) (a0 : Nat) (a1 : Int32) (k12 : (Int32 × Mem) → Option (Int32 × Mem)) (x : (Int32 × Mem)) : Option (Int32 × Mem) :=
 (if x.1 < 0 then
 some ((-5), x.2)
 else
 (f_X12_mayAt S a0 a1 x.1 x.2).bind fun q2 =>
 (if q2.1 = 0 then
 k12 (x.1 + (-1), q2.2)
 else
 some (x.1, q2.2)))
set_option maxRecDepth 100000 in
set_option maxHeartbeats 4000000 in
theorem t_X12_farthest_12 {γ : GE} {p : Program} {l : Launch} {e : Env} {s : State} {m : MethodId} {args : Array Value} {below : List Frame} {meth : Method} {c : Code} {S : SH} {X : (Int32 × Mem)} (F : FX γ p s m args meth c cX12_farthest RX12 3) (hr : meth.sig.returnType = (some .int)) (a0 : Nat) (a1 : Int32) (k12 : (Int32 × Mem) → Option (Int32 × Mem)) (hk12 : ∀ x : (Int32 × Mem), k12 x = some X → JJ γ p l e rm_X12_farthest s m args below meth c 3 0 0 (QI below γ S X args s 0 0) S x.2 12 [(0, .ref (gb γ + a0)), (1, .int a1), (2, .int x.1)] []) (x : (Int32 × Mem)) (h : l_X12_farthest_12 S a0 a1 k12 x = some X) : JJ γ p l e rm_X12_farthest s m args below meth c 3 0 0 (QI below γ S X args s 0 0) S x.2 12 [(0, .ref (gb γ + a0)), (1, .int a1), (2, .int x.1)] [] := by
  unfold l_X12_farthest_12 at h
  refine j_iload_n F 2 dX12_farthest_12 rfl ?_
  refine j_iflt F 33 dX12_farthest_13 (by decide) h (fun _ h => ?_) (fun _ h => ?_)
  · refine j_bipush F (-5) dX12_farthest_33 (by decide) ?_
    exact j_iret F hr dX12_farthest_35 h
  · refine j_aload_n F 0 dX12_farthest_16 rfl ?_
    refine j_iload_n F 1 dX12_farthest_17 rfl ?_
    refine j_iload_n F 2 dX12_farthest_18 rfl ?_
    refine j_cVI F mi_X12_mayAt w_1316 (rest := []) h (fun _ g => c_X12_mayAt g) rfl rfl (Nat.le_of_ble_eq_true rfl) ⟨Nat.le_of_ble_eq_true rfl, Nat.le_of_ble_eq_true rfl⟩ ⟨Nat.le_of_ble_eq_true rfl, Nat.le_of_ble_eq_true rfl⟩ dX12_farthest_19 (fun q2 h => ?_)
    refine j_ifeq F 27 dX12_farthest_22 (by decide) h (fun _ h => ?_) (fun _ h => ?_)
    · refine j_iinc F (-1) 2 [(2, .int (x.1 + (-1))), (0, .ref (gb γ + a0)), (1, .int a1)] dX12_farthest_27 rfl (by decide) (by decide) rfl ?_
      refine j_goto F 12 dX12_farthest_30 (by decide) ?_
      refine j_lv [(0, .ref (gb γ + a0)), (1, .int a1), (2, .int (x.1 + (-1)))] [1, 2, 0] rfl ?_
      have h9 := hk12 _ h
      exact h9
    · refine j_iload_n F 2 dX12_farthest_25 rfl ?_
      exact j_iret F hr dX12_farthest_26 h
theorem s_X12_farthest_12 {γ : GE} {p : Program} {l : Launch} {e : Env} {s : State} {m : MethodId} {args : Array Value} {below : List Frame} {meth : Method} {c : Code} {S : SH} {X : (Int32 × Mem)} (F : FX γ p s m args meth c cX12_farthest RX12 3) (hr : meth.sig.returnType = (some .int)) (a0 : Nat) (a1 : Int32) (x : (Int32 × Mem)) (h : lpN (l_X12_farthest_12 S a0 a1) fu x = some X) : JJ γ p l e rm_X12_farthest s m args below meth c 3 0 0 (QI below γ S X args s 0 0) S x.2 12 [(0, .ref (gb γ + a0)), (1, .int a1), (2, .int x.1)] [] :=
 lpN_sound (fun x => JJ γ p l e rm_X12_farthest s m args below meth c 3 0 0 (QI below γ S X args s 0 0) S x.2 12 [(0, .ref (gb γ + a0)), (1, .int a1), (2, .int x.1)] []) (fun k12 hk12 x h => t_X12_farthest_12 F hr a0 a1 k12 hk12 x h) fu x h
def f_X12_farthest (S : SH) (a0 : Nat) (a1 : Int32) (μ : Mem) : Option (Int32 × Mem) :=
  if isO S 12 a0 = true then
  (f_X12_isDirection S a1 μ).bind fun q1 =>
  (if q1.1 = 0 then
  some ((-1), q1.2)
  else
  lpN (l_X12_farthest_12 S  a0 a1) fu (60, q1.2))
  else none
set_option maxRecDepth 100000 in
set_option maxHeartbeats 4000000 in
theorem c_X12_farthest {l : Launch} {γ : GE} {S : SH} {a0 : Nat} {a1 : Int32} {μ : Mem} {X : (Int32 × Mem)} (h : f_X12_farthest S a0 a1 μ = some X) : isO S 12 a0 = true ∧ Ct l γ yX12_farthest cX12_farthest 3 (some .int) rm_X12_farthest [.ref (gb γ + a0), .int a1] S μ S X.2 (some (.int X.1)) := by
  unfold f_X12_farthest at h
  obtain ⟨h0, h⟩ := if_some h
  refine ⟨h0, ?_⟩
  have hJ : ∀ (p : Program) (e : Env) (s : State) (m : MethodId) (args : Array Value) (below : List Frame) (meth : Method) (c : Code), FX γ p s m args meth c cX12_farthest RX12 3 → meth.sig.returnType = (some .int) → JJ γ p l e rm_X12_farthest s m args below meth c 3 0 0 (QI below γ S X args s 0 0) S μ 0 [(0, .ref (gb γ + a0)), (1, .int a1)] [] := by
    intro p e s m args below meth c F hr
    refine j_iload_n F 1 dX12_farthest_0 rfl ?_
    refine j_cSI F mi_X12_isDirection w_1191 (rest := []) h (fun _ g => c_X12_isDirection g) rfl rfl (Nat.le_of_ble_eq_true rfl) ⟨Nat.le_of_ble_eq_true rfl, Nat.le_of_ble_eq_true rfl⟩ ⟨Nat.le_of_ble_eq_true rfl, Nat.le_of_ble_eq_true rfl⟩ dX12_farthest_1 (fun q1 h => ?_)
    refine j_ifne F 9 dX12_farthest_4 (by decide) h (fun _ h => ?_) (fun _ h => ?_)
    · refine j_bipush F 60 dX12_farthest_9 (by decide) ?_
      refine j_istore_n F [(2, .int 60), (0, .ref (gb γ + a0)), (1, .int a1)] dX12_farthest_11 rfl (by decide) rfl ?_
      refine j_lv [(0, .ref (gb γ + a0)), (1, .int a1), (2, .int 60)] [1, 2, 0] rfl ?_
      exact s_X12_farthest_12 F hr _ _ _ h
    · refine j_iconst F (-1) dX12_farthest_7 (by decide) ?_
      exact j_iret F hr dX12_farthest_8 h
  exact ct_of (by decide +kernel) (Nat.le_of_ble_eq_true rfl) (fun p e s m args below meth c F hr _ => hJ p e s m args below meth c F hr)
def rm_X12_comesTo : Room := { frames := 9, cells := 0, slots := 0, locals := 189 }
theorem dX12_comesTo_0 : decode cX12_comesTo 0 = .ok (.bipush 61, 2) := by decide +kernel
theorem dX12_comesTo_2 : decode cX12_comesTo 2 = .ok (.iload_n 1, 1) := by decide +kernel
theorem dX12_comesTo_3 : decode cX12_comesTo 3 = .ok (.imul, 1) := by decide +kernel
theorem dX12_comesTo_4 : decode cX12_comesTo 4 = .ok (.iload_n 2, 1) := by decide +kernel
theorem dX12_comesTo_5 : decode cX12_comesTo 5 = .ok (.iadd, 1) := by decide +kernel
theorem dX12_comesTo_6 : decode cX12_comesTo 6 = .ok (.istore 4, 2) := by decide +kernel
theorem dX12_comesTo_8 : decode cX12_comesTo 8 = .ok (.iload_n 2, 1) := by decide +kernel
theorem dX12_comesTo_9 : decode cX12_comesTo 9 = .ok (.invokestatic 136, 3) := by decide +kernel
theorem dX12_comesTo_12 : decode cX12_comesTo 12 = .ok (.ifCond .eq 14, 3) := by decide +kernel
theorem dX12_comesTo_15 : decode cX12_comesTo 15 = .ok (.aload_n 0, 1) := by decide +kernel
theorem dX12_comesTo_16 : decode cX12_comesTo 16 = .ok (.getfield 55, 3) := by decide +kernel
theorem dX12_comesTo_19 : decode cX12_comesTo 19 = .ok (.iload 4, 2) := by decide +kernel
theorem dX12_comesTo_21 : decode cX12_comesTo 21 = .ok (.iaload, 1) := by decide +kernel
theorem dX12_comesTo_22 : decode cX12_comesTo 22 = .ok (.iconst (-1), 1) := by decide +kernel
theorem dX12_comesTo_23 : decode cX12_comesTo 23 = .ok (.if_icmp .eq 4, 3) := by decide +kernel
theorem dX12_comesTo_26 : decode cX12_comesTo 26 = .ok (.return_, 1) := by decide +kernel
theorem dX12_comesTo_27 : decode cX12_comesTo 27 = .ok (.aload_n 0, 1) := by decide +kernel
theorem dX12_comesTo_28 : decode cX12_comesTo 28 = .ok (.getfield 55, 3) := by decide +kernel
theorem dX12_comesTo_31 : decode cX12_comesTo 31 = .ok (.iload 4, 2) := by decide +kernel
theorem dX12_comesTo_33 : decode cX12_comesTo 33 = .ok (.aload_n 0, 1) := by decide +kernel
theorem dX12_comesTo_34 : decode cX12_comesTo 34 = .ok (.iload_n 1, 1) := by decide +kernel
theorem dX12_comesTo_35 : decode cX12_comesTo 35 = .ok (.iload_n 2, 1) := by decide +kernel
theorem dX12_comesTo_36 : decode cX12_comesTo 36 = .ok (.invokevirtual 247, 3) := by decide +kernel
theorem dX12_comesTo_39 : decode cX12_comesTo 39 = .ok (.ifCond .eq 7, 3) := by decide +kernel
theorem dX12_comesTo_42 : decode cX12_comesTo 42 = .ok (.iload_n 3, 1) := by decide +kernel
theorem dX12_comesTo_43 : decode cX12_comesTo 43 = .ok (.goto 5, 3) := by decide +kernel
theorem dX12_comesTo_46 : decode cX12_comesTo 46 = .ok (.bipush (-2), 2) := by decide +kernel
theorem dX12_comesTo_48 : decode cX12_comesTo 48 = .ok (.iastore, 1) := by decide +kernel
theorem dX12_comesTo_49 : decode cX12_comesTo 49 = .ok (.aload_n 0, 1) := by decide +kernel
theorem dX12_comesTo_50 : decode cX12_comesTo 50 = .ok (.getfield 55, 3) := by decide +kernel
theorem dX12_comesTo_53 : decode cX12_comesTo 53 = .ok (.iload 4, 2) := by decide +kernel
theorem dX12_comesTo_55 : decode cX12_comesTo 55 = .ok (.iaload, 1) := by decide +kernel
theorem dX12_comesTo_56 : decode cX12_comesTo 56 = .ok (.ifCond .lt 24, 3) := by decide +kernel
theorem dX12_comesTo_59 : decode cX12_comesTo 59 = .ok (.aload_n 0, 1) := by decide +kernel
theorem dX12_comesTo_60 : decode cX12_comesTo 60 = .ok (.getfield 58, 3) := by decide +kernel
theorem dX12_comesTo_63 : decode cX12_comesTo 63 = .ok (.aload_n 0, 1) := by decide +kernel
theorem dX12_comesTo_64 : decode cX12_comesTo 64 = .ok (.getfield 250, 3) := by decide +kernel
theorem dX12_comesTo_67 : decode cX12_comesTo 67 = .ok (.iload 4, 2) := by decide +kernel
theorem dX12_comesTo_69 : decode cX12_comesTo 69 = .ok (.iastore, 1) := by decide +kernel
theorem dX12_comesTo_70 : decode cX12_comesTo 70 = .ok (.aload_n 0, 1) := by decide +kernel
theorem dX12_comesTo_71 : decode cX12_comesTo 71 = .ok (.dup, 1) := by decide +kernel
theorem dX12_comesTo_72 : decode cX12_comesTo 72 = .ok (.getfield 250, 3) := by decide +kernel
theorem dX12_comesTo_75 : decode cX12_comesTo 75 = .ok (.iconst 1, 1) := by decide +kernel
theorem dX12_comesTo_76 : decode cX12_comesTo 76 = .ok (.iadd, 1) := by decide +kernel
theorem dX12_comesTo_77 : decode cX12_comesTo 77 = .ok (.putfield 250, 3) := by decide +kernel
theorem dX12_comesTo_80 : decode cX12_comesTo 80 = .ok (.return_, 1) := by decide +kernel
def b_X12_comesTo_48 (S : SH) (a0 : Nat) (a4 : Int32) (t0 : Int32) (t1 : Int32) (t2 : Nat) (μ : Mem) : Option (Unit × Mem) :=
 (sI S t2 t1 t0 μ).bind fun ν7 =>
 (gR S 12 a0 19).bind fun v8 =>
 (aI S .int v8 a4 ν7).bind fun v9 =>
 (if v9 < 0 then
 some ((), ν7)
 else
 (gR S 12 a0 20).bind fun v10 =>
 (gI S 12 a0 21 ν7).bind fun v11 =>
 (sI S v10 v11 a4 ν7).bind fun ν12 =>
 (gI S 12 a0 21 ν12).bind fun v13 =>
 (pI S 12 a0 21 (v13 + 1) ν12).bind fun ν14 =>
 some ((), ν14))
set_option maxRecDepth 100000 in
set_option maxHeartbeats 4000000 in
theorem s_X12_comesTo_48 {γ : GE} {p : Program} {l : Launch} {e : Env} {s : State} {m : MethodId} {args : Array Value} {below : List Frame} {meth : Method} {c : Code} {S : SH} {X : (Unit × Mem)} (F : FX γ p s m args meth c cX12_comesTo RX12 5) (hr : meth.sig.returnType = (none))  (a0 : Nat) (a4 : Int32) (t0 : Int32) (t1 : Int32) (t2 : Nat) (μ : Mem) (h : b_X12_comesTo_48 S a0 a4 t0 t1 t2 μ = some X) : JJ γ p l e rm_X12_comesTo s m args below meth c 5 0 0 (QV below γ S X args s 0 0) S μ 48 [(0, .ref (gb γ + a0)), (4, .int a4)] [.int t0, .int t1, .ref (gb γ + t2)] := by
  unfold b_X12_comesTo_48 at h
  refine j_iast F dX12_comesTo_48 h (fun ν7 h => ?_)
  refine j_aload_n F 0 dX12_comesTo_49 rfl ?_
  refine j_gR F fl_RX12_55 rfl dX12_comesTo_50 h (fun v8 h => ?_)
  refine j_iload F 1 dX12_comesTo_53 rfl ?_
  refine j_iald F dX12_comesTo_55 h (fun v9 h => ?_)
  refine j_iflt F 80 dX12_comesTo_56 (by decide) h (fun _ h => ?_) (fun _ h => ?_)
  · exact j_vret F hr dX12_comesTo_80 h
  · refine j_aload_n F 0 dX12_comesTo_59 rfl ?_
    refine j_gR F fl_RX12_58 rfl dX12_comesTo_60 h (fun v10 h => ?_)
    refine j_aload_n F 0 dX12_comesTo_63 rfl ?_
    refine j_gI F fl_RX12_250.l rfl dX12_comesTo_64 h (fun v11 h => ?_)
    refine j_iload F 1 dX12_comesTo_67 rfl ?_
    refine j_iast F dX12_comesTo_69 h (fun ν12 h => ?_)
    refine j_aload_n F 0 dX12_comesTo_70 rfl ?_
    refine j_dup F dX12_comesTo_71 rfl ?_
    refine j_gI F fl_RX12_250.l rfl dX12_comesTo_72 h (fun v13 h => ?_)
    refine j_iconst F 1 dX12_comesTo_75 (by decide) ?_
    refine j_iadd F dX12_comesTo_76 ?_
    refine j_pI F fl_RX12_250 rfl dX12_comesTo_77 h (fun ν14 h => ?_)
    exact j_vret F hr dX12_comesTo_80 h
def f_X12_comesTo (S : SH) (a0 : Nat) (a1 : Int32) (a2 : Int32) (a3 : Int32) (μ : Mem) : Option (Unit × Mem) :=
  if isO S 12 a0 = true then
  (some ((61 * a1) + a2)).bind fun y1 =>
  (f_X12_isReach S a2 μ).bind fun q2 =>
  (if q2.1 = 0 then
  some ((), q2.2)
  else
  (gR S 12 a0 19).bind fun v3 =>
  (aI S .int v3 y1 q2.2).bind fun v4 =>
  (if v4 = (-1) then
  (gR S 12 a0 19).bind fun v5 =>
  (f_X12_mayAt S a0 a1 a2 q2.2).bind fun q6 =>
  (if q6.1 = 0 then
  b_X12_comesTo_48 S a0 y1 (-2) y1 v5 q6.2
  else
  b_X12_comesTo_48 S a0 y1 a3 y1 v5 q6.2)
  else
  some ((), q2.2)))
  else none
set_option maxRecDepth 100000 in
set_option maxHeartbeats 4000000 in
theorem c_X12_comesTo {l : Launch} {γ : GE} {S : SH} {a0 : Nat} {a1 : Int32} {a2 : Int32} {a3 : Int32} {μ : Mem} {X : (Unit × Mem)} (h : f_X12_comesTo S a0 a1 a2 a3 μ = some X) : isO S 12 a0 = true ∧ Ct l γ yX12_comesTo cX12_comesTo 5 (none) rm_X12_comesTo [.ref (gb γ + a0), .int a1, .int a2, .int a3] S μ S X.2 none := by
  unfold f_X12_comesTo at h
  obtain ⟨h0, h⟩ := if_some h
  refine ⟨h0, ?_⟩
  have hJ : ∀ (p : Program) (e : Env) (s : State) (m : MethodId) (args : Array Value) (below : List Frame) (meth : Method) (c : Code), FX γ p s m args meth c cX12_comesTo RX12 5 → meth.sig.returnType = (none) → JJ γ p l e rm_X12_comesTo s m args below meth c 5 0 0 (QV below γ S X args s 0 0) S μ 0 [(0, .ref (gb γ + a0)), (1, .int a1), (2, .int a2), (3, .int a3)] [] := by
    intro p e s m args below meth c F hr
    refine j_bipush F 61 dX12_comesTo_0 (by decide) ?_
    refine j_iload_n F 1 dX12_comesTo_2 rfl ?_
    refine j_imul F dX12_comesTo_3 ?_
    refine j_iload_n F 2 dX12_comesTo_4 rfl ?_
    refine j_iadd F dX12_comesTo_5 ?_
    refine j_nmI h (fun y1 h => ?_)
    refine j_istore F [(4, .int y1), (0, .ref (gb γ + a0)), (1, .int a1), (2, .int a2), (3, .int a3)] dX12_comesTo_6 (by decide) rfl ?_
    refine j_iload_n F 3 dX12_comesTo_8 rfl ?_
    refine j_cSI F mi_X12_isReach w_1160 (rest := []) h (fun _ g => c_X12_isReach g) rfl rfl (Nat.le_of_ble_eq_true rfl) ⟨Nat.le_of_ble_eq_true rfl, Nat.le_of_ble_eq_true rfl⟩ ⟨Nat.le_of_ble_eq_true rfl, Nat.le_of_ble_eq_true rfl⟩ dX12_comesTo_9 (fun q2 h => ?_)
    refine j_ifeq F 26 dX12_comesTo_12 (by decide) h (fun _ h => ?_) (fun _ h => ?_)
    · exact j_vret F hr dX12_comesTo_26 h
    · refine j_aload_n F 1 dX12_comesTo_15 rfl ?_
      refine j_gR F fl_RX12_55 rfl dX12_comesTo_16 h (fun v3 h => ?_)
      refine j_iload F 0 dX12_comesTo_19 rfl ?_
      refine j_iald F dX12_comesTo_21 h (fun v4 h => ?_)
      refine j_iconst F (-1) dX12_comesTo_22 (by decide) ?_
      refine j_icmpeq F 27 dX12_comesTo_23 (by decide) h (fun _ h => ?_) (fun _ h => ?_)
      · refine j_aload_n F 1 dX12_comesTo_27 rfl ?_
        refine j_gR F fl_RX12_55 rfl dX12_comesTo_28 h (fun v5 h => ?_)
        refine j_iload F 0 dX12_comesTo_31 rfl ?_
        refine j_aload_n F 1 dX12_comesTo_33 rfl ?_
        refine j_iload_n F 2 dX12_comesTo_34 rfl ?_
        refine j_iload_n F 3 dX12_comesTo_35 rfl ?_
        refine j_cVI F mi_X12_mayAt w_1316 (rest := [.int y1, .ref (gb γ + v5)]) h (fun _ g => c_X12_mayAt g) rfl rfl (Nat.le_of_ble_eq_true rfl) ⟨Nat.le_of_ble_eq_true rfl, Nat.le_of_ble_eq_true rfl⟩ ⟨Nat.le_of_ble_eq_true rfl, Nat.le_of_ble_eq_true rfl⟩ dX12_comesTo_36 (fun q6 h => ?_)
        refine j_ifeq F 46 dX12_comesTo_39 (by decide) h (fun _ h => ?_) (fun _ h => ?_)
        · refine j_bipush F (-2) dX12_comesTo_46 (by decide) ?_
          refine j_lv [(0, .ref (gb γ + a0)), (4, .int y1)] [1, 0] rfl ?_
          exact s_X12_comesTo_48 F hr _ _ _ _ _ _ h
        · refine j_iload_n F 4 dX12_comesTo_42 rfl ?_
          refine j_goto F 48 dX12_comesTo_43 (by decide) ?_
          refine j_lv [(0, .ref (gb γ + a0)), (4, .int y1)] [1, 0] rfl ?_
          exact s_X12_comesTo_48 F hr _ _ _ _ _ _ h
      · exact j_vret F hr dX12_comesTo_26 h
  exact ct_of (by decide +kernel) (Nat.le_of_ble_eq_true rfl) (fun p e s m args below meth c F hr _ => hJ p e s m args below meth c F hr)
def rm_X12_way : Room := { frames := 10, cells := 0, slots := 0, locals := 213 }
theorem dX12_way_0 : decode cX12_way 0 = .ok (.iload_n 1, 1) := by decide +kernel
theorem dX12_way_1 : decode cX12_way 1 = .ok (.invokestatic 162, 3) := by decide +kernel
theorem dX12_way_4 : decode cX12_way 4 = .ok (.ifCond .ne 5, 3) := by decide +kernel
theorem dX12_way_7 : decode cX12_way 7 = .ok (.iconst (-1), 1) := by decide +kernel
theorem dX12_way_8 : decode cX12_way 8 = .ok (.ireturn, 1) := by decide +kernel
theorem dX12_way_9 : decode cX12_way 9 = .ok (.iload_n 2, 1) := by decide +kernel
theorem dX12_way_10 : decode cX12_way 10 = .ok (.invokestatic 136, 3) := by decide +kernel
theorem dX12_way_13 : decode cX12_way 13 = .ok (.ifCond .ne 6, 3) := by decide +kernel
theorem dX12_way_16 : decode cX12_way 16 = .ok (.bipush (-2), 2) := by decide +kernel
theorem dX12_way_18 : decode cX12_way 18 = .ok (.ireturn, 1) := by decide +kernel
theorem dX12_way_19 : decode cX12_way 19 = .ok (.iconst 0, 1) := by decide +kernel
theorem dX12_way_20 : decode cX12_way 20 = .ok (.istore_n 3, 1) := by decide +kernel
theorem dX12_way_21 : decode cX12_way 21 = .ok (.iload_n 3, 1) := by decide +kernel
theorem dX12_way_22 : decode cX12_way 22 = .ok (.sipush 1220, 3) := by decide +kernel
theorem dX12_way_25 : decode cX12_way 25 = .ok (.if_icmp .ge 16, 3) := by decide +kernel
theorem dX12_way_28 : decode cX12_way 28 = .ok (.aload_n 0, 1) := by decide +kernel
theorem dX12_way_29 : decode cX12_way 29 = .ok (.getfield 55, 3) := by decide +kernel
theorem dX12_way_32 : decode cX12_way 32 = .ok (.iload_n 3, 1) := by decide +kernel
theorem dX12_way_33 : decode cX12_way 33 = .ok (.iconst (-1), 1) := by decide +kernel
theorem dX12_way_34 : decode cX12_way 34 = .ok (.iastore, 1) := by decide +kernel
theorem dX12_way_35 : decode cX12_way 35 = .ok (.iinc 3 1, 3) := by decide +kernel
theorem dX12_way_38 : decode cX12_way 38 = .ok (.goto (-17), 3) := by decide +kernel
theorem dX12_way_41 : decode cX12_way 41 = .ok (.aload_n 0, 1) := by decide +kernel
theorem dX12_way_42 : decode cX12_way 42 = .ok (.iconst 0, 1) := by decide +kernel
theorem dX12_way_43 : decode cX12_way 43 = .ok (.putfield 250, 3) := by decide +kernel
theorem dX12_way_46 : decode cX12_way 46 = .ok (.aload_n 0, 1) := by decide +kernel
theorem dX12_way_47 : decode cX12_way 47 = .ok (.aload_n 0, 1) := by decide +kernel
theorem dX12_way_48 : decode cX12_way 48 = .ok (.getfield 36, 3) := by decide +kernel
theorem dX12_way_51 : decode cX12_way 51 = .ok (.iconst 0, 1) := by decide +kernel
theorem dX12_way_52 : decode cX12_way 52 = .ok (.iaload, 1) := by decide +kernel
theorem dX12_way_53 : decode cX12_way 53 = .ok (.aload_n 0, 1) := by decide +kernel
theorem dX12_way_54 : decode cX12_way 54 = .ok (.getfield 36, 3) := by decide +kernel
theorem dX12_way_57 : decode cX12_way 57 = .ok (.iconst 1, 1) := by decide +kernel
theorem dX12_way_58 : decode cX12_way 58 = .ok (.iaload, 1) := by decide +kernel
theorem dX12_way_59 : decode cX12_way 59 = .ok (.iconst 0, 1) := by decide +kernel
theorem dX12_way_60 : decode cX12_way 60 = .ok (.invokevirtual 253, 3) := by decide +kernel
theorem dX12_way_63 : decode cX12_way 63 = .ok (.iconst 0, 1) := by decide +kernel
theorem dX12_way_64 : decode cX12_way 64 = .ok (.istore_n 3, 1) := by decide +kernel
theorem dX12_way_65 : decode cX12_way 65 = .ok (.iload_n 3, 1) := by decide +kernel
theorem dX12_way_66 : decode cX12_way 66 = .ok (.aload_n 0, 1) := by decide +kernel
theorem dX12_way_67 : decode cX12_way 67 = .ok (.getfield 250, 3) := by decide +kernel
theorem dX12_way_70 : decode cX12_way 70 = .ok (.if_icmp .ge 134, 3) := by decide +kernel
theorem dX12_way_73 : decode cX12_way 73 = .ok (.aload_n 0, 1) := by decide +kernel
theorem dX12_way_74 : decode cX12_way 74 = .ok (.getfield 58, 3) := by decide +kernel
theorem dX12_way_77 : decode cX12_way 77 = .ok (.iload_n 3, 1) := by decide +kernel
theorem dX12_way_78 : decode cX12_way 78 = .ok (.iaload, 1) := by decide +kernel
theorem dX12_way_79 : decode cX12_way 79 = .ok (.istore 4, 2) := by decide +kernel
theorem dX12_way_81 : decode cX12_way 81 = .ok (.iload 4, 2) := by decide +kernel
theorem dX12_way_83 : decode cX12_way 83 = .ok (.bipush 61, 2) := by decide +kernel
theorem dX12_way_85 : decode cX12_way 85 = .ok (.idiv, 1) := by decide +kernel
theorem dX12_way_86 : decode cX12_way 86 = .ok (.istore 5, 2) := by decide +kernel
theorem dX12_way_88 : decode cX12_way 88 = .ok (.iload 4, 2) := by decide +kernel
theorem dX12_way_90 : decode cX12_way 90 = .ok (.bipush 61, 2) := by decide +kernel
theorem dX12_way_92 : decode cX12_way 92 = .ok (.irem, 1) := by decide +kernel
theorem dX12_way_93 : decode cX12_way 93 = .ok (.istore 6, 2) := by decide +kernel
theorem dX12_way_95 : decode cX12_way 95 = .ok (.iload 5, 2) := by decide +kernel
theorem dX12_way_97 : decode cX12_way 97 = .ok (.iload_n 1, 1) := by decide +kernel
theorem dX12_way_98 : decode cX12_way 98 = .ok (.if_icmp .ne 17, 3) := by decide +kernel
theorem dX12_way_101 : decode cX12_way 101 = .ok (.iload 6, 2) := by decide +kernel
theorem dX12_way_103 : decode cX12_way 103 = .ok (.iload_n 2, 1) := by decide +kernel
theorem dX12_way_104 : decode cX12_way 104 = .ok (.if_icmp .ne 11, 3) := by decide +kernel
theorem dX12_way_107 : decode cX12_way 107 = .ok (.aload_n 0, 1) := by decide +kernel
theorem dX12_way_108 : decode cX12_way 108 = .ok (.getfield 55, 3) := by decide +kernel
theorem dX12_way_111 : decode cX12_way 111 = .ok (.iload 4, 2) := by decide +kernel
theorem dX12_way_113 : decode cX12_way 113 = .ok (.iaload, 1) := by decide +kernel
theorem dX12_way_114 : decode cX12_way 114 = .ok (.ireturn, 1) := by decide +kernel
theorem dX12_way_115 : decode cX12_way 115 = .ok (.aload_n 0, 1) := by decide +kernel
theorem dX12_way_116 : decode cX12_way 116 = .ok (.iload 5, 2) := by decide +kernel
theorem dX12_way_118 : decode cX12_way 118 = .ok (.iconst 1, 1) := by decide +kernel
theorem dX12_way_119 : decode cX12_way 119 = .ok (.iadd, 1) := by decide +kernel
theorem dX12_way_120 : decode cX12_way 120 = .ok (.bipush 20, 2) := by decide +kernel
theorem dX12_way_122 : decode cX12_way 122 = .ok (.irem, 1) := by decide +kernel
theorem dX12_way_123 : decode cX12_way 123 = .ok (.iload 6, 2) := by decide +kernel
theorem dX12_way_125 : decode cX12_way 125 = .ok (.aload_n 0, 1) := by decide +kernel
theorem dX12_way_126 : decode cX12_way 126 = .ok (.getfield 55, 3) := by decide +kernel
theorem dX12_way_129 : decode cX12_way 129 = .ok (.iload 4, 2) := by decide +kernel
theorem dX12_way_131 : decode cX12_way 131 = .ok (.iaload, 1) := by decide +kernel
theorem dX12_way_132 : decode cX12_way 132 = .ok (.iconst 1, 1) := by decide +kernel
theorem dX12_way_133 : decode cX12_way 133 = .ok (.iadd, 1) := by decide +kernel
theorem dX12_way_134 : decode cX12_way 134 = .ok (.invokevirtual 253, 3) := by decide +kernel
theorem dX12_way_137 : decode cX12_way 137 = .ok (.aload_n 0, 1) := by decide +kernel
theorem dX12_way_138 : decode cX12_way 138 = .ok (.iload 5, 2) := by decide +kernel
theorem dX12_way_140 : decode cX12_way 140 = .ok (.bipush 19, 2) := by decide +kernel
theorem dX12_way_142 : decode cX12_way 142 = .ok (.iadd, 1) := by decide +kernel
theorem dX12_way_143 : decode cX12_way 143 = .ok (.bipush 20, 2) := by decide +kernel
theorem dX12_way_145 : decode cX12_way 145 = .ok (.irem, 1) := by decide +kernel
theorem dX12_way_146 : decode cX12_way 146 = .ok (.iload 6, 2) := by decide +kernel
theorem dX12_way_148 : decode cX12_way 148 = .ok (.aload_n 0, 1) := by decide +kernel
theorem dX12_way_149 : decode cX12_way 149 = .ok (.getfield 55, 3) := by decide +kernel
theorem dX12_way_152 : decode cX12_way 152 = .ok (.iload 4, 2) := by decide +kernel
theorem dX12_way_154 : decode cX12_way 154 = .ok (.iaload, 1) := by decide +kernel
theorem dX12_way_155 : decode cX12_way 155 = .ok (.iconst 1, 1) := by decide +kernel
theorem dX12_way_156 : decode cX12_way 156 = .ok (.iadd, 1) := by decide +kernel
theorem dX12_way_157 : decode cX12_way 157 = .ok (.invokevirtual 253, 3) := by decide +kernel
theorem dX12_way_160 : decode cX12_way 160 = .ok (.aload_n 0, 1) := by decide +kernel
theorem dX12_way_161 : decode cX12_way 161 = .ok (.iload 5, 2) := by decide +kernel
theorem dX12_way_163 : decode cX12_way 163 = .ok (.iload 6, 2) := by decide +kernel
theorem dX12_way_165 : decode cX12_way 165 = .ok (.iconst 1, 1) := by decide +kernel
theorem dX12_way_166 : decode cX12_way 166 = .ok (.iadd, 1) := by decide +kernel
theorem dX12_way_167 : decode cX12_way 167 = .ok (.aload_n 0, 1) := by decide +kernel
theorem dX12_way_168 : decode cX12_way 168 = .ok (.getfield 55, 3) := by decide +kernel
theorem dX12_way_171 : decode cX12_way 171 = .ok (.iload 4, 2) := by decide +kernel
theorem dX12_way_173 : decode cX12_way 173 = .ok (.iaload, 1) := by decide +kernel
theorem dX12_way_174 : decode cX12_way 174 = .ok (.iconst 1, 1) := by decide +kernel
theorem dX12_way_175 : decode cX12_way 175 = .ok (.iadd, 1) := by decide +kernel
theorem dX12_way_176 : decode cX12_way 176 = .ok (.invokevirtual 253, 3) := by decide +kernel
theorem dX12_way_179 : decode cX12_way 179 = .ok (.aload_n 0, 1) := by decide +kernel
theorem dX12_way_180 : decode cX12_way 180 = .ok (.iload 5, 2) := by decide +kernel
theorem dX12_way_182 : decode cX12_way 182 = .ok (.iload 6, 2) := by decide +kernel
theorem dX12_way_184 : decode cX12_way 184 = .ok (.iconst 1, 1) := by decide +kernel
theorem dX12_way_185 : decode cX12_way 185 = .ok (.isub, 1) := by decide +kernel
theorem dX12_way_186 : decode cX12_way 186 = .ok (.aload_n 0, 1) := by decide +kernel
theorem dX12_way_187 : decode cX12_way 187 = .ok (.getfield 55, 3) := by decide +kernel
theorem dX12_way_190 : decode cX12_way 190 = .ok (.iload 4, 2) := by decide +kernel
theorem dX12_way_192 : decode cX12_way 192 = .ok (.iaload, 1) := by decide +kernel
theorem dX12_way_193 : decode cX12_way 193 = .ok (.iconst 1, 1) := by decide +kernel
theorem dX12_way_194 : decode cX12_way 194 = .ok (.iadd, 1) := by decide +kernel
theorem dX12_way_195 : decode cX12_way 195 = .ok (.invokevirtual 253, 3) := by decide +kernel
theorem dX12_way_198 : decode cX12_way 198 = .ok (.iinc 3 1, 3) := by decide +kernel
theorem dX12_way_201 : decode cX12_way 201 = .ok (.goto (-136), 3) := by decide +kernel
theorem dX12_way_204 : decode cX12_way 204 = .ok (.bipush (-5), 2) := by decide +kernel
theorem dX12_way_206 : decode cX12_way 206 = .ok (.ireturn, 1) := by decide +kernel
def b_X12_way_115 (S : SH) (k65 : (Int32 × Mem) → Option (Int32 × Mem)) (a0 : Nat) (a1 : Int32) (a2 : Int32) (a3 : Int32) (a4 : Int32) (a5 : Int32) (a6 : Int32) (μ : Mem) : Option (Int32 × Mem) :=
 (gR S 12 a0 19).bind fun v14 =>
 (aI S .int v14 a4 μ).bind fun v15 =>
 (f_X12_comesTo S a0 ((a5 + 1) - (a5 + 1) / 20 * 20) a6 (v15 + 1) μ).bind fun q16 =>
 (gR S 12 a0 19).bind fun v17 =>
 (aI S .int v17 a4 q16.2).bind fun v18 =>
 (f_X12_comesTo S a0 ((a5 + 19) - (a5 + 19) / 20 * 20) a6 (v18 + 1) q16.2).bind fun q19 =>
 (gR S 12 a0 19).bind fun v20 =>
 (aI S .int v20 a4 q19.2).bind fun v21 =>
 (f_X12_comesTo S a0 a5 (a6 + 1) (v21 + 1) q19.2).bind fun q22 =>
 (gR S 12 a0 19).bind fun v23 =>
 (aI S .int v23 a4 q22.2).bind fun v24 =>
 (f_X12_comesTo S a0 a5 (a6 - 1) (v24 + 1) q22.2).bind fun q25 =>
 k65 (a3 + 1, q25.2)
set_option maxRecDepth 100000 in
set_option maxHeartbeats 4000000 in
theorem s_X12_way_115 {γ : GE} {p : Program} {l : Launch} {e : Env} {s : State} {m : MethodId} {args : Array Value} {below : List Frame} {meth : Method} {c : Code} {S : SH} {X : (Int32 × Mem)} (F : FX γ p s m args meth c cX12_way RX12 7) (hr : meth.sig.returnType = (some .int)) (k65 : (Int32 × Mem) → Option (Int32 × Mem)) (hk65 : ∀ x : (Int32 × Mem), k65 x = some X → JJ γ p l e rm_X12_way s m args below meth c 7 0 0 (QI below γ S X args s 0 0) S x.2 65 [(0, .ref (gb γ + a0)), (1, .int a1), (2, .int a2), (3, .int x.1)] []) (a0 : Nat) (a1 : Int32) (a2 : Int32) (a3 : Int32) (a4 : Int32) (a5 : Int32) (a6 : Int32)  (μ : Mem) (h : b_X12_way_115 S k65 a0 a1 a2 a3 a4 a5 a6 μ = some X) : JJ γ p l e rm_X12_way s m args below meth c 7 0 0 (QI below γ S X args s 0 0) S μ 115 [(0, .ref (gb γ + a0)), (1, .int a1), (2, .int a2), (3, .int a3), (4, .int a4), (5, .int a5), (6, .int a6)] [] := by
  unfold b_X12_way_115 at h
  refine j_aload_n F 0 dX12_way_115 rfl ?_
  refine j_iload F 5 dX12_way_116 rfl ?_
  refine j_iconst F 1 dX12_way_118 (by decide) ?_
  refine j_iadd F dX12_way_119 ?_
  refine j_bipush F 20 dX12_way_120 (by decide) ?_
  refine j_iremc F dX12_way_122 (by decide) ?_
  refine j_iload F 6 dX12_way_123 rfl ?_
  refine j_aload_n F 0 dX12_way_125 rfl ?_
  refine j_gR F fl_RX12_55 rfl dX12_way_126 h (fun v14 h => ?_)
  refine j_iload F 4 dX12_way_129 rfl ?_
  refine j_iald F dX12_way_131 h (fun v15 h => ?_)
  refine j_iconst F 1 dX12_way_132 (by decide) ?_
  refine j_iadd F dX12_way_133 ?_
  refine j_cVV F mi_X12_comesTo w_1328 (rest := []) h (fun _ g => c_X12_comesTo g) rfl rfl (Nat.le_of_ble_eq_true rfl) ⟨Nat.le_of_ble_eq_true rfl, Nat.le_of_ble_eq_true rfl⟩ ⟨Nat.le_of_ble_eq_true rfl, Nat.le_of_ble_eq_true rfl⟩ dX12_way_134 (fun q16 h => ?_)
  refine j_aload_n F 0 dX12_way_137 rfl ?_
  refine j_iload F 5 dX12_way_138 rfl ?_
  refine j_bipush F 19 dX12_way_140 (by decide) ?_
  refine j_iadd F dX12_way_142 ?_
  refine j_bipush F 20 dX12_way_143 (by decide) ?_
  refine j_iremc F dX12_way_145 (by decide) ?_
  refine j_iload F 6 dX12_way_146 rfl ?_
  refine j_aload_n F 0 dX12_way_148 rfl ?_
  refine j_gR F fl_RX12_55 rfl dX12_way_149 h (fun v17 h => ?_)
  refine j_iload F 4 dX12_way_152 rfl ?_
  refine j_iald F dX12_way_154 h (fun v18 h => ?_)
  refine j_iconst F 1 dX12_way_155 (by decide) ?_
  refine j_iadd F dX12_way_156 ?_
  refine j_cVV F mi_X12_comesTo w_1328 (rest := []) h (fun _ g => c_X12_comesTo g) rfl rfl (Nat.le_of_ble_eq_true rfl) ⟨Nat.le_of_ble_eq_true rfl, Nat.le_of_ble_eq_true rfl⟩ ⟨Nat.le_of_ble_eq_true rfl, Nat.le_of_ble_eq_true rfl⟩ dX12_way_157 (fun q19 h => ?_)
  refine j_aload_n F 0 dX12_way_160 rfl ?_
  refine j_iload F 5 dX12_way_161 rfl ?_
  refine j_iload F 6 dX12_way_163 rfl ?_
  refine j_iconst F 1 dX12_way_165 (by decide) ?_
  refine j_iadd F dX12_way_166 ?_
  refine j_aload_n F 0 dX12_way_167 rfl ?_
  refine j_gR F fl_RX12_55 rfl dX12_way_168 h (fun v20 h => ?_)
  refine j_iload F 4 dX12_way_171 rfl ?_
  refine j_iald F dX12_way_173 h (fun v21 h => ?_)
  refine j_iconst F 1 dX12_way_174 (by decide) ?_
  refine j_iadd F dX12_way_175 ?_
  refine j_cVV F mi_X12_comesTo w_1328 (rest := []) h (fun _ g => c_X12_comesTo g) rfl rfl (Nat.le_of_ble_eq_true rfl) ⟨Nat.le_of_ble_eq_true rfl, Nat.le_of_ble_eq_true rfl⟩ ⟨Nat.le_of_ble_eq_true rfl, Nat.le_of_ble_eq_true rfl⟩ dX12_way_176 (fun q22 h => ?_)
  refine j_aload_n F 0 dX12_way_179 rfl ?_
  refine j_iload F 5 dX12_way_180 rfl ?_
  refine j_iload F 6 dX12_way_182 rfl ?_
  refine j_iconst F 1 dX12_way_184 (by decide) ?_
  refine j_isub F dX12_way_185 ?_
  refine j_aload_n F 0 dX12_way_186 rfl ?_
  refine j_gR F fl_RX12_55 rfl dX12_way_187 h (fun v23 h => ?_)
  refine j_iload F 4 dX12_way_190 rfl ?_
  refine j_iald F dX12_way_192 h (fun v24 h => ?_)
  refine j_iconst F 1 dX12_way_193 (by decide) ?_
  refine j_iadd F dX12_way_194 ?_
  refine j_cVV F mi_X12_comesTo w_1328 (rest := []) h (fun _ g => c_X12_comesTo g) rfl rfl (Nat.le_of_ble_eq_true rfl) ⟨Nat.le_of_ble_eq_true rfl, Nat.le_of_ble_eq_true rfl⟩ ⟨Nat.le_of_ble_eq_true rfl, Nat.le_of_ble_eq_true rfl⟩ dX12_way_195 (fun q25 h => ?_)
  refine j_iinc F 1 3 [(3, .int (a3 + 1)), (0, .ref (gb γ + a0)), (1, .int a1), (2, .int a2), (4, .int a4), (5, .int a5), (6, .int a6)] dX12_way_198 rfl (by decide) (by decide) rfl ?_
  refine j_goto F 65 dX12_way_201 (by decide) ?_
  refine j_lv [(0, .ref (gb γ + a0)), (1, .int a1), (2, .int a2), (3, .int (a3 + 1))] [1, 2, 3, 0] rfl ?_
  have h9 := hk65 _ h
  exact h9
def l_X12_way_65 (S : SH) (a0 : Nat) (a1 : Int32) (a2 : Int32) (k65 : (Int32 × Mem) → Option (Int32 × Mem)) (x : (Int32 × Mem)) : Option (Int32 × Mem) :=
 (gI S 12 a0 21 x.2).bind fun v9 =>
 (if v9 ≤ x.1 then
 some ((-5), x.2)
 else
 (gR S 12 a0 20).bind fun v10 =>
 (aI S .int v10 x.1 x.2).bind fun v11 =>
 (some (v11 / 61)).bind fun y12 =>
 (some (v11 - v11 / 61 * 61)).bind fun y13 =>
 (if y12 = a1 then
 (if y13 = a2 then
 (gR S 12 a0 19).bind fun v26 =>
 (aI S .int v26 v11 x.2).bind fun v27 =>
 some (v27, x.2)
 else
 b_X12_way_115 S k65 a0 a1 a2 x.1 v11 y12 y13 x.2)
 else
 b_X12_way_115 S k65 a0 a1 a2 x.1 v11 y12 y13 x.2))
set_option maxRecDepth 100000 in
set_option maxHeartbeats 4000000 in
theorem t_X12_way_65 {γ : GE} {p : Program} {l : Launch} {e : Env} {s : State} {m : MethodId} {args : Array Value} {below : List Frame} {meth : Method} {c : Code} {S : SH} {X : (Int32 × Mem)} (F : FX γ p s m args meth c cX12_way RX12 7) (hr : meth.sig.returnType = (some .int)) (a0 : Nat) (a1 : Int32) (a2 : Int32) (k65 : (Int32 × Mem) → Option (Int32 × Mem)) (hk65 : ∀ x : (Int32 × Mem), k65 x = some X → JJ γ p l e rm_X12_way s m args below meth c 7 0 0 (QI below γ S X args s 0 0) S x.2 65 [(0, .ref (gb γ + a0)), (1, .int a1), (2, .int a2), (3, .int x.1)] []) (x : (Int32 × Mem)) (h : l_X12_way_65 S a0 a1 a2 k65 x = some X) : JJ γ p l e rm_X12_way s m args below meth c 7 0 0 (QI below γ S X args s 0 0) S x.2 65 [(0, .ref (gb γ + a0)), (1, .int a1), (2, .int a2), (3, .int x.1)] [] := by
  unfold l_X12_way_65 at h
  refine j_iload_n F 3 dX12_way_65 rfl ?_
  refine j_aload_n F 0 dX12_way_66 rfl ?_
  refine j_gI F fl_RX12_250.l rfl dX12_way_67 h (fun v9 h => ?_)
  refine j_icmpge F 204 dX12_way_70 (by decide) h (fun _ h => ?_) (fun _ h => ?_)
  · refine j_bipush F (-5) dX12_way_204 (by decide) ?_
    exact j_iret F hr dX12_way_206 h
  · refine j_aload_n F 0 dX12_way_73 rfl ?_
    refine j_gR F fl_RX12_58 rfl dX12_way_74 h (fun v10 h => ?_)
    refine j_iload_n F 3 dX12_way_77 rfl ?_
    refine j_iald F dX12_way_78 h (fun v11 h => ?_)
    refine j_istore F [(4, .int v11), (0, .ref (gb γ + a0)), (1, .int a1), (2, .int a2), (3, .int x.1)] dX12_way_79 (by decide) rfl ?_
    refine j_iload F 0 dX12_way_81 rfl ?_
    refine j_bipush F 61 dX12_way_83 (by decide) ?_
    refine j_idivc F dX12_way_85 (by decide) ?_
    refine j_nmI h (fun y12 h => ?_)
    refine j_istore F [(5, .int y12), (4, .int v11), (0, .ref (gb γ + a0)), (1, .int a1), (2, .int a2), (3, .int x.1)] dX12_way_86 (by decide) rfl ?_
    refine j_iload F 1 dX12_way_88 rfl ?_
    refine j_bipush F 61 dX12_way_90 (by decide) ?_
    refine j_iremc F dX12_way_92 (by decide) ?_
    refine j_nmI h (fun y13 h => ?_)
    refine j_istore F [(6, .int y13), (5, .int y12), (4, .int v11), (0, .ref (gb γ + a0)), (1, .int a1), (2, .int a2), (3, .int x.1)] dX12_way_93 (by decide) rfl ?_
    refine j_iload F 1 dX12_way_95 rfl ?_
    refine j_iload_n F 4 dX12_way_97 rfl ?_
    refine j_icmpne F 115 dX12_way_98 (by decide) h (fun _ h => ?_) (fun _ h => ?_)
    · refine j_lv [(0, .ref (gb γ + a0)), (1, .int a1), (2, .int a2), (3, .int x.1), (4, .int v11), (5, .int y12), (6, .int y13)] [3, 4, 5, 6, 2, 1, 0] rfl ?_
      exact s_X12_way_115 F hr _ hk65 _ _ _ _ _ _ _ _ h
    · refine j_iload F 0 dX12_way_101 rfl ?_
      refine j_iload_n F 5 dX12_way_103 rfl ?_
      refine j_icmpne F 115 dX12_way_104 (by decide) h (fun _ h => ?_) (fun _ h => ?_)
      · refine j_lv [(0, .ref (gb γ + a0)), (1, .int a1), (2, .int a2), (3, .int x.1), (4, .int v11), (5, .int y12), (6, .int y13)] [3, 4, 5, 6, 2, 1, 0] rfl ?_
        exact s_X12_way_115 F hr _ hk65 _ _ _ _ _ _ _ _ h
      · refine j_aload_n F 3 dX12_way_107 rfl ?_
        refine j_gR F fl_RX12_55 rfl dX12_way_108 h (fun v26 h => ?_)
        refine j_iload F 2 dX12_way_111 rfl ?_
        refine j_iald F dX12_way_113 h (fun v27 h => ?_)
        exact j_iret F hr dX12_way_114 h
theorem s_X12_way_65 {γ : GE} {p : Program} {l : Launch} {e : Env} {s : State} {m : MethodId} {args : Array Value} {below : List Frame} {meth : Method} {c : Code} {S : SH} {X : (Int32 × Mem)} (F : FX γ p s m args meth c cX12_way RX12 7) (hr : meth.sig.returnType = (some .int)) (a0 : Nat) (a1 : Int32) (a2 : Int32) (x : (Int32 × Mem)) (h : lpN (l_X12_way_65 S a0 a1 a2) fu x = some X) : JJ γ p l e rm_X12_way s m args below meth c 7 0 0 (QI below γ S X args s 0 0) S x.2 65 [(0, .ref (gb γ + a0)), (1, .int a1), (2, .int a2), (3, .int x.1)] [] :=
 lpN_sound (fun x => JJ γ p l e rm_X12_way s m args below meth c 7 0 0 (QI below γ S X args s 0 0) S x.2 65 [(0, .ref (gb γ + a0)), (1, .int a1), (2, .int a2), (3, .int x.1)] []) (fun k65 hk65 x h => t_X12_way_65 F hr a0 a1 a2 k65 hk65 x h) fu x h
def b_X12_way_41 (S : SH) (a0 : Nat) (a1 : Int32) (a2 : Int32) (μ : Mem) : Option (Int32 × Mem) :=
 (pI S 12 a0 21 0 μ).bind fun ν3 =>
 (gR S 12 a0 9).bind fun v4 =>
 (aI S .int v4 0 ν3).bind fun v5 =>
 (gR S 12 a0 9).bind fun v6 =>
 (aI S .int v6 1 ν3).bind fun v7 =>
 (f_X12_comesTo S a0 v5 v7 0 ν3).bind fun q8 =>
 lpN (l_X12_way_65 S a0 a1 a2) fu (0, q8.2)
set_option maxRecDepth 100000 in
set_option maxHeartbeats 4000000 in
theorem s_X12_way_41 {γ : GE} {p : Program} {l : Launch} {e : Env} {s : State} {m : MethodId} {args : Array Value} {below : List Frame} {meth : Method} {c : Code} {S : SH} {X : (Int32 × Mem)} (F : FX γ p s m args meth c cX12_way RX12 7) (hr : meth.sig.returnType = (some .int))  (a0 : Nat) (a1 : Int32) (a2 : Int32)  (μ : Mem) (h : b_X12_way_41 S a0 a1 a2 μ = some X) : JJ γ p l e rm_X12_way s m args below meth c 7 0 0 (QI below γ S X args s 0 0) S μ 41 [(0, .ref (gb γ + a0)), (1, .int a1), (2, .int a2)] [] := by
  unfold b_X12_way_41 at h
  refine j_aload_n F 0 dX12_way_41 rfl ?_
  refine j_iconst F 0 dX12_way_42 (by decide) ?_
  refine j_pI F fl_RX12_250 rfl dX12_way_43 h (fun ν3 h => ?_)
  refine j_aload_n F 0 dX12_way_46 rfl ?_
  refine j_aload_n F 0 dX12_way_47 rfl ?_
  refine j_gR F fl_RX12_36 rfl dX12_way_48 h (fun v4 h => ?_)
  refine j_iconst F 0 dX12_way_51 (by decide) ?_
  refine j_iald F dX12_way_52 h (fun v5 h => ?_)
  refine j_aload_n F 0 dX12_way_53 rfl ?_
  refine j_gR F fl_RX12_36 rfl dX12_way_54 h (fun v6 h => ?_)
  refine j_iconst F 1 dX12_way_57 (by decide) ?_
  refine j_iald F dX12_way_58 h (fun v7 h => ?_)
  refine j_iconst F 0 dX12_way_59 (by decide) ?_
  refine j_cVV F mi_X12_comesTo w_1328 (rest := []) h (fun _ g => c_X12_comesTo g) rfl rfl (Nat.le_of_ble_eq_true rfl) ⟨Nat.le_of_ble_eq_true rfl, Nat.le_of_ble_eq_true rfl⟩ ⟨Nat.le_of_ble_eq_true rfl, Nat.le_of_ble_eq_true rfl⟩ dX12_way_60 (fun q8 h => ?_)
  refine j_iconst F 0 dX12_way_63 (by decide) ?_
  refine j_istore_n F [(3, .int 0), (0, .ref (gb γ + a0)), (1, .int a1), (2, .int a2)] dX12_way_64 rfl (by decide) rfl ?_
  refine j_lv [(0, .ref (gb γ + a0)), (1, .int a1), (2, .int a2), (3, .int 0)] [1, 2, 3, 0] rfl ?_
  exact s_X12_way_65 F hr _ _ _ _ h
def l_X12_way_21 (S : SH) (a0 : Nat) (a1 : Int32) (a2 : Int32) (k21 : (Int32 × Mem) → Option (Int32 × Mem)) (x : (Int32 × Mem)) : Option (Int32 × Mem) :=
 (if 1220 ≤ x.1 then
 b_X12_way_41 S a0 a1 a2 x.2
 else
 (gR S 12 a0 19).bind fun v28 =>
 (sI S v28 x.1 (-1) x.2).bind fun ν29 =>
 k21 (x.1 + 1, ν29))
set_option maxRecDepth 100000 in
set_option maxHeartbeats 4000000 in
theorem t_X12_way_21 {γ : GE} {p : Program} {l : Launch} {e : Env} {s : State} {m : MethodId} {args : Array Value} {below : List Frame} {meth : Method} {c : Code} {S : SH} {X : (Int32 × Mem)} (F : FX γ p s m args meth c cX12_way RX12 7) (hr : meth.sig.returnType = (some .int)) (a0 : Nat) (a1 : Int32) (a2 : Int32) (k21 : (Int32 × Mem) → Option (Int32 × Mem)) (hk21 : ∀ x : (Int32 × Mem), k21 x = some X → JJ γ p l e rm_X12_way s m args below meth c 7 0 0 (QI below γ S X args s 0 0) S x.2 21 [(0, .ref (gb γ + a0)), (1, .int a1), (2, .int a2), (3, .int x.1)] []) (x : (Int32 × Mem)) (h : l_X12_way_21 S a0 a1 a2 k21 x = some X) : JJ γ p l e rm_X12_way s m args below meth c 7 0 0 (QI below γ S X args s 0 0) S x.2 21 [(0, .ref (gb γ + a0)), (1, .int a1), (2, .int a2), (3, .int x.1)] [] := by
  unfold l_X12_way_21 at h
  refine j_iload_n F 3 dX12_way_21 rfl ?_
  refine j_sipush F 1220 dX12_way_22 (by decide) ?_
  refine j_icmpge F 41 dX12_way_25 (by decide) h (fun _ h => ?_) (fun _ h => ?_)
  · refine j_lv [(0, .ref (gb γ + a0)), (1, .int a1), (2, .int a2)] [0, 1, 2] rfl ?_
    exact s_X12_way_41 F hr _ _ _ _ h
  · refine j_aload_n F 0 dX12_way_28 rfl ?_
    refine j_gR F fl_RX12_55 rfl dX12_way_29 h (fun v28 h => ?_)
    refine j_iload_n F 3 dX12_way_32 rfl ?_
    refine j_iconst F (-1) dX12_way_33 (by decide) ?_
    refine j_iast F dX12_way_34 h (fun ν29 h => ?_)
    refine j_iinc F 1 3 [(3, .int (x.1 + 1)), (0, .ref (gb γ + a0)), (1, .int a1), (2, .int a2)] dX12_way_35 rfl (by decide) (by decide) rfl ?_
    refine j_goto F 21 dX12_way_38 (by decide) ?_
    refine j_lv [(0, .ref (gb γ + a0)), (1, .int a1), (2, .int a2), (3, .int (x.1 + 1))] [1, 2, 3, 0] rfl ?_
    have h9 := hk21 _ h
    exact h9
theorem s_X12_way_21 {γ : GE} {p : Program} {l : Launch} {e : Env} {s : State} {m : MethodId} {args : Array Value} {below : List Frame} {meth : Method} {c : Code} {S : SH} {X : (Int32 × Mem)} (F : FX γ p s m args meth c cX12_way RX12 7) (hr : meth.sig.returnType = (some .int)) (a0 : Nat) (a1 : Int32) (a2 : Int32) (x : (Int32 × Mem)) (h : lpN (l_X12_way_21 S a0 a1 a2) fu x = some X) : JJ γ p l e rm_X12_way s m args below meth c 7 0 0 (QI below γ S X args s 0 0) S x.2 21 [(0, .ref (gb γ + a0)), (1, .int a1), (2, .int a2), (3, .int x.1)] [] :=
 lpN_sound (fun x => JJ γ p l e rm_X12_way s m args below meth c 7 0 0 (QI below γ S X args s 0 0) S x.2 21 [(0, .ref (gb γ + a0)), (1, .int a1), (2, .int a2), (3, .int x.1)] []) (fun k21 hk21 x h => t_X12_way_21 F hr a0 a1 a2 k21 hk21 x h) fu x h
def f_X12_way (S : SH) (a0 : Nat) (a1 : Int32) (a2 : Int32) (μ : Mem) : Option (Int32 × Mem) :=
  if isO S 12 a0 = true then
  (f_X12_isDirection S a1 μ).bind fun q1 =>
  (if q1.1 = 0 then
  some ((-1), q1.2)
  else
  (f_X12_isReach S a2 q1.2).bind fun q2 =>
  (if q2.1 = 0 then
  some ((-2), q2.2)
  else
  lpN (l_X12_way_21 S  a0 a1 a2) fu (0, q2.2)))
  else none
set_option maxRecDepth 100000 in
set_option maxHeartbeats 4000000 in
theorem c_X12_way {l : Launch} {γ : GE} {S : SH} {a0 : Nat} {a1 : Int32} {a2 : Int32} {μ : Mem} {X : (Int32 × Mem)} (h : f_X12_way S a0 a1 a2 μ = some X) : isO S 12 a0 = true ∧ Ct l γ yX12_way cX12_way 7 (some .int) rm_X12_way [.ref (gb γ + a0), .int a1, .int a2] S μ S X.2 (some (.int X.1)) := by
  unfold f_X12_way at h
  obtain ⟨h0, h⟩ := if_some h
  refine ⟨h0, ?_⟩
  have hJ : ∀ (p : Program) (e : Env) (s : State) (m : MethodId) (args : Array Value) (below : List Frame) (meth : Method) (c : Code), FX γ p s m args meth c cX12_way RX12 7 → meth.sig.returnType = (some .int) → JJ γ p l e rm_X12_way s m args below meth c 7 0 0 (QI below γ S X args s 0 0) S μ 0 [(0, .ref (gb γ + a0)), (1, .int a1), (2, .int a2)] [] := by
    intro p e s m args below meth c F hr
    refine j_iload_n F 1 dX12_way_0 rfl ?_
    refine j_cSI F mi_X12_isDirection w_1191 (rest := []) h (fun _ g => c_X12_isDirection g) rfl rfl (Nat.le_of_ble_eq_true rfl) ⟨Nat.le_of_ble_eq_true rfl, Nat.le_of_ble_eq_true rfl⟩ ⟨Nat.le_of_ble_eq_true rfl, Nat.le_of_ble_eq_true rfl⟩ dX12_way_1 (fun q1 h => ?_)
    refine j_ifne F 9 dX12_way_4 (by decide) h (fun _ h => ?_) (fun _ h => ?_)
    · refine j_iload_n F 2 dX12_way_9 rfl ?_
      refine j_cSI F mi_X12_isReach w_1160 (rest := []) h (fun _ g => c_X12_isReach g) rfl rfl (Nat.le_of_ble_eq_true rfl) ⟨Nat.le_of_ble_eq_true rfl, Nat.le_of_ble_eq_true rfl⟩ ⟨Nat.le_of_ble_eq_true rfl, Nat.le_of_ble_eq_true rfl⟩ dX12_way_10 (fun q2 h => ?_)
      refine j_ifne F 19 dX12_way_13 (by decide) h (fun _ h => ?_) (fun _ h => ?_)
      · refine j_iconst F 0 dX12_way_19 (by decide) ?_
        refine j_istore_n F [(3, .int 0), (0, .ref (gb γ + a0)), (1, .int a1), (2, .int a2)] dX12_way_20 rfl (by decide) rfl ?_
        refine j_lv [(0, .ref (gb γ + a0)), (1, .int a1), (2, .int a2), (3, .int 0)] [1, 2, 3, 0] rfl ?_
        exact s_X12_way_21 F hr _ _ _ _ h
      · refine j_bipush F (-2) dX12_way_16 (by decide) ?_
        exact j_iret F hr dX12_way_18 h
    · refine j_iconst F (-1) dX12_way_7 (by decide) ?_
      exact j_iret F hr dX12_way_8 h
  exact ct_of (by decide +kernel) (Nat.le_of_ble_eq_true rfl) (fun p e s m args below meth c F hr _ => hJ p e s m args below meth c F hr)
