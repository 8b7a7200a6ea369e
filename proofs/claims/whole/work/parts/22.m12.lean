def rm_X12_plane : Room := { frames := 1, cells := 0, slots := 0, locals := 37 }
theorem dX12_plane_0 : decode cX12_plane 0 = .ok (.lconst 0, 1) := by decide +kernel
theorem dX12_plane_1 : decode cX12_plane 1 = .ok (.lstore_n 2, 1) := by decide +kernel
theorem dX12_plane_2 : decode cX12_plane 2 = .ok (.lconst 0, 1) := by decide +kernel
theorem dX12_plane_3 : decode cX12_plane 3 = .ok (.lstore 4, 2) := by decide +kernel
theorem dX12_plane_5 : decode cX12_plane 5 = .ok (.lconst 0, 1) := by decide +kernel
theorem dX12_plane_6 : decode cX12_plane 6 = .ok (.lstore 6, 2) := by decide +kernel
theorem dX12_plane_8 : decode cX12_plane 8 = .ok (.lconst 0, 1) := by decide +kernel
theorem dX12_plane_9 : decode cX12_plane 9 = .ok (.lstore 8, 2) := by decide +kernel
theorem dX12_plane_11 : decode cX12_plane 11 = .ok (.lconst 0, 1) := by decide +kernel
theorem dX12_plane_12 : decode cX12_plane 12 = .ok (.lstore 10, 2) := by decide +kernel
theorem dX12_plane_14 : decode cX12_plane 14 = .ok (.lconst 0, 1) := by decide +kernel
theorem dX12_plane_15 : decode cX12_plane 15 = .ok (.lstore 12, 2) := by decide +kernel
theorem dX12_plane_17 : decode cX12_plane 17 = .ok (.iconst 0, 1) := by decide +kernel
theorem dX12_plane_18 : decode cX12_plane 18 = .ok (.istore 14, 2) := by decide +kernel
theorem dX12_plane_20 : decode cX12_plane 20 = .ok (.iload 14, 2) := by decide +kernel
theorem dX12_plane_22 : decode cX12_plane 22 = .ok (.iconst 4, 1) := by decide +kernel
theorem dX12_plane_23 : decode cX12_plane 23 = .ok (.if_icmp .ge 103, 3) := by decide +kernel
theorem dX12_plane_26 : decode cX12_plane 26 = .ok (.iload 14, 2) := by decide +kernel
theorem dX12_plane_28 : decode cX12_plane 28 = .ok (.iload_n 1, 1) := by decide +kernel
theorem dX12_plane_29 : decode cX12_plane 29 = .ok (.if_icmp .ne 6, 3) := by decide +kernel
theorem dX12_plane_32 : decode cX12_plane 32 = .ok (.goto 88, 3) := by decide +kernel
theorem dX12_plane_35 : decode cX12_plane 35 = .ok (.lload_n 2, 1) := by decide +kernel
theorem dX12_plane_36 : decode cX12_plane 36 = .ok (.lconst 1, 1) := by decide +kernel
theorem dX12_plane_37 : decode cX12_plane 37 = .ok (.ladd, 1) := by decide +kernel
theorem dX12_plane_38 : decode cX12_plane 38 = .ok (.lstore_n 2, 1) := by decide +kernel
theorem dX12_plane_39 : decode cX12_plane 39 = .ok (.lload 4, 2) := by decide +kernel
theorem dX12_plane_41 : decode cX12_plane 41 = .ok (.aload_n 0, 1) := by decide +kernel
theorem dX12_plane_42 : decode cX12_plane 42 = .ok (.iload 14, 2) := by decide +kernel
theorem dX12_plane_44 : decode cX12_plane 44 = .ok (.invokevirtual 99, 3) := by decide +kernel
theorem dX12_plane_47 : decode cX12_plane 47 = .ok (.i2l, 1) := by decide +kernel
theorem dX12_plane_48 : decode cX12_plane 48 = .ok (.ladd, 1) := by decide +kernel
theorem dX12_plane_49 : decode cX12_plane 49 = .ok (.lstore 4, 2) := by decide +kernel
theorem dX12_plane_51 : decode cX12_plane 51 = .ok (.lload 6, 2) := by decide +kernel
theorem dX12_plane_53 : decode cX12_plane 53 = .ok (.aload_n 0, 1) := by decide +kernel
theorem dX12_plane_54 : decode cX12_plane 54 = .ok (.iload 14, 2) := by decide +kernel
theorem dX12_plane_56 : decode cX12_plane 56 = .ok (.invokevirtual 103, 3) := by decide +kernel
theorem dX12_plane_59 : decode cX12_plane 59 = .ok (.i2l, 1) := by decide +kernel
theorem dX12_plane_60 : decode cX12_plane 60 = .ok (.ladd, 1) := by decide +kernel
theorem dX12_plane_61 : decode cX12_plane 61 = .ok (.lstore 6, 2) := by decide +kernel
theorem dX12_plane_63 : decode cX12_plane 63 = .ok (.lload 8, 2) := by decide +kernel
theorem dX12_plane_65 : decode cX12_plane 65 = .ok (.aload_n 0, 1) := by decide +kernel
theorem dX12_plane_66 : decode cX12_plane 66 = .ok (.iload 14, 2) := by decide +kernel
theorem dX12_plane_68 : decode cX12_plane 68 = .ok (.invokevirtual 99, 3) := by decide +kernel
theorem dX12_plane_71 : decode cX12_plane 71 = .ok (.aload_n 0, 1) := by decide +kernel
theorem dX12_plane_72 : decode cX12_plane 72 = .ok (.iload 14, 2) := by decide +kernel
theorem dX12_plane_74 : decode cX12_plane 74 = .ok (.invokevirtual 99, 3) := by decide +kernel
theorem dX12_plane_77 : decode cX12_plane 77 = .ok (.imul, 1) := by decide +kernel
theorem dX12_plane_78 : decode cX12_plane 78 = .ok (.i2l, 1) := by decide +kernel
theorem dX12_plane_79 : decode cX12_plane 79 = .ok (.ladd, 1) := by decide +kernel
theorem dX12_plane_80 : decode cX12_plane 80 = .ok (.lstore 8, 2) := by decide +kernel
theorem dX12_plane_82 : decode cX12_plane 82 = .ok (.lload 10, 2) := by decide +kernel
theorem dX12_plane_84 : decode cX12_plane 84 = .ok (.aload_n 0, 1) := by decide +kernel
theorem dX12_plane_85 : decode cX12_plane 85 = .ok (.iload 14, 2) := by decide +kernel
theorem dX12_plane_87 : decode cX12_plane 87 = .ok (.invokevirtual 99, 3) := by decide +kernel
theorem dX12_plane_90 : decode cX12_plane 90 = .ok (.aload_n 0, 1) := by decide +kernel
theorem dX12_plane_91 : decode cX12_plane 91 = .ok (.iload 14, 2) := by decide +kernel
theorem dX12_plane_93 : decode cX12_plane 93 = .ok (.invokevirtual 103, 3) := by decide +kernel
theorem dX12_plane_96 : decode cX12_plane 96 = .ok (.imul, 1) := by decide +kernel
theorem dX12_plane_97 : decode cX12_plane 97 = .ok (.i2l, 1) := by decide +kernel
theorem dX12_plane_98 : decode cX12_plane 98 = .ok (.ladd, 1) := by decide +kernel
theorem dX12_plane_99 : decode cX12_plane 99 = .ok (.lstore 10, 2) := by decide +kernel
theorem dX12_plane_101 : decode cX12_plane 101 = .ok (.lload 12, 2) := by decide +kernel
theorem dX12_plane_103 : decode cX12_plane 103 = .ok (.aload_n 0, 1) := by decide +kernel
theorem dX12_plane_104 : decode cX12_plane 104 = .ok (.iload 14, 2) := by decide +kernel
theorem dX12_plane_106 : decode cX12_plane 106 = .ok (.invokevirtual 103, 3) := by decide +kernel
theorem dX12_plane_109 : decode cX12_plane 109 = .ok (.aload_n 0, 1) := by decide +kernel
theorem dX12_plane_110 : decode cX12_plane 110 = .ok (.iload 14, 2) := by decide +kernel
theorem dX12_plane_112 : decode cX12_plane 112 = .ok (.invokevirtual 103, 3) := by decide +kernel
theorem dX12_plane_115 : decode cX12_plane 115 = .ok (.imul, 1) := by decide +kernel
theorem dX12_plane_116 : decode cX12_plane 116 = .ok (.i2l, 1) := by decide +kernel
theorem dX12_plane_117 : decode cX12_plane 117 = .ok (.ladd, 1) := by decide +kernel
theorem dX12_plane_118 : decode cX12_plane 118 = .ok (.lstore 12, 2) := by decide +kernel
theorem dX12_plane_120 : decode cX12_plane 120 = .ok (.iinc 14 1, 3) := by decide +kernel
theorem dX12_plane_123 : decode cX12_plane 123 = .ok (.goto (-103), 3) := by decide +kernel
theorem dX12_plane_126 : decode cX12_plane 126 = .ok (.ldc2_w 187, 3) := by decide +kernel
theorem dX12_plane_129 : decode cX12_plane 129 = .ok (.aload_n 0, 1) := by decide +kernel
theorem dX12_plane_130 : decode cX12_plane 130 = .ok (.iconst 0, 1) := by decide +kernel
theorem dX12_plane_131 : decode cX12_plane 131 = .ok (.invokevirtual 196, 3) := by decide +kernel
theorem dX12_plane_134 : decode cX12_plane 134 = .ok (.lmul, 1) := by decide +kernel
theorem dX12_plane_135 : decode cX12_plane 135 = .ok (.lstore 14, 2) := by decide +kernel
theorem dX12_plane_137 : decode cX12_plane 137 = .ok (.aload_n 0, 1) := by decide +kernel
theorem dX12_plane_138 : decode cX12_plane 138 = .ok (.iconst 1, 1) := by decide +kernel
theorem dX12_plane_139 : decode cX12_plane 139 = .ok (.invokevirtual 196, 3) := by decide +kernel
theorem dX12_plane_142 : decode cX12_plane 142 = .ok (.lstore 16, 2) := by decide +kernel
theorem dX12_plane_144 : decode cX12_plane 144 = .ok (.aload_n 0, 1) := by decide +kernel
theorem dX12_plane_145 : decode cX12_plane 145 = .ok (.iconst 2, 1) := by decide +kernel
theorem dX12_plane_146 : decode cX12_plane 146 = .ok (.invokevirtual 196, 3) := by decide +kernel
theorem dX12_plane_149 : decode cX12_plane 149 = .ok (.lstore 18, 2) := by decide +kernel
theorem dX12_plane_151 : decode cX12_plane 151 = .ok (.lload_n 2, 1) := by decide +kernel
theorem dX12_plane_152 : decode cX12_plane 152 = .ok (.lload 4, 2) := by decide +kernel
theorem dX12_plane_154 : decode cX12_plane 154 = .ok (.lload 6, 2) := by decide +kernel
theorem dX12_plane_156 : decode cX12_plane 156 = .ok (.lload 4, 2) := by decide +kernel
theorem dX12_plane_158 : decode cX12_plane 158 = .ok (.lload 8, 2) := by decide +kernel
theorem dX12_plane_160 : decode cX12_plane 160 = .ok (.lload 10, 2) := by decide +kernel
theorem dX12_plane_162 : decode cX12_plane 162 = .ok (.lload 6, 2) := by decide +kernel
theorem dX12_plane_164 : decode cX12_plane 164 = .ok (.lload 10, 2) := by decide +kernel
theorem dX12_plane_166 : decode cX12_plane 166 = .ok (.lload 12, 2) := by decide +kernel
theorem dX12_plane_168 : decode cX12_plane 168 = .ok (.invokestatic 210, 3) := by decide +kernel
theorem dX12_plane_171 : decode cX12_plane 171 = .ok (.lstore 20, 2) := by decide +kernel
theorem dX12_plane_173 : decode cX12_plane 173 = .ok (.lload 14, 2) := by decide +kernel
theorem dX12_plane_175 : decode cX12_plane 175 = .ok (.lload 4, 2) := by decide +kernel
theorem dX12_plane_177 : decode cX12_plane 177 = .ok (.lload 6, 2) := by decide +kernel
theorem dX12_plane_179 : decode cX12_plane 179 = .ok (.lload 16, 2) := by decide +kernel
theorem dX12_plane_181 : decode cX12_plane 181 = .ok (.lload 8, 2) := by decide +kernel
theorem dX12_plane_183 : decode cX12_plane 183 = .ok (.lload 10, 2) := by decide +kernel
theorem dX12_plane_185 : decode cX12_plane 185 = .ok (.lload 18, 2) := by decide +kernel
theorem dX12_plane_187 : decode cX12_plane 187 = .ok (.lload 10, 2) := by decide +kernel
theorem dX12_plane_189 : decode cX12_plane 189 = .ok (.lload 12, 2) := by decide +kernel
theorem dX12_plane_191 : decode cX12_plane 191 = .ok (.invokestatic 210, 3) := by decide +kernel
theorem dX12_plane_194 : decode cX12_plane 194 = .ok (.lstore 22, 2) := by decide +kernel
theorem dX12_plane_196 : decode cX12_plane 196 = .ok (.lload_n 2, 1) := by decide +kernel
theorem dX12_plane_197 : decode cX12_plane 197 = .ok (.lload 14, 2) := by decide +kernel
theorem dX12_plane_199 : decode cX12_plane 199 = .ok (.lload 6, 2) := by decide +kernel
theorem dX12_plane_201 : decode cX12_plane 201 = .ok (.lload 4, 2) := by decide +kernel
theorem dX12_plane_203 : decode cX12_plane 203 = .ok (.lload 16, 2) := by decide +kernel
theorem dX12_plane_205 : decode cX12_plane 205 = .ok (.lload 10, 2) := by decide +kernel
theorem dX12_plane_207 : decode cX12_plane 207 = .ok (.lload 6, 2) := by decide +kernel
theorem dX12_plane_209 : decode cX12_plane 209 = .ok (.lload 18, 2) := by decide +kernel
theorem dX12_plane_211 : decode cX12_plane 211 = .ok (.lload 12, 2) := by decide +kernel
theorem dX12_plane_213 : decode cX12_plane 213 = .ok (.invokestatic 210, 3) := by decide +kernel
theorem dX12_plane_216 : decode cX12_plane 216 = .ok (.lstore 24, 2) := by decide +kernel
theorem dX12_plane_218 : decode cX12_plane 218 = .ok (.lload_n 2, 1) := by decide +kernel
theorem dX12_plane_219 : decode cX12_plane 219 = .ok (.lload 4, 2) := by decide +kernel
theorem dX12_plane_221 : decode cX12_plane 221 = .ok (.lload 14, 2) := by decide +kernel
theorem dX12_plane_223 : decode cX12_plane 223 = .ok (.lload 4, 2) := by decide +kernel
theorem dX12_plane_225 : decode cX12_plane 225 = .ok (.lload 8, 2) := by decide +kernel
theorem dX12_plane_227 : decode cX12_plane 227 = .ok (.lload 16, 2) := by decide +kernel
theorem dX12_plane_229 : decode cX12_plane 229 = .ok (.lload 6, 2) := by decide +kernel
theorem dX12_plane_231 : decode cX12_plane 231 = .ok (.lload 10, 2) := by decide +kernel
theorem dX12_plane_233 : decode cX12_plane 233 = .ok (.lload 18, 2) := by decide +kernel
theorem dX12_plane_235 : decode cX12_plane 235 = .ok (.invokestatic 210, 3) := by decide +kernel
theorem dX12_plane_238 : decode cX12_plane 238 = .ok (.lstore 26, 2) := by decide +kernel
theorem dX12_plane_240 : decode cX12_plane 240 = .ok (.aload_n 0, 1) := by decide +kernel
theorem dX12_plane_241 : decode cX12_plane 241 = .ok (.ldc2_w 187, 3) := by decide +kernel
theorem dX12_plane_244 : decode cX12_plane 244 = .ok (.lload 20, 2) := by decide +kernel
theorem dX12_plane_246 : decode cX12_plane 246 = .ok (.lmul, 1) := by decide +kernel
theorem dX12_plane_247 : decode cX12_plane 247 = .ok (.putfield 214, 3) := by decide +kernel
theorem dX12_plane_250 : decode cX12_plane 250 = .ok (.iconst 0, 1) := by decide +kernel
theorem dX12_plane_251 : decode cX12_plane 251 = .ok (.istore 28, 2) := by decide +kernel
theorem dX12_plane_253 : decode cX12_plane 253 = .ok (.iload 28, 2) := by decide +kernel
theorem dX12_plane_255 : decode cX12_plane 255 = .ok (.iconst 4, 1) := by decide +kernel
theorem dX12_plane_256 : decode cX12_plane 256 = .ok (.if_icmp .ge 50, 3) := by decide +kernel
theorem dX12_plane_259 : decode cX12_plane 259 = .ok (.aload_n 0, 1) := by decide +kernel
theorem dX12_plane_260 : decode cX12_plane 260 = .ok (.getfield 52, 3) := by decide +kernel
theorem dX12_plane_263 : decode cX12_plane 263 = .ok (.iload 28, 2) := by decide +kernel
theorem dX12_plane_265 : decode cX12_plane 265 = .ok (.iload 28, 2) := by decide +kernel
theorem dX12_plane_267 : decode cX12_plane 267 = .ok (.iload_n 1, 1) := by decide +kernel
theorem dX12_plane_268 : decode cX12_plane 268 = .ok (.if_icmp .ne 7, 3) := by decide +kernel
theorem dX12_plane_271 : decode cX12_plane 271 = .ok (.lconst 0, 1) := by decide +kernel
theorem dX12_plane_272 : decode cX12_plane 272 = .ok (.goto 27, 3) := by decide +kernel
theorem dX12_plane_275 : decode cX12_plane 275 = .ok (.lload 22, 2) := by decide +kernel
theorem dX12_plane_277 : decode cX12_plane 277 = .ok (.lload 24, 2) := by decide +kernel
theorem dX12_plane_279 : decode cX12_plane 279 = .ok (.aload_n 0, 1) := by decide +kernel
theorem dX12_plane_280 : decode cX12_plane 280 = .ok (.iload 28, 2) := by decide +kernel
theorem dX12_plane_282 : decode cX12_plane 282 = .ok (.invokevirtual 99, 3) := by decide +kernel
theorem dX12_plane_285 : decode cX12_plane 285 = .ok (.i2l, 1) := by decide +kernel
theorem dX12_plane_286 : decode cX12_plane 286 = .ok (.lmul, 1) := by decide +kernel
theorem dX12_plane_287 : decode cX12_plane 287 = .ok (.ladd, 1) := by decide +kernel
theorem dX12_plane_288 : decode cX12_plane 288 = .ok (.lload 26, 2) := by decide +kernel
theorem dX12_plane_290 : decode cX12_plane 290 = .ok (.aload_n 0, 1) := by decide +kernel
theorem dX12_plane_291 : decode cX12_plane 291 = .ok (.iload 28, 2) := by decide +kernel
theorem dX12_plane_293 : decode cX12_plane 293 = .ok (.invokevirtual 103, 3) := by decide +kernel
theorem dX12_plane_296 : decode cX12_plane 296 = .ok (.i2l, 1) := by decide +kernel
theorem dX12_plane_297 : decode cX12_plane 297 = .ok (.lmul, 1) := by decide +kernel
theorem dX12_plane_298 : decode cX12_plane 298 = .ok (.ladd, 1) := by decide +kernel
theorem dX12_plane_299 : decode cX12_plane 299 = .ok (.lastore, 1) := by decide +kernel
theorem dX12_plane_300 : decode cX12_plane 300 = .ok (.iinc 28 1, 3) := by decide +kernel
theorem dX12_plane_303 : decode cX12_plane 303 = .ok (.goto (-50), 3) := by decide +kernel
theorem dX12_plane_306 : decode cX12_plane 306 = .ok (.return_, 1) := by decide +kernel
def l_X12_plane_253 (S : SH) (a0 : Nat) (a1 : Int32) (a22 : Int64) (a24 : Int64) (a26 : Int64) (k253 : (Int32 × Mem) → Option (Unit × Mem)) (x : (Int32 × Mem)) : Option (Unit × Mem) :=
 (if 4 ≤ x.1 then
 some ((), x.2)
 else
 (gR S 12 a0 16).bind fun v10 =>
 (if x.1 = a1 then
 (sL S v10 x.1 0 x.2).bind fun ν14 =>
 k253 (x.1 + 1, ν14)
 else
 (f_X12_x S a0 x.1 x.2).bind fun q11 =>
 (f_X12_y S a0 x.1 q11.2).bind fun q12 =>
 (sL S v10 x.1 ((a22 + (a24 * q11.1.toInt64)) + (a26 * q12.1.toInt64)) q12.2).bind fun ν13 =>
 k253 (x.1 + 1, ν13)))
set_option maxRecDepth 100000 in
set_option maxHeartbeats 4000000 in
theorem t_X12_plane_253 {γ : GE} {p : Program} {l : Launch} {e : Env} {s : State} {m : MethodId} {args : Array Value} {below : List Frame} {meth : Method} {c : Code} {S : SH} {X : (Unit × Mem)} (F : FX γ p s m args meth c cX12_plane RX12 29) (hr : meth.sig.returnType = (none)) (a0 : Nat) (a1 : Int32) (a22 : Int64) (a24 : Int64) (a26 : Int64) (k253 : (Int32 × Mem) → Option (Unit × Mem)) (hk253 : ∀ (x253_28 : Int32) (ν : Mem), k253 (x253_28, ν) = some X → JJ γ p l e rm_X12_plane s m args below meth c 29 0 0 (QV below γ S X args s 0 0) S ν 253 [(0, .ref (gb γ + a0)), (1, .int a1), (22, .long a22), (24, .long a24), (26, .long a26), (28, .int x253_28)] []) (x : (Int32 × Mem)) (h : l_X12_plane_253 S a0 a1 a22 a24 a26 k253 x = some X) : JJ γ p l e rm_X12_plane s m args below meth c 29 0 0 (QV below γ S X args s 0 0) S x.2 253 [(0, .ref (gb γ + a0)), (1, .int a1), (22, .long a22), (24, .long a24), (26, .long a26), (28, .int x.1)] [] := by
  unfold l_X12_plane_253 at h
  refine j_iload F 5 dX12_plane_253 rfl ?_
  refine j_iconst F 4 dX12_plane_255 (by decide) ?_
  refine j_icmpge F 306 dX12_plane_256 (by decide) h (fun _ h => ?_) (fun _ h => ?_)
  · exact j_vret F hr dX12_plane_306 h
  · refine j_aload_n F 0 dX12_plane_259 rfl ?_
    refine j_gR F fl_RX12_52 rfl dX12_plane_260 h (fun v10 h => ?_)
    refine j_iload F 5 dX12_plane_263 rfl ?_
    refine j_iload F 5 dX12_plane_265 rfl ?_
    refine j_iload_n F 1 dX12_plane_267 rfl ?_
    refine j_icmpne F 275 dX12_plane_268 (by decide) h (fun _ h => ?_) (fun _ h => ?_)
    · refine j_lload F 2 dX12_plane_275 rfl ?_
      refine j_lload F 3 dX12_plane_277 rfl ?_
      refine j_aload_n F 0 dX12_plane_279 rfl ?_
      refine j_iload F 5 dX12_plane_280 rfl ?_
      refine j_cVI F mi_X12_x w_1111 (rest := [.long a24, .long a22, .int x.1, .ref (gb γ + v10)]) h (fun _ g => c_X12_x g) rfl rfl (Nat.le_of_ble_eq_true rfl) ⟨Nat.le_of_ble_eq_true rfl, Nat.le_of_ble_eq_true rfl⟩ ⟨Nat.le_of_ble_eq_true rfl, Nat.le_of_ble_eq_true rfl⟩ dX12_plane_282 (fun q11 h => ?_)
      refine j_i2l F dX12_plane_285 ?_
      refine j_lmul F dX12_plane_286 ?_
      refine j_ladd F dX12_plane_287 ?_
      refine j_lload F 4 dX12_plane_288 rfl ?_
      refine j_aload_n F 0 dX12_plane_290 rfl ?_
      refine j_iload F 5 dX12_plane_291 rfl ?_
      refine j_cVI F mi_X12_y w_1115 (rest := [.long a26, .long (a22 + (a24 * q11.1.toInt64)), .int x.1, .ref (gb γ + v10)]) h (fun _ g => c_X12_y g) rfl rfl (Nat.le_of_ble_eq_true rfl) ⟨Nat.le_of_ble_eq_true rfl, Nat.le_of_ble_eq_true rfl⟩ ⟨Nat.le_of_ble_eq_true rfl, Nat.le_of_ble_eq_true rfl⟩ dX12_plane_293 (fun q12 h => ?_)
      refine j_i2l F dX12_plane_296 ?_
      refine j_lmul F dX12_plane_297 ?_
      refine j_ladd F dX12_plane_298 ?_
      refine j_last F dX12_plane_299 h (fun ν13 h => ?_)
      refine j_iinc F 1 5 [(28, .int (x.1 + 1)), (0, .ref (gb γ + a0)), (1, .int a1), (22, .long a22), (24, .long a24), (26, .long a26)] dX12_plane_300 rfl (by decide) (by decide) rfl ?_
      refine j_goto F 253 dX12_plane_303 (by decide) ?_
      refine j_lv [(0, .ref (gb γ + a0)), (1, .int a1), (22, .long a22), (24, .long a24), (26, .long a26), (28, .int (x.1 + 1))] [1, 2, 3, 4, 5, 0] rfl ?_
      exact hk253 _ _ h
    · refine j_lconst F 0 dX12_plane_271 (by decide) ?_
      refine j_goto F 299 dX12_plane_272 (by decide) ?_
      refine j_last F dX12_plane_299 h (fun ν14 h => ?_)
      refine j_iinc F 1 5 [(28, .int (x.1 + 1)), (0, .ref (gb γ + a0)), (1, .int a1), (22, .long a22), (24, .long a24), (26, .long a26)] dX12_plane_300 rfl (by decide) (by decide) rfl ?_
      refine j_goto F 253 dX12_plane_303 (by decide) ?_
      refine j_lv [(0, .ref (gb γ + a0)), (1, .int a1), (22, .long a22), (24, .long a24), (26, .long a26), (28, .int (x.1 + 1))] [1, 2, 3, 4, 5, 0] rfl ?_
      exact hk253 _ _ h
theorem s_X12_plane_253 {γ : GE} {p : Program} {l : Launch} {e : Env} {s : State} {m : MethodId} {args : Array Value} {below : List Frame} {meth : Method} {c : Code} {S : SH} {X : (Unit × Mem)} (F : FX γ p s m args meth c cX12_plane RX12 29) (hr : meth.sig.returnType = (none)) (a0 : Nat) (a1 : Int32) (a22 : Int64) (a24 : Int64) (a26 : Int64) (x253_28 : Int32) (ν : Mem) (h : lpN (l_X12_plane_253 S a0 a1 a22 a24 a26) fu (x253_28, ν) = some X) : JJ γ p l e rm_X12_plane s m args below meth c 29 0 0 (QV below γ S X args s 0 0) S ν 253 [(0, .ref (gb γ + a0)), (1, .int a1), (22, .long a22), (24, .long a24), (26, .long a26), (28, .int x253_28)] [] :=
 lpN_sound (fun x => JJ γ p l e rm_X12_plane s m args below meth c 29 0 0 (QV below γ S X args s 0 0) S x.2 253 [(0, .ref (gb γ + a0)), (1, .int a1), (22, .long a22), (24, .long a24), (26, .long a26), (28, .int x.1)] []) (fun k253 hk253 x h => t_X12_plane_253 F hr a0 a1 a22 a24 a26 k253 (fun x253_28 ν h => hk253 (x253_28, ν) h) x h) fu (x253_28, ν) h
def b_X12_plane_126 (S : SH) (a0 : Nat) (a1 : Int32) (a2 : Int64) (a4 : Int64) (a6 : Int64) (a8 : Int64) (a10 : Int64) (a12 : Int64) (μ : Mem) : Option (Unit × Mem) :=
 (f_X12_sum S a0 0 μ).bind fun q1 =>
 (some (65 * q1.1)).bind fun y2 =>
 (f_X12_sum S a0 1 q1.2).bind fun q3 =>
 (f_X12_sum S a0 2 q3.2).bind fun q4 =>
 (f_X12_determinant S a2 a4 a6 a4 a8 a10 a6 a10 a12 q4.2).bind fun q5 =>
 (f_X12_determinant S y2 a4 a6 q3.1 a8 a10 q4.1 a10 a12 q5.2).bind fun q6 =>
 (f_X12_determinant S a2 y2 a6 a4 q3.1 a10 a6 q4.1 a12 q6.2).bind fun q7 =>
 (f_X12_determinant S a2 a4 y2 a4 a8 q3.1 a6 a10 q4.1 q7.2).bind fun q8 =>
 (pL S 12 a0 17 (65 * q5.1) q8.2).bind fun ν9 =>
 lpN (l_X12_plane_253 S a0 a1 q6.1 q7.1 q8.1) fu (0, ν9)
set_option maxRecDepth 100000 in
set_option maxHeartbeats 4000000 in
theorem s_X12_plane_126 {γ : GE} {p : Program} {l : Launch} {e : Env} {s : State} {m : MethodId} {args : Array Value} {below : List Frame} {meth : Method} {c : Code} {S : SH} {X : (Unit × Mem)} (F : FX γ p s m args meth c cX12_plane RX12 29) (hr : meth.sig.returnType = (none)) (a0 : Nat) (a1 : Int32) (a2 : Int64) (a4 : Int64) (a6 : Int64) (a8 : Int64) (a10 : Int64) (a12 : Int64)    (μ : Mem) (h : b_X12_plane_126 S a0 a1 a2 a4 a6 a8 a10 a12 μ = some X) : JJ γ p l e rm_X12_plane s m args below meth c 29 0 0 (QV below γ S X args s 0 0) S μ 126 [(0, .ref (gb γ + a0)), (1, .int a1), (2, .long a2), (4, .long a4), (6, .long a6), (8, .long a8), (10, .long a10), (12, .long a12)] [] := by
  unfold b_X12_plane_126 at h
  refine j_ldc2 F 65 dX12_plane_126 w_1234 ?_
  refine j_aload_n F 0 dX12_plane_129 rfl ?_
  refine j_iconst F 0 dX12_plane_130 (by decide) ?_
  refine j_cVJ F mi_X12_sum w_1223 (rest := [.long 65]) h (fun _ g => c_X12_sum g) rfl rfl (Nat.le_of_ble_eq_true rfl) ⟨Nat.le_of_ble_eq_true rfl, Nat.le_of_ble_eq_true rfl⟩ ⟨Nat.le_of_ble_eq_true rfl, Nat.le_of_ble_eq_true rfl⟩ dX12_plane_131 (fun q1 h => ?_)
  refine j_lmul F dX12_plane_134 ?_
  refine j_nmL h (fun y2 h => ?_)
  refine j_lstore F [(14, .long y2), (0, .ref (gb γ + a0)), (1, .int a1), (2, .long a2), (4, .long a4), (6, .long a6), (8, .long a8), (10, .long a10), (12, .long a12)] dX12_plane_135 (by decide) rfl ?_
  refine j_aload_n F 1 dX12_plane_137 rfl ?_
  refine j_iconst F 1 dX12_plane_138 (by decide) ?_
  refine j_cVJ F mi_X12_sum w_1223 (rest := []) h (fun _ g => c_X12_sum g) rfl rfl (Nat.le_of_ble_eq_true rfl) ⟨Nat.le_of_ble_eq_true rfl, Nat.le_of_ble_eq_true rfl⟩ ⟨Nat.le_of_ble_eq_true rfl, Nat.le_of_ble_eq_true rfl⟩ dX12_plane_139 (fun q3 h => ?_)
  refine j_lstore F [(16, .long q3.1), (14, .long y2), (0, .ref (gb γ + a0)), (1, .int a1), (2, .long a2), (4, .long a4), (6, .long a6), (8, .long a8), (10, .long a10), (12, .long a12)] dX12_plane_142 (by decide) rfl ?_
  refine j_aload_n F 2 dX12_plane_144 rfl ?_
  refine j_iconst F 2 dX12_plane_145 (by decide) ?_
  refine j_cVJ F mi_X12_sum w_1223 (rest := []) h (fun _ g => c_X12_sum g) rfl rfl (Nat.le_of_ble_eq_true rfl) ⟨Nat.le_of_ble_eq_true rfl, Nat.le_of_ble_eq_true rfl⟩ ⟨Nat.le_of_ble_eq_true rfl, Nat.le_of_ble_eq_true rfl⟩ dX12_plane_146 (fun q4 h => ?_)
  refine j_lstore F [(18, .long q4.1), (16, .long q3.1), (14, .long y2), (0, .ref (gb γ + a0)), (1, .int a1), (2, .long a2), (4, .long a4), (6, .long a6), (8, .long a8), (10, .long a10), (12, .long a12)] dX12_plane_149 (by decide) rfl ?_
  refine j_lload_n F 5 dX12_plane_151 rfl ?_
  refine j_lload F 6 dX12_plane_152 rfl ?_
  refine j_lload F 7 dX12_plane_154 rfl ?_
  refine j_lload F 6 dX12_plane_156 rfl ?_
  refine j_lload F 8 dX12_plane_158 rfl ?_
  refine j_lload F 9 dX12_plane_160 rfl ?_
  refine j_lload F 7 dX12_plane_162 rfl ?_
  refine j_lload F 9 dX12_plane_164 rfl ?_
  refine j_lload F 10 dX12_plane_166 rfl ?_
  refine j_cSJ F mi_X12_determinant w_1273 (rest := []) h (fun _ g => c_X12_determinant g) rfl rfl (Nat.le_of_ble_eq_true rfl) ⟨Nat.le_of_ble_eq_true rfl, Nat.le_of_ble_eq_true rfl⟩ ⟨Nat.le_of_ble_eq_true rfl, Nat.le_of_ble_eq_true rfl⟩ dX12_plane_168 (fun q5 h => ?_)
  refine j_lstore F [(20, .long q5.1), (18, .long q4.1), (16, .long q3.1), (14, .long y2), (0, .ref (gb γ + a0)), (1, .int a1), (2, .long a2), (4, .long a4), (6, .long a6), (8, .long a8), (10, .long a10), (12, .long a12)] dX12_plane_171 (by decide) rfl ?_
  refine j_lload F 3 dX12_plane_173 rfl ?_
  refine j_lload F 7 dX12_plane_175 rfl ?_
  refine j_lload F 8 dX12_plane_177 rfl ?_
  refine j_lload F 2 dX12_plane_179 rfl ?_
  refine j_lload F 9 dX12_plane_181 rfl ?_
  refine j_lload F 10 dX12_plane_183 rfl ?_
  refine j_lload F 1 dX12_plane_185 rfl ?_
  refine j_lload F 10 dX12_plane_187 rfl ?_
  refine j_lload F 11 dX12_plane_189 rfl ?_
  refine j_cSJ F mi_X12_determinant w_1273 (rest := []) h (fun _ g => c_X12_determinant g) rfl rfl (Nat.le_of_ble_eq_true rfl) ⟨Nat.le_of_ble_eq_true rfl, Nat.le_of_ble_eq_true rfl⟩ ⟨Nat.le_of_ble_eq_true rfl, Nat.le_of_ble_eq_true rfl⟩ dX12_plane_191 (fun q6 h => ?_)
  refine j_lstore F [(22, .long q6.1), (20, .long q5.1), (18, .long q4.1), (16, .long q3.1), (14, .long y2), (0, .ref (gb γ + a0)), (1, .int a1), (2, .long a2), (4, .long a4), (6, .long a6), (8, .long a8), (10, .long a10), (12, .long a12)] dX12_plane_194 (by decide) rfl ?_
  refine j_lload_n F 7 dX12_plane_196 rfl ?_
  refine j_lload F 4 dX12_plane_197 rfl ?_
  refine j_lload F 9 dX12_plane_199 rfl ?_
  refine j_lload F 8 dX12_plane_201 rfl ?_
  refine j_lload F 3 dX12_plane_203 rfl ?_
  refine j_lload F 11 dX12_plane_205 rfl ?_
  refine j_lload F 9 dX12_plane_207 rfl ?_
  refine j_lload F 2 dX12_plane_209 rfl ?_
  refine j_lload F 12 dX12_plane_211 rfl ?_
  refine j_cSJ F mi_X12_determinant w_1273 (rest := []) h (fun _ g => c_X12_determinant g) rfl rfl (Nat.le_of_ble_eq_true rfl) ⟨Nat.le_of_ble_eq_true rfl, Nat.le_of_ble_eq_true rfl⟩ ⟨Nat.le_of_ble_eq_true rfl, Nat.le_of_ble_eq_true rfl⟩ dX12_plane_213 (fun q7 h => ?_)
  refine j_lstore F [(24, .long q7.1), (22, .long q6.1), (20, .long q5.1), (18, .long q4.1), (16, .long q3.1), (14, .long y2), (0, .ref (gb γ + a0)), (1, .int a1), (2, .long a2), (4, .long a4), (6, .long a6), (8, .long a8), (10, .long a10), (12, .long a12)] dX12_plane_216 (by decide) rfl ?_
  refine j_lload_n F 8 dX12_plane_218 rfl ?_
  refine j_lload F 9 dX12_plane_219 rfl ?_
  refine j_lload F 5 dX12_plane_221 rfl ?_
  refine j_lload F 9 dX12_plane_223 rfl ?_
  refine j_lload F 11 dX12_plane_225 rfl ?_
  refine j_lload F 4 dX12_plane_227 rfl ?_
  refine j_lload F 10 dX12_plane_229 rfl ?_
  refine j_lload F 12 dX12_plane_231 rfl ?_
  refine j_lload F 3 dX12_plane_233 rfl ?_
  refine j_cSJ F mi_X12_determinant w_1273 (rest := []) h (fun _ g => c_X12_determinant g) rfl rfl (Nat.le_of_ble_eq_true rfl) ⟨Nat.le_of_ble_eq_true rfl, Nat.le_of_ble_eq_true rfl⟩ ⟨Nat.le_of_ble_eq_true rfl, Nat.le_of_ble_eq_true rfl⟩ dX12_plane_235 (fun q8 h => ?_)
  refine j_lstore F [(26, .long q8.1), (24, .long q7.1), (22, .long q6.1), (20, .long q5.1), (18, .long q4.1), (16, .long q3.1), (14, .long y2), (0, .ref (gb γ + a0)), (1, .int a1), (2, .long a2), (4, .long a4), (6, .long a6), (8, .long a8), (10, .long a10), (12, .long a12)] dX12_plane_238 (by decide) rfl ?_
  refine j_aload_n F 7 dX12_plane_240 rfl ?_
  refine j_ldc2 F 65 dX12_plane_241 w_1234 ?_
  refine j_lload F 3 dX12_plane_244 rfl ?_
  refine j_lmul F dX12_plane_246 ?_
  refine j_pL F fl_RX12_214 rfl dX12_plane_247 h (fun ν9 h => ?_)
  refine j_iconst F 0 dX12_plane_250 (by decide) ?_
  refine j_istore F [(28, .int 0), (26, .long q8.1), (24, .long q7.1), (22, .long q6.1), (20, .long q5.1), (18, .long q4.1), (16, .long q3.1), (14, .long y2), (0, .ref (gb γ + a0)), (1, .int a1), (2, .long a2), (4, .long a4), (6, .long a6), (8, .long a8), (10, .long a10), (12, .long a12)] dX12_plane_251 (by decide) rfl ?_
  refine j_lv [(0, .ref (gb γ + a0)), (1, .int a1), (22, .long q6.1), (24, .long q7.1), (26, .long q8.1), (28, .int 0)] [8, 9, 3, 2, 1, 0] rfl ?_
  exact s_X12_plane_253 F hr _ _ _ _ _ _ _ h
def l_X12_plane_20 (S : SH) (a0 : Nat) (a1 : Int32) (k20 : (Int64 × Int64 × Int64 × Int64 × Int64 × Int64 × Int32 × Mem) → Option (Unit × Mem)) (x : (Int64 × Int64 × Int64 × Int64 × Int64 × Int64 × Int32 × Mem)) : Option (Unit × Mem) :=
 (if 4 ≤ x.2.2.2.2.2.2.1 then
 b_X12_plane_126 S a0 a1 x.1 x.2.1 x.2.2.1 x.2.2.2.1 x.2.2.2.2.1 x.2.2.2.2.2.1 x.2.2.2.2.2.2.2
 else
 (if x.2.2.2.2.2.2.1 = a1 then
 k20 (x.1, x.2.1, x.2.2.1, x.2.2.2.1, x.2.2.2.2.1, x.2.2.2.2.2.1, x.2.2.2.2.2.2.1 + 1, x.2.2.2.2.2.2.2)
 else
 (some (x.1 + 1)).bind fun y15 =>
 (f_X12_x S a0 x.2.2.2.2.2.2.1 x.2.2.2.2.2.2.2).bind fun q16 =>
 (some (x.2.1 + q16.1.toInt64)).bind fun y17 =>
 (f_X12_y S a0 x.2.2.2.2.2.2.1 q16.2).bind fun q18 =>
 (some (x.2.2.1 + q18.1.toInt64)).bind fun y19 =>
 (f_X12_x S a0 x.2.2.2.2.2.2.1 q18.2).bind fun q20 =>
 (f_X12_x S a0 x.2.2.2.2.2.2.1 q20.2).bind fun q21 =>
 (some (x.2.2.2.1 + ((q20.1 * q21.1).toInt64))).bind fun y22 =>
 (f_X12_x S a0 x.2.2.2.2.2.2.1 q21.2).bind fun q23 =>
 (f_X12_y S a0 x.2.2.2.2.2.2.1 q23.2).bind fun q24 =>
 (some (x.2.2.2.2.1 + ((q23.1 * q24.1).toInt64))).bind fun y25 =>
 (f_X12_y S a0 x.2.2.2.2.2.2.1 q24.2).bind fun q26 =>
 (f_X12_y S a0 x.2.2.2.2.2.2.1 q26.2).bind fun q27 =>
 (some (x.2.2.2.2.2.1 + ((q26.1 * q27.1).toInt64))).bind fun y28 =>
 k20 (y15, y17, y19, y22, y25, y28, x.2.2.2.2.2.2.1 + 1, q27.2)))
set_option maxRecDepth 100000 in
set_option maxHeartbeats 4000000 in
theorem t_X12_plane_20 {γ : GE} {p : Program} {l : Launch} {e : Env} {s : State} {m : MethodId} {args : Array Value} {below : List Frame} {meth : Method} {c : Code} {S : SH} {X : (Unit × Mem)} (F : FX γ p s m args meth c cX12_plane RX12 29) (hr : meth.sig.returnType = (none)) (a0 : Nat) (a1 : Int32) (k20 : (Int64 × Int64 × Int64 × Int64 × Int64 × Int64 × Int32 × Mem) → Option (Unit × Mem)) (hk20 : ∀ (x20_2 : Int64) (x20_4 : Int64) (x20_6 : Int64) (x20_8 : Int64) (x20_10 : Int64) (x20_12 : Int64) (x20_14 : Int32) (ν : Mem), k20 (x20_2, x20_4, x20_6, x20_8, x20_10, x20_12, x20_14, ν) = some X → JJ γ p l e rm_X12_plane s m args below meth c 29 0 0 (QV below γ S X args s 0 0) S ν 20 [(0, .ref (gb γ + a0)), (1, .int a1), (2, .long x20_2), (4, .long x20_4), (6, .long x20_6), (8, .long x20_8), (10, .long x20_10), (12, .long x20_12), (14, .int x20_14)] []) (x : (Int64 × Int64 × Int64 × Int64 × Int64 × Int64 × Int32 × Mem)) (h : l_X12_plane_20 S a0 a1 k20 x = some X) : JJ γ p l e rm_X12_plane s m args below meth c 29 0 0 (QV below γ S X args s 0 0) S x.2.2.2.2.2.2.2 20 [(0, .ref (gb γ + a0)), (1, .int a1), (2, .long x.1), (4, .long x.2.1), (6, .long x.2.2.1), (8, .long x.2.2.2.1), (10, .long x.2.2.2.2.1), (12, .long x.2.2.2.2.2.1), (14, .int x.2.2.2.2.2.2.1)] [] := by
  unfold l_X12_plane_20 at h
  refine j_iload F 8 dX12_plane_20 rfl ?_
  refine j_iconst F 4 dX12_plane_22 (by decide) ?_
  refine j_icmpge F 126 dX12_plane_23 (by decide) h (fun _ h => ?_) (fun _ h => ?_)
  · refine j_lv [(0, .ref (gb γ + a0)), (1, .int a1), (2, .long x.1), (4, .long x.2.1), (6, .long x.2.2.1), (8, .long x.2.2.2.1), (10, .long x.2.2.2.2.1), (12, .long x.2.2.2.2.2.1)] [0, 1, 2, 3, 4, 5, 6, 7] rfl ?_
    exact s_X12_plane_126 F hr _ _ _ _ _ _ _ _ _ h
  · refine j_iload F 8 dX12_plane_26 rfl ?_
    refine j_iload_n F 1 dX12_plane_28 rfl ?_
    refine j_icmpne F 35 dX12_plane_29 (by decide) h (fun _ h => ?_) (fun _ h => ?_)
    · refine j_lload_n F 2 dX12_plane_35 rfl ?_
      refine j_lconst F 1 dX12_plane_36 (by decide) ?_
      refine j_ladd F dX12_plane_37 ?_
      refine j_nmL h (fun y15 h => ?_)
      refine j_lstore_n F [(2, .long y15), (0, .ref (gb γ + a0)), (1, .int a1), (4, .long x.2.1), (6, .long x.2.2.1), (8, .long x.2.2.2.1), (10, .long x.2.2.2.2.1), (12, .long x.2.2.2.2.2.1), (14, .int x.2.2.2.2.2.2.1)] dX12_plane_38 rfl (by decide) rfl ?_
      refine j_lload F 3 dX12_plane_39 rfl ?_
      refine j_aload_n F 1 dX12_plane_41 rfl ?_
      refine j_iload F 8 dX12_plane_42 rfl ?_
      refine j_cVI F mi_X12_x w_1111 (rest := [.long x.2.1]) h (fun _ g => c_X12_x g) rfl rfl (Nat.le_of_ble_eq_true rfl) ⟨Nat.le_of_ble_eq_true rfl, Nat.le_of_ble_eq_true rfl⟩ ⟨Nat.le_of_ble_eq_true rfl, Nat.le_of_ble_eq_true rfl⟩ dX12_plane_44 (fun q16 h => ?_)
      refine j_i2l F dX12_plane_47 ?_
      refine j_ladd F dX12_plane_48 ?_
      refine j_nmL h (fun y17 h => ?_)
      refine j_lstore F [(4, .long y17), (2, .long y15), (0, .ref (gb γ + a0)), (1, .int a1), (6, .long x.2.2.1), (8, .long x.2.2.2.1), (10, .long x.2.2.2.2.1), (12, .long x.2.2.2.2.2.1), (14, .int x.2.2.2.2.2.2.1)] dX12_plane_49 (by decide) rfl ?_
      refine j_lload F 4 dX12_plane_51 rfl ?_
      refine j_aload_n F 2 dX12_plane_53 rfl ?_
      refine j_iload F 8 dX12_plane_54 rfl ?_
      refine j_cVI F mi_X12_y w_1115 (rest := [.long x.2.2.1]) h (fun _ g => c_X12_y g) rfl rfl (Nat.le_of_ble_eq_true rfl) ⟨Nat.le_of_ble_eq_true rfl, Nat.le_of_ble_eq_true rfl⟩ ⟨Nat.le_of_ble_eq_true rfl, Nat.le_of_ble_eq_true rfl⟩ dX12_plane_56 (fun q18 h => ?_)
      refine j_i2l F dX12_plane_59 ?_
      refine j_ladd F dX12_plane_60 ?_
      refine j_nmL h (fun y19 h => ?_)
      refine j_lstore F [(6, .long y19), (4, .long y17), (2, .long y15), (0, .ref (gb γ + a0)), (1, .int a1), (8, .long x.2.2.2.1), (10, .long x.2.2.2.2.1), (12, .long x.2.2.2.2.2.1), (14, .int x.2.2.2.2.2.2.1)] dX12_plane_61 (by decide) rfl ?_
      refine j_lload F 5 dX12_plane_63 rfl ?_
      refine j_aload_n F 3 dX12_plane_65 rfl ?_
      refine j_iload F 8 dX12_plane_66 rfl ?_
      refine j_cVI F mi_X12_x w_1111 (rest := [.long x.2.2.2.1]) h (fun _ g => c_X12_x g) rfl rfl (Nat.le_of_ble_eq_true rfl) ⟨Nat.le_of_ble_eq_true rfl, Nat.le_of_ble_eq_true rfl⟩ ⟨Nat.le_of_ble_eq_true rfl, Nat.le_of_ble_eq_true rfl⟩ dX12_plane_68 (fun q20 h => ?_)
      refine j_aload_n F 3 dX12_plane_71 rfl ?_
      refine j_iload F 8 dX12_plane_72 rfl ?_
      refine j_cVI F mi_X12_x w_1111 (rest := [.int q20.1, .long x.2.2.2.1]) h (fun _ g => c_X12_x g) rfl rfl (Nat.le_of_ble_eq_true rfl) ⟨Nat.le_of_ble_eq_true rfl, Nat.le_of_ble_eq_true rfl⟩ ⟨Nat.le_of_ble_eq_true rfl, Nat.le_of_ble_eq_true rfl⟩ dX12_plane_74 (fun q21 h => ?_)
      refine j_imul F dX12_plane_77 ?_
      refine j_i2l F dX12_plane_78 ?_
      refine j_ladd F dX12_plane_79 ?_
      refine j_nmL h (fun y22 h => ?_)
      refine j_lstore F [(8, .long y22), (6, .long y19), (4, .long y17), (2, .long y15), (0, .ref (gb γ + a0)), (1, .int a1), (10, .long x.2.2.2.2.1), (12, .long x.2.2.2.2.2.1), (14, .int x.2.2.2.2.2.2.1)] dX12_plane_80 (by decide) rfl ?_
      refine j_lload F 6 dX12_plane_82 rfl ?_
      refine j_aload_n F 4 dX12_plane_84 rfl ?_
      refine j_iload F 8 dX12_plane_85 rfl ?_
      refine j_cVI F mi_X12_x w_1111 (rest := [.long x.2.2.2.2.1]) h (fun _ g => c_X12_x g) rfl rfl (Nat.le_of_ble_eq_true rfl) ⟨Nat.le_of_ble_eq_true rfl, Nat.le_of_ble_eq_true rfl⟩ ⟨Nat.le_of_ble_eq_true rfl, Nat.le_of_ble_eq_true rfl⟩ dX12_plane_87 (fun q23 h => ?_)
      refine j_aload_n F 4 dX12_plane_90 rfl ?_
      refine j_iload F 8 dX12_plane_91 rfl ?_
      refine j_cVI F mi_X12_y w_1115 (rest := [.int q23.1, .long x.2.2.2.2.1]) h (fun _ g => c_X12_y g) rfl rfl (Nat.le_of_ble_eq_true rfl) ⟨Nat.le_of_ble_eq_true rfl, Nat.le_of_ble_eq_true rfl⟩ ⟨Nat.le_of_ble_eq_true rfl, Nat.le_of_ble_eq_true rfl⟩ dX12_plane_93 (fun q24 h => ?_)
      refine j_imul F dX12_plane_96 ?_
      refine j_i2l F dX12_plane_97 ?_
      refine j_ladd F dX12_plane_98 ?_
      refine j_nmL h (fun y25 h => ?_)
      refine j_lstore F [(10, .long y25), (8, .long y22), (6, .long y19), (4, .long y17), (2, .long y15), (0, .ref (gb γ + a0)), (1, .int a1), (12, .long x.2.2.2.2.2.1), (14, .int x.2.2.2.2.2.2.1)] dX12_plane_99 (by decide) rfl ?_
      refine j_lload F 7 dX12_plane_101 rfl ?_
      refine j_aload_n F 5 dX12_plane_103 rfl ?_
      refine j_iload F 8 dX12_plane_104 rfl ?_
      refine j_cVI F mi_X12_y w_1115 (rest := [.long x.2.2.2.2.2.1]) h (fun _ g => c_X12_y g) rfl rfl (Nat.le_of_ble_eq_true rfl) ⟨Nat.le_of_ble_eq_true rfl, Nat.le_of_ble_eq_true rfl⟩ ⟨Nat.le_of_ble_eq_true rfl, Nat.le_of_ble_eq_true rfl⟩ dX12_plane_106 (fun q26 h => ?_)
      refine j_aload_n F 5 dX12_plane_109 rfl ?_
      refine j_iload F 8 dX12_plane_110 rfl ?_
      refine j_cVI F mi_X12_y w_1115 (rest := [.int q26.1, .long x.2.2.2.2.2.1]) h (fun _ g => c_X12_y g) rfl rfl (Nat.le_of_ble_eq_true rfl) ⟨Nat.le_of_ble_eq_true rfl, Nat.le_of_ble_eq_true rfl⟩ ⟨Nat.le_of_ble_eq_true rfl, Nat.le_of_ble_eq_true rfl⟩ dX12_plane_112 (fun q27 h => ?_)
      refine j_imul F dX12_plane_115 ?_
      refine j_i2l F dX12_plane_116 ?_
      refine j_ladd F dX12_plane_117 ?_
      refine j_nmL h (fun y28 h => ?_)
      refine j_lstore F [(12, .long y28), (10, .long y25), (8, .long y22), (6, .long y19), (4, .long y17), (2, .long y15), (0, .ref (gb γ + a0)), (1, .int a1), (14, .int x.2.2.2.2.2.2.1)] dX12_plane_118 (by decide) rfl ?_
      refine j_iinc F 1 8 [(14, .int (x.2.2.2.2.2.2.1 + 1)), (12, .long y28), (10, .long y25), (8, .long y22), (6, .long y19), (4, .long y17), (2, .long y15), (0, .ref (gb γ + a0)), (1, .int a1)] dX12_plane_120 rfl (by decide) (by decide) rfl ?_
      refine j_goto F 20 dX12_plane_123 (by decide) ?_
      refine j_lv [(0, .ref (gb γ + a0)), (1, .int a1), (2, .long y15), (4, .long y17), (6, .long y19), (8, .long y22), (10, .long y25), (12, .long y28), (14, .int (x.2.2.2.2.2.2.1 + 1))] [7, 8, 6, 5, 4, 3, 2, 1, 0] rfl ?_
      exact hk20 _ _ _ _ _ _ _ _ h
    · refine j_goto F 120 dX12_plane_32 (by decide) ?_
      refine j_iinc F 1 8 [(14, .int (x.2.2.2.2.2.2.1 + 1)), (0, .ref (gb γ + a0)), (1, .int a1), (2, .long x.1), (4, .long x.2.1), (6, .long x.2.2.1), (8, .long x.2.2.2.1), (10, .long x.2.2.2.2.1), (12, .long x.2.2.2.2.2.1)] dX12_plane_120 rfl (by decide) (by decide) rfl ?_
      refine j_goto F 20 dX12_plane_123 (by decide) ?_
      refine j_lv [(0, .ref (gb γ + a0)), (1, .int a1), (2, .long x.1), (4, .long x.2.1), (6, .long x.2.2.1), (8, .long x.2.2.2.1), (10, .long x.2.2.2.2.1), (12, .long x.2.2.2.2.2.1), (14, .int (x.2.2.2.2.2.2.1 + 1))] [1, 2, 3, 4, 5, 6, 7, 8, 0] rfl ?_
      exact hk20 _ _ _ _ _ _ _ _ h
theorem s_X12_plane_20 {γ : GE} {p : Program} {l : Launch} {e : Env} {s : State} {m : MethodId} {args : Array Value} {below : List Frame} {meth : Method} {c : Code} {S : SH} {X : (Unit × Mem)} (F : FX γ p s m args meth c cX12_plane RX12 29) (hr : meth.sig.returnType = (none)) (a0 : Nat) (a1 : Int32) (x20_2 : Int64) (x20_4 : Int64) (x20_6 : Int64) (x20_8 : Int64) (x20_10 : Int64) (x20_12 : Int64) (x20_14 : Int32) (ν : Mem) (h : lpN (l_X12_plane_20 S a0 a1) fu (x20_2, x20_4, x20_6, x20_8, x20_10, x20_12, x20_14, ν) = some X) : JJ γ p l e rm_X12_plane s m args below meth c 29 0 0 (QV below γ S X args s 0 0) S ν 20 [(0, .ref (gb γ + a0)), (1, .int a1), (2, .long x20_2), (4, .long x20_4), (6, .long x20_6), (8, .long x20_8), (10, .long x20_10), (12, .long x20_12), (14, .int x20_14)] [] :=
 lpN_sound (fun x => JJ γ p l e rm_X12_plane s m args below meth c 29 0 0 (QV below γ S X args s 0 0) S x.2.2.2.2.2.2.2 20 [(0, .ref (gb γ + a0)), (1, .int a1), (2, .long x.1), (4, .long x.2.1), (6, .long x.2.2.1), (8, .long x.2.2.2.1), (10, .long x.2.2.2.2.1), (12, .long x.2.2.2.2.2.1), (14, .int x.2.2.2.2.2.2.1)] []) (fun k20 hk20 x h => t_X12_plane_20 F hr a0 a1 k20 (fun x20_2 x20_4 x20_6 x20_8 x20_10 x20_12 x20_14 ν h => hk20 (x20_2, x20_4, x20_6, x20_8, x20_10, x20_12, x20_14, ν) h) x h) fu (x20_2, x20_4, x20_6, x20_8, x20_10, x20_12, x20_14, ν) h
def f_X12_plane (S : SH) (a0 : Nat) (a1 : Int32) (μ : Mem) : Option (Unit × Mem) :=
  if isO S 12 a0 = true then
  lpN (l_X12_plane_20 S  a0 a1) fu (0, 0, 0, 0, 0, 0, 0, μ)
  else none
set_option maxRecDepth 100000 in
set_option maxHeartbeats 4000000 in
theorem c_X12_plane {l : Launch} {γ : GE} {S : SH} {a0 : Nat} {a1 : Int32} {μ : Mem} {X : (Unit × Mem)} (h : f_X12_plane S a0 a1 μ = some X) : isO S 12 a0 = true ∧ Ct l γ yX12_plane cX12_plane 29 (none) rm_X12_plane [.ref (gb γ + a0), .int a1] S μ S X.2 none := by
  unfold f_X12_plane at h
  obtain ⟨h0, h⟩ := if_some h
  refine ⟨h0, ?_⟩
  have hJ : ∀ (p : Program) (e : Env) (s : State) (m : MethodId) (args : Array Value) (below : List Frame) (meth : Method) (c : Code), FX γ p s m args meth c cX12_plane RX12 29 → meth.sig.returnType = (none) → JJ γ p l e rm_X12_plane s m args below meth c 29 0 0 (QV below γ S X args s 0 0) S μ 0 [(0, .ref (gb γ + a0)), (1, .int a1)] [] := by
    intro p e s m args below meth c F hr
    refine j_lconst F 0 dX12_plane_0 (by decide) ?_
    refine j_lstore_n F [(2, .long 0), (0, .ref (gb γ + a0)), (1, .int a1)] dX12_plane_1 rfl (by decide) rfl ?_
    refine j_lconst F 0 dX12_plane_2 (by decide) ?_
    refine j_lstore F [(4, .long 0), (2, .long 0), (0, .ref (gb γ + a0)), (1, .int a1)] dX12_plane_3 (by decide) rfl ?_
    refine j_lconst F 0 dX12_plane_5 (by decide) ?_
    refine j_lstore F [(6, .long 0), (4, .long 0), (2, .long 0), (0, .ref (gb γ + a0)), (1, .int a1)] dX12_plane_6 (by decide) rfl ?_
    refine j_lconst F 0 dX12_plane_8 (by decide) ?_
    refine j_lstore F [(8, .long 0), (6, .long 0), (4, .long 0), (2, .long 0), (0, .ref (gb γ + a0)), (1, .int a1)] dX12_plane_9 (by decide) rfl ?_
    refine j_lconst F 0 dX12_plane_11 (by decide) ?_
    refine j_lstore F [(10, .long 0), (8, .long 0), (6, .long 0), (4, .long 0), (2, .long 0), (0, .ref (gb γ + a0)), (1, .int a1)] dX12_plane_12 (by decide) rfl ?_
    refine j_lconst F 0 dX12_plane_14 (by decide) ?_
    refine j_lstore F [(12, .long 0), (10, .long 0), (8, .long 0), (6, .long 0), (4, .long 0), (2, .long 0), (0, .ref (gb γ + a0)), (1, .int a1)] dX12_plane_15 (by decide) rfl ?_
    refine j_iconst F 0 dX12_plane_17 (by decide) ?_
    refine j_istore F [(14, .int 0), (12, .long 0), (10, .long 0), (8, .long 0), (6, .long 0), (4, .long 0), (2, .long 0), (0, .ref (gb γ + a0)), (1, .int a1)] dX12_plane_18 (by decide) rfl ?_
    refine j_lv [(0, .ref (gb γ + a0)), (1, .int a1), (2, .long 0), (4, .long 0), (6, .long 0), (8, .long 0), (10, .long 0), (12, .long 0), (14, .int 0)] [7, 8, 6, 5, 4, 3, 2, 1, 0] rfl ?_
    exact s_X12_plane_20 F hr _ _ _ _ _ _ _ _ _ _ h
  exact ct_of (by decide +kernel) (Nat.le_of_ble_eq_true rfl) (fun p e s m args below meth c F hr _ => hJ p e s m args below meth c F hr)
def rm_X12_least : Room := { frames := 0, cells := 0, slots := 0, locals := 0 }
theorem dX12_least_0 : decode cX12_least 0 = .ok (.iconst 0, 1) := by decide +kernel
theorem dX12_least_1 : decode cX12_least 1 = .ok (.istore_n 1, 1) := by decide +kernel
theorem dX12_least_2 : decode cX12_least 2 = .ok (.iconst 1, 1) := by decide +kernel
theorem dX12_least_3 : decode cX12_least 3 = .ok (.istore_n 2, 1) := by decide +kernel
theorem dX12_least_4 : decode cX12_least 4 = .ok (.iload_n 2, 1) := by decide +kernel
theorem dX12_least_5 : decode cX12_least 5 = .ok (.iconst 4, 1) := by decide +kernel
theorem dX12_least_6 : decode cX12_least 6 = .ok (.if_icmp .ge 31, 3) := by decide +kernel
theorem dX12_least_9 : decode cX12_least 9 = .ok (.aload_n 0, 1) := by decide +kernel
theorem dX12_least_10 : decode cX12_least 10 = .ok (.getfield 52, 3) := by decide +kernel
theorem dX12_least_13 : decode cX12_least 13 = .ok (.iload_n 2, 1) := by decide +kernel
theorem dX12_least_14 : decode cX12_least 14 = .ok (.laload, 1) := by decide +kernel
theorem dX12_least_15 : decode cX12_least 15 = .ok (.aload_n 0, 1) := by decide +kernel
theorem dX12_least_16 : decode cX12_least 16 = .ok (.getfield 52, 3) := by decide +kernel
theorem dX12_least_19 : decode cX12_least 19 = .ok (.iload_n 1, 1) := by decide +kernel
theorem dX12_least_20 : decode cX12_least 20 = .ok (.laload, 1) := by decide +kernel
theorem dX12_least_21 : decode cX12_least 21 = .ok (.lcmp, 1) := by decide +kernel
theorem dX12_least_22 : decode cX12_least 22 = .ok (.ifCond .ge 7, 3) := by decide +kernel
theorem dX12_least_25 : decode cX12_least 25 = .ok (.iload_n 2, 1) := by decide +kernel
theorem dX12_least_26 : decode cX12_least 26 = .ok (.goto 4, 3) := by decide +kernel
theorem dX12_least_29 : decode cX12_least 29 = .ok (.iload_n 1, 1) := by decide +kernel
theorem dX12_least_30 : decode cX12_least 30 = .ok (.istore_n 1, 1) := by decide +kernel
theorem dX12_least_31 : decode cX12_least 31 = .ok (.iinc 2 1, 3) := by decide +kernel
theorem dX12_least_34 : decode cX12_least 34 = .ok (.goto (-30), 3) := by decide +kernel
theorem dX12_least_37 : decode cX12_least 37 = .ok (.iload_n 1, 1) := by decide +kernel
theorem dX12_least_38 : decode cX12_least 38 = .ok (.ireturn, 1) := by decide +kernel
def l_X12_least_4 (S : SH) (a0 : Nat) (k4 : (Int32 × Int32 × Mem) → Option (Int32 × Mem)) (x : (Int32 × Int32 × Mem)) : Option (Int32 × Mem) :=
 (if 4 ≤ x.2.1 then
 some (x.1, x.2.2)
 else
 (gR S 12 a0 16).bind fun v1 =>
 (aL S v1 x.2.1 x.2.2).bind fun v2 =>
 (gR S 12 a0 16).bind fun v3 =>
 (aL S v3 x.1 x.2.2).bind fun v4 =>
 (if v4 ≤ v2 then
 k4 (x.1, x.2.1 + 1, x.2.2)
 else
 k4 (x.2.1, x.2.1 + 1, x.2.2)))
set_option maxRecDepth 100000 in
set_option maxHeartbeats 4000000 in
theorem t_X12_least_4 {γ : GE} {p : Program} {l : Launch} {e : Env} {s : State} {m : MethodId} {args : Array Value} {below : List Frame} {meth : Method} {c : Code} {S : SH} {X : (Int32 × Mem)} (F : FX γ p s m args meth c cX12_least RX12 3) (hr : meth.sig.returnType = (some .int)) (a0 : Nat) (k4 : (Int32 × Int32 × Mem) → Option (Int32 × Mem)) (hk4 : ∀ (x4_1 : Int32) (x4_2 : Int32) (ν : Mem), k4 (x4_1, x4_2, ν) = some X → JJ γ p l e rm_X12_least s m args below meth c 3 0 0 (QI below γ S X args s 0 0) S ν 4 [(0, .ref (gb γ + a0)), (1, .int x4_1), (2, .int x4_2)] []) (x : (Int32 × Int32 × Mem)) (h : l_X12_least_4 S a0 k4 x = some X) : JJ γ p l e rm_X12_least s m args below meth c 3 0 0 (QI below γ S X args s 0 0) S x.2.2 4 [(0, .ref (gb γ + a0)), (1, .int x.1), (2, .int x.2.1)] [] := by
  unfold l_X12_least_4 at h
  refine j_iload_n F 2 dX12_least_4 rfl ?_
  refine j_iconst F 4 dX12_least_5 (by decide) ?_
  refine j_icmpge F 37 dX12_least_6 (by decide) h (fun _ h => ?_) (fun _ h => ?_)
  · refine j_iload_n F 1 dX12_least_37 rfl ?_
    exact j_iret F hr dX12_least_38 h
  · refine j_aload_n F 0 dX12_least_9 rfl ?_
    refine j_gR F fl_RX12_52 rfl dX12_least_10 h (fun v1 h => ?_)
    refine j_iload_n F 2 dX12_least_13 rfl ?_
    refine j_lald F dX12_least_14 h (fun v2 h => ?_)
    refine j_aload_n F 0 dX12_least_15 rfl ?_
    refine j_gR F fl_RX12_52 rfl dX12_least_16 h (fun v3 h => ?_)
    refine j_iload_n F 1 dX12_least_19 rfl ?_
    refine j_lald F dX12_least_20 h (fun v4 h => ?_)
    refine j_lcmpge F 29 dX12_least_21 dX12_least_22 (by decide) h (fun _ h => ?_) (fun _ h => ?_)
    · refine j_iload_n F 1 dX12_least_29 rfl ?_
      refine j_istore_n F [(1, .int x.1), (0, .ref (gb γ + a0)), (2, .int x.2.1)] dX12_least_30 rfl (by decide) rfl ?_
      refine j_iinc F 1 2 [(2, .int (x.2.1 + 1)), (1, .int x.1), (0, .ref (gb γ + a0))] dX12_least_31 rfl (by decide) (by decide) rfl ?_
      refine j_goto F 4 dX12_least_34 (by decide) ?_
      refine j_lv [(0, .ref (gb γ + a0)), (1, .int x.1), (2, .int (x.2.1 + 1))] [2, 1, 0] rfl ?_
      exact hk4 _ _ _ h
    · refine j_iload_n F 2 dX12_least_25 rfl ?_
      refine j_goto F 30 dX12_least_26 (by decide) ?_
      refine j_istore_n F [(1, .int x.2.1), (0, .ref (gb γ + a0)), (2, .int x.2.1)] dX12_least_30 rfl (by decide) rfl ?_
      refine j_iinc F 1 2 [(2, .int (x.2.1 + 1)), (1, .int x.2.1), (0, .ref (gb γ + a0))] dX12_least_31 rfl (by decide) (by decide) rfl ?_
      refine j_goto F 4 dX12_least_34 (by decide) ?_
      refine j_lv [(0, .ref (gb γ + a0)), (1, .int x.2.1), (2, .int (x.2.1 + 1))] [2, 1, 0] rfl ?_
      exact hk4 _ _ _ h
theorem s_X12_least_4 {γ : GE} {p : Program} {l : Launch} {e : Env} {s : State} {m : MethodId} {args : Array Value} {below : List Frame} {meth : Method} {c : Code} {S : SH} {X : (Int32 × Mem)} (F : FX γ p s m args meth c cX12_least RX12 3) (hr : meth.sig.returnType = (some .int)) (a0 : Nat) (x4_1 : Int32) (x4_2 : Int32) (ν : Mem) (h : lpN (l_X12_least_4 S a0) fu (x4_1, x4_2, ν) = some X) : JJ γ p l e rm_X12_least s m args below meth c 3 0 0 (QI below γ S X args s 0 0) S ν 4 [(0, .ref (gb γ + a0)), (1, .int x4_1), (2, .int x4_2)] [] :=
 lpN_sound (fun x => JJ γ p l e rm_X12_least s m args below meth c 3 0 0 (QI below γ S X args s 0 0) S x.2.2 4 [(0, .ref (gb γ + a0)), (1, .int x.1), (2, .int x.2.1)] []) (fun k4 hk4 x h => t_X12_least_4 F hr a0 k4 (fun x4_1 x4_2 ν h => hk4 (x4_1, x4_2, ν) h) x h) fu (x4_1, x4_2, ν) h
def f_X12_least (S : SH) (a0 : Nat) (μ : Mem) : Option (Int32 × Mem) :=
  if isO S 12 a0 = true then
  lpN (l_X12_least_4 S  a0) fu (0, 1, μ)
  else none
set_option maxRecDepth 100000 in
set_option maxHeartbeats 4000000 in
theorem c_X12_least {l : Launch} {γ : GE} {S : SH} {a0 : Nat} {μ : Mem} {X : (Int32 × Mem)} (h : f_X12_least S a0 μ = some X) : isO S 12 a0 = true ∧ Ct l γ yX12_least cX12_least 3 (some .int) rm_X12_least [.ref (gb γ + a0)] S μ S X.2 (some (.int X.1)) := by
  unfold f_X12_least at h
  obtain ⟨h0, h⟩ := if_some h
  refine ⟨h0, ?_⟩
  have hJ : ∀ (p : Program) (e : Env) (s : State) (m : MethodId) (args : Array Value) (below : List Frame) (meth : Method) (c : Code), FX γ p s m args meth c cX12_least RX12 3 → meth.sig.returnType = (some .int) → JJ γ p l e rm_X12_least s m args below meth c 3 0 0 (QI below γ S X args s 0 0) S μ 0 [(0, .ref (gb γ + a0))] [] := by
    intro p e s m args below meth c F hr
    refine j_iconst F 0 dX12_least_0 (by decide) ?_
    refine j_istore_n F [(1, .int 0), (0, .ref (gb γ + a0))] dX12_least_1 rfl (by decide) rfl ?_
    refine j_iconst F 1 dX12_least_2 (by decide) ?_
    refine j_istore_n F [(2, .int 1), (1, .int 0), (0, .ref (gb γ + a0))] dX12_least_3 rfl (by decide) rfl ?_
    refine j_lv [(0, .ref (gb γ + a0)), (1, .int 0), (2, .int 1)] [2, 1, 0] rfl ?_
    exact s_X12_least_4 F hr _ _ _ _ h
  exact ct_of (by decide +kernel) (Nat.le_of_ble_eq_true rfl) (fun p e s m args below meth c F hr _ => hJ p e s m args below meth c F hr)
def rm_X12_pushes : Room := { frames := 5, cells := 0, slots := 0, locals := 103 }
theorem dX12_pushes_0 : decode cX12_pushes 0 = .ok (.aload_n 0, 1) := by decide +kernel
theorem dX12_pushes_1 : decode cX12_pushes 1 = .ok (.invokevirtual 193, 3) := by decide +kernel
theorem dX12_pushes_4 : decode cX12_pushes 4 = .ok (.aload_n 0, 1) := by decide +kernel
theorem dX12_pushes_5 : decode cX12_pushes 5 = .ok (.bipush (-5), 2) := by decide +kernel
theorem dX12_pushes_7 : decode cX12_pushes 7 = .ok (.putfield 218, 3) := by decide +kernel
theorem dX12_pushes_10 : decode cX12_pushes 10 = .ok (.aload_n 0, 1) := by decide +kernel
theorem dX12_pushes_11 : decode cX12_pushes 11 = .ok (.invokevirtual 110, 3) := by decide +kernel
theorem dX12_pushes_14 : decode cX12_pushes 14 = .ok (.ifCond .ne 5, 3) := by decide +kernel
theorem dX12_pushes_17 : decode cX12_pushes 17 = .ok (.iconst 1, 1) := by decide +kernel
theorem dX12_pushes_18 : decode cX12_pushes 18 = .ok (.ireturn, 1) := by decide +kernel
theorem dX12_pushes_19 : decode cX12_pushes 19 = .ok (.aload_n 0, 1) := by decide +kernel
theorem dX12_pushes_20 : decode cX12_pushes 20 = .ok (.invokevirtual 221, 3) := by decide +kernel
theorem dX12_pushes_23 : decode cX12_pushes 23 = .ok (.ifCond .ne 13, 3) := by decide +kernel
theorem dX12_pushes_26 : decode cX12_pushes 26 = .ok (.aload_n 0, 1) := by decide +kernel
theorem dX12_pushes_27 : decode cX12_pushes 27 = .ok (.iconst 0, 1) := by decide +kernel
theorem dX12_pushes_28 : decode cX12_pushes 28 = .ok (.invokevirtual 196, 3) := by decide +kernel
theorem dX12_pushes_31 : decode cX12_pushes 31 = .ok (.lconst 0, 1) := by decide +kernel
theorem dX12_pushes_32 : decode cX12_pushes 32 = .ok (.lcmp, 1) := by decide +kernel
theorem dX12_pushes_33 : decode cX12_pushes 33 = .ok (.ifCond .ne 5, 3) := by decide +kernel
theorem dX12_pushes_36 : decode cX12_pushes 36 = .ok (.iconst 2, 1) := by decide +kernel
theorem dX12_pushes_37 : decode cX12_pushes 37 = .ok (.ireturn, 1) := by decide +kernel
theorem dX12_pushes_38 : decode cX12_pushes 38 = .ok (.aload_n 0, 1) := by decide +kernel
theorem dX12_pushes_39 : decode cX12_pushes 39 = .ok (.iconst (-1), 1) := by decide +kernel
theorem dX12_pushes_40 : decode cX12_pushes 40 = .ok (.invokevirtual 224, 3) := by decide +kernel
theorem dX12_pushes_43 : decode cX12_pushes 43 = .ok (.aload_n 0, 1) := by decide +kernel
theorem dX12_pushes_44 : decode cX12_pushes 44 = .ok (.getfield 52, 3) := by decide +kernel
theorem dX12_pushes_47 : decode cX12_pushes 47 = .ok (.aload_n 0, 1) := by decide +kernel
theorem dX12_pushes_48 : decode cX12_pushes 48 = .ok (.invokevirtual 228, 3) := by decide +kernel
theorem dX12_pushes_51 : decode cX12_pushes 51 = .ok (.laload, 1) := by decide +kernel
theorem dX12_pushes_52 : decode cX12_pushes 52 = .ok (.lconst 0, 1) := by decide +kernel
theorem dX12_pushes_53 : decode cX12_pushes 53 = .ok (.lcmp, 1) := by decide +kernel
theorem dX12_pushes_54 : decode cX12_pushes 54 = .ok (.ifCond .ge 35, 3) := by decide +kernel
theorem dX12_pushes_57 : decode cX12_pushes 57 = .ok (.aload_n 0, 1) := by decide +kernel
theorem dX12_pushes_58 : decode cX12_pushes 58 = .ok (.aload_n 0, 1) := by decide +kernel
theorem dX12_pushes_59 : decode cX12_pushes 59 = .ok (.invokevirtual 228, 3) := by decide +kernel
theorem dX12_pushes_62 : decode cX12_pushes 62 = .ok (.putfield 218, 3) := by decide +kernel
theorem dX12_pushes_65 : decode cX12_pushes 65 = .ok (.aload_n 0, 1) := by decide +kernel
theorem dX12_pushes_66 : decode cX12_pushes 66 = .ok (.aload_n 0, 1) := by decide +kernel
theorem dX12_pushes_67 : decode cX12_pushes 67 = .ok (.getfield 218, 3) := by decide +kernel
theorem dX12_pushes_70 : decode cX12_pushes 70 = .ok (.invokevirtual 224, 3) := by decide +kernel
theorem dX12_pushes_73 : decode cX12_pushes 73 = .ok (.aload_n 0, 1) := by decide +kernel
theorem dX12_pushes_74 : decode cX12_pushes 74 = .ok (.getfield 52, 3) := by decide +kernel
theorem dX12_pushes_77 : decode cX12_pushes 77 = .ok (.aload_n 0, 1) := by decide +kernel
theorem dX12_pushes_78 : decode cX12_pushes 78 = .ok (.invokevirtual 228, 3) := by decide +kernel
theorem dX12_pushes_81 : decode cX12_pushes 81 = .ok (.laload, 1) := by decide +kernel
theorem dX12_pushes_82 : decode cX12_pushes 82 = .ok (.lconst 0, 1) := by decide +kernel
theorem dX12_pushes_83 : decode cX12_pushes 83 = .ok (.lcmp, 1) := by decide +kernel
theorem dX12_pushes_84 : decode cX12_pushes 84 = .ok (.ifCond .ge 5, 3) := by decide +kernel
theorem dX12_pushes_87 : decode cX12_pushes 87 = .ok (.iconst 3, 1) := by decide +kernel
theorem dX12_pushes_88 : decode cX12_pushes 88 = .ok (.ireturn, 1) := by decide +kernel
theorem dX12_pushes_89 : decode cX12_pushes 89 = .ok (.iconst 0, 1) := by decide +kernel
theorem dX12_pushes_90 : decode cX12_pushes 90 = .ok (.ireturn, 1) := by decide +kernel
def f_X12_pushes (S : SH) (a0 : Nat) (μ : Mem) : Option (Int32 × Mem) :=
  if isO S 12 a0 = true then
  (f_X12_looks S a0 μ).bind fun q1 =>
  (pI S 12 a0 18 (-5) q1.2).bind fun ν2 =>
  (f_X12_stands S a0 ν2).bind fun q3 =>
  (if q3.1 = 0 then
  some (1, q3.2)
  else
  (f_X12_tips S a0 q3.2).bind fun q4 =>
  (if q4.1 = 0 then
  (f_X12_sum S a0 0 q4.2).bind fun q5 =>
  (if q5.1 = 0 then
  some (2, q5.2)
  else
  (f_X12_plane S a0 (-1) q5.2).bind fun q6 =>
  (gR S 12 a0 16).bind fun v7 =>
  (f_X12_least S a0 q6.2).bind fun q8 =>
  (aL S v7 q8.1 q8.2).bind fun v9 =>
  (if 0 ≤ v9 then
  some (0, q8.2)
  else
  (f_X12_least S a0 q8.2).bind fun q10 =>
  (pI S 12 a0 18 q10.1 q10.2).bind fun ν11 =>
  (gI S 12 a0 18 ν11).bind fun v12 =>
  (f_X12_plane S a0 v12 ν11).bind fun q13 =>
  (gR S 12 a0 16).bind fun v14 =>
  (f_X12_least S a0 q13.2).bind fun q15 =>
  (aL S v14 q15.1 q15.2).bind fun v16 =>
  (if 0 ≤ v16 then
  some (0, q15.2)
  else
  some (3, q15.2))))
  else
  some (2, q4.2)))
  else none
set_option maxRecDepth 100000 in
set_option maxHeartbeats 4000000 in
theorem c_X12_pushes {l : Launch} {γ : GE} {S : SH} {a0 : Nat} {μ : Mem} {X : (Int32 × Mem)} (h : f_X12_pushes S a0 μ = some X) : isO S 12 a0 = true ∧ Ct l γ yX12_pushes cX12_pushes 1 (some .int) rm_X12_pushes [.ref (gb γ + a0)] S μ S X.2 (some (.int X.1)) := by
  unfold f_X12_pushes at h
  obtain ⟨h0, h⟩ := if_some h
  refine ⟨h0, ?_⟩
  have hJ : ∀ (p : Program) (e : Env) (s : State) (m : MethodId) (args : Array Value) (below : List Frame) (meth : Method) (c : Code), FX γ p s m args meth c cX12_pushes RX12 1 → meth.sig.returnType = (some .int) → JJ γ p l e rm_X12_pushes s m args below meth c 1 0 0 (QI below γ S X args s 0 0) S μ 0 [(0, .ref (gb γ + a0))] [] := by
    intro p e s m args below meth c F hr
    refine j_aload_n F 0 dX12_pushes_0 rfl ?_
    refine j_cVV F mi_X12_looks w_1203 (rest := []) h (fun _ g => c_X12_looks g) rfl rfl (Nat.le_of_ble_eq_true rfl) ⟨Nat.le_of_ble_eq_true rfl, Nat.le_of_ble_eq_true rfl⟩ ⟨Nat.le_of_ble_eq_true rfl, Nat.le_of_ble_eq_true rfl⟩ dX12_pushes_1 (fun q1 h => ?_)
    refine j_aload_n F 0 dX12_pushes_4 rfl ?_
    refine j_bipush F (-5) dX12_pushes_5 (by decide) ?_
    refine j_pI F fl_RX12_218 rfl dX12_pushes_7 h (fun ν2 h => ?_)
    refine j_aload_n F 0 dX12_pushes_10 rfl ?_
    refine j_cVI F mi_X12_stands w_1107 (rest := []) h (fun _ g => c_X12_stands g) rfl rfl (Nat.le_of_ble_eq_true rfl) ⟨Nat.le_of_ble_eq_true rfl, Nat.le_of_ble_eq_true rfl⟩ ⟨Nat.le_of_ble_eq_true rfl, Nat.le_of_ble_eq_true rfl⟩ dX12_pushes_11 (fun q3 h => ?_)
    refine j_ifne F 19 dX12_pushes_14 (by decide) h (fun _ h => ?_) (fun _ h => ?_)
    · refine j_aload_n F 0 dX12_pushes_19 rfl ?_
      refine j_cVI F mi_X12_tips w_1265 (rest := []) h (fun _ g => c_X12_tips g) rfl rfl (Nat.le_of_ble_eq_true rfl) ⟨Nat.le_of_ble_eq_true rfl, Nat.le_of_ble_eq_true rfl⟩ ⟨Nat.le_of_ble_eq_true rfl, Nat.le_of_ble_eq_true rfl⟩ dX12_pushes_20 (fun q4 h => ?_)
      refine j_ifne F 36 dX12_pushes_23 (by decide) h (fun _ h => ?_) (fun _ h => ?_)
      · refine j_iconst F 2 dX12_pushes_36 (by decide) ?_
        exact j_iret F hr dX12_pushes_37 h
      · refine j_aload_n F 0 dX12_pushes_26 rfl ?_
        refine j_iconst F 0 dX12_pushes_27 (by decide) ?_
        refine j_cVJ F mi_X12_sum w_1223 (rest := []) h (fun _ g => c_X12_sum g) rfl rfl (Nat.le_of_ble_eq_true rfl) ⟨Nat.le_of_ble_eq_true rfl, Nat.le_of_ble_eq_true rfl⟩ ⟨Nat.le_of_ble_eq_true rfl, Nat.le_of_ble_eq_true rfl⟩ dX12_pushes_28 (fun q5 h => ?_)
        refine j_lconst F 0 dX12_pushes_31 (by decide) ?_
        refine j_lcmpne F 38 dX12_pushes_32 dX12_pushes_33 (by decide) h (fun _ h => ?_) (fun _ h => ?_)
        · refine j_aload_n F 0 dX12_pushes_38 rfl ?_
          refine j_iconst F (-1) dX12_pushes_39 (by decide) ?_
          refine j_cVV F mi_X12_plane w_1269 (rest := []) h (fun _ g => c_X12_plane g) rfl rfl (Nat.le_of_ble_eq_true rfl) ⟨Nat.le_of_ble_eq_true rfl, Nat.le_of_ble_eq_true rfl⟩ ⟨Nat.le_of_ble_eq_true rfl, Nat.le_of_ble_eq_true rfl⟩ dX12_pushes_40 (fun q6 h => ?_)
          refine j_aload_n F 0 dX12_pushes_43 rfl ?_
          refine j_gR F fl_RX12_52 rfl dX12_pushes_44 h (fun v7 h => ?_)
          refine j_aload_n F 0 dX12_pushes_47 rfl ?_
          refine j_cVI F mi_X12_least w_1276 (rest := [.ref (gb γ + v7)]) h (fun _ g => c_X12_least g) rfl rfl (Nat.le_of_ble_eq_true rfl) ⟨Nat.le_of_ble_eq_true rfl, Nat.le_of_ble_eq_true rfl⟩ ⟨Nat.le_of_ble_eq_true rfl, Nat.le_of_ble_eq_true rfl⟩ dX12_pushes_48 (fun q8 h => ?_)
          refine j_lald F dX12_pushes_51 h (fun v9 h => ?_)
          refine j_lconst F 0 dX12_pushes_52 (by decide) ?_
          refine j_lcmpge F 89 dX12_pushes_53 dX12_pushes_54 (by decide) h (fun _ h => ?_) (fun _ h => ?_)
          · refine j_iconst F 0 dX12_pushes_89 (by decide) ?_
            exact j_iret F hr dX12_pushes_90 h
          · refine j_aload_n F 0 dX12_pushes_57 rfl ?_
            refine j_aload_n F 0 dX12_pushes_58 rfl ?_
            refine j_cVI F mi_X12_least w_1276 (rest := [.ref (gb γ + a0)]) h (fun _ g => c_X12_least g) rfl rfl (Nat.le_of_ble_eq_true rfl) ⟨Nat.le_of_ble_eq_true rfl, Nat.le_of_ble_eq_true rfl⟩ ⟨Nat.le_of_ble_eq_true rfl, Nat.le_of_ble_eq_true rfl⟩ dX12_pushes_59 (fun q10 h => ?_)
            refine j_pI F fl_RX12_218 rfl dX12_pushes_62 h (fun ν11 h => ?_)
            refine j_aload_n F 0 dX12_pushes_65 rfl ?_
            refine j_aload_n F 0 dX12_pushes_66 rfl ?_
            refine j_gI F fl_RX12_218.l rfl dX12_pushes_67 h (fun v12 h => ?_)
            refine j_cVV F mi_X12_plane w_1269 (rest := []) h (fun _ g => c_X12_plane g) rfl rfl (Nat.le_of_ble_eq_true rfl) ⟨Nat.le_of_ble_eq_true rfl, Nat.le_of_ble_eq_true rfl⟩ ⟨Nat.le_of_ble_eq_true rfl, Nat.le_of_ble_eq_true rfl⟩ dX12_pushes_70 (fun q13 h => ?_)
            refine j_aload_n F 0 dX12_pushes_73 rfl ?_
            refine j_gR F fl_RX12_52 rfl dX12_pushes_74 h (fun v14 h => ?_)
            refine j_aload_n F 0 dX12_pushes_77 rfl ?_
            refine j_cVI F mi_X12_least w_1276 (rest := [.ref (gb γ + v14)]) h (fun _ g => c_X12_least g) rfl rfl (Nat.le_of_ble_eq_true rfl) ⟨Nat.le_of_ble_eq_true rfl, Nat.le_of_ble_eq_true rfl⟩ ⟨Nat.le_of_ble_eq_true rfl, Nat.le_of_ble_eq_true rfl⟩ dX12_pushes_78 (fun q15 h => ?_)
            refine j_lald F dX12_pushes_81 h (fun v16 h => ?_)
            refine j_lconst F 0 dX12_pushes_82 (by decide) ?_
            refine j_lcmpge F 89 dX12_pushes_83 dX12_pushes_84 (by decide) h (fun _ h => ?_) (fun _ h => ?_)
            · refine j_iconst F 0 dX12_pushes_89 (by decide) ?_
              exact j_iret F hr dX12_pushes_90 h
            · refine j_iconst F 3 dX12_pushes_87 (by decide) ?_
              exact j_iret F hr dX12_pushes_88 h
        · refine j_iconst F 2 dX12_pushes_36 (by decide) ?_
          exact j_iret F hr dX12_pushes_37 h
    · refine j_iconst F 1 dX12_pushes_17 (by decide) ?_
      exact j_iret F hr dX12_pushes_18 h
  exact ct_of (by decide +kernel) (Nat.le_of_ble_eq_true rfl) (fun p e s m args below meth c F hr _ => hJ p e s m args below meth c F hr)
def rm_X12_isAboveLimit : Room := { frames := 0, cells := 0, slots := 0, locals := 0 }
theorem dX12_isAboveLimit_0 : decode cX12_isAboveLimit 0 = .ok (.iconst 0, 1) := by decide +kernel
theorem dX12_isAboveLimit_1 : decode cX12_isAboveLimit 1 = .ok (.istore_n 1, 1) := by decide +kernel
theorem dX12_isAboveLimit_2 : decode cX12_isAboveLimit 2 = .ok (.iload_n 1, 1) := by decide +kernel
theorem dX12_isAboveLimit_3 : decode cX12_isAboveLimit 3 = .ok (.iconst 4, 1) := by decide +kernel
theorem dX12_isAboveLimit_4 : decode cX12_isAboveLimit 4 = .ok (.if_icmp .ge 37, 3) := by decide +kernel
theorem dX12_isAboveLimit_7 : decode cX12_isAboveLimit 7 = .ok (.aload_n 0, 1) := by decide +kernel
theorem dX12_isAboveLimit_8 : decode cX12_isAboveLimit 8 = .ok (.getfield 52, 3) := by decide +kernel
theorem dX12_isAboveLimit_11 : decode cX12_isAboveLimit 11 = .ok (.iload_n 1, 1) := by decide +kernel
theorem dX12_isAboveLimit_12 : decode cX12_isAboveLimit 12 = .ok (.laload, 1) := by decide +kernel
theorem dX12_isAboveLimit_13 : decode cX12_isAboveLimit 13 = .ok (.aload_n 0, 1) := by decide +kernel
theorem dX12_isAboveLimit_14 : decode cX12_isAboveLimit 14 = .ok (.getfield 9, 3) := by decide +kernel
theorem dX12_isAboveLimit_17 : decode cX12_isAboveLimit 17 = .ok (.iconst 3, 1) := by decide +kernel
theorem dX12_isAboveLimit_18 : decode cX12_isAboveLimit 18 = .ok (.iload_n 1, 1) := by decide +kernel
theorem dX12_isAboveLimit_19 : decode cX12_isAboveLimit 19 = .ok (.imul, 1) := by decide +kernel
theorem dX12_isAboveLimit_20 : decode cX12_isAboveLimit 20 = .ok (.iconst 2, 1) := by decide +kernel
theorem dX12_isAboveLimit_21 : decode cX12_isAboveLimit 21 = .ok (.iadd, 1) := by decide +kernel
theorem dX12_isAboveLimit_22 : decode cX12_isAboveLimit 22 = .ok (.iaload, 1) := by decide +kernel
theorem dX12_isAboveLimit_23 : decode cX12_isAboveLimit 23 = .ok (.i2l, 1) := by decide +kernel
theorem dX12_isAboveLimit_24 : decode cX12_isAboveLimit 24 = .ok (.aload_n 0, 1) := by decide +kernel
theorem dX12_isAboveLimit_25 : decode cX12_isAboveLimit 25 = .ok (.getfield 214, 3) := by decide +kernel
theorem dX12_isAboveLimit_28 : decode cX12_isAboveLimit 28 = .ok (.lmul, 1) := by decide +kernel
theorem dX12_isAboveLimit_29 : decode cX12_isAboveLimit 29 = .ok (.lcmp, 1) := by decide +kernel
theorem dX12_isAboveLimit_30 : decode cX12_isAboveLimit 30 = .ok (.ifCond .le 5, 3) := by decide +kernel
theorem dX12_isAboveLimit_33 : decode cX12_isAboveLimit 33 = .ok (.iconst 1, 1) := by decide +kernel
theorem dX12_isAboveLimit_34 : decode cX12_isAboveLimit 34 = .ok (.ireturn, 1) := by decide +kernel
theorem dX12_isAboveLimit_35 : decode cX12_isAboveLimit 35 = .ok (.iinc 1 1, 3) := by decide +kernel
theorem dX12_isAboveLimit_38 : decode cX12_isAboveLimit 38 = .ok (.goto (-36), 3) := by decide +kernel
theorem dX12_isAboveLimit_41 : decode cX12_isAboveLimit 41 = .ok (.iconst 0, 1) := by decide +kernel
theorem dX12_isAboveLimit_42 : decode cX12_isAboveLimit 42 = .ok (.ireturn, 1) := by decide +kernel
def l_X12_isAboveLimit_2 (S : SH) (a0 : Nat) (k2 : (Int32 × Mem) → Option (Int32 × Mem)) (x : (Int32 × Mem)) : Option (Int32 × Mem) :=
 (if 4 ≤ x.1 then
 some (0, x.2)
 else
 (gR S 12 a0 16).bind fun v1 =>
 (aL S v1 x.1 x.2).bind fun v2 =>
 (gR S 12 a0 0).bind fun v3 =>
 (aI S .int v3 ((3 * x.1) + 2) x.2).bind fun v4 =>
 (gL S 12 a0 17 x.2).bind fun v5 =>
 (if v2 ≤ (v4.toInt64 * v5) then
 k2 (x.1 + 1, x.2)
 else
 some (1, x.2)))
set_option maxRecDepth 100000 in
set_option maxHeartbeats 4000000 in
theorem t_X12_isAboveLimit_2 {γ : GE} {p : Program} {l : Launch} {e : Env} {s : State} {m : MethodId} {args : Array Value} {below : List Frame} {meth : Method} {c : Code} {S : SH} {X : (Int32 × Mem)} (F : FX γ p s m args meth c cX12_isAboveLimit RX12 2) (hr : meth.sig.returnType = (some .boolean)) (a0 : Nat) (k2 : (Int32 × Mem) → Option (Int32 × Mem)) (hk2 : ∀ (x2_1 : Int32) (ν : Mem), k2 (x2_1, ν) = some X → JJ γ p l e rm_X12_isAboveLimit s m args below meth c 2 0 0 (QI below γ S X args s 0 0) S ν 2 [(0, .ref (gb γ + a0)), (1, .int x2_1)] []) (x : (Int32 × Mem)) (h : l_X12_isAboveLimit_2 S a0 k2 x = some X) : JJ γ p l e rm_X12_isAboveLimit s m args below meth c 2 0 0 (QI below γ S X args s 0 0) S x.2 2 [(0, .ref (gb γ + a0)), (1, .int x.1)] [] := by
  unfold l_X12_isAboveLimit_2 at h
  refine j_iload_n F 1 dX12_isAboveLimit_2 rfl ?_
  refine j_iconst F 4 dX12_isAboveLimit_3 (by decide) ?_
  refine j_icmpge F 41 dX12_isAboveLimit_4 (by decide) h (fun _ h => ?_) (fun _ h => ?_)
  · refine j_iconst F 0 dX12_isAboveLimit_41 (by decide) ?_
    exact j_zret F hr (Or.inl rfl) dX12_isAboveLimit_42 h
  · refine j_aload_n F 0 dX12_isAboveLimit_7 rfl ?_
    refine j_gR F fl_RX12_52 rfl dX12_isAboveLimit_8 h (fun v1 h => ?_)
    refine j_iload_n F 1 dX12_isAboveLimit_11 rfl ?_
    refine j_lald F dX12_isAboveLimit_12 h (fun v2 h => ?_)
    refine j_aload_n F 0 dX12_isAboveLimit_13 rfl ?_
    refine j_gR F fl_RX12_9 rfl dX12_isAboveLimit_14 h (fun v3 h => ?_)
    refine j_iconst F 3 dX12_isAboveLimit_17 (by decide) ?_
    refine j_iload_n F 1 dX12_isAboveLimit_18 rfl ?_
    refine j_imul F dX12_isAboveLimit_19 ?_
    refine j_iconst F 2 dX12_isAboveLimit_20 (by decide) ?_
    refine j_iadd F dX12_isAboveLimit_21 ?_
    refine j_iald F dX12_isAboveLimit_22 h (fun v4 h => ?_)
    refine j_i2l F dX12_isAboveLimit_23 ?_
    refine j_aload_n F 0 dX12_isAboveLimit_24 rfl ?_
    refine j_gL F fl_RX12_214.l rfl dX12_isAboveLimit_25 h (fun v5 h => ?_)
    refine j_lmul F dX12_isAboveLimit_28 ?_
    refine j_lcmple F 35 dX12_isAboveLimit_29 dX12_isAboveLimit_30 (by decide) h (fun _ h => ?_) (fun _ h => ?_)
    · refine j_iinc F 1 1 [(1, .int (x.1 + 1)), (0, .ref (gb γ + a0))] dX12_isAboveLimit_35 rfl (by decide) (by decide) rfl ?_
      refine j_goto F 2 dX12_isAboveLimit_38 (by decide) ?_
      refine j_lv [(0, .ref (gb γ + a0)), (1, .int (x.1 + 1))] [1, 0] rfl ?_
      exact hk2 _ _ h
    · refine j_iconst F 1 dX12_isAboveLimit_33 (by decide) ?_
      exact j_zret F hr (Or.inr rfl) dX12_isAboveLimit_34 h
theorem s_X12_isAboveLimit_2 {γ : GE} {p : Program} {l : Launch} {e : Env} {s : State} {m : MethodId} {args : Array Value} {below : List Frame} {meth : Method} {c : Code} {S : SH} {X : (Int32 × Mem)} (F : FX γ p s m args meth c cX12_isAboveLimit RX12 2) (hr : meth.sig.returnType = (some .boolean)) (a0 : Nat) (x2_1 : Int32) (ν : Mem) (h : lpN (l_X12_isAboveLimit_2 S a0) fu (x2_1, ν) = some X) : JJ γ p l e rm_X12_isAboveLimit s m args below meth c 2 0 0 (QI below γ S X args s 0 0) S ν 2 [(0, .ref (gb γ + a0)), (1, .int x2_1)] [] :=
 lpN_sound (fun x => JJ γ p l e rm_X12_isAboveLimit s m args below meth c 2 0 0 (QI below γ S X args s 0 0) S x.2 2 [(0, .ref (gb γ + a0)), (1, .int x.1)] []) (fun k2 hk2 x h => t_X12_isAboveLimit_2 F hr a0 k2 (fun x2_1 ν h => hk2 (x2_1, ν) h) x h) fu (x2_1, ν) h
def f_X12_isAboveLimit (S : SH) (a0 : Nat) (μ : Mem) : Option (Int32 × Mem) :=
  if isO S 12 a0 = true then
  lpN (l_X12_isAboveLimit_2 S  a0) fu (0, μ)
  else none
set_option maxRecDepth 100000 in
set_option maxHeartbeats 4000000 in
theorem c_X12_isAboveLimit {l : Launch} {γ : GE} {S : SH} {a0 : Nat} {μ : Mem} {X : (Int32 × Mem)} (h : f_X12_isAboveLimit S a0 μ = some X) : isO S 12 a0 = true ∧ Ct l γ yX12_isAboveLimit cX12_isAboveLimit 2 (some .boolean) rm_X12_isAboveLimit [.ref (gb γ + a0)] S μ S X.2 (some (.int X.1)) := by
  unfold f_X12_isAboveLimit at h
  obtain ⟨h0, h⟩ := if_some h
  refine ⟨h0, ?_⟩
  have hJ : ∀ (p : Program) (e : Env) (s : State) (m : MethodId) (args : Array Value) (below : List Frame) (meth : Method) (c : Code), FX γ p s m args meth c cX12_isAboveLimit RX12 2 → meth.sig.returnType = (some .boolean) → JJ γ p l e rm_X12_isAboveLimit s m args below meth c 2 0 0 (QI below γ S X args s 0 0) S μ 0 [(0, .ref (gb γ + a0))] [] := by
    intro p e s m args below meth c F hr
    refine j_iconst F 0 dX12_isAboveLimit_0 (by decide) ?_
    refine j_istore_n F [(1, .int 0), (0, .ref (gb γ + a0))] dX12_isAboveLimit_1 rfl (by decide) rfl ?_
    refine j_lv [(0, .ref (gb γ + a0)), (1, .int 0)] [1, 0] rfl ?_
    exact s_X12_isAboveLimit_2 F hr _ _ _ h
  exact ct_of (by decide +kernel) (Nat.le_of_ble_eq_true rfl) (fun p e s m args below meth c F hr _ => hJ p e s m args below meth c F hr)
def rm_X12_spareNow : Room := { frames := 3, cells := 0, slots := 0, locals := 70 }
theorem dX12_spareNow_0 : decode cX12_spareNow 0 = .ok (.aload_n 0, 1) := by decide +kernel
theorem dX12_spareNow_1 : decode cX12_spareNow 1 = .ok (.aload_n 0, 1) := by decide +kernel
theorem dX12_spareNow_2 : decode cX12_spareNow 2 = .ok (.getfield 36, 3) := by decide +kernel
theorem dX12_spareNow_5 : decode cX12_spareNow 5 = .ok (.iconst 0, 1) := by decide +kernel
theorem dX12_spareNow_6 : decode cX12_spareNow 6 = .ok (.iaload, 1) := by decide +kernel
theorem dX12_spareNow_7 : decode cX12_spareNow 7 = .ok (.aload_n 0, 1) := by decide +kernel
theorem dX12_spareNow_8 : decode cX12_spareNow 8 = .ok (.getfield 36, 3) := by decide +kernel
theorem dX12_spareNow_11 : decode cX12_spareNow 11 = .ok (.iconst 1, 1) := by decide +kernel
theorem dX12_spareNow_12 : decode cX12_spareNow 12 = .ok (.iaload, 1) := by decide +kernel
theorem dX12_spareNow_13 : decode cX12_spareNow 13 = .ok (.invokevirtual 165, 3) := by decide +kernel
theorem dX12_spareNow_16 : decode cX12_spareNow 16 = .ok (.aload_n 0, 1) := by decide +kernel
theorem dX12_spareNow_17 : decode cX12_spareNow 17 = .ok (.getfield 36, 3) := by decide +kernel
theorem dX12_spareNow_20 : decode cX12_spareNow 20 = .ok (.iconst 3, 1) := by decide +kernel
theorem dX12_spareNow_21 : decode cX12_spareNow 21 = .ok (.iaload, 1) := by decide +kernel
theorem dX12_spareNow_22 : decode cX12_spareNow 22 = .ok (.isub, 1) := by decide +kernel
theorem dX12_spareNow_23 : decode cX12_spareNow 23 = .ok (.aload_n 0, 1) := by decide +kernel
theorem dX12_spareNow_24 : decode cX12_spareNow 24 = .ok (.getfield 36, 3) := by decide +kernel
theorem dX12_spareNow_27 : decode cX12_spareNow 27 = .ok (.iconst 2, 1) := by decide +kernel
theorem dX12_spareNow_28 : decode cX12_spareNow 28 = .ok (.iaload, 1) := by decide +kernel
theorem dX12_spareNow_29 : decode cX12_spareNow 29 = .ok (.isub, 1) := by decide +kernel
theorem dX12_spareNow_30 : decode cX12_spareNow 30 = .ok (.ireturn, 1) := by decide +kernel
def f_X12_spareNow (S : SH) (a0 : Nat) (μ : Mem) : Option (Int32 × Mem) :=
  if isO S 12 a0 = true then
  (gR S 12 a0 9).bind fun v1 =>
  (aI S .int v1 0 μ).bind fun v2 =>
  (gR S 12 a0 9).bind fun v3 =>
  (aI S .int v3 1 μ).bind fun v4 =>
  (f_X12_allowedAt S a0 v2 v4 μ).bind fun q5 =>
  (gR S 12 a0 9).bind fun v6 =>
  (aI S .int v6 3 q5.2).bind fun v7 =>
  (gR S 12 a0 9).bind fun v8 =>
  (aI S .int v8 2 q5.2).bind fun v9 =>
  some ((q5.1 - v7) - v9, q5.2)
  else none
set_option maxRecDepth 100000 in
set_option maxHeartbeats 4000000 in
theorem c_X12_spareNow {l : Launch} {γ : GE} {S : SH} {a0 : Nat} {μ : Mem} {X : (Int32 × Mem)} (h : f_X12_spareNow S a0 μ = some X) : isO S 12 a0 = true ∧ Ct l γ yX12_spareNow cX12_spareNow 1 (some .int) rm_X12_spareNow [.ref (gb γ + a0)] S μ S X.2 (some (.int X.1)) := by
  unfold f_X12_spareNow at h
  obtain ⟨h0, h⟩ := if_some h
  refine ⟨h0, ?_⟩
  have hJ : ∀ (p : Program) (e : Env) (s : State) (m : MethodId) (args : Array Value) (below : List Frame) (meth : Method) (c : Code), FX γ p s m args meth c cX12_spareNow RX12 1 → meth.sig.returnType = (some .int) → JJ γ p l e rm_X12_spareNow s m args below meth c 1 0 0 (QI below γ S X args s 0 0) S μ 0 [(0, .ref (gb γ + a0))] [] := by
    intro p e s m args below meth c F hr
    refine j_aload_n F 0 dX12_spareNow_0 rfl ?_
    refine j_aload_n F 0 dX12_spareNow_1 rfl ?_
    refine j_gR F fl_RX12_36 rfl dX12_spareNow_2 h (fun v1 h => ?_)
    refine j_iconst F 0 dX12_spareNow_5 (by decide) ?_
    refine j_iald F dX12_spareNow_6 h (fun v2 h => ?_)
    refine j_aload_n F 0 dX12_spareNow_7 rfl ?_
    refine j_gR F fl_RX12_36 rfl dX12_spareNow_8 h (fun v3 h => ?_)
    refine j_iconst F 1 dX12_spareNow_11 (by decide) ?_
    refine j_iald F dX12_spareNow_12 h (fun v4 h => ?_)
    refine j_cVI F mi_X12_allowedAt w_1194 (rest := []) h (fun _ g => c_X12_allowedAt g) rfl rfl (Nat.le_of_ble_eq_true rfl) ⟨Nat.le_of_ble_eq_true rfl, Nat.le_of_ble_eq_true rfl⟩ ⟨Nat.le_of_ble_eq_true rfl, Nat.le_of_ble_eq_true rfl⟩ dX12_spareNow_13 (fun q5 h => ?_)
    refine j_aload_n F 0 dX12_spareNow_16 rfl ?_
    refine j_gR F fl_RX12_36 rfl dX12_spareNow_17 h (fun v6 h => ?_)
    refine j_iconst F 3 dX12_spareNow_20 (by decide) ?_
    refine j_iald F dX12_spareNow_21 h (fun v7 h => ?_)
    refine j_isub F dX12_spareNow_22 ?_
    refine j_aload_n F 0 dX12_spareNow_23 rfl ?_
    refine j_gR F fl_RX12_36 rfl dX12_spareNow_24 h (fun v8 h => ?_)
    refine j_iconst F 2 dX12_spareNow_27 (by decide) ?_
    refine j_iald F dX12_spareNow_28 h (fun v9 h => ?_)
    refine j_isub F dX12_spareNow_29 ?_
    exact j_iret F hr dX12_spareNow_30 h
  exact ct_of (by decide +kernel) (Nat.le_of_ble_eq_true rfl) (fun p e s m args below meth c F hr _ => hJ p e s m args below meth c F hr)
def rm_X12_whyNow : Room := { frames := 6, cells := 0, slots := 0, locals := 123 }
theorem dX12_whyNow_0 : decode cX12_whyNow 0 = .ok (.aload_n 0, 1) := by decide +kernel
theorem dX12_whyNow_1 : decode cX12_whyNow 1 = .ok (.invokevirtual 232, 3) := by decide +kernel
theorem dX12_whyNow_4 : decode cX12_whyNow 4 = .ok (.istore_n 1, 1) := by decide +kernel
theorem dX12_whyNow_5 : decode cX12_whyNow 5 = .ok (.iload_n 1, 1) := by decide +kernel
theorem dX12_whyNow_6 : decode cX12_whyNow 6 = .ok (.ifCond .le 5, 3) := by decide +kernel
theorem dX12_whyNow_9 : decode cX12_whyNow 9 = .ok (.iload_n 1, 1) := by decide +kernel
theorem dX12_whyNow_10 : decode cX12_whyNow 10 = .ok (.ireturn, 1) := by decide +kernel
theorem dX12_whyNow_11 : decode cX12_whyNow 11 = .ok (.aload_n 0, 1) := by decide +kernel
theorem dX12_whyNow_12 : decode cX12_whyNow 12 = .ok (.invokevirtual 235, 3) := by decide +kernel
theorem dX12_whyNow_15 : decode cX12_whyNow 15 = .ok (.ifCond .eq 7, 3) := by decide +kernel
theorem dX12_whyNow_18 : decode cX12_whyNow 18 = .ok (.iconst 4, 1) := by decide +kernel
theorem dX12_whyNow_19 : decode cX12_whyNow 19 = .ok (.goto 15, 3) := by decide +kernel
theorem dX12_whyNow_22 : decode cX12_whyNow 22 = .ok (.aload_n 0, 1) := by decide +kernel
theorem dX12_whyNow_23 : decode cX12_whyNow 23 = .ok (.invokevirtual 238, 3) := by decide +kernel
theorem dX12_whyNow_26 : decode cX12_whyNow 26 = .ok (.ifCond .ge 7, 3) := by decide +kernel
theorem dX12_whyNow_29 : decode cX12_whyNow 29 = .ok (.iconst 5, 1) := by decide +kernel
theorem dX12_whyNow_30 : decode cX12_whyNow 30 = .ok (.goto 4, 3) := by decide +kernel
theorem dX12_whyNow_33 : decode cX12_whyNow 33 = .ok (.iconst 0, 1) := by decide +kernel
theorem dX12_whyNow_34 : decode cX12_whyNow 34 = .ok (.ireturn, 1) := by decide +kernel
def f_X12_whyNow (S : SH) (a0 : Nat) (μ : Mem) : Option (Int32 × Mem) :=
  if isO S 12 a0 = true then
  (f_X12_pushes S a0 μ).bind fun q1 =>
  (if q1.1 ≤ 0 then
  (f_X12_isAboveLimit S a0 q1.2).bind fun q2 =>
  (if q2.1 = 0 then
  (f_X12_spareNow S a0 q2.2).bind fun q3 =>
  (if 0 ≤ q3.1 then
  some (0, q3.2)
  else
  some (5, q3.2))
  else
  some (4, q2.2))
  else
  some (q1.1, q1.2))
  else none
set_option maxRecDepth 100000 in
set_option maxHeartbeats 4000000 in
theorem c_X12_whyNow {l : Launch} {γ : GE} {S : SH} {a0 : Nat} {μ : Mem} {X : (Int32 × Mem)} (h : f_X12_whyNow S a0 μ = some X) : isO S 12 a0 = true ∧ Ct l γ yX12_whyNow cX12_whyNow 2 (some .int) rm_X12_whyNow [.ref (gb γ + a0)] S μ S X.2 (some (.int X.1)) := by
  unfold f_X12_whyNow at h
  obtain ⟨h0, h⟩ := if_some h
  refine ⟨h0, ?_⟩
  have hJ : ∀ (p : Program) (e : Env) (s : State) (m : MethodId) (args : Array Value) (below : List Frame) (meth : Method) (c : Code), FX γ p s m args meth c cX12_whyNow RX12 2 → meth.sig.returnType = (some .int) → JJ γ p l e rm_X12_whyNow s m args below meth c 2 0 0 (QI below γ S X args s 0 0) S μ 0 [(0, .ref (gb γ + a0))] [] := by
    intro p e s m args below meth c F hr
    refine j_aload_n F 0 dX12_whyNow_0 rfl ?_
    refine j_cVI F mi_X12_pushes w_1261 (rest := []) h (fun _ g => c_X12_pushes g) rfl rfl (Nat.le_of_ble_eq_true rfl) ⟨Nat.le_of_ble_eq_true rfl, Nat.le_of_ble_eq_true rfl⟩ ⟨Nat.le_of_ble_eq_true rfl, Nat.le_of_ble_eq_true rfl⟩ dX12_whyNow_1 (fun q1 h => ?_)
    refine j_istore_n F [(1, .int q1.1), (0, .ref (gb γ + a0))] dX12_whyNow_4 rfl (by decide) rfl ?_
    refine j_iload_n F 0 dX12_whyNow_5 rfl ?_
    refine j_ifle F 11 dX12_whyNow_6 (by decide) h (fun _ h => ?_) (fun _ h => ?_)
    · refine j_aload_n F 1 dX12_whyNow_11 rfl ?_
      refine j_cVI F mi_X12_isAboveLimit w_1296 (rest := []) h (fun _ g => c_X12_isAboveLimit g) rfl rfl (Nat.le_of_ble_eq_true rfl) ⟨Nat.le_of_ble_eq_true rfl, Nat.le_of_ble_eq_true rfl⟩ ⟨Nat.le_of_ble_eq_true rfl, Nat.le_of_ble_eq_true rfl⟩ dX12_whyNow_12 (fun q2 h => ?_)
      refine j_ifeq F 22 dX12_whyNow_15 (by decide) h (fun _ h => ?_) (fun _ h => ?_)
      · refine j_aload_n F 1 dX12_whyNow_22 rfl ?_
        refine j_cVI F mi_X12_spareNow w_1300 (rest := []) h (fun _ g => c_X12_spareNow g) rfl rfl (Nat.le_of_ble_eq_true rfl) ⟨Nat.le_of_ble_eq_true rfl, Nat.le_of_ble_eq_true rfl⟩ ⟨Nat.le_of_ble_eq_true rfl, Nat.le_of_ble_eq_true rfl⟩ dX12_whyNow_23 (fun q3 h => ?_)
        refine j_ifge F 33 dX12_whyNow_26 (by decide) h (fun _ h => ?_) (fun _ h => ?_)
        · refine j_iconst F 0 dX12_whyNow_33 (by decide) ?_
          exact j_iret F hr dX12_whyNow_34 h
        · refine j_iconst F 5 dX12_whyNow_29 (by decide) ?_
          refine j_goto F 34 dX12_whyNow_30 (by decide) ?_
          exact j_iret F hr dX12_whyNow_34 h
      · refine j_iconst F 4 dX12_whyNow_18 (by decide) ?_
        refine j_goto F 34 dX12_whyNow_19 (by decide) ?_
        exact j_iret F hr dX12_whyNow_34 h
    · refine j_iload_n F 0 dX12_whyNow_9 rfl ?_
      exact j_iret F hr dX12_whyNow_10 h
  exact ct_of (by decide +kernel) (Nat.le_of_ble_eq_true rfl) (fun p e s m args below meth c F hr _ => hJ p e s m args below meth c F hr)
def rm_X12_may : Room := { frames := 7, cells := 0, slots := 0, locals := 144 }
theorem dX12_may_0 : decode cX12_may 0 = .ok (.aload_n 0, 1) := by decide +kernel
theorem dX12_may_1 : decode cX12_may 1 = .ok (.invokevirtual 241, 3) := by decide +kernel
theorem dX12_may_4 : decode cX12_may 4 = .ok (.ifCond .ne 7, 3) := by decide +kernel
theorem dX12_may_7 : decode cX12_may 7 = .ok (.iconst 1, 1) := by decide +kernel
theorem dX12_may_8 : decode cX12_may 8 = .ok (.goto 4, 3) := by decide +kernel
theorem dX12_may_11 : decode cX12_may 11 = .ok (.iconst 0, 1) := by decide +kernel
theorem dX12_may_12 : decode cX12_may 12 = .ok (.ireturn, 1) := by decide +kernel
def f_X12_may (S : SH) (a0 : Nat) (μ : Mem) : Option (Int32 × Mem) :=
  if isO S 12 a0 = true then
  (f_X12_whyNow S a0 μ).bind fun q1 =>
  (if q1.1 = 0 then
  some (1, q1.2)
  else
  some (0, q1.2))
  else none
set_option maxRecDepth 100000 in
set_option maxHeartbeats 4000000 in
theorem c_X12_may {l : Launch} {γ : GE} {S : SH} {a0 : Nat} {μ : Mem} {X : (Int32 × Mem)} (h : f_X12_may S a0 μ = some X) : isO S 12 a0 = true ∧ Ct l γ yX12_may cX12_may 1 (some .boolean) rm_X12_may [.ref (gb γ + a0)] S μ S X.2 (some (.int X.1)) := by
  unfold f_X12_may at h
  obtain ⟨h0, h⟩ := if_some h
  refine ⟨h0, ?_⟩
  have hJ : ∀ (p : Program) (e : Env) (s : State) (m : MethodId) (args : Array Value) (below : List Frame) (meth : Method) (c : Code), FX γ p s m args meth c cX12_may RX12 1 → meth.sig.returnType = (some .boolean) → JJ γ p l e rm_X12_may s m args below meth c 1 0 0 (QI below γ S X args s 0 0) S μ 0 [(0, .ref (gb γ + a0))] [] := by
    intro p e s m args below meth c F hr
    refine j_aload_n F 0 dX12_may_0 rfl ?_
    refine j_cVI F mi_X12_whyNow w_1292 (rest := []) h (fun _ g => c_X12_whyNow g) rfl rfl (Nat.le_of_ble_eq_true rfl) ⟨Nat.le_of_ble_eq_true rfl, Nat.le_of_ble_eq_true rfl⟩ ⟨Nat.le_of_ble_eq_true rfl, Nat.le_of_ble_eq_true rfl⟩ dX12_may_1 (fun q1 h => ?_)
    refine j_ifne F 11 dX12_may_4 (by decide) h (fun _ h => ?_) (fun _ h => ?_)
    · refine j_iconst F 0 dX12_may_11 (by decide) ?_
      exact j_zret F hr (Or.inl rfl) dX12_may_12 h
    · refine j_iconst F 1 dX12_may_7 (by decide) ?_
      refine j_goto F 12 dX12_may_8 (by decide) ?_
      exact j_zret F hr (Or.inr rfl) dX12_may_12 h
  exact ct_of (by decide +kernel) (Nat.le_of_ble_eq_true rfl) (fun p e s m args below meth c F hr _ => hJ p e s m args below meth c F hr)
def rm_X12_push : Room := { frames := 6, cells := 0, slots := 0, locals := 123 }
theorem dX12_push_0 : decode cX12_push 0 = .ok (.iload_n 1, 1) := by decide +kernel
theorem dX12_push_1 : decode cX12_push 1 = .ok (.invokestatic 106, 3) := by decide +kernel
theorem dX12_push_4 : decode cX12_push 4 = .ok (.ifCond .eq 17, 3) := by decide +kernel
theorem dX12_push_7 : decode cX12_push 7 = .ok (.iload_n 2, 1) := by decide +kernel
theorem dX12_push_8 : decode cX12_push 8 = .ok (.invokestatic 200, 3) := by decide +kernel
theorem dX12_push_11 : decode cX12_push 11 = .ok (.ifCond .eq 10, 3) := by decide +kernel
theorem dX12_push_14 : decode cX12_push 14 = .ok (.aload_n 0, 1) := by decide +kernel
theorem dX12_push_15 : decode cX12_push 15 = .ok (.invokevirtual 232, 3) := by decide +kernel
theorem dX12_push_18 : decode cX12_push 18 = .ok (.ifCond .le 7, 3) := by decide +kernel
theorem dX12_push_21 : decode cX12_push 21 = .ok (.ldc2_w 131, 3) := by decide +kernel
theorem dX12_push_24 : decode cX12_push 24 = .ok (.lreturn, 1) := by decide +kernel
theorem dX12_push_25 : decode cX12_push 25 = .ok (.aload_n 0, 1) := by decide +kernel
theorem dX12_push_26 : decode cX12_push 26 = .ok (.getfield 52, 3) := by decide +kernel
theorem dX12_push_29 : decode cX12_push 29 = .ok (.iload_n 1, 1) := by decide +kernel
theorem dX12_push_30 : decode cX12_push 30 = .ok (.laload, 1) := by decide +kernel
theorem dX12_push_31 : decode cX12_push 31 = .ok (.aload_n 0, 1) := by decide +kernel
theorem dX12_push_32 : decode cX12_push 32 = .ok (.getfield 214, 3) := by decide +kernel
theorem dX12_push_35 : decode cX12_push 35 = .ok (.iload_n 2, 1) := by decide +kernel
theorem dX12_push_36 : decode cX12_push 36 = .ok (.invokestatic 203, 3) := by decide +kernel
theorem dX12_push_39 : decode cX12_push 39 = .ok (.lreturn, 1) := by decide +kernel
def f_X12_push (S : SH) (a0 : Nat) (a1 : Int32) (a2 : Int32) (μ : Mem) : Option (Int64 × Mem) :=
  if isO S 12 a0 = true then
  (f_X12_isPad S a1 μ).bind fun q1 =>
  (if q1.1 = 0 then
  some ((-9223372036854775808), q1.2)
  else
  (f_X12_isPart S a2 q1.2).bind fun q2 =>
  (if q2.1 = 0 then
  some ((-9223372036854775808), q2.2)
  else
  (f_X12_pushes S a0 q2.2).bind fun q3 =>
  (if q3.1 ≤ 0 then
  (gR S 12 a0 16).bind fun v4 =>
  (aL S v4 a1 q3.2).bind fun v5 =>
  (gL S 12 a0 17 q3.2).bind fun v6 =>
  (f_X12_part S v5 v6 a2 q3.2).bind fun q7 =>
  some (q7.1, q7.2)
  else
  some ((-9223372036854775808), q3.2))))
  else none
set_option maxRecDepth 100000 in
set_option maxHeartbeats 4000000 in
theorem c_X12_push {l : Launch} {γ : GE} {S : SH} {a0 : Nat} {a1 : Int32} {a2 : Int32} {μ : Mem} {X : (Int64 × Mem)} (h : f_X12_push S a0 a1 a2 μ = some X) : isO S 12 a0 = true ∧ Ct l γ yX12_push cX12_push 3 (some .long) rm_X12_push [.ref (gb γ + a0), .int a1, .int a2] S μ S X.2 (some (.long X.1)) := by
  unfold f_X12_push at h
  obtain ⟨h0, h⟩ := if_some h
  refine ⟨h0, ?_⟩
  have hJ : ∀ (p : Program) (e : Env) (s : State) (m : MethodId) (args : Array Value) (below : List Frame) (meth : Method) (c : Code), FX γ p s m args meth c cX12_push RX12 3 → meth.sig.returnType = (some .long) → JJ γ p l e rm_X12_push s m args below meth c 3 0 0 (QL below γ S X args s 0 0) S μ 0 [(0, .ref (gb γ + a0)), (1, .int a1), (2, .int a2)] [] := by
    intro p e s m args below meth c F hr
    refine j_iload_n F 1 dX12_push_0 rfl ?_
    refine j_cSI F mi_X12_isPad w_1101 (rest := []) h (fun _ g => c_X12_isPad g) rfl rfl (Nat.le_of_ble_eq_true rfl) ⟨Nat.le_of_ble_eq_true rfl, Nat.le_of_ble_eq_true rfl⟩ ⟨Nat.le_of_ble_eq_true rfl, Nat.le_of_ble_eq_true rfl⟩ dX12_push_1 (fun q1 h => ?_)
    refine j_ifeq F 21 dX12_push_4 (by decide) h (fun _ h => ?_) (fun _ h => ?_)
    · refine j_ldc2 F (-9223372036854775808) dX12_push_21 w_1152 ?_
      exact j_lret F hr dX12_push_24 h
    · refine j_iload_n F 2 dX12_push_7 rfl ?_
      refine j_cSI F mi_X12_isPart w_1231 (rest := []) h (fun _ g => c_X12_isPart g) rfl rfl (Nat.le_of_ble_eq_true rfl) ⟨Nat.le_of_ble_eq_true rfl, Nat.le_of_ble_eq_true rfl⟩ ⟨Nat.le_of_ble_eq_true rfl, Nat.le_of_ble_eq_true rfl⟩ dX12_push_8 (fun q2 h => ?_)
      refine j_ifeq F 21 dX12_push_11 (by decide) h (fun _ h => ?_) (fun _ h => ?_)
      · refine j_ldc2 F (-9223372036854775808) dX12_push_21 w_1152 ?_
        exact j_lret F hr dX12_push_24 h
      · refine j_aload_n F 0 dX12_push_14 rfl ?_
        refine j_cVI F mi_X12_pushes w_1261 (rest := []) h (fun _ g => c_X12_pushes g) rfl rfl (Nat.le_of_ble_eq_true rfl) ⟨Nat.le_of_ble_eq_true rfl, Nat.le_of_ble_eq_true rfl⟩ ⟨Nat.le_of_ble_eq_true rfl, Nat.le_of_ble_eq_true rfl⟩ dX12_push_15 (fun q3 h => ?_)
        refine j_ifle F 25 dX12_push_18 (by decide) h (fun _ h => ?_) (fun _ h => ?_)
        · refine j_aload_n F 0 dX12_push_25 rfl ?_
          refine j_gR F fl_RX12_52 rfl dX12_push_26 h (fun v4 h => ?_)
          refine j_iload_n F 1 dX12_push_29 rfl ?_
          refine j_lald F dX12_push_30 h (fun v5 h => ?_)
          refine j_aload_n F 0 dX12_push_31 rfl ?_
          refine j_gL F fl_RX12_214.l rfl dX12_push_32 h (fun v6 h => ?_)
          refine j_iload_n F 2 dX12_push_35 rfl ?_
          refine j_cSJ F mi_X12_part w_1235 (rest := []) h (fun _ g => c_X12_part g) rfl rfl (Nat.le_of_ble_eq_true rfl) ⟨Nat.le_of_ble_eq_true rfl, Nat.le_of_ble_eq_true rfl⟩ ⟨Nat.le_of_ble_eq_true rfl, Nat.le_of_ble_eq_true rfl⟩ dX12_push_36 (fun q7 h => ?_)
          exact j_lret F hr dX12_push_39 h
        · refine j_ldc2 F (-9223372036854775808) dX12_push_21 w_1152 ?_
          exact j_lret F hr dX12_push_24 h
  exact ct_of (by decide +kernel) (Nat.le_of_ble_eq_true rfl) (fun p e s m args below meth c F hr _ => hJ p e s m args below meth c F hr)
def rm_X12_lifted : Room := { frames := 6, cells := 0, slots := 0, locals := 123 }
theorem dX12_lifted_0 : decode cX12_lifted 0 = .ok (.aload_n 0, 1) := by decide +kernel
theorem dX12_lifted_1 : decode cX12_lifted 1 = .ok (.invokevirtual 232, 3) := by decide +kernel
theorem dX12_lifted_4 : decode cX12_lifted 4 = .ok (.ifCond .le 8, 3) := by decide +kernel
theorem dX12_lifted_7 : decode cX12_lifted 7 = .ok (.bipush (-3), 2) := by decide +kernel
theorem dX12_lifted_9 : decode cX12_lifted 9 = .ok (.goto 7, 3) := by decide +kernel
theorem dX12_lifted_12 : decode cX12_lifted 12 = .ok (.aload_n 0, 1) := by decide +kernel
theorem dX12_lifted_13 : decode cX12_lifted 13 = .ok (.getfield 218, 3) := by decide +kernel
theorem dX12_lifted_16 : decode cX12_lifted 16 = .ok (.ireturn, 1) := by decide +kernel
def f_X12_lifted (S : SH) (a0 : Nat) (μ : Mem) : Option (Int32 × Mem) :=
  if isO S 12 a0 = true then
  (f_X12_pushes S a0 μ).bind fun q1 =>
  (if q1.1 ≤ 0 then
  (gI S 12 a0 18 q1.2).bind fun v2 =>
  some (v2, q1.2)
  else
  some ((-3), q1.2))
  else none
set_option maxRecDepth 100000 in
set_option maxHeartbeats 4000000 in
theorem c_X12_lifted {l : Launch} {γ : GE} {S : SH} {a0 : Nat} {μ : Mem} {X : (Int32 × Mem)} (h : f_X12_lifted S a0 μ = some X) : isO S 12 a0 = true ∧ Ct l γ yX12_lifted cX12_lifted 1 (some .int) rm_X12_lifted [.ref (gb γ + a0)] S μ S X.2 (some (.int X.1)) := by
  unfold f_X12_lifted at h
  obtain ⟨h0, h⟩ := if_some h
  refine ⟨h0, ?_⟩
  have hJ : ∀ (p : Program) (e : Env) (s : State) (m : MethodId) (args : Array Value) (below : List Frame) (meth : Method) (c : Code), FX γ p s m args meth c cX12_lifted RX12 1 → meth.sig.returnType = (some .int) → JJ γ p l e rm_X12_lifted s m args below meth c 1 0 0 (QI below γ S X args s 0 0) S μ 0 [(0, .ref (gb γ + a0))] [] := by
    intro p e s m args below meth c F hr
    refine j_aload_n F 0 dX12_lifted_0 rfl ?_
    refine j_cVI F mi_X12_pushes w_1261 (rest := []) h (fun _ g => c_X12_pushes g) rfl rfl (Nat.le_of_ble_eq_true rfl) ⟨Nat.le_of_ble_eq_true rfl, Nat.le_of_ble_eq_true rfl⟩ ⟨Nat.le_of_ble_eq_true rfl, Nat.le_of_ble_eq_true rfl⟩ dX12_lifted_1 (fun q1 h => ?_)
    refine j_ifle F 12 dX12_lifted_4 (by decide) h (fun _ h => ?_) (fun _ h => ?_)
    · refine j_aload_n F 0 dX12_lifted_12 rfl ?_
      refine j_gI F fl_RX12_218.l rfl dX12_lifted_13 h (fun v2 h => ?_)
      exact j_iret F hr dX12_lifted_16 h
    · refine j_bipush F (-3) dX12_lifted_7 (by decide) ?_
      refine j_goto F 16 dX12_lifted_9 (by decide) ?_
      exact j_iret F hr dX12_lifted_16 h
  exact ct_of (by decide +kernel) (Nat.le_of_ble_eq_true rfl) (fun p e s m args below meth c F hr _ => hJ p e s m args below meth c F hr)
def rm_X12_mat : Room := { frames := 6, cells := 0, slots := 0, locals := 123 }
theorem dX12_mat_0 : decode cX12_mat 0 = .ok (.iload_n 1, 1) := by decide +kernel
theorem dX12_mat_1 : decode cX12_mat 1 = .ok (.invokestatic 106, 3) := by decide +kernel
theorem dX12_mat_4 : decode cX12_mat 4 = .ok (.ifCond .ne 5, 3) := by decide +kernel
theorem dX12_mat_7 : decode cX12_mat 7 = .ok (.iconst (-1), 1) := by decide +kernel
theorem dX12_mat_8 : decode cX12_mat 8 = .ok (.ireturn, 1) := by decide +kernel
theorem dX12_mat_9 : decode cX12_mat 9 = .ok (.aload_n 0, 1) := by decide +kernel
theorem dX12_mat_10 : decode cX12_mat 10 = .ok (.invokevirtual 232, 3) := by decide +kernel
theorem dX12_mat_13 : decode cX12_mat 13 = .ok (.ifCond .le 6, 3) := by decide +kernel
theorem dX12_mat_16 : decode cX12_mat 16 = .ok (.bipush (-3), 2) := by decide +kernel
theorem dX12_mat_18 : decode cX12_mat 18 = .ok (.ireturn, 1) := by decide +kernel
theorem dX12_mat_19 : decode cX12_mat 19 = .ok (.iconst 1, 1) := by decide +kernel
theorem dX12_mat_20 : decode cX12_mat 20 = .ok (.istore_n 2, 1) := by decide +kernel
theorem dX12_mat_21 : decode cX12_mat 21 = .ok (.iload_n 2, 1) := by decide +kernel
theorem dX12_mat_22 : decode cX12_mat 22 = .ok (.bipush 61, 2) := by decide +kernel
theorem dX12_mat_24 : decode cX12_mat 24 = .ok (.if_icmp .ge 38, 3) := by decide +kernel
theorem dX12_mat_27 : decode cX12_mat 27 = .ok (.iload_n 2, 1) := by decide +kernel
theorem dX12_mat_28 : decode cX12_mat 28 = .ok (.iload_n 2, 1) := by decide +kernel
theorem dX12_mat_29 : decode cX12_mat 29 = .ok (.imul, 1) := by decide +kernel
theorem dX12_mat_30 : decode cX12_mat 30 = .ok (.i2l, 1) := by decide +kernel
theorem dX12_mat_31 : decode cX12_mat 31 = .ok (.aload_n 0, 1) := by decide +kernel
theorem dX12_mat_32 : decode cX12_mat 32 = .ok (.getfield 36, 3) := by decide +kernel
theorem dX12_mat_35 : decode cX12_mat 35 = .ok (.iconst 4, 1) := by decide +kernel
theorem dX12_mat_36 : decode cX12_mat 36 = .ok (.iaload, 1) := by decide +kernel
theorem dX12_mat_37 : decode cX12_mat 37 = .ok (.i2l, 1) := by decide +kernel
theorem dX12_mat_38 : decode cX12_mat 38 = .ok (.lmul, 1) := by decide +kernel
theorem dX12_mat_39 : decode cX12_mat 39 = .ok (.aload_n 0, 1) := by decide +kernel
theorem dX12_mat_40 : decode cX12_mat 40 = .ok (.getfield 214, 3) := by decide +kernel
theorem dX12_mat_43 : decode cX12_mat 43 = .ok (.lmul, 1) := by decide +kernel
theorem dX12_mat_44 : decode cX12_mat 44 = .ok (.aload_n 0, 1) := by decide +kernel
theorem dX12_mat_45 : decode cX12_mat 45 = .ok (.getfield 52, 3) := by decide +kernel
theorem dX12_mat_48 : decode cX12_mat 48 = .ok (.iload_n 1, 1) := by decide +kernel
theorem dX12_mat_49 : decode cX12_mat 49 = .ok (.laload, 1) := by decide +kernel
theorem dX12_mat_50 : decode cX12_mat 50 = .ok (.lcmp, 1) := by decide +kernel
theorem dX12_mat_51 : decode cX12_mat 51 = .ok (.ifCond .lt 5, 3) := by decide +kernel
theorem dX12_mat_54 : decode cX12_mat 54 = .ok (.iload_n 2, 1) := by decide +kernel
theorem dX12_mat_55 : decode cX12_mat 55 = .ok (.ireturn, 1) := by decide +kernel
theorem dX12_mat_56 : decode cX12_mat 56 = .ok (.iinc 2 1, 3) := by decide +kernel
theorem dX12_mat_59 : decode cX12_mat 59 = .ok (.goto (-38), 3) := by decide +kernel
theorem dX12_mat_62 : decode cX12_mat 62 = .ok (.bipush (-5), 2) := by decide +kernel
theorem dX12_mat_64 : decode cX12_mat 64 = .ok (.ireturn, 1) := by decide +kernel
def l_X12_mat_21 (S : SH) (a0 : Nat) (a1 : Int32) (k21 : (Int32 × Mem) → Option (Int32 × Mem)) (x : (Int32 × Mem)) : Option (Int32 × Mem) :=
 (if 61 ≤ x.1 then
 some ((-5), x.2)
 else
 (gR S 12 a0 9).bind fun v3 =>
 (aI S .int v3 4 x.2).bind fun v4 =>
 (gL S 12 a0 17 x.2).bind fun v5 =>
 (gR S 12 a0 16).bind fun v6 =>
 (aL S v6 a1 x.2).bind fun v7 =>
 (if ((((x.1 * x.1).toInt64) * v4.toInt64) * v5) < v7 then
 k21 (x.1 + 1, x.2)
 else
 some (x.1, x.2)))
set_option maxRecDepth 100000 in
set_option maxHeartbeats 4000000 in
theorem t_X12_mat_21 {γ : GE} {p : Program} {l : Launch} {e : Env} {s : State} {m : MethodId} {args : Array Value} {below : List Frame} {meth : Method} {c : Code} {S : SH} {X : (Int32 × Mem)} (F : FX γ p s m args meth c cX12_mat RX12 3) (hr : meth.sig.returnType = (some .int)) (a0 : Nat) (a1 : Int32) (k21 : (Int32 × Mem) → Option (Int32 × Mem)) (hk21 : ∀ (x21_2 : Int32) (ν : Mem), k21 (x21_2, ν) = some X → JJ γ p l e rm_X12_mat s m args below meth c 3 0 0 (QI below γ S X args s 0 0) S ν 21 [(0, .ref (gb γ + a0)), (1, .int a1), (2, .int x21_2)] []) (x : (Int32 × Mem)) (h : l_X12_mat_21 S a0 a1 k21 x = some X) : JJ γ p l e rm_X12_mat s m args below meth c 3 0 0 (QI below γ S X args s 0 0) S x.2 21 [(0, .ref (gb γ + a0)), (1, .int a1), (2, .int x.1)] [] := by
  unfold l_X12_mat_21 at h
  refine j_iload_n F 2 dX12_mat_21 rfl ?_
  refine j_bipush F 61 dX12_mat_22 (by decide) ?_
  refine j_icmpge F 62 dX12_mat_24 (by decide) h (fun _ h => ?_) (fun _ h => ?_)
  · refine j_bipush F (-5) dX12_mat_62 (by decide) ?_
    exact j_iret F hr dX12_mat_64 h
  · refine j_iload_n F 2 dX12_mat_27 rfl ?_
    refine j_iload_n F 2 dX12_mat_28 rfl ?_
    refine j_imul F dX12_mat_29 ?_
    refine j_i2l F dX12_mat_30 ?_
    refine j_aload_n F 0 dX12_mat_31 rfl ?_
    refine j_gR F fl_RX12_36 rfl dX12_mat_32 h (fun v3 h => ?_)
    refine j_iconst F 4 dX12_mat_35 (by decide) ?_
    refine j_iald F dX12_mat_36 h (fun v4 h => ?_)
    refine j_i2l F dX12_mat_37 ?_
    refine j_lmul F dX12_mat_38 ?_
    refine j_aload_n F 0 dX12_mat_39 rfl ?_
    refine j_gL F fl_RX12_214.l rfl dX12_mat_40 h (fun v5 h => ?_)
    refine j_lmul F dX12_mat_43 ?_
    refine j_aload_n F 0 dX12_mat_44 rfl ?_
    refine j_gR F fl_RX12_52 rfl dX12_mat_45 h (fun v6 h => ?_)
    refine j_iload_n F 1 dX12_mat_48 rfl ?_
    refine j_lald F dX12_mat_49 h (fun v7 h => ?_)
    refine j_lcmplt F 56 dX12_mat_50 dX12_mat_51 (by decide) h (fun _ h => ?_) (fun _ h => ?_)
    · refine j_iinc F 1 2 [(2, .int (x.1 + 1)), (0, .ref (gb γ + a0)), (1, .int a1)] dX12_mat_56 rfl (by decide) (by decide) rfl ?_
      refine j_goto F 21 dX12_mat_59 (by decide) ?_
      refine j_lv [(0, .ref (gb γ + a0)), (1, .int a1), (2, .int (x.1 + 1))] [1, 2, 0] rfl ?_
      exact hk21 _ _ h
    · refine j_iload_n F 2 dX12_mat_54 rfl ?_
      exact j_iret F hr dX12_mat_55 h
theorem s_X12_mat_21 {γ : GE} {p : Program} {l : Launch} {e : Env} {s : State} {m : MethodId} {args : Array Value} {below : List Frame} {meth : Method} {c : Code} {S : SH} {X : (Int32 × Mem)} (F : FX γ p s m args meth c cX12_mat RX12 3) (hr : meth.sig.returnType = (some .int)) (a0 : Nat) (a1 : Int32) (x21_2 : Int32) (ν : Mem) (h : lpN (l_X12_mat_21 S a0 a1) fu (x21_2, ν) = some X) : JJ γ p l e rm_X12_mat s m args below meth c 3 0 0 (QI below γ S X args s 0 0) S ν 21 [(0, .ref (gb γ + a0)), (1, .int a1), (2, .int x21_2)] [] :=
 lpN_sound (fun x => JJ γ p l e rm_X12_mat s m args below meth c 3 0 0 (QI below γ S X args s 0 0) S x.2 21 [(0, .ref (gb γ + a0)), (1, .int a1), (2, .int x.1)] []) (fun k21 hk21 x h => t_X12_mat_21 F hr a0 a1 k21 (fun x21_2 ν h => hk21 (x21_2, ν) h) x h) fu (x21_2, ν) h
def f_X12_mat (S : SH) (a0 : Nat) (a1 : Int32) (μ : Mem) : Option (Int32 × Mem) :=
  if isO S 12 a0 = true then
  (f_X12_isPad S a1 μ).bind fun q1 =>
  (if q1.1 = 0 then
  some ((-1), q1.2)
  else
  (f_X12_pushes S a0 q1.2).bind fun q2 =>
  (if q2.1 ≤ 0 then
  lpN (l_X12_mat_21 S  a0 a1) fu (1, q2.2)
  else
  some ((-3), q2.2)))
  else none
set_option maxRecDepth 100000 in
set_option maxHeartbeats 4000000 in
theorem c_X12_mat {l : Launch} {γ : GE} {S : SH} {a0 : Nat} {a1 : Int32} {μ : Mem} {X : (Int32 × Mem)} (h : f_X12_mat S a0 a1 μ = some X) : isO S 12 a0 = true ∧ Ct l γ yX12_mat cX12_mat 3 (some .int) rm_X12_mat [.ref (gb γ + a0), .int a1] S μ S X.2 (some (.int X.1)) := by
  unfold f_X12_mat at h
  obtain ⟨h0, h⟩ := if_some h
  refine ⟨h0, ?_⟩
  have hJ : ∀ (p : Program) (e : Env) (s : State) (m : MethodId) (args : Array Value) (below : List Frame) (meth : Method) (c : Code), FX γ p s m args meth c cX12_mat RX12 3 → meth.sig.returnType = (some .int) → JJ γ p l e rm_X12_mat s m args below meth c 3 0 0 (QI below γ S X args s 0 0) S μ 0 [(0, .ref (gb γ + a0)), (1, .int a1)] [] := by
    intro p e s m args below meth c F hr
    refine j_iload_n F 1 dX12_mat_0 rfl ?_
    refine j_cSI F mi_X12_isPad w_1101 (rest := []) h (fun _ g => c_X12_isPad g) rfl rfl (Nat.le_of_ble_eq_true rfl) ⟨Nat.le_of_ble_eq_true rfl, Nat.le_of_ble_eq_true rfl⟩ ⟨Nat.le_of_ble_eq_true rfl, Nat.le_of_ble_eq_true rfl⟩ dX12_mat_1 (fun q1 h => ?_)
    refine j_ifne F 9 dX12_mat_4 (by decide) h (fun _ h => ?_) (fun _ h => ?_)
    · refine j_aload_n F 0 dX12_mat_9 rfl ?_
      refine j_cVI F mi_X12_pushes w_1261 (rest := []) h (fun _ g => c_X12_pushes g) rfl rfl (Nat.le_of_ble_eq_true rfl) ⟨Nat.le_of_ble_eq_true rfl, Nat.le_of_ble_eq_true rfl⟩ ⟨Nat.le_of_ble_eq_true rfl, Nat.le_of_ble_eq_true rfl⟩ dX12_mat_10 (fun q2 h => ?_)
      refine j_ifle F 19 dX12_mat_13 (by decide) h (fun _ h => ?_) (fun _ h => ?_)
      · refine j_iconst F 1 dX12_mat_19 (by decide) ?_
        refine j_istore_n F [(2, .int 1), (0, .ref (gb γ + a0)), (1, .int a1)] dX12_mat_20 rfl (by decide) rfl ?_
        refine j_lv [(0, .ref (gb γ + a0)), (1, .int a1), (2, .int 1)] [1, 2, 0] rfl ?_
        exact s_X12_mat_21 F hr _ _ _ _ h
      · refine j_bipush F (-3) dX12_mat_16 (by decide) ?_
        exact j_iret F hr dX12_mat_18 h
    · refine j_iconst F (-1) dX12_mat_7 (by decide) ?_
      exact j_iret F hr dX12_mat_8 h
  exact ct_of (by decide +kernel) (Nat.le_of_ble_eq_true rfl) (fun p e s m args below meth c F hr _ => hJ p e s m args below meth c F hr)
def rm_X12_why : Room := { frames := 7, cells := 0, slots := 0, locals := 144 }
theorem dX12_why_0 : decode cX12_why 0 = .ok (.aload_n 0, 1) := by decide +kernel
theorem dX12_why_1 : decode cX12_why 1 = .ok (.invokevirtual 241, 3) := by decide +kernel
theorem dX12_why_4 : decode cX12_why 4 = .ok (.ireturn, 1) := by decide +kernel
def f_X12_why (S : SH) (a0 : Nat) (μ : Mem) : Option (Int32 × Mem) :=
  if isO S 12 a0 = true then
  (f_X12_whyNow S a0 μ).bind fun q1 =>
  some (q1.1, q1.2)
  else none
set_option maxRecDepth 100000 in
set_option maxHeartbeats 4000000 in
theorem c_X12_why {l : Launch} {γ : GE} {S : SH} {a0 : Nat} {μ : Mem} {X : (Int32 × Mem)} (h : f_X12_why S a0 μ = some X) : isO S 12 a0 = true ∧ Ct l γ yX12_why cX12_why 1 (some .int) rm_X12_why [.ref (gb γ + a0)] S μ S X.2 (some (.int X.1)) := by
  unfold f_X12_why at h
  obtain ⟨h0, h⟩ := if_some h
  refine ⟨h0, ?_⟩
  have hJ : ∀ (p : Program) (e : Env) (s : State) (m : MethodId) (args : Array Value) (below : List Frame) (meth : Method) (c : Code), FX γ p s m args meth c cX12_why RX12 1 → meth.sig.returnType = (some .int) → JJ γ p l e rm_X12_why s m args below meth c 1 0 0 (QI below γ S X args s 0 0) S μ 0 [(0, .ref (gb γ + a0))] [] := by
    intro p e s m args below meth c F hr
    refine j_aload_n F 0 dX12_why_0 rfl ?_
    refine j_cVI F mi_X12_whyNow w_1292 (rest := []) h (fun _ g => c_X12_whyNow g) rfl rfl (Nat.le_of_ble_eq_true rfl) ⟨Nat.le_of_ble_eq_true rfl, Nat.le_of_ble_eq_true rfl⟩ ⟨Nat.le_of_ble_eq_true rfl, Nat.le_of_ble_eq_true rfl⟩ dX12_why_1 (fun q1 h => ?_)
    exact j_iret F hr dX12_why_4 h
  exact ct_of (by decide +kernel) (Nat.le_of_ble_eq_true rfl) (fun p e s m args below meth c F hr _ => hJ p e s m args below meth c F hr)
