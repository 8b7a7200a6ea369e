def rm_X12_image : Room := { frames := 0, cells := 0, slots := 0, locals := 0 }
theorem dX12_image_0 : decode cX12_image 0 = .ok (.aload_n 0, 1) := by decide +kernel
theorem dX12_image_1 : decode cX12_image 1 = .ok (.iconst 1, 1) := by decide +kernel
theorem dX12_image_2 : decode cX12_image 2 = .ok (.putfield 361, 3) := by decide +kernel
theorem dX12_image_5 : decode cX12_image 5 = .ok (.iconst 0, 1) := by decide +kernel
theorem dX12_image_6 : decode cX12_image 6 = .ok (.istore_n 1, 1) := by decide +kernel
theorem dX12_image_7 : decode cX12_image 7 = .ok (.iload_n 1, 1) := by decide +kernel
theorem dX12_image_8 : decode cX12_image 8 = .ok (.bipush 12, 2) := by decide +kernel
theorem dX12_image_10 : decode cX12_image 10 = .ok (.if_icmp .ge 21, 3) := by decide +kernel
theorem dX12_image_13 : decode cX12_image 13 = .ok (.aload_n 0, 1) := by decide +kernel
theorem dX12_image_14 : decode cX12_image 14 = .ok (.getfield 39, 3) := by decide +kernel
theorem dX12_image_17 : decode cX12_image 17 = .ok (.iload_n 1, 1) := by decide +kernel
theorem dX12_image_18 : decode cX12_image 18 = .ok (.aload_n 0, 1) := by decide +kernel
theorem dX12_image_19 : decode cX12_image 19 = .ok (.getfield 9, 3) := by decide +kernel
theorem dX12_image_22 : decode cX12_image 22 = .ok (.iload_n 1, 1) := by decide +kernel
theorem dX12_image_23 : decode cX12_image 23 = .ok (.iaload, 1) := by decide +kernel
theorem dX12_image_24 : decode cX12_image 24 = .ok (.iastore, 1) := by decide +kernel
theorem dX12_image_25 : decode cX12_image 25 = .ok (.iinc 1 1, 3) := by decide +kernel
theorem dX12_image_28 : decode cX12_image 28 = .ok (.goto (-21), 3) := by decide +kernel
theorem dX12_image_31 : decode cX12_image 31 = .ok (.iconst 0, 1) := by decide +kernel
theorem dX12_image_32 : decode cX12_image 32 = .ok (.istore_n 1, 1) := by decide +kernel
theorem dX12_image_33 : decode cX12_image 33 = .ok (.iload_n 1, 1) := by decide +kernel
theorem dX12_image_34 : decode cX12_image 34 = .ok (.bipush 8, 2) := by decide +kernel
theorem dX12_image_36 : decode cX12_image 36 = .ok (.if_icmp .ge 69, 3) := by decide +kernel
theorem dX12_image_39 : decode cX12_image 39 = .ok (.aload_n 0, 1) := by decide +kernel
theorem dX12_image_40 : decode cX12_image 40 = .ok (.getfield 39, 3) := by decide +kernel
theorem dX12_image_43 : decode cX12_image 43 = .ok (.bipush 12, 2) := by decide +kernel
theorem dX12_image_45 : decode cX12_image 45 = .ok (.iload_n 1, 1) := by decide +kernel
theorem dX12_image_46 : decode cX12_image 46 = .ok (.iadd, 1) := by decide +kernel
theorem dX12_image_47 : decode cX12_image 47 = .ok (.aload_n 0, 1) := by decide +kernel
theorem dX12_image_48 : decode cX12_image 48 = .ok (.getfield 15, 3) := by decide +kernel
theorem dX12_image_51 : decode cX12_image 51 = .ok (.iload_n 1, 1) := by decide +kernel
theorem dX12_image_52 : decode cX12_image 52 = .ok (.iaload, 1) := by decide +kernel
theorem dX12_image_53 : decode cX12_image 53 = .ok (.iastore, 1) := by decide +kernel
theorem dX12_image_54 : decode cX12_image 54 = .ok (.aload_n 0, 1) := by decide +kernel
theorem dX12_image_55 : decode cX12_image 55 = .ok (.getfield 39, 3) := by decide +kernel
theorem dX12_image_58 : decode cX12_image 58 = .ok (.bipush 20, 2) := by decide +kernel
theorem dX12_image_60 : decode cX12_image 60 = .ok (.iload_n 1, 1) := by decide +kernel
theorem dX12_image_61 : decode cX12_image 61 = .ok (.iadd, 1) := by decide +kernel
theorem dX12_image_62 : decode cX12_image 62 = .ok (.aload_n 0, 1) := by decide +kernel
theorem dX12_image_63 : decode cX12_image 63 = .ok (.getfield 18, 3) := by decide +kernel
theorem dX12_image_66 : decode cX12_image 66 = .ok (.iload_n 1, 1) := by decide +kernel
theorem dX12_image_67 : decode cX12_image 67 = .ok (.iaload, 1) := by decide +kernel
theorem dX12_image_68 : decode cX12_image 68 = .ok (.iastore, 1) := by decide +kernel
theorem dX12_image_69 : decode cX12_image 69 = .ok (.aload_n 0, 1) := by decide +kernel
theorem dX12_image_70 : decode cX12_image 70 = .ok (.getfield 39, 3) := by decide +kernel
theorem dX12_image_73 : decode cX12_image 73 = .ok (.bipush 28, 2) := by decide +kernel
theorem dX12_image_75 : decode cX12_image 75 = .ok (.iload_n 1, 1) := by decide +kernel
theorem dX12_image_76 : decode cX12_image 76 = .ok (.iadd, 1) := by decide +kernel
theorem dX12_image_77 : decode cX12_image 77 = .ok (.aload_n 0, 1) := by decide +kernel
theorem dX12_image_78 : decode cX12_image 78 = .ok (.getfield 21, 3) := by decide +kernel
theorem dX12_image_81 : decode cX12_image 81 = .ok (.iload_n 1, 1) := by decide +kernel
theorem dX12_image_82 : decode cX12_image 82 = .ok (.iaload, 1) := by decide +kernel
theorem dX12_image_83 : decode cX12_image 83 = .ok (.iastore, 1) := by decide +kernel
theorem dX12_image_84 : decode cX12_image 84 = .ok (.aload_n 0, 1) := by decide +kernel
theorem dX12_image_85 : decode cX12_image 85 = .ok (.getfield 39, 3) := by decide +kernel
theorem dX12_image_88 : decode cX12_image 88 = .ok (.bipush 36, 2) := by decide +kernel
theorem dX12_image_90 : decode cX12_image 90 = .ok (.iload_n 1, 1) := by decide +kernel
theorem dX12_image_91 : decode cX12_image 91 = .ok (.iadd, 1) := by decide +kernel
theorem dX12_image_92 : decode cX12_image 92 = .ok (.aload_n 0, 1) := by decide +kernel
theorem dX12_image_93 : decode cX12_image 93 = .ok (.getfield 24, 3) := by decide +kernel
theorem dX12_image_96 : decode cX12_image 96 = .ok (.iload_n 1, 1) := by decide +kernel
theorem dX12_image_97 : decode cX12_image 97 = .ok (.iaload, 1) := by decide +kernel
theorem dX12_image_98 : decode cX12_image 98 = .ok (.iastore, 1) := by decide +kernel
theorem dX12_image_99 : decode cX12_image 99 = .ok (.iinc 1 1, 3) := by decide +kernel
theorem dX12_image_102 : decode cX12_image 102 = .ok (.goto (-69), 3) := by decide +kernel
theorem dX12_image_105 : decode cX12_image 105 = .ok (.iconst 0, 1) := by decide +kernel
theorem dX12_image_106 : decode cX12_image 106 = .ok (.istore_n 1, 1) := by decide +kernel
theorem dX12_image_107 : decode cX12_image 107 = .ok (.iload_n 1, 1) := by decide +kernel
theorem dX12_image_108 : decode cX12_image 108 = .ok (.bipush 30, 2) := by decide +kernel
theorem dX12_image_110 : decode cX12_image 110 = .ok (.if_icmp .ge 39, 3) := by decide +kernel
theorem dX12_image_113 : decode cX12_image 113 = .ok (.aload_n 0, 1) := by decide +kernel
theorem dX12_image_114 : decode cX12_image 114 = .ok (.getfield 39, 3) := by decide +kernel
theorem dX12_image_117 : decode cX12_image 117 = .ok (.bipush 44, 2) := by decide +kernel
theorem dX12_image_119 : decode cX12_image 119 = .ok (.iload_n 1, 1) := by decide +kernel
theorem dX12_image_120 : decode cX12_image 120 = .ok (.iadd, 1) := by decide +kernel
theorem dX12_image_121 : decode cX12_image 121 = .ok (.aload_n 0, 1) := by decide +kernel
theorem dX12_image_122 : decode cX12_image 122 = .ok (.getfield 30, 3) := by decide +kernel
theorem dX12_image_125 : decode cX12_image 125 = .ok (.iload_n 1, 1) := by decide +kernel
theorem dX12_image_126 : decode cX12_image 126 = .ok (.iaload, 1) := by decide +kernel
theorem dX12_image_127 : decode cX12_image 127 = .ok (.iastore, 1) := by decide +kernel
theorem dX12_image_128 : decode cX12_image 128 = .ok (.aload_n 0, 1) := by decide +kernel
theorem dX12_image_129 : decode cX12_image 129 = .ok (.getfield 39, 3) := by decide +kernel
theorem dX12_image_132 : decode cX12_image 132 = .ok (.bipush 74, 2) := by decide +kernel
theorem dX12_image_134 : decode cX12_image 134 = .ok (.iload_n 1, 1) := by decide +kernel
theorem dX12_image_135 : decode cX12_image 135 = .ok (.iadd, 1) := by decide +kernel
theorem dX12_image_136 : decode cX12_image 136 = .ok (.aload_n 0, 1) := by decide +kernel
theorem dX12_image_137 : decode cX12_image 137 = .ok (.getfield 33, 3) := by decide +kernel
theorem dX12_image_140 : decode cX12_image 140 = .ok (.iload_n 1, 1) := by decide +kernel
theorem dX12_image_141 : decode cX12_image 141 = .ok (.iaload, 1) := by decide +kernel
theorem dX12_image_142 : decode cX12_image 142 = .ok (.iastore, 1) := by decide +kernel
theorem dX12_image_143 : decode cX12_image 143 = .ok (.iinc 1 1, 3) := by decide +kernel
theorem dX12_image_146 : decode cX12_image 146 = .ok (.goto (-39), 3) := by decide +kernel
theorem dX12_image_149 : decode cX12_image 149 = .ok (.iconst 0, 1) := by decide +kernel
theorem dX12_image_150 : decode cX12_image 150 = .ok (.istore_n 1, 1) := by decide +kernel
theorem dX12_image_151 : decode cX12_image 151 = .ok (.iload_n 1, 1) := by decide +kernel
theorem dX12_image_152 : decode cX12_image 152 = .ok (.bipush 14, 2) := by decide +kernel
theorem dX12_image_154 : decode cX12_image 154 = .ok (.if_icmp .ge 24, 3) := by decide +kernel
theorem dX12_image_157 : decode cX12_image 157 = .ok (.aload_n 0, 1) := by decide +kernel
theorem dX12_image_158 : decode cX12_image 158 = .ok (.getfield 39, 3) := by decide +kernel
theorem dX12_image_161 : decode cX12_image 161 = .ok (.bipush 104, 2) := by decide +kernel
theorem dX12_image_163 : decode cX12_image 163 = .ok (.iload_n 1, 1) := by decide +kernel
theorem dX12_image_164 : decode cX12_image 164 = .ok (.iadd, 1) := by decide +kernel
theorem dX12_image_165 : decode cX12_image 165 = .ok (.aload_n 0, 1) := by decide +kernel
theorem dX12_image_166 : decode cX12_image 166 = .ok (.getfield 36, 3) := by decide +kernel
theorem dX12_image_169 : decode cX12_image 169 = .ok (.iload_n 1, 1) := by decide +kernel
theorem dX12_image_170 : decode cX12_image 170 = .ok (.iaload, 1) := by decide +kernel
theorem dX12_image_171 : decode cX12_image 171 = .ok (.iastore, 1) := by decide +kernel
theorem dX12_image_172 : decode cX12_image 172 = .ok (.iinc 1 1, 3) := by decide +kernel
theorem dX12_image_175 : decode cX12_image 175 = .ok (.goto (-24), 3) := by decide +kernel
theorem dX12_image_178 : decode cX12_image 178 = .ok (.iconst 0, 1) := by decide +kernel
theorem dX12_image_179 : decode cX12_image 179 = .ok (.istore_n 1, 1) := by decide +kernel
theorem dX12_image_180 : decode cX12_image 180 = .ok (.iload_n 1, 1) := by decide +kernel
theorem dX12_image_181 : decode cX12_image 181 = .ok (.iconst 3, 1) := by decide +kernel
theorem dX12_image_182 : decode cX12_image 182 = .ok (.if_icmp .ge 24, 3) := by decide +kernel
theorem dX12_image_185 : decode cX12_image 185 = .ok (.aload_n 0, 1) := by decide +kernel
theorem dX12_image_186 : decode cX12_image 186 = .ok (.getfield 39, 3) := by decide +kernel
theorem dX12_image_189 : decode cX12_image 189 = .ok (.bipush 118, 2) := by decide +kernel
theorem dX12_image_191 : decode cX12_image 191 = .ok (.iload_n 1, 1) := by decide +kernel
theorem dX12_image_192 : decode cX12_image 192 = .ok (.iadd, 1) := by decide +kernel
theorem dX12_image_193 : decode cX12_image 193 = .ok (.aload_n 0, 1) := by decide +kernel
theorem dX12_image_194 : decode cX12_image 194 = .ok (.getfield 27, 3) := by decide +kernel
theorem dX12_image_197 : decode cX12_image 197 = .ok (.iload_n 1, 1) := by decide +kernel
theorem dX12_image_198 : decode cX12_image 198 = .ok (.iaload, 1) := by decide +kernel
theorem dX12_image_199 : decode cX12_image 199 = .ok (.iastore, 1) := by decide +kernel
theorem dX12_image_200 : decode cX12_image 200 = .ok (.iinc 1 1, 3) := by decide +kernel
theorem dX12_image_203 : decode cX12_image 203 = .ok (.goto (-23), 3) := by decide +kernel
theorem dX12_image_206 : decode cX12_image 206 = .ok (.aload_n 0, 1) := by decide +kernel
theorem dX12_image_207 : decode cX12_image 207 = .ok (.getfield 39, 3) := by decide +kernel
theorem dX12_image_210 : decode cX12_image 210 = .ok (.bipush 121, 2) := by decide +kernel
theorem dX12_image_212 : decode cX12_image 212 = .ok (.aload_n 0, 1) := by decide +kernel
theorem dX12_image_213 : decode cX12_image 213 = .ok (.getfield 114, 3) := by decide +kernel
theorem dX12_image_216 : decode cX12_image 216 = .ok (.iastore, 1) := by decide +kernel
theorem dX12_image_217 : decode cX12_image 217 = .ok (.aload_n 0, 1) := by decide +kernel
theorem dX12_image_218 : decode cX12_image 218 = .ok (.getfield 114, 3) := by decide +kernel
theorem dX12_image_221 : decode cX12_image 221 = .ok (.ireturn, 1) := by decide +kernel
def b_X12_image_206 (S : SH) (a0 : Nat) (μ : Mem) : Option (Int32 × Mem) :=
 (gR S 12 a0 10).bind fun v2 =>
 (gI S 12 a0 1 μ).bind fun v3 =>
 (sI S v2 121 v3 μ).bind fun ν4 =>
 (gI S 12 a0 1 ν4).bind fun v5 =>
 some (v5, ν4)
set_option maxRecDepth 100000 in
set_option maxHeartbeats 4000000 in
theorem s_X12_image_206 {γ : GE} {p : Program} {l : Launch} {e : Env} {s : State} {m : MethodId} {args : Array Value} {below : List Frame} {meth : Method} {c : Code} {S : SH} {X : (Int32 × Mem)} (F : FX γ p s m args meth c cX12_image RX12 2) (hr : meth.sig.returnType = (some .int)) (a0 : Nat)    (μ : Mem) (h : b_X12_image_206 S a0 μ = some X) : JJ γ p l e rm_X12_image s m args below meth c 2 0 0 (QI below γ S X args s 0 0) S μ 206 [(0, .ref (gb γ + a0))] [] := by
  unfold b_X12_image_206 at h
  refine j_aload_n F 0 dX12_image_206 rfl ?_
  refine j_gR F fl_RX12_39 rfl dX12_image_207 h (fun v2 h => ?_)
  refine j_bipush F 121 dX12_image_210 (by decide) ?_
  refine j_aload_n F 0 dX12_image_212 rfl ?_
  refine j_gI F fl_RX12_114.l rfl dX12_image_213 h (fun v3 h => ?_)
  refine j_iast F dX12_image_216 h (fun ν4 h => ?_)
  refine j_aload_n F 0 dX12_image_217 rfl ?_
  refine j_gI F fl_RX12_114.l rfl dX12_image_218 h (fun v5 h => ?_)
  exact j_iret F hr dX12_image_221 h
def l_X12_image_180 (S : SH) (a0 : Nat) (k180 : (Int32 × Mem) → Option (Int32 × Mem)) (x : (Int32 × Mem)) : Option (Int32 × Mem) :=
 (if 3 ≤ x.1 then
 b_X12_image_206 S a0 x.2
 else
 (gR S 12 a0 10).bind fun v6 =>
 (gR S 12 a0 6).bind fun v7 =>
 (aI S .int v7 x.1 x.2).bind fun v8 =>
 (sI S v6 (118 + x.1) v8 x.2).bind fun ν9 =>
 k180 (x.1 + 1, ν9))
set_option maxRecDepth 100000 in
set_option maxHeartbeats 4000000 in
theorem t_X12_image_180 {γ : GE} {p : Program} {l : Launch} {e : Env} {s : State} {m : MethodId} {args : Array Value} {below : List Frame} {meth : Method} {c : Code} {S : SH} {X : (Int32 × Mem)} (F : FX γ p s m args meth c cX12_image RX12 2) (hr : meth.sig.returnType = (some .int)) (a0 : Nat) (k180 : (Int32 × Mem) → Option (Int32 × Mem)) (hk180 : ∀ (x180_1 : Int32) (ν : Mem), k180 (x180_1, ν) = some X → JJ γ p l e rm_X12_image s m args below meth c 2 0 0 (QI below γ S X args s 0 0) S ν 180 [(0, .ref (gb γ + a0)), (1, .int x180_1)] []) (x : (Int32 × Mem)) (h : l_X12_image_180 S a0 k180 x = some X) : JJ γ p l e rm_X12_image s m args below meth c 2 0 0 (QI below γ S X args s 0 0) S x.2 180 [(0, .ref (gb γ + a0)), (1, .int x.1)] [] := by
  unfold l_X12_image_180 at h
  refine j_iload_n F 1 dX12_image_180 rfl ?_
  refine j_iconst F 3 dX12_image_181 (by decide) ?_
  refine j_icmpge F 206 dX12_image_182 (by decide) h (fun _ h => ?_) (fun _ h => ?_)
  · refine j_lv [(0, .ref (gb γ + a0))] [0] rfl ?_
    exact s_X12_image_206 F hr _ _ h
  · refine j_aload_n F 0 dX12_image_185 rfl ?_
    refine j_gR F fl_RX12_39 rfl dX12_image_186 h (fun v6 h => ?_)
    refine j_bipush F 118 dX12_image_189 (by decide) ?_
    refine j_iload_n F 1 dX12_image_191 rfl ?_
    refine j_iadd F dX12_image_192 ?_
    refine j_aload_n F 0 dX12_image_193 rfl ?_
    refine j_gR F fl_RX12_27 rfl dX12_image_194 h (fun v7 h => ?_)
    refine j_iload_n F 1 dX12_image_197 rfl ?_
    refine j_iald F dX12_image_198 h (fun v8 h => ?_)
    refine j_iast F dX12_image_199 h (fun ν9 h => ?_)
    refine j_iinc F 1 1 [(1, .int (x.1 + 1)), (0, .ref (gb γ + a0))] dX12_image_200 rfl (by decide) (by decide) rfl ?_
    refine j_goto F 180 dX12_image_203 (by decide) ?_
    refine j_lv [(0, .ref (gb γ + a0)), (1, .int (x.1 + 1))] [1, 0] rfl ?_
    exact hk180 _ _ h
theorem s_X12_image_180 {γ : GE} {p : Program} {l : Launch} {e : Env} {s : State} {m : MethodId} {args : Array Value} {below : List Frame} {meth : Method} {c : Code} {S : SH} {X : (Int32 × Mem)} (F : FX γ p s m args meth c cX12_image RX12 2) (hr : meth.sig.returnType = (some .int)) (a0 : Nat) (x180_1 : Int32) (ν : Mem) (h : lpN (l_X12_image_180 S a0) fu (x180_1, ν) = some X) : JJ γ p l e rm_X12_image s m args below meth c 2 0 0 (QI below γ S X args s 0 0) S ν 180 [(0, .ref (gb γ + a0)), (1, .int x180_1)] [] :=
 lpN_sound (fun x => JJ γ p l e rm_X12_image s m args below meth c 2 0 0 (QI below γ S X args s 0 0) S x.2 180 [(0, .ref (gb γ + a0)), (1, .int x.1)] []) (fun k180 hk180 x h => t_X12_image_180 F hr a0 k180 (fun x180_1 ν h => hk180 (x180_1, ν) h) x h) fu (x180_1, ν) h
def b_X12_image_178 (S : SH) (a0 : Nat) (μ : Mem) : Option (Int32 × Mem) :=
 lpN (l_X12_image_180 S a0) fu (0, μ)
set_option maxRecDepth 100000 in
set_option maxHeartbeats 4000000 in
theorem s_X12_image_178 {γ : GE} {p : Program} {l : Launch} {e : Env} {s : State} {m : MethodId} {args : Array Value} {below : List Frame} {meth : Method} {c : Code} {S : SH} {X : (Int32 × Mem)} (F : FX γ p s m args meth c cX12_image RX12 2) (hr : meth.sig.returnType = (some .int)) (a0 : Nat)    (μ : Mem) (h : b_X12_image_178 S a0 μ = some X) : JJ γ p l e rm_X12_image s m args below meth c 2 0 0 (QI below γ S X args s 0 0) S μ 178 [(0, .ref (gb γ + a0))] [] := by
  unfold b_X12_image_178 at h
  refine j_iconst F 0 dX12_image_178 (by decide) ?_
  refine j_istore_n F [(1, .int 0), (0, .ref (gb γ + a0))] dX12_image_179 rfl (by decide) rfl ?_
  refine j_lv [(0, .ref (gb γ + a0)), (1, .int 0)] [1, 0] rfl ?_
  exact s_X12_image_180 F hr _ _ _ h
def l_X12_image_151 (S : SH) (a0 : Nat) (k151 : (Int32 × Mem) → Option (Int32 × Mem)) (x : (Int32 × Mem)) : Option (Int32 × Mem) :=
 (if 14 ≤ x.1 then
 b_X12_image_178 S a0 x.2
 else
 (gR S 12 a0 10).bind fun v10 =>
 (gR S 12 a0 9).bind fun v11 =>
 (aI S .int v11 x.1 x.2).bind fun v12 =>
 (sI S v10 (104 + x.1) v12 x.2).bind fun ν13 =>
 k151 (x.1 + 1, ν13))
set_option maxRecDepth 100000 in
set_option maxHeartbeats 4000000 in
theorem t_X12_image_151 {γ : GE} {p : Program} {l : Launch} {e : Env} {s : State} {m : MethodId} {args : Array Value} {below : List Frame} {meth : Method} {c : Code} {S : SH} {X : (Int32 × Mem)} (F : FX γ p s m args meth c cX12_image RX12 2) (hr : meth.sig.returnType = (some .int)) (a0 : Nat) (k151 : (Int32 × Mem) → Option (Int32 × Mem)) (hk151 : ∀ (x151_1 : Int32) (ν : Mem), k151 (x151_1, ν) = some X → JJ γ p l e rm_X12_image s m args below meth c 2 0 0 (QI below γ S X args s 0 0) S ν 151 [(0, .ref (gb γ + a0)), (1, .int x151_1)] []) (x : (Int32 × Mem)) (h : l_X12_image_151 S a0 k151 x = some X) : JJ γ p l e rm_X12_image s m args below meth c 2 0 0 (QI below γ S X args s 0 0) S x.2 151 [(0, .ref (gb γ + a0)), (1, .int x.1)] [] := by
  unfold l_X12_image_151 at h
  refine j_iload_n F 1 dX12_image_151 rfl ?_
  refine j_bipush F 14 dX12_image_152 (by decide) ?_
  refine j_icmpge F 178 dX12_image_154 (by decide) h (fun _ h => ?_) (fun _ h => ?_)
  · refine j_lv [(0, .ref (gb γ + a0))] [0] rfl ?_
    exact s_X12_image_178 F hr _ _ h
  · refine j_aload_n F 0 dX12_image_157 rfl ?_
    refine j_gR F fl_RX12_39 rfl dX12_image_158 h (fun v10 h => ?_)
    refine j_bipush F 104 dX12_image_161 (by decide) ?_
    refine j_iload_n F 1 dX12_image_163 rfl ?_
    refine j_iadd F dX12_image_164 ?_
    refine j_aload_n F 0 dX12_image_165 rfl ?_
    refine j_gR F fl_RX12_36 rfl dX12_image_166 h (fun v11 h => ?_)
    refine j_iload_n F 1 dX12_image_169 rfl ?_
    refine j_iald F dX12_image_170 h (fun v12 h => ?_)
    refine j_iast F dX12_image_171 h (fun ν13 h => ?_)
    refine j_iinc F 1 1 [(1, .int (x.1 + 1)), (0, .ref (gb γ + a0))] dX12_image_172 rfl (by decide) (by decide) rfl ?_
    refine j_goto F 151 dX12_image_175 (by decide) ?_
    refine j_lv [(0, .ref (gb γ + a0)), (1, .int (x.1 + 1))] [1, 0] rfl ?_
    exact hk151 _ _ h
theorem s_X12_image_151 {γ : GE} {p : Program} {l : Launch} {e : Env} {s : State} {m : MethodId} {args : Array Value} {below : List Frame} {meth : Method} {c : Code} {S : SH} {X : (Int32 × Mem)} (F : FX γ p s m args meth c cX12_image RX12 2) (hr : meth.sig.returnType = (some .int)) (a0 : Nat) (x151_1 : Int32) (ν : Mem) (h : lpN (l_X12_image_151 S a0) fu (x151_1, ν) = some X) : JJ γ p l e rm_X12_image s m args below meth c 2 0 0 (QI below γ S X args s 0 0) S ν 151 [(0, .ref (gb γ + a0)), (1, .int x151_1)] [] :=
 lpN_sound (fun x => JJ γ p l e rm_X12_image s m args below meth c 2 0 0 (QI below γ S X args s 0 0) S x.2 151 [(0, .ref (gb γ + a0)), (1, .int x.1)] []) (fun k151 hk151 x h => t_X12_image_151 F hr a0 k151 (fun x151_1 ν h => hk151 (x151_1, ν) h) x h) fu (x151_1, ν) h
def b_X12_image_149 (S : SH) (a0 : Nat) (μ : Mem) : Option (Int32 × Mem) :=
 lpN (l_X12_image_151 S a0) fu (0, μ)
set_option maxRecDepth 100000 in
set_option maxHeartbeats 4000000 in
theorem s_X12_image_149 {γ : GE} {p : Program} {l : Launch} {e : Env} {s : State} {m : MethodId} {args : Array Value} {below : List Frame} {meth : Method} {c : Code} {S : SH} {X : (Int32 × Mem)} (F : FX γ p s m args meth c cX12_image RX12 2) (hr : meth.sig.returnType = (some .int)) (a0 : Nat)    (μ : Mem) (h : b_X12_image_149 S a0 μ = some X) : JJ γ p l e rm_X12_image s m args below meth c 2 0 0 (QI below γ S X args s 0 0) S μ 149 [(0, .ref (gb γ + a0))] [] := by
  unfold b_X12_image_149 at h
  refine j_iconst F 0 dX12_image_149 (by decide) ?_
  refine j_istore_n F [(1, .int 0), (0, .ref (gb γ + a0))] dX12_image_150 rfl (by decide) rfl ?_
  refine j_lv [(0, .ref (gb γ + a0)), (1, .int 0)] [1, 0] rfl ?_
  exact s_X12_image_151 F hr _ _ _ h
def l_X12_image_107 (S : SH) (a0 : Nat) (k107 : (Int32 × Mem) → Option (Int32 × Mem)) (x : (Int32 × Mem)) : Option (Int32 × Mem) :=
 (if 30 ≤ x.1 then
 b_X12_image_149 S a0 x.2
 else
 (gR S 12 a0 10).bind fun v14 =>
 (gR S 12 a0 7).bind fun v15 =>
 (aI S .int v15 x.1 x.2).bind fun v16 =>
 (sI S v14 (44 + x.1) v16 x.2).bind fun ν17 =>
 (gR S 12 a0 10).bind fun v18 =>
 (gR S 12 a0 8).bind fun v19 =>
 (aI S .int v19 x.1 ν17).bind fun v20 =>
 (sI S v18 (74 + x.1) v20 ν17).bind fun ν21 =>
 k107 (x.1 + 1, ν21))
set_option maxRecDepth 100000 in
set_option maxHeartbeats 4000000 in
theorem t_X12_image_107 {γ : GE} {p : Program} {l : Launch} {e : Env} {s : State} {m : MethodId} {args : Array Value} {below : List Frame} {meth : Method} {c : Code} {S : SH} {X : (Int32 × Mem)} (F : FX γ p s m args meth c cX12_image RX12 2) (hr : meth.sig.returnType = (some .int)) (a0 : Nat) (k107 : (Int32 × Mem) → Option (Int32 × Mem)) (hk107 : ∀ (x107_1 : Int32) (ν : Mem), k107 (x107_1, ν) = some X → JJ γ p l e rm_X12_image s m args below meth c 2 0 0 (QI below γ S X args s 0 0) S ν 107 [(0, .ref (gb γ + a0)), (1, .int x107_1)] []) (x : (Int32 × Mem)) (h : l_X12_image_107 S a0 k107 x = some X) : JJ γ p l e rm_X12_image s m args below meth c 2 0 0 (QI below γ S X args s 0 0) S x.2 107 [(0, .ref (gb γ + a0)), (1, .int x.1)] [] := by
  unfold l_X12_image_107 at h
  refine j_iload_n F 1 dX12_image_107 rfl ?_
  refine j_bipush F 30 dX12_image_108 (by decide) ?_
  refine j_icmpge F 149 dX12_image_110 (by decide) h (fun _ h => ?_) (fun _ h => ?_)
  · refine j_lv [(0, .ref (gb γ + a0))] [0] rfl ?_
    exact s_X12_image_149 F hr _ _ h
  · refine j_aload_n F 0 dX12_image_113 rfl ?_
    refine j_gR F fl_RX12_39 rfl dX12_image_114 h (fun v14 h => ?_)
    refine j_bipush F 44 dX12_image_117 (by decide) ?_
    refine j_iload_n F 1 dX12_image_119 rfl ?_
    refine j_iadd F dX12_image_120 ?_
    refine j_aload_n F 0 dX12_image_121 rfl ?_
    refine j_gR F fl_RX12_30 rfl dX12_image_122 h (fun v15 h => ?_)
    refine j_iload_n F 1 dX12_image_125 rfl ?_
    refine j_iald F dX12_image_126 h (fun v16 h => ?_)
    refine j_iast F dX12_image_127 h (fun ν17 h => ?_)
    refine j_aload_n F 0 dX12_image_128 rfl ?_
    refine j_gR F fl_RX12_39 rfl dX12_image_129 h (fun v18 h => ?_)
    refine j_bipush F 74 dX12_image_132 (by decide) ?_
    refine j_iload_n F 1 dX12_image_134 rfl ?_
    refine j_iadd F dX12_image_135 ?_
    refine j_aload_n F 0 dX12_image_136 rfl ?_
    refine j_gR F fl_RX12_33 rfl dX12_image_137 h (fun v19 h => ?_)
    refine j_iload_n F 1 dX12_image_140 rfl ?_
    refine j_iald F dX12_image_141 h (fun v20 h => ?_)
    refine j_iast F dX12_image_142 h (fun ν21 h => ?_)
    refine j_iinc F 1 1 [(1, .int (x.1 + 1)), (0, .ref (gb γ + a0))] dX12_image_143 rfl (by decide) (by decide) rfl ?_
    refine j_goto F 107 dX12_image_146 (by decide) ?_
    refine j_lv [(0, .ref (gb γ + a0)), (1, .int (x.1 + 1))] [1, 0] rfl ?_
    exact hk107 _ _ h
theorem s_X12_image_107 {γ : GE} {p : Program} {l : Launch} {e : Env} {s : State} {m : MethodId} {args : Array Value} {below : List Frame} {meth : Method} {c : Code} {S : SH} {X : (Int32 × Mem)} (F : FX γ p s m args meth c cX12_image RX12 2) (hr : meth.sig.returnType = (some .int)) (a0 : Nat) (x107_1 : Int32) (ν : Mem) (h : lpN (l_X12_image_107 S a0) fu (x107_1, ν) = some X) : JJ γ p l e rm_X12_image s m args below meth c 2 0 0 (QI below γ S X args s 0 0) S ν 107 [(0, .ref (gb γ + a0)), (1, .int x107_1)] [] :=
 lpN_sound (fun x => JJ γ p l e rm_X12_image s m args below meth c 2 0 0 (QI below γ S X args s 0 0) S x.2 107 [(0, .ref (gb γ + a0)), (1, .int x.1)] []) (fun k107 hk107 x h => t_X12_image_107 F hr a0 k107 (fun x107_1 ν h => hk107 (x107_1, ν) h) x h) fu (x107_1, ν) h
def b_X12_image_105 (S : SH) (a0 : Nat) (μ : Mem) : Option (Int32 × Mem) :=
 lpN (l_X12_image_107 S a0) fu (0, μ)
set_option maxRecDepth 100000 in
set_option maxHeartbeats 4000000 in
theorem s_X12_image_105 {γ : GE} {p : Program} {l : Launch} {e : Env} {s : State} {m : MethodId} {args : Array Value} {below : List Frame} {meth : Method} {c : Code} {S : SH} {X : (Int32 × Mem)} (F : FX γ p s m args meth c cX12_image RX12 2) (hr : meth.sig.returnType = (some .int)) (a0 : Nat)    (μ : Mem) (h : b_X12_image_105 S a0 μ = some X) : JJ γ p l e rm_X12_image s m args below meth c 2 0 0 (QI below γ S X args s 0 0) S μ 105 [(0, .ref (gb γ + a0))] [] := by
  unfold b_X12_image_105 at h
  refine j_iconst F 0 dX12_image_105 (by decide) ?_
  refine j_istore_n F [(1, .int 0), (0, .ref (gb γ + a0))] dX12_image_106 rfl (by decide) rfl ?_
  refine j_lv [(0, .ref (gb γ + a0)), (1, .int 0)] [1, 0] rfl ?_
  exact s_X12_image_107 F hr _ _ _ h
def l_X12_image_33 (S : SH) (a0 : Nat) (k33 : (Int32 × Mem) → Option (Int32 × Mem)) (x : (Int32 × Mem)) : Option (Int32 × Mem) :=
 (if 8 ≤ x.1 then
 b_X12_image_105 S a0 x.2
 else
 (gR S 12 a0 10).bind fun v22 =>
 (gR S 12 a0 2).bind fun v23 =>
 (aI S .int v23 x.1 x.2).bind fun v24 =>
 (sI S v22 (12 + x.1) v24 x.2).bind fun ν25 =>
 (gR S 12 a0 10).bind fun v26 =>
 (gR S 12 a0 3).bind fun v27 =>
 (aI S .int v27 x.1 ν25).bind fun v28 =>
 (sI S v26 (20 + x.1) v28 ν25).bind fun ν29 =>
 (gR S 12 a0 10).bind fun v30 =>
 (gR S 12 a0 4).bind fun v31 =>
 (aI S .int v31 x.1 ν29).bind fun v32 =>
 (sI S v30 (28 + x.1) v32 ν29).bind fun ν33 =>
 (gR S 12 a0 10).bind fun v34 =>
 (gR S 12 a0 5).bind fun v35 =>
 (aI S .int v35 x.1 ν33).bind fun v36 =>
 (sI S v34 (36 + x.1) v36 ν33).bind fun ν37 =>
 k33 (x.1 + 1, ν37))
set_option maxRecDepth 100000 in
set_option maxHeartbeats 4000000 in
theorem t_X12_image_33 {γ : GE} {p : Program} {l : Launch} {e : Env} {s : State} {m : MethodId} {args : Array Value} {below : List Frame} {meth : Method} {c : Code} {S : SH} {X : (Int32 × Mem)} (F : FX γ p s m args meth c cX12_image RX12 2) (hr : meth.sig.returnType = (some .int)) (a0 : Nat) (k33 : (Int32 × Mem) → Option (Int32 × Mem)) (hk33 : ∀ (x33_1 : Int32) (ν : Mem), k33 (x33_1, ν) = some X → JJ γ p l e rm_X12_image s m args below meth c 2 0 0 (QI below γ S X args s 0 0) S ν 33 [(0, .ref (gb γ + a0)), (1, .int x33_1)] []) (x : (Int32 × Mem)) (h : l_X12_image_33 S a0 k33 x = some X) : JJ γ p l e rm_X12_image s m args below meth c 2 0 0 (QI below γ S X args s 0 0) S x.2 33 [(0, .ref (gb γ + a0)), (1, .int x.1)] [] := by
  unfold l_X12_image_33 at h
  refine j_iload_n F 1 dX12_image_33 rfl ?_
  refine j_bipush F 8 dX12_image_34 (by decide) ?_
  refine j_icmpge F 105 dX12_image_36 (by decide) h (fun _ h => ?_) (fun _ h => ?_)
  · refine j_lv [(0, .ref (gb γ + a0))] [0] rfl ?_
    exact s_X12_image_105 F hr _ _ h
  · refine j_aload_n F 0 dX12_image_39 rfl ?_
    refine j_gR F fl_RX12_39 rfl dX12_image_40 h (fun v22 h => ?_)
    refine j_bipush F 12 dX12_image_43 (by decide) ?_
    refine j_iload_n F 1 dX12_image_45 rfl ?_
    refine j_iadd F dX12_image_46 ?_
    refine j_aload_n F 0 dX12_image_47 rfl ?_
    refine j_gR F fl_RX12_15 rfl dX12_image_48 h (fun v23 h => ?_)
    refine j_iload_n F 1 dX12_image_51 rfl ?_
    refine j_iald F dX12_image_52 h (fun v24 h => ?_)
    refine j_iast F dX12_image_53 h (fun ν25 h => ?_)
    refine j_aload_n F 0 dX12_image_54 rfl ?_
    refine j_gR F fl_RX12_39 rfl dX12_image_55 h (fun v26 h => ?_)
    refine j_bipush F 20 dX12_image_58 (by decide) ?_
    refine j_iload_n F 1 dX12_image_60 rfl ?_
    refine j_iadd F dX12_image_61 ?_
    refine j_aload_n F 0 dX12_image_62 rfl ?_
    refine j_gR F fl_RX12_18 rfl dX12_image_63 h (fun v27 h => ?_)
    refine j_iload_n F 1 dX12_image_66 rfl ?_
    refine j_iald F dX12_image_67 h (fun v28 h => ?_)
    refine j_iast F dX12_image_68 h (fun ν29 h => ?_)
    refine j_aload_n F 0 dX12_image_69 rfl ?_
    refine j_gR F fl_RX12_39 rfl dX12_image_70 h (fun v30 h => ?_)
    refine j_bipush F 28 dX12_image_73 (by decide) ?_
    refine j_iload_n F 1 dX12_image_75 rfl ?_
    refine j_iadd F dX12_image_76 ?_
    refine j_aload_n F 0 dX12_image_77 rfl ?_
    refine j_gR F fl_RX12_21 rfl dX12_image_78 h (fun v31 h => ?_)
    refine j_iload_n F 1 dX12_image_81 rfl ?_
    refine j_iald F dX12_image_82 h (fun v32 h => ?_)
    refine j_iast F dX12_image_83 h (fun ν33 h => ?_)
    refine j_aload_n F 0 dX12_image_84 rfl ?_
    refine j_gR F fl_RX12_39 rfl dX12_image_85 h (fun v34 h => ?_)
    refine j_bipush F 36 dX12_image_88 (by decide) ?_
    refine j_iload_n F 1 dX12_image_90 rfl ?_
    refine j_iadd F dX12_image_91 ?_
    refine j_aload_n F 0 dX12_image_92 rfl ?_
    refine j_gR F fl_RX12_24 rfl dX12_image_93 h (fun v35 h => ?_)
    refine j_iload_n F 1 dX12_image_96 rfl ?_
    refine j_iald F dX12_image_97 h (fun v36 h => ?_)
    refine j_iast F dX12_image_98 h (fun ν37 h => ?_)
    refine j_iinc F 1 1 [(1, .int (x.1 + 1)), (0, .ref (gb γ + a0))] dX12_image_99 rfl (by decide) (by decide) rfl ?_
    refine j_goto F 33 dX12_image_102 (by decide) ?_
    refine j_lv [(0, .ref (gb γ + a0)), (1, .int (x.1 + 1))] [1, 0] rfl ?_
    exact hk33 _ _ h
theorem s_X12_image_33 {γ : GE} {p : Program} {l : Launch} {e : Env} {s : State} {m : MethodId} {args : Array Value} {below : List Frame} {meth : Method} {c : Code} {S : SH} {X : (Int32 × Mem)} (F : FX γ p s m args meth c cX12_image RX12 2) (hr : meth.sig.returnType = (some .int)) (a0 : Nat) (x33_1 : Int32) (ν : Mem) (h : lpN (l_X12_image_33 S a0) fu (x33_1, ν) = some X) : JJ γ p l e rm_X12_image s m args below meth c 2 0 0 (QI below γ S X args s 0 0) S ν 33 [(0, .ref (gb γ + a0)), (1, .int x33_1)] [] :=
 lpN_sound (fun x => JJ γ p l e rm_X12_image s m args below meth c 2 0 0 (QI below γ S X args s 0 0) S x.2 33 [(0, .ref (gb γ + a0)), (1, .int x.1)] []) (fun k33 hk33 x h => t_X12_image_33 F hr a0 k33 (fun x33_1 ν h => hk33 (x33_1, ν) h) x h) fu (x33_1, ν) h
def b_X12_image_31 (S : SH) (a0 : Nat) (μ : Mem) : Option (Int32 × Mem) :=
 lpN (l_X12_image_33 S a0) fu (0, μ)
set_option maxRecDepth 100000 in
set_option maxHeartbeats 4000000 in
theorem s_X12_image_31 {γ : GE} {p : Program} {l : Launch} {e : Env} {s : State} {m : MethodId} {args : Array Value} {below : List Frame} {meth : Method} {c : Code} {S : SH} {X : (Int32 × Mem)} (F : FX γ p s m args meth c cX12_image RX12 2) (hr : meth.sig.returnType = (some .int)) (a0 : Nat)    (μ : Mem) (h : b_X12_image_31 S a0 μ = some X) : JJ γ p l e rm_X12_image s m args below meth c 2 0 0 (QI below γ S X args s 0 0) S μ 31 [(0, .ref (gb γ + a0))] [] := by
  unfold b_X12_image_31 at h
  refine j_iconst F 0 dX12_image_31 (by decide) ?_
  refine j_istore_n F [(1, .int 0), (0, .ref (gb γ + a0))] dX12_image_32 rfl (by decide) rfl ?_
  refine j_lv [(0, .ref (gb γ + a0)), (1, .int 0)] [1, 0] rfl ?_
  exact s_X12_image_33 F hr _ _ _ h
def l_X12_image_7 (S : SH) (a0 : Nat) (k7 : (Int32 × Mem) → Option (Int32 × Mem)) (x : (Int32 × Mem)) : Option (Int32 × Mem) :=
 (if 12 ≤ x.1 then
 b_X12_image_31 S a0 x.2
 else
 (gR S 12 a0 10).bind fun v38 =>
 (gR S 12 a0 0).bind fun v39 =>
 (aI S .int v39 x.1 x.2).bind fun v40 =>
 (sI S v38 x.1 v40 x.2).bind fun ν41 =>
 k7 (x.1 + 1, ν41))
set_option maxRecDepth 100000 in
set_option maxHeartbeats 4000000 in
theorem t_X12_image_7 {γ : GE} {p : Program} {l : Launch} {e : Env} {s : State} {m : MethodId} {args : Array Value} {below : List Frame} {meth : Method} {c : Code} {S : SH} {X : (Int32 × Mem)} (F : FX γ p s m args meth c cX12_image RX12 2) (hr : meth.sig.returnType = (some .int)) (a0 : Nat) (k7 : (Int32 × Mem) → Option (Int32 × Mem)) (hk7 : ∀ (x7_1 : Int32) (ν : Mem), k7 (x7_1, ν) = some X → JJ γ p l e rm_X12_image s m args below meth c 2 0 0 (QI below γ S X args s 0 0) S ν 7 [(0, .ref (gb γ + a0)), (1, .int x7_1)] []) (x : (Int32 × Mem)) (h : l_X12_image_7 S a0 k7 x = some X) : JJ γ p l e rm_X12_image s m args below meth c 2 0 0 (QI below γ S X args s 0 0) S x.2 7 [(0, .ref (gb γ + a0)), (1, .int x.1)] [] := by
  unfold l_X12_image_7 at h
  refine j_iload_n F 1 dX12_image_7 rfl ?_
  refine j_bipush F 12 dX12_image_8 (by decide) ?_
  refine j_icmpge F 31 dX12_image_10 (by decide) h (fun _ h => ?_) (fun _ h => ?_)
  · refine j_lv [(0, .ref (gb γ + a0))] [0] rfl ?_
    exact s_X12_image_31 F hr _ _ h
  · refine j_aload_n F 0 dX12_image_13 rfl ?_
    refine j_gR F fl_RX12_39 rfl dX12_image_14 h (fun v38 h => ?_)
    refine j_iload_n F 1 dX12_image_17 rfl ?_
    refine j_aload_n F 0 dX12_image_18 rfl ?_
    refine j_gR F fl_RX12_9 rfl dX12_image_19 h (fun v39 h => ?_)
    refine j_iload_n F 1 dX12_image_22 rfl ?_
    refine j_iald F dX12_image_23 h (fun v40 h => ?_)
    refine j_iast F dX12_image_24 h (fun ν41 h => ?_)
    refine j_iinc F 1 1 [(1, .int (x.1 + 1)), (0, .ref (gb γ + a0))] dX12_image_25 rfl (by decide) (by decide) rfl ?_
    refine j_goto F 7 dX12_image_28 (by decide) ?_
    refine j_lv [(0, .ref (gb γ + a0)), (1, .int (x.1 + 1))] [1, 0] rfl ?_
    exact hk7 _ _ h
theorem s_X12_image_7 {γ : GE} {p : Program} {l : Launch} {e : Env} {s : State} {m : MethodId} {args : Array Value} {below : List Frame} {meth : Method} {c : Code} {S : SH} {X : (Int32 × Mem)} (F : FX γ p s m args meth c cX12_image RX12 2) (hr : meth.sig.returnType = (some .int)) (a0 : Nat) (x7_1 : Int32) (ν : Mem) (h : lpN (l_X12_image_7 S a0) fu (x7_1, ν) = some X) : JJ γ p l e rm_X12_image s m args below meth c 2 0 0 (QI below γ S X args s 0 0) S ν 7 [(0, .ref (gb γ + a0)), (1, .int x7_1)] [] :=
 lpN_sound (fun x => JJ γ p l e rm_X12_image s m args below meth c 2 0 0 (QI below γ S X args s 0 0) S x.2 7 [(0, .ref (gb γ + a0)), (1, .int x.1)] []) (fun k7 hk7 x h => t_X12_image_7 F hr a0 k7 (fun x7_1 ν h => hk7 (x7_1, ν) h) x h) fu (x7_1, ν) h
def f_X12_image (S : SH) (a0 : Nat) (μ : Mem) : Option (Int32 × Mem) :=
  if isO S 12 a0 = true then
  (pZ S 12 a0 11 1 μ).bind fun ν1 =>
  lpN (l_X12_image_7 S  a0) fu (0, ν1)
  else none
set_option maxRecDepth 100000 in
set_option maxHeartbeats 4000000 in
theorem c_X12_image {l : Launch} {γ : GE} {S : SH} {a0 : Nat} {μ : Mem} {X : (Int32 × Mem)} (h : f_X12_image S a0 μ = some X) : isO S 12 a0 = true ∧ Ct l γ yX12_image cX12_image 2 (some .int) rm_X12_image [.ref (gb γ + a0)] S μ S X.2 (some (.int X.1)) := by
  unfold f_X12_image at h
  obtain ⟨h0, h⟩ := if_some h
  refine ⟨h0, ?_⟩
  have hJ : ∀ (p : Program) (e : Env) (s : State) (m : MethodId) (args : Array Value) (below : List Frame) (meth : Method) (c : Code), FX γ p s m args meth c cX12_image RX12 2 → meth.sig.returnType = (some .int) → JJ γ p l e rm_X12_image s m args below meth c 2 0 0 (QI below γ S X args s 0 0) S μ 0 [(0, .ref (gb γ + a0))] [] := by
    intro p e s m args below meth c F hr
    refine j_aload_n F 0 dX12_image_0 rfl ?_
    refine j_iconst F 1 dX12_image_1 (by decide) ?_
    refine j_pZ F fl_RX12_361 rfl dX12_image_2 h (fun ν1 h => ?_)
    refine j_iconst F 0 dX12_image_5 (by decide) ?_
    refine j_istore_n F [(1, .int 0), (0, .ref (gb γ + a0))] dX12_image_6 rfl (by decide) rfl ?_
    refine j_lv [(0, .ref (gb γ + a0)), (1, .int 0)] [1, 0] rfl ?_
    exact s_X12_image_7 F hr _ _ _ h
  exact ct_of (by decide +kernel) (Nat.le_of_ble_eq_true rfl) (fun p e s m args below meth c F hr _ => hJ p e s m args below meth c F hr)
def rm_X12_undo : Room := { frames := 0, cells := 0, slots := 0, locals := 0 }
theorem dX12_undo_0 : decode cX12_undo 0 = .ok (.aload_n 0, 1) := by decide +kernel
theorem dX12_undo_1 : decode cX12_undo 1 = .ok (.getfield 361, 3) := by decide +kernel
theorem dX12_undo_4 : decode cX12_undo 4 = .ok (.ifCond .ne 6, 3) := by decide +kernel
theorem dX12_undo_7 : decode cX12_undo 7 = .ok (.bipush (-3), 2) := by decide +kernel
theorem dX12_undo_9 : decode cX12_undo 9 = .ok (.ireturn, 1) := by decide +kernel
theorem dX12_undo_10 : decode cX12_undo 10 = .ok (.iconst 0, 1) := by decide +kernel
theorem dX12_undo_11 : decode cX12_undo 11 = .ok (.istore_n 1, 1) := by decide +kernel
theorem dX12_undo_12 : decode cX12_undo 12 = .ok (.iload_n 1, 1) := by decide +kernel
theorem dX12_undo_13 : decode cX12_undo 13 = .ok (.bipush 12, 2) := by decide +kernel
theorem dX12_undo_15 : decode cX12_undo 15 = .ok (.if_icmp .ge 21, 3) := by decide +kernel
theorem dX12_undo_18 : decode cX12_undo 18 = .ok (.aload_n 0, 1) := by decide +kernel
theorem dX12_undo_19 : decode cX12_undo 19 = .ok (.getfield 9, 3) := by decide +kernel
theorem dX12_undo_22 : decode cX12_undo 22 = .ok (.iload_n 1, 1) := by decide +kernel
theorem dX12_undo_23 : decode cX12_undo 23 = .ok (.aload_n 0, 1) := by decide +kernel
theorem dX12_undo_24 : decode cX12_undo 24 = .ok (.getfield 39, 3) := by decide +kernel
theorem dX12_undo_27 : decode cX12_undo 27 = .ok (.iload_n 1, 1) := by decide +kernel
theorem dX12_undo_28 : decode cX12_undo 28 = .ok (.iaload, 1) := by decide +kernel
theorem dX12_undo_29 : decode cX12_undo 29 = .ok (.iastore, 1) := by decide +kernel
theorem dX12_undo_30 : decode cX12_undo 30 = .ok (.iinc 1 1, 3) := by decide +kernel
theorem dX12_undo_33 : decode cX12_undo 33 = .ok (.goto (-21), 3) := by decide +kernel
theorem dX12_undo_36 : decode cX12_undo 36 = .ok (.iconst 0, 1) := by decide +kernel
theorem dX12_undo_37 : decode cX12_undo 37 = .ok (.istore_n 1, 1) := by decide +kernel
theorem dX12_undo_38 : decode cX12_undo 38 = .ok (.iload_n 1, 1) := by decide +kernel
theorem dX12_undo_39 : decode cX12_undo 39 = .ok (.bipush 8, 2) := by decide +kernel
theorem dX12_undo_41 : decode cX12_undo 41 = .ok (.if_icmp .ge 69, 3) := by decide +kernel
theorem dX12_undo_44 : decode cX12_undo 44 = .ok (.aload_n 0, 1) := by decide +kernel
theorem dX12_undo_45 : decode cX12_undo 45 = .ok (.getfield 15, 3) := by decide +kernel
theorem dX12_undo_48 : decode cX12_undo 48 = .ok (.iload_n 1, 1) := by decide +kernel
theorem dX12_undo_49 : decode cX12_undo 49 = .ok (.aload_n 0, 1) := by decide +kernel
theorem dX12_undo_50 : decode cX12_undo 50 = .ok (.getfield 39, 3) := by decide +kernel
theorem dX12_undo_53 : decode cX12_undo 53 = .ok (.bipush 12, 2) := by decide +kernel
theorem dX12_undo_55 : decode cX12_undo 55 = .ok (.iload_n 1, 1) := by decide +kernel
theorem dX12_undo_56 : decode cX12_undo 56 = .ok (.iadd, 1) := by decide +kernel
theorem dX12_undo_57 : decode cX12_undo 57 = .ok (.iaload, 1) := by decide +kernel
theorem dX12_undo_58 : decode cX12_undo 58 = .ok (.iastore, 1) := by decide +kernel
theorem dX12_undo_59 : decode cX12_undo 59 = .ok (.aload_n 0, 1) := by decide +kernel
theorem dX12_undo_60 : decode cX12_undo 60 = .ok (.getfield 18, 3) := by decide +kernel
theorem dX12_undo_63 : decode cX12_undo 63 = .ok (.iload_n 1, 1) := by decide +kernel
theorem dX12_undo_64 : decode cX12_undo 64 = .ok (.aload_n 0, 1) := by decide +kernel
theorem dX12_undo_65 : decode cX12_undo 65 = .ok (.getfield 39, 3) := by decide +kernel
theorem dX12_undo_68 : decode cX12_undo 68 = .ok (.bipush 20, 2) := by decide +kernel
theorem dX12_undo_70 : decode cX12_undo 70 = .ok (.iload_n 1, 1) := by decide +kernel
theorem dX12_undo_71 : decode cX12_undo 71 = .ok (.iadd, 1) := by decide +kernel
theorem dX12_undo_72 : decode cX12_undo 72 = .ok (.iaload, 1) := by decide +kernel
theorem dX12_undo_73 : decode cX12_undo 73 = .ok (.iastore, 1) := by decide +kernel
theorem dX12_undo_74 : decode cX12_undo 74 = .ok (.aload_n 0, 1) := by decide +kernel
theorem dX12_undo_75 : decode cX12_undo 75 = .ok (.getfield 21, 3) := by decide +kernel
theorem dX12_undo_78 : decode cX12_undo 78 = .ok (.iload_n 1, 1) := by decide +kernel
theorem dX12_undo_79 : decode cX12_undo 79 = .ok (.aload_n 0, 1) := by decide +kernel
theorem dX12_undo_80 : decode cX12_undo 80 = .ok (.getfield 39, 3) := by decide +kernel
theorem dX12_undo_83 : decode cX12_undo 83 = .ok (.bipush 28, 2) := by decide +kernel
theorem dX12_undo_85 : decode cX12_undo 85 = .ok (.iload_n 1, 1) := by decide +kernel
theorem dX12_undo_86 : decode cX12_undo 86 = .ok (.iadd, 1) := by decide +kernel
theorem dX12_undo_87 : decode cX12_undo 87 = .ok (.iaload, 1) := by decide +kernel
theorem dX12_undo_88 : decode cX12_undo 88 = .ok (.iastore, 1) := by decide +kernel
theorem dX12_undo_89 : decode cX12_undo 89 = .ok (.aload_n 0, 1) := by decide +kernel
theorem dX12_undo_90 : decode cX12_undo 90 = .ok (.getfield 24, 3) := by decide +kernel
theorem dX12_undo_93 : decode cX12_undo 93 = .ok (.iload_n 1, 1) := by decide +kernel
theorem dX12_undo_94 : decode cX12_undo 94 = .ok (.aload_n 0, 1) := by decide +kernel
theorem dX12_undo_95 : decode cX12_undo 95 = .ok (.getfield 39, 3) := by decide +kernel
theorem dX12_undo_98 : decode cX12_undo 98 = .ok (.bipush 36, 2) := by decide +kernel
theorem dX12_undo_100 : decode cX12_undo 100 = .ok (.iload_n 1, 1) := by decide +kernel
theorem dX12_undo_101 : decode cX12_undo 101 = .ok (.iadd, 1) := by decide +kernel
theorem dX12_undo_102 : decode cX12_undo 102 = .ok (.iaload, 1) := by decide +kernel
theorem dX12_undo_103 : decode cX12_undo 103 = .ok (.iastore, 1) := by decide +kernel
theorem dX12_undo_104 : decode cX12_undo 104 = .ok (.iinc 1 1, 3) := by decide +kernel
theorem dX12_undo_107 : decode cX12_undo 107 = .ok (.goto (-69), 3) := by decide +kernel
theorem dX12_undo_110 : decode cX12_undo 110 = .ok (.iconst 0, 1) := by decide +kernel
theorem dX12_undo_111 : decode cX12_undo 111 = .ok (.istore_n 1, 1) := by decide +kernel
theorem dX12_undo_112 : decode cX12_undo 112 = .ok (.iload_n 1, 1) := by decide +kernel
theorem dX12_undo_113 : decode cX12_undo 113 = .ok (.bipush 30, 2) := by decide +kernel
theorem dX12_undo_115 : decode cX12_undo 115 = .ok (.if_icmp .ge 39, 3) := by decide +kernel
theorem dX12_undo_118 : decode cX12_undo 118 = .ok (.aload_n 0, 1) := by decide +kernel
theorem dX12_undo_119 : decode cX12_undo 119 = .ok (.getfield 30, 3) := by decide +kernel
theorem dX12_undo_122 : decode cX12_undo 122 = .ok (.iload_n 1, 1) := by decide +kernel
theorem dX12_undo_123 : decode cX12_undo 123 = .ok (.aload_n 0, 1) := by decide +kernel
theorem dX12_undo_124 : decode cX12_undo 124 = .ok (.getfield 39, 3) := by decide +kernel
theorem dX12_undo_127 : decode cX12_undo 127 = .ok (.bipush 44, 2) := by decide +kernel
theorem dX12_undo_129 : decode cX12_undo 129 = .ok (.iload_n 1, 1) := by decide +kernel
theorem dX12_undo_130 : decode cX12_undo 130 = .ok (.iadd, 1) := by decide +kernel
theorem dX12_undo_131 : decode cX12_undo 131 = .ok (.iaload, 1) := by decide +kernel
theorem dX12_undo_132 : decode cX12_undo 132 = .ok (.iastore, 1) := by decide +kernel
theorem dX12_undo_133 : decode cX12_undo 133 = .ok (.aload_n 0, 1) := by decide +kernel
theorem dX12_undo_134 : decode cX12_undo 134 = .ok (.getfield 33, 3) := by decide +kernel
theorem dX12_undo_137 : decode cX12_undo 137 = .ok (.iload_n 1, 1) := by decide +kernel
theorem dX12_undo_138 : decode cX12_undo 138 = .ok (.aload_n 0, 1) := by decide +kernel
theorem dX12_undo_139 : decode cX12_undo 139 = .ok (.getfield 39, 3) := by decide +kernel
theorem dX12_undo_142 : decode cX12_undo 142 = .ok (.bipush 74, 2) := by decide +kernel
theorem dX12_undo_144 : decode cX12_undo 144 = .ok (.iload_n 1, 1) := by decide +kernel
theorem dX12_undo_145 : decode cX12_undo 145 = .ok (.iadd, 1) := by decide +kernel
theorem dX12_undo_146 : decode cX12_undo 146 = .ok (.iaload, 1) := by decide +kernel
theorem dX12_undo_147 : decode cX12_undo 147 = .ok (.iastore, 1) := by decide +kernel
theorem dX12_undo_148 : decode cX12_undo 148 = .ok (.iinc 1 1, 3) := by decide +kernel
theorem dX12_undo_151 : decode cX12_undo 151 = .ok (.goto (-39), 3) := by decide +kernel
theorem dX12_undo_154 : decode cX12_undo 154 = .ok (.iconst 0, 1) := by decide +kernel
theorem dX12_undo_155 : decode cX12_undo 155 = .ok (.istore_n 1, 1) := by decide +kernel
theorem dX12_undo_156 : decode cX12_undo 156 = .ok (.iload_n 1, 1) := by decide +kernel
theorem dX12_undo_157 : decode cX12_undo 157 = .ok (.bipush 14, 2) := by decide +kernel
theorem dX12_undo_159 : decode cX12_undo 159 = .ok (.if_icmp .ge 24, 3) := by decide +kernel
theorem dX12_undo_162 : decode cX12_undo 162 = .ok (.aload_n 0, 1) := by decide +kernel
theorem dX12_undo_163 : decode cX12_undo 163 = .ok (.getfield 36, 3) := by decide +kernel
theorem dX12_undo_166 : decode cX12_undo 166 = .ok (.iload_n 1, 1) := by decide +kernel
theorem dX12_undo_167 : decode cX12_undo 167 = .ok (.aload_n 0, 1) := by decide +kernel
theorem dX12_undo_168 : decode cX12_undo 168 = .ok (.getfield 39, 3) := by decide +kernel
theorem dX12_undo_171 : decode cX12_undo 171 = .ok (.bipush 104, 2) := by decide +kernel
theorem dX12_undo_173 : decode cX12_undo 173 = .ok (.iload_n 1, 1) := by decide +kernel
theorem dX12_undo_174 : decode cX12_undo 174 = .ok (.iadd, 1) := by decide +kernel
theorem dX12_undo_175 : decode cX12_undo 175 = .ok (.iaload, 1) := by decide +kernel
theorem dX12_undo_176 : decode cX12_undo 176 = .ok (.iastore, 1) := by decide +kernel
theorem dX12_undo_177 : decode cX12_undo 177 = .ok (.iinc 1 1, 3) := by decide +kernel
theorem dX12_undo_180 : decode cX12_undo 180 = .ok (.goto (-24), 3) := by decide +kernel
theorem dX12_undo_183 : decode cX12_undo 183 = .ok (.iconst 0, 1) := by decide +kernel
theorem dX12_undo_184 : decode cX12_undo 184 = .ok (.istore_n 1, 1) := by decide +kernel
theorem dX12_undo_185 : decode cX12_undo 185 = .ok (.iload_n 1, 1) := by decide +kernel
theorem dX12_undo_186 : decode cX12_undo 186 = .ok (.iconst 3, 1) := by decide +kernel
theorem dX12_undo_187 : decode cX12_undo 187 = .ok (.if_icmp .ge 24, 3) := by decide +kernel
theorem dX12_undo_190 : decode cX12_undo 190 = .ok (.aload_n 0, 1) := by decide +kernel
theorem dX12_undo_191 : decode cX12_undo 191 = .ok (.getfield 27, 3) := by decide +kernel
theorem dX12_undo_194 : decode cX12_undo 194 = .ok (.iload_n 1, 1) := by decide +kernel
theorem dX12_undo_195 : decode cX12_undo 195 = .ok (.aload_n 0, 1) := by decide +kernel
theorem dX12_undo_196 : decode cX12_undo 196 = .ok (.getfield 39, 3) := by decide +kernel
theorem dX12_undo_199 : decode cX12_undo 199 = .ok (.bipush 118, 2) := by decide +kernel
theorem dX12_undo_201 : decode cX12_undo 201 = .ok (.iload_n 1, 1) := by decide +kernel
theorem dX12_undo_202 : decode cX12_undo 202 = .ok (.iadd, 1) := by decide +kernel
theorem dX12_undo_203 : decode cX12_undo 203 = .ok (.iaload, 1) := by decide +kernel
theorem dX12_undo_204 : decode cX12_undo 204 = .ok (.iastore, 1) := by decide +kernel
theorem dX12_undo_205 : decode cX12_undo 205 = .ok (.iinc 1 1, 3) := by decide +kernel
theorem dX12_undo_208 : decode cX12_undo 208 = .ok (.goto (-23), 3) := by decide +kernel
theorem dX12_undo_211 : decode cX12_undo 211 = .ok (.aload_n 0, 1) := by decide +kernel
theorem dX12_undo_212 : decode cX12_undo 212 = .ok (.aload_n 0, 1) := by decide +kernel
theorem dX12_undo_213 : decode cX12_undo 213 = .ok (.getfield 39, 3) := by decide +kernel
theorem dX12_undo_216 : decode cX12_undo 216 = .ok (.bipush 121, 2) := by decide +kernel
theorem dX12_undo_218 : decode cX12_undo 218 = .ok (.iaload, 1) := by decide +kernel
theorem dX12_undo_219 : decode cX12_undo 219 = .ok (.putfield 114, 3) := by decide +kernel
theorem dX12_undo_222 : decode cX12_undo 222 = .ok (.aload_n 0, 1) := by decide +kernel
theorem dX12_undo_223 : decode cX12_undo 223 = .ok (.getfield 114, 3) := by decide +kernel
theorem dX12_undo_226 : decode cX12_undo 226 = .ok (.ireturn, 1) := by decide +kernel
def b_X12_undo_211 (S : SH) (a0 : Nat) (μ : Mem) : Option (Int32 × Mem) :=
 (gR S 12 a0 10).bind fun v2 =>
 (aI S .int v2 121 μ).bind fun v3 =>
 (pI S 12 a0 1 v3 μ).bind fun ν4 =>
 (gI S 12 a0 1 ν4).bind fun v5 =>
 some (v5, ν4)
set_option maxRecDepth 100000 in
set_option maxHeartbeats 4000000 in
theorem s_X12_undo_211 {γ : GE} {p : Program} {l : Launch} {e : Env} {s : State} {m : MethodId} {args : Array Value} {below : List Frame} {meth : Method} {c : Code} {S : SH} {X : (Int32 × Mem)} (F : FX γ p s m args meth c cX12_undo RX12 2) (hr : meth.sig.returnType = (some .int)) (a0 : Nat)    (μ : Mem) (h : b_X12_undo_211 S a0 μ = some X) : JJ γ p l e rm_X12_undo s m args below meth c 2 0 0 (QI below γ S X args s 0 0) S μ 211 [(0, .ref (gb γ + a0))] [] := by
  unfold b_X12_undo_211 at h
  refine j_aload_n F 0 dX12_undo_211 rfl ?_
  refine j_aload_n F 0 dX12_undo_212 rfl ?_
  refine j_gR F fl_RX12_39 rfl dX12_undo_213 h (fun v2 h => ?_)
  refine j_bipush F 121 dX12_undo_216 (by decide) ?_
  refine j_iald F dX12_undo_218 h (fun v3 h => ?_)
  refine j_pI F fl_RX12_114 rfl dX12_undo_219 h (fun ν4 h => ?_)
  refine j_aload_n F 0 dX12_undo_222 rfl ?_
  refine j_gI F fl_RX12_114.l rfl dX12_undo_223 h (fun v5 h => ?_)
  exact j_iret F hr dX12_undo_226 h
def l_X12_undo_185 (S : SH) (a0 : Nat) (k185 : (Int32 × Mem) → Option (Int32 × Mem)) (x : (Int32 × Mem)) : Option (Int32 × Mem) :=
 (if 3 ≤ x.1 then
 b_X12_undo_211 S a0 x.2
 else
 (gR S 12 a0 6).bind fun v6 =>
 (gR S 12 a0 10).bind fun v7 =>
 (aI S .int v7 (118 + x.1) x.2).bind fun v8 =>
 (sI S v6 x.1 v8 x.2).bind fun ν9 =>
 k185 (x.1 + 1, ν9))
set_option maxRecDepth 100000 in
set_option maxHeartbeats 4000000 in
theorem t_X12_undo_185 {γ : GE} {p : Program} {l : Launch} {e : Env} {s : State} {m : MethodId} {args : Array Value} {below : List Frame} {meth : Method} {c : Code} {S : SH} {X : (Int32 × Mem)} (F : FX γ p s m args meth c cX12_undo RX12 2) (hr : meth.sig.returnType = (some .int)) (a0 : Nat) (k185 : (Int32 × Mem) → Option (Int32 × Mem)) (hk185 : ∀ (x185_1 : Int32) (ν : Mem), k185 (x185_1, ν) = some X → JJ γ p l e rm_X12_undo s m args below meth c 2 0 0 (QI below γ S X args s 0 0) S ν 185 [(0, .ref (gb γ + a0)), (1, .int x185_1)] []) (x : (Int32 × Mem)) (h : l_X12_undo_185 S a0 k185 x = some X) : JJ γ p l e rm_X12_undo s m args below meth c 2 0 0 (QI below γ S X args s 0 0) S x.2 185 [(0, .ref (gb γ + a0)), (1, .int x.1)] [] := by
  unfold l_X12_undo_185 at h
  refine j_iload_n F 1 dX12_undo_185 rfl ?_
  refine j_iconst F 3 dX12_undo_186 (by decide) ?_
  refine j_icmpge F 211 dX12_undo_187 (by decide) h (fun _ h => ?_) (fun _ h => ?_)
  · refine j_lv [(0, .ref (gb γ + a0))] [0] rfl ?_
    exact s_X12_undo_211 F hr _ _ h
  · refine j_aload_n F 0 dX12_undo_190 rfl ?_
    refine j_gR F fl_RX12_27 rfl dX12_undo_191 h (fun v6 h => ?_)
    refine j_iload_n F 1 dX12_undo_194 rfl ?_
    refine j_aload_n F 0 dX12_undo_195 rfl ?_
    refine j_gR F fl_RX12_39 rfl dX12_undo_196 h (fun v7 h => ?_)
    refine j_bipush F 118 dX12_undo_199 (by decide) ?_
    refine j_iload_n F 1 dX12_undo_201 rfl ?_
    refine j_iadd F dX12_undo_202 ?_
    refine j_iald F dX12_undo_203 h (fun v8 h => ?_)
    refine j_iast F dX12_undo_204 h (fun ν9 h => ?_)
    refine j_iinc F 1 1 [(1, .int (x.1 + 1)), (0, .ref (gb γ + a0))] dX12_undo_205 rfl (by decide) (by decide) rfl ?_
    refine j_goto F 185 dX12_undo_208 (by decide) ?_
    refine j_lv [(0, .ref (gb γ + a0)), (1, .int (x.1 + 1))] [1, 0] rfl ?_
    exact hk185 _ _ h
theorem s_X12_undo_185 {γ : GE} {p : Program} {l : Launch} {e : Env} {s : State} {m : MethodId} {args : Array Value} {below : List Frame} {meth : Method} {c : Code} {S : SH} {X : (Int32 × Mem)} (F : FX γ p s m args meth c cX12_undo RX12 2) (hr : meth.sig.returnType = (some .int)) (a0 : Nat) (x185_1 : Int32) (ν : Mem) (h : lpN (l_X12_undo_185 S a0) fu (x185_1, ν) = some X) : JJ γ p l e rm_X12_undo s m args below meth c 2 0 0 (QI below γ S X args s 0 0) S ν 185 [(0, .ref (gb γ + a0)), (1, .int x185_1)] [] :=
 lpN_sound (fun x => JJ γ p l e rm_X12_undo s m args below meth c 2 0 0 (QI below γ S X args s 0 0) S x.2 185 [(0, .ref (gb γ + a0)), (1, .int x.1)] []) (fun k185 hk185 x h => t_X12_undo_185 F hr a0 k185 (fun x185_1 ν h => hk185 (x185_1, ν) h) x h) fu (x185_1, ν) h
def b_X12_undo_183 (S : SH) (a0 : Nat) (μ : Mem) : Option (Int32 × Mem) :=
 lpN (l_X12_undo_185 S a0) fu (0, μ)
set_option maxRecDepth 100000 in
set_option maxHeartbeats 4000000 in
theorem s_X12_undo_183 {γ : GE} {p : Program} {l : Launch} {e : Env} {s : State} {m : MethodId} {args : Array Value} {below : List Frame} {meth : Method} {c : Code} {S : SH} {X : (Int32 × Mem)} (F : FX γ p s m args meth c cX12_undo RX12 2) (hr : meth.sig.returnType = (some .int)) (a0 : Nat)    (μ : Mem) (h : b_X12_undo_183 S a0 μ = some X) : JJ γ p l e rm_X12_undo s m args below meth c 2 0 0 (QI below γ S X args s 0 0) S μ 183 [(0, .ref (gb γ + a0))] [] := by
  unfold b_X12_undo_183 at h
  refine j_iconst F 0 dX12_undo_183 (by decide) ?_
  refine j_istore_n F [(1, .int 0), (0, .ref (gb γ + a0))] dX12_undo_184 rfl (by decide) rfl ?_
  refine j_lv [(0, .ref (gb γ + a0)), (1, .int 0)] [1, 0] rfl ?_
  exact s_X12_undo_185 F hr _ _ _ h
def l_X12_undo_156 (S : SH) (a0 : Nat) (k156 : (Int32 × Mem) → Option (Int32 × Mem)) (x : (Int32 × Mem)) : Option (Int32 × Mem) :=
 (if 14 ≤ x.1 then
 b_X12_undo_183 S a0 x.2
 else
 (gR S 12 a0 9).bind fun v10 =>
 (gR S 12 a0 10).bind fun v11 =>
 (aI S .int v11 (104 + x.1) x.2).bind fun v12 =>
 (sI S v10 x.1 v12 x.2).bind fun ν13 =>
 k156 (x.1 + 1, ν13))
set_option maxRecDepth 100000 in
set_option maxHeartbeats 4000000 in
theorem t_X12_undo_156 {γ : GE} {p : Program} {l : Launch} {e : Env} {s : State} {m : MethodId} {args : Array Value} {below : List Frame} {meth : Method} {c : Code} {S : SH} {X : (Int32 × Mem)} (F : FX γ p s m args meth c cX12_undo RX12 2) (hr : meth.sig.returnType = (some .int)) (a0 : Nat) (k156 : (Int32 × Mem) → Option (Int32 × Mem)) (hk156 : ∀ (x156_1 : Int32) (ν : Mem), k156 (x156_1, ν) = some X → JJ γ p l e rm_X12_undo s m args below meth c 2 0 0 (QI below γ S X args s 0 0) S ν 156 [(0, .ref (gb γ + a0)), (1, .int x156_1)] []) (x : (Int32 × Mem)) (h : l_X12_undo_156 S a0 k156 x = some X) : JJ γ p l e rm_X12_undo s m args below meth c 2 0 0 (QI below γ S X args s 0 0) S x.2 156 [(0, .ref (gb γ + a0)), (1, .int x.1)] [] := by
  unfold l_X12_undo_156 at h
  refine j_iload_n F 1 dX12_undo_156 rfl ?_
  refine j_bipush F 14 dX12_undo_157 (by decide) ?_
  refine j_icmpge F 183 dX12_undo_159 (by decide) h (fun _ h => ?_) (fun _ h => ?_)
  · refine j_lv [(0, .ref (gb γ + a0))] [0] rfl ?_
    exact s_X12_undo_183 F hr _ _ h
  · refine j_aload_n F 0 dX12_undo_162 rfl ?_
    refine j_gR F fl_RX12_36 rfl dX12_undo_163 h (fun v10 h => ?_)
    refine j_iload_n F 1 dX12_undo_166 rfl ?_
    refine j_aload_n F 0 dX12_undo_167 rfl ?_
    refine j_gR F fl_RX12_39 rfl dX12_undo_168 h (fun v11 h => ?_)
    refine j_bipush F 104 dX12_undo_171 (by decide) ?_
    refine j_iload_n F 1 dX12_undo_173 rfl ?_
    refine j_iadd F dX12_undo_174 ?_
    refine j_iald F dX12_undo_175 h (fun v12 h => ?_)
    refine j_iast F dX12_undo_176 h (fun ν13 h => ?_)
    refine j_iinc F 1 1 [(1, .int (x.1 + 1)), (0, .ref (gb γ + a0))] dX12_undo_177 rfl (by decide) (by decide) rfl ?_
    refine j_goto F 156 dX12_undo_180 (by decide) ?_
    refine j_lv [(0, .ref (gb γ + a0)), (1, .int (x.1 + 1))] [1, 0] rfl ?_
    exact hk156 _ _ h
theorem s_X12_undo_156 {γ : GE} {p : Program} {l : Launch} {e : Env} {s : State} {m : MethodId} {args : Array Value} {below : List Frame} {meth : Method} {c : Code} {S : SH} {X : (Int32 × Mem)} (F : FX γ p s m args meth c cX12_undo RX12 2) (hr : meth.sig.returnType = (some .int)) (a0 : Nat) (x156_1 : Int32) (ν : Mem) (h : lpN (l_X12_undo_156 S a0) fu (x156_1, ν) = some X) : JJ γ p l e rm_X12_undo s m args below meth c 2 0 0 (QI below γ S X args s 0 0) S ν 156 [(0, .ref (gb γ + a0)), (1, .int x156_1)] [] :=
 lpN_sound (fun x => JJ γ p l e rm_X12_undo s m args below meth c 2 0 0 (QI below γ S X args s 0 0) S x.2 156 [(0, .ref (gb γ + a0)), (1, .int x.1)] []) (fun k156 hk156 x h => t_X12_undo_156 F hr a0 k156 (fun x156_1 ν h => hk156 (x156_1, ν) h) x h) fu (x156_1, ν) h
def b_X12_undo_154 (S : SH) (a0 : Nat) (μ : Mem) : Option (Int32 × Mem) :=
 lpN (l_X12_undo_156 S a0) fu (0, μ)
set_option maxRecDepth 100000 in
set_option maxHeartbeats 4000000 in
theorem s_X12_undo_154 {γ : GE} {p : Program} {l : Launch} {e : Env} {s : State} {m : MethodId} {args : Array Value} {below : List Frame} {meth : Method} {c : Code} {S : SH} {X : (Int32 × Mem)} (F : FX γ p s m args meth c cX12_undo RX12 2) (hr : meth.sig.returnType = (some .int)) (a0 : Nat)    (μ : Mem) (h : b_X12_undo_154 S a0 μ = some X) : JJ γ p l e rm_X12_undo s m args below meth c 2 0 0 (QI below γ S X args s 0 0) S μ 154 [(0, .ref (gb γ + a0))] [] := by
  unfold b_X12_undo_154 at h
  refine j_iconst F 0 dX12_undo_154 (by decide) ?_
  refine j_istore_n F [(1, .int 0), (0, .ref (gb γ + a0))] dX12_undo_155 rfl (by decide) rfl ?_
  refine j_lv [(0, .ref (gb γ + a0)), (1, .int 0)] [1, 0] rfl ?_
  exact s_X12_undo_156 F hr _ _ _ h
def l_X12_undo_112 (S : SH) (a0 : Nat) (k112 : (Int32 × Mem) → Option (Int32 × Mem)) (x : (Int32 × Mem)) : Option (Int32 × Mem) :=
 (if 30 ≤ x.1 then
 b_X12_undo_154 S a0 x.2
 else
 (gR S 12 a0 7).bind fun v14 =>
 (gR S 12 a0 10).bind fun v15 =>
 (aI S .int v15 (44 + x.1) x.2).bind fun v16 =>
 (sI S v14 x.1 v16 x.2).bind fun ν17 =>
 (gR S 12 a0 8).bind fun v18 =>
 (gR S 12 a0 10).bind fun v19 =>
 (aI S .int v19 (74 + x.1) ν17).bind fun v20 =>
 (sI S v18 x.1 v20 ν17).bind fun ν21 =>
 k112 (x.1 + 1, ν21))
set_option maxRecDepth 100000 in
set_option maxHeartbeats 4000000 in
theorem t_X12_undo_112 {γ : GE} {p : Program} {l : Launch} {e : Env} {s : State} {m : MethodId} {args : Array Value} {below : List Frame} {meth : Method} {c : Code} {S : SH} {X : (Int32 × Mem)} (F : FX γ p s m args meth c cX12_undo RX12 2) (hr : meth.sig.returnType = (some .int)) (a0 : Nat) (k112 : (Int32 × Mem) → Option (Int32 × Mem)) (hk112 : ∀ (x112_1 : Int32) (ν : Mem), k112 (x112_1, ν) = some X → JJ γ p l e rm_X12_undo s m args below meth c 2 0 0 (QI below γ S X args s 0 0) S ν 112 [(0, .ref (gb γ + a0)), (1, .int x112_1)] []) (x : (Int32 × Mem)) (h : l_X12_undo_112 S a0 k112 x = some X) : JJ γ p l e rm_X12_undo s m args below meth c 2 0 0 (QI below γ S X args s 0 0) S x.2 112 [(0, .ref (gb γ + a0)), (1, .int x.1)] [] := by
  unfold l_X12_undo_112 at h
  refine j_iload_n F 1 dX12_undo_112 rfl ?_
  refine j_bipush F 30 dX12_undo_113 (by decide) ?_
  refine j_icmpge F 154 dX12_undo_115 (by decide) h (fun _ h => ?_) (fun _ h => ?_)
  · refine j_lv [(0, .ref (gb γ + a0))] [0] rfl ?_
    exact s_X12_undo_154 F hr _ _ h
  · refine j_aload_n F 0 dX12_undo_118 rfl ?_
    refine j_gR F fl_RX12_30 rfl dX12_undo_119 h (fun v14 h => ?_)
    refine j_iload_n F 1 dX12_undo_122 rfl ?_
    refine j_aload_n F 0 dX12_undo_123 rfl ?_
    refine j_gR F fl_RX12_39 rfl dX12_undo_124 h (fun v15 h => ?_)
    refine j_bipush F 44 dX12_undo_127 (by decide) ?_
    refine j_iload_n F 1 dX12_undo_129 rfl ?_
    refine j_iadd F dX12_undo_130 ?_
    refine j_iald F dX12_undo_131 h (fun v16 h => ?_)
    refine j_iast F dX12_undo_132 h (fun ν17 h => ?_)
    refine j_aload_n F 0 dX12_undo_133 rfl ?_
    refine j_gR F fl_RX12_33 rfl dX12_undo_134 h (fun v18 h => ?_)
    refine j_iload_n F 1 dX12_undo_137 rfl ?_
    refine j_aload_n F 0 dX12_undo_138 rfl ?_
    refine j_gR F fl_RX12_39 rfl dX12_undo_139 h (fun v19 h => ?_)
    refine j_bipush F 74 dX12_undo_142 (by decide) ?_
    refine j_iload_n F 1 dX12_undo_144 rfl ?_
    refine j_iadd F dX12_undo_145 ?_
    refine j_iald F dX12_undo_146 h (fun v20 h => ?_)
    refine j_iast F dX12_undo_147 h (fun ν21 h => ?_)
    refine j_iinc F 1 1 [(1, .int (x.1 + 1)), (0, .ref (gb γ + a0))] dX12_undo_148 rfl (by decide) (by decide) rfl ?_
    refine j_goto F 112 dX12_undo_151 (by decide) ?_
    refine j_lv [(0, .ref (gb γ + a0)), (1, .int (x.1 + 1))] [1, 0] rfl ?_
    exact hk112 _ _ h
theorem s_X12_undo_112 {γ : GE} {p : Program} {l : Launch} {e : Env} {s : State} {m : MethodId} {args : Array Value} {below : List Frame} {meth : Method} {c : Code} {S : SH} {X : (Int32 × Mem)} (F : FX γ p s m args meth c cX12_undo RX12 2) (hr : meth.sig.returnType = (some .int)) (a0 : Nat) (x112_1 : Int32) (ν : Mem) (h : lpN (l_X12_undo_112 S a0) fu (x112_1, ν) = some X) : JJ γ p l e rm_X12_undo s m args below meth c 2 0 0 (QI below γ S X args s 0 0) S ν 112 [(0, .ref (gb γ + a0)), (1, .int x112_1)] [] :=
 lpN_sound (fun x => JJ γ p l e rm_X12_undo s m args below meth c 2 0 0 (QI below γ S X args s 0 0) S x.2 112 [(0, .ref (gb γ + a0)), (1, .int x.1)] []) (fun k112 hk112 x h => t_X12_undo_112 F hr a0 k112 (fun x112_1 ν h => hk112 (x112_1, ν) h) x h) fu (x112_1, ν) h
def b_X12_undo_110 (S : SH) (a0 : Nat) (μ : Mem) : Option (Int32 × Mem) :=
 lpN (l_X12_undo_112 S a0) fu (0, μ)
set_option maxRecDepth 100000 in
set_option maxHeartbeats 4000000 in
theorem s_X12_undo_110 {γ : GE} {p : Program} {l : Launch} {e : Env} {s : State} {m : MethodId} {args : Array Value} {below : List Frame} {meth : Method} {c : Code} {S : SH} {X : (Int32 × Mem)} (F : FX γ p s m args meth c cX12_undo RX12 2) (hr : meth.sig.returnType = (some .int)) (a0 : Nat)    (μ : Mem) (h : b_X12_undo_110 S a0 μ = some X) : JJ γ p l e rm_X12_undo s m args below meth c 2 0 0 (QI below γ S X args s 0 0) S μ 110 [(0, .ref (gb γ + a0))] [] := by
  unfold b_X12_undo_110 at h
  refine j_iconst F 0 dX12_undo_110 (by decide) ?_
  refine j_istore_n F [(1, .int 0), (0, .ref (gb γ + a0))] dX12_undo_111 rfl (by decide) rfl ?_
  refine j_lv [(0, .ref (gb γ + a0)), (1, .int 0)] [1, 0] rfl ?_
  exact s_X12_undo_112 F hr _ _ _ h
def l_X12_undo_38 (S : SH) (a0 : Nat) (k38 : (Int32 × Mem) → Option (Int32 × Mem)) (x : (Int32 × Mem)) : Option (Int32 × Mem) :=
 (if 8 ≤ x.1 then
 b_X12_undo_110 S a0 x.2
 else
 (gR S 12 a0 2).bind fun v22 =>
 (gR S 12 a0 10).bind fun v23 =>
 (aI S .int v23 (12 + x.1) x.2).bind fun v24 =>
 (sI S v22 x.1 v24 x.2).bind fun ν25 =>
 (gR S 12 a0 3).bind fun v26 =>
 (gR S 12 a0 10).bind fun v27 =>
 (aI S .int v27 (20 + x.1) ν25).bind fun v28 =>
 (sI S v26 x.1 v28 ν25).bind fun ν29 =>
 (gR S 12 a0 4).bind fun v30 =>
 (gR S 12 a0 10).bind fun v31 =>
 (aI S .int v31 (28 + x.1) ν29).bind fun v32 =>
 (sI S v30 x.1 v32 ν29).bind fun ν33 =>
 (gR S 12 a0 5).bind fun v34 =>
 (gR S 12 a0 10).bind fun v35 =>
 (aI S .int v35 (36 + x.1) ν33).bind fun v36 =>
 (sI S v34 x.1 v36 ν33).bind fun ν37 =>
 k38 (x.1 + 1, ν37))
set_option maxRecDepth 100000 in
set_option maxHeartbeats 4000000 in
theorem t_X12_undo_38 {γ : GE} {p : Program} {l : Launch} {e : Env} {s : State} {m : MethodId} {args : Array Value} {below : List Frame} {meth : Method} {c : Code} {S : SH} {X : (Int32 × Mem)} (F : FX γ p s m args meth c cX12_undo RX12 2) (hr : meth.sig.returnType = (some .int)) (a0 : Nat) (k38 : (Int32 × Mem) → Option (Int32 × Mem)) (hk38 : ∀ (x38_1 : Int32) (ν : Mem), k38 (x38_1, ν) = some X → JJ γ p l e rm_X12_undo s m args below meth c 2 0 0 (QI below γ S X args s 0 0) S ν 38 [(0, .ref (gb γ + a0)), (1, .int x38_1)] []) (x : (Int32 × Mem)) (h : l_X12_undo_38 S a0 k38 x = some X) : JJ γ p l e rm_X12_undo s m args below meth c 2 0 0 (QI below γ S X args s 0 0) S x.2 38 [(0, .ref (gb γ + a0)), (1, .int x.1)] [] := by
  unfold l_X12_undo_38 at h
  refine j_iload_n F 1 dX12_undo_38 rfl ?_
  refine j_bipush F 8 dX12_undo_39 (by decide) ?_
  refine j_icmpge F 110 dX12_undo_41 (by decide) h (fun _ h => ?_) (fun _ h => ?_)
  · refine j_lv [(0, .ref (gb γ + a0))] [0] rfl ?_
    exact s_X12_undo_110 F hr _ _ h
  · refine j_aload_n F 0 dX12_undo_44 rfl ?_
    refine j_gR F fl_RX12_15 rfl dX12_undo_45 h (fun v22 h => ?_)
    refine j_iload_n F 1 dX12_undo_48 rfl ?_
    refine j_aload_n F 0 dX12_undo_49 rfl ?_
    refine j_gR F fl_RX12_39 rfl dX12_undo_50 h (fun v23 h => ?_)
    refine j_bipush F 12 dX12_undo_53 (by decide) ?_
    refine j_iload_n F 1 dX12_undo_55 rfl ?_
    refine j_iadd F dX12_undo_56 ?_
    refine j_iald F dX12_undo_57 h (fun v24 h => ?_)
    refine j_iast F dX12_undo_58 h (fun ν25 h => ?_)
    refine j_aload_n F 0 dX12_undo_59 rfl ?_
    refine j_gR F fl_RX12_18 rfl dX12_undo_60 h (fun v26 h => ?_)
    refine j_iload_n F 1 dX12_undo_63 rfl ?_
    refine j_aload_n F 0 dX12_undo_64 rfl ?_
    refine j_gR F fl_RX12_39 rfl dX12_undo_65 h (fun v27 h => ?_)
    refine j_bipush F 20 dX12_undo_68 (by decide) ?_
    refine j_iload_n F 1 dX12_undo_70 rfl ?_
    refine j_iadd F dX12_undo_71 ?_
    refine j_iald F dX12_undo_72 h (fun v28 h => ?_)
    refine j_iast F dX12_undo_73 h (fun ν29 h => ?_)
    refine j_aload_n F 0 dX12_undo_74 rfl ?_
    refine j_gR F fl_RX12_21 rfl dX12_undo_75 h (fun v30 h => ?_)
    refine j_iload_n F 1 dX12_undo_78 rfl ?_
    refine j_aload_n F 0 dX12_undo_79 rfl ?_
    refine j_gR F fl_RX12_39 rfl dX12_undo_80 h (fun v31 h => ?_)
    refine j_bipush F 28 dX12_undo_83 (by decide) ?_
    refine j_iload_n F 1 dX12_undo_85 rfl ?_
    refine j_iadd F dX12_undo_86 ?_
    refine j_iald F dX12_undo_87 h (fun v32 h => ?_)
    refine j_iast F dX12_undo_88 h (fun ν33 h => ?_)
    refine j_aload_n F 0 dX12_undo_89 rfl ?_
    refine j_gR F fl_RX12_24 rfl dX12_undo_90 h (fun v34 h => ?_)
    refine j_iload_n F 1 dX12_undo_93 rfl ?_
    refine j_aload_n F 0 dX12_undo_94 rfl ?_
    refine j_gR F fl_RX12_39 rfl dX12_undo_95 h (fun v35 h => ?_)
    refine j_bipush F 36 dX12_undo_98 (by decide) ?_
    refine j_iload_n F 1 dX12_undo_100 rfl ?_
    refine j_iadd F dX12_undo_101 ?_
    refine j_iald F dX12_undo_102 h (fun v36 h => ?_)
    refine j_iast F dX12_undo_103 h (fun ν37 h => ?_)
    refine j_iinc F 1 1 [(1, .int (x.1 + 1)), (0, .ref (gb γ + a0))] dX12_undo_104 rfl (by decide) (by decide) rfl ?_
    refine j_goto F 38 dX12_undo_107 (by decide) ?_
    refine j_lv [(0, .ref (gb γ + a0)), (1, .int (x.1 + 1))] [1, 0] rfl ?_
    exact hk38 _ _ h
theorem s_X12_undo_38 {γ : GE} {p : Program} {l : Launch} {e : Env} {s : State} {m : MethodId} {args : Array Value} {below : List Frame} {meth : Method} {c : Code} {S : SH} {X : (Int32 × Mem)} (F : FX γ p s m args meth c cX12_undo RX12 2) (hr : meth.sig.returnType = (some .int)) (a0 : Nat) (x38_1 : Int32) (ν : Mem) (h : lpN (l_X12_undo_38 S a0) fu (x38_1, ν) = some X) : JJ γ p l e rm_X12_undo s m args below meth c 2 0 0 (QI below γ S X args s 0 0) S ν 38 [(0, .ref (gb γ + a0)), (1, .int x38_1)] [] :=
 lpN_sound (fun x => JJ γ p l e rm_X12_undo s m args below meth c 2 0 0 (QI below γ S X args s 0 0) S x.2 38 [(0, .ref (gb γ + a0)), (1, .int x.1)] []) (fun k38 hk38 x h => t_X12_undo_38 F hr a0 k38 (fun x38_1 ν h => hk38 (x38_1, ν) h) x h) fu (x38_1, ν) h
def b_X12_undo_36 (S : SH) (a0 : Nat) (μ : Mem) : Option (Int32 × Mem) :=
 lpN (l_X12_undo_38 S a0) fu (0, μ)
set_option maxRecDepth 100000 in
set_option maxHeartbeats 4000000 in
theorem s_X12_undo_36 {γ : GE} {p : Program} {l : Launch} {e : Env} {s : State} {m : MethodId} {args : Array Value} {below : List Frame} {meth : Method} {c : Code} {S : SH} {X : (Int32 × Mem)} (F : FX γ p s m args meth c cX12_undo RX12 2) (hr : meth.sig.returnType = (some .int)) (a0 : Nat)    (μ : Mem) (h : b_X12_undo_36 S a0 μ = some X) : JJ γ p l e rm_X12_undo s m args below meth c 2 0 0 (QI below γ S X args s 0 0) S μ 36 [(0, .ref (gb γ + a0))] [] := by
  unfold b_X12_undo_36 at h
  refine j_iconst F 0 dX12_undo_36 (by decide) ?_
  refine j_istore_n F [(1, .int 0), (0, .ref (gb γ + a0))] dX12_undo_37 rfl (by decide) rfl ?_
  refine j_lv [(0, .ref (gb γ + a0)), (1, .int 0)] [1, 0] rfl ?_
  exact s_X12_undo_38 F hr _ _ _ h
def l_X12_undo_12 (S : SH) (a0 : Nat) (k12 : (Int32 × Mem) → Option (Int32 × Mem)) (x : (Int32 × Mem)) : Option (Int32 × Mem) :=
 (if 12 ≤ x.1 then
 b_X12_undo_36 S a0 x.2
 else
 (gR S 12 a0 0).bind fun v38 =>
 (gR S 12 a0 10).bind fun v39 =>
 (aI S .int v39 x.1 x.2).bind fun v40 =>
 (sI S v38 x.1 v40 x.2).bind fun ν41 =>
 k12 (x.1 + 1, ν41))
set_option maxRecDepth 100000 in
set_option maxHeartbeats 4000000 in
theorem t_X12_undo_12 {γ : GE} {p : Program} {l : Launch} {e : Env} {s : State} {m : MethodId} {args : Array Value} {below : List Frame} {meth : Method} {c : Code} {S : SH} {X : (Int32 × Mem)} (F : FX γ p s m args meth c cX12_undo RX12 2) (hr : meth.sig.returnType = (some .int)) (a0 : Nat) (k12 : (Int32 × Mem) → Option (Int32 × Mem)) (hk12 : ∀ (x12_1 : Int32) (ν : Mem), k12 (x12_1, ν) = some X → JJ γ p l e rm_X12_undo s m args below meth c 2 0 0 (QI below γ S X args s 0 0) S ν 12 [(0, .ref (gb γ + a0)), (1, .int x12_1)] []) (x : (Int32 × Mem)) (h : l_X12_undo_12 S a0 k12 x = some X) : JJ γ p l e rm_X12_undo s m args below meth c 2 0 0 (QI below γ S X args s 0 0) S x.2 12 [(0, .ref (gb γ + a0)), (1, .int x.1)] [] := by
  unfold l_X12_undo_12 at h
  refine j_iload_n F 1 dX12_undo_12 rfl ?_
  refine j_bipush F 12 dX12_undo_13 (by decide) ?_
  refine j_icmpge F 36 dX12_undo_15 (by decide) h (fun _ h => ?_) (fun _ h => ?_)
  · refine j_lv [(0, .ref (gb γ + a0))] [0] rfl ?_
    exact s_X12_undo_36 F hr _ _ h
  · refine j_aload_n F 0 dX12_undo_18 rfl ?_
    refine j_gR F fl_RX12_9 rfl dX12_undo_19 h (fun v38 h => ?_)
    refine j_iload_n F 1 dX12_undo_22 rfl ?_
    refine j_aload_n F 0 dX12_undo_23 rfl ?_
    refine j_gR F fl_RX12_39 rfl dX12_undo_24 h (fun v39 h => ?_)
    refine j_iload_n F 1 dX12_undo_27 rfl ?_
    refine j_iald F dX12_undo_28 h (fun v40 h => ?_)
    refine j_iast F dX12_undo_29 h (fun ν41 h => ?_)
    refine j_iinc F 1 1 [(1, .int (x.1 + 1)), (0, .ref (gb γ + a0))] dX12_undo_30 rfl (by decide) (by decide) rfl ?_
    refine j_goto F 12 dX12_undo_33 (by decide) ?_
    refine j_lv [(0, .ref (gb γ + a0)), (1, .int (x.1 + 1))] [1, 0] rfl ?_
    exact hk12 _ _ h
theorem s_X12_undo_12 {γ : GE} {p : Program} {l : Launch} {e : Env} {s : State} {m : MethodId} {args : Array Value} {below : List Frame} {meth : Method} {c : Code} {S : SH} {X : (Int32 × Mem)} (F : FX γ p s m args meth c cX12_undo RX12 2) (hr : meth.sig.returnType = (some .int)) (a0 : Nat) (x12_1 : Int32) (ν : Mem) (h : lpN (l_X12_undo_12 S a0) fu (x12_1, ν) = some X) : JJ γ p l e rm_X12_undo s m args below meth c 2 0 0 (QI below γ S X args s 0 0) S ν 12 [(0, .ref (gb γ + a0)), (1, .int x12_1)] [] :=
 lpN_sound (fun x => JJ γ p l e rm_X12_undo s m args below meth c 2 0 0 (QI below γ S X args s 0 0) S x.2 12 [(0, .ref (gb γ + a0)), (1, .int x.1)] []) (fun k12 hk12 x h => t_X12_undo_12 F hr a0 k12 (fun x12_1 ν h => hk12 (x12_1, ν) h) x h) fu (x12_1, ν) h
def f_X12_undo (S : SH) (a0 : Nat) (μ : Mem) : Option (Int32 × Mem) :=
  if isO S 12 a0 = true then
  (gI S 12 a0 11 μ).bind fun v1 =>
  (if v1 = 0 then
  some ((-3), μ)
  else
  lpN (l_X12_undo_12 S  a0) fu (0, μ))
  else none
set_option maxRecDepth 100000 in
set_option maxHeartbeats 4000000 in
theorem c_X12_undo {l : Launch} {γ : GE} {S : SH} {a0 : Nat} {μ : Mem} {X : (Int32 × Mem)} (h : f_X12_undo S a0 μ = some X) : isO S 12 a0 = true ∧ Ct l γ yX12_undo cX12_undo 2 (some .int) rm_X12_undo [.ref (gb γ + a0)] S μ S X.2 (some (.int X.1)) := by
  unfold f_X12_undo at h
  obtain ⟨h0, h⟩ := if_some h
  refine ⟨h0, ?_⟩
  have hJ : ∀ (p : Program) (e : Env) (s : State) (m : MethodId) (args : Array Value) (below : List Frame) (meth : Method) (c : Code), FX γ p s m args meth c cX12_undo RX12 2 → meth.sig.returnType = (some .int) → JJ γ p l e rm_X12_undo s m args below meth c 2 0 0 (QI below γ S X args s 0 0) S μ 0 [(0, .ref (gb γ + a0))] [] := by
    intro p e s m args below meth c F hr
    refine j_aload_n F 0 dX12_undo_0 rfl ?_
    refine j_gI F fl_RX12_361.l rfl dX12_undo_1 h (fun v1 h => ?_)
    refine j_ifne F 10 dX12_undo_4 (by decide) h (fun _ h => ?_) (fun _ h => ?_)
    · refine j_iconst F 0 dX12_undo_10 (by decide) ?_
      refine j_istore_n F [(1, .int 0), (0, .ref (gb γ + a0))] dX12_undo_11 rfl (by decide) rfl ?_
      refine j_lv [(0, .ref (gb γ + a0)), (1, .int 0)] [1, 0] rfl ?_
      exact s_X12_undo_12 F hr _ _ _ h
    · refine j_bipush F (-3) dX12_undo_7 (by decide) ?_
      exact j_iret F hr dX12_undo_9 h
  exact ct_of (by decide +kernel) (Nat.le_of_ble_eq_true rfl) (fun p e s m args below meth c F hr _ => hJ p e s m args below meth c F hr)
