def rm_X12_lays : Room := { frames := 0, cells := 0, slots := 0, locals := 0 }
theorem dX12_lays_0 : decode cX12_lays 0 = .ok (.aload_n 0, 1) := by decide +kernel
theorem dX12_lays_1 : decode cX12_lays 1 = .ok (.getfield 42, 3) := by decide +kernel
theorem dX12_lays_4 : decode cX12_lays 4 = .ok (.aload_n 0, 1) := by decide +kernel
theorem dX12_lays_5 : decode cX12_lays 5 = .ok (.getfield 177, 3) := by decide +kernel
theorem dX12_lays_8 : decode cX12_lays 8 = .ok (.iload_n 1, 1) := by decide +kernel
theorem dX12_lays_9 : decode cX12_lays 9 = .ok (.iastore, 1) := by decide +kernel
theorem dX12_lays_10 : decode cX12_lays 10 = .ok (.aload_n 0, 1) := by decide +kernel
theorem dX12_lays_11 : decode cX12_lays 11 = .ok (.getfield 45, 3) := by decide +kernel
theorem dX12_lays_14 : decode cX12_lays 14 = .ok (.aload_n 0, 1) := by decide +kernel
theorem dX12_lays_15 : decode cX12_lays 15 = .ok (.getfield 177, 3) := by decide +kernel
theorem dX12_lays_18 : decode cX12_lays 18 = .ok (.lload_n 2, 1) := by decide +kernel
theorem dX12_lays_19 : decode cX12_lays 19 = .ok (.lastore, 1) := by decide +kernel
theorem dX12_lays_20 : decode cX12_lays 20 = .ok (.aload_n 0, 1) := by decide +kernel
theorem dX12_lays_21 : decode cX12_lays 21 = .ok (.getfield 49, 3) := by decide +kernel
theorem dX12_lays_24 : decode cX12_lays 24 = .ok (.aload_n 0, 1) := by decide +kernel
theorem dX12_lays_25 : decode cX12_lays 25 = .ok (.getfield 177, 3) := by decide +kernel
theorem dX12_lays_28 : decode cX12_lays 28 = .ok (.lload 4, 2) := by decide +kernel
theorem dX12_lays_30 : decode cX12_lays 30 = .ok (.lastore, 1) := by decide +kernel
theorem dX12_lays_31 : decode cX12_lays 31 = .ok (.aload_n 0, 1) := by decide +kernel
theorem dX12_lays_32 : decode cX12_lays 32 = .ok (.dup, 1) := by decide +kernel
theorem dX12_lays_33 : decode cX12_lays 33 = .ok (.getfield 177, 3) := by decide +kernel
theorem dX12_lays_36 : decode cX12_lays 36 = .ok (.iconst 1, 1) := by decide +kernel
theorem dX12_lays_37 : decode cX12_lays 37 = .ok (.iadd, 1) := by decide +kernel
theorem dX12_lays_38 : decode cX12_lays 38 = .ok (.putfield 177, 3) := by decide +kernel
theorem dX12_lays_41 : decode cX12_lays 41 = .ok (.return_, 1) := by decide +kernel
def f_X12_lays (S : SH) (a0 : Nat) (a1 : Int32) (a2 : Int64) (a4 : Int64) (μ : Mem) : Option (Unit × Mem) :=
  if isO S 12 a0 = true then
  (gR S 12 a0 13).bind fun v1 =>
  (gI S 12 a0 12 μ).bind fun v2 =>
  (sI S v1 v2 a1 μ).bind fun ν3 =>
  (gR S 12 a0 14).bind fun v4 =>
  (gI S 12 a0 12 ν3).bind fun v5 =>
  (sL S v4 v5 a2 ν3).bind fun ν6 =>
  (gR S 12 a0 15).bind fun v7 =>
  (gI S 12 a0 12 ν6).bind fun v8 =>
  (sL S v7 v8 a4 ν6).bind fun ν9 =>
  (gI S 12 a0 12 ν9).bind fun v10 =>
  (pI S 12 a0 12 (v10 + 1) ν9).bind fun ν11 =>
  some ((), ν11)
  else none
set_option maxRecDepth 100000 in
set_option maxHeartbeats 4000000 in
theorem c_X12_lays {l : Launch} {γ : GE} {S : SH} {a0 : Nat} {a1 : Int32} {a2 : Int64} {a4 : Int64} {μ : Mem} {X : (Unit × Mem)} (h : f_X12_lays S a0 a1 a2 a4 μ = some X) : isO S 12 a0 = true ∧ Ct l γ yX12_lays cX12_lays 6 (none) rm_X12_lays [.ref (gb γ + a0), .int a1, .long a2, .long a4] S μ S X.2 none := by
  unfold f_X12_lays at h
  obtain ⟨h0, h⟩ := if_some h
  refine ⟨h0, ?_⟩
  have hJ : ∀ (p : Program) (e : Env) (s : State) (m : MethodId) (args : Array Value) (below : List Frame) (meth : Method) (c : Code), FX γ p s m args meth c cX12_lays RX12 6 → meth.sig.returnType = (none) → JJ γ p l e rm_X12_lays s m args below meth c 6 0 0 (QV below γ S X args s 0 0) S μ 0 [(0, .ref (gb γ + a0)), (1, .int a1), (2, .long a2), (4, .long a4)] [] := by
    intro p e s m args below meth c F hr
    refine j_aload_n F 0 dX12_lays_0 rfl ?_
    refine j_gR F fl_RX12_42 rfl dX12_lays_1 h (fun v1 h => ?_)
    refine j_aload_n F 0 dX12_lays_4 rfl ?_
    refine j_gI F fl_RX12_177.l rfl dX12_lays_5 h (fun v2 h => ?_)
    refine j_iload_n F 1 dX12_lays_8 rfl ?_
    refine j_iast F dX12_lays_9 h (fun ν3 h => ?_)
    refine j_aload_n F 0 dX12_lays_10 rfl ?_
    refine j_gR F fl_RX12_45 rfl dX12_lays_11 h (fun v4 h => ?_)
    refine j_aload_n F 0 dX12_lays_14 rfl ?_
    refine j_gI F fl_RX12_177.l rfl dX12_lays_15 h (fun v5 h => ?_)
    refine j_lload_n F 2 dX12_lays_18 rfl ?_
    refine j_last F dX12_lays_19 h (fun ν6 h => ?_)
    refine j_aload_n F 0 dX12_lays_20 rfl ?_
    refine j_gR F fl_RX12_49 rfl dX12_lays_21 h (fun v7 h => ?_)
    refine j_aload_n F 0 dX12_lays_24 rfl ?_
    refine j_gI F fl_RX12_177.l rfl dX12_lays_25 h (fun v8 h => ?_)
    refine j_lload F 3 dX12_lays_28 rfl ?_
    refine j_last F dX12_lays_30 h (fun ν9 h => ?_)
    refine j_aload_n F 0 dX12_lays_31 rfl ?_
    refine j_dup F dX12_lays_32 rfl ?_
    refine j_gI F fl_RX12_177.l rfl dX12_lays_33 h (fun v10 h => ?_)
    refine j_iconst F 1 dX12_lays_36 (by decide) ?_
    refine j_iadd F dX12_lays_37 ?_
    refine j_pI F fl_RX12_177 rfl dX12_lays_38 h (fun ν11 h => ?_)
    exact j_vret F hr dX12_lays_41 h
  exact ct_of (by decide +kernel) (Nat.le_of_ble_eq_true rfl) (fun p e s m args below meth c F hr _ => hJ p e s m args below meth c F hr)
def rm_X12_looks : Room := { frames := 4, cells := 0, slots := 0, locals := 80 }
theorem dX12_looks_0 : decode cX12_looks 0 = .ok (.aload_n 0, 1) := by decide +kernel
theorem dX12_looks_1 : decode cX12_looks 1 = .ok (.getfield 36, 3) := by decide +kernel
theorem dX12_looks_4 : decode cX12_looks 4 = .ok (.iconst 0, 1) := by decide +kernel
theorem dX12_looks_5 : decode cX12_looks 5 = .ok (.iaload, 1) := by decide +kernel
theorem dX12_looks_6 : decode cX12_looks 6 = .ok (.invokestatic 174, 3) := by decide +kernel
theorem dX12_looks_9 : decode cX12_looks 9 = .ok (.istore_n 1, 1) := by decide +kernel
theorem dX12_looks_10 : decode cX12_looks 10 = .ok (.aload_n 0, 1) := by decide +kernel
theorem dX12_looks_11 : decode cX12_looks 11 = .ok (.getfield 36, 3) := by decide +kernel
theorem dX12_looks_14 : decode cX12_looks 14 = .ok (.iconst 0, 1) := by decide +kernel
theorem dX12_looks_15 : decode cX12_looks 15 = .ok (.iaload, 1) := by decide +kernel
theorem dX12_looks_16 : decode cX12_looks 16 = .ok (.invokestatic 180, 3) := by decide +kernel
theorem dX12_looks_19 : decode cX12_looks 19 = .ok (.istore_n 2, 1) := by decide +kernel
theorem dX12_looks_20 : decode cX12_looks 20 = .ok (.aload_n 0, 1) := by decide +kernel
theorem dX12_looks_21 : decode cX12_looks 21 = .ok (.iconst 0, 1) := by decide +kernel
theorem dX12_looks_22 : decode cX12_looks 22 = .ok (.putfield 177, 3) := by decide +kernel
theorem dX12_looks_25 : decode cX12_looks 25 = .ok (.iconst 0, 1) := by decide +kernel
theorem dX12_looks_26 : decode cX12_looks 26 = .ok (.istore_n 3, 1) := by decide +kernel
theorem dX12_looks_27 : decode cX12_looks 27 = .ok (.iload_n 3, 1) := by decide +kernel
theorem dX12_looks_28 : decode cX12_looks 28 = .ok (.aload_n 0, 1) := by decide +kernel
theorem dX12_looks_29 : decode cX12_looks 29 = .ok (.getfield 114, 3) := by decide +kernel
theorem dX12_looks_32 : decode cX12_looks 32 = .ok (.if_icmp .ge 98, 3) := by decide +kernel
theorem dX12_looks_35 : decode cX12_looks 35 = .ok (.aload_n 0, 1) := by decide +kernel
theorem dX12_looks_36 : decode cX12_looks 36 = .ok (.getfield 24, 3) := by decide +kernel
theorem dX12_looks_39 : decode cX12_looks 39 = .ok (.iload_n 3, 1) := by decide +kernel
theorem dX12_looks_40 : decode cX12_looks 40 = .ok (.iaload, 1) := by decide +kernel
theorem dX12_looks_41 : decode cX12_looks 41 = .ok (.iconst 1, 1) := by decide +kernel
theorem dX12_looks_42 : decode cX12_looks 42 = .ok (.if_icmp .ne 52, 3) := by decide +kernel
theorem dX12_looks_45 : decode cX12_looks 45 = .ok (.aload_n 0, 1) := by decide +kernel
theorem dX12_looks_46 : decode cX12_looks 46 = .ok (.aload_n 0, 1) := by decide +kernel
theorem dX12_looks_47 : decode cX12_looks 47 = .ok (.getfield 15, 3) := by decide +kernel
theorem dX12_looks_50 : decode cX12_looks 50 = .ok (.iload_n 3, 1) := by decide +kernel
theorem dX12_looks_51 : decode cX12_looks 51 = .ok (.iaload, 1) := by decide +kernel
theorem dX12_looks_52 : decode cX12_looks 52 = .ok (.aload_n 0, 1) := by decide +kernel
theorem dX12_looks_53 : decode cX12_looks 53 = .ok (.getfield 18, 3) := by decide +kernel
theorem dX12_looks_56 : decode cX12_looks 56 = .ok (.iload_n 3, 1) := by decide +kernel
theorem dX12_looks_57 : decode cX12_looks 57 = .ok (.iaload, 1) := by decide +kernel
theorem dX12_looks_58 : decode cX12_looks 58 = .ok (.iload_n 1, 1) := by decide +kernel
theorem dX12_looks_59 : decode cX12_looks 59 = .ok (.imul, 1) := by decide +kernel
theorem dX12_looks_60 : decode cX12_looks 60 = .ok (.aload_n 0, 1) := by decide +kernel
theorem dX12_looks_61 : decode cX12_looks 61 = .ok (.getfield 21, 3) := by decide +kernel
theorem dX12_looks_64 : decode cX12_looks 64 = .ok (.iload_n 3, 1) := by decide +kernel
theorem dX12_looks_65 : decode cX12_looks 65 = .ok (.iaload, 1) := by decide +kernel
theorem dX12_looks_66 : decode cX12_looks 66 = .ok (.iload_n 2, 1) := by decide +kernel
theorem dX12_looks_67 : decode cX12_looks 67 = .ok (.imul, 1) := by decide +kernel
theorem dX12_looks_68 : decode cX12_looks 68 = .ok (.isub, 1) := by decide +kernel
theorem dX12_looks_69 : decode cX12_looks 69 = .ok (.i2l, 1) := by decide +kernel
theorem dX12_looks_70 : decode cX12_looks 70 = .ok (.aload_n 0, 1) := by decide +kernel
theorem dX12_looks_71 : decode cX12_looks 71 = .ok (.getfield 18, 3) := by decide +kernel
theorem dX12_looks_74 : decode cX12_looks 74 = .ok (.iload_n 3, 1) := by decide +kernel
theorem dX12_looks_75 : decode cX12_looks 75 = .ok (.iaload, 1) := by decide +kernel
theorem dX12_looks_76 : decode cX12_looks 76 = .ok (.iload_n 2, 1) := by decide +kernel
theorem dX12_looks_77 : decode cX12_looks 77 = .ok (.imul, 1) := by decide +kernel
theorem dX12_looks_78 : decode cX12_looks 78 = .ok (.aload_n 0, 1) := by decide +kernel
theorem dX12_looks_79 : decode cX12_looks 79 = .ok (.getfield 21, 3) := by decide +kernel
theorem dX12_looks_82 : decode cX12_looks 82 = .ok (.iload_n 3, 1) := by decide +kernel
theorem dX12_looks_83 : decode cX12_looks 83 = .ok (.iaload, 1) := by decide +kernel
theorem dX12_looks_84 : decode cX12_looks 84 = .ok (.iload_n 1, 1) := by decide +kernel
theorem dX12_looks_85 : decode cX12_looks 85 = .ok (.imul, 1) := by decide +kernel
theorem dX12_looks_86 : decode cX12_looks 86 = .ok (.iadd, 1) := by decide +kernel
theorem dX12_looks_87 : decode cX12_looks 87 = .ok (.i2l, 1) := by decide +kernel
theorem dX12_looks_88 : decode cX12_looks 88 = .ok (.invokevirtual 183, 3) := by decide +kernel
theorem dX12_looks_91 : decode cX12_looks 91 = .ok (.goto 33, 3) := by decide +kernel
theorem dX12_looks_94 : decode cX12_looks 94 = .ok (.aload_n 0, 1) := by decide +kernel
theorem dX12_looks_95 : decode cX12_looks 95 = .ok (.aload_n 0, 1) := by decide +kernel
theorem dX12_looks_96 : decode cX12_looks 96 = .ok (.getfield 15, 3) := by decide +kernel
theorem dX12_looks_99 : decode cX12_looks 99 = .ok (.iload_n 3, 1) := by decide +kernel
theorem dX12_looks_100 : decode cX12_looks 100 = .ok (.iaload, 1) := by decide +kernel
theorem dX12_looks_101 : decode cX12_looks 101 = .ok (.bipush 65, 2) := by decide +kernel
theorem dX12_looks_103 : decode cX12_looks 103 = .ok (.aload_n 0, 1) := by decide +kernel
theorem dX12_looks_104 : decode cX12_looks 104 = .ok (.getfield 18, 3) := by decide +kernel
theorem dX12_looks_107 : decode cX12_looks 107 = .ok (.iload_n 3, 1) := by decide +kernel
theorem dX12_looks_108 : decode cX12_looks 108 = .ok (.iaload, 1) := by decide +kernel
theorem dX12_looks_109 : decode cX12_looks 109 = .ok (.imul, 1) := by decide +kernel
theorem dX12_looks_110 : decode cX12_looks 110 = .ok (.i2l, 1) := by decide +kernel
theorem dX12_looks_111 : decode cX12_looks 111 = .ok (.bipush 65, 2) := by decide +kernel
theorem dX12_looks_113 : decode cX12_looks 113 = .ok (.aload_n 0, 1) := by decide +kernel
theorem dX12_looks_114 : decode cX12_looks 114 = .ok (.getfield 21, 3) := by decide +kernel
theorem dX12_looks_117 : decode cX12_looks 117 = .ok (.iload_n 3, 1) := by decide +kernel
theorem dX12_looks_118 : decode cX12_looks 118 = .ok (.iaload, 1) := by decide +kernel
theorem dX12_looks_119 : decode cX12_looks 119 = .ok (.imul, 1) := by decide +kernel
theorem dX12_looks_120 : decode cX12_looks 120 = .ok (.i2l, 1) := by decide +kernel
theorem dX12_looks_121 : decode cX12_looks 121 = .ok (.invokevirtual 183, 3) := by decide +kernel
theorem dX12_looks_124 : decode cX12_looks 124 = .ok (.iinc 3 1, 3) := by decide +kernel
theorem dX12_looks_127 : decode cX12_looks 127 = .ok (.goto (-100), 3) := by decide +kernel
theorem dX12_looks_130 : decode cX12_looks 130 = .ok (.aload_n 0, 1) := by decide +kernel
theorem dX12_looks_131 : decode cX12_looks 131 = .ok (.aload_n 0, 1) := by decide +kernel
theorem dX12_looks_132 : decode cX12_looks 132 = .ok (.getfield 36, 3) := by decide +kernel
theorem dX12_looks_135 : decode cX12_looks 135 = .ok (.iconst 3, 1) := by decide +kernel
theorem dX12_looks_136 : decode cX12_looks 136 = .ok (.iaload, 1) := by decide +kernel
theorem dX12_looks_137 : decode cX12_looks 137 = .ok (.aload_n 0, 1) := by decide +kernel
theorem dX12_looks_138 : decode cX12_looks 138 = .ok (.getfield 36, 3) := by decide +kernel
theorem dX12_looks_141 : decode cX12_looks 141 = .ok (.iconst 1, 1) := by decide +kernel
theorem dX12_looks_142 : decode cX12_looks 142 = .ok (.iaload, 1) := by decide +kernel
theorem dX12_looks_143 : decode cX12_looks 143 = .ok (.iload_n 1, 1) := by decide +kernel
theorem dX12_looks_144 : decode cX12_looks 144 = .ok (.imul, 1) := by decide +kernel
theorem dX12_looks_145 : decode cX12_looks 145 = .ok (.i2l, 1) := by decide +kernel
theorem dX12_looks_146 : decode cX12_looks 146 = .ok (.aload_n 0, 1) := by decide +kernel
theorem dX12_looks_147 : decode cX12_looks 147 = .ok (.getfield 36, 3) := by decide +kernel
theorem dX12_looks_150 : decode cX12_looks 150 = .ok (.iconst 1, 1) := by decide +kernel
theorem dX12_looks_151 : decode cX12_looks 151 = .ok (.iaload, 1) := by decide +kernel
theorem dX12_looks_152 : decode cX12_looks 152 = .ok (.iload_n 2, 1) := by decide +kernel
theorem dX12_looks_153 : decode cX12_looks 153 = .ok (.imul, 1) := by decide +kernel
theorem dX12_looks_154 : decode cX12_looks 154 = .ok (.i2l, 1) := by decide +kernel
theorem dX12_looks_155 : decode cX12_looks 155 = .ok (.invokevirtual 183, 3) := by decide +kernel
theorem dX12_looks_158 : decode cX12_looks 158 = .ok (.aload_n 0, 1) := by decide +kernel
theorem dX12_looks_159 : decode cX12_looks 159 = .ok (.aload_n 0, 1) := by decide +kernel
theorem dX12_looks_160 : decode cX12_looks 160 = .ok (.getfield 36, 3) := by decide +kernel
theorem dX12_looks_163 : decode cX12_looks 163 = .ok (.iconst 2, 1) := by decide +kernel
theorem dX12_looks_164 : decode cX12_looks 164 = .ok (.iaload, 1) := by decide +kernel
theorem dX12_looks_165 : decode cX12_looks 165 = .ok (.aload_n 0, 1) := by decide +kernel
theorem dX12_looks_166 : decode cX12_looks 166 = .ok (.getfield 36, 3) := by decide +kernel
theorem dX12_looks_169 : decode cX12_looks 169 = .ok (.iconst 1, 1) := by decide +kernel
theorem dX12_looks_170 : decode cX12_looks 170 = .ok (.iaload, 1) := by decide +kernel
theorem dX12_looks_171 : decode cX12_looks 171 = .ok (.iload_n 1, 1) := by decide +kernel
theorem dX12_looks_172 : decode cX12_looks 172 = .ok (.imul, 1) := by decide +kernel
theorem dX12_looks_173 : decode cX12_looks 173 = .ok (.i2l, 1) := by decide +kernel
theorem dX12_looks_174 : decode cX12_looks 174 = .ok (.aload_n 0, 1) := by decide +kernel
theorem dX12_looks_175 : decode cX12_looks 175 = .ok (.getfield 36, 3) := by decide +kernel
theorem dX12_looks_178 : decode cX12_looks 178 = .ok (.iconst 1, 1) := by decide +kernel
theorem dX12_looks_179 : decode cX12_looks 179 = .ok (.iaload, 1) := by decide +kernel
theorem dX12_looks_180 : decode cX12_looks 180 = .ok (.iload_n 2, 1) := by decide +kernel
theorem dX12_looks_181 : decode cX12_looks 181 = .ok (.imul, 1) := by decide +kernel
theorem dX12_looks_182 : decode cX12_looks 182 = .ok (.i2l, 1) := by decide +kernel
theorem dX12_looks_183 : decode cX12_looks 183 = .ok (.invokevirtual 183, 3) := by decide +kernel
theorem dX12_looks_186 : decode cX12_looks 186 = .ok (.return_, 1) := by decide +kernel
def b_X12_looks_130 (S : SH) (a0 : Nat) (a1 : Int32) (a2 : Int32) (μ : Mem) : Option (Unit × Mem) :=
 (gR S 12 a0 9).bind fun v9 =>
 (aI S .int v9 3 μ).bind fun v10 =>
 (gR S 12 a0 9).bind fun v11 =>
 (aI S .int v11 1 μ).bind fun v12 =>
 (gR S 12 a0 9).bind fun v13 =>
 (aI S .int v13 1 μ).bind fun v14 =>
 (f_X12_lays S a0 v10 ((v12 * a1).toInt64) ((v14 * a2).toInt64) μ).bind fun q15 =>
 (gR S 12 a0 9).bind fun v16 =>
 (aI S .int v16 2 q15.2).bind fun v17 =>
 (gR S 12 a0 9).bind fun v18 =>
 (aI S .int v18 1 q15.2).bind fun v19 =>
 (gR S 12 a0 9).bind fun v20 =>
 (aI S .int v20 1 q15.2).bind fun v21 =>
 (f_X12_lays S a0 v17 ((v19 * a1).toInt64) ((v21 * a2).toInt64) q15.2).bind fun q22 =>
 some ((), q22.2)
set_option maxRecDepth 100000 in
set_option maxHeartbeats 4000000 in
theorem s_X12_looks_130 {γ : GE} {p : Program} {l : Launch} {e : Env} {s : State} {m : MethodId} {args : Array Value} {below : List Frame} {meth : Method} {c : Code} {S : SH} {X : (Unit × Mem)} (F : FX γ p s m args meth c cX12_looks RX12 4) (hr : meth.sig.returnType = (none)) (a0 : Nat) (a1 : Int32) (a2 : Int32)    (μ : Mem) (h : b_X12_looks_130 S a0 a1 a2 μ = some X) : JJ γ p l e rm_X12_looks s m args below meth c 4 0 0 (QV below γ S X args s 0 0) S μ 130 [(0, .ref (gb γ + a0)), (1, .int a1), (2, .int a2)] [] := by
  unfold b_X12_looks_130 at h
  refine j_aload_n F 0 dX12_looks_130 rfl ?_
  refine j_aload_n F 0 dX12_looks_131 rfl ?_
  refine j_gR F fl_RX12_36 rfl dX12_looks_132 h (fun v9 h => ?_)
  refine j_iconst F 3 dX12_looks_135 (by decide) ?_
  refine j_iald F dX12_looks_136 h (fun v10 h => ?_)
  refine j_aload_n F 0 dX12_looks_137 rfl ?_
  refine j_gR F fl_RX12_36 rfl dX12_looks_138 h (fun v11 h => ?_)
  refine j_iconst F 1 dX12_looks_141 (by decide) ?_
  refine j_iald F dX12_looks_142 h (fun v12 h => ?_)
  refine j_iload_n F 1 dX12_looks_143 rfl ?_
  refine j_imul F dX12_looks_144 ?_
  refine j_i2l F dX12_looks_145 ?_
  refine j_aload_n F 0 dX12_looks_146 rfl ?_
  refine j_gR F fl_RX12_36 rfl dX12_looks_147 h (fun v13 h => ?_)
  refine j_iconst F 1 dX12_looks_150 (by decide) ?_
  refine j_iald F dX12_looks_151 h (fun v14 h => ?_)
  refine j_iload_n F 2 dX12_looks_152 rfl ?_
  refine j_imul F dX12_looks_153 ?_
  refine j_i2l F dX12_looks_154 ?_
  refine j_cVV F mi_X12_lays w_1219 (rest := []) h (fun _ g => c_X12_lays g) rfl rfl (Nat.le_of_ble_eq_true rfl) ⟨Nat.le_of_ble_eq_true rfl, Nat.le_of_ble_eq_true rfl⟩ ⟨Nat.le_of_ble_eq_true rfl, Nat.le_of_ble_eq_true rfl⟩ dX12_looks_155 (fun q15 h => ?_)
  refine j_aload_n F 0 dX12_looks_158 rfl ?_
  refine j_aload_n F 0 dX12_looks_159 rfl ?_
  refine j_gR F fl_RX12_36 rfl dX12_looks_160 h (fun v16 h => ?_)
  refine j_iconst F 2 dX12_looks_163 (by decide) ?_
  refine j_iald F dX12_looks_164 h (fun v17 h => ?_)
  refine j_aload_n F 0 dX12_looks_165 rfl ?_
  refine j_gR F fl_RX12_36 rfl dX12_looks_166 h (fun v18 h => ?_)
  refine j_iconst F 1 dX12_looks_169 (by decide) ?_
  refine j_iald F dX12_looks_170 h (fun v19 h => ?_)
  refine j_iload_n F 1 dX12_looks_171 rfl ?_
  refine j_imul F dX12_looks_172 ?_
  refine j_i2l F dX12_looks_173 ?_
  refine j_aload_n F 0 dX12_looks_174 rfl ?_
  refine j_gR F fl_RX12_36 rfl dX12_looks_175 h (fun v20 h => ?_)
  refine j_iconst F 1 dX12_looks_178 (by decide) ?_
  refine j_iald F dX12_looks_179 h (fun v21 h => ?_)
  refine j_iload_n F 2 dX12_looks_180 rfl ?_
  refine j_imul F dX12_looks_181 ?_
  refine j_i2l F dX12_looks_182 ?_
  refine j_cVV F mi_X12_lays w_1219 (rest := []) h (fun _ g => c_X12_lays g) rfl rfl (Nat.le_of_ble_eq_true rfl) ⟨Nat.le_of_ble_eq_true rfl, Nat.le_of_ble_eq_true rfl⟩ ⟨Nat.le_of_ble_eq_true rfl, Nat.le_of_ble_eq_true rfl⟩ dX12_looks_183 (fun q22 h => ?_)
  exact j_vret F hr dX12_looks_186 h
def l_X12_looks_27 (S : SH) (a0 : Nat) (a1 : Int32) (a2 : Int32) (k27 : (Int32 × Mem) → Option (Unit × Mem)) (x : (Int32 × Mem)) : Option (Unit × Mem) :=
 (gI S 12 a0 1 x.2).bind fun v8 =>
 (if v8 ≤ x.1 then
 b_X12_looks_130 S a0 a1 a2 x.2
 else
 (gR S 12 a0 5).bind fun v23 =>
 (aI S .int v23 x.1 x.2).bind fun v24 =>
 (if v24 = 1 then
 (gR S 12 a0 2).bind fun v32 =>
 (aI S .int v32 x.1 x.2).bind fun v33 =>
 (gR S 12 a0 3).bind fun v34 =>
 (aI S .int v34 x.1 x.2).bind fun v35 =>
 (gR S 12 a0 4).bind fun v36 =>
 (aI S .int v36 x.1 x.2).bind fun v37 =>
 (gR S 12 a0 3).bind fun v38 =>
 (aI S .int v38 x.1 x.2).bind fun v39 =>
 (gR S 12 a0 4).bind fun v40 =>
 (aI S .int v40 x.1 x.2).bind fun v41 =>
 (f_X12_lays S a0 v33 (((v35 * a1) - (v37 * a2)).toInt64) (((v39 * a2) + (v41 * a1)).toInt64) x.2).bind fun q42 =>
 k27 (x.1 + 1, q42.2)
 else
 (gR S 12 a0 2).bind fun v25 =>
 (aI S .int v25 x.1 x.2).bind fun v26 =>
 (gR S 12 a0 3).bind fun v27 =>
 (aI S .int v27 x.1 x.2).bind fun v28 =>
 (gR S 12 a0 4).bind fun v29 =>
 (aI S .int v29 x.1 x.2).bind fun v30 =>
 (f_X12_lays S a0 v26 ((65 * v28).toInt64) ((65 * v30).toInt64) x.2).bind fun q31 =>
 k27 (x.1 + 1, q31.2)))
set_option maxRecDepth 100000 in
set_option maxHeartbeats 4000000 in
theorem t_X12_looks_27 {γ : GE} {p : Program} {l : Launch} {e : Env} {s : State} {m : MethodId} {args : Array Value} {below : List Frame} {meth : Method} {c : Code} {S : SH} {X : (Unit × Mem)} (F : FX γ p s m args meth c cX12_looks RX12 4) (hr : meth.sig.returnType = (none)) (a0 : Nat) (a1 : Int32) (a2 : Int32) (k27 : (Int32 × Mem) → Option (Unit × Mem)) (hk27 : ∀ (x27_3 : Int32) (ν : Mem), k27 (x27_3, ν) = some X → JJ γ p l e rm_X12_looks s m args below meth c 4 0 0 (QV below γ S X args s 0 0) S ν 27 [(0, .ref (gb γ + a0)), (1, .int a1), (2, .int a2), (3, .int x27_3)] []) (x : (Int32 × Mem)) (h : l_X12_looks_27 S a0 a1 a2 k27 x = some X) : JJ γ p l e rm_X12_looks s m args below meth c 4 0 0 (QV below γ S X args s 0 0) S x.2 27 [(0, .ref (gb γ + a0)), (1, .int a1), (2, .int a2), (3, .int x.1)] [] := by
  unfold l_X12_looks_27 at h
  refine j_iload_n F 3 dX12_looks_27 rfl ?_
  refine j_aload_n F 0 dX12_looks_28 rfl ?_
  refine j_gI F fl_RX12_114.l rfl dX12_looks_29 h (fun v8 h => ?_)
  refine j_icmpge F 130 dX12_looks_32 (by decide) h (fun _ h => ?_) (fun _ h => ?_)
  · refine j_lv [(0, .ref (gb γ + a0)), (1, .int a1), (2, .int a2)] [0, 1, 2] rfl ?_
    exact s_X12_looks_130 F hr _ _ _ _ h
  · refine j_aload_n F 0 dX12_looks_35 rfl ?_
    refine j_gR F fl_RX12_24 rfl dX12_looks_36 h (fun v23 h => ?_)
    refine j_iload_n F 3 dX12_looks_39 rfl ?_
    refine j_iald F dX12_looks_40 h (fun v24 h => ?_)
    refine j_iconst F 1 dX12_looks_41 (by decide) ?_
    refine j_icmpne F 94 dX12_looks_42 (by decide) h (fun _ h => ?_) (fun _ h => ?_)
    · refine j_aload_n F 0 dX12_looks_94 rfl ?_
      refine j_aload_n F 0 dX12_looks_95 rfl ?_
      refine j_gR F fl_RX12_15 rfl dX12_looks_96 h (fun v25 h => ?_)
      refine j_iload_n F 3 dX12_looks_99 rfl ?_
      refine j_iald F dX12_looks_100 h (fun v26 h => ?_)
      refine j_bipush F 65 dX12_looks_101 (by decide) ?_
      refine j_aload_n F 0 dX12_looks_103 rfl ?_
      refine j_gR F fl_RX12_18 rfl dX12_looks_104 h (fun v27 h => ?_)
      refine j_iload_n F 3 dX12_looks_107 rfl ?_
      refine j_iald F dX12_looks_108 h (fun v28 h => ?_)
      refine j_imul F dX12_looks_109 ?_
      refine j_i2l F dX12_looks_110 ?_
      refine j_bipush F 65 dX12_looks_111 (by decide) ?_
      refine j_aload_n F 0 dX12_looks_113 rfl ?_
      refine j_gR F fl_RX12_21 rfl dX12_looks_114 h (fun v29 h => ?_)
      refine j_iload_n F 3 dX12_looks_117 rfl ?_
      refine j_iald F dX12_looks_118 h (fun v30 h => ?_)
      refine j_imul F dX12_looks_119 ?_
      refine j_i2l F dX12_looks_120 ?_
      refine j_cVV F mi_X12_lays w_1219 (rest := []) h (fun _ g => c_X12_lays g) rfl rfl (Nat.le_of_ble_eq_true rfl) ⟨Nat.le_of_ble_eq_true rfl, Nat.le_of_ble_eq_true rfl⟩ ⟨Nat.le_of_ble_eq_true rfl, Nat.le_of_ble_eq_true rfl⟩ dX12_looks_121 (fun q31 h => ?_)
      refine j_iinc F 1 3 [(3, .int (x.1 + 1)), (0, .ref (gb γ + a0)), (1, .int a1), (2, .int a2)] dX12_looks_124 rfl (by decide) (by decide) rfl ?_
      refine j_goto F 27 dX12_looks_127 (by decide) ?_
      refine j_lv [(0, .ref (gb γ + a0)), (1, .int a1), (2, .int a2), (3, .int (x.1 + 1))] [1, 2, 3, 0] rfl ?_
      exact hk27 _ _ h
    · refine j_aload_n F 0 dX12_looks_45 rfl ?_
      refine j_aload_n F 0 dX12_looks_46 rfl ?_
      refine j_gR F fl_RX12_15 rfl dX12_looks_47 h (fun v32 h => ?_)
      refine j_iload_n F 3 dX12_looks_50 rfl ?_
      refine j_iald F dX12_looks_51 h (fun v33 h => ?_)
      refine j_aload_n F 0 dX12_looks_52 rfl ?_
      refine j_gR F fl_RX12_18 rfl dX12_looks_53 h (fun v34 h => ?_)
      refine j_iload_n F 3 dX12_looks_56 rfl ?_
      refine j_iald F dX12_looks_57 h (fun v35 h => ?_)
      refine j_iload_n F 1 dX12_looks_58 rfl ?_
      refine j_imul F dX12_looks_59 ?_
      refine j_aload_n F 0 dX12_looks_60 rfl ?_
      refine j_gR F fl_RX12_21 rfl dX12_looks_61 h (fun v36 h => ?_)
      refine j_iload_n F 3 dX12_looks_64 rfl ?_
      refine j_iald F dX12_looks_65 h (fun v37 h => ?_)
      refine j_iload_n F 2 dX12_looks_66 rfl ?_
      refine j_imul F dX12_looks_67 ?_
      refine j_isub F dX12_looks_68 ?_
      refine j_i2l F dX12_looks_69 ?_
      refine j_aload_n F 0 dX12_looks_70 rfl ?_
      refine j_gR F fl_RX12_18 rfl dX12_looks_71 h (fun v38 h => ?_)
      refine j_iload_n F 3 dX12_looks_74 rfl ?_
      refine j_iald F dX12_looks_75 h (fun v39 h => ?_)
      refine j_iload_n F 2 dX12_looks_76 rfl ?_
      refine j_imul F dX12_looks_77 ?_
      refine j_aload_n F 0 dX12_looks_78 rfl ?_
      refine j_gR F fl_RX12_21 rfl dX12_looks_79 h (fun v40 h => ?_)
      refine j_iload_n F 3 dX12_looks_82 rfl ?_
      refine j_iald F dX12_looks_83 h (fun v41 h => ?_)
      refine j_iload_n F 1 dX12_looks_84 rfl ?_
      refine j_imul F dX12_looks_85 ?_
      refine j_iadd F dX12_looks_86 ?_
      refine j_i2l F dX12_looks_87 ?_
      refine j_cVV F mi_X12_lays w_1219 (rest := []) h (fun _ g => c_X12_lays g) rfl rfl (Nat.le_of_ble_eq_true rfl) ⟨Nat.le_of_ble_eq_true rfl, Nat.le_of_ble_eq_true rfl⟩ ⟨Nat.le_of_ble_eq_true rfl, Nat.le_of_ble_eq_true rfl⟩ dX12_looks_88 (fun q42 h => ?_)
      refine j_goto F 124 dX12_looks_91 (by decide) ?_
      refine j_iinc F 1 3 [(3, .int (x.1 + 1)), (0, .ref (gb γ + a0)), (1, .int a1), (2, .int a2)] dX12_looks_124 rfl (by decide) (by decide) rfl ?_
      refine j_goto F 27 dX12_looks_127 (by decide) ?_
      refine j_lv [(0, .ref (gb γ + a0)), (1, .int a1), (2, .int a2), (3, .int (x.1 + 1))] [1, 2, 3, 0] rfl ?_
      exact hk27 _ _ h
theorem s_X12_looks_27 {γ : GE} {p : Program} {l : Launch} {e : Env} {s : State} {m : MethodId} {args : Array Value} {below : List Frame} {meth : Method} {c : Code} {S : SH} {X : (Unit × Mem)} (F : FX γ p s m args meth c cX12_looks RX12 4) (hr : meth.sig.returnType = (none)) (a0 : Nat) (a1 : Int32) (a2 : Int32) (x27_3 : Int32) (ν : Mem) (h : lpN (l_X12_looks_27 S a0 a1 a2) fu (x27_3, ν) = some X) : JJ γ p l e rm_X12_looks s m args below meth c 4 0 0 (QV below γ S X args s 0 0) S ν 27 [(0, .ref (gb γ + a0)), (1, .int a1), (2, .int a2), (3, .int x27_3)] [] :=
 lpN_sound (fun x => JJ γ p l e rm_X12_looks s m args below meth c 4 0 0 (QV below γ S X args s 0 0) S x.2 27 [(0, .ref (gb γ + a0)), (1, .int a1), (2, .int a2), (3, .int x.1)] []) (fun k27 hk27 x h => t_X12_looks_27 F hr a0 a1 a2 k27 (fun x27_3 ν h => hk27 (x27_3, ν) h) x h) fu (x27_3, ν) h
def f_X12_looks (S : SH) (a0 : Nat) (μ : Mem) : Option (Unit × Mem) :=
  if isO S 12 a0 = true then
  (gR S 12 a0 9).bind fun v1 =>
  (aI S .int v1 0 μ).bind fun v2 =>
  (f_X12_cos S v2 μ).bind fun q3 =>
  (gR S 12 a0 9).bind fun v4 =>
  (aI S .int v4 0 q3.2).bind fun v5 =>
  (f_X12_sin S v5 q3.2).bind fun q6 =>
  (pI S 12 a0 12 0 q6.2).bind fun ν7 =>
  lpN (l_X12_looks_27 S  a0 q3.1 q6.1) fu (0, ν7)
  else none
set_option maxRecDepth 100000 in
set_option maxHeartbeats 4000000 in
theorem c_X12_looks {l : Launch} {γ : GE} {S : SH} {a0 : Nat} {μ : Mem} {X : (Unit × Mem)} (h : f_X12_looks S a0 μ = some X) : isO S 12 a0 = true ∧ Ct l γ yX12_looks cX12_looks 4 (none) rm_X12_looks [.ref (gb γ + a0)] S μ S X.2 none := by
  unfold f_X12_looks at h
  obtain ⟨h0, h⟩ := if_some h
  refine ⟨h0, ?_⟩
  have hJ : ∀ (p : Program) (e : Env) (s : State) (m : MethodId) (args : Array Value) (below : List Frame) (meth : Method) (c : Code), FX γ p s m args meth c cX12_looks RX12 4 → meth.sig.returnType = (none) → JJ γ p l e rm_X12_looks s m args below meth c 4 0 0 (QV below γ S X args s 0 0) S μ 0 [(0, .ref (gb γ + a0))] [] := by
    intro p e s m args below meth c F hr
    refine j_aload_n F 0 dX12_looks_0 rfl ?_
    refine j_gR F fl_RX12_36 rfl dX12_looks_1 h (fun v1 h => ?_)
    refine j_iconst F 0 dX12_looks_4 (by decide) ?_
    refine j_iald F dX12_looks_5 h (fun v2 h => ?_)
    refine j_cSI F mi_X12_cos w_1207 (rest := []) h (fun _ g => c_X12_cos g) rfl rfl (Nat.le_of_ble_eq_true rfl) ⟨Nat.le_of_ble_eq_true rfl, Nat.le_of_ble_eq_true rfl⟩ ⟨Nat.le_of_ble_eq_true rfl, Nat.le_of_ble_eq_true rfl⟩ dX12_looks_6 (fun q3 h => ?_)
    refine j_istore_n F [(1, .int q3.1), (0, .ref (gb γ + a0))] dX12_looks_9 rfl (by decide) rfl ?_
    refine j_aload_n F 1 dX12_looks_10 rfl ?_
    refine j_gR F fl_RX12_36 rfl dX12_looks_11 h (fun v4 h => ?_)
    refine j_iconst F 0 dX12_looks_14 (by decide) ?_
    refine j_iald F dX12_looks_15 h (fun v5 h => ?_)
    refine j_cSI F mi_X12_sin w_1216 (rest := []) h (fun _ g => c_X12_sin g) rfl rfl (Nat.le_of_ble_eq_true rfl) ⟨Nat.le_of_ble_eq_true rfl, Nat.le_of_ble_eq_true rfl⟩ ⟨Nat.le_of_ble_eq_true rfl, Nat.le_of_ble_eq_true rfl⟩ dX12_looks_16 (fun q6 h => ?_)
    refine j_istore_n F [(2, .int q6.1), (1, .int q3.1), (0, .ref (gb γ + a0))] dX12_looks_19 rfl (by decide) rfl ?_
    refine j_aload_n F 2 dX12_looks_20 rfl ?_
    refine j_iconst F 0 dX12_looks_21 (by decide) ?_
    refine j_pI F fl_RX12_177 rfl dX12_looks_22 h (fun ν7 h => ?_)
    refine j_iconst F 0 dX12_looks_25 (by decide) ?_
    refine j_istore_n F [(3, .int 0), (2, .int q6.1), (1, .int q3.1), (0, .ref (gb γ + a0))] dX12_looks_26 rfl (by decide) rfl ?_
    refine j_lv [(0, .ref (gb γ + a0)), (1, .int q3.1), (2, .int q6.1), (3, .int 0)] [3, 2, 1, 0] rfl ?_
    exact s_X12_looks_27 F hr _ _ _ _ _ h
  exact ct_of (by decide +kernel) (Nat.le_of_ble_eq_true rfl) (fun p e s m args below meth c F hr _ => hJ p e s m args below meth c F hr)
def rm_X12_sum : Room := { frames := 0, cells := 0, slots := 0, locals := 0 }
theorem dX12_sum_0 : decode cX12_sum 0 = .ok (.lconst 0, 1) := by decide +kernel
theorem dX12_sum_1 : decode cX12_sum 1 = .ok (.lstore_n 2, 1) := by decide +kernel
theorem dX12_sum_2 : decode cX12_sum 2 = .ok (.iconst 0, 1) := by decide +kernel
theorem dX12_sum_3 : decode cX12_sum 3 = .ok (.istore 4, 2) := by decide +kernel
theorem dX12_sum_5 : decode cX12_sum 5 = .ok (.iload 4, 2) := by decide +kernel
theorem dX12_sum_7 : decode cX12_sum 7 = .ok (.aload_n 0, 1) := by decide +kernel
theorem dX12_sum_8 : decode cX12_sum 8 = .ok (.getfield 177, 3) := by decide +kernel
theorem dX12_sum_11 : decode cX12_sum 11 = .ok (.if_icmp .ge 51, 3) := by decide +kernel
theorem dX12_sum_14 : decode cX12_sum 14 = .ok (.lload_n 2, 1) := by decide +kernel
theorem dX12_sum_15 : decode cX12_sum 15 = .ok (.aload_n 0, 1) := by decide +kernel
theorem dX12_sum_16 : decode cX12_sum 16 = .ok (.getfield 42, 3) := by decide +kernel
theorem dX12_sum_19 : decode cX12_sum 19 = .ok (.iload 4, 2) := by decide +kernel
theorem dX12_sum_21 : decode cX12_sum 21 = .ok (.iaload, 1) := by decide +kernel
theorem dX12_sum_22 : decode cX12_sum 22 = .ok (.i2l, 1) := by decide +kernel
theorem dX12_sum_23 : decode cX12_sum 23 = .ok (.iload_n 1, 1) := by decide +kernel
theorem dX12_sum_24 : decode cX12_sum 24 = .ok (.ifCond .ne 7, 3) := by decide +kernel
theorem dX12_sum_27 : decode cX12_sum 27 = .ok (.lconst 1, 1) := by decide +kernel
theorem dX12_sum_28 : decode cX12_sum 28 = .ok (.goto 25, 3) := by decide +kernel
theorem dX12_sum_31 : decode cX12_sum 31 = .ok (.iload_n 1, 1) := by decide +kernel
theorem dX12_sum_32 : decode cX12_sum 32 = .ok (.iconst 1, 1) := by decide +kernel
theorem dX12_sum_33 : decode cX12_sum 33 = .ok (.if_icmp .ne 13, 3) := by decide +kernel
theorem dX12_sum_36 : decode cX12_sum 36 = .ok (.aload_n 0, 1) := by decide +kernel
theorem dX12_sum_37 : decode cX12_sum 37 = .ok (.getfield 45, 3) := by decide +kernel
theorem dX12_sum_40 : decode cX12_sum 40 = .ok (.iload 4, 2) := by decide +kernel
theorem dX12_sum_42 : decode cX12_sum 42 = .ok (.laload, 1) := by decide +kernel
theorem dX12_sum_43 : decode cX12_sum 43 = .ok (.goto 10, 3) := by decide +kernel
theorem dX12_sum_46 : decode cX12_sum 46 = .ok (.aload_n 0, 1) := by decide +kernel
theorem dX12_sum_47 : decode cX12_sum 47 = .ok (.getfield 49, 3) := by decide +kernel
theorem dX12_sum_50 : decode cX12_sum 50 = .ok (.iload 4, 2) := by decide +kernel
theorem dX12_sum_52 : decode cX12_sum 52 = .ok (.laload, 1) := by decide +kernel
theorem dX12_sum_53 : decode cX12_sum 53 = .ok (.lmul, 1) := by decide +kernel
theorem dX12_sum_54 : decode cX12_sum 54 = .ok (.ladd, 1) := by decide +kernel
theorem dX12_sum_55 : decode cX12_sum 55 = .ok (.lstore_n 2, 1) := by decide +kernel
theorem dX12_sum_56 : decode cX12_sum 56 = .ok (.iinc 4 1, 3) := by decide +kernel
theorem dX12_sum_59 : decode cX12_sum 59 = .ok (.goto (-54), 3) := by decide +kernel
theorem dX12_sum_62 : decode cX12_sum 62 = .ok (.lload_n 2, 1) := by decide +kernel
theorem dX12_sum_63 : decode cX12_sum 63 = .ok (.lreturn, 1) := by decide +kernel
def l_X12_sum_5 (S : SH) (a0 : Nat) (a1 : Int32) (k5 : (Int64 × Int32 × Mem) → Option (Int64 × Mem)) (x : (Int64 × Int32 × Mem)) : Option (Int64 × Mem) :=
 (gI S 12 a0 12 x.2.2).bind fun v1 =>
 (if v1 ≤ x.2.1 then
 some (x.1, x.2.2)
 else
 (gR S 12 a0 13).bind fun v2 =>
 (aI S .int v2 x.2.1 x.2.2).bind fun v3 =>
 (if a1 = 0 then
 (some (x.1 + (v3.toInt64 * 1))).bind fun y10 =>
 k5 (y10, x.2.1 + 1, x.2.2)
 else
 (if a1 = 1 then
 (gR S 12 a0 14).bind fun v7 =>
 (aL S v7 x.2.1 x.2.2).bind fun v8 =>
 (some (x.1 + (v3.toInt64 * v8))).bind fun y9 =>
 k5 (y9, x.2.1 + 1, x.2.2)
 else
 (gR S 12 a0 15).bind fun v4 =>
 (aL S v4 x.2.1 x.2.2).bind fun v5 =>
 (some (x.1 + (v3.toInt64 * v5))).bind fun y6 =>
 k5 (y6, x.2.1 + 1, x.2.2))))
set_option maxRecDepth 100000 in
set_option maxHeartbeats 4000000 in
theorem t_X12_sum_5 {γ : GE} {p : Program} {l : Launch} {e : Env} {s : State} {m : MethodId} {args : Array Value} {below : List Frame} {meth : Method} {c : Code} {S : SH} {X : (Int64 × Mem)} (F : FX γ p s m args meth c cX12_sum RX12 5) (hr : meth.sig.returnType = (some .long)) (a0 : Nat) (a1 : Int32) (k5 : (Int64 × Int32 × Mem) → Option (Int64 × Mem)) (hk5 : ∀ (x5_2 : Int64) (x5_4 : Int32) (ν : Mem), k5 (x5_2, x5_4, ν) = some X → JJ γ p l e rm_X12_sum s m args below meth c 5 0 0 (QL below γ S X args s 0 0) S ν 5 [(0, .ref (gb γ + a0)), (1, .int a1), (2, .long x5_2), (4, .int x5_4)] []) (x : (Int64 × Int32 × Mem)) (h : l_X12_sum_5 S a0 a1 k5 x = some X) : JJ γ p l e rm_X12_sum s m args below meth c 5 0 0 (QL below γ S X args s 0 0) S x.2.2 5 [(0, .ref (gb γ + a0)), (1, .int a1), (2, .long x.1), (4, .int x.2.1)] [] := by
  unfold l_X12_sum_5 at h
  refine j_iload F 3 dX12_sum_5 rfl ?_
  refine j_aload_n F 0 dX12_sum_7 rfl ?_
  refine j_gI F fl_RX12_177.l rfl dX12_sum_8 h (fun v1 h => ?_)
  refine j_icmpge F 62 dX12_sum_11 (by decide) h (fun _ h => ?_) (fun _ h => ?_)
  · refine j_lload_n F 2 dX12_sum_62 rfl ?_
    exact j_lret F hr dX12_sum_63 h
  · refine j_lload_n F 2 dX12_sum_14 rfl ?_
    refine j_aload_n F 0 dX12_sum_15 rfl ?_
    refine j_gR F fl_RX12_42 rfl dX12_sum_16 h (fun v2 h => ?_)
    refine j_iload F 3 dX12_sum_19 rfl ?_
    refine j_iald F dX12_sum_21 h (fun v3 h => ?_)
    refine j_i2l F dX12_sum_22 ?_
    refine j_iload_n F 1 dX12_sum_23 rfl ?_
    refine j_ifne F 31 dX12_sum_24 (by decide) h (fun _ h => ?_) (fun _ h => ?_)
    · refine j_iload_n F 1 dX12_sum_31 rfl ?_
      refine j_iconst F 1 dX12_sum_32 (by decide) ?_
      refine j_icmpne F 46 dX12_sum_33 (by decide) h (fun _ h => ?_) (fun _ h => ?_)
      · refine j_aload_n F 0 dX12_sum_46 rfl ?_
        refine j_gR F fl_RX12_49 rfl dX12_sum_47 h (fun v4 h => ?_)
        refine j_iload F 3 dX12_sum_50 rfl ?_
        refine j_lald F dX12_sum_52 h (fun v5 h => ?_)
        refine j_lmul F dX12_sum_53 ?_
        refine j_ladd F dX12_sum_54 ?_
        refine j_nmL h (fun y6 h => ?_)
        refine j_lstore_n F [(2, .long y6), (0, .ref (gb γ + a0)), (1, .int a1), (4, .int x.2.1)] dX12_sum_55 rfl (by decide) rfl ?_
        refine j_iinc F 1 3 [(4, .int (x.2.1 + 1)), (2, .long y6), (0, .ref (gb γ + a0)), (1, .int a1)] dX12_sum_56 rfl (by decide) (by decide) rfl ?_
        refine j_goto F 5 dX12_sum_59 (by decide) ?_
        refine j_lv [(0, .ref (gb γ + a0)), (1, .int a1), (2, .long y6), (4, .int (x.2.1 + 1))] [2, 3, 1, 0] rfl ?_
        exact hk5 _ _ _ h
      · refine j_aload_n F 0 dX12_sum_36 rfl ?_
        refine j_gR F fl_RX12_45 rfl dX12_sum_37 h (fun v7 h => ?_)
        refine j_iload F 3 dX12_sum_40 rfl ?_
        refine j_lald F dX12_sum_42 h (fun v8 h => ?_)
        refine j_goto F 53 dX12_sum_43 (by decide) ?_
        refine j_lmul F dX12_sum_53 ?_
        refine j_ladd F dX12_sum_54 ?_
        refine j_nmL h (fun y9 h => ?_)
        refine j_lstore_n F [(2, .long y9), (0, .ref (gb γ + a0)), (1, .int a1), (4, .int x.2.1)] dX12_sum_55 rfl (by decide) rfl ?_
        refine j_iinc F 1 3 [(4, .int (x.2.1 + 1)), (2, .long y9), (0, .ref (gb γ + a0)), (1, .int a1)] dX12_sum_56 rfl (by decide) (by decide) rfl ?_
        refine j_goto F 5 dX12_sum_59 (by decide) ?_
        refine j_lv [(0, .ref (gb γ + a0)), (1, .int a1), (2, .long y9), (4, .int (x.2.1 + 1))] [2, 3, 1, 0] rfl ?_
        exact hk5 _ _ _ h
    · refine j_lconst F 1 dX12_sum_27 (by decide) ?_
      refine j_goto F 53 dX12_sum_28 (by decide) ?_
      refine j_lmul F dX12_sum_53 ?_
      refine j_ladd F dX12_sum_54 ?_
      refine j_nmL h (fun y10 h => ?_)
      refine j_lstore_n F [(2, .long y10), (0, .ref (gb γ + a0)), (1, .int a1), (4, .int x.2.1)] dX12_sum_55 rfl (by decide) rfl ?_
      refine j_iinc F 1 3 [(4, .int (x.2.1 + 1)), (2, .long y10), (0, .ref (gb γ + a0)), (1, .int a1)] dX12_sum_56 rfl (by decide) (by decide) rfl ?_
      refine j_goto F 5 dX12_sum_59 (by decide) ?_
      refine j_lv [(0, .ref (gb γ + a0)), (1, .int a1), (2, .long y10), (4, .int (x.2.1 + 1))] [2, 3, 1, 0] rfl ?_
      exact hk5 _ _ _ h
theorem s_X12_sum_5 {γ : GE} {p : Program} {l : Launch} {e : Env} {s : State} {m : MethodId} {args : Array Value} {below : List Frame} {meth : Method} {c : Code} {S : SH} {X : (Int64 × Mem)} (F : FX γ p s m args meth c cX12_sum RX12 5) (hr : meth.sig.returnType = (some .long)) (a0 : Nat) (a1 : Int32) (x5_2 : Int64) (x5_4 : Int32) (ν : Mem) (h : lpN (l_X12_sum_5 S a0 a1) fu (x5_2, x5_4, ν) = some X) : JJ γ p l e rm_X12_sum s m args below meth c 5 0 0 (QL below γ S X args s 0 0) S ν 5 [(0, .ref (gb γ + a0)), (1, .int a1), (2, .long x5_2), (4, .int x5_4)] [] :=
 lpN_sound (fun x => JJ γ p l e rm_X12_sum s m args below meth c 5 0 0 (QL below γ S X args s 0 0) S x.2.2 5 [(0, .ref (gb γ + a0)), (1, .int a1), (2, .long x.1), (4, .int x.2.1)] []) (fun k5 hk5 x h => t_X12_sum_5 F hr a0 a1 k5 (fun x5_2 x5_4 ν h => hk5 (x5_2, x5_4, ν) h) x h) fu (x5_2, x5_4, ν) h
def f_X12_sum (S : SH) (a0 : Nat) (a1 : Int32) (μ : Mem) : Option (Int64 × Mem) :=
  if isO S 12 a0 = true then
  lpN (l_X12_sum_5 S  a0 a1) fu (0, 0, μ)
  else none
set_option maxRecDepth 100000 in
set_option maxHeartbeats 4000000 in
theorem c_X12_sum {l : Launch} {γ : GE} {S : SH} {a0 : Nat} {a1 : Int32} {μ : Mem} {X : (Int64 × Mem)} (h : f_X12_sum S a0 a1 μ = some X) : isO S 12 a0 = true ∧ Ct l γ yX12_sum cX12_sum 5 (some .long) rm_X12_sum [.ref (gb γ + a0), .int a1] S μ S X.2 (some (.long X.1)) := by
  unfold f_X12_sum at h
  obtain ⟨h0, h⟩ := if_some h
  refine ⟨h0, ?_⟩
  have hJ : ∀ (p : Program) (e : Env) (s : State) (m : MethodId) (args : Array Value) (below : List Frame) (meth : Method) (c : Code), FX γ p s m args meth c cX12_sum RX12 5 → meth.sig.returnType = (some .long) → JJ γ p l e rm_X12_sum s m args below meth c 5 0 0 (QL below γ S X args s 0 0) S μ 0 [(0, .ref (gb γ + a0)), (1, .int a1)] [] := by
    intro p e s m args below meth c F hr
    refine j_lconst F 0 dX12_sum_0 (by decide) ?_
    refine j_lstore_n F [(2, .long 0), (0, .ref (gb γ + a0)), (1, .int a1)] dX12_sum_1 rfl (by decide) rfl ?_
    refine j_iconst F 0 dX12_sum_2 (by decide) ?_
    refine j_istore F [(4, .int 0), (2, .long 0), (0, .ref (gb γ + a0)), (1, .int a1)] dX12_sum_3 (by decide) rfl ?_
    refine j_lv [(0, .ref (gb γ + a0)), (1, .int a1), (2, .long 0), (4, .int 0)] [2, 3, 1, 0] rfl ?_
    exact s_X12_sum_5 F hr _ _ _ _ _ h
  exact ct_of (by decide +kernel) (Nat.le_of_ble_eq_true rfl) (fun p e s m args below meth c F hr _ => hJ p e s m args below meth c F hr)
def rm_X12_momentOf : Room := { frames := 1, cells := 0, slots := 0, locals := 25 }
theorem dX12_momentOf_0 : decode cX12_momentOf 0 = .ok (.aload_n 0, 1) := by decide +kernel
theorem dX12_momentOf_1 : decode cX12_momentOf 1 = .ok (.iload_n 1, 1) := by decide +kernel
theorem dX12_momentOf_2 : decode cX12_momentOf 2 = .ok (.iconst 1, 1) := by decide +kernel
theorem dX12_momentOf_3 : decode cX12_momentOf 3 = .ok (.iadd, 1) := by decide +kernel
theorem dX12_momentOf_4 : decode cX12_momentOf 4 = .ok (.invokevirtual 99, 3) := by decide +kernel
theorem dX12_momentOf_7 : decode cX12_momentOf 7 = .ok (.aload_n 0, 1) := by decide +kernel
theorem dX12_momentOf_8 : decode cX12_momentOf 8 = .ok (.iload_n 1, 1) := by decide +kernel
theorem dX12_momentOf_9 : decode cX12_momentOf 9 = .ok (.invokevirtual 99, 3) := by decide +kernel
theorem dX12_momentOf_12 : decode cX12_momentOf 12 = .ok (.isub, 1) := by decide +kernel
theorem dX12_momentOf_13 : decode cX12_momentOf 13 = .ok (.i2l, 1) := by decide +kernel
theorem dX12_momentOf_14 : decode cX12_momentOf 14 = .ok (.lstore_n 3, 1) := by decide +kernel
theorem dX12_momentOf_15 : decode cX12_momentOf 15 = .ok (.aload_n 0, 1) := by decide +kernel
theorem dX12_momentOf_16 : decode cX12_momentOf 16 = .ok (.iload_n 1, 1) := by decide +kernel
theorem dX12_momentOf_17 : decode cX12_momentOf 17 = .ok (.iconst 1, 1) := by decide +kernel
theorem dX12_momentOf_18 : decode cX12_momentOf 18 = .ok (.iadd, 1) := by decide +kernel
theorem dX12_momentOf_19 : decode cX12_momentOf 19 = .ok (.invokevirtual 103, 3) := by decide +kernel
theorem dX12_momentOf_22 : decode cX12_momentOf 22 = .ok (.aload_n 0, 1) := by decide +kernel
theorem dX12_momentOf_23 : decode cX12_momentOf 23 = .ok (.iload_n 1, 1) := by decide +kernel
theorem dX12_momentOf_24 : decode cX12_momentOf 24 = .ok (.invokevirtual 103, 3) := by decide +kernel
theorem dX12_momentOf_27 : decode cX12_momentOf 27 = .ok (.isub, 1) := by decide +kernel
theorem dX12_momentOf_28 : decode cX12_momentOf 28 = .ok (.i2l, 1) := by decide +kernel
theorem dX12_momentOf_29 : decode cX12_momentOf 29 = .ok (.lstore 5, 2) := by decide +kernel
theorem dX12_momentOf_31 : decode cX12_momentOf 31 = .ok (.aload_n 0, 1) := by decide +kernel
theorem dX12_momentOf_32 : decode cX12_momentOf 32 = .ok (.getfield 42, 3) := by decide +kernel
theorem dX12_momentOf_35 : decode cX12_momentOf 35 = .ok (.iload_n 2, 1) := by decide +kernel
theorem dX12_momentOf_36 : decode cX12_momentOf 36 = .ok (.iaload, 1) := by decide +kernel
theorem dX12_momentOf_37 : decode cX12_momentOf 37 = .ok (.i2l, 1) := by decide +kernel
theorem dX12_momentOf_38 : decode cX12_momentOf 38 = .ok (.lload_n 3, 1) := by decide +kernel
theorem dX12_momentOf_39 : decode cX12_momentOf 39 = .ok (.aload_n 0, 1) := by decide +kernel
theorem dX12_momentOf_40 : decode cX12_momentOf 40 = .ok (.getfield 49, 3) := by decide +kernel
theorem dX12_momentOf_43 : decode cX12_momentOf 43 = .ok (.iload_n 2, 1) := by decide +kernel
theorem dX12_momentOf_44 : decode cX12_momentOf 44 = .ok (.laload, 1) := by decide +kernel
theorem dX12_momentOf_45 : decode cX12_momentOf 45 = .ok (.ldc2_w 187, 3) := by decide +kernel
theorem dX12_momentOf_48 : decode cX12_momentOf 48 = .ok (.aload_n 0, 1) := by decide +kernel
theorem dX12_momentOf_49 : decode cX12_momentOf 49 = .ok (.iload_n 1, 1) := by decide +kernel
theorem dX12_momentOf_50 : decode cX12_momentOf 50 = .ok (.invokevirtual 103, 3) := by decide +kernel
theorem dX12_momentOf_53 : decode cX12_momentOf 53 = .ok (.i2l, 1) := by decide +kernel
theorem dX12_momentOf_54 : decode cX12_momentOf 54 = .ok (.lmul, 1) := by decide +kernel
theorem dX12_momentOf_55 : decode cX12_momentOf 55 = .ok (.lsub, 1) := by decide +kernel
theorem dX12_momentOf_56 : decode cX12_momentOf 56 = .ok (.lmul, 1) := by decide +kernel
theorem dX12_momentOf_57 : decode cX12_momentOf 57 = .ok (.lload 5, 2) := by decide +kernel
theorem dX12_momentOf_59 : decode cX12_momentOf 59 = .ok (.aload_n 0, 1) := by decide +kernel
theorem dX12_momentOf_60 : decode cX12_momentOf 60 = .ok (.getfield 45, 3) := by decide +kernel
theorem dX12_momentOf_63 : decode cX12_momentOf 63 = .ok (.iload_n 2, 1) := by decide +kernel
theorem dX12_momentOf_64 : decode cX12_momentOf 64 = .ok (.laload, 1) := by decide +kernel
theorem dX12_momentOf_65 : decode cX12_momentOf 65 = .ok (.ldc2_w 187, 3) := by decide +kernel
theorem dX12_momentOf_68 : decode cX12_momentOf 68 = .ok (.aload_n 0, 1) := by decide +kernel
theorem dX12_momentOf_69 : decode cX12_momentOf 69 = .ok (.iload_n 1, 1) := by decide +kernel
theorem dX12_momentOf_70 : decode cX12_momentOf 70 = .ok (.invokevirtual 99, 3) := by decide +kernel
theorem dX12_momentOf_73 : decode cX12_momentOf 73 = .ok (.i2l, 1) := by decide +kernel
theorem dX12_momentOf_74 : decode cX12_momentOf 74 = .ok (.lmul, 1) := by decide +kernel
theorem dX12_momentOf_75 : decode cX12_momentOf 75 = .ok (.lsub, 1) := by decide +kernel
theorem dX12_momentOf_76 : decode cX12_momentOf 76 = .ok (.lmul, 1) := by decide +kernel
theorem dX12_momentOf_77 : decode cX12_momentOf 77 = .ok (.lsub, 1) := by decide +kernel
theorem dX12_momentOf_78 : decode cX12_momentOf 78 = .ok (.lmul, 1) := by decide +kernel
theorem dX12_momentOf_79 : decode cX12_momentOf 79 = .ok (.lreturn, 1) := by decide +kernel
def f_X12_momentOf (S : SH) (a0 : Nat) (a1 : Int32) (a2 : Int32) (μ : Mem) : Option (Int64 × Mem) :=
  if isO S 12 a0 = true then
  (f_X12_x S a0 (a1 + 1) μ).bind fun q1 =>
  (f_X12_x S a0 a1 q1.2).bind fun q2 =>
  (some ((q1.1 - q2.1).toInt64)).bind fun y3 =>
  (f_X12_y S a0 (a1 + 1) q2.2).bind fun q4 =>
  (f_X12_y S a0 a1 q4.2).bind fun q5 =>
  (some ((q4.1 - q5.1).toInt64)).bind fun y6 =>
  (gR S 12 a0 13).bind fun v7 =>
  (aI S .int v7 a2 q5.2).bind fun v8 =>
  (gR S 12 a0 15).bind fun v9 =>
  (aL S v9 a2 q5.2).bind fun v10 =>
  (f_X12_y S a0 a1 q5.2).bind fun q11 =>
  (gR S 12 a0 14).bind fun v12 =>
  (aL S v12 a2 q11.2).bind fun v13 =>
  (f_X12_x S a0 a1 q11.2).bind fun q14 =>
  some (v8.toInt64 * ((y3 * (v10 - (65 * q11.1.toInt64))) - (y6 * (v13 - (65 * q14.1.toInt64)))), q14.2)
  else none
set_option maxRecDepth 100000 in
set_option maxHeartbeats 4000000 in
theorem c_X12_momentOf {l : Launch} {γ : GE} {S : SH} {a0 : Nat} {a1 : Int32} {a2 : Int32} {μ : Mem} {X : (Int64 × Mem)} (h : f_X12_momentOf S a0 a1 a2 μ = some X) : isO S 12 a0 = true ∧ Ct l γ yX12_momentOf cX12_momentOf 7 (some .long) rm_X12_momentOf [.ref (gb γ + a0), .int a1, .int a2] S μ S X.2 (some (.long X.1)) := by
  unfold f_X12_momentOf at h
  obtain ⟨h0, h⟩ := if_some h
  refine ⟨h0, ?_⟩
  have hJ : ∀ (p : Program) (e : Env) (s : State) (m : MethodId) (args : Array Value) (below : List Frame) (meth : Method) (c : Code), FX γ p s m args meth c cX12_momentOf RX12 7 → meth.sig.returnType = (some .long) → JJ γ p l e rm_X12_momentOf s m args below meth c 7 0 0 (QL below γ S X args s 0 0) S μ 0 [(0, .ref (gb γ + a0)), (1, .int a1), (2, .int a2)] [] := by
    intro p e s m args below meth c F hr
    refine j_aload_n F 0 dX12_momentOf_0 rfl ?_
    refine j_iload_n F 1 dX12_momentOf_1 rfl ?_
    refine j_iconst F 1 dX12_momentOf_2 (by decide) ?_
    refine j_iadd F dX12_momentOf_3 ?_
    refine j_cVI F mi_X12_x w_1111 (rest := []) h (fun _ g => c_X12_x g) rfl rfl (Nat.le_of_ble_eq_true rfl) ⟨Nat.le_of_ble_eq_true rfl, Nat.le_of_ble_eq_true rfl⟩ ⟨Nat.le_of_ble_eq_true rfl, Nat.le_of_ble_eq_true rfl⟩ dX12_momentOf_4 (fun q1 h => ?_)
    refine j_aload_n F 0 dX12_momentOf_7 rfl ?_
    refine j_iload_n F 1 dX12_momentOf_8 rfl ?_
    refine j_cVI F mi_X12_x w_1111 (rest := [.int q1.1]) h (fun _ g => c_X12_x g) rfl rfl (Nat.le_of_ble_eq_true rfl) ⟨Nat.le_of_ble_eq_true rfl, Nat.le_of_ble_eq_true rfl⟩ ⟨Nat.le_of_ble_eq_true rfl, Nat.le_of_ble_eq_true rfl⟩ dX12_momentOf_9 (fun q2 h => ?_)
    refine j_isub F dX12_momentOf_12 ?_
    refine j_i2l F dX12_momentOf_13 ?_
    refine j_nmL h (fun y3 h => ?_)
    refine j_lstore_n F [(3, .long y3), (0, .ref (gb γ + a0)), (1, .int a1), (2, .int a2)] dX12_momentOf_14 rfl (by decide) rfl ?_
    refine j_aload_n F 1 dX12_momentOf_15 rfl ?_
    refine j_iload_n F 2 dX12_momentOf_16 rfl ?_
    refine j_iconst F 1 dX12_momentOf_17 (by decide) ?_
    refine j_iadd F dX12_momentOf_18 ?_
    refine j_cVI F mi_X12_y w_1115 (rest := []) h (fun _ g => c_X12_y g) rfl rfl (Nat.le_of_ble_eq_true rfl) ⟨Nat.le_of_ble_eq_true rfl, Nat.le_of_ble_eq_true rfl⟩ ⟨Nat.le_of_ble_eq_true rfl, Nat.le_of_ble_eq_true rfl⟩ dX12_momentOf_19 (fun q4 h => ?_)
    refine j_aload_n F 1 dX12_momentOf_22 rfl ?_
    refine j_iload_n F 2 dX12_momentOf_23 rfl ?_
    refine j_cVI F mi_X12_y w_1115 (rest := [.int q4.1]) h (fun _ g => c_X12_y g) rfl rfl (Nat.le_of_ble_eq_true rfl) ⟨Nat.le_of_ble_eq_true rfl, Nat.le_of_ble_eq_true rfl⟩ ⟨Nat.le_of_ble_eq_true rfl, Nat.le_of_ble_eq_true rfl⟩ dX12_momentOf_24 (fun q5 h => ?_)
    refine j_isub F dX12_momentOf_27 ?_
    refine j_i2l F dX12_momentOf_28 ?_
    refine j_nmL h (fun y6 h => ?_)
    refine j_lstore F [(5, .long y6), (3, .long y3), (0, .ref (gb γ + a0)), (1, .int a1), (2, .int a2)] dX12_momentOf_29 (by decide) rfl ?_
    refine j_aload_n F 2 dX12_momentOf_31 rfl ?_
    refine j_gR F fl_RX12_42 rfl dX12_momentOf_32 h (fun v7 h => ?_)
    refine j_iload_n F 4 dX12_momentOf_35 rfl ?_
    refine j_iald F dX12_momentOf_36 h (fun v8 h => ?_)
    refine j_i2l F dX12_momentOf_37 ?_
    refine j_lload_n F 1 dX12_momentOf_38 rfl ?_
    refine j_aload_n F 2 dX12_momentOf_39 rfl ?_
    refine j_gR F fl_RX12_49 rfl dX12_momentOf_40 h (fun v9 h => ?_)
    refine j_iload_n F 4 dX12_momentOf_43 rfl ?_
    refine j_lald F dX12_momentOf_44 h (fun v10 h => ?_)
    refine j_ldc2 F 65 dX12_momentOf_45 w_1234 ?_
    refine j_aload_n F 2 dX12_momentOf_48 rfl ?_
    refine j_iload_n F 3 dX12_momentOf_49 rfl ?_
    refine j_cVI F mi_X12_y w_1115 (rest := [.long 65, .long v10, .long y3, .long v8.toInt64]) h (fun _ g => c_X12_y g) rfl rfl (Nat.le_of_ble_eq_true rfl) ⟨Nat.le_of_ble_eq_true rfl, Nat.le_of_ble_eq_true rfl⟩ ⟨Nat.le_of_ble_eq_true rfl, Nat.le_of_ble_eq_true rfl⟩ dX12_momentOf_50 (fun q11 h => ?_)
    refine j_i2l F dX12_momentOf_53 ?_
    refine j_lmul F dX12_momentOf_54 ?_
    refine j_lsub F dX12_momentOf_55 ?_
    refine j_lmul F dX12_momentOf_56 ?_
    refine j_lload F 0 dX12_momentOf_57 rfl ?_
    refine j_aload_n F 2 dX12_momentOf_59 rfl ?_
    refine j_gR F fl_RX12_45 rfl dX12_momentOf_60 h (fun v12 h => ?_)
    refine j_iload_n F 4 dX12_momentOf_63 rfl ?_
    refine j_lald F dX12_momentOf_64 h (fun v13 h => ?_)
    refine j_ldc2 F 65 dX12_momentOf_65 w_1234 ?_
    refine j_aload_n F 2 dX12_momentOf_68 rfl ?_
    refine j_iload_n F 3 dX12_momentOf_69 rfl ?_
    refine j_cVI12 F mi_X12_x w_1111 (rest := [.long 65, .long v13, .long y6, .long (y3 * (v10 - (65 * q11.1.toInt64))), .long v8.toInt64]) h (fun _ g => c_X12_x g) rfl rfl (Nat.le_of_ble_eq_true rfl) ⟨Nat.le_of_ble_eq_true rfl, Nat.le_of_ble_eq_true rfl⟩ ⟨Nat.le_of_ble_eq_true rfl, Nat.le_of_ble_eq_true rfl⟩ dX12_momentOf_70 (fun q14 h => ?_)
    refine j_i2l F dX12_momentOf_73 ?_
    refine j_lmul F dX12_momentOf_74 ?_
    refine j_lsub F dX12_momentOf_75 ?_
    refine j_lmul F dX12_momentOf_76 ?_
    refine j_lsub F dX12_momentOf_77 ?_
    refine j_lmul F dX12_momentOf_78 ?_
    exact j_lret F hr dX12_momentOf_79 h
  exact ct_of (by decide +kernel) (Nat.le_of_ble_eq_true rfl) (fun p e s m args below meth c F hr _ => hJ p e s m args below meth c F hr)
def rm_X12_moments : Room := { frames := 2, cells := 0, slots := 0, locals := 51 }
theorem dX12_moments_0 : decode cX12_moments 0 = .ok (.lconst 0, 1) := by decide +kernel
theorem dX12_moments_1 : decode cX12_moments 1 = .ok (.lstore_n 3, 1) := by decide +kernel
theorem dX12_moments_2 : decode cX12_moments 2 = .ok (.iconst 0, 1) := by decide +kernel
theorem dX12_moments_3 : decode cX12_moments 3 = .ok (.istore 5, 2) := by decide +kernel
theorem dX12_moments_5 : decode cX12_moments 5 = .ok (.iload 5, 2) := by decide +kernel
theorem dX12_moments_7 : decode cX12_moments 7 = .ok (.aload_n 0, 1) := by decide +kernel
theorem dX12_moments_8 : decode cX12_moments 8 = .ok (.getfield 177, 3) := by decide +kernel
theorem dX12_moments_11 : decode cX12_moments 11 = .ok (.if_icmp .ge 41, 3) := by decide +kernel
theorem dX12_moments_14 : decode cX12_moments 14 = .ok (.aload_n 0, 1) := by decide +kernel
theorem dX12_moments_15 : decode cX12_moments 15 = .ok (.iload_n 1, 1) := by decide +kernel
theorem dX12_moments_16 : decode cX12_moments 16 = .ok (.iload 5, 2) := by decide +kernel
theorem dX12_moments_18 : decode cX12_moments 18 = .ok (.invokevirtual 189, 3) := by decide +kernel
theorem dX12_moments_21 : decode cX12_moments 21 = .ok (.lstore 6, 2) := by decide +kernel
theorem dX12_moments_23 : decode cX12_moments 23 = .ok (.lload_n 3, 1) := by decide +kernel
theorem dX12_moments_24 : decode cX12_moments 24 = .ok (.iload_n 2, 1) := by decide +kernel
theorem dX12_moments_25 : decode cX12_moments 25 = .ok (.ifCond .eq 13, 3) := by decide +kernel
theorem dX12_moments_28 : decode cX12_moments 28 = .ok (.iload_n 2, 1) := by decide +kernel
theorem dX12_moments_29 : decode cX12_moments 29 = .ok (.i2l, 1) := by decide +kernel
theorem dX12_moments_30 : decode cX12_moments 30 = .ok (.lload 6, 2) := by decide +kernel
theorem dX12_moments_32 : decode cX12_moments 32 = .ok (.lmul, 1) := by decide +kernel
theorem dX12_moments_33 : decode cX12_moments 33 = .ok (.lconst 0, 1) := by decide +kernel
theorem dX12_moments_34 : decode cX12_moments 34 = .ok (.lcmp, 1) := by decide +kernel
theorem dX12_moments_35 : decode cX12_moments 35 = .ok (.ifCond .le 8, 3) := by decide +kernel
theorem dX12_moments_38 : decode cX12_moments 38 = .ok (.lload 6, 2) := by decide +kernel
theorem dX12_moments_40 : decode cX12_moments 40 = .ok (.goto 4, 3) := by decide +kernel
theorem dX12_moments_43 : decode cX12_moments 43 = .ok (.lconst 0, 1) := by decide +kernel
theorem dX12_moments_44 : decode cX12_moments 44 = .ok (.ladd, 1) := by decide +kernel
theorem dX12_moments_45 : decode cX12_moments 45 = .ok (.lstore_n 3, 1) := by decide +kernel
theorem dX12_moments_46 : decode cX12_moments 46 = .ok (.iinc 5 1, 3) := by decide +kernel
theorem dX12_moments_49 : decode cX12_moments 49 = .ok (.goto (-44), 3) := by decide +kernel
theorem dX12_moments_52 : decode cX12_moments 52 = .ok (.lload_n 3, 1) := by decide +kernel
theorem dX12_moments_53 : decode cX12_moments 53 = .ok (.lreturn, 1) := by decide +kernel
def l_X12_moments_5 (S : SH) (a0 : Nat) (a1 : Int32) (a2 : Int32) (k5 : (Int64 × Int32 × Mem) → Option (Int64 × Mem)) (x : (Int64 × Int32 × Mem)) : Option (Int64 × Mem) :=
 (gI S 12 a0 12 x.2.2).bind fun v1 =>
 (if v1 ≤ x.2.1 then
 some (x.1, x.2.2)
 else
 (f_X12_momentOf S a0 a1 x.2.1 x.2.2).bind fun q2 =>
 (if a2 = 0 then
 (some (x.1 + q2.1)).bind fun y3 =>
 k5 (y3, x.2.1 + 1, q2.2)
 else
 (if (a2.toInt64 * q2.1) ≤ 0 then
 (some (x.1 + 0)).bind fun y4 =>
 k5 (y4, x.2.1 + 1, q2.2)
 else
 (some (x.1 + q2.1)).bind fun y5 =>
 k5 (y5, x.2.1 + 1, q2.2))))
set_option maxRecDepth 100000 in
set_option maxHeartbeats 4000000 in
theorem t_X12_moments_5 {γ : GE} {p : Program} {l : Launch} {e : Env} {s : State} {m : MethodId} {args : Array Value} {below : List Frame} {meth : Method} {c : Code} {S : SH} {X : (Int64 × Mem)} (F : FX γ p s m args meth c cX12_moments RX12 8) (hr : meth.sig.returnType = (some .long)) (a0 : Nat) (a1 : Int32) (a2 : Int32) (k5 : (Int64 × Int32 × Mem) → Option (Int64 × Mem)) (hk5 : ∀ (x5_3 : Int64) (x5_5 : Int32) (ν : Mem), k5 (x5_3, x5_5, ν) = some X → JJ γ p l e rm_X12_moments s m args below meth c 8 0 0 (QL below γ S X args s 0 0) S ν 5 [(0, .ref (gb γ + a0)), (1, .int a1), (2, .int a2), (3, .long x5_3), (5, .int x5_5)] []) (x : (Int64 × Int32 × Mem)) (h : l_X12_moments_5 S a0 a1 a2 k5 x = some X) : JJ γ p l e rm_X12_moments s m args below meth c 8 0 0 (QL below γ S X args s 0 0) S x.2.2 5 [(0, .ref (gb γ + a0)), (1, .int a1), (2, .int a2), (3, .long x.1), (5, .int x.2.1)] [] := by
  unfold l_X12_moments_5 at h
  refine j_iload F 4 dX12_moments_5 rfl ?_
  refine j_aload_n F 0 dX12_moments_7 rfl ?_
  refine j_gI F fl_RX12_177.l rfl dX12_moments_8 h (fun v1 h => ?_)
  refine j_icmpge F 52 dX12_moments_11 (by decide) h (fun _ h => ?_) (fun _ h => ?_)
  · refine j_lload_n F 3 dX12_moments_52 rfl ?_
    exact j_lret F hr dX12_moments_53 h
  · refine j_aload_n F 0 dX12_moments_14 rfl ?_
    refine j_iload_n F 1 dX12_moments_15 rfl ?_
    refine j_iload F 4 dX12_moments_16 rfl ?_
    refine j_cVJ F mi_X12_momentOf w_1249 (rest := []) h (fun _ g => c_X12_momentOf g) rfl rfl (Nat.le_of_ble_eq_true rfl) ⟨Nat.le_of_ble_eq_true rfl, Nat.le_of_ble_eq_true rfl⟩ ⟨Nat.le_of_ble_eq_true rfl, Nat.le_of_ble_eq_true rfl⟩ dX12_moments_18 (fun q2 h => ?_)
    refine j_lstore F [(6, .long q2.1), (0, .ref (gb γ + a0)), (1, .int a1), (2, .int a2), (3, .long x.1), (5, .int x.2.1)] dX12_moments_21 (by decide) rfl ?_
    refine j_lload_n F 4 dX12_moments_23 rfl ?_
    refine j_iload_n F 3 dX12_moments_24 rfl ?_
    refine j_ifeq F 38 dX12_moments_25 (by decide) h (fun _ h => ?_) (fun _ h => ?_)
    · refine j_lload F 0 dX12_moments_38 rfl ?_
      refine j_goto F 44 dX12_moments_40 (by decide) ?_
      refine j_ladd F dX12_moments_44 ?_
      refine j_nmL h (fun y3 h => ?_)
      refine j_lstore_n F [(3, .long y3), (6, .long q2.1), (0, .ref (gb γ + a0)), (1, .int a1), (2, .int a2), (5, .int x.2.1)] dX12_moments_45 rfl (by decide) rfl ?_
      refine j_iinc F 1 5 [(5, .int (x.2.1 + 1)), (3, .long y3), (6, .long q2.1), (0, .ref (gb γ + a0)), (1, .int a1), (2, .int a2)] dX12_moments_46 rfl (by decide) (by decide) rfl ?_
      refine j_goto F 5 dX12_moments_49 (by decide) ?_
      refine j_lv [(0, .ref (gb γ + a0)), (1, .int a1), (2, .int a2), (3, .long y3), (5, .int (x.2.1 + 1))] [3, 4, 5, 1, 0] rfl ?_
      exact hk5 _ _ _ h
    · refine j_iload_n F 3 dX12_moments_28 rfl ?_
      refine j_i2l F dX12_moments_29 ?_
      refine j_lload F 0 dX12_moments_30 rfl ?_
      refine j_lmul F dX12_moments_32 ?_
      refine j_lconst F 0 dX12_moments_33 (by decide) ?_
      refine j_lcmple F 43 dX12_moments_34 dX12_moments_35 (by decide) h (fun _ h => ?_) (fun _ h => ?_)
      · refine j_lconst F 0 dX12_moments_43 (by decide) ?_
        refine j_ladd F dX12_moments_44 ?_
        refine j_nmL h (fun y4 h => ?_)
        refine j_lstore_n F [(3, .long y4), (6, .long q2.1), (0, .ref (gb γ + a0)), (1, .int a1), (2, .int a2), (5, .int x.2.1)] dX12_moments_45 rfl (by decide) rfl ?_
        refine j_iinc F 1 5 [(5, .int (x.2.1 + 1)), (3, .long y4), (6, .long q2.1), (0, .ref (gb γ + a0)), (1, .int a1), (2, .int a2)] dX12_moments_46 rfl (by decide) (by decide) rfl ?_
        refine j_goto F 5 dX12_moments_49 (by decide) ?_
        refine j_lv [(0, .ref (gb γ + a0)), (1, .int a1), (2, .int a2), (3, .long y4), (5, .int (x.2.1 + 1))] [3, 4, 5, 1, 0] rfl ?_
        exact hk5 _ _ _ h
      · refine j_lload F 0 dX12_moments_38 rfl ?_
        refine j_goto F 44 dX12_moments_40 (by decide) ?_
        refine j_ladd F dX12_moments_44 ?_
        refine j_nmL h (fun y5 h => ?_)
        refine j_lstore_n F [(3, .long y5), (6, .long q2.1), (0, .ref (gb γ + a0)), (1, .int a1), (2, .int a2), (5, .int x.2.1)] dX12_moments_45 rfl (by decide) rfl ?_
        refine j_iinc F 1 5 [(5, .int (x.2.1 + 1)), (3, .long y5), (6, .long q2.1), (0, .ref (gb γ + a0)), (1, .int a1), (2, .int a2)] dX12_moments_46 rfl (by decide) (by decide) rfl ?_
        refine j_goto F 5 dX12_moments_49 (by decide) ?_
        refine j_lv [(0, .ref (gb γ + a0)), (1, .int a1), (2, .int a2), (3, .long y5), (5, .int (x.2.1 + 1))] [3, 4, 5, 1, 0] rfl ?_
        exact hk5 _ _ _ h
theorem s_X12_moments_5 {γ : GE} {p : Program} {l : Launch} {e : Env} {s : State} {m : MethodId} {args : Array Value} {below : List Frame} {meth : Method} {c : Code} {S : SH} {X : (Int64 × Mem)} (F : FX γ p s m args meth c cX12_moments RX12 8) (hr : meth.sig.returnType = (some .long)) (a0 : Nat) (a1 : Int32) (a2 : Int32) (x5_3 : Int64) (x5_5 : Int32) (ν : Mem) (h : lpN (l_X12_moments_5 S a0 a1 a2) fu (x5_3, x5_5, ν) = some X) : JJ γ p l e rm_X12_moments s m args below meth c 8 0 0 (QL below γ S X args s 0 0) S ν 5 [(0, .ref (gb γ + a0)), (1, .int a1), (2, .int a2), (3, .long x5_3), (5, .int x5_5)] [] :=
 lpN_sound (fun x => JJ γ p l e rm_X12_moments s m args below meth c 8 0 0 (QL below γ S X args s 0 0) S x.2.2 5 [(0, .ref (gb γ + a0)), (1, .int a1), (2, .int a2), (3, .long x.1), (5, .int x.2.1)] []) (fun k5 hk5 x h => t_X12_moments_5 F hr a0 a1 a2 k5 (fun x5_3 x5_5 ν h => hk5 (x5_3, x5_5, ν) h) x h) fu (x5_3, x5_5, ν) h
def f_X12_moments (S : SH) (a0 : Nat) (a1 : Int32) (a2 : Int32) (μ : Mem) : Option (Int64 × Mem) :=
  if isO S 12 a0 = true then
  lpN (l_X12_moments_5 S  a0 a1 a2) fu (0, 0, μ)
  else none
set_option maxRecDepth 100000 in
set_option maxHeartbeats 4000000 in
theorem c_X12_moments {l : Launch} {γ : GE} {S : SH} {a0 : Nat} {a1 : Int32} {a2 : Int32} {μ : Mem} {X : (Int64 × Mem)} (h : f_X12_moments S a0 a1 a2 μ = some X) : isO S 12 a0 = true ∧ Ct l γ yX12_moments cX12_moments 8 (some .long) rm_X12_moments [.ref (gb γ + a0), .int a1, .int a2] S μ S X.2 (some (.long X.1)) := by
  unfold f_X12_moments at h
  obtain ⟨h0, h⟩ := if_some h
  refine ⟨h0, ?_⟩
  have hJ : ∀ (p : Program) (e : Env) (s : State) (m : MethodId) (args : Array Value) (below : List Frame) (meth : Method) (c : Code), FX γ p s m args meth c cX12_moments RX12 8 → meth.sig.returnType = (some .long) → JJ γ p l e rm_X12_moments s m args below meth c 8 0 0 (QL below γ S X args s 0 0) S μ 0 [(0, .ref (gb γ + a0)), (1, .int a1), (2, .int a2)] [] := by
    intro p e s m args below meth c F hr
    refine j_lconst F 0 dX12_moments_0 (by decide) ?_
    refine j_lstore_n F [(3, .long 0), (0, .ref (gb γ + a0)), (1, .int a1), (2, .int a2)] dX12_moments_1 rfl (by decide) rfl ?_
    refine j_iconst F 0 dX12_moments_2 (by decide) ?_
    refine j_istore F [(5, .int 0), (3, .long 0), (0, .ref (gb γ + a0)), (1, .int a1), (2, .int a2)] dX12_moments_3 (by decide) rfl ?_
    refine j_lv [(0, .ref (gb γ + a0)), (1, .int a1), (2, .int a2), (3, .long 0), (5, .int 0)] [2, 3, 4, 1, 0] rfl ?_
    exact s_X12_moments_5 F hr _ _ _ _ _ _ h
  exact ct_of (by decide +kernel) (Nat.le_of_ble_eq_true rfl) (fun p e s m args below meth c F hr _ => hJ p e s m args below meth c F hr)
def rm_X12_weight : Room := { frames := 5, cells := 0, slots := 0, locals := 103 }
theorem dX12_weight_0 : decode cX12_weight 0 = .ok (.aload_n 0, 1) := by decide +kernel
theorem dX12_weight_1 : decode cX12_weight 1 = .ok (.invokevirtual 193, 3) := by decide +kernel
theorem dX12_weight_4 : decode cX12_weight 4 = .ok (.aload_n 0, 1) := by decide +kernel
theorem dX12_weight_5 : decode cX12_weight 5 = .ok (.iconst 0, 1) := by decide +kernel
theorem dX12_weight_6 : decode cX12_weight 6 = .ok (.invokevirtual 196, 3) := by decide +kernel
theorem dX12_weight_9 : decode cX12_weight 9 = .ok (.l2i, 1) := by decide +kernel
theorem dX12_weight_10 : decode cX12_weight 10 = .ok (.ireturn, 1) := by decide +kernel
def f_X12_weight (S : SH) (a0 : Nat) (μ : Mem) : Option (Int32 × Mem) :=
  if isO S 12 a0 = true then
  (f_X12_looks S a0 μ).bind fun q1 =>
  (f_X12_sum S a0 0 q1.2).bind fun q2 =>
  some (q2.1.toInt32, q2.2)
  else none
set_option maxRecDepth 100000 in
set_option maxHeartbeats 4000000 in
theorem c_X12_weight {l : Launch} {γ : GE} {S : SH} {a0 : Nat} {μ : Mem} {X : (Int32 × Mem)} (h : f_X12_weight S a0 μ = some X) : isO S 12 a0 = true ∧ Ct l γ yX12_weight cX12_weight 1 (some .int) rm_X12_weight [.ref (gb γ + a0)] S μ S X.2 (some (.int X.1)) := by
  unfold f_X12_weight at h
  obtain ⟨h0, h⟩ := if_some h
  refine ⟨h0, ?_⟩
  have hJ : ∀ (p : Program) (e : Env) (s : State) (m : MethodId) (args : Array Value) (below : List Frame) (meth : Method) (c : Code), FX γ p s m args meth c cX12_weight RX12 1 → meth.sig.returnType = (some .int) → JJ γ p l e rm_X12_weight s m args below meth c 1 0 0 (QI below γ S X args s 0 0) S μ 0 [(0, .ref (gb γ + a0))] [] := by
    intro p e s m args below meth c F hr
    refine j_aload_n F 0 dX12_weight_0 rfl ?_
    refine j_cVV F mi_X12_looks w_1203 (rest := []) h (fun _ g => c_X12_looks g) rfl rfl (Nat.le_of_ble_eq_true rfl) ⟨Nat.le_of_ble_eq_true rfl, Nat.le_of_ble_eq_true rfl⟩ ⟨Nat.le_of_ble_eq_true rfl, Nat.le_of_ble_eq_true rfl⟩ dX12_weight_1 (fun q1 h => ?_)
    refine j_aload_n F 0 dX12_weight_4 rfl ?_
    refine j_iconst F 0 dX12_weight_5 (by decide) ?_
    refine j_cVJ F mi_X12_sum w_1223 (rest := []) h (fun _ g => c_X12_sum g) rfl rfl (Nat.le_of_ble_eq_true rfl) ⟨Nat.le_of_ble_eq_true rfl, Nat.le_of_ble_eq_true rfl⟩ ⟨Nat.le_of_ble_eq_true rfl, Nat.le_of_ble_eq_true rfl⟩ dX12_weight_6 (fun q2 h => ?_)
    refine j_l2i F dX12_weight_9 ?_
    exact j_iret F hr dX12_weight_10 h
  exact ct_of (by decide +kernel) (Nat.le_of_ble_eq_true rfl) (fun p e s m args below meth c F hr _ => hJ p e s m args below meth c F hr)
def rm_X12_centre : Room := { frames := 5, cells := 0, slots := 0, locals := 103 }
theorem dX12_centre_0 : decode cX12_centre 0 = .ok (.aload_n 0, 1) := by decide +kernel
theorem dX12_centre_1 : decode cX12_centre 1 = .ok (.invokevirtual 193, 3) := by decide +kernel
theorem dX12_centre_4 : decode cX12_centre 4 = .ok (.iload_n 1, 1) := by decide +kernel
theorem dX12_centre_5 : decode cX12_centre 5 = .ok (.iconst 0, 1) := by decide +kernel
theorem dX12_centre_6 : decode cX12_centre 6 = .ok (.iconst 1, 1) := by decide +kernel
theorem dX12_centre_7 : decode cX12_centre 7 = .ok (.invokestatic 95, 3) := by decide +kernel
theorem dX12_centre_10 : decode cX12_centre 10 = .ok (.ifCond .eq 20, 3) := by decide +kernel
theorem dX12_centre_13 : decode cX12_centre 13 = .ok (.iload_n 2, 1) := by decide +kernel
theorem dX12_centre_14 : decode cX12_centre 14 = .ok (.invokestatic 200, 3) := by decide +kernel
theorem dX12_centre_17 : decode cX12_centre 17 = .ok (.ifCond .eq 13, 3) := by decide +kernel
theorem dX12_centre_20 : decode cX12_centre 20 = .ok (.aload_n 0, 1) := by decide +kernel
theorem dX12_centre_21 : decode cX12_centre 21 = .ok (.iconst 0, 1) := by decide +kernel
theorem dX12_centre_22 : decode cX12_centre 22 = .ok (.invokevirtual 196, 3) := by decide +kernel
theorem dX12_centre_25 : decode cX12_centre 25 = .ok (.lconst 0, 1) := by decide +kernel
theorem dX12_centre_26 : decode cX12_centre 26 = .ok (.lcmp, 1) := by decide +kernel
theorem dX12_centre_27 : decode cX12_centre 27 = .ok (.ifCond .ne 7, 3) := by decide +kernel
theorem dX12_centre_30 : decode cX12_centre 30 = .ok (.ldc2_w 131, 3) := by decide +kernel
theorem dX12_centre_33 : decode cX12_centre 33 = .ok (.lreturn, 1) := by decide +kernel
theorem dX12_centre_34 : decode cX12_centre 34 = .ok (.aload_n 0, 1) := by decide +kernel
theorem dX12_centre_35 : decode cX12_centre 35 = .ok (.iconst 1, 1) := by decide +kernel
theorem dX12_centre_36 : decode cX12_centre 36 = .ok (.iload_n 1, 1) := by decide +kernel
theorem dX12_centre_37 : decode cX12_centre 37 = .ok (.iadd, 1) := by decide +kernel
theorem dX12_centre_38 : decode cX12_centre 38 = .ok (.invokevirtual 196, 3) := by decide +kernel
theorem dX12_centre_41 : decode cX12_centre 41 = .ok (.ldc2_w 187, 3) := by decide +kernel
theorem dX12_centre_44 : decode cX12_centre 44 = .ok (.aload_n 0, 1) := by decide +kernel
theorem dX12_centre_45 : decode cX12_centre 45 = .ok (.iconst 0, 1) := by decide +kernel
theorem dX12_centre_46 : decode cX12_centre 46 = .ok (.invokevirtual 196, 3) := by decide +kernel
theorem dX12_centre_49 : decode cX12_centre 49 = .ok (.lmul, 1) := by decide +kernel
theorem dX12_centre_50 : decode cX12_centre 50 = .ok (.iload_n 2, 1) := by decide +kernel
theorem dX12_centre_51 : decode cX12_centre 51 = .ok (.invokestatic 203, 3) := by decide +kernel
theorem dX12_centre_54 : decode cX12_centre 54 = .ok (.lreturn, 1) := by decide +kernel
def f_X12_centre (S : SH) (a0 : Nat) (a1 : Int32) (a2 : Int32) (μ : Mem) : Option (Int64 × Mem) :=
  if isO S 12 a0 = true then
  (f_X12_looks S a0 μ).bind fun q1 =>
  (f_X12_in S a1 0 1 q1.2).bind fun q2 =>
  (if q2.1 = 0 then
  some ((-9223372036854775808), q2.2)
  else
  (f_X12_isPart S a2 q2.2).bind fun q3 =>
  (if q3.1 = 0 then
  some ((-9223372036854775808), q3.2)
  else
  (f_X12_sum S a0 0 q3.2).bind fun q4 =>
  (if q4.1 = 0 then
  some ((-9223372036854775808), q4.2)
  else
  (f_X12_sum S a0 (1 + a1) q4.2).bind fun q5 =>
  (f_X12_sum S a0 0 q5.2).bind fun q6 =>
  (f_X12_part S q5.1 (65 * q6.1) a2 q6.2).bind fun q7 =>
  some (q7.1, q7.2))))
  else none
set_option maxRecDepth 100000 in
set_option maxHeartbeats 4000000 in
theorem c_X12_centre {l : Launch} {γ : GE} {S : SH} {a0 : Nat} {a1 : Int32} {a2 : Int32} {μ : Mem} {X : (Int64 × Mem)} (h : f_X12_centre S a0 a1 a2 μ = some X) : isO S 12 a0 = true ∧ Ct l γ yX12_centre cX12_centre 3 (some .long) rm_X12_centre [.ref (gb γ + a0), .int a1, .int a2] S μ S X.2 (some (.long X.1)) := by
  unfold f_X12_centre at h
  obtain ⟨h0, h⟩ := if_some h
  refine ⟨h0, ?_⟩
  have hJ : ∀ (p : Program) (e : Env) (s : State) (m : MethodId) (args : Array Value) (below : List Frame) (meth : Method) (c : Code), FX γ p s m args meth c cX12_centre RX12 3 → meth.sig.returnType = (some .long) → JJ γ p l e rm_X12_centre s m args below meth c 3 0 0 (QL below γ S X args s 0 0) S μ 0 [(0, .ref (gb γ + a0)), (1, .int a1), (2, .int a2)] [] := by
    intro p e s m args below meth c F hr
    refine j_aload_n F 0 dX12_centre_0 rfl ?_
    refine j_cVV F mi_X12_looks w_1203 (rest := []) h (fun _ g => c_X12_looks g) rfl rfl (Nat.le_of_ble_eq_true rfl) ⟨Nat.le_of_ble_eq_true rfl, Nat.le_of_ble_eq_true rfl⟩ ⟨Nat.le_of_ble_eq_true rfl, Nat.le_of_ble_eq_true rfl⟩ dX12_centre_1 (fun q1 h => ?_)
    refine j_iload_n F 1 dX12_centre_4 rfl ?_
    refine j_iconst F 0 dX12_centre_5 (by decide) ?_
    refine j_iconst F 1 dX12_centre_6 (by decide) ?_
    refine j_cSI F mi_X12_in w_1104 (rest := []) h (fun _ g => c_X12_in g) rfl rfl (Nat.le_of_ble_eq_true rfl) ⟨Nat.le_of_ble_eq_true rfl, Nat.le_of_ble_eq_true rfl⟩ ⟨Nat.le_of_ble_eq_true rfl, Nat.le_of_ble_eq_true rfl⟩ dX12_centre_7 (fun q2 h => ?_)
    refine j_ifeq F 30 dX12_centre_10 (by decide) h (fun _ h => ?_) (fun _ h => ?_)
    · refine j_ldc2 F (-9223372036854775808) dX12_centre_30 w_1152 ?_
      exact j_lret F hr dX12_centre_33 h
    · refine j_iload_n F 2 dX12_centre_13 rfl ?_
      refine j_cSI F mi_X12_isPart w_1231 (rest := []) h (fun _ g => c_X12_isPart g) rfl rfl (Nat.le_of_ble_eq_true rfl) ⟨Nat.le_of_ble_eq_true rfl, Nat.le_of_ble_eq_true rfl⟩ ⟨Nat.le_of_ble_eq_true rfl, Nat.le_of_ble_eq_true rfl⟩ dX12_centre_14 (fun q3 h => ?_)
      refine j_ifeq F 30 dX12_centre_17 (by decide) h (fun _ h => ?_) (fun _ h => ?_)
      · refine j_ldc2 F (-9223372036854775808) dX12_centre_30 w_1152 ?_
        exact j_lret F hr dX12_centre_33 h
      · refine j_aload_n F 0 dX12_centre_20 rfl ?_
        refine j_iconst F 0 dX12_centre_21 (by decide) ?_
        refine j_cVJ F mi_X12_sum w_1223 (rest := []) h (fun _ g => c_X12_sum g) rfl rfl (Nat.le_of_ble_eq_true rfl) ⟨Nat.le_of_ble_eq_true rfl, Nat.le_of_ble_eq_true rfl⟩ ⟨Nat.le_of_ble_eq_true rfl, Nat.le_of_ble_eq_true rfl⟩ dX12_centre_22 (fun q4 h => ?_)
        refine j_lconst F 0 dX12_centre_25 (by decide) ?_
        refine j_lcmpne F 34 dX12_centre_26 dX12_centre_27 (by decide) h (fun _ h => ?_) (fun _ h => ?_)
        · refine j_aload_n F 0 dX12_centre_34 rfl ?_
          refine j_iconst F 1 dX12_centre_35 (by decide) ?_
          refine j_iload_n F 1 dX12_centre_36 rfl ?_
          refine j_iadd F dX12_centre_37 ?_
          refine j_cVJ F mi_X12_sum w_1223 (rest := []) h (fun _ g => c_X12_sum g) rfl rfl (Nat.le_of_ble_eq_true rfl) ⟨Nat.le_of_ble_eq_true rfl, Nat.le_of_ble_eq_true rfl⟩ ⟨Nat.le_of_ble_eq_true rfl, Nat.le_of_ble_eq_true rfl⟩ dX12_centre_38 (fun q5 h => ?_)
          refine j_ldc2 F 65 dX12_centre_41 w_1234 ?_
          refine j_aload_n F 0 dX12_centre_44 rfl ?_
          refine j_iconst F 0 dX12_centre_45 (by decide) ?_
          refine j_cVJ F mi_X12_sum w_1223 (rest := [.long 65, .long q5.1]) h (fun _ g => c_X12_sum g) rfl rfl (Nat.le_of_ble_eq_true rfl) ⟨Nat.le_of_ble_eq_true rfl, Nat.le_of_ble_eq_true rfl⟩ ⟨Nat.le_of_ble_eq_true rfl, Nat.le_of_ble_eq_true rfl⟩ dX12_centre_46 (fun q6 h => ?_)
          refine j_lmul F dX12_centre_49 ?_
          refine j_iload_n F 2 dX12_centre_50 rfl ?_
          refine j_cSJ F mi_X12_part w_1235 (rest := []) h (fun _ g => c_X12_part g) rfl rfl (Nat.le_of_ble_eq_true rfl) ⟨Nat.le_of_ble_eq_true rfl, Nat.le_of_ble_eq_true rfl⟩ ⟨Nat.le_of_ble_eq_true rfl, Nat.le_of_ble_eq_true rfl⟩ dX12_centre_51 (fun q7 h => ?_)
          exact j_lret F hr dX12_centre_54 h
        · refine j_ldc2 F (-9223372036854775808) dX12_centre_30 w_1152 ?_
          exact j_lret F hr dX12_centre_33 h
  exact ct_of (by decide +kernel) (Nat.le_of_ble_eq_true rfl) (fun p e s m args below meth c F hr _ => hJ p e s m args below meth c F hr)
def rm_X12_moment : Room := { frames := 5, cells := 0, slots := 0, locals := 103 }
theorem dX12_moment_0 : decode cX12_moment 0 = .ok (.iload_n 1, 1) := by decide +kernel
theorem dX12_moment_1 : decode cX12_moment 1 = .ok (.invokestatic 106, 3) := by decide +kernel
theorem dX12_moment_4 : decode cX12_moment 4 = .ok (.ifCond .eq 10, 3) := by decide +kernel
theorem dX12_moment_7 : decode cX12_moment 7 = .ok (.iload_n 2, 1) := by decide +kernel
theorem dX12_moment_8 : decode cX12_moment 8 = .ok (.invokestatic 200, 3) := by decide +kernel
theorem dX12_moment_11 : decode cX12_moment 11 = .ok (.ifCond .ne 7, 3) := by decide +kernel
theorem dX12_moment_14 : decode cX12_moment 14 = .ok (.ldc2_w 131, 3) := by decide +kernel
theorem dX12_moment_17 : decode cX12_moment 17 = .ok (.lreturn, 1) := by decide +kernel
theorem dX12_moment_18 : decode cX12_moment 18 = .ok (.aload_n 0, 1) := by decide +kernel
theorem dX12_moment_19 : decode cX12_moment 19 = .ok (.invokevirtual 193, 3) := by decide +kernel
theorem dX12_moment_22 : decode cX12_moment 22 = .ok (.aload_n 0, 1) := by decide +kernel
theorem dX12_moment_23 : decode cX12_moment 23 = .ok (.iload_n 1, 1) := by decide +kernel
theorem dX12_moment_24 : decode cX12_moment 24 = .ok (.iconst 0, 1) := by decide +kernel
theorem dX12_moment_25 : decode cX12_moment 25 = .ok (.invokevirtual 207, 3) := by decide +kernel
theorem dX12_moment_28 : decode cX12_moment 28 = .ok (.ldc2_w 187, 3) := by decide +kernel
theorem dX12_moment_31 : decode cX12_moment 31 = .ok (.iload_n 2, 1) := by decide +kernel
theorem dX12_moment_32 : decode cX12_moment 32 = .ok (.invokestatic 203, 3) := by decide +kernel
theorem dX12_moment_35 : decode cX12_moment 35 = .ok (.lreturn, 1) := by decide +kernel
def f_X12_moment (S : SH) (a0 : Nat) (a1 : Int32) (a2 : Int32) (μ : Mem) : Option (Int64 × Mem) :=
  if isO S 12 a0 = true then
  (f_X12_isPad S a1 μ).bind fun q1 =>
  (if q1.1 = 0 then
  some ((-9223372036854775808), q1.2)
  else
  (f_X12_isPart S a2 q1.2).bind fun q2 =>
  (if q2.1 = 0 then
  some ((-9223372036854775808), q2.2)
  else
  (f_X12_looks S a0 q2.2).bind fun q3 =>
  (f_X12_moments S a0 a1 0 q3.2).bind fun q4 =>
  (f_X12_part S q4.1 65 a2 q4.2).bind fun q5 =>
  some (q5.1, q5.2)))
  else none
set_option maxRecDepth 100000 in
set_option maxHeartbeats 4000000 in
theorem c_X12_moment {l : Launch} {γ : GE} {S : SH} {a0 : Nat} {a1 : Int32} {a2 : Int32} {μ : Mem} {X : (Int64 × Mem)} (h : f_X12_moment S a0 a1 a2 μ = some X) : isO S 12 a0 = true ∧ Ct l γ yX12_moment cX12_moment 3 (some .long) rm_X12_moment [.ref (gb γ + a0), .int a1, .int a2] S μ S X.2 (some (.long X.1)) := by
  unfold f_X12_moment at h
  obtain ⟨h0, h⟩ := if_some h
  refine ⟨h0, ?_⟩
  have hJ : ∀ (p : Program) (e : Env) (s : State) (m : MethodId) (args : Array Value) (below : List Frame) (meth : Method) (c : Code), FX γ p s m args meth c cX12_moment RX12 3 → meth.sig.returnType = (some .long) → JJ γ p l e rm_X12_moment s m args below meth c 3 0 0 (QL below γ S X args s 0 0) S μ 0 [(0, .ref (gb γ + a0)), (1, .int a1), (2, .int a2)] [] := by
    intro p e s m args below meth c F hr
    refine j_iload_n F 1 dX12_moment_0 rfl ?_
    refine j_cSI F mi_X12_isPad w_1101 (rest := []) h (fun _ g => c_X12_isPad g) rfl rfl (Nat.le_of_ble_eq_true rfl) ⟨Nat.le_of_ble_eq_true rfl, Nat.le_of_ble_eq_true rfl⟩ ⟨Nat.le_of_ble_eq_true rfl, Nat.le_of_ble_eq_true rfl⟩ dX12_moment_1 (fun q1 h => ?_)
    refine j_ifeq F 14 dX12_moment_4 (by decide) h (fun _ h => ?_) (fun _ h => ?_)
    · refine j_ldc2 F (-9223372036854775808) dX12_moment_14 w_1152 ?_
      exact j_lret F hr dX12_moment_17 h
    · refine j_iload_n F 2 dX12_moment_7 rfl ?_
      refine j_cSI F mi_X12_isPart w_1231 (rest := []) h (fun _ g => c_X12_isPart g) rfl rfl (Nat.le_of_ble_eq_true rfl) ⟨Nat.le_of_ble_eq_true rfl, Nat.le_of_ble_eq_true rfl⟩ ⟨Nat.le_of_ble_eq_true rfl, Nat.le_of_ble_eq_true rfl⟩ dX12_moment_8 (fun q2 h => ?_)
      refine j_ifne F 18 dX12_moment_11 (by decide) h (fun _ h => ?_) (fun _ h => ?_)
      · refine j_aload_n F 0 dX12_moment_18 rfl ?_
        refine j_cVV F mi_X12_looks w_1203 (rest := []) h (fun _ g => c_X12_looks g) rfl rfl (Nat.le_of_ble_eq_true rfl) ⟨Nat.le_of_ble_eq_true rfl, Nat.le_of_ble_eq_true rfl⟩ ⟨Nat.le_of_ble_eq_true rfl, Nat.le_of_ble_eq_true rfl⟩ dX12_moment_19 (fun q3 h => ?_)
        refine j_aload_n F 0 dX12_moment_22 rfl ?_
        refine j_iload_n F 1 dX12_moment_23 rfl ?_
        refine j_iconst F 0 dX12_moment_24 (by decide) ?_
        refine j_cVJ F mi_X12_moments w_1245 (rest := []) h (fun _ g => c_X12_moments g) rfl rfl (Nat.le_of_ble_eq_true rfl) ⟨Nat.le_of_ble_eq_true rfl, Nat.le_of_ble_eq_true rfl⟩ ⟨Nat.le_of_ble_eq_true rfl, Nat.le_of_ble_eq_true rfl⟩ dX12_moment_25 (fun q4 h => ?_)
        refine j_ldc2 F 65 dX12_moment_28 w_1234 ?_
        refine j_iload_n F 2 dX12_moment_31 rfl ?_
        refine j_cSJ F mi_X12_part w_1235 (rest := []) h (fun _ g => c_X12_part g) rfl rfl (Nat.le_of_ble_eq_true rfl) ⟨Nat.le_of_ble_eq_true rfl, Nat.le_of_ble_eq_true rfl⟩ ⟨Nat.le_of_ble_eq_true rfl, Nat.le_of_ble_eq_true rfl⟩ dX12_moment_32 (fun q5 h => ?_)
        exact j_lret F hr dX12_moment_35 h
      · refine j_ldc2 F (-9223372036854775808) dX12_moment_14 w_1152 ?_
        exact j_lret F hr dX12_moment_17 h
  exact ct_of (by decide +kernel) (Nat.le_of_ble_eq_true rfl) (fun p e s m args below meth c F hr _ => hJ p e s m args below meth c F hr)
def rm_X12_factor : Room := { frames := 5, cells := 0, slots := 0, locals := 103 }
theorem dX12_factor_0 : decode cX12_factor 0 = .ok (.iload_n 1, 1) := by decide +kernel
theorem dX12_factor_1 : decode cX12_factor 1 = .ok (.invokestatic 106, 3) := by decide +kernel
theorem dX12_factor_4 : decode cX12_factor 4 = .ok (.ifCond .eq 10, 3) := by decide +kernel
theorem dX12_factor_7 : decode cX12_factor 7 = .ok (.iload_n 2, 1) := by decide +kernel
theorem dX12_factor_8 : decode cX12_factor 8 = .ok (.invokestatic 200, 3) := by decide +kernel
theorem dX12_factor_11 : decode cX12_factor 11 = .ok (.ifCond .ne 7, 3) := by decide +kernel
theorem dX12_factor_14 : decode cX12_factor 14 = .ok (.ldc2_w 131, 3) := by decide +kernel
theorem dX12_factor_17 : decode cX12_factor 17 = .ok (.lreturn, 1) := by decide +kernel
theorem dX12_factor_18 : decode cX12_factor 18 = .ok (.aload_n 0, 1) := by decide +kernel
theorem dX12_factor_19 : decode cX12_factor 19 = .ok (.invokevirtual 193, 3) := by decide +kernel
theorem dX12_factor_22 : decode cX12_factor 22 = .ok (.aload_n 0, 1) := by decide +kernel
theorem dX12_factor_23 : decode cX12_factor 23 = .ok (.iload_n 1, 1) := by decide +kernel
theorem dX12_factor_24 : decode cX12_factor 24 = .ok (.iconst (-1), 1) := by decide +kernel
theorem dX12_factor_25 : decode cX12_factor 25 = .ok (.invokevirtual 207, 3) := by decide +kernel
theorem dX12_factor_28 : decode cX12_factor 28 = .ok (.lneg, 1) := by decide +kernel
theorem dX12_factor_29 : decode cX12_factor 29 = .ok (.lstore_n 3, 1) := by decide +kernel
theorem dX12_factor_30 : decode cX12_factor 30 = .ok (.lload_n 3, 1) := by decide +kernel
theorem dX12_factor_31 : decode cX12_factor 31 = .ok (.lconst 0, 1) := by decide +kernel
theorem dX12_factor_32 : decode cX12_factor 32 = .ok (.lcmp, 1) := by decide +kernel
theorem dX12_factor_33 : decode cX12_factor 33 = .ok (.ifCond .ne 9, 3) := by decide +kernel
theorem dX12_factor_36 : decode cX12_factor 36 = .ok (.ldc2_w 131, 3) := by decide +kernel
theorem dX12_factor_39 : decode cX12_factor 39 = .ok (.goto 14, 3) := by decide +kernel
theorem dX12_factor_42 : decode cX12_factor 42 = .ok (.aload_n 0, 1) := by decide +kernel
theorem dX12_factor_43 : decode cX12_factor 43 = .ok (.iload_n 1, 1) := by decide +kernel
theorem dX12_factor_44 : decode cX12_factor 44 = .ok (.iconst 1, 1) := by decide +kernel
theorem dX12_factor_45 : decode cX12_factor 45 = .ok (.invokevirtual 207, 3) := by decide +kernel
theorem dX12_factor_48 : decode cX12_factor 48 = .ok (.lload_n 3, 1) := by decide +kernel
theorem dX12_factor_49 : decode cX12_factor 49 = .ok (.iload_n 2, 1) := by decide +kernel
theorem dX12_factor_50 : decode cX12_factor 50 = .ok (.invokestatic 203, 3) := by decide +kernel
theorem dX12_factor_53 : decode cX12_factor 53 = .ok (.lreturn, 1) := by decide +kernel
def f_X12_factor (S : SH) (a0 : Nat) (a1 : Int32) (a2 : Int32) (μ : Mem) : Option (Int64 × Mem) :=
  if isO S 12 a0 = true then
  (f_X12_isPad S a1 μ).bind fun q1 =>
  (if q1.1 = 0 then
  some ((-9223372036854775808), q1.2)
  else
  (f_X12_isPart S a2 q1.2).bind fun q2 =>
  (if q2.1 = 0 then
  some ((-9223372036854775808), q2.2)
  else
  (f_X12_looks S a0 q2.2).bind fun q3 =>
  (f_X12_moments S a0 a1 (-1) q3.2).bind fun q4 =>
  (some (-q4.1)).bind fun y5 =>
  (if y5 = 0 then
  some ((-9223372036854775808), q4.2)
  else
  (f_X12_moments S a0 a1 1 q4.2).bind fun q6 =>
  (f_X12_part S q6.1 y5 a2 q6.2).bind fun q7 =>
  some (q7.1, q7.2))))
  else none
set_option maxRecDepth 100000 in
set_option maxHeartbeats 4000000 in
theorem c_X12_factor {l : Launch} {γ : GE} {S : SH} {a0 : Nat} {a1 : Int32} {a2 : Int32} {μ : Mem} {X : (Int64 × Mem)} (h : f_X12_factor S a0 a1 a2 μ = some X) : isO S 12 a0 = true ∧ Ct l γ yX12_factor cX12_factor 5 (some .long) rm_X12_factor [.ref (gb γ + a0), .int a1, .int a2] S μ S X.2 (some (.long X.1)) := by
  unfold f_X12_factor at h
  obtain ⟨h0, h⟩ := if_some h
  refine ⟨h0, ?_⟩
  have hJ : ∀ (p : Program) (e : Env) (s : State) (m : MethodId) (args : Array Value) (below : List Frame) (meth : Method) (c : Code), FX γ p s m args meth c cX12_factor RX12 5 → meth.sig.returnType = (some .long) → JJ γ p l e rm_X12_factor s m args below meth c 5 0 0 (QL below γ S X args s 0 0) S μ 0 [(0, .ref (gb γ + a0)), (1, .int a1), (2, .int a2)] [] := by
    intro p e s m args below meth c F hr
    refine j_iload_n F 1 dX12_factor_0 rfl ?_
    refine j_cSI F mi_X12_isPad w_1101 (rest := []) h (fun _ g => c_X12_isPad g) rfl rfl (Nat.le_of_ble_eq_true rfl) ⟨Nat.le_of_ble_eq_true rfl, Nat.le_of_ble_eq_true rfl⟩ ⟨Nat.le_of_ble_eq_true rfl, Nat.le_of_ble_eq_true rfl⟩ dX12_factor_1 (fun q1 h => ?_)
    refine j_ifeq F 14 dX12_factor_4 (by decide) h (fun _ h => ?_) (fun _ h => ?_)
    · refine j_ldc2 F (-9223372036854775808) dX12_factor_14 w_1152 ?_
      exact j_lret F hr dX12_factor_17 h
    · refine j_iload_n F 2 dX12_factor_7 rfl ?_
      refine j_cSI F mi_X12_isPart w_1231 (rest := []) h (fun _ g => c_X12_isPart g) rfl rfl (Nat.le_of_ble_eq_true rfl) ⟨Nat.le_of_ble_eq_true rfl, Nat.le_of_ble_eq_true rfl⟩ ⟨Nat.le_of_ble_eq_true rfl, Nat.le_of_ble_eq_true rfl⟩ dX12_factor_8 (fun q2 h => ?_)
      refine j_ifne F 18 dX12_factor_11 (by decide) h (fun _ h => ?_) (fun _ h => ?_)
      · refine j_aload_n F 0 dX12_factor_18 rfl ?_
        refine j_cVV F mi_X12_looks w_1203 (rest := []) h (fun _ g => c_X12_looks g) rfl rfl (Nat.le_of_ble_eq_true rfl) ⟨Nat.le_of_ble_eq_true rfl, Nat.le_of_ble_eq_true rfl⟩ ⟨Nat.le_of_ble_eq_true rfl, Nat.le_of_ble_eq_true rfl⟩ dX12_factor_19 (fun q3 h => ?_)
        refine j_aload_n F 0 dX12_factor_22 rfl ?_
        refine j_iload_n F 1 dX12_factor_23 rfl ?_
        refine j_iconst F (-1) dX12_factor_24 (by decide) ?_
        refine j_cVJ F mi_X12_moments w_1245 (rest := []) h (fun _ g => c_X12_moments g) rfl rfl (Nat.le_of_ble_eq_true rfl) ⟨Nat.le_of_ble_eq_true rfl, Nat.le_of_ble_eq_true rfl⟩ ⟨Nat.le_of_ble_eq_true rfl, Nat.le_of_ble_eq_true rfl⟩ dX12_factor_25 (fun q4 h => ?_)
        refine j_lneg F dX12_factor_28 ?_
        refine j_nmL h (fun y5 h => ?_)
        refine j_lstore_n F [(3, .long y5), (0, .ref (gb γ + a0)), (1, .int a1), (2, .int a2)] dX12_factor_29 rfl (by decide) rfl ?_
        refine j_lload_n F 0 dX12_factor_30 rfl ?_
        refine j_lconst F 0 dX12_factor_31 (by decide) ?_
        refine j_lcmpne F 42 dX12_factor_32 dX12_factor_33 (by decide) h (fun _ h => ?_) (fun _ h => ?_)
        · refine j_aload_n F 1 dX12_factor_42 rfl ?_
          refine j_iload_n F 2 dX12_factor_43 rfl ?_
          refine j_iconst F 1 dX12_factor_44 (by decide) ?_
          refine j_cVJ F mi_X12_moments w_1245 (rest := []) h (fun _ g => c_X12_moments g) rfl rfl (Nat.le_of_ble_eq_true rfl) ⟨Nat.le_of_ble_eq_true rfl, Nat.le_of_ble_eq_true rfl⟩ ⟨Nat.le_of_ble_eq_true rfl, Nat.le_of_ble_eq_true rfl⟩ dX12_factor_45 (fun q6 h => ?_)
          refine j_lload_n F 0 dX12_factor_48 rfl ?_
          refine j_iload_n F 3 dX12_factor_49 rfl ?_
          refine j_cSJ F mi_X12_part w_1235 (rest := []) h (fun _ g => c_X12_part g) rfl rfl (Nat.le_of_ble_eq_true rfl) ⟨Nat.le_of_ble_eq_true rfl, Nat.le_of_ble_eq_true rfl⟩ ⟨Nat.le_of_ble_eq_true rfl, Nat.le_of_ble_eq_true rfl⟩ dX12_factor_50 (fun q7 h => ?_)
          exact j_lret F hr dX12_factor_53 h
        · refine j_ldc2 F (-9223372036854775808) dX12_factor_36 w_1152 ?_
          refine j_goto F 53 dX12_factor_39 (by decide) ?_
          exact j_lret F hr dX12_factor_53 h
      · refine j_ldc2 F (-9223372036854775808) dX12_factor_14 w_1152 ?_
        exact j_lret F hr dX12_factor_17 h
  exact ct_of (by decide +kernel) (Nat.le_of_ble_eq_true rfl) (fun p e s m args below meth c F hr _ => hJ p e s m args below meth c F hr)
def rm_X12_tips : Room := { frames := 3, cells := 0, slots := 0, locals := 78 }
theorem dX12_tips_0 : decode cX12_tips 0 = .ok (.iconst 0, 1) := by decide +kernel
theorem dX12_tips_1 : decode cX12_tips 1 = .ok (.istore_n 1, 1) := by decide +kernel
theorem dX12_tips_2 : decode cX12_tips 2 = .ok (.iload_n 1, 1) := by decide +kernel
theorem dX12_tips_3 : decode cX12_tips 3 = .ok (.iconst 4, 1) := by decide +kernel
theorem dX12_tips_4 : decode cX12_tips 4 = .ok (.if_icmp .ge 22, 3) := by decide +kernel
theorem dX12_tips_7 : decode cX12_tips 7 = .ok (.aload_n 0, 1) := by decide +kernel
theorem dX12_tips_8 : decode cX12_tips 8 = .ok (.iload_n 1, 1) := by decide +kernel
theorem dX12_tips_9 : decode cX12_tips 9 = .ok (.iconst 0, 1) := by decide +kernel
theorem dX12_tips_10 : decode cX12_tips 10 = .ok (.invokevirtual 207, 3) := by decide +kernel
theorem dX12_tips_13 : decode cX12_tips 13 = .ok (.lconst 0, 1) := by decide +kernel
theorem dX12_tips_14 : decode cX12_tips 14 = .ok (.lcmp, 1) := by decide +kernel
theorem dX12_tips_15 : decode cX12_tips 15 = .ok (.ifCond .ge 5, 3) := by decide +kernel
theorem dX12_tips_18 : decode cX12_tips 18 = .ok (.iconst 1, 1) := by decide +kernel
theorem dX12_tips_19 : decode cX12_tips 19 = .ok (.ireturn, 1) := by decide +kernel
theorem dX12_tips_20 : decode cX12_tips 20 = .ok (.iinc 1 1, 3) := by decide +kernel
theorem dX12_tips_23 : decode cX12_tips 23 = .ok (.goto (-21), 3) := by decide +kernel
theorem dX12_tips_26 : decode cX12_tips 26 = .ok (.iconst 0, 1) := by decide +kernel
theorem dX12_tips_27 : decode cX12_tips 27 = .ok (.ireturn, 1) := by decide +kernel
def l_X12_tips_2 (S : SH) (a0 : Nat) (k2 : (Int32 × Mem) → Option (Int32 × Mem)) (x : (Int32 × Mem)) : Option (Int32 × Mem) :=
 (if 4 ≤ x.1 then
 some (0, x.2)
 else
 (f_X12_moments S a0 x.1 0 x.2).bind fun q1 =>
 (if 0 ≤ q1.1 then
 k2 (x.1 + 1, q1.2)
 else
 some (1, q1.2)))
set_option maxRecDepth 100000 in
set_option maxHeartbeats 4000000 in
theorem t_X12_tips_2 {γ : GE} {p : Program} {l : Launch} {e : Env} {s : State} {m : MethodId} {args : Array Value} {below : List Frame} {meth : Method} {c : Code} {S : SH} {X : (Int32 × Mem)} (F : FX γ p s m args meth c cX12_tips RX12 2) (hr : meth.sig.returnType = (some .boolean)) (a0 : Nat) (k2 : (Int32 × Mem) → Option (Int32 × Mem)) (hk2 : ∀ (x2_1 : Int32) (ν : Mem), k2 (x2_1, ν) = some X → JJ γ p l e rm_X12_tips s m args below meth c 2 0 0 (QI below γ S X args s 0 0) S ν 2 [(0, .ref (gb γ + a0)), (1, .int x2_1)] []) (x : (Int32 × Mem)) (h : l_X12_tips_2 S a0 k2 x = some X) : JJ γ p l e rm_X12_tips s m args below meth c 2 0 0 (QI below γ S X args s 0 0) S x.2 2 [(0, .ref (gb γ + a0)), (1, .int x.1)] [] := by
  unfold l_X12_tips_2 at h
  refine j_iload_n F 1 dX12_tips_2 rfl ?_
  refine j_iconst F 4 dX12_tips_3 (by decide) ?_
  refine j_icmpge F 26 dX12_tips_4 (by decide) h (fun _ h => ?_) (fun _ h => ?_)
  · refine j_iconst F 0 dX12_tips_26 (by decide) ?_
    exact j_zret F hr (Or.inl rfl) dX12_tips_27 h
  · refine j_aload_n F 0 dX12_tips_7 rfl ?_
    refine j_iload_n F 1 dX12_tips_8 rfl ?_
    refine j_iconst F 0 dX12_tips_9 (by decide) ?_
    refine j_cVJ F mi_X12_moments w_1245 (rest := []) h (fun _ g => c_X12_moments g) rfl rfl (Nat.le_of_ble_eq_true rfl) ⟨Nat.le_of_ble_eq_true rfl, Nat.le_of_ble_eq_true rfl⟩ ⟨Nat.le_of_ble_eq_true rfl, Nat.le_of_ble_eq_true rfl⟩ dX12_tips_10 (fun q1 h => ?_)
    refine j_lconst F 0 dX12_tips_13 (by decide) ?_
    refine j_lcmpge F 20 dX12_tips_14 dX12_tips_15 (by decide) h (fun _ h => ?_) (fun _ h => ?_)
    · refine j_iinc F 1 1 [(1, .int (x.1 + 1)), (0, .ref (gb γ + a0))] dX12_tips_20 rfl (by decide) (by decide) rfl ?_
      refine j_goto F 2 dX12_tips_23 (by decide) ?_
      refine j_lv [(0, .ref (gb γ + a0)), (1, .int (x.1 + 1))] [1, 0] rfl ?_
      exact hk2 _ _ h
    · refine j_iconst F 1 dX12_tips_18 (by decide) ?_
      exact j_zret F hr (Or.inr rfl) dX12_tips_19 h
theorem s_X12_tips_2 {γ : GE} {p : Program} {l : Launch} {e : Env} {s : State} {m : MethodId} {args : Array Value} {below : List Frame} {meth : Method} {c : Code} {S : SH} {X : (Int32 × Mem)} (F : FX γ p s m args meth c cX12_tips RX12 2) (hr : meth.sig.returnType = (some .boolean)) (a0 : Nat) (x2_1 : Int32) (ν : Mem) (h : lpN (l_X12_tips_2 S a0) fu (x2_1, ν) = some X) : JJ γ p l e rm_X12_tips s m args below meth c 2 0 0 (QI below γ S X args s 0 0) S ν 2 [(0, .ref (gb γ + a0)), (1, .int x2_1)] [] :=
 lpN_sound (fun x => JJ γ p l e rm_X12_tips s m args below meth c 2 0 0 (QI below γ S X args s 0 0) S x.2 2 [(0, .ref (gb γ + a0)), (1, .int x.1)] []) (fun k2 hk2 x h => t_X12_tips_2 F hr a0 k2 (fun x2_1 ν h => hk2 (x2_1, ν) h) x h) fu (x2_1, ν) h
def f_X12_tips (S : SH) (a0 : Nat) (μ : Mem) : Option (Int32 × Mem) :=
  if isO S 12 a0 = true then
  lpN (l_X12_tips_2 S  a0) fu (0, μ)
  else none
set_option maxRecDepth 100000 in
set_option maxHeartbeats 4000000 in
theorem c_X12_tips {l : Launch} {γ : GE} {S : SH} {a0 : Nat} {μ : Mem} {X : (Int32 × Mem)} (h : f_X12_tips S a0 μ = some X) : isO S 12 a0 = true ∧ Ct l γ yX12_tips cX12_tips 2 (some .boolean) rm_X12_tips [.ref (gb γ + a0)] S μ S X.2 (some (.int X.1)) := by
  unfold f_X12_tips at h
  obtain ⟨h0, h⟩ := if_some h
  refine ⟨h0, ?_⟩
  have hJ : ∀ (p : Program) (e : Env) (s : State) (m : MethodId) (args : Array Value) (below : List Frame) (meth : Method) (c : Code), FX γ p s m args meth c cX12_tips RX12 2 → meth.sig.returnType = (some .boolean) → JJ γ p l e rm_X12_tips s m args below meth c 2 0 0 (QI below γ S X args s 0 0) S μ 0 [(0, .ref (gb γ + a0))] [] := by
    intro p e s m args below meth c F hr
    refine j_iconst F 0 dX12_tips_0 (by decide) ?_
    refine j_istore_n F [(1, .int 0), (0, .ref (gb γ + a0))] dX12_tips_1 rfl (by decide) rfl ?_
    refine j_lv [(0, .ref (gb γ + a0)), (1, .int 0)] [1, 0] rfl ?_
    exact s_X12_tips_2 F hr _ _ _ h
  exact ct_of (by decide +kernel) (Nat.le_of_ble_eq_true rfl) (fun p e s m args below meth c F hr _ => hJ p e s m args below meth c F hr)
def rm_X12_determinant : Room := { frames := 0, cells := 0, slots := 0, locals := 0 }
theorem dX12_determinant_0 : decode cX12_determinant 0 = .ok (.lload_n 0, 1) := by decide +kernel
theorem dX12_determinant_1 : decode cX12_determinant 1 = .ok (.lload 8, 2) := by decide +kernel
theorem dX12_determinant_3 : decode cX12_determinant 3 = .ok (.lload 16, 2) := by decide +kernel
theorem dX12_determinant_5 : decode cX12_determinant 5 = .ok (.lmul, 1) := by decide +kernel
theorem dX12_determinant_6 : decode cX12_determinant 6 = .ok (.lload 10, 2) := by decide +kernel
theorem dX12_determinant_8 : decode cX12_determinant 8 = .ok (.lload 14, 2) := by decide +kernel
theorem dX12_determinant_10 : decode cX12_determinant 10 = .ok (.lmul, 1) := by decide +kernel
theorem dX12_determinant_11 : decode cX12_determinant 11 = .ok (.lsub, 1) := by decide +kernel
theorem dX12_determinant_12 : decode cX12_determinant 12 = .ok (.lmul, 1) := by decide +kernel
theorem dX12_determinant_13 : decode cX12_determinant 13 = .ok (.lload_n 2, 1) := by decide +kernel
theorem dX12_determinant_14 : decode cX12_determinant 14 = .ok (.lload 6, 2) := by decide +kernel
theorem dX12_determinant_16 : decode cX12_determinant 16 = .ok (.lload 16, 2) := by decide +kernel
theorem dX12_determinant_18 : decode cX12_determinant 18 = .ok (.lmul, 1) := by decide +kernel
theorem dX12_determinant_19 : decode cX12_determinant 19 = .ok (.lload 10, 2) := by decide +kernel
theorem dX12_determinant_21 : decode cX12_determinant 21 = .ok (.lload 12, 2) := by decide +kernel
theorem dX12_determinant_23 : decode cX12_determinant 23 = .ok (.lmul, 1) := by decide +kernel
theorem dX12_determinant_24 : decode cX12_determinant 24 = .ok (.lsub, 1) := by decide +kernel
theorem dX12_determinant_25 : decode cX12_determinant 25 = .ok (.lmul, 1) := by decide +kernel
theorem dX12_determinant_26 : decode cX12_determinant 26 = .ok (.lsub, 1) := by decide +kernel
theorem dX12_determinant_27 : decode cX12_determinant 27 = .ok (.lload 4, 2) := by decide +kernel
theorem dX12_determinant_29 : decode cX12_determinant 29 = .ok (.lload 6, 2) := by decide +kernel
theorem dX12_determinant_31 : decode cX12_determinant 31 = .ok (.lload 14, 2) := by decide +kernel
theorem dX12_determinant_33 : decode cX12_determinant 33 = .ok (.lmul, 1) := by decide +kernel
theorem dX12_determinant_34 : decode cX12_determinant 34 = .ok (.lload 8, 2) := by decide +kernel
theorem dX12_determinant_36 : decode cX12_determinant 36 = .ok (.lload 12, 2) := by decide +kernel
theorem dX12_determinant_38 : decode cX12_determinant 38 = .ok (.lmul, 1) := by decide +kernel
theorem dX12_determinant_39 : decode cX12_determinant 39 = .ok (.lsub, 1) := by decide +kernel
theorem dX12_determinant_40 : decode cX12_determinant 40 = .ok (.lmul, 1) := by decide +kernel
theorem dX12_determinant_41 : decode cX12_determinant 41 = .ok (.ladd, 1) := by decide +kernel
theorem dX12_determinant_42 : decode cX12_determinant 42 = .ok (.lreturn, 1) := by decide +kernel
def f_X12_determinant (S : SH) (a0 : Int64) (a2 : Int64) (a4 : Int64) (a6 : Int64) (a8 : Int64) (a10 : Int64) (a12 : Int64) (a14 : Int64) (a16 : Int64) (μ : Mem) : Option (Int64 × Mem) :=
  some (((a0 * ((a8 * a16) - (a10 * a14))) - (a2 * ((a6 * a16) - (a10 * a12)))) + (a4 * ((a6 * a14) - (a8 * a12))), μ)
set_option maxRecDepth 100000 in
set_option maxHeartbeats 4000000 in
theorem c_X12_determinant {l : Launch} {γ : GE} {S : SH} {a0 : Int64} {a2 : Int64} {a4 : Int64} {a6 : Int64} {a8 : Int64} {a10 : Int64} {a12 : Int64} {a14 : Int64} {a16 : Int64} {μ : Mem} {X : (Int64 × Mem)} (h : f_X12_determinant S a0 a2 a4 a6 a8 a10 a12 a14 a16 μ = some X) : Ct l γ yX12_determinant cX12_determinant 18 (some .long) rm_X12_determinant [.long a0, .long a2, .long a4, .long a6, .long a8, .long a10, .long a12, .long a14, .long a16] S μ S X.2 (some (.long X.1)) := by
  unfold f_X12_determinant at h
  have hJ : ∀ (p : Program) (e : Env) (s : State) (m : MethodId) (args : Array Value) (below : List Frame) (meth : Method) (c : Code), FX γ p s m args meth c cX12_determinant RX12 18 → meth.sig.returnType = (some .long) → JJ γ p l e rm_X12_determinant s m args below meth c 18 0 0 (QL below γ S X args s 0 0) S μ 0 [(0, .long a0), (2, .long a2), (4, .long a4), (6, .long a6), (8, .long a8), (10, .long a10), (12, .long a12), (14, .long a14), (16, .long a16)] [] := by
    intro p e s m args below meth c F hr
    refine j_lload_n F 0 dX12_determinant_0 rfl ?_
    refine j_lload F 4 dX12_determinant_1 rfl ?_
    refine j_lload F 8 dX12_determinant_3 rfl ?_
    refine j_lmul F dX12_determinant_5 ?_
    refine j_lload F 5 dX12_determinant_6 rfl ?_
    refine j_lload F 7 dX12_determinant_8 rfl ?_
    refine j_lmul F dX12_determinant_10 ?_
    refine j_lsub F dX12_determinant_11 ?_
    refine j_lmul F dX12_determinant_12 ?_
    refine j_lload_n F 1 dX12_determinant_13 rfl ?_
    refine j_lload F 3 dX12_determinant_14 rfl ?_
    refine j_lload F 8 dX12_determinant_16 rfl ?_
    refine j_lmul F dX12_determinant_18 ?_
    refine j_lload F 5 dX12_determinant_19 rfl ?_
    refine j_lload F 6 dX12_determinant_21 rfl ?_
    refine j_lmul F dX12_determinant_23 ?_
    refine j_lsub F dX12_determinant_24 ?_
    refine j_lmul F dX12_determinant_25 ?_
    refine j_lsub F dX12_determinant_26 ?_
    refine j_lload F 2 dX12_determinant_27 rfl ?_
    refine j_lload F 3 dX12_determinant_29 rfl ?_
    refine j_lload F 7 dX12_determinant_31 rfl ?_
    refine j_lmul F dX12_determinant_33 ?_
    refine j_lload F 4 dX12_determinant_34 rfl ?_
    refine j_lload F 6 dX12_determinant_36 rfl ?_
    refine j_lmul F dX12_determinant_38 ?_
    refine j_lsub F dX12_determinant_39 ?_
    refine j_lmul F dX12_determinant_40 ?_
    refine j_ladd F dX12_determinant_41 ?_
    exact j_lret F hr dX12_determinant_42 h
  exact ct_of (by decide +kernel) (Nat.le_of_ble_eq_true rfl) (fun p e s m args below meth c F hr _ => hJ p e s m args below meth c F hr)
