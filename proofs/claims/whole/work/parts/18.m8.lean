def rm_X11_seen : Room := { frames := 5, cells := 0, slots := 0, locals := 113 }
theorem dX11_seen_0 : decode cX11_seen 0 = .ok (.iload_n 1, 1) := by decide +kernel
theorem dX11_seen_1 : decode cX11_seen 1 = .ok (.invokestatic 288, 3) := by decide +kernel
theorem dX11_seen_4 : decode cX11_seen 4 = .ok (.ifCond .eq 12, 3) := by decide +kernel
theorem dX11_seen_7 : decode cX11_seen 7 = .ok (.iload_n 3, 1) := by decide +kernel
theorem dX11_seen_8 : decode cX11_seen 8 = .ok (.iconst 0, 1) := by decide +kernel
theorem dX11_seen_9 : decode cX11_seen 9 = .ok (.iconst 1, 1) := by decide +kernel
theorem dX11_seen_10 : decode cX11_seen 10 = .ok (.invokestatic 84, 3) := by decide +kernel
theorem dX11_seen_13 : decode cX11_seen 13 = .ok (.ifCond .ne 5, 3) := by decide +kernel
theorem dX11_seen_16 : decode cX11_seen 16 = .ok (.iconst (-1), 1) := by decide +kernel
theorem dX11_seen_17 : decode cX11_seen 17 = .ok (.ireturn, 1) := by decide +kernel
theorem dX11_seen_18 : decode cX11_seen 18 = .ok (.aload_n 0, 1) := by decide +kernel
theorem dX11_seen_19 : decode cX11_seen 19 = .ok (.getfield 72, 3) := by decide +kernel
theorem dX11_seen_22 : decode cX11_seen 22 = .ok (.iload_n 1, 1) := by decide +kernel
theorem dX11_seen_23 : decode cX11_seen 23 = .ok (.invokevirtual 291, 3) := by decide +kernel
theorem dX11_seen_26 : decode cX11_seen 26 = .ok (.ifCond .ne 6, 3) := by decide +kernel
theorem dX11_seen_29 : decode cX11_seen 29 = .ok (.bipush (-11), 2) := by decide +kernel
theorem dX11_seen_31 : decode cX11_seen 31 = .ok (.ireturn, 1) := by decide +kernel
theorem dX11_seen_32 : decode cX11_seen 32 = .ok (.iload_n 2, 1) := by decide +kernel
theorem dX11_seen_33 : decode cX11_seen 33 = .ok (.ifCond .lt 18, 3) := by decide +kernel
theorem dX11_seen_36 : decode cX11_seen 36 = .ok (.iload_n 2, 1) := by decide +kernel
theorem dX11_seen_37 : decode cX11_seen 37 = .ok (.aload_n 0, 1) := by decide +kernel
theorem dX11_seen_38 : decode cX11_seen 38 = .ok (.getfield 72, 3) := by decide +kernel
theorem dX11_seen_41 : decode cX11_seen 41 = .ok (.getfield 294, 3) := by decide +kernel
theorem dX11_seen_44 : decode cX11_seen 44 = .ok (.iload_n 1, 1) := by decide +kernel
theorem dX11_seen_45 : decode cX11_seen 45 = .ok (.iaload, 1) := by decide +kernel
theorem dX11_seen_46 : decode cX11_seen 46 = .ok (.iconst 4, 1) := by decide +kernel
theorem dX11_seen_47 : decode cX11_seen 47 = .ok (.isub, 1) := by decide +kernel
theorem dX11_seen_48 : decode cX11_seen 48 = .ok (.if_icmp .le 6, 3) := by decide +kernel
theorem dX11_seen_51 : decode cX11_seen 51 = .ok (.bipush (-13), 2) := by decide +kernel
theorem dX11_seen_53 : decode cX11_seen 53 = .ok (.ireturn, 1) := by decide +kernel
theorem dX11_seen_54 : decode cX11_seen 54 = .ok (.aload_n 0, 1) := by decide +kernel
theorem dX11_seen_55 : decode cX11_seen 55 = .ok (.getfield 21, 3) := by decide +kernel
theorem dX11_seen_58 : decode cX11_seen 58 = .ok (.aload_n 0, 1) := by decide +kernel
theorem dX11_seen_59 : decode cX11_seen 59 = .ok (.getfield 12, 3) := by decide +kernel
theorem dX11_seen_62 : decode cX11_seen 62 = .ok (.invokevirtual 234, 3) := by decide +kernel
theorem dX11_seen_65 : decode cX11_seen 65 = .ok (.iconst 0, 1) := by decide +kernel
theorem dX11_seen_66 : decode cX11_seen 66 = .ok (.istore 4, 2) := by decide +kernel
theorem dX11_seen_68 : decode cX11_seen 68 = .ok (.bipush (-5), 2) := by decide +kernel
theorem dX11_seen_70 : decode cX11_seen 70 = .ok (.istore 5, 2) := by decide +kernel
theorem dX11_seen_72 : decode cX11_seen 72 = .ok (.iconst 0, 1) := by decide +kernel
theorem dX11_seen_73 : decode cX11_seen 73 = .ok (.istore 6, 2) := by decide +kernel
theorem dX11_seen_75 : decode cX11_seen 75 = .ok (.iload 6, 2) := by decide +kernel
theorem dX11_seen_77 : decode cX11_seen 77 = .ok (.sipush 1000, 3) := by decide +kernel
theorem dX11_seen_80 : decode cX11_seen 80 = .ok (.if_icmp .ge 71, 3) := by decide +kernel
theorem dX11_seen_83 : decode cX11_seen 83 = .ok (.aload_n 0, 1) := by decide +kernel
theorem dX11_seen_84 : decode cX11_seen 84 = .ok (.getfield 21, 3) := by decide +kernel
theorem dX11_seen_87 : decode cX11_seen 87 = .ok (.getfield 136, 3) := by decide +kernel
theorem dX11_seen_90 : decode cX11_seen 90 = .ok (.iconst 3, 1) := by decide +kernel
theorem dX11_seen_91 : decode cX11_seen 91 = .ok (.iload 6, 2) := by decide +kernel
theorem dX11_seen_93 : decode cX11_seen 93 = .ok (.iastore, 1) := by decide +kernel
theorem dX11_seen_94 : decode cX11_seen 94 = .ok (.aload_n 0, 1) := by decide +kernel
theorem dX11_seen_95 : decode cX11_seen 95 = .ok (.getfield 27, 3) := by decide +kernel
theorem dX11_seen_98 : decode cX11_seen 98 = .ok (.aload_n 0, 1) := by decide +kernel
theorem dX11_seen_99 : decode cX11_seen 99 = .ok (.getfield 21, 3) := by decide +kernel
theorem dX11_seen_102 : decode cX11_seen 102 = .ok (.invokevirtual 216, 3) := by decide +kernel
theorem dX11_seen_105 : decode cX11_seen 105 = .ok (.ifCond .eq 40, 3) := by decide +kernel
theorem dX11_seen_108 : decode cX11_seen 108 = .ok (.aload_n 0, 1) := by decide +kernel
theorem dX11_seen_109 : decode cX11_seen 109 = .ok (.getfield 27, 3) := by decide +kernel
theorem dX11_seen_112 : decode cX11_seen 112 = .ok (.aload_n 0, 1) := by decide +kernel
theorem dX11_seen_113 : decode cX11_seen 113 = .ok (.getfield 72, 3) := by decide +kernel
theorem dX11_seen_116 : decode cX11_seen 116 = .ok (.getfield 297, 3) := by decide +kernel
theorem dX11_seen_119 : decode cX11_seen 119 = .ok (.iload_n 1, 1) := by decide +kernel
theorem dX11_seen_120 : decode cX11_seen 120 = .ok (.aaload, 1) := by decide +kernel
theorem dX11_seen_121 : decode cX11_seen 121 = .ok (.iload_n 2, 1) := by decide +kernel
theorem dX11_seen_122 : decode cX11_seen 122 = .ok (.invokevirtual 301, 3) := by decide +kernel
theorem dX11_seen_125 : decode cX11_seen 125 = .ok (.ifCond .eq 20, 3) := by decide +kernel
theorem dX11_seen_128 : decode cX11_seen 128 = .ok (.iload 4, 2) := by decide +kernel
theorem dX11_seen_130 : decode cX11_seen 130 = .ok (.ifCond .ne 8, 3) := by decide +kernel
theorem dX11_seen_133 : decode cX11_seen 133 = .ok (.iload 6, 2) := by decide +kernel
theorem dX11_seen_135 : decode cX11_seen 135 = .ok (.goto 5, 3) := by decide +kernel
theorem dX11_seen_138 : decode cX11_seen 138 = .ok (.iload 5, 2) := by decide +kernel
theorem dX11_seen_140 : decode cX11_seen 140 = .ok (.istore 5, 2) := by decide +kernel
theorem dX11_seen_142 : decode cX11_seen 142 = .ok (.iinc 4 1, 3) := by decide +kernel
theorem dX11_seen_145 : decode cX11_seen 145 = .ok (.iinc 6 1, 3) := by decide +kernel
theorem dX11_seen_148 : decode cX11_seen 148 = .ok (.goto (-73), 3) := by decide +kernel
theorem dX11_seen_151 : decode cX11_seen 151 = .ok (.iload_n 3, 1) := by decide +kernel
theorem dX11_seen_152 : decode cX11_seen 152 = .ok (.ifCond .ne 8, 3) := by decide +kernel
theorem dX11_seen_155 : decode cX11_seen 155 = .ok (.iload 4, 2) := by decide +kernel
theorem dX11_seen_157 : decode cX11_seen 157 = .ok (.goto 5, 3) := by decide +kernel
theorem dX11_seen_160 : decode cX11_seen 160 = .ok (.iload 5, 2) := by decide +kernel
theorem dX11_seen_162 : decode cX11_seen 162 = .ok (.ireturn, 1) := by decide +kernel
def l_X11_seen_75 (S : SH) (a0 : Nat) (a1 : Int32) (a2 : Int32) (a3 : Int32) (k75 : (Int32 × Int32 × Int32 × Mem) → Option (Int32 × Mem)) (x : (Int32 × Int32 × Int32 × Mem)) : Option (Int32 × Mem) :=
 (if 1000 ≤ x.2.2.1 then
 (if a3 = 0 then
 some (x.1, x.2.2.2)
 else
 some (x.2.1, x.2.2.2))
 else
 (gR S 11 a0 2).bind fun v11 =>
 (gR S 2 v11 3).bind fun v12 =>
 (sI S v12 3 x.2.2.1 x.2.2.2).bind fun ν13 =>
 (gR S 11 a0 3).bind fun v14 =>
 (gR S 11 a0 2).bind fun v15 =>
 (f_X3_finds S v14 v15 ν13).bind fun q16 =>
 (if q16.1 = 0 then
 k75 (x.1, x.2.1, x.2.2.1 + 1, q16.2)
 else
 (gR S 11 a0 3).bind fun v17 =>
 (gR S 11 a0 10).bind fun v18 =>
 (gR S 8 v18 0).bind fun v19 =>
 (aR S (.array .long) v19 a1).bind fun v20 =>
 (f_X3_sharesAre S v17 v20 a2 q16.2).bind fun q21 =>
 (if q21.1 = 0 then
 k75 (x.1, x.2.1, x.2.2.1 + 1, q21.2)
 else
 (if x.1 = 0 then
 k75 (x.1 + 1, x.2.2.1, x.2.2.1 + 1, q21.2)
 else
 k75 (x.1 + 1, x.2.1, x.2.2.1 + 1, q21.2)))))
set_option maxRecDepth 100000 in
set_option maxHeartbeats 4000000 in
theorem t_X11_seen_75 {γ : GE} {p : Program} {l : Launch} {e : Env} {s : State} {m : MethodId} {args : Array Value} {below : List Frame} {meth : Method} {c : Code} {S : SH} {X : (Int32 × Mem)} (F : FX γ p s m args meth c cX11_seen RX11 7) (hr : meth.sig.returnType = (some .int)) (a0 : Nat) (a1 : Int32) (a2 : Int32) (a3 : Int32) (k75 : (Int32 × Int32 × Int32 × Mem) → Option (Int32 × Mem)) (hk75 : ∀ (x75_4 : Int32) (x75_5 : Int32) (x75_6 : Int32) (ν : Mem), k75 (x75_4, x75_5, x75_6, ν) = some X → JJ γ p l e rm_X11_seen s m args below meth c 7 0 0 (QI below γ S X args s 0 0) S ν 75 [(0, .ref (gb γ + a0)), (1, .int a1), (2, .int a2), (3, .int a3), (4, .int x75_4), (5, .int x75_5), (6, .int x75_6)] []) (x : (Int32 × Int32 × Int32 × Mem)) (h : l_X11_seen_75 S a0 a1 a2 a3 k75 x = some X) : JJ γ p l e rm_X11_seen s m args below meth c 7 0 0 (QI below γ S X args s 0 0) S x.2.2.2 75 [(0, .ref (gb γ + a0)), (1, .int a1), (2, .int a2), (3, .int a3), (4, .int x.1), (5, .int x.2.1), (6, .int x.2.2.1)] [] := by
  unfold l_X11_seen_75 at h
  refine j_iload F 6 dX11_seen_75 rfl ?_
  refine j_sipush F 1000 dX11_seen_77 (by decide) ?_
  refine j_icmpge F 151 dX11_seen_80 (by decide) h (fun _ h => ?_) (fun _ h => ?_)
  · refine j_iload_n F 3 dX11_seen_151 rfl ?_
    refine j_ifne F 160 dX11_seen_152 (by decide) h (fun _ h => ?_) (fun _ h => ?_)
    · refine j_iload F 5 dX11_seen_160 rfl ?_
      exact j_iret F hr dX11_seen_162 h
    · refine j_iload F 4 dX11_seen_155 rfl ?_
      refine j_goto F 162 dX11_seen_157 (by decide) ?_
      exact j_iret F hr dX11_seen_162 h
  · refine j_aload_n F 0 dX11_seen_83 rfl ?_
    refine j_gR F fl_RX11_21 rfl dX11_seen_84 h (fun v11 h => ?_)
    refine j_gR F fl_RX11_136 rfl dX11_seen_87 h (fun v12 h => ?_)
    refine j_iconst F 3 dX11_seen_90 (by decide) ?_
    refine j_iload F 6 dX11_seen_91 rfl ?_
    refine j_iast F dX11_seen_93 h (fun ν13 h => ?_)
    refine j_aload_n F 0 dX11_seen_94 rfl ?_
    refine j_gR F fl_RX11_27 rfl dX11_seen_95 h (fun v14 h => ?_)
    refine j_aload_n F 0 dX11_seen_98 rfl ?_
    refine j_gR F fl_RX11_21 rfl dX11_seen_99 h (fun v15 h => ?_)
    refine j_cVI F mi_X3_finds w_620 (rest := []) h (fun _ g => c_X3_finds g) rfl rfl (Nat.le_of_ble_eq_true rfl) ⟨Nat.le_of_ble_eq_true rfl, Nat.le_of_ble_eq_true rfl⟩ ⟨Nat.le_of_ble_eq_true rfl, Nat.le_of_ble_eq_true rfl⟩ dX11_seen_102 (fun q16 h => ?_)
    refine j_ifeq F 145 dX11_seen_105 (by decide) h (fun _ h => ?_) (fun _ h => ?_)
    · refine j_iinc F 1 6 [(6, .int (x.2.2.1 + 1)), (0, .ref (gb γ + a0)), (1, .int a1), (2, .int a2), (3, .int a3), (4, .int x.1), (5, .int x.2.1)] dX11_seen_145 rfl (by decide) (by decide) rfl ?_
      refine j_goto F 75 dX11_seen_148 (by decide) ?_
      refine j_lv [(0, .ref (gb γ + a0)), (1, .int a1), (2, .int a2), (3, .int a3), (4, .int x.1), (5, .int x.2.1), (6, .int (x.2.2.1 + 1))] [1, 2, 3, 4, 5, 6, 0] rfl ?_
      exact hk75 _ _ _ _ h
    · refine j_aload_n F 0 dX11_seen_108 rfl ?_
      refine j_gR F fl_RX11_27 rfl dX11_seen_109 h (fun v17 h => ?_)
      refine j_aload_n F 0 dX11_seen_112 rfl ?_
      refine j_gR F fl_RX11_72 rfl dX11_seen_113 h (fun v18 h => ?_)
      refine j_gR F fl_RX11_297 rfl dX11_seen_116 h (fun v19 h => ?_)
      refine j_iload_n F 1 dX11_seen_119 rfl ?_
      refine j_aald F 5 rfl rfl rfl dX11_seen_120 h (fun v20 h => ?_)
      refine j_iload_n F 2 dX11_seen_121 rfl ?_
      refine j_cVI F mi_X3_sharesAre w_890 (rest := []) h (fun _ g => c_X3_sharesAre g) rfl rfl (Nat.le_of_ble_eq_true rfl) ⟨Nat.le_of_ble_eq_true rfl, Nat.le_of_ble_eq_true rfl⟩ ⟨Nat.le_of_ble_eq_true rfl, Nat.le_of_ble_eq_true rfl⟩ dX11_seen_122 (fun q21 h => ?_)
      refine j_ifeq F 145 dX11_seen_125 (by decide) h (fun _ h => ?_) (fun _ h => ?_)
      · refine j_iinc F 1 6 [(6, .int (x.2.2.1 + 1)), (0, .ref (gb γ + a0)), (1, .int a1), (2, .int a2), (3, .int a3), (4, .int x.1), (5, .int x.2.1)] dX11_seen_145 rfl (by decide) (by decide) rfl ?_
        refine j_goto F 75 dX11_seen_148 (by decide) ?_
        refine j_lv [(0, .ref (gb γ + a0)), (1, .int a1), (2, .int a2), (3, .int a3), (4, .int x.1), (5, .int x.2.1), (6, .int (x.2.2.1 + 1))] [1, 2, 3, 4, 5, 6, 0] rfl ?_
        exact hk75 _ _ _ _ h
      · refine j_iload F 4 dX11_seen_128 rfl ?_
        refine j_ifne F 138 dX11_seen_130 (by decide) h (fun _ h => ?_) (fun _ h => ?_)
        · refine j_iload F 5 dX11_seen_138 rfl ?_
          refine j_istore F [(5, .int x.2.1), (0, .ref (gb γ + a0)), (1, .int a1), (2, .int a2), (3, .int a3), (4, .int x.1), (6, .int x.2.2.1)] dX11_seen_140 (by decide) rfl ?_
          refine j_iinc F 1 5 [(4, .int (x.1 + 1)), (5, .int x.2.1), (0, .ref (gb γ + a0)), (1, .int a1), (2, .int a2), (3, .int a3), (6, .int x.2.2.1)] dX11_seen_142 rfl (by decide) (by decide) rfl ?_
          refine j_iinc F 1 6 [(6, .int (x.2.2.1 + 1)), (4, .int (x.1 + 1)), (5, .int x.2.1), (0, .ref (gb γ + a0)), (1, .int a1), (2, .int a2), (3, .int a3)] dX11_seen_145 rfl (by decide) (by decide) rfl ?_
          refine j_goto F 75 dX11_seen_148 (by decide) ?_
          refine j_lv [(0, .ref (gb γ + a0)), (1, .int a1), (2, .int a2), (3, .int a3), (4, .int (x.1 + 1)), (5, .int x.2.1), (6, .int (x.2.2.1 + 1))] [3, 4, 5, 6, 1, 2, 0] rfl ?_
          exact hk75 _ _ _ _ h
        · refine j_iload F 6 dX11_seen_133 rfl ?_
          refine j_goto F 140 dX11_seen_135 (by decide) ?_
          refine j_istore F [(5, .int x.2.2.1), (0, .ref (gb γ + a0)), (1, .int a1), (2, .int a2), (3, .int a3), (4, .int x.1), (6, .int x.2.2.1)] dX11_seen_140 (by decide) rfl ?_
          refine j_iinc F 1 5 [(4, .int (x.1 + 1)), (5, .int x.2.2.1), (0, .ref (gb γ + a0)), (1, .int a1), (2, .int a2), (3, .int a3), (6, .int x.2.2.1)] dX11_seen_142 rfl (by decide) (by decide) rfl ?_
          refine j_iinc F 1 6 [(6, .int (x.2.2.1 + 1)), (4, .int (x.1 + 1)), (5, .int x.2.2.1), (0, .ref (gb γ + a0)), (1, .int a1), (2, .int a2), (3, .int a3)] dX11_seen_145 rfl (by decide) (by decide) rfl ?_
          refine j_goto F 75 dX11_seen_148 (by decide) ?_
          refine j_lv [(0, .ref (gb γ + a0)), (1, .int a1), (2, .int a2), (3, .int a3), (4, .int (x.1 + 1)), (5, .int x.2.2.1), (6, .int (x.2.2.1 + 1))] [3, 4, 5, 6, 1, 2, 0] rfl ?_
          exact hk75 _ _ _ _ h
theorem s_X11_seen_75 {γ : GE} {p : Program} {l : Launch} {e : Env} {s : State} {m : MethodId} {args : Array Value} {below : List Frame} {meth : Method} {c : Code} {S : SH} {X : (Int32 × Mem)} (F : FX γ p s m args meth c cX11_seen RX11 7) (hr : meth.sig.returnType = (some .int)) (a0 : Nat) (a1 : Int32) (a2 : Int32) (a3 : Int32) (x75_4 : Int32) (x75_5 : Int32) (x75_6 : Int32) (ν : Mem) (h : lpN (l_X11_seen_75 S a0 a1 a2 a3) fu (x75_4, x75_5, x75_6, ν) = some X) : JJ γ p l e rm_X11_seen s m args below meth c 7 0 0 (QI below γ S X args s 0 0) S ν 75 [(0, .ref (gb γ + a0)), (1, .int a1), (2, .int a2), (3, .int a3), (4, .int x75_4), (5, .int x75_5), (6, .int x75_6)] [] :=
 lpN_sound (fun x => JJ γ p l e rm_X11_seen s m args below meth c 7 0 0 (QI below γ S X args s 0 0) S x.2.2.2 75 [(0, .ref (gb γ + a0)), (1, .int a1), (2, .int a2), (3, .int a3), (4, .int x.1), (5, .int x.2.1), (6, .int x.2.2.1)] []) (fun k75 hk75 x h => t_X11_seen_75 F hr a0 a1 a2 a3 k75 (fun x75_4 x75_5 x75_6 ν h => hk75 (x75_4, x75_5, x75_6, ν) h) x h) fu (x75_4, x75_5, x75_6, ν) h
def f_X11_seen (S : SH) (a0 : Nat) (a1 : Int32) (a2 : Int32) (a3 : Int32) (μ : Mem) : Option (Int32 × Mem) :=
  if isO S 11 a0 = true then
  (f_X11_isList S a1 μ).bind fun q1 =>
  (if q1.1 = 0 then
  some ((-1), q1.2)
  else
  (f_X11_within S a3 0 1 q1.2).bind fun q2 =>
  (if q2.1 = 0 then
  some ((-1), q2.2)
  else
  (gR S 11 a0 10).bind fun v3 =>
  (f_X8_holds S v3 a1 q2.2).bind fun q4 =>
  (if q4.1 = 0 then
  some ((-11), q4.2)
  else
  (if a2 < 0 then
  some ((-13), q4.2)
  else
  (gR S 11 a0 10).bind fun v5 =>
  (gR S 8 v5 1).bind fun v6 =>
  (aI S .int v6 a1 q4.2).bind fun v7 =>
  (if a2 ≤ (v7 - 4) then
  (gR S 11 a0 2).bind fun v8 =>
  (gR S 11 a0 0).bind fun v9 =>
  (f_X2_become S v8 v9 q4.2).bind fun q10 =>
  lpN (l_X11_seen_75 S  a0 a1 a2 a3) fu (0, (-5), 0, q10.2)
  else
  some ((-13), q4.2))))))
  else none
set_option maxRecDepth 100000 in
set_option maxHeartbeats 4000000 in
theorem c_X11_seen {l : Launch} {γ : GE} {S : SH} {a0 : Nat} {a1 : Int32} {a2 : Int32} {a3 : Int32} {μ : Mem} {X : (Int32 × Mem)} (h : f_X11_seen S a0 a1 a2 a3 μ = some X) : isO S 11 a0 = true ∧ Ct l γ yX11_seen cX11_seen 7 (some .int) rm_X11_seen [.ref (gb γ + a0), .int a1, .int a2, .int a3] S μ S X.2 (some (.int X.1)) := by
  unfold f_X11_seen at h
  obtain ⟨h0, h⟩ := if_some h
  refine ⟨h0, ?_⟩
  have hJ : ∀ (p : Program) (e : Env) (s : State) (m : MethodId) (args : Array Value) (below : List Frame) (meth : Method) (c : Code), FX γ p s m args meth c cX11_seen RX11 7 → meth.sig.returnType = (some .int) → JJ γ p l e rm_X11_seen s m args below meth c 7 0 0 (QI below γ S X args s 0 0) S μ 0 [(0, .ref (gb γ + a0)), (1, .int a1), (2, .int a2), (3, .int a3)] [] := by
    intro p e s m args below meth c F hr
    refine j_iload_n F 1 dX11_seen_0 rfl ?_
    refine j_cSI F mi_X11_isList w_883 (rest := []) h (fun _ g => c_X11_isList g) rfl rfl (Nat.le_of_ble_eq_true rfl) ⟨Nat.le_of_ble_eq_true rfl, Nat.le_of_ble_eq_true rfl⟩ ⟨Nat.le_of_ble_eq_true rfl, Nat.le_of_ble_eq_true rfl⟩ dX11_seen_1 (fun q1 h => ?_)
    refine j_ifeq F 16 dX11_seen_4 (by decide) h (fun _ h => ?_) (fun _ h => ?_)
    · refine j_iconst F (-1) dX11_seen_16 (by decide) ?_
      exact j_iret F hr dX11_seen_17 h
    · refine j_iload_n F 3 dX11_seen_7 rfl ?_
      refine j_iconst F 0 dX11_seen_8 (by decide) ?_
      refine j_iconst F 1 dX11_seen_9 (by decide) ?_
      refine j_cSI F mi_X11_within w_464 (rest := []) h (fun _ g => c_X11_within g) rfl rfl (Nat.le_of_ble_eq_true rfl) ⟨Nat.le_of_ble_eq_true rfl, Nat.le_of_ble_eq_true rfl⟩ ⟨Nat.le_of_ble_eq_true rfl, Nat.le_of_ble_eq_true rfl⟩ dX11_seen_10 (fun q2 h => ?_)
      refine j_ifne F 18 dX11_seen_13 (by decide) h (fun _ h => ?_) (fun _ h => ?_)
      · refine j_aload_n F 0 dX11_seen_18 rfl ?_
        refine j_gR F fl_RX11_72 rfl dX11_seen_19 h (fun v3 h => ?_)
        refine j_iload_n F 1 dX11_seen_22 rfl ?_
        refine j_cVI F mi_X8_holds w_886 (rest := []) h (fun _ g => c_X8_holds g) rfl rfl (Nat.le_of_ble_eq_true rfl) ⟨Nat.le_of_ble_eq_true rfl, Nat.le_of_ble_eq_true rfl⟩ ⟨Nat.le_of_ble_eq_true rfl, Nat.le_of_ble_eq_true rfl⟩ dX11_seen_23 (fun q4 h => ?_)
        refine j_ifne F 32 dX11_seen_26 (by decide) h (fun _ h => ?_) (fun _ h => ?_)
        · refine j_iload_n F 2 dX11_seen_32 rfl ?_
          refine j_iflt F 51 dX11_seen_33 (by decide) h (fun _ h => ?_) (fun _ h => ?_)
          · refine j_bipush F (-13) dX11_seen_51 (by decide) ?_
            exact j_iret F hr dX11_seen_53 h
          · refine j_iload_n F 2 dX11_seen_36 rfl ?_
            refine j_aload_n F 0 dX11_seen_37 rfl ?_
            refine j_gR F fl_RX11_72 rfl dX11_seen_38 h (fun v5 h => ?_)
            refine j_gR F fl_RX11_294 rfl dX11_seen_41 h (fun v6 h => ?_)
            refine j_iload_n F 1 dX11_seen_44 rfl ?_
            refine j_iald F dX11_seen_45 h (fun v7 h => ?_)
            refine j_iconst F 4 dX11_seen_46 (by decide) ?_
            refine j_isub F dX11_seen_47 ?_
            refine j_icmple F 54 dX11_seen_48 (by decide) h (fun _ h => ?_) (fun _ h => ?_)
            · refine j_aload_n F 0 dX11_seen_54 rfl ?_
              refine j_gR F fl_RX11_21 rfl dX11_seen_55 h (fun v8 h => ?_)
              refine j_aload_n F 0 dX11_seen_58 rfl ?_
              refine j_gR F fl_RX11_12 rfl dX11_seen_59 h (fun v9 h => ?_)
              refine j_cVV F mi_X2_become w_673 (rest := []) h (fun _ g => c_X2_become g) rfl rfl (Nat.le_of_ble_eq_true rfl) ⟨Nat.le_of_ble_eq_true rfl, Nat.le_of_ble_eq_true rfl⟩ ⟨Nat.le_of_ble_eq_true rfl, Nat.le_of_ble_eq_true rfl⟩ dX11_seen_62 (fun q10 h => ?_)
              refine j_iconst F 0 dX11_seen_65 (by decide) ?_
              refine j_istore F [(4, .int 0), (0, .ref (gb γ + a0)), (1, .int a1), (2, .int a2), (3, .int a3)] dX11_seen_66 (by decide) rfl ?_
              refine j_bipush F (-5) dX11_seen_68 (by decide) ?_
              refine j_istore F [(5, .int (-5)), (4, .int 0), (0, .ref (gb γ + a0)), (1, .int a1), (2, .int a2), (3, .int a3)] dX11_seen_70 (by decide) rfl ?_
              refine j_iconst F 0 dX11_seen_72 (by decide) ?_
              refine j_istore F [(6, .int 0), (5, .int (-5)), (4, .int 0), (0, .ref (gb γ + a0)), (1, .int a1), (2, .int a2), (3, .int a3)] dX11_seen_73 (by decide) rfl ?_
              refine j_lv [(0, .ref (gb γ + a0)), (1, .int a1), (2, .int a2), (3, .int a3), (4, .int 0), (5, .int (-5)), (6, .int 0)] [3, 4, 5, 6, 2, 1, 0] rfl ?_
              exact s_X11_seen_75 F hr _ _ _ _ _ _ _ _ h
            · refine j_bipush F (-13) dX11_seen_51 (by decide) ?_
              exact j_iret F hr dX11_seen_53 h
        · refine j_bipush F (-11) dX11_seen_29 (by decide) ?_
          exact j_iret F hr dX11_seen_31 h
      · refine j_iconst F (-1) dX11_seen_16 (by decide) ?_
        exact j_iret F hr dX11_seen_17 h
  exact ct_of (by decide +kernel) (Nat.le_of_ble_eq_true rfl) (fun p e s m args below meth c F hr _ => hJ p e s m args below meth c F hr)
def rm_X11_lay : Room := { frames := 5, cells := 0, slots := 0, locals := 113 }
theorem dX11_lay_0 : decode cX11_lay 0 = .ok (.iload_n 1, 1) := by decide +kernel
theorem dX11_lay_1 : decode cX11_lay 1 = .ok (.invokestatic 288, 3) := by decide +kernel
theorem dX11_lay_4 : decode cX11_lay 4 = .ok (.ifCond .ne 5, 3) := by decide +kernel
theorem dX11_lay_7 : decode cX11_lay 7 = .ok (.iconst (-1), 1) := by decide +kernel
theorem dX11_lay_8 : decode cX11_lay 8 = .ok (.ireturn, 1) := by decide +kernel
theorem dX11_lay_9 : decode cX11_lay 9 = .ok (.aload_n 0, 1) := by decide +kernel
theorem dX11_lay_10 : decode cX11_lay 10 = .ok (.getfield 72, 3) := by decide +kernel
theorem dX11_lay_13 : decode cX11_lay 13 = .ok (.iload_n 1, 1) := by decide +kernel
theorem dX11_lay_14 : decode cX11_lay 14 = .ok (.invokevirtual 291, 3) := by decide +kernel
theorem dX11_lay_17 : decode cX11_lay 17 = .ok (.ifCond .ne 6, 3) := by decide +kernel
theorem dX11_lay_20 : decode cX11_lay 20 = .ok (.bipush (-11), 2) := by decide +kernel
theorem dX11_lay_22 : decode cX11_lay 22 = .ok (.ireturn, 1) := by decide +kernel
theorem dX11_lay_23 : decode cX11_lay 23 = .ok (.aload_n 0, 1) := by decide +kernel
theorem dX11_lay_24 : decode cX11_lay 24 = .ok (.getfield 27, 3) := by decide +kernel
theorem dX11_lay_27 : decode cX11_lay 27 = .ok (.aload_n 0, 1) := by decide +kernel
theorem dX11_lay_28 : decode cX11_lay 28 = .ok (.getfield 12, 3) := by decide +kernel
theorem dX11_lay_31 : decode cX11_lay 31 = .ok (.invokevirtual 216, 3) := by decide +kernel
theorem dX11_lay_34 : decode cX11_lay 34 = .ok (.ifCond .ne 6, 3) := by decide +kernel
theorem dX11_lay_37 : decode cX11_lay 37 = .ok (.bipush (-3), 2) := by decide +kernel
theorem dX11_lay_39 : decode cX11_lay 39 = .ok (.ireturn, 1) := by decide +kernel
theorem dX11_lay_40 : decode cX11_lay 40 = .ok (.iload_n 2, 1) := by decide +kernel
theorem dX11_lay_41 : decode cX11_lay 41 = .ok (.ifCond .ge 6, 3) := by decide +kernel
theorem dX11_lay_44 : decode cX11_lay 44 = .ok (.bipush (-13), 2) := by decide +kernel
theorem dX11_lay_46 : decode cX11_lay 46 = .ok (.ireturn, 1) := by decide +kernel
theorem dX11_lay_47 : decode cX11_lay 47 = .ok (.iconst 0, 1) := by decide +kernel
theorem dX11_lay_48 : decode cX11_lay 48 = .ok (.istore_n 3, 1) := by decide +kernel
theorem dX11_lay_49 : decode cX11_lay 49 = .ok (.iload_n 3, 1) := by decide +kernel
theorem dX11_lay_50 : decode cX11_lay 50 = .ok (.iconst 4, 1) := by decide +kernel
theorem dX11_lay_51 : decode cX11_lay 51 = .ok (.if_icmp .ge 48, 3) := by decide +kernel
theorem dX11_lay_54 : decode cX11_lay 54 = .ok (.iload_n 2, 1) := by decide +kernel
theorem dX11_lay_55 : decode cX11_lay 55 = .ok (.aload_n 0, 1) := by decide +kernel
theorem dX11_lay_56 : decode cX11_lay 56 = .ok (.getfield 72, 3) := by decide +kernel
theorem dX11_lay_59 : decode cX11_lay 59 = .ok (.getfield 294, 3) := by decide +kernel
theorem dX11_lay_62 : decode cX11_lay 62 = .ok (.iload_n 1, 1) := by decide +kernel
theorem dX11_lay_63 : decode cX11_lay 63 = .ok (.iaload, 1) := by decide +kernel
theorem dX11_lay_64 : decode cX11_lay 64 = .ok (.iload_n 3, 1) := by decide +kernel
theorem dX11_lay_65 : decode cX11_lay 65 = .ok (.isub, 1) := by decide +kernel
theorem dX11_lay_66 : decode cX11_lay 66 = .ok (.if_icmp .lt 6, 3) := by decide +kernel
theorem dX11_lay_69 : decode cX11_lay 69 = .ok (.bipush (-13), 2) := by decide +kernel
theorem dX11_lay_71 : decode cX11_lay 71 = .ok (.ireturn, 1) := by decide +kernel
theorem dX11_lay_72 : decode cX11_lay 72 = .ok (.aload_n 0, 1) := by decide +kernel
theorem dX11_lay_73 : decode cX11_lay 73 = .ok (.getfield 72, 3) := by decide +kernel
theorem dX11_lay_76 : decode cX11_lay 76 = .ok (.getfield 297, 3) := by decide +kernel
theorem dX11_lay_79 : decode cX11_lay 79 = .ok (.iload_n 1, 1) := by decide +kernel
theorem dX11_lay_80 : decode cX11_lay 80 = .ok (.aaload, 1) := by decide +kernel
theorem dX11_lay_81 : decode cX11_lay 81 = .ok (.iload_n 2, 1) := by decide +kernel
theorem dX11_lay_82 : decode cX11_lay 82 = .ok (.iload_n 3, 1) := by decide +kernel
theorem dX11_lay_83 : decode cX11_lay 83 = .ok (.iadd, 1) := by decide +kernel
theorem dX11_lay_84 : decode cX11_lay 84 = .ok (.aload_n 0, 1) := by decide +kernel
theorem dX11_lay_85 : decode cX11_lay 85 = .ok (.getfield 27, 3) := by decide +kernel
theorem dX11_lay_88 : decode cX11_lay 88 = .ok (.iload_n 3, 1) := by decide +kernel
theorem dX11_lay_89 : decode cX11_lay 89 = .ok (.invokevirtual 305, 3) := by decide +kernel
theorem dX11_lay_92 : decode cX11_lay 92 = .ok (.lastore, 1) := by decide +kernel
theorem dX11_lay_93 : decode cX11_lay 93 = .ok (.iinc 3 1, 3) := by decide +kernel
theorem dX11_lay_96 : decode cX11_lay 96 = .ok (.goto (-47), 3) := by decide +kernel
theorem dX11_lay_99 : decode cX11_lay 99 = .ok (.iconst 4, 1) := by decide +kernel
theorem dX11_lay_100 : decode cX11_lay 100 = .ok (.ireturn, 1) := by decide +kernel
def l_X11_lay_49 (S : SH) (a0 : Nat) (a1 : Int32) (a2 : Int32) (k49 : (Int32 × Mem) → Option (Int32 × Mem)) (x : (Int32 × Mem)) : Option (Int32 × Mem) :=
 (if 4 ≤ x.1 then
 some (4, x.2)
 else
 (gR S 11 a0 10).bind fun v7 =>
 (gR S 8 v7 1).bind fun v8 =>
 (aI S .int v8 a1 x.2).bind fun v9 =>
 (if a2 < (v9 - x.1) then
 (gR S 11 a0 10).bind fun v10 =>
 (gR S 8 v10 0).bind fun v11 =>
 (aR S (.array .long) v11 a1).bind fun v12 =>
 (gR S 11 a0 3).bind fun v13 =>
 (f_X3_wholeShare S v13 x.1 x.2).bind fun q14 =>
 (sL S v12 (a2 + x.1) q14.1 q14.2).bind fun ν15 =>
 k49 (x.1 + 1, ν15)
 else
 some ((-13), x.2)))
set_option maxRecDepth 100000 in
set_option maxHeartbeats 4000000 in
theorem t_X11_lay_49 {γ : GE} {p : Program} {l : Launch} {e : Env} {s : State} {m : MethodId} {args : Array Value} {below : List Frame} {meth : Method} {c : Code} {S : SH} {X : (Int32 × Mem)} (F : FX γ p s m args meth c cX11_lay RX11 4) (hr : meth.sig.returnType = (some .int)) (a0 : Nat) (a1 : Int32) (a2 : Int32) (k49 : (Int32 × Mem) → Option (Int32 × Mem)) (hk49 : ∀ (x49_3 : Int32) (ν : Mem), k49 (x49_3, ν) = some X → JJ γ p l e rm_X11_lay s m args below meth c 4 0 0 (QI below γ S X args s 0 0) S ν 49 [(0, .ref (gb γ + a0)), (1, .int a1), (2, .int a2), (3, .int x49_3)] []) (x : (Int32 × Mem)) (h : l_X11_lay_49 S a0 a1 a2 k49 x = some X) : JJ γ p l e rm_X11_lay s m args below meth c 4 0 0 (QI below γ S X args s 0 0) S x.2 49 [(0, .ref (gb γ + a0)), (1, .int a1), (2, .int a2), (3, .int x.1)] [] := by
  unfold l_X11_lay_49 at h
  refine j_iload_n F 3 dX11_lay_49 rfl ?_
  refine j_iconst F 4 dX11_lay_50 (by decide) ?_
  refine j_icmpge F 99 dX11_lay_51 (by decide) h (fun _ h => ?_) (fun _ h => ?_)
  · refine j_iconst F 4 dX11_lay_99 (by decide) ?_
    exact j_iret F hr dX11_lay_100 h
  · refine j_iload_n F 2 dX11_lay_54 rfl ?_
    refine j_aload_n F 0 dX11_lay_55 rfl ?_
    refine j_gR F fl_RX11_72 rfl dX11_lay_56 h (fun v7 h => ?_)
    refine j_gR F fl_RX11_294 rfl dX11_lay_59 h (fun v8 h => ?_)
    refine j_iload_n F 1 dX11_lay_62 rfl ?_
    refine j_iald F dX11_lay_63 h (fun v9 h => ?_)
    refine j_iload_n F 3 dX11_lay_64 rfl ?_
    refine j_isub F dX11_lay_65 ?_
    refine j_icmplt F 72 dX11_lay_66 (by decide) h (fun _ h => ?_) (fun _ h => ?_)
    · refine j_aload_n F 0 dX11_lay_72 rfl ?_
      refine j_gR F fl_RX11_72 rfl dX11_lay_73 h (fun v10 h => ?_)
      refine j_gR F fl_RX11_297 rfl dX11_lay_76 h (fun v11 h => ?_)
      refine j_iload_n F 1 dX11_lay_79 rfl ?_
      refine j_aald F 5 rfl rfl rfl dX11_lay_80 h (fun v12 h => ?_)
      refine j_iload_n F 2 dX11_lay_81 rfl ?_
      refine j_iload_n F 3 dX11_lay_82 rfl ?_
      refine j_iadd F dX11_lay_83 ?_
      refine j_aload_n F 0 dX11_lay_84 rfl ?_
      refine j_gR F fl_RX11_27 rfl dX11_lay_85 h (fun v13 h => ?_)
      refine j_iload_n F 3 dX11_lay_88 rfl ?_
      refine j_cVJ F mi_X3_wholeShare w_902 (rest := [.int (a2 + x.1), .ref (gb γ + v12)]) h (fun _ g => c_X3_wholeShare g) rfl rfl (Nat.le_of_ble_eq_true rfl) ⟨Nat.le_of_ble_eq_true rfl, Nat.le_of_ble_eq_true rfl⟩ ⟨Nat.le_of_ble_eq_true rfl, Nat.le_of_ble_eq_true rfl⟩ dX11_lay_89 (fun q14 h => ?_)
      refine j_last F dX11_lay_92 h (fun ν15 h => ?_)
      refine j_iinc F 1 3 [(3, .int (x.1 + 1)), (0, .ref (gb γ + a0)), (1, .int a1), (2, .int a2)] dX11_lay_93 rfl (by decide) (by decide) rfl ?_
      refine j_goto F 49 dX11_lay_96 (by decide) ?_
      refine j_lv [(0, .ref (gb γ + a0)), (1, .int a1), (2, .int a2), (3, .int (x.1 + 1))] [1, 2, 3, 0] rfl ?_
      exact hk49 _ _ h
    · refine j_bipush F (-13) dX11_lay_69 (by decide) ?_
      exact j_iret F hr dX11_lay_71 h
theorem s_X11_lay_49 {γ : GE} {p : Program} {l : Launch} {e : Env} {s : State} {m : MethodId} {args : Array Value} {below : List Frame} {meth : Method} {c : Code} {S : SH} {X : (Int32 × Mem)} (F : FX γ p s m args meth c cX11_lay RX11 4) (hr : meth.sig.returnType = (some .int)) (a0 : Nat) (a1 : Int32) (a2 : Int32) (x49_3 : Int32) (ν : Mem) (h : lpN (l_X11_lay_49 S a0 a1 a2) fu (x49_3, ν) = some X) : JJ γ p l e rm_X11_lay s m args below meth c 4 0 0 (QI below γ S X args s 0 0) S ν 49 [(0, .ref (gb γ + a0)), (1, .int a1), (2, .int a2), (3, .int x49_3)] [] :=
 lpN_sound (fun x => JJ γ p l e rm_X11_lay s m args below meth c 4 0 0 (QI below γ S X args s 0 0) S x.2 49 [(0, .ref (gb γ + a0)), (1, .int a1), (2, .int a2), (3, .int x.1)] []) (fun k49 hk49 x h => t_X11_lay_49 F hr a0 a1 a2 k49 (fun x49_3 ν h => hk49 (x49_3, ν) h) x h) fu (x49_3, ν) h
def f_X11_lay (S : SH) (a0 : Nat) (a1 : Int32) (a2 : Int32) (μ : Mem) : Option (Int32 × Mem) :=
  if isO S 11 a0 = true then
  (f_X11_isList S a1 μ).bind fun q1 =>
  (if q1.1 = 0 then
  some ((-1), q1.2)
  else
  (gR S 11 a0 10).bind fun v2 =>
  (f_X8_holds S v2 a1 q1.2).bind fun q3 =>
  (if q3.1 = 0 then
  some ((-11), q3.2)
  else
  (gR S 11 a0 3).bind fun v4 =>
  (gR S 11 a0 0).bind fun v5 =>
  (f_X3_finds S v4 v5 q3.2).bind fun q6 =>
  (if q6.1 = 0 then
  some ((-3), q6.2)
  else
  (if 0 ≤ a2 then
  lpN (l_X11_lay_49 S  a0 a1 a2) fu (0, q6.2)
  else
  some ((-13), q6.2)))))
  else none
set_option maxRecDepth 100000 in
set_option maxHeartbeats 4000000 in
theorem c_X11_lay {l : Launch} {γ : GE} {S : SH} {a0 : Nat} {a1 : Int32} {a2 : Int32} {μ : Mem} {X : (Int32 × Mem)} (h : f_X11_lay S a0 a1 a2 μ = some X) : isO S 11 a0 = true ∧ Ct l γ yX11_lay cX11_lay 4 (some .int) rm_X11_lay [.ref (gb γ + a0), .int a1, .int a2] S μ S X.2 (some (.int X.1)) := by
  unfold f_X11_lay at h
  obtain ⟨h0, h⟩ := if_some h
  refine ⟨h0, ?_⟩
  have hJ : ∀ (p : Program) (e : Env) (s : State) (m : MethodId) (args : Array Value) (below : List Frame) (meth : Method) (c : Code), FX γ p s m args meth c cX11_lay RX11 4 → meth.sig.returnType = (some .int) → JJ γ p l e rm_X11_lay s m args below meth c 4 0 0 (QI below γ S X args s 0 0) S μ 0 [(0, .ref (gb γ + a0)), (1, .int a1), (2, .int a2)] [] := by
    intro p e s m args below meth c F hr
    refine j_iload_n F 1 dX11_lay_0 rfl ?_
    refine j_cSI F mi_X11_isList w_883 (rest := []) h (fun _ g => c_X11_isList g) rfl rfl (Nat.le_of_ble_eq_true rfl) ⟨Nat.le_of_ble_eq_true rfl, Nat.le_of_ble_eq_true rfl⟩ ⟨Nat.le_of_ble_eq_true rfl, Nat.le_of_ble_eq_true rfl⟩ dX11_lay_1 (fun q1 h => ?_)
    refine j_ifne F 9 dX11_lay_4 (by decide) h (fun _ h => ?_) (fun _ h => ?_)
    · refine j_aload_n F 0 dX11_lay_9 rfl ?_
      refine j_gR F fl_RX11_72 rfl dX11_lay_10 h (fun v2 h => ?_)
      refine j_iload_n F 1 dX11_lay_13 rfl ?_
      refine j_cVI F mi_X8_holds w_886 (rest := []) h (fun _ g => c_X8_holds g) rfl rfl (Nat.le_of_ble_eq_true rfl) ⟨Nat.le_of_ble_eq_true rfl, Nat.le_of_ble_eq_true rfl⟩ ⟨Nat.le_of_ble_eq_true rfl, Nat.le_of_ble_eq_true rfl⟩ dX11_lay_14 (fun q3 h => ?_)
      refine j_ifne F 23 dX11_lay_17 (by decide) h (fun _ h => ?_) (fun _ h => ?_)
      · refine j_aload_n F 0 dX11_lay_23 rfl ?_
        refine j_gR F fl_RX11_27 rfl dX11_lay_24 h (fun v4 h => ?_)
        refine j_aload_n F 0 dX11_lay_27 rfl ?_
        refine j_gR F fl_RX11_12 rfl dX11_lay_28 h (fun v5 h => ?_)
        refine j_cVI F mi_X3_finds w_620 (rest := []) h (fun _ g => c_X3_finds g) rfl rfl (Nat.le_of_ble_eq_true rfl) ⟨Nat.le_of_ble_eq_true rfl, Nat.le_of_ble_eq_true rfl⟩ ⟨Nat.le_of_ble_eq_true rfl, Nat.le_of_ble_eq_true rfl⟩ dX11_lay_31 (fun q6 h => ?_)
        refine j_ifne F 40 dX11_lay_34 (by decide) h (fun _ h => ?_) (fun _ h => ?_)
        · refine j_iload_n F 2 dX11_lay_40 rfl ?_
          refine j_ifge F 47 dX11_lay_41 (by decide) h (fun _ h => ?_) (fun _ h => ?_)
          · refine j_iconst F 0 dX11_lay_47 (by decide) ?_
            refine j_istore_n F [(3, .int 0), (0, .ref (gb γ + a0)), (1, .int a1), (2, .int a2)] dX11_lay_48 rfl (by decide) rfl ?_
            refine j_lv [(0, .ref (gb γ + a0)), (1, .int a1), (2, .int a2), (3, .int 0)] [1, 2, 3, 0] rfl ?_
            exact s_X11_lay_49 F hr _ _ _ _ _ h
          · refine j_bipush F (-13) dX11_lay_44 (by decide) ?_
            exact j_iret F hr dX11_lay_46 h
        · refine j_bipush F (-3) dX11_lay_37 (by decide) ?_
          exact j_iret F hr dX11_lay_39 h
      · refine j_bipush F (-11) dX11_lay_20 (by decide) ?_
        exact j_iret F hr dX11_lay_22 h
    · refine j_iconst F (-1) dX11_lay_7 (by decide) ?_
      exact j_iret F hr dX11_lay_8 h
  exact ct_of (by decide +kernel) (Nat.le_of_ble_eq_true rfl) (fun p e s m args below meth c F hr _ => hJ p e s m args below meth c F hr)
def rm_X11_book : Room := { frames := 3, cells := 0, slots := 0, locals := 103 }
theorem dX11_book_0 : decode cX11_book 0 = .ok (.aload_n 0, 1) := by decide +kernel
theorem dX11_book_1 : decode cX11_book 1 = .ok (.getfield 65, 3) := by decide +kernel
theorem dX11_book_4 : decode cX11_book 4 = .ok (.aload_n 0, 1) := by decide +kernel
theorem dX11_book_5 : decode cX11_book 5 = .ok (.getfield 12, 3) := by decide +kernel
theorem dX11_book_8 : decode cX11_book 8 = .ok (.getfield 136, 3) := by decide +kernel
theorem dX11_book_11 : decode cX11_book 11 = .ok (.iconst 3, 1) := by decide +kernel
theorem dX11_book_12 : decode cX11_book 12 = .ok (.iaload, 1) := by decide +kernel
theorem dX11_book_13 : decode cX11_book 13 = .ok (.aload_n 0, 1) := by decide +kernel
theorem dX11_book_14 : decode cX11_book 14 = .ok (.getfield 12, 3) := by decide +kernel
theorem dX11_book_17 : decode cX11_book 17 = .ok (.getfield 136, 3) := by decide +kernel
theorem dX11_book_20 : decode cX11_book 20 = .ok (.iconst 0, 1) := by decide +kernel
theorem dX11_book_21 : decode cX11_book 21 = .ok (.iaload, 1) := by decide +kernel
theorem dX11_book_22 : decode cX11_book 22 = .ok (.aload_n 0, 1) := by decide +kernel
theorem dX11_book_23 : decode cX11_book 23 = .ok (.getfield 12, 3) := by decide +kernel
theorem dX11_book_26 : decode cX11_book 26 = .ok (.getfield 136, 3) := by decide +kernel
theorem dX11_book_29 : decode cX11_book 29 = .ok (.iconst 1, 1) := by decide +kernel
theorem dX11_book_30 : decode cX11_book 30 = .ok (.iaload, 1) := by decide +kernel
theorem dX11_book_31 : decode cX11_book 31 = .ok (.invokevirtual 309, 3) := by decide +kernel
theorem dX11_book_34 : decode cX11_book 34 = .ok (.ireturn, 1) := by decide +kernel
def f_X11_book (S : SH) (a0 : Nat) (μ : Mem) : Option (Int32 × Mem) :=
  if isO S 11 a0 = true then
  (gR S 11 a0 9).bind fun v1 =>
  (gR S 11 a0 0).bind fun v2 =>
  (gR S 2 v2 3).bind fun v3 =>
  (aI S .int v3 3 μ).bind fun v4 =>
  (gR S 11 a0 0).bind fun v5 =>
  (gR S 2 v5 3).bind fun v6 =>
  (aI S .int v6 0 μ).bind fun v7 =>
  (gR S 11 a0 0).bind fun v8 =>
  (gR S 2 v8 3).bind fun v9 =>
  (aI S .int v9 1 μ).bind fun v10 =>
  (f_X0_keep S v1 v4 v7 v10 μ).bind fun q11 =>
  some (q11.1, q11.2)
  else none
set_option maxRecDepth 100000 in
set_option maxHeartbeats 4000000 in
theorem c_X11_book {l : Launch} {γ : GE} {S : SH} {a0 : Nat} {μ : Mem} {X : (Int32 × Mem)} (h : f_X11_book S a0 μ = some X) : isO S 11 a0 = true ∧ Ct l γ yX11_book cX11_book 1 (some .int) rm_X11_book [.ref (gb γ + a0)] S μ S X.2 (some (.int X.1)) := by
  unfold f_X11_book at h
  obtain ⟨h0, h⟩ := if_some h
  refine ⟨h0, ?_⟩
  have hJ : ∀ (p : Program) (e : Env) (s : State) (m : MethodId) (args : Array Value) (below : List Frame) (meth : Method) (c : Code), FX γ p s m args meth c cX11_book RX11 1 → meth.sig.returnType = (some .int) → JJ γ p l e rm_X11_book s m args below meth c 1 0 0 (QI below γ S X args s 0 0) S μ 0 [(0, .ref (gb γ + a0))] [] := by
    intro p e s m args below meth c F hr
    refine j_aload_n F 0 dX11_book_0 rfl ?_
    refine j_gR F fl_RX11_65 rfl dX11_book_1 h (fun v1 h => ?_)
    refine j_aload_n F 0 dX11_book_4 rfl ?_
    refine j_gR F fl_RX11_12 rfl dX11_book_5 h (fun v2 h => ?_)
    refine j_gR F fl_RX11_136 rfl dX11_book_8 h (fun v3 h => ?_)
    refine j_iconst F 3 dX11_book_11 (by decide) ?_
    refine j_iald F dX11_book_12 h (fun v4 h => ?_)
    refine j_aload_n F 0 dX11_book_13 rfl ?_
    refine j_gR F fl_RX11_12 rfl dX11_book_14 h (fun v5 h => ?_)
    refine j_gR F fl_RX11_136 rfl dX11_book_17 h (fun v6 h => ?_)
    refine j_iconst F 0 dX11_book_20 (by decide) ?_
    refine j_iald F dX11_book_21 h (fun v7 h => ?_)
    refine j_aload_n F 0 dX11_book_22 rfl ?_
    refine j_gR F fl_RX11_12 rfl dX11_book_23 h (fun v8 h => ?_)
    refine j_gR F fl_RX11_136 rfl dX11_book_26 h (fun v9 h => ?_)
    refine j_iconst F 1 dX11_book_29 (by decide) ?_
    refine j_iald F dX11_book_30 h (fun v10 h => ?_)
    refine j_cVI F mi_X0_keep w_907 (rest := []) h (fun _ g => c_X0_keep g) rfl rfl (Nat.le_of_ble_eq_true rfl) ⟨Nat.le_of_ble_eq_true rfl, Nat.le_of_ble_eq_true rfl⟩ ⟨Nat.le_of_ble_eq_true rfl, Nat.le_of_ble_eq_true rfl⟩ dX11_book_31 (fun q11 h => ?_)
    exact j_iret F hr dX11_book_34 h
  exact ct_of (by decide +kernel) (Nat.le_of_ble_eq_true rfl) (fun p e s m args below meth c F hr _ => hJ p e s m args below meth c F hr)
def rm_X11_mayBeAsBooked : Room := { frames := 4, cells := 0, slots := 0, locals := 104 }
theorem dX11_mayBeAsBooked_0 : decode cX11_mayBeAsBooked 0 = .ok (.aload_n 0, 1) := by decide +kernel
theorem dX11_mayBeAsBooked_1 : decode cX11_mayBeAsBooked 1 = .ok (.getfield 21, 3) := by decide +kernel
theorem dX11_mayBeAsBooked_4 : decode cX11_mayBeAsBooked 4 = .ok (.aload_n 0, 1) := by decide +kernel
theorem dX11_mayBeAsBooked_5 : decode cX11_mayBeAsBooked 5 = .ok (.getfield 12, 3) := by decide +kernel
theorem dX11_mayBeAsBooked_8 : decode cX11_mayBeAsBooked 8 = .ok (.invokevirtual 234, 3) := by decide +kernel
theorem dX11_mayBeAsBooked_11 : decode cX11_mayBeAsBooked 11 = .ok (.aload_n 0, 1) := by decide +kernel
theorem dX11_mayBeAsBooked_12 : decode cX11_mayBeAsBooked 12 = .ok (.getfield 21, 3) := by decide +kernel
theorem dX11_mayBeAsBooked_15 : decode cX11_mayBeAsBooked 15 = .ok (.getfield 136, 3) := by decide +kernel
theorem dX11_mayBeAsBooked_18 : decode cX11_mayBeAsBooked 18 = .ok (.iconst 3, 1) := by decide +kernel
theorem dX11_mayBeAsBooked_19 : decode cX11_mayBeAsBooked 19 = .ok (.aload_n 0, 1) := by decide +kernel
theorem dX11_mayBeAsBooked_20 : decode cX11_mayBeAsBooked 20 = .ok (.getfield 65, 3) := by decide +kernel
theorem dX11_mayBeAsBooked_23 : decode cX11_mayBeAsBooked 23 = .ok (.getfield 314, 3) := by decide +kernel
theorem dX11_mayBeAsBooked_26 : decode cX11_mayBeAsBooked 26 = .ok (.iload_n 1, 1) := by decide +kernel
theorem dX11_mayBeAsBooked_27 : decode cX11_mayBeAsBooked 27 = .ok (.iaload, 1) := by decide +kernel
theorem dX11_mayBeAsBooked_28 : decode cX11_mayBeAsBooked 28 = .ok (.iastore, 1) := by decide +kernel
theorem dX11_mayBeAsBooked_29 : decode cX11_mayBeAsBooked 29 = .ok (.aload_n 0, 1) := by decide +kernel
theorem dX11_mayBeAsBooked_30 : decode cX11_mayBeAsBooked 30 = .ok (.getfield 21, 3) := by decide +kernel
theorem dX11_mayBeAsBooked_33 : decode cX11_mayBeAsBooked 33 = .ok (.getfield 136, 3) := by decide +kernel
theorem dX11_mayBeAsBooked_36 : decode cX11_mayBeAsBooked 36 = .ok (.iconst 0, 1) := by decide +kernel
theorem dX11_mayBeAsBooked_37 : decode cX11_mayBeAsBooked 37 = .ok (.aload_n 0, 1) := by decide +kernel
theorem dX11_mayBeAsBooked_38 : decode cX11_mayBeAsBooked 38 = .ok (.getfield 65, 3) := by decide +kernel
theorem dX11_mayBeAsBooked_41 : decode cX11_mayBeAsBooked 41 = .ok (.getfield 317, 3) := by decide +kernel
theorem dX11_mayBeAsBooked_44 : decode cX11_mayBeAsBooked 44 = .ok (.iload_n 1, 1) := by decide +kernel
theorem dX11_mayBeAsBooked_45 : decode cX11_mayBeAsBooked 45 = .ok (.iaload, 1) := by decide +kernel
theorem dX11_mayBeAsBooked_46 : decode cX11_mayBeAsBooked 46 = .ok (.iastore, 1) := by decide +kernel
theorem dX11_mayBeAsBooked_47 : decode cX11_mayBeAsBooked 47 = .ok (.aload_n 0, 1) := by decide +kernel
theorem dX11_mayBeAsBooked_48 : decode cX11_mayBeAsBooked 48 = .ok (.getfield 21, 3) := by decide +kernel
theorem dX11_mayBeAsBooked_51 : decode cX11_mayBeAsBooked 51 = .ok (.getfield 136, 3) := by decide +kernel
theorem dX11_mayBeAsBooked_54 : decode cX11_mayBeAsBooked 54 = .ok (.iconst 1, 1) := by decide +kernel
theorem dX11_mayBeAsBooked_55 : decode cX11_mayBeAsBooked 55 = .ok (.aload_n 0, 1) := by decide +kernel
theorem dX11_mayBeAsBooked_56 : decode cX11_mayBeAsBooked 56 = .ok (.getfield 65, 3) := by decide +kernel
theorem dX11_mayBeAsBooked_59 : decode cX11_mayBeAsBooked 59 = .ok (.getfield 320, 3) := by decide +kernel
theorem dX11_mayBeAsBooked_62 : decode cX11_mayBeAsBooked 62 = .ok (.iload_n 1, 1) := by decide +kernel
theorem dX11_mayBeAsBooked_63 : decode cX11_mayBeAsBooked 63 = .ok (.iaload, 1) := by decide +kernel
theorem dX11_mayBeAsBooked_64 : decode cX11_mayBeAsBooked 64 = .ok (.iastore, 1) := by decide +kernel
theorem dX11_mayBeAsBooked_65 : decode cX11_mayBeAsBooked 65 = .ok (.aload_n 0, 1) := by decide +kernel
theorem dX11_mayBeAsBooked_66 : decode cX11_mayBeAsBooked 66 = .ok (.getfield 27, 3) := by decide +kernel
theorem dX11_mayBeAsBooked_69 : decode cX11_mayBeAsBooked 69 = .ok (.aload_n 0, 1) := by decide +kernel
theorem dX11_mayBeAsBooked_70 : decode cX11_mayBeAsBooked 70 = .ok (.getfield 21, 3) := by decide +kernel
theorem dX11_mayBeAsBooked_73 : decode cX11_mayBeAsBooked 73 = .ok (.invokevirtual 230, 3) := by decide +kernel
theorem dX11_mayBeAsBooked_76 : decode cX11_mayBeAsBooked 76 = .ok (.ifCond .ne 7, 3) := by decide +kernel
theorem dX11_mayBeAsBooked_79 : decode cX11_mayBeAsBooked 79 = .ok (.iconst 1, 1) := by decide +kernel
theorem dX11_mayBeAsBooked_80 : decode cX11_mayBeAsBooked 80 = .ok (.goto 4, 3) := by decide +kernel
theorem dX11_mayBeAsBooked_83 : decode cX11_mayBeAsBooked 83 = .ok (.iconst 0, 1) := by decide +kernel
theorem dX11_mayBeAsBooked_84 : decode cX11_mayBeAsBooked 84 = .ok (.ireturn, 1) := by decide +kernel
def f_X11_mayBeAsBooked (S : SH) (a0 : Nat) (a1 : Int32) (μ : Mem) : Option (Int32 × Mem) :=
  if isO S 11 a0 = true then
  (gR S 11 a0 2).bind fun v1 =>
  (gR S 11 a0 0).bind fun v2 =>
  (f_X2_become S v1 v2 μ).bind fun q3 =>
  (gR S 11 a0 2).bind fun v4 =>
  (gR S 2 v4 3).bind fun v5 =>
  (gR S 11 a0 9).bind fun v6 =>
  (gR S 0 v6 0).bind fun v7 =>
  (aI S .int v7 a1 q3.2).bind fun v8 =>
  (sI S v5 3 v8 q3.2).bind fun ν9 =>
  (gR S 11 a0 2).bind fun v10 =>
  (gR S 2 v10 3).bind fun v11 =>
  (gR S 11 a0 9).bind fun v12 =>
  (gR S 0 v12 1).bind fun v13 =>
  (aI S .int v13 a1 ν9).bind fun v14 =>
  (sI S v11 0 v14 ν9).bind fun ν15 =>
  (gR S 11 a0 2).bind fun v16 =>
  (gR S 2 v16 3).bind fun v17 =>
  (gR S 11 a0 9).bind fun v18 =>
  (gR S 0 v18 2).bind fun v19 =>
  (aI S .int v19 a1 ν15).bind fun v20 =>
  (sI S v17 1 v20 ν15).bind fun ν21 =>
  (gR S 11 a0 3).bind fun v22 =>
  (gR S 11 a0 2).bind fun v23 =>
  (f_X3_verdict S v22 v23 ν21).bind fun q24 =>
  (if q24.1 = 0 then
  some (1, q24.2)
  else
  some (0, q24.2))
  else none
set_option maxRecDepth 100000 in
set_option maxHeartbeats 4000000 in
theorem c_X11_mayBeAsBooked {l : Launch} {γ : GE} {S : SH} {a0 : Nat} {a1 : Int32} {μ : Mem} {X : (Int32 × Mem)} (h : f_X11_mayBeAsBooked S a0 a1 μ = some X) : isO S 11 a0 = true ∧ Ct l γ yX11_mayBeAsBooked cX11_mayBeAsBooked 2 (some .boolean) rm_X11_mayBeAsBooked [.ref (gb γ + a0), .int a1] S μ S X.2 (some (.int X.1)) := by
  unfold f_X11_mayBeAsBooked at h
  obtain ⟨h0, h⟩ := if_some h
  refine ⟨h0, ?_⟩
  have hJ : ∀ (p : Program) (e : Env) (s : State) (m : MethodId) (args : Array Value) (below : List Frame) (meth : Method) (c : Code), FX γ p s m args meth c cX11_mayBeAsBooked RX11 2 → meth.sig.returnType = (some .boolean) → JJ γ p l e rm_X11_mayBeAsBooked s m args below meth c 2 0 0 (QI below γ S X args s 0 0) S μ 0 [(0, .ref (gb γ + a0)), (1, .int a1)] [] := by
    intro p e s m args below meth c F hr
    refine j_aload_n F 0 dX11_mayBeAsBooked_0 rfl ?_
    refine j_gR F fl_RX11_21 rfl dX11_mayBeAsBooked_1 h (fun v1 h => ?_)
    refine j_aload_n F 0 dX11_mayBeAsBooked_4 rfl ?_
    refine j_gR F fl_RX11_12 rfl dX11_mayBeAsBooked_5 h (fun v2 h => ?_)
    refine j_cVV F mi_X2_become w_673 (rest := []) h (fun _ g => c_X2_become g) rfl rfl (Nat.le_of_ble_eq_true rfl) ⟨Nat.le_of_ble_eq_true rfl, Nat.le_of_ble_eq_true rfl⟩ ⟨Nat.le_of_ble_eq_true rfl, Nat.le_of_ble_eq_true rfl⟩ dX11_mayBeAsBooked_8 (fun q3 h => ?_)
    refine j_aload_n F 0 dX11_mayBeAsBooked_11 rfl ?_
    refine j_gR F fl_RX11_21 rfl dX11_mayBeAsBooked_12 h (fun v4 h => ?_)
    refine j_gR F fl_RX11_136 rfl dX11_mayBeAsBooked_15 h (fun v5 h => ?_)
    refine j_iconst F 3 dX11_mayBeAsBooked_18 (by decide) ?_
    refine j_aload_n F 0 dX11_mayBeAsBooked_19 rfl ?_
    refine j_gR F fl_RX11_65 rfl dX11_mayBeAsBooked_20 h (fun v6 h => ?_)
    refine j_gR F fl_RX11_314 rfl dX11_mayBeAsBooked_23 h (fun v7 h => ?_)
    refine j_iload_n F 1 dX11_mayBeAsBooked_26 rfl ?_
    refine j_iald F dX11_mayBeAsBooked_27 h (fun v8 h => ?_)
    refine j_iast F dX11_mayBeAsBooked_28 h (fun ν9 h => ?_)
    refine j_aload_n F 0 dX11_mayBeAsBooked_29 rfl ?_
    refine j_gR F fl_RX11_21 rfl dX11_mayBeAsBooked_30 h (fun v10 h => ?_)
    refine j_gR F fl_RX11_136 rfl dX11_mayBeAsBooked_33 h (fun v11 h => ?_)
    refine j_iconst F 0 dX11_mayBeAsBooked_36 (by decide) ?_
    refine j_aload_n F 0 dX11_mayBeAsBooked_37 rfl ?_
    refine j_gR F fl_RX11_65 rfl dX11_mayBeAsBooked_38 h (fun v12 h => ?_)
    refine j_gR F fl_RX11_317 rfl dX11_mayBeAsBooked_41 h (fun v13 h => ?_)
    refine j_iload_n F 1 dX11_mayBeAsBooked_44 rfl ?_
    refine j_iald F dX11_mayBeAsBooked_45 h (fun v14 h => ?_)
    refine j_iast F dX11_mayBeAsBooked_46 h (fun ν15 h => ?_)
    refine j_aload_n F 0 dX11_mayBeAsBooked_47 rfl ?_
    refine j_gR F fl_RX11_21 rfl dX11_mayBeAsBooked_48 h (fun v16 h => ?_)
    refine j_gR F fl_RX11_136 rfl dX11_mayBeAsBooked_51 h (fun v17 h => ?_)
    refine j_iconst F 1 dX11_mayBeAsBooked_54 (by decide) ?_
    refine j_aload_n F 0 dX11_mayBeAsBooked_55 rfl ?_
    refine j_gR F fl_RX11_65 rfl dX11_mayBeAsBooked_56 h (fun v18 h => ?_)
    refine j_gR F fl_RX11_320 rfl dX11_mayBeAsBooked_59 h (fun v19 h => ?_)
    refine j_iload_n F 1 dX11_mayBeAsBooked_62 rfl ?_
    refine j_iald F dX11_mayBeAsBooked_63 h (fun v20 h => ?_)
    refine j_iast F dX11_mayBeAsBooked_64 h (fun ν21 h => ?_)
    refine j_aload_n F 0 dX11_mayBeAsBooked_65 rfl ?_
    refine j_gR F fl_RX11_27 rfl dX11_mayBeAsBooked_66 h (fun v22 h => ?_)
    refine j_aload_n F 0 dX11_mayBeAsBooked_69 rfl ?_
    refine j_gR F fl_RX11_21 rfl dX11_mayBeAsBooked_70 h (fun v23 h => ?_)
    refine j_cVI F mi_X3_verdict w_668 (rest := []) h (fun _ g => c_X3_verdict g) rfl rfl (Nat.le_of_ble_eq_true rfl) ⟨Nat.le_of_ble_eq_true rfl, Nat.le_of_ble_eq_true rfl⟩ ⟨Nat.le_of_ble_eq_true rfl, Nat.le_of_ble_eq_true rfl⟩ dX11_mayBeAsBooked_73 (fun q24 h => ?_)
    refine j_ifne F 83 dX11_mayBeAsBooked_76 (by decide) h (fun _ h => ?_) (fun _ h => ?_)
    · refine j_iconst F 0 dX11_mayBeAsBooked_83 (by decide) ?_
      exact j_zret F hr (Or.inl rfl) dX11_mayBeAsBooked_84 h
    · refine j_iconst F 1 dX11_mayBeAsBooked_79 (by decide) ?_
      refine j_goto F 84 dX11_mayBeAsBooked_80 (by decide) ?_
      exact j_zret F hr (Or.inr rfl) dX11_mayBeAsBooked_84 h
  exact ct_of (by decide +kernel) (Nat.le_of_ble_eq_true rfl) (fun p e s m args below meth c F hr _ => hJ p e s m args below meth c F hr)
def rm_X11_booked : Room := { frames := 5, cells := 0, slots := 0, locals := 125 }
theorem dX11_booked_0 : decode cX11_booked 0 = .ok (.iload_n 1, 1) := by decide +kernel
theorem dX11_booked_1 : decode cX11_booked 1 = .ok (.ifCond .lt 14, 3) := by decide +kernel
theorem dX11_booked_4 : decode cX11_booked 4 = .ok (.iload_n 1, 1) := by decide +kernel
theorem dX11_booked_5 : decode cX11_booked 5 = .ok (.aload_n 0, 1) := by decide +kernel
theorem dX11_booked_6 : decode cX11_booked 6 = .ok (.getfield 65, 3) := by decide +kernel
theorem dX11_booked_9 : decode cX11_booked 9 = .ok (.getfield 313, 3) := by decide +kernel
theorem dX11_booked_12 : decode cX11_booked 12 = .ok (.if_icmp .lt 5, 3) := by decide +kernel
theorem dX11_booked_15 : decode cX11_booked 15 = .ok (.iconst (-1), 1) := by decide +kernel
theorem dX11_booked_16 : decode cX11_booked 16 = .ok (.ireturn, 1) := by decide +kernel
theorem dX11_booked_17 : decode cX11_booked 17 = .ok (.iload_n 2, 1) := by decide +kernel
theorem dX11_booked_18 : decode cX11_booked 18 = .ok (.tableswitch 74 0 3 #[30, 40, 50, 60], 30) := by decide +kernel
theorem dX11_booked_48 : decode cX11_booked 48 = .ok (.aload_n 0, 1) := by decide +kernel
theorem dX11_booked_49 : decode cX11_booked 49 = .ok (.getfield 65, 3) := by decide +kernel
theorem dX11_booked_52 : decode cX11_booked 52 = .ok (.getfield 314, 3) := by decide +kernel
theorem dX11_booked_55 : decode cX11_booked 55 = .ok (.iload_n 1, 1) := by decide +kernel
theorem dX11_booked_56 : decode cX11_booked 56 = .ok (.iaload, 1) := by decide +kernel
theorem dX11_booked_57 : decode cX11_booked 57 = .ok (.ireturn, 1) := by decide +kernel
theorem dX11_booked_58 : decode cX11_booked 58 = .ok (.aload_n 0, 1) := by decide +kernel
theorem dX11_booked_59 : decode cX11_booked 59 = .ok (.getfield 65, 3) := by decide +kernel
theorem dX11_booked_62 : decode cX11_booked 62 = .ok (.getfield 317, 3) := by decide +kernel
theorem dX11_booked_65 : decode cX11_booked 65 = .ok (.iload_n 1, 1) := by decide +kernel
theorem dX11_booked_66 : decode cX11_booked 66 = .ok (.iaload, 1) := by decide +kernel
theorem dX11_booked_67 : decode cX11_booked 67 = .ok (.ireturn, 1) := by decide +kernel
theorem dX11_booked_68 : decode cX11_booked 68 = .ok (.aload_n 0, 1) := by decide +kernel
theorem dX11_booked_69 : decode cX11_booked 69 = .ok (.getfield 65, 3) := by decide +kernel
theorem dX11_booked_72 : decode cX11_booked 72 = .ok (.getfield 320, 3) := by decide +kernel
theorem dX11_booked_75 : decode cX11_booked 75 = .ok (.iload_n 1, 1) := by decide +kernel
theorem dX11_booked_76 : decode cX11_booked 76 = .ok (.iaload, 1) := by decide +kernel
theorem dX11_booked_77 : decode cX11_booked 77 = .ok (.ireturn, 1) := by decide +kernel
theorem dX11_booked_78 : decode cX11_booked 78 = .ok (.aload_n 0, 1) := by decide +kernel
theorem dX11_booked_79 : decode cX11_booked 79 = .ok (.iload_n 1, 1) := by decide +kernel
theorem dX11_booked_80 : decode cX11_booked 80 = .ok (.invokevirtual 323, 3) := by decide +kernel
theorem dX11_booked_83 : decode cX11_booked 83 = .ok (.ifCond .eq 7, 3) := by decide +kernel
theorem dX11_booked_86 : decode cX11_booked 86 = .ok (.iconst 1, 1) := by decide +kernel
theorem dX11_booked_87 : decode cX11_booked 87 = .ok (.goto 4, 3) := by decide +kernel
theorem dX11_booked_90 : decode cX11_booked 90 = .ok (.iconst 0, 1) := by decide +kernel
theorem dX11_booked_91 : decode cX11_booked 91 = .ok (.ireturn, 1) := by decide +kernel
theorem dX11_booked_92 : decode cX11_booked 92 = .ok (.iconst (-1), 1) := by decide +kernel
theorem dX11_booked_93 : decode cX11_booked 93 = .ok (.ireturn, 1) := by decide +kernel
def f_X11_booked (S : SH) (a0 : Nat) (a1 : Int32) (a2 : Int32) (μ : Mem) : Option (Int32 × Mem) :=
  if isO S 11 a0 = true then
  (if a1 < 0 then
  some ((-1), μ)
  else
  (gR S 11 a0 9).bind fun v1 =>
  (gI S 0 v1 3 μ).bind fun v2 =>
  (if a1 < v2 then
  (if a2 = 0 then
  (gR S 11 a0 9).bind fun v3 =>
  (gR S 0 v3 0).bind fun v4 =>
  (aI S .int v4 a1 μ).bind fun v5 =>
  some (v5, μ)
  else if a2 = 1 then
  (gR S 11 a0 9).bind fun v6 =>
  (gR S 0 v6 1).bind fun v7 =>
  (aI S .int v7 a1 μ).bind fun v8 =>
  some (v8, μ)
  else if a2 = 2 then
  (gR S 11 a0 9).bind fun v9 =>
  (gR S 0 v9 2).bind fun v10 =>
  (aI S .int v10 a1 μ).bind fun v11 =>
  some (v11, μ)
  else if a2 = 3 then
  (f_X11_mayBeAsBooked S a0 a1 μ).bind fun q12 =>
  (if q12.1 = 0 then
  some (0, q12.2)
  else
  some (1, q12.2))
  else 
  some ((-1), μ))
  else
  some ((-1), μ)))
  else none
set_option maxRecDepth 100000 in
set_option maxHeartbeats 4000000 in
theorem c_X11_booked {l : Launch} {γ : GE} {S : SH} {a0 : Nat} {a1 : Int32} {a2 : Int32} {μ : Mem} {X : (Int32 × Mem)} (h : f_X11_booked S a0 a1 a2 μ = some X) : isO S 11 a0 = true ∧ Ct l γ yX11_booked cX11_booked 3 (some .int) rm_X11_booked [.ref (gb γ + a0), .int a1, .int a2] S μ S X.2 (some (.int X.1)) := by
  unfold f_X11_booked at h
  obtain ⟨h0, h⟩ := if_some h
  refine ⟨h0, ?_⟩
  have hJ : ∀ (p : Program) (e : Env) (s : State) (m : MethodId) (args : Array Value) (below : List Frame) (meth : Method) (c : Code), FX γ p s m args meth c cX11_booked RX11 3 → meth.sig.returnType = (some .int) → JJ γ p l e rm_X11_booked s m args below meth c 3 0 0 (QI below γ S X args s 0 0) S μ 0 [(0, .ref (gb γ + a0)), (1, .int a1), (2, .int a2)] [] := by
    intro p e s m args below meth c F hr
    refine j_iload_n F 1 dX11_booked_0 rfl ?_
    refine j_iflt F 15 dX11_booked_1 (by decide) h (fun _ h => ?_) (fun _ h => ?_)
    · refine j_iconst F (-1) dX11_booked_15 (by decide) ?_
      exact j_iret F hr dX11_booked_16 h
    · refine j_iload_n F 1 dX11_booked_4 rfl ?_
      refine j_aload_n F 0 dX11_booked_5 rfl ?_
      refine j_gR F fl_RX11_65 rfl dX11_booked_6 h (fun v1 h => ?_)
      refine j_gI F fl_RX11_313.l rfl dX11_booked_9 h (fun v2 h => ?_)
      refine j_icmplt F 17 dX11_booked_12 (by decide) h (fun _ h => ?_) (fun _ h => ?_)
      · refine j_iload_n F 2 dX11_booked_17 rfl ?_
        by_cases e0 : a2 = 0
        · rw [if_pos e0] at h
          refine j_tin F (off := 30) 48 dX11_booked_18 (by rw [e0]; decide) (by rw [e0]; decide) (by rw [e0]; rfl) (by decide) ?_
          refine j_aload_n F 0 dX11_booked_48 rfl ?_
          refine j_gR F fl_RX11_65 rfl dX11_booked_49 h (fun v3 h => ?_)
          refine j_gR F fl_RX11_314 rfl dX11_booked_52 h (fun v4 h => ?_)
          refine j_iload_n F 1 dX11_booked_55 rfl ?_
          refine j_iald F dX11_booked_56 h (fun v5 h => ?_)
          exact j_iret F hr dX11_booked_57 h
        rw [if_neg e0] at h
        by_cases e1 : a2 = 1
        · rw [if_pos e1] at h
          refine j_tin F (off := 40) 58 dX11_booked_18 (by rw [e1]; decide) (by rw [e1]; decide) (by rw [e1]; rfl) (by decide) ?_
          refine j_aload_n F 0 dX11_booked_58 rfl ?_
          refine j_gR F fl_RX11_65 rfl dX11_booked_59 h (fun v6 h => ?_)
          refine j_gR F fl_RX11_317 rfl dX11_booked_62 h (fun v7 h => ?_)
          refine j_iload_n F 1 dX11_booked_65 rfl ?_
          refine j_iald F dX11_booked_66 h (fun v8 h => ?_)
          exact j_iret F hr dX11_booked_67 h
        rw [if_neg e1] at h
        by_cases e2 : a2 = 2
        · rw [if_pos e2] at h
          refine j_tin F (off := 50) 68 dX11_booked_18 (by rw [e2]; decide) (by rw [e2]; decide) (by rw [e2]; rfl) (by decide) ?_
          refine j_aload_n F 0 dX11_booked_68 rfl ?_
          refine j_gR F fl_RX11_65 rfl dX11_booked_69 h (fun v9 h => ?_)
          refine j_gR F fl_RX11_320 rfl dX11_booked_72 h (fun v10 h => ?_)
          refine j_iload_n F 1 dX11_booked_75 rfl ?_
          refine j_iald F dX11_booked_76 h (fun v11 h => ?_)
          exact j_iret F hr dX11_booked_77 h
        rw [if_neg e2] at h
        by_cases e3 : a2 = 3
        · rw [if_pos e3] at h
          refine j_tin F (off := 60) 78 dX11_booked_18 (by rw [e3]; decide) (by rw [e3]; decide) (by rw [e3]; rfl) (by decide) ?_
          refine j_aload_n F 0 dX11_booked_78 rfl ?_
          refine j_iload_n F 1 dX11_booked_79 rfl ?_
          refine j_cVI F mi_X11_mayBeAsBooked w_920 (rest := []) h (fun _ g => c_X11_mayBeAsBooked g) rfl rfl (Nat.le_of_ble_eq_true rfl) ⟨Nat.le_of_ble_eq_true rfl, Nat.le_of_ble_eq_true rfl⟩ ⟨Nat.le_of_ble_eq_true rfl, Nat.le_of_ble_eq_true rfl⟩ dX11_booked_80 (fun q12 h => ?_)
          refine j_ifeq F 90 dX11_booked_83 (by decide) h (fun _ h => ?_) (fun _ h => ?_)
          · refine j_iconst F 0 dX11_booked_90 (by decide) ?_
            exact j_iret F hr dX11_booked_91 h
          · refine j_iconst F 1 dX11_booked_86 (by decide) ?_
            refine j_goto F 91 dX11_booked_87 (by decide) ?_
            exact j_iret F hr dX11_booked_91 h
        rw [if_neg e3] at h
        have g0 : (a2).toInt ≠ (0 : Int) := fun q => e0 (Int32.toInt_inj.mp (q.trans (by decide)))
        have g1 : (a2).toInt ≠ (1 : Int) := fun q => e1 (Int32.toInt_inj.mp (q.trans (by decide)))
        have g2 : (a2).toInt ≠ (2 : Int) := fun q => e2 (Int32.toInt_inj.mp (q.trans (by decide)))
        have g3 : (a2).toInt ≠ (3 : Int) := fun q => e3 (Int32.toInt_inj.mp (q.trans (by decide)))
        refine j_tout F 92 dX11_booked_18 (by omega) (by decide) ?_
        refine j_iconst F (-1) dX11_booked_92 (by decide) ?_
        exact j_iret F hr dX11_booked_93 h
      · refine j_iconst F (-1) dX11_booked_15 (by decide) ?_
        exact j_iret F hr dX11_booked_16 h
  exact ct_of (by decide +kernel) (Nat.le_of_ble_eq_true rfl) (fun p e s m args below meth c F hr _ => hJ p e s m args below meth c F hr)
def rm_X11_heaviest : Room := { frames := 1, cells := 0, slots := 0, locals := 23 }
theorem dX11_heaviest_0 : decode cX11_heaviest 0 = .ok (.aload_n 0, 1) := by decide +kernel
theorem dX11_heaviest_1 : decode cX11_heaviest 1 = .ok (.getfield 65, 3) := by decide +kernel
theorem dX11_heaviest_4 : decode cX11_heaviest 4 = .ok (.invokevirtual 326, 3) := by decide +kernel
theorem dX11_heaviest_7 : decode cX11_heaviest 7 = .ok (.ireturn, 1) := by decide +kernel
def f_X11_heaviest (S : SH) (a0 : Nat) (μ : Mem) : Option (Int32 × Mem) :=
  if isO S 11 a0 = true then
  (gR S 11 a0 9).bind fun v1 =>
  (f_X0_withMost S v1 μ).bind fun q2 =>
  some (q2.1, q2.2)
  else none
set_option maxRecDepth 100000 in
set_option maxHeartbeats 4000000 in
theorem c_X11_heaviest {l : Launch} {γ : GE} {S : SH} {a0 : Nat} {μ : Mem} {X : (Int32 × Mem)} (h : f_X11_heaviest S a0 μ = some X) : isO S 11 a0 = true ∧ Ct l γ yX11_heaviest cX11_heaviest 1 (some .int) rm_X11_heaviest [.ref (gb γ + a0)] S μ S X.2 (some (.int X.1)) := by
  unfold f_X11_heaviest at h
  obtain ⟨h0, h⟩ := if_some h
  refine ⟨h0, ?_⟩
  have hJ : ∀ (p : Program) (e : Env) (s : State) (m : MethodId) (args : Array Value) (below : List Frame) (meth : Method) (c : Code), FX γ p s m args meth c cX11_heaviest RX11 1 → meth.sig.returnType = (some .int) → JJ γ p l e rm_X11_heaviest s m args below meth c 1 0 0 (QI below γ S X args s 0 0) S μ 0 [(0, .ref (gb γ + a0))] [] := by
    intro p e s m args below meth c F hr
    refine j_aload_n F 0 dX11_heaviest_0 rfl ?_
    refine j_gR F fl_RX11_65 rfl dX11_heaviest_1 h (fun v1 h => ?_)
    refine j_cVI F mi_X0_withMost w_928 (rest := []) h (fun _ g => c_X0_withMost g) rfl rfl (Nat.le_of_ble_eq_true rfl) ⟨Nat.le_of_ble_eq_true rfl, Nat.le_of_ble_eq_true rfl⟩ ⟨Nat.le_of_ble_eq_true rfl, Nat.le_of_ble_eq_true rfl⟩ dX11_heaviest_4 (fun q2 h => ?_)
    exact j_iret F hr dX11_heaviest_7 h
  exact ct_of (by decide +kernel) (Nat.le_of_ble_eq_true rfl) (fun p e s m args below meth c F hr _ => hJ p e s m args below meth c F hr)
def rm_X11_list : Room := { frames := 2, cells := 0, slots := 0, locals := 46 }
theorem dX11_list_0 : decode cX11_list 0 = .ok (.iload_n 1, 1) := by decide +kernel
theorem dX11_list_1 : decode cX11_list 1 = .ok (.invokestatic 288, 3) := by decide +kernel
theorem dX11_list_4 : decode cX11_list 4 = .ok (.ifCond .ne 5, 3) := by decide +kernel
theorem dX11_list_7 : decode cX11_list 7 = .ok (.iconst (-1), 1) := by decide +kernel
theorem dX11_list_8 : decode cX11_list 8 = .ok (.ireturn, 1) := by decide +kernel
theorem dX11_list_9 : decode cX11_list 9 = .ok (.iload_n 2, 1) := by decide +kernel
theorem dX11_list_10 : decode cX11_list 10 = .ok (.bipush 30, 2) := by decide +kernel
theorem dX11_list_12 : decode cX11_list 12 = .ok (.if_icmp .le 6, 3) := by decide +kernel
theorem dX11_list_15 : decode cX11_list 15 = .ok (.bipush (-2), 2) := by decide +kernel
theorem dX11_list_17 : decode cX11_list 17 = .ok (.ireturn, 1) := by decide +kernel
theorem dX11_list_18 : decode cX11_list 18 = .ok (.iload_n 2, 1) := by decide +kernel
theorem dX11_list_19 : decode cX11_list 19 = .ok (.ifCond .ge 6, 3) := by decide +kernel
theorem dX11_list_22 : decode cX11_list 22 = .ok (.bipush (-14), 2) := by decide +kernel
theorem dX11_list_24 : decode cX11_list 24 = .ok (.ireturn, 1) := by decide +kernel
theorem dX11_list_25 : decode cX11_list 25 = .ok (.aload_n 0, 1) := by decide +kernel
theorem dX11_list_26 : decode cX11_list 26 = .ok (.getfield 72, 3) := by decide +kernel
theorem dX11_list_29 : decode cX11_list 29 = .ok (.iload_n 1, 1) := by decide +kernel
theorem dX11_list_30 : decode cX11_list 30 = .ok (.iload_n 2, 1) := by decide +kernel
theorem dX11_list_31 : decode cX11_list 31 = .ok (.invokevirtual 329, 3) := by decide +kernel
theorem dX11_list_34 : decode cX11_list 34 = .ok (.iconst 1, 1) := by decide +kernel
theorem dX11_list_35 : decode cX11_list 35 = .ok (.ireturn, 1) := by decide +kernel
def f_X11_list (S : SH) (a0 : Nat) (a1 : Int32) (a2 : Int32) (μ : Mem) : Option (Int32 × Mem) :=
  if isO S 11 a0 = true then
  (f_X11_isList S a1 μ).bind fun q1 =>
  (if q1.1 = 0 then
  some ((-1), q1.2)
  else
  (if a2 ≤ 30 then
  (if 0 ≤ a2 then
  (gR S 11 a0 10).bind fun v2 =>
  (f_X8_begin S v2 a1 a2 q1.2).bind fun q3 =>
  some (1, q3.2)
  else
  some ((-14), q1.2))
  else
  some ((-2), q1.2)))
  else none
set_option maxRecDepth 100000 in
set_option maxHeartbeats 4000000 in
theorem c_X11_list {l : Launch} {γ : GE} {S : SH} {a0 : Nat} {a1 : Int32} {a2 : Int32} {μ : Mem} {X : (Int32 × Mem)} (h : f_X11_list S a0 a1 a2 μ = some X) : isO S 11 a0 = true ∧ Ct l γ yX11_list cX11_list 3 (some .int) rm_X11_list [.ref (gb γ + a0), .int a1, .int a2] S μ S X.2 (some (.int X.1)) := by
  unfold f_X11_list at h
  obtain ⟨h0, h⟩ := if_some h
  refine ⟨h0, ?_⟩
  have hJ : ∀ (p : Program) (e : Env) (s : State) (m : MethodId) (args : Array Value) (below : List Frame) (meth : Method) (c : Code), FX γ p s m args meth c cX11_list RX11 3 → meth.sig.returnType = (some .int) → JJ γ p l e rm_X11_list s m args below meth c 3 0 0 (QI below γ S X args s 0 0) S μ 0 [(0, .ref (gb γ + a0)), (1, .int a1), (2, .int a2)] [] := by
    intro p e s m args below meth c F hr
    refine j_iload_n F 1 dX11_list_0 rfl ?_
    refine j_cSI F mi_X11_isList w_883 (rest := []) h (fun _ g => c_X11_isList g) rfl rfl (Nat.le_of_ble_eq_true rfl) ⟨Nat.le_of_ble_eq_true rfl, Nat.le_of_ble_eq_true rfl⟩ ⟨Nat.le_of_ble_eq_true rfl, Nat.le_of_ble_eq_true rfl⟩ dX11_list_1 (fun q1 h => ?_)
    refine j_ifne F 9 dX11_list_4 (by decide) h (fun _ h => ?_) (fun _ h => ?_)
    · refine j_iload_n F 2 dX11_list_9 rfl ?_
      refine j_bipush F 30 dX11_list_10 (by decide) ?_
      refine j_icmple F 18 dX11_list_12 (by decide) h (fun _ h => ?_) (fun _ h => ?_)
      · refine j_iload_n F 2 dX11_list_18 rfl ?_
        refine j_ifge F 25 dX11_list_19 (by decide) h (fun _ h => ?_) (fun _ h => ?_)
        · refine j_aload_n F 0 dX11_list_25 rfl ?_
          refine j_gR F fl_RX11_72 rfl dX11_list_26 h (fun v2 h => ?_)
          refine j_iload_n F 1 dX11_list_29 rfl ?_
          refine j_iload_n F 2 dX11_list_30 rfl ?_
          refine j_cVV F mi_X8_begin w_936 (rest := []) h (fun _ g => c_X8_begin g) rfl rfl (Nat.le_of_ble_eq_true rfl) ⟨Nat.le_of_ble_eq_true rfl, Nat.le_of_ble_eq_true rfl⟩ ⟨Nat.le_of_ble_eq_true rfl, Nat.le_of_ble_eq_true rfl⟩ dX11_list_31 (fun q3 h => ?_)
          refine j_iconst F 1 dX11_list_34 (by decide) ?_
          exact j_iret F hr dX11_list_35 h
        · refine j_bipush F (-14) dX11_list_22 (by decide) ?_
          exact j_iret F hr dX11_list_24 h
      · refine j_bipush F (-2) dX11_list_15 (by decide) ?_
        exact j_iret F hr dX11_list_17 h
    · refine j_iconst F (-1) dX11_list_7 (by decide) ?_
      exact j_iret F hr dX11_list_8 h
  exact ct_of (by decide +kernel) (Nat.le_of_ble_eq_true rfl) (fun p e s m args below meth c F hr _ => hJ p e s m args below meth c F hr)
def rm_X11_set : Room := { frames := 2, cells := 0, slots := 0, locals := 42 }
theorem dX11_set_0 : decode cX11_set 0 = .ok (.iload_n 1, 1) := by decide +kernel
theorem dX11_set_1 : decode cX11_set 1 = .ok (.invokestatic 288, 3) := by decide +kernel
theorem dX11_set_4 : decode cX11_set 4 = .ok (.ifCond .ne 5, 3) := by decide +kernel
theorem dX11_set_7 : decode cX11_set 7 = .ok (.iconst (-1), 1) := by decide +kernel
theorem dX11_set_8 : decode cX11_set 8 = .ok (.ireturn, 1) := by decide +kernel
theorem dX11_set_9 : decode cX11_set 9 = .ok (.aload_n 0, 1) := by decide +kernel
theorem dX11_set_10 : decode cX11_set 10 = .ok (.getfield 72, 3) := by decide +kernel
theorem dX11_set_13 : decode cX11_set 13 = .ok (.iload_n 1, 1) := by decide +kernel
theorem dX11_set_14 : decode cX11_set 14 = .ok (.invokevirtual 291, 3) := by decide +kernel
theorem dX11_set_17 : decode cX11_set 17 = .ok (.ifCond .ne 6, 3) := by decide +kernel
theorem dX11_set_20 : decode cX11_set 20 = .ok (.bipush (-11), 2) := by decide +kernel
theorem dX11_set_22 : decode cX11_set 22 = .ok (.ireturn, 1) := by decide +kernel
theorem dX11_set_23 : decode cX11_set 23 = .ok (.aload_n 0, 1) := by decide +kernel
theorem dX11_set_24 : decode cX11_set 24 = .ok (.getfield 72, 3) := by decide +kernel
theorem dX11_set_27 : decode cX11_set 27 = .ok (.iload_n 1, 1) := by decide +kernel
theorem dX11_set_28 : decode cX11_set 28 = .ok (.iload_n 2, 1) := by decide +kernel
theorem dX11_set_29 : decode cX11_set 29 = .ok (.invokevirtual 330, 3) := by decide +kernel
theorem dX11_set_32 : decode cX11_set 32 = .ok (.ifCond .ne 6, 3) := by decide +kernel
theorem dX11_set_35 : decode cX11_set 35 = .ok (.bipush (-13), 2) := by decide +kernel
theorem dX11_set_37 : decode cX11_set 37 = .ok (.ireturn, 1) := by decide +kernel
theorem dX11_set_38 : decode cX11_set 38 = .ok (.aload_n 0, 1) := by decide +kernel
theorem dX11_set_39 : decode cX11_set 39 = .ok (.getfield 72, 3) := by decide +kernel
theorem dX11_set_42 : decode cX11_set 42 = .ok (.getfield 297, 3) := by decide +kernel
theorem dX11_set_45 : decode cX11_set 45 = .ok (.iload_n 1, 1) := by decide +kernel
theorem dX11_set_46 : decode cX11_set 46 = .ok (.aaload, 1) := by decide +kernel
theorem dX11_set_47 : decode cX11_set 47 = .ok (.iload_n 2, 1) := by decide +kernel
theorem dX11_set_48 : decode cX11_set 48 = .ok (.lload_n 3, 1) := by decide +kernel
theorem dX11_set_49 : decode cX11_set 49 = .ok (.lastore, 1) := by decide +kernel
theorem dX11_set_50 : decode cX11_set 50 = .ok (.iconst 1, 1) := by decide +kernel
theorem dX11_set_51 : decode cX11_set 51 = .ok (.ireturn, 1) := by decide +kernel
def f_X11_set (S : SH) (a0 : Nat) (a1 : Int32) (a2 : Int32) (a3 : Int64) (μ : Mem) : Option (Int32 × Mem) :=
  if isO S 11 a0 = true then
  (f_X11_isList S a1 μ).bind fun q1 =>
  (if q1.1 = 0 then
  some ((-1), q1.2)
  else
  (gR S 11 a0 10).bind fun v2 =>
  (f_X8_holds S v2 a1 q1.2).bind fun q3 =>
  (if q3.1 = 0 then
  some ((-11), q3.2)
  else
  (gR S 11 a0 10).bind fun v4 =>
  (f_X8_hasPlace S v4 a1 a2 q3.2).bind fun q5 =>
  (if q5.1 = 0 then
  some ((-13), q5.2)
  else
  (gR S 11 a0 10).bind fun v6 =>
  (gR S 8 v6 0).bind fun v7 =>
  (aR S (.array .long) v7 a1).bind fun v8 =>
  (sL S v8 a2 a3 q5.2).bind fun ν9 =>
  some (1, ν9))))
  else none
set_option maxRecDepth 100000 in
set_option maxHeartbeats 4000000 in
theorem c_X11_set {l : Launch} {γ : GE} {S : SH} {a0 : Nat} {a1 : Int32} {a2 : Int32} {a3 : Int64} {μ : Mem} {X : (Int32 × Mem)} (h : f_X11_set S a0 a1 a2 a3 μ = some X) : isO S 11 a0 = true ∧ Ct l γ yX11_set cX11_set 5 (some .int) rm_X11_set [.ref (gb γ + a0), .int a1, .int a2, .long a3] S μ S X.2 (some (.int X.1)) := by
  unfold f_X11_set at h
  obtain ⟨h0, h⟩ := if_some h
  refine ⟨h0, ?_⟩
  have hJ : ∀ (p : Program) (e : Env) (s : State) (m : MethodId) (args : Array Value) (below : List Frame) (meth : Method) (c : Code), FX γ p s m args meth c cX11_set RX11 5 → meth.sig.returnType = (some .int) → JJ γ p l e rm_X11_set s m args below meth c 5 0 0 (QI below γ S X args s 0 0) S μ 0 [(0, .ref (gb γ + a0)), (1, .int a1), (2, .int a2), (3, .long a3)] [] := by
    intro p e s m args below meth c F hr
    refine j_iload_n F 1 dX11_set_0 rfl ?_
    refine j_cSI F mi_X11_isList w_883 (rest := []) h (fun _ g => c_X11_isList g) rfl rfl (Nat.le_of_ble_eq_true rfl) ⟨Nat.le_of_ble_eq_true rfl, Nat.le_of_ble_eq_true rfl⟩ ⟨Nat.le_of_ble_eq_true rfl, Nat.le_of_ble_eq_true rfl⟩ dX11_set_1 (fun q1 h => ?_)
    refine j_ifne F 9 dX11_set_4 (by decide) h (fun _ h => ?_) (fun _ h => ?_)
    · refine j_aload_n F 0 dX11_set_9 rfl ?_
      refine j_gR F fl_RX11_72 rfl dX11_set_10 h (fun v2 h => ?_)
      refine j_iload_n F 1 dX11_set_13 rfl ?_
      refine j_cVI F mi_X8_holds w_886 (rest := []) h (fun _ g => c_X8_holds g) rfl rfl (Nat.le_of_ble_eq_true rfl) ⟨Nat.le_of_ble_eq_true rfl, Nat.le_of_ble_eq_true rfl⟩ ⟨Nat.le_of_ble_eq_true rfl, Nat.le_of_ble_eq_true rfl⟩ dX11_set_14 (fun q3 h => ?_)
      refine j_ifne F 23 dX11_set_17 (by decide) h (fun _ h => ?_) (fun _ h => ?_)
      · refine j_aload_n F 0 dX11_set_23 rfl ?_
        refine j_gR F fl_RX11_72 rfl dX11_set_24 h (fun v4 h => ?_)
        refine j_iload_n F 1 dX11_set_27 rfl ?_
        refine j_iload_n F 2 dX11_set_28 rfl ?_
        refine j_cVI F mi_X8_hasPlace w_947 (rest := []) h (fun _ g => c_X8_hasPlace g) rfl rfl (Nat.le_of_ble_eq_true rfl) ⟨Nat.le_of_ble_eq_true rfl, Nat.le_of_ble_eq_true rfl⟩ ⟨Nat.le_of_ble_eq_true rfl, Nat.le_of_ble_eq_true rfl⟩ dX11_set_29 (fun q5 h => ?_)
        refine j_ifne F 38 dX11_set_32 (by decide) h (fun _ h => ?_) (fun _ h => ?_)
        · refine j_aload_n F 0 dX11_set_38 rfl ?_
          refine j_gR F fl_RX11_72 rfl dX11_set_39 h (fun v6 h => ?_)
          refine j_gR F fl_RX11_297 rfl dX11_set_42 h (fun v7 h => ?_)
          refine j_iload_n F 1 dX11_set_45 rfl ?_
          refine j_aald F 5 rfl rfl rfl dX11_set_46 h (fun v8 h => ?_)
          refine j_iload_n F 2 dX11_set_47 rfl ?_
          refine j_lload_n F 3 dX11_set_48 rfl ?_
          refine j_last F dX11_set_49 h (fun ν9 h => ?_)
          refine j_iconst F 1 dX11_set_50 (by decide) ?_
          exact j_iret F hr dX11_set_51 h
        · refine j_bipush F (-13) dX11_set_35 (by decide) ?_
          exact j_iret F hr dX11_set_37 h
      · refine j_bipush F (-11) dX11_set_20 (by decide) ?_
        exact j_iret F hr dX11_set_22 h
    · refine j_iconst F (-1) dX11_set_7 (by decide) ?_
      exact j_iret F hr dX11_set_8 h
  exact ct_of (by decide +kernel) (Nat.le_of_ble_eq_true rfl) (fun p e s m args below meth c F hr _ => hJ p e s m args below meth c F hr)
def rm_X11_get : Room := { frames := 2, cells := 0, slots := 0, locals := 42 }
theorem dX11_get_0 : decode cX11_get 0 = .ok (.iload_n 1, 1) := by decide +kernel
theorem dX11_get_1 : decode cX11_get 1 = .ok (.invokestatic 288, 3) := by decide +kernel
theorem dX11_get_4 : decode cX11_get 4 = .ok (.ifCond .eq 15, 3) := by decide +kernel
theorem dX11_get_7 : decode cX11_get 7 = .ok (.aload_n 0, 1) := by decide +kernel
theorem dX11_get_8 : decode cX11_get 8 = .ok (.getfield 72, 3) := by decide +kernel
theorem dX11_get_11 : decode cX11_get 11 = .ok (.iload_n 1, 1) := by decide +kernel
theorem dX11_get_12 : decode cX11_get 12 = .ok (.iload_n 2, 1) := by decide +kernel
theorem dX11_get_13 : decode cX11_get 13 = .ok (.invokevirtual 330, 3) := by decide +kernel
theorem dX11_get_16 : decode cX11_get 16 = .ok (.ifCond .ne 7, 3) := by decide +kernel
theorem dX11_get_19 : decode cX11_get 19 = .ok (.ldc2_w 139, 3) := by decide +kernel
theorem dX11_get_22 : decode cX11_get 22 = .ok (.lreturn, 1) := by decide +kernel
theorem dX11_get_23 : decode cX11_get 23 = .ok (.aload_n 0, 1) := by decide +kernel
theorem dX11_get_24 : decode cX11_get 24 = .ok (.getfield 72, 3) := by decide +kernel
theorem dX11_get_27 : decode cX11_get 27 = .ok (.getfield 297, 3) := by decide +kernel
theorem dX11_get_30 : decode cX11_get 30 = .ok (.iload_n 1, 1) := by decide +kernel
theorem dX11_get_31 : decode cX11_get 31 = .ok (.aaload, 1) := by decide +kernel
theorem dX11_get_32 : decode cX11_get 32 = .ok (.iload_n 2, 1) := by decide +kernel
theorem dX11_get_33 : decode cX11_get 33 = .ok (.laload, 1) := by decide +kernel
theorem dX11_get_34 : decode cX11_get 34 = .ok (.lreturn, 1) := by decide +kernel
def f_X11_get (S : SH) (a0 : Nat) (a1 : Int32) (a2 : Int32) (μ : Mem) : Option (Int64 × Mem) :=
  if isO S 11 a0 = true then
  (f_X11_isList S a1 μ).bind fun q1 =>
  (if q1.1 = 0 then
  some ((-9223372036854775808), q1.2)
  else
  (gR S 11 a0 10).bind fun v2 =>
  (f_X8_hasPlace S v2 a1 a2 q1.2).bind fun q3 =>
  (if q3.1 = 0 then
  some ((-9223372036854775808), q3.2)
  else
  (gR S 11 a0 10).bind fun v4 =>
  (gR S 8 v4 0).bind fun v5 =>
  (aR S (.array .long) v5 a1).bind fun v6 =>
  (aL S v6 a2 q3.2).bind fun v7 =>
  some (v7, q3.2)))
  else none
set_option maxRecDepth 100000 in
set_option maxHeartbeats 4000000 in
theorem c_X11_get {l : Launch} {γ : GE} {S : SH} {a0 : Nat} {a1 : Int32} {a2 : Int32} {μ : Mem} {X : (Int64 × Mem)} (h : f_X11_get S a0 a1 a2 μ = some X) : isO S 11 a0 = true ∧ Ct l γ yX11_get cX11_get 3 (some .long) rm_X11_get [.ref (gb γ + a0), .int a1, .int a2] S μ S X.2 (some (.long X.1)) := by
  unfold f_X11_get at h
  obtain ⟨h0, h⟩ := if_some h
  refine ⟨h0, ?_⟩
  have hJ : ∀ (p : Program) (e : Env) (s : State) (m : MethodId) (args : Array Value) (below : List Frame) (meth : Method) (c : Code), FX γ p s m args meth c cX11_get RX11 3 → meth.sig.returnType = (some .long) → JJ γ p l e rm_X11_get s m args below meth c 3 0 0 (QL below γ S X args s 0 0) S μ 0 [(0, .ref (gb γ + a0)), (1, .int a1), (2, .int a2)] [] := by
    intro p e s m args below meth c F hr
    refine j_iload_n F 1 dX11_get_0 rfl ?_
    refine j_cSI F mi_X11_isList w_883 (rest := []) h (fun _ g => c_X11_isList g) rfl rfl (Nat.le_of_ble_eq_true rfl) ⟨Nat.le_of_ble_eq_true rfl, Nat.le_of_ble_eq_true rfl⟩ ⟨Nat.le_of_ble_eq_true rfl, Nat.le_of_ble_eq_true rfl⟩ dX11_get_1 (fun q1 h => ?_)
    refine j_ifeq F 19 dX11_get_4 (by decide) h (fun _ h => ?_) (fun _ h => ?_)
    · refine j_ldc2 F (-9223372036854775808) dX11_get_19 w_517 ?_
      exact j_lret F hr dX11_get_22 h
    · refine j_aload_n F 0 dX11_get_7 rfl ?_
      refine j_gR F fl_RX11_72 rfl dX11_get_8 h (fun v2 h => ?_)
      refine j_iload_n F 1 dX11_get_11 rfl ?_
      refine j_iload_n F 2 dX11_get_12 rfl ?_
      refine j_cVI F mi_X8_hasPlace w_947 (rest := []) h (fun _ g => c_X8_hasPlace g) rfl rfl (Nat.le_of_ble_eq_true rfl) ⟨Nat.le_of_ble_eq_true rfl, Nat.le_of_ble_eq_true rfl⟩ ⟨Nat.le_of_ble_eq_true rfl, Nat.le_of_ble_eq_true rfl⟩ dX11_get_13 (fun q3 h => ?_)
      refine j_ifne F 23 dX11_get_16 (by decide) h (fun _ h => ?_) (fun _ h => ?_)
      · refine j_aload_n F 0 dX11_get_23 rfl ?_
        refine j_gR F fl_RX11_72 rfl dX11_get_24 h (fun v4 h => ?_)
        refine j_gR F fl_RX11_297 rfl dX11_get_27 h (fun v5 h => ?_)
        refine j_iload_n F 1 dX11_get_30 rfl ?_
        refine j_aald F 5 rfl rfl rfl dX11_get_31 h (fun v6 h => ?_)
        refine j_iload_n F 2 dX11_get_32 rfl ?_
        refine j_lald F dX11_get_33 h (fun v7 h => ?_)
        exact j_lret F hr dX11_get_34 h
      · refine j_ldc2 F (-9223372036854775808) dX11_get_19 w_517 ?_
        exact j_lret F hr dX11_get_22 h
  exact ct_of (by decide +kernel) (Nat.le_of_ble_eq_true rfl) (fun p e s m args below meth c F hr _ => hJ p e s m args below meth c F hr)
def rm_X11_count : Room := { frames := 0, cells := 0, slots := 0, locals := 0 }
theorem dX11_count_0 : decode cX11_count 0 = .ok (.iload_n 1, 1) := by decide +kernel
theorem dX11_count_1 : decode cX11_count 1 = .ok (.tableswitch 104 0 6 #[43, 54, 62, 70, 70, 70, 85], 43) := by decide +kernel
theorem dX11_count_44 : decode cX11_count 44 = .ok (.aload_n 0, 1) := by decide +kernel
theorem dX11_count_45 : decode cX11_count 45 = .ok (.getfield 12, 3) := by decide +kernel
theorem dX11_count_48 : decode cX11_count 48 = .ok (.getfield 104, 3) := by decide +kernel
theorem dX11_count_51 : decode cX11_count 51 = .ok (.getfield 108, 3) := by decide +kernel
theorem dX11_count_54 : decode cX11_count 54 = .ok (.ireturn, 1) := by decide +kernel
theorem dX11_count_55 : decode cX11_count 55 = .ok (.aload_n 0, 1) := by decide +kernel
theorem dX11_count_56 : decode cX11_count 56 = .ok (.getfield 41, 3) := by decide +kernel
theorem dX11_count_59 : decode cX11_count 59 = .ok (.getfield 250, 3) := by decide +kernel
theorem dX11_count_62 : decode cX11_count 62 = .ok (.ireturn, 1) := by decide +kernel
theorem dX11_count_63 : decode cX11_count 63 = .ok (.aload_n 0, 1) := by decide +kernel
theorem dX11_count_64 : decode cX11_count 64 = .ok (.getfield 48, 3) := by decide +kernel
theorem dX11_count_67 : decode cX11_count 67 = .ok (.getfield 260, 3) := by decide +kernel
theorem dX11_count_70 : decode cX11_count 70 = .ok (.ireturn, 1) := by decide +kernel
theorem dX11_count_71 : decode cX11_count 71 = .ok (.aload_n 0, 1) := by decide +kernel
theorem dX11_count_72 : decode cX11_count 72 = .ok (.getfield 12, 3) := by decide +kernel
theorem dX11_count_75 : decode cX11_count 75 = .ok (.getfield 153, 3) := by decide +kernel
theorem dX11_count_78 : decode cX11_count 78 = .ok (.iload_n 1, 1) := by decide +kernel
theorem dX11_count_79 : decode cX11_count 79 = .ok (.iconst 3, 1) := by decide +kernel
theorem dX11_count_80 : decode cX11_count 80 = .ok (.isub, 1) := by decide +kernel
theorem dX11_count_81 : decode cX11_count 81 = .ok (.aaload, 1) := by decide +kernel
theorem dX11_count_82 : decode cX11_count 82 = .ok (.getfield 160, 3) := by decide +kernel
theorem dX11_count_85 : decode cX11_count 85 = .ok (.ireturn, 1) := by decide +kernel
theorem dX11_count_86 : decode cX11_count 86 = .ok (.aload_n 0, 1) := by decide +kernel
theorem dX11_count_87 : decode cX11_count 87 = .ok (.getfield 12, 3) := by decide +kernel
theorem dX11_count_90 : decode cX11_count 90 = .ok (.getfield 88, 3) := by decide +kernel
theorem dX11_count_93 : decode cX11_count 93 = .ok (.getfield 98, 3) := by decide +kernel
theorem dX11_count_96 : decode cX11_count 96 = .ok (.ifCond .eq 7, 3) := by decide +kernel
theorem dX11_count_99 : decode cX11_count 99 = .ok (.iconst 1, 1) := by decide +kernel
theorem dX11_count_100 : decode cX11_count 100 = .ok (.goto 4, 3) := by decide +kernel
theorem dX11_count_103 : decode cX11_count 103 = .ok (.iconst 0, 1) := by decide +kernel
theorem dX11_count_104 : decode cX11_count 104 = .ok (.ireturn, 1) := by decide +kernel
theorem dX11_count_105 : decode cX11_count 105 = .ok (.iconst (-1), 1) := by decide +kernel
theorem dX11_count_106 : decode cX11_count 106 = .ok (.ireturn, 1) := by decide +kernel
def b_X11_count_71 (S : SH) (a0 : Nat) (a1 : Int32) (μ : Mem) : Option (Int32 × Mem) :=
 (gR S 11 a0 0).bind fun v8 =>
 (gR S 2 v8 2).bind fun v9 =>
 (aR S (.object "CranePads$Chart") v9 (a1 - 3)).bind fun v10 =>
 (gI S 1 v10 1 μ).bind fun v11 =>
 some (v11, μ)
set_option maxRecDepth 100000 in
set_option maxHeartbeats 4000000 in
theorem s_X11_count_71 {γ : GE} {p : Program} {l : Launch} {e : Env} {s : State} {m : MethodId} {args : Array Value} {below : List Frame} {meth : Method} {c : Code} {S : SH} {X : (Int32 × Mem)} (F : FX γ p s m args meth c cX11_count RX11 2) (hr : meth.sig.returnType = (some .int)) (a0 : Nat) (a1 : Int32)    (μ : Mem) (h : b_X11_count_71 S a0 a1 μ = some X) : JJ γ p l e rm_X11_count s m args below meth c 2 0 0 (QI below γ S X args s 0 0) S μ 71 [(0, .ref (gb γ + a0)), (1, .int a1)] [] := by
  unfold b_X11_count_71 at h
  refine j_aload_n F 0 dX11_count_71 rfl ?_
  refine j_gR F fl_RX11_12 rfl dX11_count_72 h (fun v8 h => ?_)
  refine j_gR F fl_RX11_153 rfl dX11_count_75 h (fun v9 h => ?_)
  refine j_iload_n F 1 dX11_count_78 rfl ?_
  refine j_iconst F 3 dX11_count_79 (by decide) ?_
  refine j_isub F dX11_count_80 ?_
  refine j_aald F 4 rfl rfl rfl dX11_count_81 h (fun v10 h => ?_)
  refine j_gI F fl_RX11_160.l rfl dX11_count_82 h (fun v11 h => ?_)
  exact j_iret F hr dX11_count_85 h
def f_X11_count (S : SH) (a0 : Nat) (a1 : Int32) (μ : Mem) : Option (Int32 × Mem) :=
  if isO S 11 a0 = true then
  (if a1 = 0 then
  (gR S 11 a0 0).bind fun v1 =>
  (gR S 2 v1 1).bind fun v2 =>
  (gI S 5 v2 4 μ).bind fun v3 =>
  some (v3, μ)
  else if a1 = 1 then
  (gR S 11 a0 5).bind fun v4 =>
  (gI S 9 v4 1 μ).bind fun v5 =>
  some (v5, μ)
  else if a1 = 2 then
  (gR S 11 a0 6).bind fun v6 =>
  (gI S 6 v6 2 μ).bind fun v7 =>
  some (v7, μ)
  else if a1 = 3 then
  b_X11_count_71 S a0 a1 μ
  else if a1 = 4 then
  b_X11_count_71 S a0 a1 μ
  else if a1 = 5 then
  b_X11_count_71 S a0 a1 μ
  else if a1 = 6 then
  (gR S 11 a0 0).bind fun v12 =>
  (gR S 2 v12 0).bind fun v13 =>
  (gI S 4 v13 3 μ).bind fun v14 =>
  (if v14 = 0 then
  some (0, μ)
  else
  some (1, μ))
  else 
  some ((-1), μ))
  else none
set_option maxRecDepth 100000 in
set_option maxHeartbeats 4000000 in
theorem c_X11_count {l : Launch} {γ : GE} {S : SH} {a0 : Nat} {a1 : Int32} {μ : Mem} {X : (Int32 × Mem)} (h : f_X11_count S a0 a1 μ = some X) : isO S 11 a0 = true ∧ Ct l γ yX11_count cX11_count 2 (some .int) rm_X11_count [.ref (gb γ + a0), .int a1] S μ S X.2 (some (.int X.1)) := by
  unfold f_X11_count at h
  obtain ⟨h0, h⟩ := if_some h
  refine ⟨h0, ?_⟩
  have hJ : ∀ (p : Program) (e : Env) (s : State) (m : MethodId) (args : Array Value) (below : List Frame) (meth : Method) (c : Code), FX γ p s m args meth c cX11_count RX11 2 → meth.sig.returnType = (some .int) → JJ γ p l e rm_X11_count s m args below meth c 2 0 0 (QI below γ S X args s 0 0) S μ 0 [(0, .ref (gb γ + a0)), (1, .int a1)] [] := by
    intro p e s m args below meth c F hr
    refine j_iload_n F 1 dX11_count_0 rfl ?_
    by_cases e0 : a1 = 0
    · rw [if_pos e0] at h
      refine j_tin F (off := 43) 44 dX11_count_1 (by rw [e0]; decide) (by rw [e0]; decide) (by rw [e0]; rfl) (by decide) ?_
      refine j_aload_n F 0 dX11_count_44 rfl ?_
      refine j_gR F fl_RX11_12 rfl dX11_count_45 h (fun v1 h => ?_)
      refine j_gR F fl_RX11_104 rfl dX11_count_48 h (fun v2 h => ?_)
      refine j_gI F fl_RX11_108.l rfl dX11_count_51 h (fun v3 h => ?_)
      exact j_iret F hr dX11_count_54 h
    rw [if_neg e0] at h
    by_cases e1 : a1 = 1
    · rw [if_pos e1] at h
      refine j_tin F (off := 54) 55 dX11_count_1 (by rw [e1]; decide) (by rw [e1]; decide) (by rw [e1]; rfl) (by decide) ?_
      refine j_aload_n F 0 dX11_count_55 rfl ?_
      refine j_gR F fl_RX11_41 rfl dX11_count_56 h (fun v4 h => ?_)
      refine j_gI F fl_RX11_250.l rfl dX11_count_59 h (fun v5 h => ?_)
      exact j_iret F hr dX11_count_62 h
    rw [if_neg e1] at h
    by_cases e2 : a1 = 2
    · rw [if_pos e2] at h
      refine j_tin F (off := 62) 63 dX11_count_1 (by rw [e2]; decide) (by rw [e2]; decide) (by rw [e2]; rfl) (by decide) ?_
      refine j_aload_n F 0 dX11_count_63 rfl ?_
      refine j_gR F fl_RX11_48 rfl dX11_count_64 h (fun v6 h => ?_)
      refine j_gI F fl_RX11_260.l rfl dX11_count_67 h (fun v7 h => ?_)
      exact j_iret F hr dX11_count_70 h
    rw [if_neg e2] at h
    by_cases e3 : a1 = 3
    · rw [if_pos e3] at h
      refine j_tin F (off := 70) 71 dX11_count_1 (by rw [e3]; decide) (by rw [e3]; decide) (by rw [e3]; rfl) (by decide) ?_
      exact s_X11_count_71 F hr _ _ _ h
    rw [if_neg e3] at h
    by_cases e4 : a1 = 4
    · rw [if_pos e4] at h
      refine j_tin F (off := 70) 71 dX11_count_1 (by rw [e4]; decide) (by rw [e4]; decide) (by rw [e4]; rfl) (by decide) ?_
      exact s_X11_count_71 F hr _ _ _ h
    rw [if_neg e4] at h
    by_cases e5 : a1 = 5
    · rw [if_pos e5] at h
      refine j_tin F (off := 70) 71 dX11_count_1 (by rw [e5]; decide) (by rw [e5]; decide) (by rw [e5]; rfl) (by decide) ?_
      exact s_X11_count_71 F hr _ _ _ h
    rw [if_neg e5] at h
    by_cases e6 : a1 = 6
    · rw [if_pos e6] at h
      refine j_tin F (off := 85) 86 dX11_count_1 (by rw [e6]; decide) (by rw [e6]; decide) (by rw [e6]; rfl) (by decide) ?_
      refine j_aload_n F 0 dX11_count_86 rfl ?_
      refine j_gR F fl_RX11_12 rfl dX11_count_87 h (fun v12 h => ?_)
      refine j_gR F fl_RX11_88 rfl dX11_count_90 h (fun v13 h => ?_)
      refine j_gI F fl_RX11_98.l rfl dX11_count_93 h (fun v14 h => ?_)
      refine j_ifeq F 103 dX11_count_96 (by decide) h (fun _ h => ?_) (fun _ h => ?_)
      · refine j_iconst F 0 dX11_count_103 (by decide) ?_
        exact j_iret F hr dX11_count_104 h
      · refine j_iconst F 1 dX11_count_99 (by decide) ?_
        refine j_goto F 104 dX11_count_100 (by decide) ?_
        exact j_iret F hr dX11_count_104 h
    rw [if_neg e6] at h
    have g0 : (a1).toInt ≠ (0 : Int) := fun q => e0 (Int32.toInt_inj.mp (q.trans (by decide)))
    have g1 : (a1).toInt ≠ (1 : Int) := fun q => e1 (Int32.toInt_inj.mp (q.trans (by decide)))
    have g2 : (a1).toInt ≠ (2 : Int) := fun q => e2 (Int32.toInt_inj.mp (q.trans (by decide)))
    have g3 : (a1).toInt ≠ (3 : Int) := fun q => e3 (Int32.toInt_inj.mp (q.trans (by decide)))
    have g4 : (a1).toInt ≠ (4 : Int) := fun q => e4 (Int32.toInt_inj.mp (q.trans (by decide)))
    have g5 : (a1).toInt ≠ (5 : Int) := fun q => e5 (Int32.toInt_inj.mp (q.trans (by decide)))
    have g6 : (a1).toInt ≠ (6 : Int) := fun q => e6 (Int32.toInt_inj.mp (q.trans (by decide)))
    refine j_tout F 105 dX11_count_1 (by omega) (by decide) ?_
    refine j_iconst F (-1) dX11_count_105 (by decide) ?_
    exact j_iret F hr dX11_count_106 h
  exact ct_of (by decide +kernel) (Nat.le_of_ble_eq_true rfl) (fun p e s m args below meth c F hr _ => hJ p e s m args below meth c F hr)
def rm_X11_image : Room := { frames := 3, cells := 0, slots := 0, locals := 104 }
theorem dX11_image_0 : decode cX11_image 0 = .ok (.aload_n 0, 1) := by decide +kernel
theorem dX11_image_1 : decode cX11_image 1 = .ok (.getfield 18, 3) := by decide +kernel
theorem dX11_image_4 : decode cX11_image 4 = .ok (.aload_n 0, 1) := by decide +kernel
theorem dX11_image_5 : decode cX11_image 5 = .ok (.getfield 12, 3) := by decide +kernel
theorem dX11_image_8 : decode cX11_image 8 = .ok (.invokevirtual 234, 3) := by decide +kernel
theorem dX11_image_11 : decode cX11_image 11 = .ok (.aload_n 0, 1) := by decide +kernel
theorem dX11_image_12 : decode cX11_image 12 = .ok (.iconst 1, 1) := by decide +kernel
theorem dX11_image_13 : decode cX11_image 13 = .ok (.putfield 76, 3) := by decide +kernel
theorem dX11_image_16 : decode cX11_image 16 = .ok (.aload_n 0, 1) := by decide +kernel
theorem dX11_image_17 : decode cX11_image 17 = .ok (.getfield 18, 3) := by decide +kernel
theorem dX11_image_20 : decode cX11_image 20 = .ok (.getfield 104, 3) := by decide +kernel
theorem dX11_image_23 : decode cX11_image 23 = .ok (.getfield 108, 3) := by decide +kernel
theorem dX11_image_26 : decode cX11_image 26 = .ok (.ireturn, 1) := by decide +kernel
def f_X11_image (S : SH) (a0 : Nat) (μ : Mem) : Option (Int32 × Mem) :=
  if isO S 11 a0 = true then
  (gR S 11 a0 1).bind fun v1 =>
  (gR S 11 a0 0).bind fun v2 =>
  (f_X2_become S v1 v2 μ).bind fun q3 =>
  (pZ S 11 a0 11 1 q3.2).bind fun ν4 =>
  (gR S 11 a0 1).bind fun v5 =>
  (gR S 2 v5 1).bind fun v6 =>
  (gI S 5 v6 4 ν4).bind fun v7 =>
  some (v7, ν4)
  else none
set_option maxRecDepth 100000 in
set_option maxHeartbeats 4000000 in
theorem c_X11_image {l : Launch} {γ : GE} {S : SH} {a0 : Nat} {μ : Mem} {X : (Int32 × Mem)} (h : f_X11_image S a0 μ = some X) : isO S 11 a0 = true ∧ Ct l γ yX11_image cX11_image 1 (some .int) rm_X11_image [.ref (gb γ + a0)] S μ S X.2 (some (.int X.1)) := by
  unfold f_X11_image at h
  obtain ⟨h0, h⟩ := if_some h
  refine ⟨h0, ?_⟩
  have hJ : ∀ (p : Program) (e : Env) (s : State) (m : MethodId) (args : Array Value) (below : List Frame) (meth : Method) (c : Code), FX γ p s m args meth c cX11_image RX11 1 → meth.sig.returnType = (some .int) → JJ γ p l e rm_X11_image s m args below meth c 1 0 0 (QI below γ S X args s 0 0) S μ 0 [(0, .ref (gb γ + a0))] [] := by
    intro p e s m args below meth c F hr
    refine j_aload_n F 0 dX11_image_0 rfl ?_
    refine j_gR F fl_RX11_18 rfl dX11_image_1 h (fun v1 h => ?_)
    refine j_aload_n F 0 dX11_image_4 rfl ?_
    refine j_gR F fl_RX11_12 rfl dX11_image_5 h (fun v2 h => ?_)
    refine j_cVV F mi_X2_become w_673 (rest := []) h (fun _ g => c_X2_become g) rfl rfl (Nat.le_of_ble_eq_true rfl) ⟨Nat.le_of_ble_eq_true rfl, Nat.le_of_ble_eq_true rfl⟩ ⟨Nat.le_of_ble_eq_true rfl, Nat.le_of_ble_eq_true rfl⟩ dX11_image_8 (fun q3 h => ?_)
    refine j_aload_n F 0 dX11_image_11 rfl ?_
    refine j_iconst F 1 dX11_image_12 (by decide) ?_
    refine j_pZ F fl_RX11_76 rfl dX11_image_13 h (fun ν4 h => ?_)
    refine j_aload_n F 0 dX11_image_16 rfl ?_
    refine j_gR F fl_RX11_18 rfl dX11_image_17 h (fun v5 h => ?_)
    refine j_gR F fl_RX11_104 rfl dX11_image_20 h (fun v6 h => ?_)
    refine j_gI F fl_RX11_108.l rfl dX11_image_23 h (fun v7 h => ?_)
    exact j_iret F hr dX11_image_26 h
  exact ct_of (by decide +kernel) (Nat.le_of_ble_eq_true rfl) (fun p e s m args below meth c F hr _ => hJ p e s m args below meth c F hr)
def rm_X11_undo : Room := { frames := 3, cells := 0, slots := 0, locals := 104 }
theorem dX11_undo_0 : decode cX11_undo 0 = .ok (.aload_n 0, 1) := by decide +kernel
theorem dX11_undo_1 : decode cX11_undo 1 = .ok (.getfield 76, 3) := by decide +kernel
theorem dX11_undo_4 : decode cX11_undo 4 = .ok (.ifCond .ne 6, 3) := by decide +kernel
theorem dX11_undo_7 : decode cX11_undo 7 = .ok (.bipush (-3), 2) := by decide +kernel
theorem dX11_undo_9 : decode cX11_undo 9 = .ok (.ireturn, 1) := by decide +kernel
theorem dX11_undo_10 : decode cX11_undo 10 = .ok (.aload_n 0, 1) := by decide +kernel
theorem dX11_undo_11 : decode cX11_undo 11 = .ok (.getfield 12, 3) := by decide +kernel
theorem dX11_undo_14 : decode cX11_undo 14 = .ok (.aload_n 0, 1) := by decide +kernel
theorem dX11_undo_15 : decode cX11_undo 15 = .ok (.getfield 18, 3) := by decide +kernel
theorem dX11_undo_18 : decode cX11_undo 18 = .ok (.invokevirtual 234, 3) := by decide +kernel
theorem dX11_undo_21 : decode cX11_undo 21 = .ok (.aload_n 0, 1) := by decide +kernel
theorem dX11_undo_22 : decode cX11_undo 22 = .ok (.getfield 12, 3) := by decide +kernel
theorem dX11_undo_25 : decode cX11_undo 25 = .ok (.getfield 104, 3) := by decide +kernel
theorem dX11_undo_28 : decode cX11_undo 28 = .ok (.getfield 108, 3) := by decide +kernel
theorem dX11_undo_31 : decode cX11_undo 31 = .ok (.ireturn, 1) := by decide +kernel
def f_X11_undo (S : SH) (a0 : Nat) (μ : Mem) : Option (Int32 × Mem) :=
  if isO S 11 a0 = true then
  (gI S 11 a0 11 μ).bind fun v1 =>
  (if v1 = 0 then
  some ((-3), μ)
  else
  (gR S 11 a0 0).bind fun v2 =>
  (gR S 11 a0 1).bind fun v3 =>
  (f_X2_become S v2 v3 μ).bind fun q4 =>
  (gR S 11 a0 0).bind fun v5 =>
  (gR S 2 v5 1).bind fun v6 =>
  (gI S 5 v6 4 q4.2).bind fun v7 =>
  some (v7, q4.2))
  else none
set_option maxRecDepth 100000 in
set_option maxHeartbeats 4000000 in
theorem c_X11_undo {l : Launch} {γ : GE} {S : SH} {a0 : Nat} {μ : Mem} {X : (Int32 × Mem)} (h : f_X11_undo S a0 μ = some X) : isO S 11 a0 = true ∧ Ct l γ yX11_undo cX11_undo 1 (some .int) rm_X11_undo [.ref (gb γ + a0)] S μ S X.2 (some (.int X.1)) := by
  unfold f_X11_undo at h
  obtain ⟨h0, h⟩ := if_some h
  refine ⟨h0, ?_⟩
  have hJ : ∀ (p : Program) (e : Env) (s : State) (m : MethodId) (args : Array Value) (below : List Frame) (meth : Method) (c : Code), FX γ p s m args meth c cX11_undo RX11 1 → meth.sig.returnType = (some .int) → JJ γ p l e rm_X11_undo s m args below meth c 1 0 0 (QI below γ S X args s 0 0) S μ 0 [(0, .ref (gb γ + a0))] [] := by
    intro p e s m args below meth c F hr
    refine j_aload_n F 0 dX11_undo_0 rfl ?_
    refine j_gI F fl_RX11_76.l rfl dX11_undo_1 h (fun v1 h => ?_)
    refine j_ifne F 10 dX11_undo_4 (by decide) h (fun _ h => ?_) (fun _ h => ?_)
    · refine j_aload_n F 0 dX11_undo_10 rfl ?_
      refine j_gR F fl_RX11_12 rfl dX11_undo_11 h (fun v2 h => ?_)
      refine j_aload_n F 0 dX11_undo_14 rfl ?_
      refine j_gR F fl_RX11_18 rfl dX11_undo_15 h (fun v3 h => ?_)
      refine j_cVV F mi_X2_become w_673 (rest := []) h (fun _ g => c_X2_become g) rfl rfl (Nat.le_of_ble_eq_true rfl) ⟨Nat.le_of_ble_eq_true rfl, Nat.le_of_ble_eq_true rfl⟩ ⟨Nat.le_of_ble_eq_true rfl, Nat.le_of_ble_eq_true rfl⟩ dX11_undo_18 (fun q4 h => ?_)
      refine j_aload_n F 0 dX11_undo_21 rfl ?_
      refine j_gR F fl_RX11_12 rfl dX11_undo_22 h (fun v5 h => ?_)
      refine j_gR F fl_RX11_104 rfl dX11_undo_25 h (fun v6 h => ?_)
      refine j_gI F fl_RX11_108.l rfl dX11_undo_28 h (fun v7 h => ?_)
      exact j_iret F hr dX11_undo_31 h
    · refine j_bipush F (-3) dX11_undo_7 (by decide) ?_
      exact j_iret F hr dX11_undo_9 h
  exact ct_of (by decide +kernel) (Nat.le_of_ble_eq_true rfl) (fun p e s m args below meth c F hr _ => hJ p e s m args below meth c F hr)
