def rm_X9_readNumber : Room := { frames := 2, cells := 0, slots := 0, locals := 43 }
theorem dX9_readNumber_0 : decode cX9_readNumber 0 = .ok (.aload_n 0, 1) := by decide +kernel
theorem dX9_readNumber_1 : decode cX9_readNumber 1 = .ok (.getfield 22, 3) := by decide +kernel
theorem dX9_readNumber_4 : decode cX9_readNumber 4 = .ok (.istore_n 3, 1) := by decide +kernel
theorem dX9_readNumber_5 : decode cX9_readNumber 5 = .ok (.aload_n 0, 1) := by decide +kernel
theorem dX9_readNumber_6 : decode cX9_readNumber 6 = .ok (.getfield 15, 3) := by decide +kernel
theorem dX9_readNumber_9 : decode cX9_readNumber 9 = .ok (.iload_n 3, 1) := by decide +kernel
theorem dX9_readNumber_10 : decode cX9_readNumber 10 = .ok (.iconst 4, 1) := by decide +kernel
theorem dX9_readNumber_11 : decode cX9_readNumber 11 = .ok (.iadd, 1) := by decide +kernel
theorem dX9_readNumber_12 : decode cX9_readNumber 12 = .ok (.invokestatic 47, 3) := by decide +kernel
theorem dX9_readNumber_15 : decode cX9_readNumber 15 = .ok (.istore 4, 2) := by decide +kernel
theorem dX9_readNumber_17 : decode cX9_readNumber 17 = .ok (.iconst 0, 1) := by decide +kernel
theorem dX9_readNumber_18 : decode cX9_readNumber 18 = .ok (.istore 5, 2) := by decide +kernel
theorem dX9_readNumber_20 : decode cX9_readNumber 20 = .ok (.aload_n 0, 1) := by decide +kernel
theorem dX9_readNumber_21 : decode cX9_readNumber 21 = .ok (.getfield 22, 3) := by decide +kernel
theorem dX9_readNumber_24 : decode cX9_readNumber 24 = .ok (.iload 4, 2) := by decide +kernel
theorem dX9_readNumber_26 : decode cX9_readNumber 26 = .ok (.if_icmp .ge 64, 3) := by decide +kernel
theorem dX9_readNumber_29 : decode cX9_readNumber 29 = .ok (.aload_n 0, 1) := by decide +kernel
theorem dX9_readNumber_30 : decode cX9_readNumber 30 = .ok (.getfield 9, 3) := by decide +kernel
theorem dX9_readNumber_33 : decode cX9_readNumber 33 = .ok (.aload_n 0, 1) := by decide +kernel
theorem dX9_readNumber_34 : decode cX9_readNumber 34 = .ok (.getfield 22, 3) := by decide +kernel
theorem dX9_readNumber_37 : decode cX9_readNumber 37 = .ok (.baload, 1) := by decide +kernel
theorem dX9_readNumber_38 : decode cX9_readNumber 38 = .ok (.bipush 48, 2) := by decide +kernel
theorem dX9_readNumber_40 : decode cX9_readNumber 40 = .ok (.if_icmp .lt 50, 3) := by decide +kernel
theorem dX9_readNumber_43 : decode cX9_readNumber 43 = .ok (.aload_n 0, 1) := by decide +kernel
theorem dX9_readNumber_44 : decode cX9_readNumber 44 = .ok (.getfield 9, 3) := by decide +kernel
theorem dX9_readNumber_47 : decode cX9_readNumber 47 = .ok (.aload_n 0, 1) := by decide +kernel
theorem dX9_readNumber_48 : decode cX9_readNumber 48 = .ok (.getfield 22, 3) := by decide +kernel
theorem dX9_readNumber_51 : decode cX9_readNumber 51 = .ok (.baload, 1) := by decide +kernel
theorem dX9_readNumber_52 : decode cX9_readNumber 52 = .ok (.bipush 57, 2) := by decide +kernel
theorem dX9_readNumber_54 : decode cX9_readNumber 54 = .ok (.if_icmp .gt 36, 3) := by decide +kernel
theorem dX9_readNumber_57 : decode cX9_readNumber 57 = .ok (.iload 5, 2) := by decide +kernel
theorem dX9_readNumber_59 : decode cX9_readNumber 59 = .ok (.bipush 10, 2) := by decide +kernel
theorem dX9_readNumber_61 : decode cX9_readNumber 61 = .ok (.imul, 1) := by decide +kernel
theorem dX9_readNumber_62 : decode cX9_readNumber 62 = .ok (.aload_n 0, 1) := by decide +kernel
theorem dX9_readNumber_63 : decode cX9_readNumber 63 = .ok (.getfield 9, 3) := by decide +kernel
theorem dX9_readNumber_66 : decode cX9_readNumber 66 = .ok (.aload_n 0, 1) := by decide +kernel
theorem dX9_readNumber_67 : decode cX9_readNumber 67 = .ok (.getfield 22, 3) := by decide +kernel
theorem dX9_readNumber_70 : decode cX9_readNumber 70 = .ok (.baload, 1) := by decide +kernel
theorem dX9_readNumber_71 : decode cX9_readNumber 71 = .ok (.iadd, 1) := by decide +kernel
theorem dX9_readNumber_72 : decode cX9_readNumber 72 = .ok (.bipush 48, 2) := by decide +kernel
theorem dX9_readNumber_74 : decode cX9_readNumber 74 = .ok (.isub, 1) := by decide +kernel
theorem dX9_readNumber_75 : decode cX9_readNumber 75 = .ok (.istore 5, 2) := by decide +kernel
theorem dX9_readNumber_77 : decode cX9_readNumber 77 = .ok (.aload_n 0, 1) := by decide +kernel
theorem dX9_readNumber_78 : decode cX9_readNumber 78 = .ok (.dup, 1) := by decide +kernel
theorem dX9_readNumber_79 : decode cX9_readNumber 79 = .ok (.getfield 22, 3) := by decide +kernel
theorem dX9_readNumber_82 : decode cX9_readNumber 82 = .ok (.iconst 1, 1) := by decide +kernel
theorem dX9_readNumber_83 : decode cX9_readNumber 83 = .ok (.iadd, 1) := by decide +kernel
theorem dX9_readNumber_84 : decode cX9_readNumber 84 = .ok (.putfield 22, 3) := by decide +kernel
theorem dX9_readNumber_87 : decode cX9_readNumber 87 = .ok (.goto (-67), 3) := by decide +kernel
theorem dX9_readNumber_90 : decode cX9_readNumber 90 = .ok (.aload_n 0, 1) := by decide +kernel
theorem dX9_readNumber_91 : decode cX9_readNumber 91 = .ok (.getfield 22, 3) := by decide +kernel
theorem dX9_readNumber_94 : decode cX9_readNumber 94 = .ok (.iload_n 3, 1) := by decide +kernel
theorem dX9_readNumber_95 : decode cX9_readNumber 95 = .ok (.if_icmp .eq 12, 3) := by decide +kernel
theorem dX9_readNumber_98 : decode cX9_readNumber 98 = .ok (.iload_n 2, 1) := by decide +kernel
theorem dX9_readNumber_99 : decode cX9_readNumber 99 = .ok (.iload 5, 2) := by decide +kernel
theorem dX9_readNumber_101 : decode cX9_readNumber 101 = .ok (.invokestatic 53, 3) := by decide +kernel
theorem dX9_readNumber_104 : decode cX9_readNumber 104 = .ok (.ifCond .ne 5, 3) := by decide +kernel
theorem dX9_readNumber_107 : decode cX9_readNumber 107 = .ok (.iload_n 3, 1) := by decide +kernel
theorem dX9_readNumber_108 : decode cX9_readNumber 108 = .ok (.ireturn, 1) := by decide +kernel
theorem dX9_readNumber_109 : decode cX9_readNumber 109 = .ok (.aload_n 1, 1) := by decide +kernel
theorem dX9_readNumber_110 : decode cX9_readNumber 110 = .ok (.iload_n 2, 1) := by decide +kernel
theorem dX9_readNumber_111 : decode cX9_readNumber 111 = .ok (.iload 5, 2) := by decide +kernel
theorem dX9_readNumber_113 : decode cX9_readNumber 113 = .ok (.invokevirtual 35, 3) := by decide +kernel
theorem dX9_readNumber_116 : decode cX9_readNumber 116 = .ok (.iconst (-1), 1) := by decide +kernel
theorem dX9_readNumber_117 : decode cX9_readNumber 117 = .ok (.ireturn, 1) := by decide +kernel
def b_X9_readNumber_90 (S : SH) (a0 : Nat) (a1 : Nat) (a2 : Int32) (a3 : Int32) (a5 : Int32) (μ : Mem) : Option (Int32 × Mem) :=
 (gI S 9 a0 2 μ).bind fun v5 =>
 (if v5 = a3 then
 some (a3, μ)
 else
 (f_X11_fitsDial S a2 a5 μ).bind fun q6 =>
 (if q6.1 = 0 then
 some (a3, q6.2)
 else
 (f_X6_append S a1 a2 a5 q6.2).bind fun q7 =>
 some ((-1), q7.2)))
set_option maxRecDepth 100000 in
set_option maxHeartbeats 4000000 in
theorem s_X9_readNumber_90 {γ : GE} {p : Program} {l : Launch} {e : Env} {s : State} {m : MethodId} {args : Array Value} {below : List Frame} {meth : Method} {c : Code} {S : SH} {X : (Int32 × Mem)} (F : FX γ p s m args meth c cX9_readNumber RX9 6) (hr : meth.sig.returnType = (some .int)) (a0 : Nat) (a1 : Nat) (a2 : Int32) (a3 : Int32) (a5 : Int32)    (μ : Mem) (h : b_X9_readNumber_90 S a0 a1 a2 a3 a5 μ = some X) : JJ γ p l e rm_X9_readNumber s m args below meth c 6 0 0 (QI below γ S X args s 0 0) S μ 90 [(0, .ref (gb γ + a0)), (1, .ref (gb γ + a1)), (2, .int a2), (3, .int a3), (5, .int a5)] [] := by
  unfold b_X9_readNumber_90 at h
  refine j_aload_n F 0 dX9_readNumber_90 rfl ?_
  refine j_gI F fl_RX9_22.l rfl dX9_readNumber_91 h (fun v5 h => ?_)
  refine j_iload_n F 3 dX9_readNumber_94 rfl ?_
  refine j_icmpeq F 107 dX9_readNumber_95 (by decide) h (fun _ h => ?_) (fun _ h => ?_)
  · refine j_iload_n F 3 dX9_readNumber_107 rfl ?_
    exact j_iret F hr dX9_readNumber_108 h
  · refine j_iload_n F 2 dX9_readNumber_98 rfl ?_
    refine j_iload F 4 dX9_readNumber_99 rfl ?_
    refine j_cNI F mi_X11_fitsDial (by decide +kernel) (rest := []) h (fun _ g => c_X11_fitsDial g) rfl rfl (Nat.le_of_ble_eq_true rfl) ⟨Nat.le_of_ble_eq_true rfl, Nat.le_of_ble_eq_true rfl⟩ ⟨Nat.le_of_ble_eq_true rfl, Nat.le_of_ble_eq_true rfl⟩ dX9_readNumber_101 (fun q6 h => ?_)
    refine j_ifne F 109 dX9_readNumber_104 (by decide) h (fun _ h => ?_) (fun _ h => ?_)
    · refine j_aload_n F 1 dX9_readNumber_109 rfl ?_
      refine j_iload_n F 2 dX9_readNumber_110 rfl ?_
      refine j_iload F 4 dX9_readNumber_111 rfl ?_
      refine j_cVV F mi_X6_append w_806 (rest := []) h (fun _ g => c_X6_append g) rfl rfl (Nat.le_of_ble_eq_true rfl) ⟨Nat.le_of_ble_eq_true rfl, Nat.le_of_ble_eq_true rfl⟩ ⟨Nat.le_of_ble_eq_true rfl, Nat.le_of_ble_eq_true rfl⟩ dX9_readNumber_113 (fun q7 h => ?_)
      refine j_iconst F (-1) dX9_readNumber_116 (by decide) ?_
      exact j_iret F hr dX9_readNumber_117 h
    · refine j_iload_n F 3 dX9_readNumber_107 rfl ?_
      exact j_iret F hr dX9_readNumber_108 h
def l_X9_readNumber_20 (S : SH) (a0 : Nat) (a1 : Nat) (a2 : Int32) (a3 : Int32) (a4 : Int32) (k20 : (Int32 × Mem) → Option (Int32 × Mem)) (x : (Int32 × Mem)) : Option (Int32 × Mem) :=
 (gI S 9 a0 2 x.2).bind fun v4 =>
 (if a4 ≤ v4 then
 b_X9_readNumber_90 S a0 a1 a2 a3 x.1 x.2
 else
 (gR S 9 a0 0).bind fun v8 =>
 (gI S 9 a0 2 x.2).bind fun v9 =>
 (aI S .byte v8 v9 x.2).bind fun v10 =>
 (if v10 < 48 then
 b_X9_readNumber_90 S a0 a1 a2 a3 x.1 x.2
 else
 (gR S 9 a0 0).bind fun v11 =>
 (gI S 9 a0 2 x.2).bind fun v12 =>
 (aI S .byte v11 v12 x.2).bind fun v13 =>
 (if 57 < v13 then
 b_X9_readNumber_90 S a0 a1 a2 a3 x.1 x.2
 else
 (gR S 9 a0 0).bind fun v14 =>
 (gI S 9 a0 2 x.2).bind fun v15 =>
 (aI S .byte v14 v15 x.2).bind fun v16 =>
 (some (((x.1 * 10) + v16) - 48)).bind fun y17 =>
 (gI S 9 a0 2 x.2).bind fun v18 =>
 (pI S 9 a0 2 (v18 + 1) x.2).bind fun ν19 =>
 k20 (y17, ν19))))
set_option maxRecDepth 100000 in
set_option maxHeartbeats 4000000 in
theorem t_X9_readNumber_20 {γ : GE} {p : Program} {l : Launch} {e : Env} {s : State} {m : MethodId} {args : Array Value} {below : List Frame} {meth : Method} {c : Code} {S : SH} {X : (Int32 × Mem)} (F : FX γ p s m args meth c cX9_readNumber RX9 6) (hr : meth.sig.returnType = (some .int)) (a0 : Nat) (a1 : Nat) (a2 : Int32) (a3 : Int32) (a4 : Int32) (k20 : (Int32 × Mem) → Option (Int32 × Mem)) (hk20 : ∀ (x20_5 : Int32) (ν : Mem), k20 (x20_5, ν) = some X → JJ γ p l e rm_X9_readNumber s m args below meth c 6 0 0 (QI below γ S X args s 0 0) S ν 20 [(0, .ref (gb γ + a0)), (1, .ref (gb γ + a1)), (2, .int a2), (3, .int a3), (4, .int a4), (5, .int x20_5)] []) (x : (Int32 × Mem)) (h : l_X9_readNumber_20 S a0 a1 a2 a3 a4 k20 x = some X) : JJ γ p l e rm_X9_readNumber s m args below meth c 6 0 0 (QI below γ S X args s 0 0) S x.2 20 [(0, .ref (gb γ + a0)), (1, .ref (gb γ + a1)), (2, .int a2), (3, .int a3), (4, .int a4), (5, .int x.1)] [] := by
  unfold l_X9_readNumber_20 at h
  refine j_aload_n F 0 dX9_readNumber_20 rfl ?_
  refine j_gI F fl_RX9_22.l rfl dX9_readNumber_21 h (fun v4 h => ?_)
  refine j_iload F 4 dX9_readNumber_24 rfl ?_
  refine j_icmpge F 90 dX9_readNumber_26 (by decide) h (fun _ h => ?_) (fun _ h => ?_)
  · refine j_lv [(0, .ref (gb γ + a0)), (1, .ref (gb γ + a1)), (2, .int a2), (3, .int a3), (5, .int x.1)] [0, 1, 2, 3, 5] rfl ?_
    exact s_X9_readNumber_90 F hr _ _ _ _ _ _ h
  · refine j_aload_n F 0 dX9_readNumber_29 rfl ?_
    refine j_gR F fl_RX9_9 rfl dX9_readNumber_30 h (fun v8 h => ?_)
    refine j_aload_n F 0 dX9_readNumber_33 rfl ?_
    refine j_gI F fl_RX9_22.l rfl dX9_readNumber_34 h (fun v9 h => ?_)
    refine j_bald F dX9_readNumber_37 h (fun v10 h => ?_)
    refine j_bipush F 48 dX9_readNumber_38 (by decide) ?_
    refine j_icmplt F 90 dX9_readNumber_40 (by decide) h (fun _ h => ?_) (fun _ h => ?_)
    · refine j_lv [(0, .ref (gb γ + a0)), (1, .ref (gb γ + a1)), (2, .int a2), (3, .int a3), (5, .int x.1)] [0, 1, 2, 3, 5] rfl ?_
      exact s_X9_readNumber_90 F hr _ _ _ _ _ _ h
    · refine j_aload_n F 0 dX9_readNumber_43 rfl ?_
      refine j_gR F fl_RX9_9 rfl dX9_readNumber_44 h (fun v11 h => ?_)
      refine j_aload_n F 0 dX9_readNumber_47 rfl ?_
      refine j_gI F fl_RX9_22.l rfl dX9_readNumber_48 h (fun v12 h => ?_)
      refine j_bald F dX9_readNumber_51 h (fun v13 h => ?_)
      refine j_bipush F 57 dX9_readNumber_52 (by decide) ?_
      refine j_icmpgt F 90 dX9_readNumber_54 (by decide) h (fun _ h => ?_) (fun _ h => ?_)
      · refine j_lv [(0, .ref (gb γ + a0)), (1, .ref (gb γ + a1)), (2, .int a2), (3, .int a3), (5, .int x.1)] [0, 1, 2, 3, 5] rfl ?_
        exact s_X9_readNumber_90 F hr _ _ _ _ _ _ h
      · refine j_iload F 5 dX9_readNumber_57 rfl ?_
        refine j_bipush F 10 dX9_readNumber_59 (by decide) ?_
        refine j_imul F dX9_readNumber_61 ?_
        refine j_aload_n F 0 dX9_readNumber_62 rfl ?_
        refine j_gR F fl_RX9_9 rfl dX9_readNumber_63 h (fun v14 h => ?_)
        refine j_aload_n F 0 dX9_readNumber_66 rfl ?_
        refine j_gI F fl_RX9_22.l rfl dX9_readNumber_67 h (fun v15 h => ?_)
        refine j_bald F dX9_readNumber_70 h (fun v16 h => ?_)
        refine j_iadd F dX9_readNumber_71 ?_
        refine j_bipush F 48 dX9_readNumber_72 (by decide) ?_
        refine j_isub F dX9_readNumber_74 ?_
        refine j_nmI h (fun y17 h => ?_)
        refine j_istore F [(5, .int y17), (0, .ref (gb γ + a0)), (1, .ref (gb γ + a1)), (2, .int a2), (3, .int a3), (4, .int a4)] dX9_readNumber_75 (by decide) rfl ?_
        refine j_aload_n F 1 dX9_readNumber_77 rfl ?_
        refine j_dup F dX9_readNumber_78 rfl ?_
        refine j_gI F fl_RX9_22.l rfl dX9_readNumber_79 h (fun v18 h => ?_)
        refine j_iconst F 1 dX9_readNumber_82 (by decide) ?_
        refine j_iadd F dX9_readNumber_83 ?_
        refine j_pI F fl_RX9_22 rfl dX9_readNumber_84 h (fun ν19 h => ?_)
        refine j_goto F 20 dX9_readNumber_87 (by decide) ?_
        refine j_lv [(0, .ref (gb γ + a0)), (1, .ref (gb γ + a1)), (2, .int a2), (3, .int a3), (4, .int a4), (5, .int y17)] [1, 2, 3, 4, 5, 0] rfl ?_
        exact hk20 _ _ h
theorem s_X9_readNumber_20 {γ : GE} {p : Program} {l : Launch} {e : Env} {s : State} {m : MethodId} {args : Array Value} {below : List Frame} {meth : Method} {c : Code} {S : SH} {X : (Int32 × Mem)} (F : FX γ p s m args meth c cX9_readNumber RX9 6) (hr : meth.sig.returnType = (some .int)) (a0 : Nat) (a1 : Nat) (a2 : Int32) (a3 : Int32) (a4 : Int32) (x20_5 : Int32) (ν : Mem) (h : lpN (l_X9_readNumber_20 S a0 a1 a2 a3 a4) fu (x20_5, ν) = some X) : JJ γ p l e rm_X9_readNumber s m args below meth c 6 0 0 (QI below γ S X args s 0 0) S ν 20 [(0, .ref (gb γ + a0)), (1, .ref (gb γ + a1)), (2, .int a2), (3, .int a3), (4, .int a4), (5, .int x20_5)] [] :=
 lpN_sound (fun x => JJ γ p l e rm_X9_readNumber s m args below meth c 6 0 0 (QI below γ S X args s 0 0) S x.2 20 [(0, .ref (gb γ + a0)), (1, .ref (gb γ + a1)), (2, .int a2), (3, .int a3), (4, .int a4), (5, .int x.1)] []) (fun k20 hk20 x h => t_X9_readNumber_20 F hr a0 a1 a2 a3 a4 k20 (fun x20_5 ν h => hk20 (x20_5, ν) h) x h) fu (x20_5, ν) h
def f_X9_readNumber (S : SH) (a0 : Nat) (a1 : Nat) (a2 : Int32) (μ : Mem) : Option (Int32 × Mem) :=
  if isO S 9 a0 = true then
  (gI S 9 a0 2 μ).bind fun v1 =>
  (gI S 9 a0 1 μ).bind fun v2 =>
  (some ((if (v1 + 4) < v2 then v1 + 4 else v2))).bind fun y3 =>
  lpN (l_X9_readNumber_20 S  a0 a1 a2 v1 y3) fu (0, μ)
  else none
set_option maxRecDepth 100000 in
set_option maxHeartbeats 4000000 in
theorem c_X9_readNumber {l : Launch} {γ : GE} {S : SH} {a0 : Nat} {a1 : Nat} {a2 : Int32} {μ : Mem} {X : (Int32 × Mem)} (h : f_X9_readNumber S a0 a1 a2 μ = some X) : isO S 9 a0 = true ∧ Ct l γ yX9_readNumber cX9_readNumber 6 (some .int) rm_X9_readNumber [.ref (gb γ + a0), .ref (gb γ + a1), .int a2] S μ S X.2 (some (.int X.1)) := by
  unfold f_X9_readNumber at h
  obtain ⟨h0, h⟩ := if_some h
  refine ⟨h0, ?_⟩
  have hJ : ∀ (p : Program) (e : Env) (s : State) (m : MethodId) (args : Array Value) (below : List Frame) (meth : Method) (c : Code), FX γ p s m args meth c cX9_readNumber RX9 6 → meth.sig.returnType = (some .int) → JJ γ p l e rm_X9_readNumber s m args below meth c 6 0 0 (QI below γ S X args s 0 0) S μ 0 [(0, .ref (gb γ + a0)), (1, .ref (gb γ + a1)), (2, .int a2)] [] := by
    intro p e s m args below meth c F hr
    refine j_aload_n F 0 dX9_readNumber_0 rfl ?_
    refine j_gI F fl_RX9_22.l rfl dX9_readNumber_1 h (fun v1 h => ?_)
    refine j_istore_n F [(3, .int v1), (0, .ref (gb γ + a0)), (1, .ref (gb γ + a1)), (2, .int a2)] dX9_readNumber_4 rfl (by decide) rfl ?_
    refine j_aload_n F 1 dX9_readNumber_5 rfl ?_
    refine j_gI F fl_RX9_15.l rfl dX9_readNumber_6 h (fun v2 h => ?_)
    refine j_iload_n F 0 dX9_readNumber_9 rfl ?_
    refine j_iconst F 4 dX9_readNumber_10 (by decide) ?_
    refine j_iadd F dX9_readNumber_11 ?_
    refine j_mmin F w_822 ⟨Nat.le_of_ble_eq_true rfl, Nat.le_of_ble_eq_true rfl, Nat.le_of_ble_eq_true rfl, Nat.le_of_ble_eq_true rfl⟩ dX9_readNumber_12 mg_min ?_
    refine j_nmI h (fun y3 h => ?_)
    refine j_istore F [(4, .int y3), (3, .int v1), (0, .ref (gb γ + a0)), (1, .ref (gb γ + a1)), (2, .int a2)] dX9_readNumber_15 (by decide) rfl ?_
    refine j_iconst F 0 dX9_readNumber_17 (by decide) ?_
    refine j_istore F [(5, .int 0), (4, .int y3), (3, .int v1), (0, .ref (gb γ + a0)), (1, .ref (gb γ + a1)), (2, .int a2)] dX9_readNumber_18 (by decide) rfl ?_
    refine j_lv [(0, .ref (gb γ + a0)), (1, .ref (gb γ + a1)), (2, .int a2), (3, .int v1), (4, .int y3), (5, .int 0)] [3, 4, 5, 2, 1, 0] rfl ?_
    exact s_X9_readNumber_20 F hr _ _ _ _ _ _ _ h
  exact ct_of (by decide +kernel) (Nat.le_of_ble_eq_true rfl) (fun p e s m args below meth c F hr _ => hJ p e s m args below meth c F hr)
def rm_X9_readStep : Room := { frames := 6, cells := 0, slots := 0, locals := 184 }
theorem dX9_readStep_0 : decode cX9_readStep 0 = .ok (.aload_n 0, 1) := by decide +kernel
theorem dX9_readStep_1 : decode cX9_readStep 1 = .ok (.getfield 22, 3) := by decide +kernel
theorem dX9_readStep_4 : decode cX9_readStep 4 = .ok (.istore_n 2, 1) := by decide +kernel
theorem dX9_readStep_5 : decode cX9_readStep 5 = .ok (.aload_n 0, 1) := by decide +kernel
theorem dX9_readStep_6 : decode cX9_readStep 6 = .ok (.getfield 22, 3) := by decide +kernel
theorem dX9_readStep_9 : decode cX9_readStep 9 = .ok (.aload_n 0, 1) := by decide +kernel
theorem dX9_readStep_10 : decode cX9_readStep 10 = .ok (.getfield 15, 3) := by decide +kernel
theorem dX9_readStep_13 : decode cX9_readStep 13 = .ok (.if_icmp .ge 44, 3) := by decide +kernel
theorem dX9_readStep_16 : decode cX9_readStep 16 = .ok (.aload_n 0, 1) := by decide +kernel
theorem dX9_readStep_17 : decode cX9_readStep 17 = .ok (.getfield 9, 3) := by decide +kernel
theorem dX9_readStep_20 : decode cX9_readStep 20 = .ok (.aload_n 0, 1) := by decide +kernel
theorem dX9_readStep_21 : decode cX9_readStep 21 = .ok (.getfield 22, 3) := by decide +kernel
theorem dX9_readStep_24 : decode cX9_readStep 24 = .ok (.baload, 1) := by decide +kernel
theorem dX9_readStep_25 : decode cX9_readStep 25 = .ok (.bipush 97, 2) := by decide +kernel
theorem dX9_readStep_27 : decode cX9_readStep 27 = .ok (.if_icmp .lt 30, 3) := by decide +kernel
theorem dX9_readStep_30 : decode cX9_readStep 30 = .ok (.aload_n 0, 1) := by decide +kernel
theorem dX9_readStep_31 : decode cX9_readStep 31 = .ok (.getfield 9, 3) := by decide +kernel
theorem dX9_readStep_34 : decode cX9_readStep 34 = .ok (.aload_n 0, 1) := by decide +kernel
theorem dX9_readStep_35 : decode cX9_readStep 35 = .ok (.getfield 22, 3) := by decide +kernel
theorem dX9_readStep_38 : decode cX9_readStep 38 = .ok (.baload, 1) := by decide +kernel
theorem dX9_readStep_39 : decode cX9_readStep 39 = .ok (.bipush 122, 2) := by decide +kernel
theorem dX9_readStep_41 : decode cX9_readStep 41 = .ok (.if_icmp .gt 16, 3) := by decide +kernel
theorem dX9_readStep_44 : decode cX9_readStep 44 = .ok (.aload_n 0, 1) := by decide +kernel
theorem dX9_readStep_45 : decode cX9_readStep 45 = .ok (.dup, 1) := by decide +kernel
theorem dX9_readStep_46 : decode cX9_readStep 46 = .ok (.getfield 22, 3) := by decide +kernel
theorem dX9_readStep_49 : decode cX9_readStep 49 = .ok (.iconst 1, 1) := by decide +kernel
theorem dX9_readStep_50 : decode cX9_readStep 50 = .ok (.iadd, 1) := by decide +kernel
theorem dX9_readStep_51 : decode cX9_readStep 51 = .ok (.putfield 22, 3) := by decide +kernel
theorem dX9_readStep_54 : decode cX9_readStep 54 = .ok (.goto (-49), 3) := by decide +kernel
theorem dX9_readStep_57 : decode cX9_readStep 57 = .ok (.aload_n 0, 1) := by decide +kernel
theorem dX9_readStep_58 : decode cX9_readStep 58 = .ok (.iload_n 2, 1) := by decide +kernel
theorem dX9_readStep_59 : decode cX9_readStep 59 = .ok (.ldc 29, 2) := by decide +kernel
theorem dX9_readStep_61 : decode cX9_readStep 61 = .ok (.invokevirtual 31, 3) := by decide +kernel
theorem dX9_readStep_64 : decode cX9_readStep 64 = .ok (.ifCond .eq 11, 3) := by decide +kernel
theorem dX9_readStep_67 : decode cX9_readStep 67 = .ok (.aload_n 1, 1) := by decide +kernel
theorem dX9_readStep_68 : decode cX9_readStep 68 = .ok (.iconst 3, 1) := by decide +kernel
theorem dX9_readStep_69 : decode cX9_readStep 69 = .ok (.iconst 0, 1) := by decide +kernel
theorem dX9_readStep_70 : decode cX9_readStep 70 = .ok (.invokevirtual 35, 3) := by decide +kernel
theorem dX9_readStep_73 : decode cX9_readStep 73 = .ok (.iconst (-1), 1) := by decide +kernel
theorem dX9_readStep_74 : decode cX9_readStep 74 = .ok (.ireturn, 1) := by decide +kernel
theorem dX9_readStep_75 : decode cX9_readStep 75 = .ok (.aload_n 0, 1) := by decide +kernel
theorem dX9_readStep_76 : decode cX9_readStep 76 = .ok (.iload_n 2, 1) := by decide +kernel
theorem dX9_readStep_77 : decode cX9_readStep 77 = .ok (.invokevirtual 39, 3) := by decide +kernel
theorem dX9_readStep_80 : decode cX9_readStep 80 = .ok (.istore_n 3, 1) := by decide +kernel
theorem dX9_readStep_81 : decode cX9_readStep 81 = .ok (.iload_n 3, 1) := by decide +kernel
theorem dX9_readStep_82 : decode cX9_readStep 82 = .ok (.iconst (-1), 1) := by decide +kernel
theorem dX9_readStep_83 : decode cX9_readStep 83 = .ok (.if_icmp .ne 5, 3) := by decide +kernel
theorem dX9_readStep_86 : decode cX9_readStep 86 = .ok (.iload_n 2, 1) := by decide +kernel
theorem dX9_readStep_87 : decode cX9_readStep 87 = .ok (.ireturn, 1) := by decide +kernel
theorem dX9_readStep_88 : decode cX9_readStep 88 = .ok (.aload_n 0, 1) := by decide +kernel
theorem dX9_readStep_89 : decode cX9_readStep 89 = .ok (.getfield 22, 3) := by decide +kernel
theorem dX9_readStep_92 : decode cX9_readStep 92 = .ok (.aload_n 0, 1) := by decide +kernel
theorem dX9_readStep_93 : decode cX9_readStep 93 = .ok (.getfield 15, 3) := by decide +kernel
theorem dX9_readStep_96 : decode cX9_readStep 96 = .ok (.if_icmp .eq 17, 3) := by decide +kernel
theorem dX9_readStep_99 : decode cX9_readStep 99 = .ok (.aload_n 0, 1) := by decide +kernel
theorem dX9_readStep_100 : decode cX9_readStep 100 = .ok (.getfield 9, 3) := by decide +kernel
theorem dX9_readStep_103 : decode cX9_readStep 103 = .ok (.aload_n 0, 1) := by decide +kernel
theorem dX9_readStep_104 : decode cX9_readStep 104 = .ok (.getfield 22, 3) := by decide +kernel
theorem dX9_readStep_107 : decode cX9_readStep 107 = .ok (.baload, 1) := by decide +kernel
theorem dX9_readStep_108 : decode cX9_readStep 108 = .ok (.bipush 32, 2) := by decide +kernel
theorem dX9_readStep_110 : decode cX9_readStep 110 = .ok (.if_icmp .eq 8, 3) := by decide +kernel
theorem dX9_readStep_113 : decode cX9_readStep 113 = .ok (.aload_n 0, 1) := by decide +kernel
theorem dX9_readStep_114 : decode cX9_readStep 114 = .ok (.getfield 22, 3) := by decide +kernel
theorem dX9_readStep_117 : decode cX9_readStep 117 = .ok (.ireturn, 1) := by decide +kernel
theorem dX9_readStep_118 : decode cX9_readStep 118 = .ok (.aload_n 0, 1) := by decide +kernel
theorem dX9_readStep_119 : decode cX9_readStep 119 = .ok (.dup, 1) := by decide +kernel
theorem dX9_readStep_120 : decode cX9_readStep 120 = .ok (.getfield 22, 3) := by decide +kernel
theorem dX9_readStep_123 : decode cX9_readStep 123 = .ok (.iconst 1, 1) := by decide +kernel
theorem dX9_readStep_124 : decode cX9_readStep 124 = .ok (.iadd, 1) := by decide +kernel
theorem dX9_readStep_125 : decode cX9_readStep 125 = .ok (.putfield 22, 3) := by decide +kernel
theorem dX9_readStep_128 : decode cX9_readStep 128 = .ok (.aload_n 0, 1) := by decide +kernel
theorem dX9_readStep_129 : decode cX9_readStep 129 = .ok (.aload_n 1, 1) := by decide +kernel
theorem dX9_readStep_130 : decode cX9_readStep 130 = .ok (.iload_n 3, 1) := by decide +kernel
theorem dX9_readStep_131 : decode cX9_readStep 131 = .ok (.invokevirtual 43, 3) := by decide +kernel
theorem dX9_readStep_134 : decode cX9_readStep 134 = .ok (.ireturn, 1) := by decide +kernel
def b_X9_readStep_57 (S : SH) (a0 : Nat) (a1 : Nat) (a2 : Int32) (μ : Mem) : Option (Int32 × Mem) :=
 (f_X9_spells S a0 a2 0 μ).bind fun q4 =>
 (if q4.1 = 0 then
 (f_X9_dialOfWord S a0 a2 q4.2).bind fun q5 =>
 (if q5.1 = (-1) then
 some (a2, q5.2)
 else
 (gI S 9 a0 2 q5.2).bind fun v6 =>
 (gI S 9 a0 1 q5.2).bind fun v7 =>
 (if v6 = v7 then
 (gI S 9 a0 2 q5.2).bind fun v8 =>
 some (v8, q5.2)
 else
 (gR S 9 a0 0).bind fun v9 =>
 (gI S 9 a0 2 q5.2).bind fun v10 =>
 (aI S .byte v9 v10 q5.2).bind fun v11 =>
 (if v11 = 32 then
 (gI S 9 a0 2 q5.2).bind fun v12 =>
 (pI S 9 a0 2 (v12 + 1) q5.2).bind fun ν13 =>
 (f_X9_readNumber S a0 a1 q5.1 ν13).bind fun q14 =>
 some (q14.1, q14.2)
 else
 (gI S 9 a0 2 q5.2).bind fun v15 =>
 some (v15, q5.2))))
 else
 (f_X6_append S a1 3 0 q4.2).bind fun q16 =>
 some ((-1), q16.2))
set_option maxRecDepth 100000 in
set_option maxHeartbeats 4000000 in
theorem s_X9_readStep_57 {γ : GE} {p : Program} {l : Launch} {e : Env} {s : State} {m : MethodId} {args : Array Value} {below : List Frame} {meth : Method} {c : Code} {S : SH} {X : (Int32 × Mem)} (F : FX γ p s m args meth c cX9_readStep RX9 4) (hr : meth.sig.returnType = (some .int)) (a0 : Nat) (a1 : Nat) (a2 : Int32)    (μ : Mem) (h : b_X9_readStep_57 S a0 a1 a2 μ = some X) : JJ γ p l e rm_X9_readStep s m args below meth c 4 0 0 (QI below γ S X args s 0 0) S μ 57 [(0, .ref (gb γ + a0)), (1, .ref (gb γ + a1)), (2, .int a2)] [] := by
  unfold b_X9_readStep_57 at h
  refine j_aload_n F 0 dX9_readStep_57 rfl ?_
  refine j_iload_n F 2 dX9_readStep_58 rfl ?_
  refine j_ldcS F 0 (by decide) rfl rfl dX9_readStep_59 ?_
  refine j_cVI F mi_X9_spells w_754 (rest := []) h (fun _ g => c_X9_spells g) rfl rfl (Nat.le_of_ble_eq_true rfl) ⟨Nat.le_of_ble_eq_true rfl, Nat.le_of_ble_eq_true rfl⟩ ⟨Nat.le_of_ble_eq_true rfl, Nat.le_of_ble_eq_true rfl⟩ dX9_readStep_61 (fun q4 h => ?_)
  refine j_ifeq F 75 dX9_readStep_64 (by decide) h (fun _ h => ?_) (fun _ h => ?_)
  · refine j_aload_n F 0 dX9_readStep_75 rfl ?_
    refine j_iload_n F 2 dX9_readStep_76 rfl ?_
    refine j_cVI F mi_X9_dialOfWord w_810 (rest := []) h (fun _ g => c_X9_dialOfWord g) rfl rfl (Nat.le_of_ble_eq_true rfl) ⟨Nat.le_of_ble_eq_true rfl, Nat.le_of_ble_eq_true rfl⟩ ⟨Nat.le_of_ble_eq_true rfl, Nat.le_of_ble_eq_true rfl⟩ dX9_readStep_77 (fun q5 h => ?_)
    refine j_istore_n F [(3, .int q5.1), (0, .ref (gb γ + a0)), (1, .ref (gb γ + a1)), (2, .int a2)] dX9_readStep_80 rfl (by decide) rfl ?_
    refine j_iload_n F 0 dX9_readStep_81 rfl ?_
    refine j_iconst F (-1) dX9_readStep_82 (by decide) ?_
    refine j_icmpne F 88 dX9_readStep_83 (by decide) h (fun _ h => ?_) (fun _ h => ?_)
    · refine j_aload_n F 1 dX9_readStep_88 rfl ?_
      refine j_gI F fl_RX9_22.l rfl dX9_readStep_89 h (fun v6 h => ?_)
      refine j_aload_n F 1 dX9_readStep_92 rfl ?_
      refine j_gI F fl_RX9_15.l rfl dX9_readStep_93 h (fun v7 h => ?_)
      refine j_icmpeq F 113 dX9_readStep_96 (by decide) h (fun _ h => ?_) (fun _ h => ?_)
      · refine j_aload_n F 1 dX9_readStep_113 rfl ?_
        refine j_gI F fl_RX9_22.l rfl dX9_readStep_114 h (fun v8 h => ?_)
        exact j_iret F hr dX9_readStep_117 h
      · refine j_aload_n F 1 dX9_readStep_99 rfl ?_
        refine j_gR F fl_RX9_9 rfl dX9_readStep_100 h (fun v9 h => ?_)
        refine j_aload_n F 1 dX9_readStep_103 rfl ?_
        refine j_gI F fl_RX9_22.l rfl dX9_readStep_104 h (fun v10 h => ?_)
        refine j_bald F dX9_readStep_107 h (fun v11 h => ?_)
        refine j_bipush F 32 dX9_readStep_108 (by decide) ?_
        refine j_icmpeq F 118 dX9_readStep_110 (by decide) h (fun _ h => ?_) (fun _ h => ?_)
        · refine j_aload_n F 1 dX9_readStep_118 rfl ?_
          refine j_dup F dX9_readStep_119 rfl ?_
          refine j_gI F fl_RX9_22.l rfl dX9_readStep_120 h (fun v12 h => ?_)
          refine j_iconst F 1 dX9_readStep_123 (by decide) ?_
          refine j_iadd F dX9_readStep_124 ?_
          refine j_pI F fl_RX9_22 rfl dX9_readStep_125 h (fun ν13 h => ?_)
          refine j_aload_n F 1 dX9_readStep_128 rfl ?_
          refine j_aload_n F 2 dX9_readStep_129 rfl ?_
          refine j_iload_n F 0 dX9_readStep_130 rfl ?_
          refine j_cVI F mi_X9_readNumber w_818 (rest := []) h (fun _ g => c_X9_readNumber g) rfl rfl (Nat.le_of_ble_eq_true rfl) ⟨Nat.le_of_ble_eq_true rfl, Nat.le_of_ble_eq_true rfl⟩ ⟨Nat.le_of_ble_eq_true rfl, Nat.le_of_ble_eq_true rfl⟩ dX9_readStep_131 (fun q14 h => ?_)
          exact j_iret F hr dX9_readStep_134 h
        · refine j_aload_n F 1 dX9_readStep_113 rfl ?_
          refine j_gI F fl_RX9_22.l rfl dX9_readStep_114 h (fun v15 h => ?_)
          exact j_iret F hr dX9_readStep_117 h
    · refine j_iload_n F 3 dX9_readStep_86 rfl ?_
      exact j_iret F hr dX9_readStep_87 h
  · refine j_aload_n F 1 dX9_readStep_67 rfl ?_
    refine j_iconst F 3 dX9_readStep_68 (by decide) ?_
    refine j_iconst F 0 dX9_readStep_69 (by decide) ?_
    refine j_cVV F mi_X6_append w_806 (rest := []) h (fun _ g => c_X6_append g) rfl rfl (Nat.le_of_ble_eq_true rfl) ⟨Nat.le_of_ble_eq_true rfl, Nat.le_of_ble_eq_true rfl⟩ ⟨Nat.le_of_ble_eq_true rfl, Nat.le_of_ble_eq_true rfl⟩ dX9_readStep_70 (fun q16 h => ?_)
    refine j_iconst F (-1) dX9_readStep_73 (by decide) ?_
    exact j_iret F hr dX9_readStep_74 h
def l_X9_readStep_5 (S : SH) (a0 : Nat) (a1 : Nat) (a2 : Int32) (k5 : (Mem) → Option (Int32 × Mem)) (x : (Mem)) : Option (Int32 × Mem) :=
 (gI S 9 a0 2 x).bind fun v2 =>
 (gI S 9 a0 1 x).bind fun v3 =>
 (if v3 ≤ v2 then
 b_X9_readStep_57 S a0 a1 a2 x
 else
 (gR S 9 a0 0).bind fun v17 =>
 (gI S 9 a0 2 x).bind fun v18 =>
 (aI S .byte v17 v18 x).bind fun v19 =>
 (if v19 < 97 then
 b_X9_readStep_57 S a0 a1 a2 x
 else
 (gR S 9 a0 0).bind fun v20 =>
 (gI S 9 a0 2 x).bind fun v21 =>
 (aI S .byte v20 v21 x).bind fun v22 =>
 (if 122 < v22 then
 b_X9_readStep_57 S a0 a1 a2 x
 else
 (gI S 9 a0 2 x).bind fun v23 =>
 (pI S 9 a0 2 (v23 + 1) x).bind fun ν24 =>
 k5 (ν24))))
set_option maxRecDepth 100000 in
set_option maxHeartbeats 4000000 in
theorem t_X9_readStep_5 {γ : GE} {p : Program} {l : Launch} {e : Env} {s : State} {m : MethodId} {args : Array Value} {below : List Frame} {meth : Method} {c : Code} {S : SH} {X : (Int32 × Mem)} (F : FX γ p s m args meth c cX9_readStep RX9 4) (hr : meth.sig.returnType = (some .int)) (a0 : Nat) (a1 : Nat) (a2 : Int32) (k5 : (Mem) → Option (Int32 × Mem)) (hk5 : ∀ (ν : Mem), k5 (ν) = some X → JJ γ p l e rm_X9_readStep s m args below meth c 4 0 0 (QI below γ S X args s 0 0) S ν 5 [(0, .ref (gb γ + a0)), (1, .ref (gb γ + a1)), (2, .int a2)] []) (x : (Mem)) (h : l_X9_readStep_5 S a0 a1 a2 k5 x = some X) : JJ γ p l e rm_X9_readStep s m args below meth c 4 0 0 (QI below γ S X args s 0 0) S x 5 [(0, .ref (gb γ + a0)), (1, .ref (gb γ + a1)), (2, .int a2)] [] := by
  unfold l_X9_readStep_5 at h
  refine j_aload_n F 0 dX9_readStep_5 rfl ?_
  refine j_gI F fl_RX9_22.l rfl dX9_readStep_6 h (fun v2 h => ?_)
  refine j_aload_n F 0 dX9_readStep_9 rfl ?_
  refine j_gI F fl_RX9_15.l rfl dX9_readStep_10 h (fun v3 h => ?_)
  refine j_icmpge F 57 dX9_readStep_13 (by decide) h (fun _ h => ?_) (fun _ h => ?_)
  · exact s_X9_readStep_57 F hr _ _ _ _ h
  · refine j_aload_n F 0 dX9_readStep_16 rfl ?_
    refine j_gR F fl_RX9_9 rfl dX9_readStep_17 h (fun v17 h => ?_)
    refine j_aload_n F 0 dX9_readStep_20 rfl ?_
    refine j_gI F fl_RX9_22.l rfl dX9_readStep_21 h (fun v18 h => ?_)
    refine j_bald F dX9_readStep_24 h (fun v19 h => ?_)
    refine j_bipush F 97 dX9_readStep_25 (by decide) ?_
    refine j_icmplt F 57 dX9_readStep_27 (by decide) h (fun _ h => ?_) (fun _ h => ?_)
    · exact s_X9_readStep_57 F hr _ _ _ _ h
    · refine j_aload_n F 0 dX9_readStep_30 rfl ?_
      refine j_gR F fl_RX9_9 rfl dX9_readStep_31 h (fun v20 h => ?_)
      refine j_aload_n F 0 dX9_readStep_34 rfl ?_
      refine j_gI F fl_RX9_22.l rfl dX9_readStep_35 h (fun v21 h => ?_)
      refine j_bald F dX9_readStep_38 h (fun v22 h => ?_)
      refine j_bipush F 122 dX9_readStep_39 (by decide) ?_
      refine j_icmpgt F 57 dX9_readStep_41 (by decide) h (fun _ h => ?_) (fun _ h => ?_)
      · exact s_X9_readStep_57 F hr _ _ _ _ h
      · refine j_aload_n F 0 dX9_readStep_44 rfl ?_
        refine j_dup F dX9_readStep_45 rfl ?_
        refine j_gI F fl_RX9_22.l rfl dX9_readStep_46 h (fun v23 h => ?_)
        refine j_iconst F 1 dX9_readStep_49 (by decide) ?_
        refine j_iadd F dX9_readStep_50 ?_
        refine j_pI F fl_RX9_22 rfl dX9_readStep_51 h (fun ν24 h => ?_)
        refine j_goto F 5 dX9_readStep_54 (by decide) ?_
        exact hk5  _ h
theorem s_X9_readStep_5 {γ : GE} {p : Program} {l : Launch} {e : Env} {s : State} {m : MethodId} {args : Array Value} {below : List Frame} {meth : Method} {c : Code} {S : SH} {X : (Int32 × Mem)} (F : FX γ p s m args meth c cX9_readStep RX9 4) (hr : meth.sig.returnType = (some .int)) (a0 : Nat) (a1 : Nat) (a2 : Int32) (ν : Mem) (h : lpN (l_X9_readStep_5 S a0 a1 a2) fu (ν) = some X) : JJ γ p l e rm_X9_readStep s m args below meth c 4 0 0 (QI below γ S X args s 0 0) S ν 5 [(0, .ref (gb γ + a0)), (1, .ref (gb γ + a1)), (2, .int a2)] [] :=
 lpN_sound (fun x => JJ γ p l e rm_X9_readStep s m args below meth c 4 0 0 (QI below γ S X args s 0 0) S x 5 [(0, .ref (gb γ + a0)), (1, .ref (gb γ + a1)), (2, .int a2)] []) (fun k5 hk5 x h => t_X9_readStep_5 F hr a0 a1 a2 k5 (fun ν h => hk5 (ν) h) x h) fu (ν) h
def f_X9_readStep (S : SH) (a0 : Nat) (a1 : Nat) (μ : Mem) : Option (Int32 × Mem) :=
  if isO S 9 a0 = true then
  (gI S 9 a0 2 μ).bind fun v1 =>
  lpN (l_X9_readStep_5 S  a0 a1 v1) fu (μ)
  else none
set_option maxRecDepth 100000 in
set_option maxHeartbeats 4000000 in
theorem c_X9_readStep {l : Launch} {γ : GE} {S : SH} {a0 : Nat} {a1 : Nat} {μ : Mem} {X : (Int32 × Mem)} (h : f_X9_readStep S a0 a1 μ = some X) : isO S 9 a0 = true ∧ Ct l γ yX9_readStep cX9_readStep 4 (some .int) rm_X9_readStep [.ref (gb γ + a0), .ref (gb γ + a1)] S μ S X.2 (some (.int X.1)) := by
  unfold f_X9_readStep at h
  obtain ⟨h0, h⟩ := if_some h
  refine ⟨h0, ?_⟩
  have hJ : ∀ (p : Program) (e : Env) (s : State) (m : MethodId) (args : Array Value) (below : List Frame) (meth : Method) (c : Code), FX γ p s m args meth c cX9_readStep RX9 4 → meth.sig.returnType = (some .int) → JJ γ p l e rm_X9_readStep s m args below meth c 4 0 0 (QI below γ S X args s 0 0) S μ 0 [(0, .ref (gb γ + a0)), (1, .ref (gb γ + a1))] [] := by
    intro p e s m args below meth c F hr
    refine j_aload_n F 0 dX9_readStep_0 rfl ?_
    refine j_gI F fl_RX9_22.l rfl dX9_readStep_1 h (fun v1 h => ?_)
    refine j_istore_n F [(2, .int v1), (0, .ref (gb γ + a0)), (1, .ref (gb γ + a1))] dX9_readStep_4 rfl (by decide) rfl ?_
    refine j_lv [(0, .ref (gb γ + a0)), (1, .ref (gb γ + a1)), (2, .int v1)] [1, 2, 0] rfl ?_
    exact s_X9_readStep_5 F hr _ _ _ _ h
  exact ct_of (by decide +kernel) (Nat.le_of_ble_eq_true rfl) (fun p e s m args below meth c F hr _ => hJ p e s m args below meth c F hr)
def rm_X9_readInto : Room := { frames := 7, cells := 0, slots := 0, locals := 207 }
theorem dX9_readInto_0 : decode cX9_readInto 0 = .ok (.aload_n 1, 1) := by decide +kernel
theorem dX9_readInto_1 : decode cX9_readInto 1 = .ok (.iconst 0, 1) := by decide +kernel
theorem dX9_readInto_2 : decode cX9_readInto 2 = .ok (.putfield 19, 3) := by decide +kernel
theorem dX9_readInto_5 : decode cX9_readInto 5 = .ok (.aload_n 0, 1) := by decide +kernel
theorem dX9_readInto_6 : decode cX9_readInto 6 = .ok (.iconst 0, 1) := by decide +kernel
theorem dX9_readInto_7 : decode cX9_readInto 7 = .ok (.putfield 22, 3) := by decide +kernel
theorem dX9_readInto_10 : decode cX9_readInto 10 = .ok (.iconst 0, 1) := by decide +kernel
theorem dX9_readInto_11 : decode cX9_readInto 11 = .ok (.istore_n 2, 1) := by decide +kernel
theorem dX9_readInto_12 : decode cX9_readInto 12 = .ok (.iload_n 2, 1) := by decide +kernel
theorem dX9_readInto_13 : decode cX9_readInto 13 = .ok (.bipush 100, 2) := by decide +kernel
theorem dX9_readInto_15 : decode cX9_readInto 15 = .ok (.if_icmp .gt 64, 3) := by decide +kernel
theorem dX9_readInto_18 : decode cX9_readInto 18 = .ok (.aload_n 0, 1) := by decide +kernel
theorem dX9_readInto_19 : decode cX9_readInto 19 = .ok (.aload_n 1, 1) := by decide +kernel
theorem dX9_readInto_20 : decode cX9_readInto 20 = .ok (.invokevirtual 25, 3) := by decide +kernel
theorem dX9_readInto_23 : decode cX9_readInto 23 = .ok (.istore_n 3, 1) := by decide +kernel
theorem dX9_readInto_24 : decode cX9_readInto 24 = .ok (.iload_n 3, 1) := by decide +kernel
theorem dX9_readInto_25 : decode cX9_readInto 25 = .ok (.iconst (-1), 1) := by decide +kernel
theorem dX9_readInto_26 : decode cX9_readInto 26 = .ok (.if_icmp .eq 5, 3) := by decide +kernel
theorem dX9_readInto_29 : decode cX9_readInto 29 = .ok (.iload_n 3, 1) := by decide +kernel
theorem dX9_readInto_30 : decode cX9_readInto 30 = .ok (.ireturn, 1) := by decide +kernel
theorem dX9_readInto_31 : decode cX9_readInto 31 = .ok (.aload_n 0, 1) := by decide +kernel
theorem dX9_readInto_32 : decode cX9_readInto 32 = .ok (.getfield 22, 3) := by decide +kernel
theorem dX9_readInto_35 : decode cX9_readInto 35 = .ok (.aload_n 0, 1) := by decide +kernel
theorem dX9_readInto_36 : decode cX9_readInto 36 = .ok (.getfield 15, 3) := by decide +kernel
theorem dX9_readInto_39 : decode cX9_readInto 39 = .ok (.if_icmp .ne 5, 3) := by decide +kernel
theorem dX9_readInto_42 : decode cX9_readInto 42 = .ok (.iconst (-1), 1) := by decide +kernel
theorem dX9_readInto_43 : decode cX9_readInto 43 = .ok (.ireturn, 1) := by decide +kernel
theorem dX9_readInto_44 : decode cX9_readInto 44 = .ok (.aload_n 0, 1) := by decide +kernel
theorem dX9_readInto_45 : decode cX9_readInto 45 = .ok (.getfield 9, 3) := by decide +kernel
theorem dX9_readInto_48 : decode cX9_readInto 48 = .ok (.aload_n 0, 1) := by decide +kernel
theorem dX9_readInto_49 : decode cX9_readInto 49 = .ok (.getfield 22, 3) := by decide +kernel
theorem dX9_readInto_52 : decode cX9_readInto 52 = .ok (.baload, 1) := by decide +kernel
theorem dX9_readInto_53 : decode cX9_readInto 53 = .ok (.bipush 59, 2) := by decide +kernel
theorem dX9_readInto_55 : decode cX9_readInto 55 = .ok (.if_icmp .eq 8, 3) := by decide +kernel
theorem dX9_readInto_58 : decode cX9_readInto 58 = .ok (.aload_n 0, 1) := by decide +kernel
theorem dX9_readInto_59 : decode cX9_readInto 59 = .ok (.getfield 22, 3) := by decide +kernel
theorem dX9_readInto_62 : decode cX9_readInto 62 = .ok (.ireturn, 1) := by decide +kernel
theorem dX9_readInto_63 : decode cX9_readInto 63 = .ok (.aload_n 0, 1) := by decide +kernel
theorem dX9_readInto_64 : decode cX9_readInto 64 = .ok (.dup, 1) := by decide +kernel
theorem dX9_readInto_65 : decode cX9_readInto 65 = .ok (.getfield 22, 3) := by decide +kernel
theorem dX9_readInto_68 : decode cX9_readInto 68 = .ok (.iconst 1, 1) := by decide +kernel
theorem dX9_readInto_69 : decode cX9_readInto 69 = .ok (.iadd, 1) := by decide +kernel
theorem dX9_readInto_70 : decode cX9_readInto 70 = .ok (.putfield 22, 3) := by decide +kernel
theorem dX9_readInto_73 : decode cX9_readInto 73 = .ok (.iinc 2 1, 3) := by decide +kernel
theorem dX9_readInto_76 : decode cX9_readInto 76 = .ok (.goto (-64), 3) := by decide +kernel
theorem dX9_readInto_79 : decode cX9_readInto 79 = .ok (.aload_n 0, 1) := by decide +kernel
theorem dX9_readInto_80 : decode cX9_readInto 80 = .ok (.getfield 22, 3) := by decide +kernel
theorem dX9_readInto_83 : decode cX9_readInto 83 = .ok (.ireturn, 1) := by decide +kernel
def l_X9_readInto_12 (S : SH) (a0 : Nat) (a1 : Nat) (k12 : (Int32 × Mem) → Option (Int32 × Mem)) (x : (Int32 × Mem)) : Option (Int32 × Mem) :=
 (if 100 < x.1 then
 (gI S 9 a0 2 x.2).bind fun v3 =>
 some (v3, x.2)
 else
 (f_X9_readStep S a0 a1 x.2).bind fun q4 =>
 (if q4.1 = (-1) then
 (gI S 9 a0 2 q4.2).bind fun v5 =>
 (gI S 9 a0 1 q4.2).bind fun v6 =>
 (if v5 = v6 then
 some ((-1), q4.2)
 else
 (gR S 9 a0 0).bind fun v7 =>
 (gI S 9 a0 2 q4.2).bind fun v8 =>
 (aI S .byte v7 v8 q4.2).bind fun v9 =>
 (if v9 = 59 then
 (gI S 9 a0 2 q4.2).bind fun v10 =>
 (pI S 9 a0 2 (v10 + 1) q4.2).bind fun ν11 =>
 k12 (x.1 + 1, ν11)
 else
 (gI S 9 a0 2 q4.2).bind fun v12 =>
 some (v12, q4.2)))
 else
 some (q4.1, q4.2)))
set_option maxRecDepth 100000 in
set_option maxHeartbeats 4000000 in
theorem t_X9_readInto_12 {γ : GE} {p : Program} {l : Launch} {e : Env} {s : State} {m : MethodId} {args : Array Value} {below : List Frame} {meth : Method} {c : Code} {S : SH} {X : (Int32 × Mem)} (F : FX γ p s m args meth c cX9_readInto RX9 4) (hr : meth.sig.returnType = (some .int)) (a0 : Nat) (a1 : Nat) (k12 : (Int32 × Mem) → Option (Int32 × Mem)) (hk12 : ∀ (x12_2 : Int32) (ν : Mem), k12 (x12_2, ν) = some X → JJ γ p l e rm_X9_readInto s m args below meth c 4 0 0 (QI below γ S X args s 0 0) S ν 12 [(0, .ref (gb γ + a0)), (1, .ref (gb γ + a1)), (2, .int x12_2)] []) (x : (Int32 × Mem)) (h : l_X9_readInto_12 S a0 a1 k12 x = some X) : JJ γ p l e rm_X9_readInto s m args below meth c 4 0 0 (QI below γ S X args s 0 0) S x.2 12 [(0, .ref (gb γ + a0)), (1, .ref (gb γ + a1)), (2, .int x.1)] [] := by
  unfold l_X9_readInto_12 at h
  refine j_iload_n F 2 dX9_readInto_12 rfl ?_
  refine j_bipush F 100 dX9_readInto_13 (by decide) ?_
  refine j_icmpgt F 79 dX9_readInto_15 (by decide) h (fun _ h => ?_) (fun _ h => ?_)
  · refine j_aload_n F 0 dX9_readInto_79 rfl ?_
    refine j_gI F fl_RX9_22.l rfl dX9_readInto_80 h (fun v3 h => ?_)
    exact j_iret F hr dX9_readInto_83 h
  · refine j_aload_n F 0 dX9_readInto_18 rfl ?_
    refine j_aload_n F 1 dX9_readInto_19 rfl ?_
    refine j_cVI F mi_X9_readStep w_749 (rest := []) h (fun _ g => c_X9_readStep g) rfl rfl (Nat.le_of_ble_eq_true rfl) ⟨Nat.le_of_ble_eq_true rfl, Nat.le_of_ble_eq_true rfl⟩ ⟨Nat.le_of_ble_eq_true rfl, Nat.le_of_ble_eq_true rfl⟩ dX9_readInto_20 (fun q4 h => ?_)
    refine j_istore_n F [(3, .int q4.1), (0, .ref (gb γ + a0)), (1, .ref (gb γ + a1)), (2, .int x.1)] dX9_readInto_23 rfl (by decide) rfl ?_
    refine j_iload_n F 0 dX9_readInto_24 rfl ?_
    refine j_iconst F (-1) dX9_readInto_25 (by decide) ?_
    refine j_icmpeq F 31 dX9_readInto_26 (by decide) h (fun _ h => ?_) (fun _ h => ?_)
    · refine j_aload_n F 1 dX9_readInto_31 rfl ?_
      refine j_gI F fl_RX9_22.l rfl dX9_readInto_32 h (fun v5 h => ?_)
      refine j_aload_n F 1 dX9_readInto_35 rfl ?_
      refine j_gI F fl_RX9_15.l rfl dX9_readInto_36 h (fun v6 h => ?_)
      refine j_icmpne F 44 dX9_readInto_39 (by decide) h (fun _ h => ?_) (fun _ h => ?_)
      · refine j_aload_n F 1 dX9_readInto_44 rfl ?_
        refine j_gR F fl_RX9_9 rfl dX9_readInto_45 h (fun v7 h => ?_)
        refine j_aload_n F 1 dX9_readInto_48 rfl ?_
        refine j_gI F fl_RX9_22.l rfl dX9_readInto_49 h (fun v8 h => ?_)
        refine j_bald F dX9_readInto_52 h (fun v9 h => ?_)
        refine j_bipush F 59 dX9_readInto_53 (by decide) ?_
        refine j_icmpeq F 63 dX9_readInto_55 (by decide) h (fun _ h => ?_) (fun _ h => ?_)
        · refine j_aload_n F 1 dX9_readInto_63 rfl ?_
          refine j_dup F dX9_readInto_64 rfl ?_
          refine j_gI F fl_RX9_22.l rfl dX9_readInto_65 h (fun v10 h => ?_)
          refine j_iconst F 1 dX9_readInto_68 (by decide) ?_
          refine j_iadd F dX9_readInto_69 ?_
          refine j_pI F fl_RX9_22 rfl dX9_readInto_70 h (fun ν11 h => ?_)
          refine j_iinc F 1 3 [(2, .int (x.1 + 1)), (3, .int q4.1), (0, .ref (gb γ + a0)), (1, .ref (gb γ + a1))] dX9_readInto_73 rfl (by decide) (by decide) rfl ?_
          refine j_goto F 12 dX9_readInto_76 (by decide) ?_
          refine j_lv [(0, .ref (gb γ + a0)), (1, .ref (gb γ + a1)), (2, .int (x.1 + 1))] [2, 3, 0] rfl ?_
          exact hk12 _ _ h
        · refine j_aload_n F 1 dX9_readInto_58 rfl ?_
          refine j_gI F fl_RX9_22.l rfl dX9_readInto_59 h (fun v12 h => ?_)
          exact j_iret F hr dX9_readInto_62 h
      · refine j_iconst F (-1) dX9_readInto_42 (by decide) ?_
        exact j_iret F hr dX9_readInto_43 h
    · refine j_iload_n F 0 dX9_readInto_29 rfl ?_
      exact j_iret F hr dX9_readInto_30 h
theorem s_X9_readInto_12 {γ : GE} {p : Program} {l : Launch} {e : Env} {s : State} {m : MethodId} {args : Array Value} {below : List Frame} {meth : Method} {c : Code} {S : SH} {X : (Int32 × Mem)} (F : FX γ p s m args meth c cX9_readInto RX9 4) (hr : meth.sig.returnType = (some .int)) (a0 : Nat) (a1 : Nat) (x12_2 : Int32) (ν : Mem) (h : lpN (l_X9_readInto_12 S a0 a1) fu (x12_2, ν) = some X) : JJ γ p l e rm_X9_readInto s m args below meth c 4 0 0 (QI below γ S X args s 0 0) S ν 12 [(0, .ref (gb γ + a0)), (1, .ref (gb γ + a1)), (2, .int x12_2)] [] :=
 lpN_sound (fun x => JJ γ p l e rm_X9_readInto s m args below meth c 4 0 0 (QI below γ S X args s 0 0) S x.2 12 [(0, .ref (gb γ + a0)), (1, .ref (gb γ + a1)), (2, .int x.1)] []) (fun k12 hk12 x h => t_X9_readInto_12 F hr a0 a1 k12 (fun x12_2 ν h => hk12 (x12_2, ν) h) x h) fu (x12_2, ν) h
def f_X9_readInto (S : SH) (a0 : Nat) (a1 : Nat) (μ : Mem) : Option (Int32 × Mem) :=
  if isO S 9 a0 = true then
  (pI S 6 a1 2 0 μ).bind fun ν1 =>
  (pI S 9 a0 2 0 ν1).bind fun ν2 =>
  lpN (l_X9_readInto_12 S  a0 a1) fu (0, ν2)
  else none
set_option maxRecDepth 100000 in
set_option maxHeartbeats 4000000 in
theorem c_X9_readInto {l : Launch} {γ : GE} {S : SH} {a0 : Nat} {a1 : Nat} {μ : Mem} {X : (Int32 × Mem)} (h : f_X9_readInto S a0 a1 μ = some X) : isO S 9 a0 = true ∧ Ct l γ yX9_readInto cX9_readInto 4 (some .int) rm_X9_readInto [.ref (gb γ + a0), .ref (gb γ + a1)] S μ S X.2 (some (.int X.1)) := by
  unfold f_X9_readInto at h
  obtain ⟨h0, h⟩ := if_some h
  refine ⟨h0, ?_⟩
  have hJ : ∀ (p : Program) (e : Env) (s : State) (m : MethodId) (args : Array Value) (below : List Frame) (meth : Method) (c : Code), FX γ p s m args meth c cX9_readInto RX9 4 → meth.sig.returnType = (some .int) → JJ γ p l e rm_X9_readInto s m args below meth c 4 0 0 (QI below γ S X args s 0 0) S μ 0 [(0, .ref (gb γ + a0)), (1, .ref (gb γ + a1))] [] := by
    intro p e s m args below meth c F hr
    refine j_aload_n F 1 dX9_readInto_0 rfl ?_
    refine j_iconst F 0 dX9_readInto_1 (by decide) ?_
    refine j_pI F fl_RX9_19 rfl dX9_readInto_2 h (fun ν1 h => ?_)
    refine j_aload_n F 0 dX9_readInto_5 rfl ?_
    refine j_iconst F 0 dX9_readInto_6 (by decide) ?_
    refine j_pI F fl_RX9_22 rfl dX9_readInto_7 h (fun ν2 h => ?_)
    refine j_iconst F 0 dX9_readInto_10 (by decide) ?_
    refine j_istore_n F [(2, .int 0), (0, .ref (gb γ + a0)), (1, .ref (gb γ + a1))] dX9_readInto_11 rfl (by decide) rfl ?_
    refine j_lv [(0, .ref (gb γ + a0)), (1, .ref (gb γ + a1)), (2, .int 0)] [1, 2, 0] rfl ?_
    exact s_X9_readInto_12 F hr _ _ _ _ h
  exact ct_of (by decide +kernel) (Nat.le_of_ble_eq_true rfl) (fun p e s m args below meth c F hr _ => hJ p e s m args below meth c F hr)
def rm_X10_meet : Room := { frames := 4, cells := 0, slots := 0, locals := 91 }
theorem dX10_meet_0 : decode cX10_meet 0 = .ok (.aload_n 3, 1) := by decide +kernel
theorem dX10_meet_1 : decode cX10_meet 1 = .ok (.aload_n 2, 1) := by decide +kernel
theorem dX10_meet_2 : decode cX10_meet 2 = .ok (.invokevirtual 59, 3) := by decide +kernel
theorem dX10_meet_5 : decode cX10_meet 5 = .ok (.istore 4, 2) := by decide +kernel
theorem dX10_meet_7 : decode cX10_meet 7 = .ok (.iload 4, 2) := by decide +kernel
theorem dX10_meet_9 : decode cX10_meet 9 = .ok (.ifCond .eq 29, 3) := by decide +kernel
theorem dX10_meet_12 : decode cX10_meet 12 = .ok (.aload_n 0, 1) := by decide +kernel
theorem dX10_meet_13 : decode cX10_meet 13 = .ok (.getfield 21, 3) := by decide +kernel
theorem dX10_meet_16 : decode cX10_meet 16 = .ok (.ifCond .ne 22, 3) := by decide +kernel
theorem dX10_meet_19 : decode cX10_meet 19 = .ok (.aload_n 0, 1) := by decide +kernel
theorem dX10_meet_20 : decode cX10_meet 20 = .ok (.aload_n 0, 1) := by decide +kernel
theorem dX10_meet_21 : decode cX10_meet 21 = .ok (.getfield 9, 3) := by decide +kernel
theorem dX10_meet_24 : decode cX10_meet 24 = .ok (.putfield 15, 3) := by decide +kernel
theorem dX10_meet_27 : decode cX10_meet 27 = .ok (.aload_n 0, 1) := by decide +kernel
theorem dX10_meet_28 : decode cX10_meet 28 = .ok (.iload_n 1, 1) := by decide +kernel
theorem dX10_meet_29 : decode cX10_meet 29 = .ok (.putfield 18, 3) := by decide +kernel
theorem dX10_meet_32 : decode cX10_meet 32 = .ok (.aload_n 0, 1) := by decide +kernel
theorem dX10_meet_33 : decode cX10_meet 33 = .ok (.iload 4, 2) := by decide +kernel
theorem dX10_meet_35 : decode cX10_meet 35 = .ok (.putfield 21, 3) := by decide +kernel
theorem dX10_meet_38 : decode cX10_meet 38 = .ok (.aload_n 0, 1) := by decide +kernel
theorem dX10_meet_39 : decode cX10_meet 39 = .ok (.aload_n 0, 1) := by decide +kernel
theorem dX10_meet_40 : decode cX10_meet 40 = .ok (.getfield 27, 3) := by decide +kernel
theorem dX10_meet_43 : decode cX10_meet 43 = .ok (.aload_n 2, 1) := by decide +kernel
theorem dX10_meet_44 : decode cX10_meet 44 = .ok (.invokevirtual 65, 3) := by decide +kernel
theorem dX10_meet_47 : decode cX10_meet 47 = .ok (.invokestatic 69, 3) := by decide +kernel
theorem dX10_meet_50 : decode cX10_meet 50 = .ok (.putfield 27, 3) := by decide +kernel
theorem dX10_meet_53 : decode cX10_meet 53 = .ok (.aload_n 0, 1) := by decide +kernel
theorem dX10_meet_54 : decode cX10_meet 54 = .ok (.dup, 1) := by decide +kernel
theorem dX10_meet_55 : decode cX10_meet 55 = .ok (.getfield 9, 3) := by decide +kernel
theorem dX10_meet_58 : decode cX10_meet 58 = .ok (.iconst 1, 1) := by decide +kernel
theorem dX10_meet_59 : decode cX10_meet 59 = .ok (.iadd, 1) := by decide +kernel
theorem dX10_meet_60 : decode cX10_meet 60 = .ok (.putfield 9, 3) := by decide +kernel
theorem dX10_meet_63 : decode cX10_meet 63 = .ok (.return_, 1) := by decide +kernel
def b_X10_meet_38 (S : SH) (a0 : Nat) (a2 : Nat) (μ : Mem) : Option (Unit × Mem) :=
 (gI S 10 a0 4 μ).bind fun v2 =>
 (f_X2_room S a2 μ).bind fun q3 =>
 (pI S 10 a0 4 ((if q3.1 < v2 then q3.1 else v2)) q3.2).bind fun ν4 =>
 (gI S 10 a0 0 ν4).bind fun v5 =>
 (pI S 10 a0 0 (v5 + 1) ν4).bind fun ν6 =>
 some ((), ν6)
set_option maxRecDepth 100000 in
set_option maxHeartbeats 4000000 in
theorem s_X10_meet_38 {γ : GE} {p : Program} {l : Launch} {e : Env} {s : State} {m : MethodId} {args : Array Value} {below : List Frame} {meth : Method} {c : Code} {S : SH} {X : (Unit × Mem)} (F : FX γ p s m args meth c cX10_meet RX10 5) (hr : meth.sig.returnType = (none)) (a0 : Nat) (a2 : Nat)    (μ : Mem) (h : b_X10_meet_38 S a0 a2 μ = some X) : JJ γ p l e rm_X10_meet s m args below meth c 5 0 0 (QV below γ S X args s 0 0) S μ 38 [(0, .ref (gb γ + a0)), (2, .ref (gb γ + a2))] [] := by
  unfold b_X10_meet_38 at h
  refine j_aload_n F 0 dX10_meet_38 rfl ?_
  refine j_aload_n F 0 dX10_meet_39 rfl ?_
  refine j_gI F fl_RX10_27.l rfl dX10_meet_40 h (fun v2 h => ?_)
  refine j_aload_n F 1 dX10_meet_43 rfl ?_
  refine j_cVI F mi_X2_room w_845 (rest := [.int v2, .ref (gb γ + a0)]) h (fun _ g => c_X2_room g) rfl rfl (Nat.le_of_ble_eq_true rfl) ⟨Nat.le_of_ble_eq_true rfl, Nat.le_of_ble_eq_true rfl⟩ ⟨Nat.le_of_ble_eq_true rfl, Nat.le_of_ble_eq_true rfl⟩ dX10_meet_44 (fun q3 h => ?_)
  refine j_mmin F w_846 ⟨Nat.le_of_ble_eq_true rfl, Nat.le_of_ble_eq_true rfl, Nat.le_of_ble_eq_true rfl, Nat.le_of_ble_eq_true rfl⟩ dX10_meet_47 mg_min ?_
  refine j_pI F fl_RX10_27 rfl dX10_meet_50 h (fun ν4 h => ?_)
  refine j_aload_n F 0 dX10_meet_53 rfl ?_
  refine j_dup F dX10_meet_54 rfl ?_
  refine j_gI F fl_RX10_9.l rfl dX10_meet_55 h (fun v5 h => ?_)
  refine j_iconst F 1 dX10_meet_58 (by decide) ?_
  refine j_iadd F dX10_meet_59 ?_
  refine j_pI F fl_RX10_9 rfl dX10_meet_60 h (fun ν6 h => ?_)
  exact j_vret F hr dX10_meet_63 h
def f_X10_meet (S : SH) (a0 : Nat) (a1 : Int32) (a2 : Nat) (a3 : Nat) (μ : Mem) : Option (Unit × Mem) :=
  if isO S 10 a0 = true then
  (f_X3_verdict S a3 a2 μ).bind fun q1 =>
  (if q1.1 = 0 then
  b_X10_meet_38 S a0 a2 q1.2
  else
  (gI S 10 a0 3 q1.2).bind fun v7 =>
  (if v7 = 0 then
  (gI S 10 a0 0 q1.2).bind fun v8 =>
  (pI S 10 a0 1 v8 q1.2).bind fun ν9 =>
  (pI S 10 a0 2 a1 ν9).bind fun ν10 =>
  (pI S 10 a0 3 q1.1 ν10).bind fun ν11 =>
  b_X10_meet_38 S a0 a2 ν11
  else
  b_X10_meet_38 S a0 a2 q1.2))
  else none
set_option maxRecDepth 100000 in
set_option maxHeartbeats 4000000 in
theorem c_X10_meet {l : Launch} {γ : GE} {S : SH} {a0 : Nat} {a1 : Int32} {a2 : Nat} {a3 : Nat} {μ : Mem} {X : (Unit × Mem)} (h : f_X10_meet S a0 a1 a2 a3 μ = some X) : isO S 10 a0 = true ∧ Ct l γ yX10_meet cX10_meet 5 (none) rm_X10_meet [.ref (gb γ + a0), .int a1, .ref (gb γ + a2), .ref (gb γ + a3)] S μ S X.2 none := by
  unfold f_X10_meet at h
  obtain ⟨h0, h⟩ := if_some h
  refine ⟨h0, ?_⟩
  have hJ : ∀ (p : Program) (e : Env) (s : State) (m : MethodId) (args : Array Value) (below : List Frame) (meth : Method) (c : Code), FX γ p s m args meth c cX10_meet RX10 5 → meth.sig.returnType = (none) → JJ γ p l e rm_X10_meet s m args below meth c 5 0 0 (QV below γ S X args s 0 0) S μ 0 [(0, .ref (gb γ + a0)), (1, .int a1), (2, .ref (gb γ + a2)), (3, .ref (gb γ + a3))] [] := by
    intro p e s m args below meth c F hr
    refine j_aload_n F 3 dX10_meet_0 rfl ?_
    refine j_aload_n F 2 dX10_meet_1 rfl ?_
    refine j_cVI F mi_X3_verdict w_844 (rest := []) h (fun _ g => c_X3_verdict g) rfl rfl (Nat.le_of_ble_eq_true rfl) ⟨Nat.le_of_ble_eq_true rfl, Nat.le_of_ble_eq_true rfl⟩ ⟨Nat.le_of_ble_eq_true rfl, Nat.le_of_ble_eq_true rfl⟩ dX10_meet_2 (fun q1 h => ?_)
    refine j_istore F [(4, .int q1.1), (0, .ref (gb γ + a0)), (1, .int a1), (2, .ref (gb γ + a2)), (3, .ref (gb γ + a3))] dX10_meet_5 (by decide) rfl ?_
    refine j_iload F 0 dX10_meet_7 rfl ?_
    refine j_ifeq F 38 dX10_meet_9 (by decide) h (fun _ h => ?_) (fun _ h => ?_)
    · refine j_lv [(0, .ref (gb γ + a0)), (2, .ref (gb γ + a2))] [1, 3] rfl ?_
      exact s_X10_meet_38 F hr _ _ _ h
    · refine j_aload_n F 1 dX10_meet_12 rfl ?_
      refine j_gI F fl_RX10_21.l rfl dX10_meet_13 h (fun v7 h => ?_)
      refine j_ifne F 38 dX10_meet_16 (by decide) h (fun _ h => ?_) (fun _ h => ?_)
      · refine j_lv [(0, .ref (gb γ + a0)), (2, .ref (gb γ + a2))] [1, 3] rfl ?_
        exact s_X10_meet_38 F hr _ _ _ h
      · refine j_aload_n F 1 dX10_meet_19 rfl ?_
        refine j_aload_n F 1 dX10_meet_20 rfl ?_
        refine j_gI F fl_RX10_9.l rfl dX10_meet_21 h (fun v8 h => ?_)
        refine j_pI F fl_RX10_15 rfl dX10_meet_24 h (fun ν9 h => ?_)
        refine j_aload_n F 1 dX10_meet_27 rfl ?_
        refine j_iload_n F 2 dX10_meet_28 rfl ?_
        refine j_pI F fl_RX10_18 rfl dX10_meet_29 h (fun ν10 h => ?_)
        refine j_aload_n F 1 dX10_meet_32 rfl ?_
        refine j_iload F 0 dX10_meet_33 rfl ?_
        refine j_pI F fl_RX10_21 rfl dX10_meet_35 h (fun ν11 h => ?_)
        refine j_lv [(0, .ref (gb γ + a0)), (2, .ref (gb γ + a2))] [1, 3] rfl ?_
        exact s_X10_meet_38 F hr _ _ _ h
  exact ct_of (by decide +kernel) (Nat.le_of_ble_eq_true rfl) (fun p e s m args below meth c F hr _ => hJ p e s m args below meth c F hr)
def rm_X10_go : Room := { frames := 5, cells := 0, slots := 0, locals := 115 }
theorem dX10_go_0 : decode cX10_go 0 = .ok (.aload_n 0, 1) := by decide +kernel
theorem dX10_go_1 : decode cX10_go 1 = .ok (.iconst 0, 1) := by decide +kernel
theorem dX10_go_2 : decode cX10_go 2 = .ok (.putfield 9, 3) := by decide +kernel
theorem dX10_go_5 : decode cX10_go 5 = .ok (.aload_n 0, 1) := by decide +kernel
theorem dX10_go_6 : decode cX10_go 6 = .ok (.bipush (-5), 2) := by decide +kernel
theorem dX10_go_8 : decode cX10_go 8 = .ok (.putfield 15, 3) := by decide +kernel
theorem dX10_go_11 : decode cX10_go 11 = .ok (.aload_n 0, 1) := by decide +kernel
theorem dX10_go_12 : decode cX10_go 12 = .ok (.bipush (-5), 2) := by decide +kernel
theorem dX10_go_14 : decode cX10_go 14 = .ok (.putfield 18, 3) := by decide +kernel
theorem dX10_go_17 : decode cX10_go 17 = .ok (.aload_n 0, 1) := by decide +kernel
theorem dX10_go_18 : decode cX10_go 18 = .ok (.iconst 0, 1) := by decide +kernel
theorem dX10_go_19 : decode cX10_go 19 = .ok (.putfield 21, 3) := by decide +kernel
theorem dX10_go_22 : decode cX10_go 22 = .ok (.aload_n 0, 1) := by decide +kernel
theorem dX10_go_23 : decode cX10_go 23 = .ok (.ldc 26, 2) := by decide +kernel
theorem dX10_go_25 : decode cX10_go 25 = .ok (.putfield 27, 3) := by decide +kernel
theorem dX10_go_28 : decode cX10_go 28 = .ok (.aload_n 0, 1) := by decide +kernel
theorem dX10_go_29 : decode cX10_go 29 = .ok (.bipush (-5), 2) := by decide +kernel
theorem dX10_go_31 : decode cX10_go 31 = .ok (.aload_n 2, 1) := by decide +kernel
theorem dX10_go_32 : decode cX10_go 32 = .ok (.aload_n 3, 1) := by decide +kernel
theorem dX10_go_33 : decode cX10_go 33 = .ok (.invokevirtual 30, 3) := by decide +kernel
theorem dX10_go_36 : decode cX10_go 36 = .ok (.iconst 0, 1) := by decide +kernel
theorem dX10_go_37 : decode cX10_go 37 = .ok (.istore 4, 2) := by decide +kernel
theorem dX10_go_39 : decode cX10_go 39 = .ok (.iload 4, 2) := by decide +kernel
theorem dX10_go_41 : decode cX10_go 41 = .ok (.aload_n 1, 1) := by decide +kernel
theorem dX10_go_42 : decode cX10_go 42 = .ok (.getfield 34, 3) := by decide +kernel
theorem dX10_go_45 : decode cX10_go 45 = .ok (.if_icmp .ge 100, 3) := by decide +kernel
theorem dX10_go_48 : decode cX10_go 48 = .ok (.aload_n 1, 1) := by decide +kernel
theorem dX10_go_49 : decode cX10_go 49 = .ok (.getfield 39, 3) := by decide +kernel
theorem dX10_go_52 : decode cX10_go 52 = .ok (.iload 4, 2) := by decide +kernel
theorem dX10_go_54 : decode cX10_go 54 = .ok (.iaload, 1) := by decide +kernel
theorem dX10_go_55 : decode cX10_go 55 = .ok (.istore 5, 2) := by decide +kernel
theorem dX10_go_57 : decode cX10_go 57 = .ok (.aload_n 1, 1) := by decide +kernel
theorem dX10_go_58 : decode cX10_go 58 = .ok (.getfield 43, 3) := by decide +kernel
theorem dX10_go_61 : decode cX10_go 61 = .ok (.iload 4, 2) := by decide +kernel
theorem dX10_go_63 : decode cX10_go 63 = .ok (.iaload, 1) := by decide +kernel
theorem dX10_go_64 : decode cX10_go 64 = .ok (.istore 6, 2) := by decide +kernel
theorem dX10_go_66 : decode cX10_go 66 = .ok (.aload_n 1, 1) := by decide +kernel
theorem dX10_go_67 : decode cX10_go 67 = .ok (.iload 4, 2) := by decide +kernel
theorem dX10_go_69 : decode cX10_go 69 = .ok (.invokevirtual 46, 3) := by decide +kernel
theorem dX10_go_72 : decode cX10_go 72 = .ok (.ifCond .eq 50, 3) := by decide +kernel
theorem dX10_go_75 : decode cX10_go 75 = .ok (.iconst 0, 1) := by decide +kernel
theorem dX10_go_76 : decode cX10_go 76 = .ok (.istore 7, 2) := by decide +kernel
theorem dX10_go_78 : decode cX10_go 78 = .ok (.iload 7, 2) := by decide +kernel
theorem dX10_go_80 : decode cX10_go 80 = .ok (.bipush 61, 2) := by decide +kernel
theorem dX10_go_82 : decode cX10_go 82 = .ok (.if_icmp .ge 37, 3) := by decide +kernel
theorem dX10_go_85 : decode cX10_go 85 = .ok (.aload_n 2, 1) := by decide +kernel
theorem dX10_go_86 : decode cX10_go 86 = .ok (.getfield 50, 3) := by decide +kernel
theorem dX10_go_89 : decode cX10_go 89 = .ok (.iload 5, 2) := by decide +kernel
theorem dX10_go_91 : decode cX10_go 91 = .ok (.iaload, 1) := by decide +kernel
theorem dX10_go_92 : decode cX10_go 92 = .ok (.iload 6, 2) := by decide +kernel
theorem dX10_go_94 : decode cX10_go 94 = .ok (.if_icmp .eq 25, 3) := by decide +kernel
theorem dX10_go_97 : decode cX10_go 97 = .ok (.aload_n 2, 1) := by decide +kernel
theorem dX10_go_98 : decode cX10_go 98 = .ok (.iload 5, 2) := by decide +kernel
theorem dX10_go_100 : decode cX10_go 100 = .ok (.iload 6, 2) := by decide +kernel
theorem dX10_go_102 : decode cX10_go 102 = .ok (.invokevirtual 55, 3) := by decide +kernel
theorem dX10_go_105 : decode cX10_go 105 = .ok (.aload_n 0, 1) := by decide +kernel
theorem dX10_go_106 : decode cX10_go 106 = .ok (.iload 4, 2) := by decide +kernel
theorem dX10_go_108 : decode cX10_go 108 = .ok (.aload_n 2, 1) := by decide +kernel
theorem dX10_go_109 : decode cX10_go 109 = .ok (.aload_n 3, 1) := by decide +kernel
theorem dX10_go_110 : decode cX10_go 110 = .ok (.invokevirtual 30, 3) := by decide +kernel
theorem dX10_go_113 : decode cX10_go 113 = .ok (.iinc 7 1, 3) := by decide +kernel
theorem dX10_go_116 : decode cX10_go 116 = .ok (.goto (-38), 3) := by decide +kernel
theorem dX10_go_119 : decode cX10_go 119 = .ok (.goto 20, 3) := by decide +kernel
theorem dX10_go_122 : decode cX10_go 122 = .ok (.aload_n 2, 1) := by decide +kernel
theorem dX10_go_123 : decode cX10_go 123 = .ok (.getfield 50, 3) := by decide +kernel
theorem dX10_go_126 : decode cX10_go 126 = .ok (.iload 5, 2) := by decide +kernel
theorem dX10_go_128 : decode cX10_go 128 = .ok (.iload 6, 2) := by decide +kernel
theorem dX10_go_130 : decode cX10_go 130 = .ok (.iastore, 1) := by decide +kernel
theorem dX10_go_131 : decode cX10_go 131 = .ok (.aload_n 0, 1) := by decide +kernel
theorem dX10_go_132 : decode cX10_go 132 = .ok (.iload 4, 2) := by decide +kernel
theorem dX10_go_134 : decode cX10_go 134 = .ok (.aload_n 2, 1) := by decide +kernel
theorem dX10_go_135 : decode cX10_go 135 = .ok (.aload_n 3, 1) := by decide +kernel
theorem dX10_go_136 : decode cX10_go 136 = .ok (.invokevirtual 30, 3) := by decide +kernel
theorem dX10_go_139 : decode cX10_go 139 = .ok (.iinc 4 1, 3) := by decide +kernel
theorem dX10_go_142 : decode cX10_go 142 = .ok (.goto (-103), 3) := by decide +kernel
theorem dX10_go_145 : decode cX10_go 145 = .ok (.return_, 1) := by decide +kernel
def l_X10_go_78 (S : SH) (k39 : (Int32 × Mem) → Option (Unit × Mem)) (a0 : Nat) (a1 : Nat) (a2 : Nat) (a3 : Nat) (a4 : Int32) (a5 : Int32) (a6 : Int32) (k78 : (Int32 × Mem) → Option (Unit × Mem)) (x : (Int32 × Mem)) : Option (Unit × Mem) :=
 (if 61 ≤ x.1 then
 k39 (a4 + 1, x.2)
 else
 (gR S 2 a2 3).bind fun v16 =>
 (aI S .int v16 a5 x.2).bind fun v17 =>
 (if v17 = a6 then
 k39 (a4 + 1, x.2)
 else
 (f_X2_approach S a2 a5 a6 x.2).bind fun q18 =>
 (f_X10_meet S a0 a4 a2 a3 q18.2).bind fun q19 =>
 k78 (x.1 + 1, q19.2)))
set_option maxRecDepth 100000 in
set_option maxHeartbeats 4000000 in
theorem t_X10_go_78 {γ : GE} {p : Program} {l : Launch} {e : Env} {s : State} {m : MethodId} {args : Array Value} {below : List Frame} {meth : Method} {c : Code} {S : SH} {X : (Unit × Mem)} (F : FX γ p s m args meth c cX10_go RX10 8) (hr : meth.sig.returnType = (none)) (a0 : Nat) (a1 : Nat) (a2 : Nat) (a3 : Nat) (a4 : Int32) (a5 : Int32) (a6 : Int32) (k39 : (Int32 × Mem) → Option (Unit × Mem)) (hk39 : ∀ (x39_4 : Int32) (ν : Mem), k39 (x39_4, ν) = some X → JJ γ p l e rm_X10_go s m args below meth c 8 0 0 (QV below γ S X args s 0 0) S ν 39 [(0, .ref (gb γ + a0)), (1, .ref (gb γ + a1)), (2, .ref (gb γ + a2)), (3, .ref (gb γ + a3)), (4, .int x39_4)] []) (k78 : (Int32 × Mem) → Option (Unit × Mem)) (hk78 : ∀ (x78_7 : Int32) (ν : Mem), k78 (x78_7, ν) = some X → JJ γ p l e rm_X10_go s m args below meth c 8 0 0 (QV below γ S X args s 0 0) S ν 78 [(0, .ref (gb γ + a0)), (1, .ref (gb γ + a1)), (2, .ref (gb γ + a2)), (3, .ref (gb γ + a3)), (4, .int a4), (5, .int a5), (6, .int a6), (7, .int x78_7)] []) (x : (Int32 × Mem)) (h : l_X10_go_78 S k39 a0 a1 a2 a3 a4 a5 a6 k78 x = some X) : JJ γ p l e rm_X10_go s m args below meth c 8 0 0 (QV below γ S X args s 0 0) S x.2 78 [(0, .ref (gb γ + a0)), (1, .ref (gb γ + a1)), (2, .ref (gb γ + a2)), (3, .ref (gb γ + a3)), (4, .int a4), (5, .int a5), (6, .int a6), (7, .int x.1)] [] := by
  unfold l_X10_go_78 at h
  refine j_iload F 7 dX10_go_78 rfl ?_
  refine j_bipush F 61 dX10_go_80 (by decide) ?_
  refine j_icmpge F 119 dX10_go_82 (by decide) h (fun _ h => ?_) (fun _ h => ?_)
  · refine j_goto F 139 dX10_go_119 (by decide) ?_
    refine j_iinc F 1 4 [(4, .int (a4 + 1)), (0, .ref (gb γ + a0)), (1, .ref (gb γ + a1)), (2, .ref (gb γ + a2)), (3, .ref (gb γ + a3)), (5, .int a5), (6, .int a6), (7, .int x.1)] dX10_go_139 rfl (by decide) (by decide) rfl ?_
    refine j_goto F 39 dX10_go_142 (by decide) ?_
    refine j_lv [(0, .ref (gb γ + a0)), (1, .ref (gb γ + a1)), (2, .ref (gb γ + a2)), (3, .ref (gb γ + a3)), (4, .int (a4 + 1))] [1, 2, 3, 4, 0] rfl ?_
    exact hk39 _ _ h
  · refine j_aload_n F 2 dX10_go_85 rfl ?_
    refine j_gR F fl_RX10_50 rfl dX10_go_86 h (fun v16 h => ?_)
    refine j_iload F 5 dX10_go_89 rfl ?_
    refine j_iald F dX10_go_91 h (fun v17 h => ?_)
    refine j_iload F 6 dX10_go_92 rfl ?_
    refine j_icmpeq F 119 dX10_go_94 (by decide) h (fun _ h => ?_) (fun _ h => ?_)
    · refine j_goto F 139 dX10_go_119 (by decide) ?_
      refine j_iinc F 1 4 [(4, .int (a4 + 1)), (0, .ref (gb γ + a0)), (1, .ref (gb γ + a1)), (2, .ref (gb γ + a2)), (3, .ref (gb γ + a3)), (5, .int a5), (6, .int a6), (7, .int x.1)] dX10_go_139 rfl (by decide) (by decide) rfl ?_
      refine j_goto F 39 dX10_go_142 (by decide) ?_
      refine j_lv [(0, .ref (gb γ + a0)), (1, .ref (gb γ + a1)), (2, .ref (gb γ + a2)), (3, .ref (gb γ + a3)), (4, .int (a4 + 1))] [1, 2, 3, 4, 0] rfl ?_
      exact hk39 _ _ h
    · refine j_aload_n F 2 dX10_go_97 rfl ?_
      refine j_iload F 5 dX10_go_98 rfl ?_
      refine j_iload F 6 dX10_go_100 rfl ?_
      refine j_cVV F mi_X2_approach w_851 (rest := []) h (fun _ g => c_X2_approach g) rfl rfl (Nat.le_of_ble_eq_true rfl) ⟨Nat.le_of_ble_eq_true rfl, Nat.le_of_ble_eq_true rfl⟩ ⟨Nat.le_of_ble_eq_true rfl, Nat.le_of_ble_eq_true rfl⟩ dX10_go_102 (fun q18 h => ?_)
      refine j_aload_n F 0 dX10_go_105 rfl ?_
      refine j_iload F 4 dX10_go_106 rfl ?_
      refine j_aload_n F 2 dX10_go_108 rfl ?_
      refine j_aload_n F 3 dX10_go_109 rfl ?_
      refine j_cVV F mi_X10_meet w_840 (rest := []) h (fun _ g => c_X10_meet g) rfl rfl (Nat.le_of_ble_eq_true rfl) ⟨Nat.le_of_ble_eq_true rfl, Nat.le_of_ble_eq_true rfl⟩ ⟨Nat.le_of_ble_eq_true rfl, Nat.le_of_ble_eq_true rfl⟩ dX10_go_110 (fun q19 h => ?_)
      refine j_iinc F 1 7 [(7, .int (x.1 + 1)), (0, .ref (gb γ + a0)), (1, .ref (gb γ + a1)), (2, .ref (gb γ + a2)), (3, .ref (gb γ + a3)), (4, .int a4), (5, .int a5), (6, .int a6)] dX10_go_113 rfl (by decide) (by decide) rfl ?_
      refine j_goto F 78 dX10_go_116 (by decide) ?_
      refine j_lv [(0, .ref (gb γ + a0)), (1, .ref (gb γ + a1)), (2, .ref (gb γ + a2)), (3, .ref (gb γ + a3)), (4, .int a4), (5, .int a5), (6, .int a6), (7, .int (x.1 + 1))] [1, 2, 3, 4, 5, 6, 7, 0] rfl ?_
      exact hk78 _ _ h
theorem s_X10_go_78 {γ : GE} {p : Program} {l : Launch} {e : Env} {s : State} {m : MethodId} {args : Array Value} {below : List Frame} {meth : Method} {c : Code} {S : SH} {X : (Unit × Mem)} (F : FX γ p s m args meth c cX10_go RX10 8) (hr : meth.sig.returnType = (none)) (a0 : Nat) (a1 : Nat) (a2 : Nat) (a3 : Nat) (a4 : Int32) (a5 : Int32) (a6 : Int32) (k39 : (Int32 × Mem) → Option (Unit × Mem)) (hk39 : ∀ (x39_4 : Int32) (ν : Mem), k39 (x39_4, ν) = some X → JJ γ p l e rm_X10_go s m args below meth c 8 0 0 (QV below γ S X args s 0 0) S ν 39 [(0, .ref (gb γ + a0)), (1, .ref (gb γ + a1)), (2, .ref (gb γ + a2)), (3, .ref (gb γ + a3)), (4, .int x39_4)] []) (x78_7 : Int32) (ν : Mem) (h : lpN (l_X10_go_78 S k39 a0 a1 a2 a3 a4 a5 a6) fu (x78_7, ν) = some X) : JJ γ p l e rm_X10_go s m args below meth c 8 0 0 (QV below γ S X args s 0 0) S ν 78 [(0, .ref (gb γ + a0)), (1, .ref (gb γ + a1)), (2, .ref (gb γ + a2)), (3, .ref (gb γ + a3)), (4, .int a4), (5, .int a5), (6, .int a6), (7, .int x78_7)] [] :=
 lpN_sound (fun x => JJ γ p l e rm_X10_go s m args below meth c 8 0 0 (QV below γ S X args s 0 0) S x.2 78 [(0, .ref (gb γ + a0)), (1, .ref (gb γ + a1)), (2, .ref (gb γ + a2)), (3, .ref (gb γ + a3)), (4, .int a4), (5, .int a5), (6, .int a6), (7, .int x.1)] []) (fun k78 hk78 x h => t_X10_go_78 F hr a0 a1 a2 a3 a4 a5 a6 k39 hk39 k78 (fun x78_7 ν h => hk78 (x78_7, ν) h) x h) fu (x78_7, ν) h
def l_X10_go_39 (S : SH) (a0 : Nat) (a1 : Nat) (a2 : Nat) (a3 : Nat) (k39 : (Int32 × Mem) → Option (Unit × Mem)) (x : (Int32 × Mem)) : Option (Unit × Mem) :=
 (gI S 6 a1 2 x.2).bind fun v7 =>
 (if v7 ≤ x.1 then
 some ((), x.2)
 else
 (gR S 6 a1 0).bind fun v8 =>
 (aI S .int v8 x.1 x.2).bind fun v9 =>
 (gR S 6 a1 1).bind fun v10 =>
 (aI S .int v10 x.1 x.2).bind fun v11 =>
 (f_X6_isMove S a1 x.1 x.2).bind fun q12 =>
 (if q12.1 = 0 then
 (gR S 2 a2 3).bind fun v13 =>
 (sI S v13 v9 v11 q12.2).bind fun ν14 =>
 (f_X10_meet S a0 x.1 a2 a3 ν14).bind fun q15 =>
 k39 (x.1 + 1, q15.2)
 else
 lpN (l_X10_go_78 S k39 a0 a1 a2 a3 x.1 v9 v11) fu (0, q12.2)))
set_option maxRecDepth 100000 in
set_option maxHeartbeats 4000000 in
theorem t_X10_go_39 {γ : GE} {p : Program} {l : Launch} {e : Env} {s : State} {m : MethodId} {args : Array Value} {below : List Frame} {meth : Method} {c : Code} {S : SH} {X : (Unit × Mem)} (F : FX γ p s m args meth c cX10_go RX10 8) (hr : meth.sig.returnType = (none)) (a0 : Nat) (a1 : Nat) (a2 : Nat) (a3 : Nat) (k39 : (Int32 × Mem) → Option (Unit × Mem)) (hk39 : ∀ (x39_4 : Int32) (ν : Mem), k39 (x39_4, ν) = some X → JJ γ p l e rm_X10_go s m args below meth c 8 0 0 (QV below γ S X args s 0 0) S ν 39 [(0, .ref (gb γ + a0)), (1, .ref (gb γ + a1)), (2, .ref (gb γ + a2)), (3, .ref (gb γ + a3)), (4, .int x39_4)] []) (x : (Int32 × Mem)) (h : l_X10_go_39 S a0 a1 a2 a3 k39 x = some X) : JJ γ p l e rm_X10_go s m args below meth c 8 0 0 (QV below γ S X args s 0 0) S x.2 39 [(0, .ref (gb γ + a0)), (1, .ref (gb γ + a1)), (2, .ref (gb γ + a2)), (3, .ref (gb γ + a3)), (4, .int x.1)] [] := by
  unfold l_X10_go_39 at h
  refine j_iload F 4 dX10_go_39 rfl ?_
  refine j_aload_n F 1 dX10_go_41 rfl ?_
  refine j_gI F fl_RX10_34.l rfl dX10_go_42 h (fun v7 h => ?_)
  refine j_icmpge F 145 dX10_go_45 (by decide) h (fun _ h => ?_) (fun _ h => ?_)
  · exact j_vret F hr dX10_go_145 h
  · refine j_aload_n F 1 dX10_go_48 rfl ?_
    refine j_gR F fl_RX10_39 rfl dX10_go_49 h (fun v8 h => ?_)
    refine j_iload F 4 dX10_go_52 rfl ?_
    refine j_iald F dX10_go_54 h (fun v9 h => ?_)
    refine j_istore F [(5, .int v9), (0, .ref (gb γ + a0)), (1, .ref (gb γ + a1)), (2, .ref (gb γ + a2)), (3, .ref (gb γ + a3)), (4, .int x.1)] dX10_go_55 (by decide) rfl ?_
    refine j_aload_n F 2 dX10_go_57 rfl ?_
    refine j_gR F fl_RX10_43 rfl dX10_go_58 h (fun v10 h => ?_)
    refine j_iload F 5 dX10_go_61 rfl ?_
    refine j_iald F dX10_go_63 h (fun v11 h => ?_)
    refine j_istore F [(6, .int v11), (5, .int v9), (0, .ref (gb γ + a0)), (1, .ref (gb γ + a1)), (2, .ref (gb γ + a2)), (3, .ref (gb γ + a3)), (4, .int x.1)] dX10_go_64 (by decide) rfl ?_
    refine j_aload_n F 3 dX10_go_66 rfl ?_
    refine j_iload F 6 dX10_go_67 rfl ?_
    refine j_cVI F mi_X6_isMove w_847 (rest := []) h (fun _ g => c_X6_isMove g) rfl rfl (Nat.le_of_ble_eq_true rfl) ⟨Nat.le_of_ble_eq_true rfl, Nat.le_of_ble_eq_true rfl⟩ ⟨Nat.le_of_ble_eq_true rfl, Nat.le_of_ble_eq_true rfl⟩ dX10_go_69 (fun q12 h => ?_)
    refine j_ifeq F 122 dX10_go_72 (by decide) h (fun _ h => ?_) (fun _ h => ?_)
    · refine j_aload_n F 4 dX10_go_122 rfl ?_
      refine j_gR F fl_RX10_50 rfl dX10_go_123 h (fun v13 h => ?_)
      refine j_iload F 1 dX10_go_126 rfl ?_
      refine j_iload F 0 dX10_go_128 rfl ?_
      refine j_iast F dX10_go_130 h (fun ν14 h => ?_)
      refine j_aload_n F 2 dX10_go_131 rfl ?_
      refine j_iload F 6 dX10_go_132 rfl ?_
      refine j_aload_n F 4 dX10_go_134 rfl ?_
      refine j_aload_n F 5 dX10_go_135 rfl ?_
      refine j_cVV F mi_X10_meet w_840 (rest := []) h (fun _ g => c_X10_meet g) rfl rfl (Nat.le_of_ble_eq_true rfl) ⟨Nat.le_of_ble_eq_true rfl, Nat.le_of_ble_eq_true rfl⟩ ⟨Nat.le_of_ble_eq_true rfl, Nat.le_of_ble_eq_true rfl⟩ dX10_go_136 (fun q15 h => ?_)
      refine j_iinc F 1 6 [(4, .int (x.1 + 1)), (6, .int v11), (5, .int v9), (0, .ref (gb γ + a0)), (1, .ref (gb γ + a1)), (2, .ref (gb γ + a2)), (3, .ref (gb γ + a3))] dX10_go_139 rfl (by decide) (by decide) rfl ?_
      refine j_goto F 39 dX10_go_142 (by decide) ?_
      refine j_lv [(0, .ref (gb γ + a0)), (1, .ref (gb γ + a1)), (2, .ref (gb γ + a2)), (3, .ref (gb γ + a3)), (4, .int (x.1 + 1))] [3, 4, 5, 6, 0] rfl ?_
      exact hk39 _ _ h
    · refine j_iconst F 0 dX10_go_75 (by decide) ?_
      refine j_istore F [(7, .int 0), (6, .int v11), (5, .int v9), (0, .ref (gb γ + a0)), (1, .ref (gb γ + a1)), (2, .ref (gb γ + a2)), (3, .ref (gb γ + a3)), (4, .int x.1)] dX10_go_76 (by decide) rfl ?_
      refine j_lv [(0, .ref (gb γ + a0)), (1, .ref (gb γ + a1)), (2, .ref (gb γ + a2)), (3, .ref (gb γ + a3)), (4, .int x.1), (5, .int v9), (6, .int v11), (7, .int 0)] [3, 4, 5, 6, 7, 2, 1, 0] rfl ?_
      exact s_X10_go_78 F hr _ _ _ _ _ _ _ _ hk39 _ _ h
theorem s_X10_go_39 {γ : GE} {p : Program} {l : Launch} {e : Env} {s : State} {m : MethodId} {args : Array Value} {below : List Frame} {meth : Method} {c : Code} {S : SH} {X : (Unit × Mem)} (F : FX γ p s m args meth c cX10_go RX10 8) (hr : meth.sig.returnType = (none)) (a0 : Nat) (a1 : Nat) (a2 : Nat) (a3 : Nat) (x39_4 : Int32) (ν : Mem) (h : lpN (l_X10_go_39 S a0 a1 a2 a3) fu (x39_4, ν) = some X) : JJ γ p l e rm_X10_go s m args below meth c 8 0 0 (QV below γ S X args s 0 0) S ν 39 [(0, .ref (gb γ + a0)), (1, .ref (gb γ + a1)), (2, .ref (gb γ + a2)), (3, .ref (gb γ + a3)), (4, .int x39_4)] [] :=
 lpN_sound (fun x => JJ γ p l e rm_X10_go s m args below meth c 8 0 0 (QV below γ S X args s 0 0) S x.2 39 [(0, .ref (gb γ + a0)), (1, .ref (gb γ + a1)), (2, .ref (gb γ + a2)), (3, .ref (gb γ + a3)), (4, .int x.1)] []) (fun k39 hk39 x h => t_X10_go_39 F hr a0 a1 a2 a3 k39 (fun x39_4 ν h => hk39 (x39_4, ν) h) x h) fu (x39_4, ν) h
def f_X10_go (S : SH) (a0 : Nat) (a1 : Nat) (a2 : Nat) (a3 : Nat) (μ : Mem) : Option (Unit × Mem) :=
  if isO S 10 a0 = true then
  (pI S 10 a0 0 0 μ).bind fun ν1 =>
  (pI S 10 a0 1 (-5) ν1).bind fun ν2 =>
  (pI S 10 a0 2 (-5) ν2).bind fun ν3 =>
  (pI S 10 a0 3 0 ν3).bind fun ν4 =>
  (pI S 10 a0 4 2147483647 ν4).bind fun ν5 =>
  (f_X10_meet S a0 (-5) a2 a3 ν5).bind fun q6 =>
  lpN (l_X10_go_39 S  a0 a1 a2 a3) fu (0, q6.2)
  else none
set_option maxRecDepth 100000 in
set_option maxHeartbeats 4000000 in
theorem c_X10_go {l : Launch} {γ : GE} {S : SH} {a0 : Nat} {a1 : Nat} {a2 : Nat} {a3 : Nat} {μ : Mem} {X : (Unit × Mem)} (h : f_X10_go S a0 a1 a2 a3 μ = some X) : isO S 10 a0 = true ∧ Ct l γ yX10_go cX10_go 8 (none) rm_X10_go [.ref (gb γ + a0), .ref (gb γ + a1), .ref (gb γ + a2), .ref (gb γ + a3)] S μ S X.2 none := by
  unfold f_X10_go at h
  obtain ⟨h0, h⟩ := if_some h
  refine ⟨h0, ?_⟩
  have hJ : ∀ (p : Program) (e : Env) (s : State) (m : MethodId) (args : Array Value) (below : List Frame) (meth : Method) (c : Code), FX γ p s m args meth c cX10_go RX10 8 → meth.sig.returnType = (none) → JJ γ p l e rm_X10_go s m args below meth c 8 0 0 (QV below γ S X args s 0 0) S μ 0 [(0, .ref (gb γ + a0)), (1, .ref (gb γ + a1)), (2, .ref (gb γ + a2)), (3, .ref (gb γ + a3))] [] := by
    intro p e s m args below meth c F hr
    refine j_aload_n F 0 dX10_go_0 rfl ?_
    refine j_iconst F 0 dX10_go_1 (by decide) ?_
    refine j_pI F fl_RX10_9 rfl dX10_go_2 h (fun ν1 h => ?_)
    refine j_aload_n F 0 dX10_go_5 rfl ?_
    refine j_bipush F (-5) dX10_go_6 (by decide) ?_
    refine j_pI F fl_RX10_15 rfl dX10_go_8 h (fun ν2 h => ?_)
    refine j_aload_n F 0 dX10_go_11 rfl ?_
    refine j_bipush F (-5) dX10_go_12 (by decide) ?_
    refine j_pI F fl_RX10_18 rfl dX10_go_14 h (fun ν3 h => ?_)
    refine j_aload_n F 0 dX10_go_17 rfl ?_
    refine j_iconst F 0 dX10_go_18 (by decide) ?_
    refine j_pI F fl_RX10_21 rfl dX10_go_19 h (fun ν4 h => ?_)
    refine j_aload_n F 0 dX10_go_22 rfl ?_
    refine j_ldci F 2147483647 dX10_go_23 w_839 ?_
    refine j_pI F fl_RX10_27 rfl dX10_go_25 h (fun ν5 h => ?_)
    refine j_aload_n F 0 dX10_go_28 rfl ?_
    refine j_bipush F (-5) dX10_go_29 (by decide) ?_
    refine j_aload_n F 2 dX10_go_31 rfl ?_
    refine j_aload_n F 3 dX10_go_32 rfl ?_
    refine j_cVV F mi_X10_meet w_840 (rest := []) h (fun _ g => c_X10_meet g) rfl rfl (Nat.le_of_ble_eq_true rfl) ⟨Nat.le_of_ble_eq_true rfl, Nat.le_of_ble_eq_true rfl⟩ ⟨Nat.le_of_ble_eq_true rfl, Nat.le_of_ble_eq_true rfl⟩ dX10_go_33 (fun q6 h => ?_)
    refine j_iconst F 0 dX10_go_36 (by decide) ?_
    refine j_istore F [(4, .int 0), (0, .ref (gb γ + a0)), (1, .ref (gb γ + a1)), (2, .ref (gb γ + a2)), (3, .ref (gb γ + a3))] dX10_go_37 (by decide) rfl ?_
    refine j_lv [(0, .ref (gb γ + a0)), (1, .ref (gb γ + a1)), (2, .ref (gb γ + a2)), (3, .ref (gb γ + a3)), (4, .int 0)] [1, 2, 3, 4, 0] rfl ?_
    exact s_X10_go_39 F hr _ _ _ _ _ _ h
  exact ct_of (by decide +kernel) (Nat.le_of_ble_eq_true rfl) (fun p e s m args below meth c F hr _ => hJ p e s m args below meth c F hr)
def rm_X11_isPad : Room := { frames := 1, cells := 0, slots := 0, locals := 22 }
theorem dX11_isPad_0 : decode cX11_isPad 0 = .ok (.iload_n 0, 1) := by decide +kernel
theorem dX11_isPad_1 : decode cX11_isPad 1 = .ok (.iconst 0, 1) := by decide +kernel
theorem dX11_isPad_2 : decode cX11_isPad 2 = .ok (.iconst 3, 1) := by decide +kernel
theorem dX11_isPad_3 : decode cX11_isPad 3 = .ok (.invokestatic 84, 3) := by decide +kernel
theorem dX11_isPad_6 : decode cX11_isPad 6 = .ok (.ireturn, 1) := by decide +kernel
def f_X11_isPad (S : SH) (a0 : Int32) (μ : Mem) : Option (Int32 × Mem) :=
  (f_X11_within S a0 0 3 μ).bind fun q1 =>
  (oz q1.1).bind fun z2 => some (z2, q1.2)
set_option maxRecDepth 100000 in
set_option maxHeartbeats 4000000 in
theorem c_X11_isPad {l : Launch} {γ : GE} {S : SH} {a0 : Int32} {μ : Mem} {X : (Int32 × Mem)} (h : f_X11_isPad S a0 μ = some X) : Ct l γ yX11_isPad cX11_isPad 1 (some .boolean) rm_X11_isPad [.int a0] S μ S X.2 (some (.int X.1)) := by
  unfold f_X11_isPad at h
  have hJ : ∀ (p : Program) (e : Env) (s : State) (m : MethodId) (args : Array Value) (below : List Frame) (meth : Method) (c : Code), FX γ p s m args meth c cX11_isPad RX11 1 → meth.sig.returnType = (some .boolean) → JJ γ p l e rm_X11_isPad s m args below meth c 1 0 0 (QI below γ S X args s 0 0) S μ 0 [(0, .int a0)] [] := by
    intro p e s m args below meth c F hr
    refine j_iload_n F 0 dX11_isPad_0 rfl ?_
    refine j_iconst F 0 dX11_isPad_1 (by decide) ?_
    refine j_iconst F 3 dX11_isPad_2 (by decide) ?_
    refine j_cSI F mi_X11_within w_464 (rest := []) h (fun _ g => c_X11_within g) rfl rfl (Nat.le_of_ble_eq_true rfl) ⟨Nat.le_of_ble_eq_true rfl, Nat.le_of_ble_eq_true rfl⟩ ⟨Nat.le_of_ble_eq_true rfl, Nat.le_of_ble_eq_true rfl⟩ dX11_isPad_3 (fun q1 h => ?_)
    exact j_zretG F hr dX11_isPad_6 h
  exact ct_of (by decide +kernel) (Nat.le_of_ble_eq_true rfl) (fun p e s m args below meth c F hr _ => hJ p e s m args below meth c F hr)
def rm_X11_pad : Room := { frames := 4, cells := 0, slots := 0, locals := 98 }
theorem dX11_pad_0 : decode cX11_pad 0 = .ok (.iload_n 1, 1) := by decide +kernel
theorem dX11_pad_1 : decode cX11_pad 1 = .ok (.invokestatic 80, 3) := by decide +kernel
theorem dX11_pad_4 : decode cX11_pad 4 = .ok (.ifCond .ne 5, 3) := by decide +kernel
theorem dX11_pad_7 : decode cX11_pad 7 = .ok (.iconst (-1), 1) := by decide +kernel
theorem dX11_pad_8 : decode cX11_pad 8 = .ok (.ireturn, 1) := by decide +kernel
theorem dX11_pad_9 : decode cX11_pad 9 = .ok (.iload_n 2, 1) := by decide +kernel
theorem dX11_pad_10 : decode cX11_pad 10 = .ok (.bipush (-30), 2) := by decide +kernel
theorem dX11_pad_12 : decode cX11_pad 12 = .ok (.bipush 30, 2) := by decide +kernel
theorem dX11_pad_14 : decode cX11_pad 14 = .ok (.invokestatic 84, 3) := by decide +kernel
theorem dX11_pad_17 : decode cX11_pad 17 = .ok (.ifCond .eq 26, 3) := by decide +kernel
theorem dX11_pad_20 : decode cX11_pad 20 = .ok (.iload_n 3, 1) := by decide +kernel
theorem dX11_pad_21 : decode cX11_pad 21 = .ok (.bipush (-30), 2) := by decide +kernel
theorem dX11_pad_23 : decode cX11_pad 23 = .ok (.bipush 30, 2) := by decide +kernel
theorem dX11_pad_25 : decode cX11_pad 25 = .ok (.invokestatic 84, 3) := by decide +kernel
theorem dX11_pad_28 : decode cX11_pad 28 = .ok (.ifCond .eq 15, 3) := by decide +kernel
theorem dX11_pad_31 : decode cX11_pad 31 = .ok (.iload 4, 2) := by decide +kernel
theorem dX11_pad_33 : decode cX11_pad 33 = .ok (.iconst 0, 1) := by decide +kernel
theorem dX11_pad_34 : decode cX11_pad 34 = .ok (.sipush 9999, 3) := by decide +kernel
theorem dX11_pad_37 : decode cX11_pad 37 = .ok (.invokestatic 84, 3) := by decide +kernel
theorem dX11_pad_40 : decode cX11_pad 40 = .ok (.ifCond .ne 6, 3) := by decide +kernel
theorem dX11_pad_43 : decode cX11_pad 43 = .ok (.bipush (-2), 2) := by decide +kernel
theorem dX11_pad_45 : decode cX11_pad 45 = .ok (.ireturn, 1) := by decide +kernel
theorem dX11_pad_46 : decode cX11_pad 46 = .ok (.aload_n 0, 1) := by decide +kernel
theorem dX11_pad_47 : decode cX11_pad 47 = .ok (.getfield 12, 3) := by decide +kernel
theorem dX11_pad_50 : decode cX11_pad 50 = .ok (.getfield 88, 3) := by decide +kernel
theorem dX11_pad_53 : decode cX11_pad 53 = .ok (.iload_n 1, 1) := by decide +kernel
theorem dX11_pad_54 : decode cX11_pad 54 = .ok (.iload_n 2, 1) := by decide +kernel
theorem dX11_pad_55 : decode cX11_pad 55 = .ok (.iload_n 3, 1) := by decide +kernel
theorem dX11_pad_56 : decode cX11_pad 56 = .ok (.iload 4, 2) := by decide +kernel
theorem dX11_pad_58 : decode cX11_pad 58 = .ok (.invokevirtual 92, 3) := by decide +kernel
theorem dX11_pad_61 : decode cX11_pad 61 = .ok (.aload_n 0, 1) := by decide +kernel
theorem dX11_pad_62 : decode cX11_pad 62 = .ok (.getfield 12, 3) := by decide +kernel
theorem dX11_pad_65 : decode cX11_pad 65 = .ok (.getfield 88, 3) := by decide +kernel
theorem dX11_pad_68 : decode cX11_pad 68 = .ok (.getfield 98, 3) := by decide +kernel
theorem dX11_pad_71 : decode cX11_pad 71 = .ok (.ifCond .eq 7, 3) := by decide +kernel
theorem dX11_pad_74 : decode cX11_pad 74 = .ok (.iconst 1, 1) := by decide +kernel
theorem dX11_pad_75 : decode cX11_pad 75 = .ok (.goto 4, 3) := by decide +kernel
theorem dX11_pad_78 : decode cX11_pad 78 = .ok (.iconst 0, 1) := by decide +kernel
theorem dX11_pad_79 : decode cX11_pad 79 = .ok (.ireturn, 1) := by decide +kernel
def f_X11_pad (S : SH) (a0 : Nat) (a1 : Int32) (a2 : Int32) (a3 : Int32) (a4 : Int32) (μ : Mem) : Option (Int32 × Mem) :=
  if isO S 11 a0 = true then
  (f_X11_isPad S a1 μ).bind fun q1 =>
  (if q1.1 = 0 then
  some ((-1), q1.2)
  else
  (f_X11_within S a2 (-30) 30 q1.2).bind fun q2 =>
  (if q2.1 = 0 then
  some ((-2), q2.2)
  else
  (f_X11_within S a3 (-30) 30 q2.2).bind fun q3 =>
  (if q3.1 = 0 then
  some ((-2), q3.2)
  else
  (f_X11_within S a4 0 9999 q3.2).bind fun q4 =>
  (if q4.1 = 0 then
  some ((-2), q4.2)
  else
  (gR S 11 a0 0).bind fun v5 =>
  (gR S 2 v5 0).bind fun v6 =>
  (f_X4_place S v6 a1 a2 a3 a4 q4.2).bind fun q7 =>
  (gR S 11 a0 0).bind fun v8 =>
  (gR S 2 v8 0).bind fun v9 =>
  (gI S 4 v9 3 q7.2).bind fun v10 =>
  (if v10 = 0 then
  some (0, q7.2)
  else
  some (1, q7.2))))))
  else none
set_option maxRecDepth 100000 in
set_option maxHeartbeats 4000000 in
theorem c_X11_pad {l : Launch} {γ : GE} {S : SH} {a0 : Nat} {a1 : Int32} {a2 : Int32} {a3 : Int32} {a4 : Int32} {μ : Mem} {X : (Int32 × Mem)} (h : f_X11_pad S a0 a1 a2 a3 a4 μ = some X) : isO S 11 a0 = true ∧ Ct l γ yX11_pad cX11_pad 5 (some .int) rm_X11_pad [.ref (gb γ + a0), .int a1, .int a2, .int a3, .int a4] S μ S X.2 (some (.int X.1)) := by
  unfold f_X11_pad at h
  obtain ⟨h0, h⟩ := if_some h
  refine ⟨h0, ?_⟩
  have hJ : ∀ (p : Program) (e : Env) (s : State) (m : MethodId) (args : Array Value) (below : List Frame) (meth : Method) (c : Code), FX γ p s m args meth c cX11_pad RX11 5 → meth.sig.returnType = (some .int) → JJ γ p l e rm_X11_pad s m args below meth c 5 0 0 (QI below γ S X args s 0 0) S μ 0 [(0, .ref (gb γ + a0)), (1, .int a1), (2, .int a2), (3, .int a3), (4, .int a4)] [] := by
    intro p e s m args below meth c F hr
    refine j_iload_n F 1 dX11_pad_0 rfl ?_
    refine j_cSI F mi_X11_isPad w_461 (rest := []) h (fun _ g => c_X11_isPad g) rfl rfl (Nat.le_of_ble_eq_true rfl) ⟨Nat.le_of_ble_eq_true rfl, Nat.le_of_ble_eq_true rfl⟩ ⟨Nat.le_of_ble_eq_true rfl, Nat.le_of_ble_eq_true rfl⟩ dX11_pad_1 (fun q1 h => ?_)
    refine j_ifne F 9 dX11_pad_4 (by decide) h (fun _ h => ?_) (fun _ h => ?_)
    · refine j_iload_n F 2 dX11_pad_9 rfl ?_
      refine j_bipush F (-30) dX11_pad_10 (by decide) ?_
      refine j_bipush F 30 dX11_pad_12 (by decide) ?_
      refine j_cSI F mi_X11_within w_464 (rest := []) h (fun _ g => c_X11_within g) rfl rfl (Nat.le_of_ble_eq_true rfl) ⟨Nat.le_of_ble_eq_true rfl, Nat.le_of_ble_eq_true rfl⟩ ⟨Nat.le_of_ble_eq_true rfl, Nat.le_of_ble_eq_true rfl⟩ dX11_pad_14 (fun q2 h => ?_)
      refine j_ifeq F 43 dX11_pad_17 (by decide) h (fun _ h => ?_) (fun _ h => ?_)
      · refine j_bipush F (-2) dX11_pad_43 (by decide) ?_
        exact j_iret F hr dX11_pad_45 h
      · refine j_iload_n F 3 dX11_pad_20 rfl ?_
        refine j_bipush F (-30) dX11_pad_21 (by decide) ?_
        refine j_bipush F 30 dX11_pad_23 (by decide) ?_
        refine j_cSI F mi_X11_within w_464 (rest := []) h (fun _ g => c_X11_within g) rfl rfl (Nat.le_of_ble_eq_true rfl) ⟨Nat.le_of_ble_eq_true rfl, Nat.le_of_ble_eq_true rfl⟩ ⟨Nat.le_of_ble_eq_true rfl, Nat.le_of_ble_eq_true rfl⟩ dX11_pad_25 (fun q3 h => ?_)
        refine j_ifeq F 43 dX11_pad_28 (by decide) h (fun _ h => ?_) (fun _ h => ?_)
        · refine j_bipush F (-2) dX11_pad_43 (by decide) ?_
          exact j_iret F hr dX11_pad_45 h
        · refine j_iload F 4 dX11_pad_31 rfl ?_
          refine j_iconst F 0 dX11_pad_33 (by decide) ?_
          refine j_sipush F 9999 dX11_pad_34 (by decide) ?_
          refine j_cSI F mi_X11_within w_464 (rest := []) h (fun _ g => c_X11_within g) rfl rfl (Nat.le_of_ble_eq_true rfl) ⟨Nat.le_of_ble_eq_true rfl, Nat.le_of_ble_eq_true rfl⟩ ⟨Nat.le_of_ble_eq_true rfl, Nat.le_of_ble_eq_true rfl⟩ dX11_pad_37 (fun q4 h => ?_)
          refine j_ifne F 46 dX11_pad_40 (by decide) h (fun _ h => ?_) (fun _ h => ?_)
          · refine j_aload_n F 0 dX11_pad_46 rfl ?_
            refine j_gR F fl_RX11_12 rfl dX11_pad_47 h (fun v5 h => ?_)
            refine j_gR F fl_RX11_88 rfl dX11_pad_50 h (fun v6 h => ?_)
            refine j_iload_n F 1 dX11_pad_53 rfl ?_
            refine j_iload_n F 2 dX11_pad_54 rfl ?_
            refine j_iload_n F 3 dX11_pad_55 rfl ?_
            refine j_iload F 4 dX11_pad_56 rfl ?_
            refine j_cVV F mi_X4_place w_467 (rest := []) h (fun _ g => c_X4_place g) rfl rfl (Nat.le_of_ble_eq_true rfl) ⟨Nat.le_of_ble_eq_true rfl, Nat.le_of_ble_eq_true rfl⟩ ⟨Nat.le_of_ble_eq_true rfl, Nat.le_of_ble_eq_true rfl⟩ dX11_pad_58 (fun q7 h => ?_)
            refine j_aload_n F 0 dX11_pad_61 rfl ?_
            refine j_gR F fl_RX11_12 rfl dX11_pad_62 h (fun v8 h => ?_)
            refine j_gR F fl_RX11_88 rfl dX11_pad_65 h (fun v9 h => ?_)
            refine j_gI F fl_RX11_98.l rfl dX11_pad_68 h (fun v10 h => ?_)
            refine j_ifeq F 78 dX11_pad_71 (by decide) h (fun _ h => ?_) (fun _ h => ?_)
            · refine j_iconst F 0 dX11_pad_78 (by decide) ?_
              exact j_iret F hr dX11_pad_79 h
            · refine j_iconst F 1 dX11_pad_74 (by decide) ?_
              refine j_goto F 79 dX11_pad_75 (by decide) ?_
              exact j_iret F hr dX11_pad_79 h
          · refine j_bipush F (-2) dX11_pad_43 (by decide) ?_
            exact j_iret F hr dX11_pad_45 h
    · refine j_iconst F (-1) dX11_pad_7 (by decide) ?_
      exact j_iret F hr dX11_pad_8 h
  exact ct_of (by decide +kernel) (Nat.le_of_ble_eq_true rfl) (fun p e s m args below meth c F hr _ => hJ p e s m args below meth c F hr)
def rm_X11_isMass : Room := { frames := 1, cells := 0, slots := 0, locals := 22 }
theorem dX11_isMass_0 : decode cX11_isMass 0 = .ok (.iload_n 0, 1) := by decide +kernel
theorem dX11_isMass_1 : decode cX11_isMass 1 = .ok (.iconst 1, 1) := by decide +kernel
theorem dX11_isMass_2 : decode cX11_isMass 2 = .ok (.sipush 999, 3) := by decide +kernel
theorem dX11_isMass_5 : decode cX11_isMass 5 = .ok (.invokestatic 84, 3) := by decide +kernel
theorem dX11_isMass_8 : decode cX11_isMass 8 = .ok (.ireturn, 1) := by decide +kernel
def f_X11_isMass (S : SH) (a0 : Int32) (μ : Mem) : Option (Int32 × Mem) :=
  (f_X11_within S a0 1 999 μ).bind fun q1 =>
  (oz q1.1).bind fun z2 => some (z2, q1.2)
set_option maxRecDepth 100000 in
set_option maxHeartbeats 4000000 in
theorem c_X11_isMass {l : Launch} {γ : GE} {S : SH} {a0 : Int32} {μ : Mem} {X : (Int32 × Mem)} (h : f_X11_isMass S a0 μ = some X) : Ct l γ yX11_isMass cX11_isMass 1 (some .boolean) rm_X11_isMass [.int a0] S μ S X.2 (some (.int X.1)) := by
  unfold f_X11_isMass at h
  have hJ : ∀ (p : Program) (e : Env) (s : State) (m : MethodId) (args : Array Value) (below : List Frame) (meth : Method) (c : Code), FX γ p s m args meth c cX11_isMass RX11 1 → meth.sig.returnType = (some .boolean) → JJ γ p l e rm_X11_isMass s m args below meth c 1 0 0 (QI below γ S X args s 0 0) S μ 0 [(0, .int a0)] [] := by
    intro p e s m args below meth c F hr
    refine j_iload_n F 0 dX11_isMass_0 rfl ?_
    refine j_iconst F 1 dX11_isMass_1 (by decide) ?_
    refine j_sipush F 999 dX11_isMass_2 (by decide) ?_
    refine j_cSI F mi_X11_within w_464 (rest := []) h (fun _ g => c_X11_within g) rfl rfl (Nat.le_of_ble_eq_true rfl) ⟨Nat.le_of_ble_eq_true rfl, Nat.le_of_ble_eq_true rfl⟩ ⟨Nat.le_of_ble_eq_true rfl, Nat.le_of_ble_eq_true rfl⟩ dX11_isMass_5 (fun q1 h => ?_)
    exact j_zretG F hr dX11_isMass_8 h
  exact ct_of (by decide +kernel) (Nat.le_of_ble_eq_true rfl) (fun p e s m args below meth c F hr _ => hJ p e s m args below meth c F hr)
def rm_X11_part : Room := { frames := 2, cells := 0, slots := 0, locals := 48 }
theorem dX11_part_0 : decode cX11_part 0 = .ok (.iload_n 1, 1) := by decide +kernel
theorem dX11_part_1 : decode cX11_part 1 = .ok (.invokestatic 101, 3) := by decide +kernel
theorem dX11_part_4 : decode cX11_part 4 = .ok (.ifCond .eq 25, 3) := by decide +kernel
theorem dX11_part_7 : decode cX11_part 7 = .ok (.iload_n 2, 1) := by decide +kernel
theorem dX11_part_8 : decode cX11_part 8 = .ok (.bipush (-40), 2) := by decide +kernel
theorem dX11_part_10 : decode cX11_part 10 = .ok (.bipush 40, 2) := by decide +kernel
theorem dX11_part_12 : decode cX11_part 12 = .ok (.invokestatic 84, 3) := by decide +kernel
theorem dX11_part_15 : decode cX11_part 15 = .ok (.ifCond .eq 14, 3) := by decide +kernel
theorem dX11_part_18 : decode cX11_part 18 = .ok (.iload_n 3, 1) := by decide +kernel
theorem dX11_part_19 : decode cX11_part 19 = .ok (.bipush (-40), 2) := by decide +kernel
theorem dX11_part_21 : decode cX11_part 21 = .ok (.bipush 40, 2) := by decide +kernel
theorem dX11_part_23 : decode cX11_part 23 = .ok (.invokestatic 84, 3) := by decide +kernel
theorem dX11_part_26 : decode cX11_part 26 = .ok (.ifCond .ne 6, 3) := by decide +kernel
theorem dX11_part_29 : decode cX11_part 29 = .ok (.bipush (-2), 2) := by decide +kernel
theorem dX11_part_31 : decode cX11_part 31 = .ok (.ireturn, 1) := by decide +kernel
theorem dX11_part_32 : decode cX11_part 32 = .ok (.aload_n 0, 1) := by decide +kernel
theorem dX11_part_33 : decode cX11_part 33 = .ok (.getfield 12, 3) := by decide +kernel
theorem dX11_part_36 : decode cX11_part 36 = .ok (.getfield 104, 3) := by decide +kernel
theorem dX11_part_39 : decode cX11_part 39 = .ok (.getfield 108, 3) := by decide +kernel
theorem dX11_part_42 : decode cX11_part 42 = .ok (.bipush 8, 2) := by decide +kernel
theorem dX11_part_44 : decode cX11_part 44 = .ok (.if_icmp .lt 6, 3) := by decide +kernel
theorem dX11_part_47 : decode cX11_part 47 = .ok (.bipush (-4), 2) := by decide +kernel
theorem dX11_part_49 : decode cX11_part 49 = .ok (.ireturn, 1) := by decide +kernel
theorem dX11_part_50 : decode cX11_part 50 = .ok (.aload_n 0, 1) := by decide +kernel
theorem dX11_part_51 : decode cX11_part 51 = .ok (.getfield 12, 3) := by decide +kernel
theorem dX11_part_54 : decode cX11_part 54 = .ok (.getfield 104, 3) := by decide +kernel
theorem dX11_part_57 : decode cX11_part 57 = .ok (.iload_n 1, 1) := by decide +kernel
theorem dX11_part_58 : decode cX11_part 58 = .ok (.iload_n 2, 1) := by decide +kernel
theorem dX11_part_59 : decode cX11_part 59 = .ok (.iload_n 3, 1) := by decide +kernel
theorem dX11_part_60 : decode cX11_part 60 = .ok (.iload 4, 2) := by decide +kernel
theorem dX11_part_62 : decode cX11_part 62 = .ok (.invokevirtual 114, 3) := by decide +kernel
theorem dX11_part_65 : decode cX11_part 65 = .ok (.ireturn, 1) := by decide +kernel
def f_X11_part (S : SH) (a0 : Nat) (a1 : Int32) (a2 : Int32) (a3 : Int32) (a4 : Int32) (μ : Mem) : Option (Int32 × Mem) :=
  if isO S 11 a0 = true then
  (f_X11_isMass S a1 μ).bind fun q1 =>
  (if q1.1 = 0 then
  some ((-2), q1.2)
  else
  (f_X11_within S a2 (-40) 40 q1.2).bind fun q2 =>
  (if q2.1 = 0 then
  some ((-2), q2.2)
  else
  (f_X11_within S a3 (-40) 40 q2.2).bind fun q3 =>
  (if q3.1 = 0 then
  some ((-2), q3.2)
  else
  (gR S 11 a0 0).bind fun v4 =>
  (gR S 2 v4 1).bind fun v5 =>
  (gI S 5 v5 4 q3.2).bind fun v6 =>
  (if v6 < 8 then
  (gR S 11 a0 0).bind fun v7 =>
  (gR S 2 v7 1).bind fun v8 =>
  (f_X5_append S v8 a1 a2 a3 a4 q3.2).bind fun q9 =>
  some (q9.1, q9.2)
  else
  some ((-4), q3.2)))))
  else none
set_option maxRecDepth 100000 in
set_option maxHeartbeats 4000000 in
theorem c_X11_part {l : Launch} {γ : GE} {S : SH} {a0 : Nat} {a1 : Int32} {a2 : Int32} {a3 : Int32} {a4 : Int32} {μ : Mem} {X : (Int32 × Mem)} (h : f_X11_part S a0 a1 a2 a3 a4 μ = some X) : isO S 11 a0 = true ∧ Ct l γ yX11_part cX11_part 5 (some .int) rm_X11_part [.ref (gb γ + a0), .int a1, .int a2, .int a3, .int a4] S μ S X.2 (some (.int X.1)) := by
  unfold f_X11_part at h
  obtain ⟨h0, h⟩ := if_some h
  refine ⟨h0, ?_⟩
  have hJ : ∀ (p : Program) (e : Env) (s : State) (m : MethodId) (args : Array Value) (below : List Frame) (meth : Method) (c : Code), FX γ p s m args meth c cX11_part RX11 5 → meth.sig.returnType = (some .int) → JJ γ p l e rm_X11_part s m args below meth c 5 0 0 (QI below γ S X args s 0 0) S μ 0 [(0, .ref (gb γ + a0)), (1, .int a1), (2, .int a2), (3, .int a3), (4, .int a4)] [] := by
    intro p e s m args below meth c F hr
    refine j_iload_n F 1 dX11_part_0 rfl ?_
    refine j_cSI F mi_X11_isMass w_475 (rest := []) h (fun _ g => c_X11_isMass g) rfl rfl (Nat.le_of_ble_eq_true rfl) ⟨Nat.le_of_ble_eq_true rfl, Nat.le_of_ble_eq_true rfl⟩ ⟨Nat.le_of_ble_eq_true rfl, Nat.le_of_ble_eq_true rfl⟩ dX11_part_1 (fun q1 h => ?_)
    refine j_ifeq F 29 dX11_part_4 (by decide) h (fun _ h => ?_) (fun _ h => ?_)
    · refine j_bipush F (-2) dX11_part_29 (by decide) ?_
      exact j_iret F hr dX11_part_31 h
    · refine j_iload_n F 2 dX11_part_7 rfl ?_
      refine j_bipush F (-40) dX11_part_8 (by decide) ?_
      refine j_bipush F 40 dX11_part_10 (by decide) ?_
      refine j_cSI F mi_X11_within w_464 (rest := []) h (fun _ g => c_X11_within g) rfl rfl (Nat.le_of_ble_eq_true rfl) ⟨Nat.le_of_ble_eq_true rfl, Nat.le_of_ble_eq_true rfl⟩ ⟨Nat.le_of_ble_eq_true rfl, Nat.le_of_ble_eq_true rfl⟩ dX11_part_12 (fun q2 h => ?_)
      refine j_ifeq F 29 dX11_part_15 (by decide) h (fun _ h => ?_) (fun _ h => ?_)
      · refine j_bipush F (-2) dX11_part_29 (by decide) ?_
        exact j_iret F hr dX11_part_31 h
      · refine j_iload_n F 3 dX11_part_18 rfl ?_
        refine j_bipush F (-40) dX11_part_19 (by decide) ?_
        refine j_bipush F 40 dX11_part_21 (by decide) ?_
        refine j_cSI F mi_X11_within w_464 (rest := []) h (fun _ g => c_X11_within g) rfl rfl (Nat.le_of_ble_eq_true rfl) ⟨Nat.le_of_ble_eq_true rfl, Nat.le_of_ble_eq_true rfl⟩ ⟨Nat.le_of_ble_eq_true rfl, Nat.le_of_ble_eq_true rfl⟩ dX11_part_23 (fun q3 h => ?_)
        refine j_ifne F 32 dX11_part_26 (by decide) h (fun _ h => ?_) (fun _ h => ?_)
        · refine j_aload_n F 0 dX11_part_32 rfl ?_
          refine j_gR F fl_RX11_12 rfl dX11_part_33 h (fun v4 h => ?_)
          refine j_gR F fl_RX11_104 rfl dX11_part_36 h (fun v5 h => ?_)
          refine j_gI F fl_RX11_108.l rfl dX11_part_39 h (fun v6 h => ?_)
          refine j_bipush F 8 dX11_part_42 (by decide) ?_
          refine j_icmplt F 50 dX11_part_44 (by decide) h (fun _ h => ?_) (fun _ h => ?_)
          · refine j_aload_n F 0 dX11_part_50 rfl ?_
            refine j_gR F fl_RX11_12 rfl dX11_part_51 h (fun v7 h => ?_)
            refine j_gR F fl_RX11_104 rfl dX11_part_54 h (fun v8 h => ?_)
            refine j_iload_n F 1 dX11_part_57 rfl ?_
            refine j_iload_n F 2 dX11_part_58 rfl ?_
            refine j_iload_n F 3 dX11_part_59 rfl ?_
            refine j_iload F 4 dX11_part_60 rfl ?_
            refine j_cVI F mi_X5_append w_478 (rest := []) h (fun _ g => c_X5_append g) rfl rfl (Nat.le_of_ble_eq_true rfl) ⟨Nat.le_of_ble_eq_true rfl, Nat.le_of_ble_eq_true rfl⟩ ⟨Nat.le_of_ble_eq_true rfl, Nat.le_of_ble_eq_true rfl⟩ dX11_part_62 (fun q9 h => ?_)
            exact j_iret F hr dX11_part_65 h
          · refine j_bipush F (-4) dX11_part_47 (by decide) ?_
            exact j_iret F hr dX11_part_49 h
        · refine j_bipush F (-2) dX11_part_29 (by decide) ?_
          exact j_iret F hr dX11_part_31 h
  exact ct_of (by decide +kernel) (Nat.le_of_ble_eq_true rfl) (fun p e s m args below meth c F hr _ => hJ p e s m args below meth c F hr)
def rm_X11_mass : Room := { frames := 2, cells := 0, slots := 0, locals := 42 }
theorem dX11_mass_0 : decode cX11_mass 0 = .ok (.aload_n 0, 1) := by decide +kernel
theorem dX11_mass_1 : decode cX11_mass 1 = .ok (.getfield 12, 3) := by decide +kernel
theorem dX11_mass_4 : decode cX11_mass 4 = .ok (.getfield 104, 3) := by decide +kernel
theorem dX11_mass_7 : decode cX11_mass 7 = .ok (.iload_n 1, 1) := by decide +kernel
theorem dX11_mass_8 : decode cX11_mass 8 = .ok (.invokevirtual 118, 3) := by decide +kernel
theorem dX11_mass_11 : decode cX11_mass 11 = .ok (.ifCond .ne 5, 3) := by decide +kernel
theorem dX11_mass_14 : decode cX11_mass 14 = .ok (.iconst (-1), 1) := by decide +kernel
theorem dX11_mass_15 : decode cX11_mass 15 = .ok (.ireturn, 1) := by decide +kernel
theorem dX11_mass_16 : decode cX11_mass 16 = .ok (.iload_n 2, 1) := by decide +kernel
theorem dX11_mass_17 : decode cX11_mass 17 = .ok (.invokestatic 101, 3) := by decide +kernel
theorem dX11_mass_20 : decode cX11_mass 20 = .ok (.ifCond .ne 6, 3) := by decide +kernel
theorem dX11_mass_23 : decode cX11_mass 23 = .ok (.bipush (-2), 2) := by decide +kernel
theorem dX11_mass_25 : decode cX11_mass 25 = .ok (.ireturn, 1) := by decide +kernel
theorem dX11_mass_26 : decode cX11_mass 26 = .ok (.aload_n 0, 1) := by decide +kernel
theorem dX11_mass_27 : decode cX11_mass 27 = .ok (.getfield 12, 3) := by decide +kernel
theorem dX11_mass_30 : decode cX11_mass 30 = .ok (.getfield 104, 3) := by decide +kernel
theorem dX11_mass_33 : decode cX11_mass 33 = .ok (.getfield 121, 3) := by decide +kernel
theorem dX11_mass_36 : decode cX11_mass 36 = .ok (.iload_n 1, 1) := by decide +kernel
theorem dX11_mass_37 : decode cX11_mass 37 = .ok (.iaload, 1) := by decide +kernel
theorem dX11_mass_38 : decode cX11_mass 38 = .ok (.istore_n 3, 1) := by decide +kernel
theorem dX11_mass_39 : decode cX11_mass 39 = .ok (.aload_n 0, 1) := by decide +kernel
theorem dX11_mass_40 : decode cX11_mass 40 = .ok (.getfield 12, 3) := by decide +kernel
theorem dX11_mass_43 : decode cX11_mass 43 = .ok (.getfield 104, 3) := by decide +kernel
theorem dX11_mass_46 : decode cX11_mass 46 = .ok (.iload_n 1, 1) := by decide +kernel
theorem dX11_mass_47 : decode cX11_mass 47 = .ok (.iload_n 2, 1) := by decide +kernel
theorem dX11_mass_48 : decode cX11_mass 48 = .ok (.invokevirtual 125, 3) := by decide +kernel
theorem dX11_mass_51 : decode cX11_mass 51 = .ok (.iload_n 3, 1) := by decide +kernel
theorem dX11_mass_52 : decode cX11_mass 52 = .ok (.ireturn, 1) := by decide +kernel
def f_X11_mass (S : SH) (a0 : Nat) (a1 : Int32) (a2 : Int32) (μ : Mem) : Option (Int32 × Mem) :=
  if isO S 11 a0 = true then
  (gR S 11 a0 0).bind fun v1 =>
  (gR S 2 v1 1).bind fun v2 =>
  (f_X5_has S v2 a1 μ).bind fun q3 =>
  (if q3.1 = 0 then
  some ((-1), q3.2)
  else
  (f_X11_isMass S a2 q3.2).bind fun q4 =>
  (if q4.1 = 0 then
  some ((-2), q4.2)
  else
  (gR S 11 a0 0).bind fun v5 =>
  (gR S 2 v5 1).bind fun v6 =>
  (gR S 5 v6 0).bind fun v7 =>
  (aI S .int v7 a1 q4.2).bind fun v8 =>
  (gR S 11 a0 0).bind fun v9 =>
  (gR S 2 v9 1).bind fun v10 =>
  (f_X5_reweigh S v10 a1 a2 q4.2).bind fun q11 =>
  some (v8, q11.2)))
  else none
set_option maxRecDepth 100000 in
set_option maxHeartbeats 4000000 in
theorem c_X11_mass {l : Launch} {γ : GE} {S : SH} {a0 : Nat} {a1 : Int32} {a2 : Int32} {μ : Mem} {X : (Int32 × Mem)} (h : f_X11_mass S a0 a1 a2 μ = some X) : isO S 11 a0 = true ∧ Ct l γ yX11_mass cX11_mass 4 (some .int) rm_X11_mass [.ref (gb γ + a0), .int a1, .int a2] S μ S X.2 (some (.int X.1)) := by
  unfold f_X11_mass at h
  obtain ⟨h0, h⟩ := if_some h
  refine ⟨h0, ?_⟩
  have hJ : ∀ (p : Program) (e : Env) (s : State) (m : MethodId) (args : Array Value) (below : List Frame) (meth : Method) (c : Code), FX γ p s m args meth c cX11_mass RX11 4 → meth.sig.returnType = (some .int) → JJ γ p l e rm_X11_mass s m args below meth c 4 0 0 (QI below γ S X args s 0 0) S μ 0 [(0, .ref (gb γ + a0)), (1, .int a1), (2, .int a2)] [] := by
    intro p e s m args below meth c F hr
    refine j_aload_n F 0 dX11_mass_0 rfl ?_
    refine j_gR F fl_RX11_12 rfl dX11_mass_1 h (fun v1 h => ?_)
    refine j_gR F fl_RX11_104 rfl dX11_mass_4 h (fun v2 h => ?_)
    refine j_iload_n F 1 dX11_mass_7 rfl ?_
    refine j_cVI F mi_X5_has w_490 (rest := []) h (fun _ g => c_X5_has g) rfl rfl (Nat.le_of_ble_eq_true rfl) ⟨Nat.le_of_ble_eq_true rfl, Nat.le_of_ble_eq_true rfl⟩ ⟨Nat.le_of_ble_eq_true rfl, Nat.le_of_ble_eq_true rfl⟩ dX11_mass_8 (fun q3 h => ?_)
    refine j_ifne F 16 dX11_mass_11 (by decide) h (fun _ h => ?_) (fun _ h => ?_)
    · refine j_iload_n F 2 dX11_mass_16 rfl ?_
      refine j_cSI F mi_X11_isMass w_475 (rest := []) h (fun _ g => c_X11_isMass g) rfl rfl (Nat.le_of_ble_eq_true rfl) ⟨Nat.le_of_ble_eq_true rfl, Nat.le_of_ble_eq_true rfl⟩ ⟨Nat.le_of_ble_eq_true rfl, Nat.le_of_ble_eq_true rfl⟩ dX11_mass_17 (fun q4 h => ?_)
      refine j_ifne F 26 dX11_mass_20 (by decide) h (fun _ h => ?_) (fun _ h => ?_)
      · refine j_aload_n F 0 dX11_mass_26 rfl ?_
        refine j_gR F fl_RX11_12 rfl dX11_mass_27 h (fun v5 h => ?_)
        refine j_gR F fl_RX11_104 rfl dX11_mass_30 h (fun v6 h => ?_)
        refine j_gR F fl_RX11_121 rfl dX11_mass_33 h (fun v7 h => ?_)
        refine j_iload_n F 1 dX11_mass_36 rfl ?_
        refine j_iald F dX11_mass_37 h (fun v8 h => ?_)
        refine j_istore_n F [(3, .int v8), (0, .ref (gb γ + a0)), (1, .int a1), (2, .int a2)] dX11_mass_38 rfl (by decide) rfl ?_
        refine j_aload_n F 1 dX11_mass_39 rfl ?_
        refine j_gR F fl_RX11_12 rfl dX11_mass_40 h (fun v9 h => ?_)
        refine j_gR F fl_RX11_104 rfl dX11_mass_43 h (fun v10 h => ?_)
        refine j_iload_n F 2 dX11_mass_46 rfl ?_
        refine j_iload_n F 3 dX11_mass_47 rfl ?_
        refine j_cVV F mi_X5_reweigh w_494 (rest := []) h (fun _ g => c_X5_reweigh g) rfl rfl (Nat.le_of_ble_eq_true rfl) ⟨Nat.le_of_ble_eq_true rfl, Nat.le_of_ble_eq_true rfl⟩ ⟨Nat.le_of_ble_eq_true rfl, Nat.le_of_ble_eq_true rfl⟩ dX11_mass_48 (fun q11 h => ?_)
        refine j_iload_n F 0 dX11_mass_51 rfl ?_
        exact j_iret F hr dX11_mass_52 h
      · refine j_bipush F (-2) dX11_mass_23 (by decide) ?_
        exact j_iret F hr dX11_mass_25 h
    · refine j_iconst F (-1) dX11_mass_14 (by decide) ?_
      exact j_iret F hr dX11_mass_15 h
  exact ct_of (by decide +kernel) (Nat.le_of_ble_eq_true rfl) (fun p e s m args below meth c F hr _ => hJ p e s m args below meth c F hr)
def rm_X11_isDial : Room := { frames := 1, cells := 0, slots := 0, locals := 22 }
theorem dX11_isDial_0 : decode cX11_isDial 0 = .ok (.iload_n 0, 1) := by decide +kernel
theorem dX11_isDial_1 : decode cX11_isDial 1 = .ok (.iconst 0, 1) := by decide +kernel
theorem dX11_isDial_2 : decode cX11_isDial 2 = .ok (.bipush 7, 2) := by decide +kernel
theorem dX11_isDial_4 : decode cX11_isDial 4 = .ok (.invokestatic 84, 3) := by decide +kernel
theorem dX11_isDial_7 : decode cX11_isDial 7 = .ok (.ifCond .ne 14, 3) := by decide +kernel
theorem dX11_isDial_10 : decode cX11_isDial 10 = .ok (.iload_n 0, 1) := by decide +kernel
theorem dX11_isDial_11 : decode cX11_isDial 11 = .ok (.bipush 10, 2) := by decide +kernel
theorem dX11_isDial_13 : decode cX11_isDial 13 = .ok (.bipush 13, 2) := by decide +kernel
theorem dX11_isDial_15 : decode cX11_isDial 15 = .ok (.invokestatic 84, 3) := by decide +kernel
theorem dX11_isDial_18 : decode cX11_isDial 18 = .ok (.ifCond .eq 7, 3) := by decide +kernel
theorem dX11_isDial_21 : decode cX11_isDial 21 = .ok (.iconst 1, 1) := by decide +kernel
theorem dX11_isDial_22 : decode cX11_isDial 22 = .ok (.goto 4, 3) := by decide +kernel
theorem dX11_isDial_25 : decode cX11_isDial 25 = .ok (.iconst 0, 1) := by decide +kernel
theorem dX11_isDial_26 : decode cX11_isDial 26 = .ok (.ireturn, 1) := by decide +kernel
def f_X11_isDial (S : SH) (a0 : Int32) (μ : Mem) : Option (Int32 × Mem) :=
  (f_X11_within S a0 0 7 μ).bind fun q1 =>
  (if q1.1 = 0 then
  (f_X11_within S a0 10 13 q1.2).bind fun q2 =>
  (if q2.1 = 0 then
  some (0, q2.2)
  else
  some (1, q2.2))
  else
  some (1, q1.2))
set_option maxRecDepth 100000 in
set_option maxHeartbeats 4000000 in
theorem c_X11_isDial {l : Launch} {γ : GE} {S : SH} {a0 : Int32} {μ : Mem} {X : (Int32 × Mem)} (h : f_X11_isDial S a0 μ = some X) : Ct l γ yX11_isDial cX11_isDial 1 (some .boolean) rm_X11_isDial [.int a0] S μ S X.2 (some (.int X.1)) := by
  unfold f_X11_isDial at h
  have hJ : ∀ (p : Program) (e : Env) (s : State) (m : MethodId) (args : Array Value) (below : List Frame) (meth : Method) (c : Code), FX γ p s m args meth c cX11_isDial RX11 1 → meth.sig.returnType = (some .boolean) → JJ γ p l e rm_X11_isDial s m args below meth c 1 0 0 (QI below γ S X args s 0 0) S μ 0 [(0, .int a0)] [] := by
    intro p e s m args below meth c F hr
    refine j_iload_n F 0 dX11_isDial_0 rfl ?_
    refine j_iconst F 0 dX11_isDial_1 (by decide) ?_
    refine j_bipush F 7 dX11_isDial_2 (by decide) ?_
    refine j_cSI F mi_X11_within w_464 (rest := []) h (fun _ g => c_X11_within g) rfl rfl (Nat.le_of_ble_eq_true rfl) ⟨Nat.le_of_ble_eq_true rfl, Nat.le_of_ble_eq_true rfl⟩ ⟨Nat.le_of_ble_eq_true rfl, Nat.le_of_ble_eq_true rfl⟩ dX11_isDial_4 (fun q1 h => ?_)
    refine j_ifne F 21 dX11_isDial_7 (by decide) h (fun _ h => ?_) (fun _ h => ?_)
    · refine j_iconst F 1 dX11_isDial_21 (by decide) ?_
      refine j_goto F 26 dX11_isDial_22 (by decide) ?_
      exact j_zret F hr (Or.inr rfl) dX11_isDial_26 h
    · refine j_iload_n F 0 dX11_isDial_10 rfl ?_
      refine j_bipush F 10 dX11_isDial_11 (by decide) ?_
      refine j_bipush F 13 dX11_isDial_13 (by decide) ?_
      refine j_cSI F mi_X11_within w_464 (rest := []) h (fun _ g => c_X11_within g) rfl rfl (Nat.le_of_ble_eq_true rfl) ⟨Nat.le_of_ble_eq_true rfl, Nat.le_of_ble_eq_true rfl⟩ ⟨Nat.le_of_ble_eq_true rfl, Nat.le_of_ble_eq_true rfl⟩ dX11_isDial_15 (fun q2 h => ?_)
      refine j_ifeq F 25 dX11_isDial_18 (by decide) h (fun _ h => ?_) (fun _ h => ?_)
      · refine j_iconst F 0 dX11_isDial_25 (by decide) ?_
        exact j_zret F hr (Or.inl rfl) dX11_isDial_26 h
      · refine j_iconst F 1 dX11_isDial_21 (by decide) ?_
        refine j_goto F 26 dX11_isDial_22 (by decide) ?_
        exact j_zret F hr (Or.inr rfl) dX11_isDial_26 h
  exact ct_of (by decide +kernel) (Nat.le_of_ble_eq_true rfl) (fun p e s m args below meth c F hr _ => hJ p e s m args below meth c F hr)
