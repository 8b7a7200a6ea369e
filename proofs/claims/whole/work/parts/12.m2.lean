def rm_X4_span : Room := { frames := 1, cells := 0, slots := 0, locals := 20 }
theorem dX4_span_0 : decode cX4_span 0 = .ok (.iload_n 1, 1) := by decide +kernel
theorem dX4_span_1 : decode cX4_span 1 = .ok (.invokestatic 56, 3) := by decide +kernel
theorem dX4_span_4 : decode cX4_span 4 = .ok (.istore_n 2, 1) := by decide +kernel
theorem dX4_span_5 : decode cX4_span 5 = .ok (.iload_n 2, 1) := by decide +kernel
theorem dX4_span_6 : decode cX4_span 6 = .ok (.invokestatic 56, 3) := by decide +kernel
theorem dX4_span_9 : decode cX4_span 9 = .ok (.istore_n 3, 1) := by decide +kernel
theorem dX4_span_10 : decode cX4_span 10 = .ok (.aload_n 0, 1) := by decide +kernel
theorem dX4_span_11 : decode cX4_span 11 = .ok (.getfield 9, 3) := by decide +kernel
theorem dX4_span_14 : decode cX4_span 14 = .ok (.iload_n 2, 1) := by decide +kernel
theorem dX4_span_15 : decode cX4_span 15 = .ok (.iaload, 1) := by decide +kernel
theorem dX4_span_16 : decode cX4_span 16 = .ok (.aload_n 0, 1) := by decide +kernel
theorem dX4_span_17 : decode cX4_span 17 = .ok (.getfield 9, 3) := by decide +kernel
theorem dX4_span_20 : decode cX4_span 20 = .ok (.iload_n 1, 1) := by decide +kernel
theorem dX4_span_21 : decode cX4_span 21 = .ok (.iaload, 1) := by decide +kernel
theorem dX4_span_22 : decode cX4_span 22 = .ok (.isub, 1) := by decide +kernel
theorem dX4_span_23 : decode cX4_span 23 = .ok (.i2l, 1) := by decide +kernel
theorem dX4_span_24 : decode cX4_span 24 = .ok (.aload_n 0, 1) := by decide +kernel
theorem dX4_span_25 : decode cX4_span 25 = .ok (.getfield 15, 3) := by decide +kernel
theorem dX4_span_28 : decode cX4_span 28 = .ok (.iload_n 3, 1) := by decide +kernel
theorem dX4_span_29 : decode cX4_span 29 = .ok (.iaload, 1) := by decide +kernel
theorem dX4_span_30 : decode cX4_span 30 = .ok (.aload_n 0, 1) := by decide +kernel
theorem dX4_span_31 : decode cX4_span 31 = .ok (.getfield 15, 3) := by decide +kernel
theorem dX4_span_34 : decode cX4_span 34 = .ok (.iload_n 1, 1) := by decide +kernel
theorem dX4_span_35 : decode cX4_span 35 = .ok (.iaload, 1) := by decide +kernel
theorem dX4_span_36 : decode cX4_span 36 = .ok (.isub, 1) := by decide +kernel
theorem dX4_span_37 : decode cX4_span 37 = .ok (.i2l, 1) := by decide +kernel
theorem dX4_span_38 : decode cX4_span 38 = .ok (.lmul, 1) := by decide +kernel
theorem dX4_span_39 : decode cX4_span 39 = .ok (.aload_n 0, 1) := by decide +kernel
theorem dX4_span_40 : decode cX4_span 40 = .ok (.getfield 15, 3) := by decide +kernel
theorem dX4_span_43 : decode cX4_span 43 = .ok (.iload_n 2, 1) := by decide +kernel
theorem dX4_span_44 : decode cX4_span 44 = .ok (.iaload, 1) := by decide +kernel
theorem dX4_span_45 : decode cX4_span 45 = .ok (.aload_n 0, 1) := by decide +kernel
theorem dX4_span_46 : decode cX4_span 46 = .ok (.getfield 15, 3) := by decide +kernel
theorem dX4_span_49 : decode cX4_span 49 = .ok (.iload_n 1, 1) := by decide +kernel
theorem dX4_span_50 : decode cX4_span 50 = .ok (.iaload, 1) := by decide +kernel
theorem dX4_span_51 : decode cX4_span 51 = .ok (.isub, 1) := by decide +kernel
theorem dX4_span_52 : decode cX4_span 52 = .ok (.i2l, 1) := by decide +kernel
theorem dX4_span_53 : decode cX4_span 53 = .ok (.aload_n 0, 1) := by decide +kernel
theorem dX4_span_54 : decode cX4_span 54 = .ok (.getfield 9, 3) := by decide +kernel
theorem dX4_span_57 : decode cX4_span 57 = .ok (.iload_n 3, 1) := by decide +kernel
theorem dX4_span_58 : decode cX4_span 58 = .ok (.iaload, 1) := by decide +kernel
theorem dX4_span_59 : decode cX4_span 59 = .ok (.aload_n 0, 1) := by decide +kernel
theorem dX4_span_60 : decode cX4_span 60 = .ok (.getfield 9, 3) := by decide +kernel
theorem dX4_span_63 : decode cX4_span 63 = .ok (.iload_n 1, 1) := by decide +kernel
theorem dX4_span_64 : decode cX4_span 64 = .ok (.iaload, 1) := by decide +kernel
theorem dX4_span_65 : decode cX4_span 65 = .ok (.isub, 1) := by decide +kernel
theorem dX4_span_66 : decode cX4_span 66 = .ok (.i2l, 1) := by decide +kernel
theorem dX4_span_67 : decode cX4_span 67 = .ok (.lmul, 1) := by decide +kernel
theorem dX4_span_68 : decode cX4_span 68 = .ok (.lsub, 1) := by decide +kernel
theorem dX4_span_69 : decode cX4_span 69 = .ok (.lreturn, 1) := by decide +kernel
def f_X4_span (S : SH) (a0 : Nat) (a1 : Int32) (μ : Mem) : Option (Int64 × Mem) :=
  if isO S 4 a0 = true then
  (f_X11_next S a1 μ).bind fun q1 =>
  (f_X11_next S q1.1 q1.2).bind fun q2 =>
  (gR S 4 a0 0).bind fun v3 =>
  (aI S .int v3 q1.1 q2.2).bind fun v4 =>
  (gR S 4 a0 0).bind fun v5 =>
  (aI S .int v5 a1 q2.2).bind fun v6 =>
  (gR S 4 a0 1).bind fun v7 =>
  (aI S .int v7 q2.1 q2.2).bind fun v8 =>
  (gR S 4 a0 1).bind fun v9 =>
  (aI S .int v9 a1 q2.2).bind fun v10 =>
  (gR S 4 a0 1).bind fun v11 =>
  (aI S .int v11 q1.1 q2.2).bind fun v12 =>
  (gR S 4 a0 1).bind fun v13 =>
  (aI S .int v13 a1 q2.2).bind fun v14 =>
  (gR S 4 a0 0).bind fun v15 =>
  (aI S .int v15 q2.1 q2.2).bind fun v16 =>
  (gR S 4 a0 0).bind fun v17 =>
  (aI S .int v17 a1 q2.2).bind fun v18 =>
  some ((((v4 - v6).toInt64) * ((v8 - v10).toInt64)) - (((v12 - v14).toInt64) * ((v16 - v18).toInt64)), q2.2)
  else none
set_option maxRecDepth 100000 in
set_option maxHeartbeats 4000000 in
theorem c_X4_span {l : Launch} {γ : GE} {S : SH} {a0 : Nat} {a1 : Int32} {μ : Mem} {X : (Int64 × Mem)} (h : f_X4_span S a0 a1 μ = some X) : isO S 4 a0 = true ∧ Ct l γ yX4_span cX4_span 4 (some .long) rm_X4_span [.ref (gb γ + a0), .int a1] S μ S X.2 (some (.long X.1)) := by
  unfold f_X4_span at h
  obtain ⟨h0, h⟩ := if_some h
  refine ⟨h0, ?_⟩
  have hJ : ∀ (p : Program) (e : Env) (s : State) (m : MethodId) (args : Array Value) (below : List Frame) (meth : Method) (c : Code), FX γ p s m args meth c cX4_span RX4 4 → meth.sig.returnType = (some .long) → JJ γ p l e rm_X4_span s m args below meth c 4 0 0 (QL below γ S X args s 0 0) S μ 0 [(0, .ref (gb γ + a0)), (1, .int a1)] [] := by
    intro p e s m args below meth c F hr
    refine j_iload_n F 1 dX4_span_0 rfl ?_
    refine j_cNI F mi_X11_next (by decide +kernel) (rest := []) h (fun _ g => c_X11_next g) rfl rfl (Nat.le_of_ble_eq_true rfl) ⟨Nat.le_of_ble_eq_true rfl, Nat.le_of_ble_eq_true rfl⟩ ⟨Nat.le_of_ble_eq_true rfl, Nat.le_of_ble_eq_true rfl⟩ dX4_span_1 (fun q1 h => ?_)
    refine j_istore_n F [(2, .int q1.1), (0, .ref (gb γ + a0)), (1, .int a1)] dX4_span_4 rfl (by decide) rfl ?_
    refine j_iload_n F 0 dX4_span_5 rfl ?_
    refine j_cNI F mi_X11_next (by decide +kernel) (rest := []) h (fun _ g => c_X11_next g) rfl rfl (Nat.le_of_ble_eq_true rfl) ⟨Nat.le_of_ble_eq_true rfl, Nat.le_of_ble_eq_true rfl⟩ ⟨Nat.le_of_ble_eq_true rfl, Nat.le_of_ble_eq_true rfl⟩ dX4_span_6 (fun q2 h => ?_)
    refine j_istore_n F [(3, .int q2.1), (2, .int q1.1), (0, .ref (gb γ + a0)), (1, .int a1)] dX4_span_9 rfl (by decide) rfl ?_
    refine j_aload_n F 2 dX4_span_10 rfl ?_
    refine j_gR F fl_RX4_9 rfl dX4_span_11 h (fun v3 h => ?_)
    refine j_iload_n F 1 dX4_span_14 rfl ?_
    refine j_iald F dX4_span_15 h (fun v4 h => ?_)
    refine j_aload_n F 2 dX4_span_16 rfl ?_
    refine j_gR F fl_RX4_9 rfl dX4_span_17 h (fun v5 h => ?_)
    refine j_iload_n F 3 dX4_span_20 rfl ?_
    refine j_iald F dX4_span_21 h (fun v6 h => ?_)
    refine j_isub F dX4_span_22 ?_
    refine j_i2l F dX4_span_23 ?_
    refine j_aload_n F 2 dX4_span_24 rfl ?_
    refine j_gR F fl_RX4_15 rfl dX4_span_25 h (fun v7 h => ?_)
    refine j_iload_n F 0 dX4_span_28 rfl ?_
    refine j_iald F dX4_span_29 h (fun v8 h => ?_)
    refine j_aload_n F 2 dX4_span_30 rfl ?_
    refine j_gR F fl_RX4_15 rfl dX4_span_31 h (fun v9 h => ?_)
    refine j_iload_n F 3 dX4_span_34 rfl ?_
    refine j_iald F dX4_span_35 h (fun v10 h => ?_)
    refine j_isub F dX4_span_36 ?_
    refine j_i2l F dX4_span_37 ?_
    refine j_lmul F dX4_span_38 ?_
    refine j_aload_n F 2 dX4_span_39 rfl ?_
    refine j_gR F fl_RX4_15 rfl dX4_span_40 h (fun v11 h => ?_)
    refine j_iload_n F 1 dX4_span_43 rfl ?_
    refine j_iald F dX4_span_44 h (fun v12 h => ?_)
    refine j_aload_n F 2 dX4_span_45 rfl ?_
    refine j_gR F fl_RX4_15 rfl dX4_span_46 h (fun v13 h => ?_)
    refine j_iload_n F 3 dX4_span_49 rfl ?_
    refine j_iald F dX4_span_50 h (fun v14 h => ?_)
    refine j_isub F dX4_span_51 ?_
    refine j_i2l F dX4_span_52 ?_
    refine j_aload_n F 2 dX4_span_53 rfl ?_
    refine j_gR F fl_RX4_9 rfl dX4_span_54 h (fun v15 h => ?_)
    refine j_iload_n F 0 dX4_span_57 rfl ?_
    refine j_iald F dX4_span_58 h (fun v16 h => ?_)
    refine j_aload_n F 2 dX4_span_59 rfl ?_
    refine j_gR F fl_RX4_9 rfl dX4_span_60 h (fun v17 h => ?_)
    refine j_iload_n F 3 dX4_span_63 rfl ?_
    refine j_iald F dX4_span_64 h (fun v18 h => ?_)
    refine j_isub F dX4_span_65 ?_
    refine j_i2l F dX4_span_66 ?_
    refine j_lmul F dX4_span_67 ?_
    refine j_lsub F dX4_span_68 ?_
    exact j_lret F hr dX4_span_69 h
  exact ct_of (by decide +kernel) (Nat.le_of_ble_eq_true rfl) (fun p e s m args below meth c F hr _ => hJ p e s m args below meth c F hr)
def rm_X3_shareByThree : Room := { frames := 2, cells := 0, slots := 0, locals := 43 }
theorem dX3_shareByThree_0 : decode cX3_shareByThree 0 = .ok (.iload_n 2, 1) := by decide +kernel
theorem dX3_shareByThree_1 : decode cX3_shareByThree 1 = .ok (.invokestatic 146, 3) := by decide +kernel
theorem dX3_shareByThree_4 : decode cX3_shareByThree 4 = .ok (.istore_n 3, 1) := by decide +kernel
theorem dX3_shareByThree_5 : decode cX3_shareByThree 5 = .ok (.iload_n 3, 1) := by decide +kernel
theorem dX3_shareByThree_6 : decode cX3_shareByThree 6 = .ok (.invokestatic 146, 3) := by decide +kernel
theorem dX3_shareByThree_9 : decode cX3_shareByThree 9 = .ok (.istore 4, 2) := by decide +kernel
theorem dX3_shareByThree_11 : decode cX3_shareByThree 11 = .ok (.iload 4, 2) := by decide +kernel
theorem dX3_shareByThree_13 : decode cX3_shareByThree 13 = .ok (.invokestatic 146, 3) := by decide +kernel
theorem dX3_shareByThree_16 : decode cX3_shareByThree 16 = .ok (.istore 5, 2) := by decide +kernel
theorem dX3_shareByThree_18 : decode cX3_shareByThree 18 = .ok (.aload_n 0, 1) := by decide +kernel
theorem dX3_shareByThree_19 : decode cX3_shareByThree 19 = .ok (.getfield 9, 3) := by decide +kernel
theorem dX3_shareByThree_22 : decode cX3_shareByThree 22 = .ok (.iload_n 2, 1) := by decide +kernel
theorem dX3_shareByThree_23 : decode cX3_shareByThree 23 = .ok (.lconst 0, 1) := by decide +kernel
theorem dX3_shareByThree_24 : decode cX3_shareByThree 24 = .ok (.lastore, 1) := by decide +kernel
theorem dX3_shareByThree_25 : decode cX3_shareByThree 25 = .ok (.aload_n 0, 1) := by decide +kernel
theorem dX3_shareByThree_26 : decode cX3_shareByThree 26 = .ok (.getfield 9, 3) := by decide +kernel
theorem dX3_shareByThree_29 : decode cX3_shareByThree 29 = .ok (.iload_n 3, 1) := by decide +kernel
theorem dX3_shareByThree_30 : decode cX3_shareByThree 30 = .ok (.aload_n 0, 1) := by decide +kernel
theorem dX3_shareByThree_31 : decode cX3_shareByThree 31 = .ok (.aload_n 1, 1) := by decide +kernel
theorem dX3_shareByThree_32 : decode cX3_shareByThree 32 = .ok (.iload 4, 2) := by decide +kernel
theorem dX3_shareByThree_34 : decode cX3_shareByThree 34 = .ok (.iload 5, 2) := by decide +kernel
theorem dX3_shareByThree_36 : decode cX3_shareByThree 36 = .ok (.invokevirtual 150, 3) := by decide +kernel
theorem dX3_shareByThree_39 : decode cX3_shareByThree 39 = .ok (.lastore, 1) := by decide +kernel
theorem dX3_shareByThree_40 : decode cX3_shareByThree 40 = .ok (.aload_n 0, 1) := by decide +kernel
theorem dX3_shareByThree_41 : decode cX3_shareByThree 41 = .ok (.getfield 9, 3) := by decide +kernel
theorem dX3_shareByThree_44 : decode cX3_shareByThree 44 = .ok (.iload 4, 2) := by decide +kernel
theorem dX3_shareByThree_46 : decode cX3_shareByThree 46 = .ok (.aload_n 0, 1) := by decide +kernel
theorem dX3_shareByThree_47 : decode cX3_shareByThree 47 = .ok (.aload_n 1, 1) := by decide +kernel
theorem dX3_shareByThree_48 : decode cX3_shareByThree 48 = .ok (.iload 5, 2) := by decide +kernel
theorem dX3_shareByThree_50 : decode cX3_shareByThree 50 = .ok (.iload_n 3, 1) := by decide +kernel
theorem dX3_shareByThree_51 : decode cX3_shareByThree 51 = .ok (.invokevirtual 150, 3) := by decide +kernel
theorem dX3_shareByThree_54 : decode cX3_shareByThree 54 = .ok (.lastore, 1) := by decide +kernel
theorem dX3_shareByThree_55 : decode cX3_shareByThree 55 = .ok (.aload_n 0, 1) := by decide +kernel
theorem dX3_shareByThree_56 : decode cX3_shareByThree 56 = .ok (.getfield 9, 3) := by decide +kernel
theorem dX3_shareByThree_59 : decode cX3_shareByThree 59 = .ok (.iload 5, 2) := by decide +kernel
theorem dX3_shareByThree_61 : decode cX3_shareByThree 61 = .ok (.aload_n 0, 1) := by decide +kernel
theorem dX3_shareByThree_62 : decode cX3_shareByThree 62 = .ok (.aload_n 1, 1) := by decide +kernel
theorem dX3_shareByThree_63 : decode cX3_shareByThree 63 = .ok (.iload_n 3, 1) := by decide +kernel
theorem dX3_shareByThree_64 : decode cX3_shareByThree 64 = .ok (.iload 4, 2) := by decide +kernel
theorem dX3_shareByThree_66 : decode cX3_shareByThree 66 = .ok (.invokevirtual 150, 3) := by decide +kernel
theorem dX3_shareByThree_69 : decode cX3_shareByThree 69 = .ok (.lastore, 1) := by decide +kernel
theorem dX3_shareByThree_70 : decode cX3_shareByThree 70 = .ok (.aload_n 0, 1) := by decide +kernel
theorem dX3_shareByThree_71 : decode cX3_shareByThree 71 = .ok (.ldc2_w 90, 3) := by decide +kernel
theorem dX3_shareByThree_74 : decode cX3_shareByThree 74 = .ok (.aload_n 1, 1) := by decide +kernel
theorem dX3_shareByThree_75 : decode cX3_shareByThree 75 = .ok (.iload_n 3, 1) := by decide +kernel
theorem dX3_shareByThree_76 : decode cX3_shareByThree 76 = .ok (.invokevirtual 178, 3) := by decide +kernel
theorem dX3_shareByThree_79 : decode cX3_shareByThree 79 = .ok (.lmul, 1) := by decide +kernel
theorem dX3_shareByThree_80 : decode cX3_shareByThree 80 = .ok (.putfield 117, 3) := by decide +kernel
theorem dX3_shareByThree_83 : decode cX3_shareByThree 83 = .ok (.aload_n 0, 1) := by decide +kernel
theorem dX3_shareByThree_84 : decode cX3_shareByThree 84 = .ok (.getfield 9, 3) := by decide +kernel
theorem dX3_shareByThree_87 : decode cX3_shareByThree 87 = .ok (.iload_n 3, 1) := by decide +kernel
theorem dX3_shareByThree_88 : decode cX3_shareByThree 88 = .ok (.laload, 1) := by decide +kernel
theorem dX3_shareByThree_89 : decode cX3_shareByThree 89 = .ok (.lconst 0, 1) := by decide +kernel
theorem dX3_shareByThree_90 : decode cX3_shareByThree 90 = .ok (.lcmp, 1) := by decide +kernel
theorem dX3_shareByThree_91 : decode cX3_shareByThree 91 = .ok (.ifCond .lt 31, 3) := by decide +kernel
theorem dX3_shareByThree_94 : decode cX3_shareByThree 94 = .ok (.aload_n 0, 1) := by decide +kernel
theorem dX3_shareByThree_95 : decode cX3_shareByThree 95 = .ok (.getfield 9, 3) := by decide +kernel
theorem dX3_shareByThree_98 : decode cX3_shareByThree 98 = .ok (.iload 4, 2) := by decide +kernel
theorem dX3_shareByThree_100 : decode cX3_shareByThree 100 = .ok (.laload, 1) := by decide +kernel
theorem dX3_shareByThree_101 : decode cX3_shareByThree 101 = .ok (.lconst 0, 1) := by decide +kernel
theorem dX3_shareByThree_102 : decode cX3_shareByThree 102 = .ok (.lcmp, 1) := by decide +kernel
theorem dX3_shareByThree_103 : decode cX3_shareByThree 103 = .ok (.ifCond .lt 19, 3) := by decide +kernel
theorem dX3_shareByThree_106 : decode cX3_shareByThree 106 = .ok (.aload_n 0, 1) := by decide +kernel
theorem dX3_shareByThree_107 : decode cX3_shareByThree 107 = .ok (.getfield 9, 3) := by decide +kernel
theorem dX3_shareByThree_110 : decode cX3_shareByThree 110 = .ok (.iload 5, 2) := by decide +kernel
theorem dX3_shareByThree_112 : decode cX3_shareByThree 112 = .ok (.laload, 1) := by decide +kernel
theorem dX3_shareByThree_113 : decode cX3_shareByThree 113 = .ok (.lconst 0, 1) := by decide +kernel
theorem dX3_shareByThree_114 : decode cX3_shareByThree 114 = .ok (.lcmp, 1) := by decide +kernel
theorem dX3_shareByThree_115 : decode cX3_shareByThree 115 = .ok (.ifCond .lt 7, 3) := by decide +kernel
theorem dX3_shareByThree_118 : decode cX3_shareByThree 118 = .ok (.iconst 1, 1) := by decide +kernel
theorem dX3_shareByThree_119 : decode cX3_shareByThree 119 = .ok (.goto 4, 3) := by decide +kernel
theorem dX3_shareByThree_122 : decode cX3_shareByThree 122 = .ok (.iconst 0, 1) := by decide +kernel
theorem dX3_shareByThree_123 : decode cX3_shareByThree 123 = .ok (.ireturn, 1) := by decide +kernel
def f_X3_shareByThree (S : SH) (a0 : Nat) (a1 : Nat) (a2 : Int32) (μ : Mem) : Option (Int32 × Mem) :=
  if isO S 3 a0 = true then
  (f_X11_next S a2 μ).bind fun q1 =>
  (f_X11_next S q1.1 q1.2).bind fun q2 =>
  (f_X11_next S q2.1 q2.2).bind fun q3 =>
  (gR S 3 a0 3).bind fun v4 =>
  (sL S v4 a2 0 q3.2).bind fun ν5 =>
  (gR S 3 a0 3).bind fun v6 =>
  (f_X3_about S a0 a1 q2.1 q3.1 ν5).bind fun q7 =>
  (sL S v6 q1.1 q7.1 q7.2).bind fun ν8 =>
  (gR S 3 a0 3).bind fun v9 =>
  (f_X3_about S a0 a1 q3.1 q1.1 ν8).bind fun q10 =>
  (sL S v9 q2.1 q10.1 q10.2).bind fun ν11 =>
  (gR S 3 a0 3).bind fun v12 =>
  (f_X3_about S a0 a1 q1.1 q2.1 ν11).bind fun q13 =>
  (sL S v12 q3.1 q13.1 q13.2).bind fun ν14 =>
  (f_X4_span S a1 q1.1 ν14).bind fun q15 =>
  (pL S 3 a0 4 (65 * q15.1) q15.2).bind fun ν16 =>
  (gR S 3 a0 3).bind fun v17 =>
  (aL S v17 q1.1 ν16).bind fun v18 =>
  (if v18 < 0 then
  some (0, ν16)
  else
  (gR S 3 a0 3).bind fun v19 =>
  (aL S v19 q2.1 ν16).bind fun v20 =>
  (if v20 < 0 then
  some (0, ν16)
  else
  (gR S 3 a0 3).bind fun v21 =>
  (aL S v21 q3.1 ν16).bind fun v22 =>
  (if v22 < 0 then
  some (0, ν16)
  else
  some (1, ν16))))
  else none
set_option maxRecDepth 100000 in
set_option maxHeartbeats 4000000 in
theorem c_X3_shareByThree {l : Launch} {γ : GE} {S : SH} {a0 : Nat} {a1 : Nat} {a2 : Int32} {μ : Mem} {X : (Int32 × Mem)} (h : f_X3_shareByThree S a0 a1 a2 μ = some X) : isO S 3 a0 = true ∧ Ct l γ yX3_shareByThree cX3_shareByThree 6 (some .boolean) rm_X3_shareByThree [.ref (gb γ + a0), .ref (gb γ + a1), .int a2] S μ S X.2 (some (.int X.1)) := by
  unfold f_X3_shareByThree at h
  obtain ⟨h0, h⟩ := if_some h
  refine ⟨h0, ?_⟩
  have hJ : ∀ (p : Program) (e : Env) (s : State) (m : MethodId) (args : Array Value) (below : List Frame) (meth : Method) (c : Code), FX γ p s m args meth c cX3_shareByThree RX3 6 → meth.sig.returnType = (some .boolean) → JJ γ p l e rm_X3_shareByThree s m args below meth c 6 0 0 (QI below γ S X args s 0 0) S μ 0 [(0, .ref (gb γ + a0)), (1, .ref (gb γ + a1)), (2, .int a2)] [] := by
    intro p e s m args below meth c F hr
    refine j_iload_n F 2 dX3_shareByThree_0 rfl ?_
    refine j_cNI F mi_X11_next (by decide +kernel) (rest := []) h (fun _ g => c_X11_next g) rfl rfl (Nat.le_of_ble_eq_true rfl) ⟨Nat.le_of_ble_eq_true rfl, Nat.le_of_ble_eq_true rfl⟩ ⟨Nat.le_of_ble_eq_true rfl, Nat.le_of_ble_eq_true rfl⟩ dX3_shareByThree_1 (fun q1 h => ?_)
    refine j_istore_n F [(3, .int q1.1), (0, .ref (gb γ + a0)), (1, .ref (gb γ + a1)), (2, .int a2)] dX3_shareByThree_4 rfl (by decide) rfl ?_
    refine j_iload_n F 0 dX3_shareByThree_5 rfl ?_
    refine j_cNI F mi_X11_next (by decide +kernel) (rest := []) h (fun _ g => c_X11_next g) rfl rfl (Nat.le_of_ble_eq_true rfl) ⟨Nat.le_of_ble_eq_true rfl, Nat.le_of_ble_eq_true rfl⟩ ⟨Nat.le_of_ble_eq_true rfl, Nat.le_of_ble_eq_true rfl⟩ dX3_shareByThree_6 (fun q2 h => ?_)
    refine j_istore F [(4, .int q2.1), (3, .int q1.1), (0, .ref (gb γ + a0)), (1, .ref (gb γ + a1)), (2, .int a2)] dX3_shareByThree_9 (by decide) rfl ?_
    refine j_iload F 0 dX3_shareByThree_11 rfl ?_
    refine j_cNI F mi_X11_next (by decide +kernel) (rest := []) h (fun _ g => c_X11_next g) rfl rfl (Nat.le_of_ble_eq_true rfl) ⟨Nat.le_of_ble_eq_true rfl, Nat.le_of_ble_eq_true rfl⟩ ⟨Nat.le_of_ble_eq_true rfl, Nat.le_of_ble_eq_true rfl⟩ dX3_shareByThree_13 (fun q3 h => ?_)
    refine j_istore F [(5, .int q3.1), (4, .int q2.1), (3, .int q1.1), (0, .ref (gb γ + a0)), (1, .ref (gb γ + a1)), (2, .int a2)] dX3_shareByThree_16 (by decide) rfl ?_
    refine j_aload_n F 3 dX3_shareByThree_18 rfl ?_
    refine j_gR F fl_RX3_9 rfl dX3_shareByThree_19 h (fun v4 h => ?_)
    refine j_iload_n F 5 dX3_shareByThree_22 rfl ?_
    refine j_lconst F 0 dX3_shareByThree_23 (by decide) ?_
    refine j_last F dX3_shareByThree_24 h (fun ν5 h => ?_)
    refine j_aload_n F 3 dX3_shareByThree_25 rfl ?_
    refine j_gR F fl_RX3_9 rfl dX3_shareByThree_26 h (fun v6 h => ?_)
    refine j_iload_n F 2 dX3_shareByThree_29 rfl ?_
    refine j_aload_n F 3 dX3_shareByThree_30 rfl ?_
    refine j_aload_n F 4 dX3_shareByThree_31 rfl ?_
    refine j_iload F 1 dX3_shareByThree_32 rfl ?_
    refine j_iload F 0 dX3_shareByThree_34 rfl ?_
    refine j_cVJ F mi_X3_about w_633 (rest := [.int q1.1, .ref (gb γ + v6)]) h (fun _ g => c_X3_about g) rfl rfl (Nat.le_of_ble_eq_true rfl) ⟨Nat.le_of_ble_eq_true rfl, Nat.le_of_ble_eq_true rfl⟩ ⟨Nat.le_of_ble_eq_true rfl, Nat.le_of_ble_eq_true rfl⟩ dX3_shareByThree_36 (fun q7 h => ?_)
    refine j_last F dX3_shareByThree_39 h (fun ν8 h => ?_)
    refine j_aload_n F 3 dX3_shareByThree_40 rfl ?_
    refine j_gR F fl_RX3_9 rfl dX3_shareByThree_41 h (fun v9 h => ?_)
    refine j_iload F 1 dX3_shareByThree_44 rfl ?_
    refine j_aload_n F 3 dX3_shareByThree_46 rfl ?_
    refine j_aload_n F 4 dX3_shareByThree_47 rfl ?_
    refine j_iload F 0 dX3_shareByThree_48 rfl ?_
    refine j_iload_n F 2 dX3_shareByThree_50 rfl ?_
    refine j_cVJ F mi_X3_about w_633 (rest := [.int q2.1, .ref (gb γ + v9)]) h (fun _ g => c_X3_about g) rfl rfl (Nat.le_of_ble_eq_true rfl) ⟨Nat.le_of_ble_eq_true rfl, Nat.le_of_ble_eq_true rfl⟩ ⟨Nat.le_of_ble_eq_true rfl, Nat.le_of_ble_eq_true rfl⟩ dX3_shareByThree_51 (fun q10 h => ?_)
    refine j_last F dX3_shareByThree_54 h (fun ν11 h => ?_)
    refine j_aload_n F 3 dX3_shareByThree_55 rfl ?_
    refine j_gR F fl_RX3_9 rfl dX3_shareByThree_56 h (fun v12 h => ?_)
    refine j_iload F 0 dX3_shareByThree_59 rfl ?_
    refine j_aload_n F 3 dX3_shareByThree_61 rfl ?_
    refine j_aload_n F 4 dX3_shareByThree_62 rfl ?_
    refine j_iload_n F 2 dX3_shareByThree_63 rfl ?_
    refine j_iload F 1 dX3_shareByThree_64 rfl ?_
    refine j_cVJ F mi_X3_about w_633 (rest := [.int q3.1, .ref (gb γ + v12)]) h (fun _ g => c_X3_about g) rfl rfl (Nat.le_of_ble_eq_true rfl) ⟨Nat.le_of_ble_eq_true rfl, Nat.le_of_ble_eq_true rfl⟩ ⟨Nat.le_of_ble_eq_true rfl, Nat.le_of_ble_eq_true rfl⟩ dX3_shareByThree_66 (fun q13 h => ?_)
    refine j_last F dX3_shareByThree_69 h (fun ν14 h => ?_)
    refine j_aload_n F 3 dX3_shareByThree_70 rfl ?_
    refine j_ldc2 F 65 dX3_shareByThree_71 w_579 ?_
    refine j_aload_n F 4 dX3_shareByThree_74 rfl ?_
    refine j_iload_n F 2 dX3_shareByThree_75 rfl ?_
    refine j_cVJ F mi_X4_span w_646 (rest := [.long 65, .ref (gb γ + a0)]) h (fun _ g => c_X4_span g) rfl rfl (Nat.le_of_ble_eq_true rfl) ⟨Nat.le_of_ble_eq_true rfl, Nat.le_of_ble_eq_true rfl⟩ ⟨Nat.le_of_ble_eq_true rfl, Nat.le_of_ble_eq_true rfl⟩ dX3_shareByThree_76 (fun q15 h => ?_)
    refine j_lmul F dX3_shareByThree_79 ?_
    refine j_pL F fl_RX3_117 rfl dX3_shareByThree_80 h (fun ν16 h => ?_)
    refine j_aload_n F 3 dX3_shareByThree_83 rfl ?_
    refine j_gR F fl_RX3_9 rfl dX3_shareByThree_84 h (fun v17 h => ?_)
    refine j_iload_n F 2 dX3_shareByThree_87 rfl ?_
    refine j_lald F dX3_shareByThree_88 h (fun v18 h => ?_)
    refine j_lconst F 0 dX3_shareByThree_89 (by decide) ?_
    refine j_lcmplt F 122 dX3_shareByThree_90 dX3_shareByThree_91 (by decide) h (fun _ h => ?_) (fun _ h => ?_)
    · refine j_iconst F 0 dX3_shareByThree_122 (by decide) ?_
      exact j_zret F hr (Or.inl rfl) dX3_shareByThree_123 h
    · refine j_aload_n F 3 dX3_shareByThree_94 rfl ?_
      refine j_gR F fl_RX3_9 rfl dX3_shareByThree_95 h (fun v19 h => ?_)
      refine j_iload F 1 dX3_shareByThree_98 rfl ?_
      refine j_lald F dX3_shareByThree_100 h (fun v20 h => ?_)
      refine j_lconst F 0 dX3_shareByThree_101 (by decide) ?_
      refine j_lcmplt F 122 dX3_shareByThree_102 dX3_shareByThree_103 (by decide) h (fun _ h => ?_) (fun _ h => ?_)
      · refine j_iconst F 0 dX3_shareByThree_122 (by decide) ?_
        exact j_zret F hr (Or.inl rfl) dX3_shareByThree_123 h
      · refine j_aload_n F 3 dX3_shareByThree_106 rfl ?_
        refine j_gR F fl_RX3_9 rfl dX3_shareByThree_107 h (fun v21 h => ?_)
        refine j_iload F 0 dX3_shareByThree_110 rfl ?_
        refine j_lald F dX3_shareByThree_112 h (fun v22 h => ?_)
        refine j_lconst F 0 dX3_shareByThree_113 (by decide) ?_
        refine j_lcmplt F 122 dX3_shareByThree_114 dX3_shareByThree_115 (by decide) h (fun _ h => ?_) (fun _ h => ?_)
        · refine j_iconst F 0 dX3_shareByThree_122 (by decide) ?_
          exact j_zret F hr (Or.inl rfl) dX3_shareByThree_123 h
        · refine j_iconst F 1 dX3_shareByThree_118 (by decide) ?_
          refine j_goto F 123 dX3_shareByThree_119 (by decide) ?_
          exact j_zret F hr (Or.inr rfl) dX3_shareByThree_123 h
  exact ct_of (by decide +kernel) (Nat.le_of_ble_eq_true rfl) (fun p e s m args below meth c F hr _ => hJ p e s m args below meth c F hr)
def rm_X3_isOverLimit : Room := { frames := 0, cells := 0, slots := 0, locals := 0 }
theorem dX3_isOverLimit_0 : decode cX3_isOverLimit 0 = .ok (.iconst 0, 1) := by decide +kernel
theorem dX3_isOverLimit_1 : decode cX3_isOverLimit 1 = .ok (.istore_n 2, 1) := by decide +kernel
theorem dX3_isOverLimit_2 : decode cX3_isOverLimit 2 = .ok (.iload_n 2, 1) := by decide +kernel
theorem dX3_isOverLimit_3 : decode cX3_isOverLimit 3 = .ok (.iconst 4, 1) := by decide +kernel
theorem dX3_isOverLimit_4 : decode cX3_isOverLimit 4 = .ok (.if_icmp .ge 33, 3) := by decide +kernel
theorem dX3_isOverLimit_7 : decode cX3_isOverLimit 7 = .ok (.aload_n 0, 1) := by decide +kernel
theorem dX3_isOverLimit_8 : decode cX3_isOverLimit 8 = .ok (.getfield 9, 3) := by decide +kernel
theorem dX3_isOverLimit_11 : decode cX3_isOverLimit 11 = .ok (.iload_n 2, 1) := by decide +kernel
theorem dX3_isOverLimit_12 : decode cX3_isOverLimit 12 = .ok (.laload, 1) := by decide +kernel
theorem dX3_isOverLimit_13 : decode cX3_isOverLimit 13 = .ok (.aload_n 1, 1) := by decide +kernel
theorem dX3_isOverLimit_14 : decode cX3_isOverLimit 14 = .ok (.getfield 154, 3) := by decide +kernel
theorem dX3_isOverLimit_17 : decode cX3_isOverLimit 17 = .ok (.iload_n 2, 1) := by decide +kernel
theorem dX3_isOverLimit_18 : decode cX3_isOverLimit 18 = .ok (.iaload, 1) := by decide +kernel
theorem dX3_isOverLimit_19 : decode cX3_isOverLimit 19 = .ok (.i2l, 1) := by decide +kernel
theorem dX3_isOverLimit_20 : decode cX3_isOverLimit 20 = .ok (.aload_n 0, 1) := by decide +kernel
theorem dX3_isOverLimit_21 : decode cX3_isOverLimit 21 = .ok (.getfield 117, 3) := by decide +kernel
theorem dX3_isOverLimit_24 : decode cX3_isOverLimit 24 = .ok (.lmul, 1) := by decide +kernel
theorem dX3_isOverLimit_25 : decode cX3_isOverLimit 25 = .ok (.lcmp, 1) := by decide +kernel
theorem dX3_isOverLimit_26 : decode cX3_isOverLimit 26 = .ok (.ifCond .le 5, 3) := by decide +kernel
theorem dX3_isOverLimit_29 : decode cX3_isOverLimit 29 = .ok (.iconst 1, 1) := by decide +kernel
theorem dX3_isOverLimit_30 : decode cX3_isOverLimit 30 = .ok (.ireturn, 1) := by decide +kernel
theorem dX3_isOverLimit_31 : decode cX3_isOverLimit 31 = .ok (.iinc 2 1, 3) := by decide +kernel
theorem dX3_isOverLimit_34 : decode cX3_isOverLimit 34 = .ok (.goto (-32), 3) := by decide +kernel
theorem dX3_isOverLimit_37 : decode cX3_isOverLimit 37 = .ok (.iconst 0, 1) := by decide +kernel
theorem dX3_isOverLimit_38 : decode cX3_isOverLimit 38 = .ok (.ireturn, 1) := by decide +kernel
def l_X3_isOverLimit_2 (S : SH) (a0 : Nat) (a1 : Nat) (k2 : (Int32 × Mem) → Option (Int32 × Mem)) (x : (Int32 × Mem)) : Option (Int32 × Mem) :=
 (if 4 ≤ x.1 then
 some (0, x.2)
 else
 (gR S 3 a0 3).bind fun v1 =>
 (aL S v1 x.1 x.2).bind fun v2 =>
 (gR S 4 a1 2).bind fun v3 =>
 (aI S .int v3 x.1 x.2).bind fun v4 =>
 (gL S 3 a0 4 x.2).bind fun v5 =>
 (if v2 ≤ (v4.toInt64 * v5) then
 k2 (x.1 + 1, x.2)
 else
 some (1, x.2)))
set_option maxRecDepth 100000 in
set_option maxHeartbeats 4000000 in
theorem t_X3_isOverLimit_2 {γ : GE} {p : Program} {l : Launch} {e : Env} {s : State} {m : MethodId} {args : Array Value} {below : List Frame} {meth : Method} {c : Code} {S : SH} {X : (Int32 × Mem)} (F : FX γ p s m args meth c cX3_isOverLimit RX3 3) (hr : meth.sig.returnType = (some .boolean)) (a0 : Nat) (a1 : Nat) (k2 : (Int32 × Mem) → Option (Int32 × Mem)) (hk2 : ∀ (x2_2 : Int32) (ν : Mem), k2 (x2_2, ν) = some X → JJ γ p l e rm_X3_isOverLimit s m args below meth c 3 0 0 (QI below γ S X args s 0 0) S ν 2 [(0, .ref (gb γ + a0)), (1, .ref (gb γ + a1)), (2, .int x2_2)] []) (x : (Int32 × Mem)) (h : l_X3_isOverLimit_2 S a0 a1 k2 x = some X) : JJ γ p l e rm_X3_isOverLimit s m args below meth c 3 0 0 (QI below γ S X args s 0 0) S x.2 2 [(0, .ref (gb γ + a0)), (1, .ref (gb γ + a1)), (2, .int x.1)] [] := by
  unfold l_X3_isOverLimit_2 at h
  refine j_iload_n F 2 dX3_isOverLimit_2 rfl ?_
  refine j_iconst F 4 dX3_isOverLimit_3 (by decide) ?_
  refine j_icmpge F 37 dX3_isOverLimit_4 (by decide) h (fun _ h => ?_) (fun _ h => ?_)
  · refine j_iconst F 0 dX3_isOverLimit_37 (by decide) ?_
    exact j_zret F hr (Or.inl rfl) dX3_isOverLimit_38 h
  · refine j_aload_n F 0 dX3_isOverLimit_7 rfl ?_
    refine j_gR F fl_RX3_9 rfl dX3_isOverLimit_8 h (fun v1 h => ?_)
    refine j_iload_n F 2 dX3_isOverLimit_11 rfl ?_
    refine j_lald F dX3_isOverLimit_12 h (fun v2 h => ?_)
    refine j_aload_n F 1 dX3_isOverLimit_13 rfl ?_
    refine j_gR F fl_RX3_154 rfl dX3_isOverLimit_14 h (fun v3 h => ?_)
    refine j_iload_n F 2 dX3_isOverLimit_17 rfl ?_
    refine j_iald F dX3_isOverLimit_18 h (fun v4 h => ?_)
    refine j_i2l F dX3_isOverLimit_19 ?_
    refine j_aload_n F 0 dX3_isOverLimit_20 rfl ?_
    refine j_gL F fl_RX3_117.l rfl dX3_isOverLimit_21 h (fun v5 h => ?_)
    refine j_lmul F dX3_isOverLimit_24 ?_
    refine j_lcmple F 31 dX3_isOverLimit_25 dX3_isOverLimit_26 (by decide) h (fun _ h => ?_) (fun _ h => ?_)
    · refine j_iinc F 1 2 [(2, .int (x.1 + 1)), (0, .ref (gb γ + a0)), (1, .ref (gb γ + a1))] dX3_isOverLimit_31 rfl (by decide) (by decide) rfl ?_
      refine j_goto F 2 dX3_isOverLimit_34 (by decide) ?_
      refine j_lv [(0, .ref (gb γ + a0)), (1, .ref (gb γ + a1)), (2, .int (x.1 + 1))] [1, 2, 0] rfl ?_
      exact hk2 _ _ h
    · refine j_iconst F 1 dX3_isOverLimit_29 (by decide) ?_
      exact j_zret F hr (Or.inr rfl) dX3_isOverLimit_30 h
theorem s_X3_isOverLimit_2 {γ : GE} {p : Program} {l : Launch} {e : Env} {s : State} {m : MethodId} {args : Array Value} {below : List Frame} {meth : Method} {c : Code} {S : SH} {X : (Int32 × Mem)} (F : FX γ p s m args meth c cX3_isOverLimit RX3 3) (hr : meth.sig.returnType = (some .boolean)) (a0 : Nat) (a1 : Nat) (x2_2 : Int32) (ν : Mem) (h : lpN (l_X3_isOverLimit_2 S a0 a1) fu (x2_2, ν) = some X) : JJ γ p l e rm_X3_isOverLimit s m args below meth c 3 0 0 (QI below γ S X args s 0 0) S ν 2 [(0, .ref (gb γ + a0)), (1, .ref (gb γ + a1)), (2, .int x2_2)] [] :=
 lpN_sound (fun x => JJ γ p l e rm_X3_isOverLimit s m args below meth c 3 0 0 (QI below γ S X args s 0 0) S x.2 2 [(0, .ref (gb γ + a0)), (1, .ref (gb γ + a1)), (2, .int x.1)] []) (fun k2 hk2 x h => t_X3_isOverLimit_2 F hr a0 a1 k2 (fun x2_2 ν h => hk2 (x2_2, ν) h) x h) fu (x2_2, ν) h
def f_X3_isOverLimit (S : SH) (a0 : Nat) (a1 : Nat) (μ : Mem) : Option (Int32 × Mem) :=
  if isO S 3 a0 = true then
  lpN (l_X3_isOverLimit_2 S  a0 a1) fu (0, μ)
  else none
set_option maxRecDepth 100000 in
set_option maxHeartbeats 4000000 in
theorem c_X3_isOverLimit {l : Launch} {γ : GE} {S : SH} {a0 : Nat} {a1 : Nat} {μ : Mem} {X : (Int32 × Mem)} (h : f_X3_isOverLimit S a0 a1 μ = some X) : isO S 3 a0 = true ∧ Ct l γ yX3_isOverLimit cX3_isOverLimit 3 (some .boolean) rm_X3_isOverLimit [.ref (gb γ + a0), .ref (gb γ + a1)] S μ S X.2 (some (.int X.1)) := by
  unfold f_X3_isOverLimit at h
  obtain ⟨h0, h⟩ := if_some h
  refine ⟨h0, ?_⟩
  have hJ : ∀ (p : Program) (e : Env) (s : State) (m : MethodId) (args : Array Value) (below : List Frame) (meth : Method) (c : Code), FX γ p s m args meth c cX3_isOverLimit RX3 3 → meth.sig.returnType = (some .boolean) → JJ γ p l e rm_X3_isOverLimit s m args below meth c 3 0 0 (QI below γ S X args s 0 0) S μ 0 [(0, .ref (gb γ + a0)), (1, .ref (gb γ + a1))] [] := by
    intro p e s m args below meth c F hr
    refine j_iconst F 0 dX3_isOverLimit_0 (by decide) ?_
    refine j_istore_n F [(2, .int 0), (0, .ref (gb γ + a0)), (1, .ref (gb γ + a1))] dX3_isOverLimit_1 rfl (by decide) rfl ?_
    refine j_lv [(0, .ref (gb γ + a0)), (1, .ref (gb γ + a1)), (2, .int 0)] [1, 2, 0] rfl ?_
    exact s_X3_isOverLimit_2 F hr _ _ _ _ h
  exact ct_of (by decide +kernel) (Nat.le_of_ble_eq_true rfl) (fun p e s m args below meth c F hr _ => hJ p e s m args below meth c F hr)
def rm_X3_verdict : Room := { frames := 3, cells := 0, slots := 0, locals := 70 }
theorem dX3_verdict_0 : decode cX3_verdict 0 = .ok (.aload_n 1, 1) := by decide +kernel
theorem dX3_verdict_1 : decode cX3_verdict 1 = .ok (.getfield 15, 3) := by decide +kernel
theorem dX3_verdict_4 : decode cX3_verdict 4 = .ok (.getfield 21, 3) := by decide +kernel
theorem dX3_verdict_7 : decode cX3_verdict 7 = .ok (.ifCond .ne 5, 3) := by decide +kernel
theorem dX3_verdict_10 : decode cX3_verdict 10 = .ok (.iconst 1, 1) := by decide +kernel
theorem dX3_verdict_11 : decode cX3_verdict 11 = .ok (.ireturn, 1) := by decide +kernel
theorem dX3_verdict_12 : decode cX3_verdict 12 = .ok (.aload_n 0, 1) := by decide +kernel
theorem dX3_verdict_13 : decode cX3_verdict 13 = .ok (.aload_n 1, 1) := by decide +kernel
theorem dX3_verdict_14 : decode cX3_verdict 14 = .ok (.invokevirtual 27, 3) := by decide +kernel
theorem dX3_verdict_17 : decode cX3_verdict 17 = .ok (.aload_n 0, 1) := by decide +kernel
theorem dX3_verdict_18 : decode cX3_verdict 18 = .ok (.getfield 31, 3) := by decide +kernel
theorem dX3_verdict_21 : decode cX3_verdict 21 = .ok (.lconst 0, 1) := by decide +kernel
theorem dX3_verdict_22 : decode cX3_verdict 22 = .ok (.lcmp, 1) := by decide +kernel
theorem dX3_verdict_23 : decode cX3_verdict 23 = .ok (.ifCond .eq 14, 3) := by decide +kernel
theorem dX3_verdict_26 : decode cX3_verdict 26 = .ok (.aload_n 0, 1) := by decide +kernel
theorem dX3_verdict_27 : decode cX3_verdict 27 = .ok (.aload_n 1, 1) := by decide +kernel
theorem dX3_verdict_28 : decode cX3_verdict 28 = .ok (.getfield 15, 3) := by decide +kernel
theorem dX3_verdict_31 : decode cX3_verdict 31 = .ok (.invokevirtual 35, 3) := by decide +kernel
theorem dX3_verdict_34 : decode cX3_verdict 34 = .ok (.ifCond .eq 5, 3) := by decide +kernel
theorem dX3_verdict_37 : decode cX3_verdict 37 = .ok (.iconst 2, 1) := by decide +kernel
theorem dX3_verdict_38 : decode cX3_verdict 38 = .ok (.ireturn, 1) := by decide +kernel
theorem dX3_verdict_39 : decode cX3_verdict 39 = .ok (.aload_n 0, 1) := by decide +kernel
theorem dX3_verdict_40 : decode cX3_verdict 40 = .ok (.aload_n 1, 1) := by decide +kernel
theorem dX3_verdict_41 : decode cX3_verdict 41 = .ok (.getfield 15, 3) := by decide +kernel
theorem dX3_verdict_44 : decode cX3_verdict 44 = .ok (.invokevirtual 39, 3) := by decide +kernel
theorem dX3_verdict_47 : decode cX3_verdict 47 = .ok (.aload_n 0, 1) := by decide +kernel
theorem dX3_verdict_48 : decode cX3_verdict 48 = .ok (.aload_n 0, 1) := by decide +kernel
theorem dX3_verdict_49 : decode cX3_verdict 49 = .ok (.invokevirtual 43, 3) := by decide +kernel
theorem dX3_verdict_52 : decode cX3_verdict 52 = .ok (.putfield 47, 3) := by decide +kernel
theorem dX3_verdict_55 : decode cX3_verdict 55 = .ok (.aload_n 0, 1) := by decide +kernel
theorem dX3_verdict_56 : decode cX3_verdict 56 = .ok (.getfield 47, 3) := by decide +kernel
theorem dX3_verdict_59 : decode cX3_verdict 59 = .ok (.bipush (-5), 2) := by decide +kernel
theorem dX3_verdict_61 : decode cX3_verdict 61 = .ok (.if_icmp .eq 20, 3) := by decide +kernel
theorem dX3_verdict_64 : decode cX3_verdict 64 = .ok (.aload_n 0, 1) := by decide +kernel
theorem dX3_verdict_65 : decode cX3_verdict 65 = .ok (.aload_n 1, 1) := by decide +kernel
theorem dX3_verdict_66 : decode cX3_verdict 66 = .ok (.getfield 15, 3) := by decide +kernel
theorem dX3_verdict_69 : decode cX3_verdict 69 = .ok (.aload_n 0, 1) := by decide +kernel
theorem dX3_verdict_70 : decode cX3_verdict 70 = .ok (.getfield 47, 3) := by decide +kernel
theorem dX3_verdict_73 : decode cX3_verdict 73 = .ok (.invokevirtual 51, 3) := by decide +kernel
theorem dX3_verdict_76 : decode cX3_verdict 76 = .ok (.ifCond .ne 5, 3) := by decide +kernel
theorem dX3_verdict_79 : decode cX3_verdict 79 = .ok (.iconst 3, 1) := by decide +kernel
theorem dX3_verdict_80 : decode cX3_verdict 80 = .ok (.ireturn, 1) := by decide +kernel
theorem dX3_verdict_81 : decode cX3_verdict 81 = .ok (.aload_n 0, 1) := by decide +kernel
theorem dX3_verdict_82 : decode cX3_verdict 82 = .ok (.aload_n 1, 1) := by decide +kernel
theorem dX3_verdict_83 : decode cX3_verdict 83 = .ok (.getfield 15, 3) := by decide +kernel
theorem dX3_verdict_86 : decode cX3_verdict 86 = .ok (.invokevirtual 55, 3) := by decide +kernel
theorem dX3_verdict_89 : decode cX3_verdict 89 = .ok (.ifCond .eq 5, 3) := by decide +kernel
theorem dX3_verdict_92 : decode cX3_verdict 92 = .ok (.iconst 4, 1) := by decide +kernel
theorem dX3_verdict_93 : decode cX3_verdict 93 = .ok (.ireturn, 1) := by decide +kernel
theorem dX3_verdict_94 : decode cX3_verdict 94 = .ok (.aload_n 1, 1) := by decide +kernel
theorem dX3_verdict_95 : decode cX3_verdict 95 = .ok (.invokevirtual 58, 3) := by decide +kernel
theorem dX3_verdict_98 : decode cX3_verdict 98 = .ok (.ifCond .ge 7, 3) := by decide +kernel
theorem dX3_verdict_101 : decode cX3_verdict 101 = .ok (.iconst 5, 1) := by decide +kernel
theorem dX3_verdict_102 : decode cX3_verdict 102 = .ok (.goto 4, 3) := by decide +kernel
theorem dX3_verdict_105 : decode cX3_verdict 105 = .ok (.iconst 0, 1) := by decide +kernel
theorem dX3_verdict_106 : decode cX3_verdict 106 = .ok (.ireturn, 1) := by decide +kernel
def b_X3_verdict_81 (S : SH) (a0 : Nat) (a1 : Nat) (μ : Mem) : Option (Int32 × Mem) :=
 (gR S 2 a1 0).bind fun v12 =>
 (f_X3_isOverLimit S a0 v12 μ).bind fun q13 =>
 (if q13.1 = 0 then
 (f_X2_room S a1 q13.2).bind fun q14 =>
 (if 0 ≤ q14.1 then
 some (0, q14.2)
 else
 some (5, q14.2))
 else
 some (4, q13.2))
set_option maxRecDepth 100000 in
set_option maxHeartbeats 4000000 in
theorem s_X3_verdict_81 {γ : GE} {p : Program} {l : Launch} {e : Env} {s : State} {m : MethodId} {args : Array Value} {below : List Frame} {meth : Method} {c : Code} {S : SH} {X : (Int32 × Mem)} (F : FX γ p s m args meth c cX3_verdict RX3 2) (hr : meth.sig.returnType = (some .int)) (a0 : Nat) (a1 : Nat)    (μ : Mem) (h : b_X3_verdict_81 S a0 a1 μ = some X) : JJ γ p l e rm_X3_verdict s m args below meth c 2 0 0 (QI below γ S X args s 0 0) S μ 81 [(0, .ref (gb γ + a0)), (1, .ref (gb γ + a1))] [] := by
  unfold b_X3_verdict_81 at h
  refine j_aload_n F 0 dX3_verdict_81 rfl ?_
  refine j_aload_n F 1 dX3_verdict_82 rfl ?_
  refine j_gR F fl_RX3_15 rfl dX3_verdict_83 h (fun v12 h => ?_)
  refine j_cVI F mi_X3_isOverLimit w_647 (rest := []) h (fun _ g => c_X3_isOverLimit g) rfl rfl (Nat.le_of_ble_eq_true rfl) ⟨Nat.le_of_ble_eq_true rfl, Nat.le_of_ble_eq_true rfl⟩ ⟨Nat.le_of_ble_eq_true rfl, Nat.le_of_ble_eq_true rfl⟩ dX3_verdict_86 (fun q13 h => ?_)
  refine j_ifeq F 94 dX3_verdict_89 (by decide) h (fun _ h => ?_) (fun _ h => ?_)
  · refine j_aload_n F 1 dX3_verdict_94 rfl ?_
    refine j_cVI F mi_X2_room w_651 (rest := []) h (fun _ g => c_X2_room g) rfl rfl (Nat.le_of_ble_eq_true rfl) ⟨Nat.le_of_ble_eq_true rfl, Nat.le_of_ble_eq_true rfl⟩ ⟨Nat.le_of_ble_eq_true rfl, Nat.le_of_ble_eq_true rfl⟩ dX3_verdict_95 (fun q14 h => ?_)
    refine j_ifge F 105 dX3_verdict_98 (by decide) h (fun _ h => ?_) (fun _ h => ?_)
    · refine j_iconst F 0 dX3_verdict_105 (by decide) ?_
      exact j_iret F hr dX3_verdict_106 h
    · refine j_iconst F 5 dX3_verdict_101 (by decide) ?_
      refine j_goto F 106 dX3_verdict_102 (by decide) ?_
      exact j_iret F hr dX3_verdict_106 h
  · refine j_iconst F 4 dX3_verdict_92 (by decide) ?_
    exact j_iret F hr dX3_verdict_93 h
def f_X3_verdict (S : SH) (a0 : Nat) (a1 : Nat) (μ : Mem) : Option (Int32 × Mem) :=
  if isO S 3 a0 = true then
  (gR S 2 a1 0).bind fun v1 =>
  (gI S 4 v1 3 μ).bind fun v2 =>
  (if v2 = 0 then
  some (1, μ)
  else
  (f_X3_gather S a0 a1 μ).bind fun q3 =>
  (gL S 3 a0 0 q3.2).bind fun v4 =>
  (if v4 = 0 then
  some (2, q3.2)
  else
  (gR S 2 a1 0).bind fun v5 =>
  (f_X3_tipsOver S a0 v5 q3.2).bind fun q6 =>
  (if q6.1 = 0 then
  (gR S 2 a1 0).bind fun v7 =>
  (f_X3_shareByPlane S a0 v7 q6.2).bind fun q8 =>
  (f_X3_lowestBelowNothing S a0 q8.2).bind fun q9 =>
  (pI S 3 a0 5 q9.1 q9.2).bind fun ν10 =>
  (gI S 3 a0 5 ν10).bind fun v11 =>
  (if v11 = (-5) then
  b_X3_verdict_81 S a0 a1 ν10
  else
  (gR S 2 a1 0).bind fun v15 =>
  (gI S 3 a0 5 ν10).bind fun v16 =>
  (f_X3_shareByThree S a0 v15 v16 ν10).bind fun q17 =>
  (if q17.1 = 0 then
  some (3, q17.2)
  else
  b_X3_verdict_81 S a0 a1 q17.2))
  else
  some (2, q6.2))))
  else none
set_option maxRecDepth 100000 in
set_option maxHeartbeats 4000000 in
theorem c_X3_verdict {l : Launch} {γ : GE} {S : SH} {a0 : Nat} {a1 : Nat} {μ : Mem} {X : (Int32 × Mem)} (h : f_X3_verdict S a0 a1 μ = some X) : isO S 3 a0 = true ∧ Ct l γ yX3_verdict cX3_verdict 2 (some .int) rm_X3_verdict [.ref (gb γ + a0), .ref (gb γ + a1)] S μ S X.2 (some (.int X.1)) := by
  unfold f_X3_verdict at h
  obtain ⟨h0, h⟩ := if_some h
  refine ⟨h0, ?_⟩
  have hJ : ∀ (p : Program) (e : Env) (s : State) (m : MethodId) (args : Array Value) (below : List Frame) (meth : Method) (c : Code), FX γ p s m args meth c cX3_verdict RX3 2 → meth.sig.returnType = (some .int) → JJ γ p l e rm_X3_verdict s m args below meth c 2 0 0 (QI below γ S X args s 0 0) S μ 0 [(0, .ref (gb γ + a0)), (1, .ref (gb γ + a1))] [] := by
    intro p e s m args below meth c F hr
    refine j_aload_n F 1 dX3_verdict_0 rfl ?_
    refine j_gR F fl_RX3_15 rfl dX3_verdict_1 h (fun v1 h => ?_)
    refine j_gI F fl_RX3_21.l rfl dX3_verdict_4 h (fun v2 h => ?_)
    refine j_ifne F 12 dX3_verdict_7 (by decide) h (fun _ h => ?_) (fun _ h => ?_)
    · refine j_aload_n F 0 dX3_verdict_12 rfl ?_
      refine j_aload_n F 1 dX3_verdict_13 rfl ?_
      refine j_cVV F mi_X3_gather w_628 (rest := []) h (fun _ g => c_X3_gather g) rfl rfl (Nat.le_of_ble_eq_true rfl) ⟨Nat.le_of_ble_eq_true rfl, Nat.le_of_ble_eq_true rfl⟩ ⟨Nat.le_of_ble_eq_true rfl, Nat.le_of_ble_eq_true rfl⟩ dX3_verdict_14 (fun q3 h => ?_)
      refine j_aload_n F 0 dX3_verdict_17 rfl ?_
      refine j_gL F fl_RX3_31.l rfl dX3_verdict_18 h (fun v4 h => ?_)
      refine j_lconst F 0 dX3_verdict_21 (by decide) ?_
      refine j_lcmpeq F 37 dX3_verdict_22 dX3_verdict_23 (by decide) h (fun _ h => ?_) (fun _ h => ?_)
      · refine j_iconst F 2 dX3_verdict_37 (by decide) ?_
        exact j_iret F hr dX3_verdict_38 h
      · refine j_aload_n F 0 dX3_verdict_26 rfl ?_
        refine j_aload_n F 1 dX3_verdict_27 rfl ?_
        refine j_gR F fl_RX3_15 rfl dX3_verdict_28 h (fun v5 h => ?_)
        refine j_cVI F mi_X3_tipsOver w_629 (rest := []) h (fun _ g => c_X3_tipsOver g) rfl rfl (Nat.le_of_ble_eq_true rfl) ⟨Nat.le_of_ble_eq_true rfl, Nat.le_of_ble_eq_true rfl⟩ ⟨Nat.le_of_ble_eq_true rfl, Nat.le_of_ble_eq_true rfl⟩ dX3_verdict_31 (fun q6 h => ?_)
        refine j_ifeq F 39 dX3_verdict_34 (by decide) h (fun _ h => ?_) (fun _ h => ?_)
        · refine j_aload_n F 0 dX3_verdict_39 rfl ?_
          refine j_aload_n F 1 dX3_verdict_40 rfl ?_
          refine j_gR F fl_RX3_15 rfl dX3_verdict_41 h (fun v7 h => ?_)
          refine j_cVV F mi_X3_shareByPlane w_634 (rest := []) h (fun _ g => c_X3_shareByPlane g) rfl rfl (Nat.le_of_ble_eq_true rfl) ⟨Nat.le_of_ble_eq_true rfl, Nat.le_of_ble_eq_true rfl⟩ ⟨Nat.le_of_ble_eq_true rfl, Nat.le_of_ble_eq_true rfl⟩ dX3_verdict_44 (fun q8 h => ?_)
          refine j_aload_n F 0 dX3_verdict_47 rfl ?_
          refine j_aload_n F 0 dX3_verdict_48 rfl ?_
          refine j_cVI F mi_X3_lowestBelowNothing w_638 (rest := [.ref (gb γ + a0)]) h (fun _ g => c_X3_lowestBelowNothing g) rfl rfl (Nat.le_of_ble_eq_true rfl) ⟨Nat.le_of_ble_eq_true rfl, Nat.le_of_ble_eq_true rfl⟩ ⟨Nat.le_of_ble_eq_true rfl, Nat.le_of_ble_eq_true rfl⟩ dX3_verdict_49 (fun q9 h => ?_)
          refine j_pI F fl_RX3_47 rfl dX3_verdict_52 h (fun ν10 h => ?_)
          refine j_aload_n F 0 dX3_verdict_55 rfl ?_
          refine j_gI F fl_RX3_47.l rfl dX3_verdict_56 h (fun v11 h => ?_)
          refine j_bipush F (-5) dX3_verdict_59 (by decide) ?_
          refine j_icmpeq F 81 dX3_verdict_61 (by decide) h (fun _ h => ?_) (fun _ h => ?_)
          · exact s_X3_verdict_81 F hr _ _ _ h
          · refine j_aload_n F 0 dX3_verdict_64 rfl ?_
            refine j_aload_n F 1 dX3_verdict_65 rfl ?_
            refine j_gR F fl_RX3_15 rfl dX3_verdict_66 h (fun v15 h => ?_)
            refine j_aload_n F 0 dX3_verdict_69 rfl ?_
            refine j_gI F fl_RX3_47.l rfl dX3_verdict_70 h (fun v16 h => ?_)
            refine j_cVI F mi_X3_shareByThree w_642 (rest := []) h (fun _ g => c_X3_shareByThree g) rfl rfl (Nat.le_of_ble_eq_true rfl) ⟨Nat.le_of_ble_eq_true rfl, Nat.le_of_ble_eq_true rfl⟩ ⟨Nat.le_of_ble_eq_true rfl, Nat.le_of_ble_eq_true rfl⟩ dX3_verdict_73 (fun q17 h => ?_)
            refine j_ifne F 81 dX3_verdict_76 (by decide) h (fun _ h => ?_) (fun _ h => ?_)
            · exact s_X3_verdict_81 F hr _ _ _ h
            · refine j_iconst F 3 dX3_verdict_79 (by decide) ?_
              exact j_iret F hr dX3_verdict_80 h
        · refine j_iconst F 2 dX3_verdict_37 (by decide) ?_
          exact j_iret F hr dX3_verdict_38 h
    · refine j_iconst F 1 dX3_verdict_10 (by decide) ?_
      exact j_iret F hr dX3_verdict_11 h
  exact ct_of (by decide +kernel) (Nat.le_of_ble_eq_true rfl) (fun p e s m args below meth c F hr _ => hJ p e s m args below meth c F hr)
def rm_X3_finds : Room := { frames := 4, cells := 0, slots := 0, locals := 91 }
theorem dX3_finds_0 : decode cX3_finds 0 = .ok (.aload_n 0, 1) := by decide +kernel
theorem dX3_finds_1 : decode cX3_finds 1 = .ok (.aload_n 1, 1) := by decide +kernel
theorem dX3_finds_2 : decode cX3_finds 2 = .ok (.invokevirtual 61, 3) := by decide +kernel
theorem dX3_finds_5 : decode cX3_finds 5 = .ok (.istore_n 2, 1) := by decide +kernel
theorem dX3_finds_6 : decode cX3_finds 6 = .ok (.iload_n 2, 1) := by decide +kernel
theorem dX3_finds_7 : decode cX3_finds 7 = .ok (.ifCond .eq 8, 3) := by decide +kernel
theorem dX3_finds_10 : decode cX3_finds 10 = .ok (.iload_n 2, 1) := by decide +kernel
theorem dX3_finds_11 : decode cX3_finds 11 = .ok (.iconst 3, 1) := by decide +kernel
theorem dX3_finds_12 : decode cX3_finds 12 = .ok (.if_icmp .le 7, 3) := by decide +kernel
theorem dX3_finds_15 : decode cX3_finds 15 = .ok (.iconst 1, 1) := by decide +kernel
theorem dX3_finds_16 : decode cX3_finds 16 = .ok (.goto 4, 3) := by decide +kernel
theorem dX3_finds_19 : decode cX3_finds 19 = .ok (.iconst 0, 1) := by decide +kernel
theorem dX3_finds_20 : decode cX3_finds 20 = .ok (.ireturn, 1) := by decide +kernel
def f_X3_finds (S : SH) (a0 : Nat) (a1 : Nat) (μ : Mem) : Option (Int32 × Mem) :=
  if isO S 3 a0 = true then
  (f_X3_verdict S a0 a1 μ).bind fun q1 =>
  (if q1.1 = 0 then
  some (1, q1.2)
  else
  (if q1.1 ≤ 3 then
  some (0, q1.2)
  else
  some (1, q1.2)))
  else none
set_option maxRecDepth 100000 in
set_option maxHeartbeats 4000000 in
theorem c_X3_finds {l : Launch} {γ : GE} {S : SH} {a0 : Nat} {a1 : Nat} {μ : Mem} {X : (Int32 × Mem)} (h : f_X3_finds S a0 a1 μ = some X) : isO S 3 a0 = true ∧ Ct l γ yX3_finds cX3_finds 3 (some .boolean) rm_X3_finds [.ref (gb γ + a0), .ref (gb γ + a1)] S μ S X.2 (some (.int X.1)) := by
  unfold f_X3_finds at h
  obtain ⟨h0, h⟩ := if_some h
  refine ⟨h0, ?_⟩
  have hJ : ∀ (p : Program) (e : Env) (s : State) (m : MethodId) (args : Array Value) (below : List Frame) (meth : Method) (c : Code), FX γ p s m args meth c cX3_finds RX3 3 → meth.sig.returnType = (some .boolean) → JJ γ p l e rm_X3_finds s m args below meth c 3 0 0 (QI below γ S X args s 0 0) S μ 0 [(0, .ref (gb γ + a0)), (1, .ref (gb γ + a1))] [] := by
    intro p e s m args below meth c F hr
    refine j_aload_n F 0 dX3_finds_0 rfl ?_
    refine j_aload_n F 1 dX3_finds_1 rfl ?_
    refine j_cVI F mi_X3_verdict w_624 (rest := []) h (fun _ g => c_X3_verdict g) rfl rfl (Nat.le_of_ble_eq_true rfl) ⟨Nat.le_of_ble_eq_true rfl, Nat.le_of_ble_eq_true rfl⟩ ⟨Nat.le_of_ble_eq_true rfl, Nat.le_of_ble_eq_true rfl⟩ dX3_finds_2 (fun q1 h => ?_)
    refine j_istore_n F [(2, .int q1.1), (0, .ref (gb γ + a0)), (1, .ref (gb γ + a1))] dX3_finds_5 rfl (by decide) rfl ?_
    refine j_iload_n F 0 dX3_finds_6 rfl ?_
    refine j_ifeq F 15 dX3_finds_7 (by decide) h (fun _ h => ?_) (fun _ h => ?_)
    · refine j_iconst F 1 dX3_finds_15 (by decide) ?_
      refine j_goto F 20 dX3_finds_16 (by decide) ?_
      exact j_zret F hr (Or.inr rfl) dX3_finds_20 h
    · refine j_iload_n F 0 dX3_finds_10 rfl ?_
      refine j_iconst F 3 dX3_finds_11 (by decide) ?_
      refine j_icmple F 19 dX3_finds_12 (by decide) h (fun _ h => ?_) (fun _ h => ?_)
      · refine j_iconst F 0 dX3_finds_19 (by decide) ?_
        exact j_zret F hr (Or.inl rfl) dX3_finds_20 h
      · refine j_iconst F 1 dX3_finds_15 (by decide) ?_
        refine j_goto F 20 dX3_finds_16 (by decide) ?_
        exact j_zret F hr (Or.inr rfl) dX3_finds_20 h
  exact ct_of (by decide +kernel) (Nat.le_of_ble_eq_true rfl) (fun p e s m args below meth c F hr _ => hJ p e s m args below meth c F hr)
def rm_X3_lawfulDirections : Room := { frames := 4, cells := 0, slots := 0, locals := 91 }
theorem dX3_lawfulDirections_0 : decode cX3_lawfulDirections 0 = .ok (.iconst 0, 1) := by decide +kernel
theorem dX3_lawfulDirections_1 : decode cX3_lawfulDirections 1 = .ok (.istore_n 3, 1) := by decide +kernel
theorem dX3_lawfulDirections_2 : decode cX3_lawfulDirections 2 = .ok (.aload_n 1, 1) := by decide +kernel
theorem dX3_lawfulDirections_3 : decode cX3_lawfulDirections 3 = .ok (.getfield 65, 3) := by decide +kernel
theorem dX3_lawfulDirections_6 : decode cX3_lawfulDirections 6 = .ok (.iconst 1, 1) := by decide +kernel
theorem dX3_lawfulDirections_7 : decode cX3_lawfulDirections 7 = .ok (.iload_n 2, 1) := by decide +kernel
theorem dX3_lawfulDirections_8 : decode cX3_lawfulDirections 8 = .ok (.iastore, 1) := by decide +kernel
theorem dX3_lawfulDirections_9 : decode cX3_lawfulDirections 9 = .ok (.iconst 0, 1) := by decide +kernel
theorem dX3_lawfulDirections_10 : decode cX3_lawfulDirections 10 = .ok (.istore 4, 2) := by decide +kernel
theorem dX3_lawfulDirections_12 : decode cX3_lawfulDirections 12 = .ok (.iload 4, 2) := by decide +kernel
theorem dX3_lawfulDirections_14 : decode cX3_lawfulDirections 14 = .ok (.bipush 20, 2) := by decide +kernel
theorem dX3_lawfulDirections_16 : decode cX3_lawfulDirections 16 = .ok (.if_icmp .ge 32, 3) := by decide +kernel
theorem dX3_lawfulDirections_19 : decode cX3_lawfulDirections 19 = .ok (.aload_n 1, 1) := by decide +kernel
theorem dX3_lawfulDirections_20 : decode cX3_lawfulDirections 20 = .ok (.getfield 65, 3) := by decide +kernel
theorem dX3_lawfulDirections_23 : decode cX3_lawfulDirections 23 = .ok (.iconst 0, 1) := by decide +kernel
theorem dX3_lawfulDirections_24 : decode cX3_lawfulDirections 24 = .ok (.iload 4, 2) := by decide +kernel
theorem dX3_lawfulDirections_26 : decode cX3_lawfulDirections 26 = .ok (.iastore, 1) := by decide +kernel
theorem dX3_lawfulDirections_27 : decode cX3_lawfulDirections 27 = .ok (.aload_n 0, 1) := by decide +kernel
theorem dX3_lawfulDirections_28 : decode cX3_lawfulDirections 28 = .ok (.aload_n 1, 1) := by decide +kernel
theorem dX3_lawfulDirections_29 : decode cX3_lawfulDirections 29 = .ok (.invokevirtual 61, 3) := by decide +kernel
theorem dX3_lawfulDirections_32 : decode cX3_lawfulDirections 32 = .ok (.ifCond .ne 10, 3) := by decide +kernel
theorem dX3_lawfulDirections_35 : decode cX3_lawfulDirections 35 = .ok (.iload_n 3, 1) := by decide +kernel
theorem dX3_lawfulDirections_36 : decode cX3_lawfulDirections 36 = .ok (.iconst 1, 1) := by decide +kernel
theorem dX3_lawfulDirections_37 : decode cX3_lawfulDirections 37 = .ok (.iload 4, 2) := by decide +kernel
theorem dX3_lawfulDirections_39 : decode cX3_lawfulDirections 39 = .ok (.ishl, 1) := by decide +kernel
theorem dX3_lawfulDirections_40 : decode cX3_lawfulDirections 40 = .ok (.ior, 1) := by decide +kernel
theorem dX3_lawfulDirections_41 : decode cX3_lawfulDirections 41 = .ok (.istore_n 3, 1) := by decide +kernel
theorem dX3_lawfulDirections_42 : decode cX3_lawfulDirections 42 = .ok (.iinc 4 1, 3) := by decide +kernel
theorem dX3_lawfulDirections_45 : decode cX3_lawfulDirections 45 = .ok (.goto (-33), 3) := by decide +kernel
theorem dX3_lawfulDirections_48 : decode cX3_lawfulDirections 48 = .ok (.iload_n 3, 1) := by decide +kernel
theorem dX3_lawfulDirections_49 : decode cX3_lawfulDirections 49 = .ok (.ireturn, 1) := by decide +kernel
def l_X3_lawfulDirections_12 (S : SH) (a0 : Nat) (a1 : Nat) (k12 : (Int32 × Int32 × Mem) → Option (Int32 × Mem)) (x : (Int32 × Int32 × Mem)) : Option (Int32 × Mem) :=
 (if 20 ≤ x.2.1 then
 some (x.1, x.2.2)
 else
 (gR S 2 a1 3).bind fun v3 =>
 (sI S v3 0 x.2.1 x.2.2).bind fun ν4 =>
 (f_X3_verdict S a0 a1 ν4).bind fun q5 =>
 (if q5.1 = 0 then
 (some (x.1 ||| (1 <<< (x.2.1 &&& 31)))).bind fun y6 =>
 k12 (y6, x.2.1 + 1, q5.2)
 else
 k12 (x.1, x.2.1 + 1, q5.2)))
set_option maxRecDepth 100000 in
set_option maxHeartbeats 4000000 in
theorem t_X3_lawfulDirections_12 {γ : GE} {p : Program} {l : Launch} {e : Env} {s : State} {m : MethodId} {args : Array Value} {below : List Frame} {meth : Method} {c : Code} {S : SH} {X : (Int32 × Mem)} (F : FX γ p s m args meth c cX3_lawfulDirections RX3 5) (hr : meth.sig.returnType = (some .int)) (a0 : Nat) (a1 : Nat) (k12 : (Int32 × Int32 × Mem) → Option (Int32 × Mem)) (hk12 : ∀ (x12_3 : Int32) (x12_4 : Int32) (ν : Mem), k12 (x12_3, x12_4, ν) = some X → JJ γ p l e rm_X3_lawfulDirections s m args below meth c 5 0 0 (QI below γ S X args s 0 0) S ν 12 [(0, .ref (gb γ + a0)), (1, .ref (gb γ + a1)), (3, .int x12_3), (4, .int x12_4)] []) (x : (Int32 × Int32 × Mem)) (h : l_X3_lawfulDirections_12 S a0 a1 k12 x = some X) : JJ γ p l e rm_X3_lawfulDirections s m args below meth c 5 0 0 (QI below γ S X args s 0 0) S x.2.2 12 [(0, .ref (gb γ + a0)), (1, .ref (gb γ + a1)), (3, .int x.1), (4, .int x.2.1)] [] := by
  unfold l_X3_lawfulDirections_12 at h
  refine j_iload F 3 dX3_lawfulDirections_12 rfl ?_
  refine j_bipush F 20 dX3_lawfulDirections_14 (by decide) ?_
  refine j_icmpge F 48 dX3_lawfulDirections_16 (by decide) h (fun _ h => ?_) (fun _ h => ?_)
  · refine j_iload_n F 2 dX3_lawfulDirections_48 rfl ?_
    exact j_iret F hr dX3_lawfulDirections_49 h
  · refine j_aload_n F 1 dX3_lawfulDirections_19 rfl ?_
    refine j_gR F fl_RX3_65 rfl dX3_lawfulDirections_20 h (fun v3 h => ?_)
    refine j_iconst F 0 dX3_lawfulDirections_23 (by decide) ?_
    refine j_iload F 3 dX3_lawfulDirections_24 rfl ?_
    refine j_iast F dX3_lawfulDirections_26 h (fun ν4 h => ?_)
    refine j_aload_n F 0 dX3_lawfulDirections_27 rfl ?_
    refine j_aload_n F 1 dX3_lawfulDirections_28 rfl ?_
    refine j_cVI F mi_X3_verdict w_624 (rest := []) h (fun _ g => c_X3_verdict g) rfl rfl (Nat.le_of_ble_eq_true rfl) ⟨Nat.le_of_ble_eq_true rfl, Nat.le_of_ble_eq_true rfl⟩ ⟨Nat.le_of_ble_eq_true rfl, Nat.le_of_ble_eq_true rfl⟩ dX3_lawfulDirections_29 (fun q5 h => ?_)
    refine j_ifne F 42 dX3_lawfulDirections_32 (by decide) h (fun _ h => ?_) (fun _ h => ?_)
    · refine j_iinc F 1 3 [(4, .int (x.2.1 + 1)), (0, .ref (gb γ + a0)), (1, .ref (gb γ + a1)), (3, .int x.1)] dX3_lawfulDirections_42 rfl (by decide) (by decide) rfl ?_
      refine j_goto F 12 dX3_lawfulDirections_45 (by decide) ?_
      refine j_lv [(0, .ref (gb γ + a0)), (1, .ref (gb γ + a1)), (3, .int x.1), (4, .int (x.2.1 + 1))] [1, 2, 3, 0] rfl ?_
      exact hk12 _ _ _ h
    · refine j_iload_n F 2 dX3_lawfulDirections_35 rfl ?_
      refine j_iconst F 1 dX3_lawfulDirections_36 (by decide) ?_
      refine j_iload F 3 dX3_lawfulDirections_37 rfl ?_
      refine j_ishl F dX3_lawfulDirections_39 ?_
      refine j_ior F dX3_lawfulDirections_40 ?_
      refine j_nmI h (fun y6 h => ?_)
      refine j_istore_n F [(3, .int y6), (0, .ref (gb γ + a0)), (1, .ref (gb γ + a1)), (4, .int x.2.1)] dX3_lawfulDirections_41 rfl (by decide) rfl ?_
      refine j_iinc F 1 3 [(4, .int (x.2.1 + 1)), (3, .int y6), (0, .ref (gb γ + a0)), (1, .ref (gb γ + a1))] dX3_lawfulDirections_42 rfl (by decide) (by decide) rfl ?_
      refine j_goto F 12 dX3_lawfulDirections_45 (by decide) ?_
      refine j_lv [(0, .ref (gb γ + a0)), (1, .ref (gb γ + a1)), (3, .int y6), (4, .int (x.2.1 + 1))] [2, 3, 1, 0] rfl ?_
      exact hk12 _ _ _ h
theorem s_X3_lawfulDirections_12 {γ : GE} {p : Program} {l : Launch} {e : Env} {s : State} {m : MethodId} {args : Array Value} {below : List Frame} {meth : Method} {c : Code} {S : SH} {X : (Int32 × Mem)} (F : FX γ p s m args meth c cX3_lawfulDirections RX3 5) (hr : meth.sig.returnType = (some .int)) (a0 : Nat) (a1 : Nat) (x12_3 : Int32) (x12_4 : Int32) (ν : Mem) (h : lpN (l_X3_lawfulDirections_12 S a0 a1) fu (x12_3, x12_4, ν) = some X) : JJ γ p l e rm_X3_lawfulDirections s m args below meth c 5 0 0 (QI below γ S X args s 0 0) S ν 12 [(0, .ref (gb γ + a0)), (1, .ref (gb γ + a1)), (3, .int x12_3), (4, .int x12_4)] [] :=
 lpN_sound (fun x => JJ γ p l e rm_X3_lawfulDirections s m args below meth c 5 0 0 (QI below γ S X args s 0 0) S x.2.2 12 [(0, .ref (gb γ + a0)), (1, .ref (gb γ + a1)), (3, .int x.1), (4, .int x.2.1)] []) (fun k12 hk12 x h => t_X3_lawfulDirections_12 F hr a0 a1 k12 (fun x12_3 x12_4 ν h => hk12 (x12_3, x12_4, ν) h) x h) fu (x12_3, x12_4, ν) h
def f_X3_lawfulDirections (S : SH) (a0 : Nat) (a1 : Nat) (a2 : Int32) (μ : Mem) : Option (Int32 × Mem) :=
  if isO S 3 a0 = true then
  (gR S 2 a1 3).bind fun v1 =>
  (sI S v1 1 a2 μ).bind fun ν2 =>
  lpN (l_X3_lawfulDirections_12 S  a0 a1) fu (0, 0, ν2)
  else none
set_option maxRecDepth 100000 in
set_option maxHeartbeats 4000000 in
theorem c_X3_lawfulDirections {l : Launch} {γ : GE} {S : SH} {a0 : Nat} {a1 : Nat} {a2 : Int32} {μ : Mem} {X : (Int32 × Mem)} (h : f_X3_lawfulDirections S a0 a1 a2 μ = some X) : isO S 3 a0 = true ∧ Ct l γ yX3_lawfulDirections cX3_lawfulDirections 5 (some .int) rm_X3_lawfulDirections [.ref (gb γ + a0), .ref (gb γ + a1), .int a2] S μ S X.2 (some (.int X.1)) := by
  unfold f_X3_lawfulDirections at h
  obtain ⟨h0, h⟩ := if_some h
  refine ⟨h0, ?_⟩
  have hJ : ∀ (p : Program) (e : Env) (s : State) (m : MethodId) (args : Array Value) (below : List Frame) (meth : Method) (c : Code), FX γ p s m args meth c cX3_lawfulDirections RX3 5 → meth.sig.returnType = (some .int) → JJ γ p l e rm_X3_lawfulDirections s m args below meth c 5 0 0 (QI below γ S X args s 0 0) S μ 0 [(0, .ref (gb γ + a0)), (1, .ref (gb γ + a1)), (2, .int a2)] [] := by
    intro p e s m args below meth c F hr
    refine j_iconst F 0 dX3_lawfulDirections_0 (by decide) ?_
    refine j_istore_n F [(3, .int 0), (0, .ref (gb γ + a0)), (1, .ref (gb γ + a1)), (2, .int a2)] dX3_lawfulDirections_1 rfl (by decide) rfl ?_
    refine j_aload_n F 2 dX3_lawfulDirections_2 rfl ?_
    refine j_gR F fl_RX3_65 rfl dX3_lawfulDirections_3 h (fun v1 h => ?_)
    refine j_iconst F 1 dX3_lawfulDirections_6 (by decide) ?_
    refine j_iload_n F 3 dX3_lawfulDirections_7 rfl ?_
    refine j_iast F dX3_lawfulDirections_8 h (fun ν2 h => ?_)
    refine j_iconst F 0 dX3_lawfulDirections_9 (by decide) ?_
    refine j_istore F [(4, .int 0), (3, .int 0), (0, .ref (gb γ + a0)), (1, .ref (gb γ + a1)), (2, .int a2)] dX3_lawfulDirections_10 (by decide) rfl ?_
    refine j_lv [(0, .ref (gb γ + a0)), (1, .ref (gb γ + a1)), (3, .int 0), (4, .int 0)] [2, 3, 1, 0] rfl ?_
    exact s_X3_lawfulDirections_12 F hr _ _ _ _ _ h
  exact ct_of (by decide +kernel) (Nat.le_of_ble_eq_true rfl) (fun p e s m args below meth c F hr _ => hJ p e s m args below meth c F hr)
def rm_X3_wholeShare : Room := { frames := 0, cells := 0, slots := 0, locals := 0 }
theorem dX3_wholeShare_0 : decode cX3_wholeShare 0 = .ok (.aload_n 0, 1) := by decide +kernel
theorem dX3_wholeShare_1 : decode cX3_wholeShare 1 = .ok (.getfield 117, 3) := by decide +kernel
theorem dX3_wholeShare_4 : decode cX3_wholeShare 4 = .ok (.lconst 0, 1) := by decide +kernel
theorem dX3_wholeShare_5 : decode cX3_wholeShare 5 = .ok (.lcmp, 1) := by decide +kernel
theorem dX3_wholeShare_6 : decode cX3_wholeShare 6 = .ok (.ifCond .le 17, 3) := by decide +kernel
theorem dX3_wholeShare_9 : decode cX3_wholeShare 9 = .ok (.aload_n 0, 1) := by decide +kernel
theorem dX3_wholeShare_10 : decode cX3_wholeShare 10 = .ok (.getfield 9, 3) := by decide +kernel
theorem dX3_wholeShare_13 : decode cX3_wholeShare 13 = .ok (.iload_n 1, 1) := by decide +kernel
theorem dX3_wholeShare_14 : decode cX3_wholeShare 14 = .ok (.laload, 1) := by decide +kernel
theorem dX3_wholeShare_15 : decode cX3_wholeShare 15 = .ok (.aload_n 0, 1) := by decide +kernel
theorem dX3_wholeShare_16 : decode cX3_wholeShare 16 = .ok (.getfield 117, 3) := by decide +kernel
theorem dX3_wholeShare_19 : decode cX3_wholeShare 19 = .ok (.ldiv, 1) := by decide +kernel
theorem dX3_wholeShare_20 : decode cX3_wholeShare 20 = .ok (.goto 4, 3) := by decide +kernel
theorem dX3_wholeShare_23 : decode cX3_wholeShare 23 = .ok (.lconst 0, 1) := by decide +kernel
theorem dX3_wholeShare_24 : decode cX3_wholeShare 24 = .ok (.lreturn, 1) := by decide +kernel
def f_X3_wholeShare (S : SH) (a0 : Nat) (a1 : Int32) (μ : Mem) : Option (Int64 × Mem) :=
  if isO S 3 a0 = true then
  (gL S 3 a0 4 μ).bind fun v1 =>
  (if v1 ≤ 0 then
  some (0, μ)
  else
  (gR S 3 a0 3).bind fun v2 =>
  (aL S v2 a1 μ).bind fun v3 =>
  (gL S 3 a0 4 μ).bind fun v4 =>
  (o_ldiv v3 v4).bind fun v5 =>
  some (v5, μ))
  else none
set_option maxRecDepth 100000 in
set_option maxHeartbeats 4000000 in
theorem c_X3_wholeShare {l : Launch} {γ : GE} {S : SH} {a0 : Nat} {a1 : Int32} {μ : Mem} {X : (Int64 × Mem)} (h : f_X3_wholeShare S a0 a1 μ = some X) : isO S 3 a0 = true ∧ Ct l γ yX3_wholeShare cX3_wholeShare 2 (some .long) rm_X3_wholeShare [.ref (gb γ + a0), .int a1] S μ S X.2 (some (.long X.1)) := by
  unfold f_X3_wholeShare at h
  obtain ⟨h0, h⟩ := if_some h
  refine ⟨h0, ?_⟩
  have hJ : ∀ (p : Program) (e : Env) (s : State) (m : MethodId) (args : Array Value) (below : List Frame) (meth : Method) (c : Code), FX γ p s m args meth c cX3_wholeShare RX3 2 → meth.sig.returnType = (some .long) → JJ γ p l e rm_X3_wholeShare s m args below meth c 2 0 0 (QL below γ S X args s 0 0) S μ 0 [(0, .ref (gb γ + a0)), (1, .int a1)] [] := by
    intro p e s m args below meth c F hr
    refine j_aload_n F 0 dX3_wholeShare_0 rfl ?_
    refine j_gL F fl_RX3_117.l rfl dX3_wholeShare_1 h (fun v1 h => ?_)
    refine j_lconst F 0 dX3_wholeShare_4 (by decide) ?_
    refine j_lcmple F 23 dX3_wholeShare_5 dX3_wholeShare_6 (by decide) h (fun _ h => ?_) (fun _ h => ?_)
    · refine j_lconst F 0 dX3_wholeShare_23 (by decide) ?_
      exact j_lret F hr dX3_wholeShare_24 h
    · refine j_aload_n F 0 dX3_wholeShare_9 rfl ?_
      refine j_gR F fl_RX3_9 rfl dX3_wholeShare_10 h (fun v2 h => ?_)
      refine j_iload_n F 1 dX3_wholeShare_13 rfl ?_
      refine j_lald F dX3_wholeShare_14 h (fun v3 h => ?_)
      refine j_aload_n F 0 dX3_wholeShare_15 rfl ?_
      refine j_gL F fl_RX3_117.l rfl dX3_wholeShare_16 h (fun v4 h => ?_)
      refine j_ldiv F dX3_wholeShare_19 h (fun v5 h => ?_)
      refine j_goto F 24 dX3_wholeShare_20 (by decide) ?_
      exact j_lret F hr dX3_wholeShare_24 h
  exact ct_of (by decide +kernel) (Nat.le_of_ble_eq_true rfl) (fun p e s m args below meth c F hr _ => hJ p e s m args below meth c F hr)
def rm_X3_sharesAre : Room := { frames := 1, cells := 0, slots := 0, locals := 21 }
theorem dX3_sharesAre_0 : decode cX3_sharesAre 0 = .ok (.iconst 0, 1) := by decide +kernel
theorem dX3_sharesAre_1 : decode cX3_sharesAre 1 = .ok (.istore_n 3, 1) := by decide +kernel
theorem dX3_sharesAre_2 : decode cX3_sharesAre 2 = .ok (.iload_n 3, 1) := by decide +kernel
theorem dX3_sharesAre_3 : decode cX3_sharesAre 3 = .ok (.iconst 4, 1) := by decide +kernel
theorem dX3_sharesAre_4 : decode cX3_sharesAre 4 = .ok (.if_icmp .ge 25, 3) := by decide +kernel
theorem dX3_sharesAre_7 : decode cX3_sharesAre 7 = .ok (.aload_n 1, 1) := by decide +kernel
theorem dX3_sharesAre_8 : decode cX3_sharesAre 8 = .ok (.iload_n 2, 1) := by decide +kernel
theorem dX3_sharesAre_9 : decode cX3_sharesAre 9 = .ok (.iload_n 3, 1) := by decide +kernel
theorem dX3_sharesAre_10 : decode cX3_sharesAre 10 = .ok (.iadd, 1) := by decide +kernel
theorem dX3_sharesAre_11 : decode cX3_sharesAre 11 = .ok (.laload, 1) := by decide +kernel
theorem dX3_sharesAre_12 : decode cX3_sharesAre 12 = .ok (.aload_n 0, 1) := by decide +kernel
theorem dX3_sharesAre_13 : decode cX3_sharesAre 13 = .ok (.iload_n 3, 1) := by decide +kernel
theorem dX3_sharesAre_14 : decode cX3_sharesAre 14 = .ok (.invokevirtual 113, 3) := by decide +kernel
theorem dX3_sharesAre_17 : decode cX3_sharesAre 17 = .ok (.lcmp, 1) := by decide +kernel
theorem dX3_sharesAre_18 : decode cX3_sharesAre 18 = .ok (.ifCond .eq 5, 3) := by decide +kernel
theorem dX3_sharesAre_21 : decode cX3_sharesAre 21 = .ok (.iconst 0, 1) := by decide +kernel
theorem dX3_sharesAre_22 : decode cX3_sharesAre 22 = .ok (.ireturn, 1) := by decide +kernel
theorem dX3_sharesAre_23 : decode cX3_sharesAre 23 = .ok (.iinc 3 1, 3) := by decide +kernel
theorem dX3_sharesAre_26 : decode cX3_sharesAre 26 = .ok (.goto (-24), 3) := by decide +kernel
theorem dX3_sharesAre_29 : decode cX3_sharesAre 29 = .ok (.iconst 1, 1) := by decide +kernel
theorem dX3_sharesAre_30 : decode cX3_sharesAre 30 = .ok (.ireturn, 1) := by decide +kernel
def l_X3_sharesAre_2 (S : SH) (a0 : Nat) (a1 : Nat) (a2 : Int32) (k2 : (Int32 × Mem) → Option (Int32 × Mem)) (x : (Int32 × Mem)) : Option (Int32 × Mem) :=
 (if 4 ≤ x.1 then
 some (1, x.2)
 else
 (aL S a1 (a2 + x.1) x.2).bind fun v1 =>
 (f_X3_wholeShare S a0 x.1 x.2).bind fun q2 =>
 (if v1 = q2.1 then
 k2 (x.1 + 1, q2.2)
 else
 some (0, q2.2)))
set_option maxRecDepth 100000 in
set_option maxHeartbeats 4000000 in
theorem t_X3_sharesAre_2 {γ : GE} {p : Program} {l : Launch} {e : Env} {s : State} {m : MethodId} {args : Array Value} {below : List Frame} {meth : Method} {c : Code} {S : SH} {X : (Int32 × Mem)} (F : FX γ p s m args meth c cX3_sharesAre RX3 4) (hr : meth.sig.returnType = (some .boolean)) (a0 : Nat) (a1 : Nat) (a2 : Int32) (k2 : (Int32 × Mem) → Option (Int32 × Mem)) (hk2 : ∀ (x2_3 : Int32) (ν : Mem), k2 (x2_3, ν) = some X → JJ γ p l e rm_X3_sharesAre s m args below meth c 4 0 0 (QI below γ S X args s 0 0) S ν 2 [(0, .ref (gb γ + a0)), (1, .ref (gb γ + a1)), (2, .int a2), (3, .int x2_3)] []) (x : (Int32 × Mem)) (h : l_X3_sharesAre_2 S a0 a1 a2 k2 x = some X) : JJ γ p l e rm_X3_sharesAre s m args below meth c 4 0 0 (QI below γ S X args s 0 0) S x.2 2 [(0, .ref (gb γ + a0)), (1, .ref (gb γ + a1)), (2, .int a2), (3, .int x.1)] [] := by
  unfold l_X3_sharesAre_2 at h
  refine j_iload_n F 3 dX3_sharesAre_2 rfl ?_
  refine j_iconst F 4 dX3_sharesAre_3 (by decide) ?_
  refine j_icmpge F 29 dX3_sharesAre_4 (by decide) h (fun _ h => ?_) (fun _ h => ?_)
  · refine j_iconst F 1 dX3_sharesAre_29 (by decide) ?_
    exact j_zret F hr (Or.inr rfl) dX3_sharesAre_30 h
  · refine j_aload_n F 1 dX3_sharesAre_7 rfl ?_
    refine j_iload_n F 2 dX3_sharesAre_8 rfl ?_
    refine j_iload_n F 3 dX3_sharesAre_9 rfl ?_
    refine j_iadd F dX3_sharesAre_10 ?_
    refine j_lald F dX3_sharesAre_11 h (fun v1 h => ?_)
    refine j_aload_n F 0 dX3_sharesAre_12 rfl ?_
    refine j_iload_n F 3 dX3_sharesAre_13 rfl ?_
    refine j_cVJ F mi_X3_wholeShare w_894 (rest := [.long v1]) h (fun _ g => c_X3_wholeShare g) rfl rfl (Nat.le_of_ble_eq_true rfl) ⟨Nat.le_of_ble_eq_true rfl, Nat.le_of_ble_eq_true rfl⟩ ⟨Nat.le_of_ble_eq_true rfl, Nat.le_of_ble_eq_true rfl⟩ dX3_sharesAre_14 (fun q2 h => ?_)
    refine j_lcmpeq F 23 dX3_sharesAre_17 dX3_sharesAre_18 (by decide) h (fun _ h => ?_) (fun _ h => ?_)
    · refine j_iinc F 1 3 [(3, .int (x.1 + 1)), (0, .ref (gb γ + a0)), (1, .ref (gb γ + a1)), (2, .int a2)] dX3_sharesAre_23 rfl (by decide) (by decide) rfl ?_
      refine j_goto F 2 dX3_sharesAre_26 (by decide) ?_
      refine j_lv [(0, .ref (gb γ + a0)), (1, .ref (gb γ + a1)), (2, .int a2), (3, .int (x.1 + 1))] [1, 2, 3, 0] rfl ?_
      exact hk2 _ _ h
    · refine j_iconst F 0 dX3_sharesAre_21 (by decide) ?_
      exact j_zret F hr (Or.inl rfl) dX3_sharesAre_22 h
theorem s_X3_sharesAre_2 {γ : GE} {p : Program} {l : Launch} {e : Env} {s : State} {m : MethodId} {args : Array Value} {below : List Frame} {meth : Method} {c : Code} {S : SH} {X : (Int32 × Mem)} (F : FX γ p s m args meth c cX3_sharesAre RX3 4) (hr : meth.sig.returnType = (some .boolean)) (a0 : Nat) (a1 : Nat) (a2 : Int32) (x2_3 : Int32) (ν : Mem) (h : lpN (l_X3_sharesAre_2 S a0 a1 a2) fu (x2_3, ν) = some X) : JJ γ p l e rm_X3_sharesAre s m args below meth c 4 0 0 (QI below γ S X args s 0 0) S ν 2 [(0, .ref (gb γ + a0)), (1, .ref (gb γ + a1)), (2, .int a2), (3, .int x2_3)] [] :=
 lpN_sound (fun x => JJ γ p l e rm_X3_sharesAre s m args below meth c 4 0 0 (QI below γ S X args s 0 0) S x.2 2 [(0, .ref (gb γ + a0)), (1, .ref (gb γ + a1)), (2, .int a2), (3, .int x.1)] []) (fun k2 hk2 x h => t_X3_sharesAre_2 F hr a0 a1 a2 k2 (fun x2_3 ν h => hk2 (x2_3, ν) h) x h) fu (x2_3, ν) h
def f_X3_sharesAre (S : SH) (a0 : Nat) (a1 : Nat) (a2 : Int32) (μ : Mem) : Option (Int32 × Mem) :=
  if isO S 3 a0 = true then
  lpN (l_X3_sharesAre_2 S  a0 a1 a2) fu (0, μ)
  else none
set_option maxRecDepth 100000 in
set_option maxHeartbeats 4000000 in
theorem c_X3_sharesAre {l : Launch} {γ : GE} {S : SH} {a0 : Nat} {a1 : Nat} {a2 : Int32} {μ : Mem} {X : (Int32 × Mem)} (h : f_X3_sharesAre S a0 a1 a2 μ = some X) : isO S 3 a0 = true ∧ Ct l γ yX3_sharesAre cX3_sharesAre 4 (some .boolean) rm_X3_sharesAre [.ref (gb γ + a0), .ref (gb γ + a1), .int a2] S μ S X.2 (some (.int X.1)) := by
  unfold f_X3_sharesAre at h
  obtain ⟨h0, h⟩ := if_some h
  refine ⟨h0, ?_⟩
  have hJ : ∀ (p : Program) (e : Env) (s : State) (m : MethodId) (args : Array Value) (below : List Frame) (meth : Method) (c : Code), FX γ p s m args meth c cX3_sharesAre RX3 4 → meth.sig.returnType = (some .boolean) → JJ γ p l e rm_X3_sharesAre s m args below meth c 4 0 0 (QI below γ S X args s 0 0) S μ 0 [(0, .ref (gb γ + a0)), (1, .ref (gb γ + a1)), (2, .int a2)] [] := by
    intro p e s m args below meth c F hr
    refine j_iconst F 0 dX3_sharesAre_0 (by decide) ?_
    refine j_istore_n F [(3, .int 0), (0, .ref (gb γ + a0)), (1, .ref (gb γ + a1)), (2, .int a2)] dX3_sharesAre_1 rfl (by decide) rfl ?_
    refine j_lv [(0, .ref (gb γ + a0)), (1, .ref (gb γ + a1)), (2, .int a2), (3, .int 0)] [1, 2, 3, 0] rfl ?_
    exact s_X3_sharesAre_2 F hr _ _ _ _ _ h
  exact ct_of (by decide +kernel) (Nat.le_of_ble_eq_true rfl) (fun p e s m args below meth c F hr _ => hJ p e s m args below meth c F hr)
def rm_X3_addMoment : Room := { frames := 1, cells := 0, slots := 0, locals := 20 }
theorem dX3_addMoment_0 : decode cX3_addMoment 0 = .ok (.iload_n 2, 1) := by decide +kernel
theorem dX3_addMoment_1 : decode cX3_addMoment 1 = .ok (.invokestatic 146, 3) := by decide +kernel
theorem dX3_addMoment_4 : decode cX3_addMoment 4 = .ok (.istore 8, 2) := by decide +kernel
theorem dX3_addMoment_6 : decode cX3_addMoment 6 = .ok (.aload_n 1, 1) := by decide +kernel
theorem dX3_addMoment_7 : decode cX3_addMoment 7 = .ok (.getfield 107, 3) := by decide +kernel
theorem dX3_addMoment_10 : decode cX3_addMoment 10 = .ok (.iload 8, 2) := by decide +kernel
theorem dX3_addMoment_12 : decode cX3_addMoment 12 = .ok (.iaload, 1) := by decide +kernel
theorem dX3_addMoment_13 : decode cX3_addMoment 13 = .ok (.aload_n 1, 1) := by decide +kernel
theorem dX3_addMoment_14 : decode cX3_addMoment 14 = .ok (.getfield 107, 3) := by decide +kernel
theorem dX3_addMoment_17 : decode cX3_addMoment 17 = .ok (.iload_n 2, 1) := by decide +kernel
theorem dX3_addMoment_18 : decode cX3_addMoment 18 = .ok (.iaload, 1) := by decide +kernel
theorem dX3_addMoment_19 : decode cX3_addMoment 19 = .ok (.isub, 1) := by decide +kernel
theorem dX3_addMoment_20 : decode cX3_addMoment 20 = .ok (.i2l, 1) := by decide +kernel
theorem dX3_addMoment_21 : decode cX3_addMoment 21 = .ok (.lstore 9, 2) := by decide +kernel
theorem dX3_addMoment_23 : decode cX3_addMoment 23 = .ok (.aload_n 1, 1) := by decide +kernel
theorem dX3_addMoment_24 : decode cX3_addMoment 24 = .ok (.getfield 110, 3) := by decide +kernel
theorem dX3_addMoment_27 : decode cX3_addMoment 27 = .ok (.iload 8, 2) := by decide +kernel
theorem dX3_addMoment_29 : decode cX3_addMoment 29 = .ok (.iaload, 1) := by decide +kernel
theorem dX3_addMoment_30 : decode cX3_addMoment 30 = .ok (.aload_n 1, 1) := by decide +kernel
theorem dX3_addMoment_31 : decode cX3_addMoment 31 = .ok (.getfield 110, 3) := by decide +kernel
theorem dX3_addMoment_34 : decode cX3_addMoment 34 = .ok (.iload_n 2, 1) := by decide +kernel
theorem dX3_addMoment_35 : decode cX3_addMoment 35 = .ok (.iaload, 1) := by decide +kernel
theorem dX3_addMoment_36 : decode cX3_addMoment 36 = .ok (.isub, 1) := by decide +kernel
theorem dX3_addMoment_37 : decode cX3_addMoment 37 = .ok (.i2l, 1) := by decide +kernel
theorem dX3_addMoment_38 : decode cX3_addMoment 38 = .ok (.lstore 11, 2) := by decide +kernel
theorem dX3_addMoment_40 : decode cX3_addMoment 40 = .ok (.lload 9, 2) := by decide +kernel
theorem dX3_addMoment_42 : decode cX3_addMoment 42 = .ok (.lload 6, 2) := by decide +kernel
theorem dX3_addMoment_44 : decode cX3_addMoment 44 = .ok (.bipush 65, 2) := by decide +kernel
theorem dX3_addMoment_46 : decode cX3_addMoment 46 = .ok (.aload_n 1, 1) := by decide +kernel
theorem dX3_addMoment_47 : decode cX3_addMoment 47 = .ok (.getfield 110, 3) := by decide +kernel
theorem dX3_addMoment_50 : decode cX3_addMoment 50 = .ok (.iload_n 2, 1) := by decide +kernel
theorem dX3_addMoment_51 : decode cX3_addMoment 51 = .ok (.iaload, 1) := by decide +kernel
theorem dX3_addMoment_52 : decode cX3_addMoment 52 = .ok (.imul, 1) := by decide +kernel
theorem dX3_addMoment_53 : decode cX3_addMoment 53 = .ok (.i2l, 1) := by decide +kernel
theorem dX3_addMoment_54 : decode cX3_addMoment 54 = .ok (.lsub, 1) := by decide +kernel
theorem dX3_addMoment_55 : decode cX3_addMoment 55 = .ok (.lmul, 1) := by decide +kernel
theorem dX3_addMoment_56 : decode cX3_addMoment 56 = .ok (.lload 11, 2) := by decide +kernel
theorem dX3_addMoment_58 : decode cX3_addMoment 58 = .ok (.lload 4, 2) := by decide +kernel
theorem dX3_addMoment_60 : decode cX3_addMoment 60 = .ok (.bipush 65, 2) := by decide +kernel
theorem dX3_addMoment_62 : decode cX3_addMoment 62 = .ok (.aload_n 1, 1) := by decide +kernel
theorem dX3_addMoment_63 : decode cX3_addMoment 63 = .ok (.getfield 107, 3) := by decide +kernel
theorem dX3_addMoment_66 : decode cX3_addMoment 66 = .ok (.iload_n 2, 1) := by decide +kernel
theorem dX3_addMoment_67 : decode cX3_addMoment 67 = .ok (.iaload, 1) := by decide +kernel
theorem dX3_addMoment_68 : decode cX3_addMoment 68 = .ok (.imul, 1) := by decide +kernel
theorem dX3_addMoment_69 : decode cX3_addMoment 69 = .ok (.i2l, 1) := by decide +kernel
theorem dX3_addMoment_70 : decode cX3_addMoment 70 = .ok (.lsub, 1) := by decide +kernel
theorem dX3_addMoment_71 : decode cX3_addMoment 71 = .ok (.lmul, 1) := by decide +kernel
theorem dX3_addMoment_72 : decode cX3_addMoment 72 = .ok (.lsub, 1) := by decide +kernel
theorem dX3_addMoment_73 : decode cX3_addMoment 73 = .ok (.lstore 13, 2) := by decide +kernel
theorem dX3_addMoment_75 : decode cX3_addMoment 75 = .ok (.lload 13, 2) := by decide +kernel
theorem dX3_addMoment_77 : decode cX3_addMoment 77 = .ok (.lconst 0, 1) := by decide +kernel
theorem dX3_addMoment_78 : decode cX3_addMoment 78 = .ok (.lcmp, 1) := by decide +kernel
theorem dX3_addMoment_79 : decode cX3_addMoment 79 = .ok (.ifCond .le 20, 3) := by decide +kernel
theorem dX3_addMoment_82 : decode cX3_addMoment 82 = .ok (.aload_n 0, 1) := by decide +kernel
theorem dX3_addMoment_83 : decode cX3_addMoment 83 = .ok (.dup, 1) := by decide +kernel
theorem dX3_addMoment_84 : decode cX3_addMoment 84 = .ok (.getfield 120, 3) := by decide +kernel
theorem dX3_addMoment_87 : decode cX3_addMoment 87 = .ok (.iload_n 3, 1) := by decide +kernel
theorem dX3_addMoment_88 : decode cX3_addMoment 88 = .ok (.i2l, 1) := by decide +kernel
theorem dX3_addMoment_89 : decode cX3_addMoment 89 = .ok (.lload 13, 2) := by decide +kernel
theorem dX3_addMoment_91 : decode cX3_addMoment 91 = .ok (.lmul, 1) := by decide +kernel
theorem dX3_addMoment_92 : decode cX3_addMoment 92 = .ok (.ladd, 1) := by decide +kernel
theorem dX3_addMoment_93 : decode cX3_addMoment 93 = .ok (.putfield 120, 3) := by decide +kernel
theorem dX3_addMoment_96 : decode cX3_addMoment 96 = .ok (.goto 17, 3) := by decide +kernel
theorem dX3_addMoment_99 : decode cX3_addMoment 99 = .ok (.aload_n 0, 1) := by decide +kernel
theorem dX3_addMoment_100 : decode cX3_addMoment 100 = .ok (.dup, 1) := by decide +kernel
theorem dX3_addMoment_101 : decode cX3_addMoment 101 = .ok (.getfield 123, 3) := by decide +kernel
theorem dX3_addMoment_104 : decode cX3_addMoment 104 = .ok (.iload_n 3, 1) := by decide +kernel
theorem dX3_addMoment_105 : decode cX3_addMoment 105 = .ok (.i2l, 1) := by decide +kernel
theorem dX3_addMoment_106 : decode cX3_addMoment 106 = .ok (.lload 13, 2) := by decide +kernel
theorem dX3_addMoment_108 : decode cX3_addMoment 108 = .ok (.lmul, 1) := by decide +kernel
theorem dX3_addMoment_109 : decode cX3_addMoment 109 = .ok (.lsub, 1) := by decide +kernel
theorem dX3_addMoment_110 : decode cX3_addMoment 110 = .ok (.putfield 123, 3) := by decide +kernel
theorem dX3_addMoment_113 : decode cX3_addMoment 113 = .ok (.return_, 1) := by decide +kernel
def f_X3_addMoment (S : SH) (a0 : Nat) (a1 : Nat) (a2 : Int32) (a3 : Int32) (a4 : Int64) (a6 : Int64) (μ : Mem) : Option (Unit × Mem) :=
  if isO S 3 a0 = true then
  (f_X11_next S a2 μ).bind fun q1 =>
  (gR S 4 a1 0).bind fun v2 =>
  (aI S .int v2 q1.1 q1.2).bind fun v3 =>
  (gR S 4 a1 0).bind fun v4 =>
  (aI S .int v4 a2 q1.2).bind fun v5 =>
  (some ((v3 - v5).toInt64)).bind fun y6 =>
  (gR S 4 a1 1).bind fun v7 =>
  (aI S .int v7 q1.1 q1.2).bind fun v8 =>
  (gR S 4 a1 1).bind fun v9 =>
  (aI S .int v9 a2 q1.2).bind fun v10 =>
  (some ((v8 - v10).toInt64)).bind fun y11 =>
  (gR S 4 a1 1).bind fun v12 =>
  (aI S .int v12 a2 q1.2).bind fun v13 =>
  (gR S 4 a1 0).bind fun v14 =>
  (aI S .int v14 a2 q1.2).bind fun v15 =>
  (some ((y6 * (a6 - ((65 * v13).toInt64))) - (y11 * (a4 - ((65 * v15).toInt64))))).bind fun y16 =>
  (if y16 ≤ 0 then
  (gL S 3 a0 7 q1.2).bind fun v17 =>
  (pL S 3 a0 7 (v17 - (a3.toInt64 * y16)) q1.2).bind fun ν18 =>
  some ((), ν18)
  else
  (gL S 3 a0 6 q1.2).bind fun v19 =>
  (pL S 3 a0 6 (v19 + (a3.toInt64 * y16)) q1.2).bind fun ν20 =>
  some ((), ν20))
  else none
set_option maxRecDepth 100000 in
set_option maxHeartbeats 4000000 in
theorem c_X3_addMoment {l : Launch} {γ : GE} {S : SH} {a0 : Nat} {a1 : Nat} {a2 : Int32} {a3 : Int32} {a4 : Int64} {a6 : Int64} {μ : Mem} {X : (Unit × Mem)} (h : f_X3_addMoment S a0 a1 a2 a3 a4 a6 μ = some X) : isO S 3 a0 = true ∧ Ct l γ yX3_addMoment cX3_addMoment 15 (none) rm_X3_addMoment [.ref (gb γ + a0), .ref (gb γ + a1), .int a2, .int a3, .long a4, .long a6] S μ S X.2 none := by
  unfold f_X3_addMoment at h
  obtain ⟨h0, h⟩ := if_some h
  refine ⟨h0, ?_⟩
  have hJ : ∀ (p : Program) (e : Env) (s : State) (m : MethodId) (args : Array Value) (below : List Frame) (meth : Method) (c : Code), FX γ p s m args meth c cX3_addMoment RX3 15 → meth.sig.returnType = (none) → JJ γ p l e rm_X3_addMoment s m args below meth c 15 0 0 (QV below γ S X args s 0 0) S μ 0 [(0, .ref (gb γ + a0)), (1, .ref (gb γ + a1)), (2, .int a2), (3, .int a3), (4, .long a4), (6, .long a6)] [] := by
    intro p e s m args below meth c F hr
    refine j_iload_n F 2 dX3_addMoment_0 rfl ?_
    refine j_cNI F mi_X11_next (by decide +kernel) (rest := []) h (fun _ g => c_X11_next g) rfl rfl (Nat.le_of_ble_eq_true rfl) ⟨Nat.le_of_ble_eq_true rfl, Nat.le_of_ble_eq_true rfl⟩ ⟨Nat.le_of_ble_eq_true rfl, Nat.le_of_ble_eq_true rfl⟩ dX3_addMoment_1 (fun q1 h => ?_)
    refine j_istore F [(8, .int q1.1), (0, .ref (gb γ + a0)), (1, .ref (gb γ + a1)), (2, .int a2), (3, .int a3), (4, .long a4), (6, .long a6)] dX3_addMoment_4 (by decide) rfl ?_
    refine j_aload_n F 2 dX3_addMoment_6 rfl ?_
    refine j_gR F fl_RX3_107 rfl dX3_addMoment_7 h (fun v2 h => ?_)
    refine j_iload F 0 dX3_addMoment_10 rfl ?_
    refine j_iald F dX3_addMoment_12 h (fun v3 h => ?_)
    refine j_aload_n F 2 dX3_addMoment_13 rfl ?_
    refine j_gR F fl_RX3_107 rfl dX3_addMoment_14 h (fun v4 h => ?_)
    refine j_iload_n F 3 dX3_addMoment_17 rfl ?_
    refine j_iald F dX3_addMoment_18 h (fun v5 h => ?_)
    refine j_isub F dX3_addMoment_19 ?_
    refine j_i2l F dX3_addMoment_20 ?_
    refine j_nmL h (fun y6 h => ?_)
    refine j_lstore F [(9, .long y6), (8, .int q1.1), (0, .ref (gb γ + a0)), (1, .ref (gb γ + a1)), (2, .int a2), (3, .int a3), (4, .long a4), (6, .long a6)] dX3_addMoment_21 (by decide) rfl ?_
    refine j_aload_n F 3 dX3_addMoment_23 rfl ?_
    refine j_gR F fl_RX3_110 rfl dX3_addMoment_24 h (fun v7 h => ?_)
    refine j_iload F 1 dX3_addMoment_27 rfl ?_
    refine j_iald F dX3_addMoment_29 h (fun v8 h => ?_)
    refine j_aload_n F 3 dX3_addMoment_30 rfl ?_
    refine j_gR F fl_RX3_110 rfl dX3_addMoment_31 h (fun v9 h => ?_)
    refine j_iload_n F 4 dX3_addMoment_34 rfl ?_
    refine j_iald F dX3_addMoment_35 h (fun v10 h => ?_)
    refine j_isub F dX3_addMoment_36 ?_
    refine j_i2l F dX3_addMoment_37 ?_
    refine j_nmL h (fun y11 h => ?_)
    refine j_lstore F [(11, .long y11), (9, .long y6), (8, .int q1.1), (0, .ref (gb γ + a0)), (1, .ref (gb γ + a1)), (2, .int a2), (3, .int a3), (4, .long a4), (6, .long a6)] dX3_addMoment_38 (by decide) rfl ?_
    refine j_lload F 1 dX3_addMoment_40 rfl ?_
    refine j_lload F 8 dX3_addMoment_42 rfl ?_
    refine j_bipush F 65 dX3_addMoment_44 (by decide) ?_
    refine j_aload_n F 4 dX3_addMoment_46 rfl ?_
    refine j_gR F fl_RX3_110 rfl dX3_addMoment_47 h (fun v12 h => ?_)
    refine j_iload_n F 5 dX3_addMoment_50 rfl ?_
    refine j_iald F dX3_addMoment_51 h (fun v13 h => ?_)
    refine j_imul F dX3_addMoment_52 ?_
    refine j_i2l F dX3_addMoment_53 ?_
    refine j_lsub F dX3_addMoment_54 ?_
    refine j_lmul F dX3_addMoment_55 ?_
    refine j_lload F 0 dX3_addMoment_56 rfl ?_
    refine j_lload F 7 dX3_addMoment_58 rfl ?_
    refine j_bipush F 65 dX3_addMoment_60 (by decide) ?_
    refine j_aload_n F 4 dX3_addMoment_62 rfl ?_
    refine j_gR F fl_RX3_107 rfl dX3_addMoment_63 h (fun v14 h => ?_)
    refine j_iload_n F 5 dX3_addMoment_66 rfl ?_
    refine j_iald F dX3_addMoment_67 h (fun v15 h => ?_)
    refine j_imul F dX3_addMoment_68 ?_
    refine j_i2l F dX3_addMoment_69 ?_
    refine j_lsub F dX3_addMoment_70 ?_
    refine j_lmul F dX3_addMoment_71 ?_
    refine j_lsub F dX3_addMoment_72 ?_
    refine j_nmL h (fun y16 h => ?_)
    refine j_lstore F [(13, .long y16), (11, .long y11), (9, .long y6), (8, .int q1.1), (0, .ref (gb γ + a0)), (1, .ref (gb γ + a1)), (2, .int a2), (3, .int a3), (4, .long a4), (6, .long a6)] dX3_addMoment_73 (by decide) rfl ?_
    refine j_lload F 0 dX3_addMoment_75 rfl ?_
    refine j_lconst F 0 dX3_addMoment_77 (by decide) ?_
    refine j_lcmple F 99 dX3_addMoment_78 dX3_addMoment_79 (by decide) h (fun _ h => ?_) (fun _ h => ?_)
    · refine j_aload_n F 4 dX3_addMoment_99 rfl ?_
      refine j_dup F dX3_addMoment_100 rfl ?_
      refine j_gL F fl_RX3_123.l rfl dX3_addMoment_101 h (fun v17 h => ?_)
      refine j_iload_n F 7 dX3_addMoment_104 rfl ?_
      refine j_i2l F dX3_addMoment_105 ?_
      refine j_lload F 0 dX3_addMoment_106 rfl ?_
      refine j_lmul F dX3_addMoment_108 ?_
      refine j_lsub F dX3_addMoment_109 ?_
      refine j_pL F fl_RX3_123 rfl dX3_addMoment_110 h (fun ν18 h => ?_)
      exact j_vret F hr dX3_addMoment_113 h
    · refine j_aload_n F 4 dX3_addMoment_82 rfl ?_
      refine j_dup F dX3_addMoment_83 rfl ?_
      refine j_gL F fl_RX3_120.l rfl dX3_addMoment_84 h (fun v19 h => ?_)
      refine j_iload_n F 7 dX3_addMoment_87 rfl ?_
      refine j_i2l F dX3_addMoment_88 ?_
      refine j_lload F 0 dX3_addMoment_89 rfl ?_
      refine j_lmul F dX3_addMoment_91 ?_
      refine j_ladd F dX3_addMoment_92 ?_
      refine j_pL F fl_RX3_120 rfl dX3_addMoment_93 h (fun ν20 h => ?_)
      refine j_goto F 113 dX3_addMoment_96 (by decide) ?_
      exact j_vret F hr dX3_addMoment_113 h
  exact ct_of (by decide +kernel) (Nat.le_of_ble_eq_true rfl) (fun p e s m args below meth c F hr _ => hJ p e s m args below meth c F hr)
