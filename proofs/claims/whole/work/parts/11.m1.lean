def rm_X2_mayHang : Room := { frames := 1, cells := 0, slots := 0, locals := 23 }
theorem dX2_mayHang_0 : decode cX2_mayHang 0 = .ok (.aload_n 0, 1) := by decide +kernel
theorem dX2_mayHang_1 : decode cX2_mayHang 1 = .ok (.getfield 41, 3) := by decide +kernel
theorem dX2_mayHang_4 : decode cX2_mayHang 4 = .ok (.bipush 6, 2) := by decide +kernel
theorem dX2_mayHang_6 : decode cX2_mayHang 6 = .ok (.iaload, 1) := by decide +kernel
theorem dX2_mayHang_7 : decode cX2_mayHang 7 = .ok (.istore_n 3, 1) := by decide +kernel
theorem dX2_mayHang_8 : decode cX2_mayHang 8 = .ok (.aload_n 0, 1) := by decide +kernel
theorem dX2_mayHang_9 : decode cX2_mayHang 9 = .ok (.getfield 27, 3) := by decide +kernel
theorem dX2_mayHang_12 : decode cX2_mayHang 12 = .ok (.aload_n 0, 1) := by decide +kernel
theorem dX2_mayHang_13 : decode cX2_mayHang 13 = .ok (.getfield 41, 3) := by decide +kernel
theorem dX2_mayHang_16 : decode cX2_mayHang 16 = .ok (.iconst 5, 1) := by decide +kernel
theorem dX2_mayHang_17 : decode cX2_mayHang 17 = .ok (.iaload, 1) := by decide +kernel
theorem dX2_mayHang_18 : decode cX2_mayHang 18 = .ok (.aaload, 1) := by decide +kernel
theorem dX2_mayHang_19 : decode cX2_mayHang 19 = .ok (.iload_n 2, 1) := by decide +kernel
theorem dX2_mayHang_20 : decode cX2_mayHang 20 = .ok (.invokevirtual 70, 3) := by decide +kernel
theorem dX2_mayHang_23 : decode cX2_mayHang 23 = .ok (.bipush 100, 2) := by decide +kernel
theorem dX2_mayHang_25 : decode cX2_mayHang 25 = .ok (.iconst 5, 1) := by decide +kernel
theorem dX2_mayHang_26 : decode cX2_mayHang 26 = .ok (.iload_n 3, 1) := by decide +kernel
theorem dX2_mayHang_27 : decode cX2_mayHang 27 = .ok (.imul, 1) := by decide +kernel
theorem dX2_mayHang_28 : decode cX2_mayHang 28 = .ok (.isub, 1) := by decide +kernel
theorem dX2_mayHang_29 : decode cX2_mayHang 29 = .ok (.imul, 1) := by decide +kernel
theorem dX2_mayHang_30 : decode cX2_mayHang 30 = .ok (.bipush 100, 2) := by decide +kernel
theorem dX2_mayHang_32 : decode cX2_mayHang 32 = .ok (.idiv, 1) := by decide +kernel
theorem dX2_mayHang_33 : decode cX2_mayHang 33 = .ok (.istore 4, 2) := by decide +kernel
theorem dX2_mayHang_35 : decode cX2_mayHang 35 = .ok (.aload_n 0, 1) := by decide +kernel
theorem dX2_mayHang_36 : decode cX2_mayHang 36 = .ok (.getfield 41, 3) := by decide +kernel
theorem dX2_mayHang_39 : decode cX2_mayHang 39 = .ok (.bipush 7, 2) := by decide +kernel
theorem dX2_mayHang_41 : decode cX2_mayHang 41 = .ok (.iaload, 1) := by decide +kernel
theorem dX2_mayHang_42 : decode cX2_mayHang 42 = .ok (.ifCond .eq 11, 3) := by decide +kernel
theorem dX2_mayHang_45 : decode cX2_mayHang 45 = .ok (.iload 4, 2) := by decide +kernel
theorem dX2_mayHang_47 : decode cX2_mayHang 47 = .ok (.iconst 3, 1) := by decide +kernel
theorem dX2_mayHang_48 : decode cX2_mayHang 48 = .ok (.imul, 1) := by decide +kernel
theorem dX2_mayHang_49 : decode cX2_mayHang 49 = .ok (.iconst 4, 1) := by decide +kernel
theorem dX2_mayHang_50 : decode cX2_mayHang 50 = .ok (.idiv, 1) := by decide +kernel
theorem dX2_mayHang_51 : decode cX2_mayHang 51 = .ok (.istore 4, 2) := by decide +kernel
theorem dX2_mayHang_53 : decode cX2_mayHang 53 = .ok (.aload_n 0, 1) := by decide +kernel
theorem dX2_mayHang_54 : decode cX2_mayHang 54 = .ok (.getfield 41, 3) := by decide +kernel
theorem dX2_mayHang_57 : decode cX2_mayHang 57 = .ok (.bipush 7, 2) := by decide +kernel
theorem dX2_mayHang_59 : decode cX2_mayHang 59 = .ok (.iaload, 1) := by decide +kernel
theorem dX2_mayHang_60 : decode cX2_mayHang 60 = .ok (.iconst 2, 1) := by decide +kernel
theorem dX2_mayHang_61 : decode cX2_mayHang 61 = .ok (.if_icmp .ne 13, 3) := by decide +kernel
theorem dX2_mayHang_64 : decode cX2_mayHang 64 = .ok (.iconst 0, 1) := by decide +kernel
theorem dX2_mayHang_65 : decode cX2_mayHang 65 = .ok (.iload 4, 2) := by decide +kernel
theorem dX2_mayHang_67 : decode cX2_mayHang 67 = .ok (.iload_n 3, 1) := by decide +kernel
theorem dX2_mayHang_68 : decode cX2_mayHang 68 = .ok (.isub, 1) := by decide +kernel
theorem dX2_mayHang_69 : decode cX2_mayHang 69 = .ok (.invokestatic 74, 3) := by decide +kernel
theorem dX2_mayHang_72 : decode cX2_mayHang 72 = .ok (.istore 4, 2) := by decide +kernel
theorem dX2_mayHang_74 : decode cX2_mayHang 74 = .ok (.iload 4, 2) := by decide +kernel
theorem dX2_mayHang_76 : decode cX2_mayHang 76 = .ok (.aload_n 0, 1) := by decide +kernel
theorem dX2_mayHang_77 : decode cX2_mayHang 77 = .ok (.getfield 41, 3) := by decide +kernel
theorem dX2_mayHang_80 : decode cX2_mayHang 80 = .ok (.bipush 10, 2) := by decide +kernel
theorem dX2_mayHang_82 : decode cX2_mayHang 82 = .ok (.iload_n 1, 1) := by decide +kernel
theorem dX2_mayHang_83 : decode cX2_mayHang 83 = .ok (.iconst 5, 1) := by decide +kernel
theorem dX2_mayHang_84 : decode cX2_mayHang 84 = .ok (.idiv, 1) := by decide +kernel
theorem dX2_mayHang_85 : decode cX2_mayHang 85 = .ok (.iadd, 1) := by decide +kernel
theorem dX2_mayHang_86 : decode cX2_mayHang 86 = .ok (.iaload, 1) := by decide +kernel
theorem dX2_mayHang_87 : decode cX2_mayHang 87 = .ok (.imul, 1) := by decide +kernel
theorem dX2_mayHang_88 : decode cX2_mayHang 88 = .ok (.bipush 100, 2) := by decide +kernel
theorem dX2_mayHang_90 : decode cX2_mayHang 90 = .ok (.idiv, 1) := by decide +kernel
theorem dX2_mayHang_91 : decode cX2_mayHang 91 = .ok (.ireturn, 1) := by decide +kernel
def b_X2_mayHang_74 (S : SH) (a0 : Nat) (a1 : Int32) (a4 : Int32) (μ : Mem) : Option (Int32 × Mem) :=
 (gR S 2 a0 3).bind fun v13 =>
 (aI S .int v13 (10 + (a1 / 5)) μ).bind fun v14 =>
 some ((a4 * v14) / 100, μ)
set_option maxRecDepth 100000 in
set_option maxHeartbeats 4000000 in
theorem s_X2_mayHang_74 {γ : GE} {p : Program} {l : Launch} {e : Env} {s : State} {m : MethodId} {args : Array Value} {below : List Frame} {meth : Method} {c : Code} {S : SH} {X : (Int32 × Mem)} (F : FX γ p s m args meth c cX2_mayHang RX2 5) (hr : meth.sig.returnType = (some .int)) (a0 : Nat) (a1 : Int32) (a4 : Int32)    (μ : Mem) (h : b_X2_mayHang_74 S a0 a1 a4 μ = some X) : JJ γ p l e rm_X2_mayHang s m args below meth c 5 0 0 (QI below γ S X args s 0 0) S μ 74 [(0, .ref (gb γ + a0)), (1, .int a1), (4, .int a4)] [] := by
  unfold b_X2_mayHang_74 at h
  refine j_iload F 2 dX2_mayHang_74 rfl ?_
  refine j_aload_n F 0 dX2_mayHang_76 rfl ?_
  refine j_gR F fl_RX2_41 rfl dX2_mayHang_77 h (fun v13 h => ?_)
  refine j_bipush F 10 dX2_mayHang_80 (by decide) ?_
  refine j_iload_n F 1 dX2_mayHang_82 rfl ?_
  refine j_iconst F 5 dX2_mayHang_83 (by decide) ?_
  refine j_idivc F dX2_mayHang_84 (by decide) ?_
  refine j_iadd F dX2_mayHang_85 ?_
  refine j_iald F dX2_mayHang_86 h (fun v14 h => ?_)
  refine j_imul F dX2_mayHang_87 ?_
  refine j_bipush F 100 dX2_mayHang_88 (by decide) ?_
  refine j_idivc F dX2_mayHang_90 (by decide) ?_
  exact j_iret F hr dX2_mayHang_91 h
def b_X2_mayHang_53 (S : SH) (a0 : Nat) (a1 : Int32) (a3 : Int32) (a4 : Int32) (μ : Mem) : Option (Int32 × Mem) :=
 (gR S 2 a0 3).bind fun v11 =>
 (aI S .int v11 7 μ).bind fun v12 =>
 (if v12 = 2 then
 (some ((if 0 < (a4 - a3) then a4 - a3 else 0))).bind fun y15 =>
 b_X2_mayHang_74 S a0 a1 y15 μ
 else
 b_X2_mayHang_74 S a0 a1 a4 μ)
set_option maxRecDepth 100000 in
set_option maxHeartbeats 4000000 in
theorem s_X2_mayHang_53 {γ : GE} {p : Program} {l : Launch} {e : Env} {s : State} {m : MethodId} {args : Array Value} {below : List Frame} {meth : Method} {c : Code} {S : SH} {X : (Int32 × Mem)} (F : FX γ p s m args meth c cX2_mayHang RX2 5) (hr : meth.sig.returnType = (some .int)) (a0 : Nat) (a1 : Int32) (a3 : Int32) (a4 : Int32)    (μ : Mem) (h : b_X2_mayHang_53 S a0 a1 a3 a4 μ = some X) : JJ γ p l e rm_X2_mayHang s m args below meth c 5 0 0 (QI below γ S X args s 0 0) S μ 53 [(0, .ref (gb γ + a0)), (1, .int a1), (3, .int a3), (4, .int a4)] [] := by
  unfold b_X2_mayHang_53 at h
  refine j_aload_n F 0 dX2_mayHang_53 rfl ?_
  refine j_gR F fl_RX2_41 rfl dX2_mayHang_54 h (fun v11 h => ?_)
  refine j_bipush F 7 dX2_mayHang_57 (by decide) ?_
  refine j_iald F dX2_mayHang_59 h (fun v12 h => ?_)
  refine j_iconst F 2 dX2_mayHang_60 (by decide) ?_
  refine j_icmpne F 74 dX2_mayHang_61 (by decide) h (fun _ h => ?_) (fun _ h => ?_)
  · refine j_lv [(0, .ref (gb γ + a0)), (1, .int a1), (4, .int a4)] [0, 1, 3] rfl ?_
    exact s_X2_mayHang_74 F hr _ _ _ _ h
  · refine j_iconst F 0 dX2_mayHang_64 (by decide) ?_
    refine j_iload F 3 dX2_mayHang_65 rfl ?_
    refine j_iload_n F 2 dX2_mayHang_67 rfl ?_
    refine j_isub F dX2_mayHang_68 ?_
    refine j_mmax F w_551 ⟨Nat.le_of_ble_eq_true rfl, Nat.le_of_ble_eq_true rfl, Nat.le_of_ble_eq_true rfl, Nat.le_of_ble_eq_true rfl⟩ dX2_mayHang_69 mg_max ?_
    refine j_nmI h (fun y15 h => ?_)
    refine j_istore F [(4, .int y15), (0, .ref (gb γ + a0)), (1, .int a1), (3, .int a3)] dX2_mayHang_72 (by decide) rfl ?_
    refine j_lv [(0, .ref (gb γ + a0)), (1, .int a1), (4, .int y15)] [1, 2, 0] rfl ?_
    exact s_X2_mayHang_74 F hr _ _ _ _ h
def f_X2_mayHang (S : SH) (a0 : Nat) (a1 : Int32) (a2 : Int32) (μ : Mem) : Option (Int32 × Mem) :=
  if isO S 2 a0 = true then
  (gR S 2 a0 3).bind fun v1 =>
  (aI S .int v1 6 μ).bind fun v2 =>
  (gR S 2 a0 2).bind fun v3 =>
  (gR S 2 a0 3).bind fun v4 =>
  (aI S .int v4 5 μ).bind fun v5 =>
  (aR S (.object "CranePads$Chart") v3 v5).bind fun v6 =>
  (f_X1_at S v6 a2 μ).bind fun q7 =>
  (some ((q7.1 * (100 - (5 * v2))) / 100)).bind fun y8 =>
  (gR S 2 a0 3).bind fun v9 =>
  (aI S .int v9 7 q7.2).bind fun v10 =>
  (if v10 = 0 then
  b_X2_mayHang_53 S a0 a1 v2 y8 q7.2
  else
  (some ((y8 * 3) / 4)).bind fun y16 =>
  b_X2_mayHang_53 S a0 a1 v2 y16 q7.2)
  else none
set_option maxRecDepth 100000 in
set_option maxHeartbeats 4000000 in
theorem c_X2_mayHang {l : Launch} {γ : GE} {S : SH} {a0 : Nat} {a1 : Int32} {a2 : Int32} {μ : Mem} {X : (Int32 × Mem)} (h : f_X2_mayHang S a0 a1 a2 μ = some X) : isO S 2 a0 = true ∧ Ct l γ yX2_mayHang cX2_mayHang 5 (some .int) rm_X2_mayHang [.ref (gb γ + a0), .int a1, .int a2] S μ S X.2 (some (.int X.1)) := by
  unfold f_X2_mayHang at h
  obtain ⟨h0, h⟩ := if_some h
  refine ⟨h0, ?_⟩
  have hJ : ∀ (p : Program) (e : Env) (s : State) (m : MethodId) (args : Array Value) (below : List Frame) (meth : Method) (c : Code), FX γ p s m args meth c cX2_mayHang RX2 5 → meth.sig.returnType = (some .int) → JJ γ p l e rm_X2_mayHang s m args below meth c 5 0 0 (QI below γ S X args s 0 0) S μ 0 [(0, .ref (gb γ + a0)), (1, .int a1), (2, .int a2)] [] := by
    intro p e s m args below meth c F hr
    refine j_aload_n F 0 dX2_mayHang_0 rfl ?_
    refine j_gR F fl_RX2_41 rfl dX2_mayHang_1 h (fun v1 h => ?_)
    refine j_bipush F 6 dX2_mayHang_4 (by decide) ?_
    refine j_iald F dX2_mayHang_6 h (fun v2 h => ?_)
    refine j_istore_n F [(3, .int v2), (0, .ref (gb γ + a0)), (1, .int a1), (2, .int a2)] dX2_mayHang_7 rfl (by decide) rfl ?_
    refine j_aload_n F 1 dX2_mayHang_8 rfl ?_
    refine j_gR F fl_RX2_27 rfl dX2_mayHang_9 h (fun v3 h => ?_)
    refine j_aload_n F 1 dX2_mayHang_12 rfl ?_
    refine j_gR F fl_RX2_41 rfl dX2_mayHang_13 h (fun v4 h => ?_)
    refine j_iconst F 5 dX2_mayHang_16 (by decide) ?_
    refine j_iald F dX2_mayHang_17 h (fun v5 h => ?_)
    refine j_aald F 4 rfl rfl rfl dX2_mayHang_18 h (fun v6 h => ?_)
    refine j_iload_n F 3 dX2_mayHang_19 rfl ?_
    refine j_cVI F mi_X1_at w_550 (rest := []) h (fun _ g => c_X1_at g) rfl rfl (Nat.le_of_ble_eq_true rfl) ⟨Nat.le_of_ble_eq_true rfl, Nat.le_of_ble_eq_true rfl⟩ ⟨Nat.le_of_ble_eq_true rfl, Nat.le_of_ble_eq_true rfl⟩ dX2_mayHang_20 (fun q7 h => ?_)
    refine j_bipush F 100 dX2_mayHang_23 (by decide) ?_
    refine j_iconst F 5 dX2_mayHang_25 (by decide) ?_
    refine j_iload_n F 0 dX2_mayHang_26 rfl ?_
    refine j_imul F dX2_mayHang_27 ?_
    refine j_isub F dX2_mayHang_28 ?_
    refine j_imul F dX2_mayHang_29 ?_
    refine j_bipush F 100 dX2_mayHang_30 (by decide) ?_
    refine j_idivc F dX2_mayHang_32 (by decide) ?_
    refine j_nmI h (fun y8 h => ?_)
    refine j_istore F [(4, .int y8), (3, .int v2), (0, .ref (gb γ + a0)), (1, .int a1), (2, .int a2)] dX2_mayHang_33 (by decide) rfl ?_
    refine j_aload_n F 2 dX2_mayHang_35 rfl ?_
    refine j_gR F fl_RX2_41 rfl dX2_mayHang_36 h (fun v9 h => ?_)
    refine j_bipush F 7 dX2_mayHang_39 (by decide) ?_
    refine j_iald F dX2_mayHang_41 h (fun v10 h => ?_)
    refine j_ifeq F 53 dX2_mayHang_42 (by decide) h (fun _ h => ?_) (fun _ h => ?_)
    · refine j_lv [(0, .ref (gb γ + a0)), (1, .int a1), (3, .int v2), (4, .int y8)] [2, 3, 1, 0] rfl ?_
      exact s_X2_mayHang_53 F hr _ _ _ _ _ h
    · refine j_iload F 0 dX2_mayHang_45 rfl ?_
      refine j_iconst F 3 dX2_mayHang_47 (by decide) ?_
      refine j_imul F dX2_mayHang_48 ?_
      refine j_iconst F 4 dX2_mayHang_49 (by decide) ?_
      refine j_idivc F dX2_mayHang_50 (by decide) ?_
      refine j_nmI h (fun y16 h => ?_)
      refine j_istore F [(4, .int y16), (3, .int v2), (0, .ref (gb γ + a0)), (1, .int a1), (2, .int a2)] dX2_mayHang_51 (by decide) rfl ?_
      refine j_lv [(0, .ref (gb γ + a0)), (1, .int a1), (3, .int v2), (4, .int y16)] [2, 3, 1, 0] rfl ?_
      exact s_X2_mayHang_53 F hr _ _ _ _ _ h
  exact ct_of (by decide +kernel) (Nat.le_of_ble_eq_true rfl) (fun p e s m args below meth c F hr _ => hJ p e s m args below meth c F hr)
def rm_X2_room : Room := { frames := 2, cells := 0, slots := 0, locals := 47 }
theorem dX2_room_0 : decode cX2_room 0 = .ok (.aload_n 0, 1) := by decide +kernel
theorem dX2_room_1 : decode cX2_room 1 = .ok (.aload_n 0, 1) := by decide +kernel
theorem dX2_room_2 : decode cX2_room 2 = .ok (.getfield 41, 3) := by decide +kernel
theorem dX2_room_5 : decode cX2_room 5 = .ok (.iconst 0, 1) := by decide +kernel
theorem dX2_room_6 : decode cX2_room 6 = .ok (.iaload, 1) := by decide +kernel
theorem dX2_room_7 : decode cX2_room 7 = .ok (.aload_n 0, 1) := by decide +kernel
theorem dX2_room_8 : decode cX2_room 8 = .ok (.getfield 41, 3) := by decide +kernel
theorem dX2_room_11 : decode cX2_room 11 = .ok (.iconst 1, 1) := by decide +kernel
theorem dX2_room_12 : decode cX2_room 12 = .ok (.iaload, 1) := by decide +kernel
theorem dX2_room_13 : decode cX2_room 13 = .ok (.invokevirtual 80, 3) := by decide +kernel
theorem dX2_room_16 : decode cX2_room 16 = .ok (.aload_n 0, 1) := by decide +kernel
theorem dX2_room_17 : decode cX2_room 17 = .ok (.invokevirtual 66, 3) := by decide +kernel
theorem dX2_room_20 : decode cX2_room 20 = .ok (.isub, 1) := by decide +kernel
theorem dX2_room_21 : decode cX2_room 21 = .ok (.ireturn, 1) := by decide +kernel
def f_X2_room (S : SH) (a0 : Nat) (μ : Mem) : Option (Int32 × Mem) :=
  if isO S 2 a0 = true then
  (gR S 2 a0 3).bind fun v1 =>
  (aI S .int v1 0 μ).bind fun v2 =>
  (gR S 2 a0 3).bind fun v3 =>
  (aI S .int v3 1 μ).bind fun v4 =>
  (f_X2_mayHang S a0 v2 v4 μ).bind fun q5 =>
  (f_X2_hanging S a0 q5.2).bind fun q6 =>
  some (q5.1 - q6.1, q6.2)
  else none
set_option maxRecDepth 100000 in
set_option maxHeartbeats 4000000 in
theorem c_X2_room {l : Launch} {γ : GE} {S : SH} {a0 : Nat} {μ : Mem} {X : (Int32 × Mem)} (h : f_X2_room S a0 μ = some X) : isO S 2 a0 = true ∧ Ct l γ yX2_room cX2_room 1 (some .int) rm_X2_room [.ref (gb γ + a0)] S μ S X.2 (some (.int X.1)) := by
  unfold f_X2_room at h
  obtain ⟨h0, h⟩ := if_some h
  refine ⟨h0, ?_⟩
  have hJ : ∀ (p : Program) (e : Env) (s : State) (m : MethodId) (args : Array Value) (below : List Frame) (meth : Method) (c : Code), FX γ p s m args meth c cX2_room RX2 1 → meth.sig.returnType = (some .int) → JJ γ p l e rm_X2_room s m args below meth c 1 0 0 (QI below γ S X args s 0 0) S μ 0 [(0, .ref (gb γ + a0))] [] := by
    intro p e s m args below meth c F hr
    refine j_aload_n F 0 dX2_room_0 rfl ?_
    refine j_aload_n F 0 dX2_room_1 rfl ?_
    refine j_gR F fl_RX2_41 rfl dX2_room_2 h (fun v1 h => ?_)
    refine j_iconst F 0 dX2_room_5 (by decide) ?_
    refine j_iald F dX2_room_6 h (fun v2 h => ?_)
    refine j_aload_n F 0 dX2_room_7 rfl ?_
    refine j_gR F fl_RX2_41 rfl dX2_room_8 h (fun v3 h => ?_)
    refine j_iconst F 1 dX2_room_11 (by decide) ?_
    refine j_iald F dX2_room_12 h (fun v4 h => ?_)
    refine j_cVI F mi_X2_mayHang w_655 (rest := []) h (fun _ g => c_X2_mayHang g) rfl rfl (Nat.le_of_ble_eq_true rfl) ⟨Nat.le_of_ble_eq_true rfl, Nat.le_of_ble_eq_true rfl⟩ ⟨Nat.le_of_ble_eq_true rfl, Nat.le_of_ble_eq_true rfl⟩ dX2_room_13 (fun q5 h => ?_)
    refine j_aload_n F 0 dX2_room_16 rfl ?_
    refine j_cVI F mi_X2_hanging w_562 (rest := [.int q5.1]) h (fun _ g => c_X2_hanging g) rfl rfl (Nat.le_of_ble_eq_true rfl) ⟨Nat.le_of_ble_eq_true rfl, Nat.le_of_ble_eq_true rfl⟩ ⟨Nat.le_of_ble_eq_true rfl, Nat.le_of_ble_eq_true rfl⟩ dX2_room_17 (fun q6 h => ?_)
    refine j_isub F dX2_room_20 ?_
    exact j_iret F hr dX2_room_21 h
  exact ct_of (by decide +kernel) (Nat.le_of_ble_eq_true rfl) (fun p e s m args below meth c F hr _ => hJ p e s m args below meth c F hr)
def rm_J9_floorMod_7cf53 : Room := { frames := 0, cells := 0, slots := 0, locals := 0 }
theorem dJ9_floorMod_7cf53_0 : decode cJ9_floorMod_7cf53 0 = .ok (.iload_n 0, 1) := by decide +kernel
theorem dJ9_floorMod_7cf53_1 : decode cJ9_floorMod_7cf53 1 = .ok (.iload_n 1, 1) := by decide +kernel
theorem dJ9_floorMod_7cf53_2 : decode cJ9_floorMod_7cf53 2 = .ok (.irem, 1) := by decide +kernel
theorem dJ9_floorMod_7cf53_3 : decode cJ9_floorMod_7cf53 3 = .ok (.istore_n 2, 1) := by decide +kernel
theorem dJ9_floorMod_7cf53_4 : decode cJ9_floorMod_7cf53 4 = .ok (.iload_n 0, 1) := by decide +kernel
theorem dJ9_floorMod_7cf53_5 : decode cJ9_floorMod_7cf53 5 = .ok (.iload_n 1, 1) := by decide +kernel
theorem dJ9_floorMod_7cf53_6 : decode cJ9_floorMod_7cf53 6 = .ok (.ixor, 1) := by decide +kernel
theorem dJ9_floorMod_7cf53_7 : decode cJ9_floorMod_7cf53 7 = .ok (.ifCond .ge 11, 3) := by decide +kernel
theorem dJ9_floorMod_7cf53_10 : decode cJ9_floorMod_7cf53 10 = .ok (.iload_n 2, 1) := by decide +kernel
theorem dJ9_floorMod_7cf53_11 : decode cJ9_floorMod_7cf53 11 = .ok (.ifCond .eq 7, 3) := by decide +kernel
theorem dJ9_floorMod_7cf53_14 : decode cJ9_floorMod_7cf53 14 = .ok (.iload_n 2, 1) := by decide +kernel
theorem dJ9_floorMod_7cf53_15 : decode cJ9_floorMod_7cf53 15 = .ok (.iload_n 1, 1) := by decide +kernel
theorem dJ9_floorMod_7cf53_16 : decode cJ9_floorMod_7cf53 16 = .ok (.iadd, 1) := by decide +kernel
theorem dJ9_floorMod_7cf53_17 : decode cJ9_floorMod_7cf53 17 = .ok (.ireturn, 1) := by decide +kernel
theorem dJ9_floorMod_7cf53_18 : decode cJ9_floorMod_7cf53 18 = .ok (.iload_n 2, 1) := by decide +kernel
theorem dJ9_floorMod_7cf53_19 : decode cJ9_floorMod_7cf53 19 = .ok (.ireturn, 1) := by decide +kernel
def f_J9_floorMod_7cf53 (S : SH) (a0 : Int32) (a1 : Int32) (μ : Mem) : Option (Int32 × Mem) :=
  (o_irem a0 a1).bind fun v1 =>
  (if 0 ≤ (a0 ^^^ a1) then
  some (v1, μ)
  else
  (if v1 = 0 then
  some (v1, μ)
  else
  some (v1 + a1, μ)))
set_option maxRecDepth 100000 in
set_option maxHeartbeats 4000000 in
theorem c_J9_floorMod_7cf53 {l : Launch} {γ : GE} {S : SH} {a0 : Int32} {a1 : Int32} {μ : Mem} {X : (Int32 × Mem)} (h : f_J9_floorMod_7cf53 S a0 a1 μ = some X) : Ct l γ yJ9_floorMod_7cf53 cJ9_floorMod_7cf53 3 (some .int) rm_J9_floorMod_7cf53 [.int a0, .int a1] S μ S X.2 (some (.int X.1)) := by
  unfold f_J9_floorMod_7cf53 at h
  have hJ : ∀ (p : Program) (e : Env) (s : State) (m : MethodId) (args : Array Value) (below : List Frame) (meth : Method) (c : Code), FX γ p s m args meth c cJ9_floorMod_7cf53 RJ9 3 → meth.sig.returnType = (some .int) → JJ γ p l e rm_J9_floorMod_7cf53 s m args below meth c 3 0 0 (QI below γ S X args s 0 0) S μ 0 [(0, .int a0), (1, .int a1)] [] := by
    intro p e s m args below meth c F hr
    refine j_iload_n F 0 dJ9_floorMod_7cf53_0 rfl ?_
    refine j_iload_n F 1 dJ9_floorMod_7cf53_1 rfl ?_
    refine j_irem F dJ9_floorMod_7cf53_2 h (fun v1 h => ?_)
    refine j_istore_n F [(2, .int v1), (0, .int a0), (1, .int a1)] dJ9_floorMod_7cf53_3 rfl (by decide) rfl ?_
    refine j_iload_n F 1 dJ9_floorMod_7cf53_4 rfl ?_
    refine j_iload_n F 2 dJ9_floorMod_7cf53_5 rfl ?_
    refine j_ixor F dJ9_floorMod_7cf53_6 ?_
    refine j_ifge F 18 dJ9_floorMod_7cf53_7 (by decide) h (fun _ h => ?_) (fun _ h => ?_)
    · refine j_iload_n F 0 dJ9_floorMod_7cf53_18 rfl ?_
      exact j_iret F hr dJ9_floorMod_7cf53_19 h
    · refine j_iload_n F 0 dJ9_floorMod_7cf53_10 rfl ?_
      refine j_ifeq F 18 dJ9_floorMod_7cf53_11 (by decide) h (fun _ h => ?_) (fun _ h => ?_)
      · refine j_iload_n F 0 dJ9_floorMod_7cf53_18 rfl ?_
        exact j_iret F hr dJ9_floorMod_7cf53_19 h
      · refine j_iload_n F 0 dJ9_floorMod_7cf53_14 rfl ?_
        refine j_iload_n F 2 dJ9_floorMod_7cf53_15 rfl ?_
        refine j_iadd F dJ9_floorMod_7cf53_16 ?_
        exact j_iret F hr dJ9_floorMod_7cf53_17 h
  exact ct_ofF (by decide +kernel) (Nat.le_of_ble_eq_true rfl) (fun p e s m args below meth c F hr _ => hJ p e s m args below meth c F hr)
def rm_X2_approach : Room := { frames := 1, cells := 0, slots := 0, locals := 22 }
theorem dX2_approach_0 : decode cX2_approach 0 = .ok (.aload_n 0, 1) := by decide +kernel
theorem dX2_approach_1 : decode cX2_approach 1 = .ok (.getfield 41, 3) := by decide +kernel
theorem dX2_approach_4 : decode cX2_approach 4 = .ok (.iload_n 1, 1) := by decide +kernel
theorem dX2_approach_5 : decode cX2_approach 5 = .ok (.iaload, 1) := by decide +kernel
theorem dX2_approach_6 : decode cX2_approach 6 = .ok (.istore_n 3, 1) := by decide +kernel
theorem dX2_approach_7 : decode cX2_approach 7 = .ok (.iload_n 1, 1) := by decide +kernel
theorem dX2_approach_8 : decode cX2_approach 8 = .ok (.ifCond .ne 51, 3) := by decide +kernel
theorem dX2_approach_11 : decode cX2_approach 11 = .ok (.iload_n 2, 1) := by decide +kernel
theorem dX2_approach_12 : decode cX2_approach 12 = .ok (.iload_n 3, 1) := by decide +kernel
theorem dX2_approach_13 : decode cX2_approach 13 = .ok (.isub, 1) := by decide +kernel
theorem dX2_approach_14 : decode cX2_approach 14 = .ok (.bipush 20, 2) := by decide +kernel
theorem dX2_approach_16 : decode cX2_approach 16 = .ok (.invokestatic 83, 3) := by decide +kernel
theorem dX2_approach_19 : decode cX2_approach 19 = .ok (.bipush 10, 2) := by decide +kernel
theorem dX2_approach_21 : decode cX2_approach 21 = .ok (.if_icmp .gt 7, 3) := by decide +kernel
theorem dX2_approach_24 : decode cX2_approach 24 = .ok (.iconst 1, 1) := by decide +kernel
theorem dX2_approach_25 : decode cX2_approach 25 = .ok (.goto 4, 3) := by decide +kernel
theorem dX2_approach_28 : decode cX2_approach 28 = .ok (.iconst 0, 1) := by decide +kernel
theorem dX2_approach_29 : decode cX2_approach 29 = .ok (.istore 4, 2) := by decide +kernel
theorem dX2_approach_31 : decode cX2_approach 31 = .ok (.aload_n 0, 1) := by decide +kernel
theorem dX2_approach_32 : decode cX2_approach 32 = .ok (.getfield 41, 3) := by decide +kernel
theorem dX2_approach_35 : decode cX2_approach 35 = .ok (.iload_n 1, 1) := by decide +kernel
theorem dX2_approach_36 : decode cX2_approach 36 = .ok (.iload 4, 2) := by decide +kernel
theorem dX2_approach_38 : decode cX2_approach 38 = .ok (.ifCond .eq 9, 3) := by decide +kernel
theorem dX2_approach_41 : decode cX2_approach 41 = .ok (.iload_n 3, 1) := by decide +kernel
theorem dX2_approach_42 : decode cX2_approach 42 = .ok (.iconst 1, 1) := by decide +kernel
theorem dX2_approach_43 : decode cX2_approach 43 = .ok (.iadd, 1) := by decide +kernel
theorem dX2_approach_44 : decode cX2_approach 44 = .ok (.goto 6, 3) := by decide +kernel
theorem dX2_approach_47 : decode cX2_approach 47 = .ok (.iload_n 3, 1) := by decide +kernel
theorem dX2_approach_48 : decode cX2_approach 48 = .ok (.iconst 1, 1) := by decide +kernel
theorem dX2_approach_49 : decode cX2_approach 49 = .ok (.isub, 1) := by decide +kernel
theorem dX2_approach_50 : decode cX2_approach 50 = .ok (.bipush 20, 2) := by decide +kernel
theorem dX2_approach_52 : decode cX2_approach 52 = .ok (.invokestatic 83, 3) := by decide +kernel
theorem dX2_approach_55 : decode cX2_approach 55 = .ok (.iastore, 1) := by decide +kernel
theorem dX2_approach_56 : decode cX2_approach 56 = .ok (.goto 23, 3) := by decide +kernel
theorem dX2_approach_59 : decode cX2_approach 59 = .ok (.aload_n 0, 1) := by decide +kernel
theorem dX2_approach_60 : decode cX2_approach 60 = .ok (.getfield 41, 3) := by decide +kernel
theorem dX2_approach_63 : decode cX2_approach 63 = .ok (.iload_n 1, 1) := by decide +kernel
theorem dX2_approach_64 : decode cX2_approach 64 = .ok (.iload_n 2, 1) := by decide +kernel
theorem dX2_approach_65 : decode cX2_approach 65 = .ok (.iload_n 3, 1) := by decide +kernel
theorem dX2_approach_66 : decode cX2_approach 66 = .ok (.if_icmp .le 9, 3) := by decide +kernel
theorem dX2_approach_69 : decode cX2_approach 69 = .ok (.iload_n 3, 1) := by decide +kernel
theorem dX2_approach_70 : decode cX2_approach 70 = .ok (.iconst 1, 1) := by decide +kernel
theorem dX2_approach_71 : decode cX2_approach 71 = .ok (.iadd, 1) := by decide +kernel
theorem dX2_approach_72 : decode cX2_approach 72 = .ok (.goto 6, 3) := by decide +kernel
theorem dX2_approach_75 : decode cX2_approach 75 = .ok (.iload_n 3, 1) := by decide +kernel
theorem dX2_approach_76 : decode cX2_approach 76 = .ok (.iconst 1, 1) := by decide +kernel
theorem dX2_approach_77 : decode cX2_approach 77 = .ok (.isub, 1) := by decide +kernel
theorem dX2_approach_78 : decode cX2_approach 78 = .ok (.iastore, 1) := by decide +kernel
theorem dX2_approach_79 : decode cX2_approach 79 = .ok (.return_, 1) := by decide +kernel
def b_X2_approach_29 (S : SH) (a0 : Nat) (a1 : Int32) (a3 : Int32) (t0 : Int32) (μ : Mem) : Option (Unit × Mem) :=
 (gR S 2 a0 3).bind fun v7 =>
 (if t0 = 0 then
 (f_J9_floorMod_7cf53 S (a3 - 1) 20 μ).bind fun q8 =>
 (sI S v7 a1 q8.1 q8.2).bind fun ν9 =>
 some ((), ν9)
 else
 (f_J9_floorMod_7cf53 S (a3 + 1) 20 μ).bind fun q10 =>
 (sI S v7 a1 q10.1 q10.2).bind fun ν11 =>
 some ((), ν11))
set_option maxRecDepth 100000 in
set_option maxHeartbeats 4000000 in
theorem s_X2_approach_29 {γ : GE} {p : Program} {l : Launch} {e : Env} {s : State} {m : MethodId} {args : Array Value} {below : List Frame} {meth : Method} {c : Code} {S : SH} {X : (Unit × Mem)} (F : FX γ p s m args meth c cX2_approach RX2 5) (hr : meth.sig.returnType = (none)) (a0 : Nat) (a1 : Int32) (a3 : Int32)   (t0 : Int32) (μ : Mem) (h : b_X2_approach_29 S a0 a1 a3 t0 μ = some X) : JJ γ p l e rm_X2_approach s m args below meth c 5 0 0 (QV below γ S X args s 0 0) S μ 29 [(0, .ref (gb γ + a0)), (1, .int a1), (3, .int a3)] [.int t0] := by
  unfold b_X2_approach_29 at h
  refine j_istore F [(4, .int t0), (0, .ref (gb γ + a0)), (1, .int a1), (3, .int a3)] dX2_approach_29 (by decide) rfl ?_
  refine j_aload_n F 1 dX2_approach_31 rfl ?_
  refine j_gR F fl_RX2_41 rfl dX2_approach_32 h (fun v7 h => ?_)
  refine j_iload_n F 2 dX2_approach_35 rfl ?_
  refine j_iload F 0 dX2_approach_36 rfl ?_
  refine j_ifeq F 47 dX2_approach_38 (by decide) h (fun _ h => ?_) (fun _ h => ?_)
  · refine j_iload_n F 3 dX2_approach_47 rfl ?_
    refine j_iconst F 1 dX2_approach_48 (by decide) ?_
    refine j_isub F dX2_approach_49 ?_
    refine j_bipush F 20 dX2_approach_50 (by decide) ?_
    refine j_cSI F mi_J9_floorMod_7cf53 w_855 (rest := [.int a1, .ref (gb γ + v7)]) h (fun _ g => c_J9_floorMod_7cf53 g) rfl rfl (Nat.le_of_ble_eq_true rfl) ⟨Nat.le_of_ble_eq_true rfl, Nat.le_of_ble_eq_true rfl⟩ ⟨Nat.le_of_ble_eq_true rfl, Nat.le_of_ble_eq_true rfl⟩ dX2_approach_52 (fun q8 h => ?_)
    refine j_iast F dX2_approach_55 h (fun ν9 h => ?_)
    refine j_goto F 79 dX2_approach_56 (by decide) ?_
    exact j_vret F hr dX2_approach_79 h
  · refine j_iload_n F 3 dX2_approach_41 rfl ?_
    refine j_iconst F 1 dX2_approach_42 (by decide) ?_
    refine j_iadd F dX2_approach_43 ?_
    refine j_goto F 50 dX2_approach_44 (by decide) ?_
    refine j_bipush F 20 dX2_approach_50 (by decide) ?_
    refine j_cSI F mi_J9_floorMod_7cf53 w_855 (rest := [.int a1, .ref (gb γ + v7)]) h (fun _ g => c_J9_floorMod_7cf53 g) rfl rfl (Nat.le_of_ble_eq_true rfl) ⟨Nat.le_of_ble_eq_true rfl, Nat.le_of_ble_eq_true rfl⟩ ⟨Nat.le_of_ble_eq_true rfl, Nat.le_of_ble_eq_true rfl⟩ dX2_approach_52 (fun q10 h => ?_)
    refine j_iast F dX2_approach_55 h (fun ν11 h => ?_)
    refine j_goto F 79 dX2_approach_56 (by decide) ?_
    exact j_vret F hr dX2_approach_79 h
def f_X2_approach (S : SH) (a0 : Nat) (a1 : Int32) (a2 : Int32) (μ : Mem) : Option (Unit × Mem) :=
  if isO S 2 a0 = true then
  (gR S 2 a0 3).bind fun v1 =>
  (aI S .int v1 a1 μ).bind fun v2 =>
  (if a1 = 0 then
  (f_J9_floorMod_7cf53 S (a2 - v2) 20 μ).bind fun q6 =>
  (if 10 < q6.1 then
  b_X2_approach_29 S a0 a1 v2 0 q6.2
  else
  b_X2_approach_29 S a0 a1 v2 1 q6.2)
  else
  (gR S 2 a0 3).bind fun v3 =>
  (if a2 ≤ v2 then
  (sI S v3 a1 (v2 - 1) μ).bind fun ν4 =>
  some ((), ν4)
  else
  (sI S v3 a1 (v2 + 1) μ).bind fun ν5 =>
  some ((), ν5)))
  else none
set_option maxRecDepth 100000 in
set_option maxHeartbeats 4000000 in
theorem c_X2_approach {l : Launch} {γ : GE} {S : SH} {a0 : Nat} {a1 : Int32} {a2 : Int32} {μ : Mem} {X : (Unit × Mem)} (h : f_X2_approach S a0 a1 a2 μ = some X) : isO S 2 a0 = true ∧ Ct l γ yX2_approach cX2_approach 5 (none) rm_X2_approach [.ref (gb γ + a0), .int a1, .int a2] S μ S X.2 none := by
  unfold f_X2_approach at h
  obtain ⟨h0, h⟩ := if_some h
  refine ⟨h0, ?_⟩
  have hJ : ∀ (p : Program) (e : Env) (s : State) (m : MethodId) (args : Array Value) (below : List Frame) (meth : Method) (c : Code), FX γ p s m args meth c cX2_approach RX2 5 → meth.sig.returnType = (none) → JJ γ p l e rm_X2_approach s m args below meth c 5 0 0 (QV below γ S X args s 0 0) S μ 0 [(0, .ref (gb γ + a0)), (1, .int a1), (2, .int a2)] [] := by
    intro p e s m args below meth c F hr
    refine j_aload_n F 0 dX2_approach_0 rfl ?_
    refine j_gR F fl_RX2_41 rfl dX2_approach_1 h (fun v1 h => ?_)
    refine j_iload_n F 1 dX2_approach_4 rfl ?_
    refine j_iald F dX2_approach_5 h (fun v2 h => ?_)
    refine j_istore_n F [(3, .int v2), (0, .ref (gb γ + a0)), (1, .int a1), (2, .int a2)] dX2_approach_6 rfl (by decide) rfl ?_
    refine j_iload_n F 2 dX2_approach_7 rfl ?_
    refine j_ifne F 59 dX2_approach_8 (by decide) h (fun _ h => ?_) (fun _ h => ?_)
    · refine j_aload_n F 1 dX2_approach_59 rfl ?_
      refine j_gR F fl_RX2_41 rfl dX2_approach_60 h (fun v3 h => ?_)
      refine j_iload_n F 2 dX2_approach_63 rfl ?_
      refine j_iload_n F 3 dX2_approach_64 rfl ?_
      refine j_iload_n F 0 dX2_approach_65 rfl ?_
      refine j_icmple F 75 dX2_approach_66 (by decide) h (fun _ h => ?_) (fun _ h => ?_)
      · refine j_iload_n F 0 dX2_approach_75 rfl ?_
        refine j_iconst F 1 dX2_approach_76 (by decide) ?_
        refine j_isub F dX2_approach_77 ?_
        refine j_iast F dX2_approach_78 h (fun ν4 h => ?_)
        exact j_vret F hr dX2_approach_79 h
      · refine j_iload_n F 0 dX2_approach_69 rfl ?_
        refine j_iconst F 1 dX2_approach_70 (by decide) ?_
        refine j_iadd F dX2_approach_71 ?_
        refine j_goto F 78 dX2_approach_72 (by decide) ?_
        refine j_iast F dX2_approach_78 h (fun ν5 h => ?_)
        exact j_vret F hr dX2_approach_79 h
    · refine j_iload_n F 3 dX2_approach_11 rfl ?_
      refine j_iload_n F 0 dX2_approach_12 rfl ?_
      refine j_isub F dX2_approach_13 ?_
      refine j_bipush F 20 dX2_approach_14 (by decide) ?_
      refine j_cSI F mi_J9_floorMod_7cf53 w_855 (rest := []) h (fun _ g => c_J9_floorMod_7cf53 g) rfl rfl (Nat.le_of_ble_eq_true rfl) ⟨Nat.le_of_ble_eq_true rfl, Nat.le_of_ble_eq_true rfl⟩ ⟨Nat.le_of_ble_eq_true rfl, Nat.le_of_ble_eq_true rfl⟩ dX2_approach_16 (fun q6 h => ?_)
      refine j_bipush F 10 dX2_approach_19 (by decide) ?_
      refine j_icmpgt F 28 dX2_approach_21 (by decide) h (fun _ h => ?_) (fun _ h => ?_)
      · refine j_iconst F 0 dX2_approach_28 (by decide) ?_
        refine j_lv [(0, .ref (gb γ + a0)), (1, .int a1), (3, .int v2)] [1, 2, 0] rfl ?_
        exact s_X2_approach_29 F hr _ _ _ _ _ h
      · refine j_iconst F 1 dX2_approach_24 (by decide) ?_
        refine j_goto F 29 dX2_approach_25 (by decide) ?_
        refine j_lv [(0, .ref (gb γ + a0)), (1, .int a1), (3, .int v2)] [1, 2, 0] rfl ?_
        exact s_X2_approach_29 F hr _ _ _ _ _ h
  exact ct_of (by decide +kernel) (Nat.le_of_ble_eq_true rfl) (fun p e s m args below meth c F hr _ => hJ p e s m args below meth c F hr)
def rm_X3_gather : Room := { frames := 2, cells := 0, slots := 0, locals := 40 }
theorem dX3_gather_0 : decode cX3_gather 0 = .ok (.aload_n 1, 1) := by decide +kernel
theorem dX3_gather_1 : decode cX3_gather 1 = .ok (.getfield 69, 3) := by decide +kernel
theorem dX3_gather_4 : decode cX3_gather 4 = .ok (.astore_n 2, 1) := by decide +kernel
theorem dX3_gather_5 : decode cX3_gather 5 = .ok (.getstatic 73, 3) := by decide +kernel
theorem dX3_gather_8 : decode cX3_gather 8 = .ok (.aload_n 1, 1) := by decide +kernel
theorem dX3_gather_9 : decode cX3_gather 9 = .ok (.getfield 65, 3) := by decide +kernel
theorem dX3_gather_12 : decode cX3_gather 12 = .ok (.iconst 0, 1) := by decide +kernel
theorem dX3_gather_13 : decode cX3_gather 13 = .ok (.iaload, 1) := by decide +kernel
theorem dX3_gather_14 : decode cX3_gather 14 = .ok (.iaload, 1) := by decide +kernel
theorem dX3_gather_15 : decode cX3_gather 15 = .ok (.i2l, 1) := by decide +kernel
theorem dX3_gather_16 : decode cX3_gather 16 = .ok (.lstore_n 3, 1) := by decide +kernel
theorem dX3_gather_17 : decode cX3_gather 17 = .ok (.getstatic 76, 3) := by decide +kernel
theorem dX3_gather_20 : decode cX3_gather 20 = .ok (.aload_n 1, 1) := by decide +kernel
theorem dX3_gather_21 : decode cX3_gather 21 = .ok (.getfield 65, 3) := by decide +kernel
theorem dX3_gather_24 : decode cX3_gather 24 = .ok (.iconst 0, 1) := by decide +kernel
theorem dX3_gather_25 : decode cX3_gather 25 = .ok (.iaload, 1) := by decide +kernel
theorem dX3_gather_26 : decode cX3_gather 26 = .ok (.iaload, 1) := by decide +kernel
theorem dX3_gather_27 : decode cX3_gather 27 = .ok (.i2l, 1) := by decide +kernel
theorem dX3_gather_28 : decode cX3_gather 28 = .ok (.lstore 5, 2) := by decide +kernel
theorem dX3_gather_30 : decode cX3_gather 30 = .ok (.aload_n 2, 1) := by decide +kernel
theorem dX3_gather_31 : decode cX3_gather 31 = .ok (.getfield 79, 3) := by decide +kernel
theorem dX3_gather_34 : decode cX3_gather 34 = .ok (.i2l, 1) := by decide +kernel
theorem dX3_gather_35 : decode cX3_gather 35 = .ok (.aload_n 1, 1) := by decide +kernel
theorem dX3_gather_36 : decode cX3_gather 36 = .ok (.invokevirtual 84, 3) := by decide +kernel
theorem dX3_gather_39 : decode cX3_gather 39 = .ok (.i2l, 1) := by decide +kernel
theorem dX3_gather_40 : decode cX3_gather 40 = .ok (.aload_n 1, 1) := by decide +kernel
theorem dX3_gather_41 : decode cX3_gather 41 = .ok (.getfield 65, 3) := by decide +kernel
theorem dX3_gather_44 : decode cX3_gather 44 = .ok (.iconst 1, 1) := by decide +kernel
theorem dX3_gather_45 : decode cX3_gather 45 = .ok (.iaload, 1) := by decide +kernel
theorem dX3_gather_46 : decode cX3_gather 46 = .ok (.i2l, 1) := by decide +kernel
theorem dX3_gather_47 : decode cX3_gather 47 = .ok (.lmul, 1) := by decide +kernel
theorem dX3_gather_48 : decode cX3_gather 48 = .ok (.ladd, 1) := by decide +kernel
theorem dX3_gather_49 : decode cX3_gather 49 = .ok (.lstore 7, 2) := by decide +kernel
theorem dX3_gather_51 : decode cX3_gather 51 = .ok (.aload_n 2, 1) := by decide +kernel
theorem dX3_gather_52 : decode cX3_gather 52 = .ok (.getfield 87, 3) := by decide +kernel
theorem dX3_gather_55 : decode cX3_gather 55 = .ok (.i2l, 1) := by decide +kernel
theorem dX3_gather_56 : decode cX3_gather 56 = .ok (.lstore 9, 2) := by decide +kernel
theorem dX3_gather_58 : decode cX3_gather 58 = .ok (.aload_n 0, 1) := by decide +kernel
theorem dX3_gather_59 : decode cX3_gather 59 = .ok (.ldc2_w 90, 3) := by decide +kernel
theorem dX3_gather_62 : decode cX3_gather 62 = .ok (.aload_n 1, 1) := by decide +kernel
theorem dX3_gather_63 : decode cX3_gather 63 = .ok (.invokevirtual 92, 3) := by decide +kernel
theorem dX3_gather_66 : decode cX3_gather 66 = .ok (.i2l, 1) := by decide +kernel
theorem dX3_gather_67 : decode cX3_gather 67 = .ok (.lmul, 1) := by decide +kernel
theorem dX3_gather_68 : decode cX3_gather 68 = .ok (.putfield 31, 3) := by decide +kernel
theorem dX3_gather_71 : decode cX3_gather 71 = .ok (.aload_n 0, 1) := by decide +kernel
theorem dX3_gather_72 : decode cX3_gather 72 = .ok (.ldc2_w 90, 3) := by decide +kernel
theorem dX3_gather_75 : decode cX3_gather 75 = .ok (.aload_n 2, 1) := by decide +kernel
theorem dX3_gather_76 : decode cX3_gather 76 = .ok (.getfield 95, 3) := by decide +kernel
theorem dX3_gather_79 : decode cX3_gather 79 = .ok (.i2l, 1) := by decide +kernel
theorem dX3_gather_80 : decode cX3_gather 80 = .ok (.lmul, 1) := by decide +kernel
theorem dX3_gather_81 : decode cX3_gather 81 = .ok (.lload_n 3, 1) := by decide +kernel
theorem dX3_gather_82 : decode cX3_gather 82 = .ok (.lload 7, 2) := by decide +kernel
theorem dX3_gather_84 : decode cX3_gather 84 = .ok (.lmul, 1) := by decide +kernel
theorem dX3_gather_85 : decode cX3_gather 85 = .ok (.ladd, 1) := by decide +kernel
theorem dX3_gather_86 : decode cX3_gather 86 = .ok (.lload 5, 2) := by decide +kernel
theorem dX3_gather_88 : decode cX3_gather 88 = .ok (.lload 9, 2) := by decide +kernel
theorem dX3_gather_90 : decode cX3_gather 90 = .ok (.lmul, 1) := by decide +kernel
theorem dX3_gather_91 : decode cX3_gather 91 = .ok (.lsub, 1) := by decide +kernel
theorem dX3_gather_92 : decode cX3_gather 92 = .ok (.putfield 98, 3) := by decide +kernel
theorem dX3_gather_95 : decode cX3_gather 95 = .ok (.aload_n 0, 1) := by decide +kernel
theorem dX3_gather_96 : decode cX3_gather 96 = .ok (.ldc2_w 90, 3) := by decide +kernel
theorem dX3_gather_99 : decode cX3_gather 99 = .ok (.aload_n 2, 1) := by decide +kernel
theorem dX3_gather_100 : decode cX3_gather 100 = .ok (.getfield 101, 3) := by decide +kernel
theorem dX3_gather_103 : decode cX3_gather 103 = .ok (.i2l, 1) := by decide +kernel
theorem dX3_gather_104 : decode cX3_gather 104 = .ok (.lmul, 1) := by decide +kernel
theorem dX3_gather_105 : decode cX3_gather 105 = .ok (.lload 5, 2) := by decide +kernel
theorem dX3_gather_107 : decode cX3_gather 107 = .ok (.lload 7, 2) := by decide +kernel
theorem dX3_gather_109 : decode cX3_gather 109 = .ok (.lmul, 1) := by decide +kernel
theorem dX3_gather_110 : decode cX3_gather 110 = .ok (.ladd, 1) := by decide +kernel
theorem dX3_gather_111 : decode cX3_gather 111 = .ok (.lload_n 3, 1) := by decide +kernel
theorem dX3_gather_112 : decode cX3_gather 112 = .ok (.lload 9, 2) := by decide +kernel
theorem dX3_gather_114 : decode cX3_gather 114 = .ok (.lmul, 1) := by decide +kernel
theorem dX3_gather_115 : decode cX3_gather 115 = .ok (.ladd, 1) := by decide +kernel
theorem dX3_gather_116 : decode cX3_gather 116 = .ok (.putfield 104, 3) := by decide +kernel
theorem dX3_gather_119 : decode cX3_gather 119 = .ok (.return_, 1) := by decide +kernel
def f_X3_gather (S : SH) (a0 : Nat) (a1 : Nat) (μ : Mem) : Option (Unit × Mem) :=
  if isO S 3 a0 = true then
  (gR S 2 a1 1).bind fun v1 =>
  (gR S 2 a1 3).bind fun v2 =>
  (aI S .int v2 0 μ).bind fun v3 =>
  (aT 3 v3).bind fun v4 =>
  (gR S 2 a1 3).bind fun v5 =>
  (aI S .int v5 0 μ).bind fun v6 =>
  (aT 4 v6).bind fun v7 =>
  (gI S 5 v1 8 μ).bind fun v8 =>
  (f_X2_hanging S a1 μ).bind fun q9 =>
  (gR S 2 a1 3).bind fun v10 =>
  (aI S .int v10 1 q9.2).bind fun v11 =>
  (some (v8.toInt64 + (q9.1.toInt64 * v11.toInt64))).bind fun y12 =>
  (gI S 5 v1 9 q9.2).bind fun v13 =>
  (f_X2_wholeMass S a1 q9.2).bind fun q14 =>
  (pL S 3 a0 0 (65 * q14.1.toInt64) q14.2).bind fun ν15 =>
  (gI S 5 v1 6 ν15).bind fun v16 =>
  (pL S 3 a0 1 (((65 * v16.toInt64) + (v4.toInt64 * y12)) - (v7.toInt64 * v13.toInt64)) ν15).bind fun ν17 =>
  (gI S 5 v1 7 ν17).bind fun v18 =>
  (pL S 3 a0 2 (((65 * v18.toInt64) + (v7.toInt64 * y12)) + (v4.toInt64 * v13.toInt64)) ν17).bind fun ν19 =>
  some ((), ν19)
  else none
set_option maxRecDepth 100000 in
set_option maxHeartbeats 4000000 in
theorem c_X3_gather {l : Launch} {γ : GE} {S : SH} {a0 : Nat} {a1 : Nat} {μ : Mem} {X : (Unit × Mem)} (h : f_X3_gather S a0 a1 μ = some X) : isO S 3 a0 = true ∧ Ct l γ yX3_gather cX3_gather 11 (none) rm_X3_gather [.ref (gb γ + a0), .ref (gb γ + a1)] S μ S X.2 none := by
  unfold f_X3_gather at h
  obtain ⟨h0, h⟩ := if_some h
  refine ⟨h0, ?_⟩
  have hJ : ∀ (p : Program) (e : Env) (s : State) (m : MethodId) (args : Array Value) (below : List Frame) (meth : Method) (c : Code), FX γ p s m args meth c cX3_gather RX3 11 → meth.sig.returnType = (none) → JJ γ p l e rm_X3_gather s m args below meth c 11 0 0 (QV below γ S X args s 0 0) S μ 0 [(0, .ref (gb γ + a0)), (1, .ref (gb γ + a1))] [] := by
    intro p e s m args below meth c F hr
    refine j_aload_n F 1 dX3_gather_0 rfl ?_
    refine j_gR F fl_RX3_69 rfl dX3_gather_1 h (fun v1 h => ?_)
    refine j_astore_n F [(2, .ref (gb γ + v1)), (0, .ref (gb γ + a0)), (1, .ref (gb γ + a1))] dX3_gather_4 rfl (by decide) rfl ?_
    refine j_getsN F 3 (by decide) (by decide +kernel) dX3_gather_5 ?_
    refine j_aload_n F 2 dX3_gather_8 rfl ?_
    refine j_gR F fl_RX3_65 rfl dX3_gather_9 h (fun v2 h => ?_)
    refine j_iconst F 0 dX3_gather_12 (by decide) ?_
    refine j_iald F dX3_gather_13 h (fun v3 h => ?_)
    refine j_tald F (by decide) dX3_gather_14 h (fun v4 h => ?_)
    refine j_i2l F dX3_gather_15 ?_
    refine j_lstore_n F [(3, .long v4.toInt64), (2, .ref (gb γ + v1)), (0, .ref (gb γ + a0)), (1, .ref (gb γ + a1))] dX3_gather_16 rfl (by decide) rfl ?_
    refine j_getsN F 4 (by decide) (by decide +kernel) dX3_gather_17 ?_
    refine j_aload_n F 3 dX3_gather_20 rfl ?_
    refine j_gR F fl_RX3_65 rfl dX3_gather_21 h (fun v5 h => ?_)
    refine j_iconst F 0 dX3_gather_24 (by decide) ?_
    refine j_iald F dX3_gather_25 h (fun v6 h => ?_)
    refine j_tald F (by decide) dX3_gather_26 h (fun v7 h => ?_)
    refine j_i2l F dX3_gather_27 ?_
    refine j_lstore F [(5, .long v7.toInt64), (3, .long v4.toInt64), (2, .ref (gb γ + v1)), (0, .ref (gb γ + a0)), (1, .ref (gb γ + a1))] dX3_gather_28 (by decide) rfl ?_
    refine j_aload_n F 2 dX3_gather_30 rfl ?_
    refine j_gI F fl_RX3_79.l rfl dX3_gather_31 h (fun v8 h => ?_)
    refine j_i2l F dX3_gather_34 ?_
    refine j_aload_n F 4 dX3_gather_35 rfl ?_
    refine j_cVI F mi_X2_hanging w_578 (rest := [.long v8.toInt64]) h (fun _ g => c_X2_hanging g) rfl rfl (Nat.le_of_ble_eq_true rfl) ⟨Nat.le_of_ble_eq_true rfl, Nat.le_of_ble_eq_true rfl⟩ ⟨Nat.le_of_ble_eq_true rfl, Nat.le_of_ble_eq_true rfl⟩ dX3_gather_36 (fun q9 h => ?_)
    refine j_i2l F dX3_gather_39 ?_
    refine j_aload_n F 4 dX3_gather_40 rfl ?_
    refine j_gR F fl_RX3_65 rfl dX3_gather_41 h (fun v10 h => ?_)
    refine j_iconst F 1 dX3_gather_44 (by decide) ?_
    refine j_iald F dX3_gather_45 h (fun v11 h => ?_)
    refine j_i2l F dX3_gather_46 ?_
    refine j_lmul F dX3_gather_47 ?_
    refine j_ladd F dX3_gather_48 ?_
    refine j_nmL h (fun y12 h => ?_)
    refine j_lstore F [(7, .long y12), (5, .long v7.toInt64), (3, .long v4.toInt64), (2, .ref (gb γ + v1)), (0, .ref (gb γ + a0)), (1, .ref (gb γ + a1))] dX3_gather_49 (by decide) rfl ?_
    refine j_aload_n F 3 dX3_gather_51 rfl ?_
    refine j_gI F fl_RX3_87.l rfl dX3_gather_52 h (fun v13 h => ?_)
    refine j_i2l F dX3_gather_55 ?_
    refine j_lstore F [(9, .long v13.toInt64), (7, .long y12), (5, .long v7.toInt64), (3, .long v4.toInt64), (2, .ref (gb γ + v1)), (0, .ref (gb γ + a0)), (1, .ref (gb γ + a1))] dX3_gather_56 (by decide) rfl ?_
    refine j_aload_n F 5 dX3_gather_58 rfl ?_
    refine j_ldc2 F 65 dX3_gather_59 w_579 ?_
    refine j_aload_n F 6 dX3_gather_62 rfl ?_
    refine j_cVI F mi_X2_wholeMass w_580 (rest := [.long 65, .ref (gb γ + a0)]) h (fun _ g => c_X2_wholeMass g) rfl rfl (Nat.le_of_ble_eq_true rfl) ⟨Nat.le_of_ble_eq_true rfl, Nat.le_of_ble_eq_true rfl⟩ ⟨Nat.le_of_ble_eq_true rfl, Nat.le_of_ble_eq_true rfl⟩ dX3_gather_63 (fun q14 h => ?_)
    refine j_i2l F dX3_gather_66 ?_
    refine j_lmul F dX3_gather_67 ?_
    refine j_pL F fl_RX3_31 rfl dX3_gather_68 h (fun ν15 h => ?_)
    refine j_aload_n F 5 dX3_gather_71 rfl ?_
    refine j_ldc2 F 65 dX3_gather_72 w_579 ?_
    refine j_aload_n F 4 dX3_gather_75 rfl ?_
    refine j_gI F fl_RX3_95.l rfl dX3_gather_76 h (fun v16 h => ?_)
    refine j_i2l F dX3_gather_79 ?_
    refine j_lmul F dX3_gather_80 ?_
    refine j_lload_n F 3 dX3_gather_81 rfl ?_
    refine j_lload F 1 dX3_gather_82 rfl ?_
    refine j_lmul F dX3_gather_84 ?_
    refine j_ladd F dX3_gather_85 ?_
    refine j_lload F 2 dX3_gather_86 rfl ?_
    refine j_lload F 0 dX3_gather_88 rfl ?_
    refine j_lmul F dX3_gather_90 ?_
    refine j_lsub F dX3_gather_91 ?_
    refine j_pL F fl_RX3_98 rfl dX3_gather_92 h (fun ν17 h => ?_)
    refine j_aload_n F 5 dX3_gather_95 rfl ?_
    refine j_ldc2 F 65 dX3_gather_96 w_579 ?_
    refine j_aload_n F 4 dX3_gather_99 rfl ?_
    refine j_gI F fl_RX3_101.l rfl dX3_gather_100 h (fun v18 h => ?_)
    refine j_i2l F dX3_gather_103 ?_
    refine j_lmul F dX3_gather_104 ?_
    refine j_lload F 2 dX3_gather_105 rfl ?_
    refine j_lload F 1 dX3_gather_107 rfl ?_
    refine j_lmul F dX3_gather_109 ?_
    refine j_ladd F dX3_gather_110 ?_
    refine j_lload_n F 3 dX3_gather_111 rfl ?_
    refine j_lload F 0 dX3_gather_112 rfl ?_
    refine j_lmul F dX3_gather_114 ?_
    refine j_ladd F dX3_gather_115 ?_
    refine j_pL F fl_RX3_104 rfl dX3_gather_116 h (fun ν19 h => ?_)
    exact j_vret F hr dX3_gather_119 h
  exact ct_of (by decide +kernel) (Nat.le_of_ble_eq_true rfl) (fun p e s m args below meth c F hr _ => hJ p e s m args below meth c F hr)
def rm_X11_next : Room := { frames := 0, cells := 0, slots := 0, locals := 0 }
theorem dX11_next_0 : decode cX11_next 0 = .ok (.iload_n 0, 1) := by decide +kernel
theorem dX11_next_1 : decode cX11_next 1 = .ok (.iconst 1, 1) := by decide +kernel
theorem dX11_next_2 : decode cX11_next 2 = .ok (.iadd, 1) := by decide +kernel
theorem dX11_next_3 : decode cX11_next 3 = .ok (.iconst 4, 1) := by decide +kernel
theorem dX11_next_4 : decode cX11_next 4 = .ok (.irem, 1) := by decide +kernel
theorem dX11_next_5 : decode cX11_next 5 = .ok (.ireturn, 1) := by decide +kernel
def f_X11_next (S : SH) (a0 : Int32) (μ : Mem) : Option (Int32 × Mem) :=
  some ((a0 + 1) - (a0 + 1) / 4 * 4, μ)
set_option maxRecDepth 100000 in
set_option maxHeartbeats 4000000 in
theorem c_X11_next {l : Launch} {γ : GE} {S : SH} {a0 : Int32} {μ : Mem} {X : (Int32 × Mem)} (h : f_X11_next S a0 μ = some X) : Ct l γ yX11_next cX11_next 1 (some .int) rm_X11_next [.int a0] S μ S X.2 (some (.int X.1)) := by
  unfold f_X11_next at h
  have hJ : ∀ (p : Program) (e : Env) (s : State) (m : MethodId) (args : Array Value) (below : List Frame) (meth : Method) (c : Code), FX γ p s m args meth c cX11_next RX11 1 → meth.sig.returnType = (some .int) → JJ γ p l e rm_X11_next s m args below meth c 1 0 0 (QI below γ S X args s 0 0) S μ 0 [(0, .int a0)] [] := by
    intro p e s m args below meth c F hr
    refine j_iload_n F 0 dX11_next_0 rfl ?_
    refine j_iconst F 1 dX11_next_1 (by decide) ?_
    refine j_iadd F dX11_next_2 ?_
    refine j_iconst F 4 dX11_next_3 (by decide) ?_
    refine j_iremc F dX11_next_4 (by decide) ?_
    exact j_iret F hr dX11_next_5 h
  exact ct_of (by decide +kernel) (Nat.le_of_ble_eq_true rfl) (fun p e s m args below meth c F hr _ => hJ p e s m args below meth c F hr)
def rm_X3_about : Room := { frames := 0, cells := 0, slots := 0, locals := 0 }
theorem dX3_about_0 : decode cX3_about 0 = .ok (.aload_n 1, 1) := by decide +kernel
theorem dX3_about_1 : decode cX3_about 1 = .ok (.getfield 107, 3) := by decide +kernel
theorem dX3_about_4 : decode cX3_about 4 = .ok (.iload_n 3, 1) := by decide +kernel
theorem dX3_about_5 : decode cX3_about 5 = .ok (.iaload, 1) := by decide +kernel
theorem dX3_about_6 : decode cX3_about 6 = .ok (.aload_n 1, 1) := by decide +kernel
theorem dX3_about_7 : decode cX3_about 7 = .ok (.getfield 107, 3) := by decide +kernel
theorem dX3_about_10 : decode cX3_about 10 = .ok (.iload_n 2, 1) := by decide +kernel
theorem dX3_about_11 : decode cX3_about 11 = .ok (.iaload, 1) := by decide +kernel
theorem dX3_about_12 : decode cX3_about 12 = .ok (.isub, 1) := by decide +kernel
theorem dX3_about_13 : decode cX3_about 13 = .ok (.i2l, 1) := by decide +kernel
theorem dX3_about_14 : decode cX3_about 14 = .ok (.lstore 4, 2) := by decide +kernel
theorem dX3_about_16 : decode cX3_about 16 = .ok (.aload_n 1, 1) := by decide +kernel
theorem dX3_about_17 : decode cX3_about 17 = .ok (.getfield 110, 3) := by decide +kernel
theorem dX3_about_20 : decode cX3_about 20 = .ok (.iload_n 3, 1) := by decide +kernel
theorem dX3_about_21 : decode cX3_about 21 = .ok (.iaload, 1) := by decide +kernel
theorem dX3_about_22 : decode cX3_about 22 = .ok (.aload_n 1, 1) := by decide +kernel
theorem dX3_about_23 : decode cX3_about 23 = .ok (.getfield 110, 3) := by decide +kernel
theorem dX3_about_26 : decode cX3_about 26 = .ok (.iload_n 2, 1) := by decide +kernel
theorem dX3_about_27 : decode cX3_about 27 = .ok (.iaload, 1) := by decide +kernel
theorem dX3_about_28 : decode cX3_about 28 = .ok (.isub, 1) := by decide +kernel
theorem dX3_about_29 : decode cX3_about 29 = .ok (.i2l, 1) := by decide +kernel
theorem dX3_about_30 : decode cX3_about 30 = .ok (.lstore 6, 2) := by decide +kernel
theorem dX3_about_32 : decode cX3_about 32 = .ok (.lload 4, 2) := by decide +kernel
theorem dX3_about_34 : decode cX3_about 34 = .ok (.aload_n 0, 1) := by decide +kernel
theorem dX3_about_35 : decode cX3_about 35 = .ok (.getfield 104, 3) := by decide +kernel
theorem dX3_about_38 : decode cX3_about 38 = .ok (.aload_n 1, 1) := by decide +kernel
theorem dX3_about_39 : decode cX3_about 39 = .ok (.getfield 110, 3) := by decide +kernel
theorem dX3_about_42 : decode cX3_about 42 = .ok (.iload_n 2, 1) := by decide +kernel
theorem dX3_about_43 : decode cX3_about 43 = .ok (.iaload, 1) := by decide +kernel
theorem dX3_about_44 : decode cX3_about 44 = .ok (.i2l, 1) := by decide +kernel
theorem dX3_about_45 : decode cX3_about 45 = .ok (.aload_n 0, 1) := by decide +kernel
theorem dX3_about_46 : decode cX3_about 46 = .ok (.getfield 31, 3) := by decide +kernel
theorem dX3_about_49 : decode cX3_about 49 = .ok (.lmul, 1) := by decide +kernel
theorem dX3_about_50 : decode cX3_about 50 = .ok (.lsub, 1) := by decide +kernel
theorem dX3_about_51 : decode cX3_about 51 = .ok (.lmul, 1) := by decide +kernel
theorem dX3_about_52 : decode cX3_about 52 = .ok (.lload 6, 2) := by decide +kernel
theorem dX3_about_54 : decode cX3_about 54 = .ok (.aload_n 0, 1) := by decide +kernel
theorem dX3_about_55 : decode cX3_about 55 = .ok (.getfield 98, 3) := by decide +kernel
theorem dX3_about_58 : decode cX3_about 58 = .ok (.aload_n 1, 1) := by decide +kernel
theorem dX3_about_59 : decode cX3_about 59 = .ok (.getfield 107, 3) := by decide +kernel
theorem dX3_about_62 : decode cX3_about 62 = .ok (.iload_n 2, 1) := by decide +kernel
theorem dX3_about_63 : decode cX3_about 63 = .ok (.iaload, 1) := by decide +kernel
theorem dX3_about_64 : decode cX3_about 64 = .ok (.i2l, 1) := by decide +kernel
theorem dX3_about_65 : decode cX3_about 65 = .ok (.aload_n 0, 1) := by decide +kernel
theorem dX3_about_66 : decode cX3_about 66 = .ok (.getfield 31, 3) := by decide +kernel
theorem dX3_about_69 : decode cX3_about 69 = .ok (.lmul, 1) := by decide +kernel
theorem dX3_about_70 : decode cX3_about 70 = .ok (.lsub, 1) := by decide +kernel
theorem dX3_about_71 : decode cX3_about 71 = .ok (.lmul, 1) := by decide +kernel
theorem dX3_about_72 : decode cX3_about 72 = .ok (.lsub, 1) := by decide +kernel
theorem dX3_about_73 : decode cX3_about 73 = .ok (.lreturn, 1) := by decide +kernel
def f_X3_about (S : SH) (a0 : Nat) (a1 : Nat) (a2 : Int32) (a3 : Int32) (μ : Mem) : Option (Int64 × Mem) :=
  if isO S 3 a0 = true then
  (gR S 4 a1 0).bind fun v1 =>
  (aI S .int v1 a3 μ).bind fun v2 =>
  (gR S 4 a1 0).bind fun v3 =>
  (aI S .int v3 a2 μ).bind fun v4 =>
  (some ((v2 - v4).toInt64)).bind fun y5 =>
  (gR S 4 a1 1).bind fun v6 =>
  (aI S .int v6 a3 μ).bind fun v7 =>
  (gR S 4 a1 1).bind fun v8 =>
  (aI S .int v8 a2 μ).bind fun v9 =>
  (some ((v7 - v9).toInt64)).bind fun y10 =>
  (gL S 3 a0 2 μ).bind fun v11 =>
  (gR S 4 a1 1).bind fun v12 =>
  (aI S .int v12 a2 μ).bind fun v13 =>
  (gL S 3 a0 0 μ).bind fun v14 =>
  (gL S 3 a0 1 μ).bind fun v15 =>
  (gR S 4 a1 0).bind fun v16 =>
  (aI S .int v16 a2 μ).bind fun v17 =>
  (gL S 3 a0 0 μ).bind fun v18 =>
  some ((y5 * (v11 - (v13.toInt64 * v14))) - (y10 * (v15 - (v17.toInt64 * v18))), μ)
  else none
set_option maxRecDepth 100000 in
set_option maxHeartbeats 4000000 in
theorem c_X3_about {l : Launch} {γ : GE} {S : SH} {a0 : Nat} {a1 : Nat} {a2 : Int32} {a3 : Int32} {μ : Mem} {X : (Int64 × Mem)} (h : f_X3_about S a0 a1 a2 a3 μ = some X) : isO S 3 a0 = true ∧ Ct l γ yX3_about cX3_about 8 (some .long) rm_X3_about [.ref (gb γ + a0), .ref (gb γ + a1), .int a2, .int a3] S μ S X.2 (some (.long X.1)) := by
  unfold f_X3_about at h
  obtain ⟨h0, h⟩ := if_some h
  refine ⟨h0, ?_⟩
  have hJ : ∀ (p : Program) (e : Env) (s : State) (m : MethodId) (args : Array Value) (below : List Frame) (meth : Method) (c : Code), FX γ p s m args meth c cX3_about RX3 8 → meth.sig.returnType = (some .long) → JJ γ p l e rm_X3_about s m args below meth c 8 0 0 (QL below γ S X args s 0 0) S μ 0 [(0, .ref (gb γ + a0)), (1, .ref (gb γ + a1)), (2, .int a2), (3, .int a3)] [] := by
    intro p e s m args below meth c F hr
    refine j_aload_n F 1 dX3_about_0 rfl ?_
    refine j_gR F fl_RX3_107 rfl dX3_about_1 h (fun v1 h => ?_)
    refine j_iload_n F 3 dX3_about_4 rfl ?_
    refine j_iald F dX3_about_5 h (fun v2 h => ?_)
    refine j_aload_n F 1 dX3_about_6 rfl ?_
    refine j_gR F fl_RX3_107 rfl dX3_about_7 h (fun v3 h => ?_)
    refine j_iload_n F 2 dX3_about_10 rfl ?_
    refine j_iald F dX3_about_11 h (fun v4 h => ?_)
    refine j_isub F dX3_about_12 ?_
    refine j_i2l F dX3_about_13 ?_
    refine j_nmL h (fun y5 h => ?_)
    refine j_lstore F [(4, .long y5), (0, .ref (gb γ + a0)), (1, .ref (gb γ + a1)), (2, .int a2), (3, .int a3)] dX3_about_14 (by decide) rfl ?_
    refine j_aload_n F 2 dX3_about_16 rfl ?_
    refine j_gR F fl_RX3_110 rfl dX3_about_17 h (fun v6 h => ?_)
    refine j_iload_n F 4 dX3_about_20 rfl ?_
    refine j_iald F dX3_about_21 h (fun v7 h => ?_)
    refine j_aload_n F 2 dX3_about_22 rfl ?_
    refine j_gR F fl_RX3_110 rfl dX3_about_23 h (fun v8 h => ?_)
    refine j_iload_n F 3 dX3_about_26 rfl ?_
    refine j_iald F dX3_about_27 h (fun v9 h => ?_)
    refine j_isub F dX3_about_28 ?_
    refine j_i2l F dX3_about_29 ?_
    refine j_nmL h (fun y10 h => ?_)
    refine j_lstore F [(6, .long y10), (4, .long y5), (0, .ref (gb γ + a0)), (1, .ref (gb γ + a1)), (2, .int a2), (3, .int a3)] dX3_about_30 (by decide) rfl ?_
    refine j_lload F 1 dX3_about_32 rfl ?_
    refine j_aload_n F 2 dX3_about_34 rfl ?_
    refine j_gL F fl_RX3_104.l rfl dX3_about_35 h (fun v11 h => ?_)
    refine j_aload_n F 3 dX3_about_38 rfl ?_
    refine j_gR F fl_RX3_110 rfl dX3_about_39 h (fun v12 h => ?_)
    refine j_iload_n F 4 dX3_about_42 rfl ?_
    refine j_iald F dX3_about_43 h (fun v13 h => ?_)
    refine j_i2l F dX3_about_44 ?_
    refine j_aload_n F 2 dX3_about_45 rfl ?_
    refine j_gL F fl_RX3_31.l rfl dX3_about_46 h (fun v14 h => ?_)
    refine j_lmul F dX3_about_49 ?_
    refine j_lsub F dX3_about_50 ?_
    refine j_lmul F dX3_about_51 ?_
    refine j_lload F 0 dX3_about_52 rfl ?_
    refine j_aload_n F 2 dX3_about_54 rfl ?_
    refine j_gL F fl_RX3_98.l rfl dX3_about_55 h (fun v15 h => ?_)
    refine j_aload_n F 3 dX3_about_58 rfl ?_
    refine j_gR F fl_RX3_107 rfl dX3_about_59 h (fun v16 h => ?_)
    refine j_iload_n F 4 dX3_about_62 rfl ?_
    refine j_iald F dX3_about_63 h (fun v17 h => ?_)
    refine j_i2l F dX3_about_64 ?_
    refine j_aload_n F 2 dX3_about_65 rfl ?_
    refine j_gL F fl_RX3_31.l rfl dX3_about_66 h (fun v18 h => ?_)
    refine j_lmul F dX3_about_69 ?_
    refine j_lsub F dX3_about_70 ?_
    refine j_lmul F dX3_about_71 ?_
    refine j_lsub F dX3_about_72 ?_
    exact j_lret F hr dX3_about_73 h
  exact ct_of (by decide +kernel) (Nat.le_of_ble_eq_true rfl) (fun p e s m args below meth c F hr _ => hJ p e s m args below meth c F hr)
def rm_X3_tipsOver : Room := { frames := 1, cells := 0, slots := 0, locals := 27 }
theorem dX3_tipsOver_0 : decode cX3_tipsOver 0 = .ok (.iconst 0, 1) := by decide +kernel
theorem dX3_tipsOver_1 : decode cX3_tipsOver 1 = .ok (.istore_n 2, 1) := by decide +kernel
theorem dX3_tipsOver_2 : decode cX3_tipsOver 2 = .ok (.iload_n 2, 1) := by decide +kernel
theorem dX3_tipsOver_3 : decode cX3_tipsOver 3 = .ok (.iconst 4, 1) := by decide +kernel
theorem dX3_tipsOver_4 : decode cX3_tipsOver 4 = .ok (.if_icmp .ge 26, 3) := by decide +kernel
theorem dX3_tipsOver_7 : decode cX3_tipsOver 7 = .ok (.aload_n 0, 1) := by decide +kernel
theorem dX3_tipsOver_8 : decode cX3_tipsOver 8 = .ok (.aload_n 1, 1) := by decide +kernel
theorem dX3_tipsOver_9 : decode cX3_tipsOver 9 = .ok (.iload_n 2, 1) := by decide +kernel
theorem dX3_tipsOver_10 : decode cX3_tipsOver 10 = .ok (.iload_n 2, 1) := by decide +kernel
theorem dX3_tipsOver_11 : decode cX3_tipsOver 11 = .ok (.invokestatic 146, 3) := by decide +kernel
theorem dX3_tipsOver_14 : decode cX3_tipsOver 14 = .ok (.invokevirtual 150, 3) := by decide +kernel
theorem dX3_tipsOver_17 : decode cX3_tipsOver 17 = .ok (.lconst 0, 1) := by decide +kernel
theorem dX3_tipsOver_18 : decode cX3_tipsOver 18 = .ok (.lcmp, 1) := by decide +kernel
theorem dX3_tipsOver_19 : decode cX3_tipsOver 19 = .ok (.ifCond .ge 5, 3) := by decide +kernel
theorem dX3_tipsOver_22 : decode cX3_tipsOver 22 = .ok (.iconst 1, 1) := by decide +kernel
theorem dX3_tipsOver_23 : decode cX3_tipsOver 23 = .ok (.ireturn, 1) := by decide +kernel
theorem dX3_tipsOver_24 : decode cX3_tipsOver 24 = .ok (.iinc 2 1, 3) := by decide +kernel
theorem dX3_tipsOver_27 : decode cX3_tipsOver 27 = .ok (.goto (-25), 3) := by decide +kernel
theorem dX3_tipsOver_30 : decode cX3_tipsOver 30 = .ok (.iconst 0, 1) := by decide +kernel
theorem dX3_tipsOver_31 : decode cX3_tipsOver 31 = .ok (.ireturn, 1) := by decide +kernel
def l_X3_tipsOver_2 (S : SH) (a0 : Nat) (a1 : Nat) (k2 : (Int32 × Mem) → Option (Int32 × Mem)) (x : (Int32 × Mem)) : Option (Int32 × Mem) :=
 (if 4 ≤ x.1 then
 some (0, x.2)
 else
 (f_X11_next S x.1 x.2).bind fun q1 =>
 (f_X3_about S a0 a1 x.1 q1.1 q1.2).bind fun q2 =>
 (if 0 ≤ q2.1 then
 k2 (x.1 + 1, q2.2)
 else
 some (1, q2.2)))
set_option maxRecDepth 100000 in
set_option maxHeartbeats 4000000 in
theorem t_X3_tipsOver_2 {γ : GE} {p : Program} {l : Launch} {e : Env} {s : State} {m : MethodId} {args : Array Value} {below : List Frame} {meth : Method} {c : Code} {S : SH} {X : (Int32 × Mem)} (F : FX γ p s m args meth c cX3_tipsOver RX3 3) (hr : meth.sig.returnType = (some .boolean)) (a0 : Nat) (a1 : Nat) (k2 : (Int32 × Mem) → Option (Int32 × Mem)) (hk2 : ∀ (x2_2 : Int32) (ν : Mem), k2 (x2_2, ν) = some X → JJ γ p l e rm_X3_tipsOver s m args below meth c 3 0 0 (QI below γ S X args s 0 0) S ν 2 [(0, .ref (gb γ + a0)), (1, .ref (gb γ + a1)), (2, .int x2_2)] []) (x : (Int32 × Mem)) (h : l_X3_tipsOver_2 S a0 a1 k2 x = some X) : JJ γ p l e rm_X3_tipsOver s m args below meth c 3 0 0 (QI below γ S X args s 0 0) S x.2 2 [(0, .ref (gb γ + a0)), (1, .ref (gb γ + a1)), (2, .int x.1)] [] := by
  unfold l_X3_tipsOver_2 at h
  refine j_iload_n F 2 dX3_tipsOver_2 rfl ?_
  refine j_iconst F 4 dX3_tipsOver_3 (by decide) ?_
  refine j_icmpge F 30 dX3_tipsOver_4 (by decide) h (fun _ h => ?_) (fun _ h => ?_)
  · refine j_iconst F 0 dX3_tipsOver_30 (by decide) ?_
    exact j_zret F hr (Or.inl rfl) dX3_tipsOver_31 h
  · refine j_aload_n F 0 dX3_tipsOver_7 rfl ?_
    refine j_aload_n F 1 dX3_tipsOver_8 rfl ?_
    refine j_iload_n F 2 dX3_tipsOver_9 rfl ?_
    refine j_iload_n F 2 dX3_tipsOver_10 rfl ?_
    refine j_cNI F mi_X11_next (by decide +kernel) (rest := [.int x.1, .ref (gb γ + a1), .ref (gb γ + a0)]) h (fun _ g => c_X11_next g) rfl rfl (Nat.le_of_ble_eq_true rfl) ⟨Nat.le_of_ble_eq_true rfl, Nat.le_of_ble_eq_true rfl⟩ ⟨Nat.le_of_ble_eq_true rfl, Nat.le_of_ble_eq_true rfl⟩ dX3_tipsOver_11 (fun q1 h => ?_)
    refine j_cVJ F mi_X3_about w_633 (rest := []) h (fun _ g => c_X3_about g) rfl rfl (Nat.le_of_ble_eq_true rfl) ⟨Nat.le_of_ble_eq_true rfl, Nat.le_of_ble_eq_true rfl⟩ ⟨Nat.le_of_ble_eq_true rfl, Nat.le_of_ble_eq_true rfl⟩ dX3_tipsOver_14 (fun q2 h => ?_)
    refine j_lconst F 0 dX3_tipsOver_17 (by decide) ?_
    refine j_lcmpge F 24 dX3_tipsOver_18 dX3_tipsOver_19 (by decide) h (fun _ h => ?_) (fun _ h => ?_)
    · refine j_iinc F 1 2 [(2, .int (x.1 + 1)), (0, .ref (gb γ + a0)), (1, .ref (gb γ + a1))] dX3_tipsOver_24 rfl (by decide) (by decide) rfl ?_
      refine j_goto F 2 dX3_tipsOver_27 (by decide) ?_
      refine j_lv [(0, .ref (gb γ + a0)), (1, .ref (gb γ + a1)), (2, .int (x.1 + 1))] [1, 2, 0] rfl ?_
      exact hk2 _ _ h
    · refine j_iconst F 1 dX3_tipsOver_22 (by decide) ?_
      exact j_zret F hr (Or.inr rfl) dX3_tipsOver_23 h
theorem s_X3_tipsOver_2 {γ : GE} {p : Program} {l : Launch} {e : Env} {s : State} {m : MethodId} {args : Array Value} {below : List Frame} {meth : Method} {c : Code} {S : SH} {X : (Int32 × Mem)} (F : FX γ p s m args meth c cX3_tipsOver RX3 3) (hr : meth.sig.returnType = (some .boolean)) (a0 : Nat) (a1 : Nat) (x2_2 : Int32) (ν : Mem) (h : lpN (l_X3_tipsOver_2 S a0 a1) fu (x2_2, ν) = some X) : JJ γ p l e rm_X3_tipsOver s m args below meth c 3 0 0 (QI below γ S X args s 0 0) S ν 2 [(0, .ref (gb γ + a0)), (1, .ref (gb γ + a1)), (2, .int x2_2)] [] :=
 lpN_sound (fun x => JJ γ p l e rm_X3_tipsOver s m args below meth c 3 0 0 (QI below γ S X args s 0 0) S x.2 2 [(0, .ref (gb γ + a0)), (1, .ref (gb γ + a1)), (2, .int x.1)] []) (fun k2 hk2 x h => t_X3_tipsOver_2 F hr a0 a1 k2 (fun x2_2 ν h => hk2 (x2_2, ν) h) x h) fu (x2_2, ν) h
def f_X3_tipsOver (S : SH) (a0 : Nat) (a1 : Nat) (μ : Mem) : Option (Int32 × Mem) :=
  if isO S 3 a0 = true then
  lpN (l_X3_tipsOver_2 S  a0 a1) fu (0, μ)
  else none
set_option maxRecDepth 100000 in
set_option maxHeartbeats 4000000 in
theorem c_X3_tipsOver {l : Launch} {γ : GE} {S : SH} {a0 : Nat} {a1 : Nat} {μ : Mem} {X : (Int32 × Mem)} (h : f_X3_tipsOver S a0 a1 μ = some X) : isO S 3 a0 = true ∧ Ct l γ yX3_tipsOver cX3_tipsOver 3 (some .boolean) rm_X3_tipsOver [.ref (gb γ + a0), .ref (gb γ + a1)] S μ S X.2 (some (.int X.1)) := by
  unfold f_X3_tipsOver at h
  obtain ⟨h0, h⟩ := if_some h
  refine ⟨h0, ?_⟩
  have hJ : ∀ (p : Program) (e : Env) (s : State) (m : MethodId) (args : Array Value) (below : List Frame) (meth : Method) (c : Code), FX γ p s m args meth c cX3_tipsOver RX3 3 → meth.sig.returnType = (some .boolean) → JJ γ p l e rm_X3_tipsOver s m args below meth c 3 0 0 (QI below γ S X args s 0 0) S μ 0 [(0, .ref (gb γ + a0)), (1, .ref (gb γ + a1))] [] := by
    intro p e s m args below meth c F hr
    refine j_iconst F 0 dX3_tipsOver_0 (by decide) ?_
    refine j_istore_n F [(2, .int 0), (0, .ref (gb γ + a0)), (1, .ref (gb γ + a1))] dX3_tipsOver_1 rfl (by decide) rfl ?_
    refine j_lv [(0, .ref (gb γ + a0)), (1, .ref (gb γ + a1)), (2, .int 0)] [1, 2, 0] rfl ?_
    exact s_X3_tipsOver_2 F hr _ _ _ _ h
  exact ct_of (by decide +kernel) (Nat.le_of_ble_eq_true rfl) (fun p e s m args below meth c F hr _ => hJ p e s m args below meth c F hr)
def rm_X3_shareByPlane : Room := { frames := 0, cells := 0, slots := 0, locals := 0 }
theorem dX3_shareByPlane_0 : decode cX3_shareByPlane 0 = .ok (.aload_n 1, 1) := by decide +kernel
theorem dX3_shareByPlane_1 : decode cX3_shareByPlane 1 = .ok (.getfield 157, 3) := by decide +kernel
theorem dX3_shareByPlane_4 : decode cX3_shareByPlane 4 = .ok (.aload_n 0, 1) := by decide +kernel
theorem dX3_shareByPlane_5 : decode cX3_shareByPlane 5 = .ok (.getfield 31, 3) := by decide +kernel
theorem dX3_shareByPlane_8 : decode cX3_shareByPlane 8 = .ok (.lmul, 1) := by decide +kernel
theorem dX3_shareByPlane_9 : decode cX3_shareByPlane 9 = .ok (.aload_n 1, 1) := by decide +kernel
theorem dX3_shareByPlane_10 : decode cX3_shareByPlane 10 = .ok (.getfield 160, 3) := by decide +kernel
theorem dX3_shareByPlane_13 : decode cX3_shareByPlane 13 = .ok (.aload_n 0, 1) := by decide +kernel
theorem dX3_shareByPlane_14 : decode cX3_shareByPlane 14 = .ok (.getfield 98, 3) := by decide +kernel
theorem dX3_shareByPlane_17 : decode cX3_shareByPlane 17 = .ok (.lmul, 1) := by decide +kernel
theorem dX3_shareByPlane_18 : decode cX3_shareByPlane 18 = .ok (.ladd, 1) := by decide +kernel
theorem dX3_shareByPlane_19 : decode cX3_shareByPlane 19 = .ok (.aload_n 1, 1) := by decide +kernel
theorem dX3_shareByPlane_20 : decode cX3_shareByPlane 20 = .ok (.getfield 163, 3) := by decide +kernel
theorem dX3_shareByPlane_23 : decode cX3_shareByPlane 23 = .ok (.aload_n 0, 1) := by decide +kernel
theorem dX3_shareByPlane_24 : decode cX3_shareByPlane 24 = .ok (.getfield 104, 3) := by decide +kernel
theorem dX3_shareByPlane_27 : decode cX3_shareByPlane 27 = .ok (.lmul, 1) := by decide +kernel
theorem dX3_shareByPlane_28 : decode cX3_shareByPlane 28 = .ok (.ladd, 1) := by decide +kernel
theorem dX3_shareByPlane_29 : decode cX3_shareByPlane 29 = .ok (.lstore_n 2, 1) := by decide +kernel
theorem dX3_shareByPlane_30 : decode cX3_shareByPlane 30 = .ok (.aload_n 1, 1) := by decide +kernel
theorem dX3_shareByPlane_31 : decode cX3_shareByPlane 31 = .ok (.getfield 160, 3) := by decide +kernel
theorem dX3_shareByPlane_34 : decode cX3_shareByPlane 34 = .ok (.aload_n 0, 1) := by decide +kernel
theorem dX3_shareByPlane_35 : decode cX3_shareByPlane 35 = .ok (.getfield 31, 3) := by decide +kernel
theorem dX3_shareByPlane_38 : decode cX3_shareByPlane 38 = .ok (.lmul, 1) := by decide +kernel
theorem dX3_shareByPlane_39 : decode cX3_shareByPlane 39 = .ok (.aload_n 1, 1) := by decide +kernel
theorem dX3_shareByPlane_40 : decode cX3_shareByPlane 40 = .ok (.getfield 166, 3) := by decide +kernel
theorem dX3_shareByPlane_43 : decode cX3_shareByPlane 43 = .ok (.aload_n 0, 1) := by decide +kernel
theorem dX3_shareByPlane_44 : decode cX3_shareByPlane 44 = .ok (.getfield 98, 3) := by decide +kernel
theorem dX3_shareByPlane_47 : decode cX3_shareByPlane 47 = .ok (.lmul, 1) := by decide +kernel
theorem dX3_shareByPlane_48 : decode cX3_shareByPlane 48 = .ok (.ladd, 1) := by decide +kernel
theorem dX3_shareByPlane_49 : decode cX3_shareByPlane 49 = .ok (.aload_n 1, 1) := by decide +kernel
theorem dX3_shareByPlane_50 : decode cX3_shareByPlane 50 = .ok (.getfield 169, 3) := by decide +kernel
theorem dX3_shareByPlane_53 : decode cX3_shareByPlane 53 = .ok (.aload_n 0, 1) := by decide +kernel
theorem dX3_shareByPlane_54 : decode cX3_shareByPlane 54 = .ok (.getfield 104, 3) := by decide +kernel
theorem dX3_shareByPlane_57 : decode cX3_shareByPlane 57 = .ok (.lmul, 1) := by decide +kernel
theorem dX3_shareByPlane_58 : decode cX3_shareByPlane 58 = .ok (.ladd, 1) := by decide +kernel
theorem dX3_shareByPlane_59 : decode cX3_shareByPlane 59 = .ok (.lstore 4, 2) := by decide +kernel
theorem dX3_shareByPlane_61 : decode cX3_shareByPlane 61 = .ok (.aload_n 1, 1) := by decide +kernel
theorem dX3_shareByPlane_62 : decode cX3_shareByPlane 62 = .ok (.getfield 163, 3) := by decide +kernel
theorem dX3_shareByPlane_65 : decode cX3_shareByPlane 65 = .ok (.aload_n 0, 1) := by decide +kernel
theorem dX3_shareByPlane_66 : decode cX3_shareByPlane 66 = .ok (.getfield 31, 3) := by decide +kernel
theorem dX3_shareByPlane_69 : decode cX3_shareByPlane 69 = .ok (.lmul, 1) := by decide +kernel
theorem dX3_shareByPlane_70 : decode cX3_shareByPlane 70 = .ok (.aload_n 1, 1) := by decide +kernel
theorem dX3_shareByPlane_71 : decode cX3_shareByPlane 71 = .ok (.getfield 169, 3) := by decide +kernel
theorem dX3_shareByPlane_74 : decode cX3_shareByPlane 74 = .ok (.aload_n 0, 1) := by decide +kernel
theorem dX3_shareByPlane_75 : decode cX3_shareByPlane 75 = .ok (.getfield 98, 3) := by decide +kernel
theorem dX3_shareByPlane_78 : decode cX3_shareByPlane 78 = .ok (.lmul, 1) := by decide +kernel
theorem dX3_shareByPlane_79 : decode cX3_shareByPlane 79 = .ok (.ladd, 1) := by decide +kernel
theorem dX3_shareByPlane_80 : decode cX3_shareByPlane 80 = .ok (.aload_n 1, 1) := by decide +kernel
theorem dX3_shareByPlane_81 : decode cX3_shareByPlane 81 = .ok (.getfield 172, 3) := by decide +kernel
theorem dX3_shareByPlane_84 : decode cX3_shareByPlane 84 = .ok (.aload_n 0, 1) := by decide +kernel
theorem dX3_shareByPlane_85 : decode cX3_shareByPlane 85 = .ok (.getfield 104, 3) := by decide +kernel
theorem dX3_shareByPlane_88 : decode cX3_shareByPlane 88 = .ok (.lmul, 1) := by decide +kernel
theorem dX3_shareByPlane_89 : decode cX3_shareByPlane 89 = .ok (.ladd, 1) := by decide +kernel
theorem dX3_shareByPlane_90 : decode cX3_shareByPlane 90 = .ok (.lstore 6, 2) := by decide +kernel
theorem dX3_shareByPlane_92 : decode cX3_shareByPlane 92 = .ok (.iconst 0, 1) := by decide +kernel
theorem dX3_shareByPlane_93 : decode cX3_shareByPlane 93 = .ok (.istore 8, 2) := by decide +kernel
theorem dX3_shareByPlane_95 : decode cX3_shareByPlane 95 = .ok (.iload 8, 2) := by decide +kernel
theorem dX3_shareByPlane_97 : decode cX3_shareByPlane 97 = .ok (.iconst 4, 1) := by decide +kernel
theorem dX3_shareByPlane_98 : decode cX3_shareByPlane 98 = .ok (.if_icmp .ge 41, 3) := by decide +kernel
theorem dX3_shareByPlane_101 : decode cX3_shareByPlane 101 = .ok (.aload_n 0, 1) := by decide +kernel
theorem dX3_shareByPlane_102 : decode cX3_shareByPlane 102 = .ok (.getfield 9, 3) := by decide +kernel
theorem dX3_shareByPlane_105 : decode cX3_shareByPlane 105 = .ok (.iload 8, 2) := by decide +kernel
theorem dX3_shareByPlane_107 : decode cX3_shareByPlane 107 = .ok (.lload_n 2, 1) := by decide +kernel
theorem dX3_shareByPlane_108 : decode cX3_shareByPlane 108 = .ok (.lload 4, 2) := by decide +kernel
theorem dX3_shareByPlane_110 : decode cX3_shareByPlane 110 = .ok (.aload_n 1, 1) := by decide +kernel
theorem dX3_shareByPlane_111 : decode cX3_shareByPlane 111 = .ok (.getfield 107, 3) := by decide +kernel
theorem dX3_shareByPlane_114 : decode cX3_shareByPlane 114 = .ok (.iload 8, 2) := by decide +kernel
theorem dX3_shareByPlane_116 : decode cX3_shareByPlane 116 = .ok (.iaload, 1) := by decide +kernel
theorem dX3_shareByPlane_117 : decode cX3_shareByPlane 117 = .ok (.i2l, 1) := by decide +kernel
theorem dX3_shareByPlane_118 : decode cX3_shareByPlane 118 = .ok (.lmul, 1) := by decide +kernel
theorem dX3_shareByPlane_119 : decode cX3_shareByPlane 119 = .ok (.ladd, 1) := by decide +kernel
theorem dX3_shareByPlane_120 : decode cX3_shareByPlane 120 = .ok (.lload 6, 2) := by decide +kernel
theorem dX3_shareByPlane_122 : decode cX3_shareByPlane 122 = .ok (.aload_n 1, 1) := by decide +kernel
theorem dX3_shareByPlane_123 : decode cX3_shareByPlane 123 = .ok (.getfield 110, 3) := by decide +kernel
theorem dX3_shareByPlane_126 : decode cX3_shareByPlane 126 = .ok (.iload 8, 2) := by decide +kernel
theorem dX3_shareByPlane_128 : decode cX3_shareByPlane 128 = .ok (.iaload, 1) := by decide +kernel
theorem dX3_shareByPlane_129 : decode cX3_shareByPlane 129 = .ok (.i2l, 1) := by decide +kernel
theorem dX3_shareByPlane_130 : decode cX3_shareByPlane 130 = .ok (.lmul, 1) := by decide +kernel
theorem dX3_shareByPlane_131 : decode cX3_shareByPlane 131 = .ok (.ladd, 1) := by decide +kernel
theorem dX3_shareByPlane_132 : decode cX3_shareByPlane 132 = .ok (.lastore, 1) := by decide +kernel
theorem dX3_shareByPlane_133 : decode cX3_shareByPlane 133 = .ok (.iinc 8 1, 3) := by decide +kernel
theorem dX3_shareByPlane_136 : decode cX3_shareByPlane 136 = .ok (.goto (-41), 3) := by decide +kernel
theorem dX3_shareByPlane_139 : decode cX3_shareByPlane 139 = .ok (.aload_n 0, 1) := by decide +kernel
theorem dX3_shareByPlane_140 : decode cX3_shareByPlane 140 = .ok (.ldc2_w 90, 3) := by decide +kernel
theorem dX3_shareByPlane_143 : decode cX3_shareByPlane 143 = .ok (.aload_n 1, 1) := by decide +kernel
theorem dX3_shareByPlane_144 : decode cX3_shareByPlane 144 = .ok (.getfield 175, 3) := by decide +kernel
theorem dX3_shareByPlane_147 : decode cX3_shareByPlane 147 = .ok (.lmul, 1) := by decide +kernel
theorem dX3_shareByPlane_148 : decode cX3_shareByPlane 148 = .ok (.putfield 117, 3) := by decide +kernel
theorem dX3_shareByPlane_151 : decode cX3_shareByPlane 151 = .ok (.return_, 1) := by decide +kernel
def l_X3_shareByPlane_95 (S : SH) (a0 : Nat) (a1 : Nat) (a2 : Int64) (a4 : Int64) (a6 : Int64) (k95 : (Int32 × Mem) → Option (Unit × Mem)) (x : (Int32 × Mem)) : Option (Unit × Mem) :=
 (if 4 ≤ x.1 then
 (gL S 4 a1 10 x.2).bind fun v22 =>
 (pL S 3 a0 4 (65 * v22) x.2).bind fun ν23 =>
 some ((), ν23)
 else
 (gR S 3 a0 3).bind fun v24 =>
 (gR S 4 a1 0).bind fun v25 =>
 (aI S .int v25 x.1 x.2).bind fun v26 =>
 (gR S 4 a1 1).bind fun v27 =>
 (aI S .int v27 x.1 x.2).bind fun v28 =>
 (sL S v24 x.1 ((a2 + (a4 * v26.toInt64)) + (a6 * v28.toInt64)) x.2).bind fun ν29 =>
 k95 (x.1 + 1, ν29))
set_option maxRecDepth 100000 in
set_option maxHeartbeats 4000000 in
theorem t_X3_shareByPlane_95 {γ : GE} {p : Program} {l : Launch} {e : Env} {s : State} {m : MethodId} {args : Array Value} {below : List Frame} {meth : Method} {c : Code} {S : SH} {X : (Unit × Mem)} (F : FX γ p s m args meth c cX3_shareByPlane RX3 9) (hr : meth.sig.returnType = (none)) (a0 : Nat) (a1 : Nat) (a2 : Int64) (a4 : Int64) (a6 : Int64) (k95 : (Int32 × Mem) → Option (Unit × Mem)) (hk95 : ∀ (x95_8 : Int32) (ν : Mem), k95 (x95_8, ν) = some X → JJ γ p l e rm_X3_shareByPlane s m args below meth c 9 0 0 (QV below γ S X args s 0 0) S ν 95 [(0, .ref (gb γ + a0)), (1, .ref (gb γ + a1)), (2, .long a2), (4, .long a4), (6, .long a6), (8, .int x95_8)] []) (x : (Int32 × Mem)) (h : l_X3_shareByPlane_95 S a0 a1 a2 a4 a6 k95 x = some X) : JJ γ p l e rm_X3_shareByPlane s m args below meth c 9 0 0 (QV below γ S X args s 0 0) S x.2 95 [(0, .ref (gb γ + a0)), (1, .ref (gb γ + a1)), (2, .long a2), (4, .long a4), (6, .long a6), (8, .int x.1)] [] := by
  unfold l_X3_shareByPlane_95 at h
  refine j_iload F 5 dX3_shareByPlane_95 rfl ?_
  refine j_iconst F 4 dX3_shareByPlane_97 (by decide) ?_
  refine j_icmpge F 139 dX3_shareByPlane_98 (by decide) h (fun _ h => ?_) (fun _ h => ?_)
  · refine j_aload_n F 0 dX3_shareByPlane_139 rfl ?_
    refine j_ldc2 F 65 dX3_shareByPlane_140 w_579 ?_
    refine j_aload_n F 1 dX3_shareByPlane_143 rfl ?_
    refine j_gL F fl_RX3_175.l rfl dX3_shareByPlane_144 h (fun v22 h => ?_)
    refine j_lmul F dX3_shareByPlane_147 ?_
    refine j_pL F fl_RX3_117 rfl dX3_shareByPlane_148 h (fun ν23 h => ?_)
    exact j_vret F hr dX3_shareByPlane_151 h
  · refine j_aload_n F 0 dX3_shareByPlane_101 rfl ?_
    refine j_gR F fl_RX3_9 rfl dX3_shareByPlane_102 h (fun v24 h => ?_)
    refine j_iload F 5 dX3_shareByPlane_105 rfl ?_
    refine j_lload_n F 2 dX3_shareByPlane_107 rfl ?_
    refine j_lload F 3 dX3_shareByPlane_108 rfl ?_
    refine j_aload_n F 1 dX3_shareByPlane_110 rfl ?_
    refine j_gR F fl_RX3_107 rfl dX3_shareByPlane_111 h (fun v25 h => ?_)
    refine j_iload F 5 dX3_shareByPlane_114 rfl ?_
    refine j_iald F dX3_shareByPlane_116 h (fun v26 h => ?_)
    refine j_i2l F dX3_shareByPlane_117 ?_
    refine j_lmul F dX3_shareByPlane_118 ?_
    refine j_ladd F dX3_shareByPlane_119 ?_
    refine j_lload F 4 dX3_shareByPlane_120 rfl ?_
    refine j_aload_n F 1 dX3_shareByPlane_122 rfl ?_
    refine j_gR F fl_RX3_110 rfl dX3_shareByPlane_123 h (fun v27 h => ?_)
    refine j_iload F 5 dX3_shareByPlane_126 rfl ?_
    refine j_iald F dX3_shareByPlane_128 h (fun v28 h => ?_)
    refine j_i2l F dX3_shareByPlane_129 ?_
    refine j_lmul F dX3_shareByPlane_130 ?_
    refine j_ladd F dX3_shareByPlane_131 ?_
    refine j_last F dX3_shareByPlane_132 h (fun ν29 h => ?_)
    refine j_iinc F 1 5 [(8, .int (x.1 + 1)), (0, .ref (gb γ + a0)), (1, .ref (gb γ + a1)), (2, .long a2), (4, .long a4), (6, .long a6)] dX3_shareByPlane_133 rfl (by decide) (by decide) rfl ?_
    refine j_goto F 95 dX3_shareByPlane_136 (by decide) ?_
    refine j_lv [(0, .ref (gb γ + a0)), (1, .ref (gb γ + a1)), (2, .long a2), (4, .long a4), (6, .long a6), (8, .int (x.1 + 1))] [1, 2, 3, 4, 5, 0] rfl ?_
    exact hk95 _ _ h
theorem s_X3_shareByPlane_95 {γ : GE} {p : Program} {l : Launch} {e : Env} {s : State} {m : MethodId} {args : Array Value} {below : List Frame} {meth : Method} {c : Code} {S : SH} {X : (Unit × Mem)} (F : FX γ p s m args meth c cX3_shareByPlane RX3 9) (hr : meth.sig.returnType = (none)) (a0 : Nat) (a1 : Nat) (a2 : Int64) (a4 : Int64) (a6 : Int64) (x95_8 : Int32) (ν : Mem) (h : lpN (l_X3_shareByPlane_95 S a0 a1 a2 a4 a6) fu (x95_8, ν) = some X) : JJ γ p l e rm_X3_shareByPlane s m args below meth c 9 0 0 (QV below γ S X args s 0 0) S ν 95 [(0, .ref (gb γ + a0)), (1, .ref (gb γ + a1)), (2, .long a2), (4, .long a4), (6, .long a6), (8, .int x95_8)] [] :=
 lpN_sound (fun x => JJ γ p l e rm_X3_shareByPlane s m args below meth c 9 0 0 (QV below γ S X args s 0 0) S x.2 95 [(0, .ref (gb γ + a0)), (1, .ref (gb γ + a1)), (2, .long a2), (4, .long a4), (6, .long a6), (8, .int x.1)] []) (fun k95 hk95 x h => t_X3_shareByPlane_95 F hr a0 a1 a2 a4 a6 k95 (fun x95_8 ν h => hk95 (x95_8, ν) h) x h) fu (x95_8, ν) h
def f_X3_shareByPlane (S : SH) (a0 : Nat) (a1 : Nat) (μ : Mem) : Option (Unit × Mem) :=
  if isO S 3 a0 = true then
  (gL S 4 a1 4 μ).bind fun v1 =>
  (gL S 3 a0 0 μ).bind fun v2 =>
  (gL S 4 a1 5 μ).bind fun v3 =>
  (gL S 3 a0 1 μ).bind fun v4 =>
  (gL S 4 a1 6 μ).bind fun v5 =>
  (gL S 3 a0 2 μ).bind fun v6 =>
  (some (((v1 * v2) + (v3 * v4)) + (v5 * v6))).bind fun y7 =>
  (gL S 4 a1 5 μ).bind fun v8 =>
  (gL S 3 a0 0 μ).bind fun v9 =>
  (gL S 4 a1 7 μ).bind fun v10 =>
  (gL S 3 a0 1 μ).bind fun v11 =>
  (gL S 4 a1 8 μ).bind fun v12 =>
  (gL S 3 a0 2 μ).bind fun v13 =>
  (some (((v8 * v9) + (v10 * v11)) + (v12 * v13))).bind fun y14 =>
  (gL S 4 a1 6 μ).bind fun v15 =>
  (gL S 3 a0 0 μ).bind fun v16 =>
  (gL S 4 a1 8 μ).bind fun v17 =>
  (gL S 3 a0 1 μ).bind fun v18 =>
  (gL S 4 a1 9 μ).bind fun v19 =>
  (gL S 3 a0 2 μ).bind fun v20 =>
  (some (((v15 * v16) + (v17 * v18)) + (v19 * v20))).bind fun y21 =>
  lpN (l_X3_shareByPlane_95 S  a0 a1 y7 y14 y21) fu (0, μ)
  else none
set_option maxRecDepth 100000 in
set_option maxHeartbeats 4000000 in
theorem c_X3_shareByPlane {l : Launch} {γ : GE} {S : SH} {a0 : Nat} {a1 : Nat} {μ : Mem} {X : (Unit × Mem)} (h : f_X3_shareByPlane S a0 a1 μ = some X) : isO S 3 a0 = true ∧ Ct l γ yX3_shareByPlane cX3_shareByPlane 9 (none) rm_X3_shareByPlane [.ref (gb γ + a0), .ref (gb γ + a1)] S μ S X.2 none := by
  unfold f_X3_shareByPlane at h
  obtain ⟨h0, h⟩ := if_some h
  refine ⟨h0, ?_⟩
  have hJ : ∀ (p : Program) (e : Env) (s : State) (m : MethodId) (args : Array Value) (below : List Frame) (meth : Method) (c : Code), FX γ p s m args meth c cX3_shareByPlane RX3 9 → meth.sig.returnType = (none) → JJ γ p l e rm_X3_shareByPlane s m args below meth c 9 0 0 (QV below γ S X args s 0 0) S μ 0 [(0, .ref (gb γ + a0)), (1, .ref (gb γ + a1))] [] := by
    intro p e s m args below meth c F hr
    refine j_aload_n F 1 dX3_shareByPlane_0 rfl ?_
    refine j_gL F fl_RX3_157.l rfl dX3_shareByPlane_1 h (fun v1 h => ?_)
    refine j_aload_n F 0 dX3_shareByPlane_4 rfl ?_
    refine j_gL F fl_RX3_31.l rfl dX3_shareByPlane_5 h (fun v2 h => ?_)
    refine j_lmul F dX3_shareByPlane_8 ?_
    refine j_aload_n F 1 dX3_shareByPlane_9 rfl ?_
    refine j_gL F fl_RX3_160.l rfl dX3_shareByPlane_10 h (fun v3 h => ?_)
    refine j_aload_n F 0 dX3_shareByPlane_13 rfl ?_
    refine j_gL F fl_RX3_98.l rfl dX3_shareByPlane_14 h (fun v4 h => ?_)
    refine j_lmul F dX3_shareByPlane_17 ?_
    refine j_ladd F dX3_shareByPlane_18 ?_
    refine j_aload_n F 1 dX3_shareByPlane_19 rfl ?_
    refine j_gL F fl_RX3_163.l rfl dX3_shareByPlane_20 h (fun v5 h => ?_)
    refine j_aload_n F 0 dX3_shareByPlane_23 rfl ?_
    refine j_gL F fl_RX3_104.l rfl dX3_shareByPlane_24 h (fun v6 h => ?_)
    refine j_lmul F dX3_shareByPlane_27 ?_
    refine j_ladd F dX3_shareByPlane_28 ?_
    refine j_nmL h (fun y7 h => ?_)
    refine j_lstore_n F [(2, .long y7), (0, .ref (gb γ + a0)), (1, .ref (gb γ + a1))] dX3_shareByPlane_29 rfl (by decide) rfl ?_
    refine j_aload_n F 2 dX3_shareByPlane_30 rfl ?_
    refine j_gL F fl_RX3_160.l rfl dX3_shareByPlane_31 h (fun v8 h => ?_)
    refine j_aload_n F 1 dX3_shareByPlane_34 rfl ?_
    refine j_gL F fl_RX3_31.l rfl dX3_shareByPlane_35 h (fun v9 h => ?_)
    refine j_lmul F dX3_shareByPlane_38 ?_
    refine j_aload_n F 2 dX3_shareByPlane_39 rfl ?_
    refine j_gL F fl_RX3_166.l rfl dX3_shareByPlane_40 h (fun v10 h => ?_)
    refine j_aload_n F 1 dX3_shareByPlane_43 rfl ?_
    refine j_gL F fl_RX3_98.l rfl dX3_shareByPlane_44 h (fun v11 h => ?_)
    refine j_lmul F dX3_shareByPlane_47 ?_
    refine j_ladd F dX3_shareByPlane_48 ?_
    refine j_aload_n F 2 dX3_shareByPlane_49 rfl ?_
    refine j_gL F fl_RX3_169.l rfl dX3_shareByPlane_50 h (fun v12 h => ?_)
    refine j_aload_n F 1 dX3_shareByPlane_53 rfl ?_
    refine j_gL F fl_RX3_104.l rfl dX3_shareByPlane_54 h (fun v13 h => ?_)
    refine j_lmul F dX3_shareByPlane_57 ?_
    refine j_ladd F dX3_shareByPlane_58 ?_
    refine j_nmL h (fun y14 h => ?_)
    refine j_lstore F [(4, .long y14), (2, .long y7), (0, .ref (gb γ + a0)), (1, .ref (gb γ + a1))] dX3_shareByPlane_59 (by decide) rfl ?_
    refine j_aload_n F 3 dX3_shareByPlane_61 rfl ?_
    refine j_gL F fl_RX3_163.l rfl dX3_shareByPlane_62 h (fun v15 h => ?_)
    refine j_aload_n F 2 dX3_shareByPlane_65 rfl ?_
    refine j_gL F fl_RX3_31.l rfl dX3_shareByPlane_66 h (fun v16 h => ?_)
    refine j_lmul F dX3_shareByPlane_69 ?_
    refine j_aload_n F 3 dX3_shareByPlane_70 rfl ?_
    refine j_gL F fl_RX3_169.l rfl dX3_shareByPlane_71 h (fun v17 h => ?_)
    refine j_aload_n F 2 dX3_shareByPlane_74 rfl ?_
    refine j_gL F fl_RX3_98.l rfl dX3_shareByPlane_75 h (fun v18 h => ?_)
    refine j_lmul F dX3_shareByPlane_78 ?_
    refine j_ladd F dX3_shareByPlane_79 ?_
    refine j_aload_n F 3 dX3_shareByPlane_80 rfl ?_
    refine j_gL F fl_RX3_172.l rfl dX3_shareByPlane_81 h (fun v19 h => ?_)
    refine j_aload_n F 2 dX3_shareByPlane_84 rfl ?_
    refine j_gL F fl_RX3_104.l rfl dX3_shareByPlane_85 h (fun v20 h => ?_)
    refine j_lmul F dX3_shareByPlane_88 ?_
    refine j_ladd F dX3_shareByPlane_89 ?_
    refine j_nmL h (fun y21 h => ?_)
    refine j_lstore F [(6, .long y21), (4, .long y14), (2, .long y7), (0, .ref (gb γ + a0)), (1, .ref (gb γ + a1))] dX3_shareByPlane_90 (by decide) rfl ?_
    refine j_iconst F 0 dX3_shareByPlane_92 (by decide) ?_
    refine j_istore F [(8, .int 0), (6, .long y21), (4, .long y14), (2, .long y7), (0, .ref (gb γ + a0)), (1, .ref (gb γ + a1))] dX3_shareByPlane_93 (by decide) rfl ?_
    refine j_lv [(0, .ref (gb γ + a0)), (1, .ref (gb γ + a1)), (2, .long y7), (4, .long y14), (6, .long y21), (8, .int 0)] [4, 5, 3, 2, 1, 0] rfl ?_
    exact s_X3_shareByPlane_95 F hr _ _ _ _ _ _ _ h
  exact ct_of (by decide +kernel) (Nat.le_of_ble_eq_true rfl) (fun p e s m args below meth c F hr _ => hJ p e s m args below meth c F hr)
def rm_X3_lowestBelowNothing : Room := { frames := 0, cells := 0, slots := 0, locals := 0 }
theorem dX3_lowestBelowNothing_0 : decode cX3_lowestBelowNothing 0 = .ok (.bipush (-5), 2) := by decide +kernel
theorem dX3_lowestBelowNothing_2 : decode cX3_lowestBelowNothing 2 = .ok (.istore_n 1, 1) := by decide +kernel
theorem dX3_lowestBelowNothing_3 : decode cX3_lowestBelowNothing 3 = .ok (.lconst 0, 1) := by decide +kernel
theorem dX3_lowestBelowNothing_4 : decode cX3_lowestBelowNothing 4 = .ok (.lstore_n 2, 1) := by decide +kernel
theorem dX3_lowestBelowNothing_5 : decode cX3_lowestBelowNothing 5 = .ok (.iconst 0, 1) := by decide +kernel
theorem dX3_lowestBelowNothing_6 : decode cX3_lowestBelowNothing 6 = .ok (.istore 4, 2) := by decide +kernel
theorem dX3_lowestBelowNothing_8 : decode cX3_lowestBelowNothing 8 = .ok (.iload 4, 2) := by decide +kernel
theorem dX3_lowestBelowNothing_10 : decode cX3_lowestBelowNothing 10 = .ok (.iconst 4, 1) := by decide +kernel
theorem dX3_lowestBelowNothing_11 : decode cX3_lowestBelowNothing 11 = .ok (.if_icmp .ge 32, 3) := by decide +kernel
theorem dX3_lowestBelowNothing_14 : decode cX3_lowestBelowNothing 14 = .ok (.aload_n 0, 1) := by decide +kernel
theorem dX3_lowestBelowNothing_15 : decode cX3_lowestBelowNothing 15 = .ok (.getfield 9, 3) := by decide +kernel
theorem dX3_lowestBelowNothing_18 : decode cX3_lowestBelowNothing 18 = .ok (.iload 4, 2) := by decide +kernel
theorem dX3_lowestBelowNothing_20 : decode cX3_lowestBelowNothing 20 = .ok (.laload, 1) := by decide +kernel
theorem dX3_lowestBelowNothing_21 : decode cX3_lowestBelowNothing 21 = .ok (.lload_n 2, 1) := by decide +kernel
theorem dX3_lowestBelowNothing_22 : decode cX3_lowestBelowNothing 22 = .ok (.lcmp, 1) := by decide +kernel
theorem dX3_lowestBelowNothing_23 : decode cX3_lowestBelowNothing 23 = .ok (.ifCond .ge 14, 3) := by decide +kernel
theorem dX3_lowestBelowNothing_26 : decode cX3_lowestBelowNothing 26 = .ok (.aload_n 0, 1) := by decide +kernel
theorem dX3_lowestBelowNothing_27 : decode cX3_lowestBelowNothing 27 = .ok (.getfield 9, 3) := by decide +kernel
theorem dX3_lowestBelowNothing_30 : decode cX3_lowestBelowNothing 30 = .ok (.iload 4, 2) := by decide +kernel
theorem dX3_lowestBelowNothing_32 : decode cX3_lowestBelowNothing 32 = .ok (.laload, 1) := by decide +kernel
theorem dX3_lowestBelowNothing_33 : decode cX3_lowestBelowNothing 33 = .ok (.lstore_n 2, 1) := by decide +kernel
theorem dX3_lowestBelowNothing_34 : decode cX3_lowestBelowNothing 34 = .ok (.iload 4, 2) := by decide +kernel
theorem dX3_lowestBelowNothing_36 : decode cX3_lowestBelowNothing 36 = .ok (.istore_n 1, 1) := by decide +kernel
theorem dX3_lowestBelowNothing_37 : decode cX3_lowestBelowNothing 37 = .ok (.iinc 4 1, 3) := by decide +kernel
theorem dX3_lowestBelowNothing_40 : decode cX3_lowestBelowNothing 40 = .ok (.goto (-32), 3) := by decide +kernel
theorem dX3_lowestBelowNothing_43 : decode cX3_lowestBelowNothing 43 = .ok (.iload_n 1, 1) := by decide +kernel
theorem dX3_lowestBelowNothing_44 : decode cX3_lowestBelowNothing 44 = .ok (.ireturn, 1) := by decide +kernel
def l_X3_lowestBelowNothing_8 (S : SH) (a0 : Nat) (k8 : (Int32 × Int64 × Int32 × Mem) → Option (Int32 × Mem)) (x : (Int32 × Int64 × Int32 × Mem)) : Option (Int32 × Mem) :=
 (if 4 ≤ x.2.2.1 then
 some (x.1, x.2.2.2)
 else
 (gR S 3 a0 3).bind fun v1 =>
 (aL S v1 x.2.2.1 x.2.2.2).bind fun v2 =>
 (if x.2.1 ≤ v2 then
 k8 (x.1, x.2.1, x.2.2.1 + 1, x.2.2.2)
 else
 (gR S 3 a0 3).bind fun v3 =>
 (aL S v3 x.2.2.1 x.2.2.2).bind fun v4 =>
 k8 (x.2.2.1, v4, x.2.2.1 + 1, x.2.2.2)))
set_option maxRecDepth 100000 in
set_option maxHeartbeats 4000000 in
theorem t_X3_lowestBelowNothing_8 {γ : GE} {p : Program} {l : Launch} {e : Env} {s : State} {m : MethodId} {args : Array Value} {below : List Frame} {meth : Method} {c : Code} {S : SH} {X : (Int32 × Mem)} (F : FX γ p s m args meth c cX3_lowestBelowNothing RX3 5) (hr : meth.sig.returnType = (some .int)) (a0 : Nat) (k8 : (Int32 × Int64 × Int32 × Mem) → Option (Int32 × Mem)) (hk8 : ∀ (x8_1 : Int32) (x8_2 : Int64) (x8_4 : Int32) (ν : Mem), k8 (x8_1, x8_2, x8_4, ν) = some X → JJ γ p l e rm_X3_lowestBelowNothing s m args below meth c 5 0 0 (QI below γ S X args s 0 0) S ν 8 [(0, .ref (gb γ + a0)), (1, .int x8_1), (2, .long x8_2), (4, .int x8_4)] []) (x : (Int32 × Int64 × Int32 × Mem)) (h : l_X3_lowestBelowNothing_8 S a0 k8 x = some X) : JJ γ p l e rm_X3_lowestBelowNothing s m args below meth c 5 0 0 (QI below γ S X args s 0 0) S x.2.2.2 8 [(0, .ref (gb γ + a0)), (1, .int x.1), (2, .long x.2.1), (4, .int x.2.2.1)] [] := by
  unfold l_X3_lowestBelowNothing_8 at h
  refine j_iload F 3 dX3_lowestBelowNothing_8 rfl ?_
  refine j_iconst F 4 dX3_lowestBelowNothing_10 (by decide) ?_
  refine j_icmpge F 43 dX3_lowestBelowNothing_11 (by decide) h (fun _ h => ?_) (fun _ h => ?_)
  · refine j_iload_n F 1 dX3_lowestBelowNothing_43 rfl ?_
    exact j_iret F hr dX3_lowestBelowNothing_44 h
  · refine j_aload_n F 0 dX3_lowestBelowNothing_14 rfl ?_
    refine j_gR F fl_RX3_9 rfl dX3_lowestBelowNothing_15 h (fun v1 h => ?_)
    refine j_iload F 3 dX3_lowestBelowNothing_18 rfl ?_
    refine j_lald F dX3_lowestBelowNothing_20 h (fun v2 h => ?_)
    refine j_lload_n F 2 dX3_lowestBelowNothing_21 rfl ?_
    refine j_lcmpge F 37 dX3_lowestBelowNothing_22 dX3_lowestBelowNothing_23 (by decide) h (fun _ h => ?_) (fun _ h => ?_)
    · refine j_iinc F 1 3 [(4, .int (x.2.2.1 + 1)), (0, .ref (gb γ + a0)), (1, .int x.1), (2, .long x.2.1)] dX3_lowestBelowNothing_37 rfl (by decide) (by decide) rfl ?_
      refine j_goto F 8 dX3_lowestBelowNothing_40 (by decide) ?_
      refine j_lv [(0, .ref (gb γ + a0)), (1, .int x.1), (2, .long x.2.1), (4, .int (x.2.2.1 + 1))] [1, 2, 3, 0] rfl ?_
      exact hk8 _ _ _ _ h
    · refine j_aload_n F 0 dX3_lowestBelowNothing_26 rfl ?_
      refine j_gR F fl_RX3_9 rfl dX3_lowestBelowNothing_27 h (fun v3 h => ?_)
      refine j_iload F 3 dX3_lowestBelowNothing_30 rfl ?_
      refine j_lald F dX3_lowestBelowNothing_32 h (fun v4 h => ?_)
      refine j_lstore_n F [(2, .long v4), (0, .ref (gb γ + a0)), (1, .int x.1), (4, .int x.2.2.1)] dX3_lowestBelowNothing_33 rfl (by decide) rfl ?_
      refine j_iload F 3 dX3_lowestBelowNothing_34 rfl ?_
      refine j_istore_n F [(1, .int x.2.2.1), (2, .long v4), (0, .ref (gb γ + a0)), (4, .int x.2.2.1)] dX3_lowestBelowNothing_36 rfl (by decide) rfl ?_
      refine j_iinc F 1 3 [(4, .int (x.2.2.1 + 1)), (1, .int x.2.2.1), (2, .long v4), (0, .ref (gb γ + a0))] dX3_lowestBelowNothing_37 rfl (by decide) (by decide) rfl ?_
      refine j_goto F 8 dX3_lowestBelowNothing_40 (by decide) ?_
      refine j_lv [(0, .ref (gb γ + a0)), (1, .int x.2.2.1), (2, .long v4), (4, .int (x.2.2.1 + 1))] [3, 1, 2, 0] rfl ?_
      exact hk8 _ _ _ _ h
theorem s_X3_lowestBelowNothing_8 {γ : GE} {p : Program} {l : Launch} {e : Env} {s : State} {m : MethodId} {args : Array Value} {below : List Frame} {meth : Method} {c : Code} {S : SH} {X : (Int32 × Mem)} (F : FX γ p s m args meth c cX3_lowestBelowNothing RX3 5) (hr : meth.sig.returnType = (some .int)) (a0 : Nat) (x8_1 : Int32) (x8_2 : Int64) (x8_4 : Int32) (ν : Mem) (h : lpN (l_X3_lowestBelowNothing_8 S a0) fu (x8_1, x8_2, x8_4, ν) = some X) : JJ γ p l e rm_X3_lowestBelowNothing s m args below meth c 5 0 0 (QI below γ S X args s 0 0) S ν 8 [(0, .ref (gb γ + a0)), (1, .int x8_1), (2, .long x8_2), (4, .int x8_4)] [] :=
 lpN_sound (fun x => JJ γ p l e rm_X3_lowestBelowNothing s m args below meth c 5 0 0 (QI below γ S X args s 0 0) S x.2.2.2 8 [(0, .ref (gb γ + a0)), (1, .int x.1), (2, .long x.2.1), (4, .int x.2.2.1)] []) (fun k8 hk8 x h => t_X3_lowestBelowNothing_8 F hr a0 k8 (fun x8_1 x8_2 x8_4 ν h => hk8 (x8_1, x8_2, x8_4, ν) h) x h) fu (x8_1, x8_2, x8_4, ν) h
def f_X3_lowestBelowNothing (S : SH) (a0 : Nat) (μ : Mem) : Option (Int32 × Mem) :=
  if isO S 3 a0 = true then
  lpN (l_X3_lowestBelowNothing_8 S  a0) fu ((-5), 0, 0, μ)
  else none
set_option maxRecDepth 100000 in
set_option maxHeartbeats 4000000 in
theorem c_X3_lowestBelowNothing {l : Launch} {γ : GE} {S : SH} {a0 : Nat} {μ : Mem} {X : (Int32 × Mem)} (h : f_X3_lowestBelowNothing S a0 μ = some X) : isO S 3 a0 = true ∧ Ct l γ yX3_lowestBelowNothing cX3_lowestBelowNothing 5 (some .int) rm_X3_lowestBelowNothing [.ref (gb γ + a0)] S μ S X.2 (some (.int X.1)) := by
  unfold f_X3_lowestBelowNothing at h
  obtain ⟨h0, h⟩ := if_some h
  refine ⟨h0, ?_⟩
  have hJ : ∀ (p : Program) (e : Env) (s : State) (m : MethodId) (args : Array Value) (below : List Frame) (meth : Method) (c : Code), FX γ p s m args meth c cX3_lowestBelowNothing RX3 5 → meth.sig.returnType = (some .int) → JJ γ p l e rm_X3_lowestBelowNothing s m args below meth c 5 0 0 (QI below γ S X args s 0 0) S μ 0 [(0, .ref (gb γ + a0))] [] := by
    intro p e s m args below meth c F hr
    refine j_bipush F (-5) dX3_lowestBelowNothing_0 (by decide) ?_
    refine j_istore_n F [(1, .int (-5)), (0, .ref (gb γ + a0))] dX3_lowestBelowNothing_2 rfl (by decide) rfl ?_
    refine j_lconst F 0 dX3_lowestBelowNothing_3 (by decide) ?_
    refine j_lstore_n F [(2, .long 0), (1, .int (-5)), (0, .ref (gb γ + a0))] dX3_lowestBelowNothing_4 rfl (by decide) rfl ?_
    refine j_iconst F 0 dX3_lowestBelowNothing_5 (by decide) ?_
    refine j_istore F [(4, .int 0), (2, .long 0), (1, .int (-5)), (0, .ref (gb γ + a0))] dX3_lowestBelowNothing_6 (by decide) rfl ?_
    refine j_lv [(0, .ref (gb γ + a0)), (1, .int (-5)), (2, .long 0), (4, .int 0)] [3, 2, 1, 0] rfl ?_
    exact s_X3_lowestBelowNothing_8 F hr _ _ _ _ _ h
  exact ct_of (by decide +kernel) (Nat.le_of_ble_eq_true rfl) (fun p e s m args below meth c F hr _ => hJ p e s m args below meth c F hr)
