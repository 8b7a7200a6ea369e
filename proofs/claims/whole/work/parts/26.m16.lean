def rm_X12_lay : Room := { frames := 6, cells := 0, slots := 0, locals := 123 }
theorem dX12_lay_0 : decode cX12_lay 0 = .ok (.iload_n 1, 1) := by decide +kernel
theorem dX12_lay_1 : decode cX12_lay 1 = .ok (.invokestatic 347, 3) := by decide +kernel
theorem dX12_lay_4 : decode cX12_lay 4 = .ok (.ifCond .ne 5, 3) := by decide +kernel
theorem dX12_lay_7 : decode cX12_lay 7 = .ok (.iconst (-1), 1) := by decide +kernel
theorem dX12_lay_8 : decode cX12_lay 8 = .ok (.ireturn, 1) := by decide +kernel
theorem dX12_lay_9 : decode cX12_lay 9 = .ok (.aload_n 0, 1) := by decide +kernel
theorem dX12_lay_10 : decode cX12_lay 10 = .ok (.getfield 82, 3) := by decide +kernel
theorem dX12_lay_13 : decode cX12_lay 13 = .ok (.iload_n 1, 1) := by decide +kernel
theorem dX12_lay_14 : decode cX12_lay 14 = .ok (.iaload, 1) := by decide +kernel
theorem dX12_lay_15 : decode cX12_lay 15 = .ok (.ifCond .ge 6, 3) := by decide +kernel
theorem dX12_lay_18 : decode cX12_lay 18 = .ok (.bipush (-11), 2) := by decide +kernel
theorem dX12_lay_20 : decode cX12_lay 20 = .ok (.ireturn, 1) := by decide +kernel
theorem dX12_lay_21 : decode cX12_lay 21 = .ok (.aload_n 0, 1) := by decide +kernel
theorem dX12_lay_22 : decode cX12_lay 22 = .ok (.invokevirtual 232, 3) := by decide +kernel
theorem dX12_lay_25 : decode cX12_lay 25 = .ok (.ifCond .le 6, 3) := by decide +kernel
theorem dX12_lay_28 : decode cX12_lay 28 = .ok (.bipush (-3), 2) := by decide +kernel
theorem dX12_lay_30 : decode cX12_lay 30 = .ok (.ireturn, 1) := by decide +kernel
theorem dX12_lay_31 : decode cX12_lay 31 = .ok (.iload_n 2, 1) := by decide +kernel
theorem dX12_lay_32 : decode cX12_lay 32 = .ok (.ifCond .ge 6, 3) := by decide +kernel
theorem dX12_lay_35 : decode cX12_lay 35 = .ok (.bipush (-13), 2) := by decide +kernel
theorem dX12_lay_37 : decode cX12_lay 37 = .ok (.ireturn, 1) := by decide +kernel
theorem dX12_lay_38 : decode cX12_lay 38 = .ok (.iconst 0, 1) := by decide +kernel
theorem dX12_lay_39 : decode cX12_lay 39 = .ok (.istore_n 3, 1) := by decide +kernel
theorem dX12_lay_40 : decode cX12_lay 40 = .ok (.iload_n 3, 1) := by decide +kernel
theorem dX12_lay_41 : decode cX12_lay 41 = .ok (.iconst 4, 1) := by decide +kernel
theorem dX12_lay_42 : decode cX12_lay 42 = .ok (.if_icmp .ge 52, 3) := by decide +kernel
theorem dX12_lay_45 : decode cX12_lay 45 = .ok (.iload_n 2, 1) := by decide +kernel
theorem dX12_lay_46 : decode cX12_lay 46 = .ok (.i2l, 1) := by decide +kernel
theorem dX12_lay_47 : decode cX12_lay 47 = .ok (.iload_n 3, 1) := by decide +kernel
theorem dX12_lay_48 : decode cX12_lay 48 = .ok (.i2l, 1) := by decide +kernel
theorem dX12_lay_49 : decode cX12_lay 49 = .ok (.ladd, 1) := by decide +kernel
theorem dX12_lay_50 : decode cX12_lay 50 = .ok (.aload_n 0, 1) := by decide +kernel
theorem dX12_lay_51 : decode cX12_lay 51 = .ok (.getfield 82, 3) := by decide +kernel
theorem dX12_lay_54 : decode cX12_lay 54 = .ok (.iload_n 1, 1) := by decide +kernel
theorem dX12_lay_55 : decode cX12_lay 55 = .ok (.iaload, 1) := by decide +kernel
theorem dX12_lay_56 : decode cX12_lay 56 = .ok (.i2l, 1) := by decide +kernel
theorem dX12_lay_57 : decode cX12_lay 57 = .ok (.lcmp, 1) := by decide +kernel
theorem dX12_lay_58 : decode cX12_lay 58 = .ok (.ifCond .lt 6, 3) := by decide +kernel
theorem dX12_lay_61 : decode cX12_lay 61 = .ok (.bipush (-13), 2) := by decide +kernel
theorem dX12_lay_63 : decode cX12_lay 63 = .ok (.ireturn, 1) := by decide +kernel
theorem dX12_lay_64 : decode cX12_lay 64 = .ok (.aload_n 0, 1) := by decide +kernel
theorem dX12_lay_65 : decode cX12_lay 65 = .ok (.getfield 85, 3) := by decide +kernel
theorem dX12_lay_68 : decode cX12_lay 68 = .ok (.bipush 30, 2) := by decide +kernel
theorem dX12_lay_70 : decode cX12_lay 70 = .ok (.iload_n 1, 1) := by decide +kernel
theorem dX12_lay_71 : decode cX12_lay 71 = .ok (.imul, 1) := by decide +kernel
theorem dX12_lay_72 : decode cX12_lay 72 = .ok (.iload_n 2, 1) := by decide +kernel
theorem dX12_lay_73 : decode cX12_lay 73 = .ok (.iadd, 1) := by decide +kernel
theorem dX12_lay_74 : decode cX12_lay 74 = .ok (.iload_n 3, 1) := by decide +kernel
theorem dX12_lay_75 : decode cX12_lay 75 = .ok (.iadd, 1) := by decide +kernel
theorem dX12_lay_76 : decode cX12_lay 76 = .ok (.aload_n 0, 1) := by decide +kernel
theorem dX12_lay_77 : decode cX12_lay 77 = .ok (.getfield 52, 3) := by decide +kernel
theorem dX12_lay_80 : decode cX12_lay 80 = .ok (.iload_n 3, 1) := by decide +kernel
theorem dX12_lay_81 : decode cX12_lay 81 = .ok (.laload, 1) := by decide +kernel
theorem dX12_lay_82 : decode cX12_lay 82 = .ok (.aload_n 0, 1) := by decide +kernel
theorem dX12_lay_83 : decode cX12_lay 83 = .ok (.getfield 214, 3) := by decide +kernel
theorem dX12_lay_86 : decode cX12_lay 86 = .ok (.ldiv, 1) := by decide +kernel
theorem dX12_lay_87 : decode cX12_lay 87 = .ok (.lastore, 1) := by decide +kernel
theorem dX12_lay_88 : decode cX12_lay 88 = .ok (.iinc 3 1, 3) := by decide +kernel
theorem dX12_lay_91 : decode cX12_lay 91 = .ok (.goto (-51), 3) := by decide +kernel
theorem dX12_lay_94 : decode cX12_lay 94 = .ok (.iconst 4, 1) := by decide +kernel
theorem dX12_lay_95 : decode cX12_lay 95 = .ok (.ireturn, 1) := by decide +kernel
def l_X12_lay_40 (S : SH) (a0 : Nat) (a1 : Int32) (a2 : Int32) (k40 : (Int32 × Mem) → Option (Int32 × Mem)) (x : (Int32 × Mem)) : Option (Int32 × Mem) :=
 (if 4 ≤ x.1 then
 some (4, x.2)
 else
 (gR S 12 a0 37).bind fun v5 =>
 (aI S .int v5 a1 x.2).bind fun v6 =>
 (if (a2.toInt64 + x.1.toInt64) < v6.toInt64 then
 (gR S 12 a0 38).bind fun v7 =>
 (gR S 12 a0 16).bind fun v8 =>
 (aL S v8 x.1 x.2).bind fun v9 =>
 (gL S 12 a0 17 x.2).bind fun v10 =>
 (o_ldiv v9 v10).bind fun v11 =>
 (sL S v7 (((30 * a1) + a2) + x.1) v11 x.2).bind fun ν12 =>
 k40 (x.1 + 1, ν12)
 else
 some ((-13), x.2)))
set_option maxRecDepth 100000 in
set_option maxHeartbeats 4000000 in
theorem t_X12_lay_40 {γ : GE} {p : Program} {l : Launch} {e : Env} {s : State} {m : MethodId} {args : Array Value} {below : List Frame} {meth : Method} {c : Code} {S : SH} {X : (Int32 × Mem)} (F : FX γ p s m args meth c cX12_lay RX12 4) (hr : meth.sig.returnType = (some .int)) (a0 : Nat) (a1 : Int32) (a2 : Int32) (k40 : (Int32 × Mem) → Option (Int32 × Mem)) (hk40 : ∀ (x40_3 : Int32) (ν : Mem), k40 (x40_3, ν) = some X → JJ γ p l e rm_X12_lay s m args below meth c 4 0 0 (QI below γ S X args s 0 0) S ν 40 [(0, .ref (gb γ + a0)), (1, .int a1), (2, .int a2), (3, .int x40_3)] []) (x : (Int32 × Mem)) (h : l_X12_lay_40 S a0 a1 a2 k40 x = some X) : JJ γ p l e rm_X12_lay s m args below meth c 4 0 0 (QI below γ S X args s 0 0) S x.2 40 [(0, .ref (gb γ + a0)), (1, .int a1), (2, .int a2), (3, .int x.1)] [] := by
  unfold l_X12_lay_40 at h
  refine j_iload_n F 3 dX12_lay_40 rfl ?_
  refine j_iconst F 4 dX12_lay_41 (by decide) ?_
  refine j_icmpge F 94 dX12_lay_42 (by decide) h (fun _ h => ?_) (fun _ h => ?_)
  · refine j_iconst F 4 dX12_lay_94 (by decide) ?_
    exact j_iret F hr dX12_lay_95 h
  · refine j_iload_n F 2 dX12_lay_45 rfl ?_
    refine j_i2l F dX12_lay_46 ?_
    refine j_iload_n F 3 dX12_lay_47 rfl ?_
    refine j_i2l F dX12_lay_48 ?_
    refine j_ladd F dX12_lay_49 ?_
    refine j_aload_n F 0 dX12_lay_50 rfl ?_
    refine j_gR F fl_RX12_82 rfl dX12_lay_51 h (fun v5 h => ?_)
    refine j_iload_n F 1 dX12_lay_54 rfl ?_
    refine j_iald F dX12_lay_55 h (fun v6 h => ?_)
    refine j_i2l F dX12_lay_56 ?_
    refine j_lcmplt F 64 dX12_lay_57 dX12_lay_58 (by decide) h (fun _ h => ?_) (fun _ h => ?_)
    · refine j_aload_n F 0 dX12_lay_64 rfl ?_
      refine j_gR F fl_RX12_85 rfl dX12_lay_65 h (fun v7 h => ?_)
      refine j_bipush F 30 dX12_lay_68 (by decide) ?_
      refine j_iload_n F 1 dX12_lay_70 rfl ?_
      refine j_imul F dX12_lay_71 ?_
      refine j_iload_n F 2 dX12_lay_72 rfl ?_
      refine j_iadd F dX12_lay_73 ?_
      refine j_iload_n F 3 dX12_lay_74 rfl ?_
      refine j_iadd F dX12_lay_75 ?_
      refine j_aload_n F 0 dX12_lay_76 rfl ?_
      refine j_gR F fl_RX12_52 rfl dX12_lay_77 h (fun v8 h => ?_)
      refine j_iload_n F 3 dX12_lay_80 rfl ?_
      refine j_lald F dX12_lay_81 h (fun v9 h => ?_)
      refine j_aload_n F 0 dX12_lay_82 rfl ?_
      refine j_gL F fl_RX12_214.l rfl dX12_lay_83 h (fun v10 h => ?_)
      refine j_ldiv F dX12_lay_86 h (fun v11 h => ?_)
      refine j_last F dX12_lay_87 h (fun ν12 h => ?_)
      refine j_iinc F 1 3 [(3, .int (x.1 + 1)), (0, .ref (gb γ + a0)), (1, .int a1), (2, .int a2)] dX12_lay_88 rfl (by decide) (by decide) rfl ?_
      refine j_goto F 40 dX12_lay_91 (by decide) ?_
      refine j_lv [(0, .ref (gb γ + a0)), (1, .int a1), (2, .int a2), (3, .int (x.1 + 1))] [1, 2, 3, 0] rfl ?_
      exact hk40 _ _ h
    · refine j_bipush F (-13) dX12_lay_61 (by decide) ?_
      exact j_iret F hr dX12_lay_63 h
theorem s_X12_lay_40 {γ : GE} {p : Program} {l : Launch} {e : Env} {s : State} {m : MethodId} {args : Array Value} {below : List Frame} {meth : Method} {c : Code} {S : SH} {X : (Int32 × Mem)} (F : FX γ p s m args meth c cX12_lay RX12 4) (hr : meth.sig.returnType = (some .int)) (a0 : Nat) (a1 : Int32) (a2 : Int32) (x40_3 : Int32) (ν : Mem) (h : lpN (l_X12_lay_40 S a0 a1 a2) fu (x40_3, ν) = some X) : JJ γ p l e rm_X12_lay s m args below meth c 4 0 0 (QI below γ S X args s 0 0) S ν 40 [(0, .ref (gb γ + a0)), (1, .int a1), (2, .int a2), (3, .int x40_3)] [] :=
 lpN_sound (fun x => JJ γ p l e rm_X12_lay s m args below meth c 4 0 0 (QI below γ S X args s 0 0) S x.2 40 [(0, .ref (gb γ + a0)), (1, .int a1), (2, .int a2), (3, .int x.1)] []) (fun k40 hk40 x h => t_X12_lay_40 F hr a0 a1 a2 k40 (fun x40_3 ν h => hk40 (x40_3, ν) h) x h) fu (x40_3, ν) h
def f_X12_lay (S : SH) (a0 : Nat) (a1 : Int32) (a2 : Int32) (μ : Mem) : Option (Int32 × Mem) :=
  if isO S 12 a0 = true then
  (f_X12_isList S a1 μ).bind fun q1 =>
  (if q1.1 = 0 then
  some ((-1), q1.2)
  else
  (gR S 12 a0 37).bind fun v2 =>
  (aI S .int v2 a1 q1.2).bind fun v3 =>
  (if 0 ≤ v3 then
  (f_X12_pushes S a0 q1.2).bind fun q4 =>
  (if q4.1 ≤ 0 then
  (if 0 ≤ a2 then
  lpN (l_X12_lay_40 S  a0 a1 a2) fu (0, q4.2)
  else
  some ((-13), q4.2))
  else
  some ((-3), q4.2))
  else
  some ((-11), q1.2)))
  else none
set_option maxRecDepth 100000 in
set_option maxHeartbeats 4000000 in
theorem c_X12_lay {l : Launch} {γ : GE} {S : SH} {a0 : Nat} {a1 : Int32} {a2 : Int32} {μ : Mem} {X : (Int32 × Mem)} (h : f_X12_lay S a0 a1 a2 μ = some X) : isO S 12 a0 = true ∧ Ct l γ yX12_lay cX12_lay 4 (some .int) rm_X12_lay [.ref (gb γ + a0), .int a1, .int a2] S μ S X.2 (some (.int X.1)) := by
  unfold f_X12_lay at h
  obtain ⟨h0, h⟩ := if_some h
  refine ⟨h0, ?_⟩
  have hJ : ∀ (p : Program) (e : Env) (s : State) (m : MethodId) (args : Array Value) (below : List Frame) (meth : Method) (c : Code), FX γ p s m args meth c cX12_lay RX12 4 → meth.sig.returnType = (some .int) → JJ γ p l e rm_X12_lay s m args below meth c 4 0 0 (QI below γ S X args s 0 0) S μ 0 [(0, .ref (gb γ + a0)), (1, .int a1), (2, .int a2)] [] := by
    intro p e s m args below meth c F hr
    refine j_iload_n F 1 dX12_lay_0 rfl ?_
    refine j_cSI F mi_X12_isList w_1434 (rest := []) h (fun _ g => c_X12_isList g) rfl rfl (Nat.le_of_ble_eq_true rfl) ⟨Nat.le_of_ble_eq_true rfl, Nat.le_of_ble_eq_true rfl⟩ ⟨Nat.le_of_ble_eq_true rfl, Nat.le_of_ble_eq_true rfl⟩ dX12_lay_1 (fun q1 h => ?_)
    refine j_ifne F 9 dX12_lay_4 (by decide) h (fun _ h => ?_) (fun _ h => ?_)
    · refine j_aload_n F 0 dX12_lay_9 rfl ?_
      refine j_gR F fl_RX12_82 rfl dX12_lay_10 h (fun v2 h => ?_)
      refine j_iload_n F 1 dX12_lay_13 rfl ?_
      refine j_iald F dX12_lay_14 h (fun v3 h => ?_)
      refine j_ifge F 21 dX12_lay_15 (by decide) h (fun _ h => ?_) (fun _ h => ?_)
      · refine j_aload_n F 0 dX12_lay_21 rfl ?_
        refine j_cVI F mi_X12_pushes w_1261 (rest := []) h (fun _ g => c_X12_pushes g) rfl rfl (Nat.le_of_ble_eq_true rfl) ⟨Nat.le_of_ble_eq_true rfl, Nat.le_of_ble_eq_true rfl⟩ ⟨Nat.le_of_ble_eq_true rfl, Nat.le_of_ble_eq_true rfl⟩ dX12_lay_22 (fun q4 h => ?_)
        refine j_ifle F 31 dX12_lay_25 (by decide) h (fun _ h => ?_) (fun _ h => ?_)
        · refine j_iload_n F 2 dX12_lay_31 rfl ?_
          refine j_ifge F 38 dX12_lay_32 (by decide) h (fun _ h => ?_) (fun _ h => ?_)
          · refine j_iconst F 0 dX12_lay_38 (by decide) ?_
            refine j_istore_n F [(3, .int 0), (0, .ref (gb γ + a0)), (1, .int a1), (2, .int a2)] dX12_lay_39 rfl (by decide) rfl ?_
            refine j_lv [(0, .ref (gb γ + a0)), (1, .int a1), (2, .int a2), (3, .int 0)] [1, 2, 3, 0] rfl ?_
            exact s_X12_lay_40 F hr _ _ _ _ _ h
          · refine j_bipush F (-13) dX12_lay_35 (by decide) ?_
            exact j_iret F hr dX12_lay_37 h
        · refine j_bipush F (-3) dX12_lay_28 (by decide) ?_
          exact j_iret F hr dX12_lay_30 h
      · refine j_bipush F (-11) dX12_lay_18 (by decide) ?_
        exact j_iret F hr dX12_lay_20 h
    · refine j_iconst F (-1) dX12_lay_7 (by decide) ?_
      exact j_iret F hr dX12_lay_8 h
  exact ct_of (by decide +kernel) (Nat.le_of_ble_eq_true rfl) (fun p e s m args below meth c F hr _ => hJ p e s m args below meth c F hr)
def rm_X12_list : Room := { frames := 2, cells := 0, slots := 0, locals := 42 }
theorem dX12_list_0 : decode cX12_list 0 = .ok (.iload_n 1, 1) := by decide +kernel
theorem dX12_list_1 : decode cX12_list 1 = .ok (.invokestatic 347, 3) := by decide +kernel
theorem dX12_list_4 : decode cX12_list 4 = .ok (.ifCond .ne 5, 3) := by decide +kernel
theorem dX12_list_7 : decode cX12_list 7 = .ok (.iconst (-1), 1) := by decide +kernel
theorem dX12_list_8 : decode cX12_list 8 = .ok (.ireturn, 1) := by decide +kernel
theorem dX12_list_9 : decode cX12_list 9 = .ok (.iload_n 2, 1) := by decide +kernel
theorem dX12_list_10 : decode cX12_list 10 = .ok (.bipush 30, 2) := by decide +kernel
theorem dX12_list_12 : decode cX12_list 12 = .ok (.if_icmp .le 6, 3) := by decide +kernel
theorem dX12_list_15 : decode cX12_list 15 = .ok (.bipush (-2), 2) := by decide +kernel
theorem dX12_list_17 : decode cX12_list 17 = .ok (.ireturn, 1) := by decide +kernel
theorem dX12_list_18 : decode cX12_list 18 = .ok (.iload_n 2, 1) := by decide +kernel
theorem dX12_list_19 : decode cX12_list 19 = .ok (.ifCond .ge 6, 3) := by decide +kernel
theorem dX12_list_22 : decode cX12_list 22 = .ok (.bipush (-14), 2) := by decide +kernel
theorem dX12_list_24 : decode cX12_list 24 = .ok (.ireturn, 1) := by decide +kernel
theorem dX12_list_25 : decode cX12_list 25 = .ok (.aload_n 0, 1) := by decide +kernel
theorem dX12_list_26 : decode cX12_list 26 = .ok (.getfield 82, 3) := by decide +kernel
theorem dX12_list_29 : decode cX12_list 29 = .ok (.iload_n 1, 1) := by decide +kernel
theorem dX12_list_30 : decode cX12_list 30 = .ok (.iload_n 2, 1) := by decide +kernel
theorem dX12_list_31 : decode cX12_list 31 = .ok (.iastore, 1) := by decide +kernel
theorem dX12_list_32 : decode cX12_list 32 = .ok (.iconst 0, 1) := by decide +kernel
theorem dX12_list_33 : decode cX12_list 33 = .ok (.istore_n 3, 1) := by decide +kernel
theorem dX12_list_34 : decode cX12_list 34 = .ok (.iload_n 3, 1) := by decide +kernel
theorem dX12_list_35 : decode cX12_list 35 = .ok (.bipush 30, 2) := by decide +kernel
theorem dX12_list_37 : decode cX12_list 37 = .ok (.if_icmp .ge 21, 3) := by decide +kernel
theorem dX12_list_40 : decode cX12_list 40 = .ok (.aload_n 0, 1) := by decide +kernel
theorem dX12_list_41 : decode cX12_list 41 = .ok (.getfield 85, 3) := by decide +kernel
theorem dX12_list_44 : decode cX12_list 44 = .ok (.bipush 30, 2) := by decide +kernel
theorem dX12_list_46 : decode cX12_list 46 = .ok (.iload_n 1, 1) := by decide +kernel
theorem dX12_list_47 : decode cX12_list 47 = .ok (.imul, 1) := by decide +kernel
theorem dX12_list_48 : decode cX12_list 48 = .ok (.iload_n 3, 1) := by decide +kernel
theorem dX12_list_49 : decode cX12_list 49 = .ok (.iadd, 1) := by decide +kernel
theorem dX12_list_50 : decode cX12_list 50 = .ok (.lconst 0, 1) := by decide +kernel
theorem dX12_list_51 : decode cX12_list 51 = .ok (.lastore, 1) := by decide +kernel
theorem dX12_list_52 : decode cX12_list 52 = .ok (.iinc 3 1, 3) := by decide +kernel
theorem dX12_list_55 : decode cX12_list 55 = .ok (.goto (-21), 3) := by decide +kernel
theorem dX12_list_58 : decode cX12_list 58 = .ok (.iconst 1, 1) := by decide +kernel
theorem dX12_list_59 : decode cX12_list 59 = .ok (.ireturn, 1) := by decide +kernel
def l_X12_list_34 (S : SH) (a0 : Nat) (a1 : Int32) (k34 : (Int32 × Mem) → Option (Int32 × Mem)) (x : (Int32 × Mem)) : Option (Int32 × Mem) :=
 (if 30 ≤ x.1 then
 some (1, x.2)
 else
 (gR S 12 a0 38).bind fun v4 =>
 (sL S v4 ((30 * a1) + x.1) 0 x.2).bind fun ν5 =>
 k34 (x.1 + 1, ν5))
set_option maxRecDepth 100000 in
set_option maxHeartbeats 4000000 in
theorem t_X12_list_34 {γ : GE} {p : Program} {l : Launch} {e : Env} {s : State} {m : MethodId} {args : Array Value} {below : List Frame} {meth : Method} {c : Code} {S : SH} {X : (Int32 × Mem)} (F : FX γ p s m args meth c cX12_list RX12 4) (hr : meth.sig.returnType = (some .int)) (a0 : Nat) (a1 : Int32) (k34 : (Int32 × Mem) → Option (Int32 × Mem)) (hk34 : ∀ (x34_3 : Int32) (ν : Mem), k34 (x34_3, ν) = some X → JJ γ p l e rm_X12_list s m args below meth c 4 0 0 (QI below γ S X args s 0 0) S ν 34 [(0, .ref (gb γ + a0)), (1, .int a1), (3, .int x34_3)] []) (x : (Int32 × Mem)) (h : l_X12_list_34 S a0 a1 k34 x = some X) : JJ γ p l e rm_X12_list s m args below meth c 4 0 0 (QI below γ S X args s 0 0) S x.2 34 [(0, .ref (gb γ + a0)), (1, .int a1), (3, .int x.1)] [] := by
  unfold l_X12_list_34 at h
  refine j_iload_n F 2 dX12_list_34 rfl ?_
  refine j_bipush F 30 dX12_list_35 (by decide) ?_
  refine j_icmpge F 58 dX12_list_37 (by decide) h (fun _ h => ?_) (fun _ h => ?_)
  · refine j_iconst F 1 dX12_list_58 (by decide) ?_
    exact j_iret F hr dX12_list_59 h
  · refine j_aload_n F 0 dX12_list_40 rfl ?_
    refine j_gR F fl_RX12_85 rfl dX12_list_41 h (fun v4 h => ?_)
    refine j_bipush F 30 dX12_list_44 (by decide) ?_
    refine j_iload_n F 1 dX12_list_46 rfl ?_
    refine j_imul F dX12_list_47 ?_
    refine j_iload_n F 2 dX12_list_48 rfl ?_
    refine j_iadd F dX12_list_49 ?_
    refine j_lconst F 0 dX12_list_50 (by decide) ?_
    refine j_last F dX12_list_51 h (fun ν5 h => ?_)
    refine j_iinc F 1 2 [(3, .int (x.1 + 1)), (0, .ref (gb γ + a0)), (1, .int a1)] dX12_list_52 rfl (by decide) (by decide) rfl ?_
    refine j_goto F 34 dX12_list_55 (by decide) ?_
    refine j_lv [(0, .ref (gb γ + a0)), (1, .int a1), (3, .int (x.1 + 1))] [1, 2, 0] rfl ?_
    exact hk34 _ _ h
theorem s_X12_list_34 {γ : GE} {p : Program} {l : Launch} {e : Env} {s : State} {m : MethodId} {args : Array Value} {below : List Frame} {meth : Method} {c : Code} {S : SH} {X : (Int32 × Mem)} (F : FX γ p s m args meth c cX12_list RX12 4) (hr : meth.sig.returnType = (some .int)) (a0 : Nat) (a1 : Int32) (x34_3 : Int32) (ν : Mem) (h : lpN (l_X12_list_34 S a0 a1) fu (x34_3, ν) = some X) : JJ γ p l e rm_X12_list s m args below meth c 4 0 0 (QI below γ S X args s 0 0) S ν 34 [(0, .ref (gb γ + a0)), (1, .int a1), (3, .int x34_3)] [] :=
 lpN_sound (fun x => JJ γ p l e rm_X12_list s m args below meth c 4 0 0 (QI below γ S X args s 0 0) S x.2 34 [(0, .ref (gb γ + a0)), (1, .int a1), (3, .int x.1)] []) (fun k34 hk34 x h => t_X12_list_34 F hr a0 a1 k34 (fun x34_3 ν h => hk34 (x34_3, ν) h) x h) fu (x34_3, ν) h
def f_X12_list (S : SH) (a0 : Nat) (a1 : Int32) (a2 : Int32) (μ : Mem) : Option (Int32 × Mem) :=
  if isO S 12 a0 = true then
  (f_X12_isList S a1 μ).bind fun q1 =>
  (if q1.1 = 0 then
  some ((-1), q1.2)
  else
  (if a2 ≤ 30 then
  (if 0 ≤ a2 then
  (gR S 12 a0 37).bind fun v2 =>
  (sI S v2 a1 a2 q1.2).bind fun ν3 =>
  lpN (l_X12_list_34 S  a0 a1) fu (0, ν3)
  else
  some ((-14), q1.2))
  else
  some ((-2), q1.2)))
  else none
set_option maxRecDepth 100000 in
set_option maxHeartbeats 4000000 in
theorem c_X12_list {l : Launch} {γ : GE} {S : SH} {a0 : Nat} {a1 : Int32} {a2 : Int32} {μ : Mem} {X : (Int32 × Mem)} (h : f_X12_list S a0 a1 a2 μ = some X) : isO S 12 a0 = true ∧ Ct l γ yX12_list cX12_list 4 (some .int) rm_X12_list [.ref (gb γ + a0), .int a1, .int a2] S μ S X.2 (some (.int X.1)) := by
  unfold f_X12_list at h
  obtain ⟨h0, h⟩ := if_some h
  refine ⟨h0, ?_⟩
  have hJ : ∀ (p : Program) (e : Env) (s : State) (m : MethodId) (args : Array Value) (below : List Frame) (meth : Method) (c : Code), FX γ p s m args meth c cX12_list RX12 4 → meth.sig.returnType = (some .int) → JJ γ p l e rm_X12_list s m args below meth c 4 0 0 (QI below γ S X args s 0 0) S μ 0 [(0, .ref (gb γ + a0)), (1, .int a1), (2, .int a2)] [] := by
    intro p e s m args below meth c F hr
    refine j_iload_n F 1 dX12_list_0 rfl ?_
    refine j_cSI F mi_X12_isList w_1434 (rest := []) h (fun _ g => c_X12_isList g) rfl rfl (Nat.le_of_ble_eq_true rfl) ⟨Nat.le_of_ble_eq_true rfl, Nat.le_of_ble_eq_true rfl⟩ ⟨Nat.le_of_ble_eq_true rfl, Nat.le_of_ble_eq_true rfl⟩ dX12_list_1 (fun q1 h => ?_)
    refine j_ifne F 9 dX12_list_4 (by decide) h (fun _ h => ?_) (fun _ h => ?_)
    · refine j_iload_n F 2 dX12_list_9 rfl ?_
      refine j_bipush F 30 dX12_list_10 (by decide) ?_
      refine j_icmple F 18 dX12_list_12 (by decide) h (fun _ h => ?_) (fun _ h => ?_)
      · refine j_iload_n F 2 dX12_list_18 rfl ?_
        refine j_ifge F 25 dX12_list_19 (by decide) h (fun _ h => ?_) (fun _ h => ?_)
        · refine j_aload_n F 0 dX12_list_25 rfl ?_
          refine j_gR F fl_RX12_82 rfl dX12_list_26 h (fun v2 h => ?_)
          refine j_iload_n F 1 dX12_list_29 rfl ?_
          refine j_iload_n F 2 dX12_list_30 rfl ?_
          refine j_iast F dX12_list_31 h (fun ν3 h => ?_)
          refine j_iconst F 0 dX12_list_32 (by decide) ?_
          refine j_istore_n F [(3, .int 0), (0, .ref (gb γ + a0)), (1, .int a1), (2, .int a2)] dX12_list_33 rfl (by decide) rfl ?_
          refine j_lv [(0, .ref (gb γ + a0)), (1, .int a1), (3, .int 0)] [1, 2, 0] rfl ?_
          exact s_X12_list_34 F hr _ _ _ _ h
        · refine j_bipush F (-14) dX12_list_22 (by decide) ?_
          exact j_iret F hr dX12_list_24 h
      · refine j_bipush F (-2) dX12_list_15 (by decide) ?_
        exact j_iret F hr dX12_list_17 h
    · refine j_iconst F (-1) dX12_list_7 (by decide) ?_
      exact j_iret F hr dX12_list_8 h
  exact ct_of (by decide +kernel) (Nat.le_of_ble_eq_true rfl) (fun p e s m args below meth c F hr _ => hJ p e s m args below meth c F hr)
def rm_X12_set : Room := { frames := 2, cells := 0, slots := 0, locals := 42 }
theorem dX12_set_0 : decode cX12_set 0 = .ok (.iload_n 1, 1) := by decide +kernel
theorem dX12_set_1 : decode cX12_set 1 = .ok (.invokestatic 347, 3) := by decide +kernel
theorem dX12_set_4 : decode cX12_set 4 = .ok (.ifCond .ne 5, 3) := by decide +kernel
theorem dX12_set_7 : decode cX12_set 7 = .ok (.iconst (-1), 1) := by decide +kernel
theorem dX12_set_8 : decode cX12_set 8 = .ok (.ireturn, 1) := by decide +kernel
theorem dX12_set_9 : decode cX12_set 9 = .ok (.aload_n 0, 1) := by decide +kernel
theorem dX12_set_10 : decode cX12_set 10 = .ok (.getfield 82, 3) := by decide +kernel
theorem dX12_set_13 : decode cX12_set 13 = .ok (.iload_n 1, 1) := by decide +kernel
theorem dX12_set_14 : decode cX12_set 14 = .ok (.iaload, 1) := by decide +kernel
theorem dX12_set_15 : decode cX12_set 15 = .ok (.ifCond .ge 6, 3) := by decide +kernel
theorem dX12_set_18 : decode cX12_set 18 = .ok (.bipush (-11), 2) := by decide +kernel
theorem dX12_set_20 : decode cX12_set 20 = .ok (.ireturn, 1) := by decide +kernel
theorem dX12_set_21 : decode cX12_set 21 = .ok (.iload_n 2, 1) := by decide +kernel
theorem dX12_set_22 : decode cX12_set 22 = .ok (.iconst 0, 1) := by decide +kernel
theorem dX12_set_23 : decode cX12_set 23 = .ok (.aload_n 0, 1) := by decide +kernel
theorem dX12_set_24 : decode cX12_set 24 = .ok (.getfield 82, 3) := by decide +kernel
theorem dX12_set_27 : decode cX12_set 27 = .ok (.iload_n 1, 1) := by decide +kernel
theorem dX12_set_28 : decode cX12_set 28 = .ok (.iaload, 1) := by decide +kernel
theorem dX12_set_29 : decode cX12_set 29 = .ok (.iconst 1, 1) := by decide +kernel
theorem dX12_set_30 : decode cX12_set 30 = .ok (.isub, 1) := by decide +kernel
theorem dX12_set_31 : decode cX12_set 31 = .ok (.invokestatic 95, 3) := by decide +kernel
theorem dX12_set_34 : decode cX12_set 34 = .ok (.ifCond .ne 6, 3) := by decide +kernel
theorem dX12_set_37 : decode cX12_set 37 = .ok (.bipush (-13), 2) := by decide +kernel
theorem dX12_set_39 : decode cX12_set 39 = .ok (.ireturn, 1) := by decide +kernel
theorem dX12_set_40 : decode cX12_set 40 = .ok (.aload_n 0, 1) := by decide +kernel
theorem dX12_set_41 : decode cX12_set 41 = .ok (.getfield 85, 3) := by decide +kernel
theorem dX12_set_44 : decode cX12_set 44 = .ok (.bipush 30, 2) := by decide +kernel
theorem dX12_set_46 : decode cX12_set 46 = .ok (.iload_n 1, 1) := by decide +kernel
theorem dX12_set_47 : decode cX12_set 47 = .ok (.imul, 1) := by decide +kernel
theorem dX12_set_48 : decode cX12_set 48 = .ok (.iload_n 2, 1) := by decide +kernel
theorem dX12_set_49 : decode cX12_set 49 = .ok (.iadd, 1) := by decide +kernel
theorem dX12_set_50 : decode cX12_set 50 = .ok (.lload_n 3, 1) := by decide +kernel
theorem dX12_set_51 : decode cX12_set 51 = .ok (.lastore, 1) := by decide +kernel
theorem dX12_set_52 : decode cX12_set 52 = .ok (.iconst 1, 1) := by decide +kernel
theorem dX12_set_53 : decode cX12_set 53 = .ok (.ireturn, 1) := by decide +kernel
def f_X12_set (S : SH) (a0 : Nat) (a1 : Int32) (a2 : Int32) (a3 : Int64) (μ : Mem) : Option (Int32 × Mem) :=
  if isO S 12 a0 = true then
  (f_X12_isList S a1 μ).bind fun q1 =>
  (if q1.1 = 0 then
  some ((-1), q1.2)
  else
  (gR S 12 a0 37).bind fun v2 =>
  (aI S .int v2 a1 q1.2).bind fun v3 =>
  (if 0 ≤ v3 then
  (gR S 12 a0 37).bind fun v4 =>
  (aI S .int v4 a1 q1.2).bind fun v5 =>
  (f_X12_in S a2 0 (v5 - 1) q1.2).bind fun q6 =>
  (if q6.1 = 0 then
  some ((-13), q6.2)
  else
  (gR S 12 a0 38).bind fun v7 =>
  (sL S v7 ((30 * a1) + a2) a3 q6.2).bind fun ν8 =>
  some (1, ν8))
  else
  some ((-11), q1.2)))
  else none
set_option maxRecDepth 100000 in
set_option maxHeartbeats 4000000 in
theorem c_X12_set {l : Launch} {γ : GE} {S : SH} {a0 : Nat} {a1 : Int32} {a2 : Int32} {a3 : Int64} {μ : Mem} {X : (Int32 × Mem)} (h : f_X12_set S a0 a1 a2 a3 μ = some X) : isO S 12 a0 = true ∧ Ct l γ yX12_set cX12_set 5 (some .int) rm_X12_set [.ref (gb γ + a0), .int a1, .int a2, .long a3] S μ S X.2 (some (.int X.1)) := by
  unfold f_X12_set at h
  obtain ⟨h0, h⟩ := if_some h
  refine ⟨h0, ?_⟩
  have hJ : ∀ (p : Program) (e : Env) (s : State) (m : MethodId) (args : Array Value) (below : List Frame) (meth : Method) (c : Code), FX γ p s m args meth c cX12_set RX12 5 → meth.sig.returnType = (some .int) → JJ γ p l e rm_X12_set s m args below meth c 5 0 0 (QI below γ S X args s 0 0) S μ 0 [(0, .ref (gb γ + a0)), (1, .int a1), (2, .int a2), (3, .long a3)] [] := by
    intro p e s m args below meth c F hr
    refine j_iload_n F 1 dX12_set_0 rfl ?_
    refine j_cSI F mi_X12_isList w_1434 (rest := []) h (fun _ g => c_X12_isList g) rfl rfl (Nat.le_of_ble_eq_true rfl) ⟨Nat.le_of_ble_eq_true rfl, Nat.le_of_ble_eq_true rfl⟩ ⟨Nat.le_of_ble_eq_true rfl, Nat.le_of_ble_eq_true rfl⟩ dX12_set_1 (fun q1 h => ?_)
    refine j_ifne F 9 dX12_set_4 (by decide) h (fun _ h => ?_) (fun _ h => ?_)
    · refine j_aload_n F 0 dX12_set_9 rfl ?_
      refine j_gR F fl_RX12_82 rfl dX12_set_10 h (fun v2 h => ?_)
      refine j_iload_n F 1 dX12_set_13 rfl ?_
      refine j_iald F dX12_set_14 h (fun v3 h => ?_)
      refine j_ifge F 21 dX12_set_15 (by decide) h (fun _ h => ?_) (fun _ h => ?_)
      · refine j_iload_n F 2 dX12_set_21 rfl ?_
        refine j_iconst F 0 dX12_set_22 (by decide) ?_
        refine j_aload_n F 0 dX12_set_23 rfl ?_
        refine j_gR F fl_RX12_82 rfl dX12_set_24 h (fun v4 h => ?_)
        refine j_iload_n F 1 dX12_set_27 rfl ?_
        refine j_iald F dX12_set_28 h (fun v5 h => ?_)
        refine j_iconst F 1 dX12_set_29 (by decide) ?_
        refine j_isub F dX12_set_30 ?_
        refine j_cSI F mi_X12_in w_1104 (rest := []) h (fun _ g => c_X12_in g) rfl rfl (Nat.le_of_ble_eq_true rfl) ⟨Nat.le_of_ble_eq_true rfl, Nat.le_of_ble_eq_true rfl⟩ ⟨Nat.le_of_ble_eq_true rfl, Nat.le_of_ble_eq_true rfl⟩ dX12_set_31 (fun q6 h => ?_)
        refine j_ifne F 40 dX12_set_34 (by decide) h (fun _ h => ?_) (fun _ h => ?_)
        · refine j_aload_n F 0 dX12_set_40 rfl ?_
          refine j_gR F fl_RX12_85 rfl dX12_set_41 h (fun v7 h => ?_)
          refine j_bipush F 30 dX12_set_44 (by decide) ?_
          refine j_iload_n F 1 dX12_set_46 rfl ?_
          refine j_imul F dX12_set_47 ?_
          refine j_iload_n F 2 dX12_set_48 rfl ?_
          refine j_iadd F dX12_set_49 ?_
          refine j_lload_n F 3 dX12_set_50 rfl ?_
          refine j_last F dX12_set_51 h (fun ν8 h => ?_)
          refine j_iconst F 1 dX12_set_52 (by decide) ?_
          exact j_iret F hr dX12_set_53 h
        · refine j_bipush F (-13) dX12_set_37 (by decide) ?_
          exact j_iret F hr dX12_set_39 h
      · refine j_bipush F (-11) dX12_set_18 (by decide) ?_
        exact j_iret F hr dX12_set_20 h
    · refine j_iconst F (-1) dX12_set_7 (by decide) ?_
      exact j_iret F hr dX12_set_8 h
  exact ct_of (by decide +kernel) (Nat.le_of_ble_eq_true rfl) (fun p e s m args below meth c F hr _ => hJ p e s m args below meth c F hr)
def rm_X12_get : Room := { frames := 2, cells := 0, slots := 0, locals := 42 }
theorem dX12_get_0 : decode cX12_get 0 = .ok (.iload_n 1, 1) := by decide +kernel
theorem dX12_get_1 : decode cX12_get 1 = .ok (.invokestatic 347, 3) := by decide +kernel
theorem dX12_get_4 : decode cX12_get 4 = .ok (.ifCond .eq 33, 3) := by decide +kernel
theorem dX12_get_7 : decode cX12_get 7 = .ok (.iload_n 2, 1) := by decide +kernel
theorem dX12_get_8 : decode cX12_get 8 = .ok (.iconst 0, 1) := by decide +kernel
theorem dX12_get_9 : decode cX12_get 9 = .ok (.aload_n 0, 1) := by decide +kernel
theorem dX12_get_10 : decode cX12_get 10 = .ok (.getfield 82, 3) := by decide +kernel
theorem dX12_get_13 : decode cX12_get 13 = .ok (.iload_n 1, 1) := by decide +kernel
theorem dX12_get_14 : decode cX12_get 14 = .ok (.iaload, 1) := by decide +kernel
theorem dX12_get_15 : decode cX12_get 15 = .ok (.iconst 1, 1) := by decide +kernel
theorem dX12_get_16 : decode cX12_get 16 = .ok (.isub, 1) := by decide +kernel
theorem dX12_get_17 : decode cX12_get 17 = .ok (.invokestatic 95, 3) := by decide +kernel
theorem dX12_get_20 : decode cX12_get 20 = .ok (.ifCond .eq 17, 3) := by decide +kernel
theorem dX12_get_23 : decode cX12_get 23 = .ok (.aload_n 0, 1) := by decide +kernel
theorem dX12_get_24 : decode cX12_get 24 = .ok (.getfield 85, 3) := by decide +kernel
theorem dX12_get_27 : decode cX12_get 27 = .ok (.bipush 30, 2) := by decide +kernel
theorem dX12_get_29 : decode cX12_get 29 = .ok (.iload_n 1, 1) := by decide +kernel
theorem dX12_get_30 : decode cX12_get 30 = .ok (.imul, 1) := by decide +kernel
theorem dX12_get_31 : decode cX12_get 31 = .ok (.iload_n 2, 1) := by decide +kernel
theorem dX12_get_32 : decode cX12_get 32 = .ok (.iadd, 1) := by decide +kernel
theorem dX12_get_33 : decode cX12_get 33 = .ok (.laload, 1) := by decide +kernel
theorem dX12_get_34 : decode cX12_get 34 = .ok (.goto 6, 3) := by decide +kernel
theorem dX12_get_37 : decode cX12_get 37 = .ok (.ldc2_w 131, 3) := by decide +kernel
theorem dX12_get_40 : decode cX12_get 40 = .ok (.lreturn, 1) := by decide +kernel
def f_X12_get (S : SH) (a0 : Nat) (a1 : Int32) (a2 : Int32) (μ : Mem) : Option (Int64 × Mem) :=
  if isO S 12 a0 = true then
  (f_X12_isList S a1 μ).bind fun q1 =>
  (if q1.1 = 0 then
  some ((-9223372036854775808), q1.2)
  else
  (gR S 12 a0 37).bind fun v2 =>
  (aI S .int v2 a1 q1.2).bind fun v3 =>
  (f_X12_in S a2 0 (v3 - 1) q1.2).bind fun q4 =>
  (if q4.1 = 0 then
  some ((-9223372036854775808), q4.2)
  else
  (gR S 12 a0 38).bind fun v5 =>
  (aL S v5 ((30 * a1) + a2) q4.2).bind fun v6 =>
  some (v6, q4.2)))
  else none
set_option maxRecDepth 100000 in
set_option maxHeartbeats 4000000 in
theorem c_X12_get {l : Launch} {γ : GE} {S : SH} {a0 : Nat} {a1 : Int32} {a2 : Int32} {μ : Mem} {X : (Int64 × Mem)} (h : f_X12_get S a0 a1 a2 μ = some X) : isO S 12 a0 = true ∧ Ct l γ yX12_get cX12_get 3 (some .long) rm_X12_get [.ref (gb γ + a0), .int a1, .int a2] S μ S X.2 (some (.long X.1)) := by
  unfold f_X12_get at h
  obtain ⟨h0, h⟩ := if_some h
  refine ⟨h0, ?_⟩
  have hJ : ∀ (p : Program) (e : Env) (s : State) (m : MethodId) (args : Array Value) (below : List Frame) (meth : Method) (c : Code), FX γ p s m args meth c cX12_get RX12 3 → meth.sig.returnType = (some .long) → JJ γ p l e rm_X12_get s m args below meth c 3 0 0 (QL below γ S X args s 0 0) S μ 0 [(0, .ref (gb γ + a0)), (1, .int a1), (2, .int a2)] [] := by
    intro p e s m args below meth c F hr
    refine j_iload_n F 1 dX12_get_0 rfl ?_
    refine j_cSI F mi_X12_isList w_1434 (rest := []) h (fun _ g => c_X12_isList g) rfl rfl (Nat.le_of_ble_eq_true rfl) ⟨Nat.le_of_ble_eq_true rfl, Nat.le_of_ble_eq_true rfl⟩ ⟨Nat.le_of_ble_eq_true rfl, Nat.le_of_ble_eq_true rfl⟩ dX12_get_1 (fun q1 h => ?_)
    refine j_ifeq F 37 dX12_get_4 (by decide) h (fun _ h => ?_) (fun _ h => ?_)
    · refine j_ldc2 F (-9223372036854775808) dX12_get_37 w_1152 ?_
      exact j_lret F hr dX12_get_40 h
    · refine j_iload_n F 2 dX12_get_7 rfl ?_
      refine j_iconst F 0 dX12_get_8 (by decide) ?_
      refine j_aload_n F 0 dX12_get_9 rfl ?_
      refine j_gR F fl_RX12_82 rfl dX12_get_10 h (fun v2 h => ?_)
      refine j_iload_n F 1 dX12_get_13 rfl ?_
      refine j_iald F dX12_get_14 h (fun v3 h => ?_)
      refine j_iconst F 1 dX12_get_15 (by decide) ?_
      refine j_isub F dX12_get_16 ?_
      refine j_cSI F mi_X12_in w_1104 (rest := []) h (fun _ g => c_X12_in g) rfl rfl (Nat.le_of_ble_eq_true rfl) ⟨Nat.le_of_ble_eq_true rfl, Nat.le_of_ble_eq_true rfl⟩ ⟨Nat.le_of_ble_eq_true rfl, Nat.le_of_ble_eq_true rfl⟩ dX12_get_17 (fun q4 h => ?_)
      refine j_ifeq F 37 dX12_get_20 (by decide) h (fun _ h => ?_) (fun _ h => ?_)
      · refine j_ldc2 F (-9223372036854775808) dX12_get_37 w_1152 ?_
        exact j_lret F hr dX12_get_40 h
      · refine j_aload_n F 0 dX12_get_23 rfl ?_
        refine j_gR F fl_RX12_85 rfl dX12_get_24 h (fun v5 h => ?_)
        refine j_bipush F 30 dX12_get_27 (by decide) ?_
        refine j_iload_n F 1 dX12_get_29 rfl ?_
        refine j_imul F dX12_get_30 ?_
        refine j_iload_n F 2 dX12_get_31 rfl ?_
        refine j_iadd F dX12_get_32 ?_
        refine j_lald F dX12_get_33 h (fun v6 h => ?_)
        refine j_goto F 40 dX12_get_34 (by decide) ?_
        exact j_lret F hr dX12_get_40 h
  exact ct_of (by decide +kernel) (Nat.le_of_ble_eq_true rfl) (fun p e s m args below meth c F hr _ => hJ p e s m args below meth c F hr)
def rm_X12_book : Room := { frames := 0, cells := 0, slots := 0, locals := 0 }
theorem dX12_book_0 : decode cX12_book 0 = .ok (.aload_n 0, 1) := by decide +kernel
theorem dX12_book_1 : decode cX12_book 1 = .ok (.getfield 355, 3) := by decide +kernel
theorem dX12_book_4 : decode cX12_book 4 = .ok (.bipush 8, 2) := by decide +kernel
theorem dX12_book_6 : decode cX12_book 6 = .ok (.if_icmp .ne 41, 3) := by decide +kernel
theorem dX12_book_9 : decode cX12_book 9 = .ok (.iconst 3, 1) := by decide +kernel
theorem dX12_book_10 : decode cX12_book 10 = .ok (.istore_n 1, 1) := by decide +kernel
theorem dX12_book_11 : decode cX12_book 11 = .ok (.iload_n 1, 1) := by decide +kernel
theorem dX12_book_12 : decode cX12_book 12 = .ok (.bipush 24, 2) := by decide +kernel
theorem dX12_book_14 : decode cX12_book 14 = .ok (.if_icmp .ge 23, 3) := by decide +kernel
theorem dX12_book_17 : decode cX12_book 17 = .ok (.aload_n 0, 1) := by decide +kernel
theorem dX12_book_18 : decode cX12_book 18 = .ok (.getfield 88, 3) := by decide +kernel
theorem dX12_book_21 : decode cX12_book 21 = .ok (.iload_n 1, 1) := by decide +kernel
theorem dX12_book_22 : decode cX12_book 22 = .ok (.iconst 3, 1) := by decide +kernel
theorem dX12_book_23 : decode cX12_book 23 = .ok (.isub, 1) := by decide +kernel
theorem dX12_book_24 : decode cX12_book 24 = .ok (.aload_n 0, 1) := by decide +kernel
theorem dX12_book_25 : decode cX12_book 25 = .ok (.getfield 88, 3) := by decide +kernel
theorem dX12_book_28 : decode cX12_book 28 = .ok (.iload_n 1, 1) := by decide +kernel
theorem dX12_book_29 : decode cX12_book 29 = .ok (.iaload, 1) := by decide +kernel
theorem dX12_book_30 : decode cX12_book 30 = .ok (.iastore, 1) := by decide +kernel
theorem dX12_book_31 : decode cX12_book 31 = .ok (.iinc 1 1, 3) := by decide +kernel
theorem dX12_book_34 : decode cX12_book 34 = .ok (.goto (-23), 3) := by decide +kernel
theorem dX12_book_37 : decode cX12_book 37 = .ok (.aload_n 0, 1) := by decide +kernel
theorem dX12_book_38 : decode cX12_book 38 = .ok (.dup, 1) := by decide +kernel
theorem dX12_book_39 : decode cX12_book 39 = .ok (.getfield 355, 3) := by decide +kernel
theorem dX12_book_42 : decode cX12_book 42 = .ok (.iconst 1, 1) := by decide +kernel
theorem dX12_book_43 : decode cX12_book 43 = .ok (.isub, 1) := by decide +kernel
theorem dX12_book_44 : decode cX12_book 44 = .ok (.putfield 355, 3) := by decide +kernel
theorem dX12_book_47 : decode cX12_book 47 = .ok (.aload_n 0, 1) := by decide +kernel
theorem dX12_book_48 : decode cX12_book 48 = .ok (.getfield 88, 3) := by decide +kernel
theorem dX12_book_51 : decode cX12_book 51 = .ok (.iconst 3, 1) := by decide +kernel
theorem dX12_book_52 : decode cX12_book 52 = .ok (.aload_n 0, 1) := by decide +kernel
theorem dX12_book_53 : decode cX12_book 53 = .ok (.getfield 355, 3) := by decide +kernel
theorem dX12_book_56 : decode cX12_book 56 = .ok (.imul, 1) := by decide +kernel
theorem dX12_book_57 : decode cX12_book 57 = .ok (.aload_n 0, 1) := by decide +kernel
theorem dX12_book_58 : decode cX12_book 58 = .ok (.getfield 36, 3) := by decide +kernel
theorem dX12_book_61 : decode cX12_book 61 = .ok (.iconst 3, 1) := by decide +kernel
theorem dX12_book_62 : decode cX12_book 62 = .ok (.iaload, 1) := by decide +kernel
theorem dX12_book_63 : decode cX12_book 63 = .ok (.iastore, 1) := by decide +kernel
theorem dX12_book_64 : decode cX12_book 64 = .ok (.aload_n 0, 1) := by decide +kernel
theorem dX12_book_65 : decode cX12_book 65 = .ok (.getfield 88, 3) := by decide +kernel
theorem dX12_book_68 : decode cX12_book 68 = .ok (.iconst 3, 1) := by decide +kernel
theorem dX12_book_69 : decode cX12_book 69 = .ok (.aload_n 0, 1) := by decide +kernel
theorem dX12_book_70 : decode cX12_book 70 = .ok (.getfield 355, 3) := by decide +kernel
theorem dX12_book_73 : decode cX12_book 73 = .ok (.imul, 1) := by decide +kernel
theorem dX12_book_74 : decode cX12_book 74 = .ok (.iconst 1, 1) := by decide +kernel
theorem dX12_book_75 : decode cX12_book 75 = .ok (.iadd, 1) := by decide +kernel
theorem dX12_book_76 : decode cX12_book 76 = .ok (.aload_n 0, 1) := by decide +kernel
theorem dX12_book_77 : decode cX12_book 77 = .ok (.getfield 36, 3) := by decide +kernel
theorem dX12_book_80 : decode cX12_book 80 = .ok (.iconst 0, 1) := by decide +kernel
theorem dX12_book_81 : decode cX12_book 81 = .ok (.iaload, 1) := by decide +kernel
theorem dX12_book_82 : decode cX12_book 82 = .ok (.iastore, 1) := by decide +kernel
theorem dX12_book_83 : decode cX12_book 83 = .ok (.aload_n 0, 1) := by decide +kernel
theorem dX12_book_84 : decode cX12_book 84 = .ok (.getfield 88, 3) := by decide +kernel
theorem dX12_book_87 : decode cX12_book 87 = .ok (.iconst 3, 1) := by decide +kernel
theorem dX12_book_88 : decode cX12_book 88 = .ok (.aload_n 0, 1) := by decide +kernel
theorem dX12_book_89 : decode cX12_book 89 = .ok (.getfield 355, 3) := by decide +kernel
theorem dX12_book_92 : decode cX12_book 92 = .ok (.imul, 1) := by decide +kernel
theorem dX12_book_93 : decode cX12_book 93 = .ok (.iconst 2, 1) := by decide +kernel
theorem dX12_book_94 : decode cX12_book 94 = .ok (.iadd, 1) := by decide +kernel
theorem dX12_book_95 : decode cX12_book 95 = .ok (.aload_n 0, 1) := by decide +kernel
theorem dX12_book_96 : decode cX12_book 96 = .ok (.getfield 36, 3) := by decide +kernel
theorem dX12_book_99 : decode cX12_book 99 = .ok (.iconst 1, 1) := by decide +kernel
theorem dX12_book_100 : decode cX12_book 100 = .ok (.iaload, 1) := by decide +kernel
theorem dX12_book_101 : decode cX12_book 101 = .ok (.iastore, 1) := by decide +kernel
theorem dX12_book_102 : decode cX12_book 102 = .ok (.aload_n 0, 1) := by decide +kernel
theorem dX12_book_103 : decode cX12_book 103 = .ok (.dup, 1) := by decide +kernel
theorem dX12_book_104 : decode cX12_book 104 = .ok (.getfield 355, 3) := by decide +kernel
theorem dX12_book_107 : decode cX12_book 107 = .ok (.iconst 1, 1) := by decide +kernel
theorem dX12_book_108 : decode cX12_book 108 = .ok (.iadd, 1) := by decide +kernel
theorem dX12_book_109 : decode cX12_book 109 = .ok (.putfield 355, 3) := by decide +kernel
theorem dX12_book_112 : decode cX12_book 112 = .ok (.aload_n 0, 1) := by decide +kernel
theorem dX12_book_113 : decode cX12_book 113 = .ok (.getfield 355, 3) := by decide +kernel
theorem dX12_book_116 : decode cX12_book 116 = .ok (.ireturn, 1) := by decide +kernel
def b_X12_book_47 (S : SH) (a0 : Nat) (μ : Mem) : Option (Int32 × Mem) :=
 (gR S 12 a0 40).bind fun v2 =>
 (gI S 12 a0 39 μ).bind fun v3 =>
 (gR S 12 a0 9).bind fun v4 =>
 (aI S .int v4 3 μ).bind fun v5 =>
 (sI S v2 (3 * v3) v5 μ).bind fun ν6 =>
 (gR S 12 a0 40).bind fun v7 =>
 (gI S 12 a0 39 ν6).bind fun v8 =>
 (gR S 12 a0 9).bind fun v9 =>
 (aI S .int v9 0 ν6).bind fun v10 =>
 (sI S v7 ((3 * v8) + 1) v10 ν6).bind fun ν11 =>
 (gR S 12 a0 40).bind fun v12 =>
 (gI S 12 a0 39 ν11).bind fun v13 =>
 (gR S 12 a0 9).bind fun v14 =>
 (aI S .int v14 1 ν11).bind fun v15 =>
 (sI S v12 ((3 * v13) + 2) v15 ν11).bind fun ν16 =>
 (gI S 12 a0 39 ν16).bind fun v17 =>
 (pI S 12 a0 39 (v17 + 1) ν16).bind fun ν18 =>
 (gI S 12 a0 39 ν18).bind fun v19 =>
 some (v19, ν18)
set_option maxRecDepth 100000 in
set_option maxHeartbeats 4000000 in
theorem s_X12_book_47 {γ : GE} {p : Program} {l : Launch} {e : Env} {s : State} {m : MethodId} {args : Array Value} {below : List Frame} {meth : Method} {c : Code} {S : SH} {X : (Int32 × Mem)} (F : FX γ p s m args meth c cX12_book RX12 2) (hr : meth.sig.returnType = (some .int)) (a0 : Nat)    (μ : Mem) (h : b_X12_book_47 S a0 μ = some X) : JJ γ p l e rm_X12_book s m args below meth c 2 0 0 (QI below γ S X args s 0 0) S μ 47 [(0, .ref (gb γ + a0))] [] := by
  unfold b_X12_book_47 at h
  refine j_aload_n F 0 dX12_book_47 rfl ?_
  refine j_gR F fl_RX12_88 rfl dX12_book_48 h (fun v2 h => ?_)
  refine j_iconst F 3 dX12_book_51 (by decide) ?_
  refine j_aload_n F 0 dX12_book_52 rfl ?_
  refine j_gI F fl_RX12_355.l rfl dX12_book_53 h (fun v3 h => ?_)
  refine j_imul F dX12_book_56 ?_
  refine j_aload_n F 0 dX12_book_57 rfl ?_
  refine j_gR F fl_RX12_36 rfl dX12_book_58 h (fun v4 h => ?_)
  refine j_iconst F 3 dX12_book_61 (by decide) ?_
  refine j_iald F dX12_book_62 h (fun v5 h => ?_)
  refine j_iast F dX12_book_63 h (fun ν6 h => ?_)
  refine j_aload_n F 0 dX12_book_64 rfl ?_
  refine j_gR F fl_RX12_88 rfl dX12_book_65 h (fun v7 h => ?_)
  refine j_iconst F 3 dX12_book_68 (by decide) ?_
  refine j_aload_n F 0 dX12_book_69 rfl ?_
  refine j_gI F fl_RX12_355.l rfl dX12_book_70 h (fun v8 h => ?_)
  refine j_imul F dX12_book_73 ?_
  refine j_iconst F 1 dX12_book_74 (by decide) ?_
  refine j_iadd F dX12_book_75 ?_
  refine j_aload_n F 0 dX12_book_76 rfl ?_
  refine j_gR F fl_RX12_36 rfl dX12_book_77 h (fun v9 h => ?_)
  refine j_iconst F 0 dX12_book_80 (by decide) ?_
  refine j_iald F dX12_book_81 h (fun v10 h => ?_)
  refine j_iast F dX12_book_82 h (fun ν11 h => ?_)
  refine j_aload_n F 0 dX12_book_83 rfl ?_
  refine j_gR F fl_RX12_88 rfl dX12_book_84 h (fun v12 h => ?_)
  refine j_iconst F 3 dX12_book_87 (by decide) ?_
  refine j_aload_n F 0 dX12_book_88 rfl ?_
  refine j_gI F fl_RX12_355.l rfl dX12_book_89 h (fun v13 h => ?_)
  refine j_imul F dX12_book_92 ?_
  refine j_iconst F 2 dX12_book_93 (by decide) ?_
  refine j_iadd F dX12_book_94 ?_
  refine j_aload_n F 0 dX12_book_95 rfl ?_
  refine j_gR F fl_RX12_36 rfl dX12_book_96 h (fun v14 h => ?_)
  refine j_iconst F 1 dX12_book_99 (by decide) ?_
  refine j_iald F dX12_book_100 h (fun v15 h => ?_)
  refine j_iast F dX12_book_101 h (fun ν16 h => ?_)
  refine j_aload_n F 0 dX12_book_102 rfl ?_
  refine j_dup F dX12_book_103 rfl ?_
  refine j_gI F fl_RX12_355.l rfl dX12_book_104 h (fun v17 h => ?_)
  refine j_iconst F 1 dX12_book_107 (by decide) ?_
  refine j_iadd F dX12_book_108 ?_
  refine j_pI F fl_RX12_355 rfl dX12_book_109 h (fun ν18 h => ?_)
  refine j_aload_n F 0 dX12_book_112 rfl ?_
  refine j_gI F fl_RX12_355.l rfl dX12_book_113 h (fun v19 h => ?_)
  exact j_iret F hr dX12_book_116 h
def b_X12_book_37 (S : SH) (a0 : Nat) (μ : Mem) : Option (Int32 × Mem) :=
 (gI S 12 a0 39 μ).bind fun v20 =>
 (pI S 12 a0 39 (v20 - 1) μ).bind fun ν21 =>
 b_X12_book_47 S a0 ν21
set_option maxRecDepth 100000 in
set_option maxHeartbeats 4000000 in
theorem s_X12_book_37 {γ : GE} {p : Program} {l : Launch} {e : Env} {s : State} {m : MethodId} {args : Array Value} {below : List Frame} {meth : Method} {c : Code} {S : SH} {X : (Int32 × Mem)} (F : FX γ p s m args meth c cX12_book RX12 2) (hr : meth.sig.returnType = (some .int)) (a0 : Nat)    (μ : Mem) (h : b_X12_book_37 S a0 μ = some X) : JJ γ p l e rm_X12_book s m args below meth c 2 0 0 (QI below γ S X args s 0 0) S μ 37 [(0, .ref (gb γ + a0))] [] := by
  unfold b_X12_book_37 at h
  refine j_aload_n F 0 dX12_book_37 rfl ?_
  refine j_dup F dX12_book_38 rfl ?_
  refine j_gI F fl_RX12_355.l rfl dX12_book_39 h (fun v20 h => ?_)
  refine j_iconst F 1 dX12_book_42 (by decide) ?_
  refine j_isub F dX12_book_43 ?_
  refine j_pI F fl_RX12_355 rfl dX12_book_44 h (fun ν21 h => ?_)
  exact s_X12_book_47 F hr _ _ h
def l_X12_book_11 (S : SH) (a0 : Nat) (k11 : (Int32 × Mem) → Option (Int32 × Mem)) (x : (Int32 × Mem)) : Option (Int32 × Mem) :=
 (if 24 ≤ x.1 then
 b_X12_book_37 S a0 x.2
 else
 (gR S 12 a0 40).bind fun v22 =>
 (gR S 12 a0 40).bind fun v23 =>
 (aI S .int v23 x.1 x.2).bind fun v24 =>
 (sI S v22 (x.1 - 3) v24 x.2).bind fun ν25 =>
 k11 (x.1 + 1, ν25))
set_option maxRecDepth 100000 in
set_option maxHeartbeats 4000000 in
theorem t_X12_book_11 {γ : GE} {p : Program} {l : Launch} {e : Env} {s : State} {m : MethodId} {args : Array Value} {below : List Frame} {meth : Method} {c : Code} {S : SH} {X : (Int32 × Mem)} (F : FX γ p s m args meth c cX12_book RX12 2) (hr : meth.sig.returnType = (some .int)) (a0 : Nat) (k11 : (Int32 × Mem) → Option (Int32 × Mem)) (hk11 : ∀ (x11_1 : Int32) (ν : Mem), k11 (x11_1, ν) = some X → JJ γ p l e rm_X12_book s m args below meth c 2 0 0 (QI below γ S X args s 0 0) S ν 11 [(0, .ref (gb γ + a0)), (1, .int x11_1)] []) (x : (Int32 × Mem)) (h : l_X12_book_11 S a0 k11 x = some X) : JJ γ p l e rm_X12_book s m args below meth c 2 0 0 (QI below γ S X args s 0 0) S x.2 11 [(0, .ref (gb γ + a0)), (1, .int x.1)] [] := by
  unfold l_X12_book_11 at h
  refine j_iload_n F 1 dX12_book_11 rfl ?_
  refine j_bipush F 24 dX12_book_12 (by decide) ?_
  refine j_icmpge F 37 dX12_book_14 (by decide) h (fun _ h => ?_) (fun _ h => ?_)
  · refine j_lv [(0, .ref (gb γ + a0))] [0] rfl ?_
    exact s_X12_book_37 F hr _ _ h
  · refine j_aload_n F 0 dX12_book_17 rfl ?_
    refine j_gR F fl_RX12_88 rfl dX12_book_18 h (fun v22 h => ?_)
    refine j_iload_n F 1 dX12_book_21 rfl ?_
    refine j_iconst F 3 dX12_book_22 (by decide) ?_
    refine j_isub F dX12_book_23 ?_
    refine j_aload_n F 0 dX12_book_24 rfl ?_
    refine j_gR F fl_RX12_88 rfl dX12_book_25 h (fun v23 h => ?_)
    refine j_iload_n F 1 dX12_book_28 rfl ?_
    refine j_iald F dX12_book_29 h (fun v24 h => ?_)
    refine j_iast F dX12_book_30 h (fun ν25 h => ?_)
    refine j_iinc F 1 1 [(1, .int (x.1 + 1)), (0, .ref (gb γ + a0))] dX12_book_31 rfl (by decide) (by decide) rfl ?_
    refine j_goto F 11 dX12_book_34 (by decide) ?_
    refine j_lv [(0, .ref (gb γ + a0)), (1, .int (x.1 + 1))] [1, 0] rfl ?_
    exact hk11 _ _ h
theorem s_X12_book_11 {γ : GE} {p : Program} {l : Launch} {e : Env} {s : State} {m : MethodId} {args : Array Value} {below : List Frame} {meth : Method} {c : Code} {S : SH} {X : (Int32 × Mem)} (F : FX γ p s m args meth c cX12_book RX12 2) (hr : meth.sig.returnType = (some .int)) (a0 : Nat) (x11_1 : Int32) (ν : Mem) (h : lpN (l_X12_book_11 S a0) fu (x11_1, ν) = some X) : JJ γ p l e rm_X12_book s m args below meth c 2 0 0 (QI below γ S X args s 0 0) S ν 11 [(0, .ref (gb γ + a0)), (1, .int x11_1)] [] :=
 lpN_sound (fun x => JJ γ p l e rm_X12_book s m args below meth c 2 0 0 (QI below γ S X args s 0 0) S x.2 11 [(0, .ref (gb γ + a0)), (1, .int x.1)] []) (fun k11 hk11 x h => t_X12_book_11 F hr a0 k11 (fun x11_1 ν h => hk11 (x11_1, ν) h) x h) fu (x11_1, ν) h
def f_X12_book (S : SH) (a0 : Nat) (μ : Mem) : Option (Int32 × Mem) :=
  if isO S 12 a0 = true then
  (gI S 12 a0 39 μ).bind fun v1 =>
  (if v1 = 8 then
  lpN (l_X12_book_11 S  a0) fu (3, μ)
  else
  b_X12_book_47 S a0 μ)
  else none
set_option maxRecDepth 100000 in
set_option maxHeartbeats 4000000 in
theorem c_X12_book {l : Launch} {γ : GE} {S : SH} {a0 : Nat} {μ : Mem} {X : (Int32 × Mem)} (h : f_X12_book S a0 μ = some X) : isO S 12 a0 = true ∧ Ct l γ yX12_book cX12_book 2 (some .int) rm_X12_book [.ref (gb γ + a0)] S μ S X.2 (some (.int X.1)) := by
  unfold f_X12_book at h
  obtain ⟨h0, h⟩ := if_some h
  refine ⟨h0, ?_⟩
  have hJ : ∀ (p : Program) (e : Env) (s : State) (m : MethodId) (args : Array Value) (below : List Frame) (meth : Method) (c : Code), FX γ p s m args meth c cX12_book RX12 2 → meth.sig.returnType = (some .int) → JJ γ p l e rm_X12_book s m args below meth c 2 0 0 (QI below γ S X args s 0 0) S μ 0 [(0, .ref (gb γ + a0))] [] := by
    intro p e s m args below meth c F hr
    refine j_aload_n F 0 dX12_book_0 rfl ?_
    refine j_gI F fl_RX12_355.l rfl dX12_book_1 h (fun v1 h => ?_)
    refine j_bipush F 8 dX12_book_4 (by decide) ?_
    refine j_icmpne F 47 dX12_book_6 (by decide) h (fun _ h => ?_) (fun _ h => ?_)
    · exact s_X12_book_47 F hr _ _ h
    · refine j_iconst F 3 dX12_book_9 (by decide) ?_
      refine j_istore_n F [(1, .int 3), (0, .ref (gb γ + a0))] dX12_book_10 rfl (by decide) rfl ?_
      refine j_lv [(0, .ref (gb γ + a0)), (1, .int 3)] [1, 0] rfl ?_
      exact s_X12_book_11 F hr _ _ _ h
  exact ct_of (by decide +kernel) (Nat.le_of_ble_eq_true rfl) (fun p e s m args below meth c F hr _ => hJ p e s m args below meth c F hr)
def rm_X12_mayLift : Room := { frames := 9, cells := 0, slots := 0, locals := 189 }
theorem dX12_mayLift_0 : decode cX12_mayLift 0 = .ok (.aload_n 0, 1) := by decide +kernel
theorem dX12_mayLift_1 : decode cX12_mayLift 1 = .ok (.getfield 36, 3) := by decide +kernel
theorem dX12_mayLift_4 : decode cX12_mayLift 4 = .ok (.iconst 3, 1) := by decide +kernel
theorem dX12_mayLift_5 : decode cX12_mayLift 5 = .ok (.iaload, 1) := by decide +kernel
theorem dX12_mayLift_6 : decode cX12_mayLift 6 = .ok (.istore_n 2, 1) := by decide +kernel
theorem dX12_mayLift_7 : decode cX12_mayLift 7 = .ok (.aload_n 0, 1) := by decide +kernel
theorem dX12_mayLift_8 : decode cX12_mayLift 8 = .ok (.getfield 36, 3) := by decide +kernel
theorem dX12_mayLift_11 : decode cX12_mayLift 11 = .ok (.iconst 3, 1) := by decide +kernel
theorem dX12_mayLift_12 : decode cX12_mayLift 12 = .ok (.aload_n 0, 1) := by decide +kernel
theorem dX12_mayLift_13 : decode cX12_mayLift 13 = .ok (.getfield 88, 3) := by decide +kernel
theorem dX12_mayLift_16 : decode cX12_mayLift 16 = .ok (.iconst 3, 1) := by decide +kernel
theorem dX12_mayLift_17 : decode cX12_mayLift 17 = .ok (.iload_n 1, 1) := by decide +kernel
theorem dX12_mayLift_18 : decode cX12_mayLift 18 = .ok (.imul, 1) := by decide +kernel
theorem dX12_mayLift_19 : decode cX12_mayLift 19 = .ok (.iaload, 1) := by decide +kernel
theorem dX12_mayLift_20 : decode cX12_mayLift 20 = .ok (.iastore, 1) := by decide +kernel
theorem dX12_mayLift_21 : decode cX12_mayLift 21 = .ok (.aload_n 0, 1) := by decide +kernel
theorem dX12_mayLift_22 : decode cX12_mayLift 22 = .ok (.aload_n 0, 1) := by decide +kernel
theorem dX12_mayLift_23 : decode cX12_mayLift 23 = .ok (.getfield 88, 3) := by decide +kernel
theorem dX12_mayLift_26 : decode cX12_mayLift 26 = .ok (.iconst 3, 1) := by decide +kernel
theorem dX12_mayLift_27 : decode cX12_mayLift 27 = .ok (.iload_n 1, 1) := by decide +kernel
theorem dX12_mayLift_28 : decode cX12_mayLift 28 = .ok (.imul, 1) := by decide +kernel
theorem dX12_mayLift_29 : decode cX12_mayLift 29 = .ok (.iconst 1, 1) := by decide +kernel
theorem dX12_mayLift_30 : decode cX12_mayLift 30 = .ok (.iadd, 1) := by decide +kernel
theorem dX12_mayLift_31 : decode cX12_mayLift 31 = .ok (.iaload, 1) := by decide +kernel
theorem dX12_mayLift_32 : decode cX12_mayLift 32 = .ok (.aload_n 0, 1) := by decide +kernel
theorem dX12_mayLift_33 : decode cX12_mayLift 33 = .ok (.getfield 88, 3) := by decide +kernel
theorem dX12_mayLift_36 : decode cX12_mayLift 36 = .ok (.iconst 3, 1) := by decide +kernel
theorem dX12_mayLift_37 : decode cX12_mayLift 37 = .ok (.iload_n 1, 1) := by decide +kernel
theorem dX12_mayLift_38 : decode cX12_mayLift 38 = .ok (.imul, 1) := by decide +kernel
theorem dX12_mayLift_39 : decode cX12_mayLift 39 = .ok (.iconst 2, 1) := by decide +kernel
theorem dX12_mayLift_40 : decode cX12_mayLift 40 = .ok (.iadd, 1) := by decide +kernel
theorem dX12_mayLift_41 : decode cX12_mayLift 41 = .ok (.iaload, 1) := by decide +kernel
theorem dX12_mayLift_42 : decode cX12_mayLift 42 = .ok (.invokevirtual 247, 3) := by decide +kernel
theorem dX12_mayLift_45 : decode cX12_mayLift 45 = .ok (.istore_n 3, 1) := by decide +kernel
theorem dX12_mayLift_46 : decode cX12_mayLift 46 = .ok (.aload_n 0, 1) := by decide +kernel
theorem dX12_mayLift_47 : decode cX12_mayLift 47 = .ok (.getfield 36, 3) := by decide +kernel
theorem dX12_mayLift_50 : decode cX12_mayLift 50 = .ok (.iconst 3, 1) := by decide +kernel
theorem dX12_mayLift_51 : decode cX12_mayLift 51 = .ok (.iload_n 2, 1) := by decide +kernel
theorem dX12_mayLift_52 : decode cX12_mayLift 52 = .ok (.iastore, 1) := by decide +kernel
theorem dX12_mayLift_53 : decode cX12_mayLift 53 = .ok (.iload_n 3, 1) := by decide +kernel
theorem dX12_mayLift_54 : decode cX12_mayLift 54 = .ok (.ireturn, 1) := by decide +kernel
def f_X12_mayLift (S : SH) (a0 : Nat) (a1 : Int32) (μ : Mem) : Option (Int32 × Mem) :=
  if isO S 12 a0 = true then
  (gR S 12 a0 9).bind fun v1 =>
  (aI S .int v1 3 μ).bind fun v2 =>
  (gR S 12 a0 9).bind fun v3 =>
  (gR S 12 a0 40).bind fun v4 =>
  (aI S .int v4 (3 * a1) μ).bind fun v5 =>
  (sI S v3 3 v5 μ).bind fun ν6 =>
  (gR S 12 a0 40).bind fun v7 =>
  (aI S .int v7 ((3 * a1) + 1) ν6).bind fun v8 =>
  (gR S 12 a0 40).bind fun v9 =>
  (aI S .int v9 ((3 * a1) + 2) ν6).bind fun v10 =>
  (f_X12_mayAt S a0 v8 v10 ν6).bind fun q11 =>
  (gR S 12 a0 9).bind fun v12 =>
  (sI S v12 3 v2 q11.2).bind fun ν13 =>
  (oz q11.1).bind fun z14 => some (z14, ν13)
  else none
set_option maxRecDepth 100000 in
set_option maxHeartbeats 4000000 in
theorem c_X12_mayLift {l : Launch} {γ : GE} {S : SH} {a0 : Nat} {a1 : Int32} {μ : Mem} {X : (Int32 × Mem)} (h : f_X12_mayLift S a0 a1 μ = some X) : isO S 12 a0 = true ∧ Ct l γ yX12_mayLift cX12_mayLift 4 (some .boolean) rm_X12_mayLift [.ref (gb γ + a0), .int a1] S μ S X.2 (some (.int X.1)) := by
  unfold f_X12_mayLift at h
  obtain ⟨h0, h⟩ := if_some h
  refine ⟨h0, ?_⟩
  have hJ : ∀ (p : Program) (e : Env) (s : State) (m : MethodId) (args : Array Value) (below : List Frame) (meth : Method) (c : Code), FX γ p s m args meth c cX12_mayLift RX12 4 → meth.sig.returnType = (some .boolean) → JJ γ p l e rm_X12_mayLift s m args below meth c 4 0 0 (QI below γ S X args s 0 0) S μ 0 [(0, .ref (gb γ + a0)), (1, .int a1)] [] := by
    intro p e s m args below meth c F hr
    refine j_aload_n F 0 dX12_mayLift_0 rfl ?_
    refine j_gR F fl_RX12_36 rfl dX12_mayLift_1 h (fun v1 h => ?_)
    refine j_iconst F 3 dX12_mayLift_4 (by decide) ?_
    refine j_iald F dX12_mayLift_5 h (fun v2 h => ?_)
    refine j_istore_n F [(2, .int v2), (0, .ref (gb γ + a0)), (1, .int a1)] dX12_mayLift_6 rfl (by decide) rfl ?_
    refine j_aload_n F 1 dX12_mayLift_7 rfl ?_
    refine j_gR F fl_RX12_36 rfl dX12_mayLift_8 h (fun v3 h => ?_)
    refine j_iconst F 3 dX12_mayLift_11 (by decide) ?_
    refine j_aload_n F 1 dX12_mayLift_12 rfl ?_
    refine j_gR F fl_RX12_88 rfl dX12_mayLift_13 h (fun v4 h => ?_)
    refine j_iconst F 3 dX12_mayLift_16 (by decide) ?_
    refine j_iload_n F 2 dX12_mayLift_17 rfl ?_
    refine j_imul F dX12_mayLift_18 ?_
    refine j_iald F dX12_mayLift_19 h (fun v5 h => ?_)
    refine j_iast F dX12_mayLift_20 h (fun ν6 h => ?_)
    refine j_aload_n F 1 dX12_mayLift_21 rfl ?_
    refine j_aload_n F 1 dX12_mayLift_22 rfl ?_
    refine j_gR F fl_RX12_88 rfl dX12_mayLift_23 h (fun v7 h => ?_)
    refine j_iconst F 3 dX12_mayLift_26 (by decide) ?_
    refine j_iload_n F 2 dX12_mayLift_27 rfl ?_
    refine j_imul F dX12_mayLift_28 ?_
    refine j_iconst F 1 dX12_mayLift_29 (by decide) ?_
    refine j_iadd F dX12_mayLift_30 ?_
    refine j_iald F dX12_mayLift_31 h (fun v8 h => ?_)
    refine j_aload_n F 1 dX12_mayLift_32 rfl ?_
    refine j_gR F fl_RX12_88 rfl dX12_mayLift_33 h (fun v9 h => ?_)
    refine j_iconst F 3 dX12_mayLift_36 (by decide) ?_
    refine j_iload_n F 2 dX12_mayLift_37 rfl ?_
    refine j_imul F dX12_mayLift_38 ?_
    refine j_iconst F 2 dX12_mayLift_39 (by decide) ?_
    refine j_iadd F dX12_mayLift_40 ?_
    refine j_iald F dX12_mayLift_41 h (fun v10 h => ?_)
    refine j_cVI F mi_X12_mayAt w_1316 (rest := []) h (fun _ g => c_X12_mayAt g) rfl rfl (Nat.le_of_ble_eq_true rfl) ⟨Nat.le_of_ble_eq_true rfl, Nat.le_of_ble_eq_true rfl⟩ ⟨Nat.le_of_ble_eq_true rfl, Nat.le_of_ble_eq_true rfl⟩ dX12_mayLift_42 (fun q11 h => ?_)
    refine j_istore_n F [(3, .int q11.1), (2, .int v2), (0, .ref (gb γ + a0)), (1, .int a1)] dX12_mayLift_45 rfl (by decide) rfl ?_
    refine j_aload_n F 2 dX12_mayLift_46 rfl ?_
    refine j_gR F fl_RX12_36 rfl dX12_mayLift_47 h (fun v12 h => ?_)
    refine j_iconst F 3 dX12_mayLift_50 (by decide) ?_
    refine j_iload_n F 1 dX12_mayLift_51 rfl ?_
    refine j_iast F dX12_mayLift_52 h (fun ν13 h => ?_)
    refine j_iload_n F 0 dX12_mayLift_53 rfl ?_
    exact j_zretG F hr dX12_mayLift_54 h
  exact ct_of (by decide +kernel) (Nat.le_of_ble_eq_true rfl) (fun p e s m args below meth c F hr _ => hJ p e s m args below meth c F hr)
def rm_X12_booked : Room := { frames := 10, cells := 0, slots := 0, locals := 212 }
theorem dX12_booked_0 : decode cX12_booked 0 = .ok (.iload_n 1, 1) := by decide +kernel
theorem dX12_booked_1 : decode cX12_booked 1 = .ok (.iconst 0, 1) := by decide +kernel
theorem dX12_booked_2 : decode cX12_booked 2 = .ok (.aload_n 0, 1) := by decide +kernel
theorem dX12_booked_3 : decode cX12_booked 3 = .ok (.getfield 355, 3) := by decide +kernel
theorem dX12_booked_6 : decode cX12_booked 6 = .ok (.iconst 1, 1) := by decide +kernel
theorem dX12_booked_7 : decode cX12_booked 7 = .ok (.isub, 1) := by decide +kernel
theorem dX12_booked_8 : decode cX12_booked 8 = .ok (.invokestatic 95, 3) := by decide +kernel
theorem dX12_booked_11 : decode cX12_booked 11 = .ok (.ifCond .eq 12, 3) := by decide +kernel
theorem dX12_booked_14 : decode cX12_booked 14 = .ok (.iload_n 2, 1) := by decide +kernel
theorem dX12_booked_15 : decode cX12_booked 15 = .ok (.iconst 0, 1) := by decide +kernel
theorem dX12_booked_16 : decode cX12_booked 16 = .ok (.iconst 3, 1) := by decide +kernel
theorem dX12_booked_17 : decode cX12_booked 17 = .ok (.invokestatic 95, 3) := by decide +kernel
theorem dX12_booked_20 : decode cX12_booked 20 = .ok (.ifCond .ne 5, 3) := by decide +kernel
theorem dX12_booked_23 : decode cX12_booked 23 = .ok (.iconst (-1), 1) := by decide +kernel
theorem dX12_booked_24 : decode cX12_booked 24 = .ok (.ireturn, 1) := by decide +kernel
theorem dX12_booked_25 : decode cX12_booked 25 = .ok (.iload_n 2, 1) := by decide +kernel
theorem dX12_booked_26 : decode cX12_booked 26 = .ok (.iconst 3, 1) := by decide +kernel
theorem dX12_booked_27 : decode cX12_booked 27 = .ok (.if_icmp .ge 16, 3) := by decide +kernel
theorem dX12_booked_30 : decode cX12_booked 30 = .ok (.aload_n 0, 1) := by decide +kernel
theorem dX12_booked_31 : decode cX12_booked 31 = .ok (.getfield 88, 3) := by decide +kernel
theorem dX12_booked_34 : decode cX12_booked 34 = .ok (.iconst 3, 1) := by decide +kernel
theorem dX12_booked_35 : decode cX12_booked 35 = .ok (.iload_n 1, 1) := by decide +kernel
theorem dX12_booked_36 : decode cX12_booked 36 = .ok (.imul, 1) := by decide +kernel
theorem dX12_booked_37 : decode cX12_booked 37 = .ok (.iload_n 2, 1) := by decide +kernel
theorem dX12_booked_38 : decode cX12_booked 38 = .ok (.iadd, 1) := by decide +kernel
theorem dX12_booked_39 : decode cX12_booked 39 = .ok (.iaload, 1) := by decide +kernel
theorem dX12_booked_40 : decode cX12_booked 40 = .ok (.goto 16, 3) := by decide +kernel
theorem dX12_booked_43 : decode cX12_booked 43 = .ok (.aload_n 0, 1) := by decide +kernel
theorem dX12_booked_44 : decode cX12_booked 44 = .ok (.iload_n 1, 1) := by decide +kernel
theorem dX12_booked_45 : decode cX12_booked 45 = .ok (.invokevirtual 358, 3) := by decide +kernel
theorem dX12_booked_48 : decode cX12_booked 48 = .ok (.ifCond .eq 7, 3) := by decide +kernel
theorem dX12_booked_51 : decode cX12_booked 51 = .ok (.iconst 1, 1) := by decide +kernel
theorem dX12_booked_52 : decode cX12_booked 52 = .ok (.goto 4, 3) := by decide +kernel
theorem dX12_booked_55 : decode cX12_booked 55 = .ok (.iconst 0, 1) := by decide +kernel
theorem dX12_booked_56 : decode cX12_booked 56 = .ok (.ireturn, 1) := by decide +kernel
def f_X12_booked (S : SH) (a0 : Nat) (a1 : Int32) (a2 : Int32) (μ : Mem) : Option (Int32 × Mem) :=
  if isO S 12 a0 = true then
  (gI S 12 a0 39 μ).bind fun v1 =>
  (f_X12_in S a1 0 (v1 - 1) μ).bind fun q2 =>
  (if q2.1 = 0 then
  some ((-1), q2.2)
  else
  (f_X12_in S a2 0 3 q2.2).bind fun q3 =>
  (if q3.1 = 0 then
  some ((-1), q3.2)
  else
  (if 3 ≤ a2 then
  (f_X12_mayLift S a0 a1 q3.2).bind fun q4 =>
  (if q4.1 = 0 then
  some (0, q4.2)
  else
  some (1, q4.2))
  else
  (gR S 12 a0 40).bind fun v5 =>
  (aI S .int v5 ((3 * a1) + a2) q3.2).bind fun v6 =>
  some (v6, q3.2))))
  else none
set_option maxRecDepth 100000 in
set_option maxHeartbeats 4000000 in
theorem c_X12_booked {l : Launch} {γ : GE} {S : SH} {a0 : Nat} {a1 : Int32} {a2 : Int32} {μ : Mem} {X : (Int32 × Mem)} (h : f_X12_booked S a0 a1 a2 μ = some X) : isO S 12 a0 = true ∧ Ct l γ yX12_booked cX12_booked 3 (some .int) rm_X12_booked [.ref (gb γ + a0), .int a1, .int a2] S μ S X.2 (some (.int X.1)) := by
  unfold f_X12_booked at h
  obtain ⟨h0, h⟩ := if_some h
  refine ⟨h0, ?_⟩
  have hJ : ∀ (p : Program) (e : Env) (s : State) (m : MethodId) (args : Array Value) (below : List Frame) (meth : Method) (c : Code), FX γ p s m args meth c cX12_booked RX12 3 → meth.sig.returnType = (some .int) → JJ γ p l e rm_X12_booked s m args below meth c 3 0 0 (QI below γ S X args s 0 0) S μ 0 [(0, .ref (gb γ + a0)), (1, .int a1), (2, .int a2)] [] := by
    intro p e s m args below meth c F hr
    refine j_iload_n F 1 dX12_booked_0 rfl ?_
    refine j_iconst F 0 dX12_booked_1 (by decide) ?_
    refine j_aload_n F 0 dX12_booked_2 rfl ?_
    refine j_gI F fl_RX12_355.l rfl dX12_booked_3 h (fun v1 h => ?_)
    refine j_iconst F 1 dX12_booked_6 (by decide) ?_
    refine j_isub F dX12_booked_7 ?_
    refine j_cSI F mi_X12_in w_1104 (rest := []) h (fun _ g => c_X12_in g) rfl rfl (Nat.le_of_ble_eq_true rfl) ⟨Nat.le_of_ble_eq_true rfl, Nat.le_of_ble_eq_true rfl⟩ ⟨Nat.le_of_ble_eq_true rfl, Nat.le_of_ble_eq_true rfl⟩ dX12_booked_8 (fun q2 h => ?_)
    refine j_ifeq F 23 dX12_booked_11 (by decide) h (fun _ h => ?_) (fun _ h => ?_)
    · refine j_iconst F (-1) dX12_booked_23 (by decide) ?_
      exact j_iret F hr dX12_booked_24 h
    · refine j_iload_n F 2 dX12_booked_14 rfl ?_
      refine j_iconst F 0 dX12_booked_15 (by decide) ?_
      refine j_iconst F 3 dX12_booked_16 (by decide) ?_
      refine j_cSI F mi_X12_in w_1104 (rest := []) h (fun _ g => c_X12_in g) rfl rfl (Nat.le_of_ble_eq_true rfl) ⟨Nat.le_of_ble_eq_true rfl, Nat.le_of_ble_eq_true rfl⟩ ⟨Nat.le_of_ble_eq_true rfl, Nat.le_of_ble_eq_true rfl⟩ dX12_booked_17 (fun q3 h => ?_)
      refine j_ifne F 25 dX12_booked_20 (by decide) h (fun _ h => ?_) (fun _ h => ?_)
      · refine j_iload_n F 2 dX12_booked_25 rfl ?_
        refine j_iconst F 3 dX12_booked_26 (by decide) ?_
        refine j_icmpge F 43 dX12_booked_27 (by decide) h (fun _ h => ?_) (fun _ h => ?_)
        · refine j_aload_n F 0 dX12_booked_43 rfl ?_
          refine j_iload_n F 1 dX12_booked_44 rfl ?_
          refine j_cVI F mi_X12_mayLift w_1466 (rest := []) h (fun _ g => c_X12_mayLift g) rfl rfl (Nat.le_of_ble_eq_true rfl) ⟨Nat.le_of_ble_eq_true rfl, Nat.le_of_ble_eq_true rfl⟩ ⟨Nat.le_of_ble_eq_true rfl, Nat.le_of_ble_eq_true rfl⟩ dX12_booked_45 (fun q4 h => ?_)
          refine j_ifeq F 55 dX12_booked_48 (by decide) h (fun _ h => ?_) (fun _ h => ?_)
          · refine j_iconst F 0 dX12_booked_55 (by decide) ?_
            exact j_iret F hr dX12_booked_56 h
          · refine j_iconst F 1 dX12_booked_51 (by decide) ?_
            refine j_goto F 56 dX12_booked_52 (by decide) ?_
            exact j_iret F hr dX12_booked_56 h
        · refine j_aload_n F 0 dX12_booked_30 rfl ?_
          refine j_gR F fl_RX12_88 rfl dX12_booked_31 h (fun v5 h => ?_)
          refine j_iconst F 3 dX12_booked_34 (by decide) ?_
          refine j_iload_n F 1 dX12_booked_35 rfl ?_
          refine j_imul F dX12_booked_36 ?_
          refine j_iload_n F 2 dX12_booked_37 rfl ?_
          refine j_iadd F dX12_booked_38 ?_
          refine j_iald F dX12_booked_39 h (fun v6 h => ?_)
          refine j_goto F 56 dX12_booked_40 (by decide) ?_
          exact j_iret F hr dX12_booked_56 h
      · refine j_iconst F (-1) dX12_booked_23 (by decide) ?_
        exact j_iret F hr dX12_booked_24 h
  exact ct_of (by decide +kernel) (Nat.le_of_ble_eq_true rfl) (fun p e s m args below meth c F hr _ => hJ p e s m args below meth c F hr)
def rm_X12_heaviest : Room := { frames := 0, cells := 0, slots := 0, locals := 0 }
theorem dX12_heaviest_0 : decode cX12_heaviest 0 = .ok (.bipush (-5), 2) := by decide +kernel
theorem dX12_heaviest_2 : decode cX12_heaviest 2 = .ok (.istore_n 1, 1) := by decide +kernel
theorem dX12_heaviest_3 : decode cX12_heaviest 3 = .ok (.iconst 0, 1) := by decide +kernel
theorem dX12_heaviest_4 : decode cX12_heaviest 4 = .ok (.istore_n 2, 1) := by decide +kernel
theorem dX12_heaviest_5 : decode cX12_heaviest 5 = .ok (.iload_n 2, 1) := by decide +kernel
theorem dX12_heaviest_6 : decode cX12_heaviest 6 = .ok (.aload_n 0, 1) := by decide +kernel
theorem dX12_heaviest_7 : decode cX12_heaviest 7 = .ok (.getfield 355, 3) := by decide +kernel
theorem dX12_heaviest_10 : decode cX12_heaviest 10 = .ok (.if_icmp .ge 72, 3) := by decide +kernel
theorem dX12_heaviest_13 : decode cX12_heaviest 13 = .ok (.iload_n 1, 1) := by decide +kernel
theorem dX12_heaviest_14 : decode cX12_heaviest 14 = .ok (.bipush (-5), 2) := by decide +kernel
theorem dX12_heaviest_16 : decode cX12_heaviest 16 = .ok (.if_icmp .eq 44, 3) := by decide +kernel
theorem dX12_heaviest_19 : decode cX12_heaviest 19 = .ok (.aload_n 0, 1) := by decide +kernel
theorem dX12_heaviest_20 : decode cX12_heaviest 20 = .ok (.getfield 88, 3) := by decide +kernel
theorem dX12_heaviest_23 : decode cX12_heaviest 23 = .ok (.iconst 3, 1) := by decide +kernel
theorem dX12_heaviest_24 : decode cX12_heaviest 24 = .ok (.iload_n 2, 1) := by decide +kernel
theorem dX12_heaviest_25 : decode cX12_heaviest 25 = .ok (.imul, 1) := by decide +kernel
theorem dX12_heaviest_26 : decode cX12_heaviest 26 = .ok (.iaload, 1) := by decide +kernel
theorem dX12_heaviest_27 : decode cX12_heaviest 27 = .ok (.aload_n 0, 1) := by decide +kernel
theorem dX12_heaviest_28 : decode cX12_heaviest 28 = .ok (.getfield 88, 3) := by decide +kernel
theorem dX12_heaviest_31 : decode cX12_heaviest 31 = .ok (.iconst 3, 1) := by decide +kernel
theorem dX12_heaviest_32 : decode cX12_heaviest 32 = .ok (.iload_n 2, 1) := by decide +kernel
theorem dX12_heaviest_33 : decode cX12_heaviest 33 = .ok (.imul, 1) := by decide +kernel
theorem dX12_heaviest_34 : decode cX12_heaviest 34 = .ok (.iconst 2, 1) := by decide +kernel
theorem dX12_heaviest_35 : decode cX12_heaviest 35 = .ok (.iadd, 1) := by decide +kernel
theorem dX12_heaviest_36 : decode cX12_heaviest 36 = .ok (.iaload, 1) := by decide +kernel
theorem dX12_heaviest_37 : decode cX12_heaviest 37 = .ok (.imul, 1) := by decide +kernel
theorem dX12_heaviest_38 : decode cX12_heaviest 38 = .ok (.aload_n 0, 1) := by decide +kernel
theorem dX12_heaviest_39 : decode cX12_heaviest 39 = .ok (.getfield 88, 3) := by decide +kernel
theorem dX12_heaviest_42 : decode cX12_heaviest 42 = .ok (.iconst 3, 1) := by decide +kernel
theorem dX12_heaviest_43 : decode cX12_heaviest 43 = .ok (.iload_n 1, 1) := by decide +kernel
theorem dX12_heaviest_44 : decode cX12_heaviest 44 = .ok (.imul, 1) := by decide +kernel
theorem dX12_heaviest_45 : decode cX12_heaviest 45 = .ok (.iaload, 1) := by decide +kernel
theorem dX12_heaviest_46 : decode cX12_heaviest 46 = .ok (.aload_n 0, 1) := by decide +kernel
theorem dX12_heaviest_47 : decode cX12_heaviest 47 = .ok (.getfield 88, 3) := by decide +kernel
theorem dX12_heaviest_50 : decode cX12_heaviest 50 = .ok (.iconst 3, 1) := by decide +kernel
theorem dX12_heaviest_51 : decode cX12_heaviest 51 = .ok (.iload_n 1, 1) := by decide +kernel
theorem dX12_heaviest_52 : decode cX12_heaviest 52 = .ok (.imul, 1) := by decide +kernel
theorem dX12_heaviest_53 : decode cX12_heaviest 53 = .ok (.iconst 2, 1) := by decide +kernel
theorem dX12_heaviest_54 : decode cX12_heaviest 54 = .ok (.iadd, 1) := by decide +kernel
theorem dX12_heaviest_55 : decode cX12_heaviest 55 = .ok (.iaload, 1) := by decide +kernel
theorem dX12_heaviest_56 : decode cX12_heaviest 56 = .ok (.imul, 1) := by decide +kernel
theorem dX12_heaviest_57 : decode cX12_heaviest 57 = .ok (.if_icmp .le 7, 3) := by decide +kernel
theorem dX12_heaviest_60 : decode cX12_heaviest 60 = .ok (.iconst 1, 1) := by decide +kernel
theorem dX12_heaviest_61 : decode cX12_heaviest 61 = .ok (.goto 4, 3) := by decide +kernel
theorem dX12_heaviest_64 : decode cX12_heaviest 64 = .ok (.iconst 0, 1) := by decide +kernel
theorem dX12_heaviest_65 : decode cX12_heaviest 65 = .ok (.istore_n 3, 1) := by decide +kernel
theorem dX12_heaviest_66 : decode cX12_heaviest 66 = .ok (.iload_n 3, 1) := by decide +kernel
theorem dX12_heaviest_67 : decode cX12_heaviest 67 = .ok (.ifCond .eq 7, 3) := by decide +kernel
theorem dX12_heaviest_70 : decode cX12_heaviest 70 = .ok (.iload_n 2, 1) := by decide +kernel
theorem dX12_heaviest_71 : decode cX12_heaviest 71 = .ok (.goto 4, 3) := by decide +kernel
theorem dX12_heaviest_74 : decode cX12_heaviest 74 = .ok (.iload_n 1, 1) := by decide +kernel
theorem dX12_heaviest_75 : decode cX12_heaviest 75 = .ok (.istore_n 1, 1) := by decide +kernel
theorem dX12_heaviest_76 : decode cX12_heaviest 76 = .ok (.iinc 2 1, 3) := by decide +kernel
theorem dX12_heaviest_79 : decode cX12_heaviest 79 = .ok (.goto (-74), 3) := by decide +kernel
theorem dX12_heaviest_82 : decode cX12_heaviest 82 = .ok (.iload_n 1, 1) := by decide +kernel
theorem dX12_heaviest_83 : decode cX12_heaviest 83 = .ok (.ireturn, 1) := by decide +kernel
def b_X12_heaviest_65 (S : SH) (k5 : (Int32 × Int32 × Mem) → Option (Int32 × Mem)) (a0 : Nat) (a1 : Int32) (a2 : Int32) (t0 : Int32) (μ : Mem) : Option (Int32 × Mem) :=
 (if t0 = 0 then
 k5 (a1, a2 + 1, μ)
 else
 k5 (a2, a2 + 1, μ))
set_option maxRecDepth 100000 in
set_option maxHeartbeats 4000000 in
theorem s_X12_heaviest_65 {γ : GE} {p : Program} {l : Launch} {e : Env} {s : State} {m : MethodId} {args : Array Value} {below : List Frame} {meth : Method} {c : Code} {S : SH} {X : (Int32 × Mem)} (F : FX γ p s m args meth c cX12_heaviest RX12 4) (hr : meth.sig.returnType = (some .int)) (a0 : Nat) (a1 : Int32) (a2 : Int32)  (k5 : (Int32 × Int32 × Mem) → Option (Int32 × Mem)) (hk5 : ∀ (x5_1 : Int32) (x5_2 : Int32) (ν : Mem), k5 (x5_1, x5_2, ν) = some X → JJ γ p l e rm_X12_heaviest s m args below meth c 4 0 0 (QI below γ S X args s 0 0) S ν 5 [(0, .ref (gb γ + a0)), (1, .int x5_1), (2, .int x5_2)] []) (t0 : Int32) (μ : Mem) (h : b_X12_heaviest_65 S k5 a0 a1 a2 t0 μ = some X) : JJ γ p l e rm_X12_heaviest s m args below meth c 4 0 0 (QI below γ S X args s 0 0) S μ 65 [(0, .ref (gb γ + a0)), (1, .int a1), (2, .int a2)] [.int t0] := by
  unfold b_X12_heaviest_65 at h
  refine j_istore_n F [(3, .int t0), (0, .ref (gb γ + a0)), (1, .int a1), (2, .int a2)] dX12_heaviest_65 rfl (by decide) rfl ?_
  refine j_iload_n F 0 dX12_heaviest_66 rfl ?_
  refine j_ifeq F 74 dX12_heaviest_67 (by decide) h (fun _ h => ?_) (fun _ h => ?_)
  · refine j_iload_n F 2 dX12_heaviest_74 rfl ?_
    refine j_istore_n F [(1, .int a1), (3, .int t0), (0, .ref (gb γ + a0)), (2, .int a2)] dX12_heaviest_75 rfl (by decide) rfl ?_
    refine j_iinc F 1 3 [(2, .int (a2 + 1)), (1, .int a1), (3, .int t0), (0, .ref (gb γ + a0))] dX12_heaviest_76 rfl (by decide) (by decide) rfl ?_
    refine j_goto F 5 dX12_heaviest_79 (by decide) ?_
    refine j_lv [(0, .ref (gb γ + a0)), (1, .int a1), (2, .int (a2 + 1))] [3, 1, 0] rfl ?_
    exact hk5 _ _ _ h
  · refine j_iload_n F 3 dX12_heaviest_70 rfl ?_
    refine j_goto F 75 dX12_heaviest_71 (by decide) ?_
    refine j_istore_n F [(1, .int a2), (3, .int t0), (0, .ref (gb γ + a0)), (2, .int a2)] dX12_heaviest_75 rfl (by decide) rfl ?_
    refine j_iinc F 1 3 [(2, .int (a2 + 1)), (1, .int a2), (3, .int t0), (0, .ref (gb γ + a0))] dX12_heaviest_76 rfl (by decide) (by decide) rfl ?_
    refine j_goto F 5 dX12_heaviest_79 (by decide) ?_
    refine j_lv [(0, .ref (gb γ + a0)), (1, .int a2), (2, .int (a2 + 1))] [3, 1, 0] rfl ?_
    exact hk5 _ _ _ h
def b_X12_heaviest_60 (S : SH) (k5 : (Int32 × Int32 × Mem) → Option (Int32 × Mem)) (a0 : Nat) (a1 : Int32) (a2 : Int32) (μ : Mem) : Option (Int32 × Mem) :=
 b_X12_heaviest_65 S k5 a0 a1 a2 1 μ
set_option maxRecDepth 100000 in
set_option maxHeartbeats 4000000 in
theorem s_X12_heaviest_60 {γ : GE} {p : Program} {l : Launch} {e : Env} {s : State} {m : MethodId} {args : Array Value} {below : List Frame} {meth : Method} {c : Code} {S : SH} {X : (Int32 × Mem)} (F : FX γ p s m args meth c cX12_heaviest RX12 4) (hr : meth.sig.returnType = (some .int)) (a0 : Nat) (a1 : Int32) (a2 : Int32)  (k5 : (Int32 × Int32 × Mem) → Option (Int32 × Mem)) (hk5 : ∀ (x5_1 : Int32) (x5_2 : Int32) (ν : Mem), k5 (x5_1, x5_2, ν) = some X → JJ γ p l e rm_X12_heaviest s m args below meth c 4 0 0 (QI below γ S X args s 0 0) S ν 5 [(0, .ref (gb γ + a0)), (1, .int x5_1), (2, .int x5_2)] [])  (μ : Mem) (h : b_X12_heaviest_60 S k5 a0 a1 a2 μ = some X) : JJ γ p l e rm_X12_heaviest s m args below meth c 4 0 0 (QI below γ S X args s 0 0) S μ 60 [(0, .ref (gb γ + a0)), (1, .int a1), (2, .int a2)] [] := by
  unfold b_X12_heaviest_60 at h
  refine j_iconst F 1 dX12_heaviest_60 (by decide) ?_
  refine j_goto F 65 dX12_heaviest_61 (by decide) ?_
  exact s_X12_heaviest_65 F hr _ _ _ _ hk5 _ _ h
def l_X12_heaviest_5 (S : SH) (a0 : Nat) (k5 : (Int32 × Int32 × Mem) → Option (Int32 × Mem)) (x : (Int32 × Int32 × Mem)) : Option (Int32 × Mem) :=
 (gI S 12 a0 39 x.2.2).bind fun v1 =>
 (if v1 ≤ x.2.1 then
 some (x.1, x.2.2)
 else
 (if x.1 = (-5) then
 b_X12_heaviest_60 S k5 a0 x.1 x.2.1 x.2.2
 else
 (gR S 12 a0 40).bind fun v2 =>
 (aI S .int v2 (3 * x.2.1) x.2.2).bind fun v3 =>
 (gR S 12 a0 40).bind fun v4 =>
 (aI S .int v4 ((3 * x.2.1) + 2) x.2.2).bind fun v5 =>
 (gR S 12 a0 40).bind fun v6 =>
 (aI S .int v6 (3 * x.1) x.2.2).bind fun v7 =>
 (gR S 12 a0 40).bind fun v8 =>
 (aI S .int v8 ((3 * x.1) + 2) x.2.2).bind fun v9 =>
 (if (v3 * v5) ≤ (v7 * v9) then
 b_X12_heaviest_65 S k5 a0 x.1 x.2.1 0 x.2.2
 else
 b_X12_heaviest_60 S k5 a0 x.1 x.2.1 x.2.2)))
set_option maxRecDepth 100000 in
set_option maxHeartbeats 4000000 in
theorem t_X12_heaviest_5 {γ : GE} {p : Program} {l : Launch} {e : Env} {s : State} {m : MethodId} {args : Array Value} {below : List Frame} {meth : Method} {c : Code} {S : SH} {X : (Int32 × Mem)} (F : FX γ p s m args meth c cX12_heaviest RX12 4) (hr : meth.sig.returnType = (some .int)) (a0 : Nat) (k5 : (Int32 × Int32 × Mem) → Option (Int32 × Mem)) (hk5 : ∀ (x5_1 : Int32) (x5_2 : Int32) (ν : Mem), k5 (x5_1, x5_2, ν) = some X → JJ γ p l e rm_X12_heaviest s m args below meth c 4 0 0 (QI below γ S X args s 0 0) S ν 5 [(0, .ref (gb γ + a0)), (1, .int x5_1), (2, .int x5_2)] []) (x : (Int32 × Int32 × Mem)) (h : l_X12_heaviest_5 S a0 k5 x = some X) : JJ γ p l e rm_X12_heaviest s m args below meth c 4 0 0 (QI below γ S X args s 0 0) S x.2.2 5 [(0, .ref (gb γ + a0)), (1, .int x.1), (2, .int x.2.1)] [] := by
  unfold l_X12_heaviest_5 at h
  refine j_iload_n F 2 dX12_heaviest_5 rfl ?_
  refine j_aload_n F 0 dX12_heaviest_6 rfl ?_
  refine j_gI F fl_RX12_355.l rfl dX12_heaviest_7 h (fun v1 h => ?_)
  refine j_icmpge F 82 dX12_heaviest_10 (by decide) h (fun _ h => ?_) (fun _ h => ?_)
  · refine j_iload_n F 1 dX12_heaviest_82 rfl ?_
    exact j_iret F hr dX12_heaviest_83 h
  · refine j_iload_n F 1 dX12_heaviest_13 rfl ?_
    refine j_bipush F (-5) dX12_heaviest_14 (by decide) ?_
    refine j_icmpeq F 60 dX12_heaviest_16 (by decide) h (fun _ h => ?_) (fun _ h => ?_)
    · exact s_X12_heaviest_60 F hr _ _ _ _ hk5 _ h
    · refine j_aload_n F 0 dX12_heaviest_19 rfl ?_
      refine j_gR F fl_RX12_88 rfl dX12_heaviest_20 h (fun v2 h => ?_)
      refine j_iconst F 3 dX12_heaviest_23 (by decide) ?_
      refine j_iload_n F 2 dX12_heaviest_24 rfl ?_
      refine j_imul F dX12_heaviest_25 ?_
      refine j_iald F dX12_heaviest_26 h (fun v3 h => ?_)
      refine j_aload_n F 0 dX12_heaviest_27 rfl ?_
      refine j_gR F fl_RX12_88 rfl dX12_heaviest_28 h (fun v4 h => ?_)
      refine j_iconst F 3 dX12_heaviest_31 (by decide) ?_
      refine j_iload_n F 2 dX12_heaviest_32 rfl ?_
      refine j_imul F dX12_heaviest_33 ?_
      refine j_iconst F 2 dX12_heaviest_34 (by decide) ?_
      refine j_iadd F dX12_heaviest_35 ?_
      refine j_iald F dX12_heaviest_36 h (fun v5 h => ?_)
      refine j_imul F dX12_heaviest_37 ?_
      refine j_aload_n F 0 dX12_heaviest_38 rfl ?_
      refine j_gR F fl_RX12_88 rfl dX12_heaviest_39 h (fun v6 h => ?_)
      refine j_iconst F 3 dX12_heaviest_42 (by decide) ?_
      refine j_iload_n F 1 dX12_heaviest_43 rfl ?_
      refine j_imul F dX12_heaviest_44 ?_
      refine j_iald F dX12_heaviest_45 h (fun v7 h => ?_)
      refine j_aload_n F 0 dX12_heaviest_46 rfl ?_
      refine j_gR F fl_RX12_88 rfl dX12_heaviest_47 h (fun v8 h => ?_)
      refine j_iconst F 3 dX12_heaviest_50 (by decide) ?_
      refine j_iload_n F 1 dX12_heaviest_51 rfl ?_
      refine j_imul F dX12_heaviest_52 ?_
      refine j_iconst F 2 dX12_heaviest_53 (by decide) ?_
      refine j_iadd F dX12_heaviest_54 ?_
      refine j_iald F dX12_heaviest_55 h (fun v9 h => ?_)
      refine j_imul F dX12_heaviest_56 ?_
      refine j_icmple F 64 dX12_heaviest_57 (by decide) h (fun _ h => ?_) (fun _ h => ?_)
      · refine j_iconst F 0 dX12_heaviest_64 (by decide) ?_
        exact s_X12_heaviest_65 F hr _ _ _ _ hk5 _ _ h
      · exact s_X12_heaviest_60 F hr _ _ _ _ hk5 _ h
theorem s_X12_heaviest_5 {γ : GE} {p : Program} {l : Launch} {e : Env} {s : State} {m : MethodId} {args : Array Value} {below : List Frame} {meth : Method} {c : Code} {S : SH} {X : (Int32 × Mem)} (F : FX γ p s m args meth c cX12_heaviest RX12 4) (hr : meth.sig.returnType = (some .int)) (a0 : Nat) (x5_1 : Int32) (x5_2 : Int32) (ν : Mem) (h : lpN (l_X12_heaviest_5 S a0) fu (x5_1, x5_2, ν) = some X) : JJ γ p l e rm_X12_heaviest s m args below meth c 4 0 0 (QI below γ S X args s 0 0) S ν 5 [(0, .ref (gb γ + a0)), (1, .int x5_1), (2, .int x5_2)] [] :=
 lpN_sound (fun x => JJ γ p l e rm_X12_heaviest s m args below meth c 4 0 0 (QI below γ S X args s 0 0) S x.2.2 5 [(0, .ref (gb γ + a0)), (1, .int x.1), (2, .int x.2.1)] []) (fun k5 hk5 x h => t_X12_heaviest_5 F hr a0 k5 (fun x5_1 x5_2 ν h => hk5 (x5_1, x5_2, ν) h) x h) fu (x5_1, x5_2, ν) h
def f_X12_heaviest (S : SH) (a0 : Nat) (μ : Mem) : Option (Int32 × Mem) :=
  if isO S 12 a0 = true then
  lpN (l_X12_heaviest_5 S  a0) fu ((-5), 0, μ)
  else none
set_option maxRecDepth 100000 in
set_option maxHeartbeats 4000000 in
theorem c_X12_heaviest {l : Launch} {γ : GE} {S : SH} {a0 : Nat} {μ : Mem} {X : (Int32 × Mem)} (h : f_X12_heaviest S a0 μ = some X) : isO S 12 a0 = true ∧ Ct l γ yX12_heaviest cX12_heaviest 4 (some .int) rm_X12_heaviest [.ref (gb γ + a0)] S μ S X.2 (some (.int X.1)) := by
  unfold f_X12_heaviest at h
  obtain ⟨h0, h⟩ := if_some h
  refine ⟨h0, ?_⟩
  have hJ : ∀ (p : Program) (e : Env) (s : State) (m : MethodId) (args : Array Value) (below : List Frame) (meth : Method) (c : Code), FX γ p s m args meth c cX12_heaviest RX12 4 → meth.sig.returnType = (some .int) → JJ γ p l e rm_X12_heaviest s m args below meth c 4 0 0 (QI below γ S X args s 0 0) S μ 0 [(0, .ref (gb γ + a0))] [] := by
    intro p e s m args below meth c F hr
    refine j_bipush F (-5) dX12_heaviest_0 (by decide) ?_
    refine j_istore_n F [(1, .int (-5)), (0, .ref (gb γ + a0))] dX12_heaviest_2 rfl (by decide) rfl ?_
    refine j_iconst F 0 dX12_heaviest_3 (by decide) ?_
    refine j_istore_n F [(2, .int 0), (1, .int (-5)), (0, .ref (gb γ + a0))] dX12_heaviest_4 rfl (by decide) rfl ?_
    refine j_lv [(0, .ref (gb γ + a0)), (1, .int (-5)), (2, .int 0)] [2, 1, 0] rfl ?_
    exact s_X12_heaviest_5 F hr _ _ _ _ h
  exact ct_of (by decide +kernel) (Nat.le_of_ble_eq_true rfl) (fun p e s m args below meth c F hr _ => hJ p e s m args below meth c F hr)
def rm_X12_count : Room := { frames := 2, cells := 0, slots := 0, locals := 43 }
theorem dX12_count_0 : decode cX12_count 0 = .ok (.iload_n 1, 1) := by decide +kernel
theorem dX12_count_1 : decode cX12_count 1 = .ok (.tableswitch 80 0 6 #[43, 48, 53, 58, 58, 58, 67], 43) := by decide +kernel
theorem dX12_count_44 : decode cX12_count 44 = .ok (.aload_n 0, 1) := by decide +kernel
theorem dX12_count_45 : decode cX12_count 45 = .ok (.getfield 114, 3) := by decide +kernel
theorem dX12_count_48 : decode cX12_count 48 = .ok (.ireturn, 1) := by decide +kernel
theorem dX12_count_49 : decode cX12_count 49 = .ok (.aload_n 0, 1) := by decide +kernel
theorem dX12_count_50 : decode cX12_count 50 = .ok (.getfield 256, 3) := by decide +kernel
theorem dX12_count_53 : decode cX12_count 53 = .ok (.ireturn, 1) := by decide +kernel
theorem dX12_count_54 : decode cX12_count 54 = .ok (.aload_n 0, 1) := by decide +kernel
theorem dX12_count_55 : decode cX12_count 55 = .ok (.getfield 297, 3) := by decide +kernel
theorem dX12_count_58 : decode cX12_count 58 = .ok (.ireturn, 1) := by decide +kernel
theorem dX12_count_59 : decode cX12_count 59 = .ok (.aload_n 0, 1) := by decide +kernel
theorem dX12_count_60 : decode cX12_count 60 = .ok (.getfield 27, 3) := by decide +kernel
theorem dX12_count_63 : decode cX12_count 63 = .ok (.iload_n 1, 1) := by decide +kernel
theorem dX12_count_64 : decode cX12_count 64 = .ok (.iconst 3, 1) := by decide +kernel
theorem dX12_count_65 : decode cX12_count 65 = .ok (.isub, 1) := by decide +kernel
theorem dX12_count_66 : decode cX12_count 66 = .ok (.iaload, 1) := by decide +kernel
theorem dX12_count_67 : decode cX12_count 67 = .ok (.ireturn, 1) := by decide +kernel
theorem dX12_count_68 : decode cX12_count 68 = .ok (.aload_n 0, 1) := by decide +kernel
theorem dX12_count_69 : decode cX12_count 69 = .ok (.invokevirtual 110, 3) := by decide +kernel
theorem dX12_count_72 : decode cX12_count 72 = .ok (.ifCond .eq 7, 3) := by decide +kernel
theorem dX12_count_75 : decode cX12_count 75 = .ok (.iconst 1, 1) := by decide +kernel
theorem dX12_count_76 : decode cX12_count 76 = .ok (.goto 4, 3) := by decide +kernel
theorem dX12_count_79 : decode cX12_count 79 = .ok (.iconst 0, 1) := by decide +kernel
theorem dX12_count_80 : decode cX12_count 80 = .ok (.ireturn, 1) := by decide +kernel
theorem dX12_count_81 : decode cX12_count 81 = .ok (.iconst (-1), 1) := by decide +kernel
theorem dX12_count_82 : decode cX12_count 82 = .ok (.ireturn, 1) := by decide +kernel
def f_X12_count (S : SH) (a0 : Nat) (a1 : Int32) (μ : Mem) : Option (Int32 × Mem) :=
  if isO S 12 a0 = true then
  (if a1 = 0 then
  (gI S 12 a0 1 μ).bind fun v1 =>
  some (v1, μ)
  else if a1 = 1 then
  (gI S 12 a0 23 μ).bind fun v2 =>
  some (v2, μ)
  else if a1 = 2 then
  (gI S 12 a0 24 μ).bind fun v3 =>
  some (v3, μ)
  else if a1 = 3 then
  (gR S 12 a0 6).bind fun v4 =>
  (aI S .int v4 (a1 - 3) μ).bind fun v5 =>
  some (v5, μ)
  else if a1 = 4 then
  (gR S 12 a0 6).bind fun v6 =>
  (aI S .int v6 (a1 - 3) μ).bind fun v7 =>
  some (v7, μ)
  else if a1 = 5 then
  (gR S 12 a0 6).bind fun v8 =>
  (aI S .int v8 (a1 - 3) μ).bind fun v9 =>
  some (v9, μ)
  else if a1 = 6 then
  (f_X12_stands S a0 μ).bind fun q10 =>
  (if q10.1 = 0 then
  some (0, q10.2)
  else
  some (1, q10.2))
  else 
  some ((-1), μ))
  else none
set_option maxRecDepth 100000 in
set_option maxHeartbeats 4000000 in
theorem c_X12_count {l : Launch} {γ : GE} {S : SH} {a0 : Nat} {a1 : Int32} {μ : Mem} {X : (Int32 × Mem)} (h : f_X12_count S a0 a1 μ = some X) : isO S 12 a0 = true ∧ Ct l γ yX12_count cX12_count 2 (some .int) rm_X12_count [.ref (gb γ + a0), .int a1] S μ S X.2 (some (.int X.1)) := by
  unfold f_X12_count at h
  obtain ⟨h0, h⟩ := if_some h
  refine ⟨h0, ?_⟩
  have hJ : ∀ (p : Program) (e : Env) (s : State) (m : MethodId) (args : Array Value) (below : List Frame) (meth : Method) (c : Code), FX γ p s m args meth c cX12_count RX12 2 → meth.sig.returnType = (some .int) → JJ γ p l e rm_X12_count s m args below meth c 2 0 0 (QI below γ S X args s 0 0) S μ 0 [(0, .ref (gb γ + a0)), (1, .int a1)] [] := by
    intro p e s m args below meth c F hr
    refine j_iload_n F 1 dX12_count_0 rfl ?_
    by_cases e0 : a1 = 0
    · rw [if_pos e0] at h
      refine j_tin F (off := 43) 44 dX12_count_1 (by rw [e0]; decide) (by rw [e0]; decide) (by rw [e0]; rfl) (by decide) ?_
      refine j_aload_n F 0 dX12_count_44 rfl ?_
      refine j_gI F fl_RX12_114.l rfl dX12_count_45 h (fun v1 h => ?_)
      exact j_iret F hr dX12_count_48 h
    rw [if_neg e0] at h
    by_cases e1 : a1 = 1
    · rw [if_pos e1] at h
      refine j_tin F (off := 48) 49 dX12_count_1 (by rw [e1]; decide) (by rw [e1]; decide) (by rw [e1]; rfl) (by decide) ?_
      refine j_aload_n F 0 dX12_count_49 rfl ?_
      refine j_gI F fl_RX12_256.l rfl dX12_count_50 h (fun v2 h => ?_)
      exact j_iret F hr dX12_count_53 h
    rw [if_neg e1] at h
    by_cases e2 : a1 = 2
    · rw [if_pos e2] at h
      refine j_tin F (off := 53) 54 dX12_count_1 (by rw [e2]; decide) (by rw [e2]; decide) (by rw [e2]; rfl) (by decide) ?_
      refine j_aload_n F 0 dX12_count_54 rfl ?_
      refine j_gI F fl_RX12_297.l rfl dX12_count_55 h (fun v3 h => ?_)
      exact j_iret F hr dX12_count_58 h
    rw [if_neg e2] at h
    by_cases e3 : a1 = 3
    · rw [if_pos e3] at h
      refine j_tin F (off := 58) 59 dX12_count_1 (by rw [e3]; decide) (by rw [e3]; decide) (by rw [e3]; rfl) (by decide) ?_
      refine j_aload_n F 0 dX12_count_59 rfl ?_
      refine j_gR F fl_RX12_27 rfl dX12_count_60 h (fun v4 h => ?_)
      refine j_iload_n F 1 dX12_count_63 rfl ?_
      refine j_iconst F 3 dX12_count_64 (by decide) ?_
      refine j_isub F dX12_count_65 ?_
      refine j_iald F dX12_count_66 h (fun v5 h => ?_)
      exact j_iret F hr dX12_count_67 h
    rw [if_neg e3] at h
    by_cases e4 : a1 = 4
    · rw [if_pos e4] at h
      refine j_tin F (off := 58) 59 dX12_count_1 (by rw [e4]; decide) (by rw [e4]; decide) (by rw [e4]; rfl) (by decide) ?_
      refine j_aload_n F 0 dX12_count_59 rfl ?_
      refine j_gR F fl_RX12_27 rfl dX12_count_60 h (fun v6 h => ?_)
      refine j_iload_n F 1 dX12_count_63 rfl ?_
      refine j_iconst F 3 dX12_count_64 (by decide) ?_
      refine j_isub F dX12_count_65 ?_
      refine j_iald F dX12_count_66 h (fun v7 h => ?_)
      exact j_iret F hr dX12_count_67 h
    rw [if_neg e4] at h
    by_cases e5 : a1 = 5
    · rw [if_pos e5] at h
      refine j_tin F (off := 58) 59 dX12_count_1 (by rw [e5]; decide) (by rw [e5]; decide) (by rw [e5]; rfl) (by decide) ?_
      refine j_aload_n F 0 dX12_count_59 rfl ?_
      refine j_gR F fl_RX12_27 rfl dX12_count_60 h (fun v8 h => ?_)
      refine j_iload_n F 1 dX12_count_63 rfl ?_
      refine j_iconst F 3 dX12_count_64 (by decide) ?_
      refine j_isub F dX12_count_65 ?_
      refine j_iald F dX12_count_66 h (fun v9 h => ?_)
      exact j_iret F hr dX12_count_67 h
    rw [if_neg e5] at h
    by_cases e6 : a1 = 6
    · rw [if_pos e6] at h
      refine j_tin F (off := 67) 68 dX12_count_1 (by rw [e6]; decide) (by rw [e6]; decide) (by rw [e6]; rfl) (by decide) ?_
      refine j_aload_n F 0 dX12_count_68 rfl ?_
      refine j_cVI F mi_X12_stands w_1107 (rest := []) h (fun _ g => c_X12_stands g) rfl rfl (Nat.le_of_ble_eq_true rfl) ⟨Nat.le_of_ble_eq_true rfl, Nat.le_of_ble_eq_true rfl⟩ ⟨Nat.le_of_ble_eq_true rfl, Nat.le_of_ble_eq_true rfl⟩ dX12_count_69 (fun q10 h => ?_)
      refine j_ifeq F 79 dX12_count_72 (by decide) h (fun _ h => ?_) (fun _ h => ?_)
      · refine j_iconst F 0 dX12_count_79 (by decide) ?_
        exact j_iret F hr dX12_count_80 h
      · refine j_iconst F 1 dX12_count_75 (by decide) ?_
        refine j_goto F 80 dX12_count_76 (by decide) ?_
        exact j_iret F hr dX12_count_80 h
    rw [if_neg e6] at h
    have g0 : (a1).toInt ≠ (0 : Int) := fun q => e0 (Int32.toInt_inj.mp (q.trans (by decide)))
    have g1 : (a1).toInt ≠ (1 : Int) := fun q => e1 (Int32.toInt_inj.mp (q.trans (by decide)))
    have g2 : (a1).toInt ≠ (2 : Int) := fun q => e2 (Int32.toInt_inj.mp (q.trans (by decide)))
    have g3 : (a1).toInt ≠ (3 : Int) := fun q => e3 (Int32.toInt_inj.mp (q.trans (by decide)))
    have g4 : (a1).toInt ≠ (4 : Int) := fun q => e4 (Int32.toInt_inj.mp (q.trans (by decide)))
    have g5 : (a1).toInt ≠ (5 : Int) := fun q => e5 (Int32.toInt_inj.mp (q.trans (by decide)))
    have g6 : (a1).toInt ≠ (6 : Int) := fun q => e6 (Int32.toInt_inj.mp (q.trans (by decide)))
    refine j_tout F 81 dX12_count_1 (by omega) (by decide) ?_
    refine j_iconst F (-1) dX12_count_81 (by decide) ?_
    exact j_iret F hr dX12_count_82 h
  exact ct_of (by decide +kernel) (Nat.le_of_ble_eq_true rfl) (fun p e s m args below meth c F hr _ => hJ p e s m args below meth c F hr)
