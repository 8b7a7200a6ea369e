def rm_X11_put : Room := { frames := 2, cells := 0, slots := 0, locals := 43 }
theorem dX11_put_0 : decode cX11_put 0 = .ok (.iload_n 1, 1) := by decide +kernel
theorem dX11_put_1 : decode cX11_put 1 = .ok (.invokestatic 129, 3) := by decide +kernel
theorem dX11_put_4 : decode cX11_put 4 = .ok (.ifCond .ne 5, 3) := by decide +kernel
theorem dX11_put_7 : decode cX11_put 7 = .ok (.iconst (-1), 1) := by decide +kernel
theorem dX11_put_8 : decode cX11_put 8 = .ok (.ireturn, 1) := by decide +kernel
theorem dX11_put_9 : decode cX11_put 9 = .ok (.iload_n 1, 1) := by decide +kernel
theorem dX11_put_10 : decode cX11_put 10 = .ok (.iload_n 2, 1) := by decide +kernel
theorem dX11_put_11 : decode cX11_put 11 = .ok (.invokestatic 132, 3) := by decide +kernel
theorem dX11_put_14 : decode cX11_put 14 = .ok (.ifCond .ne 6, 3) := by decide +kernel
theorem dX11_put_17 : decode cX11_put 17 = .ok (.bipush (-2), 2) := by decide +kernel
theorem dX11_put_19 : decode cX11_put 19 = .ok (.ireturn, 1) := by decide +kernel
theorem dX11_put_20 : decode cX11_put 20 = .ok (.aload_n 0, 1) := by decide +kernel
theorem dX11_put_21 : decode cX11_put 21 = .ok (.getfield 12, 3) := by decide +kernel
theorem dX11_put_24 : decode cX11_put 24 = .ok (.getfield 136, 3) := by decide +kernel
theorem dX11_put_27 : decode cX11_put 27 = .ok (.iload_n 1, 1) := by decide +kernel
theorem dX11_put_28 : decode cX11_put 28 = .ok (.iaload, 1) := by decide +kernel
theorem dX11_put_29 : decode cX11_put 29 = .ok (.istore_n 3, 1) := by decide +kernel
theorem dX11_put_30 : decode cX11_put 30 = .ok (.aload_n 0, 1) := by decide +kernel
theorem dX11_put_31 : decode cX11_put 31 = .ok (.getfield 12, 3) := by decide +kernel
theorem dX11_put_34 : decode cX11_put 34 = .ok (.getfield 136, 3) := by decide +kernel
theorem dX11_put_37 : decode cX11_put 37 = .ok (.iload_n 1, 1) := by decide +kernel
theorem dX11_put_38 : decode cX11_put 38 = .ok (.iload_n 2, 1) := by decide +kernel
theorem dX11_put_39 : decode cX11_put 39 = .ok (.iastore, 1) := by decide +kernel
theorem dX11_put_40 : decode cX11_put 40 = .ok (.iload_n 3, 1) := by decide +kernel
theorem dX11_put_41 : decode cX11_put 41 = .ok (.ireturn, 1) := by decide +kernel
def f_X11_put (S : SH) (a0 : Nat) (a1 : Int32) (a2 : Int32) (μ : Mem) : Option (Int32 × Mem) :=
  if isO S 11 a0 = true then
  (f_X11_isDial S a1 μ).bind fun q1 =>
  (if q1.1 = 0 then
  some ((-1), q1.2)
  else
  (f_X11_fitsDial S a1 a2 q1.2).bind fun q2 =>
  (if q2.1 = 0 then
  some ((-2), q2.2)
  else
  (gR S 11 a0 0).bind fun v3 =>
  (gR S 2 v3 3).bind fun v4 =>
  (aI S .int v4 a1 q2.2).bind fun v5 =>
  (gR S 11 a0 0).bind fun v6 =>
  (gR S 2 v6 3).bind fun v7 =>
  (sI S v7 a1 a2 q2.2).bind fun ν8 =>
  some (v5, ν8)))
  else none
set_option maxRecDepth 100000 in
set_option maxHeartbeats 4000000 in
theorem c_X11_put {l : Launch} {γ : GE} {S : SH} {a0 : Nat} {a1 : Int32} {a2 : Int32} {μ : Mem} {X : (Int32 × Mem)} (h : f_X11_put S a0 a1 a2 μ = some X) : isO S 11 a0 = true ∧ Ct l γ yX11_put cX11_put 4 (some .int) rm_X11_put [.ref (gb γ + a0), .int a1, .int a2] S μ S X.2 (some (.int X.1)) := by
  unfold f_X11_put at h
  obtain ⟨h0, h⟩ := if_some h
  refine ⟨h0, ?_⟩
  have hJ : ∀ (p : Program) (e : Env) (s : State) (m : MethodId) (args : Array Value) (below : List Frame) (meth : Method) (c : Code), FX γ p s m args meth c cX11_put RX11 4 → meth.sig.returnType = (some .int) → JJ γ p l e rm_X11_put s m args below meth c 4 0 0 (QI below γ S X args s 0 0) S μ 0 [(0, .ref (gb γ + a0)), (1, .int a1), (2, .int a2)] [] := by
    intro p e s m args below meth c F hr
    refine j_iload_n F 1 dX11_put_0 rfl ?_
    refine j_cSI F mi_X11_isDial w_499 (rest := []) h (fun _ g => c_X11_isDial g) rfl rfl (Nat.le_of_ble_eq_true rfl) ⟨Nat.le_of_ble_eq_true rfl, Nat.le_of_ble_eq_true rfl⟩ ⟨Nat.le_of_ble_eq_true rfl, Nat.le_of_ble_eq_true rfl⟩ dX11_put_1 (fun q1 h => ?_)
    refine j_ifne F 9 dX11_put_4 (by decide) h (fun _ h => ?_) (fun _ h => ?_)
    · refine j_iload_n F 1 dX11_put_9 rfl ?_
      refine j_iload_n F 2 dX11_put_10 rfl ?_
      refine j_cSI F mi_X11_fitsDial w_502 (rest := []) h (fun _ g => c_X11_fitsDial g) rfl rfl (Nat.le_of_ble_eq_true rfl) ⟨Nat.le_of_ble_eq_true rfl, Nat.le_of_ble_eq_true rfl⟩ ⟨Nat.le_of_ble_eq_true rfl, Nat.le_of_ble_eq_true rfl⟩ dX11_put_11 (fun q2 h => ?_)
      refine j_ifne F 20 dX11_put_14 (by decide) h (fun _ h => ?_) (fun _ h => ?_)
      · refine j_aload_n F 0 dX11_put_20 rfl ?_
        refine j_gR F fl_RX11_12 rfl dX11_put_21 h (fun v3 h => ?_)
        refine j_gR F fl_RX11_136 rfl dX11_put_24 h (fun v4 h => ?_)
        refine j_iload_n F 1 dX11_put_27 rfl ?_
        refine j_iald F dX11_put_28 h (fun v5 h => ?_)
        refine j_istore_n F [(3, .int v5), (0, .ref (gb γ + a0)), (1, .int a1), (2, .int a2)] dX11_put_29 rfl (by decide) rfl ?_
        refine j_aload_n F 1 dX11_put_30 rfl ?_
        refine j_gR F fl_RX11_12 rfl dX11_put_31 h (fun v6 h => ?_)
        refine j_gR F fl_RX11_136 rfl dX11_put_34 h (fun v7 h => ?_)
        refine j_iload_n F 2 dX11_put_37 rfl ?_
        refine j_iload_n F 3 dX11_put_38 rfl ?_
        refine j_iast F dX11_put_39 h (fun ν8 h => ?_)
        refine j_iload_n F 0 dX11_put_40 rfl ?_
        exact j_iret F hr dX11_put_41 h
      · refine j_bipush F (-2) dX11_put_17 (by decide) ?_
        exact j_iret F hr dX11_put_19 h
    · refine j_iconst F (-1) dX11_put_7 (by decide) ?_
      exact j_iret F hr dX11_put_8 h
  exact ct_of (by decide +kernel) (Nat.le_of_ble_eq_true rfl) (fun p e s m args below meth c F hr _ => hJ p e s m args below meth c F hr)
def rm_X11_told : Room := { frames := 2, cells := 0, slots := 0, locals := 42 }
theorem dX11_told_0 : decode cX11_told 0 = .ok (.iload_n 1, 1) := by decide +kernel
theorem dX11_told_1 : decode cX11_told 1 = .ok (.invokestatic 129, 3) := by decide +kernel
theorem dX11_told_4 : decode cX11_told 4 = .ok (.ifCond .eq 15, 3) := by decide +kernel
theorem dX11_told_7 : decode cX11_told 7 = .ok (.aload_n 0, 1) := by decide +kernel
theorem dX11_told_8 : decode cX11_told 8 = .ok (.getfield 12, 3) := by decide +kernel
theorem dX11_told_11 : decode cX11_told 11 = .ok (.getfield 136, 3) := by decide +kernel
theorem dX11_told_14 : decode cX11_told 14 = .ok (.iload_n 1, 1) := by decide +kernel
theorem dX11_told_15 : decode cX11_told 15 = .ok (.iaload, 1) := by decide +kernel
theorem dX11_told_16 : decode cX11_told 16 = .ok (.goto 4, 3) := by decide +kernel
theorem dX11_told_19 : decode cX11_told 19 = .ok (.iconst (-1), 1) := by decide +kernel
theorem dX11_told_20 : decode cX11_told 20 = .ok (.ireturn, 1) := by decide +kernel
def f_X11_told (S : SH) (a0 : Nat) (a1 : Int32) (μ : Mem) : Option (Int32 × Mem) :=
  if isO S 11 a0 = true then
  (f_X11_isDial S a1 μ).bind fun q1 =>
  (if q1.1 = 0 then
  some ((-1), q1.2)
  else
  (gR S 11 a0 0).bind fun v2 =>
  (gR S 2 v2 3).bind fun v3 =>
  (aI S .int v3 a1 q1.2).bind fun v4 =>
  some (v4, q1.2))
  else none
set_option maxRecDepth 100000 in
set_option maxHeartbeats 4000000 in
theorem c_X11_told {l : Launch} {γ : GE} {S : SH} {a0 : Nat} {a1 : Int32} {μ : Mem} {X : (Int32 × Mem)} (h : f_X11_told S a0 a1 μ = some X) : isO S 11 a0 = true ∧ Ct l γ yX11_told cX11_told 2 (some .int) rm_X11_told [.ref (gb γ + a0), .int a1] S μ S X.2 (some (.int X.1)) := by
  unfold f_X11_told at h
  obtain ⟨h0, h⟩ := if_some h
  refine ⟨h0, ?_⟩
  have hJ : ∀ (p : Program) (e : Env) (s : State) (m : MethodId) (args : Array Value) (below : List Frame) (meth : Method) (c : Code), FX γ p s m args meth c cX11_told RX11 2 → meth.sig.returnType = (some .int) → JJ γ p l e rm_X11_told s m args below meth c 2 0 0 (QI below γ S X args s 0 0) S μ 0 [(0, .ref (gb γ + a0)), (1, .int a1)] [] := by
    intro p e s m args below meth c F hr
    refine j_iload_n F 1 dX11_told_0 rfl ?_
    refine j_cSI F mi_X11_isDial w_499 (rest := []) h (fun _ g => c_X11_isDial g) rfl rfl (Nat.le_of_ble_eq_true rfl) ⟨Nat.le_of_ble_eq_true rfl, Nat.le_of_ble_eq_true rfl⟩ ⟨Nat.le_of_ble_eq_true rfl, Nat.le_of_ble_eq_true rfl⟩ dX11_told_1 (fun q1 h => ?_)
    refine j_ifeq F 19 dX11_told_4 (by decide) h (fun _ h => ?_) (fun _ h => ?_)
    · refine j_iconst F (-1) dX11_told_19 (by decide) ?_
      exact j_iret F hr dX11_told_20 h
    · refine j_aload_n F 0 dX11_told_7 rfl ?_
      refine j_gR F fl_RX11_12 rfl dX11_told_8 h (fun v2 h => ?_)
      refine j_gR F fl_RX11_136 rfl dX11_told_11 h (fun v3 h => ?_)
      refine j_iload_n F 1 dX11_told_14 rfl ?_
      refine j_iald F dX11_told_15 h (fun v4 h => ?_)
      refine j_goto F 20 dX11_told_16 (by decide) ?_
      exact j_iret F hr dX11_told_20 h
  exact ct_of (by decide +kernel) (Nat.le_of_ble_eq_true rfl) (fun p e s m args below meth c F hr _ => hJ p e s m args below meth c F hr)
def rm_X11_padOf : Room := { frames := 2, cells := 0, slots := 0, locals := 42 }
theorem dX11_padOf_0 : decode cX11_padOf 0 = .ok (.iload_n 1, 1) := by decide +kernel
theorem dX11_padOf_1 : decode cX11_padOf 1 = .ok (.invokestatic 80, 3) := by decide +kernel
theorem dX11_padOf_4 : decode cX11_padOf 4 = .ok (.ifCond .ne 7, 3) := by decide +kernel
theorem dX11_padOf_7 : decode cX11_padOf 7 = .ok (.ldc2_w 139, 3) := by decide +kernel
theorem dX11_padOf_10 : decode cX11_padOf 10 = .ok (.lreturn, 1) := by decide +kernel
theorem dX11_padOf_11 : decode cX11_padOf 11 = .ok (.iload_n 2, 1) := by decide +kernel
theorem dX11_padOf_12 : decode cX11_padOf 12 = .ok (.tableswitch 70 0 2 #[28, 42, 56], 28) := by decide +kernel
theorem dX11_padOf_40 : decode cX11_padOf 40 = .ok (.aload_n 0, 1) := by decide +kernel
theorem dX11_padOf_41 : decode cX11_padOf 41 = .ok (.getfield 12, 3) := by decide +kernel
theorem dX11_padOf_44 : decode cX11_padOf 44 = .ok (.getfield 88, 3) := by decide +kernel
theorem dX11_padOf_47 : decode cX11_padOf 47 = .ok (.getfield 141, 3) := by decide +kernel
theorem dX11_padOf_50 : decode cX11_padOf 50 = .ok (.iload_n 1, 1) := by decide +kernel
theorem dX11_padOf_51 : decode cX11_padOf 51 = .ok (.iaload, 1) := by decide +kernel
theorem dX11_padOf_52 : decode cX11_padOf 52 = .ok (.i2l, 1) := by decide +kernel
theorem dX11_padOf_53 : decode cX11_padOf 53 = .ok (.lreturn, 1) := by decide +kernel
theorem dX11_padOf_54 : decode cX11_padOf 54 = .ok (.aload_n 0, 1) := by decide +kernel
theorem dX11_padOf_55 : decode cX11_padOf 55 = .ok (.getfield 12, 3) := by decide +kernel
theorem dX11_padOf_58 : decode cX11_padOf 58 = .ok (.getfield 88, 3) := by decide +kernel
theorem dX11_padOf_61 : decode cX11_padOf 61 = .ok (.getfield 144, 3) := by decide +kernel
theorem dX11_padOf_64 : decode cX11_padOf 64 = .ok (.iload_n 1, 1) := by decide +kernel
theorem dX11_padOf_65 : decode cX11_padOf 65 = .ok (.iaload, 1) := by decide +kernel
theorem dX11_padOf_66 : decode cX11_padOf 66 = .ok (.i2l, 1) := by decide +kernel
theorem dX11_padOf_67 : decode cX11_padOf 67 = .ok (.lreturn, 1) := by decide +kernel
theorem dX11_padOf_68 : decode cX11_padOf 68 = .ok (.aload_n 0, 1) := by decide +kernel
theorem dX11_padOf_69 : decode cX11_padOf 69 = .ok (.getfield 12, 3) := by decide +kernel
theorem dX11_padOf_72 : decode cX11_padOf 72 = .ok (.getfield 88, 3) := by decide +kernel
theorem dX11_padOf_75 : decode cX11_padOf 75 = .ok (.getfield 147, 3) := by decide +kernel
theorem dX11_padOf_78 : decode cX11_padOf 78 = .ok (.iload_n 1, 1) := by decide +kernel
theorem dX11_padOf_79 : decode cX11_padOf 79 = .ok (.iaload, 1) := by decide +kernel
theorem dX11_padOf_80 : decode cX11_padOf 80 = .ok (.i2l, 1) := by decide +kernel
theorem dX11_padOf_81 : decode cX11_padOf 81 = .ok (.lreturn, 1) := by decide +kernel
theorem dX11_padOf_82 : decode cX11_padOf 82 = .ok (.ldc2_w 139, 3) := by decide +kernel
theorem dX11_padOf_85 : decode cX11_padOf 85 = .ok (.lreturn, 1) := by decide +kernel
def f_X11_padOf (S : SH) (a0 : Nat) (a1 : Int32) (a2 : Int32) (μ : Mem) : Option (Int64 × Mem) :=
  if isO S 11 a0 = true then
  (f_X11_isPad S a1 μ).bind fun q1 =>
  (if q1.1 = 0 then
  some ((-9223372036854775808), q1.2)
  else
  (if a2 = 0 then
  (gR S 11 a0 0).bind fun v2 =>
  (gR S 2 v2 0).bind fun v3 =>
  (gR S 4 v3 0).bind fun v4 =>
  (aI S .int v4 a1 q1.2).bind fun v5 =>
  some (v5.toInt64, q1.2)
  else if a2 = 1 then
  (gR S 11 a0 0).bind fun v6 =>
  (gR S 2 v6 0).bind fun v7 =>
  (gR S 4 v7 1).bind fun v8 =>
  (aI S .int v8 a1 q1.2).bind fun v9 =>
  some (v9.toInt64, q1.2)
  else if a2 = 2 then
  (gR S 11 a0 0).bind fun v10 =>
  (gR S 2 v10 0).bind fun v11 =>
  (gR S 4 v11 2).bind fun v12 =>
  (aI S .int v12 a1 q1.2).bind fun v13 =>
  some (v13.toInt64, q1.2)
  else 
  some ((-9223372036854775808), q1.2)))
  else none
set_option maxRecDepth 100000 in
set_option maxHeartbeats 4000000 in
theorem c_X11_padOf {l : Launch} {γ : GE} {S : SH} {a0 : Nat} {a1 : Int32} {a2 : Int32} {μ : Mem} {X : (Int64 × Mem)} (h : f_X11_padOf S a0 a1 a2 μ = some X) : isO S 11 a0 = true ∧ Ct l γ yX11_padOf cX11_padOf 3 (some .long) rm_X11_padOf [.ref (gb γ + a0), .int a1, .int a2] S μ S X.2 (some (.long X.1)) := by
  unfold f_X11_padOf at h
  obtain ⟨h0, h⟩ := if_some h
  refine ⟨h0, ?_⟩
  have hJ : ∀ (p : Program) (e : Env) (s : State) (m : MethodId) (args : Array Value) (below : List Frame) (meth : Method) (c : Code), FX γ p s m args meth c cX11_padOf RX11 3 → meth.sig.returnType = (some .long) → JJ γ p l e rm_X11_padOf s m args below meth c 3 0 0 (QL below γ S X args s 0 0) S μ 0 [(0, .ref (gb γ + a0)), (1, .int a1), (2, .int a2)] [] := by
    intro p e s m args below meth c F hr
    refine j_iload_n F 1 dX11_padOf_0 rfl ?_
    refine j_cSI F mi_X11_isPad w_461 (rest := []) h (fun _ g => c_X11_isPad g) rfl rfl (Nat.le_of_ble_eq_true rfl) ⟨Nat.le_of_ble_eq_true rfl, Nat.le_of_ble_eq_true rfl⟩ ⟨Nat.le_of_ble_eq_true rfl, Nat.le_of_ble_eq_true rfl⟩ dX11_padOf_1 (fun q1 h => ?_)
    refine j_ifne F 11 dX11_padOf_4 (by decide) h (fun _ h => ?_) (fun _ h => ?_)
    · refine j_iload_n F 2 dX11_padOf_11 rfl ?_
      by_cases e0 : a2 = 0
      · rw [if_pos e0] at h
        refine j_tin F (off := 28) 40 dX11_padOf_12 (by rw [e0]; decide) (by rw [e0]; decide) (by rw [e0]; rfl) (by decide) ?_
        refine j_aload_n F 0 dX11_padOf_40 rfl ?_
        refine j_gR F fl_RX11_12 rfl dX11_padOf_41 h (fun v2 h => ?_)
        refine j_gR F fl_RX11_88 rfl dX11_padOf_44 h (fun v3 h => ?_)
        refine j_gR F fl_RX11_141 rfl dX11_padOf_47 h (fun v4 h => ?_)
        refine j_iload_n F 1 dX11_padOf_50 rfl ?_
        refine j_iald F dX11_padOf_51 h (fun v5 h => ?_)
        refine j_i2l F dX11_padOf_52 ?_
        exact j_lret F hr dX11_padOf_53 h
      rw [if_neg e0] at h
      by_cases e1 : a2 = 1
      · rw [if_pos e1] at h
        refine j_tin F (off := 42) 54 dX11_padOf_12 (by rw [e1]; decide) (by rw [e1]; decide) (by rw [e1]; rfl) (by decide) ?_
        refine j_aload_n F 0 dX11_padOf_54 rfl ?_
        refine j_gR F fl_RX11_12 rfl dX11_padOf_55 h (fun v6 h => ?_)
        refine j_gR F fl_RX11_88 rfl dX11_padOf_58 h (fun v7 h => ?_)
        refine j_gR F fl_RX11_144 rfl dX11_padOf_61 h (fun v8 h => ?_)
        refine j_iload_n F 1 dX11_padOf_64 rfl ?_
        refine j_iald F dX11_padOf_65 h (fun v9 h => ?_)
        refine j_i2l F dX11_padOf_66 ?_
        exact j_lret F hr dX11_padOf_67 h
      rw [if_neg e1] at h
      by_cases e2 : a2 = 2
      · rw [if_pos e2] at h
        refine j_tin F (off := 56) 68 dX11_padOf_12 (by rw [e2]; decide) (by rw [e2]; decide) (by rw [e2]; rfl) (by decide) ?_
        refine j_aload_n F 0 dX11_padOf_68 rfl ?_
        refine j_gR F fl_RX11_12 rfl dX11_padOf_69 h (fun v10 h => ?_)
        refine j_gR F fl_RX11_88 rfl dX11_padOf_72 h (fun v11 h => ?_)
        refine j_gR F fl_RX11_147 rfl dX11_padOf_75 h (fun v12 h => ?_)
        refine j_iload_n F 1 dX11_padOf_78 rfl ?_
        refine j_iald F dX11_padOf_79 h (fun v13 h => ?_)
        refine j_i2l F dX11_padOf_80 ?_
        exact j_lret F hr dX11_padOf_81 h
      rw [if_neg e2] at h
      have g0 : (a2).toInt ≠ (0 : Int) := fun q => e0 (Int32.toInt_inj.mp (q.trans (by decide)))
      have g1 : (a2).toInt ≠ (1 : Int) := fun q => e1 (Int32.toInt_inj.mp (q.trans (by decide)))
      have g2 : (a2).toInt ≠ (2 : Int) := fun q => e2 (Int32.toInt_inj.mp (q.trans (by decide)))
      refine j_tout F 82 dX11_padOf_12 (by omega) (by decide) ?_
      refine j_ldc2 F (-9223372036854775808) dX11_padOf_82 w_517 ?_
      exact j_lret F hr dX11_padOf_85 h
    · refine j_ldc2 F (-9223372036854775808) dX11_padOf_7 w_517 ?_
      exact j_lret F hr dX11_padOf_10 h
  exact ct_of (by decide +kernel) (Nat.le_of_ble_eq_true rfl) (fun p e s m args below meth c F hr _ => hJ p e s m args below meth c F hr)
def rm_X11_isChart : Room := { frames := 1, cells := 0, slots := 0, locals := 22 }
theorem dX11_isChart_0 : decode cX11_isChart 0 = .ok (.iload_n 0, 1) := by decide +kernel
theorem dX11_isChart_1 : decode cX11_isChart 1 = .ok (.iconst 0, 1) := by decide +kernel
theorem dX11_isChart_2 : decode cX11_isChart 2 = .ok (.iconst 2, 1) := by decide +kernel
theorem dX11_isChart_3 : decode cX11_isChart 3 = .ok (.invokestatic 84, 3) := by decide +kernel
theorem dX11_isChart_6 : decode cX11_isChart 6 = .ok (.ireturn, 1) := by decide +kernel
def f_X11_isChart (S : SH) (a0 : Int32) (μ : Mem) : Option (Int32 × Mem) :=
  (f_X11_within S a0 0 2 μ).bind fun q1 =>
  (oz q1.1).bind fun z2 => some (z2, q1.2)
set_option maxRecDepth 100000 in
set_option maxHeartbeats 4000000 in
theorem c_X11_isChart {l : Launch} {γ : GE} {S : SH} {a0 : Int32} {μ : Mem} {X : (Int32 × Mem)} (h : f_X11_isChart S a0 μ = some X) : Ct l γ yX11_isChart cX11_isChart 1 (some .boolean) rm_X11_isChart [.int a0] S μ S X.2 (some (.int X.1)) := by
  unfold f_X11_isChart at h
  have hJ : ∀ (p : Program) (e : Env) (s : State) (m : MethodId) (args : Array Value) (below : List Frame) (meth : Method) (c : Code), FX γ p s m args meth c cX11_isChart RX11 1 → meth.sig.returnType = (some .boolean) → JJ γ p l e rm_X11_isChart s m args below meth c 1 0 0 (QI below γ S X args s 0 0) S μ 0 [(0, .int a0)] [] := by
    intro p e s m args below meth c F hr
    refine j_iload_n F 0 dX11_isChart_0 rfl ?_
    refine j_iconst F 0 dX11_isChart_1 (by decide) ?_
    refine j_iconst F 2 dX11_isChart_2 (by decide) ?_
    refine j_cSI F mi_X11_within w_464 (rest := []) h (fun _ g => c_X11_within g) rfl rfl (Nat.le_of_ble_eq_true rfl) ⟨Nat.le_of_ble_eq_true rfl, Nat.le_of_ble_eq_true rfl⟩ ⟨Nat.le_of_ble_eq_true rfl, Nat.le_of_ble_eq_true rfl⟩ dX11_isChart_3 (fun q1 h => ?_)
    exact j_zretG F hr dX11_isChart_6 h
  exact ct_of (by decide +kernel) (Nat.le_of_ble_eq_true rfl) (fun p e s m args below meth c F hr _ => hJ p e s m args below meth c F hr)
def rm_X11_entry : Room := { frames := 2, cells := 0, slots := 0, locals := 43 }
theorem dX11_entry_0 : decode cX11_entry 0 = .ok (.iload_n 1, 1) := by decide +kernel
theorem dX11_entry_1 : decode cX11_entry 1 = .ok (.invokestatic 150, 3) := by decide +kernel
theorem dX11_entry_4 : decode cX11_entry 4 = .ok (.ifCond .ne 5, 3) := by decide +kernel
theorem dX11_entry_7 : decode cX11_entry 7 = .ok (.iconst (-1), 1) := by decide +kernel
theorem dX11_entry_8 : decode cX11_entry 8 = .ok (.ireturn, 1) := by decide +kernel
theorem dX11_entry_9 : decode cX11_entry 9 = .ok (.iconst 1, 1) := by decide +kernel
theorem dX11_entry_10 : decode cX11_entry 10 = .ok (.iload_n 2, 1) := by decide +kernel
theorem dX11_entry_11 : decode cX11_entry 11 = .ok (.invokestatic 132, 3) := by decide +kernel
theorem dX11_entry_14 : decode cX11_entry 14 = .ok (.ifCond .eq 14, 3) := by decide +kernel
theorem dX11_entry_17 : decode cX11_entry 17 = .ok (.iload_n 3, 1) := by decide +kernel
theorem dX11_entry_18 : decode cX11_entry 18 = .ok (.iconst (-1), 1) := by decide +kernel
theorem dX11_entry_19 : decode cX11_entry 19 = .ok (.sipush 9999, 3) := by decide +kernel
theorem dX11_entry_22 : decode cX11_entry 22 = .ok (.invokestatic 84, 3) := by decide +kernel
theorem dX11_entry_25 : decode cX11_entry 25 = .ok (.ifCond .ne 6, 3) := by decide +kernel
theorem dX11_entry_28 : decode cX11_entry 28 = .ok (.bipush (-2), 2) := by decide +kernel
theorem dX11_entry_30 : decode cX11_entry 30 = .ok (.ireturn, 1) := by decide +kernel
theorem dX11_entry_31 : decode cX11_entry 31 = .ok (.aload_n 0, 1) := by decide +kernel
theorem dX11_entry_32 : decode cX11_entry 32 = .ok (.getfield 12, 3) := by decide +kernel
theorem dX11_entry_35 : decode cX11_entry 35 = .ok (.getfield 153, 3) := by decide +kernel
theorem dX11_entry_38 : decode cX11_entry 38 = .ok (.iload_n 1, 1) := by decide +kernel
theorem dX11_entry_39 : decode cX11_entry 39 = .ok (.aaload, 1) := by decide +kernel
theorem dX11_entry_40 : decode cX11_entry 40 = .ok (.astore 4, 2) := by decide +kernel
theorem dX11_entry_42 : decode cX11_entry 42 = .ok (.aload 4, 2) := by decide +kernel
theorem dX11_entry_44 : decode cX11_entry 44 = .ok (.iload_n 2, 1) := by decide +kernel
theorem dX11_entry_45 : decode cX11_entry 45 = .ok (.invokevirtual 157, 3) := by decide +kernel
theorem dX11_entry_48 : decode cX11_entry 48 = .ok (.istore 5, 2) := by decide +kernel
theorem dX11_entry_50 : decode cX11_entry 50 = .ok (.iload_n 3, 1) := by decide +kernel
theorem dX11_entry_51 : decode cX11_entry 51 = .ok (.iconst (-1), 1) := by decide +kernel
theorem dX11_entry_52 : decode cX11_entry 52 = .ok (.if_icmp .ne 11, 3) := by decide +kernel
theorem dX11_entry_55 : decode cX11_entry 55 = .ok (.iload 5, 2) := by decide +kernel
theorem dX11_entry_57 : decode cX11_entry 57 = .ok (.ifCond .ne 6, 3) := by decide +kernel
theorem dX11_entry_60 : decode cX11_entry 60 = .ok (.bipush (-3), 2) := by decide +kernel
theorem dX11_entry_62 : decode cX11_entry 62 = .ok (.ireturn, 1) := by decide +kernel
theorem dX11_entry_63 : decode cX11_entry 63 = .ok (.iload 5, 2) := by decide +kernel
theorem dX11_entry_65 : decode cX11_entry 65 = .ok (.ifCond .ne 16, 3) := by decide +kernel
theorem dX11_entry_68 : decode cX11_entry 68 = .ok (.aload 4, 2) := by decide +kernel
theorem dX11_entry_70 : decode cX11_entry 70 = .ok (.getfield 160, 3) := by decide +kernel
theorem dX11_entry_73 : decode cX11_entry 73 = .ok (.bipush 10, 2) := by decide +kernel
theorem dX11_entry_75 : decode cX11_entry 75 = .ok (.if_icmp .lt 6, 3) := by decide +kernel
theorem dX11_entry_78 : decode cX11_entry 78 = .ok (.bipush (-4), 2) := by decide +kernel
theorem dX11_entry_80 : decode cX11_entry 80 = .ok (.ireturn, 1) := by decide +kernel
theorem dX11_entry_81 : decode cX11_entry 81 = .ok (.aload 4, 2) := by decide +kernel
theorem dX11_entry_83 : decode cX11_entry 83 = .ok (.iload_n 2, 1) := by decide +kernel
theorem dX11_entry_84 : decode cX11_entry 84 = .ok (.iload_n 3, 1) := by decide +kernel
theorem dX11_entry_85 : decode cX11_entry 85 = .ok (.invokevirtual 161, 3) := by decide +kernel
theorem dX11_entry_88 : decode cX11_entry 88 = .ok (.aload 4, 2) := by decide +kernel
theorem dX11_entry_90 : decode cX11_entry 90 = .ok (.getfield 160, 3) := by decide +kernel
theorem dX11_entry_93 : decode cX11_entry 93 = .ok (.ireturn, 1) := by decide +kernel
def b_X11_entry_63 (S : SH) (a2 : Int32) (a3 : Int32) (a4 : Nat) (a5 : Int32) (μ : Mem) : Option (Int32 × Mem) :=
 (if a5 = 0 then
 (gI S 1 a4 1 μ).bind fun v10 =>
 (if v10 < 10 then
 (f_X1_write S a4 a2 a3 μ).bind fun q11 =>
 (gI S 1 a4 1 q11.2).bind fun v12 =>
 some (v12, q11.2)
 else
 some ((-4), μ))
 else
 (f_X1_write S a4 a2 a3 μ).bind fun q8 =>
 (gI S 1 a4 1 q8.2).bind fun v9 =>
 some (v9, q8.2))
set_option maxRecDepth 100000 in
set_option maxHeartbeats 4000000 in
theorem s_X11_entry_63 {γ : GE} {p : Program} {l : Launch} {e : Env} {s : State} {m : MethodId} {args : Array Value} {below : List Frame} {meth : Method} {c : Code} {S : SH} {X : (Int32 × Mem)} (F : FX γ p s m args meth c cX11_entry RX11 6) (hr : meth.sig.returnType = (some .int)) (a2 : Int32) (a3 : Int32) (a4 : Nat) (a5 : Int32)    (μ : Mem) (h : b_X11_entry_63 S a2 a3 a4 a5 μ = some X) : JJ γ p l e rm_X11_entry s m args below meth c 6 0 0 (QI below γ S X args s 0 0) S μ 63 [(2, .int a2), (3, .int a3), (4, .ref (gb γ + a4)), (5, .int a5)] [] := by
  unfold b_X11_entry_63 at h
  refine j_iload F 3 dX11_entry_63 rfl ?_
  refine j_ifne F 81 dX11_entry_65 (by decide) h (fun _ h => ?_) (fun _ h => ?_)
  · refine j_aload F 2 dX11_entry_81 rfl ?_
    refine j_iload_n F 0 dX11_entry_83 rfl ?_
    refine j_iload_n F 1 dX11_entry_84 rfl ?_
    refine j_cVV F mi_X1_write w_529 (rest := []) h (fun _ g => c_X1_write g) rfl rfl (Nat.le_of_ble_eq_true rfl) ⟨Nat.le_of_ble_eq_true rfl, Nat.le_of_ble_eq_true rfl⟩ ⟨Nat.le_of_ble_eq_true rfl, Nat.le_of_ble_eq_true rfl⟩ dX11_entry_85 (fun q8 h => ?_)
    refine j_aload F 2 dX11_entry_88 rfl ?_
    refine j_gI F fl_RX11_160.l rfl dX11_entry_90 h (fun v9 h => ?_)
    exact j_iret F hr dX11_entry_93 h
  · refine j_aload F 2 dX11_entry_68 rfl ?_
    refine j_gI F fl_RX11_160.l rfl dX11_entry_70 h (fun v10 h => ?_)
    refine j_bipush F 10 dX11_entry_73 (by decide) ?_
    refine j_icmplt F 81 dX11_entry_75 (by decide) h (fun _ h => ?_) (fun _ h => ?_)
    · refine j_aload F 2 dX11_entry_81 rfl ?_
      refine j_iload_n F 0 dX11_entry_83 rfl ?_
      refine j_iload_n F 1 dX11_entry_84 rfl ?_
      refine j_cVV F mi_X1_write w_529 (rest := []) h (fun _ g => c_X1_write g) rfl rfl (Nat.le_of_ble_eq_true rfl) ⟨Nat.le_of_ble_eq_true rfl, Nat.le_of_ble_eq_true rfl⟩ ⟨Nat.le_of_ble_eq_true rfl, Nat.le_of_ble_eq_true rfl⟩ dX11_entry_85 (fun q11 h => ?_)
      refine j_aload F 2 dX11_entry_88 rfl ?_
      refine j_gI F fl_RX11_160.l rfl dX11_entry_90 h (fun v12 h => ?_)
      exact j_iret F hr dX11_entry_93 h
    · refine j_bipush F (-4) dX11_entry_78 (by decide) ?_
      exact j_iret F hr dX11_entry_80 h
def f_X11_entry (S : SH) (a0 : Nat) (a1 : Int32) (a2 : Int32) (a3 : Int32) (μ : Mem) : Option (Int32 × Mem) :=
  if isO S 11 a0 = true then
  (f_X11_isChart S a1 μ).bind fun q1 =>
  (if q1.1 = 0 then
  some ((-1), q1.2)
  else
  (f_X11_fitsDial S 1 a2 q1.2).bind fun q2 =>
  (if q2.1 = 0 then
  some ((-2), q2.2)
  else
  (f_X11_within S a3 (-1) 9999 q2.2).bind fun q3 =>
  (if q3.1 = 0 then
  some ((-2), q3.2)
  else
  (gR S 11 a0 0).bind fun v4 =>
  (gR S 2 v4 2).bind fun v5 =>
  (aR S (.object "CranePads$Chart") v5 a1).bind fun v6 =>
  (f_X1_has S v6 a2 q3.2).bind fun q7 =>
  (if a3 = (-1) then
  (if q7.1 = 0 then
  some ((-3), q7.2)
  else
  b_X11_entry_63 S a2 a3 v6 q7.1 q7.2)
  else
  b_X11_entry_63 S a2 a3 v6 q7.1 q7.2))))
  else none
set_option maxRecDepth 100000 in
set_option maxHeartbeats 4000000 in
theorem c_X11_entry {l : Launch} {γ : GE} {S : SH} {a0 : Nat} {a1 : Int32} {a2 : Int32} {a3 : Int32} {μ : Mem} {X : (Int32 × Mem)} (h : f_X11_entry S a0 a1 a2 a3 μ = some X) : isO S 11 a0 = true ∧ Ct l γ yX11_entry cX11_entry 6 (some .int) rm_X11_entry [.ref (gb γ + a0), .int a1, .int a2, .int a3] S μ S X.2 (some (.int X.1)) := by
  unfold f_X11_entry at h
  obtain ⟨h0, h⟩ := if_some h
  refine ⟨h0, ?_⟩
  have hJ : ∀ (p : Program) (e : Env) (s : State) (m : MethodId) (args : Array Value) (below : List Frame) (meth : Method) (c : Code), FX γ p s m args meth c cX11_entry RX11 6 → meth.sig.returnType = (some .int) → JJ γ p l e rm_X11_entry s m args below meth c 6 0 0 (QI below γ S X args s 0 0) S μ 0 [(0, .ref (gb γ + a0)), (1, .int a1), (2, .int a2), (3, .int a3)] [] := by
    intro p e s m args below meth c F hr
    refine j_iload_n F 1 dX11_entry_0 rfl ?_
    refine j_cSI F mi_X11_isChart w_522 (rest := []) h (fun _ g => c_X11_isChart g) rfl rfl (Nat.le_of_ble_eq_true rfl) ⟨Nat.le_of_ble_eq_true rfl, Nat.le_of_ble_eq_true rfl⟩ ⟨Nat.le_of_ble_eq_true rfl, Nat.le_of_ble_eq_true rfl⟩ dX11_entry_1 (fun q1 h => ?_)
    refine j_ifne F 9 dX11_entry_4 (by decide) h (fun _ h => ?_) (fun _ h => ?_)
    · refine j_iconst F 1 dX11_entry_9 (by decide) ?_
      refine j_iload_n F 2 dX11_entry_10 rfl ?_
      refine j_cSI F mi_X11_fitsDial w_502 (rest := []) h (fun _ g => c_X11_fitsDial g) rfl rfl (Nat.le_of_ble_eq_true rfl) ⟨Nat.le_of_ble_eq_true rfl, Nat.le_of_ble_eq_true rfl⟩ ⟨Nat.le_of_ble_eq_true rfl, Nat.le_of_ble_eq_true rfl⟩ dX11_entry_11 (fun q2 h => ?_)
      refine j_ifeq F 28 dX11_entry_14 (by decide) h (fun _ h => ?_) (fun _ h => ?_)
      · refine j_bipush F (-2) dX11_entry_28 (by decide) ?_
        exact j_iret F hr dX11_entry_30 h
      · refine j_iload_n F 3 dX11_entry_17 rfl ?_
        refine j_iconst F (-1) dX11_entry_18 (by decide) ?_
        refine j_sipush F 9999 dX11_entry_19 (by decide) ?_
        refine j_cSI F mi_X11_within w_464 (rest := []) h (fun _ g => c_X11_within g) rfl rfl (Nat.le_of_ble_eq_true rfl) ⟨Nat.le_of_ble_eq_true rfl, Nat.le_of_ble_eq_true rfl⟩ ⟨Nat.le_of_ble_eq_true rfl, Nat.le_of_ble_eq_true rfl⟩ dX11_entry_22 (fun q3 h => ?_)
        refine j_ifne F 31 dX11_entry_25 (by decide) h (fun _ h => ?_) (fun _ h => ?_)
        · refine j_aload_n F 0 dX11_entry_31 rfl ?_
          refine j_gR F fl_RX11_12 rfl dX11_entry_32 h (fun v4 h => ?_)
          refine j_gR F fl_RX11_153 rfl dX11_entry_35 h (fun v5 h => ?_)
          refine j_iload_n F 1 dX11_entry_38 rfl ?_
          refine j_aald F 4 rfl rfl rfl dX11_entry_39 h (fun v6 h => ?_)
          refine j_astore F [(4, .ref (gb γ + v6)), (0, .ref (gb γ + a0)), (1, .int a1), (2, .int a2), (3, .int a3)] dX11_entry_40 (by decide) rfl ?_
          refine j_aload F 0 dX11_entry_42 rfl ?_
          refine j_iload_n F 3 dX11_entry_44 rfl ?_
          refine j_cVI F mi_X1_has w_525 (rest := []) h (fun _ g => c_X1_has g) rfl rfl (Nat.le_of_ble_eq_true rfl) ⟨Nat.le_of_ble_eq_true rfl, Nat.le_of_ble_eq_true rfl⟩ ⟨Nat.le_of_ble_eq_true rfl, Nat.le_of_ble_eq_true rfl⟩ dX11_entry_45 (fun q7 h => ?_)
          refine j_istore F [(5, .int q7.1), (4, .ref (gb γ + v6)), (0, .ref (gb γ + a0)), (1, .int a1), (2, .int a2), (3, .int a3)] dX11_entry_48 (by decide) rfl ?_
          refine j_iload_n F 5 dX11_entry_50 rfl ?_
          refine j_iconst F (-1) dX11_entry_51 (by decide) ?_
          refine j_icmpne F 63 dX11_entry_52 (by decide) h (fun _ h => ?_) (fun _ h => ?_)
          · refine j_lv [(2, .int a2), (3, .int a3), (4, .ref (gb γ + v6)), (5, .int q7.1)] [4, 5, 1, 0] rfl ?_
            exact s_X11_entry_63 F hr _ _ _ _ _ h
          · refine j_iload F 0 dX11_entry_55 rfl ?_
            refine j_ifne F 63 dX11_entry_57 (by decide) h (fun _ h => ?_) (fun _ h => ?_)
            · refine j_lv [(2, .int a2), (3, .int a3), (4, .ref (gb γ + v6)), (5, .int q7.1)] [4, 5, 1, 0] rfl ?_
              exact s_X11_entry_63 F hr _ _ _ _ _ h
            · refine j_bipush F (-3) dX11_entry_60 (by decide) ?_
              exact j_iret F hr dX11_entry_62 h
        · refine j_bipush F (-2) dX11_entry_28 (by decide) ?_
          exact j_iret F hr dX11_entry_30 h
    · refine j_iconst F (-1) dX11_entry_7 (by decide) ?_
      exact j_iret F hr dX11_entry_8 h
  exact ct_of (by decide +kernel) (Nat.le_of_ble_eq_true rfl) (fun p e s m args below meth c F hr _ => hJ p e s m args below meth c F hr)
def rm_X11_read : Room := { frames := 2, cells := 0, slots := 0, locals := 43 }
theorem dX11_read_0 : decode cX11_read 0 = .ok (.iload_n 1, 1) := by decide +kernel
theorem dX11_read_1 : decode cX11_read 1 = .ok (.invokestatic 150, 3) := by decide +kernel
theorem dX11_read_4 : decode cX11_read 4 = .ok (.ifCond .ne 5, 3) := by decide +kernel
theorem dX11_read_7 : decode cX11_read 7 = .ok (.iconst (-1), 1) := by decide +kernel
theorem dX11_read_8 : decode cX11_read 8 = .ok (.ireturn, 1) := by decide +kernel
theorem dX11_read_9 : decode cX11_read 9 = .ok (.iconst 1, 1) := by decide +kernel
theorem dX11_read_10 : decode cX11_read 10 = .ok (.iload_n 2, 1) := by decide +kernel
theorem dX11_read_11 : decode cX11_read 11 = .ok (.invokestatic 132, 3) := by decide +kernel
theorem dX11_read_14 : decode cX11_read 14 = .ok (.ifCond .ne 6, 3) := by decide +kernel
theorem dX11_read_17 : decode cX11_read 17 = .ok (.bipush (-2), 2) := by decide +kernel
theorem dX11_read_19 : decode cX11_read 19 = .ok (.ireturn, 1) := by decide +kernel
theorem dX11_read_20 : decode cX11_read 20 = .ok (.aload_n 0, 1) := by decide +kernel
theorem dX11_read_21 : decode cX11_read 21 = .ok (.getfield 12, 3) := by decide +kernel
theorem dX11_read_24 : decode cX11_read 24 = .ok (.getfield 153, 3) := by decide +kernel
theorem dX11_read_27 : decode cX11_read 27 = .ok (.iload_n 1, 1) := by decide +kernel
theorem dX11_read_28 : decode cX11_read 28 = .ok (.aaload, 1) := by decide +kernel
theorem dX11_read_29 : decode cX11_read 29 = .ok (.iload_n 2, 1) := by decide +kernel
theorem dX11_read_30 : decode cX11_read 30 = .ok (.invokevirtual 164, 3) := by decide +kernel
theorem dX11_read_33 : decode cX11_read 33 = .ok (.ireturn, 1) := by decide +kernel
def f_X11_read (S : SH) (a0 : Nat) (a1 : Int32) (a2 : Int32) (μ : Mem) : Option (Int32 × Mem) :=
  if isO S 11 a0 = true then
  (f_X11_isChart S a1 μ).bind fun q1 =>
  (if q1.1 = 0 then
  some ((-1), q1.2)
  else
  (f_X11_fitsDial S 1 a2 q1.2).bind fun q2 =>
  (if q2.1 = 0 then
  some ((-2), q2.2)
  else
  (gR S 11 a0 0).bind fun v3 =>
  (gR S 2 v3 2).bind fun v4 =>
  (aR S (.object "CranePads$Chart") v4 a1).bind fun v5 =>
  (f_X1_at S v5 a2 q2.2).bind fun q6 =>
  some (q6.1, q6.2)))
  else none
set_option maxRecDepth 100000 in
set_option maxHeartbeats 4000000 in
theorem c_X11_read {l : Launch} {γ : GE} {S : SH} {a0 : Nat} {a1 : Int32} {a2 : Int32} {μ : Mem} {X : (Int32 × Mem)} (h : f_X11_read S a0 a1 a2 μ = some X) : isO S 11 a0 = true ∧ Ct l γ yX11_read cX11_read 3 (some .int) rm_X11_read [.ref (gb γ + a0), .int a1, .int a2] S μ S X.2 (some (.int X.1)) := by
  unfold f_X11_read at h
  obtain ⟨h0, h⟩ := if_some h
  refine ⟨h0, ?_⟩
  have hJ : ∀ (p : Program) (e : Env) (s : State) (m : MethodId) (args : Array Value) (below : List Frame) (meth : Method) (c : Code), FX γ p s m args meth c cX11_read RX11 3 → meth.sig.returnType = (some .int) → JJ γ p l e rm_X11_read s m args below meth c 3 0 0 (QI below γ S X args s 0 0) S μ 0 [(0, .ref (gb γ + a0)), (1, .int a1), (2, .int a2)] [] := by
    intro p e s m args below meth c F hr
    refine j_iload_n F 1 dX11_read_0 rfl ?_
    refine j_cSI F mi_X11_isChart w_522 (rest := []) h (fun _ g => c_X11_isChart g) rfl rfl (Nat.le_of_ble_eq_true rfl) ⟨Nat.le_of_ble_eq_true rfl, Nat.le_of_ble_eq_true rfl⟩ ⟨Nat.le_of_ble_eq_true rfl, Nat.le_of_ble_eq_true rfl⟩ dX11_read_1 (fun q1 h => ?_)
    refine j_ifne F 9 dX11_read_4 (by decide) h (fun _ h => ?_) (fun _ h => ?_)
    · refine j_iconst F 1 dX11_read_9 (by decide) ?_
      refine j_iload_n F 2 dX11_read_10 rfl ?_
      refine j_cSI F mi_X11_fitsDial w_502 (rest := []) h (fun _ g => c_X11_fitsDial g) rfl rfl (Nat.le_of_ble_eq_true rfl) ⟨Nat.le_of_ble_eq_true rfl, Nat.le_of_ble_eq_true rfl⟩ ⟨Nat.le_of_ble_eq_true rfl, Nat.le_of_ble_eq_true rfl⟩ dX11_read_11 (fun q2 h => ?_)
      refine j_ifne F 20 dX11_read_14 (by decide) h (fun _ h => ?_) (fun _ h => ?_)
      · refine j_aload_n F 0 dX11_read_20 rfl ?_
        refine j_gR F fl_RX11_12 rfl dX11_read_21 h (fun v3 h => ?_)
        refine j_gR F fl_RX11_153 rfl dX11_read_24 h (fun v4 h => ?_)
        refine j_iload_n F 1 dX11_read_27 rfl ?_
        refine j_aald F 4 rfl rfl rfl dX11_read_28 h (fun v5 h => ?_)
        refine j_iload_n F 2 dX11_read_29 rfl ?_
        refine j_cVI F mi_X1_at w_538 (rest := []) h (fun _ g => c_X1_at g) rfl rfl (Nat.le_of_ble_eq_true rfl) ⟨Nat.le_of_ble_eq_true rfl, Nat.le_of_ble_eq_true rfl⟩ ⟨Nat.le_of_ble_eq_true rfl, Nat.le_of_ble_eq_true rfl⟩ dX11_read_30 (fun q6 h => ?_)
        exact j_iret F hr dX11_read_33 h
      · refine j_bipush F (-2) dX11_read_17 (by decide) ?_
        exact j_iret F hr dX11_read_19 h
    · refine j_iconst F (-1) dX11_read_7 (by decide) ?_
      exact j_iret F hr dX11_read_8 h
  exact ct_of (by decide +kernel) (Nat.le_of_ble_eq_true rfl) (fun p e s m args below meth c F hr _ => hJ p e s m args below meth c F hr)
def rm_X11_allowed : Room := { frames := 2, cells := 0, slots := 0, locals := 47 }
theorem dX11_allowed_0 : decode cX11_allowed 0 = .ok (.iconst 0, 1) := by decide +kernel
theorem dX11_allowed_1 : decode cX11_allowed 1 = .ok (.iload_n 1, 1) := by decide +kernel
theorem dX11_allowed_2 : decode cX11_allowed 2 = .ok (.invokestatic 132, 3) := by decide +kernel
theorem dX11_allowed_5 : decode cX11_allowed 5 = .ok (.ifCond .ne 5, 3) := by decide +kernel
theorem dX11_allowed_8 : decode cX11_allowed 8 = .ok (.iconst (-1), 1) := by decide +kernel
theorem dX11_allowed_9 : decode cX11_allowed 9 = .ok (.ireturn, 1) := by decide +kernel
theorem dX11_allowed_10 : decode cX11_allowed 10 = .ok (.iconst 1, 1) := by decide +kernel
theorem dX11_allowed_11 : decode cX11_allowed 11 = .ok (.iload_n 2, 1) := by decide +kernel
theorem dX11_allowed_12 : decode cX11_allowed 12 = .ok (.invokestatic 132, 3) := by decide +kernel
theorem dX11_allowed_15 : decode cX11_allowed 15 = .ok (.ifCond .ne 6, 3) := by decide +kernel
theorem dX11_allowed_18 : decode cX11_allowed 18 = .ok (.bipush (-2), 2) := by decide +kernel
theorem dX11_allowed_20 : decode cX11_allowed 20 = .ok (.ireturn, 1) := by decide +kernel
theorem dX11_allowed_21 : decode cX11_allowed 21 = .ok (.aload_n 0, 1) := by decide +kernel
theorem dX11_allowed_22 : decode cX11_allowed 22 = .ok (.getfield 12, 3) := by decide +kernel
theorem dX11_allowed_25 : decode cX11_allowed 25 = .ok (.iload_n 1, 1) := by decide +kernel
theorem dX11_allowed_26 : decode cX11_allowed 26 = .ok (.iload_n 2, 1) := by decide +kernel
theorem dX11_allowed_27 : decode cX11_allowed 27 = .ok (.invokevirtual 168, 3) := by decide +kernel
theorem dX11_allowed_30 : decode cX11_allowed 30 = .ok (.ireturn, 1) := by decide +kernel
def f_X11_allowed (S : SH) (a0 : Nat) (a1 : Int32) (a2 : Int32) (μ : Mem) : Option (Int32 × Mem) :=
  if isO S 11 a0 = true then
  (f_X11_fitsDial S 0 a1 μ).bind fun q1 =>
  (if q1.1 = 0 then
  some ((-1), q1.2)
  else
  (f_X11_fitsDial S 1 a2 q1.2).bind fun q2 =>
  (if q2.1 = 0 then
  some ((-2), q2.2)
  else
  (gR S 11 a0 0).bind fun v3 =>
  (f_X2_mayHang S v3 a1 a2 q2.2).bind fun q4 =>
  some (q4.1, q4.2)))
  else none
set_option maxRecDepth 100000 in
set_option maxHeartbeats 4000000 in
theorem c_X11_allowed {l : Launch} {γ : GE} {S : SH} {a0 : Nat} {a1 : Int32} {a2 : Int32} {μ : Mem} {X : (Int32 × Mem)} (h : f_X11_allowed S a0 a1 a2 μ = some X) : isO S 11 a0 = true ∧ Ct l γ yX11_allowed cX11_allowed 3 (some .int) rm_X11_allowed [.ref (gb γ + a0), .int a1, .int a2] S μ S X.2 (some (.int X.1)) := by
  unfold f_X11_allowed at h
  obtain ⟨h0, h⟩ := if_some h
  refine ⟨h0, ?_⟩
  have hJ : ∀ (p : Program) (e : Env) (s : State) (m : MethodId) (args : Array Value) (below : List Frame) (meth : Method) (c : Code), FX γ p s m args meth c cX11_allowed RX11 3 → meth.sig.returnType = (some .int) → JJ γ p l e rm_X11_allowed s m args below meth c 3 0 0 (QI below γ S X args s 0 0) S μ 0 [(0, .ref (gb γ + a0)), (1, .int a1), (2, .int a2)] [] := by
    intro p e s m args below meth c F hr
    refine j_iconst F 0 dX11_allowed_0 (by decide) ?_
    refine j_iload_n F 1 dX11_allowed_1 rfl ?_
    refine j_cSI F mi_X11_fitsDial w_502 (rest := []) h (fun _ g => c_X11_fitsDial g) rfl rfl (Nat.le_of_ble_eq_true rfl) ⟨Nat.le_of_ble_eq_true rfl, Nat.le_of_ble_eq_true rfl⟩ ⟨Nat.le_of_ble_eq_true rfl, Nat.le_of_ble_eq_true rfl⟩ dX11_allowed_2 (fun q1 h => ?_)
    refine j_ifne F 10 dX11_allowed_5 (by decide) h (fun _ h => ?_) (fun _ h => ?_)
    · refine j_iconst F 1 dX11_allowed_10 (by decide) ?_
      refine j_iload_n F 2 dX11_allowed_11 rfl ?_
      refine j_cSI F mi_X11_fitsDial w_502 (rest := []) h (fun _ g => c_X11_fitsDial g) rfl rfl (Nat.le_of_ble_eq_true rfl) ⟨Nat.le_of_ble_eq_true rfl, Nat.le_of_ble_eq_true rfl⟩ ⟨Nat.le_of_ble_eq_true rfl, Nat.le_of_ble_eq_true rfl⟩ dX11_allowed_12 (fun q2 h => ?_)
      refine j_ifne F 21 dX11_allowed_15 (by decide) h (fun _ h => ?_) (fun _ h => ?_)
      · refine j_aload_n F 0 dX11_allowed_21 rfl ?_
        refine j_gR F fl_RX11_12 rfl dX11_allowed_22 h (fun v3 h => ?_)
        refine j_iload_n F 1 dX11_allowed_25 rfl ?_
        refine j_iload_n F 2 dX11_allowed_26 rfl ?_
        refine j_cVI F mi_X2_mayHang w_546 (rest := []) h (fun _ g => c_X2_mayHang g) rfl rfl (Nat.le_of_ble_eq_true rfl) ⟨Nat.le_of_ble_eq_true rfl, Nat.le_of_ble_eq_true rfl⟩ ⟨Nat.le_of_ble_eq_true rfl, Nat.le_of_ble_eq_true rfl⟩ dX11_allowed_27 (fun q4 h => ?_)
        exact j_iret F hr dX11_allowed_30 h
      · refine j_bipush F (-2) dX11_allowed_18 (by decide) ?_
        exact j_iret F hr dX11_allowed_20 h
    · refine j_iconst F (-1) dX11_allowed_8 (by decide) ?_
      exact j_iret F hr dX11_allowed_9 h
  exact ct_of (by decide +kernel) (Nat.le_of_ble_eq_true rfl) (fun p e s m args below meth c F hr _ => hJ p e s m args below meth c F hr)
def rm_X11_weight : Room := { frames := 2, cells := 0, slots := 0, locals := 40 }
theorem dX11_weight_0 : decode cX11_weight 0 = .ok (.aload_n 0, 1) := by decide +kernel
theorem dX11_weight_1 : decode cX11_weight 1 = .ok (.getfield 12, 3) := by decide +kernel
theorem dX11_weight_4 : decode cX11_weight 4 = .ok (.invokevirtual 172, 3) := by decide +kernel
theorem dX11_weight_7 : decode cX11_weight 7 = .ok (.ireturn, 1) := by decide +kernel
def f_X11_weight (S : SH) (a0 : Nat) (μ : Mem) : Option (Int32 × Mem) :=
  if isO S 11 a0 = true then
  (gR S 11 a0 0).bind fun v1 =>
  (f_X2_wholeMass S v1 μ).bind fun q2 =>
  some (q2.1, q2.2)
  else none
set_option maxRecDepth 100000 in
set_option maxHeartbeats 4000000 in
theorem c_X11_weight {l : Launch} {γ : GE} {S : SH} {a0 : Nat} {μ : Mem} {X : (Int32 × Mem)} (h : f_X11_weight S a0 μ = some X) : isO S 11 a0 = true ∧ Ct l γ yX11_weight cX11_weight 1 (some .int) rm_X11_weight [.ref (gb γ + a0)] S μ S X.2 (some (.int X.1)) := by
  unfold f_X11_weight at h
  obtain ⟨h0, h⟩ := if_some h
  refine ⟨h0, ?_⟩
  have hJ : ∀ (p : Program) (e : Env) (s : State) (m : MethodId) (args : Array Value) (below : List Frame) (meth : Method) (c : Code), FX γ p s m args meth c cX11_weight RX11 1 → meth.sig.returnType = (some .int) → JJ γ p l e rm_X11_weight s m args below meth c 1 0 0 (QI below γ S X args s 0 0) S μ 0 [(0, .ref (gb γ + a0))] [] := by
    intro p e s m args below meth c F hr
    refine j_aload_n F 0 dX11_weight_0 rfl ?_
    refine j_gR F fl_RX11_12 rfl dX11_weight_1 h (fun v1 h => ?_)
    refine j_cVI F mi_X2_wholeMass w_558 (rest := []) h (fun _ g => c_X2_wholeMass g) rfl rfl (Nat.le_of_ble_eq_true rfl) ⟨Nat.le_of_ble_eq_true rfl, Nat.le_of_ble_eq_true rfl⟩ ⟨Nat.le_of_ble_eq_true rfl, Nat.le_of_ble_eq_true rfl⟩ dX11_weight_4 (fun q2 h => ?_)
    exact j_iret F hr dX11_weight_7 h
  exact ct_of (by decide +kernel) (Nat.le_of_ble_eq_true rfl) (fun p e s m args below meth c F hr _ => hJ p e s m args below meth c F hr)
def rm_X11_isSide : Room := { frames := 1, cells := 0, slots := 0, locals := 22 }
theorem dX11_isSide_0 : decode cX11_isSide 0 = .ok (.iload_n 0, 1) := by decide +kernel
theorem dX11_isSide_1 : decode cX11_isSide 1 = .ok (.iconst 0, 1) := by decide +kernel
theorem dX11_isSide_2 : decode cX11_isSide 2 = .ok (.iconst 1, 1) := by decide +kernel
theorem dX11_isSide_3 : decode cX11_isSide 3 = .ok (.invokestatic 84, 3) := by decide +kernel
theorem dX11_isSide_6 : decode cX11_isSide 6 = .ok (.ireturn, 1) := by decide +kernel
def f_X11_isSide (S : SH) (a0 : Int32) (μ : Mem) : Option (Int32 × Mem) :=
  (f_X11_within S a0 0 1 μ).bind fun q1 =>
  (oz q1.1).bind fun z2 => some (z2, q1.2)
set_option maxRecDepth 100000 in
set_option maxHeartbeats 4000000 in
theorem c_X11_isSide {l : Launch} {γ : GE} {S : SH} {a0 : Int32} {μ : Mem} {X : (Int32 × Mem)} (h : f_X11_isSide S a0 μ = some X) : Ct l γ yX11_isSide cX11_isSide 1 (some .boolean) rm_X11_isSide [.int a0] S μ S X.2 (some (.int X.1)) := by
  unfold f_X11_isSide at h
  have hJ : ∀ (p : Program) (e : Env) (s : State) (m : MethodId) (args : Array Value) (below : List Frame) (meth : Method) (c : Code), FX γ p s m args meth c cX11_isSide RX11 1 → meth.sig.returnType = (some .boolean) → JJ γ p l e rm_X11_isSide s m args below meth c 1 0 0 (QI below γ S X args s 0 0) S μ 0 [(0, .int a0)] [] := by
    intro p e s m args below meth c F hr
    refine j_iload_n F 0 dX11_isSide_0 rfl ?_
    refine j_iconst F 0 dX11_isSide_1 (by decide) ?_
    refine j_iconst F 1 dX11_isSide_2 (by decide) ?_
    refine j_cSI F mi_X11_within w_464 (rest := []) h (fun _ g => c_X11_within g) rfl rfl (Nat.le_of_ble_eq_true rfl) ⟨Nat.le_of_ble_eq_true rfl, Nat.le_of_ble_eq_true rfl⟩ ⟨Nat.le_of_ble_eq_true rfl, Nat.le_of_ble_eq_true rfl⟩ dX11_isSide_3 (fun q1 h => ?_)
    exact j_zretG F hr dX11_isSide_6 h
  exact ct_of (by decide +kernel) (Nat.le_of_ble_eq_true rfl) (fun p e s m args below meth c F hr _ => hJ p e s m args below meth c F hr)
def rm_X11_commonDivisor : Room := { frames := 0, cells := 0, slots := 0, locals := 0 }
theorem dX11_commonDivisor_0 : decode cX11_commonDivisor 0 = .ok (.lload_n 0, 1) := by decide +kernel
theorem dX11_commonDivisor_1 : decode cX11_commonDivisor 1 = .ok (.lstore 4, 2) := by decide +kernel
theorem dX11_commonDivisor_3 : decode cX11_commonDivisor 3 = .ok (.lload_n 2, 1) := by decide +kernel
theorem dX11_commonDivisor_4 : decode cX11_commonDivisor 4 = .ok (.lstore 6, 2) := by decide +kernel
theorem dX11_commonDivisor_6 : decode cX11_commonDivisor 6 = .ok (.iconst 0, 1) := by decide +kernel
theorem dX11_commonDivisor_7 : decode cX11_commonDivisor 7 = .ok (.istore 8, 2) := by decide +kernel
theorem dX11_commonDivisor_9 : decode cX11_commonDivisor 9 = .ok (.iload 8, 2) := by decide +kernel
theorem dX11_commonDivisor_11 : decode cX11_commonDivisor 11 = .ok (.sipush 200, 3) := by decide +kernel
theorem dX11_commonDivisor_14 : decode cX11_commonDivisor 14 = .ok (.if_icmp .ge 31, 3) := by decide +kernel
theorem dX11_commonDivisor_17 : decode cX11_commonDivisor 17 = .ok (.lload 6, 2) := by decide +kernel
theorem dX11_commonDivisor_19 : decode cX11_commonDivisor 19 = .ok (.lconst 0, 1) := by decide +kernel
theorem dX11_commonDivisor_20 : decode cX11_commonDivisor 20 = .ok (.lcmp, 1) := by decide +kernel
theorem dX11_commonDivisor_21 : decode cX11_commonDivisor 21 = .ok (.ifCond .eq 24, 3) := by decide +kernel
theorem dX11_commonDivisor_24 : decode cX11_commonDivisor 24 = .ok (.lload 4, 2) := by decide +kernel
theorem dX11_commonDivisor_26 : decode cX11_commonDivisor 26 = .ok (.lload 6, 2) := by decide +kernel
theorem dX11_commonDivisor_28 : decode cX11_commonDivisor 28 = .ok (.lrem, 1) := by decide +kernel
theorem dX11_commonDivisor_29 : decode cX11_commonDivisor 29 = .ok (.lstore 9, 2) := by decide +kernel
theorem dX11_commonDivisor_31 : decode cX11_commonDivisor 31 = .ok (.lload 6, 2) := by decide +kernel
theorem dX11_commonDivisor_33 : decode cX11_commonDivisor 33 = .ok (.lstore 4, 2) := by decide +kernel
theorem dX11_commonDivisor_35 : decode cX11_commonDivisor 35 = .ok (.lload 9, 2) := by decide +kernel
theorem dX11_commonDivisor_37 : decode cX11_commonDivisor 37 = .ok (.lstore 6, 2) := by decide +kernel
theorem dX11_commonDivisor_39 : decode cX11_commonDivisor 39 = .ok (.iinc 8 1, 3) := by decide +kernel
theorem dX11_commonDivisor_42 : decode cX11_commonDivisor 42 = .ok (.goto (-33), 3) := by decide +kernel
theorem dX11_commonDivisor_45 : decode cX11_commonDivisor 45 = .ok (.lload 4, 2) := by decide +kernel
theorem dX11_commonDivisor_47 : decode cX11_commonDivisor 47 = .ok (.lreturn, 1) := by decide +kernel
def l_X11_commonDivisor_9 (S : SH) (k9 : (Int64 × Int64 × Int32 × Mem) → Option (Int64 × Mem)) (x : (Int64 × Int64 × Int32 × Mem)) : Option (Int64 × Mem) :=
 (if 200 ≤ x.2.2.1 then
 some (x.1, x.2.2.2)
 else
 (if x.2.1 = 0 then
 some (x.1, x.2.2.2)
 else
 (o_lrem x.1 x.2.1).bind fun v1 =>
 k9 (x.2.1, v1, x.2.2.1 + 1, x.2.2.2)))
set_option maxRecDepth 100000 in
set_option maxHeartbeats 4000000 in
theorem t_X11_commonDivisor_9 {γ : GE} {p : Program} {l : Launch} {e : Env} {s : State} {m : MethodId} {args : Array Value} {below : List Frame} {meth : Method} {c : Code} {S : SH} {X : (Int64 × Mem)} (F : FX γ p s m args meth c cX11_commonDivisor RX11 11) (hr : meth.sig.returnType = (some .long)) (k9 : (Int64 × Int64 × Int32 × Mem) → Option (Int64 × Mem)) (hk9 : ∀ (x9_4 : Int64) (x9_6 : Int64) (x9_8 : Int32) (ν : Mem), k9 (x9_4, x9_6, x9_8, ν) = some X → JJ γ p l e rm_X11_commonDivisor s m args below meth c 11 0 0 (QL below γ S X args s 0 0) S ν 9 [(4, .long x9_4), (6, .long x9_6), (8, .int x9_8)] []) (x : (Int64 × Int64 × Int32 × Mem)) (h : l_X11_commonDivisor_9 S k9 x = some X) : JJ γ p l e rm_X11_commonDivisor s m args below meth c 11 0 0 (QL below γ S X args s 0 0) S x.2.2.2 9 [(4, .long x.1), (6, .long x.2.1), (8, .int x.2.2.1)] [] := by
  unfold l_X11_commonDivisor_9 at h
  refine j_iload F 2 dX11_commonDivisor_9 rfl ?_
  refine j_sipush F 200 dX11_commonDivisor_11 (by decide) ?_
  refine j_icmpge F 45 dX11_commonDivisor_14 (by decide) h (fun _ h => ?_) (fun _ h => ?_)
  · refine j_lload F 0 dX11_commonDivisor_45 rfl ?_
    exact j_lret F hr dX11_commonDivisor_47 h
  · refine j_lload F 1 dX11_commonDivisor_17 rfl ?_
    refine j_lconst F 0 dX11_commonDivisor_19 (by decide) ?_
    refine j_lcmpeq F 45 dX11_commonDivisor_20 dX11_commonDivisor_21 (by decide) h (fun _ h => ?_) (fun _ h => ?_)
    · refine j_lload F 0 dX11_commonDivisor_45 rfl ?_
      exact j_lret F hr dX11_commonDivisor_47 h
    · refine j_lload F 0 dX11_commonDivisor_24 rfl ?_
      refine j_lload F 1 dX11_commonDivisor_26 rfl ?_
      refine j_lrem F dX11_commonDivisor_28 h (fun v1 h => ?_)
      refine j_lstore F [(9, .long v1), (4, .long x.1), (6, .long x.2.1), (8, .int x.2.2.1)] dX11_commonDivisor_29 (by decide) rfl ?_
      refine j_lload F 2 dX11_commonDivisor_31 rfl ?_
      refine j_lstore F [(4, .long x.2.1), (9, .long v1), (6, .long x.2.1), (8, .int x.2.2.1)] dX11_commonDivisor_33 (by decide) rfl ?_
      refine j_lload F 1 dX11_commonDivisor_35 rfl ?_
      refine j_lstore F [(6, .long v1), (4, .long x.2.1), (9, .long v1), (8, .int x.2.2.1)] dX11_commonDivisor_37 (by decide) rfl ?_
      refine j_iinc F 1 3 [(8, .int (x.2.2.1 + 1)), (6, .long v1), (4, .long x.2.1), (9, .long v1)] dX11_commonDivisor_39 rfl (by decide) (by decide) rfl ?_
      refine j_goto F 9 dX11_commonDivisor_42 (by decide) ?_
      refine j_lv [(4, .long x.2.1), (6, .long v1), (8, .int (x.2.2.1 + 1))] [2, 1, 0] rfl ?_
      exact hk9 _ _ _ _ h
theorem s_X11_commonDivisor_9 {γ : GE} {p : Program} {l : Launch} {e : Env} {s : State} {m : MethodId} {args : Array Value} {below : List Frame} {meth : Method} {c : Code} {S : SH} {X : (Int64 × Mem)} (F : FX γ p s m args meth c cX11_commonDivisor RX11 11) (hr : meth.sig.returnType = (some .long)) (x9_4 : Int64) (x9_6 : Int64) (x9_8 : Int32) (ν : Mem) (h : lpN (l_X11_commonDivisor_9 S ) fu (x9_4, x9_6, x9_8, ν) = some X) : JJ γ p l e rm_X11_commonDivisor s m args below meth c 11 0 0 (QL below γ S X args s 0 0) S ν 9 [(4, .long x9_4), (6, .long x9_6), (8, .int x9_8)] [] :=
 lpN_sound (fun x => JJ γ p l e rm_X11_commonDivisor s m args below meth c 11 0 0 (QL below γ S X args s 0 0) S x.2.2.2 9 [(4, .long x.1), (6, .long x.2.1), (8, .int x.2.2.1)] []) (fun k9 hk9 x h => t_X11_commonDivisor_9 F hr k9 (fun x9_4 x9_6 x9_8 ν h => hk9 (x9_4, x9_6, x9_8, ν) h) x h) fu (x9_4, x9_6, x9_8, ν) h
def f_X11_commonDivisor (S : SH) (a0 : Int64) (a2 : Int64) (μ : Mem) : Option (Int64 × Mem) :=
  lpN (l_X11_commonDivisor_9 S  ) fu (a0, a2, 0, μ)
set_option maxRecDepth 100000 in
set_option maxHeartbeats 4000000 in
theorem c_X11_commonDivisor {l : Launch} {γ : GE} {S : SH} {a0 : Int64} {a2 : Int64} {μ : Mem} {X : (Int64 × Mem)} (h : f_X11_commonDivisor S a0 a2 μ = some X) : Ct l γ yX11_commonDivisor cX11_commonDivisor 11 (some .long) rm_X11_commonDivisor [.long a0, .long a2] S μ S X.2 (some (.long X.1)) := by
  unfold f_X11_commonDivisor at h
  have hJ : ∀ (p : Program) (e : Env) (s : State) (m : MethodId) (args : Array Value) (below : List Frame) (meth : Method) (c : Code), FX γ p s m args meth c cX11_commonDivisor RX11 11 → meth.sig.returnType = (some .long) → JJ γ p l e rm_X11_commonDivisor s m args below meth c 11 0 0 (QL below γ S X args s 0 0) S μ 0 [(0, .long a0), (2, .long a2)] [] := by
    intro p e s m args below meth c F hr
    refine j_lload_n F 0 dX11_commonDivisor_0 rfl ?_
    refine j_lstore F [(4, .long a0), (0, .long a0), (2, .long a2)] dX11_commonDivisor_1 (by decide) rfl ?_
    refine j_lload_n F 2 dX11_commonDivisor_3 rfl ?_
    refine j_lstore F [(6, .long a2), (4, .long a0), (0, .long a0), (2, .long a2)] dX11_commonDivisor_4 (by decide) rfl ?_
    refine j_iconst F 0 dX11_commonDivisor_6 (by decide) ?_
    refine j_istore F [(8, .int 0), (6, .long a2), (4, .long a0), (0, .long a0), (2, .long a2)] dX11_commonDivisor_7 (by decide) rfl ?_
    refine j_lv [(4, .long a0), (6, .long a2), (8, .int 0)] [2, 1, 0] rfl ?_
    exact s_X11_commonDivisor_9 F hr _ _ _ _ h
  exact ct_of (by decide +kernel) (Nat.le_of_ble_eq_true rfl) (fun p e s m args below meth c F hr _ => hJ p e s m args below meth c F hr)
def rm_X11_inLowestTerms : Room := { frames := 1, cells := 0, slots := 0, locals := 30 }
theorem dX11_inLowestTerms_0 : decode cX11_inLowestTerms 0 = .ok (.lload_n 0, 1) := by decide +kernel
theorem dX11_inLowestTerms_1 : decode cX11_inLowestTerms 1 = .ok (.invokestatic 339, 3) := by decide +kernel
theorem dX11_inLowestTerms_4 : decode cX11_inLowestTerms 4 = .ok (.lload_n 2, 1) := by decide +kernel
theorem dX11_inLowestTerms_5 : decode cX11_inLowestTerms 5 = .ok (.invokestatic 345, 3) := by decide +kernel
theorem dX11_inLowestTerms_8 : decode cX11_inLowestTerms 8 = .ok (.lstore 5, 2) := by decide +kernel
theorem dX11_inLowestTerms_10 : decode cX11_inLowestTerms 10 = .ok (.lload 5, 2) := by decide +kernel
theorem dX11_inLowestTerms_12 : decode cX11_inLowestTerms 12 = .ok (.lconst 0, 1) := by decide +kernel
theorem dX11_inLowestTerms_13 : decode cX11_inLowestTerms 13 = .ok (.lcmp, 1) := by decide +kernel
theorem dX11_inLowestTerms_14 : decode cX11_inLowestTerms 14 = .ok (.ifCond .ne 7, 3) := by decide +kernel
theorem dX11_inLowestTerms_17 : decode cX11_inLowestTerms 17 = .ok (.ldc2_w 139, 3) := by decide +kernel
theorem dX11_inLowestTerms_20 : decode cX11_inLowestTerms 20 = .ok (.lreturn, 1) := by decide +kernel
theorem dX11_inLowestTerms_21 : decode cX11_inLowestTerms 21 = .ok (.iload 4, 2) := by decide +kernel
theorem dX11_inLowestTerms_23 : decode cX11_inLowestTerms 23 = .ok (.ifCond .ne 7, 3) := by decide +kernel
theorem dX11_inLowestTerms_26 : decode cX11_inLowestTerms 26 = .ok (.lload_n 0, 1) := by decide +kernel
theorem dX11_inLowestTerms_27 : decode cX11_inLowestTerms 27 = .ok (.goto 4, 3) := by decide +kernel
theorem dX11_inLowestTerms_30 : decode cX11_inLowestTerms 30 = .ok (.lload_n 2, 1) := by decide +kernel
theorem dX11_inLowestTerms_31 : decode cX11_inLowestTerms 31 = .ok (.lload 5, 2) := by decide +kernel
theorem dX11_inLowestTerms_33 : decode cX11_inLowestTerms 33 = .ok (.ldiv, 1) := by decide +kernel
theorem dX11_inLowestTerms_34 : decode cX11_inLowestTerms 34 = .ok (.lreturn, 1) := by decide +kernel
def f_X11_inLowestTerms (S : SH) (a0 : Int64) (a2 : Int64) (a4 : Int32) (μ : Mem) : Option (Int64 × Mem) :=
  (f_X11_commonDivisor S ((if 0 < a0 then a0 else -a0)) a2 μ).bind fun q1 =>
  (if q1.1 = 0 then
  some ((-9223372036854775808), q1.2)
  else
  (if a4 = 0 then
  (o_ldiv a0 q1.1).bind fun v3 =>
  some (v3, q1.2)
  else
  (o_ldiv a2 q1.1).bind fun v2 =>
  some (v2, q1.2)))
set_option maxRecDepth 100000 in
set_option maxHeartbeats 4000000 in
theorem c_X11_inLowestTerms {l : Launch} {γ : GE} {S : SH} {a0 : Int64} {a2 : Int64} {a4 : Int32} {μ : Mem} {X : (Int64 × Mem)} (h : f_X11_inLowestTerms S a0 a2 a4 μ = some X) : Ct l γ yX11_inLowestTerms cX11_inLowestTerms 7 (some .long) rm_X11_inLowestTerms [.long a0, .long a2, .int a4] S μ S X.2 (some (.long X.1)) := by
  unfold f_X11_inLowestTerms at h
  have hJ : ∀ (p : Program) (e : Env) (s : State) (m : MethodId) (args : Array Value) (below : List Frame) (meth : Method) (c : Code), FX γ p s m args meth c cX11_inLowestTerms RX11 7 → meth.sig.returnType = (some .long) → JJ γ p l e rm_X11_inLowestTerms s m args below meth c 7 0 0 (QL below γ S X args s 0 0) S μ 0 [(0, .long a0), (2, .long a2), (4, .int a4)] [] := by
    intro p e s m args below meth c F hr
    refine j_lload_n F 0 dX11_inLowestTerms_0 rfl ?_
    refine j_mabs F w_587 ⟨Nat.le_of_ble_eq_true rfl, Nat.le_of_ble_eq_true rfl, Nat.le_of_ble_eq_true rfl, Nat.le_of_ble_eq_true rfl⟩ dX11_inLowestTerms_1 mg_abs ?_
    refine j_lload_n F 1 dX11_inLowestTerms_4 rfl ?_
    refine j_cSJ F mi_X11_commonDivisor w_590 (rest := []) h (fun _ g => c_X11_commonDivisor g) rfl rfl (Nat.le_of_ble_eq_true rfl) ⟨Nat.le_of_ble_eq_true rfl, Nat.le_of_ble_eq_true rfl⟩ ⟨Nat.le_of_ble_eq_true rfl, Nat.le_of_ble_eq_true rfl⟩ dX11_inLowestTerms_5 (fun q1 h => ?_)
    refine j_lstore F [(5, .long q1.1), (0, .long a0), (2, .long a2), (4, .int a4)] dX11_inLowestTerms_8 (by decide) rfl ?_
    refine j_lload F 0 dX11_inLowestTerms_10 rfl ?_
    refine j_lconst F 0 dX11_inLowestTerms_12 (by decide) ?_
    refine j_lcmpne F 21 dX11_inLowestTerms_13 dX11_inLowestTerms_14 (by decide) h (fun _ h => ?_) (fun _ h => ?_)
    · refine j_iload F 3 dX11_inLowestTerms_21 rfl ?_
      refine j_ifne F 30 dX11_inLowestTerms_23 (by decide) h (fun _ h => ?_) (fun _ h => ?_)
      · refine j_lload_n F 2 dX11_inLowestTerms_30 rfl ?_
        refine j_lload F 0 dX11_inLowestTerms_31 rfl ?_
        refine j_ldiv F dX11_inLowestTerms_33 h (fun v2 h => ?_)
        exact j_lret F hr dX11_inLowestTerms_34 h
      · refine j_lload_n F 1 dX11_inLowestTerms_26 rfl ?_
        refine j_goto F 31 dX11_inLowestTerms_27 (by decide) ?_
        refine j_lload F 0 dX11_inLowestTerms_31 rfl ?_
        refine j_ldiv F dX11_inLowestTerms_33 h (fun v3 h => ?_)
        exact j_lret F hr dX11_inLowestTerms_34 h
    · refine j_ldc2 F (-9223372036854775808) dX11_inLowestTerms_17 w_517 ?_
      exact j_lret F hr dX11_inLowestTerms_20 h
  exact ct_of (by decide +kernel) (Nat.le_of_ble_eq_true rfl) (fun p e s m args below meth c F hr _ => hJ p e s m args below meth c F hr)
def rm_X11_centre : Room := { frames := 3, cells := 0, slots := 0, locals := 70 }
theorem dX11_centre_0 : decode cX11_centre 0 = .ok (.aload_n 0, 1) := by decide +kernel
theorem dX11_centre_1 : decode cX11_centre 1 = .ok (.getfield 27, 3) := by decide +kernel
theorem dX11_centre_4 : decode cX11_centre 4 = .ok (.aload_n 0, 1) := by decide +kernel
theorem dX11_centre_5 : decode cX11_centre 5 = .ok (.getfield 12, 3) := by decide +kernel
theorem dX11_centre_8 : decode cX11_centre 8 = .ok (.invokevirtual 176, 3) := by decide +kernel
theorem dX11_centre_11 : decode cX11_centre 11 = .ok (.iload_n 1, 1) := by decide +kernel
theorem dX11_centre_12 : decode cX11_centre 12 = .ok (.iconst 0, 1) := by decide +kernel
theorem dX11_centre_13 : decode cX11_centre 13 = .ok (.iconst 1, 1) := by decide +kernel
theorem dX11_centre_14 : decode cX11_centre 14 = .ok (.invokestatic 84, 3) := by decide +kernel
theorem dX11_centre_17 : decode cX11_centre 17 = .ok (.ifCond .eq 22, 3) := by decide +kernel
theorem dX11_centre_20 : decode cX11_centre 20 = .ok (.iload_n 2, 1) := by decide +kernel
theorem dX11_centre_21 : decode cX11_centre 21 = .ok (.invokestatic 180, 3) := by decide +kernel
theorem dX11_centre_24 : decode cX11_centre 24 = .ok (.ifCond .eq 15, 3) := by decide +kernel
theorem dX11_centre_27 : decode cX11_centre 27 = .ok (.aload_n 0, 1) := by decide +kernel
theorem dX11_centre_28 : decode cX11_centre 28 = .ok (.getfield 27, 3) := by decide +kernel
theorem dX11_centre_31 : decode cX11_centre 31 = .ok (.getfield 183, 3) := by decide +kernel
theorem dX11_centre_34 : decode cX11_centre 34 = .ok (.lconst 0, 1) := by decide +kernel
theorem dX11_centre_35 : decode cX11_centre 35 = .ok (.lcmp, 1) := by decide +kernel
theorem dX11_centre_36 : decode cX11_centre 36 = .ok (.ifCond .ne 7, 3) := by decide +kernel
theorem dX11_centre_39 : decode cX11_centre 39 = .ok (.ldc2_w 139, 3) := by decide +kernel
theorem dX11_centre_42 : decode cX11_centre 42 = .ok (.lreturn, 1) := by decide +kernel
theorem dX11_centre_43 : decode cX11_centre 43 = .ok (.iload_n 1, 1) := by decide +kernel
theorem dX11_centre_44 : decode cX11_centre 44 = .ok (.ifCond .ne 13, 3) := by decide +kernel
theorem dX11_centre_47 : decode cX11_centre 47 = .ok (.aload_n 0, 1) := by decide +kernel
theorem dX11_centre_48 : decode cX11_centre 48 = .ok (.getfield 27, 3) := by decide +kernel
theorem dX11_centre_51 : decode cX11_centre 51 = .ok (.getfield 187, 3) := by decide +kernel
theorem dX11_centre_54 : decode cX11_centre 54 = .ok (.goto 10, 3) := by decide +kernel
theorem dX11_centre_57 : decode cX11_centre 57 = .ok (.aload_n 0, 1) := by decide +kernel
theorem dX11_centre_58 : decode cX11_centre 58 = .ok (.getfield 27, 3) := by decide +kernel
theorem dX11_centre_61 : decode cX11_centre 61 = .ok (.getfield 190, 3) := by decide +kernel
theorem dX11_centre_64 : decode cX11_centre 64 = .ok (.aload_n 0, 1) := by decide +kernel
theorem dX11_centre_65 : decode cX11_centre 65 = .ok (.getfield 27, 3) := by decide +kernel
theorem dX11_centre_68 : decode cX11_centre 68 = .ok (.getfield 183, 3) := by decide +kernel
theorem dX11_centre_71 : decode cX11_centre 71 = .ok (.iload_n 2, 1) := by decide +kernel
theorem dX11_centre_72 : decode cX11_centre 72 = .ok (.invokestatic 193, 3) := by decide +kernel
theorem dX11_centre_75 : decode cX11_centre 75 = .ok (.lreturn, 1) := by decide +kernel
def f_X11_centre (S : SH) (a0 : Nat) (a1 : Int32) (a2 : Int32) (μ : Mem) : Option (Int64 × Mem) :=
  if isO S 11 a0 = true then
  (gR S 11 a0 3).bind fun v1 =>
  (gR S 11 a0 0).bind fun v2 =>
  (f_X3_gather S v1 v2 μ).bind fun q3 =>
  (f_X11_within S a1 0 1 q3.2).bind fun q4 =>
  (if q4.1 = 0 then
  some ((-9223372036854775808), q4.2)
  else
  (f_X11_isSide S a2 q4.2).bind fun q5 =>
  (if q5.1 = 0 then
  some ((-9223372036854775808), q5.2)
  else
  (gR S 11 a0 3).bind fun v6 =>
  (gL S 3 v6 0 q5.2).bind fun v7 =>
  (if v7 = 0 then
  some ((-9223372036854775808), q5.2)
  else
  (if a1 = 0 then
  (gR S 11 a0 3).bind fun v13 =>
  (gL S 3 v13 1 q5.2).bind fun v14 =>
  (gR S 11 a0 3).bind fun v15 =>
  (gL S 3 v15 0 q5.2).bind fun v16 =>
  (f_X11_inLowestTerms S v14 v16 a2 q5.2).bind fun q17 =>
  some (q17.1, q17.2)
  else
  (gR S 11 a0 3).bind fun v8 =>
  (gL S 3 v8 2 q5.2).bind fun v9 =>
  (gR S 11 a0 3).bind fun v10 =>
  (gL S 3 v10 0 q5.2).bind fun v11 =>
  (f_X11_inLowestTerms S v9 v11 a2 q5.2).bind fun q12 =>
  some (q12.1, q12.2)))))
  else none
set_option maxRecDepth 100000 in
set_option maxHeartbeats 4000000 in
theorem c_X11_centre {l : Launch} {γ : GE} {S : SH} {a0 : Nat} {a1 : Int32} {a2 : Int32} {μ : Mem} {X : (Int64 × Mem)} (h : f_X11_centre S a0 a1 a2 μ = some X) : isO S 11 a0 = true ∧ Ct l γ yX11_centre cX11_centre 3 (some .long) rm_X11_centre [.ref (gb γ + a0), .int a1, .int a2] S μ S X.2 (some (.long X.1)) := by
  unfold f_X11_centre at h
  obtain ⟨h0, h⟩ := if_some h
  refine ⟨h0, ?_⟩
  have hJ : ∀ (p : Program) (e : Env) (s : State) (m : MethodId) (args : Array Value) (below : List Frame) (meth : Method) (c : Code), FX γ p s m args meth c cX11_centre RX11 3 → meth.sig.returnType = (some .long) → JJ γ p l e rm_X11_centre s m args below meth c 3 0 0 (QL below γ S X args s 0 0) S μ 0 [(0, .ref (gb γ + a0)), (1, .int a1), (2, .int a2)] [] := by
    intro p e s m args below meth c F hr
    refine j_aload_n F 0 dX11_centre_0 rfl ?_
    refine j_gR F fl_RX11_27 rfl dX11_centre_1 h (fun v1 h => ?_)
    refine j_aload_n F 0 dX11_centre_4 rfl ?_
    refine j_gR F fl_RX11_12 rfl dX11_centre_5 h (fun v2 h => ?_)
    refine j_cVV F mi_X3_gather w_570 (rest := []) h (fun _ g => c_X3_gather g) rfl rfl (Nat.le_of_ble_eq_true rfl) ⟨Nat.le_of_ble_eq_true rfl, Nat.le_of_ble_eq_true rfl⟩ ⟨Nat.le_of_ble_eq_true rfl, Nat.le_of_ble_eq_true rfl⟩ dX11_centre_8 (fun q3 h => ?_)
    refine j_iload_n F 1 dX11_centre_11 rfl ?_
    refine j_iconst F 0 dX11_centre_12 (by decide) ?_
    refine j_iconst F 1 dX11_centre_13 (by decide) ?_
    refine j_cSI F mi_X11_within w_464 (rest := []) h (fun _ g => c_X11_within g) rfl rfl (Nat.le_of_ble_eq_true rfl) ⟨Nat.le_of_ble_eq_true rfl, Nat.le_of_ble_eq_true rfl⟩ ⟨Nat.le_of_ble_eq_true rfl, Nat.le_of_ble_eq_true rfl⟩ dX11_centre_14 (fun q4 h => ?_)
    refine j_ifeq F 39 dX11_centre_17 (by decide) h (fun _ h => ?_) (fun _ h => ?_)
    · refine j_ldc2 F (-9223372036854775808) dX11_centre_39 w_517 ?_
      exact j_lret F hr dX11_centre_42 h
    · refine j_iload_n F 2 dX11_centre_20 rfl ?_
      refine j_cSI F mi_X11_isSide w_581 (rest := []) h (fun _ g => c_X11_isSide g) rfl rfl (Nat.le_of_ble_eq_true rfl) ⟨Nat.le_of_ble_eq_true rfl, Nat.le_of_ble_eq_true rfl⟩ ⟨Nat.le_of_ble_eq_true rfl, Nat.le_of_ble_eq_true rfl⟩ dX11_centre_21 (fun q5 h => ?_)
      refine j_ifeq F 39 dX11_centre_24 (by decide) h (fun _ h => ?_) (fun _ h => ?_)
      · refine j_ldc2 F (-9223372036854775808) dX11_centre_39 w_517 ?_
        exact j_lret F hr dX11_centre_42 h
      · refine j_aload_n F 0 dX11_centre_27 rfl ?_
        refine j_gR F fl_RX11_27 rfl dX11_centre_28 h (fun v6 h => ?_)
        refine j_gL F fl_RX11_183.l rfl dX11_centre_31 h (fun v7 h => ?_)
        refine j_lconst F 0 dX11_centre_34 (by decide) ?_
        refine j_lcmpne F 43 dX11_centre_35 dX11_centre_36 (by decide) h (fun _ h => ?_) (fun _ h => ?_)
        · refine j_iload_n F 1 dX11_centre_43 rfl ?_
          refine j_ifne F 57 dX11_centre_44 (by decide) h (fun _ h => ?_) (fun _ h => ?_)
          · refine j_aload_n F 0 dX11_centre_57 rfl ?_
            refine j_gR F fl_RX11_27 rfl dX11_centre_58 h (fun v8 h => ?_)
            refine j_gL F fl_RX11_190.l rfl dX11_centre_61 h (fun v9 h => ?_)
            refine j_aload_n F 0 dX11_centre_64 rfl ?_
            refine j_gR F fl_RX11_27 rfl dX11_centre_65 h (fun v10 h => ?_)
            refine j_gL F fl_RX11_183.l rfl dX11_centre_68 h (fun v11 h => ?_)
            refine j_iload_n F 2 dX11_centre_71 rfl ?_
            refine j_cSJ F mi_X11_inLowestTerms w_584 (rest := []) h (fun _ g => c_X11_inLowestTerms g) rfl rfl (Nat.le_of_ble_eq_true rfl) ⟨Nat.le_of_ble_eq_true rfl, Nat.le_of_ble_eq_true rfl⟩ ⟨Nat.le_of_ble_eq_true rfl, Nat.le_of_ble_eq_true rfl⟩ dX11_centre_72 (fun q12 h => ?_)
            exact j_lret F hr dX11_centre_75 h
          · refine j_aload_n F 0 dX11_centre_47 rfl ?_
            refine j_gR F fl_RX11_27 rfl dX11_centre_48 h (fun v13 h => ?_)
            refine j_gL F fl_RX11_187.l rfl dX11_centre_51 h (fun v14 h => ?_)
            refine j_goto F 64 dX11_centre_54 (by decide) ?_
            refine j_aload_n F 0 dX11_centre_64 rfl ?_
            refine j_gR F fl_RX11_27 rfl dX11_centre_65 h (fun v15 h => ?_)
            refine j_gL F fl_RX11_183.l rfl dX11_centre_68 h (fun v16 h => ?_)
            refine j_iload_n F 2 dX11_centre_71 rfl ?_
            refine j_cSJ F mi_X11_inLowestTerms w_584 (rest := []) h (fun _ g => c_X11_inLowestTerms g) rfl rfl (Nat.le_of_ble_eq_true rfl) ⟨Nat.le_of_ble_eq_true rfl, Nat.le_of_ble_eq_true rfl⟩ ⟨Nat.le_of_ble_eq_true rfl, Nat.le_of_ble_eq_true rfl⟩ dX11_centre_72 (fun q17 h => ?_)
            exact j_lret F hr dX11_centre_75 h
        · refine j_ldc2 F (-9223372036854775808) dX11_centre_39 w_517 ?_
          exact j_lret F hr dX11_centre_42 h
  exact ct_of (by decide +kernel) (Nat.le_of_ble_eq_true rfl) (fun p e s m args below meth c F hr _ => hJ p e s m args below meth c F hr)
def rm_X11_moment : Room := { frames := 3, cells := 0, slots := 0, locals := 70 }
theorem dX11_moment_0 : decode cX11_moment 0 = .ok (.iload_n 1, 1) := by decide +kernel
theorem dX11_moment_1 : decode cX11_moment 1 = .ok (.invokestatic 80, 3) := by decide +kernel
theorem dX11_moment_4 : decode cX11_moment 4 = .ok (.ifCond .eq 10, 3) := by decide +kernel
theorem dX11_moment_7 : decode cX11_moment 7 = .ok (.iload_n 2, 1) := by decide +kernel
theorem dX11_moment_8 : decode cX11_moment 8 = .ok (.invokestatic 180, 3) := by decide +kernel
theorem dX11_moment_11 : decode cX11_moment 11 = .ok (.ifCond .ne 7, 3) := by decide +kernel
theorem dX11_moment_14 : decode cX11_moment 14 = .ok (.ldc2_w 139, 3) := by decide +kernel
theorem dX11_moment_17 : decode cX11_moment 17 = .ok (.lreturn, 1) := by decide +kernel
theorem dX11_moment_18 : decode cX11_moment 18 = .ok (.aload_n 0, 1) := by decide +kernel
theorem dX11_moment_19 : decode cX11_moment 19 = .ok (.getfield 27, 3) := by decide +kernel
theorem dX11_moment_22 : decode cX11_moment 22 = .ok (.aload_n 0, 1) := by decide +kernel
theorem dX11_moment_23 : decode cX11_moment 23 = .ok (.getfield 12, 3) := by decide +kernel
theorem dX11_moment_26 : decode cX11_moment 26 = .ok (.invokevirtual 176, 3) := by decide +kernel
theorem dX11_moment_29 : decode cX11_moment 29 = .ok (.aload_n 0, 1) := by decide +kernel
theorem dX11_moment_30 : decode cX11_moment 30 = .ok (.getfield 27, 3) := by decide +kernel
theorem dX11_moment_33 : decode cX11_moment 33 = .ok (.aload_n 0, 1) := by decide +kernel
theorem dX11_moment_34 : decode cX11_moment 34 = .ok (.getfield 12, 3) := by decide +kernel
theorem dX11_moment_37 : decode cX11_moment 37 = .ok (.getfield 88, 3) := by decide +kernel
theorem dX11_moment_40 : decode cX11_moment 40 = .ok (.iload_n 1, 1) := by decide +kernel
theorem dX11_moment_41 : decode cX11_moment 41 = .ok (.iload_n 1, 1) := by decide +kernel
theorem dX11_moment_42 : decode cX11_moment 42 = .ok (.invokestatic 197, 3) := by decide +kernel
theorem dX11_moment_45 : decode cX11_moment 45 = .ok (.invokevirtual 200, 3) := by decide +kernel
theorem dX11_moment_48 : decode cX11_moment 48 = .ok (.ldc2_w 204, 3) := by decide +kernel
theorem dX11_moment_51 : decode cX11_moment 51 = .ok (.iload_n 2, 1) := by decide +kernel
theorem dX11_moment_52 : decode cX11_moment 52 = .ok (.invokestatic 193, 3) := by decide +kernel
theorem dX11_moment_55 : decode cX11_moment 55 = .ok (.lreturn, 1) := by decide +kernel
def f_X11_moment (S : SH) (a0 : Nat) (a1 : Int32) (a2 : Int32) (μ : Mem) : Option (Int64 × Mem) :=
  if isO S 11 a0 = true then
  (f_X11_isPad S a1 μ).bind fun q1 =>
  (if q1.1 = 0 then
  some ((-9223372036854775808), q1.2)
  else
  (f_X11_isSide S a2 q1.2).bind fun q2 =>
  (if q2.1 = 0 then
  some ((-9223372036854775808), q2.2)
  else
  (gR S 11 a0 3).bind fun v3 =>
  (gR S 11 a0 0).bind fun v4 =>
  (f_X3_gather S v3 v4 q2.2).bind fun q5 =>
  (gR S 11 a0 3).bind fun v6 =>
  (gR S 11 a0 0).bind fun v7 =>
  (gR S 2 v7 0).bind fun v8 =>
  (f_X11_next S a1 q5.2).bind fun q9 =>
  (f_X3_about S v6 v8 a1 q9.1 q9.2).bind fun q10 =>
  (f_X11_inLowestTerms S q10.1 65 a2 q10.2).bind fun q11 =>
  some (q11.1, q11.2)))
  else none
set_option maxRecDepth 100000 in
set_option maxHeartbeats 4000000 in
theorem c_X11_moment {l : Launch} {γ : GE} {S : SH} {a0 : Nat} {a1 : Int32} {a2 : Int32} {μ : Mem} {X : (Int64 × Mem)} (h : f_X11_moment S a0 a1 a2 μ = some X) : isO S 11 a0 = true ∧ Ct l γ yX11_moment cX11_moment 3 (some .long) rm_X11_moment [.ref (gb γ + a0), .int a1, .int a2] S μ S X.2 (some (.long X.1)) := by
  unfold f_X11_moment at h
  obtain ⟨h0, h⟩ := if_some h
  refine ⟨h0, ?_⟩
  have hJ : ∀ (p : Program) (e : Env) (s : State) (m : MethodId) (args : Array Value) (below : List Frame) (meth : Method) (c : Code), FX γ p s m args meth c cX11_moment RX11 3 → meth.sig.returnType = (some .long) → JJ γ p l e rm_X11_moment s m args below meth c 3 0 0 (QL below γ S X args s 0 0) S μ 0 [(0, .ref (gb γ + a0)), (1, .int a1), (2, .int a2)] [] := by
    intro p e s m args below meth c F hr
    refine j_iload_n F 1 dX11_moment_0 rfl ?_
    refine j_cSI F mi_X11_isPad w_461 (rest := []) h (fun _ g => c_X11_isPad g) rfl rfl (Nat.le_of_ble_eq_true rfl) ⟨Nat.le_of_ble_eq_true rfl, Nat.le_of_ble_eq_true rfl⟩ ⟨Nat.le_of_ble_eq_true rfl, Nat.le_of_ble_eq_true rfl⟩ dX11_moment_1 (fun q1 h => ?_)
    refine j_ifeq F 14 dX11_moment_4 (by decide) h (fun _ h => ?_) (fun _ h => ?_)
    · refine j_ldc2 F (-9223372036854775808) dX11_moment_14 w_517 ?_
      exact j_lret F hr dX11_moment_17 h
    · refine j_iload_n F 2 dX11_moment_7 rfl ?_
      refine j_cSI F mi_X11_isSide w_581 (rest := []) h (fun _ g => c_X11_isSide g) rfl rfl (Nat.le_of_ble_eq_true rfl) ⟨Nat.le_of_ble_eq_true rfl, Nat.le_of_ble_eq_true rfl⟩ ⟨Nat.le_of_ble_eq_true rfl, Nat.le_of_ble_eq_true rfl⟩ dX11_moment_8 (fun q2 h => ?_)
      refine j_ifne F 18 dX11_moment_11 (by decide) h (fun _ h => ?_) (fun _ h => ?_)
      · refine j_aload_n F 0 dX11_moment_18 rfl ?_
        refine j_gR F fl_RX11_27 rfl dX11_moment_19 h (fun v3 h => ?_)
        refine j_aload_n F 0 dX11_moment_22 rfl ?_
        refine j_gR F fl_RX11_12 rfl dX11_moment_23 h (fun v4 h => ?_)
        refine j_cVV F mi_X3_gather w_570 (rest := []) h (fun _ g => c_X3_gather g) rfl rfl (Nat.le_of_ble_eq_true rfl) ⟨Nat.le_of_ble_eq_true rfl, Nat.le_of_ble_eq_true rfl⟩ ⟨Nat.le_of_ble_eq_true rfl, Nat.le_of_ble_eq_true rfl⟩ dX11_moment_26 (fun q5 h => ?_)
        refine j_aload_n F 0 dX11_moment_29 rfl ?_
        refine j_gR F fl_RX11_27 rfl dX11_moment_30 h (fun v6 h => ?_)
        refine j_aload_n F 0 dX11_moment_33 rfl ?_
        refine j_gR F fl_RX11_12 rfl dX11_moment_34 h (fun v7 h => ?_)
        refine j_gR F fl_RX11_88 rfl dX11_moment_37 h (fun v8 h => ?_)
        refine j_iload_n F 1 dX11_moment_40 rfl ?_
        refine j_iload_n F 1 dX11_moment_41 rfl ?_
        refine j_cSI F mi_X11_next w_597 (rest := [.int a1, .ref (gb γ + v8), .ref (gb γ + v6)]) h (fun _ g => c_X11_next g) rfl rfl (Nat.le_of_ble_eq_true rfl) ⟨Nat.le_of_ble_eq_true rfl, Nat.le_of_ble_eq_true rfl⟩ ⟨Nat.le_of_ble_eq_true rfl, Nat.le_of_ble_eq_true rfl⟩ dX11_moment_42 (fun q9 h => ?_)
        refine j_cVJ F mi_X3_about w_598 (rest := []) h (fun _ g => c_X3_about g) rfl rfl (Nat.le_of_ble_eq_true rfl) ⟨Nat.le_of_ble_eq_true rfl, Nat.le_of_ble_eq_true rfl⟩ ⟨Nat.le_of_ble_eq_true rfl, Nat.le_of_ble_eq_true rfl⟩ dX11_moment_45 (fun q10 h => ?_)
        refine j_ldc2 F 65 dX11_moment_48 w_602 ?_
        refine j_iload_n F 2 dX11_moment_51 rfl ?_
        refine j_cSJ F mi_X11_inLowestTerms w_584 (rest := []) h (fun _ g => c_X11_inLowestTerms g) rfl rfl (Nat.le_of_ble_eq_true rfl) ⟨Nat.le_of_ble_eq_true rfl, Nat.le_of_ble_eq_true rfl⟩ ⟨Nat.le_of_ble_eq_true rfl, Nat.le_of_ble_eq_true rfl⟩ dX11_moment_52 (fun q11 h => ?_)
        exact j_lret F hr dX11_moment_55 h
      · refine j_ldc2 F (-9223372036854775808) dX11_moment_14 w_517 ?_
        exact j_lret F hr dX11_moment_17 h
  exact ct_of (by decide +kernel) (Nat.le_of_ble_eq_true rfl) (fun p e s m args below meth c F hr _ => hJ p e s m args below meth c F hr)
def rm_X11_factor : Room := { frames := 3, cells := 0, slots := 0, locals := 87 }
theorem dX11_factor_0 : decode cX11_factor 0 = .ok (.iload_n 1, 1) := by decide +kernel
theorem dX11_factor_1 : decode cX11_factor 1 = .ok (.invokestatic 80, 3) := by decide +kernel
theorem dX11_factor_4 : decode cX11_factor 4 = .ok (.ifCond .eq 10, 3) := by decide +kernel
theorem dX11_factor_7 : decode cX11_factor 7 = .ok (.iload_n 2, 1) := by decide +kernel
theorem dX11_factor_8 : decode cX11_factor 8 = .ok (.invokestatic 180, 3) := by decide +kernel
theorem dX11_factor_11 : decode cX11_factor 11 = .ok (.ifCond .ne 7, 3) := by decide +kernel
theorem dX11_factor_14 : decode cX11_factor 14 = .ok (.ldc2_w 139, 3) := by decide +kernel
theorem dX11_factor_17 : decode cX11_factor 17 = .ok (.lreturn, 1) := by decide +kernel
theorem dX11_factor_18 : decode cX11_factor 18 = .ok (.aload_n 0, 1) := by decide +kernel
theorem dX11_factor_19 : decode cX11_factor 19 = .ok (.getfield 27, 3) := by decide +kernel
theorem dX11_factor_22 : decode cX11_factor 22 = .ok (.aload_n 0, 1) := by decide +kernel
theorem dX11_factor_23 : decode cX11_factor 23 = .ok (.getfield 12, 3) := by decide +kernel
theorem dX11_factor_26 : decode cX11_factor 26 = .ok (.iload_n 1, 1) := by decide +kernel
theorem dX11_factor_27 : decode cX11_factor 27 = .ok (.invokevirtual 206, 3) := by decide +kernel
theorem dX11_factor_30 : decode cX11_factor 30 = .ok (.aload_n 0, 1) := by decide +kernel
theorem dX11_factor_31 : decode cX11_factor 31 = .ok (.getfield 27, 3) := by decide +kernel
theorem dX11_factor_34 : decode cX11_factor 34 = .ok (.getfield 210, 3) := by decide +kernel
theorem dX11_factor_37 : decode cX11_factor 37 = .ok (.lconst 0, 1) := by decide +kernel
theorem dX11_factor_38 : decode cX11_factor 38 = .ok (.lcmp, 1) := by decide +kernel
theorem dX11_factor_39 : decode cX11_factor 39 = .ok (.ifCond .ne 7, 3) := by decide +kernel
theorem dX11_factor_42 : decode cX11_factor 42 = .ok (.ldc2_w 139, 3) := by decide +kernel
theorem dX11_factor_45 : decode cX11_factor 45 = .ok (.lreturn, 1) := by decide +kernel
theorem dX11_factor_46 : decode cX11_factor 46 = .ok (.aload_n 0, 1) := by decide +kernel
theorem dX11_factor_47 : decode cX11_factor 47 = .ok (.getfield 27, 3) := by decide +kernel
theorem dX11_factor_50 : decode cX11_factor 50 = .ok (.getfield 213, 3) := by decide +kernel
theorem dX11_factor_53 : decode cX11_factor 53 = .ok (.aload_n 0, 1) := by decide +kernel
theorem dX11_factor_54 : decode cX11_factor 54 = .ok (.getfield 27, 3) := by decide +kernel
theorem dX11_factor_57 : decode cX11_factor 57 = .ok (.getfield 210, 3) := by decide +kernel
theorem dX11_factor_60 : decode cX11_factor 60 = .ok (.iload_n 2, 1) := by decide +kernel
theorem dX11_factor_61 : decode cX11_factor 61 = .ok (.invokestatic 193, 3) := by decide +kernel
theorem dX11_factor_64 : decode cX11_factor 64 = .ok (.lreturn, 1) := by decide +kernel
def f_X11_factor (S : SH) (a0 : Nat) (a1 : Int32) (a2 : Int32) (μ : Mem) : Option (Int64 × Mem) :=
  if isO S 11 a0 = true then
  (f_X11_isPad S a1 μ).bind fun q1 =>
  (if q1.1 = 0 then
  some ((-9223372036854775808), q1.2)
  else
  (f_X11_isSide S a2 q1.2).bind fun q2 =>
  (if q2.1 = 0 then
  some ((-9223372036854775808), q2.2)
  else
  (gR S 11 a0 3).bind fun v3 =>
  (gR S 11 a0 0).bind fun v4 =>
  (f_X3_splitMoments S v3 v4 a1 q2.2).bind fun q5 =>
  (gR S 11 a0 3).bind fun v6 =>
  (gL S 3 v6 7 q5.2).bind fun v7 =>
  (if v7 = 0 then
  some ((-9223372036854775808), q5.2)
  else
  (gR S 11 a0 3).bind fun v8 =>
  (gL S 3 v8 6 q5.2).bind fun v9 =>
  (gR S 11 a0 3).bind fun v10 =>
  (gL S 3 v10 7 q5.2).bind fun v11 =>
  (f_X11_inLowestTerms S v9 v11 a2 q5.2).bind fun q12 =>
  some (q12.1, q12.2))))
  else none
set_option maxRecDepth 100000 in
set_option maxHeartbeats 4000000 in
theorem c_X11_factor {l : Launch} {γ : GE} {S : SH} {a0 : Nat} {a1 : Int32} {a2 : Int32} {μ : Mem} {X : (Int64 × Mem)} (h : f_X11_factor S a0 a1 a2 μ = some X) : isO S 11 a0 = true ∧ Ct l γ yX11_factor cX11_factor 3 (some .long) rm_X11_factor [.ref (gb γ + a0), .int a1, .int a2] S μ S X.2 (some (.long X.1)) := by
  unfold f_X11_factor at h
  obtain ⟨h0, h⟩ := if_some h
  refine ⟨h0, ?_⟩
  have hJ : ∀ (p : Program) (e : Env) (s : State) (m : MethodId) (args : Array Value) (below : List Frame) (meth : Method) (c : Code), FX γ p s m args meth c cX11_factor RX11 3 → meth.sig.returnType = (some .long) → JJ γ p l e rm_X11_factor s m args below meth c 3 0 0 (QL below γ S X args s 0 0) S μ 0 [(0, .ref (gb γ + a0)), (1, .int a1), (2, .int a2)] [] := by
    intro p e s m args below meth c F hr
    refine j_iload_n F 1 dX11_factor_0 rfl ?_
    refine j_cSI F mi_X11_isPad w_461 (rest := []) h (fun _ g => c_X11_isPad g) rfl rfl (Nat.le_of_ble_eq_true rfl) ⟨Nat.le_of_ble_eq_true rfl, Nat.le_of_ble_eq_true rfl⟩ ⟨Nat.le_of_ble_eq_true rfl, Nat.le_of_ble_eq_true rfl⟩ dX11_factor_1 (fun q1 h => ?_)
    refine j_ifeq F 14 dX11_factor_4 (by decide) h (fun _ h => ?_) (fun _ h => ?_)
    · refine j_ldc2 F (-9223372036854775808) dX11_factor_14 w_517 ?_
      exact j_lret F hr dX11_factor_17 h
    · refine j_iload_n F 2 dX11_factor_7 rfl ?_
      refine j_cSI F mi_X11_isSide w_581 (rest := []) h (fun _ g => c_X11_isSide g) rfl rfl (Nat.le_of_ble_eq_true rfl) ⟨Nat.le_of_ble_eq_true rfl, Nat.le_of_ble_eq_true rfl⟩ ⟨Nat.le_of_ble_eq_true rfl, Nat.le_of_ble_eq_true rfl⟩ dX11_factor_8 (fun q2 h => ?_)
      refine j_ifne F 18 dX11_factor_11 (by decide) h (fun _ h => ?_) (fun _ h => ?_)
      · refine j_aload_n F 0 dX11_factor_18 rfl ?_
        refine j_gR F fl_RX11_27 rfl dX11_factor_19 h (fun v3 h => ?_)
        refine j_aload_n F 0 dX11_factor_22 rfl ?_
        refine j_gR F fl_RX11_12 rfl dX11_factor_23 h (fun v4 h => ?_)
        refine j_iload_n F 1 dX11_factor_26 rfl ?_
        refine j_cVV F mi_X3_splitMoments w_607 (rest := []) h (fun _ g => c_X3_splitMoments g) rfl rfl (Nat.le_of_ble_eq_true rfl) ⟨Nat.le_of_ble_eq_true rfl, Nat.le_of_ble_eq_true rfl⟩ ⟨Nat.le_of_ble_eq_true rfl, Nat.le_of_ble_eq_true rfl⟩ dX11_factor_27 (fun q5 h => ?_)
        refine j_aload_n F 0 dX11_factor_30 rfl ?_
        refine j_gR F fl_RX11_27 rfl dX11_factor_31 h (fun v6 h => ?_)
        refine j_gL F fl_RX11_210.l rfl dX11_factor_34 h (fun v7 h => ?_)
        refine j_lconst F 0 dX11_factor_37 (by decide) ?_
        refine j_lcmpne F 46 dX11_factor_38 dX11_factor_39 (by decide) h (fun _ h => ?_) (fun _ h => ?_)
        · refine j_aload_n F 0 dX11_factor_46 rfl ?_
          refine j_gR F fl_RX11_27 rfl dX11_factor_47 h (fun v8 h => ?_)
          refine j_gL F fl_RX11_213.l rfl dX11_factor_50 h (fun v9 h => ?_)
          refine j_aload_n F 0 dX11_factor_53 rfl ?_
          refine j_gR F fl_RX11_27 rfl dX11_factor_54 h (fun v10 h => ?_)
          refine j_gL F fl_RX11_210.l rfl dX11_factor_57 h (fun v11 h => ?_)
          refine j_iload_n F 2 dX11_factor_60 rfl ?_
          refine j_cSJ F mi_X11_inLowestTerms w_584 (rest := []) h (fun _ g => c_X11_inLowestTerms g) rfl rfl (Nat.le_of_ble_eq_true rfl) ⟨Nat.le_of_ble_eq_true rfl, Nat.le_of_ble_eq_true rfl⟩ ⟨Nat.le_of_ble_eq_true rfl, Nat.le_of_ble_eq_true rfl⟩ dX11_factor_61 (fun q12 h => ?_)
          exact j_lret F hr dX11_factor_64 h
        · refine j_ldc2 F (-9223372036854775808) dX11_factor_42 w_517 ?_
          exact j_lret F hr dX11_factor_45 h
      · refine j_ldc2 F (-9223372036854775808) dX11_factor_14 w_517 ?_
        exact j_lret F hr dX11_factor_17 h
  exact ct_of (by decide +kernel) (Nat.le_of_ble_eq_true rfl) (fun p e s m args below meth c F hr _ => hJ p e s m args below meth c F hr)
def rm_X11_push : Room := { frames := 5, cells := 0, slots := 0, locals := 113 }
theorem dX11_push_0 : decode cX11_push 0 = .ok (.iload_n 1, 1) := by decide +kernel
theorem dX11_push_1 : decode cX11_push 1 = .ok (.invokestatic 80, 3) := by decide +kernel
theorem dX11_push_4 : decode cX11_push 4 = .ok (.ifCond .eq 24, 3) := by decide +kernel
theorem dX11_push_7 : decode cX11_push 7 = .ok (.iload_n 2, 1) := by decide +kernel
theorem dX11_push_8 : decode cX11_push 8 = .ok (.invokestatic 180, 3) := by decide +kernel
theorem dX11_push_11 : decode cX11_push 11 = .ok (.ifCond .eq 17, 3) := by decide +kernel
theorem dX11_push_14 : decode cX11_push 14 = .ok (.aload_n 0, 1) := by decide +kernel
theorem dX11_push_15 : decode cX11_push 15 = .ok (.getfield 27, 3) := by decide +kernel
theorem dX11_push_18 : decode cX11_push 18 = .ok (.aload_n 0, 1) := by decide +kernel
theorem dX11_push_19 : decode cX11_push 19 = .ok (.getfield 12, 3) := by decide +kernel
theorem dX11_push_22 : decode cX11_push 22 = .ok (.invokevirtual 216, 3) := by decide +kernel
theorem dX11_push_25 : decode cX11_push 25 = .ok (.ifCond .ne 7, 3) := by decide +kernel
theorem dX11_push_28 : decode cX11_push 28 = .ok (.ldc2_w 139, 3) := by decide +kernel
theorem dX11_push_31 : decode cX11_push 31 = .ok (.lreturn, 1) := by decide +kernel
theorem dX11_push_32 : decode cX11_push 32 = .ok (.aload_n 0, 1) := by decide +kernel
theorem dX11_push_33 : decode cX11_push 33 = .ok (.getfield 27, 3) := by decide +kernel
theorem dX11_push_36 : decode cX11_push 36 = .ok (.getfield 220, 3) := by decide +kernel
theorem dX11_push_39 : decode cX11_push 39 = .ok (.iload_n 1, 1) := by decide +kernel
theorem dX11_push_40 : decode cX11_push 40 = .ok (.laload, 1) := by decide +kernel
theorem dX11_push_41 : decode cX11_push 41 = .ok (.aload_n 0, 1) := by decide +kernel
theorem dX11_push_42 : decode cX11_push 42 = .ok (.getfield 27, 3) := by decide +kernel
theorem dX11_push_45 : decode cX11_push 45 = .ok (.getfield 224, 3) := by decide +kernel
theorem dX11_push_48 : decode cX11_push 48 = .ok (.iload_n 2, 1) := by decide +kernel
theorem dX11_push_49 : decode cX11_push 49 = .ok (.invokestatic 193, 3) := by decide +kernel
theorem dX11_push_52 : decode cX11_push 52 = .ok (.lreturn, 1) := by decide +kernel
def f_X11_push (S : SH) (a0 : Nat) (a1 : Int32) (a2 : Int32) (μ : Mem) : Option (Int64 × Mem) :=
  if isO S 11 a0 = true then
  (f_X11_isPad S a1 μ).bind fun q1 =>
  (if q1.1 = 0 then
  some ((-9223372036854775808), q1.2)
  else
  (f_X11_isSide S a2 q1.2).bind fun q2 =>
  (if q2.1 = 0 then
  some ((-9223372036854775808), q2.2)
  else
  (gR S 11 a0 3).bind fun v3 =>
  (gR S 11 a0 0).bind fun v4 =>
  (f_X3_finds S v3 v4 q2.2).bind fun q5 =>
  (if q5.1 = 0 then
  some ((-9223372036854775808), q5.2)
  else
  (gR S 11 a0 3).bind fun v6 =>
  (gR S 3 v6 3).bind fun v7 =>
  (aL S v7 a1 q5.2).bind fun v8 =>
  (gR S 11 a0 3).bind fun v9 =>
  (gL S 3 v9 4 q5.2).bind fun v10 =>
  (f_X11_inLowestTerms S v8 v10 a2 q5.2).bind fun q11 =>
  some (q11.1, q11.2))))
  else none
set_option maxRecDepth 100000 in
set_option maxHeartbeats 4000000 in
theorem c_X11_push {l : Launch} {γ : GE} {S : SH} {a0 : Nat} {a1 : Int32} {a2 : Int32} {μ : Mem} {X : (Int64 × Mem)} (h : f_X11_push S a0 a1 a2 μ = some X) : isO S 11 a0 = true ∧ Ct l γ yX11_push cX11_push 3 (some .long) rm_X11_push [.ref (gb γ + a0), .int a1, .int a2] S μ S X.2 (some (.long X.1)) := by
  unfold f_X11_push at h
  obtain ⟨h0, h⟩ := if_some h
  refine ⟨h0, ?_⟩
  have hJ : ∀ (p : Program) (e : Env) (s : State) (m : MethodId) (args : Array Value) (below : List Frame) (meth : Method) (c : Code), FX γ p s m args meth c cX11_push RX11 3 → meth.sig.returnType = (some .long) → JJ γ p l e rm_X11_push s m args below meth c 3 0 0 (QL below γ S X args s 0 0) S μ 0 [(0, .ref (gb γ + a0)), (1, .int a1), (2, .int a2)] [] := by
    intro p e s m args below meth c F hr
    refine j_iload_n F 1 dX11_push_0 rfl ?_
    refine j_cSI F mi_X11_isPad w_461 (rest := []) h (fun _ g => c_X11_isPad g) rfl rfl (Nat.le_of_ble_eq_true rfl) ⟨Nat.le_of_ble_eq_true rfl, Nat.le_of_ble_eq_true rfl⟩ ⟨Nat.le_of_ble_eq_true rfl, Nat.le_of_ble_eq_true rfl⟩ dX11_push_1 (fun q1 h => ?_)
    refine j_ifeq F 28 dX11_push_4 (by decide) h (fun _ h => ?_) (fun _ h => ?_)
    · refine j_ldc2 F (-9223372036854775808) dX11_push_28 w_517 ?_
      exact j_lret F hr dX11_push_31 h
    · refine j_iload_n F 2 dX11_push_7 rfl ?_
      refine j_cSI F mi_X11_isSide w_581 (rest := []) h (fun _ g => c_X11_isSide g) rfl rfl (Nat.le_of_ble_eq_true rfl) ⟨Nat.le_of_ble_eq_true rfl, Nat.le_of_ble_eq_true rfl⟩ ⟨Nat.le_of_ble_eq_true rfl, Nat.le_of_ble_eq_true rfl⟩ dX11_push_8 (fun q2 h => ?_)
      refine j_ifeq F 28 dX11_push_11 (by decide) h (fun _ h => ?_) (fun _ h => ?_)
      · refine j_ldc2 F (-9223372036854775808) dX11_push_28 w_517 ?_
        exact j_lret F hr dX11_push_31 h
      · refine j_aload_n F 0 dX11_push_14 rfl ?_
        refine j_gR F fl_RX11_27 rfl dX11_push_15 h (fun v3 h => ?_)
        refine j_aload_n F 0 dX11_push_18 rfl ?_
        refine j_gR F fl_RX11_12 rfl dX11_push_19 h (fun v4 h => ?_)
        refine j_cVI F mi_X3_finds w_620 (rest := []) h (fun _ g => c_X3_finds g) rfl rfl (Nat.le_of_ble_eq_true rfl) ⟨Nat.le_of_ble_eq_true rfl, Nat.le_of_ble_eq_true rfl⟩ ⟨Nat.le_of_ble_eq_true rfl, Nat.le_of_ble_eq_true rfl⟩ dX11_push_22 (fun q5 h => ?_)
        refine j_ifne F 32 dX11_push_25 (by decide) h (fun _ h => ?_) (fun _ h => ?_)
        · refine j_aload_n F 0 dX11_push_32 rfl ?_
          refine j_gR F fl_RX11_27 rfl dX11_push_33 h (fun v6 h => ?_)
          refine j_gR F fl_RX11_220 rfl dX11_push_36 h (fun v7 h => ?_)
          refine j_iload_n F 1 dX11_push_39 rfl ?_
          refine j_lald F dX11_push_40 h (fun v8 h => ?_)
          refine j_aload_n F 0 dX11_push_41 rfl ?_
          refine j_gR F fl_RX11_27 rfl dX11_push_42 h (fun v9 h => ?_)
          refine j_gL F fl_RX11_224.l rfl dX11_push_45 h (fun v10 h => ?_)
          refine j_iload_n F 2 dX11_push_48 rfl ?_
          refine j_cSJ F mi_X11_inLowestTerms w_584 (rest := []) h (fun _ g => c_X11_inLowestTerms g) rfl rfl (Nat.le_of_ble_eq_true rfl) ⟨Nat.le_of_ble_eq_true rfl, Nat.le_of_ble_eq_true rfl⟩ ⟨Nat.le_of_ble_eq_true rfl, Nat.le_of_ble_eq_true rfl⟩ dX11_push_49 (fun q11 h => ?_)
          exact j_lret F hr dX11_push_52 h
        · refine j_ldc2 F (-9223372036854775808) dX11_push_28 w_517 ?_
          exact j_lret F hr dX11_push_31 h
  exact ct_of (by decide +kernel) (Nat.le_of_ble_eq_true rfl) (fun p e s m args below meth c F hr _ => hJ p e s m args below meth c F hr)
def rm_X11_lifted : Room := { frames := 5, cells := 0, slots := 0, locals := 113 }
theorem dX11_lifted_0 : decode cX11_lifted 0 = .ok (.aload_n 0, 1) := by decide +kernel
theorem dX11_lifted_1 : decode cX11_lifted 1 = .ok (.getfield 27, 3) := by decide +kernel
theorem dX11_lifted_4 : decode cX11_lifted 4 = .ok (.aload_n 0, 1) := by decide +kernel
theorem dX11_lifted_5 : decode cX11_lifted 5 = .ok (.getfield 12, 3) := by decide +kernel
theorem dX11_lifted_8 : decode cX11_lifted 8 = .ok (.invokevirtual 216, 3) := by decide +kernel
theorem dX11_lifted_11 : decode cX11_lifted 11 = .ok (.ifCond .eq 13, 3) := by decide +kernel
theorem dX11_lifted_14 : decode cX11_lifted 14 = .ok (.aload_n 0, 1) := by decide +kernel
theorem dX11_lifted_15 : decode cX11_lifted 15 = .ok (.getfield 27, 3) := by decide +kernel
theorem dX11_lifted_18 : decode cX11_lifted 18 = .ok (.getfield 227, 3) := by decide +kernel
theorem dX11_lifted_21 : decode cX11_lifted 21 = .ok (.goto 5, 3) := by decide +kernel
theorem dX11_lifted_24 : decode cX11_lifted 24 = .ok (.bipush (-3), 2) := by decide +kernel
theorem dX11_lifted_26 : decode cX11_lifted 26 = .ok (.ireturn, 1) := by decide +kernel
def f_X11_lifted (S : SH) (a0 : Nat) (μ : Mem) : Option (Int32 × Mem) :=
  if isO S 11 a0 = true then
  (gR S 11 a0 3).bind fun v1 =>
  (gR S 11 a0 0).bind fun v2 =>
  (f_X3_finds S v1 v2 μ).bind fun q3 =>
  (if q3.1 = 0 then
  some ((-3), q3.2)
  else
  (gR S 11 a0 3).bind fun v4 =>
  (gI S 3 v4 5 q3.2).bind fun v5 =>
  some (v5, q3.2))
  else none
set_option maxRecDepth 100000 in
set_option maxHeartbeats 4000000 in
theorem c_X11_lifted {l : Launch} {γ : GE} {S : SH} {a0 : Nat} {μ : Mem} {X : (Int32 × Mem)} (h : f_X11_lifted S a0 μ = some X) : isO S 11 a0 = true ∧ Ct l γ yX11_lifted cX11_lifted 1 (some .int) rm_X11_lifted [.ref (gb γ + a0)] S μ S X.2 (some (.int X.1)) := by
  unfold f_X11_lifted at h
  obtain ⟨h0, h⟩ := if_some h
  refine ⟨h0, ?_⟩
  have hJ : ∀ (p : Program) (e : Env) (s : State) (m : MethodId) (args : Array Value) (below : List Frame) (meth : Method) (c : Code), FX γ p s m args meth c cX11_lifted RX11 1 → meth.sig.returnType = (some .int) → JJ γ p l e rm_X11_lifted s m args below meth c 1 0 0 (QI below γ S X args s 0 0) S μ 0 [(0, .ref (gb γ + a0))] [] := by
    intro p e s m args below meth c F hr
    refine j_aload_n F 0 dX11_lifted_0 rfl ?_
    refine j_gR F fl_RX11_27 rfl dX11_lifted_1 h (fun v1 h => ?_)
    refine j_aload_n F 0 dX11_lifted_4 rfl ?_
    refine j_gR F fl_RX11_12 rfl dX11_lifted_5 h (fun v2 h => ?_)
    refine j_cVI F mi_X3_finds w_620 (rest := []) h (fun _ g => c_X3_finds g) rfl rfl (Nat.le_of_ble_eq_true rfl) ⟨Nat.le_of_ble_eq_true rfl, Nat.le_of_ble_eq_true rfl⟩ ⟨Nat.le_of_ble_eq_true rfl, Nat.le_of_ble_eq_true rfl⟩ dX11_lifted_8 (fun q3 h => ?_)
    refine j_ifeq F 24 dX11_lifted_11 (by decide) h (fun _ h => ?_) (fun _ h => ?_)
    · refine j_bipush F (-3) dX11_lifted_24 (by decide) ?_
      exact j_iret F hr dX11_lifted_26 h
    · refine j_aload_n F 0 dX11_lifted_14 rfl ?_
      refine j_gR F fl_RX11_27 rfl dX11_lifted_15 h (fun v4 h => ?_)
      refine j_gI F fl_RX11_227.l rfl dX11_lifted_18 h (fun v5 h => ?_)
      refine j_goto F 26 dX11_lifted_21 (by decide) ?_
      exact j_iret F hr dX11_lifted_26 h
  exact ct_of (by decide +kernel) (Nat.le_of_ble_eq_true rfl) (fun p e s m args below meth c F hr _ => hJ p e s m args below meth c F hr)
def rm_X11_mat : Room := { frames := 5, cells := 0, slots := 0, locals := 113 }
theorem dX11_mat_0 : decode cX11_mat 0 = .ok (.iload_n 1, 1) := by decide +kernel
theorem dX11_mat_1 : decode cX11_mat 1 = .ok (.invokestatic 80, 3) := by decide +kernel
theorem dX11_mat_4 : decode cX11_mat 4 = .ok (.ifCond .ne 5, 3) := by decide +kernel
theorem dX11_mat_7 : decode cX11_mat 7 = .ok (.iconst (-1), 1) := by decide +kernel
theorem dX11_mat_8 : decode cX11_mat 8 = .ok (.ireturn, 1) := by decide +kernel
theorem dX11_mat_9 : decode cX11_mat 9 = .ok (.aload_n 0, 1) := by decide +kernel
theorem dX11_mat_10 : decode cX11_mat 10 = .ok (.getfield 27, 3) := by decide +kernel
theorem dX11_mat_13 : decode cX11_mat 13 = .ok (.aload_n 0, 1) := by decide +kernel
theorem dX11_mat_14 : decode cX11_mat 14 = .ok (.getfield 12, 3) := by decide +kernel
theorem dX11_mat_17 : decode cX11_mat 17 = .ok (.invokevirtual 216, 3) := by decide +kernel
theorem dX11_mat_20 : decode cX11_mat 20 = .ok (.ifCond .ne 6, 3) := by decide +kernel
theorem dX11_mat_23 : decode cX11_mat 23 = .ok (.bipush (-3), 2) := by decide +kernel
theorem dX11_mat_25 : decode cX11_mat 25 = .ok (.ireturn, 1) := by decide +kernel
theorem dX11_mat_26 : decode cX11_mat 26 = .ok (.iconst 1, 1) := by decide +kernel
theorem dX11_mat_27 : decode cX11_mat 27 = .ok (.istore_n 2, 1) := by decide +kernel
theorem dX11_mat_28 : decode cX11_mat 28 = .ok (.iload_n 2, 1) := by decide +kernel
theorem dX11_mat_29 : decode cX11_mat 29 = .ok (.bipush 60, 2) := by decide +kernel
theorem dX11_mat_31 : decode cX11_mat 31 = .ok (.if_icmp .gt 50, 3) := by decide +kernel
theorem dX11_mat_34 : decode cX11_mat 34 = .ok (.iload_n 2, 1) := by decide +kernel
theorem dX11_mat_35 : decode cX11_mat 35 = .ok (.i2l, 1) := by decide +kernel
theorem dX11_mat_36 : decode cX11_mat 36 = .ok (.iload_n 2, 1) := by decide +kernel
theorem dX11_mat_37 : decode cX11_mat 37 = .ok (.i2l, 1) := by decide +kernel
theorem dX11_mat_38 : decode cX11_mat 38 = .ok (.lmul, 1) := by decide +kernel
theorem dX11_mat_39 : decode cX11_mat 39 = .ok (.aload_n 0, 1) := by decide +kernel
theorem dX11_mat_40 : decode cX11_mat 40 = .ok (.getfield 12, 3) := by decide +kernel
theorem dX11_mat_43 : decode cX11_mat 43 = .ok (.getfield 136, 3) := by decide +kernel
theorem dX11_mat_46 : decode cX11_mat 46 = .ok (.iconst 4, 1) := by decide +kernel
theorem dX11_mat_47 : decode cX11_mat 47 = .ok (.iaload, 1) := by decide +kernel
theorem dX11_mat_48 : decode cX11_mat 48 = .ok (.i2l, 1) := by decide +kernel
theorem dX11_mat_49 : decode cX11_mat 49 = .ok (.lmul, 1) := by decide +kernel
theorem dX11_mat_50 : decode cX11_mat 50 = .ok (.lstore_n 3, 1) := by decide +kernel
theorem dX11_mat_51 : decode cX11_mat 51 = .ok (.lload_n 3, 1) := by decide +kernel
theorem dX11_mat_52 : decode cX11_mat 52 = .ok (.aload_n 0, 1) := by decide +kernel
theorem dX11_mat_53 : decode cX11_mat 53 = .ok (.getfield 27, 3) := by decide +kernel
theorem dX11_mat_56 : decode cX11_mat 56 = .ok (.getfield 224, 3) := by decide +kernel
theorem dX11_mat_59 : decode cX11_mat 59 = .ok (.lmul, 1) := by decide +kernel
theorem dX11_mat_60 : decode cX11_mat 60 = .ok (.aload_n 0, 1) := by decide +kernel
theorem dX11_mat_61 : decode cX11_mat 61 = .ok (.getfield 27, 3) := by decide +kernel
theorem dX11_mat_64 : decode cX11_mat 64 = .ok (.getfield 220, 3) := by decide +kernel
theorem dX11_mat_67 : decode cX11_mat 67 = .ok (.iload_n 1, 1) := by decide +kernel
theorem dX11_mat_68 : decode cX11_mat 68 = .ok (.laload, 1) := by decide +kernel
theorem dX11_mat_69 : decode cX11_mat 69 = .ok (.lcmp, 1) := by decide +kernel
theorem dX11_mat_70 : decode cX11_mat 70 = .ok (.ifCond .lt 5, 3) := by decide +kernel
theorem dX11_mat_73 : decode cX11_mat 73 = .ok (.iload_n 2, 1) := by decide +kernel
theorem dX11_mat_74 : decode cX11_mat 74 = .ok (.ireturn, 1) := by decide +kernel
theorem dX11_mat_75 : decode cX11_mat 75 = .ok (.iinc 2 1, 3) := by decide +kernel
theorem dX11_mat_78 : decode cX11_mat 78 = .ok (.goto (-50), 3) := by decide +kernel
theorem dX11_mat_81 : decode cX11_mat 81 = .ok (.bipush (-5), 2) := by decide +kernel
theorem dX11_mat_83 : decode cX11_mat 83 = .ok (.ireturn, 1) := by decide +kernel
def l_X11_mat_28 (S : SH) (a0 : Nat) (a1 : Int32) (k28 : (Int32 × Mem) → Option (Int32 × Mem)) (x : (Int32 × Mem)) : Option (Int32 × Mem) :=
 (if 60 < x.1 then
 some ((-5), x.2)
 else
 (gR S 11 a0 0).bind fun v5 =>
 (gR S 2 v5 3).bind fun v6 =>
 (aI S .int v6 4 x.2).bind fun v7 =>
 (some ((x.1.toInt64 * x.1.toInt64) * v7.toInt64)).bind fun y8 =>
 (gR S 11 a0 3).bind fun v9 =>
 (gL S 3 v9 4 x.2).bind fun v10 =>
 (gR S 11 a0 3).bind fun v11 =>
 (gR S 3 v11 3).bind fun v12 =>
 (aL S v12 a1 x.2).bind fun v13 =>
 (if (y8 * v10) < v13 then
 k28 (x.1 + 1, x.2)
 else
 some (x.1, x.2)))
set_option maxRecDepth 100000 in
set_option maxHeartbeats 4000000 in
theorem t_X11_mat_28 {γ : GE} {p : Program} {l : Launch} {e : Env} {s : State} {m : MethodId} {args : Array Value} {below : List Frame} {meth : Method} {c : Code} {S : SH} {X : (Int32 × Mem)} (F : FX γ p s m args meth c cX11_mat RX11 5) (hr : meth.sig.returnType = (some .int)) (a0 : Nat) (a1 : Int32) (k28 : (Int32 × Mem) → Option (Int32 × Mem)) (hk28 : ∀ (x28_2 : Int32) (ν : Mem), k28 (x28_2, ν) = some X → JJ γ p l e rm_X11_mat s m args below meth c 5 0 0 (QI below γ S X args s 0 0) S ν 28 [(0, .ref (gb γ + a0)), (1, .int a1), (2, .int x28_2)] []) (x : (Int32 × Mem)) (h : l_X11_mat_28 S a0 a1 k28 x = some X) : JJ γ p l e rm_X11_mat s m args below meth c 5 0 0 (QI below γ S X args s 0 0) S x.2 28 [(0, .ref (gb γ + a0)), (1, .int a1), (2, .int x.1)] [] := by
  unfold l_X11_mat_28 at h
  refine j_iload_n F 2 dX11_mat_28 rfl ?_
  refine j_bipush F 60 dX11_mat_29 (by decide) ?_
  refine j_icmpgt F 81 dX11_mat_31 (by decide) h (fun _ h => ?_) (fun _ h => ?_)
  · refine j_bipush F (-5) dX11_mat_81 (by decide) ?_
    exact j_iret F hr dX11_mat_83 h
  · refine j_iload_n F 2 dX11_mat_34 rfl ?_
    refine j_i2l F dX11_mat_35 ?_
    refine j_iload_n F 2 dX11_mat_36 rfl ?_
    refine j_i2l F dX11_mat_37 ?_
    refine j_lmul F dX11_mat_38 ?_
    refine j_aload_n F 0 dX11_mat_39 rfl ?_
    refine j_gR F fl_RX11_12 rfl dX11_mat_40 h (fun v5 h => ?_)
    refine j_gR F fl_RX11_136 rfl dX11_mat_43 h (fun v6 h => ?_)
    refine j_iconst F 4 dX11_mat_46 (by decide) ?_
    refine j_iald F dX11_mat_47 h (fun v7 h => ?_)
    refine j_i2l F dX11_mat_48 ?_
    refine j_lmul F dX11_mat_49 ?_
    refine j_nmL h (fun y8 h => ?_)
    refine j_lstore_n F [(3, .long y8), (0, .ref (gb γ + a0)), (1, .int a1), (2, .int x.1)] dX11_mat_50 rfl (by decide) rfl ?_
    refine j_lload_n F 0 dX11_mat_51 rfl ?_
    refine j_aload_n F 1 dX11_mat_52 rfl ?_
    refine j_gR F fl_RX11_27 rfl dX11_mat_53 h (fun v9 h => ?_)
    refine j_gL F fl_RX11_224.l rfl dX11_mat_56 h (fun v10 h => ?_)
    refine j_lmul F dX11_mat_59 ?_
    refine j_aload_n F 1 dX11_mat_60 rfl ?_
    refine j_gR F fl_RX11_27 rfl dX11_mat_61 h (fun v11 h => ?_)
    refine j_gR F fl_RX11_220 rfl dX11_mat_64 h (fun v12 h => ?_)
    refine j_iload_n F 2 dX11_mat_67 rfl ?_
    refine j_lald F dX11_mat_68 h (fun v13 h => ?_)
    refine j_lcmplt F 75 dX11_mat_69 dX11_mat_70 (by decide) h (fun _ h => ?_) (fun _ h => ?_)
    · refine j_iinc F 1 3 [(2, .int (x.1 + 1)), (3, .long y8), (0, .ref (gb γ + a0)), (1, .int a1)] dX11_mat_75 rfl (by decide) (by decide) rfl ?_
      refine j_goto F 28 dX11_mat_78 (by decide) ?_
      refine j_lv [(0, .ref (gb γ + a0)), (1, .int a1), (2, .int (x.1 + 1))] [2, 3, 0] rfl ?_
      exact hk28 _ _ h
    · refine j_iload_n F 3 dX11_mat_73 rfl ?_
      exact j_iret F hr dX11_mat_74 h
theorem s_X11_mat_28 {γ : GE} {p : Program} {l : Launch} {e : Env} {s : State} {m : MethodId} {args : Array Value} {below : List Frame} {meth : Method} {c : Code} {S : SH} {X : (Int32 × Mem)} (F : FX γ p s m args meth c cX11_mat RX11 5) (hr : meth.sig.returnType = (some .int)) (a0 : Nat) (a1 : Int32) (x28_2 : Int32) (ν : Mem) (h : lpN (l_X11_mat_28 S a0 a1) fu (x28_2, ν) = some X) : JJ γ p l e rm_X11_mat s m args below meth c 5 0 0 (QI below γ S X args s 0 0) S ν 28 [(0, .ref (gb γ + a0)), (1, .int a1), (2, .int x28_2)] [] :=
 lpN_sound (fun x => JJ γ p l e rm_X11_mat s m args below meth c 5 0 0 (QI below γ S X args s 0 0) S x.2 28 [(0, .ref (gb γ + a0)), (1, .int a1), (2, .int x.1)] []) (fun k28 hk28 x h => t_X11_mat_28 F hr a0 a1 k28 (fun x28_2 ν h => hk28 (x28_2, ν) h) x h) fu (x28_2, ν) h
def f_X11_mat (S : SH) (a0 : Nat) (a1 : Int32) (μ : Mem) : Option (Int32 × Mem) :=
  if isO S 11 a0 = true then
  (f_X11_isPad S a1 μ).bind fun q1 =>
  (if q1.1 = 0 then
  some ((-1), q1.2)
  else
  (gR S 11 a0 3).bind fun v2 =>
  (gR S 11 a0 0).bind fun v3 =>
  (f_X3_finds S v2 v3 q1.2).bind fun q4 =>
  (if q4.1 = 0 then
  some ((-3), q4.2)
  else
  lpN (l_X11_mat_28 S  a0 a1) fu (1, q4.2)))
  else none
set_option maxRecDepth 100000 in
set_option maxHeartbeats 4000000 in
theorem c_X11_mat {l : Launch} {γ : GE} {S : SH} {a0 : Nat} {a1 : Int32} {μ : Mem} {X : (Int32 × Mem)} (h : f_X11_mat S a0 a1 μ = some X) : isO S 11 a0 = true ∧ Ct l γ yX11_mat cX11_mat 5 (some .int) rm_X11_mat [.ref (gb γ + a0), .int a1] S μ S X.2 (some (.int X.1)) := by
  unfold f_X11_mat at h
  obtain ⟨h0, h⟩ := if_some h
  refine ⟨h0, ?_⟩
  have hJ : ∀ (p : Program) (e : Env) (s : State) (m : MethodId) (args : Array Value) (below : List Frame) (meth : Method) (c : Code), FX γ p s m args meth c cX11_mat RX11 5 → meth.sig.returnType = (some .int) → JJ γ p l e rm_X11_mat s m args below meth c 5 0 0 (QI below γ S X args s 0 0) S μ 0 [(0, .ref (gb γ + a0)), (1, .int a1)] [] := by
    intro p e s m args below meth c F hr
    refine j_iload_n F 1 dX11_mat_0 rfl ?_
    refine j_cSI F mi_X11_isPad w_461 (rest := []) h (fun _ g => c_X11_isPad g) rfl rfl (Nat.le_of_ble_eq_true rfl) ⟨Nat.le_of_ble_eq_true rfl, Nat.le_of_ble_eq_true rfl⟩ ⟨Nat.le_of_ble_eq_true rfl, Nat.le_of_ble_eq_true rfl⟩ dX11_mat_1 (fun q1 h => ?_)
    refine j_ifne F 9 dX11_mat_4 (by decide) h (fun _ h => ?_) (fun _ h => ?_)
    · refine j_aload_n F 0 dX11_mat_9 rfl ?_
      refine j_gR F fl_RX11_27 rfl dX11_mat_10 h (fun v2 h => ?_)
      refine j_aload_n F 0 dX11_mat_13 rfl ?_
      refine j_gR F fl_RX11_12 rfl dX11_mat_14 h (fun v3 h => ?_)
      refine j_cVI F mi_X3_finds w_620 (rest := []) h (fun _ g => c_X3_finds g) rfl rfl (Nat.le_of_ble_eq_true rfl) ⟨Nat.le_of_ble_eq_true rfl, Nat.le_of_ble_eq_true rfl⟩ ⟨Nat.le_of_ble_eq_true rfl, Nat.le_of_ble_eq_true rfl⟩ dX11_mat_17 (fun q4 h => ?_)
      refine j_ifne F 26 dX11_mat_20 (by decide) h (fun _ h => ?_) (fun _ h => ?_)
      · refine j_iconst F 1 dX11_mat_26 (by decide) ?_
        refine j_istore_n F [(2, .int 1), (0, .ref (gb γ + a0)), (1, .int a1)] dX11_mat_27 rfl (by decide) rfl ?_
        refine j_lv [(0, .ref (gb γ + a0)), (1, .int a1), (2, .int 1)] [1, 2, 0] rfl ?_
        exact s_X11_mat_28 F hr _ _ _ _ h
      · refine j_bipush F (-3) dX11_mat_23 (by decide) ?_
        exact j_iret F hr dX11_mat_25 h
    · refine j_iconst F (-1) dX11_mat_7 (by decide) ?_
      exact j_iret F hr dX11_mat_8 h
  exact ct_of (by decide +kernel) (Nat.le_of_ble_eq_true rfl) (fun p e s m args below meth c F hr _ => hJ p e s m args below meth c F hr)
def rm_X11_why : Room := { frames := 4, cells := 0, slots := 0, locals := 91 }
theorem dX11_why_0 : decode cX11_why 0 = .ok (.aload_n 0, 1) := by decide +kernel
theorem dX11_why_1 : decode cX11_why 1 = .ok (.getfield 27, 3) := by decide +kernel
theorem dX11_why_4 : decode cX11_why 4 = .ok (.aload_n 0, 1) := by decide +kernel
theorem dX11_why_5 : decode cX11_why 5 = .ok (.getfield 12, 3) := by decide +kernel
theorem dX11_why_8 : decode cX11_why 8 = .ok (.invokevirtual 230, 3) := by decide +kernel
theorem dX11_why_11 : decode cX11_why 11 = .ok (.ireturn, 1) := by decide +kernel
def f_X11_why (S : SH) (a0 : Nat) (μ : Mem) : Option (Int32 × Mem) :=
  if isO S 11 a0 = true then
  (gR S 11 a0 3).bind fun v1 =>
  (gR S 11 a0 0).bind fun v2 =>
  (f_X3_verdict S v1 v2 μ).bind fun q3 =>
  some (q3.1, q3.2)
  else none
set_option maxRecDepth 100000 in
set_option maxHeartbeats 4000000 in
theorem c_X11_why {l : Launch} {γ : GE} {S : SH} {a0 : Nat} {μ : Mem} {X : (Int32 × Mem)} (h : f_X11_why S a0 μ = some X) : isO S 11 a0 = true ∧ Ct l γ yX11_why cX11_why 1 (some .int) rm_X11_why [.ref (gb γ + a0)] S μ S X.2 (some (.int X.1)) := by
  unfold f_X11_why at h
  obtain ⟨h0, h⟩ := if_some h
  refine ⟨h0, ?_⟩
  have hJ : ∀ (p : Program) (e : Env) (s : State) (m : MethodId) (args : Array Value) (below : List Frame) (meth : Method) (c : Code), FX γ p s m args meth c cX11_why RX11 1 → meth.sig.returnType = (some .int) → JJ γ p l e rm_X11_why s m args below meth c 1 0 0 (QI below γ S X args s 0 0) S μ 0 [(0, .ref (gb γ + a0))] [] := by
    intro p e s m args below meth c F hr
    refine j_aload_n F 0 dX11_why_0 rfl ?_
    refine j_gR F fl_RX11_27 rfl dX11_why_1 h (fun v1 h => ?_)
    refine j_aload_n F 0 dX11_why_4 rfl ?_
    refine j_gR F fl_RX11_12 rfl dX11_why_5 h (fun v2 h => ?_)
    refine j_cVI F mi_X3_verdict w_668 (rest := []) h (fun _ g => c_X3_verdict g) rfl rfl (Nat.le_of_ble_eq_true rfl) ⟨Nat.le_of_ble_eq_true rfl, Nat.le_of_ble_eq_true rfl⟩ ⟨Nat.le_of_ble_eq_true rfl, Nat.le_of_ble_eq_true rfl⟩ dX11_why_8 (fun q3 h => ?_)
    exact j_iret F hr dX11_why_11 h
  exact ct_of (by decide +kernel) (Nat.le_of_ble_eq_true rfl) (fun p e s m args below meth c F hr _ => hJ p e s m args below meth c F hr)
