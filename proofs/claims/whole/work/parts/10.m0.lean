def rm_X0_dropEldest : Room := { frames := 1, cells := 0, slots := 0, locals := 60 }
theorem dX0_dropEldest_0 : decode cX0_dropEldest 0 = .ok (.aload_n 0, 1) := by decide +kernel
theorem dX0_dropEldest_1 : decode cX0_dropEldest 1 = .ok (.dup, 1) := by decide +kernel
theorem dX0_dropEldest_2 : decode cX0_dropEldest 2 = .ok (.getfield 21, 3) := by decide +kernel
theorem dX0_dropEldest_5 : decode cX0_dropEldest 5 = .ok (.iconst 1, 1) := by decide +kernel
theorem dX0_dropEldest_6 : decode cX0_dropEldest 6 = .ok (.isub, 1) := by decide +kernel
theorem dX0_dropEldest_7 : decode cX0_dropEldest 7 = .ok (.putfield 21, 3) := by decide +kernel
theorem dX0_dropEldest_10 : decode cX0_dropEldest 10 = .ok (.aload_n 0, 1) := by decide +kernel
theorem dX0_dropEldest_11 : decode cX0_dropEldest 11 = .ok (.getfield 9, 3) := by decide +kernel
theorem dX0_dropEldest_14 : decode cX0_dropEldest 14 = .ok (.iconst 1, 1) := by decide +kernel
theorem dX0_dropEldest_15 : decode cX0_dropEldest 15 = .ok (.aload_n 0, 1) := by decide +kernel
theorem dX0_dropEldest_16 : decode cX0_dropEldest 16 = .ok (.getfield 9, 3) := by decide +kernel
theorem dX0_dropEldest_19 : decode cX0_dropEldest 19 = .ok (.iconst 0, 1) := by decide +kernel
theorem dX0_dropEldest_20 : decode cX0_dropEldest 20 = .ok (.aload_n 0, 1) := by decide +kernel
theorem dX0_dropEldest_21 : decode cX0_dropEldest 21 = .ok (.getfield 21, 3) := by decide +kernel
theorem dX0_dropEldest_24 : decode cX0_dropEldest 24 = .ok (.invokestatic 28, 3) := by decide +kernel
theorem dX0_dropEldest_27 : decode cX0_dropEldest 27 = .ok (.aload_n 0, 1) := by decide +kernel
theorem dX0_dropEldest_28 : decode cX0_dropEldest 28 = .ok (.getfield 15, 3) := by decide +kernel
theorem dX0_dropEldest_31 : decode cX0_dropEldest 31 = .ok (.iconst 1, 1) := by decide +kernel
theorem dX0_dropEldest_32 : decode cX0_dropEldest 32 = .ok (.aload_n 0, 1) := by decide +kernel
theorem dX0_dropEldest_33 : decode cX0_dropEldest 33 = .ok (.getfield 15, 3) := by decide +kernel
theorem dX0_dropEldest_36 : decode cX0_dropEldest 36 = .ok (.iconst 0, 1) := by decide +kernel
theorem dX0_dropEldest_37 : decode cX0_dropEldest 37 = .ok (.aload_n 0, 1) := by decide +kernel
theorem dX0_dropEldest_38 : decode cX0_dropEldest 38 = .ok (.getfield 21, 3) := by decide +kernel
theorem dX0_dropEldest_41 : decode cX0_dropEldest 41 = .ok (.invokestatic 28, 3) := by decide +kernel
theorem dX0_dropEldest_44 : decode cX0_dropEldest 44 = .ok (.aload_n 0, 1) := by decide +kernel
theorem dX0_dropEldest_45 : decode cX0_dropEldest 45 = .ok (.getfield 18, 3) := by decide +kernel
theorem dX0_dropEldest_48 : decode cX0_dropEldest 48 = .ok (.iconst 1, 1) := by decide +kernel
theorem dX0_dropEldest_49 : decode cX0_dropEldest 49 = .ok (.aload_n 0, 1) := by decide +kernel
theorem dX0_dropEldest_50 : decode cX0_dropEldest 50 = .ok (.getfield 18, 3) := by decide +kernel
theorem dX0_dropEldest_53 : decode cX0_dropEldest 53 = .ok (.iconst 0, 1) := by decide +kernel
theorem dX0_dropEldest_54 : decode cX0_dropEldest 54 = .ok (.aload_n 0, 1) := by decide +kernel
theorem dX0_dropEldest_55 : decode cX0_dropEldest 55 = .ok (.getfield 21, 3) := by decide +kernel
theorem dX0_dropEldest_58 : decode cX0_dropEldest 58 = .ok (.invokestatic 28, 3) := by decide +kernel
theorem dX0_dropEldest_61 : decode cX0_dropEldest 61 = .ok (.return_, 1) := by decide +kernel
def f_X0_dropEldest (S : SH) (a0 : Nat) (μ : Mem) : Option (Unit × Mem) :=
  if isO S 0 a0 = true then
  (gI S 0 a0 3 μ).bind fun v1 =>
  (pI S 0 a0 3 (v1 - 1) μ).bind fun ν2 =>
  (gR S 0 a0 0).bind fun v3 =>
  (gR S 0 a0 0).bind fun v4 =>
  (gI S 0 a0 3 ν2).bind fun v5 =>
  (cpI S .int v3 1 v4 0 v5 ν2).bind fun ν6 =>
  (gR S 0 a0 1).bind fun v7 =>
  (gR S 0 a0 1).bind fun v8 =>
  (gI S 0 a0 3 ν6).bind fun v9 =>
  (cpI S .int v7 1 v8 0 v9 ν6).bind fun ν10 =>
  (gR S 0 a0 2).bind fun v11 =>
  (gR S 0 a0 2).bind fun v12 =>
  (gI S 0 a0 3 ν10).bind fun v13 =>
  (cpI S .int v11 1 v12 0 v13 ν10).bind fun ν14 =>
  some ((), ν14)
  else none
set_option maxRecDepth 100000 in
set_option maxHeartbeats 4000000 in
theorem c_X0_dropEldest {l : Launch} {γ : GE} {S : SH} {a0 : Nat} {μ : Mem} {X : (Unit × Mem)} (h : f_X0_dropEldest S a0 μ = some X) : isO S 0 a0 = true ∧ Ct l γ yX0_dropEldest cX0_dropEldest 1 (none) rm_X0_dropEldest [.ref (gb γ + a0)] S μ S X.2 none := by
  unfold f_X0_dropEldest at h
  obtain ⟨h0, h⟩ := if_some h
  refine ⟨h0, ?_⟩
  have hJ : ∀ (p : Program) (e : Env) (s : State) (m : MethodId) (args : Array Value) (below : List Frame) (meth : Method) (c : Code), FX γ p s m args meth c cX0_dropEldest RX0 1 → meth.sig.returnType = (none) → JJ γ p l e rm_X0_dropEldest s m args below meth c 1 0 0 (QV below γ S X args s 0 0) S μ 0 [(0, .ref (gb γ + a0))] [] := by
    intro p e s m args below meth c F hr
    refine j_aload_n F 0 dX0_dropEldest_0 rfl ?_
    refine j_dup F dX0_dropEldest_1 rfl ?_
    refine j_gI F fl_RX0_21.l rfl dX0_dropEldest_2 h (fun v1 h => ?_)
    refine j_iconst F 1 dX0_dropEldest_5 (by decide) ?_
    refine j_isub F dX0_dropEldest_6 ?_
    refine j_pI F fl_RX0_21 rfl dX0_dropEldest_7 h (fun ν2 h => ?_)
    refine j_aload_n F 0 dX0_dropEldest_10 rfl ?_
    refine j_gR F fl_RX0_9 rfl dX0_dropEldest_11 h (fun v3 h => ?_)
    refine j_iconst F 1 dX0_dropEldest_14 (by decide) ?_
    refine j_aload_n F 0 dX0_dropEldest_15 rfl ?_
    refine j_gR F fl_RX0_9 rfl dX0_dropEldest_16 h (fun v4 h => ?_)
    refine j_iconst F 0 dX0_dropEldest_19 (by decide) ?_
    refine j_aload_n F 0 dX0_dropEldest_20 rfl ?_
    refine j_gI F fl_RX0_21.l rfl dX0_dropEldest_21 h (fun v5 h => ?_)
    refine j_cpI F w_915 ⟨Nat.le_of_ble_eq_true rfl, Nat.le_of_ble_eq_true rfl⟩ dX0_dropEldest_24 h (fun ν6 h => ?_)
    refine j_aload_n F 0 dX0_dropEldest_27 rfl ?_
    refine j_gR F fl_RX0_15 rfl dX0_dropEldest_28 h (fun v7 h => ?_)
    refine j_iconst F 1 dX0_dropEldest_31 (by decide) ?_
    refine j_aload_n F 0 dX0_dropEldest_32 rfl ?_
    refine j_gR F fl_RX0_15 rfl dX0_dropEldest_33 h (fun v8 h => ?_)
    refine j_iconst F 0 dX0_dropEldest_36 (by decide) ?_
    refine j_aload_n F 0 dX0_dropEldest_37 rfl ?_
    refine j_gI F fl_RX0_21.l rfl dX0_dropEldest_38 h (fun v9 h => ?_)
    refine j_cpI F w_915 ⟨Nat.le_of_ble_eq_true rfl, Nat.le_of_ble_eq_true rfl⟩ dX0_dropEldest_41 h (fun ν10 h => ?_)
    refine j_aload_n F 0 dX0_dropEldest_44 rfl ?_
    refine j_gR F fl_RX0_18 rfl dX0_dropEldest_45 h (fun v11 h => ?_)
    refine j_iconst F 1 dX0_dropEldest_48 (by decide) ?_
    refine j_aload_n F 0 dX0_dropEldest_49 rfl ?_
    refine j_gR F fl_RX0_18 rfl dX0_dropEldest_50 h (fun v12 h => ?_)
    refine j_iconst F 0 dX0_dropEldest_53 (by decide) ?_
    refine j_aload_n F 0 dX0_dropEldest_54 rfl ?_
    refine j_gI F fl_RX0_21.l rfl dX0_dropEldest_55 h (fun v13 h => ?_)
    refine j_cpI F w_915 ⟨Nat.le_of_ble_eq_true rfl, Nat.le_of_ble_eq_true rfl⟩ dX0_dropEldest_58 h (fun ν14 h => ?_)
    exact j_vret F hr dX0_dropEldest_61 h
  exact ct_of (by decide +kernel) (Nat.le_of_ble_eq_true rfl) (fun p e s m args below meth c F hr _ => hJ p e s m args below meth c F hr)
def rm_X0_keep : Room := { frames := 2, cells := 0, slots := 0, locals := 80 }
theorem dX0_keep_0 : decode cX0_keep 0 = .ok (.aload_n 0, 1) := by decide +kernel
theorem dX0_keep_1 : decode cX0_keep 1 = .ok (.getfield 21, 3) := by decide +kernel
theorem dX0_keep_4 : decode cX0_keep 4 = .ok (.bipush 8, 2) := by decide +kernel
theorem dX0_keep_6 : decode cX0_keep 6 = .ok (.if_icmp .ne 7, 3) := by decide +kernel
theorem dX0_keep_9 : decode cX0_keep 9 = .ok (.aload_n 0, 1) := by decide +kernel
theorem dX0_keep_10 : decode cX0_keep 10 = .ok (.invokevirtual 25, 3) := by decide +kernel
theorem dX0_keep_13 : decode cX0_keep 13 = .ok (.aload_n 0, 1) := by decide +kernel
theorem dX0_keep_14 : decode cX0_keep 14 = .ok (.getfield 9, 3) := by decide +kernel
theorem dX0_keep_17 : decode cX0_keep 17 = .ok (.aload_n 0, 1) := by decide +kernel
theorem dX0_keep_18 : decode cX0_keep 18 = .ok (.getfield 21, 3) := by decide +kernel
theorem dX0_keep_21 : decode cX0_keep 21 = .ok (.iload_n 1, 1) := by decide +kernel
theorem dX0_keep_22 : decode cX0_keep 22 = .ok (.iastore, 1) := by decide +kernel
theorem dX0_keep_23 : decode cX0_keep 23 = .ok (.aload_n 0, 1) := by decide +kernel
theorem dX0_keep_24 : decode cX0_keep 24 = .ok (.getfield 15, 3) := by decide +kernel
theorem dX0_keep_27 : decode cX0_keep 27 = .ok (.aload_n 0, 1) := by decide +kernel
theorem dX0_keep_28 : decode cX0_keep 28 = .ok (.getfield 21, 3) := by decide +kernel
theorem dX0_keep_31 : decode cX0_keep 31 = .ok (.iload_n 2, 1) := by decide +kernel
theorem dX0_keep_32 : decode cX0_keep 32 = .ok (.iastore, 1) := by decide +kernel
theorem dX0_keep_33 : decode cX0_keep 33 = .ok (.aload_n 0, 1) := by decide +kernel
theorem dX0_keep_34 : decode cX0_keep 34 = .ok (.getfield 18, 3) := by decide +kernel
theorem dX0_keep_37 : decode cX0_keep 37 = .ok (.aload_n 0, 1) := by decide +kernel
theorem dX0_keep_38 : decode cX0_keep 38 = .ok (.getfield 21, 3) := by decide +kernel
theorem dX0_keep_41 : decode cX0_keep 41 = .ok (.iload_n 3, 1) := by decide +kernel
theorem dX0_keep_42 : decode cX0_keep 42 = .ok (.iastore, 1) := by decide +kernel
theorem dX0_keep_43 : decode cX0_keep 43 = .ok (.aload_n 0, 1) := by decide +kernel
theorem dX0_keep_44 : decode cX0_keep 44 = .ok (.dup, 1) := by decide +kernel
theorem dX0_keep_45 : decode cX0_keep 45 = .ok (.getfield 21, 3) := by decide +kernel
theorem dX0_keep_48 : decode cX0_keep 48 = .ok (.iconst 1, 1) := by decide +kernel
theorem dX0_keep_49 : decode cX0_keep 49 = .ok (.iadd, 1) := by decide +kernel
theorem dX0_keep_50 : decode cX0_keep 50 = .ok (.putfield 21, 3) := by decide +kernel
theorem dX0_keep_53 : decode cX0_keep 53 = .ok (.aload_n 0, 1) := by decide +kernel
theorem dX0_keep_54 : decode cX0_keep 54 = .ok (.getfield 21, 3) := by decide +kernel
theorem dX0_keep_57 : decode cX0_keep 57 = .ok (.ireturn, 1) := by decide +kernel
def b_X0_keep_13 (S : SH) (a0 : Nat) (a1 : Int32) (a2 : Int32) (a3 : Int32) (μ : Mem) : Option (Int32 × Mem) :=
 (gR S 0 a0 0).bind fun v2 =>
 (gI S 0 a0 3 μ).bind fun v3 =>
 (sI S v2 v3 a1 μ).bind fun ν4 =>
 (gR S 0 a0 1).bind fun v5 =>
 (gI S 0 a0 3 ν4).bind fun v6 =>
 (sI S v5 v6 a2 ν4).bind fun ν7 =>
 (gR S 0 a0 2).bind fun v8 =>
 (gI S 0 a0 3 ν7).bind fun v9 =>
 (sI S v8 v9 a3 ν7).bind fun ν10 =>
 (gI S 0 a0 3 ν10).bind fun v11 =>
 (pI S 0 a0 3 (v11 + 1) ν10).bind fun ν12 =>
 (gI S 0 a0 3 ν12).bind fun v13 =>
 some (v13, ν12)
set_option maxRecDepth 100000 in
set_option maxHeartbeats 4000000 in
theorem s_X0_keep_13 {γ : GE} {p : Program} {l : Launch} {e : Env} {s : State} {m : MethodId} {args : Array Value} {below : List Frame} {meth : Method} {c : Code} {S : SH} {X : (Int32 × Mem)} (F : FX γ p s m args meth c cX0_keep RX0 4) (hr : meth.sig.returnType = (some .int)) (a0 : Nat) (a1 : Int32) (a2 : Int32) (a3 : Int32)    (μ : Mem) (h : b_X0_keep_13 S a0 a1 a2 a3 μ = some X) : JJ γ p l e rm_X0_keep s m args below meth c 4 0 0 (QI below γ S X args s 0 0) S μ 13 [(0, .ref (gb γ + a0)), (1, .int a1), (2, .int a2), (3, .int a3)] [] := by
  unfold b_X0_keep_13 at h
  refine j_aload_n F 0 dX0_keep_13 rfl ?_
  refine j_gR F fl_RX0_9 rfl dX0_keep_14 h (fun v2 h => ?_)
  refine j_aload_n F 0 dX0_keep_17 rfl ?_
  refine j_gI F fl_RX0_21.l rfl dX0_keep_18 h (fun v3 h => ?_)
  refine j_iload_n F 1 dX0_keep_21 rfl ?_
  refine j_iast F dX0_keep_22 h (fun ν4 h => ?_)
  refine j_aload_n F 0 dX0_keep_23 rfl ?_
  refine j_gR F fl_RX0_15 rfl dX0_keep_24 h (fun v5 h => ?_)
  refine j_aload_n F 0 dX0_keep_27 rfl ?_
  refine j_gI F fl_RX0_21.l rfl dX0_keep_28 h (fun v6 h => ?_)
  refine j_iload_n F 2 dX0_keep_31 rfl ?_
  refine j_iast F dX0_keep_32 h (fun ν7 h => ?_)
  refine j_aload_n F 0 dX0_keep_33 rfl ?_
  refine j_gR F fl_RX0_18 rfl dX0_keep_34 h (fun v8 h => ?_)
  refine j_aload_n F 0 dX0_keep_37 rfl ?_
  refine j_gI F fl_RX0_21.l rfl dX0_keep_38 h (fun v9 h => ?_)
  refine j_iload_n F 3 dX0_keep_41 rfl ?_
  refine j_iast F dX0_keep_42 h (fun ν10 h => ?_)
  refine j_aload_n F 0 dX0_keep_43 rfl ?_
  refine j_dup F dX0_keep_44 rfl ?_
  refine j_gI F fl_RX0_21.l rfl dX0_keep_45 h (fun v11 h => ?_)
  refine j_iconst F 1 dX0_keep_48 (by decide) ?_
  refine j_iadd F dX0_keep_49 ?_
  refine j_pI F fl_RX0_21 rfl dX0_keep_50 h (fun ν12 h => ?_)
  refine j_aload_n F 0 dX0_keep_53 rfl ?_
  refine j_gI F fl_RX0_21.l rfl dX0_keep_54 h (fun v13 h => ?_)
  exact j_iret F hr dX0_keep_57 h
def f_X0_keep (S : SH) (a0 : Nat) (a1 : Int32) (a2 : Int32) (a3 : Int32) (μ : Mem) : Option (Int32 × Mem) :=
  if isO S 0 a0 = true then
  (gI S 0 a0 3 μ).bind fun v1 =>
  (if v1 = 8 then
  (f_X0_dropEldest S a0 μ).bind fun q14 =>
  b_X0_keep_13 S a0 a1 a2 a3 q14.2
  else
  b_X0_keep_13 S a0 a1 a2 a3 μ)
  else none
set_option maxRecDepth 100000 in
set_option maxHeartbeats 4000000 in
theorem c_X0_keep {l : Launch} {γ : GE} {S : SH} {a0 : Nat} {a1 : Int32} {a2 : Int32} {a3 : Int32} {μ : Mem} {X : (Int32 × Mem)} (h : f_X0_keep S a0 a1 a2 a3 μ = some X) : isO S 0 a0 = true ∧ Ct l γ yX0_keep cX0_keep 4 (some .int) rm_X0_keep [.ref (gb γ + a0), .int a1, .int a2, .int a3] S μ S X.2 (some (.int X.1)) := by
  unfold f_X0_keep at h
  obtain ⟨h0, h⟩ := if_some h
  refine ⟨h0, ?_⟩
  have hJ : ∀ (p : Program) (e : Env) (s : State) (m : MethodId) (args : Array Value) (below : List Frame) (meth : Method) (c : Code), FX γ p s m args meth c cX0_keep RX0 4 → meth.sig.returnType = (some .int) → JJ γ p l e rm_X0_keep s m args below meth c 4 0 0 (QI below γ S X args s 0 0) S μ 0 [(0, .ref (gb γ + a0)), (1, .int a1), (2, .int a2), (3, .int a3)] [] := by
    intro p e s m args below meth c F hr
    refine j_aload_n F 0 dX0_keep_0 rfl ?_
    refine j_gI F fl_RX0_21.l rfl dX0_keep_1 h (fun v1 h => ?_)
    refine j_bipush F 8 dX0_keep_4 (by decide) ?_
    refine j_icmpne F 13 dX0_keep_6 (by decide) h (fun _ h => ?_) (fun _ h => ?_)
    · exact s_X0_keep_13 F hr _ _ _ _ _ h
    · refine j_aload_n F 0 dX0_keep_9 rfl ?_
      refine j_cVV F mi_X0_dropEldest w_911 (rest := []) h (fun _ g => c_X0_dropEldest g) rfl rfl (Nat.le_of_ble_eq_true rfl) ⟨Nat.le_of_ble_eq_true rfl, Nat.le_of_ble_eq_true rfl⟩ ⟨Nat.le_of_ble_eq_true rfl, Nat.le_of_ble_eq_true rfl⟩ dX0_keep_10 (fun q14 h => ?_)
      exact s_X0_keep_13 F hr _ _ _ _ _ h
  exact ct_of (by decide +kernel) (Nat.le_of_ble_eq_true rfl) (fun p e s m args below meth c F hr _ => hJ p e s m args below meth c F hr)
def rm_X0_withMost : Room := { frames := 0, cells := 0, slots := 0, locals := 0 }
theorem dX0_withMost_0 : decode cX0_withMost 0 = .ok (.bipush (-5), 2) := by decide +kernel
theorem dX0_withMost_2 : decode cX0_withMost 2 = .ok (.istore_n 1, 1) := by decide +kernel
theorem dX0_withMost_3 : decode cX0_withMost 3 = .ok (.iconst (-1), 1) := by decide +kernel
theorem dX0_withMost_4 : decode cX0_withMost 4 = .ok (.istore_n 2, 1) := by decide +kernel
theorem dX0_withMost_5 : decode cX0_withMost 5 = .ok (.iconst 0, 1) := by decide +kernel
theorem dX0_withMost_6 : decode cX0_withMost 6 = .ok (.istore_n 3, 1) := by decide +kernel
theorem dX0_withMost_7 : decode cX0_withMost 7 = .ok (.iload_n 3, 1) := by decide +kernel
theorem dX0_withMost_8 : decode cX0_withMost 8 = .ok (.aload_n 0, 1) := by decide +kernel
theorem dX0_withMost_9 : decode cX0_withMost 9 = .ok (.getfield 21, 3) := by decide +kernel
theorem dX0_withMost_12 : decode cX0_withMost 12 = .ok (.if_icmp .ge 42, 3) := by decide +kernel
theorem dX0_withMost_15 : decode cX0_withMost 15 = .ok (.aload_n 0, 1) := by decide +kernel
theorem dX0_withMost_16 : decode cX0_withMost 16 = .ok (.getfield 9, 3) := by decide +kernel
theorem dX0_withMost_19 : decode cX0_withMost 19 = .ok (.iload_n 3, 1) := by decide +kernel
theorem dX0_withMost_20 : decode cX0_withMost 20 = .ok (.iaload, 1) := by decide +kernel
theorem dX0_withMost_21 : decode cX0_withMost 21 = .ok (.aload_n 0, 1) := by decide +kernel
theorem dX0_withMost_22 : decode cX0_withMost 22 = .ok (.getfield 18, 3) := by decide +kernel
theorem dX0_withMost_25 : decode cX0_withMost 25 = .ok (.iload_n 3, 1) := by decide +kernel
theorem dX0_withMost_26 : decode cX0_withMost 26 = .ok (.iaload, 1) := by decide +kernel
theorem dX0_withMost_27 : decode cX0_withMost 27 = .ok (.imul, 1) := by decide +kernel
theorem dX0_withMost_28 : decode cX0_withMost 28 = .ok (.iload_n 2, 1) := by decide +kernel
theorem dX0_withMost_29 : decode cX0_withMost 29 = .ok (.if_icmp .le 19, 3) := by decide +kernel
theorem dX0_withMost_32 : decode cX0_withMost 32 = .ok (.aload_n 0, 1) := by decide +kernel
theorem dX0_withMost_33 : decode cX0_withMost 33 = .ok (.getfield 9, 3) := by decide +kernel
theorem dX0_withMost_36 : decode cX0_withMost 36 = .ok (.iload_n 3, 1) := by decide +kernel
theorem dX0_withMost_37 : decode cX0_withMost 37 = .ok (.iaload, 1) := by decide +kernel
theorem dX0_withMost_38 : decode cX0_withMost 38 = .ok (.aload_n 0, 1) := by decide +kernel
theorem dX0_withMost_39 : decode cX0_withMost 39 = .ok (.getfield 18, 3) := by decide +kernel
theorem dX0_withMost_42 : decode cX0_withMost 42 = .ok (.iload_n 3, 1) := by decide +kernel
theorem dX0_withMost_43 : decode cX0_withMost 43 = .ok (.iaload, 1) := by decide +kernel
theorem dX0_withMost_44 : decode cX0_withMost 44 = .ok (.imul, 1) := by decide +kernel
theorem dX0_withMost_45 : decode cX0_withMost 45 = .ok (.istore_n 2, 1) := by decide +kernel
theorem dX0_withMost_46 : decode cX0_withMost 46 = .ok (.iload_n 3, 1) := by decide +kernel
theorem dX0_withMost_47 : decode cX0_withMost 47 = .ok (.istore_n 1, 1) := by decide +kernel
theorem dX0_withMost_48 : decode cX0_withMost 48 = .ok (.iinc 3 1, 3) := by decide +kernel
theorem dX0_withMost_51 : decode cX0_withMost 51 = .ok (.goto (-44), 3) := by decide +kernel
theorem dX0_withMost_54 : decode cX0_withMost 54 = .ok (.iload_n 1, 1) := by decide +kernel
theorem dX0_withMost_55 : decode cX0_withMost 55 = .ok (.ireturn, 1) := by decide +kernel
def l_X0_withMost_7 (S : SH) (a0 : Nat) (k7 : (Int32 × Int32 × Int32 × Mem) → Option (Int32 × Mem)) (x : (Int32 × Int32 × Int32 × Mem)) : Option (Int32 × Mem) :=
 (gI S 0 a0 3 x.2.2.2).bind fun v1 =>
 (if v1 ≤ x.2.2.1 then
 some (x.1, x.2.2.2)
 else
 (gR S 0 a0 0).bind fun v2 =>
 (aI S .int v2 x.2.2.1 x.2.2.2).bind fun v3 =>
 (gR S 0 a0 2).bind fun v4 =>
 (aI S .int v4 x.2.2.1 x.2.2.2).bind fun v5 =>
 (if (v3 * v5) ≤ x.2.1 then
 k7 (x.1, x.2.1, x.2.2.1 + 1, x.2.2.2)
 else
 (gR S 0 a0 0).bind fun v6 =>
 (aI S .int v6 x.2.2.1 x.2.2.2).bind fun v7 =>
 (gR S 0 a0 2).bind fun v8 =>
 (aI S .int v8 x.2.2.1 x.2.2.2).bind fun v9 =>
 (some (v7 * v9)).bind fun y10 =>
 k7 (x.2.2.1, y10, x.2.2.1 + 1, x.2.2.2)))
set_option maxRecDepth 100000 in
set_option maxHeartbeats 4000000 in
theorem t_X0_withMost_7 {γ : GE} {p : Program} {l : Launch} {e : Env} {s : State} {m : MethodId} {args : Array Value} {below : List Frame} {meth : Method} {c : Code} {S : SH} {X : (Int32 × Mem)} (F : FX γ p s m args meth c cX0_withMost RX0 4) (hr : meth.sig.returnType = (some .int)) (a0 : Nat) (k7 : (Int32 × Int32 × Int32 × Mem) → Option (Int32 × Mem)) (hk7 : ∀ (x7_1 : Int32) (x7_2 : Int32) (x7_3 : Int32) (ν : Mem), k7 (x7_1, x7_2, x7_3, ν) = some X → JJ γ p l e rm_X0_withMost s m args below meth c 4 0 0 (QI below γ S X args s 0 0) S ν 7 [(0, .ref (gb γ + a0)), (1, .int x7_1), (2, .int x7_2), (3, .int x7_3)] []) (x : (Int32 × Int32 × Int32 × Mem)) (h : l_X0_withMost_7 S a0 k7 x = some X) : JJ γ p l e rm_X0_withMost s m args below meth c 4 0 0 (QI below γ S X args s 0 0) S x.2.2.2 7 [(0, .ref (gb γ + a0)), (1, .int x.1), (2, .int x.2.1), (3, .int x.2.2.1)] [] := by
  unfold l_X0_withMost_7 at h
  refine j_iload_n F 3 dX0_withMost_7 rfl ?_
  refine j_aload_n F 0 dX0_withMost_8 rfl ?_
  refine j_gI F fl_RX0_21.l rfl dX0_withMost_9 h (fun v1 h => ?_)
  refine j_icmpge F 54 dX0_withMost_12 (by decide) h (fun _ h => ?_) (fun _ h => ?_)
  · refine j_iload_n F 1 dX0_withMost_54 rfl ?_
    exact j_iret F hr dX0_withMost_55 h
  · refine j_aload_n F 0 dX0_withMost_15 rfl ?_
    refine j_gR F fl_RX0_9 rfl dX0_withMost_16 h (fun v2 h => ?_)
    refine j_iload_n F 3 dX0_withMost_19 rfl ?_
    refine j_iald F dX0_withMost_20 h (fun v3 h => ?_)
    refine j_aload_n F 0 dX0_withMost_21 rfl ?_
    refine j_gR F fl_RX0_18 rfl dX0_withMost_22 h (fun v4 h => ?_)
    refine j_iload_n F 3 dX0_withMost_25 rfl ?_
    refine j_iald F dX0_withMost_26 h (fun v5 h => ?_)
    refine j_imul F dX0_withMost_27 ?_
    refine j_iload_n F 2 dX0_withMost_28 rfl ?_
    refine j_icmple F 48 dX0_withMost_29 (by decide) h (fun _ h => ?_) (fun _ h => ?_)
    · refine j_iinc F 1 3 [(3, .int (x.2.2.1 + 1)), (0, .ref (gb γ + a0)), (1, .int x.1), (2, .int x.2.1)] dX0_withMost_48 rfl (by decide) (by decide) rfl ?_
      refine j_goto F 7 dX0_withMost_51 (by decide) ?_
      refine j_lv [(0, .ref (gb γ + a0)), (1, .int x.1), (2, .int x.2.1), (3, .int (x.2.2.1 + 1))] [1, 2, 3, 0] rfl ?_
      exact hk7 _ _ _ _ h
    · refine j_aload_n F 0 dX0_withMost_32 rfl ?_
      refine j_gR F fl_RX0_9 rfl dX0_withMost_33 h (fun v6 h => ?_)
      refine j_iload_n F 3 dX0_withMost_36 rfl ?_
      refine j_iald F dX0_withMost_37 h (fun v7 h => ?_)
      refine j_aload_n F 0 dX0_withMost_38 rfl ?_
      refine j_gR F fl_RX0_18 rfl dX0_withMost_39 h (fun v8 h => ?_)
      refine j_iload_n F 3 dX0_withMost_42 rfl ?_
      refine j_iald F dX0_withMost_43 h (fun v9 h => ?_)
      refine j_imul F dX0_withMost_44 ?_
      refine j_nmI h (fun y10 h => ?_)
      refine j_istore_n F [(2, .int y10), (0, .ref (gb γ + a0)), (1, .int x.1), (3, .int x.2.2.1)] dX0_withMost_45 rfl (by decide) rfl ?_
      refine j_iload_n F 3 dX0_withMost_46 rfl ?_
      refine j_istore_n F [(1, .int x.2.2.1), (2, .int y10), (0, .ref (gb γ + a0)), (3, .int x.2.2.1)] dX0_withMost_47 rfl (by decide) rfl ?_
      refine j_iinc F 1 3 [(3, .int (x.2.2.1 + 1)), (1, .int x.2.2.1), (2, .int y10), (0, .ref (gb γ + a0))] dX0_withMost_48 rfl (by decide) (by decide) rfl ?_
      refine j_goto F 7 dX0_withMost_51 (by decide) ?_
      refine j_lv [(0, .ref (gb γ + a0)), (1, .int x.2.2.1), (2, .int y10), (3, .int (x.2.2.1 + 1))] [3, 1, 2, 0] rfl ?_
      exact hk7 _ _ _ _ h
theorem s_X0_withMost_7 {γ : GE} {p : Program} {l : Launch} {e : Env} {s : State} {m : MethodId} {args : Array Value} {below : List Frame} {meth : Method} {c : Code} {S : SH} {X : (Int32 × Mem)} (F : FX γ p s m args meth c cX0_withMost RX0 4) (hr : meth.sig.returnType = (some .int)) (a0 : Nat) (x7_1 : Int32) (x7_2 : Int32) (x7_3 : Int32) (ν : Mem) (h : lpN (l_X0_withMost_7 S a0) fu (x7_1, x7_2, x7_3, ν) = some X) : JJ γ p l e rm_X0_withMost s m args below meth c 4 0 0 (QI below γ S X args s 0 0) S ν 7 [(0, .ref (gb γ + a0)), (1, .int x7_1), (2, .int x7_2), (3, .int x7_3)] [] :=
 lpN_sound (fun x => JJ γ p l e rm_X0_withMost s m args below meth c 4 0 0 (QI below γ S X args s 0 0) S x.2.2.2 7 [(0, .ref (gb γ + a0)), (1, .int x.1), (2, .int x.2.1), (3, .int x.2.2.1)] []) (fun k7 hk7 x h => t_X0_withMost_7 F hr a0 k7 (fun x7_1 x7_2 x7_3 ν h => hk7 (x7_1, x7_2, x7_3, ν) h) x h) fu (x7_1, x7_2, x7_3, ν) h
def f_X0_withMost (S : SH) (a0 : Nat) (μ : Mem) : Option (Int32 × Mem) :=
  if isO S 0 a0 = true then
  lpN (l_X0_withMost_7 S  a0) fu ((-5), (-1), 0, μ)
  else none
set_option maxRecDepth 100000 in
set_option maxHeartbeats 4000000 in
theorem c_X0_withMost {l : Launch} {γ : GE} {S : SH} {a0 : Nat} {μ : Mem} {X : (Int32 × Mem)} (h : f_X0_withMost S a0 μ = some X) : isO S 0 a0 = true ∧ Ct l γ yX0_withMost cX0_withMost 4 (some .int) rm_X0_withMost [.ref (gb γ + a0)] S μ S X.2 (some (.int X.1)) := by
  unfold f_X0_withMost at h
  obtain ⟨h0, h⟩ := if_some h
  refine ⟨h0, ?_⟩
  have hJ : ∀ (p : Program) (e : Env) (s : State) (m : MethodId) (args : Array Value) (below : List Frame) (meth : Method) (c : Code), FX γ p s m args meth c cX0_withMost RX0 4 → meth.sig.returnType = (some .int) → JJ γ p l e rm_X0_withMost s m args below meth c 4 0 0 (QI below γ S X args s 0 0) S μ 0 [(0, .ref (gb γ + a0))] [] := by
    intro p e s m args below meth c F hr
    refine j_bipush F (-5) dX0_withMost_0 (by decide) ?_
    refine j_istore_n F [(1, .int (-5)), (0, .ref (gb γ + a0))] dX0_withMost_2 rfl (by decide) rfl ?_
    refine j_iconst F (-1) dX0_withMost_3 (by decide) ?_
    refine j_istore_n F [(2, .int (-1)), (1, .int (-5)), (0, .ref (gb γ + a0))] dX0_withMost_4 rfl (by decide) rfl ?_
    refine j_iconst F 0 dX0_withMost_5 (by decide) ?_
    refine j_istore_n F [(3, .int 0), (2, .int (-1)), (1, .int (-5)), (0, .ref (gb γ + a0))] dX0_withMost_6 rfl (by decide) rfl ?_
    refine j_lv [(0, .ref (gb γ + a0)), (1, .int (-5)), (2, .int (-1)), (3, .int 0)] [3, 2, 1, 0] rfl ?_
    exact s_X0_withMost_7 F hr _ _ _ _ _ h
  exact ct_of (by decide +kernel) (Nat.le_of_ble_eq_true rfl) (fun p e s m args below meth c F hr _ => hJ p e s m args below meth c F hr)
def rm_X1_has : Room := { frames := 0, cells := 0, slots := 0, locals := 0 }
theorem dX1_has_0 : decode cX1_has 0 = .ok (.aload_n 0, 1) := by decide +kernel
theorem dX1_has_1 : decode cX1_has 1 = .ok (.getfield 9, 3) := by decide +kernel
theorem dX1_has_4 : decode cX1_has 4 = .ok (.iload_n 1, 1) := by decide +kernel
theorem dX1_has_5 : decode cX1_has 5 = .ok (.iaload, 1) := by decide +kernel
theorem dX1_has_6 : decode cX1_has 6 = .ok (.iconst (-1), 1) := by decide +kernel
theorem dX1_has_7 : decode cX1_has 7 = .ok (.if_icmp .eq 7, 3) := by decide +kernel
theorem dX1_has_10 : decode cX1_has 10 = .ok (.iconst 1, 1) := by decide +kernel
theorem dX1_has_11 : decode cX1_has 11 = .ok (.goto 4, 3) := by decide +kernel
theorem dX1_has_14 : decode cX1_has 14 = .ok (.iconst 0, 1) := by decide +kernel
theorem dX1_has_15 : decode cX1_has 15 = .ok (.ireturn, 1) := by decide +kernel
def f_X1_has (S : SH) (a0 : Nat) (a1 : Int32) (μ : Mem) : Option (Int32 × Mem) :=
  if isO S 1 a0 = true then
  (gR S 1 a0 0).bind fun v1 =>
  (aI S .int v1 a1 μ).bind fun v2 =>
  (if v2 = (-1) then
  some (0, μ)
  else
  some (1, μ))
  else none
set_option maxRecDepth 100000 in
set_option maxHeartbeats 4000000 in
theorem c_X1_has {l : Launch} {γ : GE} {S : SH} {a0 : Nat} {a1 : Int32} {μ : Mem} {X : (Int32 × Mem)} (h : f_X1_has S a0 a1 μ = some X) : isO S 1 a0 = true ∧ Ct l γ yX1_has cX1_has 2 (some .boolean) rm_X1_has [.ref (gb γ + a0), .int a1] S μ S X.2 (some (.int X.1)) := by
  unfold f_X1_has at h
  obtain ⟨h0, h⟩ := if_some h
  refine ⟨h0, ?_⟩
  have hJ : ∀ (p : Program) (e : Env) (s : State) (m : MethodId) (args : Array Value) (below : List Frame) (meth : Method) (c : Code), FX γ p s m args meth c cX1_has RX1 2 → meth.sig.returnType = (some .boolean) → JJ γ p l e rm_X1_has s m args below meth c 2 0 0 (QI below γ S X args s 0 0) S μ 0 [(0, .ref (gb γ + a0)), (1, .int a1)] [] := by
    intro p e s m args below meth c F hr
    refine j_aload_n F 0 dX1_has_0 rfl ?_
    refine j_gR F fl_RX1_9 rfl dX1_has_1 h (fun v1 h => ?_)
    refine j_iload_n F 1 dX1_has_4 rfl ?_
    refine j_iald F dX1_has_5 h (fun v2 h => ?_)
    refine j_iconst F (-1) dX1_has_6 (by decide) ?_
    refine j_icmpeq F 14 dX1_has_7 (by decide) h (fun _ h => ?_) (fun _ h => ?_)
    · refine j_iconst F 0 dX1_has_14 (by decide) ?_
      exact j_zret F hr (Or.inl rfl) dX1_has_15 h
    · refine j_iconst F 1 dX1_has_10 (by decide) ?_
      refine j_goto F 15 dX1_has_11 (by decide) ?_
      exact j_zret F hr (Or.inr rfl) dX1_has_15 h
  exact ct_of (by decide +kernel) (Nat.le_of_ble_eq_true rfl) (fun p e s m args below meth c F hr _ => hJ p e s m args below meth c F hr)
def rm_X1_write : Room := { frames := 1, cells := 0, slots := 0, locals := 21 }
theorem dX1_write_0 : decode cX1_write 0 = .ok (.aload_n 0, 1) := by decide +kernel
theorem dX1_write_1 : decode cX1_write 1 = .ok (.dup, 1) := by decide +kernel
theorem dX1_write_2 : decode cX1_write 2 = .ok (.getfield 21, 3) := by decide +kernel
theorem dX1_write_5 : decode cX1_write 5 = .ok (.aload_n 0, 1) := by decide +kernel
theorem dX1_write_6 : decode cX1_write 6 = .ok (.iload_n 1, 1) := by decide +kernel
theorem dX1_write_7 : decode cX1_write 7 = .ok (.invokevirtual 25, 3) := by decide +kernel
theorem dX1_write_10 : decode cX1_write 10 = .ok (.ifCond .eq 7, 3) := by decide +kernel
theorem dX1_write_13 : decode cX1_write 13 = .ok (.iconst 1, 1) := by decide +kernel
theorem dX1_write_14 : decode cX1_write 14 = .ok (.goto 4, 3) := by decide +kernel
theorem dX1_write_17 : decode cX1_write 17 = .ok (.iconst 0, 1) := by decide +kernel
theorem dX1_write_18 : decode cX1_write 18 = .ok (.isub, 1) := by decide +kernel
theorem dX1_write_19 : decode cX1_write 19 = .ok (.putfield 21, 3) := by decide +kernel
theorem dX1_write_22 : decode cX1_write 22 = .ok (.aload_n 0, 1) := by decide +kernel
theorem dX1_write_23 : decode cX1_write 23 = .ok (.getfield 9, 3) := by decide +kernel
theorem dX1_write_26 : decode cX1_write 26 = .ok (.iload_n 1, 1) := by decide +kernel
theorem dX1_write_27 : decode cX1_write 27 = .ok (.iload_n 2, 1) := by decide +kernel
theorem dX1_write_28 : decode cX1_write 28 = .ok (.iastore, 1) := by decide +kernel
theorem dX1_write_29 : decode cX1_write 29 = .ok (.aload_n 0, 1) := by decide +kernel
theorem dX1_write_30 : decode cX1_write 30 = .ok (.dup, 1) := by decide +kernel
theorem dX1_write_31 : decode cX1_write 31 = .ok (.getfield 21, 3) := by decide +kernel
theorem dX1_write_34 : decode cX1_write 34 = .ok (.aload_n 0, 1) := by decide +kernel
theorem dX1_write_35 : decode cX1_write 35 = .ok (.iload_n 1, 1) := by decide +kernel
theorem dX1_write_36 : decode cX1_write 36 = .ok (.invokevirtual 25, 3) := by decide +kernel
theorem dX1_write_39 : decode cX1_write 39 = .ok (.ifCond .eq 7, 3) := by decide +kernel
theorem dX1_write_42 : decode cX1_write 42 = .ok (.iconst 1, 1) := by decide +kernel
theorem dX1_write_43 : decode cX1_write 43 = .ok (.goto 4, 3) := by decide +kernel
theorem dX1_write_46 : decode cX1_write 46 = .ok (.iconst 0, 1) := by decide +kernel
theorem dX1_write_47 : decode cX1_write 47 = .ok (.iadd, 1) := by decide +kernel
theorem dX1_write_48 : decode cX1_write 48 = .ok (.putfield 21, 3) := by decide +kernel
theorem dX1_write_51 : decode cX1_write 51 = .ok (.return_, 1) := by decide +kernel
def b_X1_write_18 (S : SH) (a0 : Nat) (a1 : Int32) (a2 : Int32) (t0 : Int32) (t1 : Int32) (t2 : Nat) (μ : Mem) : Option (Unit × Mem) :=
 (pI S 1 t2 1 (t1 - t0) μ).bind fun ν3 =>
 (gR S 1 a0 0).bind fun v4 =>
 (sI S v4 a1 a2 ν3).bind fun ν5 =>
 (gI S 1 a0 1 ν5).bind fun v6 =>
 (f_X1_has S a0 a1 ν5).bind fun q7 =>
 (if q7.1 = 0 then
 (pI S 1 a0 1 (v6 + 0) q7.2).bind fun ν8 =>
 some ((), ν8)
 else
 (pI S 1 a0 1 (v6 + 1) q7.2).bind fun ν9 =>
 some ((), ν9))
set_option maxRecDepth 100000 in
set_option maxHeartbeats 4000000 in
theorem s_X1_write_18 {γ : GE} {p : Program} {l : Launch} {e : Env} {s : State} {m : MethodId} {args : Array Value} {below : List Frame} {meth : Method} {c : Code} {S : SH} {X : (Unit × Mem)} (F : FX γ p s m args meth c cX1_write RX1 3) (hr : meth.sig.returnType = (none)) (a0 : Nat) (a1 : Int32) (a2 : Int32)   (t0 : Int32) (t1 : Int32) (t2 : Nat) (μ : Mem) (h : b_X1_write_18 S a0 a1 a2 t0 t1 t2 μ = some X) : JJ γ p l e rm_X1_write s m args below meth c 3 0 0 (QV below γ S X args s 0 0) S μ 18 [(0, .ref (gb γ + a0)), (1, .int a1), (2, .int a2)] [.int t0, .int t1, .ref (gb γ + t2)] := by
  unfold b_X1_write_18 at h
  refine j_isub F dX1_write_18 ?_
  refine j_pI F fl_RX1_21 rfl dX1_write_19 h (fun ν3 h => ?_)
  refine j_aload_n F 0 dX1_write_22 rfl ?_
  refine j_gR F fl_RX1_9 rfl dX1_write_23 h (fun v4 h => ?_)
  refine j_iload_n F 1 dX1_write_26 rfl ?_
  refine j_iload_n F 2 dX1_write_27 rfl ?_
  refine j_iast F dX1_write_28 h (fun ν5 h => ?_)
  refine j_aload_n F 0 dX1_write_29 rfl ?_
  refine j_dup F dX1_write_30 rfl ?_
  refine j_gI F fl_RX1_21.l rfl dX1_write_31 h (fun v6 h => ?_)
  refine j_aload_n F 0 dX1_write_34 rfl ?_
  refine j_iload_n F 1 dX1_write_35 rfl ?_
  refine j_cVI F mi_X1_has w_533 (rest := [.int v6, .ref (gb γ + a0)]) h (fun _ g => c_X1_has g) rfl rfl (Nat.le_of_ble_eq_true rfl) ⟨Nat.le_of_ble_eq_true rfl, Nat.le_of_ble_eq_true rfl⟩ ⟨Nat.le_of_ble_eq_true rfl, Nat.le_of_ble_eq_true rfl⟩ dX1_write_36 (fun q7 h => ?_)
  refine j_ifeq F 46 dX1_write_39 (by decide) h (fun _ h => ?_) (fun _ h => ?_)
  · refine j_iconst F 0 dX1_write_46 (by decide) ?_
    refine j_iadd F dX1_write_47 ?_
    refine j_pI F fl_RX1_21 rfl dX1_write_48 h (fun ν8 h => ?_)
    exact j_vret F hr dX1_write_51 h
  · refine j_iconst F 1 dX1_write_42 (by decide) ?_
    refine j_goto F 47 dX1_write_43 (by decide) ?_
    refine j_iadd F dX1_write_47 ?_
    refine j_pI F fl_RX1_21 rfl dX1_write_48 h (fun ν9 h => ?_)
    exact j_vret F hr dX1_write_51 h
def f_X1_write (S : SH) (a0 : Nat) (a1 : Int32) (a2 : Int32) (μ : Mem) : Option (Unit × Mem) :=
  if isO S 1 a0 = true then
  (gI S 1 a0 1 μ).bind fun v1 =>
  (f_X1_has S a0 a1 μ).bind fun q2 =>
  (if q2.1 = 0 then
  b_X1_write_18 S a0 a1 a2 0 v1 a0 q2.2
  else
  b_X1_write_18 S a0 a1 a2 1 v1 a0 q2.2)
  else none
set_option maxRecDepth 100000 in
set_option maxHeartbeats 4000000 in
theorem c_X1_write {l : Launch} {γ : GE} {S : SH} {a0 : Nat} {a1 : Int32} {a2 : Int32} {μ : Mem} {X : (Unit × Mem)} (h : f_X1_write S a0 a1 a2 μ = some X) : isO S 1 a0 = true ∧ Ct l γ yX1_write cX1_write 3 (none) rm_X1_write [.ref (gb γ + a0), .int a1, .int a2] S μ S X.2 none := by
  unfold f_X1_write at h
  obtain ⟨h0, h⟩ := if_some h
  refine ⟨h0, ?_⟩
  have hJ : ∀ (p : Program) (e : Env) (s : State) (m : MethodId) (args : Array Value) (below : List Frame) (meth : Method) (c : Code), FX γ p s m args meth c cX1_write RX1 3 → meth.sig.returnType = (none) → JJ γ p l e rm_X1_write s m args below meth c 3 0 0 (QV below γ S X args s 0 0) S μ 0 [(0, .ref (gb γ + a0)), (1, .int a1), (2, .int a2)] [] := by
    intro p e s m args below meth c F hr
    refine j_aload_n F 0 dX1_write_0 rfl ?_
    refine j_dup F dX1_write_1 rfl ?_
    refine j_gI F fl_RX1_21.l rfl dX1_write_2 h (fun v1 h => ?_)
    refine j_aload_n F 0 dX1_write_5 rfl ?_
    refine j_iload_n F 1 dX1_write_6 rfl ?_
    refine j_cVI F mi_X1_has w_533 (rest := [.int v1, .ref (gb γ + a0)]) h (fun _ g => c_X1_has g) rfl rfl (Nat.le_of_ble_eq_true rfl) ⟨Nat.le_of_ble_eq_true rfl, Nat.le_of_ble_eq_true rfl⟩ ⟨Nat.le_of_ble_eq_true rfl, Nat.le_of_ble_eq_true rfl⟩ dX1_write_7 (fun q2 h => ?_)
    refine j_ifeq F 17 dX1_write_10 (by decide) h (fun _ h => ?_) (fun _ h => ?_)
    · refine j_iconst F 0 dX1_write_17 (by decide) ?_
      exact s_X1_write_18 F hr _ _ _ _ _ _ _ h
    · refine j_iconst F 1 dX1_write_13 (by decide) ?_
      refine j_goto F 18 dX1_write_14 (by decide) ?_
      exact s_X1_write_18 F hr _ _ _ _ _ _ _ h
  exact ct_of (by decide +kernel) (Nat.le_of_ble_eq_true rfl) (fun p e s m args below meth c F hr _ => hJ p e s m args below meth c F hr)
def rm_X1_at : Room := { frames := 0, cells := 0, slots := 0, locals := 0 }
theorem dX1_at_0 : decode cX1_at 0 = .ok (.iload_n 1, 1) := by decide +kernel
theorem dX1_at_1 : decode cX1_at 1 = .ok (.istore_n 2, 1) := by decide +kernel
theorem dX1_at_2 : decode cX1_at 2 = .ok (.iload_n 2, 1) := by decide +kernel
theorem dX1_at_3 : decode cX1_at 3 = .ok (.bipush 61, 2) := by decide +kernel
theorem dX1_at_5 : decode cX1_at 5 = .ok (.if_icmp .ge 19, 3) := by decide +kernel
theorem dX1_at_8 : decode cX1_at 8 = .ok (.aload_n 0, 1) := by decide +kernel
theorem dX1_at_9 : decode cX1_at 9 = .ok (.getfield 9, 3) := by decide +kernel
theorem dX1_at_12 : decode cX1_at 12 = .ok (.iload_n 2, 1) := by decide +kernel
theorem dX1_at_13 : decode cX1_at 13 = .ok (.iaload, 1) := by decide +kernel
theorem dX1_at_14 : decode cX1_at 14 = .ok (.iconst (-1), 1) := by decide +kernel
theorem dX1_at_15 : decode cX1_at 15 = .ok (.if_icmp .ne 9, 3) := by decide +kernel
theorem dX1_at_18 : decode cX1_at 18 = .ok (.iinc 2 1, 3) := by decide +kernel
theorem dX1_at_21 : decode cX1_at 21 = .ok (.goto (-19), 3) := by decide +kernel
theorem dX1_at_24 : decode cX1_at 24 = .ok (.iload_n 2, 1) := by decide +kernel
theorem dX1_at_25 : decode cX1_at 25 = .ok (.bipush 61, 2) := by decide +kernel
theorem dX1_at_27 : decode cX1_at 27 = .ok (.if_icmp .ne 5, 3) := by decide +kernel
theorem dX1_at_30 : decode cX1_at 30 = .ok (.iconst 0, 1) := by decide +kernel
theorem dX1_at_31 : decode cX1_at 31 = .ok (.ireturn, 1) := by decide +kernel
theorem dX1_at_32 : decode cX1_at 32 = .ok (.iload_n 1, 1) := by decide +kernel
theorem dX1_at_33 : decode cX1_at 33 = .ok (.istore_n 3, 1) := by decide +kernel
theorem dX1_at_34 : decode cX1_at 34 = .ok (.iload_n 3, 1) := by decide +kernel
theorem dX1_at_35 : decode cX1_at 35 = .ok (.ifCond .lt 19, 3) := by decide +kernel
theorem dX1_at_38 : decode cX1_at 38 = .ok (.aload_n 0, 1) := by decide +kernel
theorem dX1_at_39 : decode cX1_at 39 = .ok (.getfield 9, 3) := by decide +kernel
theorem dX1_at_42 : decode cX1_at 42 = .ok (.iload_n 3, 1) := by decide +kernel
theorem dX1_at_43 : decode cX1_at 43 = .ok (.iaload, 1) := by decide +kernel
theorem dX1_at_44 : decode cX1_at 44 = .ok (.iconst (-1), 1) := by decide +kernel
theorem dX1_at_45 : decode cX1_at 45 = .ok (.if_icmp .ne 9, 3) := by decide +kernel
theorem dX1_at_48 : decode cX1_at 48 = .ok (.iinc 3 (-1), 3) := by decide +kernel
theorem dX1_at_51 : decode cX1_at 51 = .ok (.goto (-17), 3) := by decide +kernel
theorem dX1_at_54 : decode cX1_at 54 = .ok (.iload_n 3, 1) := by decide +kernel
theorem dX1_at_55 : decode cX1_at 55 = .ok (.ifCond .lt 8, 3) := by decide +kernel
theorem dX1_at_58 : decode cX1_at 58 = .ok (.iload_n 3, 1) := by decide +kernel
theorem dX1_at_59 : decode cX1_at 59 = .ok (.iload_n 2, 1) := by decide +kernel
theorem dX1_at_60 : decode cX1_at 60 = .ok (.if_icmp .ne 10, 3) := by decide +kernel
theorem dX1_at_63 : decode cX1_at 63 = .ok (.aload_n 0, 1) := by decide +kernel
theorem dX1_at_64 : decode cX1_at 64 = .ok (.getfield 9, 3) := by decide +kernel
theorem dX1_at_67 : decode cX1_at 67 = .ok (.iload_n 2, 1) := by decide +kernel
theorem dX1_at_68 : decode cX1_at 68 = .ok (.iaload, 1) := by decide +kernel
theorem dX1_at_69 : decode cX1_at 69 = .ok (.ireturn, 1) := by decide +kernel
theorem dX1_at_70 : decode cX1_at 70 = .ok (.aload_n 0, 1) := by decide +kernel
theorem dX1_at_71 : decode cX1_at 71 = .ok (.getfield 9, 3) := by decide +kernel
theorem dX1_at_74 : decode cX1_at 74 = .ok (.iload_n 3, 1) := by decide +kernel
theorem dX1_at_75 : decode cX1_at 75 = .ok (.iaload, 1) := by decide +kernel
theorem dX1_at_76 : decode cX1_at 76 = .ok (.iload_n 2, 1) := by decide +kernel
theorem dX1_at_77 : decode cX1_at 77 = .ok (.iload_n 1, 1) := by decide +kernel
theorem dX1_at_78 : decode cX1_at 78 = .ok (.isub, 1) := by decide +kernel
theorem dX1_at_79 : decode cX1_at 79 = .ok (.imul, 1) := by decide +kernel
theorem dX1_at_80 : decode cX1_at 80 = .ok (.aload_n 0, 1) := by decide +kernel
theorem dX1_at_81 : decode cX1_at 81 = .ok (.getfield 9, 3) := by decide +kernel
theorem dX1_at_84 : decode cX1_at 84 = .ok (.iload_n 2, 1) := by decide +kernel
theorem dX1_at_85 : decode cX1_at 85 = .ok (.iaload, 1) := by decide +kernel
theorem dX1_at_86 : decode cX1_at 86 = .ok (.iload_n 1, 1) := by decide +kernel
theorem dX1_at_87 : decode cX1_at 87 = .ok (.iload_n 3, 1) := by decide +kernel
theorem dX1_at_88 : decode cX1_at 88 = .ok (.isub, 1) := by decide +kernel
theorem dX1_at_89 : decode cX1_at 89 = .ok (.imul, 1) := by decide +kernel
theorem dX1_at_90 : decode cX1_at 90 = .ok (.iadd, 1) := by decide +kernel
theorem dX1_at_91 : decode cX1_at 91 = .ok (.iload_n 2, 1) := by decide +kernel
theorem dX1_at_92 : decode cX1_at 92 = .ok (.iload_n 3, 1) := by decide +kernel
theorem dX1_at_93 : decode cX1_at 93 = .ok (.isub, 1) := by decide +kernel
theorem dX1_at_94 : decode cX1_at 94 = .ok (.idiv, 1) := by decide +kernel
theorem dX1_at_95 : decode cX1_at 95 = .ok (.ireturn, 1) := by decide +kernel
def b_X1_at_54 (S : SH) (a0 : Nat) (a1 : Int32) (a2 : Int32) (a3 : Int32) (μ : Mem) : Option (Int32 × Mem) :=
 (if a3 < 0 then
 (gR S 1 a0 0).bind fun v1 =>
 (aI S .int v1 a2 μ).bind fun v2 =>
 some (v2, μ)
 else
 (if a3 = a2 then
 (gR S 1 a0 0).bind fun v8 =>
 (aI S .int v8 a2 μ).bind fun v9 =>
 some (v9, μ)
 else
 (gR S 1 a0 0).bind fun v3 =>
 (aI S .int v3 a3 μ).bind fun v4 =>
 (gR S 1 a0 0).bind fun v5 =>
 (aI S .int v5 a2 μ).bind fun v6 =>
 (o_idiv ((v4 * (a2 - a1)) + (v6 * (a1 - a3))) (a2 - a3)).bind fun v7 =>
 some (v7, μ)))
set_option maxRecDepth 100000 in
set_option maxHeartbeats 4000000 in
theorem s_X1_at_54 {γ : GE} {p : Program} {l : Launch} {e : Env} {s : State} {m : MethodId} {args : Array Value} {below : List Frame} {meth : Method} {c : Code} {S : SH} {X : (Int32 × Mem)} (F : FX γ p s m args meth c cX1_at RX1 4) (hr : meth.sig.returnType = (some .int)) (a0 : Nat) (a1 : Int32) (a2 : Int32) (a3 : Int32)    (μ : Mem) (h : b_X1_at_54 S a0 a1 a2 a3 μ = some X) : JJ γ p l e rm_X1_at s m args below meth c 4 0 0 (QI below γ S X args s 0 0) S μ 54 [(0, .ref (gb γ + a0)), (1, .int a1), (2, .int a2), (3, .int a3)] [] := by
  unfold b_X1_at_54 at h
  refine j_iload_n F 3 dX1_at_54 rfl ?_
  refine j_iflt F 63 dX1_at_55 (by decide) h (fun _ h => ?_) (fun _ h => ?_)
  · refine j_aload_n F 0 dX1_at_63 rfl ?_
    refine j_gR F fl_RX1_9 rfl dX1_at_64 h (fun v1 h => ?_)
    refine j_iload_n F 2 dX1_at_67 rfl ?_
    refine j_iald F dX1_at_68 h (fun v2 h => ?_)
    exact j_iret F hr dX1_at_69 h
  · refine j_iload_n F 3 dX1_at_58 rfl ?_
    refine j_iload_n F 2 dX1_at_59 rfl ?_
    refine j_icmpne F 70 dX1_at_60 (by decide) h (fun _ h => ?_) (fun _ h => ?_)
    · refine j_aload_n F 0 dX1_at_70 rfl ?_
      refine j_gR F fl_RX1_9 rfl dX1_at_71 h (fun v3 h => ?_)
      refine j_iload_n F 3 dX1_at_74 rfl ?_
      refine j_iald F dX1_at_75 h (fun v4 h => ?_)
      refine j_iload_n F 2 dX1_at_76 rfl ?_
      refine j_iload_n F 1 dX1_at_77 rfl ?_
      refine j_isub F dX1_at_78 ?_
      refine j_imul F dX1_at_79 ?_
      refine j_aload_n F 0 dX1_at_80 rfl ?_
      refine j_gR F fl_RX1_9 rfl dX1_at_81 h (fun v5 h => ?_)
      refine j_iload_n F 2 dX1_at_84 rfl ?_
      refine j_iald F dX1_at_85 h (fun v6 h => ?_)
      refine j_iload_n F 1 dX1_at_86 rfl ?_
      refine j_iload_n F 3 dX1_at_87 rfl ?_
      refine j_isub F dX1_at_88 ?_
      refine j_imul F dX1_at_89 ?_
      refine j_iadd F dX1_at_90 ?_
      refine j_iload_n F 2 dX1_at_91 rfl ?_
      refine j_iload_n F 3 dX1_at_92 rfl ?_
      refine j_isub F dX1_at_93 ?_
      refine j_idiv F dX1_at_94 h (fun v7 h => ?_)
      exact j_iret F hr dX1_at_95 h
    · refine j_aload_n F 0 dX1_at_63 rfl ?_
      refine j_gR F fl_RX1_9 rfl dX1_at_64 h (fun v8 h => ?_)
      refine j_iload_n F 2 dX1_at_67 rfl ?_
      refine j_iald F dX1_at_68 h (fun v9 h => ?_)
      exact j_iret F hr dX1_at_69 h
def l_X1_at_34 (S : SH) (a0 : Nat) (a1 : Int32) (a2 : Int32) (k34 : (Int32 × Mem) → Option (Int32 × Mem)) (x : (Int32 × Mem)) : Option (Int32 × Mem) :=
 (if x.1 < 0 then
 b_X1_at_54 S a0 a1 a2 x.1 x.2
 else
 (gR S 1 a0 0).bind fun v10 =>
 (aI S .int v10 x.1 x.2).bind fun v11 =>
 (if v11 = (-1) then
 k34 (x.1 + (-1), x.2)
 else
 b_X1_at_54 S a0 a1 a2 x.1 x.2))
set_option maxRecDepth 100000 in
set_option maxHeartbeats 4000000 in
theorem t_X1_at_34 {γ : GE} {p : Program} {l : Launch} {e : Env} {s : State} {m : MethodId} {args : Array Value} {below : List Frame} {meth : Method} {c : Code} {S : SH} {X : (Int32 × Mem)} (F : FX γ p s m args meth c cX1_at RX1 4) (hr : meth.sig.returnType = (some .int)) (a0 : Nat) (a1 : Int32) (a2 : Int32) (k34 : (Int32 × Mem) → Option (Int32 × Mem)) (hk34 : ∀ (x34_3 : Int32) (ν : Mem), k34 (x34_3, ν) = some X → JJ γ p l e rm_X1_at s m args below meth c 4 0 0 (QI below γ S X args s 0 0) S ν 34 [(0, .ref (gb γ + a0)), (1, .int a1), (2, .int a2), (3, .int x34_3)] []) (x : (Int32 × Mem)) (h : l_X1_at_34 S a0 a1 a2 k34 x = some X) : JJ γ p l e rm_X1_at s m args below meth c 4 0 0 (QI below γ S X args s 0 0) S x.2 34 [(0, .ref (gb γ + a0)), (1, .int a1), (2, .int a2), (3, .int x.1)] [] := by
  unfold l_X1_at_34 at h
  refine j_iload_n F 3 dX1_at_34 rfl ?_
  refine j_iflt F 54 dX1_at_35 (by decide) h (fun _ h => ?_) (fun _ h => ?_)
  · exact s_X1_at_54 F hr _ _ _ _ _ h
  · refine j_aload_n F 0 dX1_at_38 rfl ?_
    refine j_gR F fl_RX1_9 rfl dX1_at_39 h (fun v10 h => ?_)
    refine j_iload_n F 3 dX1_at_42 rfl ?_
    refine j_iald F dX1_at_43 h (fun v11 h => ?_)
    refine j_iconst F (-1) dX1_at_44 (by decide) ?_
    refine j_icmpne F 54 dX1_at_45 (by decide) h (fun _ h => ?_) (fun _ h => ?_)
    · exact s_X1_at_54 F hr _ _ _ _ _ h
    · refine j_iinc F (-1) 3 [(3, .int (x.1 + (-1))), (0, .ref (gb γ + a0)), (1, .int a1), (2, .int a2)] dX1_at_48 rfl (by decide) (by decide) rfl ?_
      refine j_goto F 34 dX1_at_51 (by decide) ?_
      refine j_lv [(0, .ref (gb γ + a0)), (1, .int a1), (2, .int a2), (3, .int (x.1 + (-1)))] [1, 2, 3, 0] rfl ?_
      exact hk34 _ _ h
theorem s_X1_at_34 {γ : GE} {p : Program} {l : Launch} {e : Env} {s : State} {m : MethodId} {args : Array Value} {below : List Frame} {meth : Method} {c : Code} {S : SH} {X : (Int32 × Mem)} (F : FX γ p s m args meth c cX1_at RX1 4) (hr : meth.sig.returnType = (some .int)) (a0 : Nat) (a1 : Int32) (a2 : Int32) (x34_3 : Int32) (ν : Mem) (h : lpN (l_X1_at_34 S a0 a1 a2) fu (x34_3, ν) = some X) : JJ γ p l e rm_X1_at s m args below meth c 4 0 0 (QI below γ S X args s 0 0) S ν 34 [(0, .ref (gb γ + a0)), (1, .int a1), (2, .int a2), (3, .int x34_3)] [] :=
 lpN_sound (fun x => JJ γ p l e rm_X1_at s m args below meth c 4 0 0 (QI below γ S X args s 0 0) S x.2 34 [(0, .ref (gb γ + a0)), (1, .int a1), (2, .int a2), (3, .int x.1)] []) (fun k34 hk34 x h => t_X1_at_34 F hr a0 a1 a2 k34 (fun x34_3 ν h => hk34 (x34_3, ν) h) x h) fu (x34_3, ν) h
def b_X1_at_24 (S : SH) (a0 : Nat) (a1 : Int32) (a2 : Int32) (μ : Mem) : Option (Int32 × Mem) :=
 (if a2 = 61 then
 some (0, μ)
 else
 lpN (l_X1_at_34 S a0 a1 a2) fu (a1, μ))
set_option maxRecDepth 100000 in
set_option maxHeartbeats 4000000 in
theorem s_X1_at_24 {γ : GE} {p : Program} {l : Launch} {e : Env} {s : State} {m : MethodId} {args : Array Value} {below : List Frame} {meth : Method} {c : Code} {S : SH} {X : (Int32 × Mem)} (F : FX γ p s m args meth c cX1_at RX1 4) (hr : meth.sig.returnType = (some .int)) (a0 : Nat) (a1 : Int32) (a2 : Int32)    (μ : Mem) (h : b_X1_at_24 S a0 a1 a2 μ = some X) : JJ γ p l e rm_X1_at s m args below meth c 4 0 0 (QI below γ S X args s 0 0) S μ 24 [(0, .ref (gb γ + a0)), (1, .int a1), (2, .int a2)] [] := by
  unfold b_X1_at_24 at h
  refine j_iload_n F 2 dX1_at_24 rfl ?_
  refine j_bipush F 61 dX1_at_25 (by decide) ?_
  refine j_icmpne F 32 dX1_at_27 (by decide) h (fun _ h => ?_) (fun _ h => ?_)
  · refine j_iload_n F 1 dX1_at_32 rfl ?_
    refine j_istore_n F [(3, .int a1), (0, .ref (gb γ + a0)), (1, .int a1), (2, .int a2)] dX1_at_33 rfl (by decide) rfl ?_
    refine j_lv [(0, .ref (gb γ + a0)), (1, .int a1), (2, .int a2), (3, .int a1)] [1, 2, 3, 0] rfl ?_
    exact s_X1_at_34 F hr _ _ _ _ _ h
  · refine j_iconst F 0 dX1_at_30 (by decide) ?_
    exact j_iret F hr dX1_at_31 h
def l_X1_at_2 (S : SH) (a0 : Nat) (a1 : Int32) (k2 : (Int32 × Mem) → Option (Int32 × Mem)) (x : (Int32 × Mem)) : Option (Int32 × Mem) :=
 (if 61 ≤ x.1 then
 b_X1_at_24 S a0 a1 x.1 x.2
 else
 (gR S 1 a0 0).bind fun v12 =>
 (aI S .int v12 x.1 x.2).bind fun v13 =>
 (if v13 = (-1) then
 k2 (x.1 + 1, x.2)
 else
 b_X1_at_24 S a0 a1 x.1 x.2))
set_option maxRecDepth 100000 in
set_option maxHeartbeats 4000000 in
theorem t_X1_at_2 {γ : GE} {p : Program} {l : Launch} {e : Env} {s : State} {m : MethodId} {args : Array Value} {below : List Frame} {meth : Method} {c : Code} {S : SH} {X : (Int32 × Mem)} (F : FX γ p s m args meth c cX1_at RX1 4) (hr : meth.sig.returnType = (some .int)) (a0 : Nat) (a1 : Int32) (k2 : (Int32 × Mem) → Option (Int32 × Mem)) (hk2 : ∀ (x2_2 : Int32) (ν : Mem), k2 (x2_2, ν) = some X → JJ γ p l e rm_X1_at s m args below meth c 4 0 0 (QI below γ S X args s 0 0) S ν 2 [(0, .ref (gb γ + a0)), (1, .int a1), (2, .int x2_2)] []) (x : (Int32 × Mem)) (h : l_X1_at_2 S a0 a1 k2 x = some X) : JJ γ p l e rm_X1_at s m args below meth c 4 0 0 (QI below γ S X args s 0 0) S x.2 2 [(0, .ref (gb γ + a0)), (1, .int a1), (2, .int x.1)] [] := by
  unfold l_X1_at_2 at h
  refine j_iload_n F 2 dX1_at_2 rfl ?_
  refine j_bipush F 61 dX1_at_3 (by decide) ?_
  refine j_icmpge F 24 dX1_at_5 (by decide) h (fun _ h => ?_) (fun _ h => ?_)
  · exact s_X1_at_24 F hr _ _ _ _ h
  · refine j_aload_n F 0 dX1_at_8 rfl ?_
    refine j_gR F fl_RX1_9 rfl dX1_at_9 h (fun v12 h => ?_)
    refine j_iload_n F 2 dX1_at_12 rfl ?_
    refine j_iald F dX1_at_13 h (fun v13 h => ?_)
    refine j_iconst F (-1) dX1_at_14 (by decide) ?_
    refine j_icmpne F 24 dX1_at_15 (by decide) h (fun _ h => ?_) (fun _ h => ?_)
    · exact s_X1_at_24 F hr _ _ _ _ h
    · refine j_iinc F 1 2 [(2, .int (x.1 + 1)), (0, .ref (gb γ + a0)), (1, .int a1)] dX1_at_18 rfl (by decide) (by decide) rfl ?_
      refine j_goto F 2 dX1_at_21 (by decide) ?_
      refine j_lv [(0, .ref (gb γ + a0)), (1, .int a1), (2, .int (x.1 + 1))] [1, 2, 0] rfl ?_
      exact hk2 _ _ h
theorem s_X1_at_2 {γ : GE} {p : Program} {l : Launch} {e : Env} {s : State} {m : MethodId} {args : Array Value} {below : List Frame} {meth : Method} {c : Code} {S : SH} {X : (Int32 × Mem)} (F : FX γ p s m args meth c cX1_at RX1 4) (hr : meth.sig.returnType = (some .int)) (a0 : Nat) (a1 : Int32) (x2_2 : Int32) (ν : Mem) (h : lpN (l_X1_at_2 S a0 a1) fu (x2_2, ν) = some X) : JJ γ p l e rm_X1_at s m args below meth c 4 0 0 (QI below γ S X args s 0 0) S ν 2 [(0, .ref (gb γ + a0)), (1, .int a1), (2, .int x2_2)] [] :=
 lpN_sound (fun x => JJ γ p l e rm_X1_at s m args below meth c 4 0 0 (QI below γ S X args s 0 0) S x.2 2 [(0, .ref (gb γ + a0)), (1, .int a1), (2, .int x.1)] []) (fun k2 hk2 x h => t_X1_at_2 F hr a0 a1 k2 (fun x2_2 ν h => hk2 (x2_2, ν) h) x h) fu (x2_2, ν) h
def f_X1_at (S : SH) (a0 : Nat) (a1 : Int32) (μ : Mem) : Option (Int32 × Mem) :=
  if isO S 1 a0 = true then
  lpN (l_X1_at_2 S  a0 a1) fu (a1, μ)
  else none
set_option maxRecDepth 100000 in
set_option maxHeartbeats 4000000 in
theorem c_X1_at {l : Launch} {γ : GE} {S : SH} {a0 : Nat} {a1 : Int32} {μ : Mem} {X : (Int32 × Mem)} (h : f_X1_at S a0 a1 μ = some X) : isO S 1 a0 = true ∧ Ct l γ yX1_at cX1_at 4 (some .int) rm_X1_at [.ref (gb γ + a0), .int a1] S μ S X.2 (some (.int X.1)) := by
  unfold f_X1_at at h
  obtain ⟨h0, h⟩ := if_some h
  refine ⟨h0, ?_⟩
  have hJ : ∀ (p : Program) (e : Env) (s : State) (m : MethodId) (args : Array Value) (below : List Frame) (meth : Method) (c : Code), FX γ p s m args meth c cX1_at RX1 4 → meth.sig.returnType = (some .int) → JJ γ p l e rm_X1_at s m args below meth c 4 0 0 (QI below γ S X args s 0 0) S μ 0 [(0, .ref (gb γ + a0)), (1, .int a1)] [] := by
    intro p e s m args below meth c F hr
    refine j_iload_n F 1 dX1_at_0 rfl ?_
    refine j_istore_n F [(2, .int a1), (0, .ref (gb γ + a0)), (1, .int a1)] dX1_at_1 rfl (by decide) rfl ?_
    refine j_lv [(0, .ref (gb γ + a0)), (1, .int a1), (2, .int a1)] [1, 2, 0] rfl ?_
    exact s_X1_at_2 F hr _ _ _ _ h
  exact ct_of (by decide +kernel) (Nat.le_of_ble_eq_true rfl) (fun p e s m args below meth c F hr _ => hJ p e s m args below meth c F hr)
def rm_X1_readAs : Room := { frames := 1, cells := 0, slots := 0, locals := 60 }
theorem dX1_readAs_0 : decode cX1_readAs 0 = .ok (.aload_n 1, 1) := by decide +kernel
theorem dX1_readAs_1 : decode cX1_readAs 1 = .ok (.getfield 9, 3) := by decide +kernel
theorem dX1_readAs_4 : decode cX1_readAs 4 = .ok (.iconst 0, 1) := by decide +kernel
theorem dX1_readAs_5 : decode cX1_readAs 5 = .ok (.aload_n 0, 1) := by decide +kernel
theorem dX1_readAs_6 : decode cX1_readAs 6 = .ok (.getfield 9, 3) := by decide +kernel
theorem dX1_readAs_9 : decode cX1_readAs 9 = .ok (.iconst 0, 1) := by decide +kernel
theorem dX1_readAs_10 : decode cX1_readAs 10 = .ok (.bipush 61, 2) := by decide +kernel
theorem dX1_readAs_12 : decode cX1_readAs 12 = .ok (.invokestatic 29, 3) := by decide +kernel
theorem dX1_readAs_15 : decode cX1_readAs 15 = .ok (.aload_n 0, 1) := by decide +kernel
theorem dX1_readAs_16 : decode cX1_readAs 16 = .ok (.aload_n 1, 1) := by decide +kernel
theorem dX1_readAs_17 : decode cX1_readAs 17 = .ok (.getfield 21, 3) := by decide +kernel
theorem dX1_readAs_20 : decode cX1_readAs 20 = .ok (.putfield 21, 3) := by decide +kernel
theorem dX1_readAs_23 : decode cX1_readAs 23 = .ok (.return_, 1) := by decide +kernel
def f_X1_readAs (S : SH) (a0 : Nat) (a1 : Nat) (μ : Mem) : Option (Unit × Mem) :=
  if isO S 1 a0 = true then
  (gR S 1 a1 0).bind fun v1 =>
  (gR S 1 a0 0).bind fun v2 =>
  (cpI S .int v1 0 v2 0 61 μ).bind fun ν3 =>
  (gI S 1 a1 1 ν3).bind fun v4 =>
  (pI S 1 a0 1 v4 ν3).bind fun ν5 =>
  some ((), ν5)
  else none
set_option maxRecDepth 100000 in
set_option maxHeartbeats 4000000 in
theorem c_X1_readAs {l : Launch} {γ : GE} {S : SH} {a0 : Nat} {a1 : Nat} {μ : Mem} {X : (Unit × Mem)} (h : f_X1_readAs S a0 a1 μ = some X) : isO S 1 a0 = true ∧ Ct l γ yX1_readAs cX1_readAs 2 (none) rm_X1_readAs [.ref (gb γ + a0), .ref (gb γ + a1)] S μ S X.2 none := by
  unfold f_X1_readAs at h
  obtain ⟨h0, h⟩ := if_some h
  refine ⟨h0, ?_⟩
  have hJ : ∀ (p : Program) (e : Env) (s : State) (m : MethodId) (args : Array Value) (below : List Frame) (meth : Method) (c : Code), FX γ p s m args meth c cX1_readAs RX1 2 → meth.sig.returnType = (none) → JJ γ p l e rm_X1_readAs s m args below meth c 2 0 0 (QV below γ S X args s 0 0) S μ 0 [(0, .ref (gb γ + a0)), (1, .ref (gb γ + a1))] [] := by
    intro p e s m args below meth c F hr
    refine j_aload_n F 1 dX1_readAs_0 rfl ?_
    refine j_gR F fl_RX1_9 rfl dX1_readAs_1 h (fun v1 h => ?_)
    refine j_iconst F 0 dX1_readAs_4 (by decide) ?_
    refine j_aload_n F 0 dX1_readAs_5 rfl ?_
    refine j_gR F fl_RX1_9 rfl dX1_readAs_6 h (fun v2 h => ?_)
    refine j_iconst F 0 dX1_readAs_9 (by decide) ?_
    refine j_bipush F 61 dX1_readAs_10 (by decide) ?_
    refine j_cpI F w_693 ⟨Nat.le_of_ble_eq_true rfl, Nat.le_of_ble_eq_true rfl⟩ dX1_readAs_12 h (fun ν3 h => ?_)
    refine j_aload_n F 0 dX1_readAs_15 rfl ?_
    refine j_aload_n F 1 dX1_readAs_16 rfl ?_
    refine j_gI F fl_RX1_21.l rfl dX1_readAs_17 h (fun v4 h => ?_)
    refine j_pI F fl_RX1_21 rfl dX1_readAs_20 h (fun ν5 h => ?_)
    exact j_vret F hr dX1_readAs_23 h
  exact ct_of (by decide +kernel) (Nat.le_of_ble_eq_true rfl) (fun p e s m args below meth c F hr _ => hJ p e s m args below meth c F hr)
def rm_X4_placeAs : Room := { frames := 1, cells := 0, slots := 0, locals := 60 }
theorem dX4_placeAs_0 : decode cX4_placeAs 0 = .ok (.aload_n 1, 1) := by decide +kernel
theorem dX4_placeAs_1 : decode cX4_placeAs 1 = .ok (.getfield 9, 3) := by decide +kernel
theorem dX4_placeAs_4 : decode cX4_placeAs 4 = .ok (.iconst 0, 1) := by decide +kernel
theorem dX4_placeAs_5 : decode cX4_placeAs 5 = .ok (.aload_n 0, 1) := by decide +kernel
theorem dX4_placeAs_6 : decode cX4_placeAs 6 = .ok (.getfield 9, 3) := by decide +kernel
theorem dX4_placeAs_9 : decode cX4_placeAs 9 = .ok (.iconst 0, 1) := by decide +kernel
theorem dX4_placeAs_10 : decode cX4_placeAs 10 = .ok (.iconst 4, 1) := by decide +kernel
theorem dX4_placeAs_11 : decode cX4_placeAs 11 = .ok (.invokestatic 24, 3) := by decide +kernel
theorem dX4_placeAs_14 : decode cX4_placeAs 14 = .ok (.aload_n 1, 1) := by decide +kernel
theorem dX4_placeAs_15 : decode cX4_placeAs 15 = .ok (.getfield 15, 3) := by decide +kernel
theorem dX4_placeAs_18 : decode cX4_placeAs 18 = .ok (.iconst 0, 1) := by decide +kernel
theorem dX4_placeAs_19 : decode cX4_placeAs 19 = .ok (.aload_n 0, 1) := by decide +kernel
theorem dX4_placeAs_20 : decode cX4_placeAs 20 = .ok (.getfield 15, 3) := by decide +kernel
theorem dX4_placeAs_23 : decode cX4_placeAs 23 = .ok (.iconst 0, 1) := by decide +kernel
theorem dX4_placeAs_24 : decode cX4_placeAs 24 = .ok (.iconst 4, 1) := by decide +kernel
theorem dX4_placeAs_25 : decode cX4_placeAs 25 = .ok (.invokestatic 24, 3) := by decide +kernel
theorem dX4_placeAs_28 : decode cX4_placeAs 28 = .ok (.aload_n 1, 1) := by decide +kernel
theorem dX4_placeAs_29 : decode cX4_placeAs 29 = .ok (.getfield 18, 3) := by decide +kernel
theorem dX4_placeAs_32 : decode cX4_placeAs 32 = .ok (.iconst 0, 1) := by decide +kernel
theorem dX4_placeAs_33 : decode cX4_placeAs 33 = .ok (.aload_n 0, 1) := by decide +kernel
theorem dX4_placeAs_34 : decode cX4_placeAs 34 = .ok (.getfield 18, 3) := by decide +kernel
theorem dX4_placeAs_37 : decode cX4_placeAs 37 = .ok (.iconst 0, 1) := by decide +kernel
theorem dX4_placeAs_38 : decode cX4_placeAs 38 = .ok (.iconst 4, 1) := by decide +kernel
theorem dX4_placeAs_39 : decode cX4_placeAs 39 = .ok (.invokestatic 24, 3) := by decide +kernel
theorem dX4_placeAs_42 : decode cX4_placeAs 42 = .ok (.aload_n 0, 1) := by decide +kernel
theorem dX4_placeAs_43 : decode cX4_placeAs 43 = .ok (.aload_n 1, 1) := by decide +kernel
theorem dX4_placeAs_44 : decode cX4_placeAs 44 = .ok (.getfield 30, 3) := by decide +kernel
theorem dX4_placeAs_47 : decode cX4_placeAs 47 = .ok (.putfield 30, 3) := by decide +kernel
theorem dX4_placeAs_50 : decode cX4_placeAs 50 = .ok (.aload_n 0, 1) := by decide +kernel
theorem dX4_placeAs_51 : decode cX4_placeAs 51 = .ok (.aload_n 1, 1) := by decide +kernel
theorem dX4_placeAs_52 : decode cX4_placeAs 52 = .ok (.getfield 34, 3) := by decide +kernel
theorem dX4_placeAs_55 : decode cX4_placeAs 55 = .ok (.putfield 34, 3) := by decide +kernel
theorem dX4_placeAs_58 : decode cX4_placeAs 58 = .ok (.aload_n 0, 1) := by decide +kernel
theorem dX4_placeAs_59 : decode cX4_placeAs 59 = .ok (.aload_n 1, 1) := by decide +kernel
theorem dX4_placeAs_60 : decode cX4_placeAs 60 = .ok (.getfield 38, 3) := by decide +kernel
theorem dX4_placeAs_63 : decode cX4_placeAs 63 = .ok (.putfield 38, 3) := by decide +kernel
theorem dX4_placeAs_66 : decode cX4_placeAs 66 = .ok (.aload_n 0, 1) := by decide +kernel
theorem dX4_placeAs_67 : decode cX4_placeAs 67 = .ok (.aload_n 1, 1) := by decide +kernel
theorem dX4_placeAs_68 : decode cX4_placeAs 68 = .ok (.getfield 41, 3) := by decide +kernel
theorem dX4_placeAs_71 : decode cX4_placeAs 71 = .ok (.putfield 41, 3) := by decide +kernel
theorem dX4_placeAs_74 : decode cX4_placeAs 74 = .ok (.aload_n 0, 1) := by decide +kernel
theorem dX4_placeAs_75 : decode cX4_placeAs 75 = .ok (.aload_n 1, 1) := by decide +kernel
theorem dX4_placeAs_76 : decode cX4_placeAs 76 = .ok (.getfield 44, 3) := by decide +kernel
theorem dX4_placeAs_79 : decode cX4_placeAs 79 = .ok (.putfield 44, 3) := by decide +kernel
theorem dX4_placeAs_82 : decode cX4_placeAs 82 = .ok (.aload_n 0, 1) := by decide +kernel
theorem dX4_placeAs_83 : decode cX4_placeAs 83 = .ok (.aload_n 1, 1) := by decide +kernel
theorem dX4_placeAs_84 : decode cX4_placeAs 84 = .ok (.getfield 47, 3) := by decide +kernel
theorem dX4_placeAs_87 : decode cX4_placeAs 87 = .ok (.putfield 47, 3) := by decide +kernel
theorem dX4_placeAs_90 : decode cX4_placeAs 90 = .ok (.aload_n 0, 1) := by decide +kernel
theorem dX4_placeAs_91 : decode cX4_placeAs 91 = .ok (.aload_n 1, 1) := by decide +kernel
theorem dX4_placeAs_92 : decode cX4_placeAs 92 = .ok (.getfield 50, 3) := by decide +kernel
theorem dX4_placeAs_95 : decode cX4_placeAs 95 = .ok (.putfield 50, 3) := by decide +kernel
theorem dX4_placeAs_98 : decode cX4_placeAs 98 = .ok (.aload_n 0, 1) := by decide +kernel
theorem dX4_placeAs_99 : decode cX4_placeAs 99 = .ok (.aload_n 1, 1) := by decide +kernel
theorem dX4_placeAs_100 : decode cX4_placeAs 100 = .ok (.getfield 53, 3) := by decide +kernel
theorem dX4_placeAs_103 : decode cX4_placeAs 103 = .ok (.putfield 53, 3) := by decide +kernel
theorem dX4_placeAs_106 : decode cX4_placeAs 106 = .ok (.return_, 1) := by decide +kernel
def f_X4_placeAs (S : SH) (a0 : Nat) (a1 : Nat) (μ : Mem) : Option (Unit × Mem) :=
  if isO S 4 a0 = true then
  (gR S 4 a1 0).bind fun v1 =>
  (gR S 4 a0 0).bind fun v2 =>
  (cpI S .int v1 0 v2 0 4 μ).bind fun ν3 =>
  (gR S 4 a1 1).bind fun v4 =>
  (gR S 4 a0 1).bind fun v5 =>
  (cpI S .int v4 0 v5 0 4 ν3).bind fun ν6 =>
  (gR S 4 a1 2).bind fun v7 =>
  (gR S 4 a0 2).bind fun v8 =>
  (cpI S .int v7 0 v8 0 4 ν6).bind fun ν9 =>
  (gI S 4 a1 3 ν9).bind fun v10 =>
  (pZ S 4 a0 3 v10 ν9).bind fun ν11 =>
  (gL S 4 a1 4 ν11).bind fun v12 =>
  (pL S 4 a0 4 v12 ν11).bind fun ν13 =>
  (gL S 4 a1 5 ν13).bind fun v14 =>
  (pL S 4 a0 5 v14 ν13).bind fun ν15 =>
  (gL S 4 a1 6 ν15).bind fun v16 =>
  (pL S 4 a0 6 v16 ν15).bind fun ν17 =>
  (gL S 4 a1 7 ν17).bind fun v18 =>
  (pL S 4 a0 7 v18 ν17).bind fun ν19 =>
  (gL S 4 a1 8 ν19).bind fun v20 =>
  (pL S 4 a0 8 v20 ν19).bind fun ν21 =>
  (gL S 4 a1 9 ν21).bind fun v22 =>
  (pL S 4 a0 9 v22 ν21).bind fun ν23 =>
  (gL S 4 a1 10 ν23).bind fun v24 =>
  (pL S 4 a0 10 v24 ν23).bind fun ν25 =>
  some ((), ν25)
  else none
set_option maxRecDepth 100000 in
set_option maxHeartbeats 4000000 in
theorem c_X4_placeAs {l : Launch} {γ : GE} {S : SH} {a0 : Nat} {a1 : Nat} {μ : Mem} {X : (Unit × Mem)} (h : f_X4_placeAs S a0 a1 μ = some X) : isO S 4 a0 = true ∧ Ct l γ yX4_placeAs cX4_placeAs 2 (none) rm_X4_placeAs [.ref (gb γ + a0), .ref (gb γ + a1)] S μ S X.2 none := by
  unfold f_X4_placeAs at h
  obtain ⟨h0, h⟩ := if_some h
  refine ⟨h0, ?_⟩
  have hJ : ∀ (p : Program) (e : Env) (s : State) (m : MethodId) (args : Array Value) (below : List Frame) (meth : Method) (c : Code), FX γ p s m args meth c cX4_placeAs RX4 2 → meth.sig.returnType = (none) → JJ γ p l e rm_X4_placeAs s m args below meth c 2 0 0 (QV below γ S X args s 0 0) S μ 0 [(0, .ref (gb γ + a0)), (1, .ref (gb γ + a1))] [] := by
    intro p e s m args below meth c F hr
    refine j_aload_n F 1 dX4_placeAs_0 rfl ?_
    refine j_gR F fl_RX4_9 rfl dX4_placeAs_1 h (fun v1 h => ?_)
    refine j_iconst F 0 dX4_placeAs_4 (by decide) ?_
    refine j_aload_n F 0 dX4_placeAs_5 rfl ?_
    refine j_gR F fl_RX4_9 rfl dX4_placeAs_6 h (fun v2 h => ?_)
    refine j_iconst F 0 dX4_placeAs_9 (by decide) ?_
    refine j_iconst F 4 dX4_placeAs_10 (by decide) ?_
    refine j_cpI F w_681 ⟨Nat.le_of_ble_eq_true rfl, Nat.le_of_ble_eq_true rfl⟩ dX4_placeAs_11 h (fun ν3 h => ?_)
    refine j_aload_n F 1 dX4_placeAs_14 rfl ?_
    refine j_gR F fl_RX4_15 rfl dX4_placeAs_15 h (fun v4 h => ?_)
    refine j_iconst F 0 dX4_placeAs_18 (by decide) ?_
    refine j_aload_n F 0 dX4_placeAs_19 rfl ?_
    refine j_gR F fl_RX4_15 rfl dX4_placeAs_20 h (fun v5 h => ?_)
    refine j_iconst F 0 dX4_placeAs_23 (by decide) ?_
    refine j_iconst F 4 dX4_placeAs_24 (by decide) ?_
    refine j_cpI F w_681 ⟨Nat.le_of_ble_eq_true rfl, Nat.le_of_ble_eq_true rfl⟩ dX4_placeAs_25 h (fun ν6 h => ?_)
    refine j_aload_n F 1 dX4_placeAs_28 rfl ?_
    refine j_gR F fl_RX4_18 rfl dX4_placeAs_29 h (fun v7 h => ?_)
    refine j_iconst F 0 dX4_placeAs_32 (by decide) ?_
    refine j_aload_n F 0 dX4_placeAs_33 rfl ?_
    refine j_gR F fl_RX4_18 rfl dX4_placeAs_34 h (fun v8 h => ?_)
    refine j_iconst F 0 dX4_placeAs_37 (by decide) ?_
    refine j_iconst F 4 dX4_placeAs_38 (by decide) ?_
    refine j_cpI F w_681 ⟨Nat.le_of_ble_eq_true rfl, Nat.le_of_ble_eq_true rfl⟩ dX4_placeAs_39 h (fun ν9 h => ?_)
    refine j_aload_n F 0 dX4_placeAs_42 rfl ?_
    refine j_aload_n F 1 dX4_placeAs_43 rfl ?_
    refine j_gI F fl_RX4_30.l rfl dX4_placeAs_44 h (fun v10 h => ?_)
    refine j_pZ F fl_RX4_30 rfl dX4_placeAs_47 h (fun ν11 h => ?_)
    refine j_aload_n F 0 dX4_placeAs_50 rfl ?_
    refine j_aload_n F 1 dX4_placeAs_51 rfl ?_
    refine j_gL F fl_RX4_34.l rfl dX4_placeAs_52 h (fun v12 h => ?_)
    refine j_pL F fl_RX4_34 rfl dX4_placeAs_55 h (fun ν13 h => ?_)
    refine j_aload_n F 0 dX4_placeAs_58 rfl ?_
    refine j_aload_n F 1 dX4_placeAs_59 rfl ?_
    refine j_gL F fl_RX4_38.l rfl dX4_placeAs_60 h (fun v14 h => ?_)
    refine j_pL F fl_RX4_38 rfl dX4_placeAs_63 h (fun ν15 h => ?_)
    refine j_aload_n F 0 dX4_placeAs_66 rfl ?_
    refine j_aload_n F 1 dX4_placeAs_67 rfl ?_
    refine j_gL F fl_RX4_41.l rfl dX4_placeAs_68 h (fun v16 h => ?_)
    refine j_pL F fl_RX4_41 rfl dX4_placeAs_71 h (fun ν17 h => ?_)
    refine j_aload_n F 0 dX4_placeAs_74 rfl ?_
    refine j_aload_n F 1 dX4_placeAs_75 rfl ?_
    refine j_gL F fl_RX4_44.l rfl dX4_placeAs_76 h (fun v18 h => ?_)
    refine j_pL F fl_RX4_44 rfl dX4_placeAs_79 h (fun ν19 h => ?_)
    refine j_aload_n F 0 dX4_placeAs_82 rfl ?_
    refine j_aload_n F 1 dX4_placeAs_83 rfl ?_
    refine j_gL F fl_RX4_47.l rfl dX4_placeAs_84 h (fun v20 h => ?_)
    refine j_pL F fl_RX4_47 rfl dX4_placeAs_87 h (fun ν21 h => ?_)
    refine j_aload_n F 0 dX4_placeAs_90 rfl ?_
    refine j_aload_n F 1 dX4_placeAs_91 rfl ?_
    refine j_gL F fl_RX4_50.l rfl dX4_placeAs_92 h (fun v22 h => ?_)
    refine j_pL F fl_RX4_50 rfl dX4_placeAs_95 h (fun ν23 h => ?_)
    refine j_aload_n F 0 dX4_placeAs_98 rfl ?_
    refine j_aload_n F 1 dX4_placeAs_99 rfl ?_
    refine j_gL F fl_RX4_53.l rfl dX4_placeAs_100 h (fun v24 h => ?_)
    refine j_pL F fl_RX4_53 rfl dX4_placeAs_103 h (fun ν25 h => ?_)
    exact j_vret F hr dX4_placeAs_106 h
  exact ct_of (by decide +kernel) (Nat.le_of_ble_eq_true rfl) (fun p e s m args below meth c F hr _ => hJ p e s m args below meth c F hr)
def rm_X5_weighAs : Room := { frames := 1, cells := 0, slots := 0, locals := 60 }
theorem dX5_weighAs_0 : decode cX5_weighAs 0 = .ok (.aload_n 1, 1) := by decide +kernel
theorem dX5_weighAs_1 : decode cX5_weighAs 1 = .ok (.getfield 9, 3) := by decide +kernel
theorem dX5_weighAs_4 : decode cX5_weighAs 4 = .ok (.iconst 0, 1) := by decide +kernel
theorem dX5_weighAs_5 : decode cX5_weighAs 5 = .ok (.aload_n 0, 1) := by decide +kernel
theorem dX5_weighAs_6 : decode cX5_weighAs 6 = .ok (.getfield 9, 3) := by decide +kernel
theorem dX5_weighAs_9 : decode cX5_weighAs 9 = .ok (.iconst 0, 1) := by decide +kernel
theorem dX5_weighAs_10 : decode cX5_weighAs 10 = .ok (.bipush 8, 2) := by decide +kernel
theorem dX5_weighAs_12 : decode cX5_weighAs 12 = .ok (.invokestatic 48, 3) := by decide +kernel
theorem dX5_weighAs_15 : decode cX5_weighAs 15 = .ok (.aload_n 1, 1) := by decide +kernel
theorem dX5_weighAs_16 : decode cX5_weighAs 16 = .ok (.getfield 15, 3) := by decide +kernel
theorem dX5_weighAs_19 : decode cX5_weighAs 19 = .ok (.iconst 0, 1) := by decide +kernel
theorem dX5_weighAs_20 : decode cX5_weighAs 20 = .ok (.aload_n 0, 1) := by decide +kernel
theorem dX5_weighAs_21 : decode cX5_weighAs 21 = .ok (.getfield 15, 3) := by decide +kernel
theorem dX5_weighAs_24 : decode cX5_weighAs 24 = .ok (.iconst 0, 1) := by decide +kernel
theorem dX5_weighAs_25 : decode cX5_weighAs 25 = .ok (.bipush 8, 2) := by decide +kernel
theorem dX5_weighAs_27 : decode cX5_weighAs 27 = .ok (.invokestatic 48, 3) := by decide +kernel
theorem dX5_weighAs_30 : decode cX5_weighAs 30 = .ok (.aload_n 1, 1) := by decide +kernel
theorem dX5_weighAs_31 : decode cX5_weighAs 31 = .ok (.getfield 18, 3) := by decide +kernel
theorem dX5_weighAs_34 : decode cX5_weighAs 34 = .ok (.iconst 0, 1) := by decide +kernel
theorem dX5_weighAs_35 : decode cX5_weighAs 35 = .ok (.aload_n 0, 1) := by decide +kernel
theorem dX5_weighAs_36 : decode cX5_weighAs 36 = .ok (.getfield 18, 3) := by decide +kernel
theorem dX5_weighAs_39 : decode cX5_weighAs 39 = .ok (.iconst 0, 1) := by decide +kernel
theorem dX5_weighAs_40 : decode cX5_weighAs 40 = .ok (.bipush 8, 2) := by decide +kernel
theorem dX5_weighAs_42 : decode cX5_weighAs 42 = .ok (.invokestatic 48, 3) := by decide +kernel
theorem dX5_weighAs_45 : decode cX5_weighAs 45 = .ok (.iconst 0, 1) := by decide +kernel
theorem dX5_weighAs_46 : decode cX5_weighAs 46 = .ok (.istore_n 2, 1) := by decide +kernel
theorem dX5_weighAs_47 : decode cX5_weighAs 47 = .ok (.iload_n 2, 1) := by decide +kernel
theorem dX5_weighAs_48 : decode cX5_weighAs 48 = .ok (.bipush 8, 2) := by decide +kernel
theorem dX5_weighAs_50 : decode cX5_weighAs 50 = .ok (.if_icmp .ge 21, 3) := by decide +kernel
theorem dX5_weighAs_53 : decode cX5_weighAs 53 = .ok (.aload_n 0, 1) := by decide +kernel
theorem dX5_weighAs_54 : decode cX5_weighAs 54 = .ok (.getfield 21, 3) := by decide +kernel
theorem dX5_weighAs_57 : decode cX5_weighAs 57 = .ok (.iload_n 2, 1) := by decide +kernel
theorem dX5_weighAs_58 : decode cX5_weighAs 58 = .ok (.aload_n 1, 1) := by decide +kernel
theorem dX5_weighAs_59 : decode cX5_weighAs 59 = .ok (.getfield 21, 3) := by decide +kernel
theorem dX5_weighAs_62 : decode cX5_weighAs 62 = .ok (.iload_n 2, 1) := by decide +kernel
theorem dX5_weighAs_63 : decode cX5_weighAs 63 = .ok (.baload, 1) := by decide +kernel
theorem dX5_weighAs_64 : decode cX5_weighAs 64 = .ok (.bastore, 1) := by decide +kernel
theorem dX5_weighAs_65 : decode cX5_weighAs 65 = .ok (.iinc 2 1, 3) := by decide +kernel
theorem dX5_weighAs_68 : decode cX5_weighAs 68 = .ok (.goto (-21), 3) := by decide +kernel
theorem dX5_weighAs_71 : decode cX5_weighAs 71 = .ok (.aload_n 0, 1) := by decide +kernel
theorem dX5_weighAs_72 : decode cX5_weighAs 72 = .ok (.aload_n 1, 1) := by decide +kernel
theorem dX5_weighAs_73 : decode cX5_weighAs 73 = .ok (.getfield 25, 3) := by decide +kernel
theorem dX5_weighAs_76 : decode cX5_weighAs 76 = .ok (.putfield 25, 3) := by decide +kernel
theorem dX5_weighAs_79 : decode cX5_weighAs 79 = .ok (.aload_n 0, 1) := by decide +kernel
theorem dX5_weighAs_80 : decode cX5_weighAs 80 = .ok (.aload_n 1, 1) := by decide +kernel
theorem dX5_weighAs_81 : decode cX5_weighAs 81 = .ok (.getfield 33, 3) := by decide +kernel
theorem dX5_weighAs_84 : decode cX5_weighAs 84 = .ok (.putfield 33, 3) := by decide +kernel
theorem dX5_weighAs_87 : decode cX5_weighAs 87 = .ok (.aload_n 0, 1) := by decide +kernel
theorem dX5_weighAs_88 : decode cX5_weighAs 88 = .ok (.aload_n 1, 1) := by decide +kernel
theorem dX5_weighAs_89 : decode cX5_weighAs 89 = .ok (.getfield 42, 3) := by decide +kernel
theorem dX5_weighAs_92 : decode cX5_weighAs 92 = .ok (.putfield 42, 3) := by decide +kernel
theorem dX5_weighAs_95 : decode cX5_weighAs 95 = .ok (.aload_n 0, 1) := by decide +kernel
theorem dX5_weighAs_96 : decode cX5_weighAs 96 = .ok (.aload_n 1, 1) := by decide +kernel
theorem dX5_weighAs_97 : decode cX5_weighAs 97 = .ok (.getfield 45, 3) := by decide +kernel
theorem dX5_weighAs_100 : decode cX5_weighAs 100 = .ok (.putfield 45, 3) := by decide +kernel
theorem dX5_weighAs_103 : decode cX5_weighAs 103 = .ok (.aload_n 0, 1) := by decide +kernel
theorem dX5_weighAs_104 : decode cX5_weighAs 104 = .ok (.aload_n 1, 1) := by decide +kernel
theorem dX5_weighAs_105 : decode cX5_weighAs 105 = .ok (.getfield 36, 3) := by decide +kernel
theorem dX5_weighAs_108 : decode cX5_weighAs 108 = .ok (.putfield 36, 3) := by decide +kernel
theorem dX5_weighAs_111 : decode cX5_weighAs 111 = .ok (.aload_n 0, 1) := by decide +kernel
theorem dX5_weighAs_112 : decode cX5_weighAs 112 = .ok (.aload_n 1, 1) := by decide +kernel
theorem dX5_weighAs_113 : decode cX5_weighAs 113 = .ok (.getfield 39, 3) := by decide +kernel
theorem dX5_weighAs_116 : decode cX5_weighAs 116 = .ok (.putfield 39, 3) := by decide +kernel
theorem dX5_weighAs_119 : decode cX5_weighAs 119 = .ok (.return_, 1) := by decide +kernel
def b_X5_weighAs_71 (S : SH) (a0 : Nat) (a1 : Nat) (μ : Mem) : Option (Unit × Mem) :=
 (gI S 5 a1 4 μ).bind fun v10 =>
 (pI S 5 a0 4 v10 μ).bind fun ν11 =>
 (gI S 5 a1 5 ν11).bind fun v12 =>
 (pI S 5 a0 5 v12 ν11).bind fun ν13 =>
 (gI S 5 a1 6 ν13).bind fun v14 =>
 (pI S 5 a0 6 v14 ν13).bind fun ν15 =>
 (gI S 5 a1 7 ν15).bind fun v16 =>
 (pI S 5 a0 7 v16 ν15).bind fun ν17 =>
 (gI S 5 a1 8 ν17).bind fun v18 =>
 (pI S 5 a0 8 v18 ν17).bind fun ν19 =>
 (gI S 5 a1 9 ν19).bind fun v20 =>
 (pI S 5 a0 9 v20 ν19).bind fun ν21 =>
 some ((), ν21)
set_option maxRecDepth 100000 in
set_option maxHeartbeats 4000000 in
theorem s_X5_weighAs_71 {γ : GE} {p : Program} {l : Launch} {e : Env} {s : State} {m : MethodId} {args : Array Value} {below : List Frame} {meth : Method} {c : Code} {S : SH} {X : (Unit × Mem)} (F : FX γ p s m args meth c cX5_weighAs RX5 3) (hr : meth.sig.returnType = (none)) (a0 : Nat) (a1 : Nat)    (μ : Mem) (h : b_X5_weighAs_71 S a0 a1 μ = some X) : JJ γ p l e rm_X5_weighAs s m args below meth c 3 0 0 (QV below γ S X args s 0 0) S μ 71 [(0, .ref (gb γ + a0)), (1, .ref (gb γ + a1))] [] := by
  unfold b_X5_weighAs_71 at h
  refine j_aload_n F 0 dX5_weighAs_71 rfl ?_
  refine j_aload_n F 1 dX5_weighAs_72 rfl ?_
  refine j_gI F fl_RX5_25.l rfl dX5_weighAs_73 h (fun v10 h => ?_)
  refine j_pI F fl_RX5_25 rfl dX5_weighAs_76 h (fun ν11 h => ?_)
  refine j_aload_n F 0 dX5_weighAs_79 rfl ?_
  refine j_aload_n F 1 dX5_weighAs_80 rfl ?_
  refine j_gI F fl_RX5_33.l rfl dX5_weighAs_81 h (fun v12 h => ?_)
  refine j_pI F fl_RX5_33 rfl dX5_weighAs_84 h (fun ν13 h => ?_)
  refine j_aload_n F 0 dX5_weighAs_87 rfl ?_
  refine j_aload_n F 1 dX5_weighAs_88 rfl ?_
  refine j_gI F fl_RX5_42.l rfl dX5_weighAs_89 h (fun v14 h => ?_)
  refine j_pI F fl_RX5_42 rfl dX5_weighAs_92 h (fun ν15 h => ?_)
  refine j_aload_n F 0 dX5_weighAs_95 rfl ?_
  refine j_aload_n F 1 dX5_weighAs_96 rfl ?_
  refine j_gI F fl_RX5_45.l rfl dX5_weighAs_97 h (fun v16 h => ?_)
  refine j_pI F fl_RX5_45 rfl dX5_weighAs_100 h (fun ν17 h => ?_)
  refine j_aload_n F 0 dX5_weighAs_103 rfl ?_
  refine j_aload_n F 1 dX5_weighAs_104 rfl ?_
  refine j_gI F fl_RX5_36.l rfl dX5_weighAs_105 h (fun v18 h => ?_)
  refine j_pI F fl_RX5_36 rfl dX5_weighAs_108 h (fun ν19 h => ?_)
  refine j_aload_n F 0 dX5_weighAs_111 rfl ?_
  refine j_aload_n F 1 dX5_weighAs_112 rfl ?_
  refine j_gI F fl_RX5_39.l rfl dX5_weighAs_113 h (fun v20 h => ?_)
  refine j_pI F fl_RX5_39 rfl dX5_weighAs_116 h (fun ν21 h => ?_)
  exact j_vret F hr dX5_weighAs_119 h
def l_X5_weighAs_47 (S : SH) (a0 : Nat) (a1 : Nat) (k47 : (Int32 × Mem) → Option (Unit × Mem)) (x : (Int32 × Mem)) : Option (Unit × Mem) :=
 (if 8 ≤ x.1 then
 b_X5_weighAs_71 S a0 a1 x.2
 else
 (gR S 5 a0 3).bind fun v22 =>
 (gR S 5 a1 3).bind fun v23 =>
 (aI S .boolean v23 x.1 x.2).bind fun v24 =>
 (sZ S v22 x.1 v24 x.2).bind fun ν25 =>
 k47 (x.1 + 1, ν25))
set_option maxRecDepth 100000 in
set_option maxHeartbeats 4000000 in
theorem t_X5_weighAs_47 {γ : GE} {p : Program} {l : Launch} {e : Env} {s : State} {m : MethodId} {args : Array Value} {below : List Frame} {meth : Method} {c : Code} {S : SH} {X : (Unit × Mem)} (F : FX γ p s m args meth c cX5_weighAs RX5 3) (hr : meth.sig.returnType = (none)) (a0 : Nat) (a1 : Nat) (k47 : (Int32 × Mem) → Option (Unit × Mem)) (hk47 : ∀ (x47_2 : Int32) (ν : Mem), k47 (x47_2, ν) = some X → JJ γ p l e rm_X5_weighAs s m args below meth c 3 0 0 (QV below γ S X args s 0 0) S ν 47 [(0, .ref (gb γ + a0)), (1, .ref (gb γ + a1)), (2, .int x47_2)] []) (x : (Int32 × Mem)) (h : l_X5_weighAs_47 S a0 a1 k47 x = some X) : JJ γ p l e rm_X5_weighAs s m args below meth c 3 0 0 (QV below γ S X args s 0 0) S x.2 47 [(0, .ref (gb γ + a0)), (1, .ref (gb γ + a1)), (2, .int x.1)] [] := by
  unfold l_X5_weighAs_47 at h
  refine j_iload_n F 2 dX5_weighAs_47 rfl ?_
  refine j_bipush F 8 dX5_weighAs_48 (by decide) ?_
  refine j_icmpge F 71 dX5_weighAs_50 (by decide) h (fun _ h => ?_) (fun _ h => ?_)
  · refine j_lv [(0, .ref (gb γ + a0)), (1, .ref (gb γ + a1))] [0, 1] rfl ?_
    exact s_X5_weighAs_71 F hr _ _ _ h
  · refine j_aload_n F 0 dX5_weighAs_53 rfl ?_
    refine j_gR F fl_RX5_21 rfl dX5_weighAs_54 h (fun v22 h => ?_)
    refine j_iload_n F 2 dX5_weighAs_57 rfl ?_
    refine j_aload_n F 1 dX5_weighAs_58 rfl ?_
    refine j_gR F fl_RX5_21 rfl dX5_weighAs_59 h (fun v23 h => ?_)
    refine j_iload_n F 2 dX5_weighAs_62 rfl ?_
    refine j_zald F dX5_weighAs_63 h (fun v24 h => ?_)
    refine j_zast F dX5_weighAs_64 h (fun ν25 h => ?_)
    refine j_iinc F 1 2 [(2, .int (x.1 + 1)), (0, .ref (gb γ + a0)), (1, .ref (gb γ + a1))] dX5_weighAs_65 rfl (by decide) (by decide) rfl ?_
    refine j_goto F 47 dX5_weighAs_68 (by decide) ?_
    refine j_lv [(0, .ref (gb γ + a0)), (1, .ref (gb γ + a1)), (2, .int (x.1 + 1))] [1, 2, 0] rfl ?_
    exact hk47 _ _ h
theorem s_X5_weighAs_47 {γ : GE} {p : Program} {l : Launch} {e : Env} {s : State} {m : MethodId} {args : Array Value} {below : List Frame} {meth : Method} {c : Code} {S : SH} {X : (Unit × Mem)} (F : FX γ p s m args meth c cX5_weighAs RX5 3) (hr : meth.sig.returnType = (none)) (a0 : Nat) (a1 : Nat) (x47_2 : Int32) (ν : Mem) (h : lpN (l_X5_weighAs_47 S a0 a1) fu (x47_2, ν) = some X) : JJ γ p l e rm_X5_weighAs s m args below meth c 3 0 0 (QV below γ S X args s 0 0) S ν 47 [(0, .ref (gb γ + a0)), (1, .ref (gb γ + a1)), (2, .int x47_2)] [] :=
 lpN_sound (fun x => JJ γ p l e rm_X5_weighAs s m args below meth c 3 0 0 (QV below γ S X args s 0 0) S x.2 47 [(0, .ref (gb γ + a0)), (1, .ref (gb γ + a1)), (2, .int x.1)] []) (fun k47 hk47 x h => t_X5_weighAs_47 F hr a0 a1 k47 (fun x47_2 ν h => hk47 (x47_2, ν) h) x h) fu (x47_2, ν) h
def f_X5_weighAs (S : SH) (a0 : Nat) (a1 : Nat) (μ : Mem) : Option (Unit × Mem) :=
  if isO S 5 a0 = true then
  (gR S 5 a1 0).bind fun v1 =>
  (gR S 5 a0 0).bind fun v2 =>
  (cpI S .int v1 0 v2 0 8 μ).bind fun ν3 =>
  (gR S 5 a1 1).bind fun v4 =>
  (gR S 5 a0 1).bind fun v5 =>
  (cpI S .int v4 0 v5 0 8 ν3).bind fun ν6 =>
  (gR S 5 a1 2).bind fun v7 =>
  (gR S 5 a0 2).bind fun v8 =>
  (cpI S .int v7 0 v8 0 8 ν6).bind fun ν9 =>
  lpN (l_X5_weighAs_47 S  a0 a1) fu (0, ν9)
  else none
set_option maxRecDepth 100000 in
set_option maxHeartbeats 4000000 in
theorem c_X5_weighAs {l : Launch} {γ : GE} {S : SH} {a0 : Nat} {a1 : Nat} {μ : Mem} {X : (Unit × Mem)} (h : f_X5_weighAs S a0 a1 μ = some X) : isO S 5 a0 = true ∧ Ct l γ yX5_weighAs cX5_weighAs 3 (none) rm_X5_weighAs [.ref (gb γ + a0), .ref (gb γ + a1)] S μ S X.2 none := by
  unfold f_X5_weighAs at h
  obtain ⟨h0, h⟩ := if_some h
  refine ⟨h0, ?_⟩
  have hJ : ∀ (p : Program) (e : Env) (s : State) (m : MethodId) (args : Array Value) (below : List Frame) (meth : Method) (c : Code), FX γ p s m args meth c cX5_weighAs RX5 3 → meth.sig.returnType = (none) → JJ γ p l e rm_X5_weighAs s m args below meth c 3 0 0 (QV below γ S X args s 0 0) S μ 0 [(0, .ref (gb γ + a0)), (1, .ref (gb γ + a1))] [] := by
    intro p e s m args below meth c F hr
    refine j_aload_n F 1 dX5_weighAs_0 rfl ?_
    refine j_gR F fl_RX5_9 rfl dX5_weighAs_1 h (fun v1 h => ?_)
    refine j_iconst F 0 dX5_weighAs_4 (by decide) ?_
    refine j_aload_n F 0 dX5_weighAs_5 rfl ?_
    refine j_gR F fl_RX5_9 rfl dX5_weighAs_6 h (fun v2 h => ?_)
    refine j_iconst F 0 dX5_weighAs_9 (by decide) ?_
    refine j_bipush F 8 dX5_weighAs_10 (by decide) ?_
    refine j_cpI F w_688 ⟨Nat.le_of_ble_eq_true rfl, Nat.le_of_ble_eq_true rfl⟩ dX5_weighAs_12 h (fun ν3 h => ?_)
    refine j_aload_n F 1 dX5_weighAs_15 rfl ?_
    refine j_gR F fl_RX5_15 rfl dX5_weighAs_16 h (fun v4 h => ?_)
    refine j_iconst F 0 dX5_weighAs_19 (by decide) ?_
    refine j_aload_n F 0 dX5_weighAs_20 rfl ?_
    refine j_gR F fl_RX5_15 rfl dX5_weighAs_21 h (fun v5 h => ?_)
    refine j_iconst F 0 dX5_weighAs_24 (by decide) ?_
    refine j_bipush F 8 dX5_weighAs_25 (by decide) ?_
    refine j_cpI F w_688 ⟨Nat.le_of_ble_eq_true rfl, Nat.le_of_ble_eq_true rfl⟩ dX5_weighAs_27 h (fun ν6 h => ?_)
    refine j_aload_n F 1 dX5_weighAs_30 rfl ?_
    refine j_gR F fl_RX5_18 rfl dX5_weighAs_31 h (fun v7 h => ?_)
    refine j_iconst F 0 dX5_weighAs_34 (by decide) ?_
    refine j_aload_n F 0 dX5_weighAs_35 rfl ?_
    refine j_gR F fl_RX5_18 rfl dX5_weighAs_36 h (fun v8 h => ?_)
    refine j_iconst F 0 dX5_weighAs_39 (by decide) ?_
    refine j_bipush F 8 dX5_weighAs_40 (by decide) ?_
    refine j_cpI F w_688 ⟨Nat.le_of_ble_eq_true rfl, Nat.le_of_ble_eq_true rfl⟩ dX5_weighAs_42 h (fun ν9 h => ?_)
    refine j_iconst F 0 dX5_weighAs_45 (by decide) ?_
    refine j_istore_n F [(2, .int 0), (0, .ref (gb γ + a0)), (1, .ref (gb γ + a1))] dX5_weighAs_46 rfl (by decide) rfl ?_
    refine j_lv [(0, .ref (gb γ + a0)), (1, .ref (gb γ + a1)), (2, .int 0)] [1, 2, 0] rfl ?_
    exact s_X5_weighAs_47 F hr _ _ _ _ h
  exact ct_of (by decide +kernel) (Nat.le_of_ble_eq_true rfl) (fun p e s m args below meth c F hr _ => hJ p e s m args below meth c F hr)
def rm_X2_become : Room := { frames := 2, cells := 0, slots := 0, locals := 82 }
theorem dX2_become_0 : decode cX2_become 0 = .ok (.aload_n 0, 1) := by decide +kernel
theorem dX2_become_1 : decode cX2_become 1 = .ok (.getfield 12, 3) := by decide +kernel
theorem dX2_become_4 : decode cX2_become 4 = .ok (.aload_n 1, 1) := by decide +kernel
theorem dX2_become_5 : decode cX2_become 5 = .ok (.getfield 12, 3) := by decide +kernel
theorem dX2_become_8 : decode cX2_become 8 = .ok (.invokevirtual 44, 3) := by decide +kernel
theorem dX2_become_11 : decode cX2_become 11 = .ok (.aload_n 0, 1) := by decide +kernel
theorem dX2_become_12 : decode cX2_become 12 = .ok (.getfield 21, 3) := by decide +kernel
theorem dX2_become_15 : decode cX2_become 15 = .ok (.aload_n 1, 1) := by decide +kernel
theorem dX2_become_16 : decode cX2_become 16 = .ok (.getfield 21, 3) := by decide +kernel
theorem dX2_become_19 : decode cX2_become 19 = .ok (.invokevirtual 48, 3) := by decide +kernel
theorem dX2_become_22 : decode cX2_become 22 = .ok (.iconst 0, 1) := by decide +kernel
theorem dX2_become_23 : decode cX2_become 23 = .ok (.istore_n 2, 1) := by decide +kernel
theorem dX2_become_24 : decode cX2_become 24 = .ok (.iload_n 2, 1) := by decide +kernel
theorem dX2_become_25 : decode cX2_become 25 = .ok (.iconst 3, 1) := by decide +kernel
theorem dX2_become_26 : decode cX2_become 26 = .ok (.if_icmp .ge 24, 3) := by decide +kernel
theorem dX2_become_29 : decode cX2_become 29 = .ok (.aload_n 0, 1) := by decide +kernel
theorem dX2_become_30 : decode cX2_become 30 = .ok (.getfield 27, 3) := by decide +kernel
theorem dX2_become_33 : decode cX2_become 33 = .ok (.iload_n 2, 1) := by decide +kernel
theorem dX2_become_34 : decode cX2_become 34 = .ok (.aaload, 1) := by decide +kernel
theorem dX2_become_35 : decode cX2_become 35 = .ok (.aload_n 1, 1) := by decide +kernel
theorem dX2_become_36 : decode cX2_become 36 = .ok (.getfield 27, 3) := by decide +kernel
theorem dX2_become_39 : decode cX2_become 39 = .ok (.iload_n 2, 1) := by decide +kernel
theorem dX2_become_40 : decode cX2_become 40 = .ok (.aaload, 1) := by decide +kernel
theorem dX2_become_41 : decode cX2_become 41 = .ok (.invokevirtual 52, 3) := by decide +kernel
theorem dX2_become_44 : decode cX2_become 44 = .ok (.iinc 2 1, 3) := by decide +kernel
theorem dX2_become_47 : decode cX2_become 47 = .ok (.goto (-23), 3) := by decide +kernel
theorem dX2_become_50 : decode cX2_become 50 = .ok (.aload_n 1, 1) := by decide +kernel
theorem dX2_become_51 : decode cX2_become 51 = .ok (.getfield 41, 3) := by decide +kernel
theorem dX2_become_54 : decode cX2_become 54 = .ok (.iconst 0, 1) := by decide +kernel
theorem dX2_become_55 : decode cX2_become 55 = .ok (.aload_n 0, 1) := by decide +kernel
theorem dX2_become_56 : decode cX2_become 56 = .ok (.getfield 41, 3) := by decide +kernel
theorem dX2_become_59 : decode cX2_become 59 = .ok (.iconst 0, 1) := by decide +kernel
theorem dX2_become_60 : decode cX2_become 60 = .ok (.bipush 14, 2) := by decide +kernel
theorem dX2_become_62 : decode cX2_become 62 = .ok (.invokestatic 56, 3) := by decide +kernel
theorem dX2_become_65 : decode cX2_become 65 = .ok (.return_, 1) := by decide +kernel
def b_X2_become_50 (S : SH) (a0 : Nat) (a1 : Nat) (μ : Mem) : Option (Unit × Mem) :=
 (gR S 2 a1 3).bind fun v7 =>
 (gR S 2 a0 3).bind fun v8 =>
 (cpI S .int v7 0 v8 0 14 μ).bind fun ν9 =>
 some ((), ν9)
set_option maxRecDepth 100000 in
set_option maxHeartbeats 4000000 in
theorem s_X2_become_50 {γ : GE} {p : Program} {l : Launch} {e : Env} {s : State} {m : MethodId} {args : Array Value} {below : List Frame} {meth : Method} {c : Code} {S : SH} {X : (Unit × Mem)} (F : FX γ p s m args meth c cX2_become RX2 3) (hr : meth.sig.returnType = (none)) (a0 : Nat) (a1 : Nat)    (μ : Mem) (h : b_X2_become_50 S a0 a1 μ = some X) : JJ γ p l e rm_X2_become s m args below meth c 3 0 0 (QV below γ S X args s 0 0) S μ 50 [(0, .ref (gb γ + a0)), (1, .ref (gb γ + a1))] [] := by
  unfold b_X2_become_50 at h
  refine j_aload_n F 1 dX2_become_50 rfl ?_
  refine j_gR F fl_RX2_41 rfl dX2_become_51 h (fun v7 h => ?_)
  refine j_iconst F 0 dX2_become_54 (by decide) ?_
  refine j_aload_n F 0 dX2_become_55 rfl ?_
  refine j_gR F fl_RX2_41 rfl dX2_become_56 h (fun v8 h => ?_)
  refine j_iconst F 0 dX2_become_59 (by decide) ?_
  refine j_bipush F 14 dX2_become_60 (by decide) ?_
  refine j_cpI F w_694 ⟨Nat.le_of_ble_eq_true rfl, Nat.le_of_ble_eq_true rfl⟩ dX2_become_62 h (fun ν9 h => ?_)
  exact j_vret F hr dX2_become_65 h
def l_X2_become_24 (S : SH) (a0 : Nat) (a1 : Nat) (k24 : (Int32 × Mem) → Option (Unit × Mem)) (x : (Int32 × Mem)) : Option (Unit × Mem) :=
 (if 3 ≤ x.1 then
 b_X2_become_50 S a0 a1 x.2
 else
 (gR S 2 a0 2).bind fun v10 =>
 (aR S (.object "CranePads$Chart") v10 x.1).bind fun v11 =>
 (gR S 2 a1 2).bind fun v12 =>
 (aR S (.object "CranePads$Chart") v12 x.1).bind fun v13 =>
 (f_X1_readAs S v11 v13 x.2).bind fun q14 =>
 k24 (x.1 + 1, q14.2))
set_option maxRecDepth 100000 in
set_option maxHeartbeats 4000000 in
theorem t_X2_become_24 {γ : GE} {p : Program} {l : Launch} {e : Env} {s : State} {m : MethodId} {args : Array Value} {below : List Frame} {meth : Method} {c : Code} {S : SH} {X : (Unit × Mem)} (F : FX γ p s m args meth c cX2_become RX2 3) (hr : meth.sig.returnType = (none)) (a0 : Nat) (a1 : Nat) (k24 : (Int32 × Mem) → Option (Unit × Mem)) (hk24 : ∀ (x24_2 : Int32) (ν : Mem), k24 (x24_2, ν) = some X → JJ γ p l e rm_X2_become s m args below meth c 3 0 0 (QV below γ S X args s 0 0) S ν 24 [(0, .ref (gb γ + a0)), (1, .ref (gb γ + a1)), (2, .int x24_2)] []) (x : (Int32 × Mem)) (h : l_X2_become_24 S a0 a1 k24 x = some X) : JJ γ p l e rm_X2_become s m args below meth c 3 0 0 (QV below γ S X args s 0 0) S x.2 24 [(0, .ref (gb γ + a0)), (1, .ref (gb γ + a1)), (2, .int x.1)] [] := by
  unfold l_X2_become_24 at h
  refine j_iload_n F 2 dX2_become_24 rfl ?_
  refine j_iconst F 3 dX2_become_25 (by decide) ?_
  refine j_icmpge F 50 dX2_become_26 (by decide) h (fun _ h => ?_) (fun _ h => ?_)
  · refine j_lv [(0, .ref (gb γ + a0)), (1, .ref (gb γ + a1))] [0, 1] rfl ?_
    exact s_X2_become_50 F hr _ _ _ h
  · refine j_aload_n F 0 dX2_become_29 rfl ?_
    refine j_gR F fl_RX2_27 rfl dX2_become_30 h (fun v10 h => ?_)
    refine j_iload_n F 2 dX2_become_33 rfl ?_
    refine j_aald F 4 rfl rfl rfl dX2_become_34 h (fun v11 h => ?_)
    refine j_aload_n F 1 dX2_become_35 rfl ?_
    refine j_gR F fl_RX2_27 rfl dX2_become_36 h (fun v12 h => ?_)
    refine j_iload_n F 2 dX2_become_39 rfl ?_
    refine j_aald F 4 rfl rfl rfl dX2_become_40 h (fun v13 h => ?_)
    refine j_cVV F mi_X1_readAs w_689 (rest := []) h (fun _ g => c_X1_readAs g) rfl rfl (Nat.le_of_ble_eq_true rfl) ⟨Nat.le_of_ble_eq_true rfl, Nat.le_of_ble_eq_true rfl⟩ ⟨Nat.le_of_ble_eq_true rfl, Nat.le_of_ble_eq_true rfl⟩ dX2_become_41 (fun q14 h => ?_)
    refine j_iinc F 1 2 [(2, .int (x.1 + 1)), (0, .ref (gb γ + a0)), (1, .ref (gb γ + a1))] dX2_become_44 rfl (by decide) (by decide) rfl ?_
    refine j_goto F 24 dX2_become_47 (by decide) ?_
    refine j_lv [(0, .ref (gb γ + a0)), (1, .ref (gb γ + a1)), (2, .int (x.1 + 1))] [1, 2, 0] rfl ?_
    exact hk24 _ _ h
theorem s_X2_become_24 {γ : GE} {p : Program} {l : Launch} {e : Env} {s : State} {m : MethodId} {args : Array Value} {below : List Frame} {meth : Method} {c : Code} {S : SH} {X : (Unit × Mem)} (F : FX γ p s m args meth c cX2_become RX2 3) (hr : meth.sig.returnType = (none)) (a0 : Nat) (a1 : Nat) (x24_2 : Int32) (ν : Mem) (h : lpN (l_X2_become_24 S a0 a1) fu (x24_2, ν) = some X) : JJ γ p l e rm_X2_become s m args below meth c 3 0 0 (QV below γ S X args s 0 0) S ν 24 [(0, .ref (gb γ + a0)), (1, .ref (gb γ + a1)), (2, .int x24_2)] [] :=
 lpN_sound (fun x => JJ γ p l e rm_X2_become s m args below meth c 3 0 0 (QV below γ S X args s 0 0) S x.2 24 [(0, .ref (gb γ + a0)), (1, .ref (gb γ + a1)), (2, .int x.1)] []) (fun k24 hk24 x h => t_X2_become_24 F hr a0 a1 k24 (fun x24_2 ν h => hk24 (x24_2, ν) h) x h) fu (x24_2, ν) h
def f_X2_become (S : SH) (a0 : Nat) (a1 : Nat) (μ : Mem) : Option (Unit × Mem) :=
  if isO S 2 a0 = true then
  (gR S 2 a0 0).bind fun v1 =>
  (gR S 2 a1 0).bind fun v2 =>
  (f_X4_placeAs S v1 v2 μ).bind fun q3 =>
  (gR S 2 a0 1).bind fun v4 =>
  (gR S 2 a1 1).bind fun v5 =>
  (f_X5_weighAs S v4 v5 q3.2).bind fun q6 =>
  lpN (l_X2_become_24 S  a0 a1) fu (0, q6.2)
  else none
set_option maxRecDepth 100000 in
set_option maxHeartbeats 4000000 in
theorem c_X2_become {l : Launch} {γ : GE} {S : SH} {a0 : Nat} {a1 : Nat} {μ : Mem} {X : (Unit × Mem)} (h : f_X2_become S a0 a1 μ = some X) : isO S 2 a0 = true ∧ Ct l γ yX2_become cX2_become 3 (none) rm_X2_become [.ref (gb γ + a0), .ref (gb γ + a1)] S μ S X.2 none := by
  unfold f_X2_become at h
  obtain ⟨h0, h⟩ := if_some h
  refine ⟨h0, ?_⟩
  have hJ : ∀ (p : Program) (e : Env) (s : State) (m : MethodId) (args : Array Value) (below : List Frame) (meth : Method) (c : Code), FX γ p s m args meth c cX2_become RX2 3 → meth.sig.returnType = (none) → JJ γ p l e rm_X2_become s m args below meth c 3 0 0 (QV below γ S X args s 0 0) S μ 0 [(0, .ref (gb γ + a0)), (1, .ref (gb γ + a1))] [] := by
    intro p e s m args below meth c F hr
    refine j_aload_n F 0 dX2_become_0 rfl ?_
    refine j_gR F fl_RX2_12 rfl dX2_become_1 h (fun v1 h => ?_)
    refine j_aload_n F 1 dX2_become_4 rfl ?_
    refine j_gR F fl_RX2_12 rfl dX2_become_5 h (fun v2 h => ?_)
    refine j_cVV F mi_X4_placeAs w_677 (rest := []) h (fun _ g => c_X4_placeAs g) rfl rfl (Nat.le_of_ble_eq_true rfl) ⟨Nat.le_of_ble_eq_true rfl, Nat.le_of_ble_eq_true rfl⟩ ⟨Nat.le_of_ble_eq_true rfl, Nat.le_of_ble_eq_true rfl⟩ dX2_become_8 (fun q3 h => ?_)
    refine j_aload_n F 0 dX2_become_11 rfl ?_
    refine j_gR F fl_RX2_21 rfl dX2_become_12 h (fun v4 h => ?_)
    refine j_aload_n F 1 dX2_become_15 rfl ?_
    refine j_gR F fl_RX2_21 rfl dX2_become_16 h (fun v5 h => ?_)
    refine j_cVV F mi_X5_weighAs w_684 (rest := []) h (fun _ g => c_X5_weighAs g) rfl rfl (Nat.le_of_ble_eq_true rfl) ⟨Nat.le_of_ble_eq_true rfl, Nat.le_of_ble_eq_true rfl⟩ ⟨Nat.le_of_ble_eq_true rfl, Nat.le_of_ble_eq_true rfl⟩ dX2_become_19 (fun q6 h => ?_)
    refine j_iconst F 0 dX2_become_22 (by decide) ?_
    refine j_istore_n F [(2, .int 0), (0, .ref (gb γ + a0)), (1, .ref (gb γ + a1))] dX2_become_23 rfl (by decide) rfl ?_
    refine j_lv [(0, .ref (gb γ + a0)), (1, .ref (gb γ + a1)), (2, .int 0)] [1, 2, 0] rfl ?_
    exact s_X2_become_24 F hr _ _ _ _ h
  exact ct_of (by decide +kernel) (Nat.le_of_ble_eq_true rfl) (fun p e s m args below meth c F hr _ => hJ p e s m args below meth c F hr)
def rm_X2_hanging : Room := { frames := 0, cells := 0, slots := 0, locals := 0 }
theorem dX2_hanging_0 : decode cX2_hanging 0 = .ok (.aload_n 0, 1) := by decide +kernel
theorem dX2_hanging_1 : decode cX2_hanging 1 = .ok (.getfield 41, 3) := by decide +kernel
theorem dX2_hanging_4 : decode cX2_hanging 4 = .ok (.iconst 3, 1) := by decide +kernel
theorem dX2_hanging_5 : decode cX2_hanging 5 = .ok (.iaload, 1) := by decide +kernel
theorem dX2_hanging_6 : decode cX2_hanging 6 = .ok (.aload_n 0, 1) := by decide +kernel
theorem dX2_hanging_7 : decode cX2_hanging 7 = .ok (.getfield 41, 3) := by decide +kernel
theorem dX2_hanging_10 : decode cX2_hanging 10 = .ok (.iconst 2, 1) := by decide +kernel
theorem dX2_hanging_11 : decode cX2_hanging 11 = .ok (.iaload, 1) := by decide +kernel
theorem dX2_hanging_12 : decode cX2_hanging 12 = .ok (.iadd, 1) := by decide +kernel
theorem dX2_hanging_13 : decode cX2_hanging 13 = .ok (.ireturn, 1) := by decide +kernel
def f_X2_hanging (S : SH) (a0 : Nat) (μ : Mem) : Option (Int32 × Mem) :=
  if isO S 2 a0 = true then
  (gR S 2 a0 3).bind fun v1 =>
  (aI S .int v1 3 μ).bind fun v2 =>
  (gR S 2 a0 3).bind fun v3 =>
  (aI S .int v3 2 μ).bind fun v4 =>
  some (v2 + v4, μ)
  else none
set_option maxRecDepth 100000 in
set_option maxHeartbeats 4000000 in
theorem c_X2_hanging {l : Launch} {γ : GE} {S : SH} {a0 : Nat} {μ : Mem} {X : (Int32 × Mem)} (h : f_X2_hanging S a0 μ = some X) : isO S 2 a0 = true ∧ Ct l γ yX2_hanging cX2_hanging 1 (some .int) rm_X2_hanging [.ref (gb γ + a0)] S μ S X.2 (some (.int X.1)) := by
  unfold f_X2_hanging at h
  obtain ⟨h0, h⟩ := if_some h
  refine ⟨h0, ?_⟩
  have hJ : ∀ (p : Program) (e : Env) (s : State) (m : MethodId) (args : Array Value) (below : List Frame) (meth : Method) (c : Code), FX γ p s m args meth c cX2_hanging RX2 1 → meth.sig.returnType = (some .int) → JJ γ p l e rm_X2_hanging s m args below meth c 1 0 0 (QI below γ S X args s 0 0) S μ 0 [(0, .ref (gb γ + a0))] [] := by
    intro p e s m args below meth c F hr
    refine j_aload_n F 0 dX2_hanging_0 rfl ?_
    refine j_gR F fl_RX2_41 rfl dX2_hanging_1 h (fun v1 h => ?_)
    refine j_iconst F 3 dX2_hanging_4 (by decide) ?_
    refine j_iald F dX2_hanging_5 h (fun v2 h => ?_)
    refine j_aload_n F 0 dX2_hanging_6 rfl ?_
    refine j_gR F fl_RX2_41 rfl dX2_hanging_7 h (fun v3 h => ?_)
    refine j_iconst F 2 dX2_hanging_10 (by decide) ?_
    refine j_iald F dX2_hanging_11 h (fun v4 h => ?_)
    refine j_iadd F dX2_hanging_12 ?_
    exact j_iret F hr dX2_hanging_13 h
  exact ct_of (by decide +kernel) (Nat.le_of_ble_eq_true rfl) (fun p e s m args below meth c F hr _ => hJ p e s m args below meth c F hr)
def rm_X2_wholeMass : Room := { frames := 1, cells := 0, slots := 0, locals := 20 }
theorem dX2_wholeMass_0 : decode cX2_wholeMass 0 = .ok (.aload_n 0, 1) := by decide +kernel
theorem dX2_wholeMass_1 : decode cX2_wholeMass 1 = .ok (.getfield 21, 3) := by decide +kernel
theorem dX2_wholeMass_4 : decode cX2_wholeMass 4 = .ok (.getfield 62, 3) := by decide +kernel
theorem dX2_wholeMass_7 : decode cX2_wholeMass 7 = .ok (.aload_n 0, 1) := by decide +kernel
theorem dX2_wholeMass_8 : decode cX2_wholeMass 8 = .ok (.invokevirtual 66, 3) := by decide +kernel
theorem dX2_wholeMass_11 : decode cX2_wholeMass 11 = .ok (.iadd, 1) := by decide +kernel
theorem dX2_wholeMass_12 : decode cX2_wholeMass 12 = .ok (.ireturn, 1) := by decide +kernel
def f_X2_wholeMass (S : SH) (a0 : Nat) (μ : Mem) : Option (Int32 × Mem) :=
  if isO S 2 a0 = true then
  (gR S 2 a0 1).bind fun v1 =>
  (gI S 5 v1 5 μ).bind fun v2 =>
  (f_X2_hanging S a0 μ).bind fun q3 =>
  some (v2 + q3.1, q3.2)
  else none
set_option maxRecDepth 100000 in
set_option maxHeartbeats 4000000 in
theorem c_X2_wholeMass {l : Launch} {γ : GE} {S : SH} {a0 : Nat} {μ : Mem} {X : (Int32 × Mem)} (h : f_X2_wholeMass S a0 μ = some X) : isO S 2 a0 = true ∧ Ct l γ yX2_wholeMass cX2_wholeMass 1 (some .int) rm_X2_wholeMass [.ref (gb γ + a0)] S μ S X.2 (some (.int X.1)) := by
  unfold f_X2_wholeMass at h
  obtain ⟨h0, h⟩ := if_some h
  refine ⟨h0, ?_⟩
  have hJ : ∀ (p : Program) (e : Env) (s : State) (m : MethodId) (args : Array Value) (below : List Frame) (meth : Method) (c : Code), FX γ p s m args meth c cX2_wholeMass RX2 1 → meth.sig.returnType = (some .int) → JJ γ p l e rm_X2_wholeMass s m args below meth c 1 0 0 (QI below γ S X args s 0 0) S μ 0 [(0, .ref (gb γ + a0))] [] := by
    intro p e s m args below meth c F hr
    refine j_aload_n F 0 dX2_wholeMass_0 rfl ?_
    refine j_gR F fl_RX2_21 rfl dX2_wholeMass_1 h (fun v1 h => ?_)
    refine j_gI F fl_RX2_62.l rfl dX2_wholeMass_4 h (fun v2 h => ?_)
    refine j_aload_n F 0 dX2_wholeMass_7 rfl ?_
    refine j_cVI F mi_X2_hanging w_562 (rest := [.int v2]) h (fun _ g => c_X2_hanging g) rfl rfl (Nat.le_of_ble_eq_true rfl) ⟨Nat.le_of_ble_eq_true rfl, Nat.le_of_ble_eq_true rfl⟩ ⟨Nat.le_of_ble_eq_true rfl, Nat.le_of_ble_eq_true rfl⟩ dX2_wholeMass_8 (fun q3 h => ?_)
    refine j_iadd F dX2_wholeMass_11 ?_
    exact j_iret F hr dX2_wholeMass_12 h
  exact ct_of (by decide +kernel) (Nat.le_of_ble_eq_true rfl) (fun p e s m args below meth c F hr _ => hJ p e s m args below meth c F hr)
