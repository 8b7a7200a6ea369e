def rm_X11_most : Room := { frames := 4, cells := 0, slots := 0, locals := 104 }
theorem dX11_most_0 : decode cX11_most 0 = .ok (.aload_n 0, 1) := by decide +kernel
theorem dX11_most_1 : decode cX11_most 1 = .ok (.getfield 21, 3) := by decide +kernel
theorem dX11_most_4 : decode cX11_most 4 = .ok (.aload_n 0, 1) := by decide +kernel
theorem dX11_most_5 : decode cX11_most 5 = .ok (.getfield 12, 3) := by decide +kernel
theorem dX11_most_8 : decode cX11_most 8 = .ok (.invokevirtual 234, 3) := by decide +kernel
theorem dX11_most_11 : decode cX11_most 11 = .ok (.sipush 999, 3) := by decide +kernel
theorem dX11_most_14 : decode cX11_most 14 = .ok (.istore_n 1, 1) := by decide +kernel
theorem dX11_most_15 : decode cX11_most 15 = .ok (.iload_n 1, 1) := by decide +kernel
theorem dX11_most_16 : decode cX11_most 16 = .ok (.ifCond .lt 35, 3) := by decide +kernel
theorem dX11_most_19 : decode cX11_most 19 = .ok (.aload_n 0, 1) := by decide +kernel
theorem dX11_most_20 : decode cX11_most 20 = .ok (.getfield 21, 3) := by decide +kernel
theorem dX11_most_23 : decode cX11_most 23 = .ok (.getfield 136, 3) := by decide +kernel
theorem dX11_most_26 : decode cX11_most 26 = .ok (.iconst 3, 1) := by decide +kernel
theorem dX11_most_27 : decode cX11_most 27 = .ok (.iload_n 1, 1) := by decide +kernel
theorem dX11_most_28 : decode cX11_most 28 = .ok (.iastore, 1) := by decide +kernel
theorem dX11_most_29 : decode cX11_most 29 = .ok (.aload_n 0, 1) := by decide +kernel
theorem dX11_most_30 : decode cX11_most 30 = .ok (.getfield 27, 3) := by decide +kernel
theorem dX11_most_33 : decode cX11_most 33 = .ok (.aload_n 0, 1) := by decide +kernel
theorem dX11_most_34 : decode cX11_most 34 = .ok (.getfield 21, 3) := by decide +kernel
theorem dX11_most_37 : decode cX11_most 37 = .ok (.invokevirtual 230, 3) := by decide +kernel
theorem dX11_most_40 : decode cX11_most 40 = .ok (.ifCond .ne 5, 3) := by decide +kernel
theorem dX11_most_43 : decode cX11_most 43 = .ok (.iload_n 1, 1) := by decide +kernel
theorem dX11_most_44 : decode cX11_most 44 = .ok (.ireturn, 1) := by decide +kernel
theorem dX11_most_45 : decode cX11_most 45 = .ok (.iinc 1 (-1), 3) := by decide +kernel
theorem dX11_most_48 : decode cX11_most 48 = .ok (.goto (-33), 3) := by decide +kernel
theorem dX11_most_51 : decode cX11_most 51 = .ok (.bipush (-5), 2) := by decide +kernel
theorem dX11_most_53 : decode cX11_most 53 = .ok (.ireturn, 1) := by decide +kernel
def l_X11_most_15 (S : SH) (a0 : Nat) (k15 : (Int32 × Mem) → Option (Int32 × Mem)) (x : (Int32 × Mem)) : Option (Int32 × Mem) :=
 (if x.1 < 0 then
 some ((-5), x.2)
 else
 (gR S 11 a0 2).bind fun v4 =>
 (gR S 2 v4 3).bind fun v5 =>
 (sI S v5 3 x.1 x.2).bind fun ν6 =>
 (gR S 11 a0 3).bind fun v7 =>
 (gR S 11 a0 2).bind fun v8 =>
 (f_X3_verdict S v7 v8 ν6).bind fun q9 =>
 (if q9.1 = 0 then
 some (x.1, q9.2)
 else
 k15 (x.1 + (-1), q9.2)))
set_option maxRecDepth 100000 in
set_option maxHeartbeats 4000000 in
theorem t_X11_most_15 {γ : GE} {p : Program} {l : Launch} {e : Env} {s : State} {m : MethodId} {args : Array Value} {below : List Frame} {meth : Method} {c : Code} {S : SH} {X : (Int32 × Mem)} (F : FX γ p s m args meth c cX11_most RX11 2) (hr : meth.sig.returnType = (some .int)) (a0 : Nat) (k15 : (Int32 × Mem) → Option (Int32 × Mem)) (hk15 : ∀ (x15_1 : Int32) (ν : Mem), k15 (x15_1, ν) = some X → JJ γ p l e rm_X11_most s m args below meth c 2 0 0 (QI below γ S X args s 0 0) S ν 15 [(0, .ref (gb γ + a0)), (1, .int x15_1)] []) (x : (Int32 × Mem)) (h : l_X11_most_15 S a0 k15 x = some X) : JJ γ p l e rm_X11_most s m args below meth c 2 0 0 (QI below γ S X args s 0 0) S x.2 15 [(0, .ref (gb γ + a0)), (1, .int x.1)] [] := by
  unfold l_X11_most_15 at h
  refine j_iload_n F 1 dX11_most_15 rfl ?_
  refine j_iflt F 51 dX11_most_16 (by decide) h (fun _ h => ?_) (fun _ h => ?_)
  · refine j_bipush F (-5) dX11_most_51 (by decide) ?_
    exact j_iret F hr dX11_most_53 h
  · refine j_aload_n F 0 dX11_most_19 rfl ?_
    refine j_gR F fl_RX11_21 rfl dX11_most_20 h (fun v4 h => ?_)
    refine j_gR F fl_RX11_136 rfl dX11_most_23 h (fun v5 h => ?_)
    refine j_iconst F 3 dX11_most_26 (by decide) ?_
    refine j_iload_n F 1 dX11_most_27 rfl ?_
    refine j_iast F dX11_most_28 h (fun ν6 h => ?_)
    refine j_aload_n F 0 dX11_most_29 rfl ?_
    refine j_gR F fl_RX11_27 rfl dX11_most_30 h (fun v7 h => ?_)
    refine j_aload_n F 0 dX11_most_33 rfl ?_
    refine j_gR F fl_RX11_21 rfl dX11_most_34 h (fun v8 h => ?_)
    refine j_cVI F mi_X3_verdict w_668 (rest := []) h (fun _ g => c_X3_verdict g) rfl rfl (Nat.le_of_ble_eq_true rfl) ⟨Nat.le_of_ble_eq_true rfl, Nat.le_of_ble_eq_true rfl⟩ ⟨Nat.le_of_ble_eq_true rfl, Nat.le_of_ble_eq_true rfl⟩ dX11_most_37 (fun q9 h => ?_)
    refine j_ifne F 45 dX11_most_40 (by decide) h (fun _ h => ?_) (fun _ h => ?_)
    · refine j_iinc F (-1) 1 [(1, .int (x.1 + (-1))), (0, .ref (gb γ + a0))] dX11_most_45 rfl (by decide) (by decide) rfl ?_
      refine j_goto F 15 dX11_most_48 (by decide) ?_
      refine j_lv [(0, .ref (gb γ + a0)), (1, .int (x.1 + (-1)))] [1, 0] rfl ?_
      exact hk15 _ _ h
    · refine j_iload_n F 1 dX11_most_43 rfl ?_
      exact j_iret F hr dX11_most_44 h
theorem s_X11_most_15 {γ : GE} {p : Program} {l : Launch} {e : Env} {s : State} {m : MethodId} {args : Array Value} {below : List Frame} {meth : Method} {c : Code} {S : SH} {X : (Int32 × Mem)} (F : FX γ p s m args meth c cX11_most RX11 2) (hr : meth.sig.returnType = (some .int)) (a0 : Nat) (x15_1 : Int32) (ν : Mem) (h : lpN (l_X11_most_15 S a0) fu (x15_1, ν) = some X) : JJ γ p l e rm_X11_most s m args below meth c 2 0 0 (QI below γ S X args s 0 0) S ν 15 [(0, .ref (gb γ + a0)), (1, .int x15_1)] [] :=
 lpN_sound (fun x => JJ γ p l e rm_X11_most s m args below meth c 2 0 0 (QI below γ S X args s 0 0) S x.2 15 [(0, .ref (gb γ + a0)), (1, .int x.1)] []) (fun k15 hk15 x h => t_X11_most_15 F hr a0 k15 (fun x15_1 ν h => hk15 (x15_1, ν) h) x h) fu (x15_1, ν) h
def f_X11_most (S : SH) (a0 : Nat) (μ : Mem) : Option (Int32 × Mem) :=
  if isO S 11 a0 = true then
  (gR S 11 a0 2).bind fun v1 =>
  (gR S 11 a0 0).bind fun v2 =>
  (f_X2_become S v1 v2 μ).bind fun q3 =>
  lpN (l_X11_most_15 S  a0) fu (999, q3.2)
  else none
set_option maxRecDepth 100000 in
set_option maxHeartbeats 4000000 in
theorem c_X11_most {l : Launch} {γ : GE} {S : SH} {a0 : Nat} {μ : Mem} {X : (Int32 × Mem)} (h : f_X11_most S a0 μ = some X) : isO S 11 a0 = true ∧ Ct l γ yX11_most cX11_most 2 (some .int) rm_X11_most [.ref (gb γ + a0)] S μ S X.2 (some (.int X.1)) := by
  unfold f_X11_most at h
  obtain ⟨h0, h⟩ := if_some h
  refine ⟨h0, ?_⟩
  have hJ : ∀ (p : Program) (e : Env) (s : State) (m : MethodId) (args : Array Value) (below : List Frame) (meth : Method) (c : Code), FX γ p s m args meth c cX11_most RX11 2 → meth.sig.returnType = (some .int) → JJ γ p l e rm_X11_most s m args below meth c 2 0 0 (QI below γ S X args s 0 0) S μ 0 [(0, .ref (gb γ + a0))] [] := by
    intro p e s m args below meth c F hr
    refine j_aload_n F 0 dX11_most_0 rfl ?_
    refine j_gR F fl_RX11_21 rfl dX11_most_1 h (fun v1 h => ?_)
    refine j_aload_n F 0 dX11_most_4 rfl ?_
    refine j_gR F fl_RX11_12 rfl dX11_most_5 h (fun v2 h => ?_)
    refine j_cVV F mi_X2_become w_673 (rest := []) h (fun _ g => c_X2_become g) rfl rfl (Nat.le_of_ble_eq_true rfl) ⟨Nat.le_of_ble_eq_true rfl, Nat.le_of_ble_eq_true rfl⟩ ⟨Nat.le_of_ble_eq_true rfl, Nat.le_of_ble_eq_true rfl⟩ dX11_most_8 (fun q3 h => ?_)
    refine j_sipush F 999 dX11_most_11 (by decide) ?_
    refine j_istore_n F [(1, .int 999), (0, .ref (gb γ + a0))] dX11_most_14 rfl (by decide) rfl ?_
    refine j_lv [(0, .ref (gb γ + a0)), (1, .int 999)] [1, 0] rfl ?_
    exact s_X11_most_15 F hr _ _ _ h
  exact ct_of (by decide +kernel) (Nat.le_of_ble_eq_true rfl) (fun p e s m args below meth c F hr _ => hJ p e s m args below meth c F hr)
def rm_X11_where : Room := { frames := 5, cells := 0, slots := 0, locals := 115 }
theorem dX11_where_0 : decode cX11_where 0 = .ok (.iconst 1, 1) := by decide +kernel
theorem dX11_where_1 : decode cX11_where 1 = .ok (.iload_n 1, 1) := by decide +kernel
theorem dX11_where_2 : decode cX11_where 2 = .ok (.invokestatic 132, 3) := by decide +kernel
theorem dX11_where_5 : decode cX11_where 5 = .ok (.ifCond .ne 6, 3) := by decide +kernel
theorem dX11_where_8 : decode cX11_where 8 = .ok (.bipush (-2), 2) := by decide +kernel
theorem dX11_where_10 : decode cX11_where 10 = .ok (.ireturn, 1) := by decide +kernel
theorem dX11_where_11 : decode cX11_where 11 = .ok (.aload_n 0, 1) := by decide +kernel
theorem dX11_where_12 : decode cX11_where 12 = .ok (.getfield 21, 3) := by decide +kernel
theorem dX11_where_15 : decode cX11_where 15 = .ok (.aload_n 0, 1) := by decide +kernel
theorem dX11_where_16 : decode cX11_where 16 = .ok (.getfield 12, 3) := by decide +kernel
theorem dX11_where_19 : decode cX11_where 19 = .ok (.invokevirtual 234, 3) := by decide +kernel
theorem dX11_where_22 : decode cX11_where 22 = .ok (.aload_n 0, 1) := by decide +kernel
theorem dX11_where_23 : decode cX11_where 23 = .ok (.getfield 27, 3) := by decide +kernel
theorem dX11_where_26 : decode cX11_where 26 = .ok (.aload_n 0, 1) := by decide +kernel
theorem dX11_where_27 : decode cX11_where 27 = .ok (.getfield 21, 3) := by decide +kernel
theorem dX11_where_30 : decode cX11_where 30 = .ok (.iload_n 1, 1) := by decide +kernel
theorem dX11_where_31 : decode cX11_where 31 = .ok (.invokevirtual 237, 3) := by decide +kernel
theorem dX11_where_34 : decode cX11_where 34 = .ok (.ireturn, 1) := by decide +kernel
def f_X11_where (S : SH) (a0 : Nat) (a1 : Int32) (μ : Mem) : Option (Int32 × Mem) :=
  if isO S 11 a0 = true then
  (f_X11_fitsDial S 1 a1 μ).bind fun q1 =>
  (if q1.1 = 0 then
  some ((-2), q1.2)
  else
  (gR S 11 a0 2).bind fun v2 =>
  (gR S 11 a0 0).bind fun v3 =>
  (f_X2_become S v2 v3 q1.2).bind fun q4 =>
  (gR S 11 a0 3).bind fun v5 =>
  (gR S 11 a0 2).bind fun v6 =>
  (f_X3_lawfulDirections S v5 v6 a1 q4.2).bind fun q7 =>
  some (q7.1, q7.2))
  else none
set_option maxRecDepth 100000 in
set_option maxHeartbeats 4000000 in
theorem c_X11_where {l : Launch} {γ : GE} {S : SH} {a0 : Nat} {a1 : Int32} {μ : Mem} {X : (Int32 × Mem)} (h : f_X11_where S a0 a1 μ = some X) : isO S 11 a0 = true ∧ Ct l γ yX11_where cX11_where 2 (some .int) rm_X11_where [.ref (gb γ + a0), .int a1] S μ S X.2 (some (.int X.1)) := by
  unfold f_X11_where at h
  obtain ⟨h0, h⟩ := if_some h
  refine ⟨h0, ?_⟩
  have hJ : ∀ (p : Program) (e : Env) (s : State) (m : MethodId) (args : Array Value) (below : List Frame) (meth : Method) (c : Code), FX γ p s m args meth c cX11_where RX11 2 → meth.sig.returnType = (some .int) → JJ γ p l e rm_X11_where s m args below meth c 2 0 0 (QI below γ S X args s 0 0) S μ 0 [(0, .ref (gb γ + a0)), (1, .int a1)] [] := by
    intro p e s m args below meth c F hr
    refine j_iconst F 1 dX11_where_0 (by decide) ?_
    refine j_iload_n F 1 dX11_where_1 rfl ?_
    refine j_cSI F mi_X11_fitsDial w_502 (rest := []) h (fun _ g => c_X11_fitsDial g) rfl rfl (Nat.le_of_ble_eq_true rfl) ⟨Nat.le_of_ble_eq_true rfl, Nat.le_of_ble_eq_true rfl⟩ ⟨Nat.le_of_ble_eq_true rfl, Nat.le_of_ble_eq_true rfl⟩ dX11_where_2 (fun q1 h => ?_)
    refine j_ifne F 11 dX11_where_5 (by decide) h (fun _ h => ?_) (fun _ h => ?_)
    · refine j_aload_n F 0 dX11_where_11 rfl ?_
      refine j_gR F fl_RX11_21 rfl dX11_where_12 h (fun v2 h => ?_)
      refine j_aload_n F 0 dX11_where_15 rfl ?_
      refine j_gR F fl_RX11_12 rfl dX11_where_16 h (fun v3 h => ?_)
      refine j_cVV F mi_X2_become w_673 (rest := []) h (fun _ g => c_X2_become g) rfl rfl (Nat.le_of_ble_eq_true rfl) ⟨Nat.le_of_ble_eq_true rfl, Nat.le_of_ble_eq_true rfl⟩ ⟨Nat.le_of_ble_eq_true rfl, Nat.le_of_ble_eq_true rfl⟩ dX11_where_19 (fun q4 h => ?_)
      refine j_aload_n F 0 dX11_where_22 rfl ?_
      refine j_gR F fl_RX11_27 rfl dX11_where_23 h (fun v5 h => ?_)
      refine j_aload_n F 0 dX11_where_26 rfl ?_
      refine j_gR F fl_RX11_21 rfl dX11_where_27 h (fun v6 h => ?_)
      refine j_iload_n F 1 dX11_where_30 rfl ?_
      refine j_cVI F mi_X3_lawfulDirections w_699 (rest := []) h (fun _ g => c_X3_lawfulDirections g) rfl rfl (Nat.le_of_ble_eq_true rfl) ⟨Nat.le_of_ble_eq_true rfl, Nat.le_of_ble_eq_true rfl⟩ ⟨Nat.le_of_ble_eq_true rfl, Nat.le_of_ble_eq_true rfl⟩ dX11_where_31 (fun q7 h => ?_)
      exact j_iret F hr dX11_where_34 h
    · refine j_bipush F (-2) dX11_where_8 (by decide) ?_
      exact j_iret F hr dX11_where_10 h
  exact ct_of (by decide +kernel) (Nat.le_of_ble_eq_true rfl) (fun p e s m args below meth c F hr _ => hJ p e s m args below meth c F hr)
def rm_X11_farthest : Room := { frames := 4, cells := 0, slots := 0, locals := 104 }
theorem dX11_farthest_0 : decode cX11_farthest 0 = .ok (.iconst 0, 1) := by decide +kernel
theorem dX11_farthest_1 : decode cX11_farthest 1 = .ok (.iload_n 1, 1) := by decide +kernel
theorem dX11_farthest_2 : decode cX11_farthest 2 = .ok (.invokestatic 132, 3) := by decide +kernel
theorem dX11_farthest_5 : decode cX11_farthest 5 = .ok (.ifCond .ne 5, 3) := by decide +kernel
theorem dX11_farthest_8 : decode cX11_farthest 8 = .ok (.iconst (-1), 1) := by decide +kernel
theorem dX11_farthest_9 : decode cX11_farthest 9 = .ok (.ireturn, 1) := by decide +kernel
theorem dX11_farthest_10 : decode cX11_farthest 10 = .ok (.aload_n 0, 1) := by decide +kernel
theorem dX11_farthest_11 : decode cX11_farthest 11 = .ok (.getfield 21, 3) := by decide +kernel
theorem dX11_farthest_14 : decode cX11_farthest 14 = .ok (.aload_n 0, 1) := by decide +kernel
theorem dX11_farthest_15 : decode cX11_farthest 15 = .ok (.getfield 12, 3) := by decide +kernel
theorem dX11_farthest_18 : decode cX11_farthest 18 = .ok (.invokevirtual 234, 3) := by decide +kernel
theorem dX11_farthest_21 : decode cX11_farthest 21 = .ok (.aload_n 0, 1) := by decide +kernel
theorem dX11_farthest_22 : decode cX11_farthest 22 = .ok (.getfield 21, 3) := by decide +kernel
theorem dX11_farthest_25 : decode cX11_farthest 25 = .ok (.getfield 136, 3) := by decide +kernel
theorem dX11_farthest_28 : decode cX11_farthest 28 = .ok (.iconst 0, 1) := by decide +kernel
theorem dX11_farthest_29 : decode cX11_farthest 29 = .ok (.iload_n 1, 1) := by decide +kernel
theorem dX11_farthest_30 : decode cX11_farthest 30 = .ok (.iastore, 1) := by decide +kernel
theorem dX11_farthest_31 : decode cX11_farthest 31 = .ok (.bipush 60, 2) := by decide +kernel
theorem dX11_farthest_33 : decode cX11_farthest 33 = .ok (.istore_n 2, 1) := by decide +kernel
theorem dX11_farthest_34 : decode cX11_farthest 34 = .ok (.iload_n 2, 1) := by decide +kernel
theorem dX11_farthest_35 : decode cX11_farthest 35 = .ok (.ifCond .lt 35, 3) := by decide +kernel
theorem dX11_farthest_38 : decode cX11_farthest 38 = .ok (.aload_n 0, 1) := by decide +kernel
theorem dX11_farthest_39 : decode cX11_farthest 39 = .ok (.getfield 21, 3) := by decide +kernel
theorem dX11_farthest_42 : decode cX11_farthest 42 = .ok (.getfield 136, 3) := by decide +kernel
theorem dX11_farthest_45 : decode cX11_farthest 45 = .ok (.iconst 1, 1) := by decide +kernel
theorem dX11_farthest_46 : decode cX11_farthest 46 = .ok (.iload_n 2, 1) := by decide +kernel
theorem dX11_farthest_47 : decode cX11_farthest 47 = .ok (.iastore, 1) := by decide +kernel
theorem dX11_farthest_48 : decode cX11_farthest 48 = .ok (.aload_n 0, 1) := by decide +kernel
theorem dX11_farthest_49 : decode cX11_farthest 49 = .ok (.getfield 27, 3) := by decide +kernel
theorem dX11_farthest_52 : decode cX11_farthest 52 = .ok (.aload_n 0, 1) := by decide +kernel
theorem dX11_farthest_53 : decode cX11_farthest 53 = .ok (.getfield 21, 3) := by decide +kernel
theorem dX11_farthest_56 : decode cX11_farthest 56 = .ok (.invokevirtual 230, 3) := by decide +kernel
theorem dX11_farthest_59 : decode cX11_farthest 59 = .ok (.ifCond .ne 5, 3) := by decide +kernel
theorem dX11_farthest_62 : decode cX11_farthest 62 = .ok (.iload_n 2, 1) := by decide +kernel
theorem dX11_farthest_63 : decode cX11_farthest 63 = .ok (.ireturn, 1) := by decide +kernel
theorem dX11_farthest_64 : decode cX11_farthest 64 = .ok (.iinc 2 (-1), 3) := by decide +kernel
theorem dX11_farthest_67 : decode cX11_farthest 67 = .ok (.goto (-33), 3) := by decide +kernel
theorem dX11_farthest_70 : decode cX11_farthest 70 = .ok (.bipush (-5), 2) := by decide +kernel
theorem dX11_farthest_72 : decode cX11_farthest 72 = .ok (.ireturn, 1) := by decide +kernel
def l_X11_farthest_34 (S : SH) (a0 : Nat) (k34 : (Int32 × Mem) → Option (Int32 × Mem)) (x : (Int32 × Mem)) : Option (Int32 × Mem) :=
 (if x.1 < 0 then
 some ((-5), x.2)
 else
 (gR S 11 a0 2).bind fun v8 =>
 (gR S 2 v8 3).bind fun v9 =>
 (sI S v9 1 x.1 x.2).bind fun ν10 =>
 (gR S 11 a0 3).bind fun v11 =>
 (gR S 11 a0 2).bind fun v12 =>
 (f_X3_verdict S v11 v12 ν10).bind fun q13 =>
 (if q13.1 = 0 then
 some (x.1, q13.2)
 else
 k34 (x.1 + (-1), q13.2)))
set_option maxRecDepth 100000 in
set_option maxHeartbeats 4000000 in
theorem t_X11_farthest_34 {γ : GE} {p : Program} {l : Launch} {e : Env} {s : State} {m : MethodId} {args : Array Value} {below : List Frame} {meth : Method} {c : Code} {S : SH} {X : (Int32 × Mem)} (F : FX γ p s m args meth c cX11_farthest RX11 3) (hr : meth.sig.returnType = (some .int)) (a0 : Nat) (k34 : (Int32 × Mem) → Option (Int32 × Mem)) (hk34 : ∀ (x34_2 : Int32) (ν : Mem), k34 (x34_2, ν) = some X → JJ γ p l e rm_X11_farthest s m args below meth c 3 0 0 (QI below γ S X args s 0 0) S ν 34 [(0, .ref (gb γ + a0)), (2, .int x34_2)] []) (x : (Int32 × Mem)) (h : l_X11_farthest_34 S a0 k34 x = some X) : JJ γ p l e rm_X11_farthest s m args below meth c 3 0 0 (QI below γ S X args s 0 0) S x.2 34 [(0, .ref (gb γ + a0)), (2, .int x.1)] [] := by
  unfold l_X11_farthest_34 at h
  refine j_iload_n F 1 dX11_farthest_34 rfl ?_
  refine j_iflt F 70 dX11_farthest_35 (by decide) h (fun _ h => ?_) (fun _ h => ?_)
  · refine j_bipush F (-5) dX11_farthest_70 (by decide) ?_
    exact j_iret F hr dX11_farthest_72 h
  · refine j_aload_n F 0 dX11_farthest_38 rfl ?_
    refine j_gR F fl_RX11_21 rfl dX11_farthest_39 h (fun v8 h => ?_)
    refine j_gR F fl_RX11_136 rfl dX11_farthest_42 h (fun v9 h => ?_)
    refine j_iconst F 1 dX11_farthest_45 (by decide) ?_
    refine j_iload_n F 1 dX11_farthest_46 rfl ?_
    refine j_iast F dX11_farthest_47 h (fun ν10 h => ?_)
    refine j_aload_n F 0 dX11_farthest_48 rfl ?_
    refine j_gR F fl_RX11_27 rfl dX11_farthest_49 h (fun v11 h => ?_)
    refine j_aload_n F 0 dX11_farthest_52 rfl ?_
    refine j_gR F fl_RX11_21 rfl dX11_farthest_53 h (fun v12 h => ?_)
    refine j_cVI F mi_X3_verdict w_668 (rest := []) h (fun _ g => c_X3_verdict g) rfl rfl (Nat.le_of_ble_eq_true rfl) ⟨Nat.le_of_ble_eq_true rfl, Nat.le_of_ble_eq_true rfl⟩ ⟨Nat.le_of_ble_eq_true rfl, Nat.le_of_ble_eq_true rfl⟩ dX11_farthest_56 (fun q13 h => ?_)
    refine j_ifne F 64 dX11_farthest_59 (by decide) h (fun _ h => ?_) (fun _ h => ?_)
    · refine j_iinc F (-1) 1 [(2, .int (x.1 + (-1))), (0, .ref (gb γ + a0))] dX11_farthest_64 rfl (by decide) (by decide) rfl ?_
      refine j_goto F 34 dX11_farthest_67 (by decide) ?_
      refine j_lv [(0, .ref (gb γ + a0)), (2, .int (x.1 + (-1)))] [1, 0] rfl ?_
      exact hk34 _ _ h
    · refine j_iload_n F 1 dX11_farthest_62 rfl ?_
      exact j_iret F hr dX11_farthest_63 h
theorem s_X11_farthest_34 {γ : GE} {p : Program} {l : Launch} {e : Env} {s : State} {m : MethodId} {args : Array Value} {below : List Frame} {meth : Method} {c : Code} {S : SH} {X : (Int32 × Mem)} (F : FX γ p s m args meth c cX11_farthest RX11 3) (hr : meth.sig.returnType = (some .int)) (a0 : Nat) (x34_2 : Int32) (ν : Mem) (h : lpN (l_X11_farthest_34 S a0) fu (x34_2, ν) = some X) : JJ γ p l e rm_X11_farthest s m args below meth c 3 0 0 (QI below γ S X args s 0 0) S ν 34 [(0, .ref (gb γ + a0)), (2, .int x34_2)] [] :=
 lpN_sound (fun x => JJ γ p l e rm_X11_farthest s m args below meth c 3 0 0 (QI below γ S X args s 0 0) S x.2 34 [(0, .ref (gb γ + a0)), (2, .int x.1)] []) (fun k34 hk34 x h => t_X11_farthest_34 F hr a0 k34 (fun x34_2 ν h => hk34 (x34_2, ν) h) x h) fu (x34_2, ν) h
def f_X11_farthest (S : SH) (a0 : Nat) (a1 : Int32) (μ : Mem) : Option (Int32 × Mem) :=
  if isO S 11 a0 = true then
  (f_X11_fitsDial S 0 a1 μ).bind fun q1 =>
  (if q1.1 = 0 then
  some ((-1), q1.2)
  else
  (gR S 11 a0 2).bind fun v2 =>
  (gR S 11 a0 0).bind fun v3 =>
  (f_X2_become S v2 v3 q1.2).bind fun q4 =>
  (gR S 11 a0 2).bind fun v5 =>
  (gR S 2 v5 3).bind fun v6 =>
  (sI S v6 0 a1 q4.2).bind fun ν7 =>
  lpN (l_X11_farthest_34 S  a0) fu (60, ν7))
  else none
set_option maxRecDepth 100000 in
set_option maxHeartbeats 4000000 in
theorem c_X11_farthest {l : Launch} {γ : GE} {S : SH} {a0 : Nat} {a1 : Int32} {μ : Mem} {X : (Int32 × Mem)} (h : f_X11_farthest S a0 a1 μ = some X) : isO S 11 a0 = true ∧ Ct l γ yX11_farthest cX11_farthest 3 (some .int) rm_X11_farthest [.ref (gb γ + a0), .int a1] S μ S X.2 (some (.int X.1)) := by
  unfold f_X11_farthest at h
  obtain ⟨h0, h⟩ := if_some h
  refine ⟨h0, ?_⟩
  have hJ : ∀ (p : Program) (e : Env) (s : State) (m : MethodId) (args : Array Value) (below : List Frame) (meth : Method) (c : Code), FX γ p s m args meth c cX11_farthest RX11 3 → meth.sig.returnType = (some .int) → JJ γ p l e rm_X11_farthest s m args below meth c 3 0 0 (QI below γ S X args s 0 0) S μ 0 [(0, .ref (gb γ + a0)), (1, .int a1)] [] := by
    intro p e s m args below meth c F hr
    refine j_iconst F 0 dX11_farthest_0 (by decide) ?_
    refine j_iload_n F 1 dX11_farthest_1 rfl ?_
    refine j_cSI F mi_X11_fitsDial w_502 (rest := []) h (fun _ g => c_X11_fitsDial g) rfl rfl (Nat.le_of_ble_eq_true rfl) ⟨Nat.le_of_ble_eq_true rfl, Nat.le_of_ble_eq_true rfl⟩ ⟨Nat.le_of_ble_eq_true rfl, Nat.le_of_ble_eq_true rfl⟩ dX11_farthest_2 (fun q1 h => ?_)
    refine j_ifne F 10 dX11_farthest_5 (by decide) h (fun _ h => ?_) (fun _ h => ?_)
    · refine j_aload_n F 0 dX11_farthest_10 rfl ?_
      refine j_gR F fl_RX11_21 rfl dX11_farthest_11 h (fun v2 h => ?_)
      refine j_aload_n F 0 dX11_farthest_14 rfl ?_
      refine j_gR F fl_RX11_12 rfl dX11_farthest_15 h (fun v3 h => ?_)
      refine j_cVV F mi_X2_become w_673 (rest := []) h (fun _ g => c_X2_become g) rfl rfl (Nat.le_of_ble_eq_true rfl) ⟨Nat.le_of_ble_eq_true rfl, Nat.le_of_ble_eq_true rfl⟩ ⟨Nat.le_of_ble_eq_true rfl, Nat.le_of_ble_eq_true rfl⟩ dX11_farthest_18 (fun q4 h => ?_)
      refine j_aload_n F 0 dX11_farthest_21 rfl ?_
      refine j_gR F fl_RX11_21 rfl dX11_farthest_22 h (fun v5 h => ?_)
      refine j_gR F fl_RX11_136 rfl dX11_farthest_25 h (fun v6 h => ?_)
      refine j_iconst F 0 dX11_farthest_28 (by decide) ?_
      refine j_iload_n F 1 dX11_farthest_29 rfl ?_
      refine j_iast F dX11_farthest_30 h (fun ν7 h => ?_)
      refine j_bipush F 60 dX11_farthest_31 (by decide) ?_
      refine j_istore_n F [(2, .int 60), (0, .ref (gb γ + a0)), (1, .int a1)] dX11_farthest_33 rfl (by decide) rfl ?_
      refine j_lv [(0, .ref (gb γ + a0)), (2, .int 60)] [1, 0] rfl ?_
      exact s_X11_farthest_34 F hr _ _ _ h
    · refine j_iconst F (-1) dX11_farthest_8 (by decide) ?_
      exact j_iret F hr dX11_farthest_9 h
  exact ct_of (by decide +kernel) (Nat.le_of_ble_eq_true rfl) (fun p e s m args below meth c F hr _ => hJ p e s m args below meth c F hr)
def rm_X11_way : Room := { frames := 5, cells := 0, slots := 0, locals := 115 }
theorem dX11_way_0 : decode cX11_way 0 = .ok (.iconst 0, 1) := by decide +kernel
theorem dX11_way_1 : decode cX11_way 1 = .ok (.iload_n 1, 1) := by decide +kernel
theorem dX11_way_2 : decode cX11_way 2 = .ok (.invokestatic 132, 3) := by decide +kernel
theorem dX11_way_5 : decode cX11_way 5 = .ok (.ifCond .ne 5, 3) := by decide +kernel
theorem dX11_way_8 : decode cX11_way 8 = .ok (.iconst (-1), 1) := by decide +kernel
theorem dX11_way_9 : decode cX11_way 9 = .ok (.ireturn, 1) := by decide +kernel
theorem dX11_way_10 : decode cX11_way 10 = .ok (.iconst 1, 1) := by decide +kernel
theorem dX11_way_11 : decode cX11_way 11 = .ok (.iload_n 2, 1) := by decide +kernel
theorem dX11_way_12 : decode cX11_way 12 = .ok (.invokestatic 132, 3) := by decide +kernel
theorem dX11_way_15 : decode cX11_way 15 = .ok (.ifCond .ne 6, 3) := by decide +kernel
theorem dX11_way_18 : decode cX11_way 18 = .ok (.bipush (-2), 2) := by decide +kernel
theorem dX11_way_20 : decode cX11_way 20 = .ok (.ireturn, 1) := by decide +kernel
theorem dX11_way_21 : decode cX11_way 21 = .ok (.aload_n 0, 1) := by decide +kernel
theorem dX11_way_22 : decode cX11_way 22 = .ok (.getfield 21, 3) := by decide +kernel
theorem dX11_way_25 : decode cX11_way 25 = .ok (.aload_n 0, 1) := by decide +kernel
theorem dX11_way_26 : decode cX11_way 26 = .ok (.getfield 12, 3) := by decide +kernel
theorem dX11_way_29 : decode cX11_way 29 = .ok (.invokevirtual 234, 3) := by decide +kernel
theorem dX11_way_32 : decode cX11_way 32 = .ok (.iconst 0, 1) := by decide +kernel
theorem dX11_way_33 : decode cX11_way 33 = .ok (.istore_n 3, 1) := by decide +kernel
theorem dX11_way_34 : decode cX11_way 34 = .ok (.iload_n 3, 1) := by decide +kernel
theorem dX11_way_35 : decode cX11_way 35 = .ok (.bipush 61, 2) := by decide +kernel
theorem dX11_way_37 : decode cX11_way 37 = .ok (.if_icmp .ge 30, 3) := by decide +kernel
theorem dX11_way_40 : decode cX11_way 40 = .ok (.aload_n 0, 1) := by decide +kernel
theorem dX11_way_41 : decode cX11_way 41 = .ok (.getfield 34, 3) := by decide +kernel
theorem dX11_way_44 : decode cX11_way 44 = .ok (.getfield 241, 3) := by decide +kernel
theorem dX11_way_47 : decode cX11_way 47 = .ok (.iload_n 3, 1) := by decide +kernel
theorem dX11_way_48 : decode cX11_way 48 = .ok (.aload_n 0, 1) := by decide +kernel
theorem dX11_way_49 : decode cX11_way 49 = .ok (.getfield 27, 3) := by decide +kernel
theorem dX11_way_52 : decode cX11_way 52 = .ok (.aload_n 0, 1) := by decide +kernel
theorem dX11_way_53 : decode cX11_way 53 = .ok (.getfield 21, 3) := by decide +kernel
theorem dX11_way_56 : decode cX11_way 56 = .ok (.iload_n 3, 1) := by decide +kernel
theorem dX11_way_57 : decode cX11_way 57 = .ok (.invokevirtual 237, 3) := by decide +kernel
theorem dX11_way_60 : decode cX11_way 60 = .ok (.iastore, 1) := by decide +kernel
theorem dX11_way_61 : decode cX11_way 61 = .ok (.iinc 3 1, 3) := by decide +kernel
theorem dX11_way_64 : decode cX11_way 64 = .ok (.goto (-30), 3) := by decide +kernel
theorem dX11_way_67 : decode cX11_way 67 = .ok (.aload_n 0, 1) := by decide +kernel
theorem dX11_way_68 : decode cX11_way 68 = .ok (.getfield 34, 3) := by decide +kernel
theorem dX11_way_71 : decode cX11_way 71 = .ok (.aload_n 0, 1) := by decide +kernel
theorem dX11_way_72 : decode cX11_way 72 = .ok (.getfield 12, 3) := by decide +kernel
theorem dX11_way_75 : decode cX11_way 75 = .ok (.getfield 136, 3) := by decide +kernel
theorem dX11_way_78 : decode cX11_way 78 = .ok (.iconst 0, 1) := by decide +kernel
theorem dX11_way_79 : decode cX11_way 79 = .ok (.iaload, 1) := by decide +kernel
theorem dX11_way_80 : decode cX11_way 80 = .ok (.aload_n 0, 1) := by decide +kernel
theorem dX11_way_81 : decode cX11_way 81 = .ok (.getfield 12, 3) := by decide +kernel
theorem dX11_way_84 : decode cX11_way 84 = .ok (.getfield 136, 3) := by decide +kernel
theorem dX11_way_87 : decode cX11_way 87 = .ok (.iconst 1, 1) := by decide +kernel
theorem dX11_way_88 : decode cX11_way 88 = .ok (.iaload, 1) := by decide +kernel
theorem dX11_way_89 : decode cX11_way 89 = .ok (.invokevirtual 244, 3) := by decide +kernel
theorem dX11_way_92 : decode cX11_way 92 = .ok (.aload_n 0, 1) := by decide +kernel
theorem dX11_way_93 : decode cX11_way 93 = .ok (.getfield 34, 3) := by decide +kernel
theorem dX11_way_96 : decode cX11_way 96 = .ok (.iload_n 1, 1) := by decide +kernel
theorem dX11_way_97 : decode cX11_way 97 = .ok (.iload_n 2, 1) := by decide +kernel
theorem dX11_way_98 : decode cX11_way 98 = .ok (.invokevirtual 247, 3) := by decide +kernel
theorem dX11_way_101 : decode cX11_way 101 = .ok (.ireturn, 1) := by decide +kernel
def b_X11_way_67 (S : SH) (a0 : Nat) (a1 : Int32) (a2 : Int32) (μ : Mem) : Option (Int32 × Mem) :=
 (gR S 11 a0 4).bind fun v6 =>
 (gR S 11 a0 0).bind fun v7 =>
 (gR S 2 v7 3).bind fun v8 =>
 (aI S .int v8 0 μ).bind fun v9 =>
 (gR S 11 a0 0).bind fun v10 =>
 (gR S 2 v10 3).bind fun v11 =>
 (aI S .int v11 1 μ).bind fun v12 =>
 (f_X7_begin S v6 v9 v12 μ).bind fun q13 =>
 (gR S 11 a0 4).bind fun v14 =>
 (f_X7_movesTo S v14 a1 a2 q13.2).bind fun q15 =>
 some (q15.1, q15.2)
set_option maxRecDepth 100000 in
set_option maxHeartbeats 4000000 in
theorem s_X11_way_67 {γ : GE} {p : Program} {l : Launch} {e : Env} {s : State} {m : MethodId} {args : Array Value} {below : List Frame} {meth : Method} {c : Code} {S : SH} {X : (Int32 × Mem)} (F : FX γ p s m args meth c cX11_way RX11 4) (hr : meth.sig.returnType = (some .int)) (a0 : Nat) (a1 : Int32) (a2 : Int32)    (μ : Mem) (h : b_X11_way_67 S a0 a1 a2 μ = some X) : JJ γ p l e rm_X11_way s m args below meth c 4 0 0 (QI below γ S X args s 0 0) S μ 67 [(0, .ref (gb γ + a0)), (1, .int a1), (2, .int a2)] [] := by
  unfold b_X11_way_67 at h
  refine j_aload_n F 0 dX11_way_67 rfl ?_
  refine j_gR F fl_RX11_34 rfl dX11_way_68 h (fun v6 h => ?_)
  refine j_aload_n F 0 dX11_way_71 rfl ?_
  refine j_gR F fl_RX11_12 rfl dX11_way_72 h (fun v7 h => ?_)
  refine j_gR F fl_RX11_136 rfl dX11_way_75 h (fun v8 h => ?_)
  refine j_iconst F 0 dX11_way_78 (by decide) ?_
  refine j_iald F dX11_way_79 h (fun v9 h => ?_)
  refine j_aload_n F 0 dX11_way_80 rfl ?_
  refine j_gR F fl_RX11_12 rfl dX11_way_81 h (fun v10 h => ?_)
  refine j_gR F fl_RX11_136 rfl dX11_way_84 h (fun v11 h => ?_)
  refine j_iconst F 1 dX11_way_87 (by decide) ?_
  refine j_iald F dX11_way_88 h (fun v12 h => ?_)
  refine j_cVV F mi_X7_begin w_711 (rest := []) h (fun _ g => c_X7_begin g) rfl rfl (Nat.le_of_ble_eq_true rfl) ⟨Nat.le_of_ble_eq_true rfl, Nat.le_of_ble_eq_true rfl⟩ ⟨Nat.le_of_ble_eq_true rfl, Nat.le_of_ble_eq_true rfl⟩ dX11_way_89 (fun q13 h => ?_)
  refine j_aload_n F 0 dX11_way_92 rfl ?_
  refine j_gR F fl_RX11_34 rfl dX11_way_93 h (fun v14 h => ?_)
  refine j_iload_n F 1 dX11_way_96 rfl ?_
  refine j_iload_n F 2 dX11_way_97 rfl ?_
  refine j_cVI F mi_X7_movesTo w_716 (rest := []) h (fun _ g => c_X7_movesTo g) rfl rfl (Nat.le_of_ble_eq_true rfl) ⟨Nat.le_of_ble_eq_true rfl, Nat.le_of_ble_eq_true rfl⟩ ⟨Nat.le_of_ble_eq_true rfl, Nat.le_of_ble_eq_true rfl⟩ dX11_way_98 (fun q15 h => ?_)
  exact j_iret F hr dX11_way_101 h
def l_X11_way_34 (S : SH) (a0 : Nat) (a1 : Int32) (a2 : Int32) (k34 : (Int32 × Mem) → Option (Int32 × Mem)) (x : (Int32 × Mem)) : Option (Int32 × Mem) :=
 (if 61 ≤ x.1 then
 b_X11_way_67 S a0 a1 a2 x.2
 else
 (gR S 11 a0 4).bind fun v16 =>
 (gR S 7 v16 0).bind fun v17 =>
 (gR S 11 a0 3).bind fun v18 =>
 (gR S 11 a0 2).bind fun v19 =>
 (f_X3_lawfulDirections S v18 v19 x.1 x.2).bind fun q20 =>
 (sI S v17 x.1 q20.1 q20.2).bind fun ν21 =>
 k34 (x.1 + 1, ν21))
set_option maxRecDepth 100000 in
set_option maxHeartbeats 4000000 in
theorem t_X11_way_34 {γ : GE} {p : Program} {l : Launch} {e : Env} {s : State} {m : MethodId} {args : Array Value} {below : List Frame} {meth : Method} {c : Code} {S : SH} {X : (Int32 × Mem)} (F : FX γ p s m args meth c cX11_way RX11 4) (hr : meth.sig.returnType = (some .int)) (a0 : Nat) (a1 : Int32) (a2 : Int32) (k34 : (Int32 × Mem) → Option (Int32 × Mem)) (hk34 : ∀ (x34_3 : Int32) (ν : Mem), k34 (x34_3, ν) = some X → JJ γ p l e rm_X11_way s m args below meth c 4 0 0 (QI below γ S X args s 0 0) S ν 34 [(0, .ref (gb γ + a0)), (1, .int a1), (2, .int a2), (3, .int x34_3)] []) (x : (Int32 × Mem)) (h : l_X11_way_34 S a0 a1 a2 k34 x = some X) : JJ γ p l e rm_X11_way s m args below meth c 4 0 0 (QI below γ S X args s 0 0) S x.2 34 [(0, .ref (gb γ + a0)), (1, .int a1), (2, .int a2), (3, .int x.1)] [] := by
  unfold l_X11_way_34 at h
  refine j_iload_n F 3 dX11_way_34 rfl ?_
  refine j_bipush F 61 dX11_way_35 (by decide) ?_
  refine j_icmpge F 67 dX11_way_37 (by decide) h (fun _ h => ?_) (fun _ h => ?_)
  · refine j_lv [(0, .ref (gb γ + a0)), (1, .int a1), (2, .int a2)] [0, 1, 2] rfl ?_
    exact s_X11_way_67 F hr _ _ _ _ h
  · refine j_aload_n F 0 dX11_way_40 rfl ?_
    refine j_gR F fl_RX11_34 rfl dX11_way_41 h (fun v16 h => ?_)
    refine j_gR F fl_RX11_241 rfl dX11_way_44 h (fun v17 h => ?_)
    refine j_iload_n F 3 dX11_way_47 rfl ?_
    refine j_aload_n F 0 dX11_way_48 rfl ?_
    refine j_gR F fl_RX11_27 rfl dX11_way_49 h (fun v18 h => ?_)
    refine j_aload_n F 0 dX11_way_52 rfl ?_
    refine j_gR F fl_RX11_21 rfl dX11_way_53 h (fun v19 h => ?_)
    refine j_iload_n F 3 dX11_way_56 rfl ?_
    refine j_cVI F mi_X3_lawfulDirections w_699 (rest := [.int x.1, .ref (gb γ + v17)]) h (fun _ g => c_X3_lawfulDirections g) rfl rfl (Nat.le_of_ble_eq_true rfl) ⟨Nat.le_of_ble_eq_true rfl, Nat.le_of_ble_eq_true rfl⟩ ⟨Nat.le_of_ble_eq_true rfl, Nat.le_of_ble_eq_true rfl⟩ dX11_way_57 (fun q20 h => ?_)
    refine j_iast F dX11_way_60 h (fun ν21 h => ?_)
    refine j_iinc F 1 3 [(3, .int (x.1 + 1)), (0, .ref (gb γ + a0)), (1, .int a1), (2, .int a2)] dX11_way_61 rfl (by decide) (by decide) rfl ?_
    refine j_goto F 34 dX11_way_64 (by decide) ?_
    refine j_lv [(0, .ref (gb γ + a0)), (1, .int a1), (2, .int a2), (3, .int (x.1 + 1))] [1, 2, 3, 0] rfl ?_
    exact hk34 _ _ h
theorem s_X11_way_34 {γ : GE} {p : Program} {l : Launch} {e : Env} {s : State} {m : MethodId} {args : Array Value} {below : List Frame} {meth : Method} {c : Code} {S : SH} {X : (Int32 × Mem)} (F : FX γ p s m args meth c cX11_way RX11 4) (hr : meth.sig.returnType = (some .int)) (a0 : Nat) (a1 : Int32) (a2 : Int32) (x34_3 : Int32) (ν : Mem) (h : lpN (l_X11_way_34 S a0 a1 a2) fu (x34_3, ν) = some X) : JJ γ p l e rm_X11_way s m args below meth c 4 0 0 (QI below γ S X args s 0 0) S ν 34 [(0, .ref (gb γ + a0)), (1, .int a1), (2, .int a2), (3, .int x34_3)] [] :=
 lpN_sound (fun x => JJ γ p l e rm_X11_way s m args below meth c 4 0 0 (QI below γ S X args s 0 0) S x.2 34 [(0, .ref (gb γ + a0)), (1, .int a1), (2, .int a2), (3, .int x.1)] []) (fun k34 hk34 x h => t_X11_way_34 F hr a0 a1 a2 k34 (fun x34_3 ν h => hk34 (x34_3, ν) h) x h) fu (x34_3, ν) h
def f_X11_way (S : SH) (a0 : Nat) (a1 : Int32) (a2 : Int32) (μ : Mem) : Option (Int32 × Mem) :=
  if isO S 11 a0 = true then
  (f_X11_fitsDial S 0 a1 μ).bind fun q1 =>
  (if q1.1 = 0 then
  some ((-1), q1.2)
  else
  (f_X11_fitsDial S 1 a2 q1.2).bind fun q2 =>
  (if q2.1 = 0 then
  some ((-2), q2.2)
  else
  (gR S 11 a0 2).bind fun v3 =>
  (gR S 11 a0 0).bind fun v4 =>
  (f_X2_become S v3 v4 q2.2).bind fun q5 =>
  lpN (l_X11_way_34 S  a0 a1 a2) fu (0, q5.2)))
  else none
set_option maxRecDepth 100000 in
set_option maxHeartbeats 4000000 in
theorem c_X11_way {l : Launch} {γ : GE} {S : SH} {a0 : Nat} {a1 : Int32} {a2 : Int32} {μ : Mem} {X : (Int32 × Mem)} (h : f_X11_way S a0 a1 a2 μ = some X) : isO S 11 a0 = true ∧ Ct l γ yX11_way cX11_way 4 (some .int) rm_X11_way [.ref (gb γ + a0), .int a1, .int a2] S μ S X.2 (some (.int X.1)) := by
  unfold f_X11_way at h
  obtain ⟨h0, h⟩ := if_some h
  refine ⟨h0, ?_⟩
  have hJ : ∀ (p : Program) (e : Env) (s : State) (m : MethodId) (args : Array Value) (below : List Frame) (meth : Method) (c : Code), FX γ p s m args meth c cX11_way RX11 4 → meth.sig.returnType = (some .int) → JJ γ p l e rm_X11_way s m args below meth c 4 0 0 (QI below γ S X args s 0 0) S μ 0 [(0, .ref (gb γ + a0)), (1, .int a1), (2, .int a2)] [] := by
    intro p e s m args below meth c F hr
    refine j_iconst F 0 dX11_way_0 (by decide) ?_
    refine j_iload_n F 1 dX11_way_1 rfl ?_
    refine j_cSI F mi_X11_fitsDial w_502 (rest := []) h (fun _ g => c_X11_fitsDial g) rfl rfl (Nat.le_of_ble_eq_true rfl) ⟨Nat.le_of_ble_eq_true rfl, Nat.le_of_ble_eq_true rfl⟩ ⟨Nat.le_of_ble_eq_true rfl, Nat.le_of_ble_eq_true rfl⟩ dX11_way_2 (fun q1 h => ?_)
    refine j_ifne F 10 dX11_way_5 (by decide) h (fun _ h => ?_) (fun _ h => ?_)
    · refine j_iconst F 1 dX11_way_10 (by decide) ?_
      refine j_iload_n F 2 dX11_way_11 rfl ?_
      refine j_cSI F mi_X11_fitsDial w_502 (rest := []) h (fun _ g => c_X11_fitsDial g) rfl rfl (Nat.le_of_ble_eq_true rfl) ⟨Nat.le_of_ble_eq_true rfl, Nat.le_of_ble_eq_true rfl⟩ ⟨Nat.le_of_ble_eq_true rfl, Nat.le_of_ble_eq_true rfl⟩ dX11_way_12 (fun q2 h => ?_)
      refine j_ifne F 21 dX11_way_15 (by decide) h (fun _ h => ?_) (fun _ h => ?_)
      · refine j_aload_n F 0 dX11_way_21 rfl ?_
        refine j_gR F fl_RX11_21 rfl dX11_way_22 h (fun v3 h => ?_)
        refine j_aload_n F 0 dX11_way_25 rfl ?_
        refine j_gR F fl_RX11_12 rfl dX11_way_26 h (fun v4 h => ?_)
        refine j_cVV F mi_X2_become w_673 (rest := []) h (fun _ g => c_X2_become g) rfl rfl (Nat.le_of_ble_eq_true rfl) ⟨Nat.le_of_ble_eq_true rfl, Nat.le_of_ble_eq_true rfl⟩ ⟨Nat.le_of_ble_eq_true rfl, Nat.le_of_ble_eq_true rfl⟩ dX11_way_29 (fun q5 h => ?_)
        refine j_iconst F 0 dX11_way_32 (by decide) ?_
        refine j_istore_n F [(3, .int 0), (0, .ref (gb γ + a0)), (1, .int a1), (2, .int a2)] dX11_way_33 rfl (by decide) rfl ?_
        refine j_lv [(0, .ref (gb γ + a0)), (1, .int a1), (2, .int a2), (3, .int 0)] [1, 2, 3, 0] rfl ?_
        exact s_X11_way_34 F hr _ _ _ _ _ h
      · refine j_bipush F (-2) dX11_way_18 (by decide) ?_
        exact j_iret F hr dX11_way_20 h
    · refine j_iconst F (-1) dX11_way_8 (by decide) ?_
      exact j_iret F hr dX11_way_9 h
  exact ct_of (by decide +kernel) (Nat.le_of_ble_eq_true rfl) (fun p e s m args below meth c F hr _ => hJ p e s m args below meth c F hr)
def rm_X11_ballast : Room := { frames := 4, cells := 0, slots := 0, locals := 104 }
theorem dX11_ballast_0 : decode cX11_ballast 0 = .ok (.aload_n 0, 1) := by decide +kernel
theorem dX11_ballast_1 : decode cX11_ballast 1 = .ok (.getfield 12, 3) := by decide +kernel
theorem dX11_ballast_4 : decode cX11_ballast 4 = .ok (.getfield 104, 3) := by decide +kernel
theorem dX11_ballast_7 : decode cX11_ballast 7 = .ok (.iload_n 1, 1) := by decide +kernel
theorem dX11_ballast_8 : decode cX11_ballast 8 = .ok (.invokevirtual 118, 3) := by decide +kernel
theorem dX11_ballast_11 : decode cX11_ballast 11 = .ok (.ifCond .ne 5, 3) := by decide +kernel
theorem dX11_ballast_14 : decode cX11_ballast 14 = .ok (.iconst (-1), 1) := by decide +kernel
theorem dX11_ballast_15 : decode cX11_ballast 15 = .ok (.ireturn, 1) := by decide +kernel
theorem dX11_ballast_16 : decode cX11_ballast 16 = .ok (.aload_n 0, 1) := by decide +kernel
theorem dX11_ballast_17 : decode cX11_ballast 17 = .ok (.getfield 21, 3) := by decide +kernel
theorem dX11_ballast_20 : decode cX11_ballast 20 = .ok (.aload_n 0, 1) := by decide +kernel
theorem dX11_ballast_21 : decode cX11_ballast 21 = .ok (.getfield 12, 3) := by decide +kernel
theorem dX11_ballast_24 : decode cX11_ballast 24 = .ok (.invokevirtual 234, 3) := by decide +kernel
theorem dX11_ballast_27 : decode cX11_ballast 27 = .ok (.iconst 1, 1) := by decide +kernel
theorem dX11_ballast_28 : decode cX11_ballast 28 = .ok (.istore_n 2, 1) := by decide +kernel
theorem dX11_ballast_29 : decode cX11_ballast 29 = .ok (.iload_n 2, 1) := by decide +kernel
theorem dX11_ballast_30 : decode cX11_ballast 30 = .ok (.sipush 999, 3) := by decide +kernel
theorem dX11_ballast_33 : decode cX11_ballast 33 = .ok (.if_icmp .gt 37, 3) := by decide +kernel
theorem dX11_ballast_36 : decode cX11_ballast 36 = .ok (.aload_n 0, 1) := by decide +kernel
theorem dX11_ballast_37 : decode cX11_ballast 37 = .ok (.getfield 21, 3) := by decide +kernel
theorem dX11_ballast_40 : decode cX11_ballast 40 = .ok (.getfield 104, 3) := by decide +kernel
theorem dX11_ballast_43 : decode cX11_ballast 43 = .ok (.iload_n 1, 1) := by decide +kernel
theorem dX11_ballast_44 : decode cX11_ballast 44 = .ok (.iload_n 2, 1) := by decide +kernel
theorem dX11_ballast_45 : decode cX11_ballast 45 = .ok (.invokevirtual 125, 3) := by decide +kernel
theorem dX11_ballast_48 : decode cX11_ballast 48 = .ok (.aload_n 0, 1) := by decide +kernel
theorem dX11_ballast_49 : decode cX11_ballast 49 = .ok (.getfield 27, 3) := by decide +kernel
theorem dX11_ballast_52 : decode cX11_ballast 52 = .ok (.aload_n 0, 1) := by decide +kernel
theorem dX11_ballast_53 : decode cX11_ballast 53 = .ok (.getfield 21, 3) := by decide +kernel
theorem dX11_ballast_56 : decode cX11_ballast 56 = .ok (.invokevirtual 230, 3) := by decide +kernel
theorem dX11_ballast_59 : decode cX11_ballast 59 = .ok (.ifCond .ne 5, 3) := by decide +kernel
theorem dX11_ballast_62 : decode cX11_ballast 62 = .ok (.iload_n 2, 1) := by decide +kernel
theorem dX11_ballast_63 : decode cX11_ballast 63 = .ok (.ireturn, 1) := by decide +kernel
theorem dX11_ballast_64 : decode cX11_ballast 64 = .ok (.iinc 2 1, 3) := by decide +kernel
theorem dX11_ballast_67 : decode cX11_ballast 67 = .ok (.goto (-38), 3) := by decide +kernel
theorem dX11_ballast_70 : decode cX11_ballast 70 = .ok (.bipush (-5), 2) := by decide +kernel
theorem dX11_ballast_72 : decode cX11_ballast 72 = .ok (.ireturn, 1) := by decide +kernel
def l_X11_ballast_29 (S : SH) (a0 : Nat) (a1 : Int32) (k29 : (Int32 × Mem) → Option (Int32 × Mem)) (x : (Int32 × Mem)) : Option (Int32 × Mem) :=
 (if 999 < x.1 then
 some ((-5), x.2)
 else
 (gR S 11 a0 2).bind fun v7 =>
 (gR S 2 v7 1).bind fun v8 =>
 (f_X5_reweigh S v8 a1 x.1 x.2).bind fun q9 =>
 (gR S 11 a0 3).bind fun v10 =>
 (gR S 11 a0 2).bind fun v11 =>
 (f_X3_verdict S v10 v11 q9.2).bind fun q12 =>
 (if q12.1 = 0 then
 some (x.1, q12.2)
 else
 k29 (x.1 + 1, q12.2)))
set_option maxRecDepth 100000 in
set_option maxHeartbeats 4000000 in
theorem t_X11_ballast_29 {γ : GE} {p : Program} {l : Launch} {e : Env} {s : State} {m : MethodId} {args : Array Value} {below : List Frame} {meth : Method} {c : Code} {S : SH} {X : (Int32 × Mem)} (F : FX γ p s m args meth c cX11_ballast RX11 3) (hr : meth.sig.returnType = (some .int)) (a0 : Nat) (a1 : Int32) (k29 : (Int32 × Mem) → Option (Int32 × Mem)) (hk29 : ∀ (x29_2 : Int32) (ν : Mem), k29 (x29_2, ν) = some X → JJ γ p l e rm_X11_ballast s m args below meth c 3 0 0 (QI below γ S X args s 0 0) S ν 29 [(0, .ref (gb γ + a0)), (1, .int a1), (2, .int x29_2)] []) (x : (Int32 × Mem)) (h : l_X11_ballast_29 S a0 a1 k29 x = some X) : JJ γ p l e rm_X11_ballast s m args below meth c 3 0 0 (QI below γ S X args s 0 0) S x.2 29 [(0, .ref (gb γ + a0)), (1, .int a1), (2, .int x.1)] [] := by
  unfold l_X11_ballast_29 at h
  refine j_iload_n F 2 dX11_ballast_29 rfl ?_
  refine j_sipush F 999 dX11_ballast_30 (by decide) ?_
  refine j_icmpgt F 70 dX11_ballast_33 (by decide) h (fun _ h => ?_) (fun _ h => ?_)
  · refine j_bipush F (-5) dX11_ballast_70 (by decide) ?_
    exact j_iret F hr dX11_ballast_72 h
  · refine j_aload_n F 0 dX11_ballast_36 rfl ?_
    refine j_gR F fl_RX11_21 rfl dX11_ballast_37 h (fun v7 h => ?_)
    refine j_gR F fl_RX11_104 rfl dX11_ballast_40 h (fun v8 h => ?_)
    refine j_iload_n F 1 dX11_ballast_43 rfl ?_
    refine j_iload_n F 2 dX11_ballast_44 rfl ?_
    refine j_cVV F mi_X5_reweigh w_494 (rest := []) h (fun _ g => c_X5_reweigh g) rfl rfl (Nat.le_of_ble_eq_true rfl) ⟨Nat.le_of_ble_eq_true rfl, Nat.le_of_ble_eq_true rfl⟩ ⟨Nat.le_of_ble_eq_true rfl, Nat.le_of_ble_eq_true rfl⟩ dX11_ballast_45 (fun q9 h => ?_)
    refine j_aload_n F 0 dX11_ballast_48 rfl ?_
    refine j_gR F fl_RX11_27 rfl dX11_ballast_49 h (fun v10 h => ?_)
    refine j_aload_n F 0 dX11_ballast_52 rfl ?_
    refine j_gR F fl_RX11_21 rfl dX11_ballast_53 h (fun v11 h => ?_)
    refine j_cVI F mi_X3_verdict w_668 (rest := []) h (fun _ g => c_X3_verdict g) rfl rfl (Nat.le_of_ble_eq_true rfl) ⟨Nat.le_of_ble_eq_true rfl, Nat.le_of_ble_eq_true rfl⟩ ⟨Nat.le_of_ble_eq_true rfl, Nat.le_of_ble_eq_true rfl⟩ dX11_ballast_56 (fun q12 h => ?_)
    refine j_ifne F 64 dX11_ballast_59 (by decide) h (fun _ h => ?_) (fun _ h => ?_)
    · refine j_iinc F 1 2 [(2, .int (x.1 + 1)), (0, .ref (gb γ + a0)), (1, .int a1)] dX11_ballast_64 rfl (by decide) (by decide) rfl ?_
      refine j_goto F 29 dX11_ballast_67 (by decide) ?_
      refine j_lv [(0, .ref (gb γ + a0)), (1, .int a1), (2, .int (x.1 + 1))] [1, 2, 0] rfl ?_
      exact hk29 _ _ h
    · refine j_iload_n F 2 dX11_ballast_62 rfl ?_
      exact j_iret F hr dX11_ballast_63 h
theorem s_X11_ballast_29 {γ : GE} {p : Program} {l : Launch} {e : Env} {s : State} {m : MethodId} {args : Array Value} {below : List Frame} {meth : Method} {c : Code} {S : SH} {X : (Int32 × Mem)} (F : FX γ p s m args meth c cX11_ballast RX11 3) (hr : meth.sig.returnType = (some .int)) (a0 : Nat) (a1 : Int32) (x29_2 : Int32) (ν : Mem) (h : lpN (l_X11_ballast_29 S a0 a1) fu (x29_2, ν) = some X) : JJ γ p l e rm_X11_ballast s m args below meth c 3 0 0 (QI below γ S X args s 0 0) S ν 29 [(0, .ref (gb γ + a0)), (1, .int a1), (2, .int x29_2)] [] :=
 lpN_sound (fun x => JJ γ p l e rm_X11_ballast s m args below meth c 3 0 0 (QI below γ S X args s 0 0) S x.2 29 [(0, .ref (gb γ + a0)), (1, .int a1), (2, .int x.1)] []) (fun k29 hk29 x h => t_X11_ballast_29 F hr a0 a1 k29 (fun x29_2 ν h => hk29 (x29_2, ν) h) x h) fu (x29_2, ν) h
def f_X11_ballast (S : SH) (a0 : Nat) (a1 : Int32) (μ : Mem) : Option (Int32 × Mem) :=
  if isO S 11 a0 = true then
  (gR S 11 a0 0).bind fun v1 =>
  (gR S 2 v1 1).bind fun v2 =>
  (f_X5_has S v2 a1 μ).bind fun q3 =>
  (if q3.1 = 0 then
  some ((-1), q3.2)
  else
  (gR S 11 a0 2).bind fun v4 =>
  (gR S 11 a0 0).bind fun v5 =>
  (f_X2_become S v4 v5 q3.2).bind fun q6 =>
  lpN (l_X11_ballast_29 S  a0 a1) fu (1, q6.2))
  else none
set_option maxRecDepth 100000 in
set_option maxHeartbeats 4000000 in
theorem c_X11_ballast {l : Launch} {γ : GE} {S : SH} {a0 : Nat} {a1 : Int32} {μ : Mem} {X : (Int32 × Mem)} (h : f_X11_ballast S a0 a1 μ = some X) : isO S 11 a0 = true ∧ Ct l γ yX11_ballast cX11_ballast 3 (some .int) rm_X11_ballast [.ref (gb γ + a0), .int a1] S μ S X.2 (some (.int X.1)) := by
  unfold f_X11_ballast at h
  obtain ⟨h0, h⟩ := if_some h
  refine ⟨h0, ?_⟩
  have hJ : ∀ (p : Program) (e : Env) (s : State) (m : MethodId) (args : Array Value) (below : List Frame) (meth : Method) (c : Code), FX γ p s m args meth c cX11_ballast RX11 3 → meth.sig.returnType = (some .int) → JJ γ p l e rm_X11_ballast s m args below meth c 3 0 0 (QI below γ S X args s 0 0) S μ 0 [(0, .ref (gb γ + a0)), (1, .int a1)] [] := by
    intro p e s m args below meth c F hr
    refine j_aload_n F 0 dX11_ballast_0 rfl ?_
    refine j_gR F fl_RX11_12 rfl dX11_ballast_1 h (fun v1 h => ?_)
    refine j_gR F fl_RX11_104 rfl dX11_ballast_4 h (fun v2 h => ?_)
    refine j_iload_n F 1 dX11_ballast_7 rfl ?_
    refine j_cVI F mi_X5_has w_490 (rest := []) h (fun _ g => c_X5_has g) rfl rfl (Nat.le_of_ble_eq_true rfl) ⟨Nat.le_of_ble_eq_true rfl, Nat.le_of_ble_eq_true rfl⟩ ⟨Nat.le_of_ble_eq_true rfl, Nat.le_of_ble_eq_true rfl⟩ dX11_ballast_8 (fun q3 h => ?_)
    refine j_ifne F 16 dX11_ballast_11 (by decide) h (fun _ h => ?_) (fun _ h => ?_)
    · refine j_aload_n F 0 dX11_ballast_16 rfl ?_
      refine j_gR F fl_RX11_21 rfl dX11_ballast_17 h (fun v4 h => ?_)
      refine j_aload_n F 0 dX11_ballast_20 rfl ?_
      refine j_gR F fl_RX11_12 rfl dX11_ballast_21 h (fun v5 h => ?_)
      refine j_cVV F mi_X2_become w_673 (rest := []) h (fun _ g => c_X2_become g) rfl rfl (Nat.le_of_ble_eq_true rfl) ⟨Nat.le_of_ble_eq_true rfl, Nat.le_of_ble_eq_true rfl⟩ ⟨Nat.le_of_ble_eq_true rfl, Nat.le_of_ble_eq_true rfl⟩ dX11_ballast_24 (fun q6 h => ?_)
      refine j_iconst F 1 dX11_ballast_27 (by decide) ?_
      refine j_istore_n F [(2, .int 1), (0, .ref (gb γ + a0)), (1, .int a1)] dX11_ballast_28 rfl (by decide) rfl ?_
      refine j_lv [(0, .ref (gb γ + a0)), (1, .int a1), (2, .int 1)] [1, 2, 0] rfl ?_
      exact s_X11_ballast_29 F hr _ _ _ _ h
    · refine j_iconst F (-1) dX11_ballast_14 (by decide) ?_
      exact j_iret F hr dX11_ballast_15 h
  exact ct_of (by decide +kernel) (Nat.le_of_ble_eq_true rfl) (fun p e s m args below meth c F hr _ => hJ p e s m args below meth c F hr)
def rm_X11_feed : Room := { frames := 1, cells := 0, slots := 0, locals := 22 }
theorem dX11_feed_0 : decode cX11_feed 0 = .ok (.iload_n 1, 1) := by decide +kernel
theorem dX11_feed_1 : decode cX11_feed 1 = .ok (.iconst 1, 1) := by decide +kernel
theorem dX11_feed_2 : decode cX11_feed 2 = .ok (.bipush 127, 2) := by decide +kernel
theorem dX11_feed_4 : decode cX11_feed 4 = .ok (.invokestatic 84, 3) := by decide +kernel
theorem dX11_feed_7 : decode cX11_feed 7 = .ok (.ifCond .ne 6, 3) := by decide +kernel
theorem dX11_feed_10 : decode cX11_feed 10 = .ok (.bipush (-2), 2) := by decide +kernel
theorem dX11_feed_12 : decode cX11_feed 12 = .ok (.ireturn, 1) := by decide +kernel
theorem dX11_feed_13 : decode cX11_feed 13 = .ok (.aload_n 0, 1) := by decide +kernel
theorem dX11_feed_14 : decode cX11_feed 14 = .ok (.getfield 41, 3) := by decide +kernel
theorem dX11_feed_17 : decode cX11_feed 17 = .ok (.getfield 250, 3) := by decide +kernel
theorem dX11_feed_20 : decode cX11_feed 20 = .ok (.bipush 100, 2) := by decide +kernel
theorem dX11_feed_22 : decode cX11_feed 22 = .ok (.if_icmp .lt 6, 3) := by decide +kernel
theorem dX11_feed_25 : decode cX11_feed 25 = .ok (.bipush (-4), 2) := by decide +kernel
theorem dX11_feed_27 : decode cX11_feed 27 = .ok (.ireturn, 1) := by decide +kernel
theorem dX11_feed_28 : decode cX11_feed 28 = .ok (.aload_n 0, 1) := by decide +kernel
theorem dX11_feed_29 : decode cX11_feed 29 = .ok (.getfield 41, 3) := by decide +kernel
theorem dX11_feed_32 : decode cX11_feed 32 = .ok (.iload_n 1, 1) := by decide +kernel
theorem dX11_feed_33 : decode cX11_feed 33 = .ok (.invokevirtual 251, 3) := by decide +kernel
theorem dX11_feed_36 : decode cX11_feed 36 = .ok (.ireturn, 1) := by decide +kernel
def f_X11_feed (S : SH) (a0 : Nat) (a1 : Int32) (μ : Mem) : Option (Int32 × Mem) :=
  if isO S 11 a0 = true then
  (f_X11_within S a1 1 127 μ).bind fun q1 =>
  (if q1.1 = 0 then
  some ((-2), q1.2)
  else
  (gR S 11 a0 5).bind fun v2 =>
  (gI S 9 v2 1 q1.2).bind fun v3 =>
  (if v3 < 100 then
  (gR S 11 a0 5).bind fun v4 =>
  (f_X9_append S v4 a1 q1.2).bind fun q5 =>
  some (q5.1, q5.2)
  else
  some ((-4), q1.2)))
  else none
set_option maxRecDepth 100000 in
set_option maxHeartbeats 4000000 in
theorem c_X11_feed {l : Launch} {γ : GE} {S : SH} {a0 : Nat} {a1 : Int32} {μ : Mem} {X : (Int32 × Mem)} (h : f_X11_feed S a0 a1 μ = some X) : isO S 11 a0 = true ∧ Ct l γ yX11_feed cX11_feed 2 (some .int) rm_X11_feed [.ref (gb γ + a0), .int a1] S μ S X.2 (some (.int X.1)) := by
  unfold f_X11_feed at h
  obtain ⟨h0, h⟩ := if_some h
  refine ⟨h0, ?_⟩
  have hJ : ∀ (p : Program) (e : Env) (s : State) (m : MethodId) (args : Array Value) (below : List Frame) (meth : Method) (c : Code), FX γ p s m args meth c cX11_feed RX11 2 → meth.sig.returnType = (some .int) → JJ γ p l e rm_X11_feed s m args below meth c 2 0 0 (QI below γ S X args s 0 0) S μ 0 [(0, .ref (gb γ + a0)), (1, .int a1)] [] := by
    intro p e s m args below meth c F hr
    refine j_iload_n F 1 dX11_feed_0 rfl ?_
    refine j_iconst F 1 dX11_feed_1 (by decide) ?_
    refine j_bipush F 127 dX11_feed_2 (by decide) ?_
    refine j_cSI F mi_X11_within w_464 (rest := []) h (fun _ g => c_X11_within g) rfl rfl (Nat.le_of_ble_eq_true rfl) ⟨Nat.le_of_ble_eq_true rfl, Nat.le_of_ble_eq_true rfl⟩ ⟨Nat.le_of_ble_eq_true rfl, Nat.le_of_ble_eq_true rfl⟩ dX11_feed_4 (fun q1 h => ?_)
    refine j_ifne F 13 dX11_feed_7 (by decide) h (fun _ h => ?_) (fun _ h => ?_)
    · refine j_aload_n F 0 dX11_feed_13 rfl ?_
      refine j_gR F fl_RX11_41 rfl dX11_feed_14 h (fun v2 h => ?_)
      refine j_gI F fl_RX11_250.l rfl dX11_feed_17 h (fun v3 h => ?_)
      refine j_bipush F 100 dX11_feed_20 (by decide) ?_
      refine j_icmplt F 28 dX11_feed_22 (by decide) h (fun _ h => ?_) (fun _ h => ?_)
      · refine j_aload_n F 0 dX11_feed_28 rfl ?_
        refine j_gR F fl_RX11_41 rfl dX11_feed_29 h (fun v4 h => ?_)
        refine j_iload_n F 1 dX11_feed_32 rfl ?_
        refine j_cVI F mi_X9_append w_733 (rest := []) h (fun _ g => c_X9_append g) rfl rfl (Nat.le_of_ble_eq_true rfl) ⟨Nat.le_of_ble_eq_true rfl, Nat.le_of_ble_eq_true rfl⟩ ⟨Nat.le_of_ble_eq_true rfl, Nat.le_of_ble_eq_true rfl⟩ dX11_feed_33 (fun q5 h => ?_)
        exact j_iret F hr dX11_feed_36 h
      · refine j_bipush F (-4) dX11_feed_25 (by decide) ?_
        exact j_iret F hr dX11_feed_27 h
    · refine j_bipush F (-2) dX11_feed_10 (by decide) ?_
      exact j_iret F hr dX11_feed_12 h
  exact ct_of (by decide +kernel) (Nat.le_of_ble_eq_true rfl) (fun p e s m args below meth c F hr _ => hJ p e s m args below meth c F hr)
def rm_X11_clear : Room := { frames := 0, cells := 0, slots := 0, locals := 0 }
theorem dX11_clear_0 : decode cX11_clear 0 = .ok (.aload_n 0, 1) := by decide +kernel
theorem dX11_clear_1 : decode cX11_clear 1 = .ok (.getfield 41, 3) := by decide +kernel
theorem dX11_clear_4 : decode cX11_clear 4 = .ok (.getfield 250, 3) := by decide +kernel
theorem dX11_clear_7 : decode cX11_clear 7 = .ok (.istore_n 1, 1) := by decide +kernel
theorem dX11_clear_8 : decode cX11_clear 8 = .ok (.aload_n 0, 1) := by decide +kernel
theorem dX11_clear_9 : decode cX11_clear 9 = .ok (.getfield 41, 3) := by decide +kernel
theorem dX11_clear_12 : decode cX11_clear 12 = .ok (.iconst 0, 1) := by decide +kernel
theorem dX11_clear_13 : decode cX11_clear 13 = .ok (.putfield 250, 3) := by decide +kernel
theorem dX11_clear_16 : decode cX11_clear 16 = .ok (.iload_n 1, 1) := by decide +kernel
theorem dX11_clear_17 : decode cX11_clear 17 = .ok (.ireturn, 1) := by decide +kernel
def f_X11_clear (S : SH) (a0 : Nat) (μ : Mem) : Option (Int32 × Mem) :=
  if isO S 11 a0 = true then
  (gR S 11 a0 5).bind fun v1 =>
  (gI S 9 v1 1 μ).bind fun v2 =>
  (gR S 11 a0 5).bind fun v3 =>
  (pI S 9 v3 1 0 μ).bind fun ν4 =>
  some (v2, ν4)
  else none
set_option maxRecDepth 100000 in
set_option maxHeartbeats 4000000 in
theorem c_X11_clear {l : Launch} {γ : GE} {S : SH} {a0 : Nat} {μ : Mem} {X : (Int32 × Mem)} (h : f_X11_clear S a0 μ = some X) : isO S 11 a0 = true ∧ Ct l γ yX11_clear cX11_clear 2 (some .int) rm_X11_clear [.ref (gb γ + a0)] S μ S X.2 (some (.int X.1)) := by
  unfold f_X11_clear at h
  obtain ⟨h0, h⟩ := if_some h
  refine ⟨h0, ?_⟩
  have hJ : ∀ (p : Program) (e : Env) (s : State) (m : MethodId) (args : Array Value) (below : List Frame) (meth : Method) (c : Code), FX γ p s m args meth c cX11_clear RX11 2 → meth.sig.returnType = (some .int) → JJ γ p l e rm_X11_clear s m args below meth c 2 0 0 (QI below γ S X args s 0 0) S μ 0 [(0, .ref (gb γ + a0))] [] := by
    intro p e s m args below meth c F hr
    refine j_aload_n F 0 dX11_clear_0 rfl ?_
    refine j_gR F fl_RX11_41 rfl dX11_clear_1 h (fun v1 h => ?_)
    refine j_gI F fl_RX11_250.l rfl dX11_clear_4 h (fun v2 h => ?_)
    refine j_istore_n F [(1, .int v2), (0, .ref (gb γ + a0))] dX11_clear_7 rfl (by decide) rfl ?_
    refine j_aload_n F 1 dX11_clear_8 rfl ?_
    refine j_gR F fl_RX11_41 rfl dX11_clear_9 h (fun v3 h => ?_)
    refine j_iconst F 0 dX11_clear_12 (by decide) ?_
    refine j_pI F fl_RX11_250 rfl dX11_clear_13 h (fun ν4 h => ?_)
    refine j_iload_n F 0 dX11_clear_16 rfl ?_
    exact j_iret F hr dX11_clear_17 h
  exact ct_of (by decide +kernel) (Nat.le_of_ble_eq_true rfl) (fun p e s m args below meth c F hr _ => hJ p e s m args below meth c F hr)
def rm_X11_plan : Room := { frames := 8, cells := 0, slots := 0, locals := 230 }
theorem dX11_plan_0 : decode cX11_plan 0 = .ok (.aload_n 0, 1) := by decide +kernel
theorem dX11_plan_1 : decode cX11_plan 1 = .ok (.getfield 41, 3) := by decide +kernel
theorem dX11_plan_4 : decode cX11_plan 4 = .ok (.aload_n 0, 1) := by decide +kernel
theorem dX11_plan_5 : decode cX11_plan 5 = .ok (.getfield 52, 3) := by decide +kernel
theorem dX11_plan_8 : decode cX11_plan 8 = .ok (.invokevirtual 253, 3) := by decide +kernel
theorem dX11_plan_11 : decode cX11_plan 11 = .ok (.istore_n 1, 1) := by decide +kernel
theorem dX11_plan_12 : decode cX11_plan 12 = .ok (.aload_n 0, 1) := by decide +kernel
theorem dX11_plan_13 : decode cX11_plan 13 = .ok (.getfield 41, 3) := by decide +kernel
theorem dX11_plan_16 : decode cX11_plan 16 = .ok (.iconst 0, 1) := by decide +kernel
theorem dX11_plan_17 : decode cX11_plan 17 = .ok (.putfield 250, 3) := by decide +kernel
theorem dX11_plan_20 : decode cX11_plan 20 = .ok (.iload_n 1, 1) := by decide +kernel
theorem dX11_plan_21 : decode cX11_plan 21 = .ok (.ifCond .lt 8, 3) := by decide +kernel
theorem dX11_plan_24 : decode cX11_plan 24 = .ok (.bipush (-100), 2) := by decide +kernel
theorem dX11_plan_26 : decode cX11_plan 26 = .ok (.iload_n 1, 1) := by decide +kernel
theorem dX11_plan_27 : decode cX11_plan 27 = .ok (.isub, 1) := by decide +kernel
theorem dX11_plan_28 : decode cX11_plan 28 = .ok (.ireturn, 1) := by decide +kernel
theorem dX11_plan_29 : decode cX11_plan 29 = .ok (.aload_n 0, 1) := by decide +kernel
theorem dX11_plan_30 : decode cX11_plan 30 = .ok (.getfield 48, 3) := by decide +kernel
theorem dX11_plan_33 : decode cX11_plan 33 = .ok (.aload_n 0, 1) := by decide +kernel
theorem dX11_plan_34 : decode cX11_plan 34 = .ok (.getfield 52, 3) := by decide +kernel
theorem dX11_plan_37 : decode cX11_plan 37 = .ok (.invokevirtual 257, 3) := by decide +kernel
theorem dX11_plan_40 : decode cX11_plan 40 = .ok (.aload_n 0, 1) := by decide +kernel
theorem dX11_plan_41 : decode cX11_plan 41 = .ok (.getfield 48, 3) := by decide +kernel
theorem dX11_plan_44 : decode cX11_plan 44 = .ok (.getfield 260, 3) := by decide +kernel
theorem dX11_plan_47 : decode cX11_plan 47 = .ok (.ireturn, 1) := by decide +kernel
def f_X11_plan (S : SH) (a0 : Nat) (μ : Mem) : Option (Int32 × Mem) :=
  if isO S 11 a0 = true then
  (gR S 11 a0 5).bind fun v1 =>
  (gR S 11 a0 7).bind fun v2 =>
  (f_X9_readInto S v1 v2 μ).bind fun q3 =>
  (gR S 11 a0 5).bind fun v4 =>
  (pI S 9 v4 1 0 q3.2).bind fun ν5 =>
  (if q3.1 < 0 then
  (gR S 11 a0 6).bind fun v6 =>
  (gR S 11 a0 7).bind fun v7 =>
  (f_X6_become S v6 v7 ν5).bind fun q8 =>
  (gR S 11 a0 6).bind fun v9 =>
  (gI S 6 v9 2 q8.2).bind fun v10 =>
  some (v10, q8.2)
  else
  some ((-100) - q3.1, ν5))
  else none
set_option maxRecDepth 100000 in
set_option maxHeartbeats 4000000 in
theorem c_X11_plan {l : Launch} {γ : GE} {S : SH} {a0 : Nat} {μ : Mem} {X : (Int32 × Mem)} (h : f_X11_plan S a0 μ = some X) : isO S 11 a0 = true ∧ Ct l γ yX11_plan cX11_plan 2 (some .int) rm_X11_plan [.ref (gb γ + a0)] S μ S X.2 (some (.int X.1)) := by
  unfold f_X11_plan at h
  obtain ⟨h0, h⟩ := if_some h
  refine ⟨h0, ?_⟩
  have hJ : ∀ (p : Program) (e : Env) (s : State) (m : MethodId) (args : Array Value) (below : List Frame) (meth : Method) (c : Code), FX γ p s m args meth c cX11_plan RX11 2 → meth.sig.returnType = (some .int) → JJ γ p l e rm_X11_plan s m args below meth c 2 0 0 (QI below γ S X args s 0 0) S μ 0 [(0, .ref (gb γ + a0))] [] := by
    intro p e s m args below meth c F hr
    refine j_aload_n F 0 dX11_plan_0 rfl ?_
    refine j_gR F fl_RX11_41 rfl dX11_plan_1 h (fun v1 h => ?_)
    refine j_aload_n F 0 dX11_plan_4 rfl ?_
    refine j_gR F fl_RX11_52 rfl dX11_plan_5 h (fun v2 h => ?_)
    refine j_cVI F mi_X9_readInto w_745 (rest := []) h (fun _ g => c_X9_readInto g) rfl rfl (Nat.le_of_ble_eq_true rfl) ⟨Nat.le_of_ble_eq_true rfl, Nat.le_of_ble_eq_true rfl⟩ ⟨Nat.le_of_ble_eq_true rfl, Nat.le_of_ble_eq_true rfl⟩ dX11_plan_8 (fun q3 h => ?_)
    refine j_istore_n F [(1, .int q3.1), (0, .ref (gb γ + a0))] dX11_plan_11 rfl (by decide) rfl ?_
    refine j_aload_n F 1 dX11_plan_12 rfl ?_
    refine j_gR F fl_RX11_41 rfl dX11_plan_13 h (fun v4 h => ?_)
    refine j_iconst F 0 dX11_plan_16 (by decide) ?_
    refine j_pI F fl_RX11_250 rfl dX11_plan_17 h (fun ν5 h => ?_)
    refine j_iload_n F 0 dX11_plan_20 rfl ?_
    refine j_iflt F 29 dX11_plan_21 (by decide) h (fun _ h => ?_) (fun _ h => ?_)
    · refine j_aload_n F 1 dX11_plan_29 rfl ?_
      refine j_gR F fl_RX11_48 rfl dX11_plan_30 h (fun v6 h => ?_)
      refine j_aload_n F 1 dX11_plan_33 rfl ?_
      refine j_gR F fl_RX11_52 rfl dX11_plan_34 h (fun v7 h => ?_)
      refine j_cVV F mi_X6_become w_826 (rest := []) h (fun _ g => c_X6_become g) rfl rfl (Nat.le_of_ble_eq_true rfl) ⟨Nat.le_of_ble_eq_true rfl, Nat.le_of_ble_eq_true rfl⟩ ⟨Nat.le_of_ble_eq_true rfl, Nat.le_of_ble_eq_true rfl⟩ dX11_plan_37 (fun q8 h => ?_)
      refine j_aload_n F 1 dX11_plan_40 rfl ?_
      refine j_gR F fl_RX11_48 rfl dX11_plan_41 h (fun v9 h => ?_)
      refine j_gI F fl_RX11_260.l rfl dX11_plan_44 h (fun v10 h => ?_)
      exact j_iret F hr dX11_plan_47 h
    · refine j_bipush F (-100) dX11_plan_24 (by decide) ?_
      refine j_iload_n F 0 dX11_plan_26 rfl ?_
      refine j_isub F dX11_plan_27 ?_
      exact j_iret F hr dX11_plan_28 h
  exact ct_of (by decide +kernel) (Nat.le_of_ble_eq_true rfl) (fun p e s m args below meth c F hr _ => hJ p e s m args below meth c F hr)
def rm_X11_checked : Room := { frames := 6, cells := 0, slots := 0, locals := 142 }
theorem dX11_checked_0 : decode cX11_checked 0 = .ok (.iload_n 1, 1) := by decide +kernel
theorem dX11_checked_1 : decode cX11_checked 1 = .ok (.iconst 0, 1) := by decide +kernel
theorem dX11_checked_2 : decode cX11_checked 2 = .ok (.iconst 3, 1) := by decide +kernel
theorem dX11_checked_3 : decode cX11_checked 3 = .ok (.invokestatic 84, 3) := by decide +kernel
theorem dX11_checked_6 : decode cX11_checked 6 = .ok (.ifCond .ne 5, 3) := by decide +kernel
theorem dX11_checked_9 : decode cX11_checked 9 = .ok (.iconst (-1), 1) := by decide +kernel
theorem dX11_checked_10 : decode cX11_checked 10 = .ok (.ireturn, 1) := by decide +kernel
theorem dX11_checked_11 : decode cX11_checked 11 = .ok (.aload_n 0, 1) := by decide +kernel
theorem dX11_checked_12 : decode cX11_checked 12 = .ok (.getfield 48, 3) := by decide +kernel
theorem dX11_checked_15 : decode cX11_checked 15 = .ok (.getfield 260, 3) := by decide +kernel
theorem dX11_checked_18 : decode cX11_checked 18 = .ok (.ifCond .ne 6, 3) := by decide +kernel
theorem dX11_checked_21 : decode cX11_checked 21 = .ok (.bipush (-3), 2) := by decide +kernel
theorem dX11_checked_23 : decode cX11_checked 23 = .ok (.ireturn, 1) := by decide +kernel
theorem dX11_checked_24 : decode cX11_checked 24 = .ok (.aload_n 0, 1) := by decide +kernel
theorem dX11_checked_25 : decode cX11_checked 25 = .ok (.getfield 21, 3) := by decide +kernel
theorem dX11_checked_28 : decode cX11_checked 28 = .ok (.aload_n 0, 1) := by decide +kernel
theorem dX11_checked_29 : decode cX11_checked 29 = .ok (.getfield 12, 3) := by decide +kernel
theorem dX11_checked_32 : decode cX11_checked 32 = .ok (.invokevirtual 234, 3) := by decide +kernel
theorem dX11_checked_35 : decode cX11_checked 35 = .ok (.aload_n 0, 1) := by decide +kernel
theorem dX11_checked_36 : decode cX11_checked 36 = .ok (.getfield 58, 3) := by decide +kernel
theorem dX11_checked_39 : decode cX11_checked 39 = .ok (.aload_n 0, 1) := by decide +kernel
theorem dX11_checked_40 : decode cX11_checked 40 = .ok (.getfield 48, 3) := by decide +kernel
theorem dX11_checked_43 : decode cX11_checked 43 = .ok (.aload_n 0, 1) := by decide +kernel
theorem dX11_checked_44 : decode cX11_checked 44 = .ok (.getfield 21, 3) := by decide +kernel
theorem dX11_checked_47 : decode cX11_checked 47 = .ok (.aload_n 0, 1) := by decide +kernel
theorem dX11_checked_48 : decode cX11_checked 48 = .ok (.getfield 27, 3) := by decide +kernel
theorem dX11_checked_51 : decode cX11_checked 51 = .ok (.invokevirtual 261, 3) := by decide +kernel
theorem dX11_checked_54 : decode cX11_checked 54 = .ok (.iload_n 1, 1) := by decide +kernel
theorem dX11_checked_55 : decode cX11_checked 55 = .ok (.tableswitch 49 0 2 #[25, 33, 41], 25) := by decide +kernel
theorem dX11_checked_80 : decode cX11_checked 80 = .ok (.aload_n 0, 1) := by decide +kernel
theorem dX11_checked_81 : decode cX11_checked 81 = .ok (.getfield 58, 3) := by decide +kernel
theorem dX11_checked_84 : decode cX11_checked 84 = .ok (.getfield 265, 3) := by decide +kernel
theorem dX11_checked_87 : decode cX11_checked 87 = .ok (.ireturn, 1) := by decide +kernel
theorem dX11_checked_88 : decode cX11_checked 88 = .ok (.aload_n 0, 1) := by decide +kernel
theorem dX11_checked_89 : decode cX11_checked 89 = .ok (.getfield 58, 3) := by decide +kernel
theorem dX11_checked_92 : decode cX11_checked 92 = .ok (.getfield 268, 3) := by decide +kernel
theorem dX11_checked_95 : decode cX11_checked 95 = .ok (.ireturn, 1) := by decide +kernel
theorem dX11_checked_96 : decode cX11_checked 96 = .ok (.aload_n 0, 1) := by decide +kernel
theorem dX11_checked_97 : decode cX11_checked 97 = .ok (.getfield 58, 3) := by decide +kernel
theorem dX11_checked_100 : decode cX11_checked 100 = .ok (.getfield 271, 3) := by decide +kernel
theorem dX11_checked_103 : decode cX11_checked 103 = .ok (.ireturn, 1) := by decide +kernel
theorem dX11_checked_104 : decode cX11_checked 104 = .ok (.aload_n 0, 1) := by decide +kernel
theorem dX11_checked_105 : decode cX11_checked 105 = .ok (.getfield 58, 3) := by decide +kernel
theorem dX11_checked_108 : decode cX11_checked 108 = .ok (.getfield 274, 3) := by decide +kernel
theorem dX11_checked_111 : decode cX11_checked 111 = .ok (.ireturn, 1) := by decide +kernel
def f_X11_checked (S : SH) (a0 : Nat) (a1 : Int32) (μ : Mem) : Option (Int32 × Mem) :=
  if isO S 11 a0 = true then
  (f_X11_within S a1 0 3 μ).bind fun q1 =>
  (if q1.1 = 0 then
  some ((-1), q1.2)
  else
  (gR S 11 a0 6).bind fun v2 =>
  (gI S 6 v2 2 q1.2).bind fun v3 =>
  (if v3 = 0 then
  some ((-3), q1.2)
  else
  (gR S 11 a0 2).bind fun v4 =>
  (gR S 11 a0 0).bind fun v5 =>
  (f_X2_become S v4 v5 q1.2).bind fun q6 =>
  (gR S 11 a0 8).bind fun v7 =>
  (gR S 11 a0 6).bind fun v8 =>
  (gR S 11 a0 2).bind fun v9 =>
  (gR S 11 a0 3).bind fun v10 =>
  (f_X10_go S v7 v8 v9 v10 q6.2).bind fun q11 =>
  (if a1 = 0 then
  (gR S 11 a0 8).bind fun v12 =>
  (gI S 10 v12 0 q11.2).bind fun v13 =>
  some (v13, q11.2)
  else if a1 = 1 then
  (gR S 11 a0 8).bind fun v14 =>
  (gI S 10 v14 1 q11.2).bind fun v15 =>
  some (v15, q11.2)
  else if a1 = 2 then
  (gR S 11 a0 8).bind fun v16 =>
  (gI S 10 v16 2 q11.2).bind fun v17 =>
  some (v17, q11.2)
  else 
  (gR S 11 a0 8).bind fun v18 =>
  (gI S 10 v18 3 q11.2).bind fun v19 =>
  some (v19, q11.2))))
  else none
set_option maxRecDepth 100000 in
set_option maxHeartbeats 4000000 in
theorem c_X11_checked {l : Launch} {γ : GE} {S : SH} {a0 : Nat} {a1 : Int32} {μ : Mem} {X : (Int32 × Mem)} (h : f_X11_checked S a0 a1 μ = some X) : isO S 11 a0 = true ∧ Ct l γ yX11_checked cX11_checked 2 (some .int) rm_X11_checked [.ref (gb γ + a0), .int a1] S μ S X.2 (some (.int X.1)) := by
  unfold f_X11_checked at h
  obtain ⟨h0, h⟩ := if_some h
  refine ⟨h0, ?_⟩
  have hJ : ∀ (p : Program) (e : Env) (s : State) (m : MethodId) (args : Array Value) (below : List Frame) (meth : Method) (c : Code), FX γ p s m args meth c cX11_checked RX11 2 → meth.sig.returnType = (some .int) → JJ γ p l e rm_X11_checked s m args below meth c 2 0 0 (QI below γ S X args s 0 0) S μ 0 [(0, .ref (gb γ + a0)), (1, .int a1)] [] := by
    intro p e s m args below meth c F hr
    refine j_iload_n F 1 dX11_checked_0 rfl ?_
    refine j_iconst F 0 dX11_checked_1 (by decide) ?_
    refine j_iconst F 3 dX11_checked_2 (by decide) ?_
    refine j_cSI F mi_X11_within w_464 (rest := []) h (fun _ g => c_X11_within g) rfl rfl (Nat.le_of_ble_eq_true rfl) ⟨Nat.le_of_ble_eq_true rfl, Nat.le_of_ble_eq_true rfl⟩ ⟨Nat.le_of_ble_eq_true rfl, Nat.le_of_ble_eq_true rfl⟩ dX11_checked_3 (fun q1 h => ?_)
    refine j_ifne F 11 dX11_checked_6 (by decide) h (fun _ h => ?_) (fun _ h => ?_)
    · refine j_aload_n F 0 dX11_checked_11 rfl ?_
      refine j_gR F fl_RX11_48 rfl dX11_checked_12 h (fun v2 h => ?_)
      refine j_gI F fl_RX11_260.l rfl dX11_checked_15 h (fun v3 h => ?_)
      refine j_ifne F 24 dX11_checked_18 (by decide) h (fun _ h => ?_) (fun _ h => ?_)
      · refine j_aload_n F 0 dX11_checked_24 rfl ?_
        refine j_gR F fl_RX11_21 rfl dX11_checked_25 h (fun v4 h => ?_)
        refine j_aload_n F 0 dX11_checked_28 rfl ?_
        refine j_gR F fl_RX11_12 rfl dX11_checked_29 h (fun v5 h => ?_)
        refine j_cVV F mi_X2_become w_673 (rest := []) h (fun _ g => c_X2_become g) rfl rfl (Nat.le_of_ble_eq_true rfl) ⟨Nat.le_of_ble_eq_true rfl, Nat.le_of_ble_eq_true rfl⟩ ⟨Nat.le_of_ble_eq_true rfl, Nat.le_of_ble_eq_true rfl⟩ dX11_checked_32 (fun q6 h => ?_)
        refine j_aload_n F 0 dX11_checked_35 rfl ?_
        refine j_gR F fl_RX11_58 rfl dX11_checked_36 h (fun v7 h => ?_)
        refine j_aload_n F 0 dX11_checked_39 rfl ?_
        refine j_gR F fl_RX11_48 rfl dX11_checked_40 h (fun v8 h => ?_)
        refine j_aload_n F 0 dX11_checked_43 rfl ?_
        refine j_gR F fl_RX11_21 rfl dX11_checked_44 h (fun v9 h => ?_)
        refine j_aload_n F 0 dX11_checked_47 rfl ?_
        refine j_gR F fl_RX11_27 rfl dX11_checked_48 h (fun v10 h => ?_)
        refine j_cVV F mi_X10_go w_835 (rest := []) h (fun _ g => c_X10_go g) rfl rfl (Nat.le_of_ble_eq_true rfl) ⟨Nat.le_of_ble_eq_true rfl, Nat.le_of_ble_eq_true rfl⟩ ⟨Nat.le_of_ble_eq_true rfl, Nat.le_of_ble_eq_true rfl⟩ dX11_checked_51 (fun q11 h => ?_)
        refine j_iload_n F 1 dX11_checked_54 rfl ?_
        by_cases e0 : a1 = 0
        · rw [if_pos e0] at h
          refine j_tin F (off := 25) 80 dX11_checked_55 (by rw [e0]; decide) (by rw [e0]; decide) (by rw [e0]; rfl) (by decide) ?_
          refine j_aload_n F 0 dX11_checked_80 rfl ?_
          refine j_gR F fl_RX11_58 rfl dX11_checked_81 h (fun v12 h => ?_)
          refine j_gI F fl_RX11_265.l rfl dX11_checked_84 h (fun v13 h => ?_)
          exact j_iret F hr dX11_checked_87 h
        rw [if_neg e0] at h
        by_cases e1 : a1 = 1
        · rw [if_pos e1] at h
          refine j_tin F (off := 33) 88 dX11_checked_55 (by rw [e1]; decide) (by rw [e1]; decide) (by rw [e1]; rfl) (by decide) ?_
          refine j_aload_n F 0 dX11_checked_88 rfl ?_
          refine j_gR F fl_RX11_58 rfl dX11_checked_89 h (fun v14 h => ?_)
          refine j_gI F fl_RX11_268.l rfl dX11_checked_92 h (fun v15 h => ?_)
          exact j_iret F hr dX11_checked_95 h
        rw [if_neg e1] at h
        by_cases e2 : a1 = 2
        · rw [if_pos e2] at h
          refine j_tin F (off := 41) 96 dX11_checked_55 (by rw [e2]; decide) (by rw [e2]; decide) (by rw [e2]; rfl) (by decide) ?_
          refine j_aload_n F 0 dX11_checked_96 rfl ?_
          refine j_gR F fl_RX11_58 rfl dX11_checked_97 h (fun v16 h => ?_)
          refine j_gI F fl_RX11_271.l rfl dX11_checked_100 h (fun v17 h => ?_)
          exact j_iret F hr dX11_checked_103 h
        rw [if_neg e2] at h
        have g0 : (a1).toInt ≠ (0 : Int) := fun q => e0 (Int32.toInt_inj.mp (q.trans (by decide)))
        have g1 : (a1).toInt ≠ (1 : Int) := fun q => e1 (Int32.toInt_inj.mp (q.trans (by decide)))
        have g2 : (a1).toInt ≠ (2 : Int) := fun q => e2 (Int32.toInt_inj.mp (q.trans (by decide)))
        refine j_tout F 104 dX11_checked_55 (by omega) (by decide) ?_
        refine j_aload_n F 0 dX11_checked_104 rfl ?_
        refine j_gR F fl_RX11_58 rfl dX11_checked_105 h (fun v18 h => ?_)
        refine j_gI F fl_RX11_274.l rfl dX11_checked_108 h (fun v19 h => ?_)
        exact j_iret F hr dX11_checked_111 h
      · refine j_bipush F (-3) dX11_checked_21 (by decide) ?_
        exact j_iret F hr dX11_checked_23 h
    · refine j_iconst F (-1) dX11_checked_9 (by decide) ?_
      exact j_iret F hr dX11_checked_10 h
  exact ct_of (by decide +kernel) (Nat.le_of_ble_eq_true rfl) (fun p e s m args below meth c F hr _ => hJ p e s m args below meth c F hr)
def rm_X11_spare : Room := { frames := 6, cells := 0, slots := 0, locals := 142 }
theorem dX11_spare_0 : decode cX11_spare 0 = .ok (.aload_n 0, 1) := by decide +kernel
theorem dX11_spare_1 : decode cX11_spare 1 = .ok (.getfield 48, 3) := by decide +kernel
theorem dX11_spare_4 : decode cX11_spare 4 = .ok (.getfield 260, 3) := by decide +kernel
theorem dX11_spare_7 : decode cX11_spare 7 = .ok (.ifCond .ne 7, 3) := by decide +kernel
theorem dX11_spare_10 : decode cX11_spare 10 = .ok (.ldc2_w 139, 3) := by decide +kernel
theorem dX11_spare_13 : decode cX11_spare 13 = .ok (.lreturn, 1) := by decide +kernel
theorem dX11_spare_14 : decode cX11_spare 14 = .ok (.aload_n 0, 1) := by decide +kernel
theorem dX11_spare_15 : decode cX11_spare 15 = .ok (.getfield 21, 3) := by decide +kernel
theorem dX11_spare_18 : decode cX11_spare 18 = .ok (.aload_n 0, 1) := by decide +kernel
theorem dX11_spare_19 : decode cX11_spare 19 = .ok (.getfield 12, 3) := by decide +kernel
theorem dX11_spare_22 : decode cX11_spare 22 = .ok (.invokevirtual 234, 3) := by decide +kernel
theorem dX11_spare_25 : decode cX11_spare 25 = .ok (.aload_n 0, 1) := by decide +kernel
theorem dX11_spare_26 : decode cX11_spare 26 = .ok (.getfield 58, 3) := by decide +kernel
theorem dX11_spare_29 : decode cX11_spare 29 = .ok (.aload_n 0, 1) := by decide +kernel
theorem dX11_spare_30 : decode cX11_spare 30 = .ok (.getfield 48, 3) := by decide +kernel
theorem dX11_spare_33 : decode cX11_spare 33 = .ok (.aload_n 0, 1) := by decide +kernel
theorem dX11_spare_34 : decode cX11_spare 34 = .ok (.getfield 21, 3) := by decide +kernel
theorem dX11_spare_37 : decode cX11_spare 37 = .ok (.aload_n 0, 1) := by decide +kernel
theorem dX11_spare_38 : decode cX11_spare 38 = .ok (.getfield 27, 3) := by decide +kernel
theorem dX11_spare_41 : decode cX11_spare 41 = .ok (.invokevirtual 261, 3) := by decide +kernel
theorem dX11_spare_44 : decode cX11_spare 44 = .ok (.aload_n 0, 1) := by decide +kernel
theorem dX11_spare_45 : decode cX11_spare 45 = .ok (.getfield 58, 3) := by decide +kernel
theorem dX11_spare_48 : decode cX11_spare 48 = .ok (.getfield 277, 3) := by decide +kernel
theorem dX11_spare_51 : decode cX11_spare 51 = .ok (.i2l, 1) := by decide +kernel
theorem dX11_spare_52 : decode cX11_spare 52 = .ok (.lreturn, 1) := by decide +kernel
def f_X11_spare (S : SH) (a0 : Nat) (μ : Mem) : Option (Int64 × Mem) :=
  if isO S 11 a0 = true then
  (gR S 11 a0 6).bind fun v1 =>
  (gI S 6 v1 2 μ).bind fun v2 =>
  (if v2 = 0 then
  some ((-9223372036854775808), μ)
  else
  (gR S 11 a0 2).bind fun v3 =>
  (gR S 11 a0 0).bind fun v4 =>
  (f_X2_become S v3 v4 μ).bind fun q5 =>
  (gR S 11 a0 8).bind fun v6 =>
  (gR S 11 a0 6).bind fun v7 =>
  (gR S 11 a0 2).bind fun v8 =>
  (gR S 11 a0 3).bind fun v9 =>
  (f_X10_go S v6 v7 v8 v9 q5.2).bind fun q10 =>
  (gR S 11 a0 8).bind fun v11 =>
  (gI S 10 v11 4 q10.2).bind fun v12 =>
  some (v12.toInt64, q10.2))
  else none
set_option maxRecDepth 100000 in
set_option maxHeartbeats 4000000 in
theorem c_X11_spare {l : Launch} {γ : GE} {S : SH} {a0 : Nat} {μ : Mem} {X : (Int64 × Mem)} (h : f_X11_spare S a0 μ = some X) : isO S 11 a0 = true ∧ Ct l γ yX11_spare cX11_spare 1 (some .long) rm_X11_spare [.ref (gb γ + a0)] S μ S X.2 (some (.long X.1)) := by
  unfold f_X11_spare at h
  obtain ⟨h0, h⟩ := if_some h
  refine ⟨h0, ?_⟩
  have hJ : ∀ (p : Program) (e : Env) (s : State) (m : MethodId) (args : Array Value) (below : List Frame) (meth : Method) (c : Code), FX γ p s m args meth c cX11_spare RX11 1 → meth.sig.returnType = (some .long) → JJ γ p l e rm_X11_spare s m args below meth c 1 0 0 (QL below γ S X args s 0 0) S μ 0 [(0, .ref (gb γ + a0))] [] := by
    intro p e s m args below meth c F hr
    refine j_aload_n F 0 dX11_spare_0 rfl ?_
    refine j_gR F fl_RX11_48 rfl dX11_spare_1 h (fun v1 h => ?_)
    refine j_gI F fl_RX11_260.l rfl dX11_spare_4 h (fun v2 h => ?_)
    refine j_ifne F 14 dX11_spare_7 (by decide) h (fun _ h => ?_) (fun _ h => ?_)
    · refine j_aload_n F 0 dX11_spare_14 rfl ?_
      refine j_gR F fl_RX11_21 rfl dX11_spare_15 h (fun v3 h => ?_)
      refine j_aload_n F 0 dX11_spare_18 rfl ?_
      refine j_gR F fl_RX11_12 rfl dX11_spare_19 h (fun v4 h => ?_)
      refine j_cVV F mi_X2_become w_673 (rest := []) h (fun _ g => c_X2_become g) rfl rfl (Nat.le_of_ble_eq_true rfl) ⟨Nat.le_of_ble_eq_true rfl, Nat.le_of_ble_eq_true rfl⟩ ⟨Nat.le_of_ble_eq_true rfl, Nat.le_of_ble_eq_true rfl⟩ dX11_spare_22 (fun q5 h => ?_)
      refine j_aload_n F 0 dX11_spare_25 rfl ?_
      refine j_gR F fl_RX11_58 rfl dX11_spare_26 h (fun v6 h => ?_)
      refine j_aload_n F 0 dX11_spare_29 rfl ?_
      refine j_gR F fl_RX11_48 rfl dX11_spare_30 h (fun v7 h => ?_)
      refine j_aload_n F 0 dX11_spare_33 rfl ?_
      refine j_gR F fl_RX11_21 rfl dX11_spare_34 h (fun v8 h => ?_)
      refine j_aload_n F 0 dX11_spare_37 rfl ?_
      refine j_gR F fl_RX11_27 rfl dX11_spare_38 h (fun v9 h => ?_)
      refine j_cVV F mi_X10_go w_835 (rest := []) h (fun _ g => c_X10_go g) rfl rfl (Nat.le_of_ble_eq_true rfl) ⟨Nat.le_of_ble_eq_true rfl, Nat.le_of_ble_eq_true rfl⟩ ⟨Nat.le_of_ble_eq_true rfl, Nat.le_of_ble_eq_true rfl⟩ dX11_spare_41 (fun q10 h => ?_)
      refine j_aload_n F 0 dX11_spare_44 rfl ?_
      refine j_gR F fl_RX11_58 rfl dX11_spare_45 h (fun v11 h => ?_)
      refine j_gI F fl_RX11_277.l rfl dX11_spare_48 h (fun v12 h => ?_)
      refine j_i2l F dX11_spare_51 ?_
      exact j_lret F hr dX11_spare_52 h
    · refine j_ldc2 F (-9223372036854775808) dX11_spare_10 w_517 ?_
      exact j_lret F hr dX11_spare_13 h
  exact ct_of (by decide +kernel) (Nat.le_of_ble_eq_true rfl) (fun p e s m args below meth c F hr _ => hJ p e s m args below meth c F hr)
def rm_X11_done : Room := { frames := 6, cells := 0, slots := 0, locals := 142 }
theorem dX11_done_0 : decode cX11_done 0 = .ok (.aload_n 0, 1) := by decide +kernel
theorem dX11_done_1 : decode cX11_done 1 = .ok (.getfield 48, 3) := by decide +kernel
theorem dX11_done_4 : decode cX11_done 4 = .ok (.getfield 260, 3) := by decide +kernel
theorem dX11_done_7 : decode cX11_done 7 = .ok (.ifCond .ne 6, 3) := by decide +kernel
theorem dX11_done_10 : decode cX11_done 10 = .ok (.bipush (-3), 2) := by decide +kernel
theorem dX11_done_12 : decode cX11_done 12 = .ok (.ireturn, 1) := by decide +kernel
theorem dX11_done_13 : decode cX11_done 13 = .ok (.aload_n 0, 1) := by decide +kernel
theorem dX11_done_14 : decode cX11_done 14 = .ok (.getfield 21, 3) := by decide +kernel
theorem dX11_done_17 : decode cX11_done 17 = .ok (.aload_n 0, 1) := by decide +kernel
theorem dX11_done_18 : decode cX11_done 18 = .ok (.getfield 12, 3) := by decide +kernel
theorem dX11_done_21 : decode cX11_done 21 = .ok (.invokevirtual 234, 3) := by decide +kernel
theorem dX11_done_24 : decode cX11_done 24 = .ok (.aload_n 0, 1) := by decide +kernel
theorem dX11_done_25 : decode cX11_done 25 = .ok (.getfield 58, 3) := by decide +kernel
theorem dX11_done_28 : decode cX11_done 28 = .ok (.aload_n 0, 1) := by decide +kernel
theorem dX11_done_29 : decode cX11_done 29 = .ok (.getfield 48, 3) := by decide +kernel
theorem dX11_done_32 : decode cX11_done 32 = .ok (.aload_n 0, 1) := by decide +kernel
theorem dX11_done_33 : decode cX11_done 33 = .ok (.getfield 21, 3) := by decide +kernel
theorem dX11_done_36 : decode cX11_done 36 = .ok (.aload_n 0, 1) := by decide +kernel
theorem dX11_done_37 : decode cX11_done 37 = .ok (.getfield 27, 3) := by decide +kernel
theorem dX11_done_40 : decode cX11_done 40 = .ok (.invokevirtual 261, 3) := by decide +kernel
theorem dX11_done_43 : decode cX11_done 43 = .ok (.aload_n 0, 1) := by decide +kernel
theorem dX11_done_44 : decode cX11_done 44 = .ok (.getfield 58, 3) := by decide +kernel
theorem dX11_done_47 : decode cX11_done 47 = .ok (.getfield 274, 3) := by decide +kernel
theorem dX11_done_50 : decode cX11_done 50 = .ok (.ifCond .eq 6, 3) := by decide +kernel
theorem dX11_done_53 : decode cX11_done 53 = .ok (.bipush (-3), 2) := by decide +kernel
theorem dX11_done_55 : decode cX11_done 55 = .ok (.ireturn, 1) := by decide +kernel
theorem dX11_done_56 : decode cX11_done 56 = .ok (.aload_n 0, 1) := by decide +kernel
theorem dX11_done_57 : decode cX11_done 57 = .ok (.getfield 12, 3) := by decide +kernel
theorem dX11_done_60 : decode cX11_done 60 = .ok (.aload_n 0, 1) := by decide +kernel
theorem dX11_done_61 : decode cX11_done 61 = .ok (.getfield 21, 3) := by decide +kernel
theorem dX11_done_64 : decode cX11_done 64 = .ok (.invokevirtual 234, 3) := by decide +kernel
theorem dX11_done_67 : decode cX11_done 67 = .ok (.aload_n 0, 1) := by decide +kernel
theorem dX11_done_68 : decode cX11_done 68 = .ok (.getfield 58, 3) := by decide +kernel
theorem dX11_done_71 : decode cX11_done 71 = .ok (.getfield 265, 3) := by decide +kernel
theorem dX11_done_74 : decode cX11_done 74 = .ok (.ireturn, 1) := by decide +kernel
def f_X11_done (S : SH) (a0 : Nat) (μ : Mem) : Option (Int32 × Mem) :=
  if isO S 11 a0 = true then
  (gR S 11 a0 6).bind fun v1 =>
  (gI S 6 v1 2 μ).bind fun v2 =>
  (if v2 = 0 then
  some ((-3), μ)
  else
  (gR S 11 a0 2).bind fun v3 =>
  (gR S 11 a0 0).bind fun v4 =>
  (f_X2_become S v3 v4 μ).bind fun q5 =>
  (gR S 11 a0 8).bind fun v6 =>
  (gR S 11 a0 6).bind fun v7 =>
  (gR S 11 a0 2).bind fun v8 =>
  (gR S 11 a0 3).bind fun v9 =>
  (f_X10_go S v6 v7 v8 v9 q5.2).bind fun q10 =>
  (gR S 11 a0 8).bind fun v11 =>
  (gI S 10 v11 3 q10.2).bind fun v12 =>
  (if v12 = 0 then
  (gR S 11 a0 0).bind fun v13 =>
  (gR S 11 a0 2).bind fun v14 =>
  (f_X2_become S v13 v14 q10.2).bind fun q15 =>
  (gR S 11 a0 8).bind fun v16 =>
  (gI S 10 v16 0 q15.2).bind fun v17 =>
  some (v17, q15.2)
  else
  some ((-3), q10.2)))
  else none
set_option maxRecDepth 100000 in
set_option maxHeartbeats 4000000 in
theorem c_X11_done {l : Launch} {γ : GE} {S : SH} {a0 : Nat} {μ : Mem} {X : (Int32 × Mem)} (h : f_X11_done S a0 μ = some X) : isO S 11 a0 = true ∧ Ct l γ yX11_done cX11_done 1 (some .int) rm_X11_done [.ref (gb γ + a0)] S μ S X.2 (some (.int X.1)) := by
  unfold f_X11_done at h
  obtain ⟨h0, h⟩ := if_some h
  refine ⟨h0, ?_⟩
  have hJ : ∀ (p : Program) (e : Env) (s : State) (m : MethodId) (args : Array Value) (below : List Frame) (meth : Method) (c : Code), FX γ p s m args meth c cX11_done RX11 1 → meth.sig.returnType = (some .int) → JJ γ p l e rm_X11_done s m args below meth c 1 0 0 (QI below γ S X args s 0 0) S μ 0 [(0, .ref (gb γ + a0))] [] := by
    intro p e s m args below meth c F hr
    refine j_aload_n F 0 dX11_done_0 rfl ?_
    refine j_gR F fl_RX11_48 rfl dX11_done_1 h (fun v1 h => ?_)
    refine j_gI F fl_RX11_260.l rfl dX11_done_4 h (fun v2 h => ?_)
    refine j_ifne F 13 dX11_done_7 (by decide) h (fun _ h => ?_) (fun _ h => ?_)
    · refine j_aload_n F 0 dX11_done_13 rfl ?_
      refine j_gR F fl_RX11_21 rfl dX11_done_14 h (fun v3 h => ?_)
      refine j_aload_n F 0 dX11_done_17 rfl ?_
      refine j_gR F fl_RX11_12 rfl dX11_done_18 h (fun v4 h => ?_)
      refine j_cVV F mi_X2_become w_673 (rest := []) h (fun _ g => c_X2_become g) rfl rfl (Nat.le_of_ble_eq_true rfl) ⟨Nat.le_of_ble_eq_true rfl, Nat.le_of_ble_eq_true rfl⟩ ⟨Nat.le_of_ble_eq_true rfl, Nat.le_of_ble_eq_true rfl⟩ dX11_done_21 (fun q5 h => ?_)
      refine j_aload_n F 0 dX11_done_24 rfl ?_
      refine j_gR F fl_RX11_58 rfl dX11_done_25 h (fun v6 h => ?_)
      refine j_aload_n F 0 dX11_done_28 rfl ?_
      refine j_gR F fl_RX11_48 rfl dX11_done_29 h (fun v7 h => ?_)
      refine j_aload_n F 0 dX11_done_32 rfl ?_
      refine j_gR F fl_RX11_21 rfl dX11_done_33 h (fun v8 h => ?_)
      refine j_aload_n F 0 dX11_done_36 rfl ?_
      refine j_gR F fl_RX11_27 rfl dX11_done_37 h (fun v9 h => ?_)
      refine j_cVV F mi_X10_go w_835 (rest := []) h (fun _ g => c_X10_go g) rfl rfl (Nat.le_of_ble_eq_true rfl) ⟨Nat.le_of_ble_eq_true rfl, Nat.le_of_ble_eq_true rfl⟩ ⟨Nat.le_of_ble_eq_true rfl, Nat.le_of_ble_eq_true rfl⟩ dX11_done_40 (fun q10 h => ?_)
      refine j_aload_n F 0 dX11_done_43 rfl ?_
      refine j_gR F fl_RX11_58 rfl dX11_done_44 h (fun v11 h => ?_)
      refine j_gI F fl_RX11_274.l rfl dX11_done_47 h (fun v12 h => ?_)
      refine j_ifeq F 56 dX11_done_50 (by decide) h (fun _ h => ?_) (fun _ h => ?_)
      · refine j_aload_n F 0 dX11_done_56 rfl ?_
        refine j_gR F fl_RX11_12 rfl dX11_done_57 h (fun v13 h => ?_)
        refine j_aload_n F 0 dX11_done_60 rfl ?_
        refine j_gR F fl_RX11_21 rfl dX11_done_61 h (fun v14 h => ?_)
        refine j_cVV F mi_X2_become w_673 (rest := []) h (fun _ g => c_X2_become g) rfl rfl (Nat.le_of_ble_eq_true rfl) ⟨Nat.le_of_ble_eq_true rfl, Nat.le_of_ble_eq_true rfl⟩ ⟨Nat.le_of_ble_eq_true rfl, Nat.le_of_ble_eq_true rfl⟩ dX11_done_64 (fun q15 h => ?_)
        refine j_aload_n F 0 dX11_done_67 rfl ?_
        refine j_gR F fl_RX11_58 rfl dX11_done_68 h (fun v16 h => ?_)
        refine j_gI F fl_RX11_265.l rfl dX11_done_71 h (fun v17 h => ?_)
        exact j_iret F hr dX11_done_74 h
      · refine j_bipush F (-3) dX11_done_53 (by decide) ?_
        exact j_iret F hr dX11_done_55 h
    · refine j_bipush F (-3) dX11_done_10 (by decide) ?_
      exact j_iret F hr dX11_done_12 h
  exact ct_of (by decide +kernel) (Nat.le_of_ble_eq_true rfl) (fun p e s m args below meth c F hr _ => hJ p e s m args below meth c F hr)
def rm_X11_backward : Room := { frames := 6, cells := 0, slots := 0, locals := 142 }
theorem dX11_backward_0 : decode cX11_backward 0 = .ok (.aload_n 0, 1) := by decide +kernel
theorem dX11_backward_1 : decode cX11_backward 1 = .ok (.getfield 48, 3) := by decide +kernel
theorem dX11_backward_4 : decode cX11_backward 4 = .ok (.getfield 260, 3) := by decide +kernel
theorem dX11_backward_7 : decode cX11_backward 7 = .ok (.ifCond .eq 13, 3) := by decide +kernel
theorem dX11_backward_10 : decode cX11_backward 10 = .ok (.aload_n 0, 1) := by decide +kernel
theorem dX11_backward_11 : decode cX11_backward 11 = .ok (.getfield 48, 3) := by decide +kernel
theorem dX11_backward_14 : decode cX11_backward 14 = .ok (.invokevirtual 280, 3) := by decide +kernel
theorem dX11_backward_17 : decode cX11_backward 17 = .ok (.ifCond .ne 6, 3) := by decide +kernel
theorem dX11_backward_20 : decode cX11_backward 20 = .ok (.bipush (-3), 2) := by decide +kernel
theorem dX11_backward_22 : decode cX11_backward 22 = .ok (.ireturn, 1) := by decide +kernel
theorem dX11_backward_23 : decode cX11_backward 23 = .ok (.aload_n 0, 1) := by decide +kernel
theorem dX11_backward_24 : decode cX11_backward 24 = .ok (.getfield 21, 3) := by decide +kernel
theorem dX11_backward_27 : decode cX11_backward 27 = .ok (.aload_n 0, 1) := by decide +kernel
theorem dX11_backward_28 : decode cX11_backward 28 = .ok (.getfield 12, 3) := by decide +kernel
theorem dX11_backward_31 : decode cX11_backward 31 = .ok (.invokevirtual 234, 3) := by decide +kernel
theorem dX11_backward_34 : decode cX11_backward 34 = .ok (.aload_n 0, 1) := by decide +kernel
theorem dX11_backward_35 : decode cX11_backward 35 = .ok (.getfield 52, 3) := by decide +kernel
theorem dX11_backward_38 : decode cX11_backward 38 = .ok (.aload_n 0, 1) := by decide +kernel
theorem dX11_backward_39 : decode cX11_backward 39 = .ok (.getfield 48, 3) := by decide +kernel
theorem dX11_backward_42 : decode cX11_backward 42 = .ok (.aload_n 0, 1) := by decide +kernel
theorem dX11_backward_43 : decode cX11_backward 43 = .ok (.getfield 21, 3) := by decide +kernel
theorem dX11_backward_46 : decode cX11_backward 46 = .ok (.invokevirtual 284, 3) := by decide +kernel
theorem dX11_backward_49 : decode cX11_backward 49 = .ok (.aload_n 0, 1) := by decide +kernel
theorem dX11_backward_50 : decode cX11_backward 50 = .ok (.getfield 58, 3) := by decide +kernel
theorem dX11_backward_53 : decode cX11_backward 53 = .ok (.aload_n 0, 1) := by decide +kernel
theorem dX11_backward_54 : decode cX11_backward 54 = .ok (.getfield 52, 3) := by decide +kernel
theorem dX11_backward_57 : decode cX11_backward 57 = .ok (.aload_n 0, 1) := by decide +kernel
theorem dX11_backward_58 : decode cX11_backward 58 = .ok (.getfield 21, 3) := by decide +kernel
theorem dX11_backward_61 : decode cX11_backward 61 = .ok (.aload_n 0, 1) := by decide +kernel
theorem dX11_backward_62 : decode cX11_backward 62 = .ok (.getfield 27, 3) := by decide +kernel
theorem dX11_backward_65 : decode cX11_backward 65 = .ok (.invokevirtual 261, 3) := by decide +kernel
theorem dX11_backward_68 : decode cX11_backward 68 = .ok (.aload_n 0, 1) := by decide +kernel
theorem dX11_backward_69 : decode cX11_backward 69 = .ok (.getfield 58, 3) := by decide +kernel
theorem dX11_backward_72 : decode cX11_backward 72 = .ok (.getfield 274, 3) := by decide +kernel
theorem dX11_backward_75 : decode cX11_backward 75 = .ok (.ifCond .ne 7, 3) := by decide +kernel
theorem dX11_backward_78 : decode cX11_backward 78 = .ok (.iconst 1, 1) := by decide +kernel
theorem dX11_backward_79 : decode cX11_backward 79 = .ok (.goto 4, 3) := by decide +kernel
theorem dX11_backward_82 : decode cX11_backward 82 = .ok (.iconst 0, 1) := by decide +kernel
theorem dX11_backward_83 : decode cX11_backward 83 = .ok (.ireturn, 1) := by decide +kernel
def f_X11_backward (S : SH) (a0 : Nat) (μ : Mem) : Option (Int32 × Mem) :=
  if isO S 11 a0 = true then
  (gR S 11 a0 6).bind fun v1 =>
  (gI S 6 v1 2 μ).bind fun v2 =>
  (if v2 = 0 then
  some ((-3), μ)
  else
  (gR S 11 a0 6).bind fun v3 =>
  (f_X6_onlyMoves S v3 μ).bind fun q4 =>
  (if q4.1 = 0 then
  some ((-3), q4.2)
  else
  (gR S 11 a0 2).bind fun v5 =>
  (gR S 11 a0 0).bind fun v6 =>
  (f_X2_become S v5 v6 q4.2).bind fun q7 =>
  (gR S 11 a0 7).bind fun v8 =>
  (gR S 11 a0 6).bind fun v9 =>
  (gR S 11 a0 2).bind fun v10 =>
  (f_X6_turnBack S v8 v9 v10 q7.2).bind fun q11 =>
  (gR S 11 a0 8).bind fun v12 =>
  (gR S 11 a0 7).bind fun v13 =>
  (gR S 11 a0 2).bind fun v14 =>
  (gR S 11 a0 3).bind fun v15 =>
  (f_X10_go S v12 v13 v14 v15 q11.2).bind fun q16 =>
  (gR S 11 a0 8).bind fun v17 =>
  (gI S 10 v17 3 q16.2).bind fun v18 =>
  (if v18 = 0 then
  some (1, q16.2)
  else
  some (0, q16.2))))
  else none
set_option maxRecDepth 100000 in
set_option maxHeartbeats 4000000 in
theorem c_X11_backward {l : Launch} {γ : GE} {S : SH} {a0 : Nat} {μ : Mem} {X : (Int32 × Mem)} (h : f_X11_backward S a0 μ = some X) : isO S 11 a0 = true ∧ Ct l γ yX11_backward cX11_backward 1 (some .int) rm_X11_backward [.ref (gb γ + a0)] S μ S X.2 (some (.int X.1)) := by
  unfold f_X11_backward at h
  obtain ⟨h0, h⟩ := if_some h
  refine ⟨h0, ?_⟩
  have hJ : ∀ (p : Program) (e : Env) (s : State) (m : MethodId) (args : Array Value) (below : List Frame) (meth : Method) (c : Code), FX γ p s m args meth c cX11_backward RX11 1 → meth.sig.returnType = (some .int) → JJ γ p l e rm_X11_backward s m args below meth c 1 0 0 (QI below γ S X args s 0 0) S μ 0 [(0, .ref (gb γ + a0))] [] := by
    intro p e s m args below meth c F hr
    refine j_aload_n F 0 dX11_backward_0 rfl ?_
    refine j_gR F fl_RX11_48 rfl dX11_backward_1 h (fun v1 h => ?_)
    refine j_gI F fl_RX11_260.l rfl dX11_backward_4 h (fun v2 h => ?_)
    refine j_ifeq F 20 dX11_backward_7 (by decide) h (fun _ h => ?_) (fun _ h => ?_)
    · refine j_bipush F (-3) dX11_backward_20 (by decide) ?_
      exact j_iret F hr dX11_backward_22 h
    · refine j_aload_n F 0 dX11_backward_10 rfl ?_
      refine j_gR F fl_RX11_48 rfl dX11_backward_11 h (fun v3 h => ?_)
      refine j_cVI F mi_X6_onlyMoves w_870 (rest := []) h (fun _ g => c_X6_onlyMoves g) rfl rfl (Nat.le_of_ble_eq_true rfl) ⟨Nat.le_of_ble_eq_true rfl, Nat.le_of_ble_eq_true rfl⟩ ⟨Nat.le_of_ble_eq_true rfl, Nat.le_of_ble_eq_true rfl⟩ dX11_backward_14 (fun q4 h => ?_)
      refine j_ifne F 23 dX11_backward_17 (by decide) h (fun _ h => ?_) (fun _ h => ?_)
      · refine j_aload_n F 0 dX11_backward_23 rfl ?_
        refine j_gR F fl_RX11_21 rfl dX11_backward_24 h (fun v5 h => ?_)
        refine j_aload_n F 0 dX11_backward_27 rfl ?_
        refine j_gR F fl_RX11_12 rfl dX11_backward_28 h (fun v6 h => ?_)
        refine j_cVV F mi_X2_become w_673 (rest := []) h (fun _ g => c_X2_become g) rfl rfl (Nat.le_of_ble_eq_true rfl) ⟨Nat.le_of_ble_eq_true rfl, Nat.le_of_ble_eq_true rfl⟩ ⟨Nat.le_of_ble_eq_true rfl, Nat.le_of_ble_eq_true rfl⟩ dX11_backward_31 (fun q7 h => ?_)
        refine j_aload_n F 0 dX11_backward_34 rfl ?_
        refine j_gR F fl_RX11_52 rfl dX11_backward_35 h (fun v8 h => ?_)
        refine j_aload_n F 0 dX11_backward_38 rfl ?_
        refine j_gR F fl_RX11_48 rfl dX11_backward_39 h (fun v9 h => ?_)
        refine j_aload_n F 0 dX11_backward_42 rfl ?_
        refine j_gR F fl_RX11_21 rfl dX11_backward_43 h (fun v10 h => ?_)
        refine j_cVV F mi_X6_turnBack w_875 (rest := []) h (fun _ g => c_X6_turnBack g) rfl rfl (Nat.le_of_ble_eq_true rfl) ⟨Nat.le_of_ble_eq_true rfl, Nat.le_of_ble_eq_true rfl⟩ ⟨Nat.le_of_ble_eq_true rfl, Nat.le_of_ble_eq_true rfl⟩ dX11_backward_46 (fun q11 h => ?_)
        refine j_aload_n F 0 dX11_backward_49 rfl ?_
        refine j_gR F fl_RX11_58 rfl dX11_backward_50 h (fun v12 h => ?_)
        refine j_aload_n F 0 dX11_backward_53 rfl ?_
        refine j_gR F fl_RX11_52 rfl dX11_backward_54 h (fun v13 h => ?_)
        refine j_aload_n F 0 dX11_backward_57 rfl ?_
        refine j_gR F fl_RX11_21 rfl dX11_backward_58 h (fun v14 h => ?_)
        refine j_aload_n F 0 dX11_backward_61 rfl ?_
        refine j_gR F fl_RX11_27 rfl dX11_backward_62 h (fun v15 h => ?_)
        refine j_cVV F mi_X10_go w_835 (rest := []) h (fun _ g => c_X10_go g) rfl rfl (Nat.le_of_ble_eq_true rfl) ⟨Nat.le_of_ble_eq_true rfl, Nat.le_of_ble_eq_true rfl⟩ ⟨Nat.le_of_ble_eq_true rfl, Nat.le_of_ble_eq_true rfl⟩ dX11_backward_65 (fun q16 h => ?_)
        refine j_aload_n F 0 dX11_backward_68 rfl ?_
        refine j_gR F fl_RX11_58 rfl dX11_backward_69 h (fun v17 h => ?_)
        refine j_gI F fl_RX11_274.l rfl dX11_backward_72 h (fun v18 h => ?_)
        refine j_ifne F 82 dX11_backward_75 (by decide) h (fun _ h => ?_) (fun _ h => ?_)
        · refine j_iconst F 0 dX11_backward_82 (by decide) ?_
          exact j_iret F hr dX11_backward_83 h
        · refine j_iconst F 1 dX11_backward_78 (by decide) ?_
          refine j_goto F 83 dX11_backward_79 (by decide) ?_
          exact j_iret F hr dX11_backward_83 h
      · refine j_bipush F (-3) dX11_backward_20 (by decide) ?_
        exact j_iret F hr dX11_backward_22 h
  exact ct_of (by decide +kernel) (Nat.le_of_ble_eq_true rfl) (fun p e s m args below meth c F hr _ => hJ p e s m args below meth c F hr)
def rm_X11_isList : Room := { frames := 1, cells := 0, slots := 0, locals := 22 }
theorem dX11_isList_0 : decode cX11_isList 0 = .ok (.iload_n 0, 1) := by decide +kernel
theorem dX11_isList_1 : decode cX11_isList 1 = .ok (.iconst 0, 1) := by decide +kernel
theorem dX11_isList_2 : decode cX11_isList 2 = .ok (.iconst 3, 1) := by decide +kernel
theorem dX11_isList_3 : decode cX11_isList 3 = .ok (.invokestatic 84, 3) := by decide +kernel
theorem dX11_isList_6 : decode cX11_isList 6 = .ok (.ireturn, 1) := by decide +kernel
def f_X11_isList (S : SH) (a0 : Int32) (μ : Mem) : Option (Int32 × Mem) :=
  (f_X11_within S a0 0 3 μ).bind fun q1 =>
  (oz q1.1).bind fun z2 => some (z2, q1.2)
set_option maxRecDepth 100000 in
set_option maxHeartbeats 4000000 in
theorem c_X11_isList {l : Launch} {γ : GE} {S : SH} {a0 : Int32} {μ : Mem} {X : (Int32 × Mem)} (h : f_X11_isList S a0 μ = some X) : Ct l γ yX11_isList cX11_isList 1 (some .boolean) rm_X11_isList [.int a0] S μ S X.2 (some (.int X.1)) := by
  unfold f_X11_isList at h
  have hJ : ∀ (p : Program) (e : Env) (s : State) (m : MethodId) (args : Array Value) (below : List Frame) (meth : Method) (c : Code), FX γ p s m args meth c cX11_isList RX11 1 → meth.sig.returnType = (some .boolean) → JJ γ p l e rm_X11_isList s m args below meth c 1 0 0 (QI below γ S X args s 0 0) S μ 0 [(0, .int a0)] [] := by
    intro p e s m args below meth c F hr
    refine j_iload_n F 0 dX11_isList_0 rfl ?_
    refine j_iconst F 0 dX11_isList_1 (by decide) ?_
    refine j_iconst F 3 dX11_isList_2 (by decide) ?_
    refine j_cSI F mi_X11_within w_464 (rest := []) h (fun _ g => c_X11_within g) rfl rfl (Nat.le_of_ble_eq_true rfl) ⟨Nat.le_of_ble_eq_true rfl, Nat.le_of_ble_eq_true rfl⟩ ⟨Nat.le_of_ble_eq_true rfl, Nat.le_of_ble_eq_true rfl⟩ dX11_isList_3 (fun q1 h => ?_)
    exact j_zretG F hr dX11_isList_6 h
  exact ct_of (by decide +kernel) (Nat.le_of_ble_eq_true rfl) (fun p e s m args below meth c F hr _ => hJ p e s m args below meth c F hr)
